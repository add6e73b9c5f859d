/-! the first of the choices that serve most -/
theorem g_m_cgu {E E' : Nat → Nat → Bool} {w : Nat → Nat} {nb : Nat} : ∀ {k u : Nat}, k ≤ nb → (∀ s b, s < 8 → u.testBit s = false → nb - k ≤ b → b < nb → E s b = E' s b) → g_m E w nb k u = g_m E' w nb k u
  | 0, _, _, _ => rfl
  | k + 1, u, hk, h => by
    unfold g_m
    have : ∀ n, n ≤ 8 → g_step E w (nb - (k + 1)) u (g_m E w nb k) n = g_step E' w (nb - (k + 1)) u (g_m E' w nb k) n := by
      intro n
      induction n with
      | zero => intro _; exact g_m_cgu (by omega) (fun s b hs hu h1 h2 => h s b hs hu (by omega) h2)
      | succ n ih =>
        intro hn
        unfold g_step
        rw [ih (by omega)]
        cases e : u.testBit n with
        | true => simp
        | false =>
          rw [h n _ (by omega) e (Nat.le_refl _) (by omega), g_m_cgu (u := u ||| 2 ^ n) (k := k) (by omega) (fun s b hs hu h1 h2 => h s b hs (by
            rw [g_or_tb] at hu
            simp only [Bool.or_eq_false_iff] at hu
            exact hu.1) (by omega) h2)]
    exact this 8 (Nat.le_refl _)
theorem g_m_top {E : Nat → Nat → Bool} {w : Nat → Nat} {nb k u : Nat} (hn : nb ≤ 7) (hk : k ≤ nb) (hE : ∀ s b, nb ≤ b → E s b = false) : g_m E w nb k u = g_top (fun s c => E s c && decide (nb - k ≤ c) && !u.testBit s) w := by
  rw [g_m_cgu (E' := fun s c => E s c && decide (nb - k ≤ c) && !u.testBit s) hk (fun s b hs hu h1 h2 => by simp [hu, h1])]
  refine g_is_u (g_isM hn hk (fun s b h => ?_) (fun s b hs hu => by simp [hu])) g_isT
  rcases h with h | h
  · rw [decide_eq_false (by omega)]; simp
  · rw [hE s b h]; rfl
def k_lz (p : Nat → Bool) (lo hi r : Nat) : Prop := (r = 9 ∧ ∀ s, lo ≤ s → s < hi → p s = false) ∨ (lo ≤ r ∧ r < hi ∧ p r = true ∧ ∀ s, lo ≤ s → s < r → p s = false)
def g_lst (p : Nat → Bool) : Nat → Nat
  | 0 => 9
  | n + 1 => if g_lst p n = 9 then (if p n then n else 9) else g_lst p n
theorem g_lstS (p : Nat → Bool) : ∀ n, n ≤ 8 → k_lz p 0 n (g_lst p n)
  | 0, _ => Or.inl ⟨rfl, fun s _ h => absurd h (Nat.not_lt_zero _)⟩
  | n + 1, hn => by
    unfold g_lst
    rcases g_lstS p n (by omega) with ⟨e, h⟩ | ⟨-, h2, h3, h4⟩
    · rw [if_pos e]
      cases ep : p n with
      | true => rw [if_pos rfl]; exact Or.inr ⟨Nat.zero_le _, by omega, ep, fun s h1 h2 => h s h1 h2⟩
      | false =>
        rw [if_neg (by decide)]
        refine Or.inl ⟨rfl, fun s h1 h2 => ?_⟩
        by_cases es : s = n
        · rw [es, ep]
        · exact h s h1 (by omega)
    · rw [if_neg (by omega)]
      exact Or.inr ⟨Nat.zero_le _, by omega, h3, h4⟩
theorem k_lzU {p : Nat → Bool} {hi hi' r r' : Nat} (h8 : hi ≤ 8) (h8' : hi' ≤ 8) (hh : ∀ s, s < 8 → (hi ≤ s ∨ hi' ≤ s) → p s = false) (h : k_lz p 0 hi r) (h' : k_lz p 0 hi' r') : r = r' := by
  rcases h with ⟨e, h⟩ | ⟨-, h2, h3, h4⟩ <;> rcases h' with ⟨e', h'⟩ | ⟨-, h2', h3', h4'⟩
  · omega
  · by_cases q : r' < hi
    · rw [h r' (Nat.zero_le _) q] at h3'; cases h3'
    · rw [hh r' (by omega) (Or.inl (by omega))] at h3'; cases h3'
  · by_cases q : r < hi'
    · rw [h' r (Nat.zero_le _) q] at h3; cases h3
    · rw [hh r (by omega) (Or.inr (by omega))] at h3; cases h3
  · by_cases q : r = r'
    · exact q
    · rcases Nat.lt_or_gt_of_ne q with q | q
      · rw [h4' r (Nat.zero_le _) q] at h3; cases h3
      · rw [h4 r' (Nat.zero_le _) q] at h3'; cases h3'
def g_fp (E : Nat → Nat → Bool) (nb b u s : Nat) : Bool := E s b && !u.testBit s && (1 + g_m E (fun _ => 1) nb (nb - (b + 1)) (u ||| 2 ^ s) == g_m E (fun _ => 1) nb (nb - b) u)
def g_fs (E : Nat → Nat → Bool) (nb b u : Nat) : Nat := g_lst (g_fp E nb b u) 8
def g_fu (E : Nat → Nat → Bool) (nb : Nat) : Nat → Nat
  | 0 => 0
  | b + 1 => if g_fs E nb b (g_fu E nb b) = 9 then g_fu E nb b else g_fu E nb b ||| 2 ^ g_fs E nb b (g_fu E nb b)
theorem g_fsS (E : Nat → Nat → Bool) (nb b u : Nat) : k_lz (g_fp E nb b u) 0 8 (g_fs E nb b u) := g_lstS _ 8 (Nat.le_refl _)
theorem g_fsB (E : Nat → Nat → Bool) (nb b u : Nat) : g_fs E nb b u ≤ 9 := by
  rcases g_fsS E nb b u with ⟨e, -⟩ | ⟨-, e, -⟩ <;> omega
theorem g_fs9 {E : Nat → Nat → Bool} {nb b u : Nat} (h : g_fs E nb b u = 9) : g_m E (fun _ => 1) nb (nb - b) u = g_m E (fun _ => 1) nb (nb - (b + 1)) u := by
  rcases Nat.lt_or_ge b nb with q | q
  · rcases g_fsS E nb b u with ⟨-, e⟩ | ⟨-, e, -⟩
    · obtain ⟨k, hk⟩ : ∃ k, nb - b = k + 1 := ⟨nb - b - 1, by omega⟩
      have k' : nb - (b + 1) = k := by omega
      have eq : g_m E (fun _ => 1) nb (nb - b) u = g_step E (fun _ => 1) b u (g_m E (fun _ => 1) nb k) 8 := by
        rw [hk]
        show g_step E (fun _ => 1) (nb - (k + 1)) u (g_m E (fun _ => 1) nb k) 8 = _
        rw [show nb - (k + 1) = b by omega]
      rcases g_step_or E (fun _ => 1) b u (g_m E (fun _ => 1) nb k) 8 with q1 | ⟨s, h1, h2, h3, h4⟩
      · rw [eq, q1, k']
      · have := e s (Nat.zero_le _) h1
        unfold g_fp at this
        rw [h2, h3, k', eq, h4] at this
        simp at this
    · omega
  · rw [show nb - b = 0 by omega, show nb - (b + 1) = 0 by omega]
theorem g_fs8 {E : Nat → Nat → Bool} {nb b u : Nat} (h : g_fs E nb b u ≠ 9) : g_fs E nb b u < 8 ∧ E (g_fs E nb b u) b = true ∧ u.testBit (g_fs E nb b u) = false ∧ 1 + g_m E (fun _ => 1) nb (nb - (b + 1)) (u ||| 2 ^ g_fs E nb b u) = g_m E (fun _ => 1) nb (nb - b) u := by
  rcases g_fsS E nb b u with ⟨e, -⟩ | ⟨-, e, h3, -⟩
  · exact absurd e h
  · unfold g_fp at h3
    simp only [Bool.and_eq_true, Bool.not_eq_true', beq_iff_eq] at h3
    exact ⟨e, h3.1.1, h3.1.2, h3.2⟩
theorem g_fuB {E : Nat → Nat → Bool} {nb ns : Nat} (hE : ∀ s b, E s b = true → s < ns) : ∀ b, g_fu E nb b < 2 ^ ns
  | 0 => Nat.two_pow_pos _
  | b + 1 => by
    unfold g_fu
    split
    · exact g_fuB hE b
    · next h => exact g_or_lt (g_fuB hE b) (hE _ _ (g_fs8 h).2.1)
/-! the class's first choice -/
theorem k_subE {x w : Nat} (hx : x < 2147483647) (hw : w < 2147483648) : (nI x = nI w - 1) = (1 + x = w) := by
  apply propext
  constructor
  · intro h
    have : nI (1 + x) = nI w := by
      rw [Nat.add_comm, ← nI_1, h]
      exact Int32.sub_add_cancel _ _
    exact (nI_eq (by omega) hw).mp this
  · intro h
    subst h
    rw [Nat.add_comm, nI_pred]
theorem g_topB {E : Nat → Nat → Bool} {w : Nat → Nat} {T : Nat} (hw : ∀ s b, E s b = true → w s ≤ T) : g_top E w ≤ T * 7 := g_mB hw 7 0
theorem c_leastKeeping {σ : q_St} {h : q_Hp} {F B Q R Fr nb b u : Nat} {tk : Nat → Nat} (T : k_ft σ F) (hQ : Q < 256) (hn : nb ≤ 7) (hBn : ∀ c, B.testBit c = true → c < nb) (htk : ∀ s, s < 8 → q_int h (F + 3) s = nI (tk s) ∧ tk s < 128) (hb : b < nb) (hBb : B.testBit b = true)
    (hR : R < 128 ∧ ∀ c, R.testBit c = (B.testBit c && decide (b + 1 ≤ c))) (hF : Fr < 256 ∧ ∀ s, Fr.testBit s = (Q.testBit s && !u.testBit s)) :
    k_ok (fX0_leastKeeping σ h F (nI b) (nI R) (nI Fr) (nI (g_m (k_E tk B Q) (fun _ => 1) nb (nb - b) u))) (fun r => r.1 = nI (g_fs (k_E tk B Q) nb b u) ∧ k_ag (k_fz F) h r.2) := by
  have gB : ∀ k v, k ≤ nb → g_m (k_E tk B Q) (fun _ => 1) nb k v ≤ 7 := fun k v hk => Nat.le_trans (g_mB (T := 1) (fun _ _ _ => Nat.le_refl _) k v) (by omega)
  unfold fX0_leastKeeping
  rw [fr2 T, q_gu_t (ft3 T)]
  refine k_bind (k_for (n := 8) (P := k_z (fun h' => (∀ s, s < 8 → g_fp (k_E tk B Q) nb b u s = false) ∧ k_ag (k_fz F) h h') (fun o => (∃ s, o.1 = nI s ∧ s < 8 ∧ g_fp (k_E tk B Q) nb b u s = true ∧ ∀ t, t < s → g_fp (k_E tk B Q) nb b u t = false) ∧ k_ag (k_fz F) h o.2)) (fun i t => t.1 = nI i ∧ (∀ s, s < i → g_fp (k_E tk B Q) nb b u s = false) ∧ k_ag (k_fz F) h t.2) (by rw [k_N]; omega) ⟨rfl, fun s hs => absurd hs (Nat.not_lt_zero _), k_ag_rf⟩ ?_) (fun o p => ?_)
  · rintro i ⟨x5, h'⟩ hi ⟨e, hz, ag⟩
    dsimp only at e hz ag
    subst e
    show k_ok (fX0_leastKeeping_3 σ F (nI b) (nI R) (nI Fr) (nI (g_m (k_E tk B Q) (fun _ => 1) nb (nb - b) u)) (nI i) h') _
    unfold fX0_leastKeeping_3
    rw [fr2 T, fl3 T, k_ofN]
    rcases Nat.lt_or_ge i 8 with q | q
    · have htk' : ∀ s, s < 8 → q_int h' (F + 3) s = nI (tk s) ∧ tk s < 128 := fun s hs => by
        rw [k_agI ag (show k_fz F (F + 3) from ⟨by omega, by omega, by omega, by omega⟩)]; exact htk s hs
      have skip : ∀ h2, k_ag (k_fz F) h h2 → g_fp (k_E tk B Q) nb b u i = false → k_ok (fX0_leastKeeping_73 σ h2 F (nI b) (nI R) (nI Fr) (nI (g_m (k_E tk B Q) (fun _ => 1) nb (nb - b) u)) (nI i)) (k_z (fun s' => i < 8 ∧ s'.1 = nI (i + 1) ∧ (∀ s, s < i + 1 → g_fp (k_E tk B Q) nb b u s = false) ∧ k_ag (k_fz F) h s'.2) (k_z (fun h' => (∀ s, s < 8 → g_fp (k_E tk B Q) nb b u s = false) ∧ k_ag (k_fz F) h h') (fun o => (∃ s, o.1 = nI s ∧ s < 8 ∧ g_fp (k_E tk B Q) nb b u s = true ∧ ∀ t, t < s → g_fp (k_E tk B Q) nb b u t = false) ∧ k_ag (k_fz F) h o.2))) := fun h2 g2 e => by
        unfold fX0_leastKeeping_73
        rw [nI_1]
        refine k_some ⟨q, rfl, fun s hs => ?_, g2⟩
        by_cases es : s = i
        · rw [es, e]
        · exact hz s (by omega)
      rw [if_neg (nI_ge q (by decide)), c_hasBit (by omega) (by omega), k_bs1, k_01i, hF.2]
      cases eQ : (Q.testBit i && !u.testBit i) with
      | false =>
        rw [if_neg (by decide)]
        unfold fX0_leastKeeping_42 fX0_leastKeeping_43
        rw [if_pos rfl]
        refine skip h' ag ?_
        unfold g_fp k_E
        cases e1 : Q.testBit i
        · simp
        · rw [e1] at eQ; simp at eQ; simp [eQ]
      | true =>
        simp only [Bool.and_eq_true, Bool.not_eq_true'] at eQ
        have htb : tk i < 2147483648 := by have := (htk i q).2; omega
        rw [if_pos rfl, c_at (fl3 T) q (by decide), k_bs1, (htk' i q).1, c_hasBit htb (by omega), k_bs1, k_01i]
        cases et : (tk i).testBit b with
        | false =>
          rw [if_neg (by decide)]
          unfold fX0_leastKeeping_42 fX0_leastKeeping_43
          rw [if_pos rfl]
          refine skip h' ag ?_
          unfold g_fp k_E
          rw [et]; simp
        | true =>
          rw [if_pos rfl]
          unfold fX0_leastKeeping_43
          rw [if_neg (by decide), k_del (by omega)]
          have eE : k_E tk B Q i b = true := by unfold k_E; rw [eQ.1, hBb, et]; rfl
          have eT : g_top (k_E tk R (k_dl Fr i)) (fun _ => 1) = g_m (k_E tk B Q) (fun _ => 1) nb (nb - (b + 1)) (u ||| 2 ^ i) := by
            rw [g_m_top hn (by omega) (fun s c hc => by
              unfold k_E
              cases eB : B.testBit c with
              | false => simp
              | true => have := hBn c eB; omega)]
            refine g_top_cg (fun s c hs hc => ?_)
            unfold k_E
            rw [k_dlT (by omega), hR.2, hF.2, show nb - (nb - (b + 1)) = b + 1 by omega, g_or_tb]
            by_cases es : s = i
            · subst es; simp
            · rw [show (s == i) = false by simpa using es, show decide (i = s) = false by simpa using fun q => es q.symm]
              cases Q.testBit s <;> cases u.testBit s <;> cases B.testBit c <;> cases (tk s).testBit c <;> cases decide (b + 1 ≤ c) <;> rfl
          refine k_b2 (c_most T hR.1 (k_dlB hF.1) htk') (fun r h2 p => ?_)
          obtain ⟨e1, g2⟩ := p
          dsimp only at e1 g2
          rw [e1, eT]
          have b1 := gB (nb - (b + 1)) (u ||| 2 ^ i) (by omega)
          have b2 := gB (nb - b) u (by omega)
          simp only [k_subE (show g_m (k_E tk B Q) (fun _ => 1) nb (nb - (b + 1)) (u ||| 2 ^ i) < 2147483647 by omega) (show g_m (k_E tk B Q) (fun _ => 1) nb (nb - b) u < 2147483648 by omega)]
          by_cases hit : 1 + g_m (k_E tk B Q) (fun _ => 1) nb (nb - (b + 1)) (u ||| 2 ^ i) = g_m (k_E tk B Q) (fun _ => 1) nb (nb - b) u
          · rw [if_pos hit]
            exact k_some ⟨⟨i, rfl, q, by unfold g_fp; rw [eE, eQ.2, hit]; simp, hz⟩, k_ag_tr ag g2⟩
          · rw [if_neg hit]
            refine skip h2 (k_ag_tr ag g2) ?_
            unfold g_fp
            rw [show (1 + g_m (k_E tk B Q) (fun _ => 1) nb (nb - (b + 1)) (u ||| 2 ^ i) == g_m (k_E tk B Q) (fun _ => 1) nb (nb - b) u) = false by simpa using hit, Bool.and_false]
    · have : i = 8 := by omega
      subst this
      rw [if_pos (nI_le (Nat.le_refl _) (by decide))]
      exact k_some ⟨hz, ag⟩
  · cases o with
    | inl h' =>
      obtain ⟨hz, ag⟩ := p
      rw [k_elL]
      refine k_some ⟨?_, ag⟩
      rw [k_lzU (Nat.le_refl 8) (Nat.le_refl 8) (fun s h1 h2 => by omega) (g_fsS (k_E tk B Q) nb b u) (Or.inl ⟨rfl, fun s _ hs => hz s hs⟩)]; rfl
    | inr o =>
      obtain ⟨⟨s, e, hs, hp, hz⟩, ag⟩ := p
      rw [k_elR]
      refine k_some ⟨?_, ag⟩
      rw [k_lzU (Nat.le_refl 8) (Nat.le_refl 8) (fun s h1 h2 => by omega) (g_fsS (k_E tk B Q) nb b u) (Or.inr ⟨Nat.zero_le _, hs, hp, fun t _ ht => hz t ht⟩)]
      exact e
theorem c_chooseFirst {σ : q_St} {h : q_Hp} {F B Q nb : Nat} {tk : Nat → Nat} (T : k_ft σ F) (hB : B < 128) (hQ : Q < 256) (hn : nb ≤ 7) (hBn : ∀ c, B.testBit c = true → c < nb) (htk : ∀ s, s < 8 → q_int h (F + 3) s = nI (tk s) ∧ tk s < 128) (e9 : q_int h F 9 = nI B) (e10 : q_int h F 10 = nI Q) :
    k_ok (fX0_chooseFirst σ h F) (fun r => (∃ Fr, r.1 = nI Fr ∧ Fr < 256 ∧ ∀ s, Fr.testBit s = (Q.testBit s && !(g_fu (k_E tk B Q) nb 7).testBit s)) ∧ (∀ b, b < 7 → q_int r.2 (F + 9) b = nI (g_fs (k_E tk B Q) nb b (g_fu (k_E tk B Q) nb b))) ∧ k_ag (k_oF F) h r.2) := by
  have eN : ∀ s c, nb ≤ c → k_E tk B Q s c = false := fun s c hc => by
    unfold k_E
    cases eB : B.testBit c with
    | false => simp
    | true => have := hBn c eB; omega
  have zo : k_ag (k_oF F) h h := k_ag_rf
  have fzo : ∀ {h1 h2 : q_Hp}, k_ag (k_fz F) h1 h2 → k_ag (k_oF F) h1 h2 := fun g => k_ag_mono g (fun a ha => ⟨fun e => ha (by subst e; exact ⟨by omega, by omega⟩), fun e => ha (by subst e; exact ⟨by omega, by omega⟩), fun e => ha (by subst e; exact ⟨by omega, by omega⟩), fun e => ha (by subst e; exact ⟨by omega, by omega⟩)⟩)
  unfold fX0_chooseFirst
  rw [fr8 T, q_gu_t (ft9 T), e9, e10]
  refine k_b2 (c_most T hB hQ htk) (fun r h1 p => ?_)
  obtain ⟨e1, g1⟩ := p
  dsimp only at e1 g1
  subst e1
  have f0 : k_fz F F := ⟨by omega, by omega, by omega, by omega⟩
  have f3 : k_fz F (F + 3) := ⟨by omega, by omega, by omega, by omega⟩
  rw [k_agI g1 f0, k_agI g1 f0, e9, e10]
  refine k_bind (k_for (n := 7) (P := fun r => (∃ Fr, r.1 = nI Fr ∧ Fr < 256 ∧ ∀ s, Fr.testBit s = (Q.testBit s && !(g_fu (k_E tk B Q) nb 7).testBit s)) ∧ (∀ b, b < 7 → q_int r.2 (F + 9) b = nI (g_fs (k_E tk B Q) nb b (g_fu (k_E tk B Q) nb b))) ∧ k_ag (k_oF F) h r.2) (fun b t => t.2.2.2.1 = nI b ∧ t.1 = nI (g_m (k_E tk B Q) (fun _ => 1) nb (nb - b) (g_fu (k_E tk B Q) nb b)) ∧ (∃ Fr, t.2.1 = nI Fr ∧ Fr < 256 ∧ ∀ s, Fr.testBit s = (Q.testBit s && !(g_fu (k_E tk B Q) nb b).testBit s)) ∧ (∃ R, t.2.2.1 = nI R ∧ R < 128 ∧ ∀ c, R.testBit c = (B.testBit c && decide (b ≤ c))) ∧ (∀ c, c < b → q_int t.2.2.2.2 (F + 9) c = nI (g_fs (k_E tk B Q) nb c (g_fu (k_E tk B Q) nb c))) ∧ (∀ i, q_int t.2.2.2.2 F i = q_int h F i ∧ q_int t.2.2.2.2 (F + 3) i = q_int h (F + 3) i) ∧ k_ag (k_oF F) h t.2.2.2.2) (by rw [k_N]; omega) ⟨rfl, ?_, ⟨Q, rfl, hQ, fun s => by rw [show g_fu (k_E tk B Q) nb 0 = 0 from rfl, Nat.zero_testBit]; simp⟩, ⟨B, rfl, hB, fun c => by simp⟩, fun c hc => absurd hc (Nat.not_lt_zero _), fun i => ⟨k_agI g1 f0 i, k_agI g1 f3 i⟩, fzo g1⟩ ?_) (fun o p => by
    obtain ⟨o1, o2⟩ := o
    exact k_some p)
  · show nI _ = nI _
    congr 1
    rw [Nat.sub_zero, show g_fu (k_E tk B Q) nb 0 = 0 from rfl, g_m_top hn (Nat.le_refl _) eN]
    exact g_top_cg (fun s c hs hc => by simp)
  · rintro b ⟨x1, x2, x3, x4, h'⟩ hb ⟨e4, e1, ⟨Fr, e2, hF, hFt⟩, ⟨R, e3, hR, hRt⟩, hc, fF, ag⟩
    dsimp only at e4 e1 e2 e3 hc fF ag
    subst e4; subst e1; subst e2; subst e3
    show k_ok (fX0_chooseFirst_26 σ F (nI (g_m (k_E tk B Q) (fun _ => 1) nb (nb - b) (g_fu (k_E tk B Q) nb b))) (nI Fr) (nI R) (nI b) h') _
    unfold fX0_chooseFirst_26
    rw [fr8 T, fl9 T, k_ofN]
    rcases Nat.lt_or_ge b 7 with q | q
    · rw [if_neg (nI_ge q (by decide)), (fF 9).1, e9, c_hasBit (by omega) (by omega), k_bs1, k_01i, k_del (by omega)]
      have hR2 : k_dl R b < 128 ∧ ∀ c, (k_dl R b).testBit c = (B.testBit c && decide (b + 1 ≤ c)) := ⟨k_dlB hR, fun c => by
        rw [k_dlT (by omega), hRt]
        by_cases e : c = b
        · subst e; simp
        · have : (b ≤ c) ↔ b + 1 ≤ c := by omega
          simp [e, this]⟩
      have fin : ∀ s h2, s = g_fs (k_E tk B Q) nb b (g_fu (k_E tk B Q) nb b) → k_ag (k_fz F) h' h2 → k_ok (fX0_chooseFirst_71 σ h2 F (nI (g_m (k_E tk B Q) (fun _ => 1) nb (nb - b) (g_fu (k_E tk B Q) nb b))) (nI Fr) (nI (k_dl R b)) (nI b) (nI s)) (k_z (fun t => b < 7 ∧ t.2.2.2.1 = nI (b + 1) ∧ t.1 = nI (g_m (k_E tk B Q) (fun _ => 1) nb (nb - (b + 1)) (g_fu (k_E tk B Q) nb (b + 1))) ∧ (∃ Fr, t.2.1 = nI Fr ∧ Fr < 256 ∧ ∀ s, Fr.testBit s = (Q.testBit s && !(g_fu (k_E tk B Q) nb (b + 1)).testBit s)) ∧ (∃ R, t.2.2.1 = nI R ∧ R < 128 ∧ ∀ c, R.testBit c = (B.testBit c && decide (b + 1 ≤ c))) ∧ (∀ c, c < b + 1 → q_int t.2.2.2.2 (F + 9) c = nI (g_fs (k_E tk B Q) nb c (g_fu (k_E tk B Q) nb c))) ∧ (∀ i, q_int t.2.2.2.2 F i = q_int h F i ∧ q_int t.2.2.2.2 (F + 3) i = q_int h (F + 3) i) ∧ k_ag (k_oF F) h t.2.2.2.2) (fun r => (∃ Fr, r.1 = nI Fr ∧ Fr < 256 ∧ ∀ s, Fr.testBit s = (Q.testBit s && !(g_fu (k_E tk B Q) nb 7).testBit s)) ∧ (∀ b, b < 7 → q_int r.2 (F + 9) b = nI (g_fs (k_E tk B Q) nb b (g_fu (k_E tk B Q) nb b))) ∧ k_ag (k_oF F) h r.2)) := by
        intro s h2 es g2
        have s9 : s ≤ 9 := by rw [es]; exact g_fsB _ _ _ _
        have f9 : k_fz F (F + 9) := ⟨by omega, by omega, by omega, by omega⟩
        have cs : ∀ c, c < b + 1 → q_int (q_si h2 (F + 9) b (nI s)) (F + 9) c = nI (g_fs (k_E tk B Q) nb c (g_fu (k_E tk B Q) nb c)) := fun c hcb => by
          by_cases e : c = b
          · subst e; rw [k_si_s, es]
          · rw [k_si_j e, k_agI g2 f9]; exact hc c (by omega)
        have fF2 : ∀ i, q_int (q_si h2 (F + 9) b (nI s)) F i = q_int h F i ∧ q_int (q_si h2 (F + 9) b (nI s)) (F + 3) i = q_int h (F + 3) i := fun i => by
          rw [k_si_n (by omega), k_si_n (by omega), k_agI g2 f0, k_agI g2 f3]; exact fF i
        have ag2 : k_ag (k_oF F) h (q_si h2 (F + 9) b (nI s)) := k_ag_si (k_ag_tr ag (fzo g2)) (fun q => q ⟨by omega, by omega⟩)
        unfold fX0_chooseFirst_71 fX0_chooseFirst_101
        rw [fr8 T, fl9 T, q_gu_t (vp_in_nI q (by decide)), k_cl (by omega)]
        simp only [k_eqL (show (9 : Int32) = nI 9 from rfl) (show s < 2147483648 by omega) (show 9 < 2147483648 by decide), nI_1]
        by_cases e9s : s = 9
        · rw [if_pos e9s]
          have e9' : g_fs (k_E tk B Q) nb b (g_fu (k_E tk B Q) nb b) = 9 := es.symm.trans e9s
          have eu : g_fu (k_E tk B Q) nb (b + 1) = g_fu (k_E tk B Q) nb b := if_pos e9'
          refine k_some ⟨q, rfl, ?_, ⟨Fr, rfl, hF, fun s => by rw [eu]; exact hFt s⟩, ⟨_, rfl, hR2⟩, cs, fF2, ag2⟩
          dsimp only
          rw [eu, g_fs9 e9']
        · rw [if_neg e9s]
          have e9' : g_fs (k_E tk B Q) nb b (g_fu (k_E tk B Q) nb b) ≠ 9 := fun e => e9s (es.trans e)
          have eu : g_fu (k_E tk B Q) nb (b + 1) = g_fu (k_E tk B Q) nb b ||| 2 ^ s := by rw [es]; exact if_neg e9'
          obtain ⟨s8, -, hus, hm⟩ := g_fs8 e9'
          rw [← es] at s8 hus hm
          rw [k_del (by omega)]
          refine k_some ⟨q, rfl, ?_, ⟨k_dl Fr s, rfl, k_dlB hF, fun t => ?_⟩, ⟨_, rfl, hR2⟩, cs, fF2, ag2⟩
          · dsimp only
            rw [eu, ← hm, Nat.add_comm, ← nI_1]
            show nI _ + 1 + -1 = _
            rw [Int32.add_assoc, show (1 : Int32) + -1 = 0 by decide, Int32.add_zero]
          · rw [k_dlT (by omega), hFt, eu, g_or_tb]
            by_cases e : t = s
            · subst e; simp
            · rw [show (t == s) = false by simpa using e, show decide (s = t) = false by simpa using fun q => e q.symm]; simp
      cases eB : B.testBit b with
      | false =>
        rw [if_neg (by decide)]
        refine fin 9 h' ?_ k_ag_rf
        refine (k_lzU (Nat.le_refl 8) (Nat.le_refl 8) (fun s h1 h2 => by omega) (g_fsS (k_E tk B Q) nb b _) (Or.inl ⟨rfl, fun s _ _ => ?_⟩)).symm
        unfold g_fp k_E
        rw [eB]; simp
      | true =>
        rw [if_pos rfl]
        refine k_b2 (c_leastKeeping T hQ hn hBn (fun s hs => by rw [(fF s).2]; exact htk s hs) (hBn b eB) eB hR2 ⟨hF, hFt⟩) (fun r h2 p => ?_)
        obtain ⟨e, g2⟩ := p
        dsimp only at e g2
        subst e
        exact fin _ h2 rfl g2
    · have : b = 7 := by omega
      subst this
      rw [if_pos (nI_le (Nat.le_refl _) (by decide))]
      exact k_some ⟨⟨Fr, rfl, hF, hFt⟩, hc, ag⟩
