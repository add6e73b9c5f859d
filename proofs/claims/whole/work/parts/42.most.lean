/-! the most that can be served, the most pence -/
def g_top (E : Nat → Nat → Bool) (w : Nat → Nat) : Nat := g_m E w 7 7 0
theorem g_MM_cg {E E' : Nat → Nat → Bool} {so bo : Nat → Nat} (h : ∀ s b, s < 8 → b < 7 → E s b = E' s b) (H : g_MM E so bo) : g_MM E' so bo := ⟨fun b hb => (H.1 b hb).imp id (fun q => ⟨q.1, q.2.1, by rw [← h _ _ q.1 hb]; exact q.2.2⟩), H.2⟩
/-- a number that some way has and none passes -/
def g_is (E : Nat → Nat → Bool) (w : Nat → Nat) (v : Nat) : Prop := (∀ so bo, g_MM E so bo → g_v w bo ≤ v) ∧ ∃ so bo, g_MM E so bo ∧ g_v w bo = v
theorem g_is_u {E : Nat → Nat → Bool} {w : Nat → Nat} {v v' : Nat} (h : g_is E w v) (h' : g_is E w v') : v = v' := by
  obtain ⟨a, so, bo, H, e⟩ := h
  obtain ⟨a', so', bo', H', e'⟩ := h'
  have := a' so bo H
  have := a so' bo' H'
  omega
theorem g_is_cg {E E' : Nat → Nat → Bool} {w : Nat → Nat} {v : Nat} (h : ∀ s b, s < 8 → b < 7 → E s b = E' s b) (H : g_is E w v) : g_is E' w v := by
  obtain ⟨a, so, bo, M, e⟩ := H
  exact ⟨fun so bo M => a so bo (g_MM_cg (fun s b hs hb => (h s b hs hb).symm) M), so, bo, g_MM_cg h M, e⟩
theorem g_isM {E : Nat → Nat → Bool} {w : Nat → Nat} {nb k u : Nat} (hn : nb ≤ 7) (hk : k ≤ nb) (hE : ∀ s b, b < nb - k ∨ nb ≤ b → E s b = false) (hu : ∀ s b, s < 8 → u.testBit s = true → E s b = false) : g_is E w (g_m E w nb k u) := g_max hn hk hE hu
theorem g_m_cg {E E' : Nat → Nat → Bool} {w : Nat → Nat} {nb : Nat} : ∀ {k u : Nat}, k ≤ nb → (∀ s b, s < 8 → nb - k ≤ b → b < nb → E s b = E' s b) → g_m E w nb k u = g_m E' w nb k u
  | 0, _, _, _ => rfl
  | k + 1, u, hk, h => by
    unfold g_m
    have : ∀ n, n ≤ 8 → g_step E w (nb - (k + 1)) u (g_m E w nb k) n = g_step E' w (nb - (k + 1)) u (g_m E' w nb k) n := by
      intro n
      induction n with
      | zero => intro _; exact g_m_cg (by omega) (fun s b hs h1 h2 => h s b hs (by omega) h2)
      | succ n ih =>
        intro hn
        unfold g_step
        rw [ih (by omega), h n _ (by omega) (Nat.le_refl _) (by omega), g_m_cg (u := u ||| 2 ^ n) (k := k) (by omega) (fun s b hs h1 h2 => h s b hs (by omega) h2)]
    exact this 8 (Nat.le_refl _)
theorem g_isT {E : Nat → Nat → Bool} {w : Nat → Nat} : g_is E w (g_top E w) := by
  have e : g_top E w = g_m (fun s b => E s b && decide (b < 7)) w 7 7 0 := g_m_cg (Nat.le_refl _) (fun s b _ _ hb => by rw [decide_eq_true hb, Bool.and_true])
  rw [e]
  refine g_is_cg (E := fun s b => E s b && decide (b < 7)) (fun s b _ hb => by rw [decide_eq_true hb, Bool.and_true]) (g_isM (Nat.le_refl _) (Nat.le_refl _) (fun s b h => ?_) (fun s b _ h => ?_))
  · rw [decide_eq_false (by omega), Bool.and_false]
  · rw [Nat.zero_testBit] at h; cases h
theorem g_top_cg {E E' : Nat → Nat → Bool} {w : Nat → Nat} (h : ∀ s b, s < 8 → b < 7 → E s b = E' s b) : g_top E w = g_top E' w := g_is_u (g_is_cg h g_isT) g_isT
theorem g_v_cnt {w bo : Nat → Nat} {T : Nat} (hw : ∀ s, s < 8 → w s ≤ T) : g_v w bo = k_sm (fun t => g_cnt (fun s => !(bo s == 9) && decide (t < w s)) 8) T := by
  rw [← g_layer w (fun s => !(bo s == 9)) T 8 hw]
  exact k_sm_cong (fun s _ => by by_cases e : bo s = 9 <;> simp [e])
theorem g_v_le {w bo bo2 : Nat → Nat} (h : ∀ t, g_cnt (fun s => !(bo2 s == 9) && decide (t < w s)) 8 ≤ g_cnt (fun s => !(bo s == 9) && decide (t < w s)) 8) (T : Nat) (hw : ∀ s, s < 8 → w s ≤ T) : g_v w bo2 ≤ g_v w bo := by
  rw [g_v_cnt hw, g_v_cnt hw]
  exact g_sm_le (fun t _ => h t)
theorem g_v_in {w bo bo' : Nat → Nat} {s0 : Nat} (hs : s0 < 8) (h9 : bo s0 = 9) (h : ∀ s, s < 8 → (bo' s ≠ 9 ↔ bo s ≠ 9 ∨ s = s0)) : g_v w bo' = g_v w bo + w s0 := by
  unfold g_v
  have e : ∀ s, s < 8 → (if bo' s = 9 then 0 else w s) = (if bo s = 9 then 0 else w s) + (if s = s0 then w s0 else 0) := fun s hs => by
    by_cases e1 : s = s0
    · subst e1
      have : bo' s ≠ 9 := (h s hs).mpr (Or.inr rfl)
      rw [if_neg this, if_pos h9, if_pos rfl, Nat.zero_add]
    · rw [if_neg e1, Nat.add_zero]
      by_cases e2 : bo s = 9
      · have : bo' s = 9 := Classical.byContradiction fun q => by
          rcases (h s hs).mp q with q1 | q1
          · exact q1 e2
          · exact e1 q1
        rw [if_pos this, if_pos e2]
      · have : bo' s ≠ 9 := (h s hs).mpr (Or.inl e2)
        rw [if_neg this, if_neg e2]
  rw [k_sm_cong e]
  have add : ∀ (f g : Nat → Nat) n, k_sm (fun s => f s + g s) n = k_sm f n + k_sm g n := by
    intro f g n
    induction n with
    | zero => rfl
    | succ n ih => rw [k_sm, k_sm, k_sm, ih]; omega
  rw [add, g_sone, if_pos hs]
theorem g_v_same {w bo bo' : Nat → Nat} (h : ∀ s, s < 8 → bo' s = bo s) : g_v w bo' = g_v w bo := k_sm_cong (fun s hs => by rw [h s hs])
theorem g_inv_P {E : Nat → Nat → Bool} {so bo : Nat → Nat} {P P' Z : Nat → Bool} (I : g_inv E so bo P Z) (h : ∀ s, s < 8 → P s = P' s) : g_inv E so bo P' Z := ⟨I.1, fun s hs hn => by rw [← h s hs]; exact I.2.1 s hs hn, I.2.2.1, fun s hs hp hn => I.2.2.2 s hs (by rw [h s hs]; exact hp) hn⟩
/-- what the fitting may do: suits of Q, bookings of B -/
def k_E (tk : Nat → Nat) (B Q : Nat) (s b : Nat) : Bool := Q.testBit s && B.testBit b && (tk s).testBit b
def k_fz (F a : Nat) : Prop := a ≠ F + 5 ∧ a ≠ F + 6 ∧ a ≠ F + 7 ∧ a ≠ F + 8
theorem c_clear {σ : q_St} {h : q_Hp} {F : Nat} (T : k_ft σ F) : k_ok (fX0_clear σ h F) (fun h' => k_FM h' F (fun _ => 9) (fun _ => 9) ∧ k_ag (k_fz F) h h') := by
  unfold fX0_clear
  rw [fr6 T, fr4 T, q_gu_t ⟨ft7 T, ft5 T⟩]
  refine k_bind (k_for (n := 8) (P := fun h' => (∀ i, i < 8 → q_int h' (F + 5) i = 9) ∧ k_ag (k_fz F) h h') (fun i t => t.1 = nI i ∧ (∀ j, j < i → q_int t.2 (F + 5) j = 9) ∧ k_ag (k_fz F) h t.2) (by rw [k_N]; omega) ⟨rfl, fun j hj => absurd hj (Nat.not_lt_zero _), k_ag_rf⟩ ?_) (fun h1 p => ?_)
  · rintro i ⟨x, h'⟩ hi ⟨e, hz, hg⟩
    dsimp only at e hz hg
    subst e
    show k_ok (fX0_clear_2 σ F (nI i) h') _
    unfold fX0_clear_2
    rw [fr4 T, fl5 T, k_ofN]
    rcases Nat.lt_or_ge i 8 with q | q
    · rw [if_neg (nI_ge q (by decide)), q_gu_t (vp_in_nI q (by decide)), k_cl (by omega), nI_1]
      refine k_some ⟨q, rfl, fun j hj => ?_, k_ag_si hg (fun q => q.1 rfl)⟩
      dsimp only
      by_cases e : j = i
      · subst e; rw [k_si_s]
      · rw [k_si_j e]; exact hz j (by omega)
    · have : i = 8 := by omega
      subst this
      rw [if_pos (nI_le (Nat.le_refl _) (by decide))]
      exact k_some ⟨hz, hg⟩
  · refine k_bind (k_for (n := 7) (P := fun h' => (∀ i, i < 7 → q_int h' (F + 7) i = 9) ∧ k_ag (fun a => a ≠ F + 7) h1 h') (fun i t => t.1 = nI i ∧ (∀ j, j < i → q_int t.2 (F + 7) j = 9) ∧ k_ag (fun a => a ≠ F + 7) h1 t.2) (by rw [k_N]; omega) ⟨rfl, fun j hj => absurd hj (Nat.not_lt_zero _), k_ag_rf⟩ ?_) (fun h2 p2 => ?_)
    · rintro i ⟨x, h'⟩ hi ⟨e, hz, hg⟩
      dsimp only at e hz hg
      subst e
      show k_ok (fX0_clear_27 σ F (nI i) h') _
      unfold fX0_clear_27
      rw [fr6 T, fl7 T, k_ofN]
      rcases Nat.lt_or_ge i 7 with q | q
      · rw [if_neg (nI_ge q (by decide)), q_gu_t (vp_in_nI q (by decide)), k_cl (by omega), nI_1]
        refine k_some ⟨q, rfl, fun j hj => ?_, k_ag_si hg (fun q => q rfl)⟩
        dsimp only
        by_cases e : j = i
        · subst e; rw [k_si_s]
        · rw [k_si_j e]; exact hz j (by omega)
      · have : i = 7 := by omega
        subst this
        rw [if_pos (nI_le (Nat.le_refl _) (by decide))]
        exact k_some ⟨hz, hg⟩
    · exact k_some ⟨⟨fun b hb => ⟨p2.1 b hb, Nat.le_refl _⟩, fun s hs => ⟨by rw [k_agI p2.2 (show F + 5 ≠ F + 7 by omega)]; exact p.1 s hs, Nat.le_refl _⟩⟩, k_ag_tr p.2 (k_ag_mono p2.2 (fun a ha => ha.2.2.1))⟩
theorem g_inv_0 {E : Nat → Nat → Bool} {P : Nat → Bool} (hP : ∀ s, s < 8 → P s = false) : g_inv E (fun _ => 9) (fun _ => 9) P (fun _ => false) := ⟨⟨fun _ _ => Or.inl rfl, fun _ _ => Or.inl rfl⟩, fun _ _ h => absurd rfl h, fun _ _ _ _ h => (nomatch h), fun s hs h _ => by rw [hP s hs] at h; cases h⟩
theorem g_opt_is {E : Nat → Nat → Bool} {w so bo : Nat → Nat} (H : g_MM E so bo) (h : ∀ so2 bo2, g_MM E so2 bo2 → g_v w bo2 ≤ g_v w bo) : g_v w bo = g_top E w := g_is_u ⟨h, so, bo, H, rfl⟩ g_isT
theorem g_Q {tk : Nat → Nat} {B Q : Nat} {so bo : Nat → Nat} (H : g_MM (k_E tk B Q) so bo) {s : Nat} (hs : s < 8) (h : bo s ≠ 9) : Q.testBit s = true := by
  rcases H.2 s hs with q | ⟨q1, q2⟩
  · exact absurd q h
  · rcases H.1 _ q1 with q | ⟨-, -, q⟩
    · omega
    · rw [q2] at q
      unfold k_E at q
      simp only [Bool.and_eq_true] at q
      exact q.1.1
theorem c_most {σ : q_St} {h : q_Hp} {F B Q : Nat} {tk : Nat → Nat} (T : k_ft σ F) (hB : B < 128) (hQ : Q < 256) (htk : ∀ s, s < 8 → q_int h (F + 3) s = nI (tk s) ∧ tk s < 128) : k_ok (fX0_most σ h F (nI B) (nI Q)) (fun r => r.1 = nI (g_top (k_E tk B Q) (fun _ => 1)) ∧ k_ag (k_fz F) h r.2) := by
  unfold fX0_most
  rw [fr2 T, q_gu_t (ft3 T)]
  refine k_bind (c_clear T) (fun h1 p1 => ?_)
  refine k_bind (k_for (n := 8) (P := fun o => o.1 = nI (g_top (k_E tk B Q) (fun _ => 1)) ∧ k_ag (k_fz F) h o.2) (fun i s => s.2.1 = nI i ∧ ∃ so bo Z, k_FM s.2.2 F so bo ∧ g_inv (k_E tk B Q) so bo (fun s => decide (s < i) && Q.testBit s) Z ∧ s.1 = nI (g_v (fun _ => 1) bo) ∧ k_ag (k_fz F) h s.2.2) (by rw [k_N]; omega) ⟨rfl, _, _, _, p1.1, g_inv_0 (fun s _ => by simp), rfl, p1.2⟩ ?_) (fun o p => by
    obtain ⟨o1, o2⟩ := o
    exact k_some p)
  rintro i ⟨x3, x4, h'⟩ hi ⟨e4, so, bo, Z, M, I, e3, ag⟩
  dsimp only at e4 M e3 ag
  subst e4; subst e3
  show k_ok (fX0_most_9 σ F (nI B) (nI Q) (nI (g_v (fun _ => 1) bo)) (nI i) h') _
  unfold fX0_most_9 fX0_most_41
  rw [fr2 T, fl3 T, k_ofN]
  rcases Nat.lt_or_ge i 8 with q | q
  · rw [if_neg (nI_ge q (by decide)), c_hasBit (by omega) (by omega), k_bs1, k_01i]
    cases eQ : Q.testBit i with
    | false =>
      rw [if_neg (by decide), nI_1]
      exact k_some ⟨q, rfl, so, bo, Z, M, g_inv_P I (fun s hs => by
        by_cases e : s = i
        · subst e; rw [eQ]; simp
        · have : (s < i) ↔ s < i + 1 := by omega
          simp [this]), rfl, ag⟩
    | true =>
      rw [if_pos rfl]
      have b9 : bo i = 9 := Classical.byContradiction fun e => by
        have := I.2.1 i q e
        simp at this
      have htk' : ∀ s, s < 8 → q_int h' (F + 3) s = nI (tk s) ∧ tk s < 128 := fun s hs => by
        rw [k_agI ag (show k_fz F (F + 3) from ⟨by omega, by omega, by omega, by omega⟩)]; exact htk s hs
      refine k_b2 (c_seat (Qb := fun s => Q.testBit s) T M hB htk' I q b9 eQ) (fun r h2 p => ?_)
      obtain ⟨so', bo', Z', M', I', D, ag'⟩ := p
      have I2 : g_inv (k_E tk B Q) so' bo' (fun s => decide (s < i + 1) && Q.testBit s) Z' := g_inv_P I' (fun s hs => by
        by_cases e : s = i
        · subst e; rw [eQ]; simp
        · have : (s < i) ↔ s < i + 1 := by omega
          simp [this, e])
      rcases D with ⟨e1, D⟩ | ⟨e1, D⟩
      · rw [show r = 1 from e1, if_neg (by decide), nI_1, nI_1]
        exact k_some ⟨q, rfl, so', bo', Z', M', I2, by dsimp only; rw [g_v_in q b9 D], k_ag_tr ag ag'⟩
      · rw [show r = 0 from e1, if_pos rfl, nI_1]
        exact k_some ⟨q, rfl, so', bo', Z', M', I2, by dsimp only; rw [g_v_same D], k_ag_tr ag ag'⟩
  · have : i = 8 := by omega
    subst this
    rw [if_pos (nI_le (Nat.le_refl _) (by decide))]
    refine k_some ⟨?_, ag⟩
    dsimp only
    rw [g_opt_is I.1 (fun so2 bo2 H2 => ?_)]
    have c1 : ∀ u : Nat → Nat, g_v (fun _ => 1) u = g_cnt (fun s => !(u s == 9)) 8 := fun u => by
      rw [g_cnt_sm]
      exact k_sm_cong (fun s _ => by by_cases e : u s = 9 <;> simp [e])
    rw [c1, c1]
    refine Nat.le_trans (g_cnt_le (fun s hs hn => ?_)) (g_opt I H2)
    have n9 : bo2 s ≠ 9 := by simpa using hn
    simp only [Bool.and_eq_true, decide_eq_true_eq]
    exact ⟨⟨hs, g_Q H2 hs n9⟩, hn⟩
theorem c_dearest {σ : q_St} {h : q_Hp} {F R : Nat} {w : Nat → Nat} (T : k_ft σ F) (hR : R < 256) (h0 : R ≠ 0) (hw : ∀ s, s < 8 → R.testBit s = true → q_int h (F + 4) s = nI (w s) ∧ w s < 1000) : k_ok (fX0_dearest σ h F (nI R)) (fun r => ∃ s, r = nI s ∧ s < 8 ∧ R.testBit s = true ∧ ∀ t, t < 8 → R.testBit t = true → w t ≤ w s) := by
  unfold fX0_dearest
  rw [fr3 T, q_gu_t (ft4 T)]
  refine k_bind (k_for (n := 8) (P := fun r => ∃ s, r = nI s ∧ s < 8 ∧ R.testBit s = true ∧ ∀ t, t < 8 → R.testBit t = true → w t ≤ w s) (fun i s => s.2.2 = nI i ∧ ((s.2.1 = -1 ∧ ∀ t, t < i → R.testBit t = false) ∨ ∃ b, s.1 = nI b ∧ s.2.1 = nI (w b) ∧ b < i ∧ R.testBit b = true ∧ ∀ t, t < i → R.testBit t = true → w t ≤ w b)) (by rw [k_N]; omega) ⟨rfl, Or.inl ⟨rfl, fun t ht => absurd ht (Nat.not_lt_zero _)⟩⟩ ?_) (fun r p => k_some p)
  rintro i ⟨x2, x3, x4⟩ hi ⟨e4, D⟩
  dsimp only at e4 D
  subst e4
  show k_ok (fX0_dearest_7 σ h F (nI R) x2 x3 (nI i)) _
  unfold fX0_dearest_7 fX0_dearest_48
  rw [fr3 T, fl4 T, k_ofN]
  rcases Nat.lt_or_ge i 8 with q | q
  · rw [if_neg (nI_ge q (by decide)), c_hasBit (by omega) (by omega), k_bs1, k_01i, nI_1]
    cases eR : R.testBit i with
    | false =>
      rw [if_neg (by decide)]
      refine k_some ⟨q, rfl, ?_⟩
      rcases D with ⟨e, D⟩ | ⟨b, e1, e2, e3, e4, D⟩
      · refine Or.inl ⟨e, fun t ht => ?_⟩
        by_cases et : t = i
        · rw [et, eR]
        · exact D t (by omega)
      · refine Or.inr ⟨b, e1, e2, by omega, e4, fun t ht h1 => ?_⟩
        by_cases et : t = i
        · rw [et, eR] at h1; cases h1
        · exact D t (by omega) h1
    | true =>
      have hwi := hw i q eR
      rw [if_pos rfl, q_gu_t (vp_in_nI q (by decide)), k_cl (by omega), hwi.1]
      rcases D with ⟨e, D⟩ | ⟨b, e1, e2, e3, e4, D⟩
      · subst e
        rw [if_neg (fun q => by
          have h1 := Int32.le_iff_toInt_le.mp q
          rw [nI_toInt (by omega), show (-1 : Int32).toInt = -1 by decide] at h1
          omega)]
        refine k_some ⟨q, rfl, Or.inr ⟨i, rfl, rfl, by omega, eR, fun t ht h1 => ?_⟩⟩
        by_cases et : t = i
        · rw [et]; exact Nat.le_refl _
        · rw [D t (by omega)] at h1; cases h1
      · subst e1; subst e2
        have hwb := hw b (by omega) e4
        simp only [k_le2 rfl (show w i < 2147483648 by omega) (show w b < 2147483648 by omega)]
        by_cases le : w i ≤ w b
        · rw [if_pos le]
          refine k_some ⟨q, rfl, Or.inr ⟨b, rfl, rfl, by omega, e4, fun t ht h1 => ?_⟩⟩
          by_cases et : t = i
          · rw [et]; exact le
          · exact D t (by omega) h1
        · rw [if_neg le]
          refine k_some ⟨q, rfl, Or.inr ⟨i, rfl, rfl, by omega, eR, fun t ht h1 => ?_⟩⟩
          by_cases et : t = i
          · rw [et]; exact Nat.le_refl _
          · have := D t (by omega) h1; omega
  · have : i = 8 := by omega
    subst this
    rw [if_pos (nI_le (Nat.le_refl _) (by decide))]
    rcases D with ⟨e, D⟩ | ⟨b, e1, e2, e3, e4, D⟩
    · exfalso
      apply h0
      apply Nat.eq_of_testBit_eq
      intro t
      rw [Nat.zero_testBit]
      rcases Nat.lt_or_ge t 8 with l | l
      · exact D t l
      · exact Nat.testBit_lt_two_pow (Nat.lt_of_lt_of_le hR (show 2 ^ 8 ≤ 2 ^ t from Nat.pow_le_pow_right (by decide) l))
    · exact k_some ⟨b, e1, e3, e4, D⟩
theorem c_richest {σ : q_St} {h : q_Hp} {F B Q : Nat} {tk w : Nat → Nat} (T : k_ft σ F) (hB : B < 128) (hQ : Q < 256) (htk : ∀ s, s < 8 → q_int h (F + 3) s = nI (tk s) ∧ tk s < 128) (hw : ∀ s, s < 8 → Q.testBit s = true → q_int h (F + 4) s = nI (w s)) (hw2 : ∀ s, s < 8 → w s < 1000) : k_ok (fX0_richest σ h F (nI B) (nI Q)) (fun r => r.1 = nI (g_top (k_E tk B Q) w) ∧ k_ag (k_fz F) h r.2) := by
  unfold fX0_richest
  rw [fr2 T, fr3 T, q_gu_t ⟨ft3 T, ft4 T⟩]
  refine k_bind (c_clear T) (fun h1 p1 => ?_)
  have one8 : k_one01 (fun s => Q.testBit s) 8 ≤ 8 := k_one_le _ _
  refine k_bind (k_for (n := 8) (P := fun o => o.1 = nI (g_top (k_E tk B Q) w) ∧ k_ag (k_fz F) h o.2) (fun i s => s.2.2.1 = nI i ∧ ∃ R so bo Z, s.1 = nI R ∧ R < 256 ∧ (∀ s, R.testBit s = true → Q.testBit s = true) ∧ k_one01 (fun s => R.testBit s) 8 + i ≤ 8 ∧ k_FM s.2.2.2 F so bo ∧ g_inv (k_E tk B Q) so bo (fun s => Q.testBit s && !R.testBit s) Z ∧ s.2.1 = nI (g_v w bo) ∧ (∀ a b, a < 8 → b < 8 → Q.testBit a = true → R.testBit a = false → R.testBit b = true → w b ≤ w a) ∧ (∀ t, (∀ s, s < 8 → R.testBit s = true → w s ≤ t) → ∀ so2 bo2, g_MM (k_E tk B Q) so2 bo2 → g_cnt (fun s => !(bo2 s == 9) && decide (t < w s)) 8 ≤ g_cnt (fun s => !(bo s == 9) && decide (t < w s)) 8) ∧ k_ag (k_fz F) h s.2.2.2) (by rw [k_N]; omega) ⟨rfl, Q, _, _, _, rfl, hQ, fun _ h => h, by omega, p1.1, g_inv_0 (fun s _ => by simp), rfl, fun a b _ _ h1 h2 => (by rw [h1] at h2; exact nomatch h2), fun t ht so2 bo2 H2 => ?_, p1.2⟩ ?_) (fun o p => by
    obtain ⟨o1, o2⟩ := o
    exact k_some p)
  · refine Nat.le_trans (g_cnt_le (q := fun _ => false) (fun s hs hn => ?_)) (by rw [g_cnt_sm, show k_sm (fun s => if (fun _ => false) s = true then 1 else 0) 8 = 0 from rfl]; exact Nat.zero_le _)
    simp only [Bool.and_eq_true, Bool.not_eq_true', beq_eq_false_iff_ne, decide_eq_true_eq] at hn
    have := ht s hs (g_Q H2 hs hn.1)
    omega
  · rintro i ⟨x3, x4, x5, h'⟩ hi ⟨e5, R, so, bo, Z, e3, hR, hRQ, hone, M, I, e4, srt, J, ag⟩
    dsimp only at e5 e3 M e4 ag
    subst e5; subst e3; subst e4
    show k_ok (fX0_richest_12 σ F (nI B) (nI Q) (nI R) (nI (g_v w bo)) (nI i) h') _
    have fin : R = 0 → k_ok (some (Sum.inr (nI (g_v w bo), h')) : Option ((Int32 × Int32 × Int32 × q_Hp) ⊕ (Int32 × q_Hp))) (k_z (fun _ => False) (fun o => o.1 = nI (g_top (k_E tk B Q) w) ∧ k_ag (k_fz F) h o.2)) := fun e0 => by
      refine k_some ⟨?_, ag⟩
      dsimp only
      rw [g_opt_is I.1 (fun so2 bo2 H2 => g_v_le (fun t => J t (fun s _ h1 => by rw [e0, Nat.zero_testBit] at h1; cases h1) so2 bo2 H2) 1000 (fun s hs => by have := hw2 s hs; omega))]
    have fin' : ∀ (A : Int32 × Int32 × Int32 × q_Hp → Prop), R = 0 → k_ok (some (Sum.inr (nI (g_v w bo), h')) : Option ((Int32 × Int32 × Int32 × q_Hp) ⊕ (Int32 × q_Hp))) (k_z A (fun o => o.1 = nI (g_top (k_E tk B Q) w) ∧ k_ag (k_fz F) h o.2)) := fun A e0 => k_mono (fin e0) (fun r hr => by
      cases r with
      | inl s => exact False.elim hr
      | inr s => exact hr)
    unfold fX0_richest_12
    rw [fr2 T, fr3 T, fl3 T, k_ofN]
    rcases Nat.lt_or_ge i 8 with q | q
    · rw [if_neg (nI_ge q (by decide))]
      simp only [k_eqL (show (0 : Int32) = nI 0 from rfl) (show R < 2147483648 by omega) (show 0 < 2147483648 by decide)]
      by_cases r0 : R = 0
      · rw [if_pos r0]; exact fin' _ r0
      rw [if_neg r0]
      have f4 : k_fz F (F + 4) := ⟨by omega, by omega, by omega, by omega⟩
      have f3 : k_fz F (F + 3) := ⟨by omega, by omega, by omega, by omega⟩
      refine k_bind (c_dearest (w := w) T hR r0 (fun s hs h1 => by rw [k_agI ag f4]; exact ⟨hw s hs (hRQ s h1), hw2 s hs⟩)) (fun r p => ?_)
      obtain ⟨s, rfl, hs, hRs, hmx⟩ := p
      have hQs := hRQ s hRs
      have b9 : bo s = 9 := Classical.byContradiction fun e => by
        have := I.2.1 s hs e
        simp [hRs] at this
      refine k_b2 (c_seat (Qb := fun s => Q.testBit s) T M hB (fun s hs => by rw [k_agI ag f3]; exact htk s hs) I hs b9 hQs) (fun r h2 p => ?_)
      obtain ⟨so', bo', Z', M', I', D, ag'⟩ := p
      have R31 : R < 2147483648 := by omega
      have dl : ∀ t, (k_dl R s).testBit t = (R.testBit t && !(t == s)) := fun t => k_dlT R31
      have I2 : g_inv (k_E tk B Q) so' bo' (fun t => Q.testBit t && !(k_dl R s).testBit t) Z' := g_inv_P I' (fun t ht => by
        rw [dl]
        by_cases e : t = s
        · subst e; simp [hQs]
        · rw [show (t == s) = false by simp [e]]; cases Q.testBit t <;> cases R.testBit t <;> simp)
      have mono : ∀ t, t < 8 → bo t ≠ 9 → bo' t ≠ 9 := fun t ht hn => by
        rcases D with ⟨-, D⟩ | ⟨-, D⟩
        · exact (D t ht).mpr (Or.inl hn)
        · rw [D t ht]; exact hn
      have chg := k_one_ch (p := fun t => (k_dl R s).testBit t) (q := fun t => R.testBit t) (b := s) (by rw [dl]; simp) hRs (fun c hc => by rw [dl]; simp [hc]) 8 hs
      have J2 : ∀ t, (∀ u, u < 8 → (k_dl R s).testBit u = true → w u ≤ t) → ∀ so2 bo2, g_MM (k_E tk B Q) so2 bo2 → g_cnt (fun s => !(bo2 s == 9) && decide (t < w s)) 8 ≤ g_cnt (fun s => !(bo' s == 9) && decide (t < w s)) 8 := by
        intro t ht so2 bo2 H2
        by_cases hws : w s ≤ t
        · have hall : ∀ u, u < 8 → R.testBit u = true → w u ≤ t := fun u hu h1 => by
            by_cases e : u = s
            · rw [e]; exact hws
            · exact ht u hu (by rw [dl, h1]; simp [e])
          refine Nat.le_trans (J t hall so2 bo2 H2) (g_cnt_le (fun u hu hn => ?_))
          simp only [Bool.and_eq_true, Bool.not_eq_true', beq_eq_false_iff_ne, decide_eq_true_eq] at hn ⊢
          exact ⟨mono u hu hn.1, hn.2⟩
        · refine Nat.le_trans (g_cnt_le (q := fun u => (Q.testBit u && !(k_dl R s).testBit u) && !(bo2 u == 9)) (fun u hu hn => ?_)) (Nat.le_trans (g_opt I2 H2) (g_cnt_le (fun u hu hn => ?_)))
          · simp only [Bool.and_eq_true, Bool.not_eq_true', beq_eq_false_iff_ne, decide_eq_true_eq] at hn ⊢
            refine ⟨⟨g_Q H2 hu hn.1, ?_⟩, hn.1⟩
            cases e : (k_dl R s).testBit u with
            | false => rfl
            | true => have := ht u hu e; omega
          · have n9 : bo' u ≠ 9 := by simpa using hn
            have hp := I2.2.1 u hu n9
            simp only [Bool.and_eq_true, Bool.not_eq_true'] at hp
            have hwu : w s ≤ w u := by
              by_cases e : u = s
              · rw [e]; exact Nat.le_refl _
              · have hRu : R.testBit u = false := by
                  have := hp.2
                  rw [dl] at this
                  simpa [e] using this
                exact srt u s hu hs hp.1 hRu hRs
            simp only [Bool.and_eq_true, decide_eq_true_eq]
            exact ⟨hn, by omega⟩
      have srt2 : ∀ a b, a < 8 → b < 8 → Q.testBit a = true → (k_dl R s).testBit a = false → (k_dl R s).testBit b = true → w b ≤ w a := by
        intro a b ha hb h1 h2 h3
        rw [dl] at h2 h3
        simp only [Bool.and_eq_true, Bool.not_eq_true', beq_eq_false_iff_ne] at h3
        by_cases e : a = s
        · rw [e]; exact hmx b hb h3.1
        · have : R.testBit a = false := by simpa [e] using h2
          exact srt a b ha hb h1 this h3.1
      have hRQ2 : ∀ t, (k_dl R s).testBit t = true → Q.testBit t = true := fun t h1 => by
        rw [dl] at h1
        simp only [Bool.and_eq_true] at h1
        exact hRQ t h1.1
      rw [k_del (by omega)]
      unfold fX0_richest_67
      rcases D with ⟨e1, D⟩ | ⟨e1, D⟩
      · rw [show r = 1 from e1, if_neg (by decide), c_at (fl4 T) hs (by decide), k_bs1, k_agI (k_ag_tr ag ag') f4, hw s hs hQs, nI_add, nI_1]
        exact k_some ⟨q, rfl, k_dl R s, so', bo', Z', rfl, k_dlB hR, hRQ2, by omega, M', I2, by dsimp only; rw [g_v_in hs b9 D], srt2, J2, k_ag_tr ag ag'⟩
      · rw [show r = 0 from e1, if_pos rfl, nI_1]
        refine k_some ⟨q, rfl, k_dl R s, so', bo', Z', rfl, k_dlB hR, hRQ2, by omega, M', I2, ?_, srt2, J2, k_ag_tr ag ag'⟩
        show nI _ + nI 0 = _
        rw [nI_add, g_v_same D]; rfl
    · have : i = 8 := by omega
      subst this
      rw [if_pos (nI_le (Nat.le_refl _) (by decide))]
      refine fin' _ ?_
      have z0 := k_one_z (q := fun s => R.testBit s) (n := 8) (by omega)
      apply Nat.eq_of_testBit_eq
      intro t
      rw [Nat.zero_testBit]
      rcases Nat.lt_or_ge t 8 with l | l
      · exact z0 t l
      · exact Nat.testBit_lt_two_pow (Nat.lt_of_lt_of_le hR (show 2 ^ 8 ≤ 2 ^ t from Nat.pow_le_pow_right (by decide) l))
