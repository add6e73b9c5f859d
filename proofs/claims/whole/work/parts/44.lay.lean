/-! the model's tables: the most by bookings, the first choice -/
def k_D (σ : q_St) (h : q_Hp) (m ns nb : Nat) (op : Nat → Bool) (my : Nat → Nat → Bool) (w : Nat → Nat) : Prop := (q_int h m 0 = nI ns ∧ ns ≤ 8) ∧ (q_int h m 6 = nI nb ∧ nb ≤ 7) ∧ (∀ h', k_mf [21, 35] [24, 25] m h h' → (∀ b, b < nb → fX5_isOpen σ h' m (nI b) = some (if op b then 1 else 0)) ∧ (∀ s b, s < ns → b < nb → fX5_mayHave σ h' m (nI s) (nI b) = some (if my s b then 1 else 0)) ∧ ∀ s, s < ns → fX5_priceOf σ h' m (nI s) = some (nI (w s))) ∧ ∀ s, s < ns → w s < 1000
theorem D_mf {σ : q_St} {h h' : q_Hp} {m ns nb : Nat} {op : Nat → Bool} {my : Nat → Nat → Bool} {w : Nat → Nat} (D : k_D σ h m ns nb op my w) (a : k_mf [21, 35] [24, 25] m h h') : k_D σ h' m ns nb op my w := ⟨⟨by rw [a.2.1 0 (by decide)]; exact D.1.1, D.1.2⟩, ⟨by rw [a.2.1 6 (by decide)]; exact D.2.1.1, D.2.1.2⟩, fun h2 a2 => D.2.2.1 h2 (mf_tr a a2), D.2.2.2⟩
def g_dp (ns nb : Nat) (op : Nat → Bool) (my : Nat → Nat → Bool) (s b : Nat) : Bool := decide (s < ns) && decide (b < nb) && op b && my s b
theorem g_stepB {E : Nat → Nat → Bool} {w : Nat → Nat} {T B b u : Nat} {M : Nat → Nat} (hw : ∀ s, E s b = true → w s ≤ T) (hM : ∀ u, M u ≤ B) : ∀ n, g_step E w b u M n ≤ B + T
  | 0 => Nat.le_trans (hM u) (Nat.le_add_right _ _)
  | n + 1 => by
    have ih := g_stepB hw hM (u := u) n
    unfold g_step
    split
    · next h =>
      simp only [Bool.and_eq_true] at h
      have := hw n h.1
      have := hM (u ||| 2 ^ n)
      omega
    · exact ih
theorem g_mB {E : Nat → Nat → Bool} {w : Nat → Nat} {nb T : Nat} (hw : ∀ s b, E s b = true → w s ≤ T) : ∀ k u, g_m E w nb k u ≤ T * k
  | 0, _ => Nat.zero_le _
  | k + 1, u => by
    unfold g_m
    have := g_stepB (b := nb - (k + 1)) (u := u) (fun s h => hw s _ h) (g_mB (nb := nb) hw k) 8
    rw [Nat.mul_succ]; exact this
theorem g_step_end {E : Nat → Nat → Bool} {w : Nat → Nat} {b u : Nat} {M : Nat → Nat} {n : Nat} (h : ∀ s, n ≤ s → E s b = false) : ∀ m, n ≤ m → g_step E w b u M m = g_step E w b u M n := by
  intro m hm
  induction m with
  | zero => have : n = 0 := by omega
            subst this; rfl
  | succ m ih =>
    by_cases e : n = m + 1
    · rw [e]
    · rw [← ih (by omega)]
      conv => lhs; unfold g_step
      rw [h m (by omega), Bool.false_and, if_neg (by decide)]
theorem g_or_lt {u s n : Nat} (hu : u < 2 ^ n) (hs : s < n) : u ||| 2 ^ s < 2 ^ n := Nat.or_lt_two_pow hu (Nat.pow_lt_pow_right (by decide) hs)
def g_wv (pr : Bool) (w : Nat → Nat) : Nat → Nat := if pr then w else fun _ => 1
theorem g_wvB {ns nb : Nat} {op : Nat → Bool} {my : Nat → Nat → Bool} {w : Nat → Nat} (pr : Bool) (h : ∀ s, s < ns → w s < 1000) (s b : Nat) (e : g_dp ns nb op my s b = true) : g_wv pr w s ≤ 1000 := by
  unfold g_dp at e
  simp only [Bool.and_eq_true, decide_eq_true_eq] at e
  have := h s e.1.1.1
  unfold g_wv
  cases pr
  · show 1 ≤ 1000; decide
  · show w s ≤ 1000; omega
theorem pw256 {n : Nat} (h : n ≤ 8) : 2 ^ n ≤ 256 := Nat.le_trans (Nat.pow_le_pow_right (by decide) h) (show 2 ^ 8 ≤ 256 by decide)
theorem m_mostBy {σ : q_St} {h : q_Hp} {m ns nb b u : Nat} {op : Nat → Bool} {my : Nat → Nat → Bool} {w Mx : Nat → Nat} {pr : Bool} (M : k_M σ m) (D : k_D σ h m ns nb op my w) (hp : q_int h m 35 = if pr then 1 else 0) (hb : b < nb) (hu : u < 2 ^ ns) (hT : ∀ u, u < 2 ^ ns → q_int h (m + 24) (256 * b + 256 + u) = nI (Mx u)) (hM : ∀ u, Mx u ≤ 1000000) : fX5_mostBy σ h m (nI b) (nI u) = some (nI (g_step (g_dp ns nb op my) (g_wv pr w) b u Mx 8)) := by
  have n8 := D.1.2
  have b7 := D.2.1.2
  have d := D.2.2.1 h mf_rf
  have p2 := pw256 n8
  unfold fX5_mostBy
  rw [mr39 M, q_gu_t (mt24 M), ml24 M, show (256 : Int32) * nI b + 256 + nI u = nI (256 * b + 256 + u) by rw [show (256 : Int32) = nI 256 from rfl, pk_mul, nI_add, nI_add], q_gu_t (vp_in_nI (by omega) (by decide)), k_cl (by omega), hT u hu]
  refine k_eq (k_bind (P := fun r => r = nI (g_step (g_dp ns nb op my) (g_wv pr w) b u Mx 8)) (k_for (n := ns) (fun i t => t.2 = nI i ∧ t.1 = nI (g_step (g_dp ns nb op my) (g_wv pr w) b u Mx i)) (by rw [k_N]; omega) ⟨rfl, rfl⟩ ?_) (fun r p => k_some p))
  rintro i ⟨x3, x4⟩ hi ⟨e4, e3⟩
  dsimp only at e3 e4
  subst e3; subst e4
  have eB : ∀ s, g_dp ns nb op my s b = (decide (s < ns) && op b && my s b) := fun s => by unfold g_dp; rw [decide_eq_true hb, Bool.and_true]
  show k_ok (fX5_mostBy_20 σ h m (nI b) (nI u) (nI (g_step (g_dp ns nb op my) (g_wv pr w) b u Mx i)) (nI i)) _
  unfold fX5_mostBy_20
  rw [D.1.1]
  rcases Nat.lt_or_ge i ns with q | q
  · rw [if_neg (nI_ge q (by omega)), d.1 b hb, k_bs1, k_01i]
    cases eo : op b with
    | false =>
      rw [if_neg (by decide)]
      refine k_some ?_
      have z : ∀ s, 0 ≤ s → g_dp ns nb op my s b = false := fun s _ => by rw [eB, eo, Bool.and_false, Bool.false_and]
      show nI _ = nI _
      rw [g_step_end z i (Nat.zero_le _), g_step_end z 8 (Nat.zero_le _)]
    | true =>
      have stp : g_step (g_dp ns nb op my) (g_wv pr w) b u Mx (i + 1) = if g_dp ns nb op my i b && !u.testBit i then max (g_step (g_dp ns nb op my) (g_wv pr w) b u Mx i) (g_wv pr w i + Mx (u ||| 2 ^ i)) else g_step (g_dp ns nb op my) (g_wv pr w) b u Mx i := rfl
      have eBi : g_dp ns nb op my i b = my i b := by rw [eB, eo, decide_eq_true q]; rfl
      rw [if_pos rfl, m_hasBit (by omega) (by omega), k_bs1, k_01i]
      have skip : (g_dp ns nb op my i b && !u.testBit i) = false → k_ok (fX5_mostBy_100 σ h m (nI b) (nI u) (nI (g_step (g_dp ns nb op my) (g_wv pr w) b u Mx i)) (nI i)) (k_z (fun s' => i < ns ∧ s'.2 = nI (i + 1) ∧ s'.1 = nI (g_step (g_dp ns nb op my) (g_wv pr w) b u Mx (i + 1))) (fun r => r = nI (g_step (g_dp ns nb op my) (g_wv pr w) b u Mx 8))) := fun e => by
        unfold fX5_mostBy_100
        rw [nI_1]
        refine k_some ⟨q, rfl, ?_⟩
        dsimp only
        rw [stp, e, if_neg (by decide)]
      cases eu : u.testBit i with
      | true => rw [if_pos rfl]; exact skip (by rw [eu]; simp)
      | false =>
        rw [if_neg (by decide), d.2.1 i b q hb, k_bs1, k_01i]
        cases em : my i b with
        | false => rw [if_neg (by decide)]; exact skip (by rw [eBi, em]; rfl)
        | true =>
          rw [if_pos rfl, hp]
          have gB := g_stepB (E := g_dp ns nb op my) (w := g_wv pr w) (T := 1000) (b := b) (u := u) (M := Mx) (fun s e => g_wvB pr D.2.2.2 s b e) hM i
          have ou := g_or_lt hu q
          have wB := g_wvB (ns := ns) (nb := nb) (op := op) (my := my) pr D.2.2.2 i b (eBi.trans em)
          have mB := hM (u ||| 2 ^ i)
          have go : ∀ v, v = nI (g_wv pr w i) → k_ok (fX5_mostBy_74 σ h m (nI b) (nI u) (nI i) v (nI (g_step (g_dp ns nb op my) (g_wv pr w) b u Mx i))) (k_z (fun s' => i < ns ∧ s'.2 = nI (i + 1) ∧ s'.1 = nI (g_step (g_dp ns nb op my) (g_wv pr w) b u Mx (i + 1))) (fun r => r = nI (g_step (g_dp ns nb op my) (g_wv pr w) b u Mx 8))) := fun v ev => by
            subst ev
            unfold fX5_mostBy_74 fX5_mostBy_100
            rw [mr39 M, ml24 M, k_one i (by omega), k_or, show (256 : Int32) * nI b + 256 + nI (u ||| 2 ^ i) = nI (256 * b + 256 + (u ||| 2 ^ i)) by rw [show (256 : Int32) = nI 256 from rfl, pk_mul, nI_add, nI_add], q_gu_t (vp_in_nI (by omega) (by decide)), k_cl (by omega), hT _ ou, nI_add, m_greater (by omega) (by omega), k_bs1, nI_1]
            refine k_some ⟨q, rfl, ?_⟩
            dsimp only
            rw [stp, eBi, em, eu, if_pos (by rfl)]
          cases pr with
          | false => rw [if_pos (show (if false = true then (1 : Int32) else 0) = 0 from rfl)]; exact go 1 rfl
          | true => rw [if_neg (show ¬ (if true = true then (1 : Int32) else 0) = 0 by decide), d.2.2 i q, k_bs1]; exact go _ rfl
  · have : i = ns := by omega
    subst this
    rw [if_pos (nI_le (Nat.le_refl _) (by omega))]
    refine k_some ?_
    show nI _ = nI _
    rw [g_step_end (fun s hs => by rw [eB, decide_eq_false (by omega)]; rfl) 8 n8]
def k_tb2 (h : q_Hp) (m ns nb c : Nat) (E : Nat → Nat → Bool) (w : Nat → Nat) : Prop := ∀ b, c ≤ b → b ≤ nb → ∀ u, u < 2 ^ ns → q_int h (m + 24) (256 * b + u) = nI (g_m E w nb (nb - b) u)
theorem m_layMost {σ : q_St} {h : q_Hp} {m ns nb : Nat} {op : Nat → Bool} {my : Nat → Nat → Bool} {w : Nat → Nat} {pr : Bool} (M : k_M σ m) (D : k_D σ h m ns nb op my w) (hp : q_int h m 35 = if pr then 1 else 0) : k_ok (fX5_layMost σ h m) (fun r => r.1 = nI (g_m (g_dp ns nb op my) (g_wv pr w) nb nb 0) ∧ k_tb2 r.2 m ns nb 0 (g_dp ns nb op my) (g_wv pr w) ∧ k_mf [] [24] m h r.2) := by
  have n8 := D.1.2
  have b7 := D.2.1.2
  have p2 := pw256 n8
  have wB := g_wvB (ns := ns) (nb := nb) (op := op) (my := my) pr D.2.2.2
  unfold fX5_layMost
  rw [mr39 M, q_gu_t (mt24 M)]
  refine k_bind (k_for (n := 256) (P := fun h' => (∀ u, u < 256 → q_int h' (m + 24) (256 * nb + u) = 0) ∧ k_mf [] [24] m h h') (fun i t => t.1 = nI i ∧ (∀ u, u < i → q_int t.2 (m + 24) (256 * nb + u) = 0) ∧ k_mf [] [24] m h t.2) (by rw [k_N]; omega) ⟨rfl, fun u hu => absurd hu (Nat.not_lt_zero _), mf_rf⟩ ?_) (fun h1 p => ?_)
  · rintro i ⟨x, h'⟩ hi ⟨e, hz, hg⟩
    dsimp only at e hz hg
    subst e
    show k_ok (fX5_layMost_2 σ m (nI i) h') _
    unfold fX5_layMost_2
    rcases Nat.lt_or_ge i 256 with q | q
    · rw [if_neg (k_geL (n := 256) (l := 256) rfl q (by decide)), mr39 M, ml24 M, hg.2.1 6 (by decide), D.2.1.1, show (256 : Int32) * nI nb + nI i = nI (256 * nb + i) by rw [show (256 : Int32) = nI 256 from rfl, pk_mul, nI_add], q_gu_t (vp_in_nI (by omega) (by decide)), k_cl (by omega), nI_1]
      refine k_some ⟨q, rfl, fun u hu => ?_, mf_ar hg (by decide) (by decide)⟩
      dsimp only
      by_cases e : u = i
      · subst e; rw [k_si_s]
      · rw [k_si_j (by omega)]; exact hz u (by omega)
    · have : i = 256 := by omega
      subst this
      rw [if_pos (k_leL (n := 256) (l := 256) rfl (Nat.le_refl _) (by decide))]
      exact k_some ⟨hz, hg⟩
  · refine k_bind (k_for (n := nb) (P := fun h' => k_tb2 h' m ns nb 0 (g_dp ns nb op my) (g_wv pr w) ∧ k_mf [] [24] m h h') (fun i t => t.1 = nI (nb - i) - 1 ∧ k_tb2 t.2 m ns nb (nb - i) (g_dp ns nb op my) (g_wv pr w) ∧ k_mf [] [24] m h t.2) (by rw [k_N]; omega) ⟨by rw [p.2.2.1 6 (by decide), D.2.1.1, Nat.sub_zero], fun b c1 c2 u hu => ?_, p.2⟩ ?_) (fun h2 p2' => ?_)
    · have : b = nb := by omega
      subst this
      show q_int h1 (m + 24) (256 * b + u) = _
      rw [p.1 u (by omega), Nat.sub_self]; rfl
    · rintro i ⟨x, h'⟩ hi ⟨e, hz, hg⟩
      dsimp only at e hz hg
      subst e
      show k_ok (fX5_layMost_38 σ m (nI (nb - i) - 1) h') _
      unfold fX5_layMost_38
      rcases Nat.lt_or_ge i nb with q | q
      · obtain ⟨b, eb⟩ : ∃ b, nb - i = b + 1 := ⟨nb - i - 1, by omega⟩
        rw [eb, nI_pred, if_neg (nI_pos (by omega))]
        rw [eb] at hz
        refine k_bind (k_for (n := 2 ^ ns) (P := fun h2 => k_tb2 h2 m ns nb b (g_dp ns nb op my) (g_wv pr w) ∧ k_mf [] [24] m h h2) (fun j t => t.1 = nI j ∧ k_tb2 t.2 m ns nb (b + 1) (g_dp ns nb op my) (g_wv pr w) ∧ (∀ u, u < j → q_int t.2 (m + 24) (256 * b + u) = nI (g_m (g_dp ns nb op my) (g_wv pr w) nb (nb - b) u)) ∧ k_mf [] [24] m h t.2) (by rw [k_N]; omega) ⟨rfl, hz, fun u hu => absurd hu (Nat.not_lt_zero _), hg⟩ ?_) (fun h3 p3 => ?_)
        · rintro j ⟨x, h2⟩ hj ⟨e, tz, ty, tg⟩
          dsimp only at e tz ty tg
          subst e
          show k_ok (fX5_layMost_44 σ m (nI b) (nI j) h2) _
          unfold fX5_layMost_44
          rw [tg.2.1 0 (by decide), D.1.1, k_one ns (by omega)]
          rcases Nat.lt_or_ge j (2 ^ ns) with q2 | q2
          · have mb := m_mostBy M (D_mf D (mf_mono tg (by simp) (by simp))) (by rw [tg.2.1 35 (by decide)]; exact hp) (show b < nb by omega) q2 (Mx := g_m (g_dp ns nb op my) (g_wv pr w) nb (nb - (b + 1))) (fun u hu => by
              have := tz (b + 1) (Nat.le_refl _) (by omega) u hu
              rw [show 256 * b + 256 + u = 256 * (b + 1) + u by omega]; exact this) (fun u => Nat.le_trans (g_mB wB _ _) (by omega))
            rw [if_neg (nI_ge q2 (by omega)), mb, k_bs1, mr39 M, ml24 M, show (256 : Int32) * nI b + nI j = nI (256 * b + j) by rw [show (256 : Int32) = nI 256 from rfl, pk_mul, nI_add], q_gu_t (vp_in_nI (by omega) (by decide)), k_cl (by omega), nI_1]
            refine k_some ⟨q2, rfl, fun c hc1 hc2 u hu => ?_, fun u hu => ?_, mf_ar tg (by decide) (by decide)⟩
            · dsimp only
              rw [k_si_j (by omega)]; exact tz c hc1 hc2 u hu
            · dsimp only
              by_cases e : u = j
              · subst e
                rw [k_si_s]
                have : nb - b = (nb - (b + 1)) + 1 := by omega
                rw [this]
                unfold g_m
                rw [show nb - (nb - (b + 1) + 1) = b by omega]
              · rw [k_si_j (by omega)]; exact ty u (by omega)
          · have : j = 2 ^ ns := by omega
            subst this
            rw [if_pos (nI_le (Nat.le_refl _) (by omega))]
            refine k_some ⟨fun c hc1 hc2 u hu => ?_, tg⟩
            by_cases e : c = b
            · subst e; exact ty u hu
            · exact tz c (by omega) hc2 u hu
        · refine k_some ⟨q, ?_, ?_, p3.2⟩
          · show nI b + -1 = nI (nb - (i + 1)) - 1
            rw [show nb - (i + 1) = b by omega]
            exact (Int32.sub_eq_add_neg _ _).symm
          · dsimp only
            rw [show nb - (i + 1) = b by omega]; exact p3.1
      · have : i = nb := by omega
        subst this
        rw [Nat.sub_self] at hz ⊢
        rw [if_pos (by decide)]
        exact k_some ⟨hz, hg⟩
    · rw [ml24 M, q_gu_t (show vp_in (0 : Int32) 2048 from vp_in_nI (n := 0) (by decide) (by decide))]
      refine k_some ⟨?_, p2'.1, p2'.2⟩
      have := p2'.1 0 (Nat.zero_le _) (Nat.zero_le _) 0 (Nat.two_pow_pos _)
      rw [Nat.sub_zero] at this
      exact this
