/-! what a statement does to the model -/
def t_lf : List Nat := [0, 6, 13, 14]
def t_rw : List Nat := [1, 2, 3, 4, 5, 6, 7, 8, 9, 10, 11]
theorem t_ifH {z : k_Z} (K : k_va z) (x y : Int32) : t_if (k_hires z x y) = if k_is x (z 0 0) && (k_is y (z 0 1) && ((z 11 y.toNatClampNeg == 9) && k_can z x.toNatClampNeg y.toNatClampNeg (z 0 2))) then some (k_hire z x.toNatClampNeg y.toNatClampNeg) else none := by
  have n7 := va_ns K
  have pe := va_pe K
  unfold t_if k_hires
  cases e1 : k_is x (z 0 0) with
  | false => rfl
  | true =>
    obtain ⟨s, hs, rfl⟩ := k_is_t (by omega) e1
    have pr := k_prB _ (va_k K hs) _ (va_f K hs)
    cases e2 : k_is y (z 0 1) with
    | false => rfl
    | true =>
      rw [k_cl (by omega)]
      cases e3 : ((z 11 y.toNatClampNeg == 9) && k_can z s y.toNatClampNeg (z 0 2)) with
      | false => rfl
      | true =>
        show (if 0 ≤ nI (z 0 2 + k_pr (z 1 s) (z 2 s)) then some (k_hire z s y.toNatClampNeg) else none) = some (k_hire z s y.toNatClampNeg)
        rw [if_pos (nI_pos' (by omega))]
theorem t_ifB {z : k_Z} (K : k_va z) (x : Int32) : t_if (k_backs z x) = if k_is x (z 0 0) && (z 5 x.toNatClampNeg == 1) then some (k_back z x.toNatClampNeg) else none := by
  have n7 := va_ns K
  unfold t_if k_backs
  cases e1 : k_is x (z 0 0) with
  | false => rfl
  | true =>
    obtain ⟨s, hs, rfl⟩ := k_is_t (by omega) e1
    rw [k_cl (by omega)]
    cases e3 : (z 5 s == 1) with
    | false => rfl
    | true =>
      have hb := (k_holds K hs (eq_of_beq e3)).1
      have b7 := va_nb K
      show (if 0 ≤ nI (k_holder z s) then some (k_back z s) else none) = some (k_back z s)
      rw [if_pos (nI_pos' (by omega))]
theorem t_ifC {z : k_Z} (K : k_va z) (x : Int32) : t_if (k_cleans z x) = if k_is x (z 0 0) && ((z 5 x.toNatClampNeg == 2) && decide (z 0 3 + k_ch (z 1 x.toNatClampNeg) (z 2 x.toNatClampNeg) ≤ 999)) then some (k_clean z x.toNatClampNeg) else none := by
  have n7 := va_ns K
  have ho := va_ho K
  unfold t_if k_cleans
  cases e1 : k_is x (z 0 0) with
  | false => rfl
  | true =>
    obtain ⟨s, hs, rfl⟩ := k_is_t (by omega) e1
    have ch := k_chB _ (va_k K hs) _ (va_f K hs)
    rw [k_cl (by omega)]
    cases e3 : ((z 5 s == 2) && decide (z 0 3 + k_ch (z 1 s) (z 2 s) ≤ 999)) with
    | false => rfl
    | true =>
      show (if 0 ≤ nI (z 0 3 + k_ch (z 1 s) (z 2 s)) then some (k_clean z s) else none) = some (k_clean z s)
      rw [if_pos (nI_pos' (by omega))]
def t_M (h : q_Hp) (m : Nat) (o : Option k_Z) (r : Int32 × q_Hp) : Prop := match o with
  | some z' => r.1 = 1 ∧ k_W r.2 m z' ∧ k_mf t_lf t_rw m h r.2
  | none => r.1 = 0 ∧ r.2 = h
theorem m_comesT {σ : q_St} {h : q_Hp} {m n p k : Nat} {t : Nat → Int32} {z : k_Z} (M : k_M σ m) (W : k_W h m z) (K : k_va z) (g : t_g t n p = true) (hk : k ≤ 49) (l19 : q_int h (m + 19) k = t_b t n p) (l20 : ∀ j, j < t_ct (t_b t n p) → q_int h (m + 20) (5 * k + j) = nI (t_to t n (t_b t n p) (p + 1) j)) : k_ok (fX5_comesTold σ h m (nI k)) (t_M h m (t_do t n z p)) := by
  have n7 := va_ns K
  have b7 := va_nb K
  have D0 := (t_gT g).1
  unfold fX5_comesTold t_do
  rw [mr5 M, mr27 M, mr28 M, q_gu_t ⟨mt20 M, mt19 M, mt5 M⟩, ml19 M, ml20 M, show (5 : Int32) * nI k = nI (5 * k) from pk_mul 5 k, nI_1, show nI (5 * k) + (2 : Int32) = nI (5 * k + 2) from nI_add _ 2, show nI (5 * k) + (3 : Int32) = nI (5 * k + 3) from nI_add _ 3, show nI (5 * k) + (4 : Int32) = nI (5 * k + 4) from nI_add _ 4, q_gu_t ⟨vp_in_nI (by omega) (by decide), vp_in_nI (by omega) (by decide), vp_in_nI (by omega) (by decide)⟩, k_cl (by omega), k_cl (by omega), k_cl (by omega), k_cl (by omega), k_cl (by omega), k_cl (by omega), l19]
  by_cases e1 : t_b t n p = 98
  · have ec : t_ct (t_b t n p) = 5 := by rw [e1]; decide
    rw [ec] at l20
    have D6 := t_D98 e1
    have n1 := t_n1 (i := 0) (w := 2) g (by omega)
    have n3 := t_n1 (i := 2) (w := 1) g (by omega)
    rw [show p + 1 + 0 = p + 1 by omega, show 10 ^ 2 = 100 by decide] at n1
    rw [show p + 1 + 2 = p + 3 by omega, Nat.pow_one] at n3
    have i0 : q_int h (m + 20) (5 * k) = nI (t_nm t n (p + 1) 2) := by
      have := l20 0 (by decide)
      unfold t_to at this
      rw [if_pos e1] at this; exact this
    have i1 : q_int h (m + 20) (5 * k + 1) = nI (t_nm t n (p + 3) 1) := by
      have := l20 1 (by decide)
      unfold t_to at this
      rw [if_pos e1] at this; exact this
    have i2 : q_int h (m + 20) (5 * k + 2) = nI (t_nm t n (p + 4) 1) := by
      have := l20 2 (by decide)
      unfold t_to at this
      rw [if_pos e1] at this; exact this
    have i3 : q_int h (m + 20) (5 * k + 3) = nI (t_nm t n (p + 5) 1) := by
      have := l20 3 (by decide)
      unfold t_to at this
      rw [if_pos e1] at this; exact this
    have i4 : q_int h (m + 20) (5 * k + 4) = nI (t_nm t n (p + 6) 1) := by
      have := l20 4 (by decide)
      unfold t_to at this
      rw [if_pos e1] at this; exact this
    rw [if_pos e1, if_pos e1, i0, i1, i2, i3, i4, q_gu_t ⟨vp_in_nI (by omega) (by decide), vp_in_nI (by omega) (by decide), vp_in_nI (by omega) (by decide)⟩]
    refine k_b2 (m_bookC M W K (by omega) (by omega)) (fun r7 h7 p7 => ?_)
    by_cases c : t_nm t n (p + 1) 2 ≤ 20 ∧ t_nm t n (p + 3) 1 < 4 ∧ z 0 1 < 7
    · rw [if_pos c] at p7 ⊢
      obtain ⟨q1, q2, q3⟩ := p7
      dsimp only at q1 q2 q3
      subst q1
      rw [q_gu_t (Or.inr rfl)]
      exact k_some ⟨rfl, q2, mf_mono q3 (by decide) (by decide)⟩
    · rw [if_neg c] at p7 ⊢
      cases p7
      rw [q_gu_t (Or.inl rfl)]
      exact k_some ⟨rfl, rfl⟩
  rw [if_neg e1, if_neg e1]
  by_cases e3 : t_b t n p = 104
  · have ec : t_ct (t_b t n p) = 2 := by rw [e3]; decide
    rw [ec] at l20
    have i0 : q_int h (m + 20) (5 * k) = nI (t_nm t n (p + 1) 1) := by
      have := l20 0 (by decide)
      unfold t_to at this
      rw [if_neg e1, if_pos e3] at this; exact this
    have i1 : q_int h (m + 20) (5 * k + 1) = nI (t_nm t n (p + 2) 1) := by
      have := l20 1 (by decide)
      unfold t_to at this
      rw [if_neg e1, if_pos e3] at this; exact this
    rw [if_pos e3, if_neg (show ¬ t_b t n p = 99 by rw [e3]; decide), if_pos e3, i0, i1, t_ifH K, m_isSuit W, k_bs1, k_01i]
    generalize nI (t_nm t n (p + 1) 1) = x
    generalize nI (t_nm t n (p + 2) 1) = y
    have no : k_ok (fX5_comesTold_159 σ h m (nI k) x y) (t_M h m none) := by
      unfold fX5_comesTold_159 fX5_comesTold_160
      rw [if_pos rfl, q_gu_t (Or.inl rfl)]
      exact k_some ⟨rfl, rfl⟩
    cases k1 : k_is x (z 0 0) with
    | false => exact no
    | true =>
    rw [if_pos rfl, m_isBooking W, k_bs1, k_01i]
    cases k2 : k_is y (z 0 1) with
    | false => exact no
    | true =>
    obtain ⟨s, hs, rfl⟩ := k_is_t (by omega) k1
    obtain ⟨b, hb, rfl⟩ := k_is_t (by omega) k2
    rw [if_pos rfl, m_can M W K hs hb, k_bs1, k_01i, k_cl (by omega), k_cl (by omega)]
    cases k3 : ((z 11 b == 9) && k_can z s b (z 0 2)) with
    | false => exact no
    | true =>
    rw [if_pos rfl, Bool.and_self, Bool.and_self, if_pos rfl]
    unfold fX5_comesTold_160
    rw [if_neg (by decide)]
    refine k_bind (m_hire M W K hs hb) (fun h2 p2 => ?_)
    rw [q_gu_t (Or.inr rfl)]
    exact k_some ⟨rfl, p2.1, mf_mono p2.2.2 (by decide) (by decide)⟩
  rw [if_neg e3]
  by_cases e4 : t_b t n p = 114
  · have ec : t_ct (t_b t n p) = 1 := by rw [e4]; decide
    rw [ec] at l20
    have i0 : q_int h (m + 20) (5 * k) = nI (t_nm t n (p + 1) 1) := by
      have := l20 0 (by decide)
      unfold t_to at this
      rw [if_neg e1, if_neg e3, if_neg (show ¬ t_b t n p = 115 by rw [e4]; decide)] at this; exact this
    rw [if_pos e4, if_neg (show ¬ t_b t n p = 99 by rw [e4]; decide), if_neg e3, if_pos e4, i0, t_ifB K, m_isSuit W, k_bs1, k_01i]
    generalize nI (t_nm t n (p + 1) 1) = x
    have no : k_ok (fX5_comesTold_199 σ h m (nI k) x) (t_M h m none) := by
      unfold fX5_comesTold_199 fX5_comesTold_200
      rw [if_pos rfl, q_gu_t (Or.inl rfl)]
      exact k_some ⟨rfl, rfl⟩
    cases k1 : k_is x (z 0 0) with
    | false => exact no
    | true =>
    obtain ⟨s, hs, rfl⟩ := k_is_t (by omega) k1
    have st := va_st K hs
    rw [if_pos rfl, ml5 M, q_gu_t (vp_in_nI (by omega) (by decide)), k_cl (by omega), w5 W hs]
    simp only [k_eqL (show (1 : Int32) = nI 1 from rfl) (show z 5 s < 2147483648 by omega) (show 1 < 2147483648 by decide)]
    by_cases c : z 5 s = 1
    · rw [if_pos c, beq_iff_eq.mpr c, Bool.and_self, if_pos rfl]
      unfold fX5_comesTold_200
      rw [if_neg (by decide)]
      refine k_bind (m_back M W K hs c) (fun h2 p2 => ?_)
      rw [q_gu_t (Or.inr rfl)]
      exact k_some ⟨rfl, p2.1, mf_mono p2.2 (by decide) (by decide)⟩
    · rw [if_neg c, beq_false_of_ne c]
      exact no
  rw [if_neg e4]
  by_cases e5 : t_b t n p = 115
  · have ec : t_ct (t_b t n p) = 4 := by rw [e5]; decide
    have D6 : t_D t n p = 6 := by unfold t_D; rw [e5]; decide
    rw [ec] at l20
    have n1 := t_n1 (i := 0) (w := 1) g (by omega)
    have n3 := t_n1 (i := 2) (w := 2) g (by omega)
    rw [show p + 1 + 0 = p + 1 by omega, Nat.pow_one] at n1
    rw [show p + 1 + 2 = p + 3 by omega, show 10 ^ 2 = 100 by decide] at n3
    have i0 : q_int h (m + 20) (5 * k) = nI (t_nm t n (p + 1) 1) := by
      have := l20 0 (by decide)
      unfold t_to at this
      rw [if_neg e1, if_neg e3, if_pos e5] at this; exact this
    have i1 : q_int h (m + 20) (5 * k + 1) = nI (t_nm t n (p + 2) 1) := by
      have := l20 1 (by decide)
      unfold t_to at this
      rw [if_neg e1, if_neg e3, if_pos e5] at this; exact this
    have i2 : q_int h (m + 20) (5 * k + 2) = nI (t_nm t n (p + 3) 2) := by
      have := l20 2 (by decide)
      unfold t_to at this
      rw [if_neg e1, if_neg e3, if_pos e5] at this; exact this
    have i3 : q_int h (m + 20) (5 * k + 3) = nI (t_nm t n (p + 5) 2) := by
      have := l20 3 (by decide)
      unfold t_to at this
      rw [if_neg e1, if_neg e3, if_pos e5] at this; exact this
    rw [if_pos e5, if_neg (show ¬ t_b t n p = 99 by rw [e5]; decide), if_neg e3, if_neg e4, i0, i1, i2, i3, q_gu_t ⟨vp_in_nI (by omega) (by decide), vp_in_nI (by omega) (by decide)⟩]
    refine k_b2 (m_suitC M W K (by omega) (by omega)) (fun r7 h7 p7 => ?_)
    by_cases c : t_nm t n (p + 1) 1 < 8 ∧ t_nm t n (p + 3) 2 ≤ 20 ∧ z 0 0 < 7
    · rw [if_pos c] at p7 ⊢
      obtain ⟨q1, q2, q3⟩ := p7
      dsimp only at q1 q2 q3
      subst q1
      rw [q_gu_t (Or.inr rfl)]
      exact k_some ⟨rfl, q2, mf_mono q3 (by decide) (by decide)⟩
    · rw [if_neg c] at p7 ⊢
      cases p7
      rw [q_gu_t (Or.inl rfl)]
      exact k_some ⟨rfl, rfl⟩
  rw [if_neg e5]
  have e2 : t_b t n p = 99 := by
    rcases Decidable.em (t_b t n p = 99) with q | q
    · exact q
    · exact absurd (t_letter D0 e1 q e3 e4).1 e5
  have ec : t_ct (t_b t n p) = 1 := by rw [e2]; decide
  rw [ec] at l20
  have i0 : q_int h (m + 20) (5 * k) = nI (t_nm t n (p + 1) 1) := by
    have := l20 0 (by decide)
    unfold t_to at this
    rw [if_neg e1, if_neg e3, if_neg e5] at this; exact this
  rw [if_pos e2, i0, t_ifC K, m_isSuit W, k_bs1, k_01i]
  generalize nI (t_nm t n (p + 1) 1) = x
  have no : k_ok (fX5_comesTold_235 σ h m (nI k) x) (t_M h m none) := by
    unfold fX5_comesTold_235 fX5_comesTold_236
    rw [if_pos rfl, q_gu_t (Or.inl rfl)]
    exact k_some ⟨rfl, rfl⟩
  cases k1 : k_is x (z 0 0) with
  | false => exact no
  | true =>
  obtain ⟨s, hs, rfl⟩ := k_is_t (by omega) k1
  rw [if_pos rfl, m_cleanB M W K hs, k_bs1, k_01i, k_cl (by omega)]
  cases k3 : ((z 5 s == 2) && decide (z 0 3 + k_ch (z 1 s) (z 2 s) ≤ 999)) with
  | false => exact no
  | true =>
  rw [if_pos rfl, Bool.and_self, if_pos rfl]
  unfold fX5_comesTold_236
  rw [if_neg (by decide)]
  refine k_bind (m_clean M W K hs) (fun h2 p2 => ?_)
  rw [q_gu_t (Or.inr rfl)]
  exact k_some ⟨rfl, p2.1, mf_mono p2.2.2 (by decide) (by decide)⟩
