/-! the same of the model -/
theorem m_holder {σ : q_St} {h : q_Hp} {m : Nat} {z : k_Z} (M : k_M σ m) (W : k_W h m z) (K : k_va z) {s : Nat} (hs : s < z 0 0) (h1 : z 5 s = 1) : fX5_bookingOf σ h m (nI s) = some (nI (k_holder z s)) := by
  have n7 := va_ns K
  have b7 := va_nb K
  obtain ⟨hb, hz⟩ := k_holds K hs h1
  have hu : ∀ c, c < z 0 1 → z 11 c = s → c = k_holder z s := fun c hc q => K.2.2.2.1 c _ hc hb (by rw [q, hz]) (by omega)
  unfold fX5_bookingOf
  rw [mr12 M, q_gu_t (mt11 M)]
  refine k_eq (k_bind (P := fun o => o = nI (k_holder z s)) (k_for (n := z 0 1) (fun i t => t = (if k_holder z s < i then nI (k_holder z s) else -4, nI i)) (by rw [k_N]; omega) rfl ?_) (fun o ho => by subst ho; exact k_some rfl))
  intro i t hi e
  subst e
  show k_ok (fX5_bookingOf_5 σ h m (nI s) (if k_holder z s < i then nI (k_holder z s) else -4) (nI i)) _
  rcases Nat.lt_or_ge i (z 0 1) with q | q
  · have ha := va_ha9 K q
    simp only [fX5_bookingOf_28, fX5_bookingOf_5, w_nb W, mr12 M, if_neg (nI_ge q (show z 0 1 < 2 ^ 31 by omega)), ml11 M, k_vi (show i < 7 by omega) (show 7 < 2147483648 by decide), k_guT, k_cl (show i < 2147483648 by omega), w11 W q, k_eqL rfl (show z 11 i < 2147483648 by omega) (show s < 2147483648 by omega)]
    by_cases e : z 11 i = s
    · have := hu i q e
      rw [if_pos e]
      refine k_some ⟨q, ?_⟩
      rw [if_pos (by omega), nI_1, this]
    · rw [if_neg e]
      refine k_some ⟨q, ?_⟩
      have : i ≠ k_holder z s := fun q2 => e (by rw [q2]; exact hz)
      rw [nI_1]
      congr 1
      by_cases q3 : k_holder z s < i
      · rw [if_pos q3, if_pos (by omega)]
      · rw [if_neg q3, if_neg (by omega)]
  · have : i = z 0 1 := by omega
    subst this
    simp only [fX5_bookingOf_28, fX5_bookingOf_5, w_nb W, if_pos (nI_le (Nat.le_refl (z 0 1)) (show z 0 1 < 2 ^ 31 by omega))]
    refine k_some ?_
    show (if k_holder z s < z 0 1 then nI (k_holder z s) else -4) = _
    rw [if_pos hb]
theorem m_hire {σ : q_St} {h : q_Hp} {m : Nat} {z : k_Z} (M : k_M σ m) (W : k_W h m z) (K : k_va z) {s b : Nat} (hs : s < z 0 0) (hb : b < z 0 1) : k_ok (fX5_hire σ h m (nI s) (nI b)) (fun h' => k_W h' m (k_hire z s b) ∧ q_int h' m 13 = nI (z 0 2 + k_pr (z 1 s) (z 2 s)) ∧ k_mf [13] [4, 5, 11] m h h') := by
  have n7 := va_ns K
  have b7 := va_nb K
  have wo := va_wo K hs
  unfold fX5_hire
  simp only [mr5 M, mr12 M, mr4 M, mt5 M, mt11 M, mt4 M, ml5 M, ml11 M, ml4 M, and_self, k_guT, k_vi (show s < 8 by omega) (show 8 < 2147483648 by decide), k_vi (show b < 7 by omega) (show 7 < 2147483648 by decide), k_cl (show s < 2147483648 by omega), k_cl (show b < 2147483648 by omega)]
  have W1 : k_W (q_si h (m + 5) s 1) m (k_zu z 5 s 1) := W_put (r := 5) (v := 1) W (by omega)
  have W2 : k_W (q_si (q_si h (m + 5) s 1) (m + 11) b (nI s)) m (k_zu (k_zu z 5 s 1) 11 b s) := W_put (r := 11) W1 (by omega)
  have A2 : k_mf [13] [4, 5, 11] m h (q_si (q_si h (m + 5) s 1) (m + 11) b (nI s)) := mf_ar (mf_ar mf_rf (by decide) (by decide)) (by decide) (by decide)
  generalize q_si (q_si h (m + 5) s 1) (m + 11) b (nI s) = h2 at W2 A2 ⊢
  generalize ez : k_zu (k_zu z 5 s 1) 11 b s = z2 at W2
  have f0 : z2 0 0 = z 0 0 := by rw [← ez]; simp [k_zu]
  have f1 : z2 1 s = z 1 s := by rw [← ez]; simp [k_zu]
  have f2 : z2 2 s = z 2 s := by rw [← ez]; simp [k_zu]
  have f4 : z2 4 s = z 4 s := by rw [← ez]; simp [k_zu]
  have fp : z2 0 2 = z 0 2 := by rw [← ez]; simp [k_zu]
  have ep : fX5_priceOf σ h2 m (nI s) = some (nI (k_pr (z 1 s) (z 2 s))) := by
    unfold fX5_priceOf
    simp only [mr1 M, mr2 M, mt1 M, mt2 M, ml1 M, ml2 M, and_self, k_guT, k_vi (show s < 8 by omega) (show 8 < 2147483648 by decide), k_cl (show s < 2147483648 by omega), w1 W2 (show s < z2 0 0 by omega), w2 W2 (show s < z2 0 0 by omega), f1, f2, m_price _ (va_k K hs) _ (va_f K hs), k_bs1]
  have W3 : k_W (q_si h2 m 13 (nI (z 0 2 + k_pr (z 1 s) (z 2 s)))) m (k_zu z2 0 2 (z 0 2 + k_pr (z 1 s) (z 2 s))) := W_pe W2
  have A3 : k_mf [13] [4, 5, 11] m h (q_si h2 m 13 (nI (z 0 2 + k_pr (z 1 s) (z 2 s)))) := mf_fi A2 (by decide)
  have P3 : q_int (q_si h2 m 13 (nI (z 0 2 + k_pr (z 1 s) (z 2 s)))) m 13 = nI (z 0 2 + k_pr (z 1 s) (z 2 s)) := k_si_s
  have R3 : q_int (q_si h2 m 13 (nI (z 0 2 + k_pr (z 1 s) (z 2 s)))) (m + 4) s = nI (z 4 s) := by
    rw [k_si_n (by omega), w4 W2 (by omega), f4]
  rw [ep, k_bs1, w_pe W2, fp, nI_add]
  generalize q_si h2 m 13 (nI (z 0 2 + k_pr (z 1 s) (z 2 s))) = h3 at W3 A3 P3 R3 ⊢
  have W4 : ∀ v, k_W (q_si h3 (m + 4) s (nI v)) m (k_zu (k_zu z2 0 2 (z 0 2 + k_pr (z 1 s) (z 2 s))) 4 s v) := fun v => W_put (r := 4) W3 (by omega)
  rw [R3]
  have e1 : (if nI (z 4 s) = (99 : Int32) then fX5_hire_57 σ h3 m (nI s) (nI b) 99 (nI s) (m + 4) else fX5_hire_57 σ h3 m (nI s) (nI b) (nI (z 4 s) + 1) (nI s) (m + 4)) = fX5_hire_57 σ h3 m (nI s) (nI b) (nI (min (z 4 s + 1) 99)) (nI s) (m + 4) := by
    by_cases e : z 4 s = 99
    · rw [if_pos (by rw [e]; rfl), e]; rfl
    · simp only [k_eqL (show (99 : Int32) = nI 99 from rfl) (show z 4 s < 2147483648 by omega) (show 99 < 2147483648 by decide), if_neg e, nI_1, Nat.min_eq_left (show z 4 s + 1 ≤ 99 by omega)]
  rw [e1]
  unfold fX5_hire_57
  rw [q_gu_t ⟨mt4 M, by rw [ml4 M]; exact vp_in_nI (by omega) (by decide)⟩, k_cl (by omega)]
  refine k_some ⟨?_, ?_, mf_ar A3 (by decide) (by decide)⟩
  · have := W4 (min (z 4 s + 1) 99)
    rw [k_zu_comm (by omega), ← ez] at this
    exact this
  · rw [k_si_n (by omega)]; exact P3
theorem m_back {σ : q_St} {h : q_Hp} {m : Nat} {z : k_Z} (M : k_M σ m) (W : k_W h m z) (K : k_va z) {s : Nat} (hs : s < z 0 0) (h1 : z 5 s = 1) : k_ok (fX5_comeBack σ h m (nI s)) (fun h' => k_W h' m (k_back z s) ∧ k_mf [] [5, 11] m h h') := by
  have n7 := va_ns K
  have b7 := va_nb K
  obtain ⟨hb, hz⟩ := k_holds K hs h1
  unfold fX5_comeBack
  simp only [mr5 M, mr12 M, mt5 M, mt11 M, and_self, k_guT, m_holder M W K hs h1, k_bs1, ml5 M, ml11 M, k_vi (show s < 8 by omega) (show 8 < 2147483648 by decide), k_vi (show k_holder z s < 7 by omega) (show 7 < 2147483648 by decide), k_cl (show s < 2147483648 by omega), k_cl (show k_holder z s < 2147483648 by omega)]
  have W1 : k_W (q_si h (m + 11) (k_holder z s) 9) m (k_zu z 11 (k_holder z s) 9) := W_put (r := 11) (v := 9) W (by omega)
  have W2 := W_put (r := 5) (i := s) (v := 2) W1 (by omega)
  rw [k_zu_comm (by omega)] at W2
  exact k_some ⟨W2, mf_ar (mf_ar mf_rf (by decide) (by decide)) (by decide) (by decide)⟩
theorem m_cleanB {σ : q_St} {h : q_Hp} {m : Nat} {z : k_Z} (M : k_M σ m) (W : k_W h m z) (K : k_va z) {s : Nat} (hs : s < z 0 0) : fX5_canClean σ h m (nI s) = some (if (z 5 s == 2) && decide (z 0 3 + k_ch (z 1 s) (z 2 s) ≤ 999) then 1 else 0) := by
  have n7 := va_ns K
  have st := va_st K hs
  have ho := va_ho K
  have ch := k_chB _ (va_k K hs) _ (va_f K hs)
  unfold fX5_canClean
  simp only [mr5 M, mt5 M, ml5 M, k_guT, k_vi (show s < 8 by omega) (show 8 < 2147483648 by decide), k_cl (show s < 2147483648 by omega), w5 W hs, m_cleans M W K hs, k_bs1, w_ho W, nI_add, k_eqL (show (2 : Int32) = nI 2 from rfl) (show z 5 s < 2147483648 by omega) (show 2 < 2147483648 by decide), k_lt1 (show (999 : Int32) = nI 999 from rfl) (show z 0 3 + k_ch (z 1 s) (z 2 s) < 2147483648 by omega) (show 999 < 2147483648 by decide)]
  by_cases e1 : z 5 s = 2
  · rw [if_pos e1]
    by_cases e2 : z 0 3 + k_ch (z 1 s) (z 2 s) ≤ 999
    · rw [if_neg (by omega)]; simp [e1, e2]
    · rw [if_pos (by omega)]; simp [e2]
  · rw [if_neg e1]; simp [e1]
theorem m_clean {σ : q_St} {h : q_Hp} {m : Nat} {z : k_Z} (M : k_M σ m) (W : k_W h m z) (K : k_va z) {s : Nat} (hs : s < z 0 0) : k_ok (fX5_clean σ h m (nI s)) (fun h' => k_W h' m (k_clean z s) ∧ q_int h' m 14 = nI (z 0 3 + k_ch (z 1 s) (z 2 s)) ∧ k_mf [14] [5] m h h') := by
  have n7 := va_ns K
  unfold fX5_clean
  simp only [mr5 M, mt5 M, ml5 M, k_guT, k_vi (show s < 8 by omega) (show 8 < 2147483648 by decide), k_cl (show s < 2147483648 by omega)]
  have W1 : k_W (q_si h (m + 5) s 0) m (k_zu z 5 s 0) := W_put (r := 5) (v := 0) W (by omega)
  have A1 : k_mf [14] [5] m h (q_si h (m + 5) s 0) := mf_ar mf_rf (by decide) (by decide)
  generalize q_si h (m + 5) s 0 = h2 at W1 A1 ⊢
  generalize ez : k_zu z 5 s 0 = z2 at W1
  have f0 : z2 0 0 = z 0 0 := by rw [← ez]; simp [k_zu]
  have f1 : z2 1 s = z 1 s := by rw [← ez]; simp [k_zu]
  have f2 : z2 2 s = z 2 s := by rw [← ez]; simp [k_zu]
  have fp : z2 0 3 = z 0 3 := by rw [← ez]; simp [k_zu]
  have ep : fX5_cleansOf σ h2 m (nI s) = some (nI (k_ch (z 1 s) (z 2 s))) := by
    unfold fX5_cleansOf
    rw [mr1 M, mr2 M, q_gu_t ⟨mt1 M, mt2 M⟩, ml1 M, ml2 M, q_gu_t (vp_in_nI (by omega) (by decide)), q_gu_t (vp_in_nI (by omega) (by decide)), k_cl (by omega), w1 W1 (by omega), w2 W1 (by omega), f1, f2]
    exact k_chC _ (va_k K hs) _ (va_f K hs)
  rw [ep, k_bs1, w_ho W1, fp, nI_add]
  refine k_some ⟨?_, k_si_s, mf_fi A1 (by decide)⟩
  have := W_ho (v := z 0 3 + k_ch (z 1 s) (z 2 s)) W1
  rw [← ez] at this
  exact this
theorem W_th {h : q_Hp} {m : Nat} {z : k_Z} {v : Int32} (W : k_W h m z) : k_W (q_si h m 21 v) m z := W_mf W (mf_fi (L := [21]) (R := []) mf_rf (by decide)) (by decide) (fun _ _ _ => by simp)
theorem mf_th {h : q_Hp} {m : Nat} {v : Int32} {L R : List Nat} (hL : 21 ∈ L) : k_mf L R m h (q_si h m 21 v) := mf_fi mf_rf hL
theorem m_hires {σ : q_St} {h : q_Hp} {m : Nat} {z : k_Z} (M : k_M σ m) (W : k_W h m z) (K : k_va z) (x y : Int32) : k_ok (fX5_hires σ h m x y) (fun r => r.1 = (k_hires z x y).1 ∧ k_W r.2 m (k_hires z x y).2 ∧ k_mf [13, 21] [4, 5, 11] m h r.2) := by
  have n7 := va_ns K
  have b7 := va_nb K
  unfold fX5_hires
  have W1 : k_W (q_si h m 21 0) m z := W_th W
  have A1 : k_mf [13, 21] [4, 5, 11] m h (q_si h m 21 0) := mf_th (by decide)
  generalize q_si h m 21 0 = h1 at W1 A1 ⊢
  rw [m_isSuit W1, k_bs1, k_01i, m_isBooking W1, k_bs1, k_01i]
  cases ex : k_is x (z 0 0) with
  | false => exact k_some ⟨by simp [k_hires, ex], by simpa [k_hires, ex] using W1, A1⟩
  | true =>
    cases ey : k_is y (z 0 1) with
    | false => exact k_some ⟨by simp [k_hires, ey], by simpa [k_hires, ey] using W1, A1⟩
    | true =>
      obtain ⟨s, hs, rfl⟩ := k_is_t (by omega) ex
      obtain ⟨b, hb, rfl⟩ := k_is_t (by omega) ey
      have e0 : k_hires z (nI s) (nI b) = if (z 11 b == 9) && k_can z s b (z 0 2) then (nI (z 0 2 + k_pr (z 1 s) (z 2 s)), k_hire z s b) else (-3, z) := by
        unfold k_hires
        rw [ex, ey, k_cl (by omega), k_cl (by omega)]; rfl
      rw [e0, if_pos rfl, if_pos rfl, m_can M W1 K hs hb, k_bs1, k_01i]
      cases ec : (z 11 b == 9) && k_can z s b (z 0 2) with
      | false => exact k_some ⟨rfl, W1, A1⟩
      | true =>
        exact k_bind (m_hire M W1 K hs hb) (fun h2 p => k_some ⟨p.2.1, p.1, mf_tr A1 (mf_mono p.2.2 (by decide) (by decide))⟩)
theorem m_returns {σ : q_St} {h : q_Hp} {m : Nat} {z : k_Z} (M : k_M σ m) (W : k_W h m z) (K : k_va z) (x : Int32) : k_ok (fX5_returns σ h m x) (fun r => r.1 = (k_backs z x).1 ∧ k_W r.2 m (k_backs z x).2 ∧ k_mf [21] [5, 11] m h r.2) := by
  have n7 := va_ns K
  unfold fX5_returns
  have W1 : k_W (q_si h m 21 0) m z := W_th W
  have A1 : k_mf [21] [5, 11] m h (q_si h m 21 0) := mf_th (by decide)
  generalize q_si h m 21 0 = h1 at W1 A1 ⊢
  rw [mr5 M, q_gu_t (mt5 M), m_isSuit W1, k_bs1, k_01i]
  cases ex : k_is x (z 0 0) with
  | false => exact k_some ⟨by simp [k_backs, ex], by simpa [k_backs, ex] using W1, A1⟩
  | true =>
    obtain ⟨s, hs, rfl⟩ := k_is_t (by omega) ex
    have st := va_st K hs
    have e0 : k_backs z (nI s) = if z 5 s == 1 then (nI (k_holder z s), k_back z s) else (-3, z) := by
      unfold k_backs
      rw [ex, k_cl (by omega)]; rfl
    rw [e0, if_pos rfl]
    simp only [ml5 M, k_vi (show s < 8 by omega) (show 8 < 2147483648 by decide), k_guT, k_cl (show s < 2147483648 by omega), w5 W1 hs, k_eqL (show (1 : Int32) = nI 1 from rfl) (show z 5 s < 2147483648 by omega) (show 1 < 2147483648 by decide)]
    by_cases e1 : z 5 s = 1
    · rw [if_pos e1, if_pos (by simp [e1]), m_holder M W1 K hs e1, k_bs1]
      exact k_bind (m_back M W1 K hs e1) (fun h2 p => k_some ⟨rfl, p.1, mf_tr A1 (mf_mono p.2 (by decide) (by decide))⟩)
    · rw [if_neg e1, if_neg (by simp [e1])]
      exact k_some ⟨rfl, W1, A1⟩
theorem m_cleansO {σ : q_St} {h : q_Hp} {m : Nat} {z : k_Z} (M : k_M σ m) (W : k_W h m z) (K : k_va z) (x : Int32) : k_ok (fX5_cleans σ h m x) (fun r => r.1 = (k_cleans z x).1 ∧ k_W r.2 m (k_cleans z x).2 ∧ k_mf [14, 21] [5] m h r.2) := by
  have n7 := va_ns K
  unfold fX5_cleans
  have W1 : k_W (q_si h m 21 0) m z := W_th W
  have A1 : k_mf [14, 21] [5] m h (q_si h m 21 0) := mf_th (by decide)
  generalize q_si h m 21 0 = h1 at W1 A1 ⊢
  rw [m_isSuit W1, k_bs1, k_01i]
  cases ex : k_is x (z 0 0) with
  | false => exact k_some ⟨by simp [k_cleans, ex], by simpa [k_cleans, ex] using W1, A1⟩
  | true =>
    obtain ⟨s, hs, rfl⟩ := k_is_t (by omega) ex
    have e0 : k_cleans z (nI s) = if (z 5 s == 2) && decide (z 0 3 + k_ch (z 1 s) (z 2 s) ≤ 999) then (nI (z 0 3 + k_ch (z 1 s) (z 2 s)), k_clean z s) else (-3, z) := by
      unfold k_cleans
      rw [ex, k_cl (by omega)]; rfl
    rw [e0, if_pos rfl, m_cleanB M W1 K hs, k_bs1, k_01i]
    cases ec : (z 5 s == 2) && decide (z 0 3 + k_ch (z 1 s) (z 2 s) ≤ 999) with
    | false => exact k_some ⟨rfl, W1, A1⟩
    | true => exact k_bind (m_clean M W1 K hs) (fun h2 p => k_some ⟨p.2.1, p.1, mf_tr A1 (mf_mono p.2.2 (by decide) (by decide))⟩)
