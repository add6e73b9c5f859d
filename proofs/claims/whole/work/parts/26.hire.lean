/-! hires, returns, cleans, one more suit, one more booking: what the class's shop and the model do -/
def k_out (P : Nat → Prop) : Nat → Prop := fun a => ¬ P a
/-- outside a shop at A -/
def k_oS (A : Nat) : Nat → Prop := fun a => ¬ (A ≤ a ∧ a ≤ A + 10)
theorem k_oS_n {A k : Nat} (hk : k ≤ 10) : ¬ k_oS A (A + k) := fun q => q ⟨by omega, by omega⟩
theorem k_oS_0 {A : Nat} : ¬ k_oS A A := fun q => q ⟨by omega, by omega⟩
def k_hires (z : k_Z) (x y : Int32) : Int32 × k_Z :=
  if k_is x (z 0 0) && k_is y (z 0 1) then
    if (z 11 y.toNatClampNeg == 9) && k_can z x.toNatClampNeg y.toNatClampNeg (z 0 2) then (nI (z 0 2 + k_pr (z 1 x.toNatClampNeg) (z 2 x.toNatClampNeg)), k_hire z x.toNatClampNeg y.toNatClampNeg) else (-3, z)
  else (-1, z)
def k_backs (z : k_Z) (x : Int32) : Int32 × k_Z :=
  if k_is x (z 0 0) then
    if z 5 x.toNatClampNeg == 1 then (nI (k_holder z x.toNatClampNeg), k_back z x.toNatClampNeg) else (-3, z)
  else (-1, z)
def k_cleans (z : k_Z) (x : Int32) : Int32 × k_Z :=
  if k_is x (z 0 0) then
    if (z 5 x.toNatClampNeg == 2) && decide (z 0 3 + k_ch (z 1 x.toNatClampNeg) (z 2 x.toNatClampNeg) ≤ 999) then (nI (z 0 3 + k_ch (z 1 x.toNatClampNeg) (z 2 x.toNatClampNeg)), k_clean z x.toNatClampNeg) else (-3, z)
  else (-1, z)
theorem va_hires {z : k_Z} (K : k_va z) (x y : Int32) : k_va (k_hires z x y).2 := by
  have n7 := va_ns K
  have b7 := va_nb K
  unfold k_hires
  split
  · next h =>
    simp only [Bool.and_eq_true] at h
    obtain ⟨s, hs, rfl⟩ := k_is_t (by omega) h.1
    obtain ⟨b, hb, rfl⟩ := k_is_t (by omega) h.2
    rw [k_cl (by omega), k_cl (by omega)]
    split
    · next h2 =>
      simp only [Bool.and_eq_true, beq_iff_eq] at h2
      exact va_hire K hs hb h2.1 h2.2
    · exact K
  · exact K
theorem va_backs {z : k_Z} (K : k_va z) (x : Int32) : k_va (k_backs z x).2 := by
  have n7 := va_ns K
  unfold k_backs
  split
  · next h =>
    obtain ⟨s, hs, rfl⟩ := k_is_t (by omega) h
    rw [k_cl (by omega)]
    split
    · next h2 => exact va_back K hs (eq_of_beq h2)
    · exact K
  · exact K
theorem va_cleans {z : k_Z} (K : k_va z) (x : Int32) : k_va (k_cleans z x).2 := by
  have n7 := va_ns K
  unfold k_cleans
  split
  · next h =>
    obtain ⟨s, hs, rfl⟩ := k_is_t (by omega) h
    rw [k_cl (by omega)]
    split
    · next h2 =>
      simp only [Bool.and_eq_true, beq_iff_eq, decide_eq_true_eq] at h2
      exact va_clean K hs h2.1 h2.2
    · exact K
  · exact K
theorem k_min99 {w : Nat} (hw : w ≤ 99) : (if (99 : Int32) ≤ nI w then (99 : Int32) else nI w + 1) = nI (min (w + 1) 99) := by
  by_cases q : 99 ≤ w
  · rw [if_pos (k_leL (n := 99) (l := 99) rfl q (by omega)), Nat.min_eq_right (by omega)]; rfl
  · rw [if_neg (k_geL (n := 99) (l := 99) (a := w) rfl (by omega) (by omega)), Nat.min_eq_left (by omega), nI_1]
theorem c_hire {σ : q_St} {h : q_Hp} {A : Nat} {z : k_Z} (V : k_V σ h A z) (K : k_va z) (x y : Int32) : k_ok (fX2_hire σ h A x y) (fun r => r.1 = (k_hires z x y).1 ∧ k_V σ r.2 A (k_hires z x y).2 ∧ k_ag (k_oS A) h r.2) := by
  have S := vS V
  have n7 := va_ns K
  have b7 := va_nb K
  unfold fX2_hire
  rw [sr9 S, sr3 S, sr2 S, q_gu_t ⟨st10 S, st4 S, st3 S⟩, c_isSuit V, k_bs1, k_01i, c_isBooking V, k_bs1, k_01i]
  cases ex : k_is x (z 0 0) with
  | false => exact k_some ⟨by simp [k_hires, ex], by simpa [k_hires, ex] using V, k_ag_rf⟩
  | true =>
    cases ey : k_is y (z 0 1) with
    | false => exact k_some ⟨by simp [k_hires, ey], by simpa [k_hires, ey] using V, k_ag_rf⟩
    | true =>
      obtain ⟨s, hs, rfl⟩ := k_is_t (by omega) ex
      obtain ⟨b, hb, rfl⟩ := k_is_t (by omega) ey
      have pe := va_pe K
      have ha := va_ha9 K hb
      have wo := va_wo K hs
      simp only [if_true, c_at (sl10 S) (show b < 7 by omega) (by decide), k_bs1, v11 V hb, k_eqL (show (9 : Int32) = nI 9 from rfl) (show z 11 b < 2147483648 by omega) (show 9 < 2147483648 by decide), v_pe V, c_can V K hs hb (show z 0 2 < 1000000 by omega), k_01i]
      have e0 : k_hires z (nI s) (nI b) = if (z 11 b == 9) && k_can z s b (z 0 2) then (nI (z 0 2 + k_pr (z 1 s) (z 2 s)), k_hire z s b) else (-3, z) := by
        unfold k_hires
        rw [ex, ey, k_cl (by omega), k_cl (by omega)]; rfl
      rw [e0]
      by_cases e9 : z 11 b = 9
      · rw [if_pos e9]
        cases ec : k_can z s b (z 0 2) with
        | false => exact k_some ⟨by simp [e9], by simpa [e9] using V, k_ag_rf⟩
        | true =>
          have e9b : (z 11 b == 9) = true := by simp [e9]
          rw [if_pos rfl, if_pos (by rw [e9b]; rfl), c_set (sl4 S) (show s < 7 by omega) (by decide), k_bs1, c_set (sl10 S) (show b < 7 by omega) (by decide), k_bs1, c_at (sl3 S) (show s < 7 by omega) (by decide), k_bs1, k_bs1]
          have V1 : k_V σ (q_si h (A + 4) s 1) A (k_zu z 5 s 1) := V_put (r := 5) (v := 1) V (by omega)
          have V2 : k_V σ (q_si (q_si h (A + 4) s 1) (A + 10) b (nI s)) A (k_zu (k_zu z 5 s 1) 11 b s) := V_put (r := 11) V1 (by omega)
          have A2 : k_ag (k_oS A) h (q_si (q_si h (A + 4) s 1) (A + 10) b (nI s)) := k_ag_si (k_ag_si k_ag_rf (k_oS_n (by omega))) (k_oS_n (by omega))
          have r4 : q_int (q_si (q_si h (A + 4) s 1) (A + 10) b (nI s)) (A + 3) s = nI (z 4 s) := by
            rw [k_si_n (by omega), k_si_n (by omega)]; exact v4 V hs
          rw [r4]
          have e1 : (if (99 : Int32) ≤ nI (z 4 s) then fX2_hire_98 σ (q_si (q_si h (A + 4) s 1) (A + 10) b (nI s)) A (nI s) (nI b) 99 (nI s) (A + 3) else fX2_hire_98 σ (q_si (q_si h (A + 4) s 1) (A + 10) b (nI s)) A (nI s) (nI b) (nI (z 4 s) + 1) (nI s) (A + 3)) = fX2_hire_98 σ (q_si (q_si h (A + 4) s 1) (A + 10) b (nI s)) A (nI s) (nI b) (nI (min (z 4 s + 1) 99)) (nI s) (A + 3) := by
            rw [← k_min99 wo]; split <;> rfl
          rw [e1]
          generalize q_si (q_si h (A + 4) s 1) (A + 10) b (nI s) = h2 at V2 A2 ⊢
          unfold fX2_hire_98
          have V3 : k_V σ (q_si h2 (A + 3) s (nI (min (z 4 s + 1) 99))) A (k_zu (k_zu (k_zu z 5 s 1) 11 b s) 4 s (min (z 4 s + 1) 99)) := V_put (r := 4) V2 (by omega)
          have A3 : k_ag (k_oS A) h (q_si h2 (A + 3) s (nI (min (z 4 s + 1) 99))) := k_ag_si A2 (k_oS_n (by omega))
          rw [q_gu_t (st3 S), c_set (sl3 S) (show s < 7 by omega) (by decide), k_bs1]
          generalize q_si h2 (A + 3) s (nI (min (z 4 s + 1) 99)) = h3 at V3 A3 ⊢
          generalize ez : k_zu (k_zu (k_zu z 5 s 1) 11 b s) 4 s (min (z 4 s + 1) 99) = z3 at V3
          have f0 : z3 0 0 = z 0 0 := by rw [← ez]; simp [k_zu]
          have f1 : z3 1 s = z 1 s := by rw [← ez]; simp [k_zu]
          have f2 : z3 2 s = z 2 s := by rw [← ez]; simp [k_zu]
          have fp : z3 0 2 = z 0 2 := by rw [← ez]; simp [k_zu]
          have U := v_su V3 (s := s) (by omega)
          have ek : fX2_kindOf σ h3 A (nI s) = some (q_ref σ (A + 1) s) := by
            have := c_kindOf V K hs
            unfold fX2_kindOf at this ⊢
            exact this
          rw [ek, k_bs1, q_gu_t (sut U), v_pe V3, su2 U, f1, f2, fp, nI_add]
          refine k_some ⟨k_si_s, ?_, k_ag_si A3 k_oS_0⟩
          have V4 := V_sc (j := 2) (v := z 0 2 + k_pr (z 1 s) (z 2 s)) V3 (Or.inl rfl)
          rw [← ez] at V4
          exact V4
      · rw [if_neg e9]
        exact k_some ⟨by simp [e9], by simpa [e9] using V, k_ag_rf⟩
theorem c_holder {σ : q_St} {h : q_Hp} {A : Nat} {z : k_Z} (V : k_V σ h A z) (K : k_va z) {s : Nat} (hs : s < z 0 0) (h1 : z 5 s = 1) : fX2_holderOf σ h A (nI s) = some (nI (k_holder z s)) := by
  have S := vS V
  have n7 := va_ns K
  have b7 := va_nb K
  obtain ⟨hb, hz⟩ := k_holds K hs h1
  have hn : ∀ c, c < k_holder z s → z 11 c ≠ s := fun c hc q => by
    have := fa_first_no (fun b => z 11 b == s) (z 0 1) c hc
    simp [q] at this
  unfold fX2_holderOf
  rw [sr9 S, q_gu_t (st10 S)]
  refine k_eq (k_bind (P := fun o => o = .inr (nI (k_holder z s))) (k_for (n := k_holder z s) (fun i s => s = nI i) (by rw [k_N]; omega) rfl ?_) (fun o ho => by subst ho; exact k_some rfl))
  intro i t hi e
  subst e
  have hib : i < z 0 1 := by omega
  have ha := va_ha9 K hib
  simp only [fX2_holderOf_2, v_nb V, sr9 S, if_neg (nI_ge hib (show z 0 1 < 2 ^ 31 by omega)), c_at (sl10 S) (show i < 7 by omega) (by decide), k_bs1, v11 V hib, k_eqL rfl (show z 11 i < 2147483648 by omega) (show s < 2147483648 by omega)]
  rcases Nat.lt_or_ge i (k_holder z s) with q | q
  · rw [if_neg (hn i q)]
    exact k_some ⟨q, nI_1 i⟩
  · have : i = k_holder z s := by omega
    subst this
    rw [if_pos hz]
    exact k_some rfl
theorem c_back {σ : q_St} {h : q_Hp} {A : Nat} {z : k_Z} (V : k_V σ h A z) (K : k_va z) (x : Int32) : k_ok (fX2_giveBack σ h A x) (fun r => r.1 = (k_backs z x).1 ∧ k_V σ r.2 A (k_backs z x).2 ∧ k_ag (k_oS A) h r.2) := by
  have S := vS V
  have n7 := va_ns K
  have b7 := va_nb K
  unfold fX2_giveBack
  rw [sr9 S, sr3 S, q_gu_t ⟨st4 S, st10 S⟩, c_isSuit V, k_bs1, k_01i]
  cases ex : k_is x (z 0 0) with
  | false => exact k_some ⟨by simp [k_backs, ex], by simpa [k_backs, ex] using V, k_ag_rf⟩
  | true =>
    obtain ⟨s, hs, rfl⟩ := k_is_t (by omega) ex
    have st := va_st K hs
    have e0 : k_backs z (nI s) = if z 5 s == 1 then (nI (k_holder z s), k_back z s) else (-3, z) := by
      unfold k_backs
      rw [ex, k_cl (by omega)]; rfl
    rw [e0]
    simp only [if_true, c_at (sl4 S) (show s < 7 by omega) (by decide), k_bs1, v5 V hs, k_eqL (show (1 : Int32) = nI 1 from rfl) (show z 5 s < 2147483648 by omega) (show 1 < 2147483648 by decide)]
    by_cases e1 : z 5 s = 1
    · obtain ⟨hb, hz⟩ := k_holds K hs e1
      rw [if_pos e1, if_pos (by simp [e1]), c_holder V K hs e1, k_bs1, c_set (sl4 S) (show s < 7 by omega) (by decide), k_bs1, c_set (sl10 S) (show k_holder z s < 7 by omega) (by decide), k_bs1]
      have V1 : k_V σ (q_si h (A + 4) s 2) A (k_zu z 5 s 2) := V_put (r := 5) (v := 2) V (by omega)
      have V2 : k_V σ (q_si (q_si h (A + 4) s 2) (A + 10) (k_holder z s) 9) A (k_back z s) := V_put (r := 11) (v := 9) V1 (by omega)
      exact k_some ⟨rfl, V2, k_ag_si (k_ag_si k_ag_rf (k_oS_n (by omega))) (k_oS_n (by omega))⟩
    · rw [if_neg e1, if_neg (by simp [e1])]
      exact k_some ⟨rfl, V, k_ag_rf⟩
theorem c_clean {σ : q_St} {h : q_Hp} {A : Nat} {z : k_Z} (V : k_V σ h A z) (K : k_va z) (x : Int32) : k_ok (fX2_clean σ h A x) (fun r => r.1 = (k_cleans z x).1 ∧ k_V σ r.2 A (k_cleans z x).2 ∧ k_ag (k_oS A) h r.2) := by
  have S := vS V
  have n7 := va_ns K
  unfold fX2_clean
  rw [sr3 S, q_gu_t (st4 S), c_isSuit V, k_bs1, k_01i]
  cases ex : k_is x (z 0 0) with
  | false => exact k_some ⟨by simp [k_cleans, ex], by simpa [k_cleans, ex] using V, k_ag_rf⟩
  | true =>
    obtain ⟨s, hs, rfl⟩ := k_is_t (by omega) ex
    have st := va_st K hs
    have ho := va_ho K
    have ch := k_chB _ (va_k K hs) _ (va_f K hs)
    have e0 : k_cleans z (nI s) = if (z 5 s == 2) && decide (z 0 3 + k_ch (z 1 s) (z 2 s) ≤ 999) then (nI (z 0 3 + k_ch (z 1 s) (z 2 s)), k_clean z s) else (-3, z) := by
      unfold k_cleans
      rw [ex, k_cl (by omega)]; rfl
    rw [e0]
    simp only [if_true, c_kindOf V K hs, k_bs1, sut (v_su V hs), k_guT, c_at (sl4 S) (show s < 7 by omega) (by decide), v5 V hs, k_eqL (show (2 : Int32) = nI 2 from rfl) (show z 5 s < 2147483648 by omega) (show 2 < 2147483648 by decide), v_ho V, su4 (v_su V hs), nI_add, k_le2 (show (999 : Int32) = nI 999 from rfl) (show z 0 3 + k_ch (z 1 s) (z 2 s) < 2147483648 by omega) (show 999 < 2147483648 by decide)]
    by_cases e1 : z 5 s = 2
    · rw [if_pos e1]
      by_cases e2 : z 0 3 + k_ch (z 1 s) (z 2 s) ≤ 999
      · rw [if_pos e2, if_pos (by simp [e1, e2]), c_set (sl4 S) (show s < 7 by omega) (by decide), k_bs1]
        have V1 : k_V σ (q_si h (A + 4) s 0) A (k_zu z 5 s 0) := V_put (r := 5) (v := 0) V (by omega)
        have V2 := V_sc (j := 3) (v := z 0 3 + k_ch (z 1 s) (z 2 s)) V1 (Or.inr rfl)
        exact k_some ⟨k_si_s, V2, k_ag_si (k_ag_si k_ag_rf (k_oS_n (by omega))) k_oS_0⟩
      · rw [if_neg e2, if_neg (by simp [e2])]
        exact k_some ⟨rfl, V, k_ag_rf⟩
    · rw [if_neg e1, if_neg (by simp [e1])]
      exact k_some ⟨rfl, V, k_ag_rf⟩
