/-! what is read of a shop, and of the model -/
theorem k_bs1 {α β : Type} {a : α} {f : α → Option β} : (some a).bind f = f a := rfl
theorem k_eqL {a b : Nat} {l : Int32} (hl : l = nI b) (ha : a < 2147483648) (hb : b < 2147483648) : (nI a = l) = (a = b) := by
  subst hl; exact propext (nI_eq ha hb)
theorem k_ib {α : Type} {X Y : α} {c : Prop} [Decidable c] {p : Bool} (hc : c ↔ p = true) : (if c then X else Y) = (if p then X else Y) := by
  cases p with
  | true => rw [if_pos (hc.mpr rfl)]; rfl
  | false => rw [if_neg (fun q => nomatch hc.mp q)]; rfl
theorem k_01 (p : Bool) : ((if p then (1 : Int32) else 0) = 0) = (p = false) := by cases p <;> decide
theorem k_01b (p : Bool) : ((if p then (1 : Int32) else 0) = 0 ∨ (if p then (1 : Int32) else 0) = 1) = True := by cases p <;> decide
theorem k_01i {α : Type} {p : Bool} {X Y : α} : (if (if p then (1 : Int32) else 0) = 0 then X else Y) = (if p then Y else X) := by cases p <;> rfl
theorem k_isI (x : Int32) (n : Nat) : (if (0 : Int32) ≤ x ∧ x ≤ nI n - 1 then (1 : Int32) else 0) = if k_is x n then 1 else 0 := by
  unfold k_is
  by_cases h : (0 : Int32) ≤ x ∧ x ≤ nI n - 1
  · rw [if_pos h, decide_eq_true h]; rfl
  · rw [if_neg h, decide_eq_false h]; rfl
theorem c_isSuit {σ : q_St} {h : q_Hp} {A : Nat} {z : k_Z} (V : k_V σ h A z) (x : Int32) : fX2_isSuit σ h A x = some (if k_is x (z 0 0) then 1 else 0) := by
  unfold fX2_isSuit
  rw [v_ns V, c_isIn, k_bs1, k_isI, k_01b, k_guT]
theorem c_isBooking {σ : q_St} {h : q_Hp} {A : Nat} {z : k_Z} (V : k_V σ h A z) (x : Int32) : fX2_isBooking σ h A x = some (if k_is x (z 0 1) then 1 else 0) := by
  unfold fX2_isBooking
  rw [v_nb V, c_isIn, k_bs1, k_isI, k_01b, k_guT]
theorem m_isSuit {σ : q_St} {h : q_Hp} {m : Nat} {z : k_Z} (W : k_W h m z) (x : Int32) : fX5_isSuit σ h m x = some (if k_is x (z 0 0) then 1 else 0) := by
  unfold fX5_isSuit
  rw [w_ns W, m_in (lo := 0) (by decide) rfl, k_bs1, k_isI, k_01b, k_guT]
theorem m_isBooking {σ : q_St} {h : q_Hp} {m : Nat} {z : k_Z} (W : k_W h m z) (x : Int32) : fX5_isBooking σ h m x = some (if k_is x (z 0 1) then 1 else 0) := by
  unfold fX5_isBooking
  rw [w_nb W, m_in (lo := 0) (by decide) rfl, k_bs1, k_isI, k_01b, k_guT]
theorem c_kindOf {σ : q_St} {h : q_Hp} {A : Nat} {z : k_Z} (V : k_V σ h A z) (K : k_va z) {s : Nat} (hs : s < z 0 0) : fX2_kindOf σ h A (nI s) = some (q_ref σ (A + 1) s) := by
  have S := vS V
  have n7 := va_ns K
  unfold fX2_kindOf
  rw [sr10 S, sr0 S, q_gu_t ⟨st11 S, st1 S⟩, sl1 S, if_neg (nI_pos (by omega)), k_ofN, if_pos (nI_lt (by omega) (by decide)), q_gu_t (vp_in_nI (by omega) (by decide)), k_cl (by omega), if_neg (v_su V hs).1.1]
/-- any number names some suit: nothing goes wrong -/
theorem c_kindAny {σ : q_St} {h : q_Hp} {A : Nat} (S : k_sh σ A) (x : Int32) : k_ok (fX2_kindOf σ h A x) (fun a => q_tag σ a = 4) := by
  unfold fX2_kindOf
  rw [sr10 S, sr0 S, q_gu_t ⟨st11 S, st1 S⟩, sl1 S]
  refine k_ite (fun _ => k_some (st11 S)) (fun h1 => k_ite (fun h2 => ?_) (fun _ => k_some (st11 S)))
  obtain ⟨j, hj, e⟩ : ∃ j, j < 7 ∧ x = nI j := by
    rcases pk_ix x (n := 7) (by decide) with q | q | q
    · exact absurd q h1
    · exact absurd h2 (fun q2 => (k_nlt _ _).mp q2 q)
    · exact q
  subst e
  refine k_gu (vp_in_nI hj (by decide)) ?_
  rw [k_cl (by omega)]
  refine k_ite (fun _ => k_some (st11 S)) (fun h3 => k_some ?_)
  rcases S.2.2.2.2.2.2 j hj with q | q
  · exact absurd q h3
  · exact q
theorem c_reaches {σ : q_St} {h : q_Hp} {A a k f : Nat} (U : k_su σ h a k f) {p q : Nat} (hp : p < 21) (hq : q < 22) : fX2_reaches σ h A a (nI p) (nI q) = some (if k_nr p q (k_gv k) then 1 else 0) := by
  unfold fX2_reaches
  rw [su3 U]
  exact k_nrC p hp q hq _ (by have := k_gvB k; omega)
def k_fits (z : k_Z) (s b : Nat) : Bool := k_nr (z 3 s) (z 6 b) (k_gv (z 1 s))
theorem c_right {σ : q_St} {h : q_Hp} {A : Nat} {z : k_Z} (V : k_V σ h A z) (K : k_va z) {s b : Nat} (hs : s < z 0 0) (hb : b < z 0 1) : fX2_isRightFor σ h A (nI s) (nI b) = some (if k_fits z s b then 1 else 0) := by
  have S := vS V
  have n7 := va_ns K
  have b7 := va_nb K
  unfold fX2_isRightFor
  rw [sr1 S, sr4 S, q_gu_t ⟨st2 S, st5 S⟩, c_kindOf V K hs, k_bs1, c_at (sl2 S) (by omega) (by decide), k_bs1, c_at (sl5 S) (by omega) (by decide), k_bs1, q_gu_t (sut (v_su V hs)), v3 V hs, v6 V hb, c_reaches (v_su V hs) (by have := va_sz K hs; omega) (by have := va_wa K hb; omega), k_bs1, k_01b, k_guT]
  rfl
theorem m_gives {σ : q_St} {h : q_Hp} {m : Nat} {z : k_Z} (M : k_M σ m) (W : k_W h m z) (K : k_va z) {s : Nat} (hs : s < z 0 0) : fX5_givesOf σ h m (nI s) = some (nI (k_gv (z 1 s))) := by
  have n7 := va_ns K
  have k8 := va_k K hs
  unfold fX5_givesOf
  rw [mr1 M, q_gu_t (mt1 M), ml1 M, q_gu_t (vp_in_nI (by omega) (by decide)), k_cl (by omega), w1 W hs]
  exact (by decide +kernel : ∀ k, k < 8 → (if nI k = 2 then some (2 : Int32) else if nI k = 4 then some 0 else if nI k = 5 then some 4 else some 1) = some (nI (k_gv k))) _ k8
set_option maxRecDepth 100000 in
theorem k_chC : ∀ k, k < 8 → ∀ f, f < 10 → (if nI k = 1 then some (4 : Int32) else if nI k = 2 then some 3 else if nI k = 3 then some 2 else if nI k = 4 then some 8 else if nI k = 5 then some 3 else if nI k = 6 then some 2 else if nI k = 7 then some (4 + nI f) else some 3) = some (nI (k_ch k f)) := by decide +kernel
theorem m_cleans {σ : q_St} {h : q_Hp} {m : Nat} {z : k_Z} (M : k_M σ m) (W : k_W h m z) (K : k_va z) {s : Nat} (hs : s < z 0 0) : fX5_cleansOf σ h m (nI s) = some (nI (k_ch (z 1 s) (z 2 s))) := by
  have n7 := va_ns K
  unfold fX5_cleansOf
  rw [mr1 M, mr2 M, q_gu_t ⟨mt1 M, mt2 M⟩, ml1 M, ml2 M, q_gu_t (vp_in_nI (by omega) (by decide)), q_gu_t (vp_in_nI (by omega) (by decide)), k_cl (by omega), w1 W hs, w2 W hs]
  exact k_chC _ (va_k K hs) _ (va_f K hs)
set_option maxRecDepth 100000 in
theorem k_laC : ∀ k, k < 8 → ∀ f, f < 10 → (if nI k = 4 then some ((20 + nI f) / 2) else if nI k = 6 then some (5 + nI f) else some (20 + nI f)) = some (nI (k_la k f)) := by decide +kernel
theorem m_lasts {σ : q_St} {h : q_Hp} {m : Nat} {z : k_Z} (M : k_M σ m) (W : k_W h m z) (K : k_va z) {s : Nat} (hs : s < z 0 0) : fX5_lastsOf σ h m (nI s) = some (nI (k_la (z 1 s) (z 2 s))) := by
  have n7 := va_ns K
  unfold fX5_lastsOf
  simp only [mr1 M, mr2 M, mt1 M, mt2 M, ml1 M, ml2 M, and_self, k_guT, k_vi (show s < 8 by omega) (by decide), k_cl (show s < 2147483648 by omega), w1 W hs, w2 W hs]
  exact k_laC _ (va_k K hs) _ (va_f K hs)
theorem m_priceOf {σ : q_St} {h : q_Hp} {m : Nat} {z : k_Z} (M : k_M σ m) (W : k_W h m z) (K : k_va z) {s : Nat} (hs : s < z 0 0) : fX5_priceOf σ h m (nI s) = some (nI (k_pr (z 1 s) (z 2 s))) := by
  have n7 := va_ns K
  unfold fX5_priceOf
  simp only [mr1 M, mr2 M, mt1 M, mt2 M, ml1 M, ml2 M, and_self, k_guT, k_vi (show s < 8 by omega) (by decide), k_cl (show s < 2147483648 by omega), w1 W hs, w2 W hs, m_price _ (va_k K hs) _ (va_f K hs), k_bs1]
theorem m_fits {σ : q_St} {h : q_Hp} {m : Nat} {z : k_Z} (M : k_M σ m) (W : k_W h m z) (K : k_va z) {s b : Nat} (hs : s < z 0 0) (hb : b < z 0 1) : fX5_fitsIn σ h m (nI s) (nI b) = some (if k_fits z s b then 1 else 0) := by
  have n7 := va_ns K
  have b7 := va_nb K
  have q1 := va_sz K hs
  have q2 := va_wa K hb
  have q3 := k_gvB (z 1 s)
  unfold fX5_fitsIn
  simp only [mr3 M, mr7 M, mt3 M, mt6 M, ml3 M, ml6 M, and_self, k_guT, k_vi (show s < 8 by omega) (by decide), k_vi (show b < 7 by omega) (by decide), k_cl (show s < 2147483648 by omega), k_cl (show b < 2147483648 by omega), w3 W hs, w6 W hb, k_bs1, m_gives M W K hs, m_apart (show z 3 s < 2147483648 by omega) (show z 6 b < 2147483648 by omega)]
  unfold k_fits
  rw [k_nrM]
  have hB : (if z 3 s ≤ z 6 b then z 6 b - z 3 s else z 3 s - z 6 b) ≤ 20 := by split <;> omega
  generalize (if z 3 s ≤ z 6 b then z 6 b - z 3 s else z 3 s - z 6 b) = d at hB ⊢
  by_cases q : d ≤ k_gv (z 1 s)
  · rw [if_neg (nI_nlt q (by omega)), decide_eq_true q]; rfl
  · rw [if_pos (nI_lt (by omega) (by omega)), decide_eq_false q]; rfl
/-! bits -/
theorem c_state {σ : q_St} {h : q_Hp} {A : Nat} {z : k_Z} (V : k_V σ h A z) (K : k_va z) {w : Nat} (hw : w ≤ 9) : fX2_suitsThatAre σ h A (nI w) = some (nI (k_bs (fun s => z 5 s == w) (z 0 0))) := by
  have S := vS V
  have n7 := va_ns K
  unfold fX2_suitsThatAre
  rw [sr3 S, q_gu_t (st4 S), k_bl (n := z 0 0) (p := fun s => z 5 s == w) (body := fun s => fX2_suitsThatAre_4 σ h A (nI w) s.1 s.2) (by omega) (fun i hi u => ?_) (fun u => ?_), k_bs1]
  · have := va_st K hi
    simp only [fX2_suitsThatAre_32, fX2_suitsThatAre_4, v_ns V, sr3 S, c_at (sl4 S) (show i < 7 by omega) (by decide), k_bs1, v5 V hi, if_neg (nI_ge hi (show z 0 0 < 2 ^ 31 by omega)), k_eqL rfl (show z 5 i < 2147483648 by omega) (show w < 2147483648 by omega)]
    by_cases e : z 5 i = w <;> simp [e]
  · simp only [fX2_suitsThatAre_32, fX2_suitsThatAre_4, v_ns V, if_pos (nI_le (Nat.le_refl (z 0 0)) (show z 0 0 < 2 ^ 31 by omega))]
theorem m_state {σ : q_St} {h : q_Hp} {m : Nat} {z : k_Z} (M : k_M σ m) (W : k_W h m z) (K : k_va z) {w : Nat} (hw : w ≤ 9) : fX5_inState σ h m (nI w) = some (nI (k_bs (fun s => z 5 s == w) (z 0 0))) := by
  have n7 := va_ns K
  unfold fX5_inState
  rw [mr5 M, q_gu_t (mt5 M), k_bl (n := z 0 0) (p := fun s => z 5 s == w) (body := fun s => fX5_inState_4 σ h m (nI w) s.1 s.2) (by omega) (fun i hi u => ?_) (fun u => ?_), k_bs1]
  · have := va_st K hi
    simp only [fX5_inState_30, fX5_inState_4, w_ns W, mr5 M, ml5 M, k_vi (show i < 8 by omega) (show 8 < 2147483648 by decide), k_guT, k_cl (show i < 2147483648 by omega), w5 W hi, if_neg (nI_ge hi (show z 0 0 < 2 ^ 31 by omega)), k_eqL rfl (show z 5 i < 2147483648 by omega) (show w < 2147483648 by omega)]
    by_cases e : z 5 i = w <;> simp [e]
  · simp only [fX5_inState_30, fX5_inState_4, w_ns W, if_pos (nI_le (Nat.le_refl (z 0 0)) (show z 0 0 < 2 ^ 31 by omega))]
theorem c_openB {σ : q_St} {h : q_Hp} {A : Nat} {z : k_Z} (V : k_V σ h A z) (K : k_va z) : fX2_openBookings σ h A = some (nI (k_bs (fun b => z 11 b == 9) (z 0 1))) := by
  have S := vS V
  have n7 := va_nb K
  unfold fX2_openBookings
  rw [sr9 S, q_gu_t (st10 S), k_bl (n := z 0 1) (p := fun b => z 11 b == 9) (body := fun s => fX2_openBookings_4 σ h A s.1 s.2) (by omega) (fun i hi u => ?_) (fun u => ?_), k_bs1]
  · have := va_ha9 K hi
    simp only [fX2_openBookings_33, fX2_openBookings_4, v_nb V, sr9 S, c_at (sl10 S) (show i < 7 by omega) (by decide), k_bs1, v11 V hi, if_neg (nI_ge hi (show z 0 1 < 2 ^ 31 by omega)), k_eqL (show (9 : Int32) = nI 9 from rfl) (show z 11 i < 2147483648 by omega) (show 9 < 2147483648 by decide)]
    by_cases e : z 11 i = 9 <;> simp [e]
  · simp only [fX2_openBookings_33, fX2_openBookings_4, v_nb V, if_pos (nI_le (Nat.le_refl (z 0 1)) (show z 0 1 < 2 ^ 31 by omega))]
theorem c_group {σ : q_St} {h : q_Hp} {A : Nat} {z : k_Z} (V : k_V σ h A z) (K : k_va z) {g : Nat} (hg : g ≤ 9) : fX2_groupBits σ h A (nI g) = some (nI (k_bs (fun b => z 7 b == g) (z 0 1))) := by
  have S := vS V
  have n7 := va_nb K
  unfold fX2_groupBits
  rw [sr5 S, q_gu_t (st6 S), k_bl (n := z 0 1) (p := fun b => z 7 b == g) (body := fun s => fX2_groupBits_4 σ h A (nI g) s.1 s.2) (by omega) (fun i hi u => ?_) (fun u => ?_), k_bs1]
  · have := va_gr K hi
    simp only [fX2_groupBits_32, fX2_groupBits_4, v_nb V, sr5 S, c_at (sl6 S) (show i < 7 by omega) (by decide), k_bs1, v7 V hi, if_neg (nI_ge hi (show z 0 1 < 2 ^ 31 by omega)), k_eqL rfl (show z 7 i < 2147483648 by omega) (show g < 2147483648 by omega)]
    by_cases e : z 7 i = g <;> simp [e]
  · simp only [fX2_groupBits_32, fX2_groupBits_4, v_nb V, if_pos (nI_le (Nat.le_refl (z 0 1)) (show z 0 1 < 2 ^ 31 by omega))]
/-- the bookings that a suit takes, each g more (20 at most) -/
theorem c_takers {σ : q_St} {h : q_Hp} {A : Nat} {z : k_Z} (V : k_V σ h A z) (K : k_va z) {a k f : Nat} (U : k_su σ h a k f) {p g : Nat} (hp : p < 21) (hg : g ≤ 1) : fX2_takers σ h A a (nI p) (nI g) = some (nI (k_bs (fun b => k_nr p (min (z 6 b + g) 20) (k_gv k)) (z 0 1))) := by
  have S := vS V
  have n7 := va_nb K
  unfold fX2_takers
  rw [sr4 S, q_gu_t (st5 S), k_bl (n := z 0 1) (p := fun b => k_nr p (min (z 6 b + g) 20) (k_gv k)) (body := fun s => fX2_takers_6 σ h A a (nI p) (nI g) s.1 s.2) (by omega) (fun i hi u => ?_) (fun u => ?_), k_bs1]
  · have := va_wa K hi
    have e : (if (20 : Int32) < nI (z 6 i) + nI g then (20 : Int32) else nI (z 6 i) + nI g) = nI (min (z 6 i + g) 20) := by
      rw [nI_add]
      by_cases q : z 6 i + g ≤ 20
      · rw [if_neg (k_nlL (n := 20) (l := 20) rfl q (by omega)), Nat.min_eq_left q]
      · rw [if_pos (k_ltL (l := 20) rfl (show 20 < z 6 i + g by omega) (by omega)), Nat.min_eq_right (by omega)]; rfl
    simp only [fX2_takers_50, fX2_takers_6, v_nb V, sr4 S, c_at (sl5 S) (show i < 7 by omega) (by decide), k_bs1, v6 V hi, if_neg (nI_ge hi (show z 0 1 < 2 ^ 31 by omega)), e, c_reaches U hp (show min (z 6 i + g) 20 < 22 by omega), k_01i]
    cases k_nr p (min (z 6 i + g) 20) (k_gv k) <;> rfl
  · simp only [fX2_takers_50, fX2_takers_6, v_nb V, if_pos (nI_le (Nat.le_refl (z 0 1)) (show z 0 1 < 2 ^ 31 by omega))]
theorem c_worn {σ : q_St} {h : q_Hp} {A : Nat} {z : k_Z} (V : k_V σ h A z) (K : k_va z) : fX2_allWorn σ h A = some (nI (k_sm (fun s => z 4 s) (z 0 0))) := by
  have S := vS V
  have n7 := va_ns K
  unfold fX2_allWorn
  rw [sr2 S, q_gu_t (st3 S), k_sl (n := z 0 0) (v := fun s => z 4 s) (body := fun s => fX2_allWorn_4 σ h A s.1 s.2) (by omega) (fun i hi u => ?_) (fun u => ?_), k_bs1]
  · simp only [fX2_allWorn_4, v_ns V, sr2 S, c_at (sl3 S) (show i < 7 by omega) (by decide), k_bs1, v4 V hi, if_neg (nI_ge hi (show z 0 0 < 2 ^ 31 by omega))]
  · simp only [fX2_allWorn_4, v_ns V, if_pos (nI_le (Nat.le_refl (z 0 0)) (show z 0 0 < 2 ^ 31 by omega))]
theorem c_hoursOf {σ : q_St} {h : q_Hp} {A : Nat} {z : k_Z} (V : k_V σ h A z) (K : k_va z) {B : Nat} (hB : B < 256) : fX2_hoursOf σ h A (nI B) = some (nI (k_sm (fun s => if B.testBit s then k_ch (z 1 s) (z 2 s) else 0) (z 0 0))) := by
  have S := vS V
  have n7 := va_ns K
  unfold fX2_hoursOf
  rw [k_sl (n := z 0 0) (v := fun s => if B.testBit s then k_ch (z 1 s) (z 2 s) else 0) (body := fun s => fX2_hoursOf_4 σ h A (nI B) s.1 s.2) (by omega) (fun i hi u => ?_) (fun u => ?_), k_bs1]
  · simp only [fX2_hoursOf_33, fX2_hoursOf_4, v_ns V, if_neg (nI_ge hi (show z 0 0 < 2 ^ 31 by omega)), c_hasBit (show B < 2147483648 by omega) (show i < 31 by omega), k_bs1, k_01i, c_kindOf V K hi, sut (v_su V hi), k_guT, su4 (v_su V hi)]
    cases B.testBit i <;> rfl
  · simp only [fX2_hoursOf_33, fX2_hoursOf_4, v_ns V, if_pos (nI_le (Nat.le_refl (z 0 0)) (show z 0 0 < 2 ^ 31 by omega))]
/-! hiring -/
def k_can (z : k_Z) (s b p : Nat) : Bool := (z 5 s == 0) && k_fits z s b && decide (p + k_pr (z 1 s) (z 2 s) ≤ 9999)
theorem c_can {σ : q_St} {h : q_Hp} {A : Nat} {z : k_Z} (V : k_V σ h A z) (K : k_va z) {s b p : Nat} (hs : s < z 0 0) (hb : b < z 0 1) (hp : p < 1000000) : fX2_canHire σ h A (nI s) (nI b) (nI p) = some (if k_can z s b p then 1 else 0) := by
  have S := vS V
  have n7 := va_ns K
  have st := va_st K hs
  have pr := k_prB _ (va_k K hs) _ (va_f K hs)
  unfold fX2_canHire
  simp only [sr3 S, st4 S, k_guT, c_at (sl4 S) (show s < 7 by omega) (by decide), v5 V hs, k_bs1, k_eqL (show (0 : Int32) = nI 0 from rfl) (show z 5 s < 2147483648 by omega) (show 0 < 2147483648 by decide), c_right V K hs hb, k_01i, c_kindOf V K hs, sut (v_su V hs), su2 (v_su V hs), nI_add]
  unfold k_can
  by_cases e : z 5 s = 0
  · rw [if_pos e]
    cases k_fits z s b with
    | false => simp
    | true =>
      by_cases q : p + k_pr (z 1 s) (z 2 s) ≤ 9999
      · rw [if_pos rfl, if_neg (k_nlL (n := 9999) (l := 9999) rfl q (by omega))]; simp [e, q]
      · rw [if_pos rfl, if_pos (k_ltL (l := 9999) rfl (show 9999 < p + k_pr (z 1 s) (z 2 s) by omega) (by omega))]; simp [q]
  · rw [if_neg e]; simp [e]
theorem m_can {σ : q_St} {h : q_Hp} {m : Nat} {z : k_Z} (M : k_M σ m) (W : k_W h m z) (K : k_va z) {s b : Nat} (hs : s < z 0 0) (hb : b < z 0 1) : fX5_canHire σ h m (nI s) (nI b) = some (if (z 11 b == 9) && k_can z s b (z 0 2) then 1 else 0) := by
  have n7 := va_ns K
  have b7 := va_nb K
  have st := va_st K hs
  have ha := va_ha9 K hb
  have pe := va_pe K
  have pr := k_prB _ (va_k K hs) _ (va_f K hs)
  unfold fX5_canHire
  simp only [mr5 M, mr12 M, mt5 M, mt11 M, ml5 M, ml11 M, and_self, k_guT, k_vi (show s < 8 by omega) (show 8 < 2147483648 by decide), k_vi (show b < 7 by omega) (show 7 < 2147483648 by decide), k_cl (show s < 2147483648 by omega), k_cl (show b < 2147483648 by omega), w5 W hs, w11 W hb, k_bs1, k_eqL (show (0 : Int32) = nI 0 from rfl) (show z 5 s < 2147483648 by omega) (show 0 < 2147483648 by decide), k_eqL (show (9 : Int32) = nI 9 from rfl) (show z 11 b < 2147483648 by omega) (show 9 < 2147483648 by decide), m_fits M W K hs hb, k_01i, m_priceOf M W K hs, w_pe W, nI_add]
  unfold k_can
  by_cases e : z 5 s = 0
  · rw [if_pos e]
    by_cases e9 : z 11 b = 9
    · rw [if_pos e9]
      cases k_fits z s b with
      | false => simp
      | true =>
        by_cases q : z 0 2 + k_pr (z 1 s) (z 2 s) ≤ 9999
        · rw [if_pos rfl, if_neg (k_nlL (n := 9999) (l := 9999) rfl q (by omega))]; simp [e, q, e9]
        · rw [if_pos rfl, if_pos (k_ltL (l := 9999) rfl (show 9999 < z 0 2 + k_pr (z 1 s) (z 2 s) by omega) (by omega))]; simp [q]
    · rw [if_neg e9]; simp [e9]
  · rw [if_neg e]; simp [e]
