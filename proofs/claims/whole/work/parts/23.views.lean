/-! the state as numbers; the views of a shop of the class and of the model -/
abbrev k_Z : Type := Nat → Nat → Nat
def k_zu (z : k_Z) (r i v : Nat) : k_Z := fun a b => if a = r ∧ b = i then v else z a b
theorem k_zu_s {z : k_Z} {r i v : Nat} : k_zu z r i v r i = v := by simp [k_zu]
theorem k_zu_n {z : k_Z} {r i v a b : Nat} (n : ¬ (a = r ∧ b = i)) : k_zu z r i v a b = z a b := by simp [k_zu, n]
theorem k_zu_r {z : k_Z} {r i v a b : Nat} (n : a ≠ r) : k_zu z r i v a b = z a b := k_zu_n (fun e => n e.1)
def k_pr (k f : Nat) : Nat := if k = 1 then 15 + f else if k = 2 then 8 + f else if k = 3 then (10 + f) / 2 else if k = 4 then 2 * (15 + f) else if k = 5 then 8 + 2 * f else if k = 6 then (10 + f) / 2 - 1 else if k = 7 then 18 + f else 10 + f
def k_gv (k : Nat) : Nat := if k = 2 then 2 else if k = 4 then 0 else if k = 5 then 4 else 1
def k_ch (k f : Nat) : Nat := if k = 1 then 4 else if k = 3 then 2 else if k = 6 then 2 else if k = 4 then 8 else if k = 7 then 4 + f else 3
def k_la (k f : Nat) : Nat := if k = 4 then (20 + f) / 2 else if k = 6 then 5 + f else 20 + f
def k_wo (k f : Nat) : Nat := if k = 0 then 4 else if k = 1 then 4 + f else if k = 2 then 2 else if k = 3 then 5 else if k = 4 then 2 * (4 + f) else if k = 5 then 2 + f else if k = 6 then 2 else 7 + f
theorem k_prB : ∀ k, k < 8 → ∀ f, f < 10 → k_pr k f ≤ 48 := by decide +kernel
theorem k_gvB (k : Nat) : k_gv k ≤ 4 := by unfold k_gv; repeat' split
                                           all_goals omega
theorem k_chB : ∀ k, k < 8 → ∀ f, f < 10 → k_ch k f ≤ 13 := by decide +kernel
theorem k_laB : ∀ k, k < 8 → ∀ f, f < 10 → k_la k f ≤ 29 := by decide +kernel
def k_su (σ : q_St) (h : q_Hp) (a k f : Nat) : Prop := (a ≠ 0 ∧ q_tag σ a = 4) ∧ (k < 8 ∧ f < 10) ∧ q_int h a 0 = nI k ∧ q_int h a 1 = nI f ∧ q_int h a 2 = nI (k_pr k f) ∧ q_int h a 3 = nI (k_gv k) ∧ q_int h a 4 = nI (k_ch k f) ∧ q_int h a 5 = nI (k_la k f) ∧ q_int h a 6 = nI (k_wo k f)
theorem su0 {σ : q_St} {h : q_Hp} {a k f : Nat} (U : k_su σ h a k f) : q_int h a 0 = nI (k) := U.2.2.1
theorem su1 {σ : q_St} {h : q_Hp} {a k f : Nat} (U : k_su σ h a k f) : q_int h a 1 = nI (f) := U.2.2.2.1
theorem su2 {σ : q_St} {h : q_Hp} {a k f : Nat} (U : k_su σ h a k f) : q_int h a 2 = nI (k_pr k f) := U.2.2.2.2.1
theorem su3 {σ : q_St} {h : q_Hp} {a k f : Nat} (U : k_su σ h a k f) : q_int h a 3 = nI (k_gv k) := U.2.2.2.2.2.1
theorem su4 {σ : q_St} {h : q_Hp} {a k f : Nat} (U : k_su σ h a k f) : q_int h a 4 = nI (k_ch k f) := U.2.2.2.2.2.2.1
theorem su5 {σ : q_St} {h : q_Hp} {a k f : Nat} (U : k_su σ h a k f) : q_int h a 5 = nI (k_la k f) := U.2.2.2.2.2.2.2.1
theorem su6 {σ : q_St} {h : q_Hp} {a k f : Nat} (U : k_su σ h a k f) : q_int h a 6 = nI (k_wo k f) := U.2.2.2.2.2.2.2.2
theorem sut {σ : q_St} {h : q_Hp} {a k f : Nat} (U : k_su σ h a k f) : q_tag σ a = 4 := U.1.2
theorem su_mv {σ σ' : q_St} {h h' : q_Hp} {a k f : Nat} (U : k_su σ h a k f) (e : q_tag σ' a = q_tag σ a) (g : ∀ i, q_int h' a i = q_int h a i) : k_su σ' h' a k f := ⟨⟨U.1.1, e.trans U.1.2⟩, U.2.1, by simp only [g]; exact U.2.2⟩
/-- what holds of every state -/
def k_va (z : k_Z) : Prop := (z 0 0 ≤ 7 ∧ z 0 1 ≤ 7 ∧ z 0 2 ≤ 9999 ∧ z 0 3 ≤ 999) ∧ (∀ s, s < z 0 0 → z 1 s < 8 ∧ z 2 s < 10 ∧ z 3 s ≤ 20 ∧ z 4 s ≤ 99 ∧ z 5 s ≤ 2) ∧ (∀ b, b < z 0 1 → z 6 b ≤ 20 ∧ z 7 b ≤ 3 ∧ z 8 b ≤ 9 ∧ z 9 b ≤ 9 ∧ z 10 b ≤ 9 ∧ (z 11 b = 9 ∨ (z 11 b < z 0 0 ∧ z 5 (z 11 b) = 1))) ∧ (∀ b c, b < z 0 1 → c < z 0 1 → z 11 b = z 11 c → z 11 b ≠ 9 → b = c) ∧ (∀ s, s < z 0 0 → z 5 s = 1 → ∃ b, b < z 0 1 ∧ z 11 b = s)
theorem va_ns {z : k_Z} (K : k_va z) : z 0 0 ≤ 7 := K.1.1
theorem va_nb {z : k_Z} (K : k_va z) : z 0 1 ≤ 7 := K.1.2.1
theorem va_pe {z : k_Z} (K : k_va z) : z 0 2 ≤ 9999 := K.1.2.2.1
theorem va_ho {z : k_Z} (K : k_va z) : z 0 3 ≤ 999 := K.1.2.2.2
theorem va_k {z : k_Z} (K : k_va z) {s : Nat} (hs : s < z 0 0) : z 1 s < 8 := (K.2.1 s hs).1
theorem va_f {z : k_Z} (K : k_va z) {s : Nat} (hs : s < z 0 0) : z 2 s < 10 := (K.2.1 s hs).2.1
theorem va_sz {z : k_Z} (K : k_va z) {s : Nat} (hs : s < z 0 0) : z 3 s ≤ 20 := (K.2.1 s hs).2.2.1
theorem va_wo {z : k_Z} (K : k_va z) {s : Nat} (hs : s < z 0 0) : z 4 s ≤ 99 := (K.2.1 s hs).2.2.2.1
theorem va_st {z : k_Z} (K : k_va z) {s : Nat} (hs : s < z 0 0) : z 5 s ≤ 2 := (K.2.1 s hs).2.2.2.2
theorem va_wa {z : k_Z} (K : k_va z) {b : Nat} (hb : b < z 0 1) : z 6 b ≤ 20 := (K.2.2.1 b hb).1
theorem va_gr {z : k_Z} (K : k_va z) {b : Nat} (hb : b < z 0 1) : z 7 b ≤ 3 := (K.2.2.1 b hb).2.1
theorem va_gw {z : k_Z} (K : k_va z) {b : Nat} (hb : b < z 0 1) : z 8 b ≤ 9 := (K.2.2.1 b hb).2.2.1
theorem va_lt {z : k_Z} (K : k_va z) {b : Nat} (hb : b < z 0 1) : z 9 b ≤ 9 := (K.2.2.1 b hb).2.2.2.1
theorem va_ab {z : k_Z} (K : k_va z) {b : Nat} (hb : b < z 0 1) : z 10 b ≤ 9 := (K.2.2.1 b hb).2.2.2.2.1
theorem va_ha {z : k_Z} (K : k_va z) {b : Nat} (hb : b < z 0 1) : z 11 b = 9 ∨ (z 11 b < z 0 0 ∧ z 5 (z 11 b) = 1) := (K.2.2.1 b hb).2.2.2.2.2
theorem va_ha9 {z : k_Z} (K : k_va z) {b : Nat} (hb : b < z 0 1) : z 11 b ≤ 9 := by have := va_ha K hb; have := va_ns K; omega
/-- a shop's view -/
def k_V (σ : q_St) (h : q_Hp) (A : Nat) (z : k_Z) : Prop := k_sh σ A ∧ (∀ j, j < 4 → q_int h A (11 + j) = nI (z 0 j)) ∧ (∀ s, s < z 0 0 → k_su σ h (q_ref σ (A + 1) s) (z 1 s) (z 2 s)) ∧ (∀ r s, 3 ≤ r ∧ r ≤ 5 → s < z 0 0 → q_int h (A + (r - 1)) s = nI (z r s)) ∧ (∀ r b, 6 ≤ r ∧ r ≤ 11 → b < z 0 1 → q_int h (A + (r - 1)) b = nI (z r b))
/-- the model's view -/
def k_W (h : q_Hp) (m : Nat) (z : k_Z) : Prop := (q_int h m 0 = nI (z 0 0) ∧ q_int h m 6 = nI (z 0 1) ∧ q_int h m 13 = nI (z 0 2) ∧ q_int h m 14 = nI (z 0 3)) ∧ (∀ r s, 1 ≤ r ∧ r ≤ 5 → s < z 0 0 → q_int h (m + r) s = nI (z r s)) ∧ (∀ r b, 6 ≤ r ∧ r ≤ 11 → b < z 0 1 → q_int h (m + r) b = nI (z r b))
theorem vS {σ : q_St} {h : q_Hp} {A : Nat} {z : k_Z} (V : k_V σ h A z) : k_sh σ A := V.1
theorem v_ns {σ : q_St} {h : q_Hp} {A : Nat} {z : k_Z} (V : k_V σ h A z) : q_int h A 11 = nI (z 0 0) := V.2.1 0 (by decide)
theorem w_ns {h : q_Hp} {m : Nat} {z : k_Z} (W : k_W h m z) : q_int h m 0 = nI (z 0 0) := W.1.1
theorem v_nb {σ : q_St} {h : q_Hp} {A : Nat} {z : k_Z} (V : k_V σ h A z) : q_int h A 12 = nI (z 0 1) := V.2.1 1 (by decide)
theorem w_nb {h : q_Hp} {m : Nat} {z : k_Z} (W : k_W h m z) : q_int h m 6 = nI (z 0 1) := W.1.2.1
theorem v_pe {σ : q_St} {h : q_Hp} {A : Nat} {z : k_Z} (V : k_V σ h A z) : q_int h A 13 = nI (z 0 2) := V.2.1 2 (by decide)
theorem w_pe {h : q_Hp} {m : Nat} {z : k_Z} (W : k_W h m z) : q_int h m 13 = nI (z 0 2) := W.1.2.2.1
theorem v_ho {σ : q_St} {h : q_Hp} {A : Nat} {z : k_Z} (V : k_V σ h A z) : q_int h A 14 = nI (z 0 3) := V.2.1 3 (by decide)
theorem w_ho {h : q_Hp} {m : Nat} {z : k_Z} (W : k_W h m z) : q_int h m 14 = nI (z 0 3) := W.1.2.2.2
theorem v_su {σ : q_St} {h : q_Hp} {A : Nat} {z : k_Z} (V : k_V σ h A z) {s : Nat} (hs : s < z 0 0) : k_su σ h (q_ref σ (A + 1) s) (z 1 s) (z 2 s) := V.2.2.1 s hs
theorem v3 {σ : q_St} {h : q_Hp} {A : Nat} {z : k_Z} (V : k_V σ h A z) {s : Nat} (hs : s < z 0 0) : q_int h (A + 2) s = nI (z 3 s) := V.2.2.2.1 3 s (by decide) hs
theorem v4 {σ : q_St} {h : q_Hp} {A : Nat} {z : k_Z} (V : k_V σ h A z) {s : Nat} (hs : s < z 0 0) : q_int h (A + 3) s = nI (z 4 s) := V.2.2.2.1 4 s (by decide) hs
theorem v5 {σ : q_St} {h : q_Hp} {A : Nat} {z : k_Z} (V : k_V σ h A z) {s : Nat} (hs : s < z 0 0) : q_int h (A + 4) s = nI (z 5 s) := V.2.2.2.1 5 s (by decide) hs
theorem v6 {σ : q_St} {h : q_Hp} {A : Nat} {z : k_Z} (V : k_V σ h A z) {b : Nat} (hb : b < z 0 1) : q_int h (A + 5) b = nI (z 6 b) := V.2.2.2.2 6 b (by decide) hb
theorem v7 {σ : q_St} {h : q_Hp} {A : Nat} {z : k_Z} (V : k_V σ h A z) {b : Nat} (hb : b < z 0 1) : q_int h (A + 6) b = nI (z 7 b) := V.2.2.2.2 7 b (by decide) hb
theorem v8 {σ : q_St} {h : q_Hp} {A : Nat} {z : k_Z} (V : k_V σ h A z) {b : Nat} (hb : b < z 0 1) : q_int h (A + 7) b = nI (z 8 b) := V.2.2.2.2 8 b (by decide) hb
theorem v9 {σ : q_St} {h : q_Hp} {A : Nat} {z : k_Z} (V : k_V σ h A z) {b : Nat} (hb : b < z 0 1) : q_int h (A + 8) b = nI (z 9 b) := V.2.2.2.2 9 b (by decide) hb
theorem v10 {σ : q_St} {h : q_Hp} {A : Nat} {z : k_Z} (V : k_V σ h A z) {b : Nat} (hb : b < z 0 1) : q_int h (A + 9) b = nI (z 10 b) := V.2.2.2.2 10 b (by decide) hb
theorem v11 {σ : q_St} {h : q_Hp} {A : Nat} {z : k_Z} (V : k_V σ h A z) {b : Nat} (hb : b < z 0 1) : q_int h (A + 10) b = nI (z 11 b) := V.2.2.2.2 11 b (by decide) hb
theorem w1 {h : q_Hp} {m : Nat} {z : k_Z} (W : k_W h m z) {s : Nat} (hs : s < z 0 0) : q_int h (m + 1) s = nI (z 1 s) := W.2.1 1 s (by decide) hs
theorem w2 {h : q_Hp} {m : Nat} {z : k_Z} (W : k_W h m z) {s : Nat} (hs : s < z 0 0) : q_int h (m + 2) s = nI (z 2 s) := W.2.1 2 s (by decide) hs
theorem w3 {h : q_Hp} {m : Nat} {z : k_Z} (W : k_W h m z) {s : Nat} (hs : s < z 0 0) : q_int h (m + 3) s = nI (z 3 s) := W.2.1 3 s (by decide) hs
theorem w4 {h : q_Hp} {m : Nat} {z : k_Z} (W : k_W h m z) {s : Nat} (hs : s < z 0 0) : q_int h (m + 4) s = nI (z 4 s) := W.2.1 4 s (by decide) hs
theorem w5 {h : q_Hp} {m : Nat} {z : k_Z} (W : k_W h m z) {s : Nat} (hs : s < z 0 0) : q_int h (m + 5) s = nI (z 5 s) := W.2.1 5 s (by decide) hs
theorem w6 {h : q_Hp} {m : Nat} {z : k_Z} (W : k_W h m z) {b : Nat} (hb : b < z 0 1) : q_int h (m + 6) b = nI (z 6 b) := W.2.2 6 b (by decide) hb
theorem w7 {h : q_Hp} {m : Nat} {z : k_Z} (W : k_W h m z) {b : Nat} (hb : b < z 0 1) : q_int h (m + 7) b = nI (z 7 b) := W.2.2 7 b (by decide) hb
theorem w8 {h : q_Hp} {m : Nat} {z : k_Z} (W : k_W h m z) {b : Nat} (hb : b < z 0 1) : q_int h (m + 8) b = nI (z 8 b) := W.2.2 8 b (by decide) hb
theorem w9 {h : q_Hp} {m : Nat} {z : k_Z} (W : k_W h m z) {b : Nat} (hb : b < z 0 1) : q_int h (m + 9) b = nI (z 9 b) := W.2.2 9 b (by decide) hb
theorem w10 {h : q_Hp} {m : Nat} {z : k_Z} (W : k_W h m z) {b : Nat} (hb : b < z 0 1) : q_int h (m + 10) b = nI (z 10 b) := W.2.2 10 b (by decide) hb
theorem w11 {h : q_Hp} {m : Nat} {z : k_Z} (W : k_W h m z) {b : Nat} (hb : b < z 0 1) : q_int h (m + 11) b = nI (z 11 b) := W.2.2 11 b (by decide) hb
/-- a number out of a script names one of n things -/
def k_is (x : Int32) (n : Nat) : Bool := decide (0 ≤ x ∧ x ≤ nI n - 1)
theorem k_is_t {x : Int32} {n : Nat} (hn : n < 2147483648) (h : k_is x n = true) : ∃ j, j < n ∧ x = nI j := by
  have h := of_decide_eq_true h
  cases n with
  | zero =>
    have h1 := Int32.le_iff_toInt_le.mp h.1
    have h2 := Int32.le_iff_toInt_le.mp h.2
    have e0 : (0 : Int32).toInt = 0 := by decide
    have e1 : (nI 0 - 1 : Int32).toInt = -1 := by decide +kernel
    rw [e0] at h1; rw [e1] at h2
    omega
  | succ n =>
    rw [nI_pred] at h
    obtain ⟨j, hj, e⟩ := nI_of2 (n := n) (M := nI n) (nI_toInt (by omega)) (fun q => by
      have h1 := Int32.le_iff_toInt_le.mp h.1
      have h2 := Int32.lt_iff_toInt_lt.mp q
      omega) h.2
    exact ⟨j, by omega, e⟩
theorem k_is_n {n j : Nat} (hn : n < 2147483648) (hj : j < n) : k_is (nI j) n = true := by
  apply decide_eq_true
  obtain ⟨k, rfl⟩ : ∃ k, n = k + 1 := ⟨n - 1, by omega⟩
  rw [nI_pred]
  exact ⟨nI_pos' (by omega), nI_le (by omega) (by omega)⟩
theorem k_is_nf {n j : Nat} (hj : j < 2147483648) (hn : n ≤ j) : k_is (nI j) n = false := by
  cases e : k_is (nI j) n with
  | false => rfl
  | true =>
    obtain ⟨i, hi, ei⟩ := k_is_t (by omega) e
    have := (nI_eq (by omega) (by omega)).mp ei
    omega
/-! small methods -/
theorem c_at {σ : q_St} {h : q_Hp} {a i n : Nat} (hl : q_len σ a = n) (hi : i < n) (hn : n < 2147483648) : fX4_at σ h a (nI i) = some (q_int h a i) := by
  unfold fX4_at
  rw [hl, k_ofN, if_neg (nI_pos (by omega)), if_neg (nI_ge hi hn), q_gu_t (vp_in_nI hi hn), k_cl (by omega)]
theorem c_atO {σ : q_St} {h : q_Hp} {a i n : Nat} (hl : q_len σ a = n) (hi : n ≤ i) (hn : i < 2147483648) : fX4_at σ h a (nI i) = some 0 := by
  unfold fX4_at
  rw [hl, k_ofN, if_neg (nI_pos (by omega)), if_pos (nI_le hi hn)]
theorem c_atN {σ : q_St} {h : q_Hp} {a : Nat} {x : Int32} (hx : x < 0) : fX4_at σ h a x = some 0 := by
  unfold fX4_at
  rw [if_pos hx]
theorem c_set {σ : q_St} {h : q_Hp} {a i n : Nat} {v : Int32} (hl : q_len σ a = n) (hi : i < n) (hn : n < 2147483648) : fX4_set σ h a (nI i) v = some (q_si h a i v) := by
  unfold fX4_set
  rw [hl, k_ofN, if_neg (nI_pos (by omega)), if_neg (nI_ge hi hn), q_gu_t (vp_in_nI hi hn), k_cl (by omega)]
theorem c_setO {σ : q_St} {h : q_Hp} {a i n : Nat} {v : Int32} (hl : q_len σ a = n) (hi : n ≤ i) (hn : i < 2147483648) : fX4_set σ h a (nI i) v = some h := by
  unfold fX4_set
  rw [hl, k_ofN, if_neg (nI_pos (by omega)), if_pos (nI_le hi hn)]
theorem c_isIn {σ : q_St} {h : q_Hp} {x lo hi : Int32} : fX4_isIn σ h x lo hi = some (if lo ≤ x ∧ x ≤ hi then 1 else 0) := by
  unfold fX4_isIn
  by_cases h1 : lo ≤ x
  · rw [if_neg (fun q => (k_nlt _ _).mp q h1)]
    by_cases h2 : x ≤ hi
    · rw [if_neg (fun q => (k_nlt _ _).mp q h2), if_pos ⟨h1, h2⟩]
    · rw [if_pos ((k_nlt _ _).mpr h2), if_neg (fun q => h2 q.2)]
  · rw [if_pos ((k_nlt _ _).mpr h1), if_neg (fun q => h1 q.1)]
theorem k_cmp0 {a b : Int64} : (lg_cmp a b < 0) ↔ a < b := by
  unfold lg_cmp
  rcases lg_tri a b with h | h | h
  · rw [if_neg (lg_lt_not h), if_neg (lg_lt_ne h)]
    exact ⟨fun _ => h, fun _ => by decide⟩
  · subst h
    simp [Int64.lt_iff_toInt_lt]
  · rw [if_pos h]
    exact ⟨fun q => absurd q (by decide), fun q => absurd q (lg_lt_not h)⟩
theorem k_cmpP {a b : Int64} : (0 < lg_cmp a b) ↔ b < a := by
  unfold lg_cmp
  rcases lg_tri a b with h | h | h
  · rw [if_neg (lg_lt_not h), if_neg (lg_lt_ne h)]
    exact ⟨fun q => absurd q (by decide), fun q => absurd q (lg_lt_not h)⟩
  · subst h
    simp [Int64.lt_iff_toInt_lt]
  · rw [if_pos h]
    exact ⟨fun _ => h, fun _ => by decide⟩
theorem k_cmpE {a b : Int64} : (lg_cmp a b = 0) ↔ a = b := by
  unfold lg_cmp
  rcases lg_tri a b with h | h | h
  · rw [if_neg (lg_lt_not h), if_neg (lg_lt_ne h)]
    exact ⟨fun q => absurd q (by decide), fun q => absurd q (lg_lt_ne h)⟩
  · subst h
    simp [Int64.lt_iff_toInt_lt]
  · rw [if_pos h]
    exact ⟨fun q => absurd q (by decide), fun q => absurd q (fun e => by subst e; exact lg_lt_not h h)⟩
theorem k_lw {a b : Int32} : a.toInt64 < b.toInt64 ↔ a < b := by rw [Int64.lt_iff_toInt_lt, Int32.lt_iff_toInt_lt, Int32.toInt_toInt64, Int32.toInt_toInt64]
theorem k_ww {a b : Int32} : a.toInt64 = b.toInt64 ↔ a = b := by rw [← Int64.toInt_inj, ← Int32.toInt_inj, Int32.toInt_toInt64, Int32.toInt_toInt64]
theorem m_in {σ : q_St} {h : q_Hp} {x lo hi : Int32} {lo' hi' : Int64} (e1 : lo' = lo.toInt64) (e2 : hi' = hi.toInt64) : fX5_in σ h x.toInt64 lo' hi' = some (if lo ≤ x ∧ x ≤ hi then 1 else 0) := by
  subst e1; subst e2
  unfold fX5_in
  simp only [k_cmp0, k_cmpP, k_lw]
  by_cases h1 : lo ≤ x
  · rw [if_neg (fun q => (k_nlt _ _).mp q h1)]
    by_cases h2 : x ≤ hi
    · rw [if_neg (fun q => (k_nlt _ _).mp q h2), if_pos ⟨h1, h2⟩]
    · rw [if_pos ((k_nlt _ _).mpr h2), if_neg (fun q => h2 q.2)]
  · rw [if_pos ((k_nlt _ _).mpr h1), if_neg (fun q => h1 q.1)]
theorem c_hasBit {σ : q_St} {h : q_Hp} {a i : Nat} (ha : a < 2147483648) (hi : i < 31) : fX4_hasBit σ h (nI a) (nI i) = some (if a.testBit i then 1 else 0) := by
  unfold fX4_hasBit
  rw [k_tb ha hi]
  cases a.testBit i <;> rfl
theorem m_hasBit {σ : q_St} {h : q_Hp} {a i : Nat} (ha : a < 2147483648) (hi : i < 31) : fX5_hasBit σ h (nI a) (nI i) = some (if a.testBit i then 1 else 0) := by
  unfold fX5_hasBit
  rw [k_tb ha hi]
  cases a.testBit i <;> rfl
def k_pc (a : Nat) : Nat := (a.testBit 0).toNat + (a.testBit 1).toNat + (a.testBit 2).toNat + (a.testBit 3).toNat + (a.testBit 4).toNat + (a.testBit 5).toNat + (a.testBit 6).toNat + (a.testBit 7).toNat
set_option maxRecDepth 100000 in
theorem c_bits {σ : q_St} {h : q_Hp} : ∀ a, a < 256 → fJ6_bitCount_0f7a4 σ h (nI a) = some (nI (k_pc a)) := by
  unfold fJ6_bitCount_0f7a4
  decide +kernel
set_option maxRecDepth 100000 in
theorem k_pcS : ∀ a, a < 256 → a ≠ 0 → k_pc a = k_pc (a &&& (a - 1)) + 1 := by decide +kernel
theorem k_pcB (a : Nat) : k_pc a ≤ 8 := by
  have q : ∀ b : Bool, b.toNat ≤ 1 := by decide
  unfold k_pc
  have := q (a.testBit 0); have := q (a.testBit 1); have := q (a.testBit 2); have := q (a.testBit 3); have := q (a.testBit 4); have := q (a.testBit 5); have := q (a.testBit 6); have := q (a.testBit 7)
  omega
theorem m_ones {σ : q_St} {h : q_Hp} {a : Nat} (ha : a < 256) : fX5_onesOf σ h (nI a) = some (nI (k_pc a)) := by
  unfold fX5_onesOf
  refine k_eq (k_bind (P := fun r => r = nI (k_pc a)) (k_loop (fun s => ∃ l, l < 256 ∧ s.2 = nI l ∧ s.1 = nI (k_pc a - k_pc l) ∧ k_pc l ≤ k_pc a) (fun s => k_pc s.2.toNatClampNeg) q_N (0, nI a) ⟨a, ha, rfl, by rw [Nat.sub_self]; rfl, Nat.le_refl _⟩ ?_ ?_) (fun r hr => k_some hr))
  · show k_pc (nI a).toNatClampNeg < q_N
    have := k_pcB (nI a).toNatClampNeg
    rw [k_N]; omega
  · rintro ⟨s1, s2⟩ ⟨l, hl, e2, e1, hle⟩
    dsimp only at e1 e2
    subst e1; subst e2
    show k_ok (fX5_onesOf_4 σ h (nI a) (nI (k_pc a - k_pc l)) (nI l)) _
    unfold fX5_onesOf_4
    by_cases h0 : l = 0
    · subst h0
      rw [if_pos nI_0]
      exact k_some (by show nI (k_pc a - 0) = _; rfl)
    · rw [if_neg (nI_ne0 (by omega) (by omega))]
      have e : nI l &&& (nI l - 1) = nI (l &&& (l - 1)) := by
        obtain ⟨q, rfl⟩ : ∃ q, l = q + 1 := ⟨l - 1, by omega⟩
        rw [nI_pred, k_and, Nat.add_sub_cancel]
      have h2 := k_pcS l hl h0
      have h3 : l &&& (l - 1) < 256 := Nat.lt_of_le_of_lt Nat.and_le_left hl
      refine k_some ⟨⟨l &&& (l - 1), h3, e, ?_, by omega⟩, ?_⟩
      · show nI _ + 1 = _
        rw [nI_1]; congr 1; omega
      · show k_pc (nI l &&& (nI l - 1)).toNatClampNeg < k_pc (nI l).toNatClampNeg
        rw [e, k_cl (by omega), k_cl (by omega)]; omega
theorem m_greater {σ : q_St} {h : q_Hp} {a b : Nat} (ha : a < 2147483648) (hb : b < 2147483648) : fX5_greater σ h (nI a) (nI b) = some (nI (max a b)) := by
  unfold fX5_greater
  by_cases q : a ≤ b
  · rw [if_pos (nI_le q hb), Nat.max_eq_right q]
  · rw [if_neg (nI_ge (by omega) ha), Nat.max_eq_left (by omega)]
theorem m_apart {σ : q_St} {h : q_Hp} {a b : Nat} (ha : a < 2147483648) (hb : b < 2147483648) : fX5_apart σ h (nI a) (nI b) = some (nI (if a ≤ b then b - a else a - b)) := by
  unfold fX5_apart
  by_cases q : a ≤ b
  · rw [if_pos (nI_le q hb), if_pos q, pk_sub q]
  · rw [if_neg (nI_ge (by omega) ha), if_neg q, pk_sub (by omega)]
/-- sizes no farther apart than g -/
def k_nr (a b g : Nat) : Bool := decide (a ≤ b + g) && decide (b ≤ a + g)
set_option maxRecDepth 100000 in
theorem k_nrC : ∀ a, a < 21 → ∀ b, b < 22 → ∀ g, g < 5 → (if nI g < nI a - nI b then some (0 : Int32) else if nI g < nI b - nI a then some 0 else some 1) = some (if k_nr a b g then 1 else 0) := by decide +kernel
theorem k_nrM {a b g : Nat} : k_nr a b g = decide ((if a ≤ b then b - a else a - b) ≤ g) := by
  unfold k_nr
  rw [← Bool.decide_and]
  apply decide_eq_decide.mpr
  split <;> omega
theorem m_price {σ : q_St} {h : q_Hp} : ∀ k, k < 8 → ∀ f, f < 10 → fX5_priceBy σ h (nI k) (nI f) = some (nI (k_pr k f)) := by
  unfold fX5_priceBy
  decide +kernel
