/-! what a statement does to a state -/
theorem fa_first_at {q : Nat → Bool} {n i : Nat} (hi : i < n) (h1 : ∀ k, k < i → q k = false) (h2 : q i = true) : fa_first q n = i := by
  have le := fa_first_le q n
  rcases Nat.lt_trichotomy (fa_first q n) i with l | e | l
  · have y := fa_first_yes q n (by omega)
    rw [h1 _ l] at y; cases y
  · exact e
  · have y := fa_first_no q n i l
    rw [h2] at y; cases y
theorem fa_first_all {q : Nat → Bool} {n : Nat} (h1 : ∀ k, k < n → q k = false) : fa_first q n = n := by
  have le := fa_first_le q n
  rcases Nat.lt_or_eq_of_le le with l | e
  · have y := fa_first_yes q n l
    rw [h1 _ l] at y; cases y
  · exact e
def t_if (r : Int32 × k_Z) : Option k_Z := if 0 ≤ r.1 then some r.2 else none
def t_do (t : Nat → Int32) (n : Nat) (z : k_Z) (p : Nat) : Option k_Z :=
  if t_b t n p = 98 then (if t_nm t n (p + 1) 2 ≤ 20 ∧ t_nm t n (p + 3) 1 < 4 ∧ z 0 1 < 7 then some (k_newB z (t_nm t n (p + 1) 2) (t_nm t n (p + 3) 1) (t_nm t n (p + 4) 1) (t_nm t n (p + 5) 1) (t_nm t n (p + 6) 1)) else none)
  else if t_b t n p = 99 then t_if (k_cleans z (nI (t_nm t n (p + 1) 1)))
  else if t_b t n p = 104 then t_if (k_hires z (nI (t_nm t n (p + 1) 1)) (nI (t_nm t n (p + 2) 1)))
  else if t_b t n p = 114 then t_if (k_backs z (nI (t_nm t n (p + 1) 1)))
  else (if t_nm t n (p + 1) 1 < 8 ∧ t_nm t n (p + 3) 2 ≤ 20 ∧ z 0 0 < 7 then some (k_newS z (t_nm t n (p + 1) 1) (t_nm t n (p + 2) 1) (t_nm t n (p + 3) 2) (t_nm t n (p + 5) 2)) else none)
def t_st (t : Nat → Int32) (n : Nat) (z : k_Z) : Nat → Option k_Z
  | 0 => some z
  | k + 1 => (t_st t n z k).bind (fun w => t_do t n w (t_q t n k))
theorem t_gD {t : Nat → Int32} {n p : Nat} (g : t_g t n p = true) : ∀ i, i < t_D t n p → t_di (t_b t n (p + 1 + i)) = true := t_Fall (t_gT g).2.1
theorem t_n1 {t : Nat → Int32} {n p i w : Nat} (g : t_g t n p = true) (h : i + w ≤ t_D t n p) : (∀ j, j < w → t_di (t_b t n (p + 1 + i + j)) = true) ∧ t_nm t n (p + 1 + i) w < 10 ^ w := by
  have f : ∀ j, j < w → t_di (t_b t n (p + 1 + i + j)) = true := fun j hj => by
    rw [Nat.add_assoc]; exact t_gD g (i + j) (by omega)
  exact ⟨f, t_nmB w f⟩
theorem t_D98 {t : Nat → Int32} {n p : Nat} (e : t_b t n p = 98) : t_D t n p = 6 := by unfold t_D; rw [e]; decide
theorem t_D104 {t : Nat → Int32} {n p : Nat} (e : t_b t n p = 104) : t_D t n p = 2 := by unfold t_D; rw [e]; decide
theorem t_letter {t : Nat → Int32} {n p : Nat} (h : t_D t n p ≠ 0) (n1 : ¬ t_b t n p = 98) (n2 : ¬ t_b t n p = 99) (n3 : ¬ t_b t n p = 104) (n4 : ¬ t_b t n p = 114) : t_b t n p = 115 ∧ t_D t n p = 6 := by
  unfold t_D t_dg at h ⊢
  rw [if_neg n1, if_neg n2, if_neg n3, if_neg n4] at h ⊢
  by_cases e : t_b t n p = 115
  · exact ⟨e, if_pos e⟩
  · rw [if_neg e] at h; exact absurd rfl h
theorem t_ifV {r : Int32 × k_Z} {z' : k_Z} (K : k_va r.2) (h : t_if r = some z') : k_va z' := by
  unfold t_if at h
  by_cases e : 0 ≤ r.1
  · rw [if_pos e] at h; exact (Option.some.inj h) ▸ K
  · rw [if_neg e] at h; cases h
theorem t_va {t : Nat → Int32} {n p : Nat} {z z' : k_Z} (g : t_g t n p = true) (K : k_va z) (h : t_do t n z p = some z') : k_va z' := by
  unfold t_do at h
  have D0 := (t_gT g).1
  by_cases e1 : t_b t n p = 98
  · rw [if_pos e1] at h
    have D6 := t_D98 e1
    by_cases c : t_nm t n (p + 1) 2 ≤ 20 ∧ t_nm t n (p + 3) 1 < 4 ∧ z 0 1 < 7
    · rw [if_pos c] at h
      have a1 := (t_n1 (i := 3) (w := 1) g (by omega)).2
      have a2 := (t_n1 (i := 4) (w := 1) g (by omega)).2
      have a3 := (t_n1 (i := 5) (w := 1) g (by omega)).2
      rw [Nat.pow_one] at a1 a2 a3
      exact (Option.some.inj h) ▸ va_newB K c.2.2 c.1 (by omega) (by rw [show p + 4 = p + 1 + 3 by omega]; omega) (by rw [show p + 5 = p + 1 + 4 by omega]; omega) (by rw [show p + 6 = p + 1 + 5 by omega]; omega)
    · rw [if_neg c] at h; cases h
  rw [if_neg e1] at h
  by_cases e2 : t_b t n p = 99
  · rw [if_pos e2] at h
    exact t_ifV (va_cleans K _) h
  rw [if_neg e2] at h
  by_cases e3 : t_b t n p = 104
  · rw [if_pos e3] at h
    exact t_ifV (va_hires K _ _) h
  rw [if_neg e3] at h
  by_cases e4 : t_b t n p = 114
  · rw [if_pos e4] at h
    exact t_ifV (va_backs K _) h
  rw [if_neg e4] at h
  have D6 := (t_letter D0 e1 e2 e3 e4).2
  by_cases c : t_nm t n (p + 1) 1 < 8 ∧ t_nm t n (p + 3) 2 ≤ 20 ∧ z 0 0 < 7
  · rw [if_pos c] at h
    have a1 := (t_n1 (i := 1) (w := 1) g (by omega)).2
    have a2 := (t_n1 (i := 4) (w := 2) g (by omega)).2
    rw [Nat.pow_one] at a1
    rw [show 10 ^ 2 = 100 by decide] at a2
    exact (Option.some.inj h) ▸ va_newS K c.2.2 c.1 (by rw [show p + 2 = p + 1 + 1 by omega]; exact a1) c.2.1 (by rw [show p + 5 = p + 1 + 4 by omega]; omega)
  · rw [if_neg c] at h; cases h
theorem t_stV {t : Nat → Int32} {n : Nat} {z : k_Z} (K : k_va z) : ∀ k z', (∀ j, j < k → t_g t n (t_q t n j) = true) → t_st t n z k = some z' → k_va z'
  | 0, z', _, h => (Option.some.inj h) ▸ K
  | k + 1, z', g, h => by
    rw [t_st] at h
    cases e : t_st t n z k with
    | none => rw [e] at h; cases h
    | some w =>
      rw [e] at h
      exact t_va (g k (by omega)) (t_stV K k w (fun j hj => g j (by omega)) e) h
theorem t_stS {t : Nat → Int32} {n : Nat} {z : k_Z} : ∀ i w, t_st t n z i = some w → ∀ j, j ≤ i → (t_st t n z j).isNone = false
  | 0, w, h, j, hj => by
    have : j = 0 := by omega
    rw [this, h]; rfl
  | i + 1, w, h, j, hj => by
    by_cases e : j = i + 1
    · rw [e, h]; rfl
    · rw [t_st] at h
      cases e2 : t_st t n z i with
      | none => rw [e2] at h; cases h
      | some v => exact t_stS i v e2 j (by omega)
/-- how many statements, or what is wrong -/
def t_f (t : Nat → Int32) (n : Nat) (z : k_Z) : Nat := fa_first (fun k => (t_st t n z (k + 1)).isNone) (t_K t n + 1)
def p_text (z : k_Z) (t : Nat → Int32) (n : Nat) : Int32 × k_Z :=
  if t_g t n (t_q t n (t_K t n)) then (if t_f t n z < t_K t n + 1 then (-2000 - nI (t_q t n (t_f t n z)), z) else (nI (t_K t n + 1), (t_st t n z (t_K t n + 1)).getD z))
  else (-1000 - nI (t_e t n (t_q t n (t_K t n))), z)
theorem p_textF {z : k_Z} {t : Nat → Int32} {n i : Nat} {w : k_Z} (g : t_g t n (t_q t n (t_K t n)) = true) (hi : i ≤ t_K t n) (h : t_st t n z i = some w) (h2 : t_do t n w (t_q t n i) = none) : p_text z t n = (-2000 - nI (t_q t n i), z) := by
  have f : t_f t n z = i := fa_first_at (by omega) (fun k hk => t_stS i w h (k + 1) (by omega)) (by
    show (t_st t n z (i + 1)).isNone = true
    rw [t_st, h]
    show (t_do t n w (t_q t n i)).isNone = true
    rw [h2]; rfl)
  unfold p_text
  rw [if_pos g, f, if_pos (by omega)]
theorem p_textG {z : k_Z} {t : Nat → Int32} {n : Nat} {w : k_Z} (g : t_g t n (t_q t n (t_K t n)) = true) (h : t_st t n z (t_K t n + 1) = some w) : p_text z t n = (nI (t_K t n + 1), w) := by
  have f : t_f t n z = t_K t n + 1 := fa_first_all (fun k hk => t_stS _ w h (k + 1) (by omega))
  unfold p_text
  rw [if_pos g, f, if_neg (Nat.lt_irrefl _), h]; rfl
theorem p_textB {z : k_Z} {t : Nat → Int32} {n : Nat} (g : t_g t n (t_q t n (t_K t n)) = false) : p_text z t n = (-1000 - nI (t_e t n (t_q t n (t_K t n))), z) := by
  unfold p_text
  rw [g]; rfl
theorem t_gall {t : Nat → Int32} {n : Nat} (g : t_g t n (t_q t n (t_K t n)) = true) : ∀ j, j ≤ t_K t n → t_g t n (t_q t n j) = true := fun j hj => by
  rcases Nat.lt_or_eq_of_le hj with l | e
  · exact (t_Kg l).1
  · rw [e]; exact g
theorem va_text {z : k_Z} (K : k_va z) (t : Nat → Int32) (n : Nat) : k_va (p_text z t n).2 := by
  unfold p_text
  split
  · next g =>
    split
    · exact K
    · cases e : t_st t n z (t_K t n + 1) with
      | none => exact K
      | some w => exact t_stV K _ w (fun j hj => t_gall g j (by omega)) e
  · exact K
def p_shop (z y : k_Z) (c : Nat → Nat → Int32) (v : Int32) : Int32 × k_Z := if k_wr y 2 v = 0 then (if y 3 v.toNatClampNeg = 0 then p_text z (c v.toNatClampNeg) (y 4 v.toNatClampNeg) else (-12, z)) else (k_wr y 2 v, z)
theorem va_shop {z y : k_Z} {c : Nat → Nat → Int32} (K : k_va z) (v : Int32) : k_va (p_shop z y c v).2 := by
  unfold p_shop
  split
  · split
    · exact va_text K _ _
    · exact K
  · exact K
