/-! longs that are small naturals; the part of two -/
def nL (n : Nat) : Int64 := Int64.ofNat n
theorem nL_toInt {n : Nat} (h : n < 9223372036854775808) : (nL n).toInt = (n : Int) := Int64.toInt_ofNat_of_lt h
theorem nL_add (a b : Nat) : nL a + nL b = nL (a + b) := (Int64.ofNat_add a b).symm
theorem nL_mul (a b : Nat) : nL a * nL b = nL (a * b) := (Int64.ofNat_mul a b).symm
theorem nL_sub {a b : Nat} (h : b ≤ a) : nL a - nL b = nL (a - b) := by
  obtain ⟨c, rfl⟩ : ∃ c, a = c + b := ⟨a - b, by omega⟩
  rw [← nL_add, Int64.add_sub_cancel, Nat.add_sub_cancel]
theorem nL_eq {a b : Nat} (ha : a < 9223372036854775808) (hb : b < 9223372036854775808) : (nL a = nL b) = (a = b) := by
  apply propext
  rw [← Int64.toInt_inj, nL_toInt ha, nL_toInt hb]
  omega
theorem nL_of {n : Nat} (h : n < 2147483648) : Int32.toInt64 (nI n) = nL n := by
  apply Int64.toInt_inj.mp
  rw [Int32.toInt_toInt64, nI_toInt h, nL_toInt (by omega)]
theorem nL_div {a d : Nat} (ha : a < 9223372036854775808) (h0 : 0 < d) (hd : d < 9223372036854775808) : nL a / nL d = nL (a / d) := by
  apply Int64.toInt_inj.mp
  have hle := Nat.div_le_self a d
  rw [lg_ldiv_nonneg (by rw [nL_toInt ha]; omega) (by rw [nL_toInt hd]; omega), nL_toInt ha, nL_toInt hd, nL_toInt (by omega)]
  first | rfl | exact (Int.natCast_ediv _ _).symm
theorem nL_rem {a d : Nat} (ha : a < 9223372036854775808) (h0 : 0 < d) (hd : d < 9223372036854775808) : nL a - nL a / nL d * nL d = nL (a % d) := by
  rw [nL_div ha h0 hd, nL_mul, nL_sub (Nat.div_mul_le_self a d)]
  exact congrArg nL (by have := Nat.div_add_mod' a d; omega)
theorem nL_le0 {a : Nat} (ha : a < 9223372036854775808) : (lg_cmp (nL a) (0 : Int64) ≤ 0) = (a = 0) := by
  have h1 : (lg_cmp (nL a) (0 : Int64) ≤ 0) ↔ ¬ (0 < lg_cmp (nL a) (0 : Int64)) := by
    rw [k_nlt]; exact ⟨fun h q => q h, fun h => Classical.byContradiction h⟩
  apply propext
  rw [h1, k_cmpP, Int64.lt_iff_toInt_lt, nL_toInt ha, show (0 : Int64).toInt = 0 by decide]
  omega
theorem nL_eq0 {a : Nat} (ha : a < 9223372036854775808) : (lg_cmp (nL a) (0 : Int64) = 0) = (a = 0) := by
  apply propext
  rw [k_cmpE, show (0 : Int64) = nL 0 from rfl, nL_eq ha (by decide)]
theorem nL_ne0 {a : Nat} (ha : a < 9223372036854775808) (h : 0 < a) : ¬ nL a = 0 := by
  rw [show (0 : Int64) = nL 0 from rfl, nL_eq ha (by decide)]; omega
def k_gI (y0 y2 i a b : Nat) : Prop := Nat.gcd a b = Nat.gcd y0 y2 ∧ a < 2 ^ 60 ∧ b < 2 ^ 60 ∧ 0 < a ∧ ((i = 0 ∧ a = y0 ∧ b = y2) ∨ (1 ≤ i ∧ b < a ∧ a * b < 2 ^ (130 - i)))
theorem k_gI_s {y0 y2 i a b : Nat} (hi : i < 130) (h : k_gI y0 y2 i a b) (hb : 0 < b) : k_gI y0 y2 (i + 1) b (a % b) := by
  obtain ⟨h1, h2, h3, h4, h5⟩ := h
  have hm := Nat.mod_lt a hb
  refine ⟨by rw [← h1, Nat.gcd_comm a b, Nat.gcd_comm b (a % b), ← Nat.gcd_rec, ], h3, by omega, hb, Or.inr ⟨by omega, hm, ?_⟩⟩
  rcases h5 with ⟨e, -, -⟩ | ⟨e, hba, hp⟩
  · subst e
    have : b * (a % b) < 2 ^ 60 * 2 ^ 60 := Nat.mul_lt_mul_of_lt_of_le h3 (by omega) (by omega)
    rw [← Nat.pow_add] at this
    exact Nat.lt_of_lt_of_le this (Nat.pow_le_pow_right (by decide) (by omega))
  · have h6 : 2 * (a % b) ≤ a := by
      have := Nat.div_add_mod a b
      have : 1 ≤ a / b := (Nat.one_le_div_iff hb).mpr (by omega)
      have : b * 1 ≤ b * (a / b) := Nat.mul_le_mul_left b this
      omega
    have h7 : 2 * (b * (a % b)) ≤ a * b := by
      have := Nat.mul_le_mul_left b h6
      rw [Nat.mul_comm a b, ← Nat.mul_assoc, Nat.mul_comm 2 b, Nat.mul_assoc]
      exact this
    have e2 : 2 ^ (130 - i) = 2 * 2 ^ (130 - (i + 1)) := by
      rw [show 130 - i = (130 - (i + 1)) + 1 by omega, Nat.pow_succ]; omega
    omega
theorem k_gI_e {y0 y2 a b : Nat} (h : k_gI y0 y2 130 a b) : b = 0 := by
  obtain ⟨-, -, -, h4, h5⟩ := h
  rcases h5 with ⟨e, -, -⟩ | ⟨-, -, hp⟩
  · omega
  · rw [Nat.sub_self, Nat.pow_zero] at hp
    rcases Nat.eq_zero_or_pos b with q | q
    · exact q
    · have := Nat.mul_pos h4 q; omega
theorem k_gI_0 {y0 y2 : Nat} (h0 : 0 < y0) (b0 : y0 < 2 ^ 60) (b2 : y2 < 2 ^ 60) : k_gI y0 y2 0 y0 y2 := ⟨rfl, b0, b2, h0, Or.inl ⟨rfl, rfl, rfl⟩⟩
theorem p60 : 2 ^ 60 < 9223372036854775808 := by decide
theorem c_divisor {σ : q_St} {h : q_Hp} {y0 y2 : Nat} (h0 : 0 < y0) (b0 : y0 < 2 ^ 60) (b2 : y2 < 2 ^ 60) : fX4_commonDivisor σ h (nL y0) (nL y2) = some (nL (Nat.gcd y0 y2)) := by
  have P := p60
  unfold fX4_commonDivisor
  refine k_eq (k_bind (P := fun r => r = nL (Nat.gcd y0 y2)) (k_for (n := 130) (fun i s => ∃ a b, s.1 = nL a ∧ s.2.1 = nL b ∧ s.2.2 = nI i ∧ k_gI y0 y2 i a b) (by rw [k_N]; omega) ⟨y0, y2, rfl, rfl, rfl, k_gI_0 h0 b0 b2⟩ ?_) (fun r p => k_some p))
  rintro i ⟨s1, s2, s3⟩ hi ⟨a, b, e1, e2, e3, J⟩
  dsimp only at e1 e2 e3
  subst e1; subst e2; subst e3
  show k_ok (fX4_commonDivisor_9 σ h (nL y0) (nL y2) (nL a) (nL b) (nI i)) _
  unfold fX4_commonDivisor_9
  have fin : b = 0 → nL a = nL (Nat.gcd y0 y2) := fun e => by rw [← J.1, e, Nat.gcd_zero_right]
  have A := J.2.1
  have B := J.2.2.1
  rcases Nat.lt_or_ge i 130 with q | q
  · rw [if_neg (k_geL (n := 130) (l := 130) rfl q (by decide))]
    simp only [nL_le0 (show b < 9223372036854775808 by omega)]
    by_cases hb : b = 0
    · rw [if_pos hb]; exact k_some (fin hb)
    · rw [if_neg hb, q_gu_t (nL_ne0 (by omega) (by omega)), nL_rem (by omega) (by omega) (by omega), nI_1]
      exact k_some ⟨q, b, a % b, rfl, rfl, rfl, k_gI_s q J (by omega)⟩
  · have : i = 130 := by omega
    subst this
    rw [if_pos (k_leL (n := 130) (l := 130) rfl (Nat.le_refl _) (by decide))]
    exact k_some (fin (k_gI_e J))
theorem m_divisor {σ : q_St} {h : q_Hp} {y0 y2 : Nat} (h0 : 0 < y0) (b0 : y0 < 2 ^ 60) (b2 : y2 < 2 ^ 60) : fX5_divisor σ h (nL y0) (nL y2) = some (nL (Nat.gcd y0 y2)) := by
  have P := p60
  unfold fX5_divisor
  refine k_eq (k_bind (P := fun r => r = nL (Nat.gcd y0 y2)) (k_for (n := 130) (fun i s => ∃ a b, s.1 = nL a ∧ s.2 = nL b ∧ k_gI y0 y2 i a b) (by rw [k_N]; omega) ⟨y0, y2, rfl, rfl, k_gI_0 h0 b0 b2⟩ ?_) (fun r p => k_some p))
  rintro i ⟨s1, s2⟩ hi ⟨a, b, e1, e2, J⟩
  dsimp only at e1 e2
  subst e1; subst e2
  show k_ok (fX5_divisor_6 σ h (nL y0) (nL y2) (nL a) (nL b)) _
  unfold fX5_divisor_6
  have A := J.2.1
  have B := J.2.2.1
  simp only [nL_eq0 (show b < 9223372036854775808 by omega)]
  by_cases hb : b = 0
  · rw [if_pos hb]
    exact k_some (show nL a = nL (Nat.gcd y0 y2) by rw [← J.1, hb, Nat.gcd_zero_right])
  · rw [if_neg hb, q_gu_t (nL_ne0 (by omega) (by omega)), nL_rem (by omega) (by omega) (by omega)]
    rcases Nat.lt_or_ge i 130 with q | q
    · exact k_some ⟨q, b, a % b, rfl, rfl, k_gI_s q J (by omega)⟩
    · have : i = 130 := by omega
      subst this
      exact absurd (k_gI_e J) hb
def p_part (a t : Nat) (w : Int32) : Int64 := if a = 0 then w.toInt64 else if w = 0 then nL (a / Nat.gcd a t) else nL (t / Nat.gcd a t)
theorem c_partOf {σ : q_St} {h : q_Hp} {a t : Nat} {w : Int32} (ha : a < 2 ^ 60) (ht : t < 2 ^ 60) (t0 : 0 < t) (hw : 0 ≤ w ∧ w ≤ 1) : fX4_partOf σ h (nL a) (nL t) w = some (p_part a t w) := by
  have P := p60
  unfold fX4_partOf p_part
  by_cases a0 : a = 0
  · subst a0
    have cd : fX4_commonDivisor σ h (nL 0) (nL t) = some (nL t) := by
      unfold fX4_commonDivisor
      obtain ⟨N, hN⟩ : ∃ N, q_N = N + 1 + 1 := ⟨999999998, by rw [k_N]⟩
      rw [hN, q_loop]
      unfold fX4_commonDivisor_9
      simp only [nL_le0 (show t < 9223372036854775808 by omega), if_neg (show ¬ t = 0 by omega), if_neg (show ¬ (130 : Int32) ≤ 0 by decide)]
      rw [q_gu_t (nL_ne0 (by omega) t0)]
      simp only [nL_rem (show 0 < 9223372036854775808 by decide) t0 (show t < 9223372036854775808 by omega), Nat.zero_mod]
      rw [q_loop]
      simp only [nL_le0 (show 0 < 9223372036854775808 by decide), if_neg (show ¬ (130 : Int32) ≤ 0 + 1 by decide)]
      rfl
    rw [cd, k_bs1, if_pos rfl]
    unfold fX4_partOf_17
    simp only [nL_le0 (show t < 9223372036854775808 by omega), if_neg (show ¬ t = 0 by omega)]
    rw [q_gu_t (nL_ne0 (by omega) t0), q_gu_t (nL_ne0 (by omega) t0), nL_div (by decide) t0 (by omega), nL_div (by omega) t0 (by omega), Nat.zero_div, Nat.div_self t0]
    obtain ⟨j, hj, rfl⟩ := k_is_t (x := w) (n := 2) (by decide) (decide_eq_true ⟨hw.1, hw.2⟩)
    rcases (show j = 0 ∨ j = 1 by omega) with rfl | rfl
    · rfl
    · rfl
  · have g1 : Nat.gcd a t ≤ t := Nat.gcd_le_right a t0
    have g0 : 0 < Nat.gcd a t := Nat.gcd_pos_of_pos_right a t0
    rw [c_divisor (by omega) ha ht, k_bs1, if_neg a0]
    unfold fX4_partOf_17
    simp only [nL_le0 (show Nat.gcd a t < 9223372036854775808 by omega), if_neg (show ¬ Nat.gcd a t = 0 by omega)]
    rw [q_gu_t (nL_ne0 (by omega) g0), q_gu_t (nL_ne0 (by omega) g0), nL_div (by omega) g0 (by omega), nL_div (by omega) g0 (by omega)]
    by_cases w0 : w = 0
    · rw [if_pos w0, if_pos w0]
    · rw [if_neg w0, if_neg w0]
theorem m_partOf {σ : q_St} {h : q_Hp} {a t : Nat} {w : Int32} (ha : a < 2 ^ 60) (ht : t < 2 ^ 60) (t0 : 0 < t) : fX5_partOf σ h (nL a) (nL t) w = some (p_part a t w) := by
  have P := p60
  unfold fX5_partOf p_part
  simp only [nL_eq0 (show a < 9223372036854775808 by omega)]
  by_cases a0 : a = 0
  · rw [if_pos a0, if_pos a0]
  · have g1 : Nat.gcd a t ≤ t := Nat.gcd_le_right a t0
    have g0 : 0 < Nat.gcd a t := Nat.gcd_pos_of_pos_right a t0
    rw [if_neg a0, if_neg a0, m_divisor (by omega) ha ht, k_bs1, q_gu_t (nL_ne0 (by omega) g0), q_gu_t (nL_ne0 (by omega) g0), nL_div (by omega) g0 (by omega), nL_div (by omega) g0 (by omega)]
    by_cases w0 : w = 0
    · rw [if_pos w0, if_pos w0]
    · rw [if_neg w0, if_neg w0]
theorem c_tenTo {σ : q_St} {h : q_Hp} {n : Nat} (hn : n < 15) : fX4_tenTo σ h (nI n) = some (nL (10 ^ n)) := by
  unfold fX4_tenTo
  refine k_eq (k_bind (P := fun r => r = nL (10 ^ n)) (k_for (n := n) (fun i s => s.1 = nL (10 ^ i) ∧ s.2 = nI i) (by rw [k_N]; omega) ⟨rfl, rfl⟩ ?_) (fun r p => k_some p))
  rintro i ⟨s1, s2⟩ hi ⟨e1, e2⟩
  dsimp only at e1 e2
  subst e1; subst e2
  show k_ok (fX4_tenTo_4 σ h (nI n) (nL (10 ^ i)) (nI i)) _
  unfold fX4_tenTo_4
  rcases Nat.lt_or_ge i n with q | q
  · rw [if_neg (nI_ge q (by omega)), show (10 : Int64) = nL 10 from rfl, nL_mul, nI_1]
    exact k_some ⟨q, rfl, rfl⟩
  · have : i = n := by omega
    subst this
    rw [if_pos (nI_le (Nat.le_refl _) (by omega))]
    exact k_some rfl
