/-! pairs: Friday, forged, stained; judged -/
/-- r is told by the first N of lo .. hi - 1 with q, or -4 -/
def k_fst (q : Nat → Bool) (val : Nat → Int32) (lo hi : Nat) (r : Int32) : Prop := (r = -4 ∧ ∀ N, lo ≤ N → N < hi → q N = false) ∨ ∃ N, lo ≤ N ∧ N < hi ∧ q N = true ∧ r = val N ∧ ∀ M, lo ≤ M → M < N → q M = false
theorem k_fst_u {q : Nat → Bool} {val : Nat → Int32} {lo hi : Nat} {r r' : Int32} (h : k_fst q val lo hi r) (h' : k_fst q val lo hi r') : r = r' := by
  rcases h with ⟨e, n⟩ | ⟨N, a, b, t, e, f⟩
  · rcases h' with ⟨e', n'⟩ | ⟨N', a', b', t', e', f'⟩
    · rw [e, e']
    · rw [n N' a' b'] at t'; cases t'
  · rcases h' with ⟨e', n'⟩ | ⟨N', a', b', t', e', f'⟩
    · rw [n' N a b] at t; cases t
    · have : N = N' := by
        rcases Nat.lt_trichotomy N N' with l | l | l
        · rw [f' N a l] at t; cases t
        · exact l
        · rw [f N' a' l] at t'; cases t'
      rw [e, e', this]
def k_one01 (q : Nat → Bool) : Nat → Nat := k_sm (fun N => if q N then 1 else 0)
theorem k_one_le (q : Nat → Bool) : ∀ n, k_one01 q n ≤ n
  | 0 => Nat.le_refl 0
  | n + 1 => by
    have := k_one_le q n
    show k_one01 q n + (if q n then 1 else 0) ≤ n + 1
    split <;> omega
theorem k_one_s (q : Nat → Bool) (n : Nat) : k_one01 q (n + 1) = k_one01 q n + (if q n then 1 else 0) := rfl
theorem k_one_mono (q : Nat → Bool) {a : Nat} : ∀ {b : Nat}, a ≤ b → k_one01 q a ≤ k_one01 q b
  | 0, h => by rw [Nat.le_zero.mp h]; exact Nat.le_refl _
  | b + 1, h => by
    rcases Nat.lt_or_ge b a with e | e
    · rw [show a = b + 1 by omega]; exact Nat.le_refl _
    · rw [k_one_s]; exact Nat.le_trans (k_one_mono q e) (by omega)
theorem k_one_no {q : Nat → Bool} {a : Nat} : ∀ {b : Nat}, a ≤ b → (∀ N, a ≤ N → N < b → q N = false) → k_one01 q b = k_one01 q a
  | 0, h, _ => by rw [Nat.le_zero.mp h]
  | b + 1, h, n => by
    rcases Nat.lt_or_ge b a with e | e
    · rw [show a = b + 1 by omega]
    · rw [k_one_s, n b e (by omega), k_one_no e (fun N h1 h2 => n N h1 (by omega))]; rfl
theorem k_one_z {q : Nat → Bool} {n : Nat} (h : k_one01 q n = 0) : ∀ N, N < n → q N = false := by
  intro N hN
  cases e : q N with
  | false => rfl
  | true =>
    have h1 := k_one_mono q (show N + 1 ≤ n by omega)
    rw [k_one_s, e] at h1
    simp at h1
    omega
theorem k_fst_0 {q : Nat → Bool} {val : Nat → Int32} {lo : Nat} : k_fst q val lo lo (-4) := Or.inl ⟨rfl, fun N h1 h2 => absurd h1 (by omega)⟩
/-- one more behind -/
theorem k_fst_up {q : Nat → Bool} {val : Nat → Int32} {hi : Nat} {r : Int32} (h : k_fst q val 0 hi r) : k_fst q val 0 (hi + 1) (if q hi then (if k_one01 q hi = 0 then val hi else r) else r) := by
  cases e : q hi with
  | false =>
    rw [if_neg (by decide)]
    rcases h with ⟨e1, n⟩ | ⟨N, a, b, t, e1, f⟩
    · refine Or.inl ⟨e1, fun N h1 h2 => ?_⟩
      by_cases e2 : N = hi
      · rw [e2, e]
      · exact n N h1 (by omega)
    · exact Or.inr ⟨N, a, by omega, t, e1, f⟩
  | true =>
    rw [if_pos rfl]
    by_cases z0 : k_one01 q hi = 0
    · rw [if_pos z0]
      exact Or.inr ⟨hi, by omega, by omega, e, rfl, fun M _ h2 => k_one_z z0 M h2⟩
    · rw [if_neg z0]
      rcases h with ⟨e1, n⟩ | ⟨N, a, b, t, e1, f⟩
      · exfalso
        apply z0
        exact (k_one_no (Nat.zero_le hi) n)
      · exact Or.inr ⟨N, a, by omega, t, e1, f⟩
/-- one more ahead -/
theorem k_fst_dn {q : Nat → Bool} {val : Nat → Int32} {lo hi : Nat} {r : Int32} (hl : lo < hi) (h : k_fst q val (lo + 1) hi r) : k_fst q val lo hi (if q lo then val lo else r) := by
  cases e : q lo with
  | false =>
    rw [if_neg (by decide)]
    rcases h with ⟨e1, n⟩ | ⟨N, a, b, t, e1, f⟩
    · refine Or.inl ⟨e1, fun N h1 h2 => ?_⟩
      by_cases e2 : N = lo
      · rw [e2, e]
      · exact n N (by omega) h2
    · refine Or.inr ⟨N, by omega, b, t, e1, fun M h1 h2 => ?_⟩
      by_cases e2 : M = lo
      · rw [e2, e]
      · exact f M (by omega) h2
  | true =>
    rw [if_pos rfl]
    exact Or.inr ⟨lo, Nat.le_refl _, hl, e, rfl, fun M h1 h2 => absurd h1 (by omega)⟩
theorem k_fst_skip {q : Nat → Bool} {val : Nat → Int32} {lo hi hi' : Nat} {r : Int32} (hh : hi ≤ hi') (n : ∀ N, hi ≤ N → N < hi' → q N = false) (h : k_fst q val lo hi r) : k_fst q val lo hi' r := by
  rcases h with ⟨e1, n1⟩ | ⟨N, a, b, t, e1, f⟩
  · refine Or.inl ⟨e1, fun N h1 h2 => ?_⟩
    rcases Nat.lt_or_ge N hi with l | l
    · exact n1 N h1 l
    · exact n N l h2
  · exact Or.inr ⟨N, a, by omega, t, e1, f⟩
theorem k_fst_skipD {q : Nat → Bool} {val : Nat → Int32} {lo lo' hi : Nat} {r : Int32} (hh : lo' ≤ lo) (n : ∀ N, lo' ≤ N → N < lo → q N = false) (h : k_fst q val lo hi r) : k_fst q val lo' hi r := by
  rcases h with ⟨e1, n1⟩ | ⟨N, a, b, t, e1, f⟩
  · refine Or.inl ⟨e1, fun N h1 h2 => ?_⟩
    rcases Nat.lt_or_ge N lo with l | l
    · exact n N h1 l
    · exact n1 N l h2
  · refine Or.inr ⟨N, by omega, b, t, e1, fun M h1 h2 => ?_⟩
    rcases Nat.lt_or_ge M lo with l | l
    · exact n M h1 l
    · exact f M l h2
def p_fst (q : Nat → Bool) (val : Nat → Int32) (n : Nat) : Int32 := if fa_first q n < n then val (fa_first q n) else -4
theorem p_fstE {q : Nat → Bool} {val : Nat → Int32} {n : Nat} : k_fst q val 0 n (p_fst q val n) := by
  unfold p_fst
  by_cases h : fa_first q n < n
  · rw [if_pos h]
    exact Or.inr ⟨_, Nat.zero_le _, h, fa_first_yes q n h, rfl, fun M _ hM => fa_first_no q n M hM⟩
  · rw [if_neg h]
    have := fa_first_le q n
    exact Or.inl ⟨rfl, fun N _ h2 => fa_first_no q n N (by omega)⟩
theorem k_p1 (x : Int32) : x + (-1) = x - 1 := (Int32.sub_eq_add_neg x 1).symm
/-! Friday -/
def k_ch2 (z : k_Z) (a b : Nat) : Bool := !(z 11 a == 9) && !(z 11 b == 9) && k_fits z (z 11 a) b && k_fits z (z 11 b) a
def k_fq (z : k_Z) (N : Nat) : Bool := decide (N / 8 < N % 8 ∧ N % 8 < z 0 1) && k_ch2 z (N / 8) (N % 8)
def k_fval (N : Nat) : Int32 := nI (10 * (N / 8) + N % 8)
def p_friday (z : k_Z) (w : Int32) : Int32 := if k_is w 2 then (if w = 0 then nI (k_one01 (k_fq z) 64) else p_fst (k_fq z) k_fval 64) else -1
theorem k_fqN {z : k_Z} {a b : Nat} (hb : b < 8) : k_fq z (8 * a + b) = (decide (a < b ∧ b < z 0 1) && k_ch2 z a b) := by
  unfold k_fq
  rw [show (8 * a + b) / 8 = a by omega, show (8 * a + b) % 8 = b by omega]
theorem k_fvalN {a b : Nat} (hb : b < 8) : k_fval (8 * a + b) = nI (10 * a + b) := by
  unfold k_fval
  rw [show (8 * a + b) / 8 = a by omega, show (8 * a + b) % 8 = b by omega]
theorem k_fqO {z : k_Z} {N : Nat} (h : ¬ (N / 8 < N % 8 ∧ N % 8 < z 0 1)) : k_fq z N = false := by
  unfold k_fq; rw [decide_eq_false h]; rfl
theorem k_hasS {z : k_Z} (K : k_va z) {b : Nat} (hb : b < z 0 1) (h : ¬ z 11 b = 9) : z 11 b < z 0 0 := by
  rcases va_ha K hb with q | q
  · exact absurd q h
  · exact q.1
theorem c_change {σ : q_St} {h : q_Hp} {A : Nat} {z : k_Z} (V : k_V σ h A z) (K : k_va z) {a b : Nat} (ha : a < z 0 1) (hb : b < z 0 1) : fX2_couldChange σ h A (nI a) (nI b) = some (if k_ch2 z a b then 1 else 0) := by
  have S := vS V
  have n7 := va_ns K
  have b7 := va_nb K
  have h1 := va_ha9 K ha
  have h2 := va_ha9 K hb
  unfold fX2_couldChange
  rw [sr9 S, q_gu_t (st10 S), c_at (sl10 S) (by omega) (by decide), k_bs1, c_at (sl10 S) (by omega) (by decide), k_bs1, v11 V ha, v11 V hb]
  simp only [k_eqL (show (9 : Int32) = nI 9 from rfl) (show z 11 a < 2147483648 by omega) (show 9 < 2147483648 by decide), k_eqL (show (9 : Int32) = nI 9 from rfl) (show z 11 b < 2147483648 by omega) (show 9 < 2147483648 by decide)]
  unfold k_ch2
  by_cases e1 : z 11 a = 9
  · rw [if_pos e1]; simp [e1]
  rw [if_neg e1]
  by_cases e2 : z 11 b = 9
  · rw [if_pos e2]; simp [e2]
  rw [if_neg e2, c_right V K (k_hasS K ha e1) hb, k_bs1, k_01i, c_right V K (k_hasS K hb e2) ha, k_bs1, k_01i]
  cases k_fits z (z 11 a) b <;> cases k_fits z (z 11 b) a <;> simp [e1, e2]
theorem c_friday {σ : q_St} {h : q_Hp} {x A B : Nat} {z : k_Z} (X : k_X σ x A B) (V : k_V σ h A z) (K : k_va z) (w : Int32) : fX4_friday σ h x w = some (p_friday z w) := by
  have S := vS V
  have b7 := va_nb K
  unfold fX4_friday p_friday
  rw [xr0 X, q_gu_t (st0 S), c_in (n := 2) (by decide), k_bs1, k_01i]
  cases e : k_is w 2 with
  | false => rfl
  | true =>
  rw [if_pos rfl, if_pos rfl]
  have e2 : q_loop (fun s => fX4_friday_19 σ h x w s.1 s.2.1 s.2.2) q_N ((0 : Int32), (-4 : Int32), (0 : Int32)) = some (nI (k_one01 (k_fq z) 64), p_fst (k_fq z) k_fval 64) := by
    refine k_eq (k_mono (k_for (n := z 0 1) (P := fun o => o.1 = nI (k_one01 (k_fq z) 64) ∧ k_fst (k_fq z) k_fval 0 64 o.2) (fun a s => s.2.2 = nI a ∧ s.1 = nI (k_one01 (k_fq z) (8 * a + a + 1)) ∧ k_fst (k_fq z) k_fval 0 (8 * a + a + 1) s.2.1) (by rw [k_N]; omega) ⟨rfl, ?_, ?_⟩ ?_) ?_)
    · rw [k_one_s, k_fqO (by omega)]; rfl
    · exact k_fst_skip (by omega) (fun N h1 h2 => k_fqO (by omega)) k_fst_0
    · rintro a ⟨s1, s2, s3⟩ ha ⟨e3, e1, hf⟩
      dsimp only at e3 e1 hf
      subst e3; subst e1
      show k_ok (fX4_friday_19 σ h x w (nI (k_one01 (k_fq z) (8 * a + a + 1))) s2 (nI a)) _
      unfold fX4_friday_19
      rw [xr0 X, v_nb V]
      rcases Nat.lt_or_ge a (z 0 1) with qa | qa
      · rw [if_neg (nI_ge qa (by omega)), nI_1]
        refine k_bind (k_for (n := z 0 1 - (a + 1)) (P := fun o => o.1 = nI (k_one01 (k_fq z) (8 * (a + 1) + (a + 1) + 1)) ∧ k_fst (k_fq z) k_fval 0 (8 * (a + 1) + (a + 1) + 1) o.2) (fun i s => s.2.2 = nI (a + 1 + i) ∧ s.1 = nI (k_one01 (k_fq z) (8 * a + (a + 1 + i))) ∧ k_fst (k_fq z) k_fval 0 (8 * a + (a + 1 + i)) s.2.1) (by rw [k_N]; omega) ⟨rfl, by rw [show 8 * a + (a + 1 + 0) = 8 * a + a + 1 by omega], by rw [show 8 * a + (a + 1 + 0) = 8 * a + a + 1 by omega]; exact hf⟩ ?_) (fun o p => k_some ⟨qa, rfl, p.1, p.2⟩)
        rintro i ⟨t1, t2, t3⟩ hi ⟨f3, f1, hg⟩
        dsimp only at f3 f1 hg
        subst f3; subst f1
        have bd := k_one_le (k_fq z) (8 * a + (a + 1 + i))
        show k_ok (fX4_friday_37 σ h x w (nI a) (nI (k_one01 (k_fq z) (8 * a + (a + 1 + i)))) t2 (nI (a + 1 + i))) _
        simp only [fX4_friday_83, fX4_friday_79, fX4_friday_37, fX4_friday_19, xr0 X, v_nb V]
        rcases Nat.lt_or_ge (a + 1 + i) (z 0 1) with qb | qb
        · have qN : k_fq z (8 * a + (a + 1 + i)) = k_ch2 z a (a + 1 + i) := by
            rw [k_fqN (by omega), decide_eq_true (by omega)]; rfl
          have up := k_fst_up hg
          have c1 := k_one_s (k_fq z) (8 * a + (a + 1 + i))
          rw [qN] at up c1
          rw [k_fvalN (by omega)] at up
          simp only [if_neg (nI_ge qb (show z 0 1 < 2 ^ 31 by omega)), c_change V K qa qb, k_bs1, k_01i, k_eqL (show (0 : Int32) = nI 0 from rfl) (show k_one01 (k_fq z) (8 * a + (a + 1 + i)) < 2147483648 by omega) (show 0 < 2147483648 by decide), show nI a * 10 = nI (10 * a) by rw [show (10 : Int32) = nI 10 from rfl, pk_mul, Nat.mul_comm], nI_add, nI_1]
          cases ec : k_ch2 z a (a + 1 + i) with
          | false =>
            rw [ec] at up c1
            exact k_some ⟨by omega, rfl, by rw [show 8 * a + (a + 1 + (i + 1)) = 8 * a + (a + 1 + i) + 1 by omega, c1]; rfl, by rw [show 8 * a + (a + 1 + (i + 1)) = 8 * a + (a + 1 + i) + 1 by omega]; exact up⟩
          | true =>
            rw [ec, if_pos rfl] at up c1
            rw [if_pos rfl]
            by_cases z0 : k_one01 (k_fq z) (8 * a + (a + 1 + i)) = 0
            · rw [if_pos z0] at up ⊢
              exact k_some ⟨by omega, rfl, by rw [show 8 * a + (a + 1 + (i + 1)) = 8 * a + (a + 1 + i) + 1 by omega, c1], by rw [show 8 * a + (a + 1 + (i + 1)) = 8 * a + (a + 1 + i) + 1 by omega]; exact up⟩
            · rw [if_neg z0] at up ⊢
              exact k_some ⟨by omega, rfl, by rw [show 8 * a + (a + 1 + (i + 1)) = 8 * a + (a + 1 + i) + 1 by omega, c1], by rw [show 8 * a + (a + 1 + (i + 1)) = 8 * a + (a + 1 + i) + 1 by omega]; exact up⟩
        · have eb : a + 1 + i = z 0 1 := by omega
          rw [eb] at hg ⊢
          rw [if_pos (nI_le (Nat.le_refl (z 0 1)) (show z 0 1 < 2 ^ 31 by omega))]
          have no : ∀ N, 8 * a + z 0 1 ≤ N → N < 8 * (a + 1) + (a + 1) + 1 → k_fq z N = false := fun N h1 h2 => k_fqO (by omega)
          exact k_some ⟨by rw [k_one_no (by omega) no], k_fst_skip (by omega) no hg⟩
      · have : a = z 0 1 := by omega
        subst this
        rw [if_pos (nI_le (Nat.le_refl _) (by omega))]
        have no : ∀ N, 8 * z 0 1 + z 0 1 + 1 ≤ N → N < 64 → k_fq z N = false := fun N h1 h2 => k_fqO (by omega)
        exact k_some ⟨by rw [← k_one_no (by omega) no], k_fst_skip (by omega) no hf⟩
    · rintro ⟨o1, o2⟩ ⟨p1, p2⟩
      dsimp only at p1 p2
      rw [p1, k_fst_u p2 p_fstE]
  rw [e2, k_bs1, k_si2]
