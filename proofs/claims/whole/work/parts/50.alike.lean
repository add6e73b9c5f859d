/-! alike -/
theorem g_top_mono {E E' : Nat → Nat → Bool} {w : Nat → Nat} (h : ∀ s b, s < 8 → b < 7 → E s b = true → E' s b = true) : g_top E w ≤ g_top E' w := by
  obtain ⟨-, so, bo, H, e⟩ := g_isT (E := E) (w := w)
  rw [← e]
  exact (g_isT (E := E') (w := w)).1 so bo ⟨fun b hb => (H.1 b hb).imp id (fun q => ⟨q.1, q.2.1, h _ _ q.1 hb q.2.2⟩), H.2⟩
def k_kf (kd : Nat → Nat) (g : Nat) : Int32 := if g = 0 then -1 else nI (kd g)
def k_va3 (z : k_Z) (kd : Nat → Nat) : Nat := g_m (g_z z 0 0 (k_kf kd)) (fun _ => 1) (z 0 1) (z 0 1) 0
theorem k_va3B {z : k_Z} (K : k_va z) (kd : Nat → Nat) : k_va3 z kd ≤ 7 := Nat.le_trans (g_mB (T := 1) (fun _ _ _ => Nat.le_refl _) _ _) (by have := va_nb K; omega)
theorem k_va3T {z : k_Z} (K : k_va z) (kd : Nat → Nat) : k_va3 z kd = g_top (g_z z 0 0 (k_kf kd)) (fun _ => 1) := (g_zT (va_nb K)).symm
theorem g_zE {z : k_Z} {kd : Nat → Nat} (hk : ∀ g, kd g < 8) (K : k_va z) {s b : Nat} : g_z z 0 0 (k_kf kd) s b = true ↔ (s < z 0 0 ∧ b < z 0 1 ∧ z 11 b = 9 ∧ z 5 s = 0 ∧ k_fits z s b = true ∧ (z 7 b = 0 ∨ kd (z 7 b) = z 1 s)) := by
  unfold g_z g_dp k_zo k_zm
  rw [Nat.zero_testBit, Nat.zero_testBit]
  simp only [Bool.and_eq_true, decide_eq_true_eq, beq_iff_eq, Bool.not_false, and_true]
  constructor
  · rintro ⟨⟨⟨h1, h2⟩, h3⟩, ⟨h4, h5⟩, h6⟩
    refine ⟨h1, h2, h3, h4, h5, ?_⟩
    by_cases g0 : z 7 b = 0
    · exact Or.inl g0
    · right
      unfold k_kd k_kf at h6
      rw [if_neg g0] at h6
      have k8 := hk (z 7 b)
      have s8 := va_k K h1
      rw [decide_eq_false (nI_pos (by omega)), Bool.false_or, beq_iff_eq] at h6
      exact (nI_eq (by omega) (by omega)).mp h6
  · rintro ⟨h1, h2, h3, h4, h5, h6⟩
    refine ⟨⟨⟨h1, h2⟩, h3⟩, ⟨h4, h5⟩, ?_⟩
    unfold k_kd k_kf
    rcases h6 with g0 | e
    · rw [if_pos g0]; rfl
    · by_cases g0 : z 7 b = 0
      · rw [if_pos g0]; rfl
      · rw [if_neg g0, e]; simp
theorem k_va3_cg {z : k_Z} (K : k_va z) {kd kd' : Nat → Nat} (h : ∀ g, g ≤ 3 → 1 ≤ g → kd g = kd' g) (hk : ∀ g, kd g < 8) (hk' : ∀ g, kd' g < 8) : k_va3 z kd = k_va3 z kd' := by
  rw [k_va3T K, k_va3T K]
  refine g_top_cg (fun s b _ _ => Bool.eq_iff_iff.mpr ?_)
  rw [g_zE hk K, g_zE hk' K]
  constructor
  · rintro ⟨h1, h2, h3, h4, h5, h6⟩
    have := va_gr K h2
    refine ⟨h1, h2, h3, h4, h5, ?_⟩
    by_cases g0 : z 7 b = 0
    · exact Or.inl g0
    · rw [← h _ this (by omega)]; exact h6
  · rintro ⟨h1, h2, h3, h4, h5, h6⟩
    have := va_gr K h2
    refine ⟨h1, h2, h3, h4, h5, ?_⟩
    by_cases g0 : z 7 b = 0
    · exact Or.inl g0
    · rw [h _ this (by omega)]; exact h6
/-- some suit of the kind k serves one of the group g -/
def k_sv (z : k_Z) (g k : Nat) : Prop := ∃ s b, (s < z 0 0 ∧ b < z 0 1) ∧ z 11 b = 9 ∧ z 5 s = 0 ∧ k_fits z s b = true ∧ z 7 b = g ∧ z 1 s = k
def k_okd (z : k_Z) (kd : Nat → Nat) : Prop := ∀ g, 1 ≤ g → g ≤ 3 → kd g = 0 ∨ k_sv z g (kd g)
theorem k_va3_up {z : k_Z} (K : k_va z) {kd : Nat → Nat} (hk : ∀ g, kd g < 8) : ∃ kd', (∀ g, kd' g < 8) ∧ k_okd z kd' ∧ k_va3 z kd ≤ k_va3 z kd' := by
  classical
  refine ⟨fun g => if k_sv z g (kd g) then kd g else 0, fun g => ?_, fun g _ _ => ?_, ?_⟩
  · dsimp only
    split
    · exact hk g
    · decide
  · dsimp only
    by_cases e : k_sv z g (kd g)
    · rw [if_pos e]; exact Or.inr e
    · rw [if_neg e]; exact Or.inl rfl
  · have hk' : ∀ g, (fun g => if k_sv z g (kd g) then kd g else 0) g < 8 := fun g => by
      dsimp only
      split
      · exact hk g
      · decide
    rw [k_va3T K, k_va3T K]
    refine g_top_mono (fun s b _ _ h => ?_)
    rw [g_zE hk K] at h
    rw [g_zE hk' K]
    obtain ⟨h1, h2, h3, h4, h5, h6⟩ := h
    refine ⟨h1, h2, h3, h4, h5, h6.imp id (fun e => ?_)⟩
    rw [if_pos ⟨s, b, ⟨h1, h2⟩, h3, h4, h5, rfl, e.symm⟩]; exact e
def k_orz (f : Nat → Nat) : Nat → Nat
  | 0 => 0
  | n + 1 => k_orz f n ||| f n
theorem k_orzB {f : Nat → Nat} (h : ∀ s, f s < 128) : ∀ n, k_orz f n < 128
  | 0 => by show 0 < 128; decide
  | n + 1 => Nat.or_lt_two_pow (n := 7) (k_orzB h n) (h n)
theorem k_orz0 {f : Nat → Nat} : ∀ n, k_orz f n = 0 ↔ ∀ s, s < n → f s = 0
  | 0 => ⟨fun _ s hs => absurd hs (Nat.not_lt_zero _), fun _ => rfl⟩
  | n + 1 => by
    show k_orz f n ||| f n = 0 ↔ _
    have key : (k_orz f n ||| f n = 0) ↔ (k_orz f n = 0 ∧ f n = 0) := by
      constructor
      · intro h
        have l1 : k_orz f n ≤ k_orz f n ||| f n := Nat.left_le_or
        have l2 : f n ≤ k_orz f n ||| f n := Nat.right_le_or
        omega
      · rintro ⟨h1, h2⟩; rw [h1, h2]; rfl
    rw [key, k_orz0 n]
    constructor
    · rintro ⟨h1, h2⟩ s hs
      by_cases e : s = n
      · rw [e]; exact h2
      · exact h1 s (by omega)
    · intro h
      exact ⟨fun s hs => h s (by omega), h n (by omega)⟩
theorem k_and0 {a b : Nat} : a &&& b = 0 ↔ ∀ i, ¬ (a.testBit i = true ∧ b.testBit i = true) := by
  constructor
  · intro h i ⟨h1, h2⟩
    have : (a &&& b).testBit i = true := by rw [Nat.testBit_and, h1, h2]; rfl
    rw [h, Nat.zero_testBit] at this; cases this
  · intro h
    apply Nat.eq_of_testBit_eq
    intro i
    rw [Nat.zero_testBit, Nat.testBit_and]
    have := h i
    cases e1 : a.testBit i with
    | false => rfl
    | true =>
      cases e2 : b.testBit i with
      | false => rfl
      | true => exact absurd ⟨e1, e2⟩ this
theorem k_anX {a b : Nat} : nI a &&& (nI b ^^^ (-1)) = nI (a &&& (b ^^^ 4294967295)) := by rw [show (-1 : Int32) = nI 4294967295 from k_m1, k_xor, k_and]
theorem k_anT {a b i : Nat} (ha : a < 128) : (a &&& (b ^^^ 4294967295)).testBit i = (a.testBit i && !b.testBit i) := by
  rw [Nat.testBit_and, Nat.testBit_xor, k_m32]
  by_cases h : i < 32
  · rw [decide_eq_true h, Bool.xor_true]
  · rw [show a.testBit i = false from Nat.testBit_lt_two_pow (Nat.lt_of_lt_of_le ha (show 2 ^ 7 ≤ 2 ^ i from Nat.pow_le_pow_right (by decide) (by omega))), Bool.false_and, Bool.false_and]
/-- the takers when the groups below g are dressed -/
def k_td (h : q_Hp) (F : Nat) (z : k_Z) (kd : Nat → Nat) (g : Nat) (tk : Nat → Nat) : Prop := (∀ s, s < 8 → q_int h (F + 3) s = nI (tk s)) ∧ (∀ s, tk s < 128 ∧ (z 0 0 ≤ s → tk s = 0)) ∧ ∀ s b, (p_op z).testBit b = true → (tk s).testBit b = ((p_tk z 0 s).testBit b && (!(decide (1 ≤ z 7 b) && decide (z 7 b < g)) || z 1 s == kd (z 7 b)))
def k_mem (z : k_Z) (g : Nat) : Nat := k_bs (fun b => z 7 b == g) (z 0 1) &&& p_op z
def k_drs (z : k_Z) (kd tk : Nat → Nat) (g s : Nat) : Nat := if z 1 s = kd g ∨ z 0 0 ≤ s then tk s else tk s &&& (k_mem z g ^^^ 4294967295)
theorem k_memB {z : k_Z} (K : k_va z) (g : Nat) : k_mem z g < 128 := Nat.lt_of_le_of_lt Nat.and_le_right (p_opB K)
theorem k_memT (z : k_Z) (g b : Nat) : (k_mem z g).testBit b = ((decide (b < z 0 1) && z 7 b == g) && (p_op z).testBit b) := by
  unfold k_mem
  rw [Nat.testBit_and, k_bs_tb]
theorem k_drsB {z : k_Z} {kd tk : Nat → Nat} {g : Nat} (h : ∀ s, tk s < 128) (s : Nat) : k_drs z kd tk g s < 128 := by
  unfold k_drs
  split
  · exact h s
  · exact Nat.lt_of_le_of_lt Nat.and_le_left (h s)
theorem k_td_up {h h' : q_Hp} {F : Nat} {z : k_Z} {kd tk : Nat → Nat} {g : Nat} (K : k_va z) (hg : 1 ≤ g) (D : k_td h F z kd g tk) (e : ∀ s, s < 8 → q_int h' (F + 3) s = nI (k_drs z kd tk g s)) : k_td h' F z kd (g + 1) (k_drs z kd tk g) := by
  refine ⟨e, fun s => ⟨k_drsB (fun s => (D.2.1 s).1) s, fun hs => ?_⟩, fun s b hb => ?_⟩
  · unfold k_drs
    rw [if_pos (Or.inr hs)]; exact (D.2.1 s).2 hs
  · have hbn : b < z 0 1 := by
      rw [p_op_tb] at hb
      simp only [Bool.and_eq_true, decide_eq_true_eq] at hb
      exact hb.1
    by_cases hs : z 0 0 ≤ s
    · have z1 : k_drs z kd tk g s = 0 := by unfold k_drs; rw [if_pos (Or.inr hs)]; exact (D.2.1 s).2 hs
      have z2 : p_tk z 0 s = 0 := by
        unfold p_tk
        rw [p_in_tb, decide_eq_false (by omega)]; rfl
      rw [z1, z2]; simp
    · have d := D.2.2 s b hb
      unfold k_drs
      by_cases ek : z 1 s = kd g
      · rw [if_pos (Or.inl ek), d]
        by_cases eg : z 7 b = g
        · rw [eg, ek]; simp
        · have : (z 7 b < g) ↔ (z 7 b < g + 1) := by omega
          simp [this]
      · rw [if_neg (by omega), k_anT (D.2.1 s).1, d, k_memT, hb, decide_eq_true hbn]
        by_cases eg : z 7 b = g
        · rw [eg]; simp [hg, ek]
        · have : (z 7 b < g) ↔ (z 7 b < g + 1) := by omega
          simp [this, eg]
theorem k_sv_or {h : q_Hp} {F : Nat} {z : k_Z} {kd tk : Nat → Nat} {g : Nat} (K : k_va z) (hg : 1 ≤ g) (D : k_td h F z kd g tk) : k_orz (fun s => k_drs z kd tk g s &&& k_mem z g) 8 = 0 ↔ ¬ k_sv z g (kd g) := by
  have U := k_td_up (h' := (fun a i => if a = F + 3 then nI (k_drs z kd tk g i) else 0, fun _ _ => 0)) K hg D (fun s _ => if_pos rfl)
  rw [k_orz0]
  constructor
  · rintro h0 ⟨s, b, ⟨hs, hb⟩, h9, h5, hf, hgb, hk⟩
    have n7 := va_ns K
    have ob : (p_op z).testBit b = true := by rw [p_op_tb, decide_eq_true hb, h9]; rfl
    have is : (p_in z).testBit s = true := by rw [p_in_tb, decide_eq_true hs, h5]; rfl
    refine k_and0.mp (h0 s (by omega)) b ⟨?_, ?_⟩
    · rw [U.2.2 s b ob, p_tk_tb K, is, decide_eq_true hb, hf, hgb, hk]; simp
    · rw [k_memT, decide_eq_true hb, hgb, ob]; simp
  · intro hn s hs
    refine k_and0.mpr (fun b ⟨h1, h2⟩ => hn ?_)
    rw [k_memT] at h2
    simp only [Bool.and_eq_true, decide_eq_true_eq, beq_iff_eq] at h2
    obtain ⟨⟨hb, hgb⟩, ob⟩ := h2
    rw [U.2.2 s b ob, p_tk_tb K, p_in_tb] at h1
    simp only [Bool.and_eq_true, decide_eq_true_eq, beq_iff_eq, Bool.or_eq_true, Bool.not_eq_true', Bool.and_eq_false_iff, decide_eq_false_iff_not] at h1
    obtain ⟨⟨⟨hsn, h5⟩, -, hf⟩, h6⟩ := h1
    rw [p_op_tb] at ob
    simp only [Bool.and_eq_true, decide_eq_true_eq, beq_iff_eq] at ob
    refine ⟨s, b, ⟨hsn, hb⟩, ob.2, h5, hf, hgb, ?_⟩
    rcases h6 with q | q
    · omega
    · rw [q, hgb]
