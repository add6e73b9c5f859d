/-! rules: what a function answers; loops; numbers; sets of bits; memory -/
def k_ok {α : Type} (x : Option α) (P : α → Prop) : Prop := ∃ r, x = some r ∧ P r
theorem k_some {α : Type} {r : α} {P : α → Prop} (h : P r) : k_ok (some r) P := ⟨r, rfl, h⟩
theorem k_of {α : Type} {x : Option α} {r : α} {P : α → Prop} (e : x = some r) (h : P r) : k_ok x P := ⟨r, e, h⟩
theorem k_mono {α : Type} {x : Option α} {P Q : α → Prop} (h : k_ok x P) (g : ∀ r, P r → Q r) : k_ok x Q := by
  obtain ⟨r, e, p⟩ := h
  exact ⟨r, e, g r p⟩
theorem k_eq {α : Type} {x : Option α} {r : α} (h : k_ok x (fun y => y = r)) : x = some r := by
  obtain ⟨y, e, p⟩ := h
  rw [e, p]
theorem k_bind {α β : Type} {x : Option α} {f : α → Option β} {P : α → Prop} {Q : β → Prop} (h : k_ok x P) (g : ∀ r, P r → k_ok (f r) Q) : k_ok (x.bind f) Q := by
  obtain ⟨r, e, p⟩ := h
  subst e
  exact g r p
theorem k_b2 {α β γ : Type} {x : Option (α × β)} {f : α → β → Option γ} {P : α × β → Prop} {Q : γ → Prop} (h : k_ok x P) (g : ∀ r t, P (r, t) → k_ok (f r t) Q) : k_ok (q_b2 x f) Q := by
  obtain ⟨⟨r, t⟩, e, p⟩ := h
  subst e
  exact g r t p
theorem k_b3 {α β γ δ : Type} {x : Option (α × β × γ)} {f : α → β → γ → Option δ} {P : α × β × γ → Prop} {Q : δ → Prop} (h : k_ok x P) (g : ∀ r t u, P (r, t, u) → k_ok (f r t u) Q) : k_ok (q_b3 x f) Q := by
  obtain ⟨⟨r, t, u⟩, e, p⟩ := h
  subst e
  exact g r t u p
theorem k_gu {α : Type} {G : Prop} {X : Option α} {P : α → Prop} (g : G) (h : k_ok X P) : k_ok (q_gu G X) P := by
  rw [q_gu_t g]
  exact h
theorem k_ite {α : Type} {c : Prop} [Decidable c] {A B : Option α} {P : α → Prop} (h1 : c → k_ok A P) (h2 : ¬ c → k_ok B P) : k_ok (if c then A else B) P := by
  by_cases h : c
  · rw [if_pos h]; exact h1 h
  · rw [if_neg h]; exact h2 h
def k_z {S R : Type} (A : S → Prop) (B : R → Prop) : S ⊕ R → Prop
  | .inl s => A s
  | .inr r => B r
theorem k_for {S R : Type} {body : S → Option (S ⊕ R)} {P : R → Prop} {n : Nat} (I : Nat → S → Prop) {N : Nat} (hn : n < N) {s0 : S} (h0 : I 0 s0) (hs : ∀ i s, i ≤ n → I i s → k_ok (body s) (k_z (fun s' => i < n ∧ I (i + 1) s') P)) : k_ok (q_loop body N s0) P := by
  have key : ∀ (k i : Nat) (N : Nat) (s : S), i + k = n → k < N → I i s → k_ok (q_loop body N s) P := by
    intro k
    induction k with
    | zero =>
      intro i N s e hN hi
      obtain ⟨M, rfl⟩ : ∃ M, N = M + 1 := ⟨N - 1, by omega⟩
      obtain ⟨z, ez, pz⟩ := hs i s (by omega) hi
      rw [q_loop, ez]
      cases z with
      | inl s' => exact absurd pz.1 (by omega)
      | inr r => exact ⟨r, rfl, pz⟩
    | succ k ih =>
      intro i N s e hN hi
      obtain ⟨M, rfl⟩ : ∃ M, N = M + 1 := ⟨N - 1, by omega⟩
      obtain ⟨z, ez, pz⟩ := hs i s (by omega) hi
      rw [q_loop, ez]
      cases z with
      | inl s' => exact ih (i + 1) M s' (by omega) (by omega) pz.2
      | inr r => exact ⟨r, rfl, pz⟩
  exact key n 0 N s0 (by omega) hn h0
theorem k_loop {S R : Type} {body : S → Option (S ⊕ R)} {P : R → Prop} (I : S → Prop) (μ : S → Nat) : ∀ (N : Nat) (s : S), I s → μ s < N → (∀ s, I s → k_ok (body s) (k_z (fun s' => I s' ∧ μ s' < μ s) P)) → k_ok (q_loop body N s) P
  | 0, _, _, h, _ => absurd h (Nat.not_lt_zero _)
  | N + 1, s, hi, hm, hs => by
    obtain ⟨z, ez, pz⟩ := hs s hi
    rw [q_loop, ez]
    cases z with
    | inl s' =>
      have p1 : I s' ∧ μ s' < μ s := pz
      exact k_loop I μ N s' p1.1 (by omega) hs
    | inr r => exact ⟨r, rfl, pz⟩
theorem k_guT {α : Type} {X : Option α} : q_gu True X = X := q_gu_t trivial
theorem k_b2s {α β γ : Type} {r : α} {t : β} {f : α → β → Option γ} : q_b2 (some (r, t)) f = f r t := rfl
theorem k_b3s {α β γ δ : Type} {r : α} {t : β} {u : γ} {f : α → β → γ → Option δ} : q_b3 (some (r, t, u)) f = f r t u := rfl
theorem k_elL {X R : Type} {x : X} {f : X → Option R} : q_el (.inl x) f = f x := rfl
theorem k_elR {X R : Type} {r : R} {f : X → Option R} : q_el (.inr r) f = some r := rfl
theorem k_ofN (n : Nat) : Int32.ofNat n = nI n := rfl
theorem k_cl {n : Nat} (h : n < 2147483648) : Int32.toNatClampNeg (nI n) = n := nI_clamp h
theorem k_vi {n N : Nat} (h : n < N) (hN : N < 2147483648) : vp_in (nI n) N = True := eq_true (vp_in_nI h hN)
theorem k_nlt (x y : Int32) : x < y ↔ ¬ y ≤ x := by
  rw [Int32.lt_iff_toInt_lt, Int32.le_iff_toInt_le]; omega
theorem k_ltL {a n : Nat} {l : Int32} (hl : l = nI n) (h : n < a) (ha : a < 2147483648) : l < nI a := by subst hl; exact nI_lt h ha
theorem k_nlL {a n : Nat} {l : Int32} (hl : l = nI n) (h : a ≤ n) (hn : n < 2147483648) : ¬ l < nI a := by subst hl; exact nI_nlt h hn
theorem k_leL {a n : Nat} {l : Int32} (hl : l = nI n) (h : n ≤ a) (ha : a < 2147483648) : l ≤ nI a := by subst hl; exact nI_le h ha
theorem k_geL {a n : Nat} {l : Int32} (hl : l = nI n) (h : a < n) (hn : n < 2147483648) : ¬ l ≤ nI a := by subst hl; exact nI_ge h hn
theorem k_lt1 {a n : Nat} {l : Int32} (hl : l = nI n) (ha : a < 2147483648) (hn : n < 2147483648) : (l < nI a) = (n < a) := by subst hl; exact propext (nI_ltI hn ha)
theorem k_lt2 {a n : Nat} {l : Int32} (hl : l = nI n) (ha : a < 2147483648) (hn : n < 2147483648) : (nI a < l) = (a < n) := by subst hl; exact propext (nI_ltI ha hn)
theorem k_le1 {a n : Nat} {l : Int32} (hl : l = nI n) (ha : a < 2147483648) (hn : n < 2147483648) : (l ≤ nI a) = (n ≤ a) := by subst hl; exact propext (nI_leI hn ha)
theorem k_le2 {a n : Nat} {l : Int32} (hl : l = nI n) (ha : a < 2147483648) (hn : n < 2147483648) : (nI a ≤ l) = (a ≤ n) := by subst hl; exact propext (nI_leI ha hn)
theorem k_N : q_N = 1000000000 := rfl
/-! sets of bits -/
theorem k_and (a b : Nat) : nI a &&& nI b = nI (a &&& b) := by
  apply Int32.toBitVec_inj.1
  show BitVec.ofNat 32 a &&& BitVec.ofNat 32 b = BitVec.ofNat 32 (a &&& b)
  apply BitVec.eq_of_getLsbD_eq
  intro i hi
  simp [hi]
theorem k_or (a b : Nat) : nI a ||| nI b = nI (a ||| b) := by
  apply Int32.toBitVec_inj.1
  show BitVec.ofNat 32 a ||| BitVec.ofNat 32 b = BitVec.ofNat 32 (a ||| b)
  apply BitVec.eq_of_getLsbD_eq
  intro i hi
  simp [hi]
theorem k_xor (a b : Nat) : nI a ^^^ nI b = nI (a ^^^ b) := by
  apply Int32.toBitVec_inj.1
  show BitVec.ofNat 32 a ^^^ BitVec.ofNat 32 b = BitVec.ofNat 32 (a ^^^ b)
  apply BitVec.eq_of_getLsbD_eq
  intro i hi
  simp [hi]
theorem k_m1 : (-1 : Int32) = nI 4294967295 := by decide +kernel
theorem k_s31 : ∀ i, i < 31 → ((nI i &&& 31).toBitVec.smod 32).toNat = i := by decide +kernel
theorem k_one : ∀ i, i < 31 → (1 : Int32) <<< (nI i &&& 31) = nI (2 ^ i) := by decide +kernel
theorem k_tb {a i : Nat} (ha : a < 2147483648) (hi : i < 31) : (nI a >>> (nI i &&& 31)) &&& (1 : Int32) = nI (if a.testBit i then 1 else 0) := by
  rw [pk_shrN ha (nI i &&& 31) i (k_s31 i hi)]
  show nI (a / 2 ^ i) &&& nI 1 = _
  rw [k_and, Nat.and_one_is_mod]
  congr 1
  rw [Nat.testBit_eq_decide_div_mod_eq]
  by_cases h : a / 2 ^ i % 2 = 1
  · simp [h]
  · have : a / 2 ^ i % 2 = 0 := by omega
    simp [this]
theorem k_tb0 {a i : Nat} (ha : a < 2147483648) (hi : i < 31) : ((nI a >>> (nI i &&& 31)) &&& (1 : Int32) = 0) ↔ a.testBit i = false := by
  rw [k_tb ha hi]
  cases a.testBit i <;> decide
theorem k_tb1 {a i : Nat} (ha : a < 2147483648) (hi : i < 31) : ((nI a >>> (nI i &&& 31)) &&& (1 : Int32) = 1) ↔ a.testBit i = true := by
  rw [k_tb ha hi]
  cases a.testBit i <;> decide
/-- the set without i -/
def k_dl (a i : Nat) : Nat := a &&& (4294967295 ^^^ 2 ^ i)
theorem k_del {a i : Nat} (hi : i < 31) : nI a &&& (((1 : Int32) <<< (nI i &&& 31)) ^^^ (-1)) = nI (k_dl a i) := by
  rw [k_one i hi, k_m1, k_xor, k_and, k_dl, Nat.xor_comm]
theorem k_dlB {a i n : Nat} (h : a < n) : k_dl a i < n := Nat.lt_of_le_of_lt Nat.and_le_left h
theorem k_m32 (j : Nat) : (4294967295 : Nat).testBit j = decide (j < 32) := by
  have := Nat.testBit_two_pow_sub_one 32 j
  simpa using this
theorem k_dlT {a i j : Nat} (ha : a < 2147483648) : (k_dl a i).testBit j = (a.testBit j && !(j == i)) := by
  unfold k_dl
  rw [Nat.testBit_and, Nat.testBit_xor, k_m32, Nat.testBit_two_pow]
  rcases Nat.lt_or_ge j 32 with h | h
  · by_cases e : i = j
    · subst e; simp [h]
    · have e2 : (j == i) = false := by simp; omega
      simp [h, e, e2]
  · have : a.testBit j = false := Nat.testBit_lt_two_pow (Nat.lt_of_lt_of_le ha (Nat.le_trans (by decide) (Nat.pow_le_pow_right (by decide) h)))
    simp [this]
def k_bs (p : Nat → Bool) : Nat → Nat
  | 0 => 0
  | n + 1 => k_bs p n + (if p n then 2 ^ n else 0)
theorem k_bs_lt (p : Nat → Bool) : ∀ n, k_bs p n < 2 ^ n
  | 0 => by simp [k_bs]
  | n + 1 => by
    have := k_bs_lt p n
    rw [k_bs, Nat.pow_succ]
    split <;> omega
theorem k_orP {a i : Nat} (h : a < 2 ^ i) : a ||| 2 ^ i = a + 2 ^ i := by
  have := Nat.two_pow_add_eq_or_of_lt h 1
  rw [Nat.mul_one] at this
  rw [Nat.or_comm, ← this, Nat.add_comm]
theorem k_bs_tb (p : Nat → Bool) : ∀ n i, (k_bs p n).testBit i = (decide (i < n) && p i)
  | 0, i => by simp [k_bs]
  | n + 1, i => by
    have ih := k_bs_tb p n i
    rw [k_bs]
    by_cases hp : p n = true
    · rw [if_pos hp, ← k_orP (k_bs_lt p n), Nat.testBit_or, ih, Nat.testBit_two_pow]
      by_cases e : n = i
      · subst e; simp [hp]
      · have : (i < n + 1) ↔ i < n := by omega
        simp [e, this]
    · rw [if_neg hp, Nat.add_zero, ih]
      by_cases e : i = n
      · subst e; simp [hp]
      · have : (i < n + 1) ↔ i < n := by omega
        simp [this]
theorem k_bs_cong {p q : Nat → Bool} : ∀ {n : Nat}, (∀ i, i < n → p i = q i) → k_bs p n = k_bs q n
  | 0, _ => rfl
  | n + 1, h => by rw [k_bs, k_bs, k_bs_cong (fun i hi => h i (by omega)), h n (by omega)]
theorem k_acc {p : Nat → Bool} {i : Nat} (hi : i < 31) : nI (k_bs p i) ||| (if p i then (1 : Int32) <<< (nI i &&& 31) else 0) = nI (k_bs p (i + 1)) := by
  rw [k_bs]
  by_cases hp : p i = true
  · rw [if_pos hp, if_pos hp, k_one i hi, k_or, k_orP (k_bs_lt p i)]
  · rw [if_neg hp, if_neg hp]
    show nI _ ||| nI 0 = _
    rw [k_or, Nat.or_zero, Nat.add_zero]
/-- a loop that gathers bits -/
theorem k_bl {n : Nat} {p : Nat → Bool} {body : Int32 × Int32 → Option ((Int32 × Int32) ⊕ Int32)} (hn : n < 31) (hs : ∀ i, i < n → ∀ u, body (u, nI i) = some (.inl (u ||| (if p i then (1 : Int32) <<< (nI i &&& 31) else 0), nI i + 1))) (hx : ∀ u, body (u, nI n) = some (.inr u)) : q_loop body q_N ((0 : Int32), (0 : Int32)) = some (nI (k_bs p n)) := by
  refine k_eq (k_for (n := n) (fun i s => s = (nI (k_bs p i), nI i)) (by rw [k_N]; omega) rfl ?_)
  intro i s hi hs2
  subst hs2
  rcases Nat.lt_or_ge i n with h | h
  · rw [hs i h]
    refine k_some ⟨h, ?_⟩
    rw [k_acc (by omega), nI_1]
  · have e : i = n := by omega
    subst e
    rw [hx]
    exact k_some rfl
def k_sm (v : Nat → Nat) : Nat → Nat
  | 0 => 0
  | n + 1 => k_sm v n + v n
theorem k_sm_cong {p q : Nat → Nat} : ∀ {n : Nat}, (∀ i, i < n → p i = q i) → k_sm p n = k_sm q n
  | 0, _ => rfl
  | n + 1, h => by rw [k_sm, k_sm, k_sm_cong (fun i hi => h i (by omega)), h n (by omega)]
theorem k_sm_le {v : Nat → Nat} {c : Nat} : ∀ {n : Nat}, (∀ i, i < n → v i ≤ c) → k_sm v n ≤ c * n
  | 0, _ => by simp [k_sm]
  | n + 1, h => by
    have := k_sm_le (v := v) (c := c) (n := n) (fun i hi => h i (by omega))
    have h2 := h n (by omega)
    rw [k_sm, Nat.mul_succ]
    omega
/-- a loop that adds up -/
theorem k_sl {n : Nat} {v : Nat → Nat} {body : Int32 × Int32 → Option ((Int32 × Int32) ⊕ Int32)} (hn : n < 31) (hs : ∀ i, i < n → ∀ u, body (u, nI i) = some (.inl (u + nI (v i), nI i + 1))) (hx : ∀ u, body (u, nI n) = some (.inr u)) : q_loop body q_N ((0 : Int32), (0 : Int32)) = some (nI (k_sm v n)) := by
  refine k_eq (k_for (n := n) (fun i s => s = (nI (k_sm v i), nI i)) (by rw [k_N]; omega) rfl ?_)
  intro i s hi hs2
  subst hs2
  rcases Nat.lt_or_ge i n with h | h
  · rw [hs i h]
    refine k_some ⟨h, ?_⟩
    rw [nI_add, nI_1]; rfl
  · have e : i = n := by omega
    subst e
    rw [hx]
    exact k_some rfl
/-! memory -/
def k_ag (P : Nat → Prop) (h h' : q_Hp) : Prop := ∀ a, P a → h'.1 a = h.1 a ∧ h'.2 a = h.2 a
theorem k_ag_rf {P : Nat → Prop} {h : q_Hp} : k_ag P h h := fun _ _ => ⟨rfl, rfl⟩
theorem k_ag_tr {P : Nat → Prop} {h h1 h2 : q_Hp} (a : k_ag P h h1) (b : k_ag P h1 h2) : k_ag P h h2 := fun x hx => ⟨(b x hx).1.trans (a x hx).1, (b x hx).2.trans (a x hx).2⟩
theorem k_ag_mono {P Q : Nat → Prop} {h h1 : q_Hp} (a : k_ag P h h1) (g : ∀ x, Q x → P x) : k_ag Q h h1 := fun x hx => a x (g x hx)
theorem k_ag_si {P : Nat → Prop} {h h1 : q_Hp} {a i : Nat} {v : Int32} (g : k_ag P h h1) (n : ¬ P a) : k_ag P h (q_si h1 a i v) := fun x hx => by
  have : x ≠ a := fun e => n (e ▸ hx)
  refine ⟨?_, (g x hx).2⟩
  show va_up h1.1 a _ x = _
  rw [va_up_ne _ _ this]
  exact (g x hx).1
theorem k_ag_sj {P : Nat → Prop} {h h1 : q_Hp} {a i : Nat} {v : Int64} (g : k_ag P h h1) (n : ¬ P a) : k_ag P h (q_sj h1 a i v) := fun x hx => by
  have : x ≠ a := fun e => n (e ▸ hx)
  refine ⟨(g x hx).1, ?_⟩
  show va_up h1.2 a _ x = _
  rw [va_up_ne _ _ this]
  exact (g x hx).2
theorem k_agI {P : Nat → Prop} {h h1 : q_Hp} (g : k_ag P h h1) {a : Nat} (ha : P a) (i : Nat) : q_int h1 a i = q_int h a i := congrFun (g a ha).1 i
theorem k_agL {P : Nat → Prop} {h h1 : q_Hp} (g : k_ag P h h1) {a : Nat} (ha : P a) (i : Nat) : q_lng h1 a i = q_lng h a i := congrFun (g a ha).2 i
theorem k_si_s {h : q_Hp} {a i : Nat} {v : Int32} : q_int (q_si h a i v) a i = v := by
  show va_up h.1 a _ a i = v
  rw [va_up_self]
  exact pk_us
theorem k_si_n {h : q_Hp} {a b i j : Nat} {v : Int32} (n : b ≠ a) : q_int (q_si h a i v) b j = q_int h b j := by
  show va_up h.1 a _ b j = _
  rw [va_up_ne _ _ n]; rfl
theorem k_si_j {h : q_Hp} {a i j : Nat} {v : Int32} (n : j ≠ i) : q_int (q_si h a i v) a j = q_int h a j := by
  show va_up h.1 a _ a j = _
  rw [va_up_self]
  exact pk_un n
theorem k_si_l {h : q_Hp} {a b i j : Nat} {v : Int32} : q_lng (q_si h a i v) b j = q_lng h b j := rfl
theorem k_sj_i {h : q_Hp} {a b i j : Nat} {v : Int64} : q_int (q_sj h a i v) b j = q_int h b j := rfl
theorem k_sj_s {h : q_Hp} {a i : Nat} {v : Int64} : q_lng (q_sj h a i v) a i = v := by
  show va_up h.2 a _ a i = v
  rw [va_up_self]
  exact pk_uLs
theorem k_sj_n {h : q_Hp} {a b i j : Nat} {v : Int64} (n : b ≠ a) : q_lng (q_sj h a i v) b j = q_lng h b j := by
  show va_up h.2 a _ b j = _
  rw [va_up_ne _ _ n]; rfl
theorem k_sj_j {h : q_Hp} {a i j : Nat} {v : Int64} (n : j ≠ i) : q_lng (q_sj h a i v) a j = q_lng h a j := by
  show va_up h.2 a _ a j = _
  rw [va_up_self]
  exact pk_uLn n
theorem k_sr_t {σ : q_St} {a k v b : Nat} : q_tag (q_sr σ a k v) b = q_tag σ b := rfl
theorem k_sr_l {σ : q_St} {a k v b : Nat} : q_len (q_sr σ a k v) b = q_len σ b := rfl
theorem k_sr_z {σ : q_St} {a k v : Nat} : q_sz (q_sr σ a k v) = q_sz σ := rfl
theorem k_sr_s {σ : q_St} {a k v : Nat} : q_ref (q_sr σ a k v) a k = v := by
  show va_up σ.2.2.2 a _ a k = v
  rw [va_up_self, va_up_self]
theorem k_sr_n {σ : q_St} {a k v b j : Nat} (n : b ≠ a) : q_ref (q_sr σ a k v) b j = q_ref σ b j := by
  show va_up σ.2.2.2 a _ b j = _
  rw [va_up_ne _ _ n]; rfl
theorem k_sr_j {σ : q_St} {a k v j : Nat} (n : j ≠ k) : q_ref (q_sr σ a k v) a j = q_ref σ a j := by
  show va_up σ.2.2.2 a _ a j = _
  rw [va_up_self, va_up_ne _ _ n]; rfl
