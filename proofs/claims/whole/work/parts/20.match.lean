/-! matchings of suits (0 .. 7) and bookings (0 .. 6): a greedy one that cannot be mended is the best -/
/-- a matching, told by bookings: each has at most one suit, no suit twice; only pairs that T allows -/
def g_M (T : Nat → Nat → Prop) (nb : Nat) (μ : Nat → Option Nat) : Prop := (∀ b s, μ b = some s → b < nb ∧ T s b) ∧ ∀ b c s, μ b = some s → μ c = some s → b = c
def g_has (μ : Nat → Option Nat) (s : Nat) : Prop := ∃ b, μ b = some s
/-- how many of the suits below n that p picks -/
def g_cnt (p : Nat → Bool) : Nat → Nat
  | 0 => 0
  | n + 1 => g_cnt p n + (if p n then 1 else 0)
theorem g_cnt_cong {p q : Nat → Bool} : ∀ {n : Nat}, (∀ k, k < n → p k = q k) → g_cnt p n = g_cnt q n
  | 0, _ => rfl
  | n + 1, h => by rw [g_cnt, g_cnt, g_cnt_cong (fun k hk => h k (by omega)), h n (by omega)]
theorem g_cnt_le {p q : Nat → Bool} : ∀ {n : Nat}, (∀ k, k < n → p k = true → q k = true) → g_cnt p n ≤ g_cnt q n
  | 0, _ => Nat.le_refl _
  | n + 1, h => by
    have h1 := g_cnt_le (p := p) (q := q) (n := n) (fun k hk => h k (by omega))
    have h2 := h n (by omega)
    rw [g_cnt, g_cnt]
    cases hp : p n with
    | false => simp; omega
    | true => rw [h2 hp]; omega
theorem g_cnt_or {p q r : Nat → Bool} : ∀ {n : Nat}, (∀ k, k < n → p k = true → q k = true ∨ r k = true) → g_cnt p n ≤ g_cnt q n + g_cnt r n
  | 0, _ => Nat.le_refl _
  | n + 1, h => by
    have h1 := g_cnt_or (p := p) (q := q) (r := r) (n := n) (fun k hk => h k (by omega))
    have h2 := h n (by omega)
    rw [g_cnt, g_cnt, g_cnt]
    cases hp : p n with
    | false => simp; omega
    | true =>
      rcases h2 hp with e | e <;> rw [e] <;> simp <;> omega
theorem g_cnt_dis {p q r : Nat → Bool} : ∀ {n : Nat}, (∀ k, k < n → (q k = true ∨ r k = true) → p k = true) → (∀ k, k < n → ¬ (q k = true ∧ r k = true)) → g_cnt q n + g_cnt r n ≤ g_cnt p n
  | 0, _, _ => Nat.le_refl _
  | n + 1, h, hd => by
    have h1 := g_cnt_dis (p := p) (q := q) (r := r) (n := n) (fun k hk => h k (by omega)) (fun k hk => hd k (by omega))
    have h2 := h n (by omega)
    have h3 := hd n (by omega)
    rw [g_cnt, g_cnt, g_cnt]
    cases hq : q n <;> cases hr : r n
    · simp; omega
    · rw [h2 (Or.inr hr)]; simp; omega
    · rw [h2 (Or.inl hq)]; simp; omega
    · exact absurd ⟨hq, hr⟩ h3
/-- where p's are sent one to one among q's, there are no more of them -/
theorem g_inj : ∀ (n m : Nat) (p q : Nat → Bool) (f : Nat → Nat), (∀ i, i < n → p i = true → f i < m ∧ q (f i) = true) → (∀ i j, i < n → j < n → p i = true → p j = true → f i = f j → i = j) → g_cnt p n ≤ g_cnt q m
  | 0, m, p, q, f, _, _ => Nat.zero_le _
  | n + 1, m, p, q, f, hf, hi => by
    cases hp : p n with
    | false =>
      rw [g_cnt, hp]
      exact g_inj n m p q f (fun i hl => hf i (by omega)) (fun i j h1 h2 => hi i j (by omega) (by omega))
    | true =>
      obtain ⟨hm, hq⟩ := hf n (by omega) hp
      have ih := g_inj n m p (fun k => q k && !(k == f n)) f (fun i hl hpi => by
        obtain ⟨g1, g2⟩ := hf i (by omega) hpi
        refine ⟨g1, ?_⟩
        have : f i ≠ f n := fun e => by
          have := hi i n (by omega) (by omega) hpi hp e
          omega
        simp [g2, this]) (fun i j h1 h2 => hi i j (by omega) (by omega))
      rw [g_cnt, hp]
      have key : g_cnt (fun k => q k && !(k == f n)) m + g_cnt (fun k => k == f n) m ≤ g_cnt q m := by
        apply g_cnt_dis
        · intro k _ h
          rcases h with h | h
          · simp at h; exact h.1
          · simp at h; rw [h]; exact hq
        · intro k _ ⟨h1, h2⟩
          simp at h1 h2
          exact h1.2 h2
      have one : ∀ (m a : Nat), a < m → 1 ≤ g_cnt (fun k => k == a) m := by
        intro m
        induction m with
        | zero => intro a h; omega
        | succ m ih2 =>
          intro a h
          rw [g_cnt]
          rcases Nat.lt_or_ge a m with h3 | h3
          · have := ih2 a h3; omega
          · have : a = m := by omega
            subst this
            simp
      have := one m (f n) hm
      simp
      omega
/-- dead ends: suits Z whose bookings Y are all taken by Z; every suit below n that went without is in Z -/
def g_D (T : Nat → Nat → Prop) (nb : Nat) (μ : Nat → Option Nat) (P : Nat → Prop) (Z Y : Nat → Prop) : Prop :=
  (∀ s b, Z s → b < nb → T s b → Y b) ∧ (∀ b, Y b → ∃ s, μ b = some s ∧ Z s) ∧ (∀ s, P s → ¬ g_has μ s → Z s)
/-- with dead ends told, no matching of P serves more -/
theorem g_best {T : Nat → Nat → Prop} {nb ns : Nat} {μ ν : Nat → Option Nat} {P Z Y : Nat → Prop} [DecidablePred Z] (hμ : g_M T nb μ) (hν : g_M T nb ν) (hD : g_D T nb μ P Z Y) (hP : ∀ b s, ν b = some s → P s ∧ s < ns) (hPμ : ∀ b s, μ b = some s → s < ns) : g_cnt (fun b => (ν b).isSome) nb ≤ g_cnt (fun b => (μ b).isSome) nb := by
  -- ν's bookings with a suit of Z are Y's, μ's too; the others have suits outside Z, all of which μ serves
  have h1 : g_cnt (fun b => (ν b).isSome) nb ≤ g_cnt (fun b => match ν b with | some s => decide (Z s) | none => false) nb + g_cnt (fun b => match ν b with | some s => !decide (Z s) | none => false) nb := by
    apply g_cnt_or
    intro k _ h
    cases hk : ν k with
    | none => rw [hk] at h; simp at h
    | some s => by_cases hz : Z s <;> simp [hz]
  have h2 : g_cnt (fun b => match ν b with | some s => decide (Z s) | none => false) nb ≤ g_cnt (fun b => match μ b with | some s => decide (Z s) | none => false) nb := by
    apply g_cnt_le
    intro k hk h
    cases he : ν k with
    | none => rw [he] at h; simp at h
    | some s =>
      rw [he] at h
      have hz : Z s := by simpa using h
      obtain ⟨g1, g2⟩ := hν.1 k s he
      obtain ⟨s2, e2, z2⟩ := hD.2.1 k (hD.1 s k hz g1 g2)
      rw [e2]
      simpa using z2
  have h3 : g_cnt (fun b => match ν b with | some s => !decide (Z s) | none => false) nb ≤ g_cnt (fun b => match μ b with | some s => !decide (Z s) | none => false) nb := by
    have hb : ∀ s, P s → ¬ Z s → g_has μ s := fun s hp hz => Classical.byContradiction fun h => hz (hD.2.2 s hp h)
    have hch : ∃ f : Nat → Nat, ∀ b s, ν b = some s → ¬ Z s → μ (f b) = some s := by
      refine ⟨fun b => @dite _ (∃ c s, ν b = some s ∧ ¬ Z s ∧ μ c = some s) (Classical.propDecidable _) (fun h => h.choose) (fun _ => 0), fun b s hs hz => ?_⟩
      obtain ⟨c, hc⟩ := hb s (hP b s hs).1 hz
      have hex : ∃ c s, ν b = some s ∧ ¬ Z s ∧ μ c = some s := ⟨c, s, hs, hz, hc⟩
      show μ (@dite _ (∃ c s, ν b = some s ∧ ¬ Z s ∧ μ c = some s) (Classical.propDecidable _) (fun h => h.choose) (fun _ => 0)) = some s
      rw [dif_pos hex]
      obtain ⟨s2, e2, -, e3⟩ := hex.choose_spec
      rw [hs] at e2
      cases e2
      exact e3
    obtain ⟨f, hf⟩ := hch
    apply g_inj nb nb _ _ f
    · intro i hi h
      cases he : ν i with
      | none => rw [he] at h; simp at h
      | some s =>
        rw [he] at h
        have hz : ¬ Z s := by simpa using h
        have := hf i s he hz
        refine ⟨(hμ.1 _ _ this).1, ?_⟩
        rw [this]
        simpa using hz
    · intro i j hi hj h1 h2 hij
      cases he : ν i with
      | none => rw [he] at h1; simp at h1
      | some s =>
        cases he2 : ν j with
        | none => rw [he2] at h2; simp at h2
        | some s2 =>
          rw [he] at h1
          rw [he2] at h2
          have z1 : ¬ Z s := by simpa using h1
          have z2 : ¬ Z s2 := by simpa using h2
          have e1 := hf i s he z1
          have e2 := hf j s2 he2 z2
          rw [hij, e2] at e1
          cases e1
          exact hν.2 i j s he he2
  have h4 : g_cnt (fun b => match μ b with | some s => decide (Z s) | none => false) nb + g_cnt (fun b => match μ b with | some s => !decide (Z s) | none => false) nb ≤ g_cnt (fun b => (μ b).isSome) nb := by
    apply g_cnt_dis
    · intro k _ h
      cases he : μ k with
      | none => rw [he] at h; simp at h
      | some s => rfl
    · intro k _ h
      cases he : μ k with
      | none => rw [he] at h; simp at h
      | some s => rw [he] at h; simp at h
  omega
