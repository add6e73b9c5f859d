/-! the most that can be had: by bookings (the model's way), by suits without dead ends left (the class's way) -/
def g_MM (E : Nat → Nat → Bool) (so bo : Nat → Nat) : Prop := (∀ b, b < 7 → so b = 9 ∨ (so b < 8 ∧ bo (so b) = b ∧ E (so b) b = true)) ∧ ∀ s, s < 8 → bo s = 9 ∨ (bo s < 7 ∧ so (bo s) = s)
def g_step (E : Nat → Nat → Bool) (w : Nat → Nat) (b u : Nat) (M : Nat → Nat) : Nat → Nat
  | 0 => M u
  | n + 1 => if E n b && !u.testBit n then max (g_step E w b u M n) (w n + M (u ||| 2 ^ n)) else g_step E w b u M n
def g_m (E : Nat → Nat → Bool) (w : Nat → Nat) (nb : Nat) : Nat → Nat → Nat
  | 0, _ => 0
  | k + 1, u => g_step E w (nb - (k + 1)) u (g_m E w nb k) 8
def g_vb (w so : Nat → Nat) (nb : Nat) : Nat → Nat
  | 0 => 0
  | k + 1 => (if so (nb - (k + 1)) = 9 then 0 else w (so (nb - (k + 1)))) + g_vb w so nb k
theorem g_step_base (E : Nat → Nat → Bool) (w : Nat → Nat) (b u : Nat) (M : Nat → Nat) : ∀ n, M u ≤ g_step E w b u M n
  | 0 => Nat.le_refl _
  | n + 1 => by
    have := g_step_base E w b u M n
    unfold g_step
    split <;> omega
theorem g_step_in {E : Nat → Nat → Bool} {w : Nat → Nat} {b u : Nat} {M : Nat → Nat} {s : Nat} (he : E s b = true) (hu : u.testBit s = false) : ∀ n, s < n → w s + M (u ||| 2 ^ s) ≤ g_step E w b u M n
  | 0, h => absurd h (Nat.not_lt_zero _)
  | n + 1, h => by
    unfold g_step
    by_cases e : s = n
    · subst e
      rw [he, hu, if_pos (by rfl)]; omega
    · have := g_step_in (w := w) (M := M) he hu n (by omega)
      split <;> omega
theorem g_step_or (E : Nat → Nat → Bool) (w : Nat → Nat) (b u : Nat) (M : Nat → Nat) : ∀ n, g_step E w b u M n = M u ∨ ∃ s, s < n ∧ E s b = true ∧ u.testBit s = false ∧ g_step E w b u M n = w s + M (u ||| 2 ^ s)
  | 0 => Or.inl rfl
  | n + 1 => by
    have ih := g_step_or E w b u M n
    unfold g_step
    split
    · next h =>
      simp only [Bool.and_eq_true, Bool.not_eq_true'] at h
      rcases Nat.le_total (g_step E w b u M n) (w n + M (u ||| 2 ^ n)) with l | l
      · rw [Nat.max_eq_right l]
        exact Or.inr ⟨n, by omega, h.1, h.2, rfl⟩
      · rw [Nat.max_eq_left l]
        rcases ih with q | ⟨s, h1, h2, h3, h4⟩
        · exact Or.inl q
        · exact Or.inr ⟨s, by omega, h2, h3, h4⟩
    · rcases ih with q | ⟨s, h1, h2, h3, h4⟩
      · exact Or.inl q
      · exact Or.inr ⟨s, by omega, h2, h3, h4⟩
theorem g_or_tb {u s t : Nat} : (u ||| 2 ^ s).testBit t = (u.testBit t || decide (s = t)) := by rw [Nat.testBit_or, Nat.testBit_two_pow]
theorem g_up {E : Nat → Nat → Bool} {w so bo : Nat → Nat} {nb : Nat} (H : g_MM E so bo) (hn : nb ≤ 7) : ∀ k u, k ≤ nb → (∀ b, nb - k ≤ b → b < nb → so b = 9 ∨ u.testBit (so b) = false) → g_vb w so nb k ≤ g_m E w nb k u
  | 0, u, _, _ => Nat.le_refl 0
  | k + 1, u, hk, hu => by
    unfold g_vb g_m
    have hb : nb - (k + 1) < 7 := by omega
    rcases H.1 _ hb with e | ⟨h1, h2, h3⟩
    · rw [if_pos e]
      have ih := g_up (w := w) H hn k u (by omega) (fun b h1 h2 => hu b (by omega) h2)
      have := g_step_base E w (nb - (k + 1)) u (g_m E w nb k) 8
      omega
    · rw [if_neg (by omega)]
      have hus : u.testBit (so (nb - (k + 1))) = false := by
        rcases hu _ (Nat.le_refl _) (by omega) with q | q
        · omega
        · exact q
      have ih := g_up (w := w) H hn k (u ||| 2 ^ so (nb - (k + 1))) (by omega) (fun b g1 g2 => by
        rcases H.1 b (by omega) with q | ⟨q1, q2, q3⟩
        · exact Or.inl q
        · refine Or.inr ?_
          rw [g_or_tb]
          have e1 : u.testBit (so b) = false := by
            rcases hu b (by omega) g2 with q | q
            · omega
            · exact q
          have e2 : so (nb - (k + 1)) ≠ so b := fun e => by
            rw [e] at h2
            omega
          rw [e1, decide_eq_false e2]; rfl)
      have := g_step_in (w := w) (M := g_m E w nb k) h3 hus 8 h1
      omega
theorem g_ex (E : Nat → Nat → Bool) (w : Nat → Nat) {nb : Nat} (hn : nb ≤ 7) : ∀ k u, k ≤ nb → ∃ so bo, g_MM E so bo ∧ (∀ b, b < 7 → so b ≠ 9 → nb - k ≤ b ∧ b < nb) ∧ (∀ s, s < 8 → bo s ≠ 9 → u.testBit s = false) ∧ g_vb w so nb k = g_m E w nb k u
  | 0, u, _ => ⟨fun _ => 9, fun _ => 9, ⟨fun _ _ => Or.inl rfl, fun _ _ => Or.inl rfl⟩, fun _ _ h => absurd rfl h, fun _ _ h => absurd rfl h, rfl⟩
  | k + 1, u, hk => by
    unfold g_m
    rcases g_step_or E w (nb - (k + 1)) u (g_m E w nb k) 8 with q | ⟨s, hs, he, hu, q⟩
    · obtain ⟨so, bo, H, h1, h2, h3⟩ := g_ex E w hn k u (by omega)
      refine ⟨so, bo, H, fun b hb h => ⟨by have := (h1 b hb h).1; omega, (h1 b hb h).2⟩, h2, ?_⟩
      unfold g_vb
      rw [q, ← h3]
      have : so (nb - (k + 1)) = 9 := Classical.byContradiction fun e => by
        have := (h1 _ (by omega) e).1; omega
      rw [if_pos this, Nat.zero_add]
    · obtain ⟨so, bo, H, h1, h2, h3⟩ := g_ex E w hn k (u ||| 2 ^ s) (by omega)
      have hb : nb - (k + 1) < 7 := by omega
      have b9 : so (nb - (k + 1)) = 9 := Classical.byContradiction fun e => by
        have := (h1 _ hb e).1; omega
      have s9 : bo s = 9 := Classical.byContradiction fun e => by
        have := h2 s hs e
        rw [g_or_tb] at this
        simp at this
      have sv : ∀ j, j ≤ k → g_vb w (fun c => if c = nb - (k + 1) then s else so c) nb j = g_vb w so nb j := by
        intro j
        induction j with
        | zero => intro _; rfl
        | succ j ih =>
          intro hj
          unfold g_vb
          rw [ih (by omega), if_neg (show ¬ nb - (j + 1) = nb - (k + 1) by omega)]
      refine ⟨fun c => if c = nb - (k + 1) then s else so c, fun t => if t = s then nb - (k + 1) else bo t, ⟨fun b hb' => ?_, fun t ht => ?_⟩, fun b hb' h => ?_, fun t ht h => ?_, ?_⟩
      · dsimp only
        by_cases e : b = nb - (k + 1)
        · subst e
          rw [if_pos rfl, if_pos rfl]
          exact Or.inr ⟨hs, rfl, he⟩
        · rw [if_neg e]
          rcases H.1 b hb' with q1 | ⟨q1, q2, q3⟩
          · exact Or.inl q1
          · refine Or.inr ⟨q1, ?_, q3⟩
            have : so b ≠ s := fun e2 => by rw [e2, s9] at q2; omega
            rw [if_neg this]; exact q2
      · dsimp only
        by_cases e : t = s
        · subst e
          rw [if_pos rfl, if_pos rfl]
          exact Or.inr ⟨hb, rfl⟩
        · rw [if_neg e]
          rcases H.2 t ht with q1 | ⟨q1, q2⟩
          · exact Or.inl q1
          · refine Or.inr ⟨q1, ?_⟩
            have : bo t ≠ nb - (k + 1) := fun e2 => by rw [e2, b9] at q2; omega
            rw [if_neg this]; exact q2
      · dsimp only at h
        by_cases e : b = nb - (k + 1)
        · omega
        · rw [if_neg e] at h
          have := h1 b hb' h
          omega
      · dsimp only at h
        by_cases e : t = s
        · subst e; exact hu
        · rw [if_neg e] at h
          have := h2 t ht h
          rw [g_or_tb] at this
          simp only [Bool.or_eq_false_iff] at this
          exact this.1
      · unfold g_vb
        rw [sv k (Nat.le_refl _), if_pos rfl, if_neg (by omega), q, h3]
theorem g_sw (f : Nat → Nat → Nat) : ∀ n m, k_sm (fun i => k_sm (fun j => f i j) m) n = k_sm (fun j => k_sm (fun i => f i j) n) m
  | 0, m => by
    induction m with
    | zero => rfl
    | succ m ih =>
      show 0 = k_sm (fun j => k_sm (fun i => f i j) 0) m + 0
      rw [Nat.add_zero]
      exact ih
  | n + 1, m => by
    rw [k_sm, g_sw f n m]
    induction m with
    | zero => rfl
    | succ m ih =>
      simp only [k_sm] at ih ⊢
      omega
theorem g_sone (a v : Nat) : ∀ n, k_sm (fun j => if j = a then v else 0) n = if a < n then v else 0
  | 0 => rfl
  | n + 1 => by
    rw [k_sm, g_sone a v n]
    by_cases e : n = a
    · subst e; simp
    · rw [if_neg e]
      by_cases h : a < n
      · rw [if_pos h, if_pos (by omega)]; rfl
      · rw [if_neg h, if_neg (by omega)]
/-- over bookings as over suits -/
theorem g_sum {E : Nat → Nat → Bool} {so bo : Nat → Nat} (H : g_MM E so bo) (w : Nat → Nat) : k_sm (fun b => if so b = 9 then 0 else w (so b)) 7 = k_sm (fun s => if bo s = 9 then 0 else w s) 8 := by
  have e1 : ∀ b, b < 7 → (if so b = 9 then 0 else w (so b)) = k_sm (fun s => if s = so b then w s else 0) 8 := fun b hb => by
    have : k_sm (fun s => if s = so b then w s else 0) 8 = k_sm (fun s => if s = so b then w (so b) else 0) 8 := k_sm_cong (fun s _ => by
      by_cases e : s = so b
      · rw [if_pos e, if_pos e, e]
      · rw [if_neg e, if_neg e])
    rw [this, g_sone]
    rcases H.1 b hb with q | ⟨q, -, -⟩
    · rw [if_pos q, if_neg (by omega)]
    · rw [if_neg (by omega), if_pos q]
  have e2 : ∀ s, s < 8 → (if bo s = 9 then 0 else w s) = k_sm (fun b => if s = so b then w s else 0) 7 := fun s hs => by
    rcases H.2 s hs with q | ⟨q1, q2⟩
    · rw [if_pos q]
      have : k_sm (fun b => if s = so b then w s else 0) 7 = k_sm (fun _ => 0) 7 := k_sm_cong (fun b hb => by
        rw [if_neg]
        intro e
        rcases H.1 b hb with q | ⟨-, q3, -⟩
        · omega
        · rw [← e] at q3; omega)
      rw [this]; rfl
    · rw [if_neg (by omega)]
      have : k_sm (fun b => if s = so b then w s else 0) 7 = k_sm (fun b => if b = bo s then w s else 0) 7 := k_sm_cong (fun b hb => by
        by_cases e : b = bo s
        · rw [if_pos e, e, if_pos q2.symm]
        · rw [if_neg e, if_neg]
          intro e3
          rcases H.1 b hb with q | ⟨-, q3, -⟩
          · omega
          · rw [← e3] at q3; omega)
      rw [this, g_sone, if_pos q1]
  rw [k_sm_cong e1, k_sm_cong e2]
  exact g_sw (fun b s => if s = so b then w s else 0) 7 8
def g_v (w bo : Nat → Nat) : Nat := k_sm (fun s => if bo s = 9 then 0 else w s) 8
theorem g_vb_full (w so : Nat → Nat) (nb : Nat) : ∀ k, k ≤ nb → g_vb w so nb k + k_sm (fun b => if so b = 9 then 0 else w (so b)) (nb - k) = k_sm (fun b => if so b = 9 then 0 else w (so b)) nb
  | 0, _ => by simp [g_vb]
  | k + 1, h => by
    have ih := g_vb_full w so nb k (by omega)
    rw [← ih]
    show ((if so (nb - (k + 1)) = 9 then 0 else w (so (nb - (k + 1)))) + g_vb w so nb k) + _ = _
    obtain ⟨j, e⟩ : ∃ j, nb - k = j + 1 := ⟨nb - k - 1, by omega⟩
    rw [show nb - (k + 1) = j by omega, e, k_sm]
    omega
theorem g_sm_more {v : Nat → Nat} {n : Nat} : ∀ {m : Nat}, n ≤ m → (∀ i, n ≤ i → i < m → v i = 0) → k_sm v m = k_sm v n
  | 0, h, _ => by rw [Nat.le_zero.mp h]
  | m + 1, h, z => by
    rcases Nat.lt_or_ge m n with e | e
    · rw [show n = m + 1 by omega]
    · rw [k_sm, z m e (by omega), g_sm_more e (fun i h1 h2 => z i h1 (by omega)), Nat.add_zero]
/-- the model's number is the most over all ways -/
theorem g_max {E : Nat → Nat → Bool} {w : Nat → Nat} {nb k u : Nat} (hn : nb ≤ 7) (hk : k ≤ nb) (hE : ∀ s b, b < nb - k ∨ nb ≤ b → E s b = false) (hu : ∀ s b, s < 8 → u.testBit s = true → E s b = false) : (∀ so bo, g_MM E so bo → g_v w bo ≤ g_m E w nb k u) ∧ ∃ so bo, g_MM E so bo ∧ g_v w bo = g_m E w nb k u := by
  have val : ∀ so bo, g_MM E so bo → g_v w bo = g_vb w so nb k := fun so bo H => by
    have o9 : ∀ b, b < 7 → (b < nb - k ∨ nb ≤ b) → so b = 9 := fun b hb h => by
      rcases H.1 b hb with q | ⟨-, -, q⟩
      · exact q
      · rw [hE _ b h] at q; cases q
    unfold g_v
    rw [← g_sum H w, g_sm_more (n := nb) (m := 7) hn (fun i h1 h2 => by rw [if_pos (o9 i h2 (Or.inr h1))])]
    rw [← g_vb_full w so nb k hk]
    have : k_sm (fun b => if so b = 9 then 0 else w (so b)) (nb - k) = k_sm (fun b => if so b = 9 then 0 else w (so b)) 0 := g_sm_more (Nat.zero_le _) (fun i _ h2 => by rw [if_pos (o9 i (by omega) (Or.inl h2))])
    rw [this]; rfl
  refine ⟨fun so bo H => ?_, ?_⟩
  · rw [val so bo H]
    refine g_up H hn k u hk (fun b h1 h2 => ?_)
    rcases H.1 b (by omega) with q | ⟨q1, q2, q3⟩
    · exact Or.inl q
    · refine Or.inr ?_
      cases e : u.testBit (so b) with
      | false => rfl
      | true => rw [hu _ b q1 e] at q3; cases q3
  · obtain ⟨so, bo, H, -, -, h3⟩ := g_ex E w hn k u hk
    exact ⟨so, bo, H, (val so bo H).trans h3⟩
/-! dead ends -/
def g_inv (E : Nat → Nat → Bool) (so bo : Nat → Nat) (P Z : Nat → Bool) : Prop := g_MM E so bo ∧ (∀ s, s < 8 → bo s ≠ 9 → P s = true) ∧ (∀ s b, s < 8 → b < 7 → Z s = true → E s b = true → so b ≠ 9 ∧ Z (so b) = true) ∧ ∀ s, s < 8 → P s = true → bo s = 9 → Z s = true
theorem g_opt {E : Nat → Nat → Bool} {so bo so2 bo2 : Nat → Nat} {P Z : Nat → Bool} (I : g_inv E so bo P Z) (H2 : g_MM E so2 bo2) : g_cnt (fun s => P s && !(bo2 s == 9)) 8 ≤ g_cnt (fun s => !(bo s == 9)) 8 := by
  obtain ⟨H, hP, hZ, hD⟩ := I
  have h1 : g_cnt (fun s => P s && !(bo2 s == 9)) 8 ≤ g_cnt (fun s => P s && !(bo2 s == 9) && Z s) 8 + g_cnt (fun s => P s && !(bo2 s == 9) && !Z s) 8 := by
    apply g_cnt_or
    intro k _ h
    cases hz : Z k with
    | true => left; simpa [hz] using h
    | false => right; simpa [hz] using h
  have h2 : g_cnt (fun s => P s && !(bo2 s == 9) && Z s) 8 ≤ g_cnt (fun s => !(bo s == 9) && Z s) 8 := by
    have pr : ∀ s, s < 8 → (P s && !(bo2 s == 9) && Z s) = true → bo2 s < 7 ∧ so2 (bo2 s) = s ∧ so (bo2 s) ≠ 9 ∧ Z (so (bo2 s)) = true ∧ so (bo2 s) < 8 ∧ bo (so (bo2 s)) = bo2 s := by
      intro s hs h
      simp only [Bool.and_eq_true, Bool.not_eq_true', beq_eq_false_iff_ne] at h
      obtain ⟨⟨-, n9⟩, hz⟩ := h
      rcases H2.2 s hs with q | ⟨q1, q2⟩
      · exact absurd q n9
      · have e3 : E s (bo2 s) = true := by
          rcases H2.1 _ q1 with q | ⟨-, -, q⟩
          · rw [q2] at q; omega
          · rw [q2] at q; exact q
        obtain ⟨z1, z2⟩ := hZ s _ hs q1 hz e3
        rcases H.1 _ q1 with q | ⟨q3, q4, -⟩
        · exact absurd q z1
        · exact ⟨q1, q2, z1, z2, q3, q4⟩
    apply g_inj 8 8 _ _ (fun s => so (bo2 s))
    · intro s hs h
      obtain ⟨a, b, c, d, e, f⟩ := pr s hs h
      refine ⟨e, ?_⟩
      have : bo (so (bo2 s)) ≠ 9 := by omega
      simp [this, d]
    · intro i j hi hj h1 h2 e
      obtain ⟨a, b, c, d, e1, f⟩ := pr i hi h1
      obtain ⟨a', b', c', d', e1', f'⟩ := pr j hj h2
      rw [e] at f
      have : bo2 i = bo2 j := by omega
      rw [← b, ← b', this]
  have h3 : g_cnt (fun s => P s && !(bo2 s == 9) && !Z s) 8 ≤ g_cnt (fun s => !(bo s == 9) && !Z s) 8 := by
    apply g_cnt_le
    intro s hs h
    simp only [Bool.and_eq_true, Bool.not_eq_true', beq_eq_false_iff_ne] at h ⊢
    refine ⟨fun e => ?_, h.2⟩
    rw [hD s hs h.1.1 e] at h
    cases h.2
  have h4 : g_cnt (fun s => !(bo s == 9) && Z s) 8 + g_cnt (fun s => !(bo s == 9) && !Z s) 8 ≤ g_cnt (fun s => !(bo s == 9)) 8 := by
    apply g_cnt_dis
    · intro k _ h
      rcases h with h | h <;> simp only [Bool.and_eq_true] at h <;> exact h.1
    · intro k _ ⟨h1, h2⟩
      simp only [Bool.and_eq_true] at h1 h2
      rw [h1.2] at h2
      cases h2.2
  omega
theorem g_cnt_sm (p : Nat → Bool) : ∀ n, g_cnt p n = k_sm (fun s => if p s then 1 else 0) n
  | 0 => rfl
  | n + 1 => by rw [g_cnt, k_sm, g_cnt_sm p n]
/-- weights by layers -/
theorem g_layer (w : Nat → Nat) (p : Nat → Bool) (T : Nat) (n : Nat) (h : ∀ s, s < n → w s ≤ T) : k_sm (fun s => if p s then w s else 0) n = k_sm (fun t => g_cnt (fun s => p s && decide (t < w s)) n) T := by
  have e : ∀ s, s < n → (if p s then w s else 0) = k_sm (fun t => if p s && decide (t < w s) then 1 else 0) T := fun s hs => by
    have hw := h s hs
    cases p s with
    | false => exact (g_sm_more (n := 0) (Nat.zero_le T) (fun _ _ _ => rfl)).symm
    | true =>
      have : ∀ T, w s ≤ T → k_sm (fun t => if true && decide (t < w s) then 1 else 0) T = w s := by
        intro T hT
        have l : ∀ m, m ≤ w s → k_sm (fun t => if true && decide (t < w s) then 1 else 0) m = m := by
          intro m
          induction m with
          | zero => intro _; rfl
          | succ m ih =>
            intro hm
            rw [k_sm, ih (by omega), Bool.true_and, decide_eq_true (show m < w s by omega)]; rfl
        rw [g_sm_more (n := w s) hT (fun i h1 _ => by rw [Bool.true_and, decide_eq_false (by omega)]; rfl), l _ (Nat.le_refl _)]
      rw [this T hw]; rfl
  rw [k_sm_cong e, g_sw]
  exact k_sm_cong (fun t _ => (g_cnt_sm _ n).symm)
theorem g_sm_le {v u : Nat → Nat} : ∀ {n : Nat}, (∀ i, i < n → v i ≤ u i) → k_sm v n ≤ k_sm u n
  | 0, _ => Nat.le_refl _
  | n + 1, h => by
    have := g_sm_le (v := v) (u := u) (n := n) (fun i hi => h i (by omega))
    have := h n (by omega)
    rw [k_sm, k_sm]; omega
