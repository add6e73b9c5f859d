/-! the class's fitting: one more suit is seated -/
def k_FM (h : q_Hp) (F : Nat) (so bo : Nat → Nat) : Prop := (∀ b, b < 7 → q_int h (F + 7) b = nI (so b) ∧ so b ≤ 9) ∧ ∀ s, s < 8 → q_int h (F + 5) s = nI (bo s) ∧ bo s ≤ 9
/-- a matching but for the booking b, whose suit is told anew -/
def g_MH (E : Nat → Nat → Bool) (so bo : Nat → Nat) (b : Nat) : Prop := (∀ c, c < 7 → c ≠ b → so c = 9 ∨ (so c < 8 ∧ bo (so c) = c ∧ E (so c) c = true)) ∧ ∀ s, s < 8 → bo s = 9 ∨ (bo s < 7 ∧ bo s ≠ b ∧ so (bo s) = s)
def g_st (f : Nat → Nat) (k v : Nat) : Nat → Nat := fun j => if j = k then v else f j
theorem g_st_s {f : Nat → Nat} {k v : Nat} : g_st f k v k = v := if_pos rfl
theorem g_st_n {f : Nat → Nat} {k v j : Nat} (h : j ≠ k) : g_st f k v j = f j := if_neg h
theorem g_MH_go {E : Nat → Nat → Bool} {so bo : Nat → Nat} {b s : Nat} (H : g_MH E so bo b) (hb : b < 7) (hs : s < 8) (he : E s b = true) (hn : bo s ≠ 9) : g_MH E (g_st so b s) (g_st bo s b) (bo s) ∧ bo s < 7 := by
  rcases H.2 s hs with q | ⟨q1, q2, q3⟩
  · exact absurd q hn
  refine ⟨⟨fun c hc hne => ?_, fun t ht => ?_⟩, q1⟩
  · by_cases e : c = b
    · subst e
      rw [g_st_s, g_st_s]; exact Or.inr ⟨hs, rfl, he⟩
    · rw [g_st_n e]
      rcases H.1 c hc e with q | ⟨p1, p2, p3⟩
      · exact Or.inl q
      · have : so c ≠ s := fun e2 => hne (by rw [← e2]; exact p2.symm)
        rw [g_st_n this]
        exact Or.inr ⟨p1, p2, p3⟩
  · by_cases e : t = s
    · subst e
      rw [g_st_s, g_st_s]
      exact Or.inr ⟨hb, fun e => q2 e.symm, rfl⟩
    · rw [g_st_n e]
      rcases H.2 t ht with q | ⟨p1, p2, p3⟩
      · exact Or.inl q
      · refine Or.inr ⟨p1, fun e2 => e ?_, ?_⟩
        · rw [← p3, e2, q3]
        · rw [g_st_n p2]; exact p3
theorem g_MH_end {E : Nat → Nat → Bool} {so bo : Nat → Nat} {b s : Nat} (H : g_MH E so bo b) (hb : b < 7) (hs : s < 8) (he : E s b = true) (hn : bo s = 9) : g_MM E (g_st so b s) (g_st bo s b) := by
  refine ⟨fun c hc => ?_, fun t ht => ?_⟩
  · by_cases e : c = b
    · subst e
      rw [g_st_s, g_st_s]; exact Or.inr ⟨hs, rfl, he⟩
    · rw [g_st_n e]
      rcases H.1 c hc e with q | ⟨p1, p2, p3⟩
      · exact Or.inl q
      · have : so c ≠ s := fun e2 => by rw [e2, hn] at p2; omega
        rw [g_st_n this]
        exact Or.inr ⟨p1, p2, p3⟩
  · by_cases e : t = s
    · subst e
      rw [g_st_s, g_st_s]
      exact Or.inr ⟨hb, rfl⟩
    · rw [g_st_n e]
      rcases H.2 t ht with q | ⟨p1, p2, p3⟩
      · exact Or.inl q
      · exact Or.inr ⟨p1, by rw [g_st_n p2]; exact p3⟩
theorem g_MM_H {E : Nat → Nat → Bool} {so bo : Nat → Nat} {b : Nat} (H : g_MM E so bo) (h9 : so b = 9) : g_MH E so bo b := by
  refine ⟨fun c hc _ => H.1 c hc, fun s hs => ?_⟩
  rcases H.2 s hs with q | ⟨q1, q2⟩
  · exact Or.inl q
  · exact Or.inr ⟨q1, fun e => by rw [e, h9] at q2; omega, q2⟩
theorem FM_put {h : q_Hp} {F b s : Nat} {so bo : Nat → Nat} (M : k_FM h F so bo) (hb : b < 7) (hs : s < 8) : k_FM (q_si (q_si h (F + 7) b (nI s)) (F + 5) s (nI b)) F (g_st so b s) (g_st bo s b) := by
  refine ⟨fun c hc => ?_, fun t ht => ?_⟩
  · rw [k_si_n (by omega)]
    by_cases e : c = b
    · subst e; rw [k_si_s, g_st_s]; exact ⟨rfl, by omega⟩
    · rw [k_si_j e, g_st_n e]; exact M.1 c hc
  · by_cases e : t = s
    · subst e; rw [k_si_s, g_st_s]; exact ⟨rfl, by omega⟩
    · rw [k_si_j e, g_st_n e, k_si_n (by omega)]; exact M.2 t ht
theorem FM_ag {h h' : q_Hp} {F : Nat} {so bo : Nat → Nat} {P : Nat → Prop} (M : k_FM h F so bo) (g : k_ag P h h') (h5 : P (F + 5)) (h7 : P (F + 7)) : k_FM h' F so bo := ⟨fun b hb => by rw [k_agI g h7]; exact M.1 b hb, fun s hs => by rw [k_agI g h5]; exact M.2 s hs⟩
theorem c_moveOn {σ : q_St} {h : q_Hp} {F b0 en : Nat} {E : Nat → Nat → Bool} {so0 bo0 qf rb : Nat → Nat} {Z : Nat → Bool} {j0 : Nat} (T : k_ft σ F) (M : k_FM h F so0 bo0) (H : g_MM E so0 bo0) (hb0 : b0 < 7) (h9 : so0 b0 = 9)
    (hz : ∀ s b, s < 8 → b < 7 → Z s = true → E s b = true → so0 b ≠ 9 ∧ Z (so0 b) = true)
    (c1 : ∀ j, j < en → qf j < 8) (ci : ∀ i j, i < en → j < en → qf i = qf j → i = j) (c2 : bo0 (qf 0) = 9) (hen : en ≤ 8)
    (c3 : ∀ j, 1 ≤ j → j < en → bo0 (qf j) < 7 ∧ q_int h (F + 8) (bo0 (qf j)) = nI (rb (bo0 (qf j))) ∧ ∃ j', j' < j ∧ rb (bo0 (qf j)) = qf j' ∧ E (qf j') (bo0 (qf j)) = true)
    (hj : j0 < en) (hr : q_int h (F + 8) b0 = nI (rb b0)) (hrb : rb b0 = qf j0) (he : E (qf j0) b0 = true) :
    k_ok (fX0_moveOn σ h F (nI b0)) (fun h' => ∃ so bo, k_FM h' F so bo ∧ g_MM E so bo ∧ (∀ s, s < 8 → (bo s ≠ 9 ↔ bo0 s ≠ 9 ∨ s = qf 0)) ∧ (∀ c, c < 7 → so0 c ≠ 9 → Z (so0 c) = true → so c = so0 c) ∧ k_ag (fun a => a ≠ F + 5 ∧ a ≠ F + 7) h h') := by
  unfold fX0_moveOn
  rw [fr5 T, fr7 T, fr4 T, fr6 T, q_gu_t ⟨ft6 T, ft8 T, ft5 T, ft7 T⟩]
  have z0 : Z (qf j0) = false := by
    cases e : Z (qf j0) with
    | false => rfl
    | true => exact absurd h9 (hz _ _ (c1 _ hj) hb0 e he).1
  refine k_bind (k_for (n := 8) (P := fun h' => ∃ so bo, k_FM h' F so bo ∧ g_MM E so bo ∧ (∀ s, s < 8 → (bo s ≠ 9 ↔ bo0 s ≠ 9 ∨ s = qf 0)) ∧ (∀ c, c < 7 → so0 c ≠ 9 → Z (so0 c) = true → so c = so0 c) ∧ k_ag (fun a => a ≠ F + 5 ∧ a ≠ F + 7) h h') (fun i s => s.2.1 = nI i ∧ ∃ so bo, k_FM s.2.2 F so bo ∧ k_ag (fun a => a ≠ F + 5 ∧ a ≠ F + 7) h s.2.2 ∧ (∀ c, c < 7 → so0 c ≠ 9 → Z (so0 c) = true → so c = so0 c) ∧ ((s.1 = nI 9 ∧ g_MM E so bo ∧ ∀ s, s < 8 → (bo s ≠ 9 ↔ bo0 s ≠ 9 ∨ s = qf 0)) ∨ ∃ b j, s.1 = nI b ∧ b < 7 ∧ j < en ∧ i + j < 8 ∧ rb b = qf j ∧ q_int h (F + 8) b = nI (rb b) ∧ E (qf j) b = true ∧ Z (qf j) = false ∧ (so0 b ≠ 9 → Z (so0 b) = false) ∧ g_MH E so bo b ∧ (∀ i, i ≤ j → bo (qf i) = bo0 (qf i)) ∧ ∀ s, s < 8 → (bo s ≠ 9 ↔ bo0 s ≠ 9))) (by rw [k_N]; omega) ⟨rfl, so0, bo0, M, k_ag_rf, fun _ _ _ _ => rfl, Or.inr ⟨b0, j0, rfl, hb0, hj, by omega, hrb, hr, he, z0, fun q => absurd h9 q, g_MM_H H h9, fun _ _ => rfl, fun _ _ => Iff.rfl⟩⟩ ?_) (fun r hr => k_some hr)
  rintro i ⟨x, t, h'⟩ hi ⟨et, so, bo, MM, g, hzz, D⟩
  dsimp only at et MM g hzz D
  subst et
  show k_ok (fX0_moveOn_4 σ F (nI b0) x (nI i) h') _
  unfold fX0_moveOn_4
  rw [fr5 T, fr7 T, fr4 T, fr6 T, fl6 T, k_ofN]
  rcases D with ⟨ex, D1, D2⟩ | ⟨b, j, ex, hb, hj2, hij, e1, e2, e3, e4, e5, D1, D2, D3⟩
  · have fin : k_ok (some (Sum.inr h') : Option ((Int32 × Int32 × q_Hp) ⊕ q_Hp)) (k_z (fun s => i < 8 ∧ s.2.1 = nI (i + 1) ∧ ∃ so bo, k_FM s.2.2 F so bo ∧ k_ag (fun a => a ≠ F + 5 ∧ a ≠ F + 7) h s.2.2 ∧ (∀ c, c < 7 → so0 c ≠ 9 → Z (so0 c) = true → so c = so0 c) ∧ ((s.1 = nI 9 ∧ g_MM E so bo ∧ ∀ s, s < 8 → (bo s ≠ 9 ↔ bo0 s ≠ 9 ∨ s = qf 0)) ∨ ∃ b j, s.1 = nI b ∧ b < 7 ∧ j < en ∧ i + 1 + j < 8 ∧ rb b = qf j ∧ q_int h (F + 8) b = nI (rb b) ∧ E (qf j) b = true ∧ Z (qf j) = false ∧ (so0 b ≠ 9 → Z (so0 b) = false) ∧ g_MH E so bo b ∧ (∀ i, i ≤ j → bo (qf i) = bo0 (qf i)) ∧ ∀ s, s < 8 → (bo s ≠ 9 ↔ bo0 s ≠ 9))) (fun h' => ∃ so bo, k_FM h' F so bo ∧ g_MM E so bo ∧ (∀ s, s < 8 → (bo s ≠ 9 ↔ bo0 s ≠ 9 ∨ s = qf 0)) ∧ (∀ c, c < 7 → so0 c ≠ 9 → Z (so0 c) = true → so c = so0 c) ∧ k_ag (fun a => a ≠ F + 5 ∧ a ≠ F + 7) h h')) := k_some ⟨so, bo, MM, D1, D2, hzz, g⟩
    subst ex
    refine k_ite (fun _ => fin) (fun _ => ?_)
    rw [if_pos (show nI 9 = 9 from rfl)]
    exact fin
  · subst ex
    have hs := c1 j hj2
    have b9 : ¬ nI b = 9 := by
      rw [k_eqL (show (9 : Int32) = nI 9 from rfl) (by omega) (by decide)]; omega
    have eb := D2 j (Nat.le_refl _)
    have Mj := MM.2 (qf j) hs
    rw [if_neg (nI_ge (by omega) (by decide)), if_neg b9, c_at (fl8 T) hb (by decide), k_bs1, k_agI g (show F + 8 ≠ F + 5 ∧ F + 8 ≠ F + 7 by omega), e2, e1, c_at (fl5 T) hs (by decide), k_bs1, Mj.1, c_set (fl7 T) hb (by decide), k_bs1, c_set (fl5 T) hs (by decide), k_bs1, nI_1]
    have so_ne : ∀ c, c < 7 → so0 c ≠ 9 → Z (so0 c) = true → g_st so b (qf j) c = so0 c := fun c hc h1 h2 => by
      have : c ≠ b := fun e => by
        subst e
        rw [e5 h1] at h2; cases h2
      rw [g_st_n this]; exact hzz c hc h1 h2
    refine k_some ⟨by omega, rfl, g_st so b (qf j), g_st bo (qf j) b, FM_put MM hb hs, k_ag_si (k_ag_si g (fun q => q.2 rfl)) (fun q => q.1 rfl), so_ne, ?_⟩
    by_cases j0' : j = 0
    · subst j0'
      have n9 : bo (qf 0) = 9 := by rw [eb, c2]
      refine Or.inl ⟨by rw [n9], g_MH_end D1 hb hs e3 n9, fun s hs' => ?_⟩
      by_cases e : s = qf 0
      · subst e
        rw [g_st_s]
        exact ⟨fun _ => Or.inr rfl, fun _ => by omega⟩
      · rw [g_st_n e]
        exact ⟨fun q => Or.inl ((D3 s hs').mp q), fun q => (D3 s hs').mpr (q.resolve_right e)⟩
    · obtain ⟨p1, p2, j', p3, p4, p5⟩ := c3 j (by omega) hj2
      have n9 : bo (qf j) ≠ 9 := by rw [eb]; omega
      have G := g_MH_go D1 hb hs e3 n9
      rw [eb] at G ⊢
      have s0n : so0 (bo0 (qf j)) = qf j := by
        rcases H.2 (qf j) hs with q | ⟨-, q⟩
        · omega
        · exact q
      have zj : Z (qf j') = false := by
        cases e : Z (qf j') with
        | false => rfl
        | true =>
          have := (hz _ _ (c1 j' (by omega)) p1 e p5).2
          rw [s0n, e4] at this; cases this
      refine Or.inr ⟨bo0 (qf j), j', rfl, p1, by omega, by omega, p4, p2, p5, zj, fun _ => by rw [s0n]; exact e4, G.1, fun i hi => ?_, fun s hs' => ?_⟩
      · have : qf i ≠ qf j := fun e => by have := ci i j (by omega) hj2 e; omega
        rw [g_st_n this]; exact D2 i (by omega)
      · by_cases e : s = qf j
        · subst e
          rw [g_st_s]
          exact ⟨fun _ => by omega, fun _ => by omega⟩
        · rw [g_st_n e]; exact D3 s hs'
/-- how far the search has come: L the bookings not yet reached, en in the queue -/
def g_B (E : Nat → Nat → Bool) (so bo : Nat → Nat) (s0 B : Nat) (h : q_Hp) (F L en : Nat) (qf rb : Nat → Nat) : Prop :=
  ((∀ c, L.testBit c = true → B.testBit c = true) ∧ L < 128) ∧ en = k_one01 (fun c => B.testBit c && !L.testBit c) 7 + 1 ∧ (∀ j, j < en → q_int h (F + 6) j = nI (qf j) ∧ qf j < 8) ∧ qf 0 = s0 ∧ (∀ i j, i < en → j < en → qf i = qf j → i = j) ∧ (∀ c, c < 7 → B.testBit c = true → L.testBit c = false → so c ≠ 9 ∧ ∃ j, j < en ∧ qf j = so c) ∧ ∀ j, 1 ≤ j → j < en → bo (qf j) < 7 ∧ B.testBit (bo (qf j)) = true ∧ L.testBit (bo (qf j)) = false ∧ q_int h (F + 8) (bo (qf j)) = nI (rb (bo (qf j))) ∧ ∃ j', j' < j ∧ rb (bo (qf j)) = qf j' ∧ E (qf j') (bo (qf j)) = true
theorem k_one_ch {p q : Nat → Bool} {b : Nat} (hp : p b = false) (hq : q b = true) (h : ∀ c, c ≠ b → q c = p c) : ∀ n, b < n → k_one01 q n = k_one01 p n + 1
  | 0, hb => absurd hb (Nat.not_lt_zero _)
  | n + 1, hb => by
    rw [k_one_s, k_one_s]
    by_cases e : n = b
    · subst e
      have : k_one01 q n = k_one01 p n := k_sm_cong (fun i hi => by rw [h i (by omega)])
      rw [hp, hq, this]; rfl
    · rw [k_one_ch hp hq h n (by omega), h n e]
      omega
theorem c_seat {σ : q_St} {h : q_Hp} {F s0 B : Nat} {so0 bo0 tk : Nat → Nat} {P Z Qb : Nat → Bool} (T : k_ft σ F) (M : k_FM h F so0 bo0) (hB : B < 128) (htk : ∀ s, s < 8 → q_int h (F + 3) s = nI (tk s) ∧ tk s < 128) (I : g_inv (fun s b => Qb s && B.testBit b && (tk s).testBit b) so0 bo0 P Z) (hs0 : s0 < 8) (h9 : bo0 s0 = 9) (hq0 : Qb s0 = true) :
    k_ok (fX0_seat σ h F (nI s0) (nI B)) (fun r => ∃ so bo Z', k_FM r.2 F so bo ∧ g_inv (fun s b => Qb s && B.testBit b && (tk s).testBit b) so bo (fun s => P s || s == s0) Z' ∧ ((r.1 = 1 ∧ ∀ s, s < 8 → (bo s ≠ 9 ↔ bo0 s ≠ 9 ∨ s = s0)) ∨ (r.1 = 0 ∧ ∀ s, s < 8 → bo s = bo0 s)) ∧ k_ag (fun a => a ≠ F + 5 ∧ a ≠ F + 6 ∧ a ≠ F + 7 ∧ a ≠ F + 8) h r.2) := by
  obtain ⟨H, hP, hZ, hD⟩ := I
  unfold fX0_seat
  rw [fr5 T, fr6 T, fr2 T, fr7 T, q_gu_t ⟨ft6 T, ft7 T, ft3 T, ft8 T⟩, show fX4_set σ h (F + 6) 0 (nI s0) = some (q_si h (F + 6) 0 (nI s0)) from c_set (i := 0) (fl6 T) (by decide) (by decide), k_bs1]
  have A0 : k_ag (fun a => a ≠ F + 5 ∧ a ≠ F + 6 ∧ a ≠ F + 7 ∧ a ≠ F + 8) h (q_si h (F + 6) 0 (nI s0)) := k_ag_si k_ag_rf (fun q => q.2.1 rfl)
  have A0' : k_ag (fun a => a ≠ F + 6 ∧ a ≠ F + 8) h (q_si h (F + 6) 0 (nI s0)) := k_ag_si k_ag_rf (fun q => q.1 rfl)
  have Q0 : q_int (q_si h (F + 6) 0 (nI s0)) (F + 6) 0 = nI s0 := k_si_s
  generalize q_si h (F + 6) 0 (nI s0) = h0 at A0 A0' Q0 ⊢
  -- the two ways to end
  have won : ∀ {h' : q_Hp}, (∃ so bo, k_FM h' F so bo ∧ g_MM (fun s b => Qb s && B.testBit b && (tk s).testBit b) so bo ∧ (∀ s, s < 8 → (bo s ≠ 9 ↔ bo0 s ≠ 9 ∨ s = s0)) ∧ (∀ c, c < 7 → so0 c ≠ 9 → Z (so0 c) = true → so c = so0 c) ∧ k_ag (fun a => a ≠ F + 5 ∧ a ≠ F + 6 ∧ a ≠ F + 7 ∧ a ≠ F + 8) h h') → ∃ so bo Z', k_FM h' F so bo ∧ g_inv (fun s b => Qb s && B.testBit b && (tk s).testBit b) so bo (fun s => P s || s == s0) Z' ∧ (((1 : Int32) = 1 ∧ ∀ s, s < 8 → (bo s ≠ 9 ↔ bo0 s ≠ 9 ∨ s = s0)) ∨ ((1 : Int32) = 0 ∧ ∀ s, s < 8 → bo s = bo0 s)) ∧ k_ag (fun a => a ≠ F + 5 ∧ a ≠ F + 6 ∧ a ≠ F + 7 ∧ a ≠ F + 8) h h' := by
    rintro h' ⟨so, bo, m1, m2, m3, m4, m5⟩
    refine ⟨so, bo, Z, m1, ⟨m2, fun s hs hn => ?_, fun s b hs hb hz he => ?_, fun s hs hp hn => ?_⟩, Or.inl ⟨rfl, m3⟩, m5⟩
    · rcases (m3 s hs).mp hn with q | q
      · simp [hP s hs q]
      · simp [q]
    · obtain ⟨z1, z2⟩ := hZ s b hs hb hz he
      rw [m4 b hb z1 z2]; exact ⟨z1, z2⟩
    · have : ¬ (bo0 s ≠ 9 ∨ s = s0) := fun q => (m3 s hs).mpr q hn
      have h1 : bo0 s = 9 := Classical.byContradiction fun q => this (Or.inl q)
      have h2 : s ≠ s0 := fun q => this (Or.inr q)
      refine hD s hs ?_ h1
      simpa [h2] using hp
  refine k_bind (k_for (n := 8) (P := fun o => (∃ h', o = .inr (1, h') ∧ ∃ so bo, k_FM h' F so bo ∧ g_MM (fun s b => Qb s && B.testBit b && (tk s).testBit b) so bo ∧ (∀ s, s < 8 → (bo s ≠ 9 ↔ bo0 s ≠ 9 ∨ s = s0)) ∧ (∀ c, c < 7 → so0 c ≠ 9 → Z (so0 c) = true → so c = so0 c) ∧ k_ag (fun a => a ≠ F + 5 ∧ a ≠ F + 6 ∧ a ≠ F + 7 ∧ a ≠ F + 8) h h') ∨ ∃ h' L en qf rb, o = .inl h' ∧ g_B (fun s b => Qb s && B.testBit b && (tk s).testBit b) so0 bo0 s0 B h' F L en qf rb ∧ (∀ j c, j < en → c < 7 → (Qb (qf j) && B.testBit c && (tk (qf j)).testBit c) = true → L.testBit c = false) ∧ k_ag (fun a => a ≠ F + 6 ∧ a ≠ F + 8) h h') (fun i s => ∃ L en qf rb, s.1 = nI L ∧ s.2.1 = nI en ∧ s.2.2.1 = nI i ∧ i ≤ en ∧ g_B (fun s b => Qb s && B.testBit b && (tk s).testBit b) so0 bo0 s0 B s.2.2.2 F L en qf rb ∧ (∀ j c, j < i → c < 7 → (Qb (qf j) && B.testBit c && (tk (qf j)).testBit c) = true → L.testBit c = false) ∧ k_ag (fun a => a ≠ F + 6 ∧ a ≠ F + 8) h s.2.2.2) (by rw [k_N]; omega) ⟨B, 1, fun _ => s0, fun _ => 0, rfl, rfl, rfl, by omega, ⟨⟨fun _ h => h, hB⟩, ?_, fun j hj => ?_, rfl, fun i j h1 h2 _ => by omega, fun c _ h1 h2 => absurd (h1.symm.trans h2) (by decide), fun j h1 h2 => by omega⟩, fun j c hj => absurd hj (Nat.not_lt_zero _), A0'⟩ ?_) ?_
  · have : k_one01 (fun c => B.testBit c && !B.testBit c) 7 = k_one01 (fun c => B.testBit c && !B.testBit c) 0 := k_one_no (by omega) (fun N _ _ => by simp)
    rw [this]; rfl
  · have : j = 0 := by omega
    subst this
    exact ⟨Q0, hs0⟩
  · rintro i ⟨x3, x4, x5, h'⟩ hi ⟨L, en, qf, rb, e3, e4, e5, hie, G, cl, ag⟩
    dsimp only at e3 e4 e5 G ag
    subst e3; subst e4; subst e5
    show k_ok (fX0_seat_17 σ F (nI s0) (nI B) (nI L) (nI en) (nI i) h') _
    unfold fX0_seat_17
    have en8 : en ≤ 8 := by
      have := k_one_le (fun c => B.testBit c && !L.testBit c) 7
      have := G.2.1
      omega
    rw [fr5 T, fl6 T, k_ofN]
    rcases Nat.lt_or_ge i en with q | q
    · rw [if_neg (nI_ge q (by omega)), if_neg (nI_ge (by omega) (by decide)), q_gu_t (vp_in_nI (by omega) (by decide)), k_cl (by omega), (G.2.2.1 i q).1]
      have hsi := (G.2.2.1 i q).2
      -- the suit taken up is one of those allowed
      have Qi : ∀ {L en : Nat} {qf rb : Nat → Nat} {h' : q_Hp}, g_B (fun s b => Qb s && B.testBit b && (tk s).testBit b) so0 bo0 s0 B h' F L en qf rb → ∀ j, j < en → Qb (qf j) = true := by
        intro L en qf rb h' G j hj
        by_cases e : j = 0
        · subst e; rw [G.2.2.2.1]; exact hq0
        · have := G.2.2.2.2.2.2 j (by omega) hj
          rcases H.2 (qf j) (G.2.2.1 j hj).2 with q | ⟨q1, q2⟩
          · omega
          · rcases H.1 _ q1 with q | ⟨-, -, q3⟩
            · rw [q2] at q; have := (G.2.2.1 j hj).2; omega
            · rw [q2] at q3
              simp only [Bool.and_eq_true] at q3
              exact q3.1.1
      refine k_bind (k_for (n := 7) (P := fun o => (∃ h', o = .inr (.inr (.inr (1, h'))) ∧ ∃ so bo, k_FM h' F so bo ∧ g_MM (fun s b => Qb s && B.testBit b && (tk s).testBit b) so bo ∧ (∀ s, s < 8 → (bo s ≠ 9 ↔ bo0 s ≠ 9 ∨ s = s0)) ∧ (∀ c, c < 7 → so0 c ≠ 9 → Z (so0 c) = true → so c = so0 c) ∧ k_ag (fun a => a ≠ F + 5 ∧ a ≠ F + 6 ∧ a ≠ F + 7 ∧ a ≠ F + 8) h h') ∨ ∃ h' L en qf' rb, o = .inl (nI L, nI en, h') ∧ i < en ∧ qf' i = qf i ∧ g_B (fun s b => Qb s && B.testBit b && (tk s).testBit b) so0 bo0 s0 B h' F L en qf' rb ∧ (∀ j c, j < i + 1 → c < 7 → (Qb (qf' j) && B.testBit c && (tk (qf' j)).testBit c) = true → L.testBit c = false) ∧ k_ag (fun a => a ≠ F + 6 ∧ a ≠ F + 8) h h') (fun b s => ∃ L en qf' rb, s.1 = nI L ∧ s.2.1 = nI en ∧ s.2.2.1 = nI b ∧ i < en ∧ qf' i = qf i ∧ g_B (fun s b => Qb s && B.testBit b && (tk s).testBit b) so0 bo0 s0 B s.2.2.2 F L en qf' rb ∧ (∀ j c, j < i → c < 7 → (Qb (qf' j) && B.testBit c && (tk (qf' j)).testBit c) = true → L.testBit c = false) ∧ (∀ c, c < b → (Qb (qf' i) && B.testBit c && (tk (qf' i)).testBit c) = true → L.testBit c = false) ∧ k_ag (fun a => a ≠ F + 6 ∧ a ≠ F + 8) h s.2.2.2) (by rw [k_N]; omega) ⟨L, en, qf, rb, rfl, rfl, rfl, q, rfl, G, cl, fun c hc => absurd hc (Nat.not_lt_zero _), ag⟩ ?_) ?_
      · rintro b ⟨y3, y4, y7, h''⟩ hb7 ⟨L, en, qf', rb, e3, e4, e5, hie, eqi, G, cl, clb, ag⟩
        dsimp only at e3 e4 e5 G ag
        subst e3; subst e4; subst e5
        have en8 : en ≤ 8 := by
          have := k_one_le (fun c => B.testBit c && !L.testBit c) 7
          have := G.2.1
          omega
        have FMn : k_FM h'' F so0 bo0 := FM_ag M ag (by omega) (by omega)
        show k_ok (fX0_seat_46 σ F (nI s0) (nI B) (nI i) (nI (qf i)) (nI L) (nI en) (nI b) h'') _
        unfold fX0_seat_46
        rw [fr6 T, fr2 T, fr7 T, fr5 T, fl7 T, k_ofN]
        rcases Nat.lt_or_ge b 7 with qb | qb
        · have tki := htk (qf i) hsi
          have L31 : L < 2147483648 := by have := G.1.2; omega
          rw [if_neg (nI_ge qb (by decide)), c_at (fl3 T) hsi (by decide), k_bs1, k_agI ag (show F + 3 ≠ F + 6 ∧ F + 3 ≠ F + 8 by omega), tki.1, k_and, c_hasBit (by have := Nat.and_le_left (n := L) (m := tk (qf i)); omega) (by omega), k_bs1, k_01i, Nat.testBit_and]
          unfold fX0_seat_134
          cases eh : L.testBit b && (tk (qf i)).testBit b with
          | false =>
            rw [if_neg (by decide), nI_1]
            refine k_some ⟨qb, L, en, qf', rb, rfl, rfl, rfl, hie, eqi, G, cl, fun c hc hE => ?_, ag⟩
            by_cases e : c = b
            · subst e
              rw [eqi] at hE
              simp only [Bool.and_eq_true] at hE
              rw [hE.2, Bool.and_true] at eh
              exact eh
            · exact clb c (by omega) hE
          | true =>
            simp only [Bool.and_eq_true] at eh
            have Bb := G.1.1 b eh.1
            have Eb : (Qb (qf i) && B.testBit b && (tk (qf i)).testBit b) = true := by
              rw [← eqi, Qi G i hie, Bb, eqi, eh.2]; rfl
            rw [if_pos rfl, c_set (fl8 T) qb (by decide), k_bs1, q_gu_t (vp_in_nI qb (by decide)), k_cl (by omega), k_si_n (by omega), (FMn.1 b qb).1]
            have sb9 := (FMn.1 b qb).2
            simp only [k_eqL (show (9 : Int32) = nI 9 from rfl) (show so0 b < 2147483648 by omega) (show 9 < 2147483648 by decide)]
            have ag2 : k_ag (fun a => a ≠ F + 6 ∧ a ≠ F + 8) h (q_si h'' (F + 8) b (nI (qf i))) := k_ag_si ag (fun q => q.2 rfl)
            have rbk : ∀ j, 1 ≤ j → j < en → bo0 (qf' j) ≠ b := fun j h1 h2 e => by
              have := (G.2.2.2.2.2.2 j h1 h2).2.2.1
              rw [e, eh.1] at this; cases this
            by_cases e9 : so0 b = 9
            · rw [if_pos e9]
              refine k_bind (c_moveOn (E := fun s b => Qb s && B.testBit b && (tk s).testBit b) (Z := Z) (en := en) (qf := qf') (rb := g_st rb b (qf i)) (j0 := i) T (FM_ag FMn (P := fun a => a ≠ F + 8) (k_ag_si k_ag_rf (fun q => q rfl)) (by omega) (by omega)) H qb e9 hZ (fun j hj => (G.2.2.1 j hj).2) G.2.2.2.2.1 (by rw [G.2.2.2.1]; exact h9) en8 (fun j h1 h2 => ?_) hie (by rw [k_si_s, g_st_s]) (by rw [g_st_s, eqi]) (by rw [eqi]; exact Eb)) (fun h3 p => ?_)
              · obtain ⟨p1, -, -, p2, j', p3, p4, p5⟩ := G.2.2.2.2.2.2 j h1 h2
                have ne := rbk j h1 h2
                refine ⟨p1, by rw [k_si_j ne, g_st_n ne]; exact p2, j', p3, by rw [g_st_n ne]; exact p4, p5⟩
              · obtain ⟨so, bo, m1, m2, m3, m4, m5⟩ := p
                refine k_some (Or.inl ⟨h3, rfl, so, bo, m1, m2, fun s hs => by rw [← G.2.2.2.1]; exact m3 s hs, m4, ?_⟩)
                exact k_ag_tr (k_ag_mono ag2 (fun a ha => ⟨ha.2.1, ha.2.2.2⟩)) (k_ag_mono m5 (fun a ha => ⟨ha.1, ha.2.2.1⟩))
            · have sb8 : so0 b < 8 ∧ bo0 (so0 b) = b := by
                rcases H.1 b qb with q | ⟨q1, q2, -⟩
                · exact absurd q e9
                · exact ⟨q1, q2⟩
              have chg := k_one_ch (p := fun c => B.testBit c && !L.testBit c) (q := fun c => B.testBit c && !(k_dl L b).testBit c) (b := b) (by rw [eh.1]; simp) (by rw [k_dlT L31]; simp [Bb]) (fun c hc => by rw [k_dlT L31, show (c == b) = false from by simpa using hc]; simp) 7 qb
              have le7 := k_one_le (fun c => B.testBit c && !(k_dl L b).testBit c) 7
              have hen7 : en < 8 := by have := G.2.1; omega
              rw [if_neg e9, c_set (fl6 T) (by omega) (by decide), k_bs1, k_del (by omega), nI_1, nI_1]
              refine k_some ⟨qb, k_dl L b, en + 1, g_st qf' en (so0 b), g_st rb b (qf i), rfl, rfl, rfl, by omega, by rw [g_st_n (by omega)]; exact eqi, ⟨⟨fun c hc => ?_, k_dlB G.1.2⟩, ?_, fun j hj => ?_, ?_, fun a d ha hd e => ?_, fun c hc h1 h2 => ?_, fun j h1 h2 => ?_⟩, fun j c hj hc hE => ?_, fun c hc hE => ?_, k_ag_si ag2 (fun q => q.1 rfl)⟩
              · rw [k_dlT L31] at hc
                simp only [Bool.and_eq_true] at hc
                exact G.1.1 c hc.1
              · have := G.2.1; omega
              · show q_int (q_si (q_si h'' (F + 8) b (nI (qf i))) (F + 6) en (nI (so0 b))) (F + 6) j = _ ∧ _
                by_cases e : j = en
                · subst e; rw [k_si_s, g_st_s]; exact ⟨rfl, sb8.1⟩
                · rw [k_si_j e, g_st_n e, k_si_n (by omega)]; exact G.2.2.1 j (by omega)
              · rw [g_st_n (by have := G.2.1; omega)]; exact G.2.2.2.1
              · have new : ∀ j, j < en → qf' j ≠ so0 b := fun j hj e => by
                  by_cases e0 : j = 0
                  · subst e0
                    rw [G.2.2.2.1] at e
                    rw [← e, h9] at sb8
                    omega
                  · have := rbk j (by omega) hj
                    rw [e] at this
                    exact this sb8.2
                by_cases e1 : a = en <;> by_cases e2 : d = en
                · rw [e1, e2]
                · rw [e1, g_st_s, g_st_n e2] at e; exact absurd e.symm (new d (by omega))
                · rw [e2, g_st_s, g_st_n e1] at e; exact absurd e (new a (by omega))
                · rw [g_st_n e1, g_st_n e2] at e; exact G.2.2.2.2.1 a d (by omega) (by omega) e
              · by_cases e : c = b
                · subst e
                  exact ⟨e9, en, by omega, g_st_s⟩
                · rw [k_dlT L31, show (c == b) = false from by simpa using e] at h2
                  have h2' : L.testBit c = false := by simpa using h2
                  obtain ⟨f1, j, f2, f3⟩ := G.2.2.2.2.2.1 c hc h1 h2'
                  exact ⟨f1, j, by omega, by rw [g_st_n (by omega)]; exact f3⟩
              · show bo0 (g_st qf' en (so0 b) j) < 7 ∧ _ ∧ _ ∧ q_int (q_si (q_si h'' (F + 8) b (nI (qf i))) (F + 6) en (nI (so0 b))) (F + 8) _ = _ ∧ _
                by_cases e : j = en
                · subst e
                  rw [g_st_s, sb8.2]
                  refine ⟨qb, Bb, by rw [k_dlT L31]; simp, by rw [k_si_n (by omega), k_si_s, g_st_s], i, hie, by rw [g_st_s, g_st_n (by omega), eqi], ?_⟩
                  rw [g_st_n (by omega), eqi]; exact Eb
                · rw [g_st_n e]
                  obtain ⟨p1, p1b, p1c, p2, j', p3, p4, p5⟩ := G.2.2.2.2.2.2 j h1 (by omega)
                  have ne := rbk j h1 (by omega)
                  refine ⟨p1, p1b, by rw [k_dlT L31, p1c]; rfl, by rw [k_si_n (by omega), k_si_j ne, g_st_n ne]; exact p2, j', p3, by rw [g_st_n ne, g_st_n (by omega)]; exact p4, by rw [g_st_n (by omega)]; exact p5⟩
              · rw [g_st_n (by omega)] at hE
                rw [k_dlT L31, cl j c hj hc hE]; rfl
              · rw [g_st_n (by omega)] at hE
                rw [k_dlT L31]
                by_cases e : c = b
                · simp [e]
                · rw [clb c (by omega) hE]; rfl
        · have : b = 7 := by omega
          subst this
          rw [if_pos (nI_le (Nat.le_refl _) (by decide))]
          refine k_some (Or.inr ⟨h'', L, en, qf', rb, rfl, hie, eqi, G, fun j c hj hc hE => ?_, ag⟩)
          by_cases e : j = i
          · subst e; exact clb c hc hE
          · exact cl j c (by omega) hc hE
      · rintro o (⟨h3, rfl, p⟩ | ⟨h3, L, en, qf', rb, rfl, hie, eqi, G, cl, ag⟩)
        · exact k_some (Or.inl ⟨h3, rfl, p⟩)
        · rw [k_elL]
          dsimp only
          rw [nI_1]
          exact k_some ⟨by omega, L, en, qf', rb, rfl, rfl, rfl, by omega, G, cl, ag⟩
    · have : i = en := by omega
      subst this
      rw [if_pos (nI_le (Nat.le_refl _) (by omega))]
      exact k_some (Or.inr ⟨h', L, i, qf, rb, rfl, G, cl, ag⟩)
  · rintro o (⟨h3, rfl, p⟩ | ⟨h3, L, en, qf, rb, rfl, G, cl, ag⟩)
    · rw [k_elR]
      exact k_some (won p)
    · rw [k_elL]
      refine k_some ⟨so0, bo0, fun s => Z s || decide (∃ j, j < en ∧ qf j = s), FM_ag M ag (by omega) (by omega), ⟨H, fun s hs hn => by simp [hP s hs hn], fun s b hs hb hz he => ?_, fun s hs hp hn => ?_⟩, Or.inr ⟨rfl, fun _ _ => rfl⟩, k_ag_mono ag (fun a ha => ⟨ha.2.1, ha.2.2.2⟩)⟩
      · cases ez : Z s with
        | true =>
          obtain ⟨z1, z2⟩ := hZ s b hs hb ez he
          exact ⟨z1, by dsimp only; rw [z2]; rfl⟩
        | false =>
          dsimp only at hz
          rw [ez, Bool.false_or] at hz
          obtain ⟨j, hj, rfl⟩ := of_decide_eq_true hz
          have hl := cl j b hj hb he
          have hBb : B.testBit b = true := by
            simp only [Bool.and_eq_true] at he
            exact he.1.2
          obtain ⟨f1, j', f2, f3⟩ := G.2.2.2.2.2.1 b hb hBb hl
          refine ⟨f1, ?_⟩
          dsimp only
          rw [decide_eq_true ⟨j', f2, f3⟩, Bool.or_true]
      · by_cases e : s = s0
        · subst e
          have : decide (∃ j, j < en ∧ qf j = s) = true := decide_eq_true ⟨0, by have := G.2.1; omega, G.2.2.2.1⟩
          dsimp only
          rw [this, Bool.or_true]
        · have : P s = true := by simpa [e] using hp
          dsimp only
          rw [hD s hs this hn]; rfl
