/-! ready: in time, the most, the first -/
def r_P (D : Nat → Bool) (q : Nat → Bool) (ch : Nat → Nat) (B : Nat) : Prop := (∀ s, s < 8 → B.testBit s = true → D s = true) ∧ r_fe q ch B 800
noncomputable def r_best (P : Nat → Prop) : Nat → Nat
  | 0 => 0
  | n + 1 => @ite Nat (k_pc (r_best P n) < k_pc n ∧ P n) (Classical.propDecidable _) n (r_best P n)
theorem r_bestB (P : Nat → Prop) : ∀ n, r_best P n ≤ n - 1
  | 0 => Nat.le_refl _
  | n + 1 => by
    have := r_bestB P n
    unfold r_best
    split <;> omega
theorem r_best_P {P : Nat → Prop} : ∀ n, r_best P n = 0 ∨ P (r_best P n)
  | 0 => Or.inl rfl
  | n + 1 => by
    unfold r_best
    split
    · next h => exact Or.inr h.2
    · exact r_best_P n
theorem r_cnt {D : Nat → Bool} {T : Nat → Nat} {B : Nat} (hT : ∀ s, s < 8 → T s < 100) : r_C (r_q D T) B 800 = k_sm (fun s => if D s && B.testBit s then 1 else 0) 8 := r_reg (v := fun _ => 1) (g := fun s => B.testBit s) hT
theorem k_pcS8 (B : Nat) : k_pc B = k_sm (fun s => if B.testBit s then 1 else 0) 8 := by
  have t : ∀ b : Bool, b.toNat = if b then 1 else 0 := by decide
  unfold k_pc
  rw [t, t, t, t, t, t, t, t]
  show _ = 0 + _ + _ + _ + _ + _ + _ + _ + _
  rw [Nat.zero_add]
theorem r_all {D : Nat → Bool} {B : Nat} : k_sm (fun s => if D s && B.testBit s then 1 else 0) 8 = k_pc B ↔ ∀ s, s < 8 → B.testBit s = true → D s = true := by
  rw [k_pcS8]
  have key : ∀ n, k_sm (fun s => if D s && B.testBit s then 1 else 0) n ≤ k_sm (fun s => if B.testBit s then 1 else 0) n ∧ (k_sm (fun s => if D s && B.testBit s then 1 else 0) n = k_sm (fun s => if B.testBit s then 1 else 0) n ↔ ∀ s, s < n → B.testBit s = true → D s = true) := by
    intro n
    induction n with
    | zero => exact ⟨Nat.le_refl _, ⟨fun _ s hs => absurd hs (Nat.not_lt_zero _), fun _ => rfl⟩⟩
    | succ n ih =>
      obtain ⟨i1, i2⟩ := ih
      have e1 : k_sm (fun s => if D s && B.testBit s then 1 else 0) (n + 1) = k_sm (fun s => if D s && B.testBit s then 1 else 0) n + (if D n && B.testBit n then 1 else 0) := rfl
      have e2 : k_sm (fun s => if B.testBit s then 1 else 0) (n + 1) = k_sm (fun s => if B.testBit s then 1 else 0) n + (if B.testBit n then 1 else 0) := rfl
      rw [e1, e2]
      cases hb : B.testBit n with
      | false =>
        rw [Bool.and_false, if_neg (by decide), Nat.add_zero, Nat.add_zero]
        refine ⟨i1, i2.trans ⟨fun h s hs hbs => ?_, fun h s hs hbs => h s (by omega) hbs⟩⟩
        by_cases e : s = n
        · rw [e, hb] at hbs; cases hbs
        · exact h s (by omega) hbs
      | true =>
        cases hd : D n with
        | true =>
          rw [Bool.and_true, if_pos rfl]
          refine ⟨by omega, ⟨fun h s hs hbs => ?_, fun h => ?_⟩⟩
          · by_cases e : s = n
            · rw [e, hd]
            · exact i2.mp (by omega) s (by omega) hbs
          · rw [i2.mpr (fun s hs hbs => h s (by omega) hbs)]
        | false =>
          rw [Bool.false_and, if_neg (by decide), if_pos rfl]
          refine ⟨by omega, ⟨fun h => by omega, fun h => ?_⟩⟩
          have := h n (by omega) hb
          rw [hd] at this; cases this
  exact (key 8).2
def r_ch (z : k_Z) (s : Nat) : Nat := if s < z 0 0 then k_ch (z 1 s) (z 2 s) else 0
theorem r_chB {z : k_Z} (K : k_va z) (s : Nat) : r_ch z s ≤ 13 := by
  unfold r_ch
  split
  · next h => exact k_chB _ (va_k K h) _ (va_f K h)
  · omega
theorem c_inTime {σ : q_St} {h : q_Hp} {x A Bo B : Nat} {z : k_Z} {T : Nat → Nat} {D : Nat → Bool} (X : k_X σ x A Bo) (V : k_V σ h A z) (K : k_va z) (hB : ∀ s, s < 8 → T s < 100) (hDn : ∀ s, D s = true → s < z 0 0) (hT : ∀ s, D s = true → q_int h (x + 54) s = nI (T s)) (hO : ∀ k, k < 800 → r_q D T k = true → q_int h (x + 55) (k_one01 (r_q D T) k) = nI (k % 8)) (hb : B < 256) (b7 : D 7 = false) :
    k_ok (fX4_inTime σ h x (nI B) (nI (k_one01 (r_q D T) 800))) (fun r => (r = 1 ∧ r_P D (r_q D T) (r_ch z) B) ∨ (r = 0 ∧ ¬ r_P D (r_q D T) (r_ch z) B)) := by
  have hm := r_many hB b7
  have n7 := va_ns K
  have pB := k_pcB B
  have HB : ∀ k, k ≤ 800 → r_H (r_q D T) (r_ch z) B k ≤ 10400 := fun k hk => Nat.le_trans (r_HB (r_chB K)) (by omega)
  have CB : ∀ k, k ≤ 800 → r_C (r_q D T) B k ≤ 800 := fun k hk => Nat.le_trans (k_one_le _ _) hk
  unfold fX4_inTime
  rw [xr0 X, xr10 X, xr11 X, q_gu_t ⟨xt55 X, (xA X).1, xt54 X⟩]
  refine k_bind (P := k_z (fun w => w = nI (r_C (r_q D T) B 800) ∧ r_fe (r_q D T) (r_ch z) B 800) (fun r => r = 0 ∧ ¬ r_fe (r_q D T) (r_ch z) B 800)) (k_for (n := k_one01 (r_q D T) 800) (fun i t => t.2.2 = nI i ∧ ∃ k, k ≤ 800 ∧ k_one01 (r_q D T) k = i ∧ t.1 = nI (r_H (r_q D T) (r_ch z) B k) ∧ t.2.1 = nI (r_C (r_q D T) B k) ∧ r_fe (r_q D T) (r_ch z) B k) (by rw [k_N]; omega) ⟨rfl, 0, by omega, rfl, rfl, rfl, fun k hk => absurd hk (Nat.not_lt_zero _)⟩ ?_) (fun o p => ?_)
  · rintro i ⟨x3, x4, x5⟩ hi ⟨e5, k, hk, ek, e3, e4, fe⟩
    dsimp only at e5 e3 e4
    subst e5; subst e3; subst e4
    show k_ok (fX4_inTime_8 σ h x (nI B) (nI (k_one01 (r_q D T) 800)) (nI (r_H (r_q D T) (r_ch z) B k)) (nI (r_C (r_q D T) B k)) (nI i)) _
    unfold fX4_inTime_8 fX4_inTime_67
    rw [xr0 X, xr10 X, xr11 X]
    rcases Nat.lt_or_ge i (k_one01 (r_q D T) 800) with q | q
    · obtain ⟨k', k1, k2, k3, k4⟩ := r_next (q := r_q D T) (800 - k) k (by omega) (by omega)
      have o' : k_one01 (r_q D T) k' = i := by rw [k_one_no k1 k4, ek]
      have o2 : k_one01 (r_q D T) (k' + 1) = i + 1 := by rw [k_one_s, k3, o']; rfl
      have H' := r_H_no (ch := r_ch z) (B := B) k1 k4
      have C' := r_C_no (B := B) k1 k4
      have Hs : r_H (r_q D T) (r_ch z) B (k' + 1) = r_H (r_q D T) (r_ch z) B k' + (if r_q D T k' && B.testBit (k' % 8) then r_ch z (k' % 8) else 0) := rfl
      have Cs : r_C (r_q D T) B (k' + 1) = r_C (r_q D T) B k' + (if r_q D T k' && B.testBit (k' % 8) then 1 else 0) := rfl
      rw [k3, Bool.true_and, H'] at Hs
      rw [k3, Bool.true_and, C'] at Cs
      have oc := hO k' k2 k3
      rw [o'] at oc
      have dt : D (k' % 8) = true ∧ T (k' % 8) = k' / 8 := by
        unfold r_q at k3
        simp only [Bool.and_eq_true, beq_iff_eq] at k3
        exact k3
      have sn := hDn _ dt.1
      have fe' : (B.testBit (k' % 8) = true → r_H (r_q D T) (r_ch z) B (k' + 1) ≤ k' / 8) → r_fe (r_q D T) (r_ch z) B (k' + 1) := fun h1 l hl hq hbt => by
        by_cases el : l = k'
        · subst el; exact h1 hbt
        · by_cases l2 : l < k
          · exact fe l l2 hq hbt
          · rw [k4 l (by omega) (by omega)] at hq; cases hq
      rw [if_neg (nI_ge q (by omega)), c_at (xl55 X) (show i < 7 by omega) (by decide), k_bs1, oc, c_hasBit (by omega) (by omega), k_bs1, k_01i]
      simp only [nI_1]
      cases eb : B.testBit (k' % 8) with
      | false =>
        rw [eb, if_neg (by decide)] at Hs Cs
        rw [if_neg (by decide)]
        exact k_some ⟨q, rfl, k' + 1, by omega, o2, by rw [Hs]; rfl, by rw [Cs]; rfl, fe' (fun h => by rw [eb] at h; cases h)⟩
      | true =>
        rw [eb, if_pos rfl] at Hs Cs
        have ce : r_ch z (k' % 8) = k_ch (z 1 (k' % 8)) (z 2 (k' % 8)) := if_pos sn
        have hb1 := HB (k' + 1) (by omega)
        rw [if_pos rfl, c_kindOf V K sn, k_bs1, q_gu_t (sut (v_su V sn)), su4 (v_su V sn), c_at (xl54 X) (show k' % 8 < 7 by omega) (by decide), k_bs1, hT _ dt.1, dt.2, nI_add, ← ce, ← Hs, ← Cs]
        simp only [k_le2 rfl (show r_H (r_q D T) (r_ch z) B (k' + 1) < 2147483648 by omega) (show k' / 8 < 2147483648 by omega)]
        by_cases le : r_H (r_q D T) (r_ch z) B (k' + 1) ≤ k' / 8
        · rw [if_pos le]
          exact k_some ⟨q, rfl, k' + 1, by omega, o2, rfl, rfl, fe' (fun _ => le)⟩
        · rw [if_neg le]
          exact k_some ⟨rfl, fun f => le (f k' k2 k3 eb)⟩
    · have ei : i = k_one01 (r_q D T) 800 := by omega
      have en := r_end hk (ek.trans ei)
      rw [if_pos (nI_le q (by omega))]
      refine k_some ⟨by rw [r_C_no hk en], fun l hl hq hbt => ?_⟩
      by_cases l2 : l < k
      · exact fe l l2 hq hbt
      · rw [en l (by omega) hl] at hq; cases hq
  · cases o with
    | inl w =>
      obtain ⟨e, fe⟩ := p
      subst e
      have CB8 := CB 800 (Nat.le_refl _)
      rw [k_elL, c_bits B hb, k_bs1]
      simp only [k_eqL rfl (show r_C (r_q D T) B 800 < 2147483648 by omega) (show k_pc B < 2147483648 by omega)]
      have iff : r_C (r_q D T) B 800 = k_pc B ↔ ∀ s, s < 8 → B.testBit s = true → D s = true := by rw [r_cnt hB]; exact r_all
      by_cases e : r_C (r_q D T) B 800 = k_pc B
      · rw [if_pos e]; exact k_some (Or.inl ⟨rfl, iff.mp e, fe⟩)
      · rw [if_neg e]; exact k_some (Or.inr ⟨rfl, fun P => e (iff.mpr P.1)⟩)
    | inr r =>
      obtain ⟨e, nf⟩ := p
      rw [k_elR]
      exact k_some (Or.inr ⟨e, fun P => nf P.2⟩)
theorem c_mostReady {σ : q_St} {h : q_Hp} {x A Bo : Nat} {z : k_Z} {T : Nat → Nat} {D : Nat → Bool} (X : k_X σ x A Bo) (V : k_V σ h A z) (K : k_va z) (hB : ∀ s, s < 8 → T s < 100) (hDn : ∀ s, D s = true → s < z 0 0) (hT : ∀ s, D s = true → q_int h (x + 54) s = nI (T s)) (hO : ∀ k, k < 800 → r_q D T k = true → q_int h (x + 55) (k_one01 (r_q D T) k) = nI (k % 8)) (b7 : D 7 = false) :
    fX4_mostReady σ h x (nI (k_one01 (r_q D T) 800)) = some (nI (r_best (r_P D (r_q D T) (r_ch z)) 128)) := by
  unfold fX4_mostReady
  refine k_eq (k_bind (P := fun r => r = nI (r_best (r_P D (r_q D T) (r_ch z)) 128)) (k_for (n := 127) (fun i t => t.2 = nI (i + 1) ∧ t.1 = nI (r_best (r_P D (r_q D T) (r_ch z)) (i + 1))) (by rw [k_N]; omega) ⟨rfl, ?_⟩ ?_) (fun r p => k_some p))
  · show (0 : Int32) = nI (r_best _ 1)
    unfold r_best
    rw [if_neg (fun q => absurd q.1 (by show ¬ k_pc 0 < k_pc 0; omega))]; rfl
  · rintro i ⟨x2, x3⟩ hi ⟨e3, e2⟩
    dsimp only at e3 e2
    subst e3; subst e2
    have bB := r_bestB (r_P D (r_q D T) (r_ch z)) (i + 1)
    show k_ok (fX4_mostReady_4 σ h x (nI (k_one01 (r_q D T) 800)) (nI (r_best (r_P D (r_q D T) (r_ch z)) (i + 1))) (nI (i + 1))) _
    unfold fX4_mostReady_4 fX4_mostReady_33
    rcases Nat.lt_or_ge i 127 with q | q
    · have p1 := k_pcB (i + 1)
      have p2 := k_pcB (r_best (r_P D (r_q D T) (r_ch z)) (i + 1))
      have stpT : (k_pc (r_best (r_P D (r_q D T) (r_ch z)) (i + 1)) < k_pc (i + 1) ∧ r_P D (r_q D T) (r_ch z) (i + 1)) → i + 1 = r_best (r_P D (r_q D T) (r_ch z)) (i + 1 + 1) := fun c => by
        conv => rhs; unfold r_best
        rw [if_pos c]
      have stpF : ¬ (k_pc (r_best (r_P D (r_q D T) (r_ch z)) (i + 1)) < k_pc (i + 1) ∧ r_P D (r_q D T) (r_ch z) (i + 1)) → r_best (r_P D (r_q D T) (r_ch z)) (i + 1) = r_best (r_P D (r_q D T) (r_ch z)) (i + 1 + 1) := fun c => by
        conv => rhs; unfold r_best
        rw [if_neg c]
      rw [if_neg (k_geL (n := 128) (l := 128) rfl (by omega) (by decide)), c_bits _ (by omega), k_bs1, c_bits _ (by omega), k_bs1, nI_1]
      simp only [k_le2 rfl (show k_pc (i + 1) < 2147483648 by omega) (show k_pc (r_best (r_P D (r_q D T) (r_ch z)) (i + 1)) < 2147483648 by omega)]
      by_cases le : k_pc (i + 1) ≤ k_pc (r_best (r_P D (r_q D T) (r_ch z)) (i + 1))
      · rw [if_pos le]
        exact k_some ⟨q, rfl, congrArg nI (stpF (fun c => by omega))⟩
      · rw [if_neg le]
        refine k_bind (c_inTime (B := i + 1) X V K hB hDn hT hO (by omega) b7) (fun r p => ?_)
        rcases p with ⟨e, P⟩ | ⟨e, P⟩
        · subst e
          rw [if_neg (by decide)]
          exact k_some ⟨q, rfl, congrArg nI (stpT ⟨by omega, P⟩)⟩
        · subst e
          rw [if_pos rfl]
          exact k_some ⟨q, rfl, congrArg nI (stpF (fun c => P c.2))⟩
    · have : i = 127 := by omega
      subst this
      rw [if_pos (k_leL (n := 128) (l := 128) rfl (by decide) (by decide))]
      exact k_some rfl
def r_first (q : Nat → Bool) (B : Nat) : Int32 := p_fst (fun k => q k && B.testBit (k % 8)) (fun k => nI (k % 8)) 800
theorem c_firstCleaned {σ : q_St} {h : q_Hp} {x A Bo B : Nat} {T : Nat → Nat} {D : Nat → Bool} (X : k_X σ x A Bo) (hB : ∀ s, s < 8 → T s < 100) (hO : ∀ k, k < 800 → r_q D T k = true → q_int h (x + 55) (k_one01 (r_q D T) k) = nI (k % 8)) (hb : B < 256) (b7 : D 7 = false) : fX4_firstCleaned σ h x (nI B) (nI (k_one01 (r_q D T) 800)) = some (r_first (r_q D T) B) := by
  have hm := r_many hB b7
  unfold fX4_firstCleaned
  rw [xr11 X, q_gu_t (xt55 X)]
  refine k_eq (k_bind (P := k_z (fun _ => ∀ k, k < 800 → (r_q D T k && B.testBit (k % 8)) = false) (fun r => ∃ k, k < 800 ∧ (r_q D T k && B.testBit (k % 8)) = true ∧ r = nI (k % 8) ∧ ∀ l, l < k → (r_q D T l && B.testBit (l % 8)) = false)) (k_for (n := k_one01 (r_q D T) 800) (fun i t => t = nI i ∧ ∃ k, k ≤ 800 ∧ k_one01 (r_q D T) k = i ∧ ∀ l, l < k → (r_q D T l && B.testBit (l % 8)) = false) (by rw [k_N]; omega) ⟨rfl, 0, by omega, rfl, fun l hl => absurd hl (Nat.not_lt_zero _)⟩ ?_) (fun o p => ?_))
  · rintro i t hi ⟨e, k, hk, ek, no⟩
    subst e
    show k_ok (fX4_firstCleaned_2 σ h x (nI B) (nI (k_one01 (r_q D T) 800)) (nI i)) _
    unfold fX4_firstCleaned_2
    rw [xr11 X]
    rcases Nat.lt_or_ge i (k_one01 (r_q D T) 800) with q | q
    · obtain ⟨k', k1, k2, k3, k4⟩ := r_next (q := r_q D T) (800 - k) k (by omega) (by omega)
      have o' : k_one01 (r_q D T) k' = i := by rw [k_one_no k1 k4, ek]
      have o2 : k_one01 (r_q D T) (k' + 1) = i + 1 := by rw [k_one_s, k3, o']; rfl
      have oc := hO k' k2 k3
      rw [o'] at oc
      have no' : ∀ l, l < k' → (r_q D T l && B.testBit (l % 8)) = false := fun l hl => by
        by_cases l2 : l < k
        · exact no l l2
        · rw [k4 l (by omega) hl]; rfl
      rw [if_neg (nI_ge q (by omega)), c_at (xl55 X) (show i < 7 by omega) (by decide), k_bs1, oc, c_hasBit (by omega) (by omega), k_bs1, k_01i, k_bs1, nI_1]
      cases eb : B.testBit (k' % 8) with
      | false =>
        rw [if_neg (by decide)]
        refine k_some ⟨q, rfl, k' + 1, by omega, o2, fun l hl => ?_⟩
        by_cases el : l = k'
        · rw [el, eb, Bool.and_false]
        · exact no' l (by omega)
      | true =>
        rw [if_pos rfl]
        exact k_some ⟨k', k2, by rw [k3, eb]; rfl, rfl, no'⟩
    · have ei : i = k_one01 (r_q D T) 800 := by omega
      have en := r_end hk (ek.trans ei)
      rw [if_pos (nI_le q (by omega))]
      refine k_some (fun l hl => ?_)
      by_cases l2 : l < k
      · exact no l l2
      · rw [en l (by omega) hl]; rfl
  · unfold r_first
    cases o with
    | inl u =>
      rw [k_elL]
      exact k_some (k_fst_u (Or.inl ⟨rfl, fun k _ hk => p k hk⟩) p_fstE)
    | inr r =>
      obtain ⟨k, hk, hq, e, no⟩ := p
      rw [k_elR]
      exact k_some (k_fst_u (Or.inr ⟨k, Nat.zero_le _, hk, hq, e, fun l _ hl => no l hl⟩) p_fstE)
