/-! ready: the order of the hours (keys: 8 times the hour, and the suit) -/
def r_q (D : Nat → Bool) (T : Nat → Nat) (K : Nat) : Bool := D (K % 8) && (T (K % 8) == K / 8)
def r_H (q : Nat → Bool) (ch : Nat → Nat) (B K : Nat) : Nat := k_sm (fun k => if q k && B.testBit (k % 8) then ch (k % 8) else 0) K
def r_C (q : Nat → Bool) (B K : Nat) : Nat := k_one01 (fun k => q k && B.testBit (k % 8)) K
def r_fe (q : Nat → Bool) (ch : Nat → Nat) (B K : Nat) : Prop := ∀ k, k < K → q k = true → B.testBit (k % 8) = true → r_H q ch B (k + 1) ≤ k / 8
theorem k_sm8 (f : Nat → Nat) : ∀ n, k_sm f (8 * n) = k_sm (fun a => k_sm (fun s => f (8 * a + s)) 8) n
  | 0 => rfl
  | n + 1 => by
    rw [show 8 * (n + 1) = 8 * n + 8 by omega, k_smA, k_sm8 f n]; rfl
theorem r_reg {D : Nat → Bool} {T v : Nat → Nat} {g : Nat → Bool} (hT : ∀ s, s < 8 → T s < 100) : k_sm (fun k => if r_q D T k && g (k % 8) then v (k % 8) else 0) 800 = k_sm (fun s => if D s && g s then v s else 0) 8 := by
  rw [show 800 = 8 * 100 from rfl, k_sm8, g_sw]
  refine k_sm_cong (fun s hs => ?_)
  have e : ∀ a, a < 100 → (if r_q D T (8 * a + s) && g ((8 * a + s) % 8) then v ((8 * a + s) % 8) else 0) = if a = T s then (if D s && g s then v s else 0) else 0 := fun a _ => by
    unfold r_q
    rw [show (8 * a + s) % 8 = s by omega, show (8 * a + s) / 8 = a by omega]
    by_cases q : a = T s
    · rw [if_pos q, show (T s == a) = true by simpa using q.symm, Bool.and_true]
    · rw [if_neg q, show (T s == a) = false by simpa using fun e => q e.symm, Bool.and_false, Bool.false_and]; rfl
  rw [k_sm_cong e, g_sone, if_pos (hT s hs)]
theorem r_many {D : Nat → Bool} {T : Nat → Nat} (hT : ∀ s, s < 8 → T s < 100) (h7 : D 7 = false) : k_one01 (r_q D T) 800 ≤ 7 := by
  have := r_reg (D := D) (T := T) (v := fun _ => 1) (g := fun _ => true) hT
  simp only [Bool.and_true] at this
  have e : k_one01 (r_q D T) 800 = k_one01 D 8 := this
  rw [e, k_one_s, h7]
  exact k_one_le D 7
theorem r_next {q : Nat → Bool} : ∀ (n K : Nat), K + n = 800 → k_one01 q K < k_one01 q 800 → ∃ K', K ≤ K' ∧ K' < 800 ∧ q K' = true ∧ ∀ k, K ≤ k → k < K' → q k = false
  | 0, K, e, h => by
    rw [show K = 800 by omega] at h; omega
  | n + 1, K, e, h => by
    cases eq : q K with
    | true => exact ⟨K, Nat.le_refl _, by omega, eq, fun k h1 h2 => by omega⟩
    | false =>
      have : k_one01 q (K + 1) = k_one01 q K := by rw [k_one_s, eq]; rfl
      obtain ⟨K', h1, h2, h3, h4⟩ := r_next n (K + 1) (by omega) (by rw [this]; exact h)
      refine ⟨K', by omega, h2, h3, fun k k1 k2 => ?_⟩
      by_cases ek : k = K
      · rw [ek, eq]
      · exact h4 k (by omega) k2
theorem r_end {q : Nat → Bool} {K : Nat} (hK : K ≤ 800) (h : k_one01 q K = k_one01 q 800) : ∀ k, K ≤ k → k < 800 → q k = false := by
  intro k h1 h2
  cases e : q k with
  | false => rfl
  | true =>
    have a := k_one_mono q h1
    have b := k_one_mono q (show k + 1 ≤ 800 by omega)
    rw [k_one_s, e] at b
    simp at b
    omega
theorem r_H_no {q : Nat → Bool} {ch : Nat → Nat} {B K K' : Nat} (h : K ≤ K') (n : ∀ k, K ≤ k → k < K' → q k = false) : r_H q ch B K' = r_H q ch B K := g_sm_more h (fun k h1 h2 => by rw [n k h1 h2]; rfl)
theorem r_C_no {q : Nat → Bool} {B K K' : Nat} (h : K ≤ K') (n : ∀ k, K ≤ k → k < K' → q k = false) : r_C q B K' = r_C q B K := k_one_no h (fun k h1 h2 => by rw [n k h1 h2]; rfl)
theorem r_HB {q : Nat → Bool} {ch : Nat → Nat} {B K : Nat} (hc : ∀ s, ch s ≤ 13) : r_H q ch B K ≤ 13 * K := k_sm_le (fun k _ => by
  have := hc (k % 8)
  split <;> omega)
theorem c_order {σ : q_St} {h : q_Hp} {x A B : Nat} {z : k_Z} {T : Nat → Nat} {tl : Nat → Bool} (X : k_X σ x A B) (V : k_V σ h A z) (K : k_va z) (hB : ∀ s, s < 8 → T s < 100) (hT : ∀ s, s < 7 → q_int h (x + 54) s = if tl s then nI (T s) else -1) :
    k_ok (fX4_orderCleaning σ h x) (fun r => r.1 = nI (k_one01 (r_q (fun s => decide (s < z 0 0) && (z 5 s == 2) && tl s) T) 800) ∧ (∀ k, k < 800 → r_q (fun s => decide (s < z 0 0) && (z 5 s == 2) && tl s) T k = true → q_int r.2 (x + 55) (k_one01 (r_q (fun s => decide (s < z 0 0) && (z 5 s == 2) && tl s) T) k) = nI (k % 8)) ∧ k_ag (fun a => a ≠ x + 55) h r.2) := by
  have S := xA X
  have hAB := xAB X
  have n7 := va_ns K
  have h7 : (fun s => decide (s < z 0 0) && (z 5 s == 2) && tl s) 7 = false := by
    dsimp only
    rw [decide_eq_false (by omega)]; rfl
  have hm := r_many (D := fun s => decide (s < z 0 0) && (z 5 s == 2) && tl s) hB h7
  have hD : ∀ s, (fun s => decide (s < z 0 0) && (z 5 s == 2) && tl s) s = (decide (s < z 0 0) && (z 5 s == 2) && tl s) := fun s => rfl
  generalize hDe : (fun s => decide (s < z 0 0) && (z 5 s == 2) && tl s) = D at h7 hm hD ⊢
  unfold fX4_orderCleaning
  rw [xr0 X, xr10 X, xr11 X, sr3 S, q_gu_t ⟨S.1, xt54 X, st4 S, xt55 X⟩]
  refine k_bind (k_for (n := 100) (P := fun r => r.1 = nI (k_one01 (r_q D T) 800) ∧ (∀ k, k < 800 → r_q D T k = true → q_int r.2 (x + 55) (k_one01 (r_q D T) k) = nI (k % 8)) ∧ k_ag (fun a => a ≠ x + 55) h r.2) (fun i t => t.2.1 = nI i ∧ t.1 = nI (k_one01 (r_q D T) (8 * i)) ∧ (∀ k, k < 8 * i → r_q D T k = true → q_int t.2.2 (x + 55) (k_one01 (r_q D T) k) = nI (k % 8)) ∧ k_ag (fun a => a ≠ x + 55) h t.2.2) (by rw [k_N]; omega) ⟨rfl, rfl, fun k hk => absurd hk (Nat.not_lt_zero _), k_ag_rf⟩ ?_) (fun o p => by
    obtain ⟨o1, o2⟩ := o
    exact k_some p)
  rintro i ⟨x1, x2, h'⟩ hi ⟨e2, e1, hc, ag⟩
  dsimp only at e2 e1 hc ag
  subst e2; subst e1
  show k_ok (fX4_orderCleaning_4 σ x (nI (k_one01 (r_q D T) (8 * i))) (nI i) h') _
  unfold fX4_orderCleaning_4
  rcases Nat.lt_or_ge i 100 with q | q
  · rw [if_neg (k_nlL (n := 99) (l := 99) rfl (by omega) (by decide))]
    refine k_bind (k_for (n := z 0 0) (P := fun r => r.1 = nI (k_one01 (r_q D T) (8 * (i + 1))) ∧ (∀ k, k < 8 * (i + 1) → r_q D T k = true → q_int r.2 (x + 55) (k_one01 (r_q D T) k) = nI (k % 8)) ∧ k_ag (fun a => a ≠ x + 55) h r.2) (fun s t => t.2.1 = nI s ∧ t.1 = nI (k_one01 (r_q D T) (8 * i + s)) ∧ (∀ k, k < 8 * i + s → r_q D T k = true → q_int t.2.2 (x + 55) (k_one01 (r_q D T) k) = nI (k % 8)) ∧ k_ag (fun a => a ≠ x + 55) h t.2.2) (by rw [k_N]; omega) ⟨rfl, rfl, hc, ag⟩ ?_) (fun o p => ?_)
    · rintro s ⟨x1, x3, h2⟩ hs ⟨e3, e1, hd, ag2⟩
      dsimp only at e3 e1 hd ag2
      subst e3; subst e1
      show k_ok (fX4_orderCleaning_12 σ x (nI i) (nI (k_one01 (r_q D T) (8 * i + s))) (nI s) h2) _
      unfold fX4_orderCleaning_12 fX4_orderCleaning_62
      rw [xr0 X, xr10 X, xr11 X, sr3 S, k_agI ag2 (show A ≠ x + 55 by omega), v_ns V]
      have qE : r_q D T (8 * i + s) = (D s && (T s == i)) ∨ 8 ≤ s := by
        by_cases h8 : 8 ≤ s
        · exact Or.inr h8
        · left
          unfold r_q
          rw [show (8 * i + s) % 8 = s by omega, show (8 * i + s) / 8 = i by omega]
      rcases Nat.lt_or_ge s (z 0 0) with q2 | q2
      · have qE' : r_q D T (8 * i + s) = (D s && (T s == i)) := qE.resolve_right (by omega)
        have st := va_st K q2
        have tB := hB s (by omega)
        have skip : r_q D T (8 * i + s) = false → k_ok (some (Sum.inl (nI (k_one01 (r_q D T) (8 * i + s)), nI s + 1, h2)) : Option ((Int32 × Int32 × q_Hp) ⊕ (Int32 × q_Hp))) (k_z (fun t => s < z 0 0 ∧ t.2.1 = nI (s + 1) ∧ t.1 = nI (k_one01 (r_q D T) (8 * i + (s + 1))) ∧ (∀ k, k < 8 * i + (s + 1) → r_q D T k = true → q_int t.2.2 (x + 55) (k_one01 (r_q D T) k) = nI (k % 8)) ∧ k_ag (fun a => a ≠ x + 55) h t.2.2) (fun r => r.1 = nI (k_one01 (r_q D T) (8 * (i + 1))) ∧ (∀ k, k < 8 * (i + 1) → r_q D T k = true → q_int r.2 (x + 55) (k_one01 (r_q D T) k) = nI (k % 8)) ∧ k_ag (fun a => a ≠ x + 55) h r.2)) := fun e => by
          rw [nI_1]
          refine k_some ⟨q2, rfl, ?_, fun k hk hq => ?_, ag2⟩
          · dsimp only
            rw [show 8 * i + (s + 1) = (8 * i + s) + 1 by omega, k_one_s, e]; rfl
          · by_cases ek : k = 8 * i + s
            · rw [ek, e] at hq; cases hq
            · exact hd k (by omega) hq
        rw [if_neg (nI_ge q2 (by omega)), c_at (xl54 X) (show s < 7 by omega) (by decide), k_bs1, k_agI ag2 (show x + 54 ≠ x + 55 by omega), hT s (by omega), c_at (sl4 S) (show s < 7 by omega) (by decide), k_bs1, k_agI ag2 (show A + 4 ≠ x + 55 by omega), v5 V q2]
        have dE := hD s
        rw [decide_eq_true q2, Bool.true_and] at dE
        cases et : tl s with
        | false =>
          rw [et, Bool.and_false] at dE
          rw [if_neg (show ¬ false = true by decide), if_neg (fun q => by
            have := congrArg Int32.toInt q
            rw [nI_toInt (by omega), show (-1 : Int32).toInt = -1 by decide] at this
            omega)]
          exact skip (by rw [qE', dE]; rfl)
        | true =>
          rw [et, Bool.and_true] at dE
          rw [if_pos rfl]
          simp only [k_eqL rfl (show T s < 2147483648 by omega) (show i < 2147483648 by omega), k_eqL (show (2 : Int32) = nI 2 from rfl) (show z 5 s < 2147483648 by omega) (show 2 < 2147483648 by decide)]
          by_cases e1 : T s = i
          · rw [if_pos e1]
            by_cases e2 : z 5 s = 2
            · rw [if_pos e2]
              have hq : r_q D T (8 * i + s) = true := by rw [qE', dE, e2, e1]; simp
              have lt : k_one01 (r_q D T) (8 * i + s) < 7 := by
                have := k_one_mono (r_q D T) (show 8 * i + s + 1 ≤ 800 by omega)
                rw [k_one_s, hq] at this
                simp at this
                omega
              rw [c_set (xl55 X) lt (by decide), k_bs1, nI_1, nI_1]
              refine k_some ⟨q2, rfl, ?_, fun k hk hqk => ?_, k_ag_si ag2 (fun q => q rfl)⟩
              · dsimp only
                rw [show 8 * i + (s + 1) = (8 * i + s) + 1 by omega, k_one_s, hq]; rfl
              · dsimp only
                by_cases ek : k = 8 * i + s
                · subst ek
                  rw [k_si_s, show (8 * i + s) % 8 = s by omega]
                · have m1 := k_one_mono (r_q D T) (show k + 1 ≤ 8 * i + s by omega)
                  rw [k_one_s, hqk] at m1
                  simp at m1
                  rw [k_si_j (by omega)]; exact hd k (by omega) hqk
            · rw [if_neg e2]
              exact skip (by rw [qE', dE]; simp [e2])
          · rw [if_neg e1]
            exact skip (by rw [qE']; simp [e1])
      · have : s = z 0 0 := by omega
        subst this
        rw [if_pos (nI_le (Nat.le_refl _) (by omega))]
        have no : ∀ k, 8 * i + z 0 0 ≤ k → k < 8 * (i + 1) → r_q D T k = false := fun k h1 h2 => by
          unfold r_q
          rw [hD, decide_eq_false (show ¬ k % 8 < z 0 0 by omega)]; rfl
        refine k_some ⟨?_, fun k hk hq => ?_, ag2⟩
        · dsimp only
          rw [k_one_no (a := 8 * i + z 0 0) (b := 8 * (i + 1)) (by omega) no]
        · rcases Nat.lt_or_ge k (8 * i + z 0 0) with l | l
          · exact hd k l hq
          · rw [no k l hk] at hq; cases hq
    · obtain ⟨o1, o2⟩ := o
      rw [nI_1]
      exact k_some ⟨q, rfl, p.1, p.2.1, p.2.2⟩
  · have : i = 100 := by omega
    subst this
    rw [if_pos (k_ltL (n := 99) (l := 99) rfl (by decide) (by decide))]
    exact k_some ⟨rfl, hc, ag⟩
