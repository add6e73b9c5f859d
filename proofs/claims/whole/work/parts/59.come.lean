/-! come -/
def k_wp (z : k_Z) (t : Nat) : Nat → Nat
  | 0 => 1
  | n + 1 => k_wp z t n * (if t.testBit n then 10 - z 10 n else z 10 n)
def k_wy (z : k_Z) : Nat → Nat → Nat
  | 0, i => if i = 0 then 1 else 0
  | n + 1, i => k_wy z n i * z 10 n + (if i = 0 then 0 else k_wy z n (i - 1)) * (10 - z 10 n)
theorem k_wpB {z : k_Z} (t : Nat) : ∀ n, (∀ b, b < n → z 10 b ≤ 9) → k_wp z t n ≤ 10 ^ n
  | 0, _ => Nat.le_refl _
  | n + 1, h => by
    rw [Nat.pow_succ]
    refine Nat.mul_le_mul (k_wpB t n (fun b hb => h b (by omega))) ?_
    have := h n (by omega)
    split <;> omega
theorem k_wyB {z : k_Z} : ∀ n i, (∀ b, b < n → z 10 b ≤ 9) → k_wy z n i ≤ 10 ^ n
  | 0, i, _ => by unfold k_wy; split <;> decide
  | n + 1, i, h => by
    have h9 := h n (by omega)
    have i1 := k_wyB n i (fun b hb => h b (by omega))
    have i2 : (if i = 0 then 0 else k_wy z n (i - 1)) ≤ 10 ^ n := by
      split
      · exact Nat.zero_le _
      · exact k_wyB n (i - 1) (fun b hb => h b (by omega))
    rw [Nat.pow_succ]
    unfold k_wy
    have a := Nat.mul_le_mul_right (z 10 n) i1
    have b := Nat.mul_le_mul_right (10 - z 10 n) i2
    have c : 10 ^ n * z 10 n + 10 ^ n * (10 - z 10 n) = 10 ^ n * 10 := by rw [← Nat.mul_add]; congr 1; omega
    omega
theorem k_smA (f : Nat → Nat) (n : Nat) : ∀ m, k_sm f (n + m) = k_sm f n + k_sm (fun t => f (n + t)) m
  | 0 => rfl
  | m + 1 => by
    show k_sm f (n + m) + f (n + m) = k_sm f n + (k_sm (fun t => f (n + t)) m + f (n + m))
    rw [k_smA f n m]; omega
theorem k_smM (f : Nat → Nat) (c : Nat) : ∀ n, k_sm (fun t => f t * c) n = k_sm f n * c
  | 0 => by show 0 = 0 * c; omega
  | n + 1 => by
    show k_sm (fun t => f t * c) n + f n * c = (k_sm f n + f n) * c
    rw [k_smM f c n, Nat.add_mul]
set_option maxRecDepth 100000 in
theorem k_pcN : ∀ n, n < 7 → ∀ t, t < 2 ^ n → k_pc (2 ^ n + t) = k_pc t + 1 := by decide +kernel
theorem k_wpL {z : k_Z} {n t : Nat} (ht : t < 2 ^ n) : ∀ k, k ≤ n → k_wp z (2 ^ n + t) k = k_wp z t k
  | 0, _ => rfl
  | k + 1, h => by
    unfold k_wp
    rw [k_wpL ht k (by omega), Nat.testBit_two_pow_add_gt (by omega)]
theorem k_wA {z : k_Z} : ∀ n i, n ≤ 7 → k_sm (fun t => if i = k_pc t then k_wp z t n else 0) (2 ^ n) = k_wy z n i
  | 0, i, _ => by
    show 0 + (if i = k_pc 0 then 1 else 0) = if i = 0 then 1 else 0
    rw [show k_pc 0 = 0 from rfl, Nat.zero_add]
  | n + 1, i, h => by
    rw [show 2 ^ (n + 1) = 2 ^ n + 2 ^ n by rw [Nat.pow_succ]; omega, k_smA]
    have e1 : k_sm (fun t => if i = k_pc t then k_wp z t (n + 1) else 0) (2 ^ n) = k_sm (fun t => (if i = k_pc t then k_wp z t n else 0) * z 10 n) (2 ^ n) := k_sm_cong (fun t ht => by
      have hb : t.testBit n = false := Nat.testBit_lt_two_pow ht
      have stp : k_wp z t (n + 1) = k_wp z t n * (if t.testBit n then 10 - z 10 n else z 10 n) := rfl
      rw [hb, if_neg (show ¬ false = true by decide)] at stp
      rw [stp]
      split
      · rfl
      · rw [Nat.zero_mul])
    have e2 : k_sm (fun t => (fun t => if i = k_pc t then k_wp z t (n + 1) else 0) (2 ^ n + t)) (2 ^ n) = k_sm (fun t => (if i = k_pc t + 1 then k_wp z t n else 0) * (10 - z 10 n)) (2 ^ n) := k_sm_cong (fun t ht => by
      have hb : (2 ^ n + t).testBit n = true := by rw [Nat.testBit_two_pow_add_eq, Nat.testBit_lt_two_pow ht]; rfl
      have stp : k_wp z (2 ^ n + t) (n + 1) = k_wp z (2 ^ n + t) n * (if (2 ^ n + t).testBit n then 10 - z 10 n else z 10 n) := rfl
      rw [hb, if_pos rfl, k_wpL ht n (Nat.le_refl n)] at stp
      dsimp only
      rw [k_pcN n (by omega) t ht, stp]
      split
      · rfl
      · rw [Nat.zero_mul])
    rw [e1, e2, k_smM, k_smM, k_wA n i (by omega)]
    show _ = k_wy z n i * z 10 n + (if i = 0 then 0 else k_wy z n (i - 1)) * (10 - z 10 n)
    congr 2
    by_cases i0 : i = 0
    · subst i0
      rw [if_pos rfl]
      have : ∀ n, k_sm (fun _ => 0) n = 0 := fun n => by
        induction n with
        | zero => rfl
        | succ n ih => show k_sm (fun _ => 0) n + 0 = 0; rw [ih]
      rw [k_sm_cong (q := fun _ => 0) (fun t _ => if_neg (by omega)), this]
    · rw [if_neg i0, ← k_wA n (i - 1) (by omega)]
      refine k_sm_cong (fun t _ => ?_)
      have : (i = k_pc t + 1) ↔ (i - 1 = k_pc t) := by omega
      simp only [this]
theorem k_wB {z : k_Z} {n k : Nat} (hn : n ≤ 7) : k_sm (k_wy z n) (k + 1) = k_sm (fun t => if k_pc t ≤ k then k_wp z t n else 0) (2 ^ n) := by
  rw [k_sm_cong (q := fun i => k_sm (fun t => if i = k_pc t then k_wp z t n else 0) (2 ^ n)) (fun i _ => (k_wA n i hn).symm), g_sw]
  refine k_sm_cong (fun t _ => ?_)
  rw [g_sone]
  have : (k_pc t < k + 1) ↔ (k_pc t ≤ k) := by omega
  simp only [this]
def p_come (z : k_Z) (k w : Int32) : Int64 := if 0 ≤ k ∧ k ≤ 7 then (if 0 ≤ w ∧ w ≤ 1 then p_part (k_sm (k_wy z (z 0 1)) (k.toNatClampNeg + 1)) (10 ^ z 0 1) w else 1000000001) else 1000000001
theorem k_is8 {a : Int32} (h : 0 ≤ a ∧ a ≤ 7) : ∃ j, j < 8 ∧ a = nI j := k_is_t (n := 8) (by decide) (decide_eq_true ⟨h.1, by rw [show nI 8 - 1 = (7 : Int32) by decide]; exact h.2⟩)
theorem c_fillWays {σ : q_St} {h : q_Hp} {x A B : Nat} {z : k_Z} (X : k_X σ x A B) (V : k_V σ h A z) (K : k_va z) : k_ok (fX4_fillWays σ h x) (fun h' => (∀ i, i < 8 → q_int h' (x + 53) i = nI (k_wy z (z 0 1) i)) ∧ k_ag (fun a => a ≠ x + 53) h h') := by
  have S := xA X
  have hAB := xAB X
  have b7 := va_nb K
  have ab : ∀ n, n ≤ z 0 1 → ∀ b, b < n → z 10 b ≤ 9 := fun n hn b hb => va_ab K (by omega)
  unfold fX4_fillWays
  rw [xr0 X, xr9 X, sr8 S, q_gu_t ⟨S.1, st9 S, xt53 X⟩]
  refine k_bind (k_for (n := 8) (P := fun h' => (∀ i, i < 8 → q_int h' (x + 53) i = nI (k_wy z 0 i)) ∧ k_ag (fun a => a ≠ x + 53) h h') (fun i t => t.1 = nI i ∧ (∀ j, j < i → q_int t.2 (x + 53) j = nI (k_wy z 0 j)) ∧ k_ag (fun a => a ≠ x + 53) h t.2) (by rw [k_N]; omega) ⟨rfl, fun j hj => absurd hj (Nat.not_lt_zero _), k_ag_rf⟩ ?_) (fun h1 p => ?_)
  · rintro i ⟨x1, h'⟩ hi ⟨e, hc, ag⟩
    dsimp only at e hc ag
    subst e
    show k_ok (fX4_fillWays_2 σ x (nI i) h') _
    unfold fX4_fillWays_2 fX4_fillWays_25
    rw [xr9 X, xl53 X, k_ofN]
    rcases Nat.lt_or_ge i 8 with q | q
    · have fin : ∀ v, v = nI (k_wy z 0 i) → k_ok (some (Sum.inl (nI i + 1, q_si h' (x + 53) i v)) : Option ((Int32 × q_Hp) ⊕ q_Hp)) (k_z (fun t => i < 8 ∧ t.1 = nI (i + 1) ∧ (∀ j, j < i + 1 → q_int t.2 (x + 53) j = nI (k_wy z 0 j)) ∧ k_ag (fun a => a ≠ x + 53) h t.2) (fun h' => (∀ i, i < 8 → q_int h' (x + 53) i = nI (k_wy z 0 i)) ∧ k_ag (fun a => a ≠ x + 53) h h')) := fun v ev => by
        rw [nI_1]
        refine k_some ⟨q, rfl, fun j hj => ?_, k_ag_si ag (fun q => q rfl)⟩
        dsimp only
        by_cases e : j = i
        · subst e; rw [k_si_s, ev]
        · rw [k_si_j e]; exact hc j (by omega)
      rw [if_neg (nI_ge q (by decide)), q_gu_t ⟨xt53 X, vp_in_nI q (by decide)⟩, q_gu_t ⟨xt53 X, vp_in_nI q (by decide)⟩, k_cl (by omega)]
      simp only [k_eqL (show (0 : Int32) = nI 0 from rfl) (show i < 2147483648 by omega) (show 0 < 2147483648 by decide)]
      by_cases i0 : i = 0
      · rw [if_pos i0]; exact fin 1 (by unfold k_wy; rw [if_pos i0]; rfl)
      · rw [if_neg i0]; exact fin 0 (by unfold k_wy; rw [if_neg i0]; rfl)
    · have : i = 8 := by omega
      subst this
      rw [if_pos (nI_le (Nat.le_refl _) (by decide))]
      exact k_some ⟨hc, ag⟩
  · refine k_bind (k_for (n := z 0 1) (P := fun h' => (∀ i, i < 8 → q_int h' (x + 53) i = nI (k_wy z (z 0 1) i)) ∧ k_ag (fun a => a ≠ x + 53) h h') (fun n t => t.1 = nI n ∧ (∀ j, j < 8 → q_int t.2 (x + 53) j = nI (k_wy z n j)) ∧ k_ag (fun a => a ≠ x + 53) h t.2) (by rw [k_N]; omega) ⟨rfl, p.1, p.2⟩ ?_) (fun h2 p => k_some p)
    rintro n ⟨x1, h'⟩ hn ⟨e, hc, ag⟩
    dsimp only at e hc ag
    subst e
    show k_ok (fX4_fillWays_34 σ x (nI n) h') _
    unfold fX4_fillWays_34
    rw [xr0 X, sr8 S, k_agI ag (show A ≠ x + 53 by omega), v_nb V]
    rcases Nat.lt_or_ge n (z 0 1) with q | q
    · have an := va_ab K q
      have p7 := p10_7 (show n ≤ 7 by omega)
      have wB : ∀ j, k_wy z n j ≤ 10 ^ n := fun j => k_wyB n j (ab n (by omega))
      rw [if_neg (nI_ge q (by omega)), c_at (sl9 S) (show n < 7 by omega) (by decide), k_bs1, k_agI ag (show A + 9 ≠ x + 53 by omega), v10 V q]
      refine k_bind (k_for (n := 8) (P := fun h2 => (∀ j, j < 8 → q_int h2 (x + 53) j = nI (k_wy z (n + 1) j)) ∧ k_ag (fun a => a ≠ x + 53) h h2) (fun i t => t.1 = nI (8 - i) - 1 ∧ (∀ j, j < 8 → q_int t.2 (x + 53) j = nI (if 8 - i ≤ j then k_wy z (n + 1) j else k_wy z n j)) ∧ k_ag (fun a => a ≠ x + 53) h t.2) (by rw [k_N]; omega) ⟨rfl, fun j hj => by rw [if_neg (by omega)]; exact hc j hj, ag⟩ ?_) (fun h2 p => ?_)
      · rintro i ⟨x3, h2⟩ hi ⟨e, hd, ag2⟩
        dsimp only at e hd ag2
        subst e
        show k_ok (fX4_fillWays_60 σ x (nI n) (nI (z 10 n)) (nI (8 - i) - 1) h2) _
        unfold fX4_fillWays_60
        rw [xr9 X]
        rcases Nat.lt_or_ge i 8 with q2 | q2
        · obtain ⟨j, ej⟩ : ∃ j, 8 - i = j + 1 := ⟨8 - i - 1, by omega⟩
          have dj := hd j (by omega)
          rw [if_neg (by omega)] at dj
          have prev : fX4_at σ h2 (x + 53) (nI j - 1) = some (nI (if j = 0 then 0 else k_wy z n (j - 1))) := by
            by_cases j0 : j = 0
            · subst j0; rw [c_atN (by decide), if_pos rfl]; rfl
            · obtain ⟨k, rfl⟩ : ∃ k, j = k + 1 := ⟨j - 1, by omega⟩
              have dk := hd k (by omega)
              rw [if_neg (by omega)] at dk
              rw [nI_pred, c_at (xl53 X) (show k < 8 by omega) (by decide), dk, if_neg j0]; rfl
          have val : nI (k_wy z n j) * nI (z 10 n) + nI (if j = 0 then 0 else k_wy z n (j - 1)) * ((10 : Int32) - nI (z 10 n)) = nI (k_wy z (n + 1) j) := by
            rw [show (10 : Int32) = nI 10 from rfl, pk_sub (by omega), pk_mul, pk_mul, nI_add]; rfl
          rw [ej, nI_pred, if_neg (nI_pos (by omega)), c_at (xl53 X) (show j < 8 by omega) (by decide), k_bs1, prev, k_bs1, c_set (xl53 X) (show j < 8 by omega) (by decide), k_bs1, dj, val, k_p1]
          refine k_some ⟨q2, by rw [show 8 - (i + 1) = j by omega], fun l hl => ?_, k_ag_si ag2 (fun q => q rfl)⟩
          dsimp only
          by_cases e : l = j
          · subst e; rw [k_si_s, if_pos (by omega)]
          · rw [k_si_j e, hd l hl]
            have : (8 - i ≤ l) ↔ (8 - (i + 1) ≤ l) := by omega
            simp only [this]
        · have : i = 8 := by omega
          subst this
          rw [if_pos (by decide)]
          refine k_some ⟨fun j hj => ?_, ag2⟩
          have := hd j hj
          rw [if_pos (by omega)] at this
          exact this
      · rw [nI_1]
        exact k_some ⟨q, rfl, p.1, p.2⟩
    · have : n = z 0 1 := by omega
      subst this
      rw [if_pos (nI_le (Nat.le_refl _) (by omega))]
      exact k_some ⟨hc, ag⟩
theorem k_wyS {z : k_Z} (K : k_va z) (k : Nat) (hk : k ≤ 8) : k_sm (k_wy z (z 0 1)) k ≤ 80000000 := Nat.le_trans (k_sm_le (c := 10000000) (fun i _ => Nat.le_trans (k_wyB _ i (fun b hb => va_ab K hb)) (p10_7 (va_nb K)))) (by omega)
theorem c_come {σ : q_St} {h : q_Hp} {x A B : Nat} {z zi y : k_Z} {p : Bool} {c : Nat → Nat → Int32} (I : k_CI σ h x A B z p zi y c) (K : k_va z) (k w : Int32) : k_ok (fX4_come σ h x k w) (fun r => r.1 = p_come z k w ∧ k_ag (fun a => ¬ k_scr x a) h r.2) := by
  have X := I.1
  have S := xA X
  have hAB := xAB X
  have b7 := va_nb K
  unfold fX4_come p_come
  rw [xr0 X, xr9 X, q_gu_t ⟨S.1, xt53 X⟩, c_isIn, k_bs1]
  by_cases hk : 0 ≤ k ∧ k ≤ 7
  · rw [if_pos hk, if_pos hk, if_neg (by decide), c_isIn, k_bs1]
    by_cases hw : 0 ≤ w ∧ w ≤ 1
    · rw [if_pos hw, if_pos hw, if_neg (by decide)]
      obtain ⟨j, hj, rfl⟩ := k_is8 hk
      rw [k_cl (by omega)]
      refine k_bind (c_fillWays X I.2.1 K) (fun h3 p => ?_)
      obtain ⟨hc, g⟩ := p
      refine k_bind (k_for (n := j + 1) (P := fun o => o = (nL (k_sm (k_wy z (z 0 1)) (j + 1)), h3)) (fun i t => t = (nL (k_sm (k_wy z (z 0 1)) i), nI i, h3)) (by rw [k_N]; omega) rfl ?_) (fun o p => ?_)
      · rintro i s hi e
        subst e
        show k_ok (fX4_come_32 σ x (nI j) w (nL (k_sm (k_wy z (z 0 1)) i)) (nI i) h3) _
        unfold fX4_come_32
        rw [xr9 X]
        rcases Nat.lt_or_ge i (j + 1) with q | q
        · have wB := k_wyB (z := z) (z 0 1) i (fun b hb => va_ab K hb)
          have p7 := p10_7 b7
          rw [if_neg (nI_nlt (by omega) (by omega)), c_at (xl53 X) (show i < 8 by omega) (by decide), k_bs1, hc i (by omega), nL_of (by omega), nL_add, nI_1]
          exact k_some ⟨q, rfl⟩
        · have : i = j + 1 := by omega
          subst this
          rw [if_pos (nI_lt (by omega) (by omega))]
          exact k_some rfl
      · subst p
        have sB := k_wyS K (j + 1) (by omega)
        have tB := p10_8 (z 0 1) (by omega)
        have P : 80000000 < 2 ^ 60 := by decide
        dsimp only
        rw [k_agI g (show A ≠ x + 53 by omega), v_nb I.2.1, c_tenTo (by omega), k_bs1, c_partOf (by omega) tB.1 tB.2 hw, k_bs1]
        exact k_some ⟨rfl, k_ag_mono g (fun a ha e => ha (by subst e; exact ⟨by omega, by omega⟩))⟩
    · rw [if_neg hw, if_neg hw, if_pos rfl]
      exact k_some ⟨rfl, k_ag_rf⟩
  · rw [if_neg hk, if_neg hk, if_pos rfl]
    exact k_some ⟨rfl, k_ag_rf⟩
theorem m_come {σ : q_St} {h : q_Hp} {m : Nat} {z zi y : k_Z} {p : Bool} {c : Nat → Nat → Int32} (I : k_MI σ h m z p zi y c) (K : k_va z) (k w : Int32) : fX5_come σ h m k w = some (p_come z k w, q_si h m 21 0) := by
  have M := I.1
  have b7 := va_nb K
  have W0 : k_W (q_si h m 21 0) m z := W_th I.2.1
  have p2n : 2 ^ z 0 1 ≤ 128 := Nat.le_trans (Nat.pow_le_pow_right (by decide) b7) (show 2 ^ 7 ≤ 128 by decide)
  unfold fX5_come p_come
  rw [mr11 M, q_gu_t (mt10 M), m_in (lo := 0) (hi := 7) (by decide) (by decide), k_bs1]
  by_cases hk : 0 ≤ k ∧ k ≤ 7
  · rw [if_pos hk, if_pos hk, if_neg (by decide), m_in (lo := 0) (hi := 1) (by decide) (by decide), k_bs1]
    by_cases hw : 0 ≤ w ∧ w ≤ 1
    · rw [if_pos hw, if_pos hw, if_neg (by decide)]
      obtain ⟨j, hj, rfl⟩ := k_is8 hk
      rw [k_cl (by omega), k_wB b7]
      generalize q_si h m 21 0 = h0 at W0 ⊢
      refine k_eq (k_bind (k_for (n := z 0 1) (P := fun o => o = (nL (10 ^ z 0 1), h0)) (fun i t => t = (nL (10 ^ i), nI i, h0)) (by rw [k_N]; omega) rfl ?_) (fun o p => ?_))
      · rintro i s hi e
        subst e
        show k_ok (fX5_come_39 σ m (nI j) w 0 (nL (10 ^ i)) (nI i) h0) _
        unfold fX5_come_39
        rw [w_nb W0]
        rcases Nat.lt_or_ge i (z 0 1) with q | q
        · rw [if_neg (nI_ge q (by omega)), show (10 : Int64) = nL 10 from rfl, nL_mul, nI_1]
          exact k_some ⟨q, rfl⟩
        · have : i = z 0 1 := by omega
          subst this
          rw [if_pos (nI_le (Nat.le_refl _) (by omega))]
          exact k_some rfl
      · subst p
        dsimp only
        have wpB : ∀ t, k_wp z t (z 0 1) ≤ 10000000 := fun t => Nat.le_trans (k_wpB t _ (fun b hb => va_ab K hb)) (p10_7 b7)
        refine k_bind (k_for (n := 2 ^ z 0 1) (P := fun o => o = (nL (k_sm (fun t => if k_pc t ≤ j then k_wp z t (z 0 1) else 0) (2 ^ z 0 1)), h0)) (fun i t => t = (nL (k_sm (fun t => if k_pc t ≤ j then k_wp z t (z 0 1) else 0) i), nI i, h0)) (by rw [k_N]; omega) rfl ?_) (fun o p => ?_)
        · rintro i s hi e
          subst e
          show k_ok (fX5_come_65 σ m (nI j) w (nL (10 ^ z 0 1)) (nL (k_sm (fun t => if k_pc t ≤ j then k_wp z t (z 0 1) else 0) i)) (nI i) h0) _
          unfold fX5_come_65
          rw [w_nb W0, k_one (z 0 1) (by omega)]
          rcases Nat.lt_or_ge i (2 ^ z 0 1) with q | q
          · rw [if_neg (nI_ge q (by omega))]
            refine k_bind (k_for (n := z 0 1) (P := fun o => o = (nL (k_wp z i (z 0 1)), h0)) (fun n t => t = (nL (k_wp z i n), nI n, h0)) (by rw [k_N]; omega) rfl ?_) (fun o p => ?_)
            · rintro n s hn e
              subst e
              show k_ok (fX5_come_82 σ m (nI j) w (nL (k_sm (fun t => if k_pc t ≤ j then k_wp z t (z 0 1) else 0) i)) (nL (10 ^ z 0 1)) (nI i) (nL (k_wp z i n)) (nI n) h0) _
              unfold fX5_come_82 fX5_come_125
              rw [w_nb W0]
              rcases Nat.lt_or_ge n (z 0 1) with q2 | q2
              · have an := va_ab K q2
                have stp : k_wp z i (n + 1) = k_wp z i n * (if i.testBit n then 10 - z 10 n else z 10 n) := rfl
                rw [if_neg (nI_ge q2 (by omega)), m_hasBit (by omega) (by omega), k_bs1, k_01i, mr11 M, ml10 M, q_gu_t (vp_in_nI (by omega) (by decide)), q_gu_t (vp_in_nI (by omega) (by decide)), k_cl (by omega), w10 W0 q2, show (10 : Int32) = nI 10 from rfl, pk_sub (by omega), nL_of (by omega), nL_of (by omega), nL_mul, nL_mul, nI_1]
                cases et : i.testBit n with
                | false =>
                  rw [et, if_neg (by decide)] at stp
                  rw [if_neg (by decide)]
                  exact k_some ⟨q2, by rw [stp]⟩
                | true =>
                  rw [et, if_pos rfl] at stp
                  rw [if_pos rfl]
                  exact k_some ⟨q2, by rw [stp]⟩
              · have : n = z 0 1 := by omega
                subst this
                rw [if_pos (nI_le (Nat.le_refl _) (by omega))]
                exact k_some rfl
            · subst p
              have pB := k_pcB i
              dsimp only
              rw [m_ones (by omega), k_bs1]
              unfold fX5_come_150
              have stp : k_sm (fun t => if k_pc t ≤ j then k_wp z t (z 0 1) else 0) (i + 1) = k_sm (fun t => if k_pc t ≤ j then k_wp z t (z 0 1) else 0) i + (if k_pc i ≤ j then k_wp z i (z 0 1) else 0) := rfl
              by_cases le : k_pc i ≤ j
              · rw [if_pos le] at stp
                rw [if_neg (nI_nlt le (by omega)), nL_add, nI_1]
                exact k_some ⟨q, by rw [stp]⟩
              · rw [if_neg le] at stp
                rw [if_pos (nI_lt (by omega) (by omega)), show (0 : Int64) = nL 0 from rfl, nL_add, nI_1]
                exact k_some ⟨q, by rw [stp]⟩
          · have : i = 2 ^ z 0 1 := by omega
            rw [if_pos (nI_le q (by omega)), this]
            exact k_some rfl
        · subst p
          have sB : k_sm (fun t => if k_pc t ≤ j then k_wp z t (z 0 1) else 0) (2 ^ z 0 1) ≤ 10000000 * 2 ^ z 0 1 := k_sm_le (fun t _ => by
            have := wpB t
            split <;> omega)
          have tB := p10_8 (z 0 1) (by omega)
          have P : 10000000 * 128 < 2 ^ 60 := by decide
          dsimp only
          rw [m_partOf (by omega) tB.1 tB.2, k_bs1]
          exact k_some rfl
    · rw [if_neg hw, if_neg hw, if_pos rfl]
  · rw [if_neg hk, if_neg hk, if_pos rfl]
