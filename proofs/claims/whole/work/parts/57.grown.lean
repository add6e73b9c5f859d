/-! grown -/
def k_gw (z : k_Z) (t b : Nat) : Nat := if (p_op z).testBit b then (if t.testBit b then z 8 b else 10 - z 8 b) else 1
def k_gp (z : k_Z) (t : Nat) : Nat → Nat
  | 0 => 1
  | n + 1 => k_gp z t n * k_gw z t n
theorem k_gwB {z : k_Z} (K : k_va z) (t b : Nat) : k_gw z t b ≤ 10 := by
  unfold k_gw
  cases e : (p_op z).testBit b with
  | false => rw [if_neg (by decide)]; decide
  | true =>
    rw [if_pos rfl]
    rw [p_op_tb] at e
    simp only [Bool.and_eq_true, decide_eq_true_eq] at e
    have := va_gw K e.1
    split <;> omega
theorem k_gpB {z : k_Z} (K : k_va z) (t : Nat) : ∀ n, k_gp z t n ≤ 10 ^ n
  | 0 => Nat.le_refl _
  | n + 1 => by
    rw [Nat.pow_succ]
    exact Nat.mul_le_mul (k_gpB K t n) (k_gwB K t n)
theorem p10_7 {n : Nat} (h : n ≤ 7) : 10 ^ n ≤ 10000000 := Nat.le_trans (Nat.pow_le_pow_right (by decide) h) (by decide)
def k_nt (t O : Nat) : Bool := (t &&& (O ^^^ 4294967295)) == 0
def k_zg (z : k_Z) (t : Nat) : k_Z := fun r i => if r = 6 ∧ t.testBit i = true then min (z 6 i + 1) 20 else z r i
theorem zg_n {z : k_Z} {t r i : Nat} (h : r ≠ 6) : k_zg z t r i = z r i := if_neg (fun q => h q.1)
theorem zg_6 {z : k_Z} {t i : Nat} : k_zg z t 6 i = if t.testBit i then min (z 6 i + 1) 20 else z 6 i := by
  unfold k_zg
  by_cases e : t.testBit i = true
  · rw [if_pos ⟨rfl, e⟩, if_pos e]
  · rw [if_neg (fun q => e q.2), if_neg e]
theorem zg_vb {z : k_Z} {t : Nat} (K : k_va z) : k_vb (k_zg z t) := by
  have B := vb_va K
  refine ⟨⟨by rw [zg_n (by decide)]; exact B.1.1, by rw [zg_n (by decide)]; exact B.1.2⟩, fun s hs => ?_, fun b hb => ?_⟩
  · rw [zg_n (by decide)] at hs
    rw [zg_n (by decide), zg_n (by decide), zg_n (by decide), zg_n (by decide)]; exact B.2.1 s hs
  · rw [zg_n (by decide)] at hb
    rw [zg_6, zg_n (by decide), zg_n (by decide)]
    refine ⟨?_, (B.2.2 b hb).2⟩
    split
    · exact Nat.min_le_right _ _
    · exact (B.2.2 b hb).1
def k_gval (z : k_Z) (t : Nat) : Nat := g_m (g_z (k_zg z t) 0 0 k_any) (fun _ => 1) (z 0 1) (z 0 1) 0
def k_gt (z : k_Z) (t : Nat) : Nat := if k_nt t (p_op z) then (if k_gval z t = k_pc (p_op z) then k_gp z t (z 0 1) else 0) else 0
theorem k_gtB {z : k_Z} (K : k_va z) (t : Nat) : k_gt z t ≤ 10000000 := by
  unfold k_gt
  split
  · split
    · exact Nat.le_trans (k_gpB K t _) (p10_7 (va_nb K))
    · omega
  · omega
theorem k_gtS {z : k_Z} (K : k_va z) (n : Nat) (hn : n ≤ 128) : k_sm (k_gt z) n ≤ 1280000000 := Nat.le_trans (k_sm_le (c := 10000000) (fun i _ => k_gtB K i)) (by omega)
theorem k_gtE {z : k_Z} (K : k_va z) : k_sm (k_gt z) 128 = k_sm (k_gt z) (2 ^ z 0 1) := by
  have b7 := va_nb K
  refine g_sm_more (Nat.le_trans (Nat.pow_le_pow_right (by decide) b7) (show 2 ^ 7 ≤ 128 by decide)) (fun t h1 h2 => ?_)
  unfold k_gt k_nt
  by_cases e : (t &&& (p_op z ^^^ 4294967295)) = 0
  · exfalso
    have le : t ≤ p_op z := by
      have : t &&& p_op z = t := by
        apply Nat.eq_of_testBit_eq
        intro i
        rw [Nat.testBit_and]
        have := k_and0.mp e i
        rw [Nat.testBit_xor, k_m32] at this
        by_cases h32 : i < 32
        · rw [decide_eq_true h32] at this
          cases e1 : t.testBit i <;> cases e2 : (p_op z).testBit i <;> simp_all
        · rw [show t.testBit i = false from Nat.testBit_lt_two_pow (Nat.lt_of_lt_of_le h2 (show 2 ^ 7 ≤ 2 ^ i from Nat.pow_le_pow_right (by decide) (by omega)))]; rfl
      rw [← this]; exact Nat.and_le_right
    have : p_op z < 2 ^ z 0 1 := k_bs_lt _ _
    omega
  · rw [if_neg (by simpa using e)]
theorem c_growth {σ : q_St} {h : q_Hp} {A t : Nat} {z : k_Z} (V : k_V σ h A z) (K : k_va z) (ht : t < 256) : fX2_growthWeight σ h A (nI t) (nI (p_op z)) = some (nL (if k_nt t (p_op z) then k_gp z t (z 0 1) else 0)) := by
  have S := vS V
  have b7 := va_nb K
  have oB := p_opB K
  unfold fX2_growthWeight
  rw [sr6 S, q_gu_t (st7 S), k_anX]
  have key : ∀ u, u ≤ 1 → fX2_growthWeight_13 σ h A (nI t) (nI (p_op z)) (nL u) = some (nL (u * k_gp z t (z 0 1))) := by
    intro u hu
    unfold fX2_growthWeight_13
    refine k_eq (k_bind (P := fun r => r = nL (u * k_gp z t (z 0 1))) (k_for (n := z 0 1) (fun i s => s.1 = nL (u * k_gp z t i) ∧ s.2 = nI i) (by rw [k_N]; omega) ⟨by show nL u = nL (u * 1); rw [Nat.mul_one], rfl⟩ ?_) (fun r p => k_some p))
    rintro i ⟨s1, s2⟩ hi ⟨e1, e2⟩
    dsimp only at e1 e2
    subst e1; subst e2
    show k_ok (fX2_growthWeight_17 σ h A (nI t) (nI (p_op z)) (nL (u * k_gp z t i)) (nI i)) _
    unfold fX2_growthWeight_17 fX2_growthWeight_71 fX2_growthWeight_73
    rw [v_nb V, sr6 S]
    rcases Nat.lt_or_ge i (z 0 1) with q | q
    · have gw := va_gw K q
      have stp : k_gp z t (i + 1) = k_gp z t i * k_gw z t i := rfl
      rw [if_neg (nI_ge q (by omega)), c_hasBit (by omega) (by omega), k_bs1, k_01i, c_hasBit (by omega) (by omega), c_at (sl7 S) (show i < 7 by omega) (by decide), v8 V q, nI_1]
      simp only [k_bs1, k_01i]
      unfold k_gw at stp
      cases eo : (p_op z).testBit i with
      | false =>
        rw [eo, if_neg (by decide), Nat.mul_one] at stp
        rw [if_neg (by decide)]
        exact k_some ⟨q, by rw [stp], rfl⟩
      | true =>
        rw [eo, if_pos rfl] at stp
        rw [if_pos rfl]
        cases et : t.testBit i with
        | true =>
          rw [et, if_pos rfl] at stp
          rw [if_pos rfl, nL_of (by omega), nL_mul]
          exact k_some ⟨q, by rw [stp, Nat.mul_assoc], rfl⟩
        | false =>
          rw [et, if_neg (by decide)] at stp
          rw [if_neg (by decide), show (10 : Int32) = nI 10 from rfl, pk_sub (by omega), nL_of (by omega), nL_mul]
          exact k_some ⟨q, by rw [stp, Nat.mul_assoc], rfl⟩
    · have : i = z 0 1 := by omega
      subst this
      rw [if_pos (nI_le (Nat.le_refl _) (by omega))]
      exact k_some rfl
  have tB : t &&& (p_op z ^^^ 4294967295) < 2147483648 := Nat.lt_of_le_of_lt Nat.and_le_left (by omega)
  simp only [k_eqL (show (0 : Int32) = nI 0 from rfl) tB (show 0 < 2147483648 by decide)]
  unfold k_nt
  by_cases e : (t &&& (p_op z ^^^ 4294967295)) = 0
  · rw [if_pos e, if_pos (by simpa using e)]
    have := key 1 (by decide)
    rw [Nat.one_mul] at this
    exact this
  · rw [if_neg e, if_neg (by simpa using e)]
    have := key 0 (by decide)
    rw [Nat.zero_mul] at this
    exact this
def k_tkg (z : k_Z) (t s : Nat) : Nat := (p_tk z 0 s &&& (t ^^^ 4294967295)) ||| (p_tk z 1 s &&& t)
theorem k_tkgB {z : k_Z} (K : k_va z) (t s : Nat) : k_tkg z t s < 128 := Nat.or_lt_two_pow (n := 7) (Nat.lt_of_le_of_lt Nat.and_le_left (p_tkB K 0 s)) (Nat.lt_of_le_of_lt Nat.and_le_left (p_tkB K 1 s))
theorem c_grow {σ : q_St} {h : q_Hp} {F t : Nat} {z : k_Z} (T : k_ft σ F) (L : k_L h F z) : k_ok (fX0_grow σ h F (nI t)) (fun h' => (∀ s, s < 8 → q_int h' (F + 3) s = nI (k_tkg z t s)) ∧ k_ag (fun a => a ≠ F + 3) h h') := by
  unfold fX0_grow
  rw [fr0 T, fr1 T, fr2 T, q_gu_t ⟨ft3 T, ft1 T, ft2 T⟩]
  refine k_bind (k_for (n := 8) (P := fun h' => (∀ s, s < 8 → q_int h' (F + 3) s = nI (k_tkg z t s)) ∧ k_ag (fun a => a ≠ F + 3) h h') (fun i u => u.1 = nI i ∧ (∀ s, s < i → q_int u.2 (F + 3) s = nI (k_tkg z t s)) ∧ k_ag (fun a => a ≠ F + 3) h u.2) (by rw [k_N]; omega) ⟨rfl, fun s hs => absurd hs (Nat.not_lt_zero _), k_ag_rf⟩ ?_) (fun r p => k_some p)
  rintro i ⟨x2, h'⟩ hi ⟨e, hc, ag⟩
  dsimp only at e hc ag
  subst e
  show k_ok (fX0_grow_2 σ F (nI t) (nI i) h') _
  unfold fX0_grow_2
  rw [fr0 T, fr1 T, fr2 T, fl3 T, k_ofN]
  rcases Nat.lt_or_ge i 8 with q | q
  · have l := L.2 i q
    rw [if_neg (nI_ge q (by decide)), c_at (fl1 T) q (by decide), k_bs1, c_at (fl2 T) q (by decide), k_bs1, q_gu_t (vp_in_nI q (by decide)), k_cl (by omega), k_agI ag (show F + 1 ≠ F + 3 by omega), k_agI ag (show F + 2 ≠ F + 3 by omega), l.1, l.2.1, k_anX, k_and, k_or, nI_1]
    refine k_some ⟨q, rfl, fun s hs => ?_, k_ag_si ag (fun q => q rfl)⟩
    dsimp only
    by_cases es : s = i
    · subst es; rw [k_si_s]; rfl
    · rw [k_si_j es]; exact hc s (by omega)
  · have : i = 8 := by omega
    subst this
    rw [if_pos (nI_le (Nat.le_refl _) (by decide))]
    exact k_some ⟨hc, ag⟩
theorem k_tkgE {z : k_Z} {t : Nat} (K : k_va z) (ht : t < 128) (s b : Nat) : k_E (k_tkg z t) (p_op z) (p_in z) s b = g_z (k_zg z t) 0 0 k_any s b := by
  unfold k_E g_z g_dp k_zo k_zm k_tkg k_fits
  rw [show ∀ v u, k_kd (k_any v) u = true from fun _ _ => rfl, Nat.zero_testBit, Nat.zero_testBit, Nat.testBit_or, k_anT (p_tkB K 0 s), Nat.testBit_and, p_tk_tb K, zg_n (r := 0) (by decide), zg_n (r := 0) (by decide), zg_n (r := 11) (by decide), zg_n (r := 5) (by decide), zg_n (r := 3) (by decide), zg_n (r := 1) (by decide), zg_6, p_in_tb, p_op_tb]
  have t1 : (p_tk z 1 s).testBit b = ((decide (s < z 0 0) && (z 5 s == 0)) && (decide (b < z 0 1) && k_nr (z 3 s) (min (z 6 b + 1) 20) (k_gv (z 1 s)))) := by
    unfold p_tk
    rw [← p_in_tb]
    cases e : (p_in z).testBit s with
    | false => rw [if_neg (by decide), Nat.zero_testBit, Bool.false_and]
    | true => rw [if_pos rfl, k_bs_tb, Bool.true_and]
  rw [t1]
  unfold k_fits
  cases decide (s < z 0 0) <;> cases decide (b < z 0 1) <;> cases (z 5 s == 0) <;> cases (z 11 b == 9) <;> cases t.testBit b <;> simp
theorem k_gvE {z : k_Z} {t : Nat} (K : k_va z) (ht : t < 128) : g_top (k_E (k_tkg z t) (p_op z) (p_in z)) (fun _ => 1) = k_gval z t := by
  rw [g_top_cg (fun s b _ _ => k_tkgE K ht s b), g_zT (by rw [zg_n (by decide)]; exact va_nb K), zg_n (by decide)]; rfl
def p_grown (z : k_Z) (w : Int32) : Int64 := if 0 ≤ w ∧ w ≤ 1 then p_part (k_sm (k_gt z) 128) (10 ^ k_pc (p_op z)) w else 1000000001
theorem k_gvalB {z : k_Z} (K : k_va z) (t : Nat) : k_gval z t ≤ 7 := Nat.le_trans (g_mB (T := 1) (fun _ _ _ => Nat.le_refl _) _ _) (by have := va_nb K; omega)
theorem p10_8 (n : Nat) (h : n ≤ 8) : 10 ^ n < 2 ^ 60 ∧ 0 < 10 ^ n := ⟨Nat.lt_of_le_of_lt (Nat.pow_le_pow_right (by decide) h) (by decide), Nat.pow_pos (by decide)⟩
theorem c_grown {σ : q_St} {h : q_Hp} {x A B : Nat} {z zi y : k_Z} {p : Bool} {c : Nat → Nat → Int32} (I : k_CI σ h x A B z p zi y c) (K : k_va z) (w : Int32) : k_ok (fX4_grown σ h x w) (fun r => r.1 = p_grown z w ∧ k_ag (fun a => ¬ k_scr x a) h r.2) := by
  have X := I.1
  have T := xF X
  have hAB := xAB X
  have oB := p_opB K
  have iB := p_inB K
  have pB := k_pcB (p_op z)
  unfold fX4_grown p_grown
  rw [xr0 X, xr8 X, q_gu_t ⟨ft0 T, (xA X).1⟩, c_isIn, k_bs1]
  by_cases hw : 0 ≤ w ∧ w ≤ 1
  · rw [if_pos hw, if_pos hw, if_neg (by decide)]
    refine k_bind (CI_load I K) (fun h2 p => ?_)
    obtain ⟨L, g⟩ := p
    rw [L.1.1.1, c_bits _ (by omega), k_bs1]
    refine k_bind (k_for (n := 128) (P := fun o => o.1 = nL (k_sm (k_gt z) 128) ∧ k_ag (k_oF (x + 43)) h o.2) (fun i t => t.2.1 = nI i ∧ t.1 = nL (k_sm (k_gt z) i) ∧ k_L t.2.2 (x + 43) z ∧ k_ag (k_oF (x + 43)) h t.2.2) (by rw [k_N]; omega) ⟨rfl, rfl, L.1, g⟩ ?_) (fun o p => ?_)
    · rintro i ⟨y3, x5, h'⟩ hi ⟨e5, e3, L', ag⟩
      dsimp only at e5 e3 L' ag
      subst e5; subst e3
      show k_ok (fX4_grown_40 σ x w (nI (k_pc (p_op z))) (nL (k_sm (k_gt z) i)) (nI i) h') _
      unfold fX4_grown_40
      rw [xr0 X, xr8 X, L'.1.1]
      rcases Nat.lt_or_ge i 128 with q | q
      · have V' := V_oF I.2.1 T (by omega) ag
        have gB := k_gpB K i (z 0 1)
        have g7 := p10_7 (va_nb K)
        have sB := k_gtS K i (by omega)
        have stp : k_sm (k_gt z) (i + 1) = k_sm (k_gt z) i + k_gt z i := rfl
        rw [if_neg (k_geL (n := 128) (l := 128) rfl q (by decide)), c_growth V' K (by omega), k_bs1]
        have wB : (if k_nt i (p_op z) then k_gp z i (z 0 1) else 0) < 9223372036854775808 := by split <;> omega
        simp only [nL_le0 wB]
        have skip : k_gt z i = 0 → ∀ h2, k_L h2 (x + 43) z → k_ag (k_oF (x + 43)) h h2 → k_ok (some (Sum.inl (nL (k_sm (k_gt z) i), nI i + 1, h2)) : Option ((Int64 × Int32 × q_Hp) ⊕ (Int64 × q_Hp))) (k_z (fun t => i < 128 ∧ t.2.1 = nI (i + 1) ∧ t.1 = nL (k_sm (k_gt z) (i + 1)) ∧ k_L t.2.2 (x + 43) z ∧ k_ag (k_oF (x + 43)) h t.2.2) (fun o => o.1 = nL (k_sm (k_gt z) 128) ∧ k_ag (k_oF (x + 43)) h o.2)) := fun e h2 l2 g2 => by
          rw [nI_1]
          exact k_some ⟨q, rfl, by rw [stp, e, Nat.add_zero (k_sm (k_gt z) i)], l2, g2⟩
        by_cases w0 : (if k_nt i (p_op z) then k_gp z i (z 0 1) else 0) = 0
        · rw [if_pos w0]
          unfold fX4_grown_116
          refine skip ?_ h' L' ag
          unfold k_gt
          cases en : k_nt i (p_op z) with
          | false => rfl
          | true =>
            rw [en, if_pos rfl] at w0
            rw [if_pos rfl, w0]; split <;> rfl
        · rw [if_neg w0]
          have en : k_nt i (p_op z) = true := by
            cases en : k_nt i (p_op z) with
            | true => rfl
            | false => rw [en] at w0; exact absurd rfl w0
          rw [en, if_pos rfl]
          refine k_bind (c_grow T L') (fun h8 p => ?_)
          obtain ⟨tk, g8⟩ := p
          have L8 := L_ag3 L' g8
          rw [L8.1.1, L8.1.2]
          refine k_b2 (c_most (tk := k_tkg z i) T oB (by omega) (fun s hs => ⟨tk s hs, k_tkgB K i s⟩)) (fun r h9 p => ?_)
          obtain ⟨p1, g9⟩ := p
          dsimp only at p1 g9
          rw [k_gvE K q] at p1
          subst p1
          have L9 : k_L h9 (x + 43) z := by
            have e : ∀ j, j ≤ 4 → ∀ i, q_int h9 (x + 43 + j) i = q_int h8 (x + 43 + j) i := fun j hj i => k_agI g9 ⟨by omega, by omega, by omega, by omega⟩ i
            refine ⟨?_, fun s hs => by rw [e 1 (by decide), e 2 (by decide), e 4 (by decide)]; exact L8.2 s hs⟩
            have := e 0 (by decide)
            rw [Nat.add_zero] at this
            rw [this, this]; exact L8.1
          have ag9 := k_ag_tr (k_ag_tr ag (oF_3 g8)) (oF_fz g9)
          have vB := k_gvalB K i
          unfold fX4_grown_114 fX4_grown_116
          simp only [k_eqL rfl (show k_gval z i < 2147483648 by omega) (show k_pc (p_op z) < 2147483648 by omega)]
          by_cases hit : k_gval z i = k_pc (p_op z)
          · rw [if_pos hit, nL_add, nI_1]
            exact k_some ⟨q, rfl, by rw [stp]; unfold k_gt; rw [en, if_pos rfl, if_pos hit], L9, ag9⟩
          · rw [if_neg hit, show (0 : Int64) = nL 0 from rfl, nL_add, Nat.add_zero]
            exact skip (by unfold k_gt; rw [en, if_pos rfl, if_neg hit]) h9 L9 ag9
      · have : i = 128 := by omega
        subst this
        rw [if_pos (k_leL (n := 128) (l := 128) rfl (Nat.le_refl _) (by decide))]
        exact k_some ⟨rfl, ag⟩
    · obtain ⟨o1, o2⟩ := o
      obtain ⟨e1, g3⟩ := p
      dsimp only at e1 g3
      subst e1
      have sB := k_gtS K 128 (by omega)
      have tB := p10_8 _ pB
      have P : 1280000000 < 2 ^ 60 := by decide
      dsimp only
      rw [c_tenTo (by omega), k_bs1, c_partOf (by omega) tB.1 tB.2 hw, k_bs1]
      exact k_some ⟨rfl, scr_oF g3⟩
  · rw [if_neg hw, if_neg hw, if_pos rfl]
    exact k_some ⟨rfl, k_ag_rf⟩
