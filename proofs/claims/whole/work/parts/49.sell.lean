/-! sell -/
def k_slz (z : k_Z) : Nat → Nat × Nat
  | 0 => (0, 9)
  | s + 1 => if z 5 s = 0 then (if (k_slz z s).1 < k_rv z (2 ^ s) 0 + 1 ∨ ((k_slz z s).1 = k_rv z (2 ^ s) 0 + 1 ∧ z 4 (k_slz z s).2 < z 4 s) then (k_rv z (2 ^ s) 0 + 1, s) else k_slz z s) else k_slz z s
theorem k_slB {z : k_Z} (K : k_va z) : ∀ n, (k_slz z n).1 ≤ 337 ∧ ((k_slz z n).1 = 0 ∨ (k_slz z n).2 < n)
  | 0 => ⟨by show 0 ≤ 337; decide, Or.inl rfl⟩
  | n + 1 => by
    obtain ⟨h1, h2⟩ := k_slB K n
    have := k_rvB K (2 ^ n) 0
    unfold k_slz
    split
    · split
      · exact ⟨by dsimp only; omega, Or.inr (by dsimp only; omega)⟩
      · exact ⟨h1, h2.imp id (fun q => by omega)⟩
    · exact ⟨h1, h2.imp id (fun q => by omega)⟩
def p_slb (v : Nat × Nat) : Int32 := if v.1 = 0 then -4 else nI v.2
def p_sell (z : k_Z) : Int32 := p_slb (k_slz z (z 0 0))
theorem k_prL {v t : Nat} (hv : v < 2147483648) (ht : t < 2147483647) : (nI v - 1 < nI t) = (v < t + 1) := by
  apply propext
  rw [Int32.lt_iff_toInt_lt, nI_toInt (by omega)]
  cases v with
  | zero => rw [show (nI 0 - 1 : Int32).toInt = -1 by decide +kernel]; omega
  | succ n => rw [nI_pred, nI_toInt (by omega)]; omega
theorem c_sell {σ : q_St} {h : q_Hp} {x A B : Nat} {z zi y : k_Z} {p : Bool} {c : Nat → Nat → Int32} (I : k_CI σ h x A B z p zi y c) (K : k_va z) : k_ok (fX4_sell σ h x) (fun r => r.1 = p_sell z ∧ k_ag (fun a => ¬ k_scr x a) h r.2) := by
  have X := I.1
  have T := xF X
  have S := xA X
  have b7 := va_nb K
  have n7 := va_ns K
  have hAB := xAB X
  have oB := p_opB K
  have iB := p_inB K
  unfold fX4_sell
  rw [xr0 X, xr8 X, sr2 S, q_gu_t ⟨ft0 T, S.1, st3 S⟩]
  refine k_bind (CI_load I K) (fun h3 p => ?_)
  obtain ⟨L, g⟩ := p
  refine k_bind (k_for (n := z 0 0) (P := fun o => o.1 = p_sell z ∧ k_ag (k_oF (x + 43)) h o.2) (fun i t => t.2.2.1 = nI i ∧ t.1 = nI (k_slz z i).1 - 1 ∧ t.2.1 = p_slb (k_slz z i) ∧ k_L3 t.2.2.2 (x + 43) z ∧ k_ag (k_oF (x + 43)) h t.2.2.2) (by rw [k_N]; omega) ⟨rfl, (show (-1 : Int32) = nI 0 - 1 by decide), rfl, L, g⟩ ?_) (fun o p => by
    obtain ⟨o1, o2⟩ := o
    exact k_some ⟨p.1, scr_oF p.2⟩)
  rintro i ⟨x1, x2, x3, h'⟩ hi ⟨e3, e1, e2, L', ag⟩
  dsimp only at e3 e1 e2 L' ag
  subst e3; subst e1; subst e2
  show k_ok (fX4_sell_18 σ x (nI (k_slz z i).1 - 1) (p_slb (k_slz z i)) (nI i) h') _
  unfold fX4_sell_18
  rw [xr0 X, xr8 X, sr2 S, v_ns (V_oF I.2.1 T (by omega) ag)]
  rcases Nat.lt_or_ge i (z 0 0) with q | q
  · obtain ⟨sB, sC⟩ := k_slB K i
    have stp : k_slz z (i + 1) = if z 5 i = 0 then (if (k_slz z i).1 < k_rv z (2 ^ i) 0 + 1 ∨ ((k_slz z i).1 = k_rv z (2 ^ i) 0 + 1 ∧ z 4 (k_slz z i).2 < z 4 i) then (k_rv z (2 ^ i) 0 + 1, i) else k_slz z i) else k_slz z i := rfl
    rw [if_neg (nI_ge q (by omega)), L'.1.1.1, L'.1.1.2, c_hasBit (by omega) (by omega), k_bs1, k_01i, p_in_tb, decide_eq_true q, Bool.true_and, k_del (by omega)]
    have skip : ∀ h2, k_L3 h2 (x + 43) z → k_ag (k_oF (x + 43)) h h2 → k_slz z (i + 1) = k_slz z i → k_ok (fX4_sell_114 σ h2 x (nI (k_slz z i).1 - 1) (p_slb (k_slz z i)) (nI i)) (k_z (fun t => i < z 0 0 ∧ t.2.2.1 = nI (i + 1) ∧ t.1 = nI (k_slz z (i + 1)).1 - 1 ∧ t.2.1 = p_slb (k_slz z (i + 1)) ∧ k_L3 t.2.2.2 (x + 43) z ∧ k_ag (k_oF (x + 43)) h t.2.2.2) (fun o => o.1 = p_sell z ∧ k_ag (k_oF (x + 43)) h o.2)) := fun h2 l2 g2 e => by
      unfold fX4_sell_114
      rw [nI_1, e]
      exact k_some ⟨q, rfl, rfl, rfl, l2, g2⟩
    cases e5 : (z 5 i == 0) with
    | false =>
      rw [if_neg (by decide)]
      exact skip h' L' ag (by rw [stp, if_neg (by simpa using e5)])
    | true =>
      have e50 : z 5 i = 0 := by simpa using e5
      rw [if_pos e50] at stp
      rw [if_pos rfl]
      refine k_b2 (c_richest T oB (k_dlB (by omega)) (L3_tk L' K) (L3_pr L' (fun s h => by
        rw [k_dlT (by omega)] at h
        simp only [Bool.and_eq_true] at h
        exact h.1)) (p_pwB3 K)) (fun r h2 p => ?_)
      obtain ⟨p1, g3⟩ := p
      dsimp only at p1 g3
      rw [p_EzU K, g_zT b7] at p1
      have p1' : r = nI (k_rv z (2 ^ i) 0) := p1
      subst p1'
      have l2 := L3_fz L' g3
      have a2 := k_ag_tr ag (oF_fz g3)
      have r1 := k_rvB K (2 ^ i) 0
      have V2 := V_oF I.2.1 T (by omega) a2
      have take : ((k_slz z i).1 < k_rv z (2 ^ i) 0 + 1 ∨ ((k_slz z i).1 = k_rv z (2 ^ i) 0 + 1 ∧ z 4 (k_slz z i).2 < z 4 i)) → k_ok (fX4_sell_109 σ h2 x (nI i) (nI (k_rv z (2 ^ i) 0))) (k_z (fun t => i < z 0 0 ∧ t.2.2.1 = nI (i + 1) ∧ t.1 = nI (k_slz z (i + 1)).1 - 1 ∧ t.2.1 = p_slb (k_slz z (i + 1)) ∧ k_L3 t.2.2.2 (x + 43) z ∧ k_ag (k_oF (x + 43)) h t.2.2.2) (fun o => o.1 = p_sell z ∧ k_ag (k_oF (x + 43)) h o.2)) := fun hc => by
        rw [if_pos hc] at stp
        unfold fX4_sell_109 fX4_sell_114
        rw [nI_1, stp]
        exact k_some ⟨q, rfl, (nI_pred _).symm, rfl, l2, a2⟩
      simp only [k_prL (show (k_slz z i).1 < 2147483648 by omega) (show k_rv z (2 ^ i) 0 < 2147483647 by omega), k_subE (show k_rv z (2 ^ i) 0 < 2147483647 by omega) (show (k_slz z i).1 < 2147483648 by omega)]
      by_cases lt : (k_slz z i).1 < k_rv z (2 ^ i) 0 + 1
      · rw [if_pos lt]; exact take (Or.inl lt)
      · rw [if_neg lt]
        by_cases eq : 1 + k_rv z (2 ^ i) 0 = (k_slz z i).1
        · have ne : (k_slz z i).1 ≠ 0 := by omega
          have lb : (k_slz z i).2 < i := sC.resolve_left ne
          have w1 := va_wo K q
          have w2 := va_wo K (show (k_slz z i).2 < z 0 0 by omega)
          rw [if_pos eq, c_at (sl3 S) (by omega) (by decide), k_bs1, v4 V2 q, show p_slb (k_slz z i) = nI (k_slz z i).2 from if_neg ne, c_at (sl3 S) (show (k_slz z i).2 < 7 by omega) (by decide), k_bs1, v4 V2 (show (k_slz z i).2 < z 0 0 by omega)]
          simp only [k_le2 rfl (show z 4 i < 2147483648 by omega) (show z 4 (k_slz z i).2 < 2147483648 by omega)]
          by_cases le : z 4 i ≤ z 4 (k_slz z i).2
          · rw [if_pos le, show nI (k_slz z i).2 = p_slb (k_slz z i) from (if_neg ne).symm]
            exact skip h2 l2 a2 (by rw [stp, if_neg (by omega)])
          · rw [if_neg le]
            exact take (Or.inr ⟨by omega, by omega⟩)
        · rw [if_neg eq]
          exact skip h2 l2 a2 (by rw [stp, if_neg (by omega)])
  · have : i = z 0 0 := by omega
    subst this
    rw [if_pos (nI_le (Nat.le_refl _) (by omega))]
    exact k_some ⟨rfl, ag⟩
theorem m_sell {σ : q_St} {h : q_Hp} {m : Nat} {z zi y : k_Z} {p : Bool} {c : Nat → Nat → Int32} (I : k_MI σ h m z p zi y c) (K : k_va z) : k_ok (fX5_sell σ h m) (fun r => r.1 = p_sell z ∧ k_mf [21, 35] [24, 25] m h r.2) := by
  have M := I.1
  have b7 := va_nb K
  have n7 := va_ns K
  have a0 : k_mf [37, 21, 35] [24, 25] m h (q_si h m 21 0) := mf_th (by decide)
  unfold fX5_sell
  rw [mr5 M, mr4 M, q_gu_t ⟨mt5 M, mt4 M⟩]
  refine k_bind (k_for (n := z 0 0) (P := fun o => o.1 = p_sell z ∧ k_mf [37, 21, 35] [24, 25] m h o.2) (fun i t => t.2.2.1 = nI i ∧ t.2.1 = nI (k_slz z i).1 - 1 ∧ t.1 = p_slb (k_slz z i) ∧ k_mf [37, 21, 35] [24, 25] m h t.2.2.2) (by rw [k_N]; omega) ⟨rfl, (show (-1 : Int32) = nI 0 - 1 by decide), rfl, a0⟩ ?_) (fun o p => by
    obtain ⟨o1, o2⟩ := o
    exact k_some ⟨p.1, mf_back (mf_fi p.2 (by decide)) (by rw [k_si_s, I.2.2.2.2.2.2.1])⟩)
  rintro i ⟨x1, x2, x3, h'⟩ hi ⟨e3, e2, e1, ag⟩
  dsimp only at e3 e1 e2 ag
  subst e3; subst e1; subst e2
  show k_ok (fX5_sell_12 σ m (p_slb (k_slz z i)) (nI (k_slz z i).1 - 1) (nI i) h') _
  unfold fX5_sell_12
  rw [ag.2.1 0 (by decide), w_ns I.2.1]
  rcases Nat.lt_or_ge i (z 0 0) with q | q
  · obtain ⟨sB, sC⟩ := k_slB K i
    have stp : k_slz z (i + 1) = if z 5 i = 0 then (if (k_slz z i).1 < k_rv z (2 ^ i) 0 + 1 ∨ ((k_slz z i).1 = k_rv z (2 ^ i) 0 + 1 ∧ z 4 (k_slz z i).2 < z 4 i) then (k_rv z (2 ^ i) 0 + 1, i) else k_slz z i) else k_slz z i := rfl
    have W' := W_mf I.2.1 ag ⟨by decide, by decide, by decide, by decide⟩ (fun r h1 h2 q => by simp at q; omega)
    have st := va_st K q
    rw [if_neg (nI_ge q (by omega)), mr5 M, ml5 M, q_gu_t (vp_in_nI (by omega) (by decide)), k_cl (by omega), w5 W' q]
    simp only [k_eqL (show (0 : Int32) = nI 0 from rfl) (show z 5 i < 2147483648 by omega) (show 0 < 2147483648 by decide)]
    have skip : ∀ h2, k_mf [37, 21, 35] [24, 25] m h h2 → k_slz z (i + 1) = k_slz z i → k_ok (fX5_sell_94 σ h2 m (p_slb (k_slz z i)) (nI (k_slz z i).1 - 1) (nI i)) (k_z (fun t => i < z 0 0 ∧ t.2.2.1 = nI (i + 1) ∧ t.2.1 = nI (k_slz z (i + 1)).1 - 1 ∧ t.1 = p_slb (k_slz z (i + 1)) ∧ k_mf [37, 21, 35] [24, 25] m h t.2.2.2) (fun o => o.1 = p_sell z ∧ k_mf [37, 21, 35] [24, 25] m h o.2)) := fun h2 g2 e => by
      unfold fX5_sell_94
      rw [nI_1, e]
      exact k_some ⟨q, rfl, rfl, rfl, g2⟩
    by_cases e50 : z 5 i = 0
    · rw [if_pos e50] at stp
      have ag2 : k_mf [37, 21, 35] [24, 25] m h (q_si h' m 37 (nI (2 ^ i))) := mf_fi ag (by decide)
      have W2 := W_mf I.2.1 ag2 ⟨by decide, by decide, by decide, by decide⟩ (fun r h1 h2 q => by simp at q; omega)
      have D : k_D σ (q_si h' m 37 (nI (2 ^ i))) m (z 0 0) (z 0 1) (k_zo z 0) (k_zm z (2 ^ i) k_any) (p_pw z) := m_D M W2 (vb_va K) (fun g hg => by rw [mf_i ag2 23 (by decide) (by decide) (by decide)]; exact I.2.2.2.2.2.1 g hg) k_si_s (p2lt (by omega)) (by rw [ag2.2.1 38 (by decide)]; exact I.2.2.2.2.2.2.2) (by decide)
      rw [if_pos e50, k_one i (by omega)]
      refine k_b2 (m_earnedNow M D) (fun r h4 p => ?_)
      obtain ⟨p1, a4⟩ := p
      dsimp only at p1 a4
      have p1' : r = nI (k_rv z (2 ^ i) 0) := p1
      subst p1'
      have ag4 : k_mf [37, 21, 35] [24, 25] m h h4 := mf_tr ag2 (mf_mono a4 (by simp) (by simp))
      have W4 := W_mf I.2.1 ag4 ⟨by decide, by decide, by decide, by decide⟩ (fun r h1 h2 q => by simp at q; omega)
      have r1 := k_rvB K (2 ^ i) 0
      have take : ((k_slz z i).1 < k_rv z (2 ^ i) 0 + 1 ∨ ((k_slz z i).1 = k_rv z (2 ^ i) 0 + 1 ∧ z 4 (k_slz z i).2 < z 4 i)) → k_ok (fX5_sell_69 σ h4 m (p_slb (k_slz z i)) (nI (k_slz z i).1 - 1) (nI i) (nI (k_rv z (2 ^ i) 0))) (k_z (fun t => i < z 0 0 ∧ t.2.2.1 = nI (i + 1) ∧ t.2.1 = nI (k_slz z (i + 1)).1 - 1 ∧ t.1 = p_slb (k_slz z (i + 1)) ∧ k_mf [37, 21, 35] [24, 25] m h t.2.2.2) (fun o => o.1 = p_sell z ∧ k_mf [37, 21, 35] [24, 25] m h o.2)) := fun hc => by
        have le : (k_slz z i).1 ≤ k_rv z (2 ^ i) 0 + 1 := by omega
        rw [if_pos hc] at stp
        have gr : fX5_greater σ h4 (nI (k_slz z i).1 - 1) (nI (k_rv z (2 ^ i) 0)) = some (nI (k_rv z (2 ^ i) 0)) := by
          unfold fX5_greater
          rw [if_pos]
          rw [Int32.le_iff_toInt_le, nI_toInt (by omega)]
          cases hv : (k_slz z i).1 with
          | zero => rw [show (nI 0 - 1 : Int32).toInt = -1 by decide +kernel]; omega
          | succ n => rw [nI_pred, nI_toInt (by omega)]; omega
        unfold fX5_sell_69 fX5_sell_74 fX5_sell_86 fX5_sell_94
        rw [if_neg (by decide), gr, k_bs1, nI_1, stp]
        exact k_some ⟨q, rfl, (nI_pred _).symm, rfl, ag4⟩
      have keep : ¬ ((k_slz z i).1 < k_rv z (2 ^ i) 0 + 1 ∨ ((k_slz z i).1 = k_rv z (2 ^ i) 0 + 1 ∧ z 4 (k_slz z i).2 < z 4 i)) → k_ok (fX5_sell_73 σ h4 m (p_slb (k_slz z i)) (nI (k_slz z i).1 - 1) (nI i) (nI (k_rv z (2 ^ i) 0))) (k_z (fun t => i < z 0 0 ∧ t.2.2.1 = nI (i + 1) ∧ t.2.1 = nI (k_slz z (i + 1)).1 - 1 ∧ t.1 = p_slb (k_slz z (i + 1)) ∧ k_mf [37, 21, 35] [24, 25] m h t.2.2.2) (fun o => o.1 = p_sell z ∧ k_mf [37, 21, 35] [24, 25] m h o.2)) := fun hc => by
        have le : k_rv z (2 ^ i) 0 + 1 ≤ (k_slz z i).1 := by omega
        rw [if_neg hc] at stp
        obtain ⟨n, hv⟩ : ∃ n, (k_slz z i).1 = n + 1 := ⟨(k_slz z i).1 - 1, by omega⟩
        have gr : fX5_greater σ h4 (nI (k_slz z i).1 - 1) (nI (k_rv z (2 ^ i) 0)) = some (nI (k_slz z i).1 - 1) := by
          rw [hv, nI_pred, m_greater (by omega) (by omega), Nat.max_eq_left (by omega)]
        unfold fX5_sell_73 fX5_sell_74 fX5_sell_86 fX5_sell_94
        rw [if_pos rfl, gr, k_bs1, nI_1, stp]
        exact k_some ⟨q, rfl, rfl, rfl, ag4⟩
      simp only [k_prL (show (k_slz z i).1 < 2147483648 by omega) (show k_rv z (2 ^ i) 0 < 2147483647 by omega), k_subE (show k_rv z (2 ^ i) 0 < 2147483647 by omega) (show (k_slz z i).1 < 2147483648 by omega)]
      by_cases lt : (k_slz z i).1 < k_rv z (2 ^ i) 0 + 1
      · rw [if_pos lt]; exact take (Or.inl lt)
      · rw [if_neg lt]
        by_cases eq : 1 + k_rv z (2 ^ i) 0 = (k_slz z i).1
        · have ne : (k_slz z i).1 ≠ 0 := by omega
          have lb : (k_slz z i).2 < i := sC.resolve_left ne
          have w1 := va_wo K q
          have w2 := va_wo K (show (k_slz z i).2 < z 0 0 by omega)
          have eb : p_slb (k_slz z i) = nI (k_slz z i).2 := if_neg ne
          rw [if_pos eq, mr4 M, ml4 M, q_gu_t ⟨vp_in_nI (by omega) (by decide), by rw [eb]; exact vp_in_nI (by omega) (by decide)⟩, w4 W4 q, show (p_slb (k_slz z i)).toNatClampNeg = (k_slz z i).2 by rw [eb, k_cl (by omega)], w4 W4 (show (k_slz z i).2 < z 0 0 by omega)]
          simp only [k_le2 rfl (show z 4 i < 2147483648 by omega) (show z 4 (k_slz z i).2 < 2147483648 by omega)]
          by_cases le : z 4 i ≤ z 4 (k_slz z i).2
          · rw [if_pos le]
            exact keep (by omega)
          · rw [if_neg le]
            exact take (Or.inr ⟨by omega, by omega⟩)
        · rw [if_neg eq]
          exact keep (by omega)
    · rw [if_neg e50]
      exact skip h' ag (by rw [stp, if_neg e50])
  · have : i = z 0 0 := by omega
    subst this
    rw [if_pos (nI_le (Nat.le_refl _) (by omega))]
    exact k_some ⟨rfl, ag⟩
