/-! buy -/
def k_byv (z : k_Z) (sz k : Nat) : Nat := g_top (g_x z k sz) (g_wx z k 5)
def k_byz (z : k_Z) (sz : Nat) : Nat → Nat × Nat
  | 0 => (0, 0)
  | k + 1 => if (k_byz z sz k).1 < k_byv z sz k + 1 then (k_byv z sz k + 1, k) else k_byz z sz k
theorem k_byvB {z : k_Z} (K : k_va z) {sz k : Nat} (hk : k < 8) : k_byv z sz k ≤ 336 := g_mB (T := 48) (fun s _ _ => g_wxB K hk (by decide) s) 7 0
theorem k_byB {z : k_Z} (K : k_va z) {sz : Nat} : ∀ k, k ≤ 8 → (k_byz z sz k).1 ≤ 337
  | 0, _ => by show 0 ≤ 337; decide
  | k + 1, h => by
    have ih := k_byB K (sz := sz) k (by omega)
    have := k_byvB K (sz := sz) (show k < 8 by omega)
    unfold k_byz
    split
    · dsimp only; omega
    · exact ih
def p_buy (z : k_Z) (a b : Int32) : Int32 := if 0 ≤ a ∧ a ≤ 20 then (if 0 ≤ b ∧ b ≤ 1 then (if b = 0 then nI (k_byz z a.toNatClampNeg 8).2 else (nI (k_byz z a.toNatClampNeg 8).1 - 1) - nI (k_rv z 0 0)) else -1) else -1
theorem k_prLe {v t : Nat} (hv : v < 2147483648) (ht : t < 2147483647) : (nI t ≤ nI v - 1) = (t + 1 ≤ v) := by
  apply propext
  rw [Int32.le_iff_toInt_le, nI_toInt (show t < 2147483648 by omega)]
  cases v with
  | zero => rw [show (nI 0 - 1 : Int32).toInt = -1 by decide +kernel]; omega
  | succ n => rw [nI_pred, nI_toInt (by omega)]; omega
theorem m_greaterP {σ : q_St} {h : q_Hp} {v t : Nat} (hv : v < 2147483648) (ht : t < 2147483647) : fX5_greater σ h (nI v - 1) (nI t) = some (nI (max v (t + 1)) - 1) := by
  cases v with
  | zero =>
    unfold fX5_greater
    rw [if_pos, Nat.max_eq_right (Nat.zero_le _), nI_pred]
    rw [Int32.le_iff_toInt_le, nI_toInt (by omega), show (nI 0 - 1 : Int32).toInt = -1 by decide +kernel]
    omega
  | succ n =>
    rw [nI_pred, m_greater (by omega) (by omega)]
    rcases Nat.le_total n t with l | l
    · rw [Nat.max_eq_right l, Nat.max_eq_right (by omega), nI_pred]
    · rw [Nat.max_eq_left l, Nat.max_eq_left (by omega), nI_pred]
theorem k_is21 {a : Int32} (h : 0 ≤ a ∧ a ≤ 20) : ∃ j, j < 21 ∧ a = nI j := k_is_t (n := 21) (by decide) (decide_eq_true ⟨h.1, by rw [show nI 21 - 1 = (20 : Int32) by decide]; exact h.2⟩)
theorem c_buy {σ : q_St} {h : q_Hp} {x A B : Nat} {z zi y : k_Z} {p : Bool} {c : Nat → Nat → Int32} (I : k_CI σ h x A B z p zi y c) (K : k_va z) (a b : Int32) : k_ok (fX4_buy σ h x a b) (fun r => r.1 = p_buy z a b ∧ k_ag (fun a => ¬ k_scr x a) h r.2) := by
  have X := I.1
  have T := xF X
  have hAB := xAB X
  unfold fX4_buy p_buy
  rw [xr0 X, xr6 X, xr8 X, q_gu_t ⟨ft0 T, (xA X).1, xt41 X⟩, c_isIn, k_bs1]
  by_cases ha : 0 ≤ a ∧ a ≤ 20
  · rw [if_pos ha, if_pos ha, if_neg (by decide), c_isIn, k_bs1]
    by_cases hb : 0 ≤ b ∧ b ≤ 1
    · rw [if_pos hb, if_pos hb, if_neg (by decide)]
      obtain ⟨sz, hz, rfl⟩ := k_is21 ha
      rw [k_cl (by omega)]
      refine k_bind (CI_load I K) (fun h3 p => ?_)
      obtain ⟨L, g⟩ := p
      refine k_b2 (c_richZ T K L) (fun r h5 p => ?_)
      obtain ⟨p1, g2⟩ := p
      dsimp only at p1 g2
      have p1' : r = nI (k_rv z 0 0) := p1
      subst p1'
      refine k_bind (k_for (n := 8) (P := fun o => o.1 = nI (k_byz z sz 8).1 - 1 ∧ o.2.1 = nI (k_byz z sz 8).2 ∧ k_ag (k_oF (x + 43)) h o.2.2) (fun i t => t.2.2.1 = nI i ∧ t.1 = nI (k_byz z sz i).1 - 1 ∧ t.2.1 = nI (k_byz z sz i).2 ∧ k_L7 t.2.2.2 (x + 43) z ∧ k_ag (k_oF (x + 43)) h t.2.2.2) (by rw [k_N]; omega) ⟨rfl, (show (-1 : Int32) = nI 0 - 1 by decide), rfl, L7_of (L3_fz L g2), k_ag_tr g (oF_fz g2)⟩ ?_) (fun o p => ?_)
      · rintro i ⟨x4, x5, x6, h'⟩ hi ⟨e6, e4, e5, L', ag⟩
        dsimp only at e6 e4 e5 L' ag
        subst e6; subst e4; subst e5
        show k_ok (fX4_buy_63 σ x (nI sz) b (nI (k_rv z 0 0)) (nI (k_byz z sz i).1 - 1) (nI (k_byz z sz i).2) (nI i) h') _
        unfold fX4_buy_63
        rw [xr0 X, xr6 X, xr8 X, xl41 X, k_ofN]
        rcases Nat.lt_or_ge i 8 with q | q
        · obtain ⟨kr, kt⟩ := xK X i q
          have U0 := I.2.2.2.2.2.1 i q
          rw [if_neg (nI_ge q (by decide)), q_gu_t (vp_in_nI q (by decide)), k_cl (by omega), kr, if_neg (by omega), q_gu_t kt]
          refine k_bind (c_lend T (V_oF I.2.1 T (by omega) ag) K (su_mv U0 rfl (fun j => k_agI ag (show k_oF (x + 43) (x + 80 + i) from fun q => by omega) j)) hz L') (fun h4 p => ?_)
          obtain ⟨L4, e3, e4, g4⟩ := p
          refine k_b2 (c_rich7 T K L4 e3 e4 q (by decide)) (fun r h6 p => ?_)
          obtain ⟨p1, g6⟩ := p
          dsimp only at p1 g6
          have p1' : r = nI (k_byv z sz i) := p1
          subst p1'
          have L6 := L7_fz L4 g6
          have ag6 := k_ag_tr (k_ag_tr ag g4) (oF_fz g6)
          have vB := k_byvB K (sz := sz) q
          have bB := k_byB K (sz := sz) i (by omega)
          have stp : k_byz z sz (i + 1) = if (k_byz z sz i).1 < k_byv z sz i + 1 then (k_byv z sz i + 1, i) else k_byz z sz i := rfl
          unfold fX4_buy_134
          simp only [k_prLe (show (k_byz z sz i).1 < 2147483648 by omega) (show k_byv z sz i < 2147483647 by omega), nI_1]
          by_cases le : k_byv z sz i + 1 ≤ (k_byz z sz i).1
          · rw [if_pos le]
            rw [if_neg (by omega)] at stp
            exact k_some ⟨q, rfl, by rw [stp], by rw [stp], L6, ag6⟩
          · rw [if_neg le]
            rw [if_pos (by omega)] at stp
            exact k_some ⟨q, rfl, by rw [stp]; exact (nI_pred _).symm, by rw [stp], L6, ag6⟩
        · have : i = 8 := by omega
          subst this
          rw [if_pos (nI_le (Nat.le_refl _) (by decide))]
          exact k_some ⟨rfl, rfl, ag⟩
      · obtain ⟨o1, o2, o3⟩ := o
        obtain ⟨e1, e2, g3⟩ := p
        dsimp only at e1 e2 g3
        subst e1; subst e2
        by_cases b0 : b = 0
        · rw [if_pos b0, if_pos b0]; exact k_some ⟨rfl, scr_oF g3⟩
        · rw [if_neg b0, if_neg b0]; exact k_some ⟨rfl, scr_oF g3⟩
    · rw [if_neg hb, if_neg hb, if_pos rfl]
      exact k_some ⟨rfl, k_ag_rf⟩
  · rw [if_neg ha, if_neg ha, if_pos rfl]
    exact k_some ⟨rfl, k_ag_rf⟩
theorem m_buy {σ : q_St} {h : q_Hp} {m : Nat} {z zi y : k_Z} {p : Bool} {c : Nat → Nat → Int32} (I : k_MI σ h m z p zi y c) (K : k_va z) (a b : Int32) : k_ok (fX5_buy σ h m a b) (fun r => r.1 = p_buy z a b ∧ (r.2.1 = σ ∨ r.2.1 = q_sr σ m 34 (m + 21)) ∧ k_W r.2.2 m z ∧ k_mf k_lo k_ro m h r.2.2) := by
  have M := I.1
  have M2 := M_34 (v := m + 21) M
  have a0 : k_mf [21, 35] [24, 25] m h (q_si h m 21 0) := mf_th (by decide)
  have a0' : k_mf k_lo k_ro m h (q_si h m 21 0) := mf_th (by decide)
  have W0 := W_mf I.2.1 a0 ⟨by decide, by decide, by decide, by decide⟩ (fun r h1 h2 q => by simp at q; omega)
  unfold fX5_buy p_buy
  rw [m_in (lo := 0) (hi := 20) (by decide) (by decide), k_bs1]
  by_cases ha : 0 ≤ a ∧ a ≤ 20
  · rw [if_pos ha, if_pos ha, if_neg (by decide), m_in (lo := 0) (hi := 1) (by decide) (by decide), k_bs1]
    by_cases hb : 0 ≤ b ∧ b ≤ 1
    · rw [if_pos hb, if_pos hb, if_neg (by decide)]
      obtain ⟨sz, hz, rfl⟩ := k_is21 ha
      rw [k_cl (by omega)]
      refine k_b2 (m_earnedNow M (D_th I K)) (fun r h1 p => ?_)
      obtain ⟨p1, a1⟩ := p
      dsimp only at p1 a1
      have p1' : r = nI (k_rv z 0 0) := p1
      subst p1'
      have a01 : k_mf k_lo k_ro m h h1 := mf_tr a0' (mf_mono a1 (by decide) (by decide))
      have W1 : k_W h1 m z := W_mf W0 a1 ⟨by decide, by decide, by decide, by decide⟩ (fun r h1 h2 q => by simp at q; omega)
      refine k_b2 (m_open M W1 K) (fun σ2 h2 p => ?_)
      obtain ⟨e2, I2, a2⟩ := p
      dsimp only at e2 I2 a2
      subst e2
      have W2 : k_W h2 m z := W_mf W1 a2 ⟨by decide, by decide, by decide, by decide⟩ (fun r h1 h2 q => by simp at q; omega)
      refine k_bind (k_for (n := 8) (P := fun o => o.1 = nI (k_byz z sz 8).2 ∧ o.2.1 = nI (k_byz z sz 8).1 - 1 ∧ o.2.2.1 = q_sr σ m 34 (m + 21) ∧ k_T m h z o.2.2.2) (fun i t => t.2.2.1 = nI i ∧ t.1 = nI (k_byz z sz i).2 ∧ t.2.1 = nI (k_byz z sz i).1 - 1 ∧ t.2.2.2.1 = q_sr σ m 34 (m + 21) ∧ k_T m h z t.2.2.2.2) (by rw [k_N]; omega) ⟨rfl, rfl, (show (-1 : Int32) = nI 0 - 1 by decide), rfl, W2, I2, mf_tr a01 (mf_mono a2 (by decide) (by decide))⟩ ?_) (fun o p => ?_)
      · rintro i ⟨x4, x5, x6, σ', h'⟩ hi ⟨e6, e4, e5, es, Q⟩
        dsimp only at e6 e4 e5 es Q
        subst e6; subst e4; subst e5; subst es
        show k_ok (fX5_buy_47 m (nI sz) b (nI (k_rv z 0 0)) (nI (k_byz z sz i).2) (nI (k_byz z sz i).1 - 1) (nI i) (q_sr σ m 34 (m + 21)) h') _
        unfold fX5_buy_47
        rcases Nat.lt_or_ge i 8 with q | q
        · rw [if_neg (k_geL (n := 8) (l := 8) rfl q (by decide)), q_gu_t (mt0 M2)]
          refine k_bind (show k_ok (fX5_add (q_sr σ m 34 (m + 21)) h' m (nI i) 5 (nI sz)) _ from m_try (k := i) (f := 5) M2 K I.2.2.2.2.2 Q q (by decide) (show sz ≤ 20 by omega)) (fun h5 p => ?_)
          obtain ⟨⟨I5, a5⟩, wo, D5⟩ := p
          refine k_b2 (m_earnedNow M2 D5) (fun r h6 p => ?_)
          obtain ⟨p1, a6⟩ := p
          dsimp only at p1 a6
          have p1' : r = nI (k_byv z sz i) := p1.trans (congrArg nI (g_xT (f := 5) (wo := wo) K).2)
          subst p1'
          have I6 : k_I h6 (m + 21) z := k_I_cg I5 (fun i => mf_i a6 21 (by decide) (by decide) (by decide) i)
          refine k_b2 (m_shut M2 K k_sr_id I6 (mf_tr a5 (mf_mono a6 (by decide) (by decide)))) (fun σ7 h7 p => ?_)
          obtain ⟨e7, Q7⟩ := p
          dsimp only at e7 Q7
          subst e7
          have vB := k_byvB K (sz := sz) q
          have bB := k_byB K (sz := sz) i (by omega)
          have stp : k_byz z sz (i + 1) = if (k_byz z sz i).1 < k_byv z sz i + 1 then (k_byv z sz i + 1, i) else k_byz z sz i := rfl
          unfold fX5_buy_86
          simp only [k_prLe (show (k_byz z sz i).1 < 2147483648 by omega) (show k_byv z sz i < 2147483647 by omega), m_greaterP (show (k_byz z sz i).1 < 2147483648 by omega) (show k_byv z sz i < 2147483647 by omega), k_bs1, nI_1]
          by_cases le : k_byv z sz i + 1 ≤ (k_byz z sz i).1
          · rw [if_pos le]
            rw [if_neg (by omega)] at stp
            exact k_some ⟨q, rfl, by rw [stp], by dsimp only; rw [stp, Nat.max_eq_left le], rfl, Q7⟩
          · rw [if_neg le]
            rw [if_pos (by omega)] at stp
            exact k_some ⟨q, rfl, by rw [stp], by dsimp only; rw [stp, Nat.max_eq_right (by omega)], rfl, Q7⟩
        · have : i = 8 := by omega
          subst this
          rw [if_pos (k_leL (n := 8) (l := 8) rfl (Nat.le_refl _) (by decide))]
          exact k_some ⟨rfl, rfl, rfl, Q⟩
      · obtain ⟨o1, o2, o3, o4⟩ := o
        obtain ⟨e1, e2, e3, Q3⟩ := p
        dsimp only at e1 e2 e3 Q3
        subst e1; subst e2; subst e3
        by_cases b0 : b = 0
        · rw [if_pos b0, if_pos b0]; exact k_some ⟨rfl, Or.inr rfl, Q3.1, Q3.2.2⟩
        · rw [if_neg b0, if_neg b0]; exact k_some ⟨rfl, Or.inr rfl, Q3.1, Q3.2.2⟩
    · rw [if_neg hb, if_neg hb, if_pos rfl]
      exact k_some ⟨rfl, Or.inl rfl, W0, a0'⟩
  · rw [if_neg ha, if_neg ha, if_pos rfl]
    exact k_some ⟨rfl, Or.inl rfl, W0, a0'⟩
