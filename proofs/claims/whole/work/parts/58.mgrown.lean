/-! grown of the model -/
theorem k_gw0 {z : k_Z} {t b : Nat} : nL (k_gw z t b) = nL (if (p_op z).testBit b then (if t.testBit b then z 8 b else 10 - z 8 b) else 1) := rfl
theorem m_grown {σ : q_St} {h : q_Hp} {m : Nat} {z zi y : k_Z} {p : Bool} {c : Nat → Nat → Int32} (I : k_MI σ h m z p zi y c) (K : k_va z) (w : Int32) : k_ok (fX5_grown σ h m w) (fun r => r.1 = p_grown z w ∧ (r.2.1 = σ ∨ r.2.1 = q_sr σ m 34 (m + 21)) ∧ k_W r.2.2 m z ∧ k_mf k_lo k_ro m h r.2.2) := by
  have M := I.1
  have M2 := M_34 (v := m + 21) M
  have b7 := va_nb K
  have oB := p_opB K
  have pB := k_pcB (p_op z)
  have a0 : k_mf [21, 35] [24, 25] m h (q_si h m 21 0) := mf_th (by decide)
  have a0' : k_mf k_lo k_ro m h (q_si h m 21 0) := mf_th (by decide)
  have W0 := W_mf I.2.1 a0 ⟨by decide, by decide, by decide, by decide⟩ (fun r h1 h2 q => by simp at q; omega)
  unfold fX5_grown p_grown
  rw [m_in (lo := 0) (hi := 1) (by decide) (by decide), k_bs1]
  by_cases hw : 0 ≤ w ∧ w ≤ 1
  · rw [if_pos hw, if_pos hw, if_neg (by decide)]
    refine k_bind (k_for (n := z 0 1) (P := fun o => o = (nI (p_op z), σ, q_si h m 21 0)) (fun i t => t = (nI (k_bs (fun b => z 11 b == 9) i), nI i, σ, q_si h m 21 0)) (by rw [k_N]; omega) rfl ?_) (fun o p => ?_)
    · rintro i s hi e
      subst e
      show k_ok (fX5_grown_23 m w (nI (k_bs (fun b => z 11 b == 9) i)) (nI i) σ (q_si h m 21 0)) _
      unfold fX5_grown_23 fX5_grown_50
      rw [q_gu_t (mt0 M), w_nb W0]
      rcases Nat.lt_or_ge i (z 0 1) with q | q
      · have ha := va_ha9 K q
        rw [if_neg (nI_ge q (by omega)), mr12 M, ml11 M, q_gu_t ⟨mt11 M, vp_in_nI (by omega) (by decide)⟩, k_cl (by omega), w11 W0 q]
        simp only [k_eqL (show (9 : Int32) = nI 9 from rfl) (show z 11 i < 2147483648 by omega) (show 9 < 2147483648 by decide), nI_1]
        have acc := k_acc (p := fun b => z 11 b == 9) (i := i) (by omega)
        by_cases e9 : z 11 i = 9
        · rw [if_pos (by simpa using e9)] at acc
          rw [if_pos e9, acc]
          exact k_some ⟨q, rfl⟩
        · rw [if_neg (by simpa using e9)] at acc
          rw [if_neg e9, acc]
          exact k_some ⟨q, rfl⟩
      · have : i = z 0 1 := by omega
        subst this
        rw [if_pos (nI_le (Nat.le_refl _) (by omega))]
        exact k_some rfl
    · subst p
      dsimp only
      refine k_bind (k_for (n := k_pc (p_op z)) (P := fun o => o = (nL (10 ^ k_pc (p_op z)), σ, q_si h m 21 0)) (fun i t => t = (nL (10 ^ i), nI i, σ, q_si h m 21 0)) (by rw [k_N]; omega) rfl ?_) (fun o p => ?_)
      · rintro i s hi e
        subst e
        show k_ok (fX5_grown_66 m w (nI (p_op z)) 0 (nL (10 ^ i)) (nI i) σ (q_si h m 21 0)) _
        unfold fX5_grown_66
        rw [m_ones (by omega), k_bs1]
        rcases Nat.lt_or_ge i (k_pc (p_op z)) with q | q
        · rw [if_neg (nI_ge q (by omega)), show (10 : Int64) = nL 10 from rfl, nL_mul, nI_1]
          exact k_some ⟨q, rfl⟩
        · have : i = k_pc (p_op z) := by omega
          rw [if_pos (nI_le q (by omega)), this]
          exact k_some rfl
      · subst p
        dsimp only
        rw [q_gu_t (mt0 M)]
        refine k_b2 (m_open M W0 K) (fun σ2 h2 p => ?_)
        obtain ⟨e2, I2, a2⟩ := p
        dsimp only at e2 I2 a2
        subst e2
        have W2 : k_W h2 m z := W_mf W0 a2 ⟨by decide, by decide, by decide, by decide⟩ (fun r h1 h2 q => by simp at q; omega)
        have Q2 : k_T m h z h2 := ⟨W2, I2, mf_tr a0' (mf_mono a2 (by decide) (by decide))⟩
        have p2n : 2 ^ z 0 1 ≤ 128 := Nat.le_trans (Nat.pow_le_pow_right (by decide) b7) (show 2 ^ 7 ≤ 128 by decide)
        refine k_bind (k_for (n := 2 ^ z 0 1) (P := fun o => o.1 = nL (k_sm (k_gt z) (2 ^ z 0 1)) ∧ o.2.1 = q_sr σ m 34 (m + 21) ∧ k_T m h z o.2.2) (fun i t => t.2.1 = nI i ∧ t.1 = nL (k_sm (k_gt z) i) ∧ t.2.2.1 = q_sr σ m 34 (m + 21) ∧ k_T m h z t.2.2.2) (by rw [k_N]; omega) ⟨rfl, rfl, rfl, Q2⟩ ?_) (fun o p => ?_)
        · rintro i ⟨y3, x7, σ', h'⟩ hi ⟨e7, e3, es, Q⟩
          dsimp only at e7 e3 es Q
          subst e7; subst e3; subst es
          show k_ok (fX5_grown_96 m w (nI (p_op z)) (nL (10 ^ k_pc (p_op z))) (nL (k_sm (k_gt z) i)) (nI i) (q_sr σ m 34 (m + 21)) h') _
          unfold fX5_grown_96
          rw [q_gu_t (mt0 M2), w_nb Q.1, k_one (z 0 1) (by omega)]
          rcases Nat.lt_or_ge i (2 ^ z 0 1) with q | q
          · have sB := k_gtS K i (by omega)
            have stp : k_sm (k_gt z) (i + 1) = k_sm (k_gt z) i + k_gt z i := rfl
            have tB : i &&& (p_op z ^^^ 4294967295) < 2147483648 := Nat.lt_of_le_of_lt Nat.and_le_left (by omega)
            rw [if_neg (nI_ge q (by omega)), k_anX]
            simp only [k_eqL (show (0 : Int32) = nI 0 from rfl) tB (show 0 < 2147483648 by decide)]
            by_cases en : (i &&& (p_op z ^^^ 4294967295)) = 0
            · have ent : k_nt i (p_op z) = true := by unfold k_nt; simpa using en
              rw [if_pos en]
              refine k_bind (k_for (n := z 0 1) (P := fun o => o.1 = nL (k_gp z i (z 0 1)) ∧ o.2.1 = q_sr σ m 34 (m + 21) ∧ (∀ b, b < z 0 1 → q_int o.2.2 (m + 6) b = nI (k_zg z i 6 b)) ∧ k_mf [] [6] m h' o.2.2) (fun j t => t.2.1 = nI j ∧ t.1 = nL (k_gp z i j) ∧ t.2.2.1 = q_sr σ m 34 (m + 21) ∧ (∀ b, b < z 0 1 → q_int t.2.2.2 (m + 6) b = nI (if b < j then k_zg z i 6 b else z 6 b)) ∧ k_mf [] [6] m h' t.2.2.2) (by rw [k_N]; omega) ⟨rfl, rfl, rfl, fun b hb => by rw [if_neg (Nat.not_lt_zero _)]; exact w6 Q.1 hb, mf_rf⟩ ?_) (fun o p => ?_)
              · rintro j ⟨y8, x10, σ3, h3⟩ hj ⟨e10, e8, es3, hc, ag⟩
                dsimp only at e10 e8 es3 hc ag
                subst e10; subst e8; subst es3
                show k_ok (fX5_grown_122 m w (nI (p_op z)) (nL (k_sm (k_gt z) i)) (nL (10 ^ k_pc (p_op z))) (nI i) (nL (k_gp z i j)) (nI j) (q_sr σ m 34 (m + 21)) h3) _
                unfold fX5_grown_122
                rw [q_gu_t (mt0 M2), ag.2.1 6 (by decide), w_nb Q.1]
                rcases Nat.lt_or_ge j (z 0 1) with q2 | q2
                · have gw := va_gw K q2
                  have wa := va_wa K q2
                  have cj := hc j q2
                  rw [if_neg (Nat.lt_irrefl j)] at cj
                  have gst : k_gp z i (j + 1) = k_gp z i j * k_gw z i j := rfl
                  have put : ∀ v, nI v = nI (k_zg z i 6 j) → ∀ b, b < z 0 1 → q_int (q_si h3 (m + 6) j (nI v)) (m + 6) b = nI (if b < j + 1 then k_zg z i 6 b else z 6 b) := fun v ev b hb => by
                    by_cases eb : b = j
                    · subst eb; rw [k_si_s, if_pos (Nat.lt_succ_self b), ev]
                    · rw [k_si_j eb, hc b hb]
                      have : (b < j) ↔ b < j + 1 := by omega
                      simp only [this]
                  have fin : ∀ u, u = nL (k_gw z i j) → k_ok (fX5_grown_182 (q_sr σ m 34 (m + 21)) h3 m w (nI (p_op z)) (nL (k_sm (k_gt z) i)) (nL (10 ^ k_pc (p_op z))) (nI i) (nI j) (if i.testBit j then 1 else 0) u (nL (k_gp z i j))) (k_z (fun t => j < z 0 1 ∧ t.2.1 = nI (j + 1) ∧ t.1 = nL (k_gp z i (j + 1)) ∧ t.2.2.1 = q_sr σ m 34 (m + 21) ∧ (∀ b, b < z 0 1 → q_int t.2.2.2 (m + 6) b = nI (if b < j + 1 then k_zg z i 6 b else z 6 b)) ∧ k_mf [] [6] m h' t.2.2.2) (fun o => o.1 = nL (k_gp z i (z 0 1)) ∧ o.2.1 = q_sr σ m 34 (m + 21) ∧ (∀ b, b < z 0 1 → q_int o.2.2 (m + 6) b = nI (k_zg z i 6 b)) ∧ k_mf [] [6] m h' o.2.2)) := fun u eu => by
                    subst eu
                    unfold fX5_grown_182 fX5_grown_214 fX5_grown_215
                    rw [mr7 M2, ml6 M2, q_gu_t ⟨mt0 M2, mt6 M2, vp_in_nI (by omega) (by decide)⟩, k_cl (by omega), cj, k_01i, q_gu_t ⟨mt6 M2, vp_in_nI (by omega) (by decide)⟩, q_gu_t ⟨mt6 M2, vp_in_nI (by omega) (by decide)⟩, nL_mul, nI_1, show (0 : Int32) = nI 0 from rfl, show (1 : Int32) = nI 1 from rfl, nI_add, nI_add]
                    simp only [k_le1 (show (20 : Int32) = nI 20 from rfl) (show z 6 j < 2147483648 by omega) (show 20 < 2147483648 by decide)]
                    have z6 : k_zg z i 6 j = if i.testBit j then min (z 6 j + 1) 20 else z 6 j := zg_6
                    cases et : i.testBit j with
                    | false =>
                      rw [et, if_neg (by decide)] at z6
                      rw [if_neg (by decide)]
                      exact k_some ⟨q2, rfl, rfl, rfl, put _ (by rw [z6]; rfl), mf_ar ag (by decide) (by decide)⟩
                    | true =>
                      rw [et, if_pos rfl] at z6
                      rw [if_pos rfl]
                      by_cases l : 20 ≤ z 6 j
                      · rw [if_pos l]
                        exact k_some ⟨q2, rfl, rfl, rfl, put _ (by rw [z6, Nat.min_eq_right (by omega), show z 6 j = 20 by omega]), mf_ar ag (by decide) (by decide)⟩
                      · rw [if_neg l]
                        exact k_some ⟨q2, rfl, rfl, rfl, put _ (by rw [z6, Nat.min_eq_left (by omega)]), mf_ar ag (by decide) (by decide)⟩
                  have c8 : q_int h3 (m + 8) j = nI (z 8 j) := by rw [mf_i ag 8 (by decide) (by decide) (by decide)]; exact w8 Q.1 q2
                  rw [if_neg (nI_ge q2 (by omega)), m_hasBit (by omega) (by omega), k_bs1, m_hasBit (by omega) (by omega), k_bs1, mr9 M2, ml8 M2, q_gu_t ⟨mt8 M2, vp_in_nI (by omega) (by decide)⟩, q_gu_t ⟨mt8 M2, vp_in_nI (by omega) (by decide)⟩, k_cl (by omega), c8, show (10 : Int32) = nI 10 from rfl, pk_sub (by omega), nL_of (by omega), nL_of (by omega)]
                  simp only [k_01i]
                  have gwE : k_gw z i j = if (p_op z).testBit j then (if i.testBit j then z 8 j else 10 - z 8 j) else 1 := rfl
                  cases eo : (p_op z).testBit j with
                  | false =>
                    rw [eo, if_neg (by decide)] at gwE
                    rw [if_neg (by decide)]; exact fin _ (by rw [gwE]; rfl)
                  | true =>
                    rw [eo, if_pos rfl] at gwE
                    rw [if_pos rfl]
                    cases et : i.testBit j with
                    | false =>
                      rw [et, if_neg (by decide)] at gwE
                      rw [et] at fin
                      rw [if_neg (by decide)]; exact fin _ (by rw [gwE])
                    | true =>
                      rw [et, if_pos rfl] at gwE
                      rw [et] at fin
                      rw [if_pos rfl]; exact fin _ (by rw [gwE])
                · have : j = z 0 1 := by omega
                  subst this
                  rw [if_pos (nI_le (Nat.le_refl _) (by omega))]
                  exact k_some ⟨rfl, rfl, fun b hb => by have := hc b hb; rw [if_pos hb] at this; exact this, ag⟩
              · obtain ⟨o1, o2, o3⟩ := o
                obtain ⟨e1, e2, hc, ag⟩ := p
                dsimp only at e1 e2 hc ag
                subst e1; subst e2
                have gB := k_gpB K i (z 0 1)
                have g7 := p10_7 b7
                have a3 : k_mf k_lo k_ro m h o3 := mf_tr Q.2.2 (mf_mono ag (by decide) (by decide))
                have I3 : k_I o3 (m + 21) z := k_I_cg Q.2.1 (fun i => mf_i ag 21 (by decide) (by decide) (by decide) i)
                have fin : ∀ v h4, v = k_gt z i → k_I h4 (m + 21) z → k_mf k_lo k_ro m h h4 → k_ok (fX5_grown_248 (q_sr σ m 34 (m + 21)) h4 m w (nI (p_op z)) (nL (10 ^ k_pc (p_op z))) (nI i) (nL v) (nL (k_sm (k_gt z) i))) (k_z (fun t => i < 2 ^ z 0 1 ∧ t.2.1 = nI (i + 1) ∧ t.1 = nL (k_sm (k_gt z) (i + 1)) ∧ t.2.2.1 = q_sr σ m 34 (m + 21) ∧ k_T m h z t.2.2.2) (fun o => o.1 = nL (k_sm (k_gt z) (2 ^ z 0 1)) ∧ o.2.1 = q_sr σ m 34 (m + 21) ∧ k_T m h z o.2.2)) := fun v h4 ev I4 a4 => by
                  unfold fX5_grown_248 fX5_grown_254
                  rw [q_gu_t (mt0 M2)]
                  refine k_b2 (m_shut M2 K k_sr_id I4 a4) (fun σ7 h7 p => ?_)
                  obtain ⟨e7, Q7⟩ := p
                  dsimp only at e7 Q7
                  subst e7
                  rw [nL_add, nI_1]
                  exact k_some ⟨q, rfl, by rw [stp, ev], rfl, Q7⟩
                unfold fX5_grown_247
                dsimp only
                simp only [nL_le0 (show k_gp z i (z 0 1) < 9223372036854775808 by omega)]
                by_cases w0 : k_gp z i (z 0 1) = 0
                · rw [if_pos w0]
                  refine fin 0 o3 ?_ I3 a3
                  unfold k_gt
                  rw [ent, if_pos rfl, w0]; split <;> rfl
                · rw [if_neg w0, q_gu_t (mt0 M2)]
                  have W3 : k_W o3 m (k_zg z i) := by
                    have Wz := Q.1
                    refine ⟨⟨?_, ?_, ?_, ?_⟩, fun r s hr hs => ?_, fun r s hr hs => ?_⟩
                    · rw [ag.2.1 0 (by decide), zg_n (by decide)]; exact Wz.1.1
                    · rw [ag.2.1 6 (by decide), zg_n (by decide)]; exact Wz.1.2.1
                    · rw [ag.2.1 13 (by decide), zg_n (by decide)]; exact Wz.1.2.2.1
                    · rw [ag.2.1 14 (by decide), zg_n (by decide)]; exact Wz.1.2.2.2
                    · rw [zg_n (by decide)] at hs
                      rw [mf_i ag r hr.1 (by omega) (by simp; omega), zg_n (by omega)]; exact Wz.2.1 r s hr hs
                    · rw [zg_n (by decide)] at hs
                      by_cases e6 : r = 6
                      · subst e6; exact hc s hs
                      · rw [mf_i ag r (by omega) (by omega) (by simp; omega), zg_n e6]; exact Wz.2.2 r s hr hs
                  have F3 := k_Kf_mf I.2.2.2.2.2 a3 (by decide) (by decide)
                  have D := m_D M2 W3 (zg_vb K) (kf := k_any) F3.1 F3.2.1 (by decide) F3.2.2 (by decide)
                  refine k_b2 (m_servedNow M2 D) (fun r h4 p => ?_)
                  obtain ⟨p1, -, a4⟩ := p
                  dsimp only at p1 a4
                  have p1' : r = nI (k_gval z i) := p1.trans (congrArg nI (by rw [zg_n (z := z) (t := i) (r := 0) (i := 1) (by decide)]; rfl))
                  subst p1'
                  have vB := k_gvalB K i
                  have I4 : k_I h4 (m + 21) z := k_I_cg I3 (fun i => mf_i a4 21 (by decide) (by decide) (by decide) i)
                  have a4' := mf_tr a3 (mf_mono a4 (by decide) (by decide) : k_mf k_lo k_ro m o3 h4)
                  rw [m_ones (by omega), k_bs1]
                  simp only [k_eqL rfl (show k_gval z i < 2147483648 by omega) (show k_pc (p_op z) < 2147483648 by omega)]
                  by_cases hit : k_gval z i = k_pc (p_op z)
                  · rw [if_pos hit]
                    exact fin _ h4 (by unfold k_gt; rw [ent, if_pos rfl, if_pos hit]) I4 a4'
                  · rw [if_neg hit]
                    exact fin 0 h4 (by unfold k_gt; rw [ent, if_pos rfl, if_neg hit]) I4 a4'
            · rw [if_neg en]
              unfold fX5_grown_254
              rw [nI_1]
              refine k_some ⟨q, rfl, ?_, rfl, Q⟩
              dsimp only
              rw [stp]
              unfold k_gt k_nt
              rw [if_neg (by simpa using en)]; rfl
          · have : i = 2 ^ z 0 1 := by omega
            rw [if_pos (nI_le q (by omega)), this]
            exact k_some ⟨rfl, rfl, Q⟩
        · obtain ⟨o1, o2, o3⟩ := o
          obtain ⟨e1, e2, Q3⟩ := p
          dsimp only at e1 e2 Q3
          subst e1; subst e2
          have sB := k_gtS K 128 (by omega)
          have tB := p10_8 _ pB
          have P : 1280000000 < 2 ^ 60 := by decide
          dsimp only
          rw [← k_gtE K, m_partOf (by omega) tB.1 tB.2, k_bs1]
          exact k_some ⟨rfl, Or.inr rfl, Q3.1, Q3.2.2⟩
  · rw [if_neg hw, if_neg hw, if_pos rfl]
    exact k_some ⟨rfl, Or.inl rfl, W0, a0'⟩
