/-! one suit more, one booking more -/
theorem V_cg {σ : q_St} {h : q_Hp} {A : Nat} {z z' : k_Z} (V : k_V σ h A z) (e0 : ∀ j, j < 4 → z' 0 j = z 0 j) (e1 : ∀ r s, 1 ≤ r → r ≤ 5 → s < z 0 0 → z' r s = z r s) (e2 : ∀ r b, 6 ≤ r → r ≤ 11 → b < z 0 1 → z' r b = z r b) : k_V σ h A z' := by
  refine ⟨vS V, fun j hj => by rw [e0 j hj]; exact V.2.1 j hj, fun s hs => ?_, fun r s hr hs => ?_, fun r s hr hs => ?_⟩
  · rw [e0 0 (by decide)] at hs
    rw [e1 1 s (by decide) (by decide) hs, e1 2 s (by decide) (by decide) hs]; exact v_su V hs
  · rw [e0 0 (by decide)] at hs
    rw [e1 r s (by omega) (by omega) hs]; exact V.2.2.2.1 r s hr hs
  · rw [e0 1 (by decide)] at hs
    rw [e2 r s (by omega) (by omega) hs]; exact V.2.2.2.2 r s hr hs
theorem W_cg {h : q_Hp} {m : Nat} {z z' : k_Z} (W : k_W h m z) (e0 : ∀ j, j < 4 → z' 0 j = z 0 j) (e1 : ∀ r s, 1 ≤ r → r ≤ 5 → s < z 0 0 → z' r s = z r s) (e2 : ∀ r b, 6 ≤ r → r ≤ 11 → b < z 0 1 → z' r b = z r b) : k_W h m z' := by
  refine ⟨⟨by rw [e0 0 (by decide)]; exact W.1.1, by rw [e0 1 (by decide)]; exact W.1.2.1, by rw [e0 2 (by decide)]; exact W.1.2.2.1, by rw [e0 3 (by decide)]; exact W.1.2.2.2⟩, fun r s hr hs => ?_, fun r s hr hs => ?_⟩
  · rw [e0 0 (by decide)] at hs
    rw [e1 r s (by omega) (by omega) hs]; exact W.2.1 r s hr hs
  · rw [e0 1 (by decide)] at hs
    rw [e2 r s (by omega) (by omega) hs]; exact W.2.2 r s hr hs
theorem S_sr {σ : q_St} {A n a : Nat} (S : k_sh σ A) (ha : q_tag σ a = 4) : k_sh (q_sr σ (A + 1) n a) A := by
  refine ⟨S.1, fun k hk => ?_, S.2.2.1, S.2.2.2.1, S.2.2.2.2.1, S.2.2.2.2.2.1, fun s hs => ?_⟩
  · rw [k_sr_n (by omega)]; exact S.2.1 k hk
  · rw [k_sr_t]
    by_cases e : s = n
    · subst e; rw [k_sr_s]; exact Or.inr ha
    · rw [k_sr_j e]; exact S.2.2.2.2.2.2 s hs
theorem V_sr {σ : q_St} {h : q_Hp} {A n a : Nat} {z : k_Z} (V : k_V σ h A z) (ha : q_tag σ a = 4) (hn : z 0 0 ≤ n) : k_V (q_sr σ (A + 1) n a) h A z :=
  ⟨S_sr (vS V) ha, V.2.1, fun s hs => by rw [k_sr_j (by omega)]; exact su_mv (v_su V hs) rfl (fun _ => rfl), V.2.2.2.1, V.2.2.2.2⟩
theorem c_addS {σ : q_St} {h : q_Hp} {A a k f sz wo : Nat} {z : k_Z} (V : k_V σ h A z) (K : k_va z) (U : k_su σ h a k f) : k_ok (fX2_addSuit σ h A a (nI sz) (nI wo)) (fun r => if z 0 0 < 7 then r.1 = nI (z 0 0) ∧ r.2.1 = q_sr σ (A + 1) (z 0 0) a ∧ k_V r.2.1 r.2.2 A (k_newS z k f sz wo) ∧ k_ag (k_oS A) h r.2.2 else r = (-2, σ, h)) := by
  have S := vS V
  have n7 := va_ns K
  unfold fX2_addSuit
  rw [v_ns V, if_neg (nI_pos (by omega)), sr0 S, q_gu_t (st1 S), sl1 S, k_ofN]
  by_cases q : z 0 0 < 7
  · have S' : k_sh (q_sr σ (A + 1) (z 0 0) a) A := S_sr S (sut U)
    simp only [if_pos q]
    rw [if_pos (nI_lt q (by decide)), q_gu_t (vp_in_nI q (by decide)), k_cl (by omega), sr1 S', sr2 S', sr3 S', q_gu_t (st2 S), c_set (sl2 S') q (by decide), k_bs1, q_gu_t (st3 S), c_set (sl3 S') q (by decide), k_bs1, q_gu_t (st4 S), c_set (sl4 S') q (by decide), k_bs1]
    have V0 : k_V (q_sr σ (A + 1) (z 0 0) a) h A (k_zu (k_zu z 1 (z 0 0) k) 2 (z 0 0) f) := V_cg (V_sr V (sut U) (Nat.le_refl _)) (fun j _ => by rw [k_zu_r (by omega), k_zu_r (by omega)]) (fun r s _ _ hs => by rw [k_zu_n (by omega), k_zu_n (by omega)]) (fun r s _ _ hs => by rw [k_zu_r (by omega), k_zu_r (by omega)])
    have V3 : k_V (q_sr σ (A + 1) (z 0 0) a) (q_si (q_si (q_si h (A + 2) (z 0 0) (nI sz)) (A + 3) (z 0 0) (nI wo)) (A + 4) (z 0 0) 0) A (k_zu (k_zu (k_zu (k_zu (k_zu z 1 (z 0 0) k) 2 (z 0 0) f) 3 (z 0 0) sz) 4 (z 0 0) wo) 5 (z 0 0) 0) := V_put (r := 5) (i := z 0 0) (v := 0) (V_put (r := 4) (i := z 0 0) (v := wo) (V_put (r := 3) (i := z 0 0) (v := sz) V0 (by omega)) (by omega)) (by omega)
    have A3 : k_ag (k_oS A) h (q_si (q_si (q_si h (A + 2) (z 0 0) (nI sz)) (A + 3) (z 0 0) (nI wo)) (A + 4) (z 0 0) 0) := k_ag_si (k_ag_si (k_ag_si k_ag_rf (k_oS_n (by omega))) (k_oS_n (by omega))) (k_oS_n (by omega))
    have I3 : ∀ r, 3 ≤ r → r ≤ 5 → q_int (q_si (q_si (q_si h (A + 2) (z 0 0) (nI sz)) (A + 3) (z 0 0) (nI wo)) (A + 4) (z 0 0) 0) (A + (r - 1)) (z 0 0) = nI (if r = 3 then sz else if r = 4 then wo else 0) := by
      intro r h1 h2
      rcases (show r = 3 ∨ r = 4 ∨ r = 5 by omega) with rfl | rfl | rfl
      · rw [k_si_n (by omega), k_si_n (by omega), k_si_s]; rfl
      · rw [k_si_n (by omega), k_si_s]; rfl
      · rw [k_si_s]; rfl
    have U3 : k_su (q_sr σ (A + 1) (z 0 0) a) (q_si (q_si (q_si h (A + 2) (z 0 0) (nI sz)) (A + 3) (z 0 0) (nI wo)) (A + 4) (z 0 0) 0) a k f := by
      have ne : ∀ j, 2 ≤ j → j ≤ 10 → a ≠ A + j := fun j h1 h2 e => by
        have t := sut U
        rw [e, (S.2.2.2.2.1 j ⟨h1, h2⟩).1] at t
        exact absurd t (by decide)
      exact su_mv U rfl (fun i => by rw [k_si_n (ne 4 (by omega) (by omega)), k_si_n (ne 3 (by omega) (by omega)), k_si_n (ne 2 (by omega) (by omega))])
    generalize q_si (q_si (q_si h (A + 2) (z 0 0) (nI sz)) (A + 3) (z 0 0) (nI wo)) (A + 4) (z 0 0) 0 = h3 at V3 A3 I3 U3 ⊢
    generalize ez : k_zu (k_zu (k_zu (k_zu (k_zu z 1 (z 0 0) k) 2 (z 0 0) f) 3 (z 0 0) sz) 4 (z 0 0) wo) 5 (z 0 0) 0 = z3 at V3
    have f0 : z3 0 0 = z 0 0 := by rw [← ez]; simp [k_zu]
    have e8 : q_int h3 A 11 = nI (z 0 0) := by rw [v_ns V3, f0]
    have st : q_ref (q_sr σ (A + 1) (z 0 0) a) (A + 1) (z 0 0) = a := k_sr_s
    have V4 := V_ns V3 (by rw [f0, st, show z3 1 (z 0 0) = k by rw [← ez]; simp [k_zu], show z3 2 (z 0 0) = f by rw [← ez]; simp [k_zu]]; exact U3) (fun r h1 h2 => by
      rw [f0, I3 r h1 h2]
      rcases (show r = 3 ∨ r = 4 ∨ r = 5 by omega) with rfl | rfl | rfl <;> rw [← ez] <;> simp [k_zu])
    rw [f0, ← ez] at V4
    rw [e8, nI_1]
    exact k_some ⟨rfl, rfl, V4, k_ag_si A3 k_oS_0⟩
  · simp only [if_neg q]
    rw [if_neg (nI_nlt (by omega) (by omega))]
    exact k_some rfl
theorem c_addB {σ : q_St} {h : q_Hp} {A a g o : Nat} {z : k_Z} (V : k_V σ h A z) (K : k_va z) (ho : o ≤ 999) : k_ok (fX2_addBooking σ h A (nI a) (nI g) (nI o)) (fun r => if z 0 1 < 7 then r.1 = nI (z 0 1) ∧ k_V σ r.2 A (k_newB z a g (o / 100) (o / 10 % 10) (o % 10)) ∧ k_ag (k_oS A) h r.2 else r = (-2, h)) := by
  have S := vS V
  have b7 := va_nb K
  unfold fX2_addBooking
  rw [v_nb V, sr4 S, sr5 S, sr6 S, sr7 S, sr8 S, sr9 S, q_gu_t ⟨st5 S, st6 S, st7 S, st8 S, st9 S, st10 S⟩]
  by_cases q : z 0 1 < 7
  · have e1 : nI o / 100 = nI (o / 100) := pk_div (d := 100) (by omega) (by decide) (by decide)
    have e2 : nI o / 10 - nI o / 10 / 10 * 10 = nI (o / 10 % 10) := by
      rw [show nI o / 10 = nI (o / 10) from pk_div (d := 10) (by omega) (by decide) (by decide)]
      exact pk_rem (d := 10) (by omega) (by decide) (by decide)
    have e3 : nI o - nI o / 10 * 10 = nI (o % 10) := pk_rem (d := 10) (by omega) (by decide) (by decide)
    simp only [if_pos q]
    simp only [k_lt2 (show (7 : Int32) = nI 7 from rfl) (show z 0 1 < 2147483648 by omega) (show 7 < 2147483648 by decide), if_pos q]
    rw [e1, e2, e3, c_set (sl5 S) q (by decide), k_bs1, c_set (sl6 S) q (by decide), k_bs1, c_set (sl7 S) q (by decide), k_bs1, c_set (sl8 S) q (by decide), k_bs1, c_set (sl9 S) q (by decide), k_bs1, c_set (sl10 S) q (by decide), k_bs1]
    have V1 := V_put (r := 6) (i := z 0 1) (v := a) V (by omega)
    have V2 := V_put (r := 7) (i := z 0 1) (v := g) V1 (by omega)
    have V3 := V_put (r := 8) (i := z 0 1) (v := o / 100) V2 (by omega)
    have V4 := V_put (r := 9) (i := z 0 1) (v := o / 10 % 10) V3 (by omega)
    have V5 := V_put (r := 10) (i := z 0 1) (v := o % 10) V4 (by omega)
    have V6 : k_V σ (q_si (q_si (q_si (q_si (q_si (q_si h (A + 5) (z 0 1) (nI a)) (A + 6) (z 0 1) (nI g)) (A + 7) (z 0 1) (nI (o / 100))) (A + 8) (z 0 1) (nI (o / 10 % 10))) (A + 9) (z 0 1) (nI (o % 10))) (A + 10) (z 0 1) 9) A (k_zu (k_zu (k_zu (k_zu (k_zu (k_zu z 6 (z 0 1) a) 7 (z 0 1) g) 8 (z 0 1) (o / 100)) 9 (z 0 1) (o / 10 % 10)) 10 (z 0 1) (o % 10)) 11 (z 0 1) 9) := V_put (r := 11) (i := z 0 1) (v := 9) V5 (by omega)
    have A6 : k_ag (k_oS A) h (q_si (q_si (q_si (q_si (q_si (q_si h (A + 5) (z 0 1) (nI a)) (A + 6) (z 0 1) (nI g)) (A + 7) (z 0 1) (nI (o / 100))) (A + 8) (z 0 1) (nI (o / 10 % 10))) (A + 9) (z 0 1) (nI (o % 10))) (A + 10) (z 0 1) 9) := k_ag_si (k_ag_si (k_ag_si (k_ag_si (k_ag_si (k_ag_si k_ag_rf (k_oS_n (by omega))) (k_oS_n (by omega))) (k_oS_n (by omega))) (k_oS_n (by omega))) (k_oS_n (by omega))) (k_oS_n (by omega))
    have I6 : ∀ r, 6 ≤ r → r ≤ 11 → q_int (q_si (q_si (q_si (q_si (q_si (q_si h (A + 5) (z 0 1) (nI a)) (A + 6) (z 0 1) (nI g)) (A + 7) (z 0 1) (nI (o / 100))) (A + 8) (z 0 1) (nI (o / 10 % 10))) (A + 9) (z 0 1) (nI (o % 10))) (A + 10) (z 0 1) 9) (A + (r - 1)) (z 0 1) = nI (k_newB z a g (o / 100) (o / 10 % 10) (o % 10) r (z 0 1)) := by
      intro r h1 h2
      rcases (show r = 6 ∨ r = 7 ∨ r = 8 ∨ r = 9 ∨ r = 10 ∨ r = 11 by omega) with rfl | rfl | rfl | rfl | rfl | rfl
      · rw [k_si_n (by omega), k_si_n (by omega), k_si_n (by omega), k_si_n (by omega), k_si_n (by omega), k_si_s]; simp [k_newB, k_zu]
      · rw [k_si_n (by omega), k_si_n (by omega), k_si_n (by omega), k_si_n (by omega), k_si_s]; simp [k_newB, k_zu]
      · rw [k_si_n (by omega), k_si_n (by omega), k_si_n (by omega), k_si_s]; simp [k_newB, k_zu]
      · rw [k_si_n (by omega), k_si_n (by omega), k_si_s]; simp [k_newB, k_zu]
      · rw [k_si_n (by omega), k_si_s]; simp [k_newB, k_zu]
      · rw [k_si_s]; simp [k_newB, k_zu]; rfl
    unfold k_newB at I6 ⊢
    generalize q_si (q_si (q_si (q_si (q_si (q_si h (A + 5) (z 0 1) (nI a)) (A + 6) (z 0 1) (nI g)) (A + 7) (z 0 1) (nI (o / 100))) (A + 8) (z 0 1) (nI (o / 10 % 10))) (A + 9) (z 0 1) (nI (o % 10))) (A + 10) (z 0 1) 9 = h6 at V6 A6 I6 ⊢
    generalize ez : k_zu (k_zu (k_zu (k_zu (k_zu (k_zu z 6 (z 0 1) a) 7 (z 0 1) g) 8 (z 0 1) (o / 100)) 9 (z 0 1) (o / 10 % 10)) 10 (z 0 1) (o % 10)) 11 (z 0 1) 9 = z6 at V6 I6 ⊢
    have f0 : z6 0 1 = z 0 1 := by rw [← ez]; simp [k_zu]
    have e8 : q_int h6 A 12 = nI (z 0 1) := by rw [v_nb V6, f0]
    have V7 := V_nb V6 (fun r h1 h2 => by rw [f0, I6 r h1 h2, k_zu_r (by omega)])
    rw [f0] at V7
    rw [e8, nI_1]
    exact k_some ⟨rfl, V7, k_ag_si A6 k_oS_0⟩
  · simp only [if_neg q, k_lt2 (show (7 : Int32) = nI 7 from rfl) (show z 0 1 < 2147483648 by omega) (show 7 < 2147483648 by decide)]
    exact k_some rfl
theorem k_ma {h : q_Hp} {m i j : Nat} {v : Int32} {c : Nat} (hc : 0 < c) : q_int (q_si h (m + c) i v) m j = q_int h m j := k_si_n (by omega)
theorem m_suitC {σ : q_St} {h : q_Hp} {m k f sz wo : Nat} {z : k_Z} (M : k_M σ m) (W : k_W h m z) (K : k_va z) (hk : k < 1000) (hz : sz < 1000) : k_ok (fX5_suitComes σ h m (nI k) (nI f) (nI sz) (nI wo)) (fun r => if k < 8 ∧ sz ≤ 20 ∧ z 0 0 < 7 then r.1 = 1 ∧ k_W r.2 m (k_newS z k f sz wo) ∧ k_mf [0] [1, 2, 3, 4, 5] m h r.2 else r = (0, h)) := by
  have n7 := va_ns K
  unfold fX5_suitComes
  simp only [mr1 M, mr2 M, mr3 M, mr4 M, mr5 M, mt1 M, mt2 M, mt3 M, mt4 M, mt5 M, and_self, k_guT, w_ns W, k_le1 (show (8 : Int32) = nI 8 from rfl) (show k < 2147483648 by omega) (show 8 < 2147483648 by decide), k_lt1 (show (20 : Int32) = nI 20 from rfl) (show sz < 2147483648 by omega) (show 20 < 2147483648 by decide), k_le1 (show (7 : Int32) = nI 7 from rfl) (show z 0 0 < 2147483648 by omega) (show 7 < 2147483648 by decide)]
  have e0 : fX5_suitComes_25 σ h m (nI k) (nI f) (nI sz) (nI wo) = some (0, h) := by
    unfold fX5_suitComes_25 fX5_suitComes_26
    rw [if_pos rfl, q_gu_t (Or.inl rfl)]
  rw [e0]
  by_cases q1 : 8 ≤ k
  · simp only [if_pos q1, if_neg (show ¬ (k < 8 ∧ sz ≤ 20 ∧ z 0 0 < 7) by omega)]; exact k_some rfl
  rw [if_neg q1]
  by_cases q2 : 20 < sz
  · simp only [if_pos q2, if_neg (show ¬ (k < 8 ∧ sz ≤ 20 ∧ z 0 0 < 7) by omega)]; exact k_some rfl
  rw [if_neg q2]
  by_cases q3 : 7 ≤ z 0 0
  · simp only [if_pos q3, if_neg (show ¬ (k < 8 ∧ sz ≤ 20 ∧ z 0 0 < 7) by omega)]; exact k_some rfl
  rw [if_neg q3]
  simp only [if_pos (show (k < 8 ∧ sz ≤ 20 ∧ z 0 0 < 7) from ⟨by omega, by omega, by omega⟩)]
  unfold fX5_suitComes_26
  rw [if_neg (by decide)]
  simp only [mr1 M, mr2 M, mr3 M, mr4 M, mr5 M, mt1 M, mt2 M, mt3 M, mt4 M, mt5 M, ml1 M, ml2 M, ml3 M, ml4 M, ml5 M, k_ma (c := 1) (by decide), k_ma (c := 2) (by decide), k_ma (c := 3) (by decide), k_ma (c := 4) (by decide), k_ma (c := 5) (by decide), w_ns W, k_vi (show z 0 0 < 8 by omega) (show 8 < 2147483648 by decide), k_cl (show z 0 0 < 2147483648 by omega), and_self, k_guT, nI_1, or_true]
  have W1 := W_put (r := 1) (i := z 0 0) (v := k) W (by omega)
  have W2 := W_put (r := 2) (i := z 0 0) (v := f) W1 (by omega)
  have W3 := W_put (r := 3) (i := z 0 0) (v := sz) W2 (by omega)
  have W4 := W_put (r := 4) (i := z 0 0) (v := wo) W3 (by omega)
  have W5 := W_put (r := 5) (i := z 0 0) (v := 0) W4 (by omega)
  have A5 : k_mf [0] [1, 2, 3, 4, 5] m h (q_si (q_si (q_si (q_si (q_si h (m + 1) (z 0 0) (nI k)) (m + 2) (z 0 0) (nI f)) (m + 3) (z 0 0) (nI sz)) (m + 4) (z 0 0) (nI wo)) (m + 5) (z 0 0) 0) := mf_ar (mf_ar (mf_ar (mf_ar (mf_ar mf_rf (by decide) (by decide)) (by decide) (by decide)) (by decide) (by decide)) (by decide) (by decide)) (by decide) (by decide)
  have I5 : ∀ r, 1 ≤ r → r ≤ 5 → q_int (q_si (q_si (q_si (q_si (q_si h (m + 1) (z 0 0) (nI k)) (m + 2) (z 0 0) (nI f)) (m + 3) (z 0 0) (nI sz)) (m + 4) (z 0 0) (nI wo)) (m + 5) (z 0 0) 0) (m + r) (z 0 0) = nI (k_newS z k f sz wo r (z 0 0)) := by
    intro r h1 h2
    rcases (show r = 1 ∨ r = 2 ∨ r = 3 ∨ r = 4 ∨ r = 5 by omega) with rfl | rfl | rfl | rfl | rfl
    · rw [k_si_n (by omega), k_si_n (by omega), k_si_n (by omega), k_si_n (by omega), k_si_s]; simp [k_newS, k_zu]
    · rw [k_si_n (by omega), k_si_n (by omega), k_si_n (by omega), k_si_s]; simp [k_newS, k_zu]
    · rw [k_si_n (by omega), k_si_n (by omega), k_si_s]; simp [k_newS, k_zu]
    · rw [k_si_n (by omega), k_si_s]; simp [k_newS, k_zu]
    · rw [k_si_s]; simp [k_newS, k_zu]; rfl
  refine k_some (And.intro rfl (And.intro ?_ (mf_fi (k := 0) (v := nI (z 0 0 + 1)) A5 (by decide))))
  have W5' : k_W (q_si (q_si (q_si (q_si (q_si h (m + 1) (z 0 0) (nI k)) (m + 2) (z 0 0) (nI f)) (m + 3) (z 0 0) (nI sz)) (m + 4) (z 0 0) (nI wo)) (m + 5) (z 0 0) 0) m _ := W5
  unfold k_newS at I5 ⊢
  show k_W (q_si (q_si (q_si (q_si (q_si (q_si h (m + 1) (z 0 0) (nI k)) (m + 2) (z 0 0) (nI f)) (m + 3) (z 0 0) (nI sz)) (m + 4) (z 0 0) (nI wo)) (m + 5) (z 0 0) 0) m 0 (nI (z 0 0 + 1))) m _
  generalize q_si (q_si (q_si (q_si (q_si h (m + 1) (z 0 0) (nI k)) (m + 2) (z 0 0) (nI f)) (m + 3) (z 0 0) (nI sz)) (m + 4) (z 0 0) (nI wo)) (m + 5) (z 0 0) 0 = h5 at W5' I5 ⊢
  generalize ez : k_zu (k_zu (k_zu (k_zu (k_zu z 1 (z 0 0) k) 2 (z 0 0) f) 3 (z 0 0) sz) 4 (z 0 0) wo) 5 (z 0 0) 0 = z5 at W5' I5 ⊢
  have f0 : z5 0 0 = z 0 0 := by rw [← ez]; simp [k_zu]
  have W6 := W_ns W5' (fun r h1 h2 => by rw [f0, I5 r h1 h2, k_zu_r (by omega)])
  rw [f0] at W6
  exact W6
theorem m_bookC {σ : q_St} {h : q_Hp} {m a g x y w : Nat} {z : k_Z} (M : k_M σ m) (W : k_W h m z) (K : k_va z) (ha : a < 1000) (hg : g < 1000) : k_ok (fX5_bookingComes σ h m (nI a) (nI g) (nI x) (nI y) (nI w)) (fun r => if a ≤ 20 ∧ g < 4 ∧ z 0 1 < 7 then r.1 = 1 ∧ k_W r.2 m (k_newB z a g x y w) ∧ k_mf [6] [6, 7, 8, 9, 10, 11] m h r.2 else r = (0, h)) := by
  have b7 := va_nb K
  unfold fX5_bookingComes
  simp only [mr7 M, mr8 M, mr9 M, mr10 M, mr11 M, mr12 M, mt6 M, mt7 M, mt8 M, mt9 M, mt10 M, mt11 M, and_self, k_guT, w_nb W, k_le1 (show (4 : Int32) = nI 4 from rfl) (show g < 2147483648 by omega) (show 4 < 2147483648 by decide), k_lt1 (show (20 : Int32) = nI 20 from rfl) (show a < 2147483648 by omega) (show 20 < 2147483648 by decide), k_le1 (show (7 : Int32) = nI 7 from rfl) (show z 0 1 < 2147483648 by omega) (show 7 < 2147483648 by decide)]
  have e0 : fX5_bookingComes_24 σ h m (nI a) (nI g) (nI x) (nI y) (nI w) = some (0, h) := by
    unfold fX5_bookingComes_24 fX5_bookingComes_25
    rw [if_pos rfl, q_gu_t (Or.inl rfl)]
  rw [e0]
  by_cases q1 : 20 < a
  · simp only [if_pos q1, if_neg (show ¬ (a ≤ 20 ∧ g < 4 ∧ z 0 1 < 7) by omega)]; exact k_some rfl
  rw [if_neg q1]
  by_cases q2 : 4 ≤ g
  · simp only [if_pos q2, if_neg (show ¬ (a ≤ 20 ∧ g < 4 ∧ z 0 1 < 7) by omega)]; exact k_some rfl
  rw [if_neg q2]
  by_cases q3 : 7 ≤ z 0 1
  · simp only [if_pos q3, if_neg (show ¬ (a ≤ 20 ∧ g < 4 ∧ z 0 1 < 7) by omega)]; exact k_some rfl
  rw [if_neg q3]
  simp only [if_pos (show (a ≤ 20 ∧ g < 4 ∧ z 0 1 < 7) from ⟨by omega, by omega, by omega⟩)]
  unfold fX5_bookingComes_25
  rw [if_neg (by decide)]
  simp only [mr7 M, mr8 M, mr9 M, mr10 M, mr11 M, mr12 M, mt6 M, mt7 M, mt8 M, mt9 M, mt10 M, mt11 M, ml6 M, ml7 M, ml8 M, ml9 M, ml10 M, ml11 M, k_ma (c := 6) (by decide), k_ma (c := 7) (by decide), k_ma (c := 8) (by decide), k_ma (c := 9) (by decide), k_ma (c := 10) (by decide), k_ma (c := 11) (by decide), w_nb W, k_vi (show z 0 1 < 7 by omega) (show 7 < 2147483648 by decide), k_cl (show z 0 1 < 2147483648 by omega), and_self, k_guT, nI_1, or_true]
  have W1 := W_put (r := 6) (i := z 0 1) (v := a) W (by omega)
  have W2 := W_put (r := 7) (i := z 0 1) (v := g) W1 (by omega)
  have W3 := W_put (r := 8) (i := z 0 1) (v := x) W2 (by omega)
  have W4 := W_put (r := 9) (i := z 0 1) (v := y) W3 (by omega)
  have W5 := W_put (r := 10) (i := z 0 1) (v := w) W4 (by omega)
  have W6 := W_put (r := 11) (i := z 0 1) (v := 9) W5 (by omega)
  have A6 : k_mf [6] [6, 7, 8, 9, 10, 11] m h (q_si (q_si (q_si (q_si (q_si (q_si h (m + 6) (z 0 1) (nI a)) (m + 7) (z 0 1) (nI g)) (m + 8) (z 0 1) (nI x)) (m + 9) (z 0 1) (nI y)) (m + 10) (z 0 1) (nI w)) (m + 11) (z 0 1) 9) := mf_ar (mf_ar (mf_ar (mf_ar (mf_ar (mf_ar mf_rf (by decide) (by decide)) (by decide) (by decide)) (by decide) (by decide)) (by decide) (by decide)) (by decide) (by decide)) (by decide) (by decide)
  have I6 : ∀ r, 6 ≤ r → r ≤ 11 → q_int (q_si (q_si (q_si (q_si (q_si (q_si h (m + 6) (z 0 1) (nI a)) (m + 7) (z 0 1) (nI g)) (m + 8) (z 0 1) (nI x)) (m + 9) (z 0 1) (nI y)) (m + 10) (z 0 1) (nI w)) (m + 11) (z 0 1) 9) (m + r) (z 0 1) = nI (k_newB z a g x y w r (z 0 1)) := by
    intro r h1 h2
    rcases (show r = 6 ∨ r = 7 ∨ r = 8 ∨ r = 9 ∨ r = 10 ∨ r = 11 by omega) with rfl | rfl | rfl | rfl | rfl | rfl
    · rw [k_si_n (by omega), k_si_n (by omega), k_si_n (by omega), k_si_n (by omega), k_si_n (by omega), k_si_s]; simp [k_newB, k_zu]
    · rw [k_si_n (by omega), k_si_n (by omega), k_si_n (by omega), k_si_n (by omega), k_si_s]; simp [k_newB, k_zu]
    · rw [k_si_n (by omega), k_si_n (by omega), k_si_n (by omega), k_si_s]; simp [k_newB, k_zu]
    · rw [k_si_n (by omega), k_si_n (by omega), k_si_s]; simp [k_newB, k_zu]
    · rw [k_si_n (by omega), k_si_s]; simp [k_newB, k_zu]
    · rw [k_si_s]; simp [k_newB, k_zu]; rfl
  refine k_some (And.intro rfl (And.intro ?_ (mf_fi (k := 6) (v := nI (z 0 1 + 1)) A6 (by decide))))
  have W6' : k_W (q_si (q_si (q_si (q_si (q_si (q_si h (m + 6) (z 0 1) (nI a)) (m + 7) (z 0 1) (nI g)) (m + 8) (z 0 1) (nI x)) (m + 9) (z 0 1) (nI y)) (m + 10) (z 0 1) (nI w)) (m + 11) (z 0 1) 9) m _ := W6
  unfold k_newB at I6 ⊢
  show k_W (q_si (q_si (q_si (q_si (q_si (q_si (q_si h (m + 6) (z 0 1) (nI a)) (m + 7) (z 0 1) (nI g)) (m + 8) (z 0 1) (nI x)) (m + 9) (z 0 1) (nI y)) (m + 10) (z 0 1) (nI w)) (m + 11) (z 0 1) 9) m 6 (nI (z 0 1 + 1))) m _
  generalize q_si (q_si (q_si (q_si (q_si (q_si h (m + 6) (z 0 1) (nI a)) (m + 7) (z 0 1) (nI g)) (m + 8) (z 0 1) (nI x)) (m + 9) (z 0 1) (nI y)) (m + 10) (z 0 1) (nI w)) (m + 11) (z 0 1) 9 = h6 at W6' I6 ⊢
  generalize ez : k_zu (k_zu (k_zu (k_zu (k_zu (k_zu z 6 (z 0 1) a) 7 (z 0 1) g) 8 (z 0 1) x) 9 (z 0 1) y) 10 (z 0 1) w) 11 (z 0 1) 9 = z6 at W6' I6 ⊢
  have f0 : z6 0 1 = z 0 1 := by rw [← ez]; simp [k_zu]
  have W7 := W_nb W6' (fun r h1 h2 => by rw [f0, I6 r h1 h2, k_zu_r (by omega)])
  rw [f0] at W7
  exact W7
