/-! buys, books, toss of the model, the image -/
def p_buys (z y : k_Z) (v s : Int32) : Int32 × k_Z := if k_is s 21 then (if k_wr y 1 v = 0 then (if z 0 0 < 7 then (nI (z 0 0), k_newS z (y 1 v.toNatClampNeg) (y 2 v.toNatClampNeg) s.toNatClampNeg 0) else (-2, z)) else (k_wr y 1 v, z)) else (-1, z)
theorem va_buysP {z y : k_Z} (K : k_va z) (vy : k_vy y) (v s : Int32) : k_va (p_buys z y v s).2 := by
  unfold p_buys
  split
  · next h1 =>
    obtain ⟨j, hj, rfl⟩ := k_is_t (by decide) h1
    split
    · next h2 =>
      rcases k_wr_cases y 1 v with ⟨-, d, hd, rfl, y1, -⟩ | q
      · have vd := (vy d hd).2.1 y1
        split
        · next h3 =>
          dsimp only
          rw [k_cl (by omega), k_cl (by omega)]
          exact va_newS K h3 vd.1 vd.2 (by omega) (by omega)
        · exact K
      · exact absurd h2 (k_neg q).2.2
    · exact K
  · exact K
theorem c_buys {σ : q_St} {h : q_Hp} {x A B : Nat} {z zi y : k_Z} {p : Bool} {c : Nat → Nat → Int32} (I : k_CI σ h x A B z p zi y c) (K : k_va z) (vy : k_vy y) (E : k_etc σ x) (v s : Int32) : k_ok (fX4_buys σ h x v s) (fun r => r.1 = (p_buys z y v s).1 ∧ k_CI r.2.1 r.2.2 x A B (p_buys z y v s).2 p zi y c ∧ k_fc σ h x r.2.1 r.2.2) := by
  have X := I.1
  have n7 := va_ns K
  unfold fX4_buys p_buys
  rw [c_isShelf, k_bs1, k_01i]
  cases ev : k_is v 8 with
  | false =>
    have : k_wr y 1 v = -1 := by unfold k_wr; rw [ev]; rfl
    rw [if_neg (show ¬ false = true by decide), this]
    simp only [if_neg (show ¬ (-1 : Int32) = 0 by decide)]
    refine k_some ⟨?_, ?_, fc_rf E⟩
    · dsimp only
      split <;> rfl
    · dsimp only
      split <;> exact I
  | true =>
  obtain ⟨d, hd, rfl⟩ := k_is_t (by decide) ev
  have L := xL X d hd
  rw [if_pos rfl, c_in (n := 21) (by decide), k_bs1, k_01i]
  cases es : k_is s 21 with
  | false =>
    rw [if_neg (show ¬ false = true by decide)]
    exact k_some ⟨rfl, I, fc_rf E⟩
  | true =>
  obtain ⟨j, hj, rfl⟩ := k_is_t (by decide) es
  rw [if_pos rfl, c_shelfAt X hd, k_bs1, q_gu_t (lt0 L), show (fX1_refusal σ h (x + 56 + 3 * d) 1) = _ from c_refusal I.2.2.2.2.1 vy hd (w := 1) (by decide), k_bs1]
  simp only [eq_self, if_true, k_cl (show d < 2147483648 by omega), k_cl (show j < 2147483648 by omega)]
  rcases k_wr_cases y 1 (nI d) with ⟨e0, d', hd', ed, y1, -⟩ | q
  · have := (nI_eq (by omega) (by omega)).mp ed
    subst this
    have U := (I.2.2.2.2.1 d hd).2.1 y1
    simp only [if_pos e0]
    rw [xr0 X, q_gu_t ⟨(xA X).1, sut U⟩]
    refine k_b3 (c_addS (sz := j) (wo := 0) I.2.1 K U) (fun r8 σ8 h8 p8 => ?_)
    by_cases q3 : z 0 0 < 7
    · rw [if_pos q3] at p8
      simp only [if_pos q3]
      obtain ⟨e8, es8, V8, g8⟩ := p8
      dsimp only at e8 es8 V8 g8
      subst e8; subst es8
      have T : k_tr σ h A (q_sr σ (A + 1) (z 0 0) (q_ref σ (x + 56 + 3 * d) 2)) h8 := tr_sg (vS V8) E.2.2.1 g8 (sg_sr sg_rf (fun q => q rfl))
      have C := CI_trA I E T V8
      exact k_some ⟨rfl, C.1, C.2⟩
    · rw [if_neg q3] at p8
      simp only [if_neg q3]
      cases p8
      exact k_some ⟨rfl, I, fc_rf E⟩
  · have n := k_neg q
    simp only [if_neg n.2.2]
    exact k_some ⟨rfl, I, fc_rf E⟩
theorem m_buysO {σ : q_St} {h : q_Hp} {m : Nat} {z zi y : k_Z} {p : Bool} {c : Nat → Nat → Int32} (I : k_MI σ h m z p zi y c) (K : k_va z) (vy : k_vy y) (v s : Int32) : k_ok (fX5_buys σ h m v s) (fun r => r.1 = (p_buys z y v s).1 ∧ k_MI σ r.2 m (p_buys z y v s).2 p zi y c ∧ k_fm σ h m σ r.2) := by
  have M := I.1
  have n7 := va_ns K
  have A1 : k_mf [0, 21] [1, 2, 3, 4, 5] m h (q_si h m 21 0) := mf_fi mf_rf (by decide)
  have I1 : k_MI σ (q_si h m 21 0) m z p zi y c := MI_th I
  unfold fX5_buys p_buys
  generalize q_si h m 21 0 = h1 at A1 I1 ⊢
  have W := I1.2.1
  have Y := I1.2.2.2.2.1
  have fm1 : k_fm σ h m σ h1 := ⟨⟨_, _, A1⟩, Or.inl rfl⟩
  rw [mr16 M, mr17 M, q_gu_t ⟨mt13 M, mt14 M⟩, m_inn (n := 21) (by decide), k_bs1, k_01i]
  unfold fX5_buys_26
  cases es : k_is s 21 with
  | false =>
    rw [if_neg (show ¬ false = true by decide), if_neg (by decide)]
    exact k_some ⟨rfl, I1, fm1⟩
  | true =>
  obtain ⟨j, hj, rfl⟩ := k_is_t (by decide) es
  rw [if_pos rfl, m_wrongKept M Y vy, k_bs1]
  simp only [eq_self, if_true, k_cl (show j < 2147483648 by omega)]
  rcases k_wr_cases y 1 v with ⟨e0, d, hd, rfl, y1, -⟩ | q
  · have vd := (vy d hd).2.1 y1
    have Yd := (Y d hd).2.1 y1
    simp only [e0, eq_self, if_true, k_cl (show d < 2147483648 by omega)]
    rw [if_pos (by decide), mr16 M, mr17 M, ml13 M, ml14 M, q_gu_t ⟨vp_in_nI hd (by decide), vp_in_nI hd (by decide)⟩, Yd.1, Yd.2]
    refine k_b2 (m_suitC (sz := j) (wo := 0) (f := y 2 d) M W K (by omega : y 1 d < 1000) (by omega)) (fun r5 h5 p5 => ?_)
    by_cases q3 : z 0 0 < 7
    · rw [if_pos ⟨vd.1, by omega, q3⟩] at p5
      obtain ⟨e5, W5, a5⟩ := p5
      dsimp only at e5 W5 a5
      subst e5
      have e0' : q_int h5 m 0 = nI (z 0 0 + 1) := by rw [w_ns W5]; simp [k_newS, k_zu]
      have A5 := mf_tr A1 (mf_mono a5 (L' := [0, 21]) (R' := [1, 2, 3, 4, 5]) (by decide) (by decide))
      simp only [if_pos q3]
      rw [if_neg (by decide), e0', nI_pred]
      exact k_some ⟨rfl, MI_st I M W5 A5 (by decide) (fun r h1 h2 => by simp; omega) (by decide), ⟨_, _, A5⟩, Or.inl rfl⟩
    · rw [if_neg (by omega)] at p5
      cases p5
      simp only [if_neg q3]
      rw [if_pos trivial]
      exact k_some ⟨rfl, I1, fm1⟩
  · have n := k_neg q
    simp only [if_neg n.2.2, if_neg n.1]
    exact k_some ⟨rfl, I1, fm1⟩
def p_books (z : k_Z) (s g o : Int32) : Int32 × k_Z := if k_is s 21 then (if k_is g 4 then (if k_is o 1000 then (if z 0 1 < 7 then (nI (z 0 1), k_newB z s.toNatClampNeg g.toNatClampNeg (o.toNatClampNeg / 100) (o.toNatClampNeg / 10 % 10) (o.toNatClampNeg % 10)) else (-2, z)) else (-1, z)) else (-1, z)) else (-1, z)
theorem va_booksP {z : k_Z} (K : k_va z) (s g o : Int32) : k_va (p_books z s g o).2 := by
  unfold p_books
  split
  · next h1 =>
    obtain ⟨a, ha, rfl⟩ := k_is_t (by decide) h1
    split
    · next h2 =>
      obtain ⟨b, hb, rfl⟩ := k_is_t (by decide) h2
      split
      · next h3 =>
        obtain ⟨e, he, rfl⟩ := k_is_t (by decide) h3
        split
        · next h4 =>
          dsimp only
          rw [k_cl (by omega), k_cl (by omega), k_cl (by omega)]
          exact va_newB K h4 (by omega) (by omega) (by omega) (by omega) (by omega)
        · exact K
      · exact K
    · exact K
  · exact K
theorem c_books {σ : q_St} {h : q_Hp} {x A B : Nat} {z zi y : k_Z} {p : Bool} {c : Nat → Nat → Int32} (I : k_CI σ h x A B z p zi y c) (K : k_va z) (E : k_etc σ x) (s g o : Int32) : k_ok (fX4_books σ h x s g o) (fun r => r.1 = (p_books z s g o).1 ∧ k_CI σ r.2 x A B (p_books z s g o).2 p zi y c ∧ k_fc σ h x σ r.2) := by
  have X := I.1
  have b7 := va_nb K
  unfold fX4_books p_books
  rw [xr0 X, q_gu_t (xA X).1, c_in (n := 21) (by decide), k_bs1, k_01i]
  cases e1 : k_is s 21 with
  | false =>
    rw [if_neg (show ¬ false = true by decide)]
    exact k_some ⟨rfl, I, fc_rf E⟩
  | true =>
  rw [if_pos rfl, c_in (n := 4) (by decide), k_bs1, k_01i]
  cases e2 : k_is g 4 with
  | false =>
    rw [if_neg (show ¬ false = true by decide)]
    exact k_some ⟨rfl, I, fc_rf E⟩
  | true =>
  rw [if_pos rfl, c_in (n := 1000) (by decide), k_bs1, k_01i]
  cases e3 : k_is o 1000 with
  | false =>
    rw [if_neg (show ¬ false = true by decide)]
    exact k_some ⟨rfl, I, fc_rf E⟩
  | true =>
  obtain ⟨a, ha, rfl⟩ := k_is_t (by decide) e1
  obtain ⟨b, hb, rfl⟩ := k_is_t (by decide) e2
  obtain ⟨e, he, rfl⟩ := k_is_t (by decide) e3
  rw [if_pos rfl]
  simp only [eq_self, if_true, k_cl (show a < 2147483648 by omega), k_cl (show b < 2147483648 by omega), k_cl (show e < 2147483648 by omega)]
  refine k_b2 (c_addB I.2.1 K (by omega : e ≤ 999)) (fun r4 h4 p4 => ?_)
  by_cases q3 : z 0 1 < 7
  · rw [if_pos q3] at p4
    simp only [if_pos q3]
    obtain ⟨e4, V4, g4⟩ := p4
    dsimp only at e4 V4 g4
    subst e4
    have C := CI_trA I E (tr_h (xA X) E.2.2.1 g4) V4
    exact k_some ⟨rfl, C.1, C.2⟩
  · rw [if_neg q3] at p4
    simp only [if_neg q3]
    cases p4
    exact k_some ⟨rfl, I, fc_rf E⟩
theorem m_booksO {σ : q_St} {h : q_Hp} {m : Nat} {z zi y : k_Z} {p : Bool} {c : Nat → Nat → Int32} (I : k_MI σ h m z p zi y c) (K : k_va z) (s g o : Int32) : k_ok (fX5_books σ h m s g o) (fun r => r.1 = (p_books z s g o).1 ∧ k_MI σ r.2 m (p_books z s g o).2 p zi y c ∧ k_fm σ h m σ r.2) := by
  have M := I.1
  have b7 := va_nb K
  have A1 : k_mf [6, 21] [6, 7, 8, 9, 10, 11] m h (q_si h m 21 0) := mf_fi mf_rf (by decide)
  have I1 : k_MI σ (q_si h m 21 0) m z p zi y c := MI_th I
  unfold fX5_books p_books
  generalize q_si h m 21 0 = h1 at A1 I1 ⊢
  have W := I1.2.1
  have fm1 : k_fm σ h m σ h1 := ⟨⟨_, _, A1⟩, Or.inl rfl⟩
  rw [m_inn (n := 21) (by decide), k_bs1, k_01i]
  cases e1 : k_is s 21 with
  | false =>
    rw [if_neg (show ¬ false = true by decide)]
    exact k_some ⟨rfl, I1, fm1⟩
  | true =>
  rw [if_pos rfl, m_inn (n := 4) (by decide), k_bs1, k_01i]
  cases e2 : k_is g 4 with
  | false =>
    rw [if_neg (show ¬ false = true by decide)]
    exact k_some ⟨rfl, I1, fm1⟩
  | true =>
  rw [if_pos rfl, m_inn (n := 1000) (by decide), k_bs1, k_01i]
  cases e3 : k_is o 1000 with
  | false =>
    rw [if_neg (show ¬ false = true by decide)]
    exact k_some ⟨rfl, I1, fm1⟩
  | true =>
  obtain ⟨a, ha, rfl⟩ := k_is_t (by decide) e1
  obtain ⟨b, hb, rfl⟩ := k_is_t (by decide) e2
  obtain ⟨e, he, rfl⟩ := k_is_t (by decide) e3
  rw [if_pos rfl]
  simp only [eq_self, if_true, k_cl (show a < 2147483648 by omega), k_cl (show b < 2147483648 by omega), k_cl (show e < 2147483648 by omega)]
  rw [show nI e / (100 : Int32) = nI (e / 100) from pk_div (by omega) (by decide) (by decide), show nI e / (10 : Int32) = nI (e / 10) from pk_div (by omega) (by decide) (by decide), show nI (e / 10) - nI (e / 10) / (10 : Int32) * (10 : Int32) = nI (e / 10 % 10) from pk_rem (by omega) (by decide) (by decide), show nI e - nI (e / 10) * (10 : Int32) = nI (e % 10) by
    rw [← show nI e / (10 : Int32) = nI (e / 10) from pk_div (by omega) (by decide) (by decide)]
    exact pk_rem (by omega) (by decide) (by decide)]
  refine k_b2 (m_bookC M W K (by omega) (by omega)) (fun r4 h4 p4 => ?_)
  by_cases q3 : z 0 1 < 7
  · rw [if_pos ⟨by omega, by omega, q3⟩] at p4
    obtain ⟨e4, W4, a4⟩ := p4
    dsimp only at e4 W4 a4
    subst e4
    have e0' : q_int h4 m 6 = nI (z 0 1 + 1) := by rw [w_nb W4]; simp [k_newB, k_zu]
    have A4 := mf_tr A1 (mf_mono a4 (L' := [6, 21]) (R' := [6, 7, 8, 9, 10, 11]) (by decide) (by decide))
    simp only [if_pos q3]
    rw [if_neg (by decide), e0', nI_pred]
    exact k_some ⟨rfl, MI_st I M W4 A4 (by decide) (fun r h1 h2 => by simp; omega) (by decide), ⟨_, _, A4⟩, Or.inl rfl⟩
  · rw [if_neg (by omega)] at p4
    cases p4
    simp only [if_neg q3]
    rw [if_pos trivial]
    exact k_some ⟨rfl, I1, fm1⟩
/-! the image -/
theorem c_image {σ : q_St} {h : q_Hp} {x A B : Nat} {z zi y : k_Z} {p : Bool} {c : Nat → Nat → Int32} (I : k_CI σ h x A B z p zi y c) (K : k_va z) (E : k_etc σ x) : k_ok (fX4_image σ h x) (fun r => r.1 = nI (z 0 3) ∧ k_CI r.2.1 r.2.2 x A B z true z y c ∧ k_fc σ h x r.2.1 r.2.2) := by
  have X := I.1
  have hAB := xAB X
  unfold fX4_image
  rw [xr0 X, xr2 X, q_gu_t ⟨(xP X).1, (xA X).1⟩]
  refine k_b2 (c_become I.2.1 K (xP X) (by omega)) (fun σ3 h3 p3 => ?_)
  obtain ⟨V3, g3, s3⟩ := p3
  dsimp only at V3 g3 s3
  have T3 := tr_sg (vS V3) E.2.2.1 g3 s3
  have hC : k_at x (x + 25) := by unfold k_at; omega
  have X3 := X_tr X T3 E.2.2.1 E.2.1 hC
  have V3A := V_tr I.2.1 (xP X) T3 E.2.2.1 (by have := E.2.1; omega) (by omega)
  have Y3 := Y_tr I.2.2.2.2.1 (xP X) T3 E.2.2.1 E.2.1 hC
  have F3 := fc_tr T3 E.2.1 hC
  have E3 := etc_fc E F3
  have g4 : k_ag (fun a => a ≠ x) h3 (q_si h3 x 3 1) := k_ag_si k_ag_rf (fun q => q rfl)
  have n4 : ∀ a, q_tag σ3 a = 4 → a ≠ x := fun a ha e => by
    rw [e, X3.1] at ha; exact absurd ha (by decide)
  have su4 : ∀ {a k f : Nat}, k_su σ3 h3 a k f → k_su σ3 (q_si h3 x 3 1) a k f := fun U => su_mv U rfl (fun i => k_agI g4 (n4 _ (sut U)) i)
  have V4 : ∀ C zz, x < C → k_V σ3 h3 C zz → k_V σ3 (q_si h3 x 3 1) C zz := fun C zz hC' VV => V_ag VV (vS VV) g4 (fun a h1 h2 => by omega) (fun a ha => ⟨n4 a ha, ha⟩) (fun _ _ => rfl)
  rw [q_gu_t ⟨X3.1, by rw [xr0 X3]; exact (xA X3).1⟩, xr0 X3]
  refine k_some ⟨?_, ⟨X3, V4 A z (by omega) V3A, k_si_s, fun _ => V4 _ _ (by omega) V3, fun d hd => ?_, fun k hk => su4 (su_tr (I.2.2.2.2.2.1 k hk) (xP X) T3 E.2.2.1), su4 (su_tr I.2.2.2.2.2.2 (xP X) T3 E.2.2.1)⟩, fc_tt F3 (fc_of E3 (k_ag_mono g4 (fun a ha => by unfold k_mz at ha; omega)))⟩
  · dsimp only
    exact v_ho (V4 A z (by omega) V3A)
  · have := Y3 d hd
    dsimp only
    rw [k_agI g4 (show x + 56 + 3 * d ≠ x by omega), k_agI g4 (show x + 56 + 3 * d ≠ x by omega), k_agI g4 (show x + 56 + 3 * d ≠ x by omega)]
    refine ⟨this.1, fun h1 => su4 (this.2.1 h1), fun h2 => ⟨(this.2.2 h2).1, (this.2.2 h2).2.1, fun i hi => ?_⟩⟩
    rw [k_agI g4 (show x + 57 + 3 * d ≠ x by omega)]
    exact (this.2.2 h2).2.2 i hi
theorem c_restore {σ : q_St} {h : q_Hp} {x A B : Nat} {z zi y : k_Z} {p : Bool} {c : Nat → Nat → Int32} (I : k_CI σ h x A B z p zi y c) (Ki : p = true → k_va zi) (E : k_etc σ x) : k_ok (fX4_restore σ h x) (fun r => if p = true then r.1 = nI (zi 0 3) ∧ k_CI r.2.1 r.2.2 x A B zi p zi y c ∧ k_fc σ h x r.2.1 r.2.2 else r = (-3, σ, h)) := by
  have X := I.1
  have hAB := xAB X
  unfold fX4_restore
  rw [I.2.2.1]
  cases hp : p with
  | false =>
    rw [if_pos (by decide)]
    exact k_some rfl
  | true =>
  rw [if_neg (by decide), xr0 X, xr2 X, q_gu_t ⟨(xA X).1, (xP X).1⟩]
  refine k_b2 (c_become (I.2.2.2.1 hp) (Ki hp) (xA X) (by omega)) (fun σ3 h3 p3 => ?_)
  obtain ⟨V3, g3, s3⟩ := p3
  dsimp only at V3 g3 s3
  have T3 := tr_sg (vS V3) E.2.2.1 g3 s3
  have C := CI_trA I E T3 V3
  subst hp
  rw [q_gu_t ⟨C.1.1.1, by rw [xr0 C.1.1]; exact (xA C.1.1).1⟩, xr0 C.1.1]
  refine k_some ?_
  rw [if_pos rfl]
  exact ⟨v_ho V3, C.1, C.2⟩
theorem m_imageO {σ : q_St} {h : q_Hp} {m : Nat} {z zi y : k_Z} {p : Bool} {c : Nat → Nat → Int32} (I : k_MI σ h m z p zi y c) (K : k_va z) : k_ok (fX5_image σ h m) (fun r => r.1 = nI (z 0 3) ∧ k_MI r.2.1 r.2.2 m z true z y c ∧ k_fm σ h m r.2.1 r.2.2) := by
  have M := I.1
  unfold fX5_image
  have A1 : k_mf [21, 31, 32, 33] [22] m h (q_si (q_si h m 21 0) m 31 1) := mf_fi (mf_fi mf_rf (by decide)) (by decide)
  have e31 : q_int (q_si (q_si h m 21 0) m 31 1) m 31 = 1 := k_si_s
  generalize q_si (q_si h m 21 0) m 31 1 = h1 at A1 e31 ⊢
  have W := W_mf I.2.1 A1 (by decide) (fun r h1 h2 => by simp; omega)
  rw [mr30 M, q_gu_t (mt22 M)]
  obtain ⟨⟨σ7, h7⟩, ec, e7, Q7⟩ := m_carry (σ := σ) (h := h1) (m := m) (t := 22) (tk := true) M (Or.inr rfl)
  dsimp only at e7 Q7
  subst e7
  have M' : k_M (q_sr σ m 34 (m + 22)) m := M_34 M
  rw [show fX5_carryAll σ h1 m (m + 22) (1 : Int32) = some (q_sr σ m 34 (m + 22), h7) from ec, k_b2s, q_gu_t (mt0 M')]
  obtain ⟨I7, a7⟩ := m_take W K Q7
  have W7 := W_mf W a7 (by decide) (fun r h1 h2 => by simp; omega)
  have A7 : k_mf [21, 31, 32, 33] [22] m h h7 := mf_tr A1 (mf_mono a7 (by decide) (by decide))
  refine k_some ⟨w_ho W7, ⟨M', W7, ?_, fun _ => I7, k_YM_mf I.2.2.2.2.1 A7 (fun r h1 h2 => by simp; omega), k_Kf_mf I.2.2.2.2.2 A7 (by decide) (by decide)⟩, ⟨_, _, A7⟩, Or.inr ⟨_, rfl⟩⟩
  dsimp only
  rw [a7.2.1 31 (by decide), e31]; rfl
theorem m_restoreO {σ : q_St} {h : q_Hp} {m : Nat} {z zi y : k_Z} {p : Bool} {c : Nat → Nat → Int32} (I : k_MI σ h m z p zi y c) (Ki : p = true → k_va zi) : k_ok (fX5_restore σ h m) (fun r => r.1 = (if p = true then nI (zi 0 3) else -3) ∧ k_MI r.2.1 r.2.2 m (if p = true then zi else z) p zi y c ∧ k_fm σ h m r.2.1 r.2.2) := by
  have M := I.1
  unfold fX5_restore
  have A1 : k_mf [0, 6, 13, 14, 21, 32, 33] [1, 2, 3, 4, 5, 6, 7, 8, 9, 10, 11] m h (q_si h m 21 0) := mf_fi mf_rf (by decide)
  have I1 : k_MI σ (q_si h m 21 0) m z p zi y c := MI_th I
  generalize q_si h m 21 0 = h1 at A1 I1 ⊢
  rw [I1.2.2.1]
  cases hp : p with
  | false =>
    rw [if_pos (by decide)]
    refine k_some ⟨rfl, ?_, ⟨_, _, A1⟩, Or.inl rfl⟩
    rw [if_neg (by decide), ← hp]; exact I1
  | true =>
  rw [if_neg (by decide), mr30 M, q_gu_t (mt22 M)]
  obtain ⟨⟨σ7, h7⟩, ec, e7, Q7⟩ := m_carry (σ := σ) (h := h1) (m := m) (t := 22) (tk := false) M (Or.inr rfl)
  dsimp only at e7 Q7
  subst e7
  have M' : k_M (q_sr σ m 34 (m + 22)) m := M_34 M
  rw [show fX5_carryAll σ h1 m (m + 22) (0 : Int32) = some (q_sr σ m 34 (m + 22), h7) from ec, k_b2s, q_gu_t (mt0 M')]
  obtain ⟨W7, a7⟩ := m_lay (I1.2.2.2.1 hp) (Ki hp) Q7
  have A7 := mf_tr A1 (mf_mono a7 (L' := [0, 6, 13, 14, 21, 32, 33]) (R' := [1, 2, 3, 4, 5, 6, 7, 8, 9, 10, 11]) (by decide) (by decide))
  refine k_some ⟨?_, ?_, ⟨_, _, A7⟩, Or.inr ⟨_, rfl⟩⟩
  · rw [if_pos rfl]; exact w_ho W7
  · rw [if_pos rfl, ← hp]
    exact MI_st I M' W7 A7 (by decide) (fun r h1 h2 => by simp; omega) (by decide)
