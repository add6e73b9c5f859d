/-! shop of the class -/
theorem tX_CI {σ : q_St} {h : q_Hp} {x A B d : Nat} {z zi y : k_Z} {p : Bool} {c : Nat → Nat → Int32} (I : k_CI σ h x A B z p zi y c) (vy : k_vy y) (hd : d < 8) (y2 : y 0 d = 2) : t_X σ h (x + 56 + 3 * d) (c d) (y 4 d) := by
  obtain ⟨s3, l4, cc⟩ := (I.2.2.2.2.1 d hd).2.2 y2
  exact ⟨xL I.1 d hd, l4, ((vy d hd).2.2 y2).2, fun i hi => by rw [show x + 56 + 3 * d + 1 = x + 57 + 3 * d by omega]; exact cc i hi⟩
theorem c_tellShop {σ : q_St} {h : q_Hp} {x A B d : Nat} {z zi y : k_Z} {p : Bool} {c : Nat → Nat → Int32} (I : k_CI σ h x A B z p zi y c) (K : k_va z) (vy : k_vy y) (E : k_etc σ x) (hd : d < 8) (y2 : y 0 d = 2) (g : t_g (c d) (y 4 d) (t_q (c d) (y 4 d) (t_K (c d) (y 4 d))) = true) : k_ok (fX4_tellShop σ h x (x + 56 + 3 * d)) (fun r => r.1 = (p_text z (c d) (y 4 d)).1 ∧ ∃ A' B', k_CI r.2.1 r.2.2 x A' B' (p_text z (c d) (y 4 d)).2 p zi y c ∧ k_fc σ h x r.2.1 r.2.2) := by
  have X := I.1
  have hAB := xAB X
  have n100 := ((vy d hd).2.2 y2).2
  have K33 := t_K34 (t := c d) n100
  have fin := t_Kfin (t := c d) n100
  unfold t_fin at fin
  rw [g] at fin
  have qN : y 4 d ≤ t_q (c d) (y 4 d) (t_K (c d) (y 4 d) + 1) := by simpa using fin
  unfold fX4_tellShop
  rw [xr0 X, xr1 X, q_gu_t ⟨(xB X).1, (xA X).1⟩]
  refine k_b2 (c_become I.2.1 K (xB X) (by omega)) (fun σ3 h3 p3 => ?_)
  obtain ⟨V3, g3, s3⟩ := p3
  dsimp only at V3 g3 s3
  have T3 := tr_sg (vS V3) E.2.2.1 g3 s3
  have C3 := CI_trB I E T3
  have E3 := etc_fc E C3.2
  refine k_bind (k_for (n := t_K (c d) (y 4 d) + 1) (P := fun (o : (Int32 × q_St × q_Hp) ⊕ (Int32 × q_St × q_Hp)) => match o with
      | .inl o => o.1 = nI (t_K (c d) (y 4 d) + 1) ∧ ∃ w, t_st (c d) (y 4 d) z (t_K (c d) (y 4 d) + 1) = some w ∧ k_CI o.2.1 o.2.2 x A B z p zi y c ∧ k_V o.2.1 o.2.2 B w ∧ k_etc o.2.1 x ∧ k_fc σ h x o.2.1 o.2.2
      | .inr o => o.1 = (p_text z (c d) (y 4 d)).1 ∧ (p_text z (c d) (y 4 d)).2 = z ∧ k_CI o.2.1 o.2.2 x A B z p zi y c ∧ k_fc σ h x o.2.1 o.2.2)
    (fun i s => s.1 = nI (t_q (c d) (y 4 d) i) ∧ s.2.1 = nI i ∧ s.2.2.1 = nI i ∧ ∃ w, t_st (c d) (y 4 d) z i = some w ∧ k_va w ∧ k_CI s.2.2.2.1 s.2.2.2.2 x A B z p zi y c ∧ k_V s.2.2.2.1 s.2.2.2.2 B w ∧ k_etc s.2.2.2.1 x ∧ k_fc σ h x s.2.2.2.1 s.2.2.2.2) (by rw [k_N]; omega) ⟨rfl, rfl, rfl, z, rfl, K, C3.1, V3, E3, C3.2⟩ ?_) (fun o po => ?_)
  · rintro i ⟨x2, x3, x4, σi, hi⟩ hle ⟨e2, e3, e4, w, ew, Kw, Ci, Vi, Ei, Fi⟩
    dsimp only at e2 e3 e4 Ci Vi Ei Fi
    subst e2; subst e3; subst e4
    have qB := t_qB (c d) (y 4 d) i
    have Hx := tX_CI Ci vy hd y2
    show k_ok (fX4_tellShop_18 x (x + 56 + 3 * d) (nI (t_q (c d) (y 4 d) i)) (nI i) (nI i) σi hi) _
    unfold fX4_tellShop_18
    rw [if_neg (k_geL (n := 100) (l := 100) rfl (by omega) (by decide)), q_gu_t Hx.1.1, Hx.2.1]
    simp only [k_le1 rfl (show t_q (c d) (y 4 d) i < 2147483648 by omega) (show y 4 d < 2147483648 by omega)]
    rcases Nat.lt_or_ge i (t_K (c d) (y 4 d) + 1) with q | q
    · have gi := t_gall g i (by omega)
      have gt := t_gT gi
      rw [if_neg (show ¬ y 4 d ≤ t_q (c d) (y 4 d) i by have := t_Dn gt.1; omega), q_gu_t ⟨Ci.1.1, by rw [xr1 Ci.1]; exact (xB Ci.1).1⟩, q_gu_t (vp_in_nI (by omega) (by decide)), xr1 Ci.1]
      have hs := Ei.2.1
      refine k_b3 (c_stmt Vi Kw Hx gi Ei.2.2.1 (by omega) (by omega) (by omega) (by omega)) (fun r9 σ9 h9 p9 => ?_)
      obtain ⟨T9, m9⟩ := p9
      dsimp only at T9
      have C9 := CI_trB Ci Ei T9
      have F9 := fc_tt Fi C9.2
      cases ed : t_do (c d) (y 4 d) w (t_q (c d) (y 4 d) i) with
      | none =>
        rw [ed] at m9
        rw [if_neg m9]
        have pf := p_textF g (by omega) ew ed
        refine k_some ⟨?_, ?_, C9.1, F9⟩
        · rw [pf]
        · rw [pf]
      | some w' =>
        rw [ed] at m9
        obtain ⟨m0, V9⟩ := m9
        have Hx9 := tX_CI C9.1 vy hd y2
        rw [if_pos m0, q_gu_t Hx9.1.1, c_byte Hx9 (by omega), k_bs1, c_digits, k_bs1, show t_dg (t_b (c d) (y 4 d) (t_q (c d) (y 4 d) i)) = t_D (c d) (y 4 d) (t_q (c d) (y 4 d) i) from rfl, if_neg gt.1, show nI (t_D (c d) (y 4 d) (t_q (c d) (y 4 d) i)) + (2 : Int32) = nI (t_D (c d) (y 4 d) (t_q (c d) (y 4 d) i) + 2) from nI_add _ 2, nI_add]
        refine k_some ⟨q, ?_, nI_1 _, nI_1 _, w', ?_, t_va gi Kw ed, C9.1, V9, etc_fc Ei C9.2, F9⟩
        · dsimp only
          rw [t_q, Nat.add_assoc]
        · rw [t_st, ew]; exact ed
    · have : i = t_K (c d) (y 4 d) + 1 := by omega
      subst this
      rw [if_pos qN]
      exact k_some ⟨rfl, w, ew, Ci, Vi, Ei, Fi⟩
  · cases o with
    | inl o =>
      obtain ⟨e, w, ew, Ci, Vi, Ei, Fi⟩ := po
      rw [k_elL]
      unfold fX4_tellShop_73
      have pg := p_textG g ew
      rw [xr0 Ci.1, xr1 Ci.1, q_gu_t ⟨Ci.1.1, (xA Ci.1).1, (xB Ci.1).1⟩]
      have fr0 : k_fc σ h x (q_sr (q_sr o.2.1 x 0 B) x 1 A) o.2.2 := fc_tt Fi (fc_tt (fc_x (k := 0) (v := B) Ei) (fc_x (σ := q_sr o.2.1 x 0 B) (k := 1) (v := A) (etc_fc Ei (fc_x (h := o.2.2) Ei))))
      have SW := CI_swap Ci Vi
      unfold q_lr
      rw [e, pg]
      exact k_some ⟨rfl, B, A, SW, fr0⟩
    | inr o =>
      obtain ⟨e, ez, Ci, Fi⟩ := po
      rw [k_elR]
      refine k_some ⟨e, A, B, ?_, Fi⟩
      rw [ez]; exact Ci
theorem c_shop {σ : q_St} {h : q_Hp} {x A B : Nat} {z zi y : k_Z} {p : Bool} {c : Nat → Nat → Int32} (I : k_CI σ h x A B z p zi y c) (K : k_va z) (vy : k_vy y) (E : k_etc σ x) (v : Int32) : k_ok (fX4_shop σ h x v) (fun r => r.1 = (p_shop z y c v).1 ∧ ∃ A' B', k_CI r.2.1 r.2.2 x A' B' (p_shop z y c v).2 p zi y c ∧ k_fc σ h x r.2.1 r.2.2) := by
  have X := I.1
  have Y := I.2.2.2.2.1
  unfold fX4_shop p_shop
  rw [c_isShelf, k_bs1, k_01i]
  cases ev : k_is v 8 with
  | false =>
    have : k_wr y 2 v = -1 := by unfold k_wr; rw [ev]; rfl
    simp only [this, if_neg (show ¬ (-1 : Int32) = 0 by decide)]
    exact k_some ⟨rfl, A, B, I, fc_rf E⟩
  | true =>
  obtain ⟨d, hd, rfl⟩ := k_is_t (by decide) ev
  have L := xL X d hd
  have y0 := (Y d hd).1
  have vd := vy d hd
  rw [if_pos rfl, c_shelfAt X hd, k_bs1, q_gu_t (lt0 L), y0]
  simp only [k_wrN hd, k_cl (show d < 2147483648 by omega), k_eqL (show (0 : Int32) = nI 0 from rfl) (show y 0 d < 2147483648 by omega) (show 0 < 2147483648 by decide), k_eqL (show (2 : Int32) = nI 2 from rfl) (show y 0 d < 2147483648 by omega) (show 2 < 2147483648 by decide)]
  by_cases e0 : y 0 d = 0
  · simp only [if_pos e0, if_neg (show ¬ (-11 : Int32) = 0 by decide)]
    exact k_some ⟨rfl, A, B, I, fc_rf E⟩
  simp only [if_neg e0]
  by_cases e2 : y 0 d = 2
  · have s3 := ((Y d hd).2.2 e2).1
    have b3 := (vd.2.2 e2).1
    simp only [if_pos e2, s3, eq_self, if_true, k_eqL (show (0 : Int32) = nI 0 from rfl) (show y 3 d < 2147483648 by omega) (show 0 < 2147483648 by decide)]
    by_cases e3 : y 3 d = 0
    · simp only [if_pos e3]
      have Hx := tX_CI I vy hd e2
      have K33 := t_K34 (t := c d) Hx.2.2.1
      have qB := t_qB (c d) (y 4 d) (t_K (c d) (y 4 d))
      rw [c_firstBad Hx, k_bs1]
      cases g : t_g (c d) (y 4 d) (t_q (c d) (y 4 d) (t_K (c d) (y 4 d))) with
      | true =>
        rw [if_pos (show true = true from rfl), if_pos (by decide)]
        exact k_b3 (c_tellShop I K vy E hd e2 g) (fun r5 σ5 h5 p5 => k_some p5)
      | false =>
        have eB : t_e (c d) (y 4 d) (t_q (c d) (y 4 d) (t_K (c d) (y 4 d))) ≤ 10000 := by
          unfold t_e
          have := t_DB (c d) (y 4 d) (t_q (c d) (y 4 d) (t_K (c d) (y 4 d)))
          have := t_Fle (c d) (y 4 d) (t_q (c d) (y 4 d) (t_K (c d) (y 4 d)) + 1) (t_D (c d) (y 4 d) (t_q (c d) (y 4 d) (t_K (c d) (y 4 d))))
          split <;> omega
        rw [if_neg (show ¬ false = true by decide), if_neg (nI_pos (by omega)), p_textB g]
        exact k_some ⟨rfl, A, B, I, fc_rf E⟩
    · simp only [if_neg e3]
      exact k_some ⟨rfl, A, B, I, fc_rf E⟩
  · simp only [if_neg e2, if_neg (show ¬ (-12 : Int32) = 0 by decide)]
    exact k_some ⟨rfl, A, B, I, fc_rf E⟩
