/-! shop of the model -/
def t_LL : List Nat := [0, 6, 13, 14, 21, 22, 23, 24, 25, 32, 33]
def t_LR : List Nat := [1, 2, 3, 4, 5, 6, 7, 8, 9, 10, 11, 18, 19, 20, 21]
theorem sr_sr {σ : q_St} {a k v w : Nat} : q_sr (q_sr σ a k v) a k w = q_sr σ a k w := by
  have e : va_up (va_up σ.2.2.2 a (va_up (σ.2.2.2 a) k v)) a (va_up (va_up σ.2.2.2 a (va_up (σ.2.2.2 a) k v) a) k w) = va_up σ.2.2.2 a (va_up (σ.2.2.2 a) k w) := by
    funext b
    by_cases h : b = a
    · subst h
      rw [va_up_self, va_up_self, va_up_self]
      funext j
      by_cases h2 : j = k
      · subst h2; rw [va_up_self, va_up_self]
      · rw [va_up_ne _ _ h2, va_up_ne _ _ h2, va_up_ne _ _ h2]
    · rw [va_up_ne _ _ h, va_up_ne _ _ h, va_up_ne _ _ h]
  show (σ.1, σ.2.1, σ.2.2.1, _) = (σ.1, σ.2.1, σ.2.2.1, _)
  rw [show (q_sr σ a k v).2.2.2 = va_up σ.2.2.2 a (va_up (σ.2.2.2 a) k v) from rfl, e]
theorem t_ctB (v : Int32) : t_ct v ≤ 5 := by
  unfold t_ct
  repeat' split
  all_goals decide
/-- what is told of the statement j -/
def t_L (h : q_Hp) (m : Nat) (t : Nat → Int32) (n j : Nat) : Prop := t_g t n (t_q t n j) = true → q_int h (m + 18) j = nI (t_q t n j) ∧ q_int h (m + 19) j = t_b t n (t_q t n j) ∧ ∀ i, i < t_ct (t_b t n (t_q t n j)) → q_int h (m + 20) (5 * j + i) = nI (t_to t n (t_b t n (t_q t n j)) (t_q t n j + 1) i)
theorem t_gq {t : Nat → Int32} {n k : Nat} (g : t_g t n (t_q t n k) = true) : t_e t n (t_q t n k) + 1 = t_q t n (k + 1) := by
  have gt := t_gT g
  unfold t_e
  rw [if_neg gt.1, gt.2.1, t_q]; omega
def t_R (h : q_Hp) (m d : Nat) (t : Nat → Int32) (n : Nat) (h1 : q_Hp) (KK i : Nat) : Prop := q_int h m 25 = nI i ∧ k_mf [22, 23, 24, 25] [18, 19, 20] m h1 h ∧ t_U h m d t n ∧ (∀ j, j < i → t_L h m t n j) ∧ if i ≤ KK then q_int h m 24 = 0 ∧ q_int h m 23 = nI (t_q t n i) else (q_int h m 24 = (if t_g t n (t_q t n (KK)) then 0 else 1) ∧ q_int h m 23 = nI (if t_g t n (t_q t n (KK)) then t_q t n (KK + 1) else t_e t n (t_q t n (KK))))
theorem m_readAll {σ : q_St} {h1 h : q_Hp} {m d n KK : Nat} {t : Nat → Int32} (hK : t_K t n = KK) (M : k_M σ m) (R0 : t_R h m d t n h1 KK 0) (hn : n ≤ 100) : k_ok (q_loop (fun s => fX5_shop_57 m (nI d) s.1 s.2) q_N (σ, h)) (fun o => o.1 = σ ∧ t_R o.2 m d t n h1 KK (KK + 1)) := by
  have K33 := t_K34 (t := t) hn
  have fin := t_Kfin (t := t) hn
  have Krun : ∀ k, k ≤ KK → 3 * k ≤ t_q t n k ∧ (0 < k → t_q t n k < n) := fun k hk => t_run k (by rw [hK]; exact hk)
  have Kg : ∀ k, k < KK → t_g t n (t_q t n k) = true := fun k hk => (t_Kg (by rw [hK]; exact hk)).1
  rw [hK] at K33 fin
  clear hK
  refine k_for (n := KK + 1) (fun i s => s.1 = σ ∧ t_R s.2 m d t n h1 KK i) (by rw [k_N]; omega) ⟨rfl, R0⟩ ?_
  rintro i ⟨σ', h'⟩ hi ⟨es, r25, ra, rU, rL, rC⟩
  dsimp only at es r25 ra rU rL rC
  subst es
  show k_ok (fX5_shop_57 m (nI d) σ' h') _
  unfold fX5_shop_57
  rw [q_gu_t (mt0 M)]
  rcases Nat.lt_or_ge i (KK + 1) with q | q
  · rw [if_pos (by omega)] at rC
    obtain ⟨c24, c23⟩ := rC
    have qB := t_qB t n i
    have run := Krun i (by omega)
    have go : k_ok (fX5_shop_84 σ' h' m (nI d)) (k_z (fun s' => i < KK + 1 ∧ (s'.1 = σ' ∧ t_R s'.2 m d t n h1 KK (i + 1))) (fun o => o.1 = σ' ∧ t_R o.2 m d t n h1 KK (KK + 1))) := by
      unfold fX5_shop_84
      rw [q_gu_t (mt0 M)]
      refine k_bind (m_stmt M rU c23 c24 r25 (by omega) (by omega)) (fun h2 S => ?_)
      obtain ⟨s23, s24, s25, sa, s1, s2, s3, s4, s5⟩ := S
      refine k_some ⟨q, rfl, s25, mf_tr ra (mf_mono sa (by decide) (by decide)), U_mf rU sa (by decide) (by decide), fun j hj => ?_, ?_⟩
      · dsimp only
        intro gj
        by_cases e : j = i
        · subst e
          have pn := t_Dn (t_gT gj).1
          exact ⟨s3, by rw [← t_hb pn]; exact s4, s5 gj⟩
        · have := rL j (by omega) gj
          have cB := t_ctB (t_b t n (t_q t n j))
          exact ⟨by rw [(s1 j (by omega)).1]; exact this.1, by rw [(s1 j (by omega)).2]; exact this.2.1, fun a ha => by rw [s2 _ (by omega)]; exact this.2.2 a ha⟩
      · dsimp only
        by_cases e : i + 1 ≤ KK
        · have gi := Kg i (by omega)
          rw [if_pos e]
          rw [gi, if_pos rfl] at s24 s23
          rw [t_gq gi] at s23
          exact ⟨s24, s23⟩
        · rw [if_neg e]
          have ei : i = KK := by omega
          subst ei
          refine ⟨s24, ?_⟩
          cases g : t_g t n (t_q t n i) with
          | true =>
            rw [g, if_pos rfl, t_gq g] at s23
            rw [if_pos rfl]
            exact s23
          | false =>
            rw [g, if_neg Bool.false_ne_true] at s23
            rw [if_neg Bool.false_ne_true]
            exact s23
    rw [c24, if_pos rfl, r25]
    by_cases i0 : i = 0
    · rw [if_pos (by rw [i0]; decide)]
      exact go
    · have lt := run.2 (by omega)
      rw [if_neg (nI_ne0 (by omega) (by omega)), mr19 M, ml16 M, q_gu_t ⟨mt16 M, vp_in_nI rU.1.1 (by decide)⟩, k_cl (by have := rU.1.1; omega), rU.2.1, c23, if_neg (nI_ge lt (by omega))]
      exact go
  · have ei : i = KK + 1 := by omega
    subst ei
    have full : t_R h' m d t n h1 KK (KK + 1) := ⟨r25, ra, rU, rL, rC⟩
    rw [if_neg (by omega)] at rC
    obtain ⟨c24, c23⟩ := rC
    cases g : t_g t n (t_q t n (KK)) with
    | false =>
      rw [g] at c24
      rw [c24, if_neg (by decide)]
      exact k_some ⟨rfl, full⟩
    | true =>
      rw [g] at c24 c23
      unfold t_fin at fin
      rw [g] at fin
      have qN : n ≤ t_q t n (KK + 1) := by simpa using fin
      have qB := t_qB t n (KK + 1)
      rw [c24, if_pos (by decide), r25, if_neg (nI_ne0 (by omega) (by omega)), mr19 M, ml16 M, q_gu_t ⟨mt16 M, vp_in_nI rU.1.1 (by decide)⟩, k_cl (by have := rU.1.1; omega), rU.2.1, c23, if_pos rfl, if_pos (nI_le qN (by omega))]
      exact k_some ⟨rfl, full⟩
theorem m_doAll {σ : q_St} {h h1 : q_Hp} {m d n KK : Nat} {t : Nat → Int32} {z : k_Z} (M : k_M σ m) (W : k_W h m z) (K : k_va z) (hK : t_K t n = KK) (R : t_R h m d t n h1 KK (KK + 1)) (g : t_g t n (t_q t n KK) = true) (hn : n ≤ 100) (x1 : Int32) : k_ok (fX5_shop_91 σ h m x1) (fun r => r.1 = (p_text z t n).1 ∧ k_W r.2.2 m (p_text z t n).2 ∧ r.2.1 = q_sr σ m 34 (m + 21) ∧ k_mf t_LL t_LR m h r.2.2) := by
  obtain ⟨r25, ra, rU, rL, rC⟩ := R
  have K33 := t_K34 (t := t) hn
  have gall : ∀ j, j ≤ KK → t_g t n (t_q t n j) = true := fun j hj => t_gall (by rw [hK]; exact g) j (by rw [hK]; exact hj)
  have pF : ∀ i w, i ≤ KK → t_st t n z i = some w → t_do t n w (t_q t n i) = none → p_text z t n = (-2000 - nI (t_q t n i), z) := fun i w h1 h2 h3 => p_textF (by rw [hK]; exact g) (by rw [hK]; exact h1) h2 h3
  have pG : ∀ w, t_st t n z (KK + 1) = some w → p_text z t n = (nI (KK + 1), w) := fun w h1 => by
    have := p_textG (z := z) (t := t) (n := n) (w := w) (by rw [hK]; exact g) (by rw [hK]; exact h1)
    rw [hK] at this; exact this
  rw [hK] at K33
  clear hK
  generalize p_text z t n = pt at pF pG ⊢
  rw [if_neg (by omega), g] at rC
  unfold fX5_shop_91 fX5_open
  rw [q_gu_t (mt0 M), rC.1, if_pos (by decide), mr29 M, q_gu_t (mt21 M)]
  have M' : k_M (q_sr σ m 34 (m + 21)) m := M_34 M
  obtain ⟨⟨σ7, h7⟩, ec, e7, Q7⟩ := m_carry (σ := σ) (h := h) (m := m) (t := 21) (tk := true) M (Or.inl rfl)
  dsimp only at e7 Q7
  subst e7
  rw [show fX5_carryAll σ h m (m + 21) (1 : Int32) = some (q_sr σ m 34 (m + 21), h7) from ec, k_b2s, k_b2s]
  obtain ⟨I7, a7⟩ := m_take W K Q7
  have W7 := W_mf W a7 (by decide) (fun r h1 h2 => by simp; omega)
  have A7 : k_mf t_LL t_LR m h h7 := mf_mono a7 (by decide) (by decide)
  have f25 : q_int h7 m 25 = nI (KK + 1) := by rw [a7.2.1 25 (by decide)]; exact r25
  refine k_bind (k_for (n := KK + 1) (P := fun (o : (q_St × q_Hp) ⊕ (Int32 × q_St × q_Hp)) => match o with
      | .inl o => o.1 = q_sr σ m 34 (m + 21) ∧ q_int o.2 m 25 = nI (KK + 1) ∧ ∃ w, t_st t n z (KK + 1) = some w ∧ k_W o.2 m w ∧ k_mf t_LL t_LR m h o.2
      | .inr o => o.1 = pt.1 ∧ k_W o.2.2 m pt.2 ∧ o.2.1 = q_sr σ m 34 (m + 21) ∧ k_mf t_LL t_LR m h o.2.2)
    (fun i s => s.1 = nI i ∧ s.2.1 = q_sr σ m 34 (m + 21) ∧ ∃ w, t_st t n z i = some w ∧ k_va w ∧ k_W s.2.2 m w ∧ k_mf t_lf t_rw m h7 s.2.2) (by rw [k_N]; omega) ⟨rfl, rfl, z, rfl, K, W7, mf_rf⟩ ?_) (fun o po => ?_)
  · rintro i ⟨x3, σi, hi⟩ hle ⟨e3, es, w, ew, Kw, Wi, ai⟩
    dsimp only at e3 es Wi ai
    subst e3; subst es
    show k_ok (fX5_shop_113 m x1 (nI i) (q_sr σ m 34 (m + 21)) hi) _
    unfold fX5_shop_113
    have Ai : k_mf t_LL t_LR m h hi := mf_tr A7 (mf_mono ai (by decide) (by decide))
    have g25 : q_int hi m 25 = nI (KK + 1) := by rw [ai.2.1 25 (by decide)]; exact f25
    rw [q_gu_t (mt0 M'), g25]
    rcases Nat.lt_or_ge i (KK + 1) with q | q
    · have gi := gall i (by omega)
      obtain ⟨l18, l19, l20⟩ := rL i (by omega) gi
      have k18 : ∀ h', k_mf t_LL [1, 2, 3, 4, 5, 6, 7, 8, 9, 10, 11] m hi h' → q_int h' (m + 18) i = nI (t_q t n i) := fun h' ah => by
        rw [mf_i ah 18 (by decide) (by decide) (by decide), mf_i ai 18 (by decide) (by decide) (by decide), mf_i a7 18 (by decide) (by decide) (by decide)]; exact l18
      rw [if_neg (nI_ge q (by omega))]
      refine k_b2 (m_comesT M' Wi Kw gi (by omega) (by rw [mf_i ai 19 (by decide) (by decide) (by decide), mf_i a7 19 (by decide) (by decide) (by decide)]; exact l19) (fun j hj => by rw [mf_i ai 20 (by decide) (by decide) (by decide), mf_i a7 20 (by decide) (by decide) (by decide)]; exact l20 j hj)) (fun r h12 p12 => ?_)
      cases ed : t_do t n w (t_q t n i) with
      | none =>
        rw [ed] at p12
        obtain ⟨e12, eh⟩ := p12
        dsimp only at e12 eh
        subst e12; subst eh
        rw [if_pos rfl]
        unfold fX5_close
        rw [mr29 M', q_gu_t (mt21 M')]
        obtain ⟨⟨σ8, h8⟩, ec8, e8, Q8⟩ := m_carry (σ := q_sr σ m 34 (m + 21)) (h := h12) (m := m) (t := 21) (tk := false) M' (Or.inl rfl)
        dsimp only at e8 Q8
        rw [sr_sr] at e8
        subst e8
        rw [show fX5_carryAll (q_sr σ m 34 (m + 21)) h12 m (m + 21) (0 : Int32) = some (q_sr σ m 34 (m + 21), h8) from ec8, k_b2s, k_b2s]
        have Ic : k_I h12 (m + 21) z := k_I_cg I7 (mf_i ai 21 (by decide) (by decide) (by decide))
        obtain ⟨W8, a8⟩ := m_lay Ic K Q8
        have pf := pF i w (by omega) ew ed
        have v18 := k18 h8 (mf_mono a8 (by decide) (by decide))
        rw [mr26 M', ml18 M', q_gu_t ⟨mt0 M', mt18 M', vp_in_nI (by omega) (by decide)⟩, k_cl (by omega), v18]
        refine k_some ⟨?_, ?_, rfl, mf_tr Ai (mf_mono a8 (by decide) (by decide))⟩
        · rw [pf]
        · rw [pf]; exact W8
      | some w' =>
        rw [ed] at p12
        obtain ⟨e12, W12, a12⟩ := p12
        dsimp only at e12 W12 a12
        subst e12
        rw [if_neg (by decide), nI_1]
        refine k_some ⟨q, rfl, rfl, w', ?_, t_va gi Kw ed, W12, mf_tr ai a12⟩
        rw [t_st, ew]; exact ed
    · have ei : i = KK + 1 := by omega
      subst ei
      rw [if_pos (nI_le (Nat.le_refl _) (by omega))]
      exact k_some ⟨rfl, g25, w, ew, Wi, Ai⟩
  · cases o with
    | inl o =>
      obtain ⟨e1, e25, w, ew, Wo, Ao⟩ := po
      rw [k_elL, e1, q_gu_t (mt0 M'), e25]
      have pg := pG w ew
      rw [pg]
      exact k_some ⟨rfl, Wo, rfl, Ao⟩
    | inr o =>
      rw [k_elR]
      exact k_some po
theorem m_shopO {σ : q_St} {h : q_Hp} {m : Nat} {z zi y : k_Z} {p : Bool} {c : Nat → Nat → Int32} (I : k_MI σ h m z p zi y c) (K : k_va z) (vy : k_vy y) (v : Int32) : k_ok (fX5_shop σ h m v) (fun r => r.1 = (p_shop z y c v).1 ∧ k_MI r.2.1 r.2.2 m (p_shop z y c v).2 p zi y c ∧ k_fm σ h m r.2.1 r.2.2) := by
  have M := I.1
  have A1 : k_mf t_LL t_LR m h (q_si h m 21 0) := mf_fi mf_rf (by decide)
  have I1 : k_MI σ (q_si h m 21 0) m z p zi y c := MI_th I
  unfold fX5_shop
  generalize q_si h m 21 0 = h1 at A1 I1 ⊢
  have W := I1.2.1
  have Y := I1.2.2.2.2.1
  rw [m_wrongRow M Y vy, k_bs1]
  unfold p_shop fX5_shop_29 fX5_shop_30
  rcases k_wr_cases y 2 v with ⟨e0, d, hd, rfl, y2, -⟩ | q
  · obtain ⟨s3, l4, cc⟩ := (Y d hd).2.2 y2
    have bb := (vy d hd).2.2 y2
    simp only [e0, eq_self, if_true, k_cl (show d < 2147483648 by omega)]
    rw [mr18 M, ml15 M, q_gu_t ⟨mt15 M, vp_in_nI hd (by decide)⟩, s3]
    simp only [k_eqL (show (0 : Int32) = nI 0 from rfl) (show y 3 d < 2147483648 by omega) (show 0 < 2147483648 by decide)]
    by_cases e3 : y 3 d = 0
    · simp only [if_pos e3]
      rw [if_pos (by decide), q_gu_t (mt0 M)]
      have A2 : k_mf [22, 23, 24, 25] [18, 19, 20] m h1 (q_si (q_si (q_si (q_si h1 m 22 (nI d)) m 23 0) m 24 0) m 25 0) := mf_fi (mf_fi (mf_fi (mf_fi mf_rf (by decide)) (by decide)) (by decide)) (by decide)
      obtain ⟨KK, hK⟩ : ∃ KK, t_K (c d) (y 4 d) = KK := ⟨_, rfl⟩
      have R0 : t_R (q_si (q_si (q_si (q_si h1 m 22 (nI d)) m 23 0) m 24 0) m 25 0) m d (c d) (y 4 d) h1 KK 0 := ⟨k_si_s, A2, ⟨⟨hd, bb.2⟩, by rw [mf_i A2 16 (by decide) (by decide) (by decide)]; exact l4, fun i hi => by rw [mf_l A2 17 (by decide) (by decide) (by decide)]; exact cc i hi, by rw [k_si_j (by decide), k_si_j (by decide), k_si_j (by decide), k_si_s]⟩, fun j hj => absurd hj (Nat.not_lt_zero _), by rw [if_pos (Nat.zero_le _)]; exact ⟨by rw [k_si_j (by decide), k_si_s], by rw [k_si_j (by decide), k_si_j (by decide), k_si_s]; rfl⟩⟩
      refine k_bind (m_readAll hK M R0 bb.2) (fun o po => ?_)
      obtain ⟨σ5, h5⟩ := o
      obtain ⟨es, R5⟩ := po
      dsimp only at es R5
      subst es
      dsimp only
      have R5' := R5
      obtain ⟨r25, ra, rU, rL, rC⟩ := R5
      have A5 : k_mf t_LL t_LR m h h5 := mf_tr A1 (mf_mono ra (by decide) (by decide))
      have W5 := W_mf W ra (by decide) (fun r h1 h2 => by simp; omega)
      rw [if_neg (by omega)] at rC
      cases g : t_g (c d) (y 4 d) (t_q (c d) (y 4 d) KK) with
      | false =>
        rw [g] at rC
        unfold fX5_shop_91
        rw [q_gu_t (mt0 M), rC.1, if_neg (by decide), rC.2, p_textB (by rw [hK]; exact g), hK]
        exact k_some ⟨rfl, MI_st I M W5 A5 (by decide) (fun r h1 h2 => by simp [t_LR]; omega) (by decide), ⟨_, _, A5⟩, Or.inl rfl⟩
      | true =>
        refine k_mono (m_doAll M W5 K hK R5' g bb.2 (nI d)) (fun r pr => ?_)
        obtain ⟨p1, p2, p3, p4⟩ := pr
        have A9 := mf_tr A5 p4
        exact ⟨p1, MI_st I (by rw [p3]; exact M_34 M) p2 A9 (by decide) (fun r h1 h2 => by simp [t_LR]; omega) (by decide), ⟨_, _, A9⟩, Or.inr ⟨_, p3⟩⟩
    · simp only [if_neg e3]
      rw [if_neg (by decide)]
      exact k_some ⟨rfl, I1, ⟨_, _, A1⟩, Or.inl rfl⟩
  · have n := k_neg q
    simp only [if_neg n.2.2, if_neg n.1]
    exact k_some ⟨rfl, I1, ⟨_, _, A1⟩, Or.inl rfl⟩
