/-! the model's constructor, the class's -/
theorem q_al_e {α : Type} {σ : q_St} {h : q_Hp} {t n : Nat} {f : q_St → q_Hp → Nat → Option α} : q_al σ h t n f = f (q_nw σ t n) (q_nh h (q_sz σ)) (q_sz σ) := rfl
theorem q_lr_e {α : Type} {σ : q_St} {a k v : Nat} {f : q_St → Option α} : q_lr σ a k v f = f (q_sr σ a k v) := rfl
theorem gr_mono {a c : Nat} {σ σ' : q_St} {h h' : q_Hp} (G : k_gr c σ h σ' h') (hc : q_sz σ ≤ c) : k_gr a σ h σ' h' := ⟨G.1, G.2.1, fun b hb _ => G.2.2.1 b hb (by omega), G.2.2.2⟩
theorem bd_gx {a e c k w : Nat} {σ0 σ σ' : q_St} {h0 h h' : q_Hp} {fl : List (Nat × Nat)} {ml : List (Nat × Nat × Nat)} (B : k_bd a e σ0 h0 σ h k fl ml) (hk : 0 < k) (hs0 : q_sz σ0 = a + 1) (G : k_gr c σ h σ' h') (hc : a < c) (hm : ∀ q ∈ ml, a + q.1 ≠ c) (hs : q_sz σ' = a + w) (hw : k ≤ w) : k_bd a e σ0 h0 σ' h' w fl ml := by
  obtain ⟨b1, b2, b3, b4, b5⟩ := B
  have ga := G.2.2.1 a (by omega) (by omega)
  refine ⟨hs, gr_tr b2 G (Or.inr (by omega)), fun i => (ga.2.1 i).trans (b3 i), fun q hq => (ga.1 _).trans (b4 q hq), fun q hq => ?_⟩
  have := b5 q hq
  have g1 := G.2.1 (a + q.1) (by omega)
  have g2 := G.2.2.1 (a + q.1) (by omega) (hm q hq)
  exact ⟨⟨this.1.1, by omega⟩, g1.1.trans this.2.1, g1.2.trans this.2.2.1, fun n i => ⟨(g2.2.1 i).trans (this.2.2.2 n i).1, (g2.1 i).trans (this.2.2.2 n i).2⟩⟩
theorem bd_al2 {β : Type} {a e t n k f : Nat} {σ0 σ : q_St} {h0 h : q_Hp} {fl : List (Nat × Nat)} {ml : List (Nat × Nat × Nat)} {F : q_St → q_Hp → Option β} {P : β → Prop} (B : k_bd a e σ0 h0 σ h k fl ml) (hk : 0 < k) (hs0 : q_sz σ0 = a + 1) (hf : ∀ q ∈ fl, q.1 ≠ f) (K : ∀ σ2 h2, k_bd a e σ0 h0 σ2 h2 (k + 1) ((f, k) :: fl) ((k, t, n) :: ml) → k_gr a σ h σ2 h2 → k_ok (F σ2 h2) P) : k_ok (q_al σ h t n fun σ1 h1 a1 => q_lr σ1 a f a1 fun σ2 => F σ2 h1) P := by
  obtain ⟨B1, t1, l1, z1⟩ := bd_nw (t := t) (n := n) B hk hs0
  have hs := B.1
  have G1 := gr_nw (a := a + k) (t := t) (n := n) (h := h) B.2.1.2.2.2
  have G2 := gr_sr (a := a) (f := f) (v := a + k) (h := q_nh h (q_sz σ)) G1.2.2.2
  unfold q_al q_lr
  rw [hs] at B1 z1 G1 G2 ⊢
  exact K _ _ (bd_lr (bd_ml B1 ⟨hk, by omega⟩ t1 l1 z1) hs0 hf) (gr_tr (gr_mono G1 (by rw [hs]; exact Nat.le_refl _)) G2 (Or.inl rfl))
theorem bd_e {a e k : Nat} {σ0 σ : q_St} {h0 h h' : q_Hp} {fl : List (Nat × Nat)} {ml : List (Nat × Nat × Nat)} (B : k_bd a e σ0 h0 σ h k fl ml) (hs0 : q_sz σ0 = a + 1) (he : 0 < e) (g : k_ag (fun b => b ≠ a + e) h h') : k_bd a e σ0 h0 σ h' k fl ml := by
  obtain ⟨b1, b2, b3, b4, b5⟩ := B
  exact ⟨b1, gr_tr b2 (gr_h (a := a + e) b2.2.2.2 g) (Or.inr (by omega)), fun i => (k_agI g (by omega) i).trans (b3 i), b4, fun q hq => ⟨(b5 q hq).1, (b5 q hq).2.1, (b5 q hq).2.2.1, fun n i => ⟨(k_agI g (by omega) i).trans ((b5 q hq).2.2.2 n i).1, ((b5 q hq).2.2.2 n i).2⟩⟩⟩
/-- an object with a constructor of its own is made and hung into the object -/
theorem bd_sub {β : Type} {a e k f t w ta : Nat} {σ0 σ : q_St} {h0 h : q_Hp} {fl : List (Nat × Nat)} {ml : List (Nat × Nat × Nat)} {init : q_St → q_Hp → Nat → Option (q_St × q_Hp)} {S : q_St → q_Hp → Nat → Prop} {F : q_St → q_Hp → Option β} {P : β → Prop} (B : k_bd a e σ0 h0 σ h k fl ml) (hk : 0 < k) (hs0 : q_sz σ0 = a + 1) (hta : q_tag σ0 a = ta) (hf : ∀ q ∈ fl, q.1 ≠ f) (hw : 1 ≤ w)
    (hi : ∀ σ1 h1 A, q_sz σ1 = A + 1 → q_tag σ1 A = t → (∀ b, q_sz σ1 ≤ b → q_tag σ1 b = 0) → k_ok (init σ1 h1 A) (fun r => q_sz r.1 = A + w ∧ k_gr A σ1 h1 r.1 r.2 ∧ S r.1 r.2 A))
    (K : ∀ σ2 h2, k_bd a e σ0 h0 σ2 h2 (k + w) ((f, k) :: fl) ml → k_gr a σ h σ2 h2 → (∃ σ3, S σ3 h2 (a + k) ∧ k_gr a σ3 h2 σ2 h2 ∧ q_sz σ3 = a + k + w ∧ ∀ b, q_sz σ3 ≤ b → q_tag σ3 b = 0) → k_ok (F σ2 h2) P) :
    k_ok (q_al σ h t 0 fun σ1 h1 a1 => q_b2 (init σ1 h1 a1) fun σ2 h2 => q_gu ((q_tag σ2 a = ta) ∧ (q_tag σ2 a1 = t)) (q_lr σ2 a f a1 fun σ5 => F σ5 h2)) P := by
  obtain ⟨B1, t1, l1, z1⟩ := bd_nw (t := t) (n := 0) B hk hs0
  have hs := B.1
  have G1 := gr_nw (a := a + k) (t := t) (n := 0) (h := h) B.2.1.2.2.2
  unfold q_al q_lr
  rw [hs] at B1 G1 ⊢
  have s1 : q_sz (q_nw σ t 0) = a + k + 1 := by show q_sz σ + 1 = _; omega
  refine k_b2 (hi _ (q_nh h (a + k)) (a + k) s1 t1 G1.2.2.2) (fun σ2 h2 p2 => ?_)
  obtain ⟨s2, G2, S2⟩ := p2
  dsimp only at s2 G2 S2
  have B2 := bd_gx B1 (by omega) hs0 G2 (by omega) (fun q hq => by have := (B.2.2.2.2 q hq).1; omega) (show q_sz σ2 = a + (k + w) by omega) (by omega)
  have B3 := bd_lr (f := f) (v := k) B2 hs0 hf
  have G3 := gr_sr (a := a) (f := f) (v := a + k) (h := h2) G2.2.2.2
  rw [q_gu_t ⟨(B2.2.1.2.1 a (by omega)).1.trans hta, (G2.2.1 (a + k) (by omega)).1.trans t1⟩]
  exact K _ _ B3 (gr_tr (gr_tr (gr_mono G1 (by omega)) G2 (Or.inr (by omega))) G3 (Or.inl rfl)) ⟨σ2, S2, G3, s2, G2.2.2.2⟩

def k_z0 : k_Z := fun _ _ => 0
set_option maxHeartbeats 1000000 in
theorem i_model {σ : q_St} {h : q_Hp} {m : Nat} (hs : q_sz σ = m + 1) (ht : q_tag σ m = 6) (fr : ∀ b, q_sz σ ≤ b → q_tag σ b = 0) (hz : ∀ i, q_int h m i = 0) (c : Nat → Nat → Int32) : k_ok (fX5_init σ h m) (fun r => q_sz r.1 = m + 27 ∧ k_gr m σ h r.1 r.2 ∧ k_MI r.1 r.2 m k_z0 false k_z0 k_z0 c) := by
  unfold fX5_init
  refine bd_al (bd_0 (e := 23) hs fr) (by decide) hs (by decide) (fun σ1 h1 B1 => ?_)
  refine bd_al B1 (by decide) hs (by decide) (fun σ2 h2 B2 => ?_)
  refine bd_al B2 (by decide) hs (by decide) (fun σ3 h3 B3 => ?_)
  refine bd_al B3 (by decide) hs (by decide) (fun σ4 h4 B4 => ?_)
  refine bd_al B4 (by decide) hs (by decide) (fun σ5 h5 B5 => ?_)
  refine bd_al B5 (by decide) hs (by decide) (fun σ6 h6 B6 => ?_)
  refine bd_al B6 (by decide) hs (by decide) (fun σ7 h7 B7 => ?_)
  refine bd_al B7 (by decide) hs (by decide) (fun σ8 h8 B8 => ?_)
  refine bd_al B8 (by decide) hs (by decide) (fun σ9 h9 B9 => ?_)
  refine bd_al B9 (by decide) hs (by decide) (fun σ10 h10 B10 => ?_)
  refine bd_al B10 (by decide) hs (by decide) (fun σ11 h11 B11 => ?_)
  refine bd_al B11 (by decide) hs (by decide) (fun σ12 h12 B12 => ?_)
  refine bd_al B12 (by decide) hs (by decide) (fun σ13 h13 B13 => ?_)
  refine bd_al B13 (by decide) hs (by decide) (fun σ14 h14 B14 => ?_)
  refine bd_al B14 (by decide) hs (by decide) (fun σ15 h15 B15 => ?_)
  refine bd_al B15 (by decide) hs (by decide) (fun σ16 h16 B16 => ?_)
  refine bd_al B16 (by decide) hs (by decide) (fun σ17 h17 B17 => ?_)
  refine bd_al B17 (by decide) hs (by decide) (fun σ18 h18 B18 => ?_)
  refine bd_al B18 (by decide) hs (by decide) (fun σ19 h19 B19 => ?_)
  refine bd_al B19 (by decide) hs (by decide) (fun σ20 h20 B20 => ?_)
  refine bd_al B20 (by decide) hs (by decide) (fun σ21 h21 B21 => ?_)
  refine bd_al B21 (by decide) hs (by decide) (fun σ22 h22 B22 => ?_)
  obtain ⟨N, t1, l1, z1⟩ := bd_nw (t := 7) (n := 4) B22 (by decide) hs
  have sz : q_sz σ22 = m + 23 := B22.1
  have fr22 := B22.2.1.2.2.2
  rw [q_al_e]
  rw [sz] at N z1 ⊢
  rw [q_gu_t ⟨by rw [l1]; exact vp_in_nI (n := 0) (by decide) (by decide), by rw [l1]; exact vp_in_nI (n := 1) (by decide) (by decide), by rw [l1]; exact vp_in_nI (n := 2) (by decide) (by decide), by rw [l1]; exact vp_in_nI (n := 3) (by decide) (by decide)⟩]
  have N1 := bd_lr (f := 36) (v := 23) (bd_ml N ⟨by decide, by decide⟩ t1 l1 z1) hs (by decide)
  have g23 : k_ag (fun b => b ≠ m + 23) (q_nh h22 (m + 23)) (q_si (q_si (q_si (q_si (q_nh h22 (m + 23)) (m + 23) (Int32.toNatClampNeg (0 : Int32)) (-1 : Int32)) (m + 23) (Int32.toNatClampNeg (1 : Int32)) (-1 : Int32)) (m + 23) (Int32.toNatClampNeg (2 : Int32)) (-1 : Int32)) (m + 23) (Int32.toNatClampNeg (3 : Int32)) (-1 : Int32)) := k_ag_si (k_ag_si (k_ag_si (k_ag_si k_ag_rf (fun q => q rfl)) (fun q => q rfl)) (fun q => q rfl)) (fun q => q rfl)
  have N2 := bd_e N1 hs (by decide) g23
  have ng : ∀ g, g < 4 → q_int (q_si (q_si (q_si (q_si (q_nh h22 (m + 23)) (m + 23) (Int32.toNatClampNeg (0 : Int32)) (-1 : Int32)) (m + 23) (Int32.toNatClampNeg (1 : Int32)) (-1 : Int32)) (m + 23) (Int32.toNatClampNeg (2 : Int32)) (-1 : Int32)) (m + 23) (Int32.toNatClampNeg (3 : Int32)) (-1 : Int32)) (m + 23) g = -1 := fun g hg => by
    rcases (show g = 0 ∨ g = 1 ∨ g = 2 ∨ g = 3 by omega) with rfl | rfl | rfl | rfl
    · rw [k_si_j (by decide), k_si_j (by decide), k_si_j (by decide)]; exact k_si_s
    · rw [k_si_j (by decide), k_si_j (by decide)]; exact k_si_s
    · rw [k_si_j (by decide)]; exact k_si_s
    · exact k_si_s
  rw [q_lr_e]
  generalize q_sr (q_nw σ22 7 4) m 36 (m + 23) = σ23 at N2 ⊢
  generalize q_si (q_si (q_si (q_si (q_nh h22 (m + 23)) (m + 23) (Int32.toNatClampNeg (0 : Int32)) (-1 : Int32)) (m + 23) (Int32.toNatClampNeg (1 : Int32)) (-1 : Int32)) (m + 23) (Int32.toNatClampNeg (2 : Int32)) (-1 : Int32)) (m + 23) (Int32.toNatClampNeg (3 : Int32)) (-1 : Int32) = h23 at N2 ng ⊢
  refine bd_al2 N2 (by decide) hs (by decide) (fun σ24 h24 B24 G24 => ?_)
  refine bd_al2 B24 (by decide) hs (by decide) (fun σ25 h25 B25 G25 => ?_)
  refine bd_al2 B25 (by decide) hs (by decide) (fun σ26 h26 B26 G26 => ?_)
  obtain ⟨b1, b2, b3, b4, b5⟩ := B26
  have g4 : k_ag (fun b => b ≠ m) h26 (q_si h26 m 21 0) := k_ag_si k_ag_rf (fun q => q rfl)
  have zo : ∀ i, i ≠ 21 → q_int (q_si h26 m 21 0) m i = 0 := fun i hi => by rw [k_si_j hi, b3, hz]
  have MM : k_M σ26 m := ⟨(b2.2.1 m (by omega)).1.trans ht, fun p hp => b4 p (by
    have : ∀ p ∈ k_mr, p ∈ [(43, 26), (40, 25), (39, 24), (36, 23), (30, 22), (29, 21), (28, 20), (27, 19), (26, 18), (20, 17), (19, 16), (18, 15), (17, 14), (16, 13), (15, 12), (12, 11), (11, 10), (10, 9), (9, 8), (8, 7), (7, 6), (5, 5), (4, 4), (3, 3), (2, 2), (1, 1)] := by decide
    exact this p hp), fun p hp => by
    have : ∀ p ∈ k_ml, p ∈ [(26, 8, 100), (25, 7, 7), (24, 7, 2048), (23, 7, 4), (22, 7, 90), (21, 7, 90), (20, 7, 255), (19, 7, 51), (18, 7, 51), (17, 8, 800), (16, 7, 8), (15, 7, 8), (14, 7, 8), (13, 7, 8), (12, 7, 8), (11, 7, 7), (10, 7, 7), (9, 7, 7), (8, 7, 7), (7, 7, 7), (6, 7, 7), (5, 7, 8), (4, 7, 8), (3, 7, 8), (2, 7, 8), (1, 7, 8)] := by decide
    have := b5 p (this p hp)
    exact ⟨this.2.1, this.2.2.1⟩⟩
  have G := gr_tr (gr_tr G24 G25 (Or.inl rfl)) G26 (Or.inl rfl)
  refine k_some ⟨b1, gr_tr b2 (gr_h b2.2.2.2 g4) (Or.inl rfl), MM, ⟨⟨zo 0 (by decide), zo 6 (by decide), zo 13 (by decide), zo 14 (by decide)⟩, fun r s hr hs => absurd hs (Nat.not_lt_zero _), fun r s hr hs => absurd hs (Nat.not_lt_zero _)⟩, zo 31 (by decide), fun e => (nomatch e), fun d hd => ⟨?_, fun e => (nomatch e), fun e => (nomatch e)⟩, fun g hg => ?_, zo 37 (by decide), zo 38 (by decide)⟩
  · dsimp only
    rw [k_agI g4 (by omega)]
    exact ((b5 (12, 7, 8) (by decide)).2.2.2 (by decide) d).1
  · dsimp only
    rw [k_agI g4 (by omega), (G.2.2.1 (m + 23) (by have := N2.1; omega) (by omega)).2.1 g]
    exact ng g hg
theorem i_shelves {σ0 : q_St} {h0 : q_Hp} {x : Nat} (hs : q_sz σ0 = x + 56) (tx : q_tag σ0 x = 5) (r4 : q_ref σ0 x 4 = x + 37) (t37 : q_tag σ0 (x + 37) = 9) (l37 : q_len σ0 (x + 37) = 8) (fr : ∀ b, q_sz σ0 ≤ b → q_tag σ0 b = 0) : k_ok (q_loop (fun s => fX4_init_121 x s.1 s.2.1 s.2.2) q_N ((0 : Int32), σ0, h0)) (fun o => q_sz o.1 = x + 80 ∧ k_gr (x + 37) σ0 h0 o.1 o.2 ∧ ∀ d, d < 8 → q_ref o.1 (x + 37) d = x + 56 + 3 * d ∧ k_lf o.1 (x + 56 + 3 * d) ∧ q_int o.2 (x + 56 + 3 * d) 1 = 0) := by
  refine k_for (n := 8) (fun i s => s.1 = nI i ∧ q_sz s.2.1 = x + 56 + 3 * i ∧ k_gr (x + 37) σ0 h0 s.2.1 s.2.2 ∧ ∀ d, d < i → q_ref s.2.1 (x + 37) d = x + 56 + 3 * d ∧ k_lf s.2.1 (x + 56 + 3 * d) ∧ q_int s.2.2 (x + 56 + 3 * d) 1 = 0) (by rw [k_N]; omega) ⟨rfl, hs, gr_rf fr, fun d hd => absurd hd (Nat.not_lt_zero _)⟩ ?_
  rintro i ⟨x1, σ, h⟩ hi ⟨e1, sz, G, D⟩
  dsimp only at e1 sz G D
  subst e1
  show k_ok (fX4_init_121 x (nI i) σ h) _
  unfold fX4_init_121
  have gx := G.2.1 x (by omega)
  have gr := (G.2.2.1 x (by omega) (by omega)).1 4
  have g37 := G.2.1 (x + 37) (by omega)
  rw [q_gu_t ⟨gx.1.trans tx, by rw [gr, r4]; exact g37.1.trans t37⟩, gr, r4, g37.2, l37, k_ofN]
  rcases Nat.lt_or_ge i 8 with q | q
  · rw [if_neg (nI_ge q (by decide)), q_gu_t (vp_in_nI q (by decide))]
    have G1 := gr_nw (a := x + 56 + 3 * i) (t := 2) (n := 0) (h := h) G.2.2.2
    have t1 : q_tag (q_nw σ 2 0) (x + 56 + 3 * i) = 2 := by rw [← sz]; exact q_tnew _ _ _
    have s1 : q_sz (q_nw σ 2 0) = x + 56 + 3 * i + 1 := by show q_sz σ + 1 = _; omega
    unfold q_al
    rw [sz] at G1 ⊢
    refine k_b2 (i_shelf s1 t1 G1.2.2.2) (fun σ3 h3 p3 => ?_)
    obtain ⟨s3, G3, F3, f3⟩ := p3
    dsimp only at s3 G3 F3 f3
    have G13 := gr_tr (gr_mono (a := x + 37) G1 (by omega)) G3 (Or.inr (by omega))
    have h37 := G13.2.1 (x + 37) (by omega)
    rw [q_gu_t ⟨h37.1.trans (g37.1.trans t37), (G3.2.1 (x + 56 + 3 * i) (by omega)).1.trans t1, by rw [h37.2, g37.2, l37]; exact vp_in_nI q (by decide)⟩, k_cl (by omega)]
    have G4 := gr_sr (a := x + 37) (f := i) (v := x + 56 + 3 * i) (h := h3) G3.2.2.2
    have G14 := gr_tr G13 G4 (Or.inl rfl)
    unfold q_lr
    rw [nI_1]
    refine k_some ⟨q, rfl, ?_, gr_tr G G14 (Or.inl rfl), fun d hd => ?_⟩
    · show q_sz σ3 = _
      omega
    · dsimp only
      by_cases e : d = i
      · subst e
        exact ⟨k_sr_s, lf_gr F3 G4 G3.2.2.2 (by omega) (by omega), f3⟩
      · have := D d (by omega)
        refine ⟨?_, lf_gr this.2.1 G14 G.2.2.2 (by omega) (by omega), ((G14.2.2.1 _ (by omega) (by omega)).2.1 1).trans this.2.2⟩
        rw [k_sr_j e, (G3.2.2.1 (x + 37) (by omega) (by omega)).1, (G1.2.2.1 (x + 37) (by omega) (by omega)).1]
        exact this.1
  · have : i = 8 := by omega
    subst this
    rw [if_pos (nI_le (Nat.le_refl _) (by decide))]
    exact k_some ⟨sz, G, D⟩
theorem i_bought {σ0 : q_St} {h0 : q_Hp} {x : Nat} (hs : q_sz σ0 = x + 80) (tx : q_tag σ0 x = 5) (r6 : q_ref σ0 x 6 = x + 41) (t41 : q_tag σ0 (x + 41) = 10) (l41 : q_len σ0 (x + 41) = 8) (fr : ∀ b, q_sz σ0 ≤ b → q_tag σ0 b = 0) : k_ok (q_loop (fun s => fX4_init_151 x s.1 s.2.1 s.2.2) q_N ((0 : Int32), σ0, h0)) (fun o => q_sz o.1 = x + 88 ∧ k_gr (x + 41) σ0 h0 o.1 o.2 ∧ ∀ k, k < 8 → q_ref o.1 (x + 41) k = x + 80 + k ∧ k_su o.1 o.2 (x + 80 + k) k 5) := by
  refine k_for (n := 8) (fun i s => s.1 = nI i ∧ q_sz s.2.1 = x + 80 + i ∧ k_gr (x + 41) σ0 h0 s.2.1 s.2.2 ∧ ∀ k, k < i → q_ref s.2.1 (x + 41) k = x + 80 + k ∧ k_su s.2.1 s.2.2 (x + 80 + k) k 5) (by rw [k_N]; omega) ⟨rfl, hs, gr_rf fr, fun d hd => absurd hd (Nat.not_lt_zero _)⟩ ?_
  rintro i ⟨x1, σ, h⟩ hi ⟨e1, sz, G, D⟩
  dsimp only at e1 sz G D
  subst e1
  show k_ok (fX4_init_151 x (nI i) σ h) _
  unfold fX4_init_151
  have gx := G.2.1 x (by omega)
  have gr := (G.2.2.1 x (by omega) (by omega)).1 6
  have g41 := G.2.1 (x + 41) (by omega)
  rw [q_gu_t ⟨gx.1.trans tx, by rw [gr, r6]; exact g41.1.trans t41⟩, gr, r6, g41.2, l41, k_ofN]
  rcases Nat.lt_or_ge i 8 with q | q
  · rw [if_neg (nI_ge q (by decide)), q_gu_t (vp_in_nI q (by decide))]
    have G1 := gr_nw (a := x + 80 + i) (t := 4) (n := 0) (h := h) G.2.2.2
    have t1 : q_tag (q_nw σ 4 0) (x + 80 + i) = 4 := by rw [← sz]; exact q_tnew _ _ _
    have s1 : q_sz (q_nw σ 4 0) = x + 80 + i + 1 := by show q_sz σ + 1 = _; omega
    unfold q_al
    rw [sz] at G1 ⊢
    refine k_bind (c_init (k := i) (f := 5) t1 (by omega) q (by decide)) (fun h3 p3 => ?_)
    obtain ⟨U3, g3⟩ := p3
    have G3 := gr_h (a := x + 80 + i) G1.2.2.2 g3
    have G13 := gr_tr (gr_mono (a := x + 41) G1 (by omega)) G3 (Or.inr (by omega))
    have h41 := G13.2.1 (x + 41) (by omega)
    rw [q_gu_t (by rw [h41.2, g41.2, l41]; exact vp_in_nI q (by decide)), k_cl (by omega)]
    have G4 := gr_sr (a := x + 41) (f := i) (v := x + 80 + i) (h := h3) G3.2.2.2
    have G14 := gr_tr G13 G4 (Or.inl rfl)
    unfold q_lr
    rw [nI_1]
    refine k_some ⟨q, rfl, ?_, gr_tr G G14 (Or.inl rfl), fun d hd => ?_⟩
    · show q_sz σ + 1 = _
      omega
    · dsimp only
      by_cases e : d = i
      · subst e
        exact ⟨k_sr_s, su_mv U3 rfl (fun _ => rfl)⟩
      · have := D d (by omega)
        refine ⟨?_, su_gr this.2 G14 (by omega) (by omega)⟩
        rw [k_sr_j e, (G1.2.2.1 (x + 41) (by omega) (by omega)).1]
        exact this.1
  · have : i = 8 := by omega
    subst this
    rw [if_pos (nI_le (Nat.le_refl _) (by decide))]
    exact k_some ⟨sz, G, D⟩
theorem i_kept {σs σc σd σe : q_St} {hs hc hd he : q_Hp} {x A : Nat} (S : ∃ σ3, (k_sh σ3 A ∧ ∀ j, j < 4 → q_int hs A (11 + j) = 0) ∧ k_gr x σ3 hs σs hs ∧ q_sz σ3 = A + 12 ∧ ∀ b, q_sz σ3 ≤ b → q_tag σ3 b = 0) (hA : x < A) (zA : q_sz σs = A + 12) (fA : ∀ b, q_sz σs ≤ b → q_tag σs b = 0) (CC : k_gr x σs hs σc hc) (zc : q_sz σc = x + 56) (fc : ∀ b, q_sz σc ≤ b → q_tag σc b = 0) (Gd : k_gr (x + 37) σc hc σd hd) (zd : q_sz σd = x + 80) (Ge : k_gr (x + 41) σd hd σe he) (hle : A + 12 ≤ x + 37) : k_sh σe A ∧ ∀ j, j < 4 → q_int he A (11 + j) = 0 := by
  obtain ⟨σ3, ⟨sh3, i3⟩, g3, s3, fr3⟩ := S
  have S1 := sh_gr sh3 g3 fr3 (by omega) (Or.inl hA)
  have S2 := sh_gr S1 CC fA (by omega) (Or.inl hA)
  have S3 := sh_gr S2 Gd fc (by omega) (Or.inr (by omega))
  refine ⟨sh_gr S3 Ge Gd.2.2.2 (by omega) (Or.inr (by omega)), fun j hj => ?_⟩
  rw [(Ge.2.2.1 A (by omega) (by omega)).2.1, (Gd.2.2.1 A (by omega) (by omega)).2.1, (CC.2.2.1 A (by omega) (by omega)).2.1]
  exact i3 j hj
theorem i_keptL {σs σc σd σe : q_St} {hs hc hd he : q_Hp} {x A : Nat} (S : ∃ σ3, (k_lf σ3 A ∧ q_int hs A 1 = 0) ∧ k_gr x σ3 hs σs hs ∧ q_sz σ3 = A + 3 ∧ ∀ b, q_sz σ3 ≤ b → q_tag σ3 b = 0) (hA : x < A) (zA : q_sz σs = A + 3) (fA : ∀ b, q_sz σs ≤ b → q_tag σs b = 0) (CC : k_gr x σs hs σc hc) (zc : q_sz σc = x + 56) (fc : ∀ b, q_sz σc ≤ b → q_tag σc b = 0) (Gd : k_gr (x + 37) σc hc σd hd) (zd : q_sz σd = x + 80) (Ge : k_gr (x + 41) σd hd σe he) (hle : A = x + 38) : k_lf σe A := by
  obtain ⟨σ3, ⟨sh3, i3⟩, g3, s3, fr3⟩ := S
  have S1 := lf_gr sh3 g3 fr3 (by omega) (Or.inl hA)
  have S2 := lf_gr S1 CC fA (by omega) (Or.inl hA)
  have S3 := lf_gr S2 Gd fc (by omega) (Or.inl (by omega))
  exact lf_gr S3 Ge Gd.2.2.2 (by omega) (Or.inr (by omega))
theorem i_keptF {σs σc σd σe : q_St} {hs hc hd he : q_Hp} {x A : Nat} (S : ∃ σ3, k_ft σ3 A ∧ k_gr x σ3 hs σs hs ∧ q_sz σ3 = A + 10 ∧ ∀ b, q_sz σ3 ≤ b → q_tag σ3 b = 0) (hA : x < A) (zA : q_sz σs = A + 10) (CC : k_gr x σs hs σc hc) (zc : q_sz σc = x + 56) (Gd : k_gr (x + 37) σc hc σd hd) (zd : q_sz σd = x + 80) (Ge : k_gr (x + 41) σd hd σe he) (hle : A = x + 43) : k_ft σe A := by
  obtain ⟨σ3, sh3, g3, s3, fr3⟩ := S
  have S1 := ft_gr sh3 g3 (by omega) (Or.inl hA)
  have S2 := ft_gr S1 CC (by omega) (Or.inl hA)
  have S3 := ft_gr S2 Gd (by omega) (Or.inl (by omega))
  exact ft_gr S3 Ge (by omega) (Or.inl (by omega))
theorem i_keptU {σs σc σd σe : q_St} {hs hc hd he : q_Hp} {x : Nat} (U : k_su σs hs (x + 42) 0 0) (zs : q_sz σs = x + 43) (CC : k_gr x σs hs σc hc) (zc : q_sz σc = x + 56) (Gd : k_gr (x + 37) σc hc σd hd) (zd : q_sz σd = x + 80) (Ge : k_gr (x + 41) σd hd σe he) : k_su σe he (x + 42) 0 0 :=
  su_gr (su_gr (su_gr U CC (by omega) (by omega)) Gd (by omega) (by omega)) Ge (by omega) (by omega)
theorem i_keptS {σc σd σe : q_St} {hc hd he : q_Hp} {x : Nat} (zd : q_sz σd = x + 80) (fd : ∀ b, q_sz σd ≤ b → q_tag σd b = 0) (Dd : ∀ d, d < 8 → q_ref σd (x + 37) d = x + 56 + 3 * d ∧ k_lf σd (x + 56 + 3 * d) ∧ q_int hd (x + 56 + 3 * d) 1 = 0) (Ge : k_gr (x + 41) σd hd σe he) : ∀ d, d < 8 → q_ref σe (x + 37) d = x + 56 + 3 * d ∧ k_lf σe (x + 56 + 3 * d) ∧ q_int he (x + 56 + 3 * d) 1 = 0 := fun d hd' => by
  have := Dd d hd'
  exact ⟨((Ge.2.2.1 (x + 37) (by omega) (by omega)).1 d).trans this.1, lf_gr this.2.1 Ge fd (by omega) (Or.inl (by omega)), ((Ge.2.2.1 _ (by omega) (by omega)).2.1 1).trans this.2.2⟩
set_option maxHeartbeats 4000000 in
theorem i_class {σ : q_St} {h : q_Hp} {x : Nat} (hs : q_sz σ = x + 1) (ht : q_tag σ x = 5) (fr : ∀ b, q_sz σ ≤ b → q_tag σ b = 0) (hz : ∀ i, q_int h x i = 0) (c : Nat → Nat → Int32) : k_ok (fX4_init σ h x) (fun r => q_sz r.1 = x + 88 ∧ k_gr x σ h r.1 r.2 ∧ k_CI r.1 r.2 x (x + 1) (x + 13) k_z0 false k_z0 k_z0 c) := by
  unfold fX4_init
  refine bd_sub (w := 12) (t := 3) (init := fX2_init) (S := fun σ h A => k_sh σ A ∧ ∀ j, j < 4 → q_int h A (11 + j) = 0) (bd_0 (e := 0) hs fr) (by decide) hs ht (by decide) (by decide) (fun σ1 h1 A s1 t1 f1 => i_shop s1 t1 f1) (fun σ1 h1 B1 G1 S1 => ?_)
  refine bd_sub (w := 12) (t := 3) (init := fX2_init) (S := fun σ h A => k_sh σ A ∧ ∀ j, j < 4 → q_int h A (11 + j) = 0) B1 (by decide) hs ht (by decide) (by decide) (fun σ1 h1 A s1 t1 f1 => i_shop s1 t1 f1) (fun σ2 h2 B2 G2 S2 => ?_)
  refine bd_sub (w := 12) (t := 3) (init := fX2_init) (S := fun σ h A => k_sh σ A ∧ ∀ j, j < 4 → q_int h A (11 + j) = 0) B2 (by decide) hs ht (by decide) (by decide) (fun σ1 h1 A s1 t1 f1 => i_shop s1 t1 f1) (fun σ3 h3 B3 G3 S3 => ?_)
  rw [k_si_id (a := x) (i := 3) (h := h3) (by rw [B3.2.2.1, hz])]
  refine bd_al2 B3 (by decide) hs (by decide) (fun σ4 h4 B4 G4 => ?_)
  refine bd_sub (w := 3) (t := 2) (init := fX1_init) (S := fun σ h A => k_lf σ A ∧ q_int h A 1 = 0) B4 (by decide) hs ht (by decide) (by decide) (fun σ1 h1 A s1 t1 f1 => i_shelf s1 t1 f1) (fun σ5 h5 B5 G5 S5 => ?_)
  refine bd_al2 B5 (by decide) hs (by decide) (fun σ6 h6 B6 G6 => ?_)
  obtain ⟨N, t42, -, -⟩ := bd_nw (t := 4) (n := 0) B6 (by decide) hs
  have sz6 : q_sz σ6 = x + 42 := B6.1
  have H6 := gr_nw (a := x + 42) (t := 4) (n := 0) (h := h6) B6.2.1.2.2.2
  rw [q_al_e]
  rw [sz6] at N H6 ⊢
  refine k_bind (c_init (k := 0) (f := 0) t42 (by omega) (by decide) (by decide)) (fun h7 p7 => ?_)
  obtain ⟨U7, g7⟩ := p7
  have H7 := gr_h (a := x + 42) H6.2.2.2 g7
  have G67 : k_gr x σ6 h6 (q_nw σ6 4 0) h7 := gr_tr (gr_mono H6 (by omega)) H7 (Or.inr (by omega))
  have B7 := bd_gx N (by decide) hs H7 (by omega) (by
    have : ∀ q ∈ [(41, 10, 8), (37, 9, 8)], q.1 ≠ 42 := by decide
    exact fun q hq e => this q hq (by omega)) (show q_sz (q_nw σ6 4 0) = x + 43 by show q_sz σ6 + 1 = _; omega) (Nat.le_refl _)
  have B8 := bd_lr (f := 7) (v := 42) B7 hs (by decide)
  have H8 := gr_sr (a := x) (f := 7) (v := x + 42) (h := h7) H7.2.2.2
  have G8 := gr_tr G67 H8 (Or.inl rfl)
  have U8 : k_su (q_sr (q_nw σ6 4 0) x 7 (x + 42)) h7 (x + 42) 0 0 := su_mv U7 rfl (fun _ => rfl)
  rw [q_lr_e]
  generalize q_sr (q_nw σ6 4 0) x 7 (x + 42) = σ8 at B8 G8 U8 ⊢
  refine bd_sub (w := 10) (t := 1) (init := fX0_init) (S := fun σ _ A => k_ft σ A) B8 (by decide) hs ht (by decide) (by decide) (fun σ1 h1 A s1 t1 f1 => i_fitting s1 t1 f1) (fun σ9 h9 B9 G9 S9 => ?_)
  refine bd_al2 B9 (by decide) hs (by decide) (fun σa ha Ba Ga => ?_)
  refine bd_al2 Ba (by decide) hs (by decide) (fun σb hb Bb Gb => ?_)
  refine bd_al2 Bb (by decide) hs (by decide) (fun σc hc Bc Gc => ?_)
  obtain ⟨b1, b2, b3, b4, b5⟩ := Bc
  have m37 := b5 (37, 9, 8) (by decide)
  have m41 := b5 (41, 10, 8) (by decide)
  have txc := (b2.2.1 x (by omega)).1.trans ht
  refine k_bind (i_shelves (h0 := hc) b1 txc (b4 (4, 37) (by decide)) m37.2.1 m37.2.2.1 b2.2.2.2) (fun o po => ?_)
  obtain ⟨σd, hd'⟩ := o
  obtain ⟨sd, Gd, Dd⟩ := po
  dsimp only at sd Gd Dd ⊢
  have gxd := Gd.2.2.1 x (by omega) (by omega)
  have g41d := Gd.2.1 (x + 41) (by omega)
  refine k_bind (i_bought (h0 := hd') sd ((Gd.2.1 x (by omega)).1.trans txc) ((gxd.1 6).trans (b4 (6, 41) (by decide))) (g41d.1.trans m41.2.1) (g41d.2.trans m41.2.2.1) Gd.2.2.2) (fun o po => ?_)
  obtain ⟨σe, he⟩ := o
  obtain ⟨se, Ge, De⟩ := po
  dsimp only at se Ge De ⊢
  -- from here on back
  have z1 := B1.1
  have z2 := B2.1
  have z3 := B3.1
  have z4 := B4.1
  have z5 := B5.1
  have z8 := B8.1
  have z9 := B9.1
  have za := Ba.1
  have zb := Bb.1
  have f1 := B1.2.1.2.2.2
  have f2 := B2.2.1.2.2.2
  have f3 := B3.2.1.2.2.2
  have f5 := B5.2.1.2.2.2
  have f9 := B9.2.1.2.2.2
  have C9 := gr_tr (gr_tr Ga Gb (Or.inl rfl)) Gc (Or.inl rfl)
  have C8 := gr_tr G9 C9 (Or.inl rfl)
  have C6 := gr_tr G8 C8 (Or.inl rfl)
  have C5 := gr_tr G6 C6 (Or.inl rfl)
  have C4 := gr_tr G5 C5 (Or.inl rfl)
  have C3 := gr_tr G4 C4 (Or.inl rfl)
  have C2 := gr_tr G3 C3 (Or.inl rfl)
  have C1 := gr_tr G2 C2 (Or.inl rfl)
  have fc := b2.2.2.2
  have P1 := i_kept (A := x + 1) S1 (by omega) z1 f1 C1 b1 fc Gd sd Ge (by omega)
  have P2 := i_kept (A := x + 13) S2 (by omega) z2 f2 C2 b1 fc Gd sd Ge (by omega)
  have P3 := i_kept (A := x + 25) S3 (by omega) z3 f3 C3 b1 fc Gd sd Ge (by omega)
  have PN := i_keptL (A := x + 38) S5 (by omega) z5 f5 C5 b1 fc Gd sd Ge (by omega)
  have PF := i_keptF (A := x + 43) S9 (by omega) z9 C9 b1 Gd sd Ge (by omega)
  have PU := i_keptU U8 z8 C8 b1 Gd sd Ge
  have gxe := Ge.2.2.1 x (by omega) (by omega)
  have rx : ∀ p ∈ [(11, 55), (10, 54), (9, 53), (8, 43), (7, 42), (6, 41), (5, 38), (4, 37), (2, 25), (1, 13), (0, 1)], q_ref σe x p.1 = x + p.2 := fun p hp => ((gxe.1 _).trans (gxd.1 _)).trans (b4 p hp)
  have tl : ∀ q ∈ [(55, 7, 7), (54, 7, 7), (53, 7, 8), (41, 10, 8), (37, 9, 8)], q_tag σe (x + q.1) = q.2.1 ∧ q_len σe (x + q.1) = q.2.2 := fun q hq => by
    have := b5 q hq
    have l : ∀ q ∈ [(55, 7, 7), (54, 7, 7), (53, 7, 8), (41, 10, 8), (37, 9, 8)], q.1 ≤ 55 := by decide
    have := l q hq
    have a1 := Gd.2.1 (x + q.1) (by omega)
    have a2 := Ge.2.1 (x + q.1) (by omega)
    exact ⟨a2.1.trans (a1.1.trans (b5 q hq).2.1), a2.2.trans (a1.2.trans (b5 q hq).2.2.1)⟩
  have De37 := i_keptS (σc := σc) (hc := hc) sd Gd.2.2.2 Dd Ge
  have GG := gr_tr (gr_tr b2 Gd (Or.inr (by omega))) Ge (Or.inr (by omega))
  refine k_some ⟨se, GG, ⟨(GG.2.1 x (by omega)).1.trans ht, Or.inl ⟨rfl, rfl⟩, rx (0, 1) (by decide), rx (1, 13) (by decide), fun p hp => rx p (by
    have : ∀ p ∈ k_xr, p ∈ [(11, 55), (10, 54), (9, 53), (8, 43), (7, 42), (6, 41), (5, 38), (4, 37), (2, 25), (1, 13), (0, 1)] := by decide
    exact this p hp), P1.1, P2.1, P3.1, PF, fun d hd => ⟨(De37 d hd).1, (De37 d hd).2.1⟩, PN, tl (37, 9, 8) (by decide), tl (41, 10, 8) (by decide), fun k hk => ⟨(De k hk).1, sut (De k hk).2⟩, sut PU, tl (53, 7, 8) (by decide), tl (54, 7, 7) (by decide), tl (55, 7, 7) (by decide)⟩, ⟨P1.1, fun j hj => P1.2 j hj, fun s hs => absurd hs (Nat.not_lt_zero _), fun r s _ hs => absurd hs (Nat.not_lt_zero _), fun r s _ hs => absurd hs (Nat.not_lt_zero _)⟩, ?_, fun e => (nomatch e), fun d hd => ⟨(De37 d hd).2.2, fun e => (nomatch e), fun e => (nomatch e)⟩, fun k hk => (De k hk).2, PU⟩
  · dsimp only
    rw [gxe.2.1, gxd.2.1, b3, hz]; rfl
