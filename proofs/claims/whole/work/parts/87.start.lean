/-! the invariant at the loop's entry -/
theorem X_gw {σ σ' : q_St} {h h' : q_Hp} {x A B c : Nat} (X : k_X σ x A B) (hs : x + 88 ≤ q_sz σ) (G : k_gr c σ h σ' h') (hc : x + 88 ≤ c) (fr : ∀ b, q_sz σ ≤ b → q_tag σ b = 0) : k_X σ' x A B := by
  have hAB := xAB X
  have t : ∀ a, a < x + 88 → q_tag σ' a = q_tag σ a ∧ q_len σ' a = q_len σ a := fun a ha => G.2.1 a (by omega)
  have r : ∀ a k, a < x + 88 → q_ref σ' a k = q_ref σ a k := fun a k ha => (G.2.2.1 a (by omega) (by omega)).1 k
  obtain ⟨i0, i1, i2, i3, i4, i5, i6, i7, i8, i9, i10, i11, i12, i13, i14, i15, i16, i17⟩ := X
  exact ⟨(t _ (by omega)).1.trans i0, i1, (r _ _ (by omega)).trans i2, (r _ _ (by omega)).trans i3, fun p hp => (r _ _ (by omega)).trans (i4 p hp), sh_gr i5 G fr (by omega) (by omega), sh_gr i6 G fr (by omega) (by omega), sh_gr i7 G fr (by omega) (by omega), ft_gr i8 G (by omega) (by omega), fun d hd => ⟨(r _ _ (by omega)).trans (i9 d hd).1, lf_gr (i9 d hd).2 G fr (by omega) (by omega)⟩, lf_gr i10 G fr (by omega) (by omega), ⟨(t _ (by omega)).1.trans i11.1, (t _ (by omega)).2.trans i11.2⟩, ⟨(t _ (by omega)).1.trans i12.1, (t _ (by omega)).2.trans i12.2⟩, fun k hk => ⟨(r _ _ (by omega)).trans (i13 k hk).1, (t _ (by omega)).1.trans (i13 k hk).2⟩, (t _ (by omega)).1.trans i14, ⟨(t _ (by omega)).1.trans i15.1, (t _ (by omega)).2.trans i15.2⟩, ⟨(t _ (by omega)).1.trans i16.1, (t _ (by omega)).2.trans i16.2⟩, ⟨(t _ (by omega)).1.trans i17.1, (t _ (by omega)).2.trans i17.2⟩⟩
theorem ag_gw {σ σ' : q_St} {h h' : q_Hp} {c : Nat} {P : Nat → Prop} (G : k_gr c σ h σ' h') (hP : ∀ a, P a → a < q_sz σ ∧ a ≠ c) : k_ag P h h' := fun a ha => ⟨funext (G.2.2.1 a (hP a ha).1 (hP a ha).2).2.1, funext (G.2.2.1 a (hP a ha).1 (hP a ha).2).2.2⟩
theorem CI_gw {σ σ' : q_St} {h h' : q_Hp} {x A B c : Nat} {z zi y : k_Z} {p : Bool} {cc : Nat → Nat → Int32} (I : k_CI σ h x A B z p zi y cc) (hs : x + 88 ≤ q_sz σ) (G : k_gr c σ h σ' h') (hc : q_sz σ ≤ c) (fr : ∀ b, q_sz σ ≤ b → q_tag σ b = 0) : k_CI σ' h' x A B z p zi y cc := by
  have lt4 : ∀ a, q_tag σ a = 4 → a < q_sz σ := fun a ha => by
    rcases Nat.lt_or_ge a (q_sz σ) with l | l
    · exact l
    · rw [fr a l] at ha; exact absurd ha (by decide)
  refine CI_ag I (X_gw I.1 hs G (by omega) fr) (ag_gw G (fun a ha => ?_)) (fun a ha => (G.2.1 a (lt4 a ha)).1.trans ha) (fun a k h1 h2 => (G.2.2.1 a (by omega) (by omega)).1 k)
  rcases ha with e | e | e
  · omega
  · omega
  · have := lt4 a e; omega
theorem MI_gw {σ σ' : q_St} {h h' : q_Hp} {m c : Nat} {z zi y : k_Z} {p : Bool} {cc : Nat → Nat → Int32} (I : k_MI σ h m z p zi y cc) (hs : m + 27 ≤ q_sz σ) (G : k_gr c σ h σ' h') (hc : q_sz σ ≤ c) : k_MI σ' h' m z p zi y cc := by
  refine MI_ag I ⟨(G.2.1 _ (by omega)).1.trans I.1.1, fun p hp => ((G.2.2.1 _ (by omega) (by omega)).1 _).trans (I.1.2.1 p hp), fun p hp => ?_⟩ (ag_gw G (fun a ha => by omega))
  have b : ∀ p ∈ k_ml, p.1 ≤ 26 := by decide
  have := b p hp
  exact ⟨(G.2.1 _ (by omega)).1.trans (I.1.2.2 p hp).1, (G.2.1 _ (by omega)).2.trans (I.1.2.2 p hp).2⟩
theorem va_0 : k_va k_z0 := ⟨⟨by decide, by decide, by decide, by decide⟩, fun s hs => absurd hs (Nat.not_lt_zero _), fun b hb => absurd hb (Nat.not_lt_zero _), fun b c hb => absurd hb (Nat.not_lt_zero _), fun s hs => absurd hs (Nat.not_lt_zero _)⟩
theorem vy_0 : k_vy k_z0 := fun d hd => ⟨Nat.zero_le 2, (fun q => absurd (show (0 : Nat) = 1 from q) (by decide)), (fun q => absurd (show (0 : Nat) = 2 from q) (by decide))⟩
theorem fr_0 (n : Nat) : ∀ b, q_sz (st_0 n) ≤ b → q_tag (st_0 n) b = 0 := fun _ _ => rfl
theorem nw_t {σ : q_St} {t n : Nat} : q_tag (q_nw σ t n) (q_sz σ) = t := va_up_self _ _ _
theorem nw_l {σ : q_St} {t n : Nat} : q_len (q_nw σ t n) (q_sz σ) = n := va_up_self _ _ _
theorem nh_0 {h : q_Hp} {a : Nat} : ∀ i, q_int (q_nh h a) a i = 0 := fun i => by
  show va_up h.1 a (fun _ => 0) a i = 0
  rw [va_up_self]
theorem i_Inv (x : Nat) (hx : 0 < x) : ∃ σ1 h1 σ2 h2, fX4_init (q_nw (st_0 x) 5 0) (q_nh sh_0 x) x = some (σ1, h1) ∧ q_sz σ1 = x + 88 ∧ fX5_init (q_nw σ1 6 0) (q_nh h1 (x + 88)) (x + 88) = some (σ2, h2) ∧ q_sz σ2 = x + 115 ∧ k_Inv (q_nw σ2 8 1) (q_nh h2 (x + 115)) x := by
  have N0 : k_gr x (st_0 x) sh_0 (q_nw (st_0 x) 5 0) (q_nh sh_0 x) := gr_nw (fr_0 x)
  obtain ⟨⟨σ1, h1⟩, e1, z1, G1, C1⟩ := i_class (x := x) (σ := q_nw (st_0 x) 5 0) (h := q_nh sh_0 x) rfl (nw_t (σ := st_0 x)) N0.2.2.2 nh_0 (fun _ _ => 0)
  dsimp only at z1 G1 C1
  have N1 : k_gr (x + 88) σ1 h1 (q_nw σ1 6 0) (q_nh h1 (x + 88)) := by
    have := gr_nw (a := x + 88) (t := 6) (n := 0) (σ := σ1) (h := h1) G1.2.2.2
    rwa [z1] at this
  have s1 : q_sz (q_nw σ1 6 0) = x + 88 + 1 := by show q_sz σ1 + 1 = _; rw [z1]
  have t1 : q_tag (q_nw σ1 6 0) (x + 88) = 6 := by have := nw_t (σ := σ1) (t := 6) (n := 0); rwa [z1] at this
  obtain ⟨⟨σ2, h2⟩, e2, z2, G2, M2⟩ := i_model (m := x + 88) (σ := q_nw σ1 6 0) (h := q_nh h1 (x + 88)) s1 t1 N1.2.2.2 nh_0 (fun _ _ => 0)
  dsimp only at z2 G2 M2
  have G12 : k_gr (x + 88) σ1 h1 σ2 h2 := gr_tr N1 G2 (Or.inl rfl)
  have C2 := CI_gw C1 (by omega) G12 (by omega) G1.2.2.2
  have N2 : k_gr (x + 115) σ2 h2 (q_nw σ2 8 1) (q_nh h2 (x + 115)) := by
    have := gr_nw (a := x + 115) (t := 8) (n := 1) (σ := σ2) (h := h2) G2.2.2.2
    rwa [show q_sz σ2 = x + 115 by omega] at this
  have C3 := CI_gw C2 (by omega) N2 (by omega) G2.2.2.2
  have M3 := MI_gw M2 (by omega) N2 (by omega)
  have t3 := nw_t (σ := σ2) (t := 8) (n := 1)
  have l3 := nw_l (σ := σ2) (t := 8) (n := 1)
  rw [show q_sz σ2 = x + 115 by omega] at t3 l3
  exact ⟨σ1, h1, σ2, h2, e1, z1, e2, by omega, x + 1, x + 13, k_z0, false, k_z0, k_z0, fun _ _ => 0, ⟨va_0, (fun q => absurd q (by decide)), vy_0⟩, C3, M3, ⟨t3, l3⟩, by show x + 116 ≤ q_sz σ2 + 1; omega, N2.2.2.2, hx⟩
