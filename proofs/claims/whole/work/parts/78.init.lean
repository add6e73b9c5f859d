/-! what the constructors lay; the invariant behind them -/
/-- cells are made, of the old ones a alone is written -/
def k_gr (a : Nat) (σ : q_St) (h : q_Hp) (σ' : q_St) (h' : q_Hp) : Prop := q_sz σ ≤ q_sz σ' ∧ (∀ b, b < q_sz σ → q_tag σ' b = q_tag σ b ∧ q_len σ' b = q_len σ b) ∧ (∀ b, b < q_sz σ → b ≠ a → (∀ k, q_ref σ' b k = q_ref σ b k) ∧ (∀ k, q_int h' b k = q_int h b k) ∧ ∀ k, q_lng h' b k = q_lng h b k) ∧ ∀ b, q_sz σ' ≤ b → q_tag σ' b = 0
theorem gr_rf {a : Nat} {σ : q_St} {h : q_Hp} (fr : ∀ b, q_sz σ ≤ b → q_tag σ b = 0) : k_gr a σ h σ h := ⟨Nat.le_refl _, fun _ _ => ⟨rfl, rfl⟩, fun _ _ _ => ⟨fun _ => rfl, fun _ => rfl, fun _ => rfl⟩, fr⟩
theorem gr_tr {a c : Nat} {σ σ1 σ2 : q_St} {h h1 h2 : q_Hp} (A : k_gr a σ h σ1 h1) (B : k_gr c σ1 h1 σ2 h2) (hc : c = a ∨ q_sz σ ≤ c) : k_gr a σ h σ2 h2 := by
  refine ⟨Nat.le_trans A.1 B.1, fun b hb => ⟨(B.2.1 b (Nat.lt_of_lt_of_le hb A.1)).1.trans (A.2.1 b hb).1, (B.2.1 b (Nat.lt_of_lt_of_le hb A.1)).2.trans (A.2.1 b hb).2⟩, fun b hb n => ?_, B.2.2.2⟩
  have p := A.2.2.1 b hb n
  have q := B.2.2.1 b (Nat.lt_of_lt_of_le hb A.1) (by omega)
  exact ⟨fun k => (q.1 k).trans (p.1 k), fun k => (q.2.1 k).trans (p.2.1 k), fun k => (q.2.2 k).trans (p.2.2 k)⟩
theorem gr_nw {a t n : Nat} {σ : q_St} {h : q_Hp} (fr : ∀ b, q_sz σ ≤ b → q_tag σ b = 0) : k_gr a σ h (q_nw σ t n) (q_nh h (q_sz σ)) := by
  refine ⟨Nat.le_succ _, fun b hb => ⟨va_up_ne _ _ (by unfold q_sz at hb; omega), va_up_ne _ _ (by unfold q_sz at hb; omega)⟩, fun b hb _ => ⟨fun k => ?_, fun k => ?_, fun k => ?_⟩, fun b hb => ?_⟩
  · show va_up σ.2.2.2 σ.1 _ b k = _
    rw [va_up_ne _ _ (by unfold q_sz at hb; omega)]; rfl
  · show va_up h.1 (q_sz σ) _ b k = _
    rw [va_up_ne _ _ (by omega)]; rfl
  · show va_up h.2 (q_sz σ) _ b k = _
    rw [va_up_ne _ _ (by omega)]; rfl
  · have hb' : q_sz σ + 1 ≤ b := hb
    exact (va_up_ne _ _ (by unfold q_sz at hb'; omega)).trans (fr b (by omega))
theorem gr_sr {a f v : Nat} {σ : q_St} {h : q_Hp} (fr : ∀ b, q_sz σ ≤ b → q_tag σ b = 0) : k_gr a σ h (q_sr σ a f v) h := ⟨Nat.le_refl _, fun _ _ => ⟨rfl, rfl⟩, fun b _ n => ⟨fun k => k_sr_n n, fun _ => rfl, fun _ => rfl⟩, fr⟩
theorem gr_h {a : Nat} {σ : q_St} {h h' : q_Hp} (fr : ∀ b, q_sz σ ≤ b → q_tag σ b = 0) (g : k_ag (fun b => b ≠ a) h h') : k_gr a σ h σ h' := ⟨Nat.le_refl _, fun _ _ => ⟨rfl, rfl⟩, fun b _ n => ⟨fun _ => rfl, fun k => k_agI g n k, fun k => k_agL g n k⟩, fr⟩
theorem nw_z {σ : q_St} {h : q_Hp} {t n i : Nat} : q_int (q_nh h (q_sz σ)) (q_sz σ) i = 0 ∧ q_ref (q_nw σ t n) (q_sz σ) i = 0 := by
  refine ⟨?_, ?_⟩
  · show va_up h.1 (q_sz σ) _ (q_sz σ) i = 0
    rw [va_up_self]
  · show va_up σ.2.2.2 σ.1 _ σ.1 i = 0
    rw [va_up_self]
/-- an object at a with k - 1 cells behind it -/
def k_bd (a e : Nat) (σ0 : q_St) (h0 : q_Hp) (σ : q_St) (h : q_Hp) (k : Nat) (fl : List (Nat × Nat)) (ml : List (Nat × Nat × Nat)) : Prop :=
  q_sz σ = a + k ∧ k_gr a σ0 h0 σ h ∧ (∀ i, q_int h a i = q_int h0 a i) ∧ (∀ q ∈ fl, q_ref σ a q.1 = a + q.2) ∧ ∀ q ∈ ml, (0 < q.1 ∧ q.1 < k) ∧ q_tag σ (a + q.1) = q.2.1 ∧ q_len σ (a + q.1) = q.2.2 ∧ (q.1 ≠ e → ∀ i, q_int h (a + q.1) i = 0 ∧ q_ref σ (a + q.1) i = 0)
theorem bd_0 {a e : Nat} {σ : q_St} {h : q_Hp} (hs : q_sz σ = a + 1) (fr : ∀ b, q_sz σ ≤ b → q_tag σ b = 0) : k_bd a e σ h σ h 1 [] [] := ⟨hs, gr_rf fr, fun _ => rfl, fun _ h => (nomatch h), fun _ h => (nomatch h)⟩
/-- other cells are made and written -/
theorem bd_gr {a e c k w : Nat} {σ0 σ σ' : q_St} {h0 h h' : q_Hp} {fl : List (Nat × Nat)} {ml : List (Nat × Nat × Nat)} (B : k_bd a e σ0 h0 σ h k fl ml) (hk : 0 < k) (hs0 : q_sz σ0 = a + 1) (G : k_gr c σ h σ' h') (hc : a + k ≤ c) (hs : q_sz σ' = a + w) (hw : k ≤ w) : k_bd a e σ0 h0 σ' h' w fl ml := by
  obtain ⟨b1, b2, b3, b4, b5⟩ := B
  have ga := G.2.2.1 a (by omega) (by omega)
  refine ⟨hs, gr_tr b2 G (Or.inr (by omega)), fun i => (ga.2.1 i).trans (b3 i), fun q hq => (ga.1 _).trans (b4 q hq), fun q hq => ?_⟩
  have := b5 q hq
  have g1 := G.2.1 (a + q.1) (by omega)
  have g2 := G.2.2.1 (a + q.1) (by omega) (by omega)
  exact ⟨⟨this.1.1, by omega⟩, g1.1.trans this.2.1, g1.2.trans this.2.2.1, fun n i => ⟨(g2.2.1 i).trans (this.2.2.2 n i).1, (g2.1 i).trans (this.2.2.2 n i).2⟩⟩
theorem bd_nw {a e t n k : Nat} {σ0 σ : q_St} {h0 h : q_Hp} {fl : List (Nat × Nat)} {ml : List (Nat × Nat × Nat)} (B : k_bd a e σ0 h0 σ h k fl ml) (hk : 0 < k) (hs0 : q_sz σ0 = a + 1) : k_bd a e σ0 h0 (q_nw σ t n) (q_nh h (q_sz σ)) (k + 1) fl ml ∧ q_tag (q_nw σ t n) (a + k) = t ∧ q_len (q_nw σ t n) (a + k) = n ∧ ∀ i, q_int (q_nh h (q_sz σ)) (a + k) i = 0 ∧ q_ref (q_nw σ t n) (a + k) i = 0 := by
  have hs := B.1
  have fr := B.2.1.2.2.2
  refine ⟨bd_gr B hk hs0 (gr_nw (a := a + k) fr) (Nat.le_refl _) (by show q_sz σ + 1 = _; omega) (by omega), ?_, ?_, fun i => ?_⟩
  · rw [← hs]; exact q_tnew _ _ _
  · rw [← hs]; exact va_up_self _ _ _
  · rw [← hs]; exact nw_z
theorem bd_lr {a e f v k : Nat} {σ0 σ : q_St} {h0 h : q_Hp} {fl : List (Nat × Nat)} {ml : List (Nat × Nat × Nat)} (B : k_bd a e σ0 h0 σ h k fl ml) (hs0 : q_sz σ0 = a + 1) (hf : ∀ q ∈ fl, q.1 ≠ f) : k_bd a e σ0 h0 (q_sr σ a f (a + v)) h k ((f, v) :: fl) ml := by
  obtain ⟨b1, b2, b3, b4, b5⟩ := B
  refine ⟨b1, gr_tr b2 (gr_sr b2.2.2.2) (Or.inl rfl), b3, fun q hq => ?_, fun q hq => ?_⟩
  · rcases List.mem_cons.mp hq with e1 | e1
    · subst e1; exact k_sr_s
    · rw [k_sr_j (hf q e1)]; exact b4 q e1
  · have := b5 q hq
    exact ⟨this.1, this.2.1, this.2.2.1, fun n i => ⟨(this.2.2.2 n i).1, by rw [k_sr_n (by omega)]; exact (this.2.2.2 n i).2⟩⟩
theorem bd_ml {a e t n k j : Nat} {σ0 σ : q_St} {h0 h : q_Hp} {fl : List (Nat × Nat)} {ml : List (Nat × Nat × Nat)} (B : k_bd a e σ0 h0 σ h k fl ml) (hj : 0 < j ∧ j < k) (h1 : q_tag σ (a + j) = t) (h2 : q_len σ (a + j) = n) (h3 : ∀ i, q_int h (a + j) i = 0 ∧ q_ref σ (a + j) i = 0) : k_bd a e σ0 h0 σ h k fl ((j, t, n) :: ml) := by
  obtain ⟨b1, b2, b3, b4, b5⟩ := B
  refine ⟨b1, b2, b3, b4, fun q hq => ?_⟩
  rcases List.mem_cons.mp hq with e1 | e1
  · subst e1; exact ⟨hj, h1, h2, fun _ => h3⟩
  · exact b5 q e1
/-- a row is made and hung into the object -/
theorem bd_al {β : Type} {a e t n k f : Nat} {σ0 σ : q_St} {h0 h : q_Hp} {fl : List (Nat × Nat)} {ml : List (Nat × Nat × Nat)} {F : q_St → q_Hp → Option β} {P : β → Prop} (B : k_bd a e σ0 h0 σ h k fl ml) (hk : 0 < k) (hs0 : q_sz σ0 = a + 1) (hf : ∀ q ∈ fl, q.1 ≠ f) (K : ∀ σ2 h2, k_bd a e σ0 h0 σ2 h2 (k + 1) ((f, k) :: fl) ((k, t, n) :: ml) → k_ok (F σ2 h2) P) : k_ok (q_al σ h t n fun σ1 h1 a1 => q_lr σ1 a f a1 fun σ2 => F σ2 h1) P := by
  obtain ⟨B1, t1, l1, z1⟩ := bd_nw (t := t) (n := n) B hk hs0
  have hs := B.1
  unfold q_al q_lr
  rw [hs] at B1 z1 ⊢
  exact K _ _ (bd_lr (bd_ml B1 ⟨hk, by omega⟩ t1 l1 z1) hs0 hf)
theorem sh_gr {a A : Nat} {σ σ' : q_St} {h h' : q_Hp} (S : k_sh σ A) (G : k_gr a σ h σ' h') (fr : ∀ b, q_sz σ ≤ b → q_tag σ b = 0) (hA : A + 11 < q_sz σ) (na : a < A ∨ A + 11 < a) : k_sh σ' A :=
  ⟨(G.2.1 A (by omega)).1.trans S.1, fun k hk => ((G.2.2.1 A (by omega) (by omega)).1 k).trans (S.2.1 k hk), (G.2.1 _ (by omega)).1.trans S.2.2.1, (G.2.1 _ (by omega)).2.trans S.2.2.2.1, fun k hk => ⟨(G.2.1 _ (by omega)).1.trans (S.2.2.2.2.1 k hk).1, (G.2.1 _ (by omega)).2.trans (S.2.2.2.2.1 k hk).2⟩, (G.2.1 _ (by omega)).1.trans S.2.2.2.2.2.1, fun s hs => by
    rw [(G.2.2.1 (A + 1) (by omega) (by omega)).1 s]
    refine (S.2.2.2.2.2.2 s hs).imp id (fun q => ?_)
    rcases Nat.lt_or_ge (q_ref σ (A + 1) s) (q_sz σ) with l | l
    · exact (G.2.1 _ l).1.trans q
    · rw [fr _ l] at q; exact absurd q (by decide)⟩
theorem ft_gr {a A : Nat} {σ σ' : q_St} {h h' : q_Hp} (S : k_ft σ A) (G : k_gr a σ h σ' h') (hA : A + 9 < q_sz σ) (na : a < A ∨ A + 9 < a) : k_ft σ' A :=
  ⟨(G.2.1 A (by omega)).1.trans S.1, fun k hk => ((G.2.2.1 A (by omega) (by omega)).1 k).trans (S.2.1 k hk), fun k hk => ⟨(G.2.1 _ (by omega)).1.trans (S.2.2.1 k hk).1, (G.2.1 _ (by omega)).2.trans (S.2.2.1 k hk).2⟩, fun k hk => ⟨(G.2.1 _ (by omega)).1.trans (S.2.2.2 k hk).1, (G.2.1 _ (by omega)).2.trans (S.2.2.2 k hk).2⟩⟩
theorem lf_gr {a A : Nat} {σ σ' : q_St} {h h' : q_Hp} (S : k_lf σ A) (G : k_gr a σ h σ' h') (fr : ∀ b, q_sz σ ≤ b → q_tag σ b = 0) (hA : A + 1 < q_sz σ) (na : a < A ∨ A + 1 < a) : k_lf σ' A :=
  ⟨(G.2.1 A (by omega)).1.trans S.1, ((G.2.2.1 A (by omega) (by omega)).1 0).trans S.2.1, (G.2.1 _ (by omega)).1.trans S.2.2.1, (G.2.1 _ (by omega)).2.trans S.2.2.2.1, by
    rw [(G.2.2.1 A (by omega) (by omega)).1 2]
    rcases Nat.lt_or_ge (q_ref σ A 2) (q_sz σ) with l | l
    · exact (G.2.1 _ l).1.trans S.2.2.2.2
    · have q := S.2.2.2.2
      rw [fr _ l] at q; exact absurd q (by decide)⟩
theorem su_gr {a b k f : Nat} {σ σ' : q_St} {h h' : q_Hp} (U : k_su σ h b k f) (G : k_gr a σ h σ' h') (hb : b < q_sz σ) (n : b ≠ a) : k_su σ' h' b k f := su_mv U (G.2.1 b hb).1 (fun i => (G.2.2.1 b hb n).2.1 i)

theorem i_shop {σ : q_St} {h : q_Hp} {A : Nat} (hs : q_sz σ = A + 1) (ht : q_tag σ A = 3) (fr : ∀ b, q_sz σ ≤ b → q_tag σ b = 0) : k_ok (fX2_init σ h A) (fun r => q_sz r.1 = A + 12 ∧ k_gr A σ h r.1 r.2 ∧ k_sh r.1 A ∧ ∀ j, j < 4 → q_int r.2 A (11 + j) = 0) := by
  unfold fX2_init
  refine bd_al (bd_0 (e := 0) hs fr) (by decide) hs (by decide) (fun σ1 h1 B1 => ?_)
  refine bd_al B1 (by decide) hs (by decide) (fun σ2 h2 B2 => ?_)
  refine bd_al B2 (by decide) hs (by decide) (fun σ3 h3 B3 => ?_)
  refine bd_al B3 (by decide) hs (by decide) (fun σ4 h4 B4 => ?_)
  refine bd_al B4 (by decide) hs (by decide) (fun σ5 h5 B5 => ?_)
  refine bd_al B5 (by decide) hs (by decide) (fun σ6 h6 B6 => ?_)
  refine bd_al B6 (by decide) hs (by decide) (fun σ7 h7 B7 => ?_)
  refine bd_al B7 (by decide) hs (by decide) (fun σ8 h8 B8 => ?_)
  refine bd_al B8 (by decide) hs (by decide) (fun σ9 h9 B9 => ?_)
  refine bd_al B9 (by decide) hs (by decide) (fun σ10 h10 B10 => ?_)
  obtain ⟨N, t1, l1, z1⟩ := bd_nw (t := 4) (n := 0) B10 (by decide) hs
  have sz := B10.1
  unfold q_al
  rw [sz] at N z1 ⊢
  have nA : A + 11 ≠ A := by omega
  refine k_bind (c_init (k := 0) (f := 0) t1 (by omega) (by decide) (by decide)) (fun h22 p22 => ?_)
  unfold q_lr
  obtain ⟨U, g22⟩ := p22
  have G22 := gr_h (a := A + 11) N.2.1.2.2.2 g22
  have N2 : k_bd A 0 σ h (q_nw σ10 4 0) h22 12 [(9, 10), (8, 9), (7, 8), (6, 7), (5, 6), (4, 5), (3, 4), (2, 3), (1, 2), (0, 1)] [(10, 7, 7), (9, 7, 7), (8, 7, 7), (7, 7, 7), (6, 7, 7), (5, 7, 7), (4, 7, 7), (3, 7, 7), (2, 7, 7), (1, 10, 7)] := by
    obtain ⟨b1, b2, b3, b4, b5⟩ := N
    exact ⟨b1, gr_tr b2 G22 (Or.inr (by omega)), fun i => (k_agI g22 (by omega) i).trans (b3 i), b4, fun q hq => ⟨(b5 q hq).1, (b5 q hq).2.1, (b5 q hq).2.2.1, fun n i => ⟨(k_agI g22 (fun e => by
      have := (b5 q hq).1
      have : ∀ q ∈ [(10, 7, 7), (9, 7, 7), (8, 7, 7), (7, 7, 7), (6, 7, 7), (5, 7, 7), (4, 7, 7), (3, 7, 7), (2, 7, 7), (1, 10, 7)], q.1 ≤ 10 := by decide
      have := this q hq
      omega) i).trans ((b5 q hq).2.2.2 n i).1, ((b5 q hq).2.2.2 n i).2⟩⟩⟩
  have N3 := bd_lr (f := 10) (v := 11) N2 hs (by decide)
  have t11 : q_tag (q_sr (q_nw σ10 4 0) A 10 (A + 11)) (A + 11) = 4 := t1
  generalize q_sr (q_nw σ10 4 0) A 10 (A + 11) = σ9 at N3 t11 ⊢
  have g4 : k_ag (fun b => b ≠ A) h22 (q_si (q_si (q_si (q_si h22 A 11 0) A 12 0) A 13 0) A 14 0) := k_ag_si (k_ag_si (k_ag_si (k_ag_si k_ag_rf (fun q => q rfl)) (fun q => q rfl)) (fun q => q rfl)) (fun q => q rfl)
  obtain ⟨b1, b2, b3, b4, b5⟩ := N3
  refine k_some ⟨b1, gr_tr b2 (gr_h b2.2.2.2 g4) (Or.inl rfl), ⟨(b2.2.1 A (by omega)).1.trans ht, fun k hk => ?_, (b5 (1, 10, 7) (by decide)).2.1, (b5 (1, 10, 7) (by decide)).2.2.1, fun k hk => ?_, t11, fun s hs => Or.inl ((b5 (1, 10, 7) (by decide)).2.2.2 (by decide) s).2⟩, fun j hj => ?_⟩
  · have : ∀ k, k ≤ 10 → (k, k + 1) ∈ [(10, 11), (9, 10), (8, 9), (7, 8), (6, 7), (5, 6), (4, 5), (3, 4), (2, 3), (1, 2), (0, 1)] := by
      have : ∀ k, k < 11 → (k, k + 1) ∈ [(10, 11), (9, 10), (8, 9), (7, 8), (6, 7), (5, 6), (4, 5), (3, 4), (2, 3), (1, 2), (0, 1)] := by decide
      exact fun k hk => this k (by omega)
    have := b4 _ (this k hk)
    dsimp only at this ⊢
    rw [this]; omega
  · have : ∀ k, k < 11 → 2 ≤ k → (k, 7, 7) ∈ [(10, 7, 7), (9, 7, 7), (8, 7, 7), (7, 7, 7), (6, 7, 7), (5, 7, 7), (4, 7, 7), (3, 7, 7), (2, 7, 7), (1, 10, 7)] := by decide
    have := b5 _ (this k (by omega) hk.1)
    exact ⟨this.2.1, this.2.2.1⟩
  · dsimp only
    rcases (show j = 0 ∨ j = 1 ∨ j = 2 ∨ j = 3 by omega) with rfl | rfl | rfl | rfl
    · rw [k_si_j (by decide), k_si_j (by decide), k_si_j (by decide), k_si_s]
    · rw [k_si_j (by decide), k_si_j (by decide), k_si_s]
    · rw [k_si_j (by decide), k_si_s]
    · rw [k_si_s]
theorem i_fitting {σ : q_St} {h : q_Hp} {A : Nat} (hs : q_sz σ = A + 1) (ht : q_tag σ A = 1) (fr : ∀ b, q_sz σ ≤ b → q_tag σ b = 0) : k_ok (fX0_init σ h A) (fun r => q_sz r.1 = A + 10 ∧ k_gr A σ h r.1 r.2 ∧ k_ft r.1 A) := by
  unfold fX0_init
  refine bd_al (bd_0 (e := 0) hs fr) (by decide) hs (by decide) (fun σ1 h1 B1 => ?_)
  refine bd_al B1 (by decide) hs (by decide) (fun σ2 h2 B2 => ?_)
  refine bd_al B2 (by decide) hs (by decide) (fun σ3 h3 B3 => ?_)
  refine bd_al B3 (by decide) hs (by decide) (fun σ4 h4 B4 => ?_)
  refine bd_al B4 (by decide) hs (by decide) (fun σ5 h5 B5 => ?_)
  refine bd_al B5 (by decide) hs (by decide) (fun σ6 h6 B6 => ?_)
  refine bd_al B6 (by decide) hs (by decide) (fun σ7 h7 B7 => ?_)
  refine bd_al B7 (by decide) hs (by decide) (fun σ8 h8 B8 => ?_)
  refine bd_al B8 (by decide) hs (by decide) (fun σ9 h9 B9 => ?_)
  obtain ⟨b1, b2, b3, b4, b5⟩ := B9
  have g4 : k_ag (fun b => b ≠ A) h9 (q_si (q_si h9 A 9 0) A 10 0) := k_ag_si (k_ag_si k_ag_rf (fun q => q rfl)) (fun q => q rfl)
  refine k_some ⟨b1, gr_tr b2 (gr_h b2.2.2.2 g4) (Or.inl rfl), (b2.2.1 A (by omega)).1.trans ht, fun k hk => ?_, fun k hk => ?_, fun k hk => ?_⟩
  · have : ∀ k, k < 9 → (k, k + 1) ∈ [(8, 9), (7, 8), (6, 7), (5, 6), (4, 5), (3, 4), (2, 3), (1, 2), (0, 1)] := by decide
    have := b4 _ (this k (by omega))
    dsimp only at this ⊢
    rw [this]; omega
  · have : ∀ k, k < 7 → 1 ≤ k → (k, 7, 8) ∈ [(9, 7, 7), (8, 7, 7), (7, 7, 7), (6, 7, 8), (5, 7, 8), (4, 7, 8), (3, 7, 8), (2, 7, 8), (1, 7, 8)] := by decide
    have := b5 _ (this k (by omega) hk.1)
    exact ⟨this.2.1, this.2.2.1⟩
  · have : ∀ k, k < 10 → 7 ≤ k → (k, 7, 7) ∈ [(9, 7, 7), (8, 7, 7), (7, 7, 7), (6, 7, 8), (5, 7, 8), (4, 7, 8), (3, 7, 8), (2, 7, 8), (1, 7, 8)] := by decide
    have := b5 _ (this k (by omega) hk.1)
    exact ⟨this.2.1, this.2.2.1⟩
theorem i_shelf {σ : q_St} {h : q_Hp} {A : Nat} (hs : q_sz σ = A + 1) (ht : q_tag σ A = 2) (fr : ∀ b, q_sz σ ≤ b → q_tag σ b = 0) : k_ok (fX1_init σ h A) (fun r => q_sz r.1 = A + 3 ∧ k_gr A σ h r.1 r.2 ∧ k_lf r.1 A ∧ q_int r.2 A 1 = 0) := by
  unfold fX1_init
  refine bd_al (bd_0 (e := 0) hs fr) (by decide) hs (by decide) (fun σ1 h1 B1 => ?_)
  have sz := B1.1
  have N0 : k_gr A σ h σ1 (q_si h1 A 1 0) := gr_tr B1.2.1 (gr_h B1.2.1.2.2.2 (k_ag_si k_ag_rf (fun q => q rfl))) (Or.inl rfl)
  have f1 : q_int (q_si h1 A 1 0) A 1 = 0 := k_si_s
  generalize q_si h1 A 1 0 = h2 at N0 f1 ⊢
  obtain ⟨b1, b2, b3, b4, b5⟩ := B1
  have G3 := gr_nw (a := A + 2) (t := 4) (n := 0) (h := h2) b2.2.2.2
  have G3A := G3.2.2.1 A (by omega) (by omega)
  have t3 : q_tag (q_nw σ1 4 0) (q_sz σ1) = 4 := q_tnew _ _ _
  unfold q_al
  have s3 : q_sz (q_nw σ1 4 0) = q_sz σ1 + 1 := rfl
  generalize q_nw σ1 4 0 = σ3 at G3 G3A t3 s3 ⊢
  generalize q_nh h2 (q_sz σ1) = h3 at G3 G3A ⊢
  rw [sz] at t3 s3 ⊢
  refine k_bind (c_init (k := 0) (f := 0) t3 (by omega) (by decide) (by decide)) (fun h4 p4 => ?_)
  unfold q_lr
  have G4 := gr_h (a := A + 2) G3.2.2.2 p4.2
  have G := gr_tr (gr_tr (gr_tr N0 G3 (Or.inr (by omega))) G4 (Or.inr (by omega))) (gr_sr (a := A) (f := 2) (v := A + 2) G3.2.2.2) (Or.inl rfl)
  have g5 : k_ag (fun b => b ≠ A) h4 (q_si (q_si h4 A 3 0) A 4 0) := k_ag_si (k_ag_si k_ag_rf (fun q => q rfl)) (fun q => q rfl)
  have e0 := b4 (0, 1) (by decide)
  have e1 := b5 (1, 7, 100) (by decide)
  have g3A := G3.2.1 A (by omega)
  have g31 := G3.2.1 (A + 1) (by omega)
  refine k_some ⟨s3, gr_tr G (gr_h G.2.2.2 g5) (Or.inl rfl), ⟨(G.2.1 A (by omega)).1.trans ht, ?_, g31.1.trans e1.2.1, g31.2.trans e1.2.2.1, ?_⟩, ?_⟩
  · dsimp only
    rw [k_sr_j (by decide)]
    exact (G3A.1 0).trans e0
  · dsimp only
    rw [k_sr_s]; exact t3
  · dsimp only
    rw [k_si_j (by decide), k_si_j (by decide), k_agI p4.2 (by omega)]
    exact (G3A.2.1 1).trans f1
