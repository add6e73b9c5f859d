/-! what always holds: the class's side, the model's side -/
/-- the class's shelves hold y and c -/
def k_Y (σ : q_St) (h : q_Hp) (x : Nat) (y : k_Z) (c : Nat → Nat → Int32) : Prop := ∀ d, d < 8 → q_int h (x + 56 + 3 * d) 1 = nI (y 0 d) ∧ (y 0 d = 1 → k_su σ h (q_ref σ (x + 56 + 3 * d) 2) (y 1 d) (y 2 d)) ∧ (y 0 d = 2 → q_int h (x + 56 + 3 * d) 3 = nI (y 3 d) ∧ q_int h (x + 56 + 3 * d) 4 = nI (y 4 d) ∧ ∀ i, i < 100 → q_int h (x + 57 + 3 * d) i = c d i)
/-- the model's shelves hold y and c -/
def k_YM (h : q_Hp) (m : Nat) (y : k_Z) (c : Nat → Nat → Int32) : Prop := ∀ d, d < 8 → q_int h (m + 12) d = nI (y 0 d) ∧ (y 0 d = 1 → q_int h (m + 13) d = nI (y 1 d) ∧ q_int h (m + 14) d = nI (y 2 d)) ∧ (y 0 d = 2 → q_int h (m + 15) d = nI (y 3 d) ∧ q_int h (m + 16) d = nI (y 4 d) ∧ ∀ i, i < 100 → q_lng h (m + 17) (100 * d + i) = (c d i).toInt64)
def k_vy (y : k_Z) : Prop := ∀ d, d < 8 → y 0 d ≤ 2 ∧ (y 0 d = 1 → y 1 d < 8 ∧ y 2 d < 10) ∧ (y 0 d = 2 → y 3 d ≤ 2 ∧ y 4 d ≤ 100)
def k_CI (σ : q_St) (h : q_Hp) (x A B : Nat) (z : k_Z) (p : Bool) (zi y : k_Z) (c : Nat → Nat → Int32) : Prop := k_X σ x A B ∧ k_V σ h A z ∧ q_int h x 3 = (if p then 1 else 0) ∧ (p = true → k_V σ h (x + 25) zi) ∧ k_Y σ h x y c ∧ (∀ k, k < 8 → k_su σ h (x + 80 + k) k 5) ∧ k_su σ h (x + 42) 0 0
/-- the model's constants -/
def k_Kf (h : q_Hp) (m : Nat) : Prop := (∀ g, g < 4 → q_int h (m + 23) g = -1) ∧ q_int h m 37 = 0 ∧ q_int h m 38 = 0
def k_MI (σ : q_St) (h : q_Hp) (m : Nat) (z : k_Z) (p : Bool) (zi y : k_Z) (c : Nat → Nat → Int32) : Prop := k_M σ m ∧ k_W h m z ∧ q_int h m 31 = (if p then 1 else 0) ∧ (p = true → k_I h (m + 22) zi) ∧ k_YM h m y c ∧ k_Kf h m
/-- the cells that the class's questions write: the fitting, three rows -/
def k_scr (x a : Nat) : Prop := x + 43 ≤ a ∧ a ≤ x + 55
/-- the model's cells, and the law's row -/
def k_mz (x a : Nat) : Prop := x + 88 ≤ a ∧ a ≤ x + 115
theorem k_Kf_mf {L R : List Nat} {m : Nat} {h h1 : q_Hp} (F : k_Kf h m) (a : k_mf L R m h h1) (e1 : 37 ∉ L ∧ 38 ∉ L) (e2 : 23 ∉ R) : k_Kf h1 m := ⟨fun g hg => by rw [mf_i a 23 (by decide) (by decide) e2]; exact F.1 g hg, by rw [a.2.1 37 e1.1]; exact F.2.1, by rw [a.2.1 38 e1.2]; exact F.2.2⟩
theorem k_I_cg {h h1 : q_Hp} {a : Nat} {z : k_Z} (I : k_I h a z) (e : ∀ i, q_int h1 a i = q_int h a i) : k_I h1 a z := ⟨fun j hj => by rw [e]; exact I.1 j hj, fun r s hr hs => by rw [e]; exact I.2.1 r s hr hs, fun r s hr hs => by rw [e]; exact I.2.2 r s hr hs⟩
theorem k_YM_mf {L R : List Nat} {m : Nat} {h h1 : q_Hp} {y : k_Z} {c : Nat → Nat → Int32} (Y : k_YM h m y c) (a : k_mf L R m h h1) (e : ∀ r, 12 ≤ r → r ≤ 17 → r ∉ R) : k_YM h1 m y c := by
  intro d hd
  have := Y d hd
  rw [mf_i a 12 (by decide) (by decide) (e 12 (by decide) (by decide)), mf_i a 13 (by decide) (by decide) (e 13 (by decide) (by decide)), mf_i a 14 (by decide) (by decide) (e 14 (by decide) (by decide)), mf_i a 15 (by decide) (by decide) (e 15 (by decide) (by decide)), mf_i a 16 (by decide) (by decide) (e 16 (by decide) (by decide))]
  refine ⟨this.1, this.2.1, fun h2 => ⟨(this.2.2 h2).1, (this.2.2 h2).2.1, fun i hi => ?_⟩⟩
  rw [mf_l a 17 (by decide) (by decide) (e 17 (by decide) (by decide))]
  exact (this.2.2 h2).2.2 i hi
/-- the model's side when other cells of the model are written -/
theorem MI_mf {L R : List Nat} {σ : q_St} {m : Nat} {h h1 : q_Hp} {z zi y : k_Z} {p : Bool} {c : Nat → Nat → Int32} (I : k_MI σ h m z p zi y c) (a : k_mf L R m h h1) (e1 : 0 ∉ L ∧ 6 ∉ L ∧ 13 ∉ L ∧ 14 ∉ L ∧ 31 ∉ L ∧ 37 ∉ L ∧ 38 ∉ L) (e2 : ∀ r, 1 ≤ r → r ≤ 17 → r ∉ R) (e3 : 22 ∉ R ∧ 23 ∉ R) : k_MI σ h1 m z p zi y c :=
  ⟨I.1, W_mf I.2.1 a ⟨e1.1, e1.2.1, e1.2.2.1, e1.2.2.2.1⟩ (fun r h1 h2 => e2 r h1 (by omega)), by rw [a.2.1 31 e1.2.2.2.2.1]; exact I.2.2.1, fun hp => k_I_cg (I.2.2.2.1 hp) (mf_i a 22 (by decide) (by decide) e3.1), k_YM_mf I.2.2.2.2.1 a (fun r h1 h2 => e2 r (by omega) h2), k_Kf_mf I.2.2.2.2.2 a e1.2.2.2.2.2 e3.2⟩
/-- the model's side when its state alone is written -/
theorem MI_st {L R : List Nat} {σ σ' : q_St} {m : Nat} {h h1 : q_Hp} {z z' zi y : k_Z} {p : Bool} {c : Nat → Nat → Int32} (I : k_MI σ h m z p zi y c) (M' : k_M σ' m) (W : k_W h1 m z') (a : k_mf L R m h h1) (e1 : 31 ∉ L ∧ 37 ∉ L ∧ 38 ∉ L) (e2 : ∀ r, 12 ≤ r → r ≤ 17 → r ∉ R) (e3 : 22 ∉ R ∧ 23 ∉ R) : k_MI σ' h1 m z' p zi y c :=
  ⟨M', W, by rw [a.2.1 31 e1.1]; exact I.2.2.1, fun hp => k_I_cg (I.2.2.2.1 hp) (mf_i a 22 (by decide) (by decide) e3.1), k_YM_mf I.2.2.2.2.1 a e2, k_Kf_mf I.2.2.2.2.2 a e1.2 e3.2⟩
theorem mf_mz {m : Nat} {h h' : q_Hp} (g : k_ag (fun a => m ≤ a ∧ a ≤ m + 26) h h') : (∀ k, q_int h' m k = q_int h m k) ∧ ∀ r, r ≤ 26 → ∀ i, q_int h' (m + r) i = q_int h (m + r) i ∧ q_lng h' (m + r) i = q_lng h (m + r) i := ⟨fun k => k_agI g (by omega) k, fun r hr i => ⟨k_agI g (by omega) i, k_agL g (by omega) i⟩⟩
/-- the model's side when only cells of others are written -/
theorem MI_ag {σ σ' : q_St} {m : Nat} {h h' : q_Hp} {z zi y : k_Z} {p : Bool} {c : Nat → Nat → Int32} (I : k_MI σ h m z p zi y c) (M' : k_M σ' m) (g : k_ag (fun a => m ≤ a ∧ a ≤ m + 26) h h') : k_MI σ' h' m z p zi y c := by
  obtain ⟨f1, f2⟩ := mf_mz g
  obtain ⟨i1, i2, i3, i4, i5, i6⟩ := I
  refine ⟨M', ⟨⟨by rw [f1]; exact i2.1.1, by rw [f1]; exact i2.1.2.1, by rw [f1]; exact i2.1.2.2.1, by rw [f1]; exact i2.1.2.2.2⟩, fun r s hr hs => by rw [(f2 r (by omega) s).1]; exact i2.2.1 r s hr hs, fun r s hr hs => by rw [(f2 r (by omega) s).1]; exact i2.2.2 r s hr hs⟩, by rw [f1]; exact i3, fun hp => k_I_cg (i4 hp) (fun i => (f2 22 (by decide) i).1), fun d hd => ?_, fun g hg => by rw [(f2 23 (by decide) g).1]; exact i6.1 g hg, by rw [f1]; exact i6.2.1, by rw [f1]; exact i6.2.2⟩
  have := i5 d hd
  rw [(f2 12 (by decide) _).1, (f2 13 (by decide) _).1, (f2 14 (by decide) _).1, (f2 15 (by decide) _).1, (f2 16 (by decide) _).1]
  refine ⟨this.1, this.2.1, fun h2 => ⟨(this.2.2 h2).1, (this.2.2 h2).2.1, fun i hi => ?_⟩⟩
  rw [(f2 17 (by decide) _).2]
  exact (this.2.2 h2).2.2 i hi
/-- a shop's view when other cells are written -/
theorem V_ag {σ σ' : q_St} {h h' : q_Hp} {A : Nat} {z : k_Z} {P : Nat → Prop} (V : k_V σ h A z) (S' : k_sh σ' A) (g : k_ag P h h') (e1 : ∀ a, A ≤ a → a ≤ A + 10 → P a) (e2 : ∀ a, q_tag σ a = 4 → P a ∧ q_tag σ' a = 4) (e3 : ∀ s, s < z 0 0 → q_ref σ' (A + 1) s = q_ref σ (A + 1) s) : k_V σ' h' A z := by
  refine ⟨S', fun j hj => by rw [k_agI g (e1 A (by omega) (by omega))]; exact V.2.1 j hj, fun s hs => ?_, fun r s hr hs => by rw [k_agI g (e1 _ (by omega) (by omega))]; exact V.2.2.2.1 r s hr hs, fun r s hr hs => by rw [k_agI g (e1 _ (by omega) (by omega))]; exact V.2.2.2.2 r s hr hs⟩
  rw [e3 s hs]
  have U := v_su V hs
  exact su_mv U ((e2 _ (sut U)).2.trans (sut U).symm) (fun i => k_agI g (e2 _ (sut U)).1 i)
theorem X_n4 {σ : q_St} {x A B a : Nat} (X : k_X σ x A B) (h : k_scr x a) : q_tag σ a ≠ 4 := by
  intro q
  have h0 : x + 43 ≤ a ∧ a ≤ x + 55 := h
  obtain ⟨j, rfl⟩ : ∃ j, a = x + j := ⟨a - x, by omega⟩
  have F := xF X
  have hj : 43 ≤ j ∧ j ≤ 55 := by omega
  rcases (show j = 43 ∨ (44 ≤ j ∧ j ≤ 49) ∨ (50 ≤ j ∧ j ≤ 52) ∨ j = 53 ∨ j = 54 ∨ j = 55 by omega) with rfl | e | e | rfl | rfl | rfl
  · rw [F.1] at q; exact absurd q (by decide)
  · have := (F.2.2.1 (j - 43) (by omega)).1
    rw [show x + 43 + (j - 43) = x + j by omega, q] at this
    exact absurd this (by decide)
  · have := (F.2.2.2 (j - 43) (by omega)).1
    rw [show x + 43 + (j - 43) = x + j by omega, q] at this
    exact absurd this (by decide)
  · rw [xt53 X] at q; exact absurd q (by decide)
  · rw [xt54 X] at q; exact absurd q (by decide)
  · rw [xt55 X] at q; exact absurd q (by decide)
theorem M_n4 {σ : q_St} {m a : Nat} (M : k_M σ m) (h : m ≤ a ∧ a ≤ m + 26) : q_tag σ a ≠ 4 := by
  intro q
  obtain ⟨j, rfl⟩ : ∃ j, a = m + j := ⟨a - m, by omega⟩
  by_cases e : j = 0
  · subst e
    rw [Nat.add_zero, M.1] at q; exact absurd q (by decide)
  · have hj : 1 ≤ j ∧ j ≤ 26 := by omega
    have : ∀ j, 1 ≤ j → j ≤ 26 → ∃ p ∈ k_ml, p.1 = j ∧ p.2.1 ≠ 4 := by
      have : ∀ j, j < 27 → 1 ≤ j → ∃ p ∈ k_ml, p.1 = j ∧ p.2.1 ≠ 4 := by decide
      exact fun j h1 h2 => this j (by omega) h1
    obtain ⟨p, hp, e1, e2⟩ := this j hj.1 hj.2
    have t := (M.2.2 p hp).1
    rw [e1, q] at t
    exact e2 t.symm
/-- the class's side when neither its lasting cells nor suits are written, and no reference but the model's -/
theorem CI_ag {σ σ' : q_St} {h h' : q_Hp} {x A B : Nat} {z zi y : k_Z} {p : Bool} {c : Nat → Nat → Int32} (I : k_CI σ h x A B z p zi y c) (X' : k_X σ' x A B) (g : k_ag (fun a => (x ≤ a ∧ a < x + 43) ∨ (x + 56 ≤ a ∧ a < x + 88) ∨ q_tag σ a = 4) h h') (e2 : ∀ a, q_tag σ a = 4 → q_tag σ' a = 4) (e3 : ∀ a k, x ≤ a → a < x + 88 → q_ref σ' a k = q_ref σ a k) : k_CI σ' h' x A B z p zi y c := by
  obtain ⟨X, V, i3, i4, i5, i6, i7⟩ := I
  have hAB := xAB X
  have su' : ∀ {a k f : Nat}, k_su σ h a k f → k_su σ' h' a k f := fun U => su_mv U ((e2 _ (sut U)).trans (sut U).symm) (fun i => k_agI g (Or.inr (Or.inr (sut U))) i)
  refine ⟨X', V_ag V (xA X') g (fun a h1 h2 => Or.inl (by omega)) (fun a ha => ⟨Or.inr (Or.inr ha), e2 a ha⟩) (fun s _ => e3 _ _ (by omega) (by omega)), by rw [k_agI g (Or.inl (by omega))]; exact i3, fun hp => V_ag (i4 hp) (xP X') g (fun a h1 h2 => Or.inl (by omega)) (fun a ha => ⟨Or.inr (Or.inr ha), e2 a ha⟩) (fun s _ => e3 _ _ (by omega) (by omega)), fun d hd => ?_, fun k hk => su' (i6 k hk), su' i7⟩
  have := i5 d hd
  rw [k_agI g (Or.inr (Or.inl (by omega))), k_agI g (Or.inr (Or.inl (by omega))), k_agI g (Or.inr (Or.inl (by omega))), e3 _ _ (by omega) (by omega)]
  refine ⟨this.1, fun h1 => su' (this.2.1 h1), fun h2 => ⟨(this.2.2 h2).1, (this.2.2 h2).2.1, fun i hi => ?_⟩⟩
  rw [k_agI g (Or.inr (Or.inl (by omega)))]
  exact (this.2.2 h2).2.2 i hi
/-- .. when the class's scratch alone is written -/
theorem CI_scr {σ : q_St} {h h' : q_Hp} {x A B : Nat} {z zi y : k_Z} {p : Bool} {c : Nat → Nat → Int32} (I : k_CI σ h x A B z p zi y c) (g : k_ag (fun a => ¬ k_scr x a) h h') : k_CI σ h' x A B z p zi y c :=
  CI_ag I I.1 (k_ag_mono g (fun a ha q => by
    rcases ha with e | e | e
    · unfold k_scr at q; omega
    · unfold k_scr at q; omega
    · exact X_n4 I.1 q e)) (fun _ h => h) (fun _ _ _ _ => rfl)
/-- .. when the model's cells are written -/
theorem CI_mf {L R : List Nat} {σ : q_St} {h h' : q_Hp} {x A B : Nat} {z zi y : k_Z} {p : Bool} {c : Nat → Nat → Int32} (I : k_CI σ h x A B z p zi y c) (M : k_M σ (x + 88)) (a : k_mf L R (x + 88) h h') : k_CI σ h' x A B z p zi y c :=
  CI_ag I I.1 (fun b hb => a.1 b (fun q => by
    rcases hb with e | e | e
    · omega
    · omega
    · exact M_n4 M q e)) (fun _ h => h) (fun _ _ _ _ => rfl)
theorem X_34 {σ : q_St} {x A B v : Nat} (X : k_X σ x A B) : k_X (q_sr σ (x + 88) 34 v) x A B := by
  have hAB := xAB X
  have r : ∀ a k, a < x + 88 → q_ref (q_sr σ (x + 88) 34 v) a k = q_ref σ a k := fun a k ha => k_sr_n (by omega)
  have sh : ∀ a, a + 1 < x + 88 → k_sh σ a → k_sh (q_sr σ (x + 88) 34 v) a := fun a ha S => ⟨S.1, fun k hk => (r a k (by omega)).trans (S.2.1 k hk), S.2.2.1, S.2.2.2.1, S.2.2.2.2.1, S.2.2.2.2.2.1, fun s hs => by rw [r _ _ (by omega)]; exact S.2.2.2.2.2.2 s hs⟩
  have lf : ∀ a, a < x + 88 → k_lf σ a → k_lf (q_sr σ (x + 88) 34 v) a := fun a ha S => ⟨S.1, (r a 0 ha).trans S.2.1, S.2.2.1, S.2.2.2.1, by rw [r a 2 ha]; exact S.2.2.2.2⟩
  obtain ⟨i0, i1, i2, i3, i4, i5, i6, i7, i8, i9, i10, i11, i12, i13, i14, i15, i16, i17⟩ := X
  refine ⟨i0, i1, (r _ _ (by omega)).trans i2, (r _ _ (by omega)).trans i3, fun p hp => (r _ _ (by omega)).trans (i4 p hp), sh _ (by omega) i5, sh _ (by omega) i6, sh _ (by omega) i7, ⟨i8.1, fun k hk => (r _ _ (by omega)).trans (i8.2.1 k hk), i8.2.2.1, i8.2.2.2⟩, fun d hd => ⟨(r _ _ (by omega)).trans (i9 d hd).1, lf _ (by omega) (i9 d hd).2⟩, lf _ (by omega) i10, i11, i12, fun k hk => ⟨(r _ _ (by omega)).trans (i13 k hk).1, (i13 k hk).2⟩, i14, i15, i16, i17⟩
/-- .. and its reference to the row that is carried to -/
theorem CI_34 {σ : q_St} {h : q_Hp} {x A B v : Nat} {z zi y : k_Z} {p : Bool} {c : Nat → Nat → Int32} (I : k_CI σ h x A B z p zi y c) : k_CI (q_sr σ (x + 88) 34 v) h x A B z p zi y c :=
  CI_ag I (X_34 I.1) k_ag_rf (fun _ h => h) (fun a k h1 h2 => k_sr_n (by omega))
/-- what the law keeps between two calls -/
def k_Inv (σ : q_St) (h : q_Hp) (x : Nat) : Prop := ∃ (A B : Nat) (z : k_Z) (p : Bool) (zi y : k_Z) (c : Nat → Nat → Int32), (k_va z ∧ (p = true → k_va zi) ∧ k_vy y) ∧ k_CI σ h x A B z p zi y c ∧ k_MI σ h (x + 88) z p zi y c ∧ (q_tag σ (x + 115) = 8 ∧ q_len σ (x + 115) = 1) ∧ x + 116 ≤ q_sz σ ∧ (∀ a, q_sz σ ≤ a → q_tag σ a = 0) ∧ 0 < x
