/-! one shop of the class is written, and cells may have been made -/
def k_tr (σ : q_St) (h : q_Hp) (C : Nat) (σ' : q_St) (h' : q_Hp) : Prop := k_ag (fun a => k_oS C a ∧ a < q_sz σ) h h' ∧ q_sz σ ≤ q_sz σ' ∧ (∀ a, a < q_sz σ → q_tag σ' a = q_tag σ a ∧ q_len σ' a = q_len σ a) ∧ (∀ a k, a < q_sz σ → a ≠ C + 1 → q_ref σ' a k = q_ref σ a k) ∧ (∀ a, q_sz σ' ≤ a → q_tag σ' a = 0) ∧ ∀ s, s < 7 → q_ref σ' (C + 1) s = 0 ∨ q_tag σ' (q_ref σ' (C + 1) s) = 4
theorem tr_rf {σ : q_St} {h : q_Hp} {C : Nat} (S : k_sh σ C) (fr : ∀ a, q_sz σ ≤ a → q_tag σ a = 0) : k_tr σ h C σ h := ⟨k_ag_rf, Nat.le_refl _, fun _ _ => ⟨rfl, rfl⟩, fun _ _ _ _ => rfl, fr, S.2.2.2.2.2.2⟩
theorem tr_tr {σ σ1 σ2 : q_St} {h h1 h2 : q_Hp} {C : Nat} (a : k_tr σ h C σ1 h1) (b : k_tr σ1 h1 C σ2 h2) : k_tr σ h C σ2 h2 :=
  ⟨k_ag_tr a.1 (k_ag_mono b.1 (fun x hx => ⟨hx.1, Nat.lt_of_lt_of_le hx.2 a.2.1⟩)), Nat.le_trans a.2.1 b.2.1, fun x hx => ⟨(b.2.2.1 x (Nat.lt_of_lt_of_le hx a.2.1)).1.trans (a.2.2.1 x hx).1, (b.2.2.1 x (Nat.lt_of_lt_of_le hx a.2.1)).2.trans (a.2.2.1 x hx).2⟩, fun x k hx n => (b.2.2.2.1 x k (Nat.lt_of_lt_of_le hx a.2.1) n).trans (a.2.2.2.1 x k hx n), b.2.2.2.2.1, b.2.2.2.2.2⟩
theorem tr_h {σ : q_St} {h h' : q_Hp} {C : Nat} (S : k_sh σ C) (fr : ∀ a, q_sz σ ≤ a → q_tag σ a = 0) (g : k_ag (k_oS C) h h') : k_tr σ h C σ h' := ⟨k_ag_mono g (fun _ q => q.1), Nat.le_refl _, fun _ _ => ⟨rfl, rfl⟩, fun _ _ _ _ => rfl, fr, S.2.2.2.2.2.2⟩
theorem tr_sg {σ σ' : q_St} {h h' : q_Hp} {C : Nat} (S : k_sh σ' C) (fr : ∀ a, q_sz σ ≤ a → q_tag σ a = 0) (g : k_ag (k_oS C) h h') (s : k_sg (fun a => a ≠ C + 1) σ σ') : k_tr σ h C σ' h' := ⟨k_ag_mono g (fun _ q => q.1), Nat.le_of_eq s.1.symm, fun a _ => ⟨s.2.1 a, s.2.2.1 a⟩, fun a k _ n => s.2.2.2 a k n, fun a ha => (s.2.1 a).trans (fr a (by rw [← s.1]; exact ha)), S.2.2.2.2.2.2⟩
theorem tr_t4 {σ σ' : q_St} {h h' : q_Hp} {C : Nat} (T : k_tr σ h C σ' h') (fr : ∀ a, q_sz σ ≤ a → q_tag σ a = 0) {a : Nat} (ha : q_tag σ a = 4) : a < q_sz σ ∧ q_tag σ' a = 4 := by
  rcases Nat.lt_or_ge a (q_sz σ) with q | q
  · exact ⟨q, (T.2.2.1 a q).1.trans ha⟩
  · rw [fr a q] at ha; exact absurd ha (by decide)
theorem S_tr {σ σ' : q_St} {h h' : q_Hp} {C A : Nat} (S : k_sh σ A) (T : k_tr σ h C σ' h') (fr : ∀ a, q_sz σ ≤ a → q_tag σ a = 0) (hA : A + 11 < q_sz σ) (d : A = C ∨ A + 11 ≤ C ∨ C + 11 ≤ A) : k_sh σ' A := by
  refine ⟨(T.2.2.1 A (by omega)).1.trans S.1, fun k hk => (T.2.2.2.1 A k (by omega) (by omega)).trans (S.2.1 k hk), (T.2.2.1 _ (by omega)).1.trans S.2.2.1, (T.2.2.1 _ (by omega)).2.trans S.2.2.2.1, fun k hk => ⟨(T.2.2.1 _ (by omega)).1.trans (S.2.2.2.2.1 k hk).1, (T.2.2.1 _ (by omega)).2.trans (S.2.2.2.2.1 k hk).2⟩, (T.2.2.1 _ (by omega)).1.trans S.2.2.2.2.2.1, fun s hs => ?_⟩
  by_cases e : A = C
  · subst e; exact T.2.2.2.2.2 s hs
  · rw [T.2.2.2.1 _ s (by omega) (by omega)]
    exact (S.2.2.2.2.2.2 s hs).imp id (fun q => (tr_t4 T fr q).2)
theorem lf_tr {σ σ' : q_St} {h h' : q_Hp} {C A : Nat} (S : k_lf σ A) (T : k_tr σ h C σ' h') (fr : ∀ a, q_sz σ ≤ a → q_tag σ a = 0) (hA : A + 1 < q_sz σ) (d : A ≠ C + 1) : k_lf σ' A := ⟨(T.2.2.1 A (by omega)).1.trans S.1, (T.2.2.2.1 A 0 (by omega) d).trans S.2.1, (T.2.2.1 _ (by omega)).1.trans S.2.2.1, (T.2.2.1 _ (by omega)).2.trans S.2.2.2.1, by rw [T.2.2.2.1 A 2 (by omega) d]; exact (tr_t4 T fr S.2.2.2.2).2⟩
def k_at (x C : Nat) : Prop := C = x + 1 ∨ C = x + 13 ∨ C = x + 25
theorem X_tr {σ σ' : q_St} {h h' : q_Hp} {x A B C : Nat} (X : k_X σ x A B) (T : k_tr σ h C σ' h') (fr : ∀ a, q_sz σ ≤ a → q_tag σ a = 0) (hs : x + 116 ≤ q_sz σ) (hC : k_at x C) : k_X σ' x A B := by
  have hAB := xAB X
  unfold k_at at hC
  obtain ⟨i0, i1, i2, i3, i4, i5, i6, i7, i8, i9, i10, i11, i12, i13, i14, i15, i16, i17⟩ := X
  have b4 : ∀ p ∈ k_xr, p.2 ≤ 55 := by decide
  refine ⟨(T.2.2.1 _ (by omega)).1.trans i0, i1, (T.2.2.2.1 _ _ (by omega) (by omega)).trans i2, (T.2.2.2.1 _ _ (by omega) (by omega)).trans i3, fun p hp => (T.2.2.2.1 _ _ (by omega) (by omega)).trans (i4 p hp), S_tr i5 T fr (by omega) (by omega), S_tr i6 T fr (by omega) (by omega), S_tr i7 T fr (by omega) (by omega), ⟨(T.2.2.1 _ (by omega)).1.trans i8.1, fun k hk => (T.2.2.2.1 _ _ (by omega) (by omega)).trans (i8.2.1 k hk), fun k hk => ⟨(T.2.2.1 _ (by omega)).1.trans (i8.2.2.1 k hk).1, (T.2.2.1 _ (by omega)).2.trans (i8.2.2.1 k hk).2⟩, fun k hk => ⟨(T.2.2.1 _ (by omega)).1.trans (i8.2.2.2 k hk).1, (T.2.2.1 _ (by omega)).2.trans (i8.2.2.2 k hk).2⟩⟩, fun d hd => ⟨(T.2.2.2.1 _ _ (by omega) (by omega)).trans (i9 d hd).1, lf_tr (i9 d hd).2 T fr (by omega) (by omega)⟩, lf_tr i10 T fr (by omega) (by omega), ⟨(T.2.2.1 _ (by omega)).1.trans i11.1, (T.2.2.1 _ (by omega)).2.trans i11.2⟩, ⟨(T.2.2.1 _ (by omega)).1.trans i12.1, (T.2.2.1 _ (by omega)).2.trans i12.2⟩, fun k hk => ⟨(T.2.2.2.1 _ _ (by omega) (by omega)).trans (i13 k hk).1, (T.2.2.1 _ (by omega)).1.trans (i13 k hk).2⟩, (T.2.2.1 _ (by omega)).1.trans i14, ⟨(T.2.2.1 _ (by omega)).1.trans i15.1, (T.2.2.1 _ (by omega)).2.trans i15.2⟩, ⟨(T.2.2.1 _ (by omega)).1.trans i16.1, (T.2.2.1 _ (by omega)).2.trans i16.2⟩, ⟨(T.2.2.1 _ (by omega)).1.trans i17.1, (T.2.2.1 _ (by omega)).2.trans i17.2⟩⟩
theorem su_tr {σ σ' : q_St} {h h' : q_Hp} {C a k f : Nat} (U : k_su σ h a k f) (S : k_sh σ C) (T : k_tr σ h C σ' h') (fr : ∀ a, q_sz σ ≤ a → q_tag σ a = 0) : k_su σ' h' a k f := by
  have t := tr_t4 T fr (sut U)
  exact su_mv U (t.2.trans (sut U).symm) (fun i => k_agI T.1 ⟨S_n4 S (sut U), t.1⟩ i)
theorem V_tr {σ σ' : q_St} {h h' : q_Hp} {C A : Nat} {z : k_Z} (V : k_V σ h A z) (S : k_sh σ C) (T : k_tr σ h C σ' h') (fr : ∀ a, q_sz σ ≤ a → q_tag σ a = 0) (hA : A + 11 < q_sz σ) (d : A + 11 ≤ C ∨ C + 11 ≤ A) : k_V σ' h' A z :=
  V_ag V (S_tr (vS V) T fr hA (Or.inr d)) T.1 (fun a h1 h2 => ⟨fun q => by omega, by omega⟩) (fun a ha => ⟨⟨S_n4 S ha, (tr_t4 T fr ha).1⟩, (tr_t4 T fr ha).2⟩) (fun s _ => T.2.2.2.1 _ s (by omega) (by omega))
theorem Y_tr {σ σ' : q_St} {h h' : q_Hp} {x C : Nat} {y : k_Z} {c : Nat → Nat → Int32} (Y : k_Y σ h x y c) (S : k_sh σ C) (T : k_tr σ h C σ' h') (fr : ∀ a, q_sz σ ≤ a → q_tag σ a = 0) (hs : x + 116 ≤ q_sz σ) (hC : k_at x C) : k_Y σ' h' x y c := by
  unfold k_at at hC
  have o : ∀ a, x + 38 ≤ a → a < x + 116 → k_oS C a ∧ a < q_sz σ := fun a h1 h2 => ⟨fun q => by omega, by omega⟩
  intro d hd
  have := Y d hd
  rw [k_agI T.1 (o _ (by omega) (by omega)), k_agI T.1 (o _ (by omega) (by omega)), k_agI T.1 (o _ (by omega) (by omega)), T.2.2.2.1 _ _ (by omega) (by omega)]
  refine ⟨this.1, fun h1 => su_tr (this.2.1 h1) S T fr, fun h2 => ⟨(this.2.2 h2).1, (this.2.2 h2).2.1, fun i hi => ?_⟩⟩
  rw [k_agI T.1 (o _ (by omega) (by omega))]
  exact (this.2.2 h2).2.2 i hi
theorem fc_tr {σ σ' : q_St} {h h' : q_Hp} {x C : Nat} (T : k_tr σ h C σ' h') (hs : x + 116 ≤ q_sz σ) (hC : k_at x C) : k_fc σ h x σ' h' := by
  unfold k_at at hC
  exact ⟨k_ag_mono T.1 (fun a ha => by unfold k_mz at ha; exact ⟨fun q => by omega, by omega⟩), fun a ha => by
    unfold k_mz at ha
    exact ⟨(T.2.2.1 a (by omega)).1, (T.2.2.1 a (by omega)).2, fun k => T.2.2.2.1 a k (by omega) (by omega)⟩, Nat.le_trans hs T.2.1, T.2.2.2.2.1⟩
theorem fc_rf {σ : q_St} {h : q_Hp} {x : Nat} (E : k_etc σ x) : k_fc σ h x σ h := fc_of E k_ag_rf
/-- the shop that is is written -/
theorem CI_trA {σ σ' : q_St} {h h' : q_Hp} {x A B : Nat} {z z' zi y : k_Z} {p : Bool} {c : Nat → Nat → Int32} (I : k_CI σ h x A B z p zi y c) (E : k_etc σ x) (T : k_tr σ h A σ' h') (V' : k_V σ' h' A z') : k_CI σ' h' x A B z' p zi y c ∧ k_fc σ h x σ' h' := by
  have hAB := xAB I.1
  have S := xA I.1
  have fr := E.2.2.1
  have hs := E.2.1
  have hC : k_at x A := by unfold k_at; omega
  obtain ⟨X, V, i3, i4, i5, i6, i7⟩ := I
  exact ⟨⟨X_tr X T fr hs hC, V', by rw [k_agI T.1 (⟨fun q => by omega, by omega⟩ : k_oS A x ∧ x < q_sz σ)]; exact i3, fun hp => V_tr (i4 hp) S T fr (by omega) (by omega), Y_tr i5 S T fr hs hC, fun k hk => su_tr (i6 k hk) S T fr, su_tr i7 S T fr⟩, fc_tr T hs hC⟩
/-- the shop on trial is written -/
theorem CI_trB {σ σ' : q_St} {h h' : q_Hp} {x A B : Nat} {z zi y : k_Z} {p : Bool} {c : Nat → Nat → Int32} (I : k_CI σ h x A B z p zi y c) (E : k_etc σ x) (T : k_tr σ h B σ' h') : k_CI σ' h' x A B z p zi y c ∧ k_fc σ h x σ' h' := by
  have hAB := xAB I.1
  have S := xB I.1
  have fr := E.2.2.1
  have hs := E.2.1
  have hC : k_at x B := by unfold k_at; omega
  obtain ⟨X, V, i3, i4, i5, i6, i7⟩ := I
  exact ⟨⟨X_tr X T fr hs hC, V_tr V S T fr (by omega) (by omega), by rw [k_agI T.1 (⟨fun q => by omega, by omega⟩ : k_oS B x ∧ x < q_sz σ)]; exact i3, fun hp => V_tr (i4 hp) S T fr (by omega) (by omega), Y_tr i5 S T fr hs hC, fun k hk => su_tr (i6 k hk) S T fr, su_tr i7 S T fr⟩, fc_tr T hs hC⟩
/-- the picture is written -/
theorem CI_trP {σ σ' : q_St} {h h' : q_Hp} {x A B : Nat} {z z' zi y : k_Z} {p : Bool} {c : Nat → Nat → Int32} (I : k_CI σ h x A B z p zi y c) (E : k_etc σ x) (hp : p = true) (T : k_tr σ h (x + 25) σ' h') (V' : k_V σ' h' (x + 25) z') : k_CI σ' h' x A B z true z' y c ∧ k_fc σ h x σ' h' := by
  have hAB := xAB I.1
  have S := xP I.1
  have fr := E.2.2.1
  have hs := E.2.1
  have hC : k_at x (x + 25) := by unfold k_at; omega
  subst hp
  obtain ⟨X, V, i3, i4, i5, i6, i7⟩ := I
  exact ⟨⟨X_tr X T fr hs hC, V_tr V S T fr (by omega) (by omega), by rw [k_agI T.1 (⟨fun q => by omega, by omega⟩ : k_oS (x + 25) x ∧ x < q_sz σ)]; exact i3, fun _ => V', Y_tr i5 S T fr hs hC, fun k hk => su_tr (i6 k hk) S T fr, su_tr i7 S T fr⟩, fc_tr T hs hC⟩
/-- the shop on trial becomes the shop -/
theorem CI_swap {σ : q_St} {h : q_Hp} {x A B : Nat} {z z' zi y : k_Z} {p : Bool} {c : Nat → Nat → Int32} (I : k_CI σ h x A B z p zi y c) (V' : k_V σ h B z') : k_CI (q_sr (q_sr σ x 0 B) x 1 A) h x B A z' p zi y c := by
  have hAB := xAB I.1
  have r : ∀ a k, a ≠ x → q_ref (q_sr (q_sr σ x 0 B) x 1 A) a k = q_ref σ a k := fun a k ha => by rw [k_sr_n ha, k_sr_n ha]
  have r2 : ∀ k, k ≠ 0 → k ≠ 1 → q_ref (q_sr (q_sr σ x 0 B) x 1 A) x k = q_ref σ x k := fun k h0 h1 => by rw [k_sr_j h1, k_sr_j h0]
  have sh : ∀ a, x < a → k_sh σ a → k_sh (q_sr (q_sr σ x 0 B) x 1 A) a := fun a ha S => ⟨S.1, fun k hk => (r a k (by omega)).trans (S.2.1 k hk), S.2.2.1, S.2.2.2.1, S.2.2.2.2.1, S.2.2.2.2.2.1, fun s hs => by rw [r _ _ (by omega)]; exact S.2.2.2.2.2.2 s hs⟩
  have lf : ∀ a, x < a → k_lf σ a → k_lf (q_sr (q_sr σ x 0 B) x 1 A) a := fun a ha S => ⟨S.1, (r a 0 (by omega)).trans S.2.1, S.2.2.1, S.2.2.2.1, by rw [r a 2 (by omega)]; exact S.2.2.2.2⟩
  have vv : ∀ C zz, x < C → k_V σ h C zz → k_V (q_sr (q_sr σ x 0 B) x 1 A) h C zz := fun C zz hC V => ⟨sh C hC V.1, V.2.1, fun s hs => by rw [r _ _ (by omega)]; exact su_mv (v_su V hs) rfl (fun _ => rfl), V.2.2.2.1, V.2.2.2.2⟩
  obtain ⟨X, V, i3, i4, i5, i6, i7⟩ := I
  obtain ⟨j0, j1, j2, j3, j4, j5, j6, j7, j8, j9, j10, j11, j12, j13, j14, j15, j16, j17⟩ := X
  have bx : ∀ p ∈ k_xr, p.1 ≠ 0 ∧ p.1 ≠ 1 := by decide
  refine ⟨⟨j0, by omega, by rw [k_sr_j (by decide), k_sr_s], k_sr_s, fun p hp => (r2 _ (bx p hp).1 (bx p hp).2).trans (j4 p hp), sh _ (by omega) j6, sh _ (by omega) j5, sh _ (by omega) j7, ⟨j8.1, fun k hk => (r _ _ (by omega)).trans (j8.2.1 k hk), j8.2.2.1, j8.2.2.2⟩, fun d hd => ⟨(r _ _ (by omega)).trans (j9 d hd).1, lf _ (by omega) (j9 d hd).2⟩, lf _ (by omega) j10, j11, j12, fun k hk => ⟨(r _ _ (by omega)).trans (j13 k hk).1, (j13 k hk).2⟩, j14, j15, j16, j17⟩, vv B z' (by omega) V', i3, fun hp => vv _ _ (by omega) (i4 hp), fun d hd => ?_, fun k hk => su_mv (i6 k hk) rfl (fun _ => rfl), su_mv i7 rfl (fun _ => rfl)⟩
  have := i5 d hd
  rw [r _ _ (by omega)]
  exact ⟨this.1, fun h1 => su_mv (this.2.1 h1) rfl (fun _ => rfl), this.2.2⟩
theorem fc_x {σ : q_St} {h : q_Hp} {x k v : Nat} (E : k_etc σ x) : k_fc σ h x (q_sr σ x k v) h := ⟨k_ag_rf, fun a ha => ⟨rfl, rfl, fun j => k_sr_n (by unfold k_mz at ha; omega)⟩, E.2.1, E.2.2.1⟩
theorem fc_tt {σ σ1 σ2 : q_St} {h h1 h2 : q_Hp} {x : Nat} (a : k_fc σ h x σ1 h1) (b : k_fc σ1 h1 x σ2 h2) : k_fc σ h x σ2 h2 := ⟨k_ag_tr a.1 b.1, fun y hy => ⟨(b.2.1 y hy).1.trans (a.2.1 y hy).1, (b.2.1 y hy).2.1.trans (a.2.1 y hy).2.1, fun k => ((b.2.1 y hy).2.2 k).trans ((a.2.1 y hy).2.2 k)⟩, b.2.2⟩
