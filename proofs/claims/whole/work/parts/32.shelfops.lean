/-! keep, row, put, copy -/
/-- what a call of the class leaves of the others' cells -/
def k_fc (σ : q_St) (h : q_Hp) (x : Nat) (σ' : q_St) (h' : q_Hp) : Prop := k_ag (k_mz x) h h' ∧ (∀ a, k_mz x a → q_tag σ' a = q_tag σ a ∧ q_len σ' a = q_len σ a ∧ ∀ k, q_ref σ' a k = q_ref σ a k) ∧ x + 116 ≤ q_sz σ' ∧ ∀ a, q_sz σ' ≤ a → q_tag σ' a = 0
def k_fm (σ : q_St) (h : q_Hp) (m : Nat) (σ' : q_St) (h' : q_Hp) : Prop := (∃ L R, k_mf L R m h h') ∧ (σ' = σ ∨ ∃ v, σ' = q_sr σ m 34 v)
def k_etc (σ : q_St) (x : Nat) : Prop := (q_tag σ (x + 115) = 8 ∧ q_len σ (x + 115) = 1) ∧ x + 116 ≤ q_sz σ ∧ (∀ a, q_sz σ ≤ a → q_tag σ a = 0) ∧ 0 < x
theorem fc_of {σ : q_St} {h h' : q_Hp} {x : Nat} (E : k_etc σ x) (g : k_ag (k_mz x) h h') : k_fc σ h x σ h' := ⟨g, fun _ _ => ⟨rfl, rfl, fun _ => rfl⟩, E.2.1, E.2.2.1⟩
theorem etc_fc {σ σ' : q_St} {h h' : q_Hp} {x : Nat} (E : k_etc σ x) (g : k_fc σ h x σ' h') : k_etc σ' x := ⟨⟨((g.2.1 (x + 115) ⟨by omega, by omega⟩).1).trans E.1.1, ((g.2.1 (x + 115) ⟨by omega, by omega⟩).2.1).trans E.1.2⟩, g.2.2.1, g.2.2.2, E.2.2.2⟩
theorem M_fc {σ σ' : q_St} {h h' : q_Hp} {x : Nat} (M : k_M σ (x + 88)) (g : k_fc σ h x σ' h') : k_M σ' (x + 88) := by
  have b : ∀ p ∈ k_ml, p.1 ≤ 26 := by decide
  exact ⟨((g.2.1 (x + 88) ⟨by omega, by omega⟩).1).trans M.1, fun p hp => ((g.2.1 (x + 88) ⟨by omega, by omega⟩).2.2 _).trans (M.2.1 p hp), fun p hp => by
    have := b p hp
    have e := g.2.1 (x + 88 + p.1) ⟨by omega, by omega⟩
    exact ⟨e.1.trans (M.2.2 p hp).1, e.2.1.trans (M.2.2 p hp).2⟩⟩
theorem MI_fc {σ σ' : q_St} {h h' : q_Hp} {x : Nat} {z zi y : k_Z} {p : Bool} {c : Nat → Nat → Int32} (I : k_MI σ h (x + 88) z p zi y c) (g : k_fc σ h x σ' h') : k_MI σ' h' (x + 88) z p zi y c := MI_ag I (M_fc I.1 g) (k_ag_mono g.1 (fun a ha => ⟨by omega, by omega⟩))
theorem Inv_of {σ1 σ2 : q_St} {h1 h2 : q_Hp} {x A B : Nat} {z zi y : k_Z} {p : Bool} {c : Nat → Nat → Int32} (v1 : k_va z) (v2 : p = true → k_va zi) (v3 : k_vy y) (E : k_etc σ1 x) (C : k_CI σ1 h1 x A B z p zi y c) (M1 : k_M σ1 (x + 88)) (Mi : k_MI σ2 h2 (x + 88) z p zi y c) (fm : k_fm σ1 h1 (x + 88) σ2 h2) : k_Inv σ2 h2 x := by
  obtain ⟨⟨L, R, a⟩, s⟩ := fm
  have C1 := CI_mf C M1 a
  rcases s with rfl | ⟨v, rfl⟩
  · exact ⟨A, B, z, p, zi, y, c, ⟨v1, v2, v3⟩, C1, Mi, E.1, E.2.1, E.2.2.1, E.2.2.2⟩
  · exact ⟨A, B, z, p, zi, y, c, ⟨v1, v2, v3⟩, CI_34 C1, Mi, E.1, E.2.1, E.2.2.1, E.2.2.2⟩
theorem k_scr_mz {x : Nat} {h h' : q_Hp} (g : k_ag (fun a => ¬ k_scr x a) h h') : k_ag (k_mz x) h h' := k_ag_mono g (fun a ha q => by unfold k_mz at ha; unfold k_scr at q; omega)
theorem X_gr {σ σ' : q_St} {x A B : Nat} (X : k_X σ x A B) (hs : x + 116 ≤ q_sz σ) (fr : ∀ a, q_sz σ ≤ a → q_tag σ a = 0) (g : ∀ a, a < q_sz σ → q_tag σ' a = q_tag σ a ∧ q_len σ' a = q_len σ a ∧ ∀ k, q_ref σ' a k = q_ref σ a k) : k_X σ' x A B := by
  have hAB := xAB X
  have t4 : ∀ a, q_tag σ a = 4 → q_tag σ' a = 4 := fun a ha => by
    rcases Nat.lt_or_ge a (q_sz σ) with q | q
    · exact (g a q).1.trans ha
    · rw [fr a q] at ha; exact absurd ha (by decide)
  have sh : ∀ a, a + 11 < x + 88 → k_sh σ a → k_sh σ' a := fun a ha S => ⟨(g a (by omega)).1.trans S.1, fun k hk => ((g a (by omega)).2.2 k).trans (S.2.1 k hk), (g _ (by omega)).1.trans S.2.2.1, (g _ (by omega)).2.1.trans S.2.2.2.1, fun k hk => ⟨(g _ (by omega)).1.trans (S.2.2.2.2.1 k hk).1, (g _ (by omega)).2.1.trans (S.2.2.2.2.1 k hk).2⟩, (g _ (by omega)).1.trans S.2.2.2.2.2.1, fun s hs => by
    rw [(g _ (by omega)).2.2 s]
    exact (S.2.2.2.2.2.2 s hs).imp id (t4 _)⟩
  have lf : ∀ a, a + 1 < x + 88 → k_lf σ a → k_lf σ' a := fun a ha S => ⟨(g a (by omega)).1.trans S.1, ((g a (by omega)).2.2 0).trans S.2.1, (g _ (by omega)).1.trans S.2.2.1, (g _ (by omega)).2.1.trans S.2.2.2.1, by rw [(g a (by omega)).2.2 2]; exact t4 _ S.2.2.2.2⟩
  obtain ⟨i0, i1, i2, i3, i4, i5, i6, i7, i8, i9, i10, i11, i12, i13, i14, i15, i16, i17⟩ := X
  refine ⟨(g _ (by omega)).1.trans i0, i1, ((g _ (by omega)).2.2 _).trans i2, ((g _ (by omega)).2.2 _).trans i3, fun p hp => ((g _ (by omega)).2.2 _).trans (i4 p hp), sh _ (by omega) i5, sh _ (by omega) i6, sh _ (by omega) i7, ⟨(g _ (by omega)).1.trans i8.1, fun k hk => ((g _ (by omega)).2.2 _).trans (i8.2.1 k hk), fun k hk => ⟨(g _ (by omega)).1.trans (i8.2.2.1 k hk).1, (g _ (by omega)).2.1.trans (i8.2.2.1 k hk).2⟩, fun k hk => ⟨(g _ (by omega)).1.trans (i8.2.2.2 k hk).1, (g _ (by omega)).2.1.trans (i8.2.2.2 k hk).2⟩⟩, fun d hd => ⟨((g _ (by omega)).2.2 _).trans (i9 d hd).1, lf _ (by omega) (i9 d hd).2⟩, lf _ (by omega) i10, ⟨(g _ (by omega)).1.trans i11.1, (g _ (by omega)).2.1.trans i11.2⟩, ⟨(g _ (by omega)).1.trans i12.1, (g _ (by omega)).2.1.trans i12.2⟩, fun k hk => ⟨((g _ (by omega)).2.2 _).trans (i13 k hk).1, (g _ (by omega)).1.trans (i13 k hk).2⟩, (g _ (by omega)).1.trans i14, ⟨(g _ (by omega)).1.trans i15.1, (g _ (by omega)).2.1.trans i15.2⟩, ⟨(g _ (by omega)).1.trans i16.1, (g _ (by omega)).2.1.trans i16.2⟩, ⟨(g _ (by omega)).1.trans i17.1, (g _ (by omega)).2.1.trans i17.2⟩⟩
theorem X_hang {σ : q_St} {x A B d a : Nat} (X : k_X σ x A B) (hd : d < 8) (ha : q_tag σ a = 4) : k_X (q_sr σ (x + 56 + 3 * d) 2 a) x A B := by
  have hAB := xAB X
  have r : ∀ b k, b ≠ x + 56 + 3 * d → q_ref (q_sr σ (x + 56 + 3 * d) 2 a) b k = q_ref σ b k := fun b k hb => k_sr_n hb
  have sh : ∀ b, b + 1 < x + 56 → k_sh σ b → k_sh (q_sr σ (x + 56 + 3 * d) 2 a) b := fun b hb S => ⟨S.1, fun k hk => (r b k (by omega)).trans (S.2.1 k hk), S.2.2.1, S.2.2.2.1, S.2.2.2.2.1, S.2.2.2.2.2.1, fun s hs => by rw [r _ _ (by omega)]; exact S.2.2.2.2.2.2 s hs⟩
  have lf : ∀ b, k_lf σ b → k_lf (q_sr σ (x + 56 + 3 * d) 2 a) b := fun b S => by
    by_cases e : b = x + 56 + 3 * d
    · subst e
      exact ⟨S.1, (k_sr_j (by decide)).trans S.2.1, S.2.2.1, S.2.2.2.1, by rw [k_sr_s]; exact ha⟩
    · exact ⟨S.1, (r b 0 e).trans S.2.1, S.2.2.1, S.2.2.2.1, by rw [r b 2 e]; exact S.2.2.2.2⟩
  obtain ⟨i0, i1, i2, i3, i4, i5, i6, i7, i8, i9, i10, i11, i12, i13, i14, i15, i16, i17⟩ := X
  exact ⟨i0, i1, (r _ _ (by omega)).trans i2, (r _ _ (by omega)).trans i3, fun p hp => (r _ _ (by omega)).trans (i4 p hp), sh _ (by omega) i5, sh _ (by omega) i6, sh _ (by omega) i7, ⟨i8.1, fun k hk => (r _ _ (by omega)).trans (i8.2.1 k hk), i8.2.2.1, i8.2.2.2⟩, fun e he => ⟨(r _ _ (by omega)).trans (i9 e he).1, lf _ (i9 e he).2⟩, lf _ i10, i11, i12, fun k hk => ⟨(r _ _ (by omega)).trans (i13 k hk).1, (i13 k hk).2⟩, i14, i15, i16, i17⟩
def p_keep (y : k_Z) (v w k f : Int32) : Int32 × k_Z :=
  if k_is v 8 && k_is w 2 then
    if w = 0 then (0, k_zu y 0 v.toNatClampNeg 0)
    else if k_is k 8 && k_is f 10 then (0, k_yK y v.toNatClampNeg k.toNatClampNeg f.toNatClampNeg) else (-1, y)
  else (-1, y)
theorem vy_keep {y : k_Z} (vy : k_vy y) (v w k f : Int32) : k_vy (p_keep y v w k f).2 := by
  unfold p_keep
  split
  · split
    · intro d hd
      simp only [k_zu]
      have := vy d hd
      by_cases e : d = v.toNatClampNeg
      · simp [e]
      · simp [e]; exact this
    · split
      · next h1 h2 h3 =>
        simp only [Bool.and_eq_true] at h3
        obtain ⟨i, hi, rfl⟩ := k_is_t (by decide) h3.1
        obtain ⟨j, hj, rfl⟩ := k_is_t (by decide) h3.2
        rw [k_cl (by omega), k_cl (by omega)]
        intro d hd
        simp only [k_yK, k_zu]
        have := vy d hd
        by_cases e : d = v.toNatClampNeg
        · simp [e]; omega
        · simp [e]; exact this
      · exact vy
  · exact vy
theorem c_keep {σ : q_St} {h : q_Hp} {x A B : Nat} {z zi y : k_Z} {p : Bool} {c : Nat → Nat → Int32} (I : k_CI σ h x A B z p zi y c) (E : k_etc σ x) (v w k f : Int32) : k_ok (fX4_keep σ h x v w k f) (fun r => r.1 = (p_keep y v w k f).1 ∧ k_CI r.2.1 r.2.2 x A B z p zi (p_keep y v w k f).2 c ∧ k_fc σ h x r.2.1 r.2.2) := by
  have hAB := xAB I.1
  unfold fX4_keep
  rw [c_isShelf, k_bs1, k_01i, c_in (n := 2) (by decide), k_bs1, k_01i]
  cases ev : k_is v 8 with
  | false => exact k_some ⟨by simp [p_keep, ev], by simpa [p_keep, ev] using I, fc_of E k_ag_rf⟩
  | true =>
  cases ew : k_is w 2 with
  | false => exact k_some ⟨by simp [p_keep, ew], by simpa [p_keep, ew] using I, fc_of E k_ag_rf⟩
  | true =>
  obtain ⟨d, hd, rfl⟩ := k_is_t (by decide) ev
  have L := xL I.1 d hd
  rw [if_pos rfl, if_pos rfl]
  by_cases w0 : w = 0
  · have e0 : p_keep y (nI d) w k f = (0, k_zu y 0 d 0) := by
      unfold p_keep
      rw [ev, ew, Bool.and_self, if_pos rfl, if_pos w0, k_cl (by omega)]
    rw [e0, if_pos w0, c_shelfAt I.1 hd, k_bs1, q_gu_t (lt0 L)]
    unfold fX1_clear
    rw [k_bs1]
    have g : k_ag (fun a => a ≠ x + 56 + 3 * d) h (q_si (q_si h (x + 56 + 3 * d) 1 0) (x + 56 + 3 * d) 4 0) := k_ag_si (k_ag_si k_ag_rf (fun q => q rfl)) (fun q => q rfl)
    refine k_some ⟨rfl, CI_sh I hd I.1 (k_ag_mono g (fun a ha => ha.1)) (fun _ h => h) (fun _ _ _ _ _ => rfl) (fun r i e => k_zu_n (fun q => e q.2)) (fun _ _ _ => rfl) ⟨?_, fun q => ?_, fun q => ?_⟩, fc_of E (k_ag_mono g (fun a ha e => by unfold k_mz at ha; omega))⟩
    · dsimp only
      rw [k_si_j (by decide), k_si_s, k_zu_s]; rfl
    · dsimp only at q
      rw [k_zu_s] at q; exact absurd q (by decide)
    · dsimp only at q
      rw [k_zu_s] at q; exact absurd q (by decide)
  · rw [if_neg w0, c_in (n := 8) (by decide), k_bs1, k_01i, c_in (n := 10) (by decide), k_bs1, k_01i]
    cases ek : k_is k 8 with
    | false =>
      have e0 : p_keep y (nI d) w k f = (-1, y) := by
        unfold p_keep
        rw [ev, ew, Bool.and_self, if_pos rfl, if_neg w0, ek]; rfl
      rw [e0]
      exact k_some ⟨rfl, I, fc_of E k_ag_rf⟩
    | true =>
    cases ef : k_is f 10 with
    | false =>
      have e0 : p_keep y (nI d) w k f = (-1, y) := by
        unfold p_keep
        rw [ev, ew, Bool.and_self, if_pos rfl, if_neg w0, ek, ef]; rfl
      rw [e0]
      exact k_some ⟨rfl, I, fc_of E k_ag_rf⟩
    | true =>
    obtain ⟨k, hk, rfl⟩ := k_is_t (by decide) ek
    obtain ⟨f, hf, rfl⟩ := k_is_t (by decide) ef
    have e0 : p_keep y (nI d) w (nI k) (nI f) = (0, k_yK y d k f) := by
      unfold p_keep
      rw [ev, ew, Bool.and_self, if_pos rfl, if_neg w0, ek, ef, k_cl (by omega), k_cl (by omega), k_cl (by omega)]; rfl
    rw [e0, if_pos rfl, if_pos rfl, c_shelfAt I.1 hd, k_bs1]
    have hs := E.2.1
    have fr := E.2.2.1
    have gσ : ∀ a, a < q_sz σ → q_tag (q_nw σ 4 0) a = q_tag σ a ∧ q_len (q_nw σ 4 0) a = q_len σ a ∧ ∀ k, q_ref (q_nw σ 4 0) a k = q_ref σ a k := fun a ha => ⟨va_up_ne _ _ (by unfold q_sz at ha; omega), va_up_ne _ _ (by unfold q_sz at ha; omega), fun k => by
      show va_up σ.2.2.2 σ.1 _ a k = _
      rw [va_up_ne _ _ (by unfold q_sz at ha; omega)]; rfl⟩
    have tn : q_tag (q_nw σ 4 0) (q_sz σ) = 4 := q_tnew _ _ _
    have X1 := X_gr I.1 hs fr gσ
    have gh : k_ag (fun a => a ≠ q_sz σ) h (q_nh h (q_sz σ)) := fun a ha => ⟨va_up_ne _ _ ha, va_up_ne _ _ ha⟩
    have sz1 : q_sz (q_nw σ 4 0) = q_sz σ + 1 := rfl
    have fr1 : ∀ a, q_sz σ + 1 ≤ a → q_tag (q_nw σ 4 0) a = 0 := fun a ha => (va_up_ne _ _ (by unfold q_sz at ha; omega)).trans (fr a (by omega))
    refine k_bind (c_init (h := q_nh h (q_sz σ)) tn (by omega) hk hf) (fun h6 p6 => ?_)
    generalize q_nw σ 4 0 = σ1 at gσ tn X1 sz1 fr1 p6 ⊢
    rw [q_gu_t (lt0 (xL X1 d hd))]
    unfold fX1_hang
    rw [k_b2s]
    have U := p6.1
    have g6 : k_ag (fun a => a ≠ q_sz σ) h h6 := k_ag_tr gh p6.2
    have ne : q_sz σ ≠ x + 56 + 3 * d := by omega
    have g : k_ag (fun a => a ≠ x + 56 + 3 * d ∧ a ≠ q_sz σ) h (q_si (q_si h6 (x + 56 + 3 * d) 1 1) (x + 56 + 3 * d) 4 0) := k_ag_si (k_ag_si (k_ag_mono g6 (fun a ha => ha.2)) (fun q => q.1 rfl)) (fun q => q.1 rfl)
    refine k_some ⟨rfl, CI_sh I hd (X_hang X1 hd tn) (k_ag_mono g (fun a ha => ⟨ha.1, fun e => ha.2.2 (by rw [e]; exact fr _ (Nat.le_refl _))⟩)) (fun a ha => ?_) (fun a j h1 h2 h3 => ?_) (fun r i e => ?_) (fun _ _ _ => rfl) ⟨?_, fun q => ?_, fun q => ?_⟩, ⟨k_ag_mono g (fun a ha => by unfold k_mz at ha; omega), fun a ha => ?_, ?_, fun a ha => ?_⟩⟩
    · show q_tag σ1 a = 4
      rcases Nat.lt_or_ge a (q_sz σ) with q | q
      · exact (gσ a q).1.trans ha
      · rw [fr a q] at ha; exact absurd ha (by decide)
    · rw [k_sr_n h3]; exact (gσ a (by omega)).2.2 j
    · dsimp only
      unfold k_yK
      rw [k_zu_n (fun q => e q.2), k_zu_n (fun q => e q.2), k_zu_n (fun q => e q.2)]
    · rw [k_si_j (by decide), k_si_s]; simp [k_yK, k_zu]; rfl
    · dsimp only
      rw [k_sr_s, show k_yK y d k f 1 d = k by simp [k_yK, k_zu], show k_yK y d k f 2 d = f by simp [k_yK, k_zu]]
      exact su_mv U rfl (fun i => by rw [k_si_n ne, k_si_n ne])
    · simp [k_yK, k_zu] at q
    · unfold k_mz at ha
      refine ⟨(gσ a (by omega)).1, (gσ a (by omega)).2.1, fun j => ?_⟩
      show q_ref (q_sr σ1 (x + 56 + 3 * d) 2 (q_sz σ)) a j = _
      rw [k_sr_n (by omega)]; exact (gσ a (by omega)).2.2 j
    · show x + 116 ≤ q_sz σ1
      omega
    · show q_tag σ1 a = 0
      exact fr1 a (by have : q_sz σ1 ≤ a := ha
                      omega)
theorem m_keep {σ : q_St} {h : q_Hp} {m : Nat} {z zi y : k_Z} {p : Bool} {c : Nat → Nat → Int32} (I : k_MI σ h m z p zi y c) (v w k f : Int32) : k_ok (fX5_keep σ h m v w k f) (fun r => r.1 = (p_keep y v w k f).1 ∧ k_MI σ r.2 m z p zi (p_keep y v w k f).2 c ∧ k_fm σ h m σ r.2) := by
  have M := I.1
  unfold fX5_keep
  have A1 : k_mf [21] [12, 13, 14] m h (q_si h m 21 0) := mf_th (by decide)
  have I1 : k_MI σ (q_si h m 21 0) m z p zi y c := MI_mf I (mf_fi (L := [21]) (R := []) mf_rf (by decide)) (by decide) (fun _ _ _ => by simp) (by decide)
  generalize q_si h m 21 0 = h1 at A1 I1 ⊢
  rw [mr15 M, mr16 M, mr17 M, q_gu_t ⟨mt12 M, mt13 M, mt14 M⟩, m_inn (n := 8) (by decide), k_bs1, k_01i, m_inn (n := 2) (by decide), k_bs1, k_01i]
  have fm1 : k_fm σ h m σ h1 := ⟨⟨_, _, A1⟩, Or.inl rfl⟩
  cases ev : k_is v 8 with
  | false => exact k_some ⟨by simp [p_keep, ev], by simpa [p_keep, ev] using I1, fm1⟩
  | true =>
  cases ew : k_is w 2 with
  | false => exact k_some ⟨by simp [p_keep, ew], by simpa [p_keep, ew] using I1, fm1⟩
  | true =>
  obtain ⟨d, hd, rfl⟩ := k_is_t (by decide) ev
  obtain ⟨w, hw, rfl⟩ := k_is_t (by decide) ew
  rw [if_pos rfl, if_pos rfl]
  -- the three rows written
  have key : ∀ (k f : Nat), (if nI w = 1 then fX5_keep_81 σ (q_si h1 (m + 12) d (nI w)) m (nI d) (nI w) (nI k) (nI f) (nI k) (nI d) (m + 13) else fX5_keep_81 σ (q_si h1 (m + 12) d (nI w)) m (nI d) (nI w) (nI k) (nI f) 0 (nI d) (m + 13)) = some (0, q_si (q_si (q_si h1 (m + 12) d (nI w)) (m + 13) d (if w = 1 then nI k else 0)) (m + 14) d (if w = 1 then nI f else 0)) := by
    intro k f
    unfold fX5_keep_81 fX5_keep_98
    rw [mr17 M]
    simp only [mt13 M, mt14 M, ml13 M, ml14 M, k_vi hd (show 8 < 2147483648 by decide), and_self, k_guT, k_cl (show d < 2147483648 by omega), k_eqL (show (1 : Int32) = nI 1 from rfl) (show w < 2147483648 by omega) (show 1 < 2147483648 by decide)]
    by_cases e : w = 1
    · simp only [if_pos e]
    · simp only [if_neg e]
  have fin : ∀ (u1 u2 : Int32) (y' : k_Z), (∀ r i, i ≠ d → y' r i = y r i) → y' 0 d = w → (w = 1 → u1 = nI (y' 1 d) ∧ u2 = nI (y' 2 d)) → k_MI σ (q_si (q_si (q_si h1 (m + 12) d (nI w)) (m + 13) d u1) (m + 14) d u2) m z p zi y' c ∧ k_fm σ h m σ (q_si (q_si (q_si h1 (m + 12) d (nI w)) (m + 13) d u1) (m + 14) d u2) := by
    intro u1 u2 y' h1' h2' h3'
    have A : k_mf [21] [12, 13, 14] m h1 (q_si (q_si (q_si h1 (m + 12) d (nI w)) (m + 13) d u1) (m + 14) d u2) := mf_ar (mf_ar (mf_ar mf_rf (by decide) (by decide)) (by decide) (by decide)) (by decide) (by decide)
    refine ⟨MI_sh (d := d) I1 A (by decide) (fun r _ _ => by simp; omega) (by decide) h1' (fun _ _ _ => rfl) (fun i _ hi => ⟨fun r h1 h2 => ?_, fun k _ => rfl⟩) ⟨?_, fun q => ?_, fun q => ?_⟩, ⟨⟨_, _, mf_tr A1 A⟩, Or.inl rfl⟩⟩
    · by_cases e1 : r = 12
      · subst e1; rw [k_si_n (by omega), k_si_n (by omega), k_si_j hi]
      · by_cases e2 : r = 13
        · subst e2; rw [k_si_n (by omega), k_si_j hi, k_si_n (by omega)]
        · by_cases e3 : r = 14
          · subst e3; rw [k_si_j hi, k_si_n (by omega), k_si_n (by omega)]
          · rw [k_si_n (by omega), k_si_n (by omega), k_si_n (by omega)]
    · rw [k_si_n (by omega), k_si_n (by omega), k_si_s, h2']
    · have := h3' (by rw [← h2']; exact q)
      rw [k_si_n (by omega), k_si_s, k_si_s]; exact this
    · rw [h2'] at q; omega
  by_cases w0 : w = 0
  · subst w0
    have e0 : p_keep y (nI d) (nI 0) k f = (0, k_zu y 0 d 0) := by
      unfold p_keep
      rw [ev, ew, Bool.and_self, if_pos rfl, if_pos nI_0, k_cl (by omega)]
    rw [e0, if_neg (show ¬ nI 0 = 1 by decide)]
    unfold fX5_keep_59 fX5_keep_81 fX5_keep_98
    rw [mr15 M, mr16 M, mr17 M]
    simp only [mt13 M, mt14 M, ml12 M, ml13 M, ml14 M, k_vi hd (show 8 < 2147483648 by decide), and_self, k_guT, k_cl (show d < 2147483648 by omega), if_neg (show ¬ nI 0 = 1 by decide)]
    have := fin 0 0 (k_zu y 0 d 0) (fun r i e => k_zu_n (fun q => e q.2)) k_zu_s (fun q => absurd q (by decide))
    exact k_some ⟨rfl, this.1, this.2⟩
  · have w1 : w = 1 := by omega
    subst w1
    rw [if_pos (show nI 1 = 1 from rfl), m_inn (n := 8) (by decide), k_bs1, k_01i, m_inn (n := 10) (by decide), k_bs1, k_01i]
    cases ek : k_is k 8 with
    | false =>
      have e0 : p_keep y (nI d) (nI 1) k f = (-1, y) := by
        unfold p_keep
        rw [ev, ew, Bool.and_self, if_pos rfl, if_neg (by decide), ek]; rfl
      rw [e0]
      exact k_some ⟨rfl, I1, fm1⟩
    | true =>
    cases ef : k_is f 10 with
    | false =>
      have e0 : p_keep y (nI d) (nI 1) k f = (-1, y) := by
        unfold p_keep
        rw [ev, ew, Bool.and_self, if_pos rfl, if_neg (by decide), ek, ef]; rfl
      rw [e0]
      exact k_some ⟨rfl, I1, fm1⟩
    | true =>
    obtain ⟨k, hk, rfl⟩ := k_is_t (by decide) ek
    obtain ⟨f, hf, rfl⟩ := k_is_t (by decide) ef
    have e0 : p_keep y (nI d) (nI 1) (nI k) (nI f) = (0, k_yK y d k f) := by
      unfold p_keep
      rw [ev, ew, Bool.and_self, if_pos rfl, if_neg (by decide), ek, ef, k_cl (by omega), k_cl (by omega), k_cl (by omega)]; rfl
    rw [e0, if_pos rfl, if_pos rfl]
    unfold fX5_keep_59
    rw [mr15 M, mr16 M, ml12 M, q_gu_t (vp_in_nI hd (by decide)), k_cl (by omega), key k f]
    have := fin (nI k) (nI f) (k_yK y d k f) (fun r i e => by unfold k_yK; rw [k_zu_n (fun q => e q.2), k_zu_n (fun q => e q.2), k_zu_n (fun q => e q.2)]) (by simp [k_yK, k_zu]) (fun _ => ⟨by simp [k_yK, k_zu], by simp [k_yK, k_zu]⟩)
    exact k_some ⟨rfl, this.1, this.2⟩
