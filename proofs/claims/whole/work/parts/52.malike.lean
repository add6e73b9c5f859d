/-! alike of the model -/
def k_a23 (m : Nat) (h h' : q_Hp) : Prop := k_mf [21, 35] [23, 24, 25] m h h' ∧ (∀ j, ¬ (1 ≤ j ∧ j ≤ 3) → q_int h' (m + 23) j = q_int h (m + 23) j) ∧ ∀ j, q_lng h' (m + 23) j = q_lng h (m + 23) j
theorem a23_si {m j : Nat} {h h' : q_Hp} {v : Int32} (a : k_a23 m h h') (hj : 1 ≤ j ∧ j ≤ 3) : k_a23 m h (q_si h' (m + 23) j v) := ⟨mf_ar a.1 (by decide) (by decide), fun i hi => by
  rw [k_si_j (show i ≠ j from fun e => hi (by rw [e]; exact hj))]; exact a.2.1 i hi, fun i => by rw [k_si_l]; exact a.2.2 i⟩
theorem a23_tr {m : Nat} {h h1 h2 : q_Hp} (a : k_a23 m h h1) (b : k_mf [21, 35] [24, 25] m h1 h2) : k_a23 m h h2 := ⟨mf_tr a.1 (mf_mono b (by simp) (by simp)), fun j hj => by rw [mf_i b 23 (by decide) (by decide) (by decide)]; exact a.2.1 j hj, fun j => by rw [mf_l b 23 (by decide) (by decide) (by decide)]; exact a.2.2 j⟩
theorem a23_back {m : Nat} {h h' : q_Hp} (a : k_a23 m h h') (e : ∀ j, 1 ≤ j → j ≤ 3 → q_int h' (m + 23) j = q_int h (m + 23) j) : k_mf [21, 35] [24, 25] m h h' := ⟨a.1.1, a.1.2.1, fun b h1 h2 hb => by
  by_cases q : b = 23
  · subst q
    refine ⟨funext fun j => ?_, funext fun j => a.2.2 j⟩
    by_cases hj : 1 ≤ j ∧ j ≤ 3
    · exact e j hj.1 hj.2
    · exact a.2.1 j hj
  · exact a.1.2.2 b h1 h2 (by simp at hb ⊢; omega)⟩
theorem m_alike {σ : q_St} {h : q_Hp} {m : Nat} {z zi y : k_Z} {p : Bool} {c : Nat → Nat → Int32} (I : k_MI σ h m z p zi y c) (K : k_va z) : k_ok (fX5_alike σ h m) (fun r => r.1 = p_alike z ∧ k_mf [21, 35] [24, 25] m h r.2) := by
  have M := I.1
  have v1 : vp_in (1 : Int32) 4 := vp_in_nI (n := 1) (by decide) (by decide)
  have v2 : vp_in (2 : Int32) 4 := vp_in_nI (n := 2) (by decide) (by decide)
  have v3 : vp_in (3 : Int32) 4 := vp_in_nI (n := 3) (by decide) (by decide)
  have a0 : k_a23 m h (q_si h m 21 0) := ⟨mf_th (by decide), fun j _ => k_si_n (by omega), fun j => k_si_l⟩
  unfold fX5_alike
  rw [mr36 M, q_gu_t (mt23 M)]
  refine k_bind (k_for (n := 512) (P := fun o => o.1 = p_alike z ∧ k_a23 m h o.2) (fun i t => t.2.1 = nI i ∧ t.1 = nI (k_mx (fun t => k_va3 z (k_km t)) i) ∧ k_a23 m h t.2.2) (by rw [k_N]; omega) ⟨rfl, rfl, a0⟩ ?_) (fun o p => ?_)
  · rintro i ⟨x1, x2, h'⟩ hi ⟨e2, e1, ag⟩
    dsimp only at e2 e1 ag
    subst e2; subst e1
    show k_ok (fX5_alike_9 σ m (nI (k_mx (fun t => k_va3 z (k_km t)) i)) (nI i) h') _
    unfold fX5_alike_9
    rcases Nat.lt_or_ge i 512 with q | q
    · obtain ⟨d1, d2, d3⟩ := k_dgm i q
      rw [if_neg (k_geL (n := 512) (l := 512) rfl q (by decide)), mr36 M, ml23 M, q_gu_t ⟨v1, v2, v3⟩, d1, d2, d3, show (1 : Int32).toNatClampNeg = 1 by decide, show (2 : Int32).toNatClampNeg = 2 by decide, show (3 : Int32).toNatClampNeg = 3 by decide]
      have ag2 := a23_si (v := nI (i % 8)) (j := 3) (a23_si (v := nI (i / 8 % 8)) (j := 2) (a23_si (v := nI (i / 64)) (j := 1) ag (by decide)) (by decide)) (by decide)
      have W' := W_mf I.2.1 ag2.1 ⟨by decide, by decide, by decide, by decide⟩ (fun r h1 h2 q => by simp at q; omega)
      have D := m_D (U := 0) (V := 0) (kf := k_kf (k_km i)) M W' (vb_va K) (fun g hg => by
        rcases (show g = 0 ∨ g = 1 ∨ g = 2 ∨ g = 3 by omega) with rfl | rfl | rfl | rfl
        · rw [ag2.2.1 0 (by omega)]; exact I.2.2.2.2.2.1 0 (by decide)
        · rw [k_si_j (by decide), k_si_j (by decide), k_si_s]
          show nI (i / 64) = nI (i / 64 % 8)
          rw [Nat.mod_eq_of_lt (by omega)]
        · rw [k_si_j (by decide), k_si_s]; rfl
        · rw [k_si_s]; rfl) (by rw [ag2.1.2.1 37 (by decide)]; exact I.2.2.2.2.2.2.1) (by decide) (by rw [ag2.1.2.1 38 (by decide)]; exact I.2.2.2.2.2.2.2) (by decide)
      refine k_b2 (m_servedNow M D) (fun r h4 p => ?_)
      obtain ⟨p1, -, a4⟩ := p
      dsimp only at p1 a4
      have p1' : r = nI (k_va3 z (k_km i)) := p1
      subst p1'
      have vB := k_va3B K (k_km i)
      have mB : k_mx (fun t => k_va3 z (k_km t)) i ≤ 7 := by
        rcases k_mx_or (fun t => k_va3 z (k_km t)) i with e | ⟨j, hj, e⟩
        · omega
        · rw [e]; exact k_va3B K _
      rw [m_greater (by omega) (by omega), k_bs1, nI_1]
      exact k_some ⟨q, rfl, rfl, a23_tr ag2 (mf_mono a4 (by simp) (by simp))⟩
    · have : i = 512 := by omega
      subst this
      rw [if_pos (k_leL (n := 512) (l := 512) rfl (Nat.le_refl _) (by decide))]
      exact k_some ⟨rfl, ag⟩
  · obtain ⟨o1, o2⟩ := o
    obtain ⟨e, ag⟩ := p
    dsimp only at e ag
    subst e
    refine k_bind (k_for (n := 3) (P := fun h' => k_a23 m h h' ∧ ∀ j, 1 ≤ j → j ≤ 3 → q_int h' (m + 23) j = -1) (fun i t => t.1 = nI (i + 1) ∧ k_a23 m h t.2 ∧ ∀ j, 1 ≤ j → j ≤ i → q_int t.2 (m + 23) j = -1) (by rw [k_N]; omega) ⟨rfl, ag, fun j h1 h2 => by omega⟩ ?_) (fun h2 p => ?_)
    · rintro i ⟨x2, h'⟩ hi ⟨e2, a2, hj⟩
      dsimp only at e2 a2 hj
      subst e2
      show k_ok (fX5_alike_66 σ m (p_alike z) (nI (i + 1)) h') _
      unfold fX5_alike_66
      rcases Nat.lt_or_ge i 3 with q | q
      · rw [if_neg (k_geL (n := 4) (l := 4) rfl (by omega) (by decide)), mr36 M, ml23 M, q_gu_t (vp_in_nI (by omega) (by decide)), k_cl (by omega), nI_1]
        refine k_some ⟨q, rfl, a23_si a2 ⟨by omega, by omega⟩, fun j h1 h2 => ?_⟩
        dsimp only
        by_cases e : j = i + 1
        · subst e; rw [k_si_s]
        · rw [k_si_j e]; exact hj j h1 (by omega)
      · have : i = 3 := by omega
        subst this
        rw [if_pos (k_leL (n := 4) (l := 4) rfl (Nat.le_refl _) (by decide))]
        exact k_some ⟨a2, hj⟩
    · exact k_some ⟨rfl, a23_back p.1 (fun j h1 h2 => by rw [p.2 j h1 h2]; exact (I.2.2.2.2.2.1 j (by omega)).symm)⟩
