/-! the model reads a statement, a text -/
theorem m_numbers {σ : q_St} {h : q_Hp} {m d n P k5 : Nat} {t : Nat → Int32} {v : Int32} (M : k_M σ m) (U : t_U h m d t n) (J : t_J h m t n P 0) (hP : P ≤ 10000) (hk : k5 + 5 ≤ 255) (hv : t_dg v ≠ 0) : k_ok (fX5_readNumbers σ h m v (nI k5)) (fun h' => t_J h' m t n P (t_dg v) ∧ k_mf [23, 24] [20] m h h' ∧ (t_F t n P (t_dg v) = t_dg v → ∀ j, j < t_ct v → q_int h' (m + 20) (k5 + j) = nI (t_to t n v P j)) ∧ ∀ j, j < k5 → q_int h' (m + 20) j = q_int h (m + 20) j) := by
  unfold fX5_readNumbers
  rw [q_gu_t (by rw [mr28 M]; exact mt20 M)]
  by_cases v98 : v = 98
  · rw [if_pos v98]
    have ed : t_dg v = 6 := by rw [v98]; decide
    have ec : t_ct v = 5 := by rw [v98]; decide
    rw [ed, ec]
    refine k_b2 (m_tell M U J (w := 2) (i := k5) (by omega) (by omega) rfl) (fun r1 h1 p => ?_)
    obtain ⟨g1, e1, J1, a1, v1, o1⟩ := p
    dsimp only at g1 e1 J1 a1 v1 o1
    rw [q_gu_t g1, e1]
    generalize q_si h1 (m + 20) k5 r1 = h2 at J1 a1 v1 o1 ⊢
    refine k_bind (k_for (n := 4) (P := fun h' => t_J h' m t n P 6 ∧ k_mf [23, 24] [20] m h h' ∧ (t_F t n P 6 = 6 → ∀ j, j < 5 → q_int h' (m + 20) (k5 + j) = nI (t_to t n v P j)) ∧ ∀ j, j < k5 → q_int h' (m + 20) j = q_int h (m + 20) j) (fun i s => s.1 = nI (i + 1) ∧ t_J s.2 m t n P (2 + i) ∧ k_mf [23, 24] [20] m h s.2 ∧ (t_F t n P (2 + i) = 2 + i → ∀ j, j < i + 1 → q_int s.2 (m + 20) (k5 + j) = nI (t_to t n v P j)) ∧ ∀ j, j < k5 → q_int s.2 (m + 20) j = q_int h (m + 20) j) (by rw [k_N]; omega) ⟨rfl, J1, a1, fun f j hj => ?_, fun j hj => o1 j (by omega)⟩ ?_) (fun r pr => k_some pr)
    · have : j = 0 := by omega
      subst this
      rw [Nat.add_zero k5]
      show q_int h2 (m + 20) k5 = _
      rw [v1 (by rw [Nat.zero_add]; exact f)]
      unfold t_to
      rw [if_pos v98, if_pos rfl]; rfl
    · rintro i ⟨x3, h3⟩ hi ⟨e3, J3, a3, v3, o3⟩
      dsimp only at e3 J3 a3 v3 o3
      subst e3
      show k_ok (fX5_readNumbers_102 σ m v (nI k5) (nI (i + 1)) h3) _
      unfold fX5_readNumbers_102
      rcases Nat.lt_or_ge i 4 with q | q
      · rw [if_neg (k_geL (n := 5) (l := 5) rfl (by omega) (by decide)), nI_add]
        have U3 := U_mf U a3 (by decide) (by decide)
        refine k_b2 (m_tell M U3 J3 (w := 1) (i := k5 + (i + 1)) (by omega) (by omega) rfl) (fun r4 h4 p => ?_)
        obtain ⟨g4, e4, J4, a4, v4, o4⟩ := p
        dsimp only at g4 e4 J4 a4 v4 o4
        rw [q_gu_t g4, e4]
        generalize q_si h4 (m + 20) (k5 + (i + 1)) r4 = h5 at J4 a4 v4 o4 ⊢
        refine k_some ⟨q, nI_1 _, J4, mf_tr a3 a4, fun f j hj => ?_, fun j hj => by rw [o4 j (by omega)]; exact o3 j hj⟩
        dsimp only
        by_cases e : j = i + 1
        · subst e
          rw [v4 (by rw [Nat.add_assoc]; exact f)]
          unfold t_to
          rw [if_pos v98, if_neg (by omega), show P + 1 + (i + 1) = P + (2 + i) by omega]
        · rw [o4 _ (by omega)]
          exact v3 (t_goodF (w := 1) (by rw [Nat.add_assoc]; exact f)) j (by omega)
      · have : i = 4 := by omega
        subst this
        rw [if_pos (k_leL (n := 5) (l := 5) rfl (by decide) (by decide))]
        exact k_some ⟨J3, a3, v3, o3⟩
  rw [if_neg v98]
  by_cases v104 : v = 104
  · rw [if_pos v104]
    have ed : t_dg v = 2 := by rw [v104]; decide
    have ec : t_ct v = 2 := by rw [v104]; decide
    rw [ed, ec]
    refine k_b2 (m_tell M U J (w := 1) (i := k5) (by omega) (by omega) rfl) (fun r1 h1 p => ?_)
    obtain ⟨g1, e1, J1, a1, v1, o1⟩ := p
    dsimp only at g1 e1 J1 a1 v1 o1
    rw [q_gu_t g1, e1, nI_1]
    generalize q_si h1 (m + 20) k5 r1 = h2 at J1 a1 v1 o1 ⊢
    have U2 := U_mf U a1 (by decide) (by decide)
    refine k_b2 (m_tell M U2 J1 (w := 1) (i := k5 + 1) (by omega) (by omega) rfl) (fun r3 h3 p => ?_)
    obtain ⟨g3, e3, J3, a3, v3, o3⟩ := p
    dsimp only at g3 e3 J3 a3 v3 o3
    rw [q_gu_t g3, e3]
    generalize q_si h3 (m + 20) (k5 + 1) r3 = h4 at J3 a3 v3 o3 ⊢
    refine k_some ⟨J3, mf_tr a1 a3, fun f j hj => ?_, fun j hj => by rw [o3 j (by omega)]; exact o1 j (by omega)⟩
    unfold t_to
    rw [if_neg v98, if_pos v104]
    rcases (show j = 0 ∨ j = 1 by omega) with rfl | rfl
    · rw [Nat.add_zero k5, o3 _ (by omega), v1 (t_goodF (s := 1) (w := 1) f)]
    · rw [v3 f]
  rw [if_neg v104]
  by_cases v115 : v = 115
  · rw [if_pos v115]
    have ed : t_dg v = 6 := by rw [v115]; decide
    have ec : t_ct v = 4 := by rw [v115]; decide
    rw [ed, ec]
    refine k_b2 (m_tell M U J (w := 1) (i := k5) (by omega) (by omega) rfl) (fun r1 h1 p => ?_)
    obtain ⟨g1, e1, J1, a1, v1, o1⟩ := p
    dsimp only at g1 e1 J1 a1 v1 o1
    rw [q_gu_t g1, e1, nI_1, show nI k5 + (2 : Int32) = nI (k5 + 2) from nI_add k5 2, show nI k5 + (3 : Int32) = nI (k5 + 3) from nI_add k5 3]
    generalize q_si h1 (m + 20) k5 r1 = h2 at J1 a1 v1 o1 ⊢
    have U2 := U_mf U a1 (by decide) (by decide)
    refine k_b2 (m_tell M U2 J1 (w := 1) (i := k5 + 1) (by omega) (by omega) rfl) (fun r3 h3 p => ?_)
    obtain ⟨g3, e3, J3, a3, v3, o3⟩ := p
    dsimp only at g3 e3 J3 a3 v3 o3
    rw [q_gu_t g3, e3]
    generalize q_si h3 (m + 20) (k5 + 1) r3 = h4 at J3 a3 v3 o3 ⊢
    have A4 := mf_tr a1 a3
    have U4 := U_mf U A4 (by decide) (by decide)
    refine k_b2 (m_tell M U4 J3 (w := 2) (i := k5 + 2) (by omega) (by omega) rfl) (fun r5 h5 p => ?_)
    obtain ⟨g5, e5, J5, a5, v5, o5⟩ := p
    dsimp only at g5 e5 J5 a5 v5 o5
    rw [q_gu_t g5, e5]
    generalize q_si h5 (m + 20) (k5 + 2) r5 = h6 at J5 a5 v5 o5 ⊢
    have A6 := mf_tr A4 a5
    have U6 := U_mf U A6 (by decide) (by decide)
    refine k_b2 (m_tell M U6 J5 (w := 2) (i := k5 + 3) (by omega) (by omega) rfl) (fun r7 h7 p => ?_)
    obtain ⟨g7, e7, J7, a7, v7, o7⟩ := p
    dsimp only at g7 e7 J7 a7 v7 o7
    rw [q_gu_t g7, e7]
    generalize q_si h7 (m + 20) (k5 + 3) r7 = h8 at J7 a7 v7 o7 ⊢
    refine k_some ⟨J7, mf_tr A6 a7, fun f j hj => ?_, fun j hj => by rw [o7 j (by omega), o5 j (by omega), o3 j (by omega)]; exact o1 j (by omega)⟩
    have f4 : t_F t n P 4 = 4 := t_goodF (s := 4) (w := 2) f
    have f2 : t_F t n P 2 = 2 := t_goodF (s := 2) (w := 2) f4
    have f1 : t_F t n P 1 = 1 := t_goodF (s := 1) (w := 1) f2
    unfold t_to
    rw [if_neg v98, if_neg v104, if_pos v115]
    rcases (show j = 0 ∨ j = 1 ∨ j = 2 ∨ j = 3 by omega) with rfl | rfl | rfl | rfl
    · rw [Nat.add_zero k5, o7 _ (by omega), o5 _ (by omega), o3 _ (by omega), v1 f1]; rfl
    · rw [o7 _ (by omega), o5 _ (by omega), v3 f2]; rfl
    · rw [o7 _ (by omega), v5 f4]; rfl
    · rw [v7 f]; rfl
  rw [if_neg v115]
  have ed : t_dg v = 1 := by
    unfold t_dg at hv ⊢
    simp only [if_neg v98, if_neg v104, if_neg v115] at hv ⊢
    by_cases v99 : v = 99
    · rw [if_pos v99]
    · rw [if_neg v99] at hv ⊢
      by_cases v114 : v = 114
      · rw [if_pos v114]
      · rw [if_neg v114] at hv; exact absurd rfl hv
  have ec : t_ct v = 1 := by
    unfold t_ct
    rw [if_neg v98, if_neg v104, if_neg v115]
  rw [ed, ec]
  refine k_b2 (m_tell M U J (w := 1) (i := k5) (by omega) (by omega) rfl) (fun r1 h1 p => ?_)
  obtain ⟨g1, e1, J1, a1, v1, o1⟩ := p
  dsimp only at g1 e1 J1 a1 v1 o1
  rw [q_gu_t g1, e1]
  generalize q_si h1 (m + 20) k5 r1 = h2 at J1 a1 v1 o1 ⊢
  refine k_some ⟨J1, a1, fun f j hj => ?_, fun j hj => o1 j (by omega)⟩
  have : j = 0 := by omega
  subst this
  unfold t_to
  rw [if_neg v98, if_neg v104, if_neg v115, Nat.add_zero k5, v1 f]; rfl
/-- what a statement leaves -/
def t_S (h0 h' : q_Hp) (m : Nat) (t : Nat → Int32) (n k p : Nat) : Prop := q_int h' m 23 = nI (if t_g t n p then t_e t n p + 1 else t_e t n p) ∧ q_int h' m 24 = (if t_g t n p then 0 else 1) ∧ q_int h' m 25 = nI (k + 1) ∧ k_mf [23, 24, 25] [18, 19, 20] m h0 h' ∧ (∀ j, j < k → q_int h' (m + 18) j = q_int h0 (m + 18) j ∧ q_int h' (m + 19) j = q_int h0 (m + 19) j) ∧ (∀ j, j < 5 * k → q_int h' (m + 20) j = q_int h0 (m + 20) j) ∧ q_int h' (m + 18) k = nI p ∧ q_int h' (m + 19) k = t_h t n p ∧ (t_g t n p = true → ∀ j, j < t_ct (t_b t n p) → q_int h' (m + 20) (5 * k + j) = nI (t_to t n (t_b t n p) (p + 1) j))
theorem m_st131 {σ : q_St} {h : q_Hp} {m k : Nat} (M : k_M σ m) (g : Bool) {a : Nat} (e23 : q_int h m 23 = nI a) (e25 : q_int h m 25 = nI k) : k_ok (fX5_readStatement_131 σ h m (if g then 0 else 1) m) (fun h' => q_int h' m 23 = nI (if g then a + 1 else a) ∧ q_int h' m 24 = (if g then 0 else 1) ∧ q_int h' m 25 = nI (k + 1) ∧ k_mf [23, 24, 25] [] m h h') := by
  unfold fX5_readStatement_131 fX5_readStatement_151
  have a1 : k_mf [23, 24, 25] [] m h (q_si h m 24 (if g then 0 else 1)) := mf_fi mf_rf (by decide)
  have f24 : q_int (q_si h m 24 (if g then (0 : Int32) else 1)) m 24 = if g then 0 else 1 := k_si_s
  have f23 : q_int (q_si h m 24 (if g then (0 : Int32) else 1)) m 23 = nI a := by rw [k_si_j (by decide)]; exact e23
  have f25 : q_int (q_si h m 24 (if g then (0 : Int32) else 1)) m 25 = nI k := by rw [k_si_j (by decide)]; exact e25
  rw [q_gu_t ⟨mt0 M, by cases g <;> decide⟩]
  generalize q_si h m 24 (if g then (0 : Int32) else 1) = h1 at a1 f24 f23 f25 ⊢
  have fin : ∀ (w : Nat), k_ok (q_gu (q_tag σ m = 6) (some (q_si (q_si h1 m 23 (q_int h1 m 23 + nI w)) m 25 (q_int (q_si h1 m 23 (q_int h1 m 23 + nI w)) m 25 + 1)))) (fun h' => q_int h' m 23 = nI (a + w) ∧ q_int h' m 24 = (if g then 0 else 1) ∧ q_int h' m 25 = nI (k + 1) ∧ k_mf [23, 24, 25] [] m h h') := fun w => by
    rw [q_gu_t (mt0 M), f23, nI_add]
    refine k_some ⟨?_, ?_, ?_, mf_fi (mf_fi a1 (by decide)) (by decide)⟩
    · rw [k_si_j (by decide), k_si_s]
    · rw [k_si_j (by decide), k_si_j (by decide)]; exact f24
    · rw [k_si_s, k_si_j (by decide), f25, nI_1]
  rw [f24]
  cases g with
  | true => rw [if_pos (show (if true = true then (0 : Int32) else 1) = 0 from rfl)]; exact fin 1
  | false => rw [if_neg (show ¬ (if false = true then (0 : Int32) else 1) = 0 by decide)]; exact fin 0
theorem m_stmt {σ : q_St} {h : q_Hp} {m d n p k : Nat} {t : Nat → Int32} (M : k_M σ m) (U : t_U h m d t n) (e23 : q_int h m 23 = nI p) (e24 : q_int h m 24 = 0) (e25 : q_int h m 25 = nI k) (hk : k ≤ 50) (hp : p ≤ 1000) : k_ok (fX5_readStatement σ h m) (fun h' => t_S h h' m t n k p) := by
  unfold fX5_readStatement
  rw [mr26 M, mr27 M, q_gu_t ⟨mt18 M, mt19 M⟩, m_here M U (by omega) e23, k_bs1, e25, ml18 M, ml19 M, q_gu_t ⟨vp_in_nI (by omega) (by decide), vp_in_nI (by omega) (by decide)⟩, k_cl (by omega)]
  have a1 : k_mf [23, 24, 25] [18, 19, 20] m h (q_si (q_si h (m + 18) k (q_int h m 23)) (m + 19) k (t_h t n p)) := mf_ar (mf_ar mf_rf (by decide) (by decide)) (by decide) (by decide)
  have f23 : q_int (q_si (q_si h (m + 18) k (q_int h m 23)) (m + 19) k (t_h t n p)) m 23 = nI p := by rw [k_ma (by decide), k_ma (by decide)]; exact e23
  have f24 : q_int (q_si (q_si h (m + 18) k (q_int h m 23)) (m + 19) k (t_h t n p)) m 24 = 0 := by rw [k_ma (by decide), k_ma (by decide)]; exact e24
  have f25 : q_int (q_si (q_si h (m + 18) k (q_int h m 23)) (m + 19) k (t_h t n p)) m 25 = nI k := by rw [k_ma (by decide), k_ma (by decide)]; exact e25
  have g18 : q_int (q_si (q_si h (m + 18) k (q_int h m 23)) (m + 19) k (t_h t n p)) (m + 18) k = nI p := by rw [k_si_n (by omega), k_si_s]; exact e23
  have g19 : q_int (q_si (q_si h (m + 18) k (q_int h m 23)) (m + 19) k (t_h t n p)) (m + 19) k = t_h t n p := k_si_s
  have o1 : ∀ j, j < k → q_int (q_si (q_si h (m + 18) k (q_int h m 23)) (m + 19) k (t_h t n p)) (m + 18) j = q_int h (m + 18) j ∧ q_int (q_si (q_si h (m + 18) k (q_int h m 23)) (m + 19) k (t_h t n p)) (m + 19) j = q_int h (m + 19) j := fun j hj => ⟨by rw [k_si_n (by omega), k_si_j (by omega)], by rw [k_si_j (by omega), k_si_n (by omega)]⟩
  have o2 : ∀ j, q_int (q_si (q_si h (m + 18) k (q_int h m 23)) (m + 19) k (t_h t n p)) (m + 20) j = q_int h (m + 20) j := fun j => by rw [k_si_n (by omega), k_si_n (by omega)]
  generalize q_si (q_si h (m + 18) k (q_int h m 23)) (m + 19) k (t_h t n p) = h1 at a1 f23 f24 f25 g18 g19 o1 o2 ⊢
  have U1 := U_mf U a1 (by decide) (by decide)
  have dg := t_hdg t n p
  -- no letter
  have no : t_D t n p = 0 → k_ok (fX5_readStatement_65 σ h1 m (nI k) (t_h t n p) m) (fun h' => t_S h h' m t n k p) := fun d0 => by
    unfold fX5_readStatement_65 fX5_readStatement_70 fX5_readStatement_90 fX5_readStatement_109 fX5_readStatement_126
    have b1 : k_mf [23, 24, 25] [18, 19, 20] m h (q_si h1 m 24 1) := mf_fi a1 (by decide)
    have b2 : k_mf [23, 24, 25] [] m h1 (q_si h1 m 24 1) := mf_fi mf_rf (by decide)
    have i24 : q_int (q_si h1 m 24 1) m 24 = 1 := k_si_s
    have i23 : q_int (q_si h1 m 24 1) m 23 = nI p := by rw [k_si_j (by decide)]; exact f23
    have i25 : q_int (q_si h1 m 24 1) m 25 = nI k := by rw [k_si_j (by decide)]; exact f25
    rw [q_gu_t ⟨mt0 M, Or.inr rfl⟩]
    generalize q_si h1 m 24 1 = h2 at b1 b2 i24 i23 i25 ⊢
    rw [i24, if_neg (by decide), q_gu_t (mt0 M), i23, show nI p + (0 : Int32) = nI p from nI_add p 0]
    have c1 : k_mf [23, 24, 25] [18, 19, 20] m h (q_si h2 m 23 (nI p)) := mf_fi b1 (by decide)
    have c2 : k_mf [23, 24, 25] [] m h1 (q_si h2 m 23 (nI p)) := mf_fi b2 (by decide)
    have j24 : q_int (q_si h2 m 23 (nI p)) m 24 = 1 := by rw [k_si_j (by decide)]; exact i24
    have j23 : q_int (q_si h2 m 23 (nI p)) m 23 = nI p := k_si_s
    have j25 : q_int (q_si h2 m 23 (nI p)) m 25 = nI k := by rw [k_si_j (by decide)]; exact i25
    generalize q_si h2 m 23 (nI p) = h3 at c1 c2 j24 j23 j25 ⊢
    rw [j24, if_neg (by decide), if_neg (by decide)]
    have g0 : t_g t n p = false := by
      unfold t_g
      rw [d0]; rfl
    have e0 : t_e t n p = p := if_pos d0
    refine k_mono (m_st131 M false j23 j25) (fun h4 p4 => ?_)
    obtain ⟨r23, r24, r25, r4⟩ := p4
    have r5 := mf_tr c2 r4
    refine ⟨by rw [g0, e0]; exact r23, by rw [g0]; exact r24, r25, mf_tr c1 (mf_mono r4 (by decide) (by decide)), fun j hj => ⟨?_, ?_⟩, fun j hj => ?_, ?_, ?_, fun q => by rw [g0] at q; cases q⟩
    · rw [mf_i r5 18 (by decide) (by decide) (by decide)]; exact (o1 j hj).1
    · rw [mf_i r5 19 (by decide) (by decide) (by decide)]; exact (o1 j hj).2
    · rw [mf_i r5 20 (by decide) (by decide) (by decide)]; exact o2 j
    · rw [mf_i r5 18 (by decide) (by decide) (by decide)]; exact g18
    · rw [mf_i r5 19 (by decide) (by decide) (by decide)]; exact g19
  have yes : t_D t n p ≠ 0 → k_ok (fX5_readStatement_69 σ h1 m (nI k) (t_h t n p) m) (fun h' => t_S h h' m t n k p) := fun d0 => by
    unfold fX5_readStatement_69 fX5_readStatement_70 fX5_readStatement_90
    have pn := t_Dn d0
    rw [t_hb pn] at g19 ⊢
    have b1 : k_mf [23, 24, 25] [18, 19, 20] m h (q_si h1 m 24 0) := mf_fi a1 (by decide)
    have b2 : k_mf [23, 24, 25] [] m h1 (q_si h1 m 24 0) := mf_fi mf_rf (by decide)
    have i24 : q_int (q_si h1 m 24 0) m 24 = 0 := k_si_s
    have i23 : q_int (q_si h1 m 24 0) m 23 = nI p := by rw [k_si_j (by decide)]; exact f23
    have i25 : q_int (q_si h1 m 24 0) m 25 = nI k := by rw [k_si_j (by decide)]; exact f25
    rw [q_gu_t ⟨mt0 M, Or.inl rfl⟩]
    generalize q_si h1 m 24 0 = h2 at b1 b2 i24 i23 i25 ⊢
    rw [i24, if_pos rfl, q_gu_t (mt0 M), i23, nI_1]
    have c1 : k_mf [23, 24, 25] [18, 19, 20] m h (q_si h2 m 23 (nI (p + 1))) := mf_fi b1 (by decide)
    have c2 : k_mf [23, 24, 25] [20] m h1 (q_si h2 m 23 (nI (p + 1))) := mf_mono (mf_fi b2 (by decide)) (by decide) (by decide)
    have c3 : k_mf [23, 24, 25] [] m h1 (q_si h2 m 23 (nI (p + 1))) := mf_fi b2 (by decide)
    have j24 : q_int (q_si h2 m 23 (nI (p + 1))) m 24 = 0 := by rw [k_si_j (by decide)]; exact i24
    have j23 : q_int (q_si h2 m 23 (nI (p + 1))) m 23 = nI (p + 1) := k_si_s
    have j25 : q_int (q_si h2 m 23 (nI (p + 1))) m 25 = nI k := by rw [k_si_j (by decide)]; exact i25
    generalize q_si h2 m 23 (nI (p + 1)) = h3 at c1 c2 c3 j24 j23 j25 ⊢
    have U3 := U_mf U c1 (by decide) (by decide)
    rw [j24, if_pos rfl, show (5 : Int32) * nI k = nI (5 * k) from pk_mul 5 k]
    refine k_bind (m_numbers M U3 (P := p + 1) ⟨j23, j24⟩ (by omega) (by omega) d0) (fun h4 p4 => ?_)
    obtain ⟨J4, a4, v4, o4⟩ := p4
    have DB := t_DB t n p
    have Fl := t_Fle t n (p + 1) (t_D t n p)
    have l25 : q_int h4 m 25 = nI k := by rw [a4.2.1 25 (by decide)]; exact j25
    have A4 : k_mf [23, 24, 25] [18, 19, 20] m h h4 := mf_tr c1 (mf_mono a4 (by decide) (by decide))
    have ee : t_e t n p = p + 1 + t_F t n (p + 1) (t_D t n p) := if_neg d0
    have fin : ∀ g : Bool, t_g t n p = g → k_ok (fX5_readStatement_131 σ h4 m (if g then 0 else 1) m) (fun h' => t_S h h' m t n k p) := fun g hg => by
      refine k_mono (m_st131 M g J4.1 l25) (fun h5 p5 => ?_)
      obtain ⟨r23, r24, r25, r4⟩ := p5
      have r5 : k_mf [23, 24, 25] [20] m h1 h5 := mf_tr c2 (mf_tr (mf_mono a4 (by decide) (by decide)) (mf_mono r4 (by decide) (by decide)))
      refine ⟨by rw [hg, ee]; exact r23, by rw [hg]; exact r24, r25, mf_tr A4 (mf_mono r4 (by decide) (by decide)), fun j hj => ⟨?_, ?_⟩, fun j hj => ?_, ?_, ?_, fun q j hj => ?_⟩
      · rw [mf_i r5 18 (by decide) (by decide) (by decide)]; exact (o1 j hj).1
      · rw [mf_i r5 19 (by decide) (by decide) (by decide)]; exact (o1 j hj).2
      · rw [mf_i r4 20 (by decide) (by decide) (by decide), o4 j hj, mf_i c3 20 (by decide) (by decide) (by decide)]; exact o2 j
      · rw [mf_i r5 18 (by decide) (by decide) (by decide)]; exact g18
      · rw [mf_i r5 19 (by decide) (by decide) (by decide), t_hb pn]; exact g19
      · rw [mf_i r4 20 (by decide) (by decide) (by decide)]
        exact v4 (t_gT q).2.1 j hj
    unfold fX5_readStatement_109
    by_cases fl : t_F t n (p + 1) (t_D t n p) < t_D t n p
    · have g0 : t_g t n p = false := by
        unfold t_g
        rw [beq_false_of_ne (a := t_F t n (p + 1) (t_D t n p)) (by omega), Bool.and_false, Bool.false_and]
      have l24 : q_int h4 m 24 = 1 := by
        have := J4.2
        rw [show t_dg (t_b t n p) = t_D t n p from rfl, if_pos fl] at this; exact this
      rw [l24, if_neg (by decide)]
      exact fin false g0
    · have fe : t_F t n (p + 1) (t_D t n p) = t_D t n p := by omega
      have l24 : q_int h4 m 24 = 0 := by
        have := J4.2
        rw [show t_dg (t_b t n p) = t_D t n p from rfl, if_neg fl] at this; exact this
      have l23 : q_int h4 m 23 = nI (p + 1 + t_D t n p) := by
        have := J4.1
        rw [show t_dg (t_b t n p) = t_D t n p from rfl, fe] at this; exact this
      have U4 := U_mf U A4 (by decide) (by decide)
      rw [l24, if_pos rfl, m_here M U4 (by omega) l23, k_bs1]
      simp only [t_h59]
      by_cases e59 : t_b t n (p + 1 + t_D t n p) = 59
      · rw [if_pos e59]
        exact fin true (by unfold t_g; rw [beq_false_of_ne d0, fe, e59]; simp)
      · rw [if_neg e59]
        exact fin false (by unfold t_g; rw [decide_eq_false e59, Bool.and_false])
  rw [f24, if_pos rfl]
  unfold t_dg at dg
  by_cases h5 : t_h t n p = 115
  · rw [if_pos h5]
    refine yes ?_
    rw [← dg, h5]; decide
  rw [if_neg h5]
  by_cases h1' : t_h t n p = 98
  · rw [if_pos h1']
    refine yes ?_
    rw [← dg, h1']; decide
  rw [if_neg h1']
  by_cases h3 : t_h t n p = 104
  · rw [if_pos h3]
    refine yes ?_
    rw [← dg, h3]; decide
  rw [if_neg h3]
  by_cases h4 : t_h t n p = 114
  · rw [if_pos h4]
    refine yes ?_
    rw [← dg, h4]; decide
  rw [if_neg h4]
  by_cases h2 : t_h t n p = 99
  · rw [if_pos h2]
    refine yes ?_
    rw [← dg, h2]; decide
  rw [if_neg h2]
  refine no ?_
  rw [← dg, if_neg h1', if_neg h2, if_neg h3, if_neg h4, if_neg h5]
