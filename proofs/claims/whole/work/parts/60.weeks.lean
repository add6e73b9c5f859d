/-! weeks -/
def w_sd (s : Int32) : Int32 := s * (1103515245 : Int32) + (12345 : Int32)
def w_dr (s : Int32) : Int32 := ((s &&& (2147483647 : Int32)) / (65536 : Int32)) - ((s &&& (2147483647 : Int32)) / (65536 : Int32)) / (10 : Int32) * (10 : Int32)
def w_lp (z : k_Z) (b s : Nat) : Bool := decide (s < z 0 0) && k_can z s b (z 0 2)
def w_ls (z : k_Z) (b : Nat) : Nat := g_lst (w_lp z b) 8
def w_st (st : Int32 × Int32 × k_Z) (b : Nat) : Int32 × Int32 × k_Z := if w_dr (w_sd st.1) < nI (st.2.2 10 b) then (w_sd st.1, st.2.1, st.2.2) else if st.2.2 11 b = 9 then (if w_ls st.2.2 b = 9 then (w_sd st.1, st.2.1 + 1, st.2.2) else (w_sd st.1, st.2.1, k_hire st.2.2 (w_ls st.2.2 b) b)) else (w_sd st.1, st.2.1, st.2.2)
def w_wk (z : k_Z) (sd wo : Int32) : Nat → Int32 × Int32 × k_Z
  | 0 => (sd, wo, z)
  | b + 1 => w_st (w_wk z sd wo b) b
def w_al (z : k_Z) (sd : Int32) : Nat → Int32 × Int32 × Int32
  | 0 => (sd, 0, 0)
  | n + 1 => ((w_wk z (w_al z sd n).1 (w_al z sd n).2.2 (z 0 1)).1, (w_al z sd n).2.1 + (nI ((w_wk z (w_al z sd n).1 (w_al z sd n).2.2 (z 0 1)).2.2 0 2) - nI (z 0 2)), (w_wk z (w_al z sd n).1 (w_al z sd n).2.2 (z 0 1)).2.1)
def p_weeks (z : k_Z) (n sd w : Int32) : Int32 := if 1 ≤ n ∧ n ≤ 20 then (if 0 ≤ w ∧ w ≤ 1 then (if w = 0 then (w_al z sd n.toNatClampNeg).2.1 else (w_al z sd n.toNatClampNeg).2.2) else -1) else -1
/-- a state within a week -/
def w_in (z : k_Z) (b : Nat) (c : k_Z) : Prop := k_va c ∧ (∀ r i, ¬ (r = 4 ∨ r = 5 ∨ r = 11 ∨ (r = 0 ∧ i = 2)) → c r i = z r i) ∧ (∀ j, b ≤ j → c 11 j = z 11 j) ∧ ∀ s, c 5 s = 0 → z 5 s = 0
theorem w_lsS (z : k_Z) (b : Nat) : k_lz (w_lp z b) 0 8 (w_ls z b) := g_lstS _ 8 (Nat.le_refl _)
theorem w_ls8 {z : k_Z} {b : Nat} (h : w_ls z b ≠ 9) : w_ls z b < z 0 0 ∧ k_can z (w_ls z b) b (z 0 2) = true := by
  rcases w_lsS z b with ⟨e, -⟩ | ⟨-, -, h3, -⟩
  · exact absurd e h
  · unfold w_lp at h3
    simp only [Bool.and_eq_true, decide_eq_true_eq] at h3
    exact h3
theorem w_in_up {z c : k_Z} {b : Nat} (h : w_in z b c) : w_in z (b + 1) c := ⟨h.1, h.2.1, fun j hj => h.2.2.1 j (by omega), h.2.2.2⟩
theorem w_in_hire {z c : k_Z} {b s : Nat} (h : w_in z b c) (hs : s < c 0 0) (hb : b < c 0 1) (h9 : c 11 b = 9) (hc : k_can c s b (c 0 2) = true) : w_in z (b + 1) (k_hire c s b) := by
  refine ⟨va_hire h.1 hs hb h9 hc, fun r i hr => ?_, fun j hj => ?_, fun t ht => h.2.2.2 t ?_⟩
  · rw [← h.2.1 r i hr]
    unfold k_hire
    rw [k_zu_n (by omega), k_zu_n (by omega), k_zu_n (by omega), k_zu_n (by omega)]
  · rw [← h.2.2.1 j (by omega)]
    unfold k_hire
    rw [k_zu_n (by omega), k_zu_n (by omega), k_zu_n (by omega), k_zu_n (by omega)]
  · unfold k_hire at ht
    rw [k_zu_n (by omega), k_zu_n (by omega), k_zu_n (by omega)] at ht
    by_cases e : t = s
    · subst e; rw [k_zu_s] at ht; cases ht
    · rw [k_zu_n (by omega)] at ht; exact ht
theorem w_inS {z : k_Z} {sd wo : Int32} (K : k_va z) : ∀ b, b ≤ z 0 1 → w_in z b (w_wk z sd wo b).2.2
  | 0, _ => ⟨K, fun _ _ _ => rfl, fun _ _ => rfl, fun _ h => h⟩
  | b + 1, hb => by
    have ih := w_inS (sd := sd) (wo := wo) K b (by omega)
    have nb := ih.2.1 0 1 (by omega)
    show w_in z (b + 1) (w_st (w_wk z sd wo b) b).2.2
    unfold w_st
    split
    · exact w_in_up ih
    · split
      · next h9 =>
        split
        · exact w_in_up ih
        · next n9 =>
          have l := w_ls8 n9
          exact w_in_hire ih l.1 (by omega) h9 l.2
      · exact w_in_up ih
theorem w_can {z c : k_Z} {b s : Nat} (h : w_in z b c) : k_can c s b (c 0 2) = ((c 5 s == 0) && k_can z s b (c 0 2)) := by
  unfold k_can k_fits
  rw [h.2.1 3 s (by omega), h.2.1 6 b (by omega), h.2.1 1 s (by omega), h.2.1 2 s (by omega)]
  by_cases e : c 5 s = 0
  · rw [e, h.2.2.2 s e]; rfl
  · rw [show (c 5 s == 0) = false by simpa using e]; simp
theorem c_leastFor {σ : q_St} {h : q_Hp} {A b Fr : Nat} {z c : k_Z} (V : k_V σ h A z) (K : k_va z) (hb : b < z 0 1) (J : w_in z b c) (hF : Fr < 256) (hFt : ∀ s, s < z 0 0 → Fr.testBit s = (c 5 s == 0)) : fX2_leastFor σ h A (nI b) (nI Fr) (nI (c 0 2)) = some (nI (w_ls c b)) := by
  have n7 := va_ns K
  have ns := J.2.1 0 0 (by omega)
  have pe := va_pe J.1
  unfold fX2_leastFor
  refine k_eq (k_bind (P := k_z (fun _ => ∀ s, s < z 0 0 → w_lp c b s = false) (fun r => ∃ s, r = nI s ∧ s < z 0 0 ∧ w_lp c b s = true ∧ ∀ t, t < s → w_lp c b t = false)) (k_for (n := z 0 0) (fun i t => t = nI i ∧ ∀ s, s < i → w_lp c b s = false) (by rw [k_N]; omega) ⟨rfl, fun s hs => absurd hs (Nat.not_lt_zero _)⟩ ?_) (fun o p => ?_))
  · rintro i x hi ⟨e, hz⟩
    subst e
    show k_ok (fX2_leastFor_3 σ h A (nI b) (nI Fr) (nI (c 0 2)) (nI i)) _
    unfold fX2_leastFor_3 fX2_leastFor_35
    rw [v_ns V]
    rcases Nat.lt_or_ge i (z 0 0) with q | q
    · have pE : w_lp c b i = (Fr.testBit i && k_can z i b (c 0 2)) := by
        unfold w_lp
        rw [w_can J, hFt i q, ns, decide_eq_true q, Bool.true_and]
      have skip : w_lp c b i = false → k_ok (some (Sum.inl (nI i + 1)) : Option (Int32 ⊕ (Unit ⊕ Int32))) (k_z (fun s' => i < z 0 0 ∧ s' = nI (i + 1) ∧ ∀ s, s < i + 1 → w_lp c b s = false) (k_z (fun _ => ∀ s, s < z 0 0 → w_lp c b s = false) (fun r => ∃ s, r = nI s ∧ s < z 0 0 ∧ w_lp c b s = true ∧ ∀ t, t < s → w_lp c b t = false))) := fun e => by
        rw [nI_1]
        refine k_some ⟨q, rfl, fun s hs => ?_⟩
        by_cases es : s = i
        · rw [es, e]
        · exact hz s (by omega)
      rw [if_neg (nI_ge q (by omega)), c_hasBit (by omega) (by omega), k_bs1, k_01i, c_can V K q hb (by omega), k_bs1, k_01i]
      cases e1 : Fr.testBit i with
      | false => rw [if_neg (by decide)]; exact skip (by rw [pE, e1]; rfl)
      | true =>
        rw [if_pos rfl]
        cases e2 : k_can z i b (c 0 2) with
        | false => rw [if_neg (by decide)]; exact skip (by rw [pE, e1, e2]; rfl)
        | true => rw [if_pos rfl]; exact k_some ⟨i, rfl, q, by rw [pE, e1, e2]; rfl, hz⟩
    · have : i = z 0 0 := by omega
      subst this
      rw [if_pos (nI_le (Nat.le_refl _) (by omega))]
      exact k_some hz
  · have no : ∀ s, s < 8 → (z 0 0 ≤ s ∨ 8 ≤ s) → w_lp c b s = false := fun s hs h => by
      unfold w_lp
      rw [ns, decide_eq_false (by omega)]; rfl
    cases o with
    | inl u =>
      rw [k_elL]
      exact k_some (by rw [← k_lzU (by omega) (Nat.le_refl 8) no (Or.inl ⟨rfl, fun s _ hs => p s hs⟩) (w_lsS c b)]; rfl)
    | inr r =>
      obtain ⟨s, e, hs, hp, hz⟩ := p
      rw [k_elR]
      exact k_some (by rw [e, ← k_lzU (by omega) (Nat.le_refl 8) no (Or.inr ⟨Nat.zero_le _, hs, hp, fun t _ ht => hz t ht⟩) (w_lsS c b)])
theorem c_draw {σ : q_St} {h : q_Hp} (s : Int32) : fX4_drawBelow σ h (10 : Int32) s = some (w_dr s) := by
  unfold fX4_drawBelow w_dr
  rw [if_neg (by decide), q_gu_t (by decide)]
theorem c_weeks {σ : q_St} {h : q_Hp} {x A B : Nat} {z zi y : k_Z} {p : Bool} {c : Nat → Nat → Int32} (I : k_CI σ h x A B z p zi y c) (K : k_va z) (n sd w : Int32) : fX4_weeks σ h x n sd w = some (p_weeks z n sd w) := by
  have X := I.1
  have S := xA X
  have V := I.2.1
  have b7 := va_nb K
  have n7 := va_ns K
  unfold fX4_weeks p_weeks
  rw [xr0 X, sr8 S, sr9 S, q_gu_t ⟨S.1, st9 S, st10 S⟩, c_isIn, k_bs1]
  by_cases hn : 1 ≤ n ∧ n ≤ 20
  · rw [if_pos hn, if_pos hn, if_neg (by decide), c_isIn, k_bs1]
    by_cases hw : 0 ≤ w ∧ w ≤ 1
    · rw [if_pos hw, if_pos hw, if_neg (by decide)]
      obtain ⟨k, hk, rfl⟩ := k_is21 (a := n) ⟨by
        have := Int32.le_iff_toInt_le.mp hn.1
        rw [show (1 : Int32).toInt = 1 by decide] at this
        rw [Int32.le_iff_toInt_le, show (0 : Int32).toInt = 0 by decide]; omega, hn.2⟩
      rw [k_cl (by omega)]
      refine k_eq (k_bind (k_for (n := k) (P := fun o => o = ((w_al z sd k).2.1, (w_al z sd k).2.2)) (fun i t => t = ((w_al z sd i).1, (w_al z sd i).2.1, (w_al z sd i).2.2, nI i)) (by rw [k_N]; omega) rfl ?_) (fun o p => ?_))
      · rintro i s hi e
        subst e
        show k_ok (fX4_weeks_33 σ h x (nI k) sd w (w_al z sd i).1 (w_al z sd i).2.1 (w_al z sd i).2.2 (nI i)) _
        unfold fX4_weeks_33
        rw [xr0 X]
        rcases Nat.lt_or_ge i k with q | q
        · have c0 : fX2_suitsThatAre σ h A 0 = some (nI (p_in z)) := c_state (w := 0) V K (by decide)
          rw [if_neg (nI_ge q (by omega)), c0, k_bs1, v_pe V]
          refine k_bind (k_for (n := z 0 1) (P := fun o => o = ((w_wk z (w_al z sd i).1 (w_al z sd i).2.2 (z 0 1)).1, (w_wk z (w_al z sd i).1 (w_al z sd i).2.2 (z 0 1)).2.1, nI ((w_wk z (w_al z sd i).1 (w_al z sd i).2.2 (z 0 1)).2.2 0 2))) (fun b t => t.2.2.2.2 = nI b ∧ t.1 = (w_wk z (w_al z sd i).1 (w_al z sd i).2.2 b).1 ∧ t.2.1 = (w_wk z (w_al z sd i).1 (w_al z sd i).2.2 b).2.1 ∧ t.2.2.2.1 = nI ((w_wk z (w_al z sd i).1 (w_al z sd i).2.2 b).2.2 0 2) ∧ ∃ Fr, t.2.2.1 = nI Fr ∧ Fr < 256 ∧ ∀ s, s < z 0 0 → Fr.testBit s = ((w_wk z (w_al z sd i).1 (w_al z sd i).2.2 b).2.2 5 s == 0)) (by rw [k_N]; omega) ⟨rfl, rfl, rfl, rfl, p_in z, rfl, by have := p_inB K; omega, fun s hs => by rw [p_in_tb, decide_eq_true hs, Bool.true_and]; rfl⟩ ?_) (fun o p => ?_)
          · rintro b ⟨x4, x6, x8, x9, x10⟩ hb ⟨e10, e4, e6, e9, Fr, e8, hF, hFt⟩
            dsimp only at e10 e4 e6 e9 e8
            have J := w_inS (sd := (w_al z sd i).1) (wo := (w_al z sd i).2.2) K b hb
            have stp : w_wk z (w_al z sd i).1 (w_al z sd i).2.2 (b + 1) = w_st (w_wk z (w_al z sd i).1 (w_al z sd i).2.2 b) b := rfl
            generalize hW : w_wk z (w_al z sd i).1 (w_al z sd i).2.2 b = W at e4 e6 e9 hFt J stp
            obtain ⟨s1, wo, cz⟩ := W
            dsimp only at e4 e6 e9 hFt J
            subst e10; subst e4; subst e6; subst e9; subst e8
            show k_ok (fX4_weeks_61 σ h x (nI k) sd w (w_al z sd i).2.1 (nI i) x4 x6 (nI Fr) (nI (cz 0 2)) (nI b)) _
            unfold fX4_weeks_61 fX4_nextSeed
            rw [xr0 X, v_nb V, k_bs1, c_draw, k_bs1, sr8 S, sr9 S]
            rcases Nat.lt_or_ge b (z 0 1) with q2 | q2
            · have h9 := va_ha9 K q2
              have ca : cz 10 b = z 10 b := J.2.1 10 b (by omega)
              have ch : cz 11 b = z 11 b := J.2.2.1 b (Nat.le_refl b)
              rw [if_neg (nI_ge q2 (by omega)), c_at (sl9 S) (show b < 7 by omega) (by decide), k_bs1, v10 V q2]
              unfold fX4_weeks_178
              unfold w_st at stp
              rw [show x4 * (1103515245 : Int32) + (12345 : Int32) = w_sd x4 from rfl, nI_1]
              dsimp only at stp
              simp only [ca, ch] at stp
              by_cases d : w_dr (w_sd x4) < nI (z 10 b)
              · rw [if_pos d] at stp
                rw [if_pos d]
                exact k_some ⟨q2, rfl, by rw [stp], by rw [stp], by rw [stp], Fr, rfl, hF, by rw [stp]; exact hFt⟩
              · rw [if_neg d] at stp
                rw [if_neg d, c_at (sl10 S) (show b < 7 by omega) (by decide), k_bs1, v11 V q2, c_leastFor V K q2 J hF hFt, k_bs1]
                simp only [k_eqL (show (9 : Int32) = nI 9 from rfl) (show z 11 b < 2147483648 by omega) (show 9 < 2147483648 by decide)]
                by_cases hh : z 11 b = 9
                · rw [if_pos hh] at stp
                  rw [if_pos hh]
                  have lB : w_ls cz b ≤ 9 := by rcases w_lsS cz b with ⟨e, -⟩ | ⟨-, e, -⟩ <;> omega
                  simp only [k_eqL (show (9 : Int32) = nI 9 from rfl) (show w_ls cz b < 2147483648 by omega) (show 9 < 2147483648 by decide)]
                  by_cases l9 : w_ls cz b = 9
                  · rw [if_pos l9] at stp
                    rw [if_pos l9]
                    exact k_some ⟨q2, rfl, by rw [stp], by rw [stp], by rw [stp], Fr, rfl, hF, by rw [stp]; exact hFt⟩
                  · rw [if_neg l9] at stp
                    have l := w_ls8 l9
                    have ns := J.2.1 0 0 (by omega)
                    have ls : w_ls cz b < z 0 0 := by omega
                    have pe : k_hire cz (w_ls cz b) b 0 2 = cz 0 2 + k_pr (z 1 (w_ls cz b)) (z 2 (w_ls cz b)) := by
                      rw [← J.2.1 1 (w_ls cz b) (by omega), ← J.2.1 2 (w_ls cz b) (by omega)]
                      unfold k_hire
                      rw [k_zu_s]
                    rw [if_neg l9, c_kindOf V K ls, k_bs1, q_gu_t (sut (v_su V ls)), su2 (v_su V ls), nI_add, k_del (by omega)]
                    refine k_some ⟨q2, rfl, by rw [stp], by rw [stp], by rw [stp]; dsimp only; rw [pe], k_dl Fr (w_ls cz b), rfl, k_dlB hF, fun t ht => ?_⟩
                    rw [stp]
                    dsimp only
                    rw [k_dlT (by omega), hFt t ht]
                    unfold k_hire
                    rw [k_zu_n (by omega), k_zu_n (by omega), k_zu_n (by omega)]
                    by_cases e : t = w_ls cz b
                    · subst e; rw [k_zu_s]; simp
                    · rw [k_zu_n (by omega)]; simp [e]
                · rw [if_neg hh] at stp
                  rw [if_neg hh]
                  exact k_some ⟨q2, rfl, by rw [stp], by rw [stp], by rw [stp], Fr, rfl, hF, by rw [stp]; exact hFt⟩
            · have : b = z 0 1 := by omega
              subst this
              rw [if_pos (nI_le (Nat.le_refl _) (by omega))]
              exact k_some (show (x4, x6, nI (cz 0 2)) = ((w_wk z (w_al z sd i).1 (w_al z sd i).2.2 (z 0 1)).1, (w_wk z (w_al z sd i).1 (w_al z sd i).2.2 (z 0 1)).2.1, nI ((w_wk z (w_al z sd i).1 (w_al z sd i).2.2 (z 0 1)).2.2 0 2)) by rw [hW])
          · subst p
            rw [nI_1]
            exact k_some ⟨q, rfl⟩
        · have : i = k := by omega
          subst this
          rw [if_pos (nI_le (Nat.le_refl _) (by omega))]
          exact k_some rfl
      · subst p
        dsimp only
        by_cases w0 : w = 0
        · rw [if_pos w0, if_pos w0]; exact k_some rfl
        · rw [if_neg w0, if_neg w0]; exact k_some rfl
    · rw [if_neg hw, if_neg hw, if_pos rfl]
  · rw [if_neg hn, if_neg hn, if_pos rfl]
