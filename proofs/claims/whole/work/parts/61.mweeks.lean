/-! weeks of the model -/
theorem m_hiresLeast {σ : q_St} {h : q_Hp} {m b : Nat} {z : k_Z} (M : k_M σ m) (W : k_W h m z) (K : k_va z) (hb : b < z 0 1) (h9 : z 11 b = 9) : k_ok (fX5_hiresLeast σ h m (nI b)) (fun r => if w_ls z b = 9 then r = (0, h) else r.1 = 1 ∧ k_W r.2 m (k_hire z (w_ls z b) b) ∧ k_mf [13] [4, 5, 11] m h r.2) := by
  have n7 := va_ns K
  have no : ∀ s, s < 8 → (z 0 0 ≤ s ∨ 8 ≤ s) → w_lp z b s = false := fun s hs h => by
    unfold w_lp
    rw [decide_eq_false (by omega)]; rfl
  unfold fX5_hiresLeast
  refine k_bind (P := k_z (fun h' => h' = h ∧ ∀ s, s < z 0 0 → w_lp z b s = false) (fun o => o.1 = 1 ∧ ∃ s, s < z 0 0 ∧ w_lp z b s = true ∧ (∀ t, t < s → w_lp z b t = false) ∧ k_W o.2 m (k_hire z s b) ∧ k_mf [13] [4, 5, 11] m h o.2)) (k_for (n := z 0 0) (fun i t => t = (nI i, h) ∧ ∀ s, s < i → w_lp z b s = false) (by rw [k_N]; omega) ⟨rfl, fun s hs => absurd hs (Nat.not_lt_zero _)⟩ ?_) (fun o p => ?_)
  · rintro i x hi ⟨e, hz⟩
    subst e
    show k_ok (fX5_hiresLeast_2 σ m (nI b) (nI i) h) _
    unfold fX5_hiresLeast_2
    rw [w_ns W]
    rcases Nat.lt_or_ge i (z 0 0) with q | q
    · have pE : w_lp z b i = k_can z i b (z 0 2) := by
        unfold w_lp
        rw [decide_eq_true q, Bool.true_and]
      rw [if_neg (nI_ge q (by omega)), m_can M W K q hb, k_bs1, k_01i, show (z 11 b == 9) = true by simpa using h9, Bool.true_and]
      cases e2 : k_can z i b (z 0 2) with
      | false =>
        rw [if_neg (by decide), nI_1]
        refine k_some ⟨q, rfl, fun s hs => ?_⟩
        by_cases es : s = i
        · rw [es, pE, e2]
        · exact hz s (by omega)
      | true =>
        rw [if_pos rfl]
        refine k_bind (m_hire M W K q hb) (fun h4 p => ?_)
        exact k_some ⟨rfl, i, q, by rw [pE, e2], hz, p.1, p.2.2⟩
    · have : i = z 0 0 := by omega
      subst this
      rw [if_pos (nI_le (Nat.le_refl _) (by omega))]
      exact k_some ⟨rfl, hz⟩
  · cases o with
    | inl h' =>
      obtain ⟨e, hz⟩ := p
      subst e
      rw [k_elL]
      have e9 : w_ls z b = 9 := (k_lzU (by omega) (Nat.le_refl 8) no (Or.inl ⟨rfl, fun s _ hs => hz s hs⟩) (w_lsS z b)).symm
      refine k_some ?_
      rw [if_pos e9]
    | inr o =>
      obtain ⟨o1, o2⟩ := o
      obtain ⟨e, s, hs, hp, hz, W2, a2⟩ := p
      dsimp only at e W2 a2
      subst e
      rw [k_elR]
      have es : s = w_ls z b := k_lzU (by omega) (Nat.le_refl 8) no (Or.inr ⟨Nat.zero_le _, hs, hp, fun t _ ht => hz t ht⟩) (w_lsS z b)
      refine k_some ?_
      rw [if_neg (by omega), ← es]
      exact ⟨rfl, W2, a2⟩
theorem m_draw {σ : q_St} {h : q_Hp} {m : Nat} : fX5_drawBelow σ h m (10 : Int32) = some (w_dr (w_sd (q_int h m 42)), q_si h m 42 (w_sd (q_int h m 42))) := by
  unfold fX5_drawBelow w_dr w_sd
  rw [q_gu_t (by decide), k_si_s]
def k_lwk : List Nat := [0, 6, 13, 14, 21, 32, 33, 35, 42]
theorem m_weeks {σ : q_St} {h : q_Hp} {m : Nat} {z zi y : k_Z} {p : Bool} {c : Nat → Nat → Int32} (I : k_MI σ h m z p zi y c) (K : k_va z) (n sd w : Int32) : k_ok (fX5_weeks σ h m n sd w) (fun r => r.1 = p_weeks z n sd w ∧ (r.2.1 = σ ∨ r.2.1 = q_sr σ m 34 (m + 21)) ∧ k_W r.2.2 m z ∧ k_mf k_lwk k_ro m h r.2.2) := by
  have M := I.1
  have M2 := M_34 (v := m + 21) M
  have b7 := va_nb K
  have n7 := va_ns K
  have W0 : k_W (q_si h m 21 0) m z := W_th I.2.1
  have a0 : k_mf k_lwk k_ro m h (q_si h m 21 0) := mf_th (by decide)
  unfold fX5_weeks p_weeks
  rw [m_in (lo := 1) (hi := 20) (by decide) (by decide), k_bs1]
  by_cases hn : 1 ≤ n ∧ n ≤ 20
  · rw [if_pos hn, if_pos hn, if_neg (by decide), m_in (lo := 0) (hi := 1) (by decide) (by decide), k_bs1]
    by_cases hw : 0 ≤ w ∧ w ≤ 1
    · rw [if_pos hw, if_pos hw, if_neg (by decide)]
      obtain ⟨k, hk, rfl⟩ := k_is21 (a := n) ⟨by
        have := Int32.le_iff_toInt_le.mp hn.1
        rw [show (1 : Int32).toInt = 1 by decide] at this
        rw [Int32.le_iff_toInt_le, show (0 : Int32).toInt = 0 by decide]; omega, hn.2⟩
      rw [k_cl (by omega)]
      have a1 : k_mf k_lwk k_ro m h (q_si (q_si h m 21 0) m 42 sd) := mf_fi a0 (by decide)
      have W1 : k_W (q_si (q_si h m 21 0) m 42 sd) m z := W_mf W0 (mf_fi (L := [42]) (R := []) mf_rf (by decide)) (by decide) (fun _ _ _ => by simp)
      have s1 : q_int (q_si (q_si h m 21 0) m 42 sd) m 42 = sd := k_si_s
      rw [w_pe W1]
      generalize q_si (q_si h m 21 0) m 42 sd = h1 at a1 W1 s1 ⊢
      refine k_b2 (m_open M W1 K) (fun σ2 h2 p => ?_)
      obtain ⟨e2, I2, a2⟩ := p
      dsimp only at e2 I2 a2
      subst e2
      have W2 : k_W h2 m z := W_mf W1 a2 ⟨by decide, by decide, by decide, by decide⟩ (fun r h1 h2 q => by simp at q; omega)
      refine k_bind (k_for (n := k) (P := fun o => o.1 = (w_al z sd k).2.1 ∧ o.2.1 = (w_al z sd k).2.2 ∧ o.2.2.1 = q_sr σ m 34 (m + 21) ∧ k_W o.2.2.2 m z ∧ k_mf k_lwk k_ro m h o.2.2.2) (fun i t => t.2.2.1 = nI i ∧ t.1 = (w_al z sd i).2.1 ∧ t.2.1 = (w_al z sd i).2.2 ∧ t.2.2.2.1 = q_sr σ m 34 (m + 21) ∧ q_int t.2.2.2.2 m 42 = (w_al z sd i).1 ∧ k_W t.2.2.2.2 m z ∧ k_I t.2.2.2.2 (m + 21) z ∧ k_mf k_lwk k_ro m h t.2.2.2.2) (by rw [k_N]; omega) ⟨rfl, rfl, rfl, rfl, by rw [a2.2.1 42 (by decide)]; exact s1, W2, I2, mf_tr a1 (mf_mono a2 (by decide) (by decide))⟩ ?_) (fun o p => ?_)
      · rintro i ⟨x4, x5, x7, σ', h'⟩ hi ⟨e7, e4, e5, es, s42, W', I', a'⟩
        dsimp only at e7 e4 e5 es s42 W' I' a'
        subst e7; subst e4; subst e5; subst es
        show k_ok (fX5_weeks_53 m (nI k) sd w (nI (z 0 2)) (w_al z sd i).2.1 (w_al z sd i).2.2 (nI i) (q_sr σ m 34 (m + 21)) h') _
        unfold fX5_weeks_53
        rcases Nat.lt_or_ge i k with q | q
        · rw [if_neg (nI_ge q (by omega))]
          refine k_bind (k_for (n := z 0 1) (P := fun o => o.1 = (w_wk z (w_al z sd i).1 (w_al z sd i).2.2 (z 0 1)).2.1 ∧ o.2.1 = q_sr σ m 34 (m + 21) ∧ q_int o.2.2 m 42 = (w_wk z (w_al z sd i).1 (w_al z sd i).2.2 (z 0 1)).1 ∧ q_int o.2.2 m 13 = nI ((w_wk z (w_al z sd i).1 (w_al z sd i).2.2 (z 0 1)).2.2 0 2) ∧ k_mf [13, 42] [4, 5, 11] m h' o.2.2) (fun b t => t.2.1 = nI b ∧ t.1 = (w_wk z (w_al z sd i).1 (w_al z sd i).2.2 b).2.1 ∧ t.2.2.1 = q_sr σ m 34 (m + 21) ∧ q_int t.2.2.2 m 42 = (w_wk z (w_al z sd i).1 (w_al z sd i).2.2 b).1 ∧ k_W t.2.2.2 m (w_wk z (w_al z sd i).1 (w_al z sd i).2.2 b).2.2 ∧ k_mf [13, 42] [4, 5, 11] m h' t.2.2.2) (by rw [k_N]; omega) ⟨rfl, rfl, rfl, s42, W', mf_rf⟩ ?_) (fun o p => ?_)
          · rintro b ⟨x5, x8, σ3, h3⟩ hb ⟨e8, e5, es, s3, W3, a3⟩
            dsimp only at e8 e5 es s3 W3 a3
            have J := w_inS (sd := (w_al z sd i).1) (wo := (w_al z sd i).2.2) K b hb
            have stp : w_wk z (w_al z sd i).1 (w_al z sd i).2.2 (b + 1) = w_st (w_wk z (w_al z sd i).1 (w_al z sd i).2.2 b) b := rfl
            generalize hW : w_wk z (w_al z sd i).1 (w_al z sd i).2.2 b = W at e5 s3 W3 J stp
            obtain ⟨sv, wo, cz⟩ := W
            dsimp only at e5 s3 W3 J
            subst e8; subst e5; subst es
            have c01 : cz 0 1 = z 0 1 := J.2.1 0 1 (by omega)
            show k_ok (fX5_weeks_62 m (nI k) sd w (w_al z sd i).2.1 (nI (z 0 2)) (nI i) x5 (nI b) (q_sr σ m 34 (m + 21)) h3) _
            unfold fX5_weeks_62
            rw [q_gu_t (mt0 M2), w_nb W3, c01, m_draw, k_b2s, s3]
            rcases Nat.lt_or_ge b (z 0 1) with q2 | q2
            · have K3 := J.1
              have q3 : b < cz 0 1 := by omega
              have W4 : k_W (q_si h3 m 42 (w_sd sv)) m cz := W_mf W3 (mf_fi (L := [42]) (R := []) mf_rf (by decide)) (by decide) (fun _ _ _ => by simp)
              have a4 : k_mf [13, 42] [4, 5, 11] m h' (q_si h3 m 42 (w_sd sv)) := mf_fi a3 (by decide)
              have s4 : q_int (q_si h3 m 42 (w_sd sv)) m 42 = w_sd sv := k_si_s
              have h9 := va_ha9 K3 q3
              unfold w_st at stp
              dsimp only at stp
              rw [if_neg (nI_ge q2 (by omega)), mr11 M2, ml10 M2, q_gu_t ⟨mt10 M2, vp_in_nI (by omega) (by decide)⟩, k_cl (by omega), w10 W4 q3]
              generalize q_si h3 m 42 (w_sd sv) = h4 at W4 a4 s4 ⊢
              unfold fX5_weeks_92 fX5_weeks_130
              by_cases d : w_dr (w_sd sv) < nI (cz 10 b)
              · rw [if_pos d] at stp
                rw [if_pos d, if_pos rfl, nI_1]
                exact k_some ⟨q2, rfl, by rw [stp], rfl, by rw [stp]; exact s4, by rw [stp]; exact W4, a4⟩
              · rw [if_neg d] at stp
                rw [if_neg d, if_neg (by decide), mr12 M2, ml11 M2, q_gu_t ⟨mt0 M2, mt11 M2, vp_in_nI (by omega) (by decide)⟩, k_cl (by omega), w11 W4 q3]
                simp only [k_eqL (show (9 : Int32) = nI 9 from rfl) (show cz 11 b < 2147483648 by omega) (show 9 < 2147483648 by decide)]
                by_cases hh : cz 11 b = 9
                · rw [if_pos hh] at stp
                  rw [if_pos hh]
                  refine k_b2 (m_hiresLeast M2 W4 K3 q3 hh) (fun r h5 p => ?_)
                  unfold fX5_weeks_127 fX5_weeks_130
                  by_cases l9 : w_ls cz b = 9
                  · rw [if_pos l9] at stp p
                    cases p
                    rw [if_pos rfl, nI_1]
                    exact k_some ⟨q2, rfl, by rw [stp], rfl, by rw [stp]; exact s4, by rw [stp]; exact W4, a4⟩
                  · rw [if_neg l9] at stp p
                    obtain ⟨e1, W5, a5⟩ := p
                    dsimp only at e1 W5 a5
                    subst e1
                    rw [if_neg (by decide), nI_1, Int32.add_zero]
                    exact k_some ⟨q2, rfl, by rw [stp], rfl, by rw [stp]; dsimp only; rw [a5.2.1 42 (by decide)]; exact s4, by rw [stp]; exact W5, mf_tr a4 (mf_mono a5 (by decide) (by decide))⟩
                · rw [if_neg hh] at stp
                  rw [if_neg hh, nI_1]
                  exact k_some ⟨q2, rfl, by rw [stp], rfl, by rw [stp]; exact s4, by rw [stp]; exact W4, a4⟩
            · have : b = z 0 1 := by omega
              subst this
              rw [if_pos (nI_le (Nat.le_refl _) (by omega))]
              refine k_some ⟨by rw [hW], rfl, by rw [hW]; exact s3, by rw [hW]; exact w_pe W3, a3⟩
          · obtain ⟨o1, o2, o3⟩ := o
            obtain ⟨e1, e2, s3, p3, a3⟩ := p
            dsimp only at e1 e2 s3 p3 a3
            subst e1; subst e2
            dsimp only
            rw [q_gu_t (mt0 M2), p3]
            have I3 : k_I o3 (m + 21) z := k_I_cg I' (fun i => mf_i a3 21 (by decide) (by decide) (by decide) i)
            refine k_b2 (m_close M2 I3 K) (fun σ7 h7 p => ?_)
            obtain ⟨e7, W7, a7⟩ := p
            dsimp only at e7 W7 a7
            rw [k_sr_id] at e7
            subst e7
            rw [nI_1]
            exact k_some ⟨q, rfl, rfl, rfl, rfl, by dsimp only; rw [a7.2.1 42 (by decide)]; exact s3, W7, k_I_cg I3 (fun i => mf_i a7 21 (by decide) (by decide) (by decide) i), mf_tr a' (mf_tr (mf_mono a3 (by decide) (by decide)) (mf_mono a7 (by decide) (by decide)))⟩
        · have : i = k := by omega
          subst this
          rw [if_pos (nI_le (Nat.le_refl _) (by omega))]
          exact k_some ⟨rfl, rfl, rfl, W', a'⟩
      · obtain ⟨o1, o2, o3, o4⟩ := o
        obtain ⟨e1, e2, e3, W4, a4⟩ := p
        dsimp only at e1 e2 e3 W4 a4
        subst e1; subst e2; subst e3
        dsimp only
        by_cases w0 : w = 0
        · rw [if_pos w0, if_pos w0]; exact k_some ⟨rfl, Or.inr rfl, W4, a4⟩
        · rw [if_neg w0, if_neg w0]; exact k_some ⟨rfl, Or.inr rfl, W4, a4⟩
    · rw [if_neg hw, if_neg hw, if_pos rfl]
      exact k_some ⟨rfl, Or.inl rfl, W0, a0⟩
  · rw [if_neg hn, if_neg hn, if_pos rfl]
    exact k_some ⟨rfl, Or.inl rfl, W0, a0⟩
