/-! row, put, copy -/
theorem k_is0 {x : Int32} {n : Nat} (hn : n < 2147483647) : k_is x (n + 1) = decide (0 ≤ x ∧ x ≤ nI n) := by
  unfold k_is; rw [nI_pred]
theorem c_lay {σ : q_St} {h : q_Hp} {L s n : Nat} (F : k_lf σ L) (hn : n ≤ 100) : k_ok (fX1_lay σ h L (nI s) (nI n)) (fun h' => q_int h' L 1 = 2 ∧ q_int h' L 3 = nI s ∧ q_int h' L 4 = nI n ∧ (∀ i, i < 100 → q_int h' (L + 1) i = 0) ∧ k_ag (fun a => a ≠ L ∧ a ≠ L + 1) h h') := by
  unfold fX1_lay
  rw [lr0 F, q_gu_t (lt1 F), ll1 F, k_ofN, if_pos (nI_pos' (by omega)), if_pos (nI_le hn (by decide))]
  unfold fX1_lay_37
  rw [q_gu_t (lt0 F)]
  have A0 : k_ag (fun a => a ≠ L ∧ a ≠ L + 1) h (q_si (q_si (q_si h L 1 2) L 3 (nI s)) L 4 (nI n)) := k_ag_si (k_ag_si (k_ag_si k_ag_rf (fun q => q.1 rfl)) (fun q => q.1 rfl)) (fun q => q.1 rfl)
  have f1 : q_int (q_si (q_si (q_si h L 1 2) L 3 (nI s)) L 4 (nI n)) L 1 = 2 := by rw [k_si_j (by decide), k_si_j (by decide), k_si_s]
  have f3 : q_int (q_si (q_si (q_si h L 1 2) L 3 (nI s)) L 4 (nI n)) L 3 = nI s := by rw [k_si_j (by decide), k_si_s]
  have f4 : q_int (q_si (q_si (q_si h L 1 2) L 3 (nI s)) L 4 (nI n)) L 4 = nI n := k_si_s
  generalize q_si (q_si (q_si h L 1 2) L 3 (nI s)) L 4 (nI n) = h0 at A0 f1 f3 f4 ⊢
  refine k_bind (k_for (n := 100) (P := fun h' => (∀ i, i < 100 → q_int h' (L + 1) i = 0) ∧ k_ag (fun a => a ≠ L + 1) h0 h') (fun i t => t.1 = nI i ∧ (∀ j, j < i → q_int t.2 (L + 1) j = 0) ∧ k_ag (fun a => a ≠ L + 1) h0 t.2) (by rw [k_N]; omega) ⟨rfl, fun j hj => absurd hj (Nat.not_lt_zero _), k_ag_rf⟩ ?_) (fun h' p => k_some ⟨by rw [k_agI p.2 (show L ≠ L + 1 by omega)]; exact f1, by rw [k_agI p.2 (show L ≠ L + 1 by omega)]; exact f3, by rw [k_agI p.2 (show L ≠ L + 1 by omega)]; exact f4, p.1, k_ag_tr A0 (k_ag_mono p.2 (fun a ha => ha.2))⟩)
  rintro i ⟨x, h'⟩ hi ⟨e, hz, hg⟩
  dsimp only at e hz hg
  subst e
  show k_ok (fX1_lay_42 σ L (nI s) (nI n) (nI i) h') _
  unfold fX1_lay_42
  rw [lr0 F, ll1 F, k_ofN]
  rcases Nat.lt_or_ge i 100 with q | q
  · rw [if_neg (nI_ge q (by decide)), q_gu_t (vp_in_nI q (by decide)), k_cl (by omega), nI_1]
    refine k_some ⟨q, rfl, fun j hj => ?_, k_ag_si hg (fun q => q rfl)⟩
    dsimp only
    by_cases e : j = i
    · subst e; rw [k_si_s]
    · rw [k_si_j e]; exact hz j (by omega)
  · have : i = 100 := by omega
    subst this
    rw [if_pos (nI_le (Nat.le_refl _) (by decide))]
    exact k_some ⟨hz, hg⟩
def p_row (y : k_Z) (c : Nat → Nat → Int32) (v s n : Int32) : Int32 × k_Z × (Nat → Nat → Int32) :=
  if k_is v 8 && k_is s 3 && decide (n ≤ 100) then
    if 0 ≤ n then (0, k_yR y v.toNatClampNeg s.toNatClampNeg n.toNatClampNeg, k_c0 c v.toNatClampNeg) else (-14, y, c)
  else (-1, y, c)
theorem vy_row {y : k_Z} {c : Nat → Nat → Int32} (vy : k_vy y) (v s n : Int32) : k_vy (p_row y c v s n).2.1 := by
  unfold p_row
  split
  · next h1 =>
    simp only [Bool.and_eq_true, decide_eq_true_eq] at h1
    split
    · next h2 =>
      obtain ⟨j, hj, rfl⟩ := k_is_t (by decide) h1.1.2
      obtain ⟨n, hn, rfl⟩ : ∃ k, k < 101 ∧ n = nI k := k_is_t (n := 101) (by decide) (by rw [k_is0 (by decide)]; exact decide_eq_true ⟨h2, h1.2⟩)
      rw [k_cl (by omega), k_cl (by omega)]
      intro d hd
      simp only [k_yR, k_zu]
      have := vy d hd
      by_cases e : d = v.toNatClampNeg
      · simp [e]; omega
      · simp [e]; exact this
    · exact vy
  · exact vy
theorem c_row {σ : q_St} {h : q_Hp} {x A B : Nat} {z zi y : k_Z} {p : Bool} {c : Nat → Nat → Int32} (I : k_CI σ h x A B z p zi y c) (E : k_etc σ x) (v s n : Int32) : k_ok (fX4_row σ h x v s n) (fun r => r.1 = (p_row y c v s n).1 ∧ k_CI σ r.2 x A B z p zi (p_row y c v s n).2.1 (p_row y c v s n).2.2 ∧ k_fc σ h x σ r.2) := by
  have hAB := xAB I.1
  unfold fX4_row
  rw [c_isShelf, k_bs1, k_01i, c_in (n := 3) (by decide), k_bs1, k_01i]
  cases ev : k_is v 8 with
  | false => exact k_some ⟨by simp [p_row, ev], by simpa [p_row, ev] using I, fc_of E k_ag_rf⟩
  | true =>
  cases es : k_is s 3 with
  | false => exact k_some ⟨by simp [p_row, es], by simpa [p_row, es] using I, fc_of E k_ag_rf⟩
  | true =>
  rw [if_pos rfl, if_pos rfl]
  by_cases h1 : n ≤ 100
  · rw [if_pos h1]
    by_cases h2 : 0 ≤ n
    · obtain ⟨d, hd, rfl⟩ := k_is_t (by decide) ev
      obtain ⟨s, hs, rfl⟩ := k_is_t (by decide) es
      obtain ⟨n, hn, rfl⟩ : ∃ k, k < 101 ∧ n = nI k := k_is_t (n := 101) (by decide) (by rw [k_is0 (by decide)]; exact decide_eq_true ⟨h2, h1⟩)
      have e0 : p_row y c (nI d) (nI s) (nI n) = (0, k_yR y d s n, k_c0 c d) := by
        unfold p_row
        rw [ev, es, decide_eq_true h1, if_pos h2, k_cl (by omega), k_cl (by omega), k_cl (by omega)]; rfl
      have L := xL I.1 d hd
      rw [e0, if_pos h2, c_shelfAt I.1 hd, k_bs1, q_gu_t (lt0 L)]
      refine k_bind (c_lay L (by omega)) (fun h' q => k_some ⟨rfl, CI_sh I hd I.1 (k_ag_mono q.2.2.2.2 (fun a ha => ⟨ha.1, by omega⟩)) (fun _ h => h) (fun _ _ _ _ _ => rfl) (fun r i e => ?_) (fun i k e => ?_) ⟨?_, fun q1 => ?_, fun q1 => ⟨?_, ?_, fun i hi => ?_⟩⟩, fc_of E (k_ag_mono q.2.2.2.2 (fun a ha => by unfold k_mz at ha; omega))⟩)
      · dsimp only; unfold k_yR; rw [k_zu_n (fun q => e q.2), k_zu_n (fun q => e q.2), k_zu_n (fun q => e q.2)]
      · dsimp only; unfold k_c0; rw [if_neg e]
      · dsimp only; rw [q.1]; simp [k_yR, k_zu]; rfl
      · simp [k_yR, k_zu] at q1
      · dsimp only; rw [q.2.1]; simp [k_yR, k_zu]
      · dsimp only; rw [q.2.2.1]; simp [k_yR, k_zu]
      · dsimp only; rw [show x + 57 + 3 * d = x + 56 + 3 * d + 1 by omega, q.2.2.2.1 i hi]; simp [k_c0]
    · rw [if_neg h2]
      have e0 : p_row y c v s n = (-14, y, c) := by
        unfold p_row
        rw [ev, es, decide_eq_true h1, if_neg h2]; rfl
      rw [e0]
      exact k_some ⟨rfl, I, fc_of E k_ag_rf⟩
  · rw [if_neg h1]
    have e0 : p_row y c v s n = (-1, y, c) := by
      unfold p_row
      rw [ev, es, decide_eq_false h1]; rfl
    rw [e0]
    exact k_some ⟨rfl, I, fc_of E k_ag_rf⟩
theorem m_row {σ : q_St} {h : q_Hp} {m : Nat} {z zi y : k_Z} {p : Bool} {c : Nat → Nat → Int32} (I : k_MI σ h m z p zi y c) (v s n : Int32) : k_ok (fX5_row σ h m v s n) (fun r => r.1 = (p_row y c v s n).1 ∧ k_MI σ r.2 m z p zi (p_row y c v s n).2.1 (p_row y c v s n).2.2 ∧ k_fm σ h m σ r.2) := by
  have M := I.1
  unfold fX5_row
  have A1 : k_mf [21] [12, 15, 16, 17] m h (q_si h m 21 0) := mf_th (by decide)
  have I1 : k_MI σ (q_si h m 21 0) m z p zi y c := MI_mf I (mf_fi (L := [21]) (R := []) mf_rf (by decide)) (by decide) (fun _ _ _ => by simp) (by decide)
  generalize q_si h m 21 0 = h1 at A1 I1 ⊢
  have fm1 : k_fm σ h m σ h1 := ⟨⟨_, _, A1⟩, Or.inl rfl⟩
  rw [mr15 M, mr18 M, mr19 M, mr20 M, q_gu_t ⟨mt12 M, mt15 M, mt16 M, mt17 M⟩, m_inn (n := 8) (by decide), k_bs1, k_01i, m_inn (n := 3) (by decide), k_bs1, k_01i]
  cases ev : k_is v 8 with
  | false => exact k_some ⟨by simp [p_row, ev], by simpa [p_row, ev] using I1, fm1⟩
  | true =>
  cases es : k_is s 3 with
  | false => exact k_some ⟨by simp [p_row, es], by simpa [p_row, es] using I1, fm1⟩
  | true =>
  rw [if_pos rfl, if_pos rfl]
  by_cases g1 : n ≤ 100
  · rw [if_pos g1]
    by_cases g2 : 0 ≤ n
    · obtain ⟨d, hd, rfl⟩ := k_is_t (by decide) ev
      obtain ⟨s, hs, rfl⟩ := k_is_t (by decide) es
      obtain ⟨n, hn, rfl⟩ : ∃ k, k < 101 ∧ n = nI k := k_is_t (n := 101) (by decide) (by rw [k_is0 (by decide)]; exact decide_eq_true ⟨g2, g1⟩)
      have e0 : p_row y c (nI d) (nI s) (nI n) = (0, k_yR y d s n, k_c0 c d) := by
        unfold p_row
        rw [ev, es, decide_eq_true g1, if_pos g2, k_cl (by omega), k_cl (by omega), k_cl (by omega)]; rfl
      rw [e0, if_pos g2, ml12 M, ml15 M, ml16 M, q_gu_t ⟨vp_in_nI hd (by decide), vp_in_nI hd (by decide), vp_in_nI hd (by decide)⟩, k_cl (by omega)]
      have A2 : k_mf [21] [12, 15, 16, 17] m h1 (q_si (q_si (q_si h1 (m + 12) d 2) (m + 15) d (nI s)) (m + 16) d (nI n)) := mf_ar (mf_ar (mf_ar mf_rf (by decide) (by decide)) (by decide) (by decide)) (by decide) (by decide)
      have J : ∀ i, i ≠ d → ∀ r, 12 ≤ r → r ≤ 16 → q_int (q_si (q_si (q_si h1 (m + 12) d 2) (m + 15) d (nI s)) (m + 16) d (nI n)) (m + r) i = q_int h1 (m + r) i := by
        intro i hi r h1 h2
        by_cases e1 : r = 12
        · subst e1; rw [k_si_n (by omega), k_si_n (by omega), k_si_j hi]
        · by_cases e2 : r = 15
          · subst e2; rw [k_si_n (by omega), k_si_j hi, k_si_n (by omega)]
          · by_cases e3 : r = 16
            · subst e3; rw [k_si_j hi, k_si_n (by omega), k_si_n (by omega)]
            · rw [k_si_n (by omega), k_si_n (by omega), k_si_n (by omega)]
      have f12 : q_int (q_si (q_si (q_si h1 (m + 12) d 2) (m + 15) d (nI s)) (m + 16) d (nI n)) (m + 12) d = 2 := by rw [k_si_n (by omega), k_si_n (by omega), k_si_s]
      have f15 : q_int (q_si (q_si (q_si h1 (m + 12) d 2) (m + 15) d (nI s)) (m + 16) d (nI n)) (m + 15) d = nI s := by rw [k_si_n (by omega), k_si_s]
      have f16 : q_int (q_si (q_si (q_si h1 (m + 12) d 2) (m + 15) d (nI s)) (m + 16) d (nI n)) (m + 16) d = nI n := k_si_s
      have J2 : ∀ i, q_lng (q_si (q_si (q_si h1 (m + 12) d 2) (m + 15) d (nI s)) (m + 16) d (nI n)) (m + 17) i = q_lng h1 (m + 17) i := fun i => rfl
      generalize q_si (q_si (q_si h1 (m + 12) d 2) (m + 15) d (nI s)) (m + 16) d (nI n) = h2 at A2 J f12 f15 f16 J2 ⊢
      refine k_bind (k_for (n := 100) (P := fun h' => (∀ i, q_lng h' (m + 17) i = if 100 * d ≤ i ∧ i < 100 * d + 100 then 0 else q_lng h2 (m + 17) i) ∧ k_mf [21] [17] m h2 h') (fun i t => t.1 = nI i ∧ (∀ j, q_lng t.2 (m + 17) j = if 100 * d ≤ j ∧ j < 100 * d + i then 0 else q_lng h2 (m + 17) j) ∧ k_mf [21] [17] m h2 t.2) (by rw [k_N]; omega) ⟨rfl, fun j => by rw [if_neg (by omega)], mf_rf⟩ ?_) (fun h3 q => ?_)
      · rintro i ⟨w, h'⟩ hi ⟨e, hz, hg⟩
        dsimp only at e hz hg
        subst e
        show k_ok (fX5_row_68 σ m (nI d) (nI s) (nI n) (nI i) h') _
        unfold fX5_row_68
        rw [mr20 M, ml17 M, show (100 : Int32) * nI d = nI (100 * d) from pk_mul 100 d, nI_add]
        rcases Nat.lt_or_ge i 100 with q | q
        · rw [if_neg (k_geL (n := 100) (l := 100) rfl q (by decide)), q_gu_t (vp_in_nI (by omega) (by decide)), k_cl (by omega), nI_1]
          refine k_some ⟨q, rfl, fun j => ?_, mf_al hg (by decide) (by decide)⟩
          dsimp only
          by_cases e : j = 100 * d + i
          · subst e; rw [k_sj_s, if_pos (by omega)]
          · rw [k_sj_j e, hz j]
            by_cases e2 : 100 * d ≤ j ∧ j < 100 * d + i
            · rw [if_pos e2, if_pos (by omega)]
            · rw [if_neg e2, if_neg (by omega)]
        · have : i = 100 := by omega
          subst this
          rw [if_pos (k_leL (n := 100) (l := 100) rfl (Nat.le_refl _) (by decide))]
          exact k_some ⟨hz, hg⟩
      · have A3 : k_mf [21] [12, 15, 16, 17] m h1 h3 := mf_tr A2 (mf_mono q.2 (by decide) (by decide))
        refine k_some ⟨rfl, MI_sh (d := d) I1 A3 (by decide) (fun r _ _ => by simp; omega) (by decide) (fun r i e => ?_) (fun i k e => ?_) (fun i hi8 hi => ⟨fun r h1 h2 => ?_, fun k hk => ?_⟩) ⟨?_, fun q1 => ?_, fun q1 => ⟨?_, ?_, fun i hi => ?_⟩⟩, ⟨⟨_, _, mf_tr A1 A3⟩, Or.inl rfl⟩⟩
        · dsimp only; unfold k_yR; rw [k_zu_n (fun q => e q.2), k_zu_n (fun q => e q.2), k_zu_n (fun q => e q.2)]
        · dsimp only; unfold k_c0; rw [if_neg e]
        · rw [mf_i q.2 r (by omega) (by omega) (by simp; omega)]; exact J i hi r h1 h2
        · rw [q.1, if_neg (by omega)]; exact J2 _
        · rw [mf_i q.2 12 (by omega) (by omega) (by decide), f12]; simp [k_yR, k_zu]; rfl
        · simp [k_yR, k_zu] at q1
        · rw [mf_i q.2 15 (by omega) (by omega) (by decide), f15]; simp [k_yR, k_zu]
        · rw [mf_i q.2 16 (by omega) (by omega) (by decide), f16]; simp [k_yR, k_zu]
        · rw [q.1, if_pos (by omega)]; simp [k_c0]
    · rw [if_neg g2]
      have e0 : p_row y c v s n = (-14, y, c) := by
        unfold p_row
        rw [ev, es, decide_eq_true g1, if_neg g2]; rfl
      rw [e0]
      exact k_some ⟨rfl, I1, fm1⟩
  · rw [if_neg g1]
    have e0 : p_row y c v s n = (-1, y, c) := by
      unfold p_row
      rw [ev, es, decide_eq_false g1]; rfl
    rw [e0]
    exact k_some ⟨rfl, I1, fm1⟩
/-- the lowest bits that a sort keeps -/
def k_nw (s : Nat) (v : Int32) : Int32 := if s = 0 then v.toInt8.toInt32 else if s = 1 then v.toInt16.toInt32 else v
def p_put (y : k_Z) (c : Nat → Nat → Int32) (v i w : Int32) : Int32 × (Nat → Nat → Int32) :=
  if k_wr y 2 v = 0 then
    if k_is i (y 4 v.toNatClampNeg) then (0, k_cu c v.toNatClampNeg i.toNatClampNeg (k_nw (y 3 v.toNatClampNeg) w)) else (-13, c)
  else (k_wr y 2 v, c)
theorem c_put {σ : q_St} {h : q_Hp} {x A B : Nat} {z zi y : k_Z} {p : Bool} {c : Nat → Nat → Int32} (I : k_CI σ h x A B z p zi y c) (vy : k_vy y) (E : k_etc σ x) (v i w : Int32) : k_ok (fX4_put σ h x v i w) (fun r => r.1 = (p_put y c v i w).1 ∧ k_CI σ r.2 x A B z p zi y (p_put y c v i w).2 ∧ k_fc σ h x σ r.2) := by
  have hAB := xAB I.1
  have Y := I.2.2.2.2.1
  unfold fX4_put
  rw [c_isShelf, k_bs1, k_01i]
  cases ev : k_is v 8 with
  | false =>
    have : k_wr y 2 v = -1 := by unfold k_wr; rw [ev]; rfl
    exact k_some ⟨by simp [p_put, this], by simpa [p_put, this] using I, fc_of E k_ag_rf⟩
  | true =>
  obtain ⟨d, hd, rfl⟩ := k_is_t (by decide) ev
  have L := xL I.1 d hd
  rw [if_pos rfl, c_shelfAt I.1 hd, k_bs1, q_gu_t (lt0 L), show (2 : Int32) = nI 2 from rfl, c_refusal Y vy hd (by decide), k_bs1]
  unfold p_put
  rcases k_wr_cases y 2 (nI d) with ⟨e0, d', hd', e1, e2, -⟩ | q
  · have := (nI_eq (by omega) (by omega)).mp e1
    subst this
    obtain ⟨s3, l4, cc⟩ := (Y d hd).2.2 e2
    obtain ⟨hs, hl⟩ := (vy d hd).2.2 e2
    rw [e0, if_pos rfl, if_pos rfl, l4, c_isIn, k_isI, k_bs1, k_01i, k_cl (by omega)]
    cases ei : k_is i (y 4 d) with
    | false => exact k_some ⟨rfl, I, fc_of E k_ag_rf⟩
    | true =>
      obtain ⟨i, hi, rfl⟩ := k_is_t (by omega) ei
      have en : fX1_narrowed σ h (x + 56 + 3 * d) w = some (k_nw (y 3 d) w) := by
        unfold fX1_narrowed k_nw
        rw [s3]
        simp only [k_eqL (show (0 : Int32) = nI 0 from rfl) (show y 3 d < 2147483648 by omega) (show 0 < 2147483648 by decide), k_eqL (show (1 : Int32) = nI 1 from rfl) (show y 3 d < 2147483648 by omega) (show 1 < 2147483648 by decide)]
        split
        · rfl
        · split <;> rfl
      rw [if_pos rfl, if_pos rfl, lr0 L, q_gu_t (lt1 L), en, k_bs1, c_set (ll1 L) (by omega) (by decide), k_bs1, k_cl (by omega)]
      have g : k_ag (fun a => a ≠ x + 57 + 3 * d) h (q_si h (x + 56 + 3 * d + 1) i (k_nw (y 3 d) w)) := k_ag_si k_ag_rf (fun q => q (by omega))
      refine k_some ⟨rfl, CI_sh I hd I.1 (k_ag_mono g (fun a ha => ha.2.1)) (fun _ h => h) (fun _ _ _ _ _ => rfl) (fun _ _ _ => rfl) (fun j k e => ?_) ⟨?_, fun q1 => ?_, fun q1 => ⟨?_, ?_, fun j hj => ?_⟩⟩, fc_of E (k_ag_mono g (fun a ha e => by unfold k_mz at ha; omega))⟩
      · dsimp only; unfold k_cu; rw [if_neg (fun q => e q.1)]
      · dsimp only; rw [k_si_n (by omega)]; exact (Y d hd).1
      · omega
      · dsimp only; rw [k_si_n (by omega)]; exact s3
      · dsimp only; rw [k_si_n (by omega)]; exact l4
      · dsimp only
        unfold k_cu
        rw [show x + 57 + 3 * d = x + 56 + 3 * d + 1 by omega]
        by_cases e : j = i
        · subst e; rw [k_si_s, if_pos ⟨rfl, rfl⟩]
        · rw [k_si_j e, if_neg (fun q => e q.2), show x + 56 + 3 * d + 1 = x + 57 + 3 * d by omega]; exact cc j hj
  · have n := k_neg q
    rw [if_neg n.2.2, if_neg n.2.2]
    exact k_some ⟨rfl, I, fc_of E k_ag_rf⟩
theorem m_put {σ : q_St} {h : q_Hp} {m : Nat} {z zi y : k_Z} {p : Bool} {c : Nat → Nat → Int32} (I : k_MI σ h m z p zi y c) (vy : k_vy y) (v i w : Int32) : k_ok (fX5_put σ h m v i w) (fun r => r.1 = (p_put y c v i w).1 ∧ k_MI σ r.2 m z p zi y (p_put y c v i w).2 ∧ k_fm σ h m σ r.2) := by
  have M := I.1
  unfold fX5_put
  have A1 : k_mf [21] [17] m h (q_si h m 21 0) := mf_th (by decide)
  have I1 : k_MI σ (q_si h m 21 0) m z p zi y c := MI_mf I (mf_fi (L := [21]) (R := []) mf_rf (by decide)) (by decide) (fun _ _ _ => by simp) (by decide)
  generalize q_si h m 21 0 = h1 at A1 I1 ⊢
  have Y := I1.2.2.2.2.1
  have fm1 : k_fm σ h m σ h1 := ⟨⟨_, _, A1⟩, Or.inl rfl⟩
  rw [mr19 M, mr20 M, mr18 M, q_gu_t ⟨mt16 M, mt17 M, mt15 M⟩, m_wrongRow M Y vy, k_bs1]
  unfold p_put
  rcases k_wr_cases y 2 v with ⟨e0, d, hd, rfl, e2, -⟩ | q
  · obtain ⟨s3, l4, cc⟩ := (Y d hd).2.2 e2
    obtain ⟨hs, hl⟩ := (vy d hd).2.2 e2
    rw [e0, if_pos (by decide), if_pos rfl, ml16 M, q_gu_t (vp_in_nI hd (by decide)), k_cl (by omega), l4, m_in (lo := 0) (by decide) rfl, k_isI, k_bs1, k_01i]
    cases ei : k_is i (y 4 d) with
    | false => exact k_some ⟨rfl, I1, fm1⟩
    | true =>
      obtain ⟨i, hi, rfl⟩ := k_is_t (by omega) ei
      have en : fX5_narrowed σ h1 w (nI (y 3 d)) = some (k_nw (y 3 d) w).toInt64 := by
        unfold fX5_narrowed k_nw
        simp only [k_eqL (show (0 : Int32) = nI 0 from rfl) (show y 3 d < 2147483648 by omega) (show 0 < 2147483648 by decide), k_eqL (show (1 : Int32) = nI 1 from rfl) (show y 3 d < 2147483648 by omega) (show 1 < 2147483648 by decide)]
        split
        · rfl
        · split <;> rfl
      rw [if_pos rfl, if_pos rfl, ml15 M, q_gu_t (vp_in_nI hd (by decide)), s3, en, k_bs1, ml17 M, show (100 : Int32) * nI d = nI (100 * d) from pk_mul 100 d, nI_add, q_gu_t (vp_in_nI (by omega) (by decide)), k_cl (by omega), k_cl (by omega)]
      have A2 : k_mf [21] [17] m h1 (q_sj h1 (m + 17) (100 * d + i) (k_nw (y 3 d) w).toInt64) := mf_al mf_rf (by decide) (by decide)
      refine k_some ⟨rfl, MI_sh (d := d) I1 A2 (by decide) (fun r _ _ => by simp; omega) (by decide) (fun _ _ _ => rfl) (fun j k e => ?_) (fun j hj8 hj => ⟨fun r _ _ => rfl, fun k hk => ?_⟩) ⟨(Y d hd).1, fun q1 => by omega, fun q1 => ⟨s3, l4, fun j hj => ?_⟩⟩, ⟨⟨_, _, mf_tr A1 A2⟩, Or.inl rfl⟩⟩
      · dsimp only; unfold k_cu; rw [if_neg (fun q => e q.1)]
      · rw [k_sj_j (by omega)]
      · dsimp only
        unfold k_cu
        by_cases e : j = i
        · subst e; rw [k_sj_s, if_pos ⟨rfl, rfl⟩]
        · rw [k_sj_j (by omega), if_neg (fun q => e q.2)]; exact cc j hj
  · have n := k_neg q
    rw [if_neg n.1, if_neg n.2.2]
    exact k_some ⟨rfl, I1, fm1⟩
