/-! the model's first choice -/
theorem g_dpN {ns nb : Nat} {op : Nat → Bool} {my : Nat → Nat → Bool} (s b : Nat) (h : nb ≤ b) : g_dp ns nb op my s b = false := by unfold g_dp; rw [decide_eq_false (show ¬ b < nb by omega), Bool.and_false]; rfl
theorem g_dpS {ns nb : Nat} {op : Nat → Bool} {my : Nat → Nat → Bool} {s b : Nat} (h : g_dp ns nb op my s b = true) : s < ns := by
  unfold g_dp at h
  simp only [Bool.and_eq_true, decide_eq_true_eq] at h
  exact h.1.1.1
theorem g_wvF (w : Nat → Nat) : g_wv false w = fun _ => 1 := rfl
theorem m_servedNow {σ : q_St} {h : q_Hp} {m ns nb : Nat} {op : Nat → Bool} {my : Nat → Nat → Bool} {w : Nat → Nat} (M : k_M σ m) (D : k_D σ h m ns nb op my w) : k_ok (fX5_servedNow σ h m) (fun r => r.1 = nI (g_m (g_dp ns nb op my) (fun _ => 1) nb nb 0) ∧ k_tb2 r.2 m ns nb 0 (g_dp ns nb op my) (fun _ => 1) ∧ k_mf [35] [24] m h r.2) := by
  unfold fX5_servedNow
  have a1 : k_mf [35] [24] m h (q_si h m 35 0) := mf_fi mf_rf (by decide)
  refine k_b2 (m_layMost (pr := false) M (D_mf D (mf_mono a1 (by simp) (by simp))) k_si_s) (fun r h1 p => ?_)
  obtain ⟨p1, p2, p3⟩ := p
  rw [g_wvF] at p1 p2
  exact k_some ⟨p1, p2, mf_tr a1 (mf_mono p3 (by simp) (by simp))⟩
theorem m_earnedNow {σ : q_St} {h : q_Hp} {m ns nb : Nat} {op : Nat → Bool} {my : Nat → Nat → Bool} {w : Nat → Nat} (M : k_M σ m) (D : k_D σ h m ns nb op my w) : k_ok (fX5_earnedNow σ h m) (fun r => r.1 = nI (g_m (g_dp ns nb op my) w nb nb 0) ∧ k_mf [35] [24] m h r.2) := by
  unfold fX5_earnedNow
  have a1 : k_mf [35] [24] m h (q_si h m 35 1) := mf_fi mf_rf (by decide)
  refine k_b2 (m_layMost (pr := true) M (D_mf D (mf_mono a1 (by simp) (by simp))) k_si_s) (fun r h1 p => ?_)
  obtain ⟨p1, p2, p3⟩ := p
  rw [show g_wv true w = w from rfl] at p1 p2
  exact k_some ⟨p1, mf_tr a1 (mf_mono p3 (by simp) (by simp))⟩
theorem m_layFirst {σ : q_St} {h : q_Hp} {m ns nb : Nat} {op : Nat → Bool} {my : Nat → Nat → Bool} {w : Nat → Nat} (M : k_M σ m) (D : k_D σ h m ns nb op my w) : k_ok (fX5_layFirst σ h m) (fun r => r.1 = nI (g_fu (g_dp ns nb op my) nb nb) ∧ (∀ b, b < nb → q_int r.2 (m + 25) b = nI (g_fs (g_dp ns nb op my) nb b (g_fu (g_dp ns nb op my) nb b))) ∧ k_mf [35] [24, 25] m h r.2) := by
  have n8 := D.1.2
  have b7 := D.2.1.2
  have p2n := pw256 n8
  have gB : ∀ k v, k ≤ nb → g_m (g_dp ns nb op my) (fun _ => 1) nb k v ≤ 7 := fun k v hk => Nat.le_trans (g_mB (T := 1) (fun _ _ _ => Nat.le_refl _) k v) (by omega)
  unfold fX5_layFirst
  rw [mr39 M, mr40 M, q_gu_t ⟨mt24 M, mt25 M⟩]
  refine k_b2 (m_servedNow M D) (fun r h1 p => ?_)
  obtain ⟨-, tb, a1⟩ := p
  dsimp only at tb a1
  refine k_bind (k_for (n := nb) (P := fun r => r.1 = nI (g_fu (g_dp ns nb op my) nb nb) ∧ (∀ b, b < nb → q_int r.2 (m + 25) b = nI (g_fs (g_dp ns nb op my) nb b (g_fu (g_dp ns nb op my) nb b))) ∧ k_mf [35] [24, 25] m h r.2) (fun b t => t.2.1 = nI b ∧ t.1 = nI (g_fu (g_dp ns nb op my) nb b) ∧ (∀ c, c < b → q_int t.2.2 (m + 25) c = nI (g_fs (g_dp ns nb op my) nb c (g_fu (g_dp ns nb op my) nb c))) ∧ k_mf [] [25] m h1 t.2.2) (by rw [k_N]; omega) ⟨rfl, rfl, fun c hc => absurd hc (Nat.not_lt_zero _), mf_rf⟩ ?_) (fun o p => by
    obtain ⟨o1, o2⟩ := o
    exact k_some p)
  rintro b ⟨x1, x2, h'⟩ hb ⟨e2, e1, hc, ag⟩
  dsimp only at e2 e1 hc ag
  subst e2; subst e1
  have a1' : k_mf [21, 35] [24, 25] m h h1 := mf_mono a1 (by simp) (by simp)
  have full : ∀ {h2 : q_Hp}, k_mf [] [25] m h1 h2 → k_mf [35] [24, 25] m h h2 := fun g => mf_tr (mf_mono a1 (by simp) (by simp)) (mf_mono g (by simp) (by simp))
  show k_ok (fX5_layFirst_9 σ m (nI (g_fu (g_dp ns nb op my) nb b)) (nI b) h') _
  generalize eu : g_fu (g_dp ns nb op my) nb b = u
  have hu : u < 2 ^ ns := by rw [← eu]; exact g_fuB (fun s b e => g_dpS e) b
  unfold fX5_layFirst_9
  rw [mr39 M, mr40 M, ml24 M, ml25 M, (full ag).2.1 6 (by decide), D.2.1.1]
  rcases Nat.lt_or_ge b nb with q | q
  · rw [if_neg (nI_ge q (by omega)), show (256 : Int32) * nI b + nI u = nI (256 * b + u) by rw [show (256 : Int32) = nI 256 from rfl, pk_mul, nI_add], q_gu_t ⟨vp_in_nI (by omega) (by decide), vp_in_nI (by omega) (by decide)⟩, k_cl (show b < 2147483648 by omega), k_cl (show 256 * b + u < 2147483648 by omega)]
    have ag9 : k_mf [] [25] m h1 (q_si h' (m + 25) b 9) := mf_ar ag (by decide) (by decide)
    have tbl : ∀ {h2 : q_Hp}, k_mf [] [25] m h1 h2 → ∀ b2, b2 ≤ nb → ∀ u, u < 2 ^ ns → q_int h2 (m + 24) (256 * b2 + u) = nI (g_m (g_dp ns nb op my) (fun _ => 1) nb (nb - b2) u) := fun g b2 hb2 u hu => by
      rw [mf_i g 24 (by decide) (by decide) (by decide)]
      exact tb b2 (Nat.zero_le _) hb2 u hu
    rw [tbl ag b (by omega) u hu, (full ag9).2.1 0 (by decide), D.1.1]
    refine k_bind (k_for (n := ns) (P := fun h2 => q_int h2 (m + 25) b = nI (g_fs (g_dp ns nb op my) nb b u) ∧ (∀ c, c < b → q_int h2 (m + 25) c = q_int h' (m + 25) c) ∧ k_mf [] [25] m h1 h2) (fun i t => t.1 = nI (ns - i) - 1 ∧ (∃ r, q_int t.2 (m + 25) b = nI r ∧ k_lz (g_fp (g_dp ns nb op my) nb b u) (ns - i) ns r) ∧ (∀ c, c < b → q_int t.2 (m + 25) c = q_int h' (m + 25) c) ∧ k_mf [] [25] m h1 t.2) (by rw [k_N]; omega) ⟨by rw [Nat.sub_zero], ⟨9, k_si_s, Or.inl ⟨rfl, fun s h1 h2 => by omega⟩⟩, fun c hcb => k_si_j (by omega), ag9⟩ ?_) (fun h2 p => ?_)
    · rintro i ⟨x4, h2⟩ hi ⟨e4, ⟨r, er, hr⟩, hcc, ag2⟩
      dsimp only at e4 er hcc ag2
      subst e4
      show k_ok (fX5_layFirst_46 σ m (nI u) (nI b) (nI (g_m (g_dp ns nb op my) (fun _ => 1) nb (nb - b) u)) (nI (ns - i) - 1) h2) _
      unfold fX5_layFirst_46
      have d := D.2.2.1 h2 (mf_mono (full ag2) (by simp) (by simp))
      have done : ∀ r', q_int h2 (m + 25) b = nI r' → k_lz (g_fp (g_dp ns nb op my) nb b u) 0 ns r' → k_ok (some (Sum.inr h2) : Option ((Int32 × q_Hp) ⊕ q_Hp)) (k_z (fun s' => i < ns ∧ s'.1 = nI (ns - (i + 1)) - 1 ∧ (∃ r, q_int s'.2 (m + 25) b = nI r ∧ k_lz (g_fp (g_dp ns nb op my) nb b u) (ns - (i + 1)) ns r) ∧ (∀ c, c < b → q_int s'.2 (m + 25) c = q_int h' (m + 25) c) ∧ k_mf [] [25] m h1 s'.2) (fun h2 => q_int h2 (m + 25) b = nI (g_fs (g_dp ns nb op my) nb b u) ∧ (∀ c, c < b → q_int h2 (m + 25) c = q_int h' (m + 25) c) ∧ k_mf [] [25] m h1 h2)) := fun r' e hr' => by
        refine k_some ⟨?_, hcc, ag2⟩
        rw [e, k_lzU n8 (Nat.le_refl 8) (fun s hs h1 => ?_) hr' (g_fsS (g_dp ns nb op my) nb b u)]
        unfold g_fp g_dp
        rw [decide_eq_false (by omega)]; rfl
      rcases Nat.lt_or_ge i ns with q2 | q2
      · obtain ⟨s, es⟩ : ∃ s, ns - i = s + 1 := ⟨ns - i - 1, by omega⟩
        have es' : ns - (i + 1) = s := by omega
        rw [es, nI_pred, if_neg (nI_pos (by omega)), d.1 b q, k_bs1, k_01i]
        rw [es] at hr
        have eE : g_dp ns nb op my s b = (op b && my s b) := by unfold g_dp; rw [decide_eq_true (show s < ns by omega), decide_eq_true q]; rfl
        cases eo : op b with
        | false =>
          rw [if_neg (by decide)]
          have no : ∀ t, g_fp (g_dp ns nb op my) nb b u t = false := fun t => by
            unfold g_fp g_dp
            rw [eo, Bool.and_false]; rfl
          rcases hr with ⟨e9, -⟩ | ⟨-, -, hp, -⟩
          · exact done r er (Or.inl ⟨e9, fun t _ _ => no t⟩)
          · rw [no] at hp; cases hp
        | true =>
          rw [eo, Bool.true_and] at eE
          rw [if_pos rfl, m_hasBit (by omega) (by omega), k_bs1, k_01i]
          have keep : g_fp (g_dp ns nb op my) nb b u s = false → k_ok (fX5_layFirst_127 σ h2 m (nI u) (nI b) (nI (g_m (g_dp ns nb op my) (fun _ => 1) nb (nb - b) u)) (nI s) (nI b) (m + 25)) (k_z (fun s' => i < ns ∧ s'.1 = nI (ns - (i + 1)) - 1 ∧ (∃ r, q_int s'.2 (m + 25) b = nI r ∧ k_lz (g_fp (g_dp ns nb op my) nb b u) (ns - (i + 1)) ns r) ∧ (∀ c, c < b → q_int s'.2 (m + 25) c = q_int h' (m + 25) c) ∧ k_mf [] [25] m h1 s'.2) (fun h2 => q_int h2 (m + 25) b = nI (g_fs (g_dp ns nb op my) nb b u) ∧ (∀ c, c < b → q_int h2 (m + 25) c = q_int h' (m + 25) c) ∧ k_mf [] [25] m h1 h2)) := fun ef => by
            unfold fX5_layFirst_127 fX5_layFirst_133
            rw [mr40 M, ml25 M, q_gu_t (vp_in_nI (by omega) (by decide)), q_gu_t ⟨mt25 M, vp_in_nI (by omega) (by decide)⟩, k_cl (by omega), er, es']
            refine k_some ⟨q2, (Int32.sub_eq_add_neg _ _).symm, ⟨r, k_si_s, ?_⟩, fun c hcb => by dsimp only; rw [k_si_j (by omega)]; exact hcc c hcb, mf_ar ag2 (by decide) (by decide)⟩
            rcases hr with ⟨e9, h9⟩ | ⟨r1, r2, r3, r4⟩
            · refine Or.inl ⟨e9, fun t t1 t2 => ?_⟩
              by_cases et : t = s
              · rw [et, ef]
              · exact h9 t (by omega) t2
            · refine Or.inr ⟨by omega, r2, r3, fun t t1 t2 => ?_⟩
              by_cases et : t = s
              · rw [et, ef]
              · exact r4 t (by omega) t2
          have skip : g_fp (g_dp ns nb op my) nb b u s = false → k_ok (fX5_layFirst_82 σ h2 m (nI u) (nI b) (nI (g_m (g_dp ns nb op my) (fun _ => 1) nb (nb - b) u)) (nI s)) (k_z (fun s' => i < ns ∧ s'.1 = nI (ns - (i + 1)) - 1 ∧ (∃ r, q_int s'.2 (m + 25) b = nI r ∧ k_lz (g_fp (g_dp ns nb op my) nb b u) (ns - (i + 1)) ns r) ∧ (∀ c, c < b → q_int s'.2 (m + 25) c = q_int h' (m + 25) c) ∧ k_mf [] [25] m h1 s'.2) (fun h2 => q_int h2 (m + 25) b = nI (g_fs (g_dp ns nb op my) nb b u) ∧ (∀ c, c < b → q_int h2 (m + 25) c = q_int h' (m + 25) c) ∧ k_mf [] [25] m h1 h2)) := fun ef => by
            unfold fX5_layFirst_82 fX5_layFirst_83
            rw [if_pos rfl, mr40 M]
            exact keep ef
          cases et : u.testBit s with
          | true => rw [if_pos rfl]; exact skip (by unfold g_fp; rw [et]; simp)
          | false =>
            rw [if_neg (by decide), d.2.1 s b (by omega) q, k_bs1, k_01i]
            cases em : my s b with
            | false => rw [if_neg (by decide)]; exact skip (by unfold g_fp; rw [eE, em]; rfl)
            | true =>
              rw [if_pos rfl]
              unfold fX5_layFirst_83
              have ou := g_or_lt hu (show s < ns by omega)
              rw [if_neg (by decide), mr39 M, mr40 M, ml24 M, k_one s (by omega), k_or, show (256 : Int32) * nI b + 256 + nI (u ||| 2 ^ s) = nI (256 * (b + 1) + (u ||| 2 ^ s)) by rw [show (256 : Int32) = nI 256 from rfl, pk_mul, nI_add, nI_add]; rfl, q_gu_t (vp_in_nI (by omega) (by decide)), k_cl (by omega), tbl ag2 (b + 1) (by omega) _ ou, show (1 : Int32) = nI 1 from rfl, nI_add]
              have b1 := gB (nb - (b + 1)) (u ||| 2 ^ s) (by omega)
              have b2 := gB (nb - b) u (by omega)
              simp only [k_eqL rfl (show 1 + g_m (g_dp ns nb op my) (fun _ => 1) nb (nb - (b + 1)) (u ||| 2 ^ s) < 2147483648 by omega) (show g_m (g_dp ns nb op my) (fun _ => 1) nb (nb - b) u < 2147483648 by omega)]
              by_cases hit : 1 + g_m (g_dp ns nb op my) (fun _ => 1) nb (nb - (b + 1)) (u ||| 2 ^ s) = g_m (g_dp ns nb op my) (fun _ => 1) nb (nb - b) u
              · rw [if_pos hit]
                unfold fX5_layFirst_133
                rw [ml25 M, q_gu_t ⟨mt25 M, vp_in_nI (by omega) (by decide)⟩, k_cl (by omega), es']
                refine k_some ⟨q2, (Int32.sub_eq_add_neg _ _).symm, ⟨s, k_si_s, Or.inr ⟨Nat.le_refl _, by omega, ?_, fun t t1 t2 => by omega⟩⟩, fun c hcb => by dsimp only; rw [k_si_j (by omega)]; exact hcc c hcb, mf_ar ag2 (by decide) (by decide)⟩
                unfold g_fp
                rw [eE, em, et, hit]; simp
              · rw [if_neg hit]
                refine keep ?_
                unfold g_fp
                rw [show (1 + g_m (g_dp ns nb op my) (fun _ => 1) nb (nb - (b + 1)) (u ||| 2 ^ s) == g_m (g_dp ns nb op my) (fun _ => 1) nb (nb - b) u) = false by simpa using hit, Bool.and_false]
      · have : i = ns := by omega
        subst this
        rw [Nat.sub_self] at hr ⊢
        rw [if_pos (by decide)]
        exact done r er hr
    · obtain ⟨eb, hcc, ag2⟩ := p
      have s9 := g_fsB (g_dp ns nb op my) nb b u
      have eN : g_fu (g_dp ns nb op my) nb (b + 1) = if g_fs (g_dp ns nb op my) nb b u = 9 then u else u ||| 2 ^ g_fs (g_dp ns nb op my) nb b u := by rw [← eu]; rfl
      have cs : ∀ c, c < b + 1 → q_int h2 (m + 25) c = nI (g_fs (g_dp ns nb op my) nb c (g_fu (g_dp ns nb op my) nb c)) := fun c hcb => by
        by_cases e : c = b
        · subst e; rw [eb, eu]
        · rw [hcc c (by omega)]; exact hc c (by omega)
      unfold fX5_layFirst_140 fX5_layFirst_164
      rw [mr40 M, ml25 M, q_gu_t (vp_in_nI (by omega) (by decide)), k_cl (by omega), eb]
      simp only [k_eqL (show (9 : Int32) = nI 9 from rfl) (show g_fs (g_dp ns nb op my) nb b u < 2147483648 by omega) (show 9 < 2147483648 by decide), nI_1]
      by_cases e9 : g_fs (g_dp ns nb op my) nb b u = 9
      · rw [if_pos e9, show (0 : Int32) = nI 0 from rfl, k_or, Nat.or_zero]
        exact k_some ⟨q, rfl, by rw [eN, if_pos e9], cs, ag2⟩
      · have s8 := (g_fs8 e9).1
        rw [if_neg e9, k_one _ (by omega), k_or]
        exact k_some ⟨q, rfl, by rw [eN, if_neg e9], cs, ag2⟩
  · have : b = nb := by omega
    subst this
    rw [if_pos (nI_le (Nat.le_refl _) (by omega))]
    exact k_some ⟨by rw [eu], hc, full ag⟩
