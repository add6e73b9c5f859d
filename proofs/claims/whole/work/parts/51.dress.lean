/-! alike: the class dresses, the model chooses; the greatest is the same -/
set_option maxRecDepth 100000 in
theorem k_dgc : ∀ t, t < 512 → ∀ g, g < 3 → ((nI t >>> (((3 : Int32) * (nI (g + 1) - (1 : Int32))) &&& 31)) &&& (7 : Int32)) = nI (t / 8 ^ g % 8) := by decide +kernel
set_option maxRecDepth 100000 in
theorem k_dgm : ∀ t, t < 512 → nI t / (64 : Int32) = nI (t / 64) ∧ (nI t / (8 : Int32)) - (nI t / (8 : Int32)) / (8 : Int32) * (8 : Int32) = nI (t / 8 % 8) ∧ nI t - nI t / (8 : Int32) * (8 : Int32) = nI (t % 8) := by decide +kernel
def k_kc (t g : Nat) : Nat := if g = 0 then 0 else t / 8 ^ (g - 1) % 8
def k_km (t g : Nat) : Nat := if g = 1 then t / 64 % 8 else if g = 2 then t / 8 % 8 else if g = 3 then t % 8 else 0
theorem k_kcB (t g : Nat) : k_kc t g < 8 := by unfold k_kc; split <;> omega
theorem k_kmB (t g : Nat) : k_km t g < 8 := by unfold k_km; repeat' split
                                               all_goals omega
theorem L_ag3 {h h' : q_Hp} {F : Nat} {z : k_Z} (L : k_L h F z) (g : k_ag (fun a => a ≠ F + 3) h h') : k_L h' F z := by
  refine ⟨?_, fun s hs => ?_⟩
  · rw [k_agI g (show F ≠ F + 3 by omega), k_agI g (show F ≠ F + 3 by omega)]; exact L.1
  · rw [k_agI g (show F + 1 ≠ F + 3 by omega), k_agI g (show F + 2 ≠ F + 3 by omega), k_agI g (show F + 4 ≠ F + 3 by omega)]; exact L.2 s hs
theorem oF_3 {F : Nat} {h h' : q_Hp} (g : k_ag (fun a => a ≠ F + 3) h h') : k_ag (k_oF F) h h' := k_ag_mono g (fun a ha e => ha (by subst e; exact ⟨by omega, by omega⟩))
theorem c_dress {σ : q_St} {h : q_Hp} {F A t : Nat} {z : k_Z} (T : k_ft σ F) (V : k_V σ h A z) (K : k_va z) (hAF : A + 10 < F) (L : k_L h F z) (ht : t < 512) : k_ok (fX0_dress σ h F A (nI t)) (fun r => ((r.1 = 1 ∧ k_okd z (k_kc t) ∧ ∃ tk, k_td r.2 F z (k_kc t) 4 tk) ∨ (r.1 = 0 ∧ ¬ k_okd z (k_kc t))) ∧ k_ag (fun a => a ≠ F + 3) h r.2) := by
  have S := vS V
  have n7 := va_ns K
  have b7 := va_nb K
  unfold fX0_dress
  rw [fr0 T, fr2 T, q_gu_t ⟨ft1 T, ft3 T⟩]
  refine k_bind (c_fill (n := 8) (fl1 T) (fl3 T) (by decide) (by omega)) (fun h1 p => ?_)
  obtain ⟨hf, g1⟩ := p
  refine k_bind (k_for (n := 3) (P := k_z (fun h' => k_okd z (k_kc t) ∧ (∃ tk, k_td h' F z (k_kc t) 4 tk) ∧ k_ag (fun a => a ≠ F + 3) h h') (fun o => o.1 = 0 ∧ ¬ k_okd z (k_kc t) ∧ k_ag (fun a => a ≠ F + 3) h o.2)) (fun i u => u.1 = nI (i + 1) ∧ (∀ g, 1 ≤ g → g ≤ i → k_kc t g = 0 ∨ k_sv z g (k_kc t g)) ∧ (∃ tk, k_td u.2 F z (k_kc t) (i + 1) tk) ∧ k_ag (fun a => a ≠ F + 3) h u.2) (by rw [k_N]; omega) ⟨rfl, fun g h1 h2 => by omega, ⟨p_tk z 0, fun s hs => ?_, fun s => ⟨p_tkB K 0 s, fun hs => ?_⟩, fun s b hb => ?_⟩, g1⟩ ?_) (fun o p => ?_)
  · show q_int h1 (F + 3) s = _
    rw [hf s hs]; exact (L.2 s hs).1
  · unfold p_tk
    rw [p_in_tb, decide_eq_false (by omega)]; rfl
  · have : (decide (1 ≤ z 7 b) && decide (z 7 b < 0 + 1)) = false := by
      by_cases e : z 7 b = 0
      · rw [e]; rfl
      · rw [decide_eq_false (show ¬ z 7 b < 0 + 1 by omega), Bool.and_false]
    rw [this]; simp
  · rintro i ⟨x3, h'⟩ hi ⟨e, hok, ⟨tk, D⟩, ag⟩
    dsimp only at e D ag
    subst e
    show k_ok (fX0_dress_13 σ F A (nI t) (nI (i + 1)) h') _
    unfold fX0_dress_13
    rcases Nat.lt_or_ge i 3 with q | q
    · have V' := V_oF V T hAF (oF_3 ag)
      have L' := L_ag3 L ag
      have kcB := k_kcB t (i + 1)
      have ek : t / 8 ^ i % 8 = k_kc t (i + 1) := by unfold k_kc; rw [if_neg (by omega)]; rfl
      rw [if_neg (k_nlL (n := 3) (l := 3) rfl (by omega) (by decide)), c_group V' K (by omega), k_bs1, k_dgc t ht i q, ek, L'.1.1, k_and]
      have mB := k_memB K (i + 1)
      have nB : ∀ s, k_drs z (k_kc t) tk (i + 1) s &&& k_mem z (i + 1) < 128 := fun s => Nat.lt_of_le_of_lt Nat.and_le_right mB
      show k_ok ((q_loop (fun s => fX0_dress_48 σ F A (nI t) (nI (i + 1)) (nI (k_mem z (i + 1))) (nI (k_kc t (i + 1))) s.1 s.2.1 s.2.2) q_N ((0 : Int32), (0 : Int32), h')).bind _) _
      refine k_bind (k_for (n := 8) (P := fun o => o.1 = nI (k_orz (fun s => k_drs z (k_kc t) tk (i + 1) s &&& k_mem z (i + 1)) 8) ∧ (∀ s, s < 8 → q_int o.2 (F + 3) s = nI (k_drs z (k_kc t) tk (i + 1) s)) ∧ k_ag (fun a => a ≠ F + 3) h o.2) (fun j u => u.2.1 = nI j ∧ u.1 = nI (k_orz (fun s => k_drs z (k_kc t) tk (i + 1) s &&& k_mem z (i + 1)) j) ∧ (∀ s, s < 8 → q_int u.2.2 (F + 3) s = nI (if s < j then k_drs z (k_kc t) tk (i + 1) s else tk s)) ∧ k_ag (fun a => a ≠ F + 3) h u.2.2) (by rw [k_N]; omega) ⟨rfl, rfl, fun s hs => by rw [if_neg (by omega)]; exact D.1 s hs, ag⟩ ?_) (fun o p => ?_)
      · rintro j ⟨x6, x7, h2⟩ hj ⟨e7, e6, hc, g2⟩
        dsimp only at e7 e6 hc g2
        subst e7; subst e6
        show k_ok (fX0_dress_48 σ F A (nI t) (nI (i + 1)) (nI (k_mem z (i + 1))) (nI (k_kc t (i + 1))) (nI (k_orz (fun s => k_drs z (k_kc t) tk (i + 1) s &&& k_mem z (i + 1)) j)) (nI j) h2) _
        unfold fX0_dress_48 fX0_dress_86
        rw [fr2 T, fl3 T, k_ofN]
        rcases Nat.lt_or_ge j 8 with q2 | q2
        · rw [if_neg (nI_ge q2 (by decide))]
          have V2 := V_oF V T hAF (oF_3 g2)
          have cj := hc j q2
          rw [if_neg (by omega)] at cj
          have tj := D.2.1 j
          have fin : ∀ h3, k_ag (fun a => a ≠ F + 3) h2 h3 → (∀ s, s < 8 → q_int h3 (F + 3) s = nI (if s < j + 1 then k_drs z (k_kc t) tk (i + 1) s else tk s)) → k_ok ((fX4_at σ h3 (F + 3) (nI j)).bind fun r9 => some (Sum.inl (nI (k_orz (fun s => k_drs z (k_kc t) tk (i + 1) s &&& k_mem z (i + 1)) j) ||| (r9 &&& nI (k_mem z (i + 1))), nI j + 1, h3)) : Option ((Int32 × Int32 × q_Hp) ⊕ (Int32 × q_Hp))) (k_z (fun u => j < 8 ∧ u.2.1 = nI (j + 1) ∧ u.1 = nI (k_orz (fun s => k_drs z (k_kc t) tk (i + 1) s &&& k_mem z (i + 1)) (j + 1)) ∧ (∀ s, s < 8 → q_int u.2.2 (F + 3) s = nI (if s < j + 1 then k_drs z (k_kc t) tk (i + 1) s else tk s)) ∧ k_ag (fun a => a ≠ F + 3) h u.2.2) (fun o => o.1 = nI (k_orz (fun s => k_drs z (k_kc t) tk (i + 1) s &&& k_mem z (i + 1)) 8) ∧ (∀ s, s < 8 → q_int o.2 (F + 3) s = nI (k_drs z (k_kc t) tk (i + 1) s)) ∧ k_ag (fun a => a ≠ F + 3) h o.2)) := fun h3 g3 hc3 => by
            rw [c_at (fl3 T) q2 (by decide), k_bs1, hc3 j q2, if_pos (by omega), k_and, k_or, nI_1]
            exact k_some ⟨q2, rfl, rfl, hc3, k_ag_tr g2 g3⟩
          have keep : k_drs z (k_kc t) tk (i + 1) j = tk j → ∀ s, s < 8 → q_int h2 (F + 3) s = nI (if s < j + 1 then k_drs z (k_kc t) tk (i + 1) s else tk s) := fun ek s hs => by
            rw [hc s hs]
            by_cases es : s = j
            · subst es; rw [if_neg (by omega), if_pos (by omega), ek]
            · have : (s < j) ↔ s < j + 1 := by omega
              simp only [this]
          have cut : k_drs z (k_kc t) tk (i + 1) j = tk j &&& (k_mem z (i + 1) ^^^ 4294967295) → ∀ s, s < 8 → q_int (q_si h2 (F + 3) j (nI (tk j) &&& (nI (k_mem z (i + 1)) ^^^ (-1)))) (F + 3) s = nI (if s < j + 1 then k_drs z (k_kc t) tk (i + 1) s else tk s) := fun ek s hs => by
            by_cases es : s = j
            · subst es; rw [k_si_s, if_pos (by omega), ek, k_anX]
            · rw [k_si_j es, hc s hs]
              have : (s < j) ↔ s < j + 1 := by omega
              simp only [this]
          have gcut : k_ag (fun a => a ≠ F + 3) h2 (q_si h2 (F + 3) j (nI (tk j) &&& (nI (k_mem z (i + 1)) ^^^ (-1)))) := k_ag_si k_ag_rf (fun q => q rfl)
          by_cases hn : j < z 0 0
          · have k8 := va_k K hn
            rw [c_kindOf V2 K hn, k_bs1, q_gu_t (sut (v_su V2 hn)), su0 (v_su V2 hn)]
            simp only [k_eqL rfl (show z 1 j < 2147483648 by omega) (show k_kc t (i + 1) < 2147483648 by omega)]
            by_cases ez : z 1 j = k_kc t (i + 1)
            · rw [if_pos ez]
              exact fin h2 k_ag_rf (keep (by unfold k_drs; rw [if_pos (Or.inl ez)]))
            · rw [if_neg ez, q_gu_t (vp_in_nI q2 (by decide)), k_cl (by omega), cj]
              exact fin _ gcut (cut (by unfold k_drs; rw [if_neg (by omega)]))
          · obtain ⟨a, ea, ha⟩ := c_kindAny S (nI j) (h := h2)
            have t0 := tj.2 (by omega)
            have d0 : k_drs z (k_kc t) tk (i + 1) j = tk j := by unfold k_drs; rw [if_pos (Or.inr (by omega))]
            rw [ea, k_bs1, q_gu_t ha]
            refine k_ite (fun _ => fin h2 k_ag_rf (keep d0)) (fun _ => ?_)
            rw [q_gu_t (vp_in_nI q2 (by decide)), k_cl (by omega), cj]
            exact fin _ gcut (cut (by rw [d0, t0, Nat.zero_and]))
        · have : j = 8 := by omega
          subst this
          rw [if_pos (nI_le (Nat.le_refl _) (by decide))]
          refine k_some ⟨rfl, fun s hs => ?_, g2⟩
          have := hc s hs
          rw [if_pos hs] at this; exact this
      · obtain ⟨o1, o2⟩ := o
        obtain ⟨e1, hc, g2⟩ := p
        dsimp only at e1 hc g2
        subst e1
        have oB := k_orzB nB 8
        have D2 := k_td_up K (by omega) D hc
        have so := k_sv_or K (show 1 ≤ i + 1 by omega) D
        dsimp only
        simp only [k_eqL (show (0 : Int32) = nI 0 from rfl) (show k_orz (fun s => k_drs z (k_kc t) tk (i + 1) s &&& k_mem z (i + 1)) 8 < 2147483648 by omega) (show 0 < 2147483648 by decide), k_eqL (show (0 : Int32) = nI 0 from rfl) (show k_kc t (i + 1) < 2147483648 by omega) (show 0 < 2147483648 by decide)]
        have go : (k_kc t (i + 1) = 0 ∨ k_sv z (i + 1) (k_kc t (i + 1))) → k_ok (fX0_dress_121 σ o2 F A (nI t) (nI (i + 1))) (k_z (fun s' => i < 3 ∧ s'.1 = nI (i + 1 + 1) ∧ (∀ g, 1 ≤ g → g ≤ i + 1 → k_kc t g = 0 ∨ k_sv z g (k_kc t g)) ∧ (∃ tk, k_td s'.2 F z (k_kc t) (i + 1 + 1) tk) ∧ k_ag (fun a => a ≠ F + 3) h s'.2) (k_z (fun h' => k_okd z (k_kc t) ∧ (∃ tk, k_td h' F z (k_kc t) 4 tk) ∧ k_ag (fun a => a ≠ F + 3) h h') (fun o => o.1 = 0 ∧ ¬ k_okd z (k_kc t) ∧ k_ag (fun a => a ≠ F + 3) h o.2))) := fun hs => by
          unfold fX0_dress_121
          rw [nI_1]
          refine k_some ⟨q, rfl, fun g h1 h2 => ?_, ⟨_, D2⟩, g2⟩
          by_cases eg : g = i + 1
          · rw [eg]; exact hs
          · exact hok g h1 (by omega)
        by_cases e0 : k_orz (fun s => k_drs z (k_kc t) tk (i + 1) s &&& k_mem z (i + 1)) 8 = 0
        · rw [if_pos e0]
          by_cases k0 : k_kc t (i + 1) = 0
          · rw [if_pos k0]; exact go (Or.inl k0)
          · rw [if_neg k0]
            refine k_some ⟨rfl, fun ok => ?_, g2⟩
            rcases ok (i + 1) (by omega) (by omega) with q3 | q3
            · exact k0 q3
            · exact so.mp e0 q3
        · rw [if_neg e0]
          exact go (Or.inr (Classical.byContradiction fun n => e0 (so.mpr n)))
    · have : i = 3 := by omega
      subst this
      rw [if_pos (k_ltL (n := 3) (l := 3) rfl (by decide) (by decide))]
      exact k_some ⟨fun g h1 h2 => hok g h1 h2, ⟨tk, D⟩, ag⟩
  · cases o with
    | inl h' =>
      obtain ⟨ok, D, g2⟩ := p
      rw [k_elL]
      exact k_some ⟨Or.inl ⟨rfl, ok, D⟩, g2⟩
    | inr o =>
      obtain ⟨o1, o2⟩ := o
      obtain ⟨e, ok, g2⟩ := p
      rw [k_elR]
      exact k_some ⟨Or.inr ⟨e, ok⟩, g2⟩
theorem k_td_E {h : q_Hp} {F : Nat} {z : k_Z} {kd tk : Nat → Nat} (K : k_va z) (hk : ∀ g, kd g < 8) (D : k_td h F z kd 4 tk) : g_top (k_E tk (p_op z) (p_in z)) (fun _ => 1) = k_va3 z kd := by
  rw [k_va3T K]
  refine g_top_cg (fun s b _ _ => Bool.eq_iff_iff.mpr ?_)
  rw [g_zE hk K]
  unfold k_E
  constructor
  · intro h
    simp only [Bool.and_eq_true] at h
    obtain ⟨⟨h1, h2⟩, h3⟩ := h
    rw [D.2.2 s b h2, p_tk_tb K] at h3
    rw [p_in_tb] at h1
    rw [p_op_tb] at h2
    simp only [Bool.and_eq_true, decide_eq_true_eq, beq_iff_eq, Bool.or_eq_true, Bool.not_eq_true', Bool.and_eq_false_iff, decide_eq_false_iff_not] at h1 h2 h3
    have := va_gr K h2.1
    refine ⟨h1.1, h2.1, h2.2, h1.2, h3.1.2.2, ?_⟩
    rcases h3.2 with q | q
    · left; omega
    · right; exact q.symm
  · rintro ⟨h1, h2, h3, h4, h5, h6⟩
    have ob : (p_op z).testBit b = true := by rw [p_op_tb, decide_eq_true h2, h3]; rfl
    have is : (p_in z).testBit s = true := by rw [p_in_tb, decide_eq_true h1, h4]; rfl
    rw [D.2.2 s b ob, p_tk_tb K, is, ob, decide_eq_true h2, h5]
    rcases h6 with q | q
    · rw [q]; simp
    · rw [q]; simp
def k_mx (f : Nat → Nat) : Nat → Nat
  | 0 => 0
  | n + 1 => max (k_mx f n) (f n)
theorem k_mx_le (f : Nat → Nat) {i : Nat} : ∀ n, i < n → f i ≤ k_mx f n
  | 0, h => absurd h (Nat.not_lt_zero _)
  | n + 1, h => by
    show f i ≤ max (k_mx f n) (f n)
    by_cases e : i = n
    · rw [e]; omega
    · exact Nat.le_trans (k_mx_le f (i := i) n (by omega)) (Nat.le_max_left _ _)
theorem k_mx_or (f : Nat → Nat) : ∀ n, k_mx f n = 0 ∨ ∃ i, i < n ∧ k_mx f n = f i
  | 0 => Or.inl rfl
  | n + 1 => by
    show max (k_mx f n) (f n) = 0 ∨ ∃ i, i < n + 1 ∧ max (k_mx f n) (f n) = f i
    rcases Nat.le_total (k_mx f n) (f n) with l | l
    · exact Or.inr ⟨n, by omega, Nat.max_eq_right l⟩
    · rw [Nat.max_eq_left l]
      rcases k_mx_or f n with e | ⟨i, hi, e⟩
      · exact Or.inl e
      · exact Or.inr ⟨i, by omega, e⟩
def p_alike (z : k_Z) : Int32 := nI (k_mx (fun t => k_va3 z (k_km t)) 512)
theorem c_alike_v {z : k_Z} {v : Nat} (K : k_va z) (h1 : ∀ t, t < 512 → k_okd z (k_kc t) → k_va3 z (k_kc t) ≤ v) (h2 : v = 0 ∨ ∃ t, t < 512 ∧ v = k_va3 z (k_kc t)) : v = k_mx (fun t => k_va3 z (k_km t)) 512 := by
  apply Nat.le_antisymm
  · rcases h2 with e | ⟨t, ht, e⟩
    · omega
    · have := k_mx_le (fun t => k_va3 z (k_km t)) 512 (i := 64 * (t % 8) + 8 * (t / 8 % 8) + t / 64) (by omega)
      rw [e]
      refine Nat.le_trans (Nat.le_of_eq (k_va3_cg K (fun g h3 h1 => ?_) (k_kcB t) (k_kmB _))) this
      have ha : t % 8 < 8 := by omega
      have hb : t / 8 % 8 < 8 := by omega
      have hc : t / 64 < 8 := by omega
      rcases (show g = 1 ∨ g = 2 ∨ g = 3 by omega) with rfl | rfl | rfl
      · show t / 8 ^ 0 % 8 = (64 * (t % 8) + 8 * (t / 8 % 8) + t / 64) / 64 % 8
        rw [Nat.pow_zero, Nat.div_one]
        generalize t % 8 = a at ha ⊢; generalize t / 8 % 8 = b at hb ⊢; generalize t / 64 = c at hc ⊢
        omega
      · show t / 8 ^ 1 % 8 = (64 * (t % 8) + 8 * (t / 8 % 8) + t / 64) / 8 % 8
        rw [Nat.pow_one]
        generalize t / 8 % 8 = b at hb ⊢; generalize t % 8 = a at ha ⊢; generalize t / 64 = c at hc ⊢
        omega
      · show t / 8 ^ 2 % 8 = (64 * (t % 8) + 8 * (t / 8 % 8) + t / 64) % 8
        rw [show 8 ^ 2 = 64 from rfl]; omega
  · rcases k_mx_or (fun t => k_va3 z (k_km t)) 512 with e | ⟨t, ht, e⟩
    · omega
    · rw [e]
      obtain ⟨kd, hB, ok, le⟩ := k_va3_up K (k_kmB t)
      refine Nat.le_trans le ?_
      have b1 := hB 1
      have b2 := hB 2
      have b3 := hB 3
      have cg : ∀ g, g ≤ 3 → 1 ≤ g → kd g = k_kc (kd 1 + 8 * kd 2 + 64 * kd 3) g := fun g h3 h1 => by
        rcases (show g = 1 ∨ g = 2 ∨ g = 3 by omega) with rfl | rfl | rfl
        · show kd 1 = (kd 1 + 8 * kd 2 + 64 * kd 3) / 8 ^ 0 % 8
          rw [Nat.pow_zero]; omega
        · show kd 2 = (kd 1 + 8 * kd 2 + 64 * kd 3) / 8 ^ 1 % 8
          rw [Nat.pow_one]; omega
        · show kd 3 = (kd 1 + 8 * kd 2 + 64 * kd 3) / 8 ^ 2 % 8
          rw [show 8 ^ 2 = 64 from rfl]; omega
      rw [k_va3_cg K cg hB (k_kcB _)]
      refine h1 _ (by omega) (fun g g1 g3 => ?_)
      rw [← cg g g3 g1]
      exact ok g g1 g3
theorem c_alike {σ : q_St} {h : q_Hp} {x A B : Nat} {z zi y : k_Z} {p : Bool} {c : Nat → Nat → Int32} (I : k_CI σ h x A B z p zi y c) (K : k_va z) : k_ok (fX4_alike σ h x) (fun r => r.1 = p_alike z ∧ k_ag (fun a => ¬ k_scr x a) h r.2) := by
  have X := I.1
  have T := xF X
  have hAB := xAB X
  have oB := p_opB K
  have iB := p_inB K
  unfold fX4_alike
  rw [xr0 X, xr8 X, q_gu_t ⟨ft0 T, (xA X).1⟩]
  refine k_bind (CI_load I K) (fun h3 p => ?_)
  obtain ⟨L, g⟩ := p
  refine k_bind (k_for (n := 512) (P := fun o => o.1 = p_alike z ∧ k_ag (k_oF (x + 43)) h o.2) (fun i t => t.2.1 = nI i ∧ (∃ v, t.1 = nI v ∧ v ≤ 7 ∧ (∀ t, t < i → k_okd z (k_kc t) → k_va3 z (k_kc t) ≤ v) ∧ (v = 0 ∨ ∃ t, t < 512 ∧ v = k_va3 z (k_kc t))) ∧ k_L t.2.2 (x + 43) z ∧ k_ag (k_oF (x + 43)) h t.2.2) (by rw [k_N]; omega) ⟨rfl, ⟨0, rfl, by decide, fun t ht => absurd ht (Nat.not_lt_zero _), Or.inl rfl⟩, L.1, g⟩ ?_) (fun o p => by
    obtain ⟨o1, o2⟩ := o
    exact k_some ⟨p.1, scr_oF p.2⟩)
  rintro i ⟨x1, x2, h'⟩ hi ⟨e2, ⟨v, e1, v7, hv, hvv⟩, L', ag⟩
  dsimp only at e2 e1 L' ag
  subst e2; subst e1
  show k_ok (fX4_alike_15 σ x (nI v) (nI i) h') _
  unfold fX4_alike_15
  rw [xr0 X, xr8 X]
  rcases Nat.lt_or_ge i 512 with q | q
  · have V' := V_oF I.2.1 T (by omega) ag
    rw [if_neg (k_geL (n := 512) (l := 512) rfl q (by decide))]
    refine k_b2 (c_dress T V' K (by omega) L' q) (fun r h4 p => ?_)
    obtain ⟨D, g4⟩ := p
    dsimp only at D g4
    have L4 := L_ag3 L' g4
    have ag4 := k_ag_tr ag (oF_3 g4)
    rcases D with ⟨e, ok, tk, D⟩ | ⟨e, ok⟩
    · rw [e, if_neg (by decide), L4.1.1, L4.1.2]
      refine k_b2 (c_most (tk := tk) T oB (by omega) (fun s hs => ⟨D.1 s hs, (D.2.1 s).1⟩)) (fun r h5 p => ?_)
      obtain ⟨p1, g5⟩ := p
      dsimp only at p1 g5
      rw [k_td_E K (k_kcB i) D] at p1
      subst p1
      have L5 : k_L h5 (x + 43) z := by
        have e : ∀ j, j ≤ 4 → ∀ i, q_int h5 (x + 43 + j) i = q_int h4 (x + 43 + j) i := fun j hj i => k_agI g5 ⟨by omega, by omega, by omega, by omega⟩ i
        refine ⟨?_, fun s hs => by rw [e 1 (by decide), e 2 (by decide), e 4 (by decide)]; exact L4.2 s hs⟩
        have := e 0 (by decide)
        rw [Nat.add_zero] at this
        rw [this, this]; exact L4.1
      have ag5 := k_ag_tr ag4 (oF_fz g5)
      have vB := k_va3B K (k_kc i)
      unfold fX4_alike_69 fX4_alike_70
      simp only [k_le2 rfl (show k_va3 z (k_kc i) < 2147483648 by omega) (show v < 2147483648 by omega), nI_1]
      by_cases le : k_va3 z (k_kc i) ≤ v
      · rw [if_pos le]
        refine k_some ⟨q, rfl, ⟨v, rfl, v7, fun t ht hok => ?_, hvv⟩, L5, ag5⟩
        by_cases et : t = i
        · rw [et]; exact le
        · exact hv t (by omega) hok
      · rw [if_neg le]
        refine k_some ⟨q, rfl, ⟨_, rfl, vB, fun t ht hok => ?_, Or.inr ⟨i, q, rfl⟩⟩, L5, ag5⟩
        by_cases et : t = i
        · rw [et]; exact Nat.le_refl _
        · exact Nat.le_trans (hv t (by omega) hok) (by omega)
    · rw [e, if_pos rfl]
      unfold fX4_alike_70
      rw [nI_1]
      refine k_some ⟨q, rfl, ⟨v, rfl, v7, fun t ht hok => ?_, hvv⟩, L4, ag4⟩
      by_cases et : t = i
      · rw [et] at hok; exact absurd hok ok
      · exact hv t (by omega) hok
  · have : i = 512 := by omega
    subst this
    rw [if_pos (k_leL (n := 512) (l := 512) rfl (Nat.le_refl _) (by decide))]
    exact k_some ⟨by unfold p_alike; rw [← c_alike_v K hv hvv], ag⟩
