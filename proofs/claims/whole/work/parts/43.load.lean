/-! the fitting is loaded; the model lays its tables -/
def p_op (z : k_Z) : Nat := k_bs (fun b => z 11 b == 9) (z 0 1)
def p_in (z : k_Z) : Nat := k_bs (fun s => z 5 s == 0) (z 0 0)
def p_tk (z : k_Z) (g s : Nat) : Nat := if (p_in z).testBit s then k_bs (fun b => k_nr (z 3 s) (min (z 6 b + g) 20) (k_gv (z 1 s))) (z 0 1) else 0
def p_pw (z : k_Z) (s : Nat) : Nat := if s < z 0 0 then k_pr (z 1 s) (z 2 s) else 0
def p_e (z : k_Z) (s b : Nat) : Bool := decide (s < z 0 0) && decide (b < z 0 1) && (z 5 s == 0) && (z 11 b == 9) && k_fits z s b
theorem bs_p2 (p : Nat → Bool) {n m : Nat} (h : n ≤ m) : k_bs p n < 2 ^ m := Nat.lt_of_lt_of_le (k_bs_lt p n) (Nat.pow_le_pow_right (by decide) h)
theorem p_opB {z : k_Z} (K : k_va z) : p_op z < 128 := bs_p2 _ (m := 7) (va_nb K)
theorem p_inB {z : k_Z} (K : k_va z) : p_in z < 128 := bs_p2 _ (m := 7) (va_ns K)
theorem p_tkB {z : k_Z} (K : k_va z) (g s : Nat) : p_tk z g s < 128 := by
  unfold p_tk
  split
  · exact bs_p2 _ (m := 7) (va_nb K)
  · decide
theorem p_pwB {z : k_Z} (K : k_va z) (s : Nat) : p_pw z s ≤ 48 := by
  unfold p_pw
  split
  · next h => exact k_prB _ (va_k K h) _ (va_f K h)
  · omega
theorem p_in_tb (z : k_Z) (s : Nat) : (p_in z).testBit s = (decide (s < z 0 0) && (z 5 s == 0)) := k_bs_tb _ _ _
theorem p_op_tb (z : k_Z) (b : Nat) : (p_op z).testBit b = (decide (b < z 0 1) && (z 11 b == 9)) := k_bs_tb _ _ _
theorem p_tk_tb {z : k_Z} (K : k_va z) (s b : Nat) : (p_tk z 0 s).testBit b = ((p_in z).testBit s && (decide (b < z 0 1) && k_fits z s b)) := by
  unfold p_tk
  cases e : (p_in z).testBit s with
  | false => rw [if_neg (by decide), Nat.zero_testBit, Bool.false_and]
  | true =>
    rw [if_pos rfl, k_bs_tb, Bool.true_and]
    by_cases hb : b < z 0 1
    · have := va_wa K hb
      rw [Nat.add_zero, Nat.min_eq_left this]; rfl
    · rw [decide_eq_false hb, Bool.false_and, Bool.false_and]
theorem p_E {z : k_Z} (K : k_va z) (s b : Nat) : k_E (p_tk z 0) (p_op z) (p_in z) s b = p_e z s b := by
  unfold k_E p_e
  rw [p_tk_tb K, p_in_tb, p_op_tb]
  cases decide (s < z 0 0) <;> cases decide (b < z 0 1) <;> cases (z 5 s == 0) <;> cases (z 11 b == 9) <;> cases k_fits z s b <;> rfl
/-- what the fitting holds when it is loaded -/
def k_L (h : q_Hp) (F : Nat) (z : k_Z) : Prop := (q_int h F 9 = nI (p_op z) ∧ q_int h F 10 = nI (p_in z)) ∧ ∀ s, s < 8 → q_int h (F + 1) s = nI (p_tk z 0 s) ∧ q_int h (F + 2) s = nI (p_tk z 1 s) ∧ (s < z 0 0 → q_int h (F + 4) s = nI (p_pw z s))
theorem T_n4 {σ : q_St} {F a : Nat} (T : k_ft σ F) (h : F ≤ a ∧ a ≤ F + 9) : q_tag σ a ≠ 4 := fun q => by
  obtain ⟨j, rfl⟩ : ∃ j, a = F + j := ⟨a - F, by omega⟩
  rcases (show j = 0 ∨ (1 ≤ j ∧ j ≤ 6) ∨ (7 ≤ j ∧ j ≤ 9) by omega) with rfl | e | e
  · rw [Nat.add_zero, T.1] at q; exact absurd q (by decide)
  · rw [(T.2.2.1 j e).1] at q; exact absurd q (by decide)
  · rw [(T.2.2.2 j e).1] at q; exact absurd q (by decide)
def k_oF (F a : Nat) : Prop := ¬ (F ≤ a ∧ a ≤ F + 9)
theorem V_oF {σ : q_St} {h h' : q_Hp} {F A : Nat} {z : k_Z} (V : k_V σ h A z) (T : k_ft σ F) (hAF : A + 10 < F) (g : k_ag (k_oF F) h h') : k_V σ h' A z := V_ag V (vS V) g (fun a h1 h2 q => by omega) (fun a ha => ⟨fun q => T_n4 T q ha, ha⟩) (fun _ _ => rfl)
theorem c_load {σ : q_St} {h : q_Hp} {F A : Nat} {z : k_Z} (T : k_ft σ F) (V : k_V σ h A z) (K : k_va z) (hAF : A + 10 < F) : k_ok (fX0_load σ h F A) (fun h' => k_L h' F z ∧ (∀ s, s < 8 → q_int h' (F + 3) s = nI (p_tk z 0 s)) ∧ k_ag (k_oF F) h h') := by
  have S := vS V
  have n7 := va_ns K
  unfold fX0_load
  rw [fr0 T, fr1 T, fr2 T, fr3 T, sr1 S, q_gu_t ⟨ft1 T, ft3 T, st2 S, ft2 T, ft4 T⟩, c_openB V K, k_bs1]
  have g1 : k_ag (k_oF F) h (q_si h F 9 (nI (p_op z))) := k_ag_si k_ag_rf (fun q => q ⟨by omega, by omega⟩)
  have c1 : fX2_suitsThatAre σ (q_si h F 9 (nI (p_op z))) A 0 = some (nI (p_in z)) := c_state (w := 0) (V_oF V T hAF g1) K (by decide)
  show k_ok (Option.bind (fX2_suitsThatAre σ (q_si h F 9 (nI (p_op z))) A 0) _) _
  rw [c1, k_bs1]
  have g2 : k_ag (k_oF F) h (q_si (q_si h F 9 (nI (p_op z))) F 10 (nI (p_in z))) := k_ag_si g1 (fun q => q ⟨by omega, by omega⟩)
  refine k_bind (k_for (n := 8) (P := fun h' => k_L h' F z ∧ k_ag (k_oF F) h h') (fun i t => t.1 = nI i ∧ (q_int t.2 F 9 = nI (p_op z) ∧ q_int t.2 F 10 = nI (p_in z)) ∧ (∀ s, s < i → q_int t.2 (F + 1) s = nI (p_tk z 0 s) ∧ q_int t.2 (F + 2) s = nI (p_tk z 1 s) ∧ (s < z 0 0 → q_int t.2 (F + 4) s = nI (p_pw z s))) ∧ k_ag (k_oF F) h t.2) (by rw [k_N]; omega) ⟨rfl, ⟨by rw [k_si_j (by decide), k_si_s]; rfl, by rw [k_si_s]⟩, fun j hj => absurd hj (Nat.not_lt_zero _), g2⟩ ?_) (fun h1 p => ?_)
  · rintro i ⟨x, h'⟩ hi ⟨e, f, hz, hg⟩
    dsimp only at e f hz hg
    subst e
    show k_ok (fX0_load_19 σ F A (nI i) h') _
    unfold fX0_load_19
    rw [fr2 T, fl3 T, k_ofN]
    rcases Nat.lt_or_ge i 8 with q | q
    · rw [if_neg (nI_ge q (by decide)), f.2, fr0 T, sr1 S]
      have fin : ∀ (a : Nat) (u1 u2 : Int32), q_tag σ a = 4 → u1 = nI (p_tk z 0 i) → u2 = nI (p_tk z 1 i) → (i < z 0 0 → q_int h a 2 = nI (p_pw z i)) → ∀ h2, k_ag (k_oF F) h' h2 → (∀ j, q_int h2 F j = q_int h' F j) → (∀ r s, 1 ≤ r → r ≤ 4 → (r ≠ 1 ∨ s ≠ i) → q_int h2 (F + r) s = q_int h' (F + r) s) → q_int h2 (F + 1) i = u1 → k_ok (fX0_load_103 σ h2 F A (nI i) a u2 (nI i) (F + 2)) (k_z (fun s' => i < 8 ∧ s'.1 = nI (i + 1) ∧ (q_int s'.2 F 9 = nI (p_op z) ∧ q_int s'.2 F 10 = nI (p_in z)) ∧ (∀ s, s < i + 1 → q_int s'.2 (F + 1) s = nI (p_tk z 0 s) ∧ q_int s'.2 (F + 2) s = nI (p_tk z 1 s) ∧ (s < z 0 0 → q_int s'.2 (F + 4) s = nI (p_pw z s))) ∧ k_ag (k_oF F) h s'.2) (fun h' => k_L h' F z ∧ k_ag (k_oF F) h h')) := by
        intro a u1 u2 ha e1 e2 ep h2 gg hF hr h1i
        unfold fX0_load_103
        rw [q_gu_t (ft2 T), c_set (fl2 T) q (by decide), k_bs1, q_gu_t ha, fr3 T, c_set (fl4 T) q (by decide), k_bs1, nI_1]
        have g3 : k_ag (k_oF F) h (q_si h2 (F + 2) i u2) := k_ag_si (k_ag_tr hg gg) (fun q => q ⟨by omega, by omega⟩)
        have ga : q_int (q_si h2 (F + 2) i u2) a 2 = q_int h a 2 := k_agI g3 (fun q => T_n4 T q ha) 2
        refine k_some ⟨q, rfl, ?_, fun s hs => ?_, k_ag_si g3 (fun q => q ⟨by omega, by omega⟩)⟩
        · dsimp only
          rw [k_si_n (by omega), k_si_n (by omega), k_si_n (by omega), k_si_n (by omega), hF, hF]; exact f
        · dsimp only
          rw [k_si_n (show F + 1 ≠ F + 4 by omega), k_si_n (show F + 1 ≠ F + 2 by omega), k_si_n (show F + 2 ≠ F + 4 by omega)]
          by_cases es : s = i
          · subst es
            refine ⟨by rw [h1i, e1], by rw [k_si_s, e2], fun hn => by rw [k_si_s, ga]; exact ep hn⟩
          · have := hz s (by omega)
            rw [k_si_j es, k_si_j es, k_si_n (show F + 4 ≠ F + 2 by omega), hr 1 s (by decide) (by decide) (Or.inr es), hr 2 s (by decide) (by decide) (Or.inl (by decide)), hr 4 s (by decide) (by decide) (Or.inl (by decide))]
            exact this
      have V' := V_oF V T hAF hg
      have aa : ∃ a, fX2_kindOf σ h' A (nI i) = some a ∧ q_tag σ a = 4 ∧ (i < z 0 0 → k_su σ h a (z 1 i) (z 2 i)) ∧ (i < z 0 0 → k_su σ h' a (z 1 i) (z 2 i)) := by
        by_cases hn : i < z 0 0
        · exact ⟨_, c_kindOf V' K hn, sut (v_su V hn), fun _ => v_su V hn, fun _ => v_su V' hn⟩
        · obtain ⟨a, e, ha⟩ := c_kindAny S (nI i) (h := h')
          exact ⟨a, e, ha, fun q => absurd q hn, fun q => absurd q hn⟩
      obtain ⟨a, ea, ha, ua, ua'⟩ := aa
      obtain ⟨v, ev, hv⟩ : ∃ v, fX4_at σ h' (A + 2) (nI i) = some v ∧ (i < z 0 0 → v = nI (z 3 i)) := by
        by_cases h7 : i < 7
        · exact ⟨_, c_at (sl2 S) h7 (by decide), fun hn => v3 V' hn⟩
        · exact ⟨_, c_atO (sl2 S) (by omega) (by omega), fun hn => by omega⟩
      have in31 : p_in z < 2147483648 := by have := p_inB K; omega
      have ep : i < z 0 0 → q_int h a 2 = nI (p_pw z i) := fun hn => by rw [su2 (ua hn)]; unfold p_pw; rw [if_pos hn]
      rw [ea, k_bs1, ev, k_bs1, c_hasBit in31 (by omega), k_bs1, k_01i]
      have mid : ∀ u1, u1 = nI (p_tk z 0 i) → k_ok (fX0_load_72 σ h' F A (nI i) a v u1 (nI i) (F + 1)) (k_z (fun s' => i < 8 ∧ s'.1 = nI (i + 1) ∧ (q_int s'.2 F 9 = nI (p_op z) ∧ q_int s'.2 F 10 = nI (p_in z)) ∧ (∀ s, s < i + 1 → q_int s'.2 (F + 1) s = nI (p_tk z 0 s) ∧ q_int s'.2 (F + 2) s = nI (p_tk z 1 s) ∧ (s < z 0 0 → q_int s'.2 (F + 4) s = nI (p_pw z s))) ∧ k_ag (k_oF F) h s'.2) (fun h' => k_L h' F z ∧ k_ag (k_oF F) h h')) := by
        intro u1 e1
        unfold fX0_load_72
        have gg : k_ag (k_oF F) h' (q_si h' (F + 1) i u1) := k_ag_si k_ag_rf (fun q => q ⟨by omega, by omega⟩)
        have a2 : ∀ j, q_int (q_si h' (F + 1) i u1) F j = q_int h' F j := fun j => k_si_n (by omega)
        have a3 : ∀ r s, 1 ≤ r → r ≤ 4 → (r ≠ 1 ∨ s ≠ i) → q_int (q_si h' (F + 1) i u1) (F + r) s = q_int h' (F + r) s := fun r s h1 h2 h3 => by
          by_cases er : r = 1
          · subst er
            rcases h3 with q | q
            · exact absurd rfl q
            · exact k_si_j q
          · exact k_si_n (by omega)
        rw [q_gu_t (ft1 T), c_set (fl1 T) q (by decide), k_bs1, a2, f.2, c_hasBit in31 (by omega), k_bs1, k_01i, fr1 T]
        cases eb : (p_in z).testBit i with
        | false =>
          rw [if_neg (by decide)]
          exact fin a u1 0 ha e1 (by unfold p_tk; rw [eb]; rfl) ep _ gg a2 a3 k_si_s
        | true =>
          have hn : i < z 0 0 := by
            rw [p_in_tb] at eb
            simp only [Bool.and_eq_true, decide_eq_true_eq] at eb
            exact eb.1
          have hv' := hv hn
          subst hv'
          have U2 : k_su σ (q_si h' (F + 1) i u1) a (z 1 i) (z 2 i) := su_mv (ua' hn) rfl (fun j => k_agI gg (fun q => T_n4 T q ha) j)
          have sz := va_sz K hn
          rw [if_pos rfl, q_gu_t ha, show (1 : Int32) = nI 1 from rfl, c_takers (V_oF V' T hAF gg) K U2 (by omega) (by decide), k_bs1]
          exact fin a u1 _ ha e1 (by unfold p_tk; rw [eb]; rfl) ep _ gg a2 a3 k_si_s
      cases eb : (p_in z).testBit i with
      | false =>
        rw [if_neg (by decide)]
        exact mid 0 (by unfold p_tk; rw [eb]; rfl)
      | true =>
        have hn : i < z 0 0 := by
          rw [p_in_tb] at eb
          simp only [Bool.and_eq_true, decide_eq_true_eq] at eb
          exact eb.1
        have hv' := hv hn
        subst hv'
        have sz := va_sz K hn
        have ct : fX2_takers σ h' A a (nI (z 3 i)) 0 = some (nI (k_bs (fun b => k_nr (z 3 i) (min (z 6 b + 0) 20) (k_gv (z 1 i))) (z 0 1))) := c_takers (g := 0) V' K (ua' hn) (by omega) (by decide)
        rw [if_pos rfl, q_gu_t ha, ct, k_bs1]
        exact mid _ (by unfold p_tk; rw [eb]; rfl)
    · have : i = 8 := by omega
      subst this
      rw [if_pos (nI_le (Nat.le_refl _) (by decide))]
      exact k_some ⟨⟨f, hz⟩, hg⟩
  · refine k_bind (c_fill (n := 8) (fl1 T) (fl3 T) (by decide) (by omega)) (fun h2 p2 => k_some ⟨⟨?_, fun s hs => ?_⟩, fun s hs => by rw [p2.1 s hs]; exact (p.1.2 s hs).1, k_ag_tr p.2 (k_ag_mono p2.2 (fun a ha e => ha (by subst e; exact ⟨by omega, by omega⟩)))⟩)
    · rw [k_agI p2.2 (show F ≠ F + 3 by omega), k_agI p2.2 (show F ≠ F + 3 by omega)]; exact p.1.1
    · rw [k_agI p2.2 (show F + 1 ≠ F + 3 by omega), k_agI p2.2 (show F + 2 ≠ F + 3 by omega), k_agI p2.2 (show F + 4 ≠ F + 3 by omega)]; exact p.1.2 s hs
