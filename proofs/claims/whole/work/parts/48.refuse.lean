/-! left over, earned, refuse, sell -/
theorem g_fu_end {E : Nat → Nat → Bool} {nb : Nat} (hE : ∀ s b, nb ≤ b → E s b = false) : ∀ k, g_fu E nb (nb + k) = g_fu E nb nb
  | 0 => rfl
  | k + 1 => by
    have e : g_fs E nb (nb + k) (g_fu E nb (nb + k)) = 9 := by
      rcases g_fsS E nb (nb + k) (g_fu E nb (nb + k)) with ⟨e, -⟩ | ⟨-, -, h3, -⟩
      · exact e
      · unfold g_fp at h3
        rw [hE _ _ (by omega)] at h3
        cases h3
    show (if g_fs E nb (nb + k) (g_fu E nb (nb + k)) = 9 then g_fu E nb (nb + k) else _) = _
    rw [if_pos e]
    exact g_fu_end hE k
theorem g_zN {z : k_Z} {U V : Nat} {kf : Nat → Int32} (s b : Nat) (h : z 0 1 ≤ b) : g_z z U V kf s b = false := g_dpN s b h
def p_leftOver (z : k_Z) : Int32 := nI (p_in z &&& (4294967295 ^^^ g_fu (g_z z 0 0 k_any) (z 0 1) (z 0 1)))
theorem c_leftOver {σ : q_St} {h : q_Hp} {x A B : Nat} {z zi y : k_Z} {p : Bool} {c : Nat → Nat → Int32} (I : k_CI σ h x A B z p zi y c) (K : k_va z) : k_ok (fX4_leftOver σ h x) (fun r => r.1 = p_leftOver z ∧ k_ag (fun a => ¬ k_scr x a) h r.2) := by
  have X := I.1
  have T := xF X
  have b7 := va_nb K
  unfold fX4_leftOver p_leftOver
  rw [xr0 X, xr8 X, q_gu_t ⟨ft0 T, (xA X).1⟩]
  refine k_bind (CI_load I K) (fun h3 p => ?_)
  obtain ⟨L, g⟩ := p
  refine k_b2 (c_chooseZ T K L) (fun r h5 p => ?_)
  obtain ⟨⟨Fr, e, hF, ht⟩, -, g2⟩ := p
  dsimp only at e g2
  refine k_some ⟨?_, scr_oF (k_ag_tr g g2)⟩
  dsimp only
  rw [e]
  congr 1
  apply Nat.eq_of_testBit_eq
  intro t
  have e7 : g_fu (g_z z 0 0 k_any) (z 0 1) 7 = g_fu (g_z z 0 0 k_any) (z 0 1) (z 0 1) := by
    have := g_fu_end (E := g_z z 0 0 k_any) (nb := z 0 1) (fun s b h => g_zN s b h) (7 - z 0 1)
    rw [show z 0 1 + (7 - z 0 1) = 7 by omega] at this
    exact this
  rw [ht, e7, Nat.testBit_and, Nat.testBit_xor, k_m32]
  by_cases h32 : t < 32
  · rw [decide_eq_true h32, Bool.true_xor]
  · rw [show (p_in z).testBit t = false from Nat.testBit_lt_two_pow (Nat.lt_of_lt_of_le (p_inB K) (show 2 ^ 7 ≤ 2 ^ t from Nat.pow_le_pow_right (by decide) (by omega)))]; simp
theorem m_leftOver {σ : q_St} {h : q_Hp} {m : Nat} {z zi y : k_Z} {p : Bool} {c : Nat → Nat → Int32} (I : k_MI σ h m z p zi y c) (K : k_va z) : k_ok (fX5_leftOver σ h m) (fun r => r.1 = p_leftOver z ∧ k_mf [21, 35] [24, 25] m h r.2) := by
  have M := I.1
  have a0 : k_mf [21, 35] [24, 25] m h (q_si h m 21 0) := mf_th (by decide)
  have st : fX5_inState σ (q_si h m 21 0) m 0 = some (nI (p_in z)) := m_state (w := 0) M (W_mf I.2.1 a0 ⟨by decide, by decide, by decide, by decide⟩ (fun r h1 h2 q => by simp at q; omega)) K (by decide)
  unfold fX5_leftOver p_leftOver
  rw [st, k_bs1]
  refine k_b2 (m_layFirst M (D_th I K)) (fun r h5 p => ?_)
  obtain ⟨p1, -, p3⟩ := p
  dsimp only at p1 p3
  refine k_some ⟨?_, mf_tr a0 (mf_mono p3 (by simp) (by simp))⟩
  dsimp only
  rw [p1, show (-1 : Int32) = nI 4294967295 from k_m1, k_xor, k_and, Nat.xor_comm]; rfl
def p_earned (z : k_Z) : Int32 := nI (g_m (g_z z 0 0 k_any) (p_pw z) (z 0 1) (z 0 1) 0)
theorem c_earned {σ : q_St} {h : q_Hp} {x A B : Nat} {z zi y : k_Z} {p : Bool} {c : Nat → Nat → Int32} (I : k_CI σ h x A B z p zi y c) (K : k_va z) : k_ok (fX4_earned σ h x) (fun r => r.1 = p_earned z ∧ k_ag (fun a => ¬ k_scr x a) h r.2) := by
  have X := I.1
  have T := xF X
  unfold fX4_earned
  rw [xr0 X, xr8 X, q_gu_t ⟨ft0 T, (xA X).1⟩]
  refine k_bind (CI_load I K) (fun h3 p => ?_)
  obtain ⟨L, g⟩ := p
  refine k_b2 (c_richZ T K L) (fun r h5 p => ?_)
  exact k_some ⟨p.1, scr_oF (k_ag_tr g (oF_fz p.2))⟩
theorem m_earned {σ : q_St} {h : q_Hp} {m : Nat} {z zi y : k_Z} {p : Bool} {c : Nat → Nat → Int32} (I : k_MI σ h m z p zi y c) (K : k_va z) : k_ok (fX5_earned σ h m) (fun r => r.1 = p_earned z ∧ k_mf [21, 35] [24, 25] m h r.2) := by
  unfold fX5_earned
  refine k_b2 (m_earnedNow I.1 (D_th I K)) (fun r h5 p => ?_)
  exact k_some ⟨p.1, mf_tr (mf_th (by decide)) (mf_mono p.2 (by simp) (by simp))⟩
def k_rv (z : k_Z) (U V : Nat) : Nat := g_m (g_z z U V k_any) (p_pw z) (z 0 1) (z 0 1) 0
theorem k_rvB {z : k_Z} (K : k_va z) (U V : Nat) : k_rv z U V ≤ 336 := by
  have := g_mB (E := g_z z U V k_any) (w := p_pw z) (nb := z 0 1) (T := 48) (fun s b _ => p_pwB K s) (z 0 1) 0
  have b7 := va_nb K
  unfold k_rv
  exact Nat.le_trans this (by omega)
def k_rq (z : k_Z) (b : Nat) : Bool := (z 11 b == 9) && (k_rv z 0 (2 ^ b) == k_rv z 0 0)
def p_refuse (z : k_Z) : Int32 := p_fst (k_rq z) nI (z 0 1)
theorem c_refuse {σ : q_St} {h : q_Hp} {x A B : Nat} {z zi y : k_Z} {p : Bool} {c : Nat → Nat → Int32} (I : k_CI σ h x A B z p zi y c) (K : k_va z) : k_ok (fX4_refuse σ h x) (fun r => r.1 = p_refuse z ∧ k_ag (fun a => ¬ k_scr x a) h r.2) := by
  have X := I.1
  have T := xF X
  have b7 := va_nb K
  have hAB := xAB X
  have oB := p_opB K
  have iB := p_inB K
  unfold fX4_refuse
  rw [xr0 X, xr8 X, q_gu_t ⟨ft0 T, (xA X).1⟩]
  refine k_bind (CI_load I K) (fun h3 p => ?_)
  obtain ⟨L, g⟩ := p
  refine k_b2 (c_richZ T K L) (fun r h5 p => ?_)
  obtain ⟨p1, g2⟩ := p
  dsimp only at p1 g2
  subst p1
  refine k_bind (k_for (n := z 0 1) (P := k_z (fun h' => (∀ b, b < z 0 1 → k_rq z b = false) ∧ k_ag (k_oF (x + 43)) h h') (fun o => (∃ b, o.1 = nI b ∧ b < z 0 1 ∧ k_rq z b = true ∧ ∀ t, t < b → k_rq z t = false) ∧ k_ag (k_oF (x + 43)) h o.2)) (fun i t => t.1 = nI i ∧ (∀ b, b < i → k_rq z b = false) ∧ k_L3 t.2 (x + 43) z ∧ k_ag (k_oF (x + 43)) h t.2) (by rw [k_N]; omega) ⟨rfl, fun b hb => absurd hb (Nat.not_lt_zero _), L3_fz L g2, k_ag_tr g (oF_fz g2)⟩ ?_) (fun o p => ?_)
  · rintro i ⟨x2, h'⟩ hi ⟨e, hz, L', ag⟩
    dsimp only at e hz L' ag
    subst e
    show k_ok (fX4_refuse_35 σ x (nI (k_rv z 0 0)) (nI i) h') _
    unfold fX4_refuse_35
    rw [xr0 X, xr8 X, v_nb (V_oF I.2.1 T (by omega) ag)]
    rcases Nat.lt_or_ge i (z 0 1) with q | q
    · have skip : ∀ h2, k_L3 h2 (x + 43) z → k_ag (k_oF (x + 43)) h h2 → k_rq z i = false → k_ok (fX4_refuse_93 σ h2 x (nI (k_rv z 0 0)) (nI i)) (k_z (fun s' => i < z 0 1 ∧ s'.1 = nI (i + 1) ∧ (∀ b, b < i + 1 → k_rq z b = false) ∧ k_L3 s'.2 (x + 43) z ∧ k_ag (k_oF (x + 43)) h s'.2) (k_z (fun h' => (∀ b, b < z 0 1 → k_rq z b = false) ∧ k_ag (k_oF (x + 43)) h h') (fun o => (∃ b, o.1 = nI b ∧ b < z 0 1 ∧ k_rq z b = true ∧ ∀ t, t < b → k_rq z t = false) ∧ k_ag (k_oF (x + 43)) h o.2))) := fun h2 l2 g2 e => by
        unfold fX4_refuse_93
        rw [nI_1]
        refine k_some ⟨q, rfl, fun s hs => ?_, l2, g2⟩
        by_cases es : s = i
        · rw [es, e]
        · exact hz s (by omega)
      rw [if_neg (nI_ge q (by omega)), L'.1.1.1, L'.1.1.2, c_hasBit (by omega) (by omega), k_bs1, k_01i, p_op_tb, decide_eq_true q, Bool.true_and, k_del (by omega)]
      cases e9 : (z 11 i == 9) with
      | false =>
        rw [if_neg (by decide)]
        exact skip h' L' ag (by unfold k_rq; rw [e9]; rfl)
      | true =>
        rw [if_pos rfl]
        refine k_b2 (c_richest T (k_dlB oB) (by omega) (L3_tk L' K) (L3_pr L' (fun s h => h)) (p_pwB3 K)) (fun r h2 p => ?_)
        obtain ⟨p1, g3⟩ := p
        dsimp only at p1 g3
        rw [p1, p_EzV K, g_zT b7]
        have l2 := L3_fz L' g3
        have a2 := k_ag_tr ag (oF_fz g3)
        have r1 := k_rvB K 0 (2 ^ i)
        have r2 := k_rvB K 0 0
        show k_ok (if nI (k_rv z 0 (2 ^ i)) = nI (k_rv z 0 0) then _ else _) _
        simp only [k_eqL rfl (show k_rv z 0 (2 ^ i) < 2147483648 by omega) (show k_rv z 0 0 < 2147483648 by omega)]
        by_cases hit : k_rv z 0 (2 ^ i) = k_rv z 0 0
        · rw [if_pos hit]
          exact k_some ⟨⟨i, rfl, q, by unfold k_rq; rw [e9, hit]; simp, hz⟩, a2⟩
        · rw [if_neg hit]
          exact skip h2 l2 a2 (by unfold k_rq; rw [e9, Bool.true_and]; simpa using hit)
    · have : i = z 0 1 := by omega
      subst this
      rw [if_pos (nI_le (Nat.le_refl _) (by omega))]
      exact k_some ⟨hz, ag⟩
  · unfold p_refuse
    cases o with
    | inl h' =>
      obtain ⟨hz, ag⟩ := p
      rw [k_elL]
      exact k_some ⟨k_fst_u (Or.inl ⟨rfl, fun b _ hb => hz b hb⟩) p_fstE, scr_oF ag⟩
    | inr o =>
      obtain ⟨⟨b, e, hb, hq, hz⟩, ag⟩ := p
      rw [k_elR]
      exact k_some ⟨k_fst_u (Or.inr ⟨b, Nat.zero_le _, hb, hq, e, fun t _ ht => hz t ht⟩) p_fstE, scr_oF ag⟩
theorem mf_back {L R : List Nat} {m k : Nat} {h h' : q_Hp} (a : k_mf (k :: L) R m h h') (e : q_int h' m k = q_int h m k) : k_mf L R m h h' := ⟨a.1, fun j hj => by
  by_cases q : j = k
  · subst q; exact e
  · exact a.2.1 j (by simp [q, hj]), a.2.2⟩
theorem p2lt {i : Nat} (h : i < 8) : 2 ^ i < 2147483648 := Nat.lt_of_le_of_lt (Nat.pow_le_pow_right (by decide) (show i ≤ 8 by omega)) (by decide)
theorem m_refuse {σ : q_St} {h : q_Hp} {m : Nat} {z zi y : k_Z} {p : Bool} {c : Nat → Nat → Int32} (I : k_MI σ h m z p zi y c) (K : k_va z) : k_ok (fX5_refuse σ h m) (fun r => r.1 = p_refuse z ∧ k_mf [21, 35] [24, 25] m h r.2) := by
  have M := I.1
  have b7 := va_nb K
  have a0 : k_mf [21, 35] [24, 25] m h (q_si h m 21 0) := mf_th (by decide)
  unfold fX5_refuse
  rw [mr12 M, q_gu_t (mt11 M)]
  refine k_b2 (m_earnedNow M (D_th I K)) (fun r h1 p => ?_)
  obtain ⟨p1, a1⟩ := p
  dsimp only at p1 a1
  subst p1
  refine k_bind (k_for (n := z 0 1) (P := fun o => k_fst (k_rq z) nI 0 (z 0 1) o.1 ∧ k_mf [38, 21, 35] [24, 25] m h o.2) (fun i t => t.2.1 = nI i ∧ k_fst (k_rq z) nI 0 i t.1 ∧ k_mf [38, 21, 35] [24, 25] m h t.2.2) (by rw [k_N]; omega) ⟨rfl, k_fst_0, mf_mono (mf_tr a0 (mf_mono a1 (by simp) (by simp))) (by simp) (by simp)⟩ ?_) (fun o p => ?_)
  · rintro i ⟨x2, x3, h'⟩ hi ⟨e, hz, ag⟩
    dsimp only at e hz ag
    subst e
    show k_ok (fX5_refuse_15 σ m (nI (k_rv z 0 0)) x2 (nI i) h') _
    unfold fX5_refuse_15
    rw [ag.2.1 6 (by decide), w_nb I.2.1]
    rcases Nat.lt_or_ge i (z 0 1) with q | q
    · rw [if_neg (nI_ge q (by omega))]
      by_cases h0 : 0 ≤ x2
      · rw [if_pos h0]
        refine k_some ⟨?_, ag⟩
        rcases hz with ⟨e, -⟩ | ⟨N, a, b, t, e, f⟩
        · subst e; exact absurd h0 (by decide)
        · exact Or.inr ⟨N, a, by omega, t, e, f⟩
      · rw [if_neg h0]
        have hx : x2 = -4 ∧ ∀ N, 0 ≤ N → N < i → k_rq z N = false := by
          rcases hz with q1 | ⟨N, a, b, t, e, f⟩
          · exact q1
          · exact absurd (by rw [e]; exact nI_pos' (by omega)) h0
        have ag2 : k_mf [38, 21, 35] [24, 25] m h (q_si h' m 38 (nI (2 ^ i))) := mf_fi ag (by decide)
        have W' := W_mf I.2.1 ag2 ⟨by decide, by decide, by decide, by decide⟩ (fun r h1 h2 q => by simp at q; omega)
        have ha9 := va_ha9 K q
        rw [k_one i (by omega), mr12 M, ml11 M, q_gu_t (vp_in_nI (by omega) (by decide)), k_cl (by omega), w11 W' q]
        simp only [k_eqL (show (9 : Int32) = nI 9 from rfl) (show z 11 i < 2147483648 by omega) (show 9 < 2147483648 by decide)]
        have skip : ∀ h2, k_mf [38, 21, 35] [24, 25] m h h2 → k_rq z i = false → k_ok (fX5_refuse_57 σ h2 m (nI (k_rv z 0 0)) (nI i)) (k_z (fun s' => i < z 0 1 ∧ s'.2.1 = nI (i + 1) ∧ k_fst (k_rq z) nI 0 (i + 1) s'.1 ∧ k_mf [38, 21, 35] [24, 25] m h s'.2.2) (fun o => k_fst (k_rq z) nI 0 (z 0 1) o.1 ∧ k_mf [38, 21, 35] [24, 25] m h o.2)) := fun h2 g2 e => by
          unfold fX5_refuse_57 fX5_refuse_59
          rw [nI_1]
          refine k_some ⟨q, rfl, Or.inl ⟨rfl, fun N _ hN => ?_⟩, g2⟩
          by_cases es : N = i
          · rw [es, e]
          · exact hx.2 N (Nat.zero_le _) (by omega)
        by_cases e9 : z 11 i = 9
        · rw [if_pos e9]
          have D : k_D σ (q_si h' m 38 (nI (2 ^ i))) m (z 0 0) (z 0 1) (k_zo z (2 ^ i)) (k_zm z 0 k_any) (p_pw z) := m_D M W' (vb_va K) (fun g hg => by rw [mf_i ag2 23 (by decide) (by decide) (by decide)]; exact I.2.2.2.2.2.1 g hg) (by rw [ag2.2.1 37 (by decide)]; exact I.2.2.2.2.2.2.1) (by decide) k_si_s (p2lt (by omega))
          refine k_b2 (m_earnedNow M D) (fun r h4 p => ?_)
          obtain ⟨p1, a4⟩ := p
          dsimp only at p1 a4
          subst p1
          have ag4 : k_mf [38, 21, 35] [24, 25] m h h4 := mf_tr ag2 (mf_mono a4 (by simp) (by simp))
          have r1 := k_rvB K 0 (2 ^ i)
          have r2 := k_rvB K 0 0
          show k_ok (if nI (k_rv z 0 (2 ^ i)) = nI (k_rv z 0 0) then _ else _) _
          simp only [k_eqL rfl (show k_rv z 0 (2 ^ i) < 2147483648 by omega) (show k_rv z 0 0 < 2147483648 by omega)]
          by_cases hit : k_rv z 0 (2 ^ i) = k_rv z 0 0
          · rw [if_pos hit]
            unfold fX5_refuse_59
            rw [nI_1]
            exact k_some ⟨q, rfl, Or.inr ⟨i, Nat.zero_le _, by omega, by unfold k_rq; rw [e9, hit]; simp, rfl, fun t ht1 ht => hx.2 t ht1 ht⟩, ag4⟩
          · rw [if_neg hit]
            exact skip h4 ag4 (by unfold k_rq; rw [e9]; simpa using hit)
        · rw [if_neg e9]
          exact skip _ ag2 (by unfold k_rq; simp [e9])
    · have : i = z 0 1 := by omega
      subst this
      rw [if_pos (nI_le (Nat.le_refl _) (by omega))]
      exact k_some ⟨hz, ag⟩
  · obtain ⟨o1, o2⟩ := o
    unfold fX5_refuse_66
    exact k_some ⟨k_fst_u p.1 p_fstE, mf_back (mf_fi p.2 (by decide)) (by rw [k_si_s, I.2.2.2.2.2.2.2])⟩
