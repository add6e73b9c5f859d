/-! oneMore and buy -/
def k_L7 (h : q_Hp) (F : Nat) (z : k_Z) : Prop := (q_int h F 9 = nI (p_op z) ∧ q_int h F 10 = nI (p_in z)) ∧ (∀ s, s < 7 → q_int h (F + 3) s = nI (p_tk z 0 s)) ∧ ∀ s, s < 7 → s < z 0 0 → q_int h (F + 4) s = nI (p_pw z s)
theorem L7_of {h : q_Hp} {F : Nat} {z : k_Z} (L : k_L3 h F z) : k_L7 h F z := ⟨L.1.1, fun s hs => L.2 s (by omega), fun s hs hn => (L.1.2 s (by omega)).2.2 hn⟩
theorem L7_fz {h h' : q_Hp} {F : Nat} {z : k_Z} (L : k_L7 h F z) (g : k_ag (k_fz F) h h') : k_L7 h' F z := by
  have e : ∀ j, j ≤ 4 → ∀ i, q_int h' (F + j) i = q_int h (F + j) i := fun j hj i => k_agI g ⟨by omega, by omega, by omega, by omega⟩ i
  refine ⟨?_, fun s hs => by rw [e 3 (by decide)]; exact L.2.1 s hs, fun s hs hn => by rw [e 4 (by decide)]; exact L.2.2 s hs hn⟩
  have := e 0 (by decide)
  rw [Nat.add_zero] at this
  rw [this, this]; exact L.1
def k_tkx (z : k_Z) (k sz : Nat) : Nat := k_bs (fun b => k_nr sz (min (z 6 b + 0) 20) (k_gv k)) (z 0 1)
theorem c_lend {σ : q_St} {h : q_Hp} {F A a k f sz : Nat} {z : k_Z} (T : k_ft σ F) (V : k_V σ h A z) (K : k_va z) (U : k_su σ h a k f) (hz : sz < 21) (L : k_L7 h F z) : k_ok (fX0_lend σ h F A a (nI sz)) (fun h' => k_L7 h' F z ∧ q_int h' (F + 3) 7 = nI (k_tkx z k sz) ∧ q_int h' (F + 4) 7 = nI (k_pr k f) ∧ k_ag (k_oF F) h h') := by
  have g1 : ∀ v, k_ag (k_oF F) h (q_si h (F + 3) 7 v) := fun v => k_ag_si k_ag_rf (fun q => q ⟨by omega, by omega⟩)
  have ct : fX2_takers σ h A a (nI sz) 0 = some (nI (k_tkx z k sz)) := c_takers (g := 0) V K U hz (by decide)
  unfold fX0_lend fX0_lend_12
  rw [fr2 T, fr3 T, q_gu_t ⟨ft3 T, ft4 T⟩, q_gu_t (sut U), ct, k_bs1, show (7 : Int32) = nI 7 from rfl, c_set (fl3 T) (by decide) (by decide), k_bs1, c_set (fl4 T) (by decide) (by decide), k_bs1, k_agI (g1 _) (show k_oF F a from fun q => T_n4 T q (sut U)), su2 U]
  refine k_some ⟨⟨?_, fun s hs => ?_, fun s hs hn => ?_⟩, ?_, k_si_s, k_ag_si (g1 _) (fun q => q ⟨by omega, by omega⟩)⟩
  · rw [k_si_n (by omega), k_si_n (by omega), k_si_n (by omega), k_si_n (by omega)]; exact L.1
  · rw [k_si_n (by omega), k_si_j (by omega)]; exact L.2.1 s hs
  · rw [k_si_j (by omega), k_si_n (by omega)]; exact L.2.2 s hs hn
  · rw [k_si_n (by omega), k_si_s]
theorem k_tk7 {z : k_Z} (K : k_va z) {k sz : Nat} {s b : Nat} (hs : s < 8) : k_E (fun s => if s = 7 then k_tkx z k sz else p_tk z 0 s) (p_op z) (p_in z ||| 2 ^ 7) s b = g_x z k sz s b := by
  have n7 := va_ns K
  have h1 := congrFun (congrFun (p_Ez K) s) b
  unfold k_E at h1 ⊢
  unfold g_x
  rw [g_or_tb]
  dsimp only
  by_cases e : s = 7
  · rw [if_pos e, if_pos e, decide_eq_true e.symm, Bool.or_true, Bool.true_and, p_op_tb]
    unfold k_tkx
    rw [k_bs_tb]
    by_cases hb : b < z 0 1
    · have := va_wa K hb
      rw [decide_eq_true hb, Bool.true_and, Bool.true_and, Nat.add_zero, Nat.min_eq_left this]
    · rw [decide_eq_false hb]; rfl
  · rw [if_neg e, if_neg e, decide_eq_false (show ¬ 7 = s from fun q => e q.symm), Bool.or_false]
    exact h1
theorem k_tkxB {z : k_Z} (K : k_va z) (k sz : Nat) : k_tkx z k sz < 128 := bs_p2 _ (m := 7) (va_nb K)
theorem k_L7tk {h : q_Hp} {F k sz : Nat} {z : k_Z} (K : k_va z) (L : k_L7 h F z) (e : q_int h (F + 3) 7 = nI (k_tkx z k sz)) : ∀ s, s < 8 → q_int h (F + 3) s = nI ((fun s => if s = 7 then k_tkx z k sz else p_tk z 0 s) s) ∧ (fun s => if s = 7 then k_tkx z k sz else p_tk z 0 s) s < 128 := fun s hs => by
  dsimp only
  by_cases e7 : s = 7
  · subst e7; rw [if_pos rfl]; exact ⟨e, k_tkxB K k sz⟩
  · rw [if_neg e7]; exact ⟨L.2.1 s (by omega), p_tkB K 0 s⟩
theorem k_in128 {z : k_Z} (K : k_va z) : p_in z ||| 2 ^ 7 < 256 := Nat.or_lt_two_pow (n := 8) (by have := p_inB K; omega) (by decide)
theorem c_most7 {σ : q_St} {h : q_Hp} {F k sz : Nat} {z : k_Z} (T : k_ft σ F) (K : k_va z) (L : k_L7 h F z) (e : q_int h (F + 3) 7 = nI (k_tkx z k sz)) : k_ok (fX0_most σ h F (q_int h F 9) (q_int h F 10 ||| (128 : Int32))) (fun r => r.1 = nI (g_top (g_x z k sz) (fun _ => 1)) ∧ k_ag (k_fz F) h r.2) := by
  rw [L.1.1, L.1.2, show (128 : Int32) = nI (2 ^ 7) from rfl, k_or]
  refine k_mono (c_most T (p_opB K) (k_in128 K) (k_L7tk K L e)) (fun r p => ⟨?_, p.2⟩)
  rw [p.1, g_top_cg (fun s b hs _ => k_tk7 K hs)]
theorem g_wxB {z : k_Z} (K : k_va z) {k f : Nat} (hk : k < 8) (hf : f < 10) (s : Nat) : g_wx z k f s ≤ 48 := by
  unfold g_wx
  split
  · exact k_prB _ hk _ hf
  · exact p_pwB K s
theorem c_rich7 {σ : q_St} {h : q_Hp} {F k f sz : Nat} {z : k_Z} (T : k_ft σ F) (K : k_va z) (L : k_L7 h F z) (e : q_int h (F + 3) 7 = nI (k_tkx z k sz)) (e2 : q_int h (F + 4) 7 = nI (k_pr k f)) (hk : k < 8) (hf : f < 10) : k_ok (fX0_richest σ h F (q_int h F 9) (q_int h F 10 ||| (128 : Int32))) (fun r => r.1 = nI (g_top (g_x z k sz) (g_wx z k f)) ∧ k_ag (k_fz F) h r.2) := by
  rw [L.1.1, L.1.2, show (128 : Int32) = nI (2 ^ 7) from rfl, k_or]
  refine k_mono (c_richest (w := g_wx z k f) T (p_opB K) (k_in128 K) (k_L7tk K L e) (fun s hs hq => ?_) (fun s hs => by have := g_wxB K hk hf s; omega)) (fun r p => ⟨?_, p.2⟩)
  · unfold g_wx
    by_cases e7 : s = 7
    · subst e7; rw [if_pos rfl]; exact e2
    · rw [if_neg e7]
      rw [g_or_tb, decide_eq_false (show ¬ 7 = s from fun q => e7 q.symm), Bool.or_false, p_in_tb] at hq
      simp only [Bool.and_eq_true, decide_eq_true_eq] at hq
      exact L.2.2 s (by omega) hq.1
  · rw [p.1, g_top_cg (fun s b hs _ => k_tk7 K hs)]
/-! the model -/
theorem k_sr_id {σ : q_St} {a k v : Nat} : q_sr (q_sr σ a k v) a k v = q_sr σ a k v := by
  have e : ∀ b j, q_ref (q_sr (q_sr σ a k v) a k v) b j = q_ref (q_sr σ a k v) b j := fun b j => by
    by_cases h : b = a
    · subst h
      by_cases h2 : j = k
      · subst h2; rw [k_sr_s, k_sr_s]
      · rw [k_sr_j h2]
    · rw [k_sr_n h]
  exact congrArg (fun r => (σ.1, σ.2.1, σ.2.2.1, r)) (funext fun b => funext fun j => e b j)
theorem m_open {σ : q_St} {h : q_Hp} {m : Nat} {z : k_Z} (M : k_M σ m) (W : k_W h m z) (K : k_va z) : k_ok (fX5_open σ h m) (fun r => r.1 = q_sr σ m 34 (m + 21) ∧ k_I r.2 (m + 21) z ∧ k_mf [32, 33] [21] m h r.2) := by
  unfold fX5_open
  rw [mr29 M, q_gu_t (mt21 M)]
  refine k_b2 (show k_ok (fX5_carryAll σ h m (m + 21) 1) _ from m_carry (tk := true) M (t := 21) (Or.inl rfl)) (fun σ2 h2 p => ?_)
  have t := m_take W K p.2
  exact k_some ⟨p.1, t.1, t.2⟩
theorem m_close {σ : q_St} {h : q_Hp} {m : Nat} {z : k_Z} (M : k_M σ m) (I : k_I h (m + 21) z) (K : k_va z) : k_ok (fX5_close σ h m) (fun r => r.1 = q_sr σ m 34 (m + 21) ∧ k_W r.2 m z ∧ k_mf [0, 6, 13, 14, 32, 33] [1, 2, 3, 4, 5, 6, 7, 8, 9, 10, 11] m h r.2) := by
  unfold fX5_close
  rw [mr29 M, q_gu_t (mt21 M)]
  refine k_b2 (show k_ok (fX5_carryAll σ h m (m + 21) 0) _ from m_carry (tk := false) M (t := 21) (Or.inl rfl)) (fun σ2 h2 p => ?_)
  have t := m_lay I K p.2
  exact k_some ⟨p.1, t.1, t.2⟩
def k_lo : List Nat := [0, 6, 13, 14, 21, 32, 33, 35]
def k_ro : List Nat := [1, 2, 3, 4, 5, 6, 7, 8, 9, 10, 11, 21, 24]
def k_T (m : Nat) (h : q_Hp) (z : k_Z) (h' : q_Hp) : Prop := k_W h' m z ∧ k_I h' (m + 21) z ∧ k_mf k_lo k_ro m h h'
theorem g_xT {z : k_Z} {k f sz wo : Nat} (K : k_va z) : g_m (g_z (k_zx z k f sz wo) 0 0 k_any) (fun _ => 1) (k_zx z k f sz wo 0 1) (k_zx z k f sz wo 0 1) 0 = g_top (g_x z k sz) (fun _ => 1) ∧ g_m (g_z (k_zx z k f sz wo) 0 0 k_any) (p_pw (k_zx z k f sz wo)) (k_zx z k f sz wo 0 1) (k_zx z k f sz wo 0 1) 0 = g_top (g_x z k sz) (g_wx z k f) := by
  have n7 := va_ns K
  have e1 : k_zx z k f sz wo 0 1 = z 0 1 := zx_0 (by decide)
  have t : ∀ w, g_m (g_z (k_zx z k f sz wo) 0 0 k_any) w (k_zx z k f sz wo 0 1) (k_zx z k f sz wo 0 1) 0 = g_top (g_z (k_zx z k f sz wo) 0 0 k_any) w := fun w => (g_zT (z := k_zx z k f sz wo) (U := 0) (V := 0) (kf := k_any) (w := w) (by rw [e1]; exact va_nb K)).symm
  rw [t, t]
  constructor
  · rw [← g_top_permE (f := k_sw (z 0 0)) (k_swS n7)]
    exact g_top_cg (fun s b hs hb => g_xE K hs hb)
  · rw [← g_top_permE (f := k_sw (z 0 0)) (k_swS n7), g_top_cg (E' := g_x z k sz) (fun s b hs hb => g_xE K hs hb)]
    refine g_top_cgw (fun s hs => ?_)
    by_cases l : s < z 0 0 ∨ s = 7
    · exact g_wxE K hs l
    · have : ¬ k_sw (z 0 0) s < z 0 0 + 1 := by
        unfold k_sw
        by_cases e : s = z 0 0
        · rw [if_pos e]; omega
        · rw [if_neg e, if_neg (by omega)]; omega
      unfold p_pw g_wx
      rw [zx_00, if_neg this, if_neg (by omega)]
      unfold p_pw
      rw [if_neg (by omega)]
theorem m_try {σ : q_St} {h h' : q_Hp} {m k f sz : Nat} {z : k_Z} (M : k_M σ m) (K : k_va z) (F : k_Kf h m) (Q : k_T m h z h') (hk : k < 8) (hf : f < 10) (hz : sz ≤ 20) : k_ok (fX5_add σ h' m (nI k) (nI f) (nI sz)) (fun h1 => (k_I h1 (m + 21) z ∧ k_mf k_lo k_ro m h h1) ∧ ∃ wo, k_D σ h1 m (k_zx z k f sz wo 0 0) (k_zx z k f sz wo 0 1) (k_zo (k_zx z k f sz wo) 0) (k_zm (k_zx z k f sz wo) 0 k_any) (p_pw (k_zx z k f sz wo))) := by
  refine k_mono (m_add M Q.1 K) (fun h1 p => ?_)
  obtain ⟨⟨wo, W1⟩, a⟩ := p
  have a1 : k_mf k_lo k_ro m h h1 := mf_tr Q.2.2 (mf_mono a (by decide) (by decide))
  have F1 := k_Kf_mf F a1 (by decide) (by decide)
  have D := m_D M W1 (zx_vb K hk hf hz) (kf := k_any) F1.1 F1.2.1 (by decide) F1.2.2 (by decide)
  exact ⟨⟨k_I_cg Q.2.1 (fun i => mf_i a 21 (by decide) (by decide) (by decide) i), a1⟩, wo, D⟩
theorem m_shut {σ : q_St} {h h2 : q_Hp} {m : Nat} {z : k_Z} (M : k_M σ m) (K : k_va z) (es : q_sr σ m 34 (m + 21) = σ) (I : k_I h2 (m + 21) z) (a : k_mf k_lo k_ro m h h2) : k_ok (fX5_close σ h2 m) (fun r => r.1 = σ ∧ k_T m h z r.2) := by
  refine k_mono (m_close M I K) (fun r p => ⟨p.1.trans es, p.2.1, k_I_cg I (fun i => mf_i p.2.2 21 (by decide) (by decide) (by decide) i), mf_tr a (mf_mono p.2.2 (by decide) (by decide))⟩)
def k_nv (z : k_Z) : Nat := g_m (g_z z 0 0 k_any) (fun _ => 1) (z 0 1) (z 0 1) 0
def k_oq (z : k_Z) (sz : Nat) : Bool := decide (k_nv z < g_top (g_x z 0 sz) (fun _ => 1))
def p_oneMore (z : k_Z) : Int32 := p_fst (k_oq z) nI 21
theorem k_nvB {z : k_Z} (K : k_va z) : k_nv z ≤ 7 := Nat.le_trans (g_mB (T := 1) (fun _ _ _ => Nat.le_refl _) _ _) (by have := va_nb K; omega)
theorem k_nv1 {z : k_Z} (K : k_va z) (k sz : Nat) : g_top (g_x z k sz) (fun _ => 1) ≤ k_nv z + 1 := by
  unfold k_nv
  rw [← g_zT (va_nb K)]
  exact g_top_one (e := 7) (by decide) (fun s b _ hn h => by
    unfold g_x at h
    rw [if_neg hn] at h; exact h)
theorem c_oneMore {σ : q_St} {h : q_Hp} {x A B : Nat} {z zi y : k_Z} {p : Bool} {c : Nat → Nat → Int32} (I : k_CI σ h x A B z p zi y c) (K : k_va z) : k_ok (fX4_oneMore σ h x) (fun r => r.1 = p_oneMore z ∧ k_ag (fun a => ¬ k_scr x a) h r.2) := by
  have X := I.1
  have T := xF X
  have hAB := xAB X
  have U0 := I.2.2.2.2.2.2
  unfold fX4_oneMore
  rw [xr0 X, xr7 X, xr8 X, q_gu_t ⟨ft0 T, (xA X).1, xt42 X⟩]
  refine k_bind (CI_load I K) (fun h3 p => ?_)
  obtain ⟨L, g⟩ := p
  refine k_b2 (c_mostZ T K L) (fun r h5 p => ?_)
  obtain ⟨p1, g2⟩ := p
  dsimp only at p1 g2
  have p1' : r = nI (k_nv z) := p1
  subst p1'
  have nB := k_nvB K
  refine k_bind (k_for (n := 21) (P := k_z (fun h' => (∀ b, b < 21 → k_oq z b = false) ∧ k_ag (k_oF (x + 43)) h h') (fun o => (∃ b, o.1 = nI b ∧ b < 21 ∧ k_oq z b = true ∧ ∀ t, t < b → k_oq z t = false) ∧ k_ag (k_oF (x + 43)) h o.2)) (fun i t => t.1 = nI i ∧ (∀ b, b < i → k_oq z b = false) ∧ k_L7 t.2 (x + 43) z ∧ k_ag (k_oF (x + 43)) h t.2) (by rw [k_N]; omega) ⟨rfl, fun b hb => absurd hb (Nat.not_lt_zero _), L7_of (L3_fz L g2), k_ag_tr g (oF_fz g2)⟩ ?_) (fun o p => ?_)
  · rintro i ⟨x2, h'⟩ hi ⟨e, hz, L', ag⟩
    dsimp only at e hz L' ag
    subst e
    show k_ok (fX4_oneMore_35 σ x (nI (k_nv z)) (nI i) h') _
    unfold fX4_oneMore_35
    rw [xr0 X, xr7 X, xr8 X]
    rcases Nat.lt_or_ge i 21 with q | q
    · rw [if_neg (k_nlL (n := 20) (l := 20) rfl (by omega) (by decide))]
      refine k_bind (c_lend T (V_oF I.2.1 T (by omega) ag) K (su_mv U0 rfl (fun j => k_agI ag (show k_oF (x + 43) (x + 42) from fun q => by omega) j)) q L') (fun h4 p => ?_)
      obtain ⟨L4, e3, -, g4⟩ := p
      refine k_b2 (c_most7 T K L4 e3) (fun r h6 p => ?_)
      obtain ⟨p1, g6⟩ := p
      dsimp only at p1 g6
      subst p1
      have L6 := L7_fz L4 g6
      have ag6 := k_ag_tr (k_ag_tr ag g4) (oF_fz g6)
      have v1 := k_nv1 K 0 i
      simp only [k_le2 rfl (show g_top (g_x z 0 i) (fun _ => 1) < 2147483648 by omega) (show k_nv z < 2147483648 by omega), nI_1]
      by_cases le : g_top (g_x z 0 i) (fun _ => 1) ≤ k_nv z
      · rw [if_pos le]
        refine k_some ⟨q, rfl, fun s hs => ?_, L6, ag6⟩
        by_cases es : s = i
        · rw [es]; unfold k_oq; exact decide_eq_false (by omega)
        · exact hz s (by omega)
      · rw [if_neg le]
        exact k_some ⟨⟨i, rfl, q, by unfold k_oq; exact decide_eq_true (by omega), hz⟩, ag6⟩
    · have : i = 21 := by omega
      subst this
      rw [if_pos (k_ltL (n := 20) (l := 20) rfl (by decide) (by decide))]
      exact k_some ⟨hz, ag⟩
  · unfold p_oneMore
    cases o with
    | inl h' =>
      obtain ⟨hz, ag⟩ := p
      rw [k_elL]
      exact k_some ⟨k_fst_u (Or.inl ⟨rfl, fun b _ hb => hz b hb⟩) p_fstE, scr_oF ag⟩
    | inr o =>
      obtain ⟨⟨b, e, hb, hq, hz⟩, ag⟩ := p
      rw [k_elR]
      exact k_some ⟨k_fst_u (Or.inr ⟨b, Nat.zero_le _, hb, hq, e, fun t _ ht => hz t ht⟩) p_fstE, scr_oF ag⟩
theorem m_oneMore {σ : q_St} {h : q_Hp} {m : Nat} {z zi y : k_Z} {p : Bool} {c : Nat → Nat → Int32} (I : k_MI σ h m z p zi y c) (K : k_va z) : k_ok (fX5_oneMore σ h m) (fun r => r.1 = p_oneMore z ∧ r.2.1 = q_sr σ m 34 (m + 21) ∧ k_T m h z r.2.2) := by
  have M := I.1
  have M2 := M_34 (v := m + 21) M
  have a0 : k_mf [21, 35] [24, 25] m h (q_si h m 21 0) := mf_th (by decide)
  have nB := k_nvB K
  unfold fX5_oneMore
  refine k_b2 (m_servedNow M (D_th I K)) (fun r h1 p => ?_)
  obtain ⟨p1, -, a1⟩ := p
  dsimp only at p1 a1
  have p1' : r = nI (k_nv z) := p1
  subst p1'
  have a01 : k_mf k_lo k_ro m h h1 := mf_tr (mf_th (by decide)) (mf_mono a1 (by decide) (by decide))
  have W1 : k_W h1 m z := W_mf (W_mf I.2.1 a0 ⟨by decide, by decide, by decide, by decide⟩ (fun r h1 h2 q => by simp at q; omega)) a1 ⟨by decide, by decide, by decide, by decide⟩ (fun r h1 h2 q => by simp at q; omega)
  refine k_b2 (m_open M W1 K) (fun σ2 h2 p => ?_)
  obtain ⟨e2, I2, a2⟩ := p
  dsimp only at e2 I2 a2
  subst e2
  have W2 : k_W h2 m z := W_mf W1 a2 ⟨by decide, by decide, by decide, by decide⟩ (fun r h1 h2 q => by simp at q; omega)
  refine k_bind (k_for (n := 21) (P := fun o => o.1 = p_oneMore z ∧ o.2.1 = q_sr σ m 34 (m + 21) ∧ k_T m h z o.2.2) (fun i t => t.2.2.1 = nI i ∧ ((t.1 = nI (k_nv z) ∧ t.2.1 = -4 ∧ ∀ N, N < i → k_oq z N = false) ∨ (t.1 = nI (k_nv z + 1) ∧ ∃ N, N < i ∧ k_oq z N = true ∧ t.2.1 = nI N ∧ ∀ M, M < N → k_oq z M = false)) ∧ t.2.2.2.1 = q_sr σ m 34 (m + 21) ∧ k_T m h z t.2.2.2.2) (by rw [k_N]; omega) ⟨rfl, Or.inl ⟨rfl, rfl, fun N hN => absurd hN (Nat.not_lt_zero _)⟩, rfl, W2, I2, mf_tr a01 (mf_mono a2 (by decide) (by decide))⟩ ?_) (fun o p => ?_)
  · rintro i ⟨x1, x2, x3, σ', h'⟩ hi ⟨e3, D, es, Q⟩
    dsimp only at e3 D es Q
    subst e3; subst es
    show k_ok (fX5_oneMore_19 m x1 x2 (nI i) (q_sr σ m 34 (m + 21)) h') _
    unfold fX5_oneMore_19
    rcases Nat.lt_or_ge i 21 with q | q
    · rw [if_neg (k_nlL (n := 20) (l := 20) rfl (by omega) (by decide)), q_gu_t (mt0 M2)]
      refine k_bind (m_try (k := 0) (f := 0) M2 K I.2.2.2.2.2 Q (by decide) (by decide) (show i ≤ 20 by omega)) (fun h5 p => ?_)
      obtain ⟨⟨I5, a5⟩, wo, D5⟩ := p
      refine k_b2 (m_servedNow M2 D5) (fun r h6 p => ?_)
      obtain ⟨p1, -, a6⟩ := p
      dsimp only at p1 a6
      have p1' : r = nI (g_top (g_x z 0 i) (fun _ => 1)) := p1.trans (congrArg nI (g_xT (f := 0) (wo := wo) K).1)
      subst p1'
      have I6 : k_I h6 (m + 21) z := k_I_cg I5 (fun i => mf_i a6 21 (by decide) (by decide) (by decide) i)
      refine k_b2 (m_shut M2 K k_sr_id I6 (mf_tr a5 (mf_mono a6 (by decide) (by decide)))) (fun σ7 h7 p => ?_)
      obtain ⟨e7, Q7⟩ := p
      dsimp only at e7 Q7
      subst e7
      have v1 := k_nv1 K 0 i
      unfold fX5_oneMore_53
      rcases D with ⟨e1, e2, hz⟩ | ⟨e1, N, hN, hq, e2, hz⟩
      · subst e1; subst e2
        simp only [k_le2 rfl (show g_top (g_x z 0 i) (fun _ => 1) < 2147483648 by omega) (show k_nv z < 2147483648 by omega), m_greater (show k_nv z < 2147483648 by omega) (show g_top (g_x z 0 i) (fun _ => 1) < 2147483648 by omega), k_bs1, nI_1]
        by_cases le : g_top (g_x z 0 i) (fun _ => 1) ≤ k_nv z
        · rw [if_pos le]
          refine k_some ⟨q, rfl, Or.inl ⟨by dsimp only; rw [Nat.max_eq_left le], rfl, fun N hN => ?_⟩, rfl, Q7⟩
          by_cases es : N = i
          · rw [es]; unfold k_oq; exact decide_eq_false (by omega)
          · exact hz N (by omega)
        · rw [if_neg le]
          exact k_some ⟨q, rfl, Or.inr ⟨by dsimp only; rw [Nat.max_eq_right (by omega)]; congr 1; omega, i, by omega, by unfold k_oq; exact decide_eq_true (by omega), rfl, hz⟩, rfl, Q7⟩
      · subst e1; subst e2
        simp only [k_le2 rfl (show g_top (g_x z 0 i) (fun _ => 1) < 2147483648 by omega) (show k_nv z + 1 < 2147483648 by omega), m_greater (show k_nv z + 1 < 2147483648 by omega) (show g_top (g_x z 0 i) (fun _ => 1) < 2147483648 by omega), k_bs1, nI_1]
        rw [if_pos v1]
        exact k_some ⟨q, rfl, Or.inr ⟨by dsimp only; rw [Nat.max_eq_left v1], N, by omega, hq, rfl, hz⟩, rfl, Q7⟩
    · have : i = 21 := by omega
      subst this
      rw [if_pos (k_ltL (n := 20) (l := 20) rfl (by decide) (by decide))]
      refine k_some ⟨?_, rfl, Q⟩
      unfold p_oneMore
      rcases D with ⟨-, e2, hz⟩ | ⟨-, N, hN, hq, e2, hz⟩
      · exact k_fst_u (Or.inl ⟨e2, fun b _ hb => hz b hb⟩) p_fstE
      · exact k_fst_u (Or.inr ⟨N, Nat.zero_le _, hN, hq, e2, fun t _ ht => hz t ht⟩) p_fstE
  · obtain ⟨o1, o2, o3⟩ := o
    exact k_some p
