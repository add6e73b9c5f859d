/-! served, left over, earned, refuse, sell -/
/-- what the fitting asks of a state: one suit more is allowed -/
def k_vb (z : k_Z) : Prop := (z 0 0 ≤ 8 ∧ z 0 1 ≤ 7) ∧ (∀ s, s < z 0 0 → z 1 s < 8 ∧ z 2 s < 10 ∧ z 3 s ≤ 20 ∧ z 5 s ≤ 2) ∧ ∀ b, b < z 0 1 → z 6 b ≤ 20 ∧ z 7 b ≤ 3 ∧ z 11 b ≤ 9
theorem vb_va {z : k_Z} (K : k_va z) : k_vb z := ⟨⟨by have := va_ns K; omega, va_nb K⟩, fun s hs => ⟨va_k K hs, va_f K hs, va_sz K hs, va_st K hs⟩, fun b hb => ⟨va_wa K hb, va_gr K hb, va_ha9 K hb⟩⟩
theorem mb_gives {σ : q_St} {h : q_Hp} {m : Nat} {z : k_Z} (M : k_M σ m) (W : k_W h m z) (K : k_vb z) {s : Nat} (hs : s < z 0 0) : fX5_givesOf σ h m (nI s) = some (nI (k_gv (z 1 s))) := by
  have n7 := K.1.1
  have k8 := (K.2.1 s hs).1
  unfold fX5_givesOf
  rw [mr1 M, q_gu_t (mt1 M), ml1 M, q_gu_t (vp_in_nI (by omega) (by decide)), k_cl (by omega), w1 W hs]
  exact (by decide +kernel : ∀ k, k < 8 → (if nI k = 2 then some (2 : Int32) else if nI k = 4 then some 0 else if nI k = 5 then some 4 else some 1) = some (nI (k_gv k))) _ k8
theorem mb_priceOf {σ : q_St} {h : q_Hp} {m : Nat} {z : k_Z} (M : k_M σ m) (W : k_W h m z) (K : k_vb z) {s : Nat} (hs : s < z 0 0) : fX5_priceOf σ h m (nI s) = some (nI (k_pr (z 1 s) (z 2 s))) := by
  have n7 := K.1.1
  unfold fX5_priceOf
  simp only [mr1 M, mr2 M, mt1 M, mt2 M, ml1 M, ml2 M, and_self, k_guT, k_vi (show s < 8 by omega) (by decide), k_cl (show s < 2147483648 by omega), w1 W hs, w2 W hs, m_price _ (K.2.1 s hs).1 _ (K.2.1 s hs).2.1, k_bs1]
theorem mb_fits {σ : q_St} {h : q_Hp} {m : Nat} {z : k_Z} (M : k_M σ m) (W : k_W h m z) (K : k_vb z) {s b : Nat} (hs : s < z 0 0) (hb : b < z 0 1) : fX5_fitsIn σ h m (nI s) (nI b) = some (if k_fits z s b then 1 else 0) := by
  have n7 := K.1.1
  have b7 := K.1.2
  have q1 := (K.2.1 s hs).2.2.1
  have q2 := (K.2.2 b hb).1
  have q3 := k_gvB (z 1 s)
  unfold fX5_fitsIn
  simp only [mr3 M, mr7 M, mt3 M, mt6 M, ml3 M, ml6 M, and_self, k_guT, k_vi (show s < 8 by omega) (by decide), k_vi (show b < 7 by omega) (by decide), k_cl (show s < 2147483648 by omega), k_cl (show b < 2147483648 by omega), w3 W hs, w6 W hb, k_bs1, mb_gives M W K hs, m_apart (show z 3 s < 2147483648 by omega) (show z 6 b < 2147483648 by omega)]
  unfold k_fits
  rw [k_nrM]
  have hB : (if z 3 s ≤ z 6 b then z 6 b - z 3 s else z 3 s - z 6 b) ≤ 20 := by split <;> omega
  generalize (if z 3 s ≤ z 6 b then z 6 b - z 3 s else z 3 s - z 6 b) = d at hB ⊢
  by_cases q : d ≤ k_gv (z 1 s)
  · rw [if_neg (nI_nlt q (by omega)), decide_eq_true q]; rfl
  · rw [if_pos (nI_lt (by omega) (by omega)), decide_eq_false q]; rfl
def k_kd (x : Int32) (k : Nat) : Bool := decide (x < 0) || (x == nI k)
def k_zo (z : k_Z) (V b : Nat) : Bool := (z 11 b == 9) && !V.testBit b
def k_zm (z : k_Z) (U : Nat) (kf : Nat → Int32) (s b : Nat) : Bool := (z 5 s == 0) && !U.testBit s && k_fits z s b && k_kd (kf (z 7 b)) (z 1 s)
def g_z (z : k_Z) (U V : Nat) (kf : Nat → Int32) : Nat → Nat → Bool := g_dp (z 0 0) (z 0 1) (k_zo z V) (k_zm z U kf)
theorem m_D {σ : q_St} {h : q_Hp} {m U V : Nat} {z : k_Z} {kf : Nat → Int32} (M : k_M σ m) (W : k_W h m z) (K : k_vb z) (hk : ∀ g, g < 4 → q_int h (m + 23) g = kf g) (hU : q_int h m 37 = nI U) (hU2 : U < 2147483648) (hV : q_int h m 38 = nI V) (hV2 : V < 2147483648) : k_D σ h m (z 0 0) (z 0 1) (k_zo z V) (k_zm z U kf) (p_pw z) := by
  have n7 := K.1.1
  have b7 := K.1.2
  refine ⟨⟨w_ns W, n7⟩, ⟨w_nb W, b7⟩, fun h' a => ?_, fun s hs => ?_⟩
  · have W' := W_mf W a ⟨by decide, by decide, by decide, by decide⟩ (fun r h1 h2 q => by simp at q; omega)
    have k' : ∀ g, g < 4 → q_int h' (m + 23) g = kf g := fun g hg => by rw [mf_i a 23 (by decide) (by decide) (by decide)]; exact hk g hg
    have U' : q_int h' m 37 = nI U := by rw [a.2.1 37 (by decide)]; exact hU
    have V' : q_int h' m 38 = nI V := by rw [a.2.1 38 (by decide)]; exact hV
    refine ⟨fun b hb => ?_, fun s b hs hb => ?_, fun s hs => ?_⟩
    · have := (K.2.2 b hb).2.2
      unfold fX5_isOpen k_zo
      simp only [mr12 M, mt11 M, ml11 M, k_guT, k_vi (show b < 7 by omega) (by decide), k_cl (show b < 2147483648 by omega), w11 W' hb, V', m_hasBit hV2 (show b < 31 by omega), k_bs1, k_01i, k_eqL (show (9 : Int32) = nI 9 from rfl) (show z 11 b < 2147483648 by omega) (show 9 < 2147483648 by decide)]
      by_cases e : z 11 b = 9
      · rw [if_pos e, beq_iff_eq.mpr e]; cases V.testBit b <;> rfl
      · rw [if_neg e, show (z 11 b == 9) = false by simpa using e]; rfl
    · have := K.2.1 s hs
      have g3 := (K.2.2 b hb).2.1
      unfold fX5_mayHave k_zm
      simp only [fX5_mayHave_25, fX5_mayHave_24, mr5 M, mr8 M, mr36 M, mr1 M, mt5 M, mt7 M, mt23 M, mt1 M, ml5 M, ml7 M, ml23 M, ml1 M, and_self, k_guT, k_vi (show s < 8 by omega) (show 8 < 2147483648 by decide), k_vi (show b < 7 by omega) (show 7 < 2147483648 by decide), k_cl (show s < 2147483648 by omega), k_cl (show b < 2147483648 by omega), w5 W' hs, w7 W' hb, w1 W' hs, k_vi (show z 7 b < 4 by omega) (show 4 < 2147483648 by decide), k_cl (show z 7 b < 2147483648 by omega), k' _ (show z 7 b < 4 by omega), U', m_hasBit hU2 (show s < 31 by omega), k_bs1, k_01i, mb_fits M W' K hs hb, k_eqL (show (0 : Int32) = nI 0 from rfl) (show z 5 s < 2147483648 by omega) (show 0 < 2147483648 by decide)]
      unfold k_kd
      by_cases e : z 5 s = 0
      · rw [if_pos e, beq_iff_eq.mpr e]
        cases U.testBit s
        · rw [if_neg (by decide), if_neg (by decide)]
          cases k_fits z s b
          · rfl
          · by_cases x0 : kf (z 7 b) < 0
            · simp [x0]
            · by_cases x1 : kf (z 7 b) = nI (z 1 s)
              · simp [x1]
              · simp [x0, x1]
        · rfl
      · rw [if_neg e, show (z 5 s == 0) = false by simpa using e]; rfl
    · rw [mb_priceOf M W' K hs]
      unfold p_pw
      rw [if_pos hs]
  · unfold p_pw
    rw [if_pos hs]
    have := k_prB _ (K.2.1 s hs).1 _ (K.2.1 s hs).2.1
    omega
def k_any : Nat → Int32 := fun _ => -1
theorem MI_D {σ : q_St} {h : q_Hp} {m : Nat} {z zi y : k_Z} {p : Bool} {c : Nat → Nat → Int32} (I : k_MI σ h m z p zi y c) (K : k_va z) : k_D σ h m (z 0 0) (z 0 1) (k_zo z 0) (k_zm z 0 k_any) (p_pw z) := m_D I.1 I.2.1 (vb_va K) I.2.2.2.2.2.1 I.2.2.2.2.2.2.1 (by decide) I.2.2.2.2.2.2.2 (by decide)
theorem g_tm {E : Nat → Nat → Bool} {w : Nat → Nat} {nb : Nat} (hn : nb ≤ 7) (hE : ∀ s b, nb ≤ b → E s b = false) : g_top E w = g_m E w nb nb 0 := by
  rw [g_m_top hn (Nat.le_refl _) hE]
  exact g_top_cg (fun s c hs hc => by simp)
theorem g_zT {z : k_Z} {U V : Nat} {kf : Nat → Int32} {w : Nat → Nat} (hn : z 0 1 ≤ 7) : g_top (g_z z U V kf) w = g_m (g_z z U V kf) w (z 0 1) (z 0 1) 0 := g_tm hn (fun s b hb => g_dpN s b hb)
theorem p_Ez {z : k_Z} (K : k_va z) : k_E (p_tk z 0) (p_op z) (p_in z) = g_z z 0 0 k_any := by
  funext s b
  rw [p_E K]
  unfold p_e g_z g_dp k_zo k_zm
  rw [show k_kd (k_any (z 7 b)) (z 1 s) = true from rfl, Nat.zero_testBit, Nat.zero_testBit]
  cases decide (s < z 0 0) <;> cases decide (b < z 0 1) <;> cases (z 5 s == 0) <;> cases (z 11 b == 9) <;> cases k_fits z s b <;> rfl
theorem p_EzV {z : k_Z} (K : k_va z) (c : Nat) : k_E (p_tk z 0) (k_dl (p_op z) c) (p_in z) = g_z z 0 (2 ^ c) k_any := by
  funext s b
  have h1 := congrFun (congrFun (p_Ez K) s) b
  have oB := p_opB K
  unfold k_E at h1 ⊢
  rw [k_dlT (by omega)]
  unfold g_z g_dp k_zo k_zm at h1 ⊢
  rw [Nat.testBit_two_pow]
  rw [Nat.zero_testBit, Nat.zero_testBit] at h1
  by_cases e : b = c
  · subst e; simp
  · rw [show (b == c) = false by simpa using e, show decide (c = b) = false by simpa using fun q => e q.symm, Nat.zero_testBit, Bool.not_false, Bool.and_true]
    exact h1
theorem p_EzU {z : k_Z} (K : k_va z) (c : Nat) : k_E (p_tk z 0) (p_op z) (k_dl (p_in z) c) = g_z z (2 ^ c) 0 k_any := by
  funext s b
  have h1 := congrFun (congrFun (p_Ez K) s) b
  have oB := p_inB K
  unfold k_E at h1 ⊢
  rw [k_dlT (by omega)]
  unfold g_z g_dp k_zo k_zm at h1 ⊢
  rw [Nat.testBit_two_pow]
  rw [Nat.zero_testBit, Nat.zero_testBit] at h1
  by_cases e : s = c
  · subst e; simp
  · rw [show (s == c) = false by simpa using e, show decide (c = s) = false by simpa using fun q => e q.symm, Nat.zero_testBit, Bool.not_false, Bool.and_true]
    exact h1
theorem scr_oF {x : Nat} {h h' : q_Hp} (g : k_ag (k_oF (x + 43)) h h') : k_ag (fun a => ¬ k_scr x a) h h' := k_ag_mono g (fun a ha q => ha ⟨by omega, by omega⟩)
theorem oF_fz {F : Nat} {h h' : q_Hp} (g : k_ag (k_fz F) h h') : k_ag (k_oF F) h h' := k_ag_mono g (fun a ha => ⟨fun e => ha (by subst e; exact ⟨by omega, by omega⟩), fun e => ha (by subst e; exact ⟨by omega, by omega⟩), fun e => ha (by subst e; exact ⟨by omega, by omega⟩), fun e => ha (by subst e; exact ⟨by omega, by omega⟩)⟩)
/-- the fitting, loaded -/
def k_L3 (h : q_Hp) (F : Nat) (z : k_Z) : Prop := k_L h F z ∧ ∀ s, s < 8 → q_int h (F + 3) s = nI (p_tk z 0 s)
theorem L3_fz {h h' : q_Hp} {F : Nat} {z : k_Z} (L : k_L3 h F z) (g : k_ag (k_fz F) h h') : k_L3 h' F z := by
  have e : ∀ j, j ≤ 4 → ∀ i, q_int h' (F + j) i = q_int h (F + j) i := fun j hj i => k_agI g ⟨by omega, by omega, by omega, by omega⟩ i
  refine ⟨⟨?_, fun s hs => ?_⟩, fun s hs => by rw [e 3 (by decide)]; exact L.2 s hs⟩
  · have := e 0 (by decide)
    rw [Nat.add_zero] at this
    rw [this, this]; exact L.1.1
  · rw [e 1 (by decide), e 2 (by decide), e 4 (by decide)]; exact L.1.2 s hs
theorem L3_tk {h : q_Hp} {F : Nat} {z : k_Z} (L : k_L3 h F z) (K : k_va z) : ∀ s, s < 8 → q_int h (F + 3) s = nI (p_tk z 0 s) ∧ p_tk z 0 s < 128 := fun s hs => ⟨L.2 s hs, p_tkB K 0 s⟩
theorem L3_pr {h : q_Hp} {F Q : Nat} {z : k_Z} (L : k_L3 h F z) (hQ : ∀ s, Q.testBit s = true → (p_in z).testBit s = true) : ∀ s, s < 8 → Q.testBit s = true → q_int h (F + 4) s = nI (p_pw z s) := fun s hs hq => (L.1.2 s hs).2.2 (by
  have := hQ s hq
  rw [p_in_tb] at this
  simp only [Bool.and_eq_true, decide_eq_true_eq] at this
  exact this.1)
theorem p_pwB3 {z : k_Z} (K : k_va z) : ∀ s, s < 8 → p_pw z s < 1000 := fun s _ => by have := p_pwB K s; omega
theorem CI_load {σ : q_St} {h : q_Hp} {x A B : Nat} {z zi y : k_Z} {p : Bool} {c : Nat → Nat → Int32} (I : k_CI σ h x A B z p zi y c) (K : k_va z) : k_ok (fX0_load σ h (x + 43) A) (fun h' => k_L3 h' (x + 43) z ∧ k_ag (k_oF (x + 43)) h h') := by
  have hAB := xAB I.1
  exact k_mono (c_load (xF I.1) I.2.1 K (by omega)) (fun r p => ⟨⟨p.1, p.2.1⟩, p.2.2⟩)
theorem c_mostZ {σ : q_St} {h : q_Hp} {F : Nat} {z : k_Z} (T : k_ft σ F) (K : k_va z) (L : k_L3 h F z) : k_ok (fX0_most σ h F (q_int h F 9) (q_int h F 10)) (fun r => r.1 = nI (g_m (g_z z 0 0 k_any) (fun _ => 1) (z 0 1) (z 0 1) 0) ∧ k_ag (k_fz F) h r.2) := by
  rw [L.1.1.1, L.1.1.2]
  refine k_mono (c_most T (p_opB K) (by have := p_inB K; omega) (L3_tk L K)) (fun r p => ⟨?_, p.2⟩)
  rw [p.1, p_Ez K, g_zT (va_nb K)]
theorem c_richZ {σ : q_St} {h : q_Hp} {F : Nat} {z : k_Z} (T : k_ft σ F) (K : k_va z) (L : k_L3 h F z) : k_ok (fX0_richest σ h F (q_int h F 9) (q_int h F 10)) (fun r => r.1 = nI (g_m (g_z z 0 0 k_any) (p_pw z) (z 0 1) (z 0 1) 0) ∧ k_ag (k_fz F) h r.2) := by
  rw [L.1.1.1, L.1.1.2]
  refine k_mono (c_richest T (p_opB K) (by have := p_inB K; omega) (L3_tk L K) (L3_pr L (fun s h => h)) (p_pwB3 K)) (fun r p => ⟨?_, p.2⟩)
  rw [p.1, p_Ez K, g_zT (va_nb K)]
theorem c_chooseZ {σ : q_St} {h : q_Hp} {F : Nat} {z : k_Z} (T : k_ft σ F) (K : k_va z) (L : k_L3 h F z) : k_ok (fX0_chooseFirst σ h F) (fun r => (∃ Fr, r.1 = nI Fr ∧ Fr < 256 ∧ ∀ s, Fr.testBit s = ((p_in z).testBit s && !(g_fu (g_z z 0 0 k_any) (z 0 1) 7).testBit s)) ∧ (∀ b, b < 7 → q_int r.2 (F + 9) b = nI (g_fs (g_z z 0 0 k_any) (z 0 1) b (g_fu (g_z z 0 0 k_any) (z 0 1) b))) ∧ k_ag (k_oF F) h r.2) := by
  have := c_chooseFirst (B := p_op z) (Q := p_in z) (nb := z 0 1) (tk := p_tk z 0) T (p_opB K) (by have := p_inB K; omega) (va_nb K) (fun c hc => by
    rw [p_op_tb] at hc
    simp only [Bool.and_eq_true, decide_eq_true_eq] at hc
    exact hc.1) (L3_tk L K) L.1.1.1 L.1.1.2
  rw [p_Ez K] at this
  exact this
def p_served (z : k_Z) (v : Int32) : Int32 := if -1 ≤ v ∧ v ≤ nI (z 0 1) - 1 then (if v = -1 then nI (g_m (g_z z 0 0 k_any) (fun _ => 1) (z 0 1) (z 0 1) 0) else nI (g_fs (g_z z 0 0 k_any) (z 0 1) v.toNatClampNeg (g_fu (g_z z 0 0 k_any) (z 0 1) v.toNatClampNeg))) else -1
theorem k_m1le {v : Int32} (h : -1 ≤ v) (n : v ≠ -1) : 0 ≤ v := by
  have h1 := Int32.le_iff_toInt_le.mp h
  have h2 : v.toInt ≠ (-1 : Int32).toInt := fun q => n (Int32.toInt_inj.mp q)
  rw [show (-1 : Int32).toInt = -1 by decide] at h1 h2
  rw [Int32.le_iff_toInt_le, show (0 : Int32).toInt = 0 by decide]
  omega
theorem k_lePr {v : Int32} {n : Nat} (hn : n < 2147483648) : v < nI n ↔ v ≤ nI n - 1 := by
  rw [Int32.lt_iff_toInt_lt, Int32.le_iff_toInt_le, nI_toInt hn]
  cases n with
  | zero => rw [show (nI 0 - 1 : Int32).toInt = -1 by decide +kernel]; omega
  | succ n => rw [nI_pred, nI_toInt (by omega)]; omega
theorem c_served {σ : q_St} {h : q_Hp} {x A B : Nat} {z zi y : k_Z} {p : Bool} {c : Nat → Nat → Int32} (I : k_CI σ h x A B z p zi y c) (K : k_va z) (v : Int32) : k_ok (fX4_served σ h x v) (fun r => r.1 = p_served z v ∧ k_ag (fun a => ¬ k_scr x a) h r.2) := by
  have X := I.1
  have T := xF X
  have b7 := va_nb K
  unfold fX4_served p_served
  rw [xr0 X, xr8 X, fr8 T, q_gu_t ⟨(xA X).1, ft0 T, ft9 T⟩, v_nb I.2.1]
  by_cases h1 : -1 ≤ v
  · rw [if_neg (fun q => (k_nlt _ _).mp q h1)]
    by_cases h2 : v ≤ nI (z 0 1) - 1
    · rw [if_pos ((k_lePr (by omega)).mpr h2), if_pos ⟨h1, h2⟩]
      refine k_bind (CI_load I K) (fun h3 p => ?_)
      obtain ⟨L, g⟩ := p
      by_cases h4 : v = -1
      · rw [if_pos h4, if_pos h4]
        refine k_b2 (c_mostZ T K L) (fun r h5 p => ?_)
        exact k_some ⟨p.1, scr_oF (k_ag_tr g (oF_fz p.2))⟩
      · rw [if_neg h4, if_neg h4]
        refine k_b2 (c_chooseZ T K L) (fun r h5 p => ?_)
        obtain ⟨j, hj, rfl⟩ := k_is_t (x := v) (n := z 0 1) (by omega) (decide_eq_true ⟨k_m1le h1 h4, h2⟩)
        rw [c_at (fl9 T) (by omega) (by decide), k_bs1, k_cl (by omega)]
        exact k_some ⟨p.2.1 j (by omega), scr_oF (k_ag_tr g p.2.2)⟩
    · rw [if_neg (fun q => h2 ((k_lePr (by omega)).mp q)), if_neg (fun q => h2 q.2)]
      exact k_some ⟨rfl, k_ag_rf⟩
  · rw [if_pos ((k_nlt _ _).mpr h1), if_neg (fun q => h1 q.1)]
    exact k_some ⟨rfl, k_ag_rf⟩
theorem D_th {σ : q_St} {h : q_Hp} {m : Nat} {z zi y : k_Z} {p : Bool} {c : Nat → Nat → Int32} (I : k_MI σ h m z p zi y c) (K : k_va z) : k_D σ (q_si h m 21 0) m (z 0 0) (z 0 1) (k_zo z 0) (k_zm z 0 k_any) (p_pw z) := D_mf (MI_D I K) (mf_th (by decide))
theorem m_served {σ : q_St} {h : q_Hp} {m : Nat} {z zi y : k_Z} {p : Bool} {c : Nat → Nat → Int32} (I : k_MI σ h m z p zi y c) (K : k_va z) (v : Int32) : k_ok (fX5_served σ h m v) (fun r => r.1 = p_served z v ∧ k_mf [21, 35] [24, 25] m h r.2) := by
  have M := I.1
  have b7 := va_nb K
  have a0 : k_mf [21, 35] [24, 25] m h (q_si h m 21 0) := mf_th (by decide)
  unfold fX5_served p_served
  rw [mr40 M, q_gu_t (mt25 M), a0.2.1 6 (by decide), w_nb I.2.1, m_in (lo := -1) (by decide) rfl, k_bs1]
  by_cases q : -1 ≤ v ∧ v ≤ nI (z 0 1) - 1
  · rw [if_pos q, if_pos q, if_neg (by decide)]
    by_cases h4 : v = -1
    · rw [if_neg (by rw [h4]; decide), if_pos h4]
      refine k_b2 (m_servedNow M (D_th I K)) (fun r h5 p => ?_)
      exact k_some ⟨p.1, mf_tr a0 (mf_mono p.2.2 (by simp) (by simp))⟩
    · rw [if_pos (k_m1le q.1 h4), if_neg h4]
      refine k_b2 (m_layFirst M (D_th I K)) (fun r h5 p => ?_)
      obtain ⟨j, hj, rfl⟩ := k_is_t (x := v) (n := z 0 1) (by omega) (decide_eq_true ⟨k_m1le q.1 h4, q.2⟩)
      rw [ml25 M, q_gu_t (vp_in_nI (by omega) (by decide)), k_cl (by omega)]
      exact k_some ⟨p.2.1 j hj, mf_tr a0 (mf_mono p.2.2 (by simp) (by simp))⟩
  · rw [if_neg q, if_neg q, if_pos rfl]
    exact k_some ⟨rfl, a0⟩
