/-! ready of the class -/
def r_tl (y : k_Z) (c : Nat → Nat → Int32) (d s : Nat) : Bool := decide (s < y 4 d) && !decide (c d s = k_ls (y 3 d))
def r_T (y : k_Z) (c : Nat → Nat → Int32) (d s : Nat) : Nat := if r_tl y c d s && decide (c d s ≤ 99) then (c d s).toNatClampNeg else 0
def r_in (y : k_Z) (c : Nat → Nat → Int32) (d i : Nat) : Bool := decide (c d i = k_ls (y 3 d)) || decide (0 ≤ c d i ∧ c d i ≤ 99)
def r_okh (z y : k_Z) (c : Nat → Nat → Int32) (d : Nat) : Bool := decide (y 4 d ≤ z 0 0) && decide (fa_first (fun i => !r_in y c d i) (y 4 d) = y 4 d)
def r_D (z y : k_Z) (c : Nat → Nat → Int32) (d s : Nat) : Bool := decide (s < z 0 0) && (z 5 s == 2) && r_tl y c d s
theorem r_TB (y : k_Z) (c : Nat → Nat → Int32) (d s : Nat) : r_T y c d s < 100 := by
  unfold r_T
  by_cases h : (r_tl y c d s && decide (c d s ≤ 99)) = true
  · rw [if_pos h]
    simp only [Bool.and_eq_true, decide_eq_true_eq] at h
    have h2 := Int32.le_iff_toInt_le.mp h.2
    rw [show (99 : Int32).toInt = 99 by decide] at h2
    unfold Int32.toNatClampNeg
    omega
  · rw [if_neg h]; decide
theorem r_okI {z y : k_Z} {c : Nat → Nat → Int32} {d : Nat} : r_okh z y c d = true ↔ y 4 d ≤ z 0 0 ∧ ∀ i, i < y 4 d → r_in y c d i = true := by
  unfold r_okh
  simp only [Bool.and_eq_true, decide_eq_true_eq]
  constructor
  · rintro ⟨h1, h2⟩
    refine ⟨h1, fun i hi => ?_⟩
    have := fa_first_no (fun i => !r_in y c d i) (y 4 d) i (by omega)
    simpa using this
  · rintro ⟨h1, h2⟩
    refine ⟨h1, ?_⟩
    have le := fa_first_le (fun i => !r_in y c d i) (y 4 d)
    by_cases e : fa_first (fun i => !r_in y c d i) (y 4 d) < y 4 d
    · have := fa_first_yes (fun i => !r_in y c d i) (y 4 d) e
      rw [h2 _ e] at this
      cases this
    · omega
theorem k_is100 {a : Int32} (h : 0 ≤ a ∧ a ≤ 99) : ∃ j, j < 100 ∧ a = nI j := k_is_t (n := 100) (by decide) (decide_eq_true ⟨h.1, by rw [show nI 100 - 1 = (99 : Int32) by decide]; exact h.2⟩)
theorem V_ne {σ : q_St} {h h' : q_Hp} {A e : Nat} {z : k_Z} (V : k_V σ h A z) (g : k_ag (fun a => a ≠ e) h h') (ht : q_tag σ e ≠ 4) (hA : A + 10 < e) : k_V σ h' A z := V_ag V (vS V) g (fun a h1 h2 q => by omega) (fun a ha => ⟨fun q => ht (q ▸ ha), ha⟩) (fun _ _ => rfl)
theorem c_readHours {σ : q_St} {h : q_Hp} {x A B d : Nat} {z zi y : k_Z} {p : Bool} {c : Nat → Nat → Int32} (I : k_CI σ h x A B z p zi y c) (K : k_va z) (vy : k_vy y) (hd : d < 8) (y2 : y 0 d = 2) : k_ok (fX4_readHours σ h x (x + 56 + 3 * d)) (fun r => ((r.1 = 1 ∧ r_okh z y c d = true ∧ ∀ s, s < 7 → q_int r.2 (x + 54) s = if r_tl y c d s then nI (r_T y c d s) else -1) ∨ (r.1 = 0 ∧ r_okh z y c d = false)) ∧ k_ag (fun a => a ≠ x + 54) h r.2) := by
  have X := I.1
  have S := xA X
  have L := xL X d hd
  have n7 := va_ns K
  obtain ⟨s3, l4, cc⟩ := (I.2.2.2.2.1 d hd).2.2 y2
  have bb := (vy d hd).2.2 y2
  unfold fX4_readHours
  rw [xr0 X, xr10 X, lr0 L, q_gu_t ⟨S.1, xt54 X, lt1 L⟩, l4, v_ns I.2.1]
  simp only [k_le2 rfl (show y 4 d < 2147483648 by omega) (show z 0 0 < 2147483648 by omega)]
  by_cases hl : y 4 d ≤ z 0 0
  · rw [if_pos hl]
    refine k_bind (P := k_z (fun h' => (∀ s, s < 7 → s < y 4 d → r_in y c d s = true) ∧ (∀ s, s < 7 → q_int h' (x + 54) s = if r_tl y c d s then nI (r_T y c d s) else -1) ∧ k_ag (fun a => a ≠ x + 54) h h') (fun o => o.1 = 0 ∧ (∃ s, s < y 4 d ∧ r_in y c d s = false) ∧ k_ag (fun a => a ≠ x + 54) h o.2)) (k_for (n := 7) (fun i t => t.1 = nI i ∧ (∀ s, s < i → s < y 4 d → r_in y c d s = true) ∧ (∀ s, s < i → q_int t.2 (x + 54) s = if r_tl y c d s then nI (r_T y c d s) else -1) ∧ k_ag (fun a => a ≠ x + 54) h t.2) (by rw [k_N]; omega) ⟨rfl, fun s hs => absurd hs (Nat.not_lt_zero _), fun s hs => absurd hs (Nat.not_lt_zero _), k_ag_rf⟩ ?_) (fun o p => ?_)
    · rintro i ⟨x2, h'⟩ hi ⟨e, hin, hc, ag⟩
      dsimp only at e hin hc ag
      subst e
      show k_ok (fX4_readHours_18 σ x (x + 56 + 3 * d) (nI i) h') _
      unfold fX4_readHours_18
      rw [xr10 X, xl54 X, k_ofN, lr0 L, k_agI ag (show x + 56 + 3 * d ≠ x + 54 by omega), l4]
      rcases Nat.lt_or_ge i 7 with q | q
      · have s3' : q_int h' (x + 56 + 3 * d) 3 = nI (y 3 d) := by rw [k_agI ag (show x + 56 + 3 * d ≠ x + 54 by omega)]; exact s3
        have put : ∀ v, v = (if r_tl y c d i then nI (r_T y c d i) else -1) → (i < y 4 d → r_in y c d i = true) → k_ok (fX4_readHours_91 σ (q_si h' (x + 54) i v) x (x + 56 + 3 * d) (nI i)) (k_z (fun t => i < 7 ∧ t.1 = nI (i + 1) ∧ (∀ s, s < i + 1 → s < y 4 d → r_in y c d s = true) ∧ (∀ s, s < i + 1 → q_int t.2 (x + 54) s = if r_tl y c d s then nI (r_T y c d s) else -1) ∧ k_ag (fun a => a ≠ x + 54) h t.2) (k_z (fun h' => (∀ s, s < 7 → s < y 4 d → r_in y c d s = true) ∧ (∀ s, s < 7 → q_int h' (x + 54) s = if r_tl y c d s then nI (r_T y c d s) else -1) ∧ k_ag (fun a => a ≠ x + 54) h h') (fun o => o.1 = 0 ∧ (∃ s, s < y 4 d ∧ r_in y c d s = false) ∧ k_ag (fun a => a ≠ x + 54) h o.2))) := fun v ev hv => by
          unfold fX4_readHours_91
          rw [nI_1]
          refine k_some ⟨q, rfl, fun s hs hy => ?_, fun s hs => ?_, k_ag_si ag (fun q => q rfl)⟩
          · by_cases es : s = i
            · subst es; exact hv hy
            · exact hin s (by omega) hy
          · dsimp only
            by_cases es : s = i
            · subst es; rw [k_si_s, ev]
            · rw [k_si_j es]; exact hc s (by omega)
        have fifty : ∀ v, v = (if i < y 4 d then c d i else k_ls (y 3 d)) → k_ok (fX4_readHours_50 σ h' x (x + 56 + 3 * d) (nI i) v) (k_z (fun t => i < 7 ∧ t.1 = nI (i + 1) ∧ (∀ s, s < i + 1 → s < y 4 d → r_in y c d s = true) ∧ (∀ s, s < i + 1 → q_int t.2 (x + 54) s = if r_tl y c d s then nI (r_T y c d s) else -1) ∧ k_ag (fun a => a ≠ x + 54) h t.2) (k_z (fun h' => (∀ s, s < 7 → s < y 4 d → r_in y c d s = true) ∧ (∀ s, s < 7 → q_int h' (x + 54) s = if r_tl y c d s then nI (r_T y c d s) else -1) ∧ k_ag (fun a => a ≠ x + 54) h h') (fun o => o.1 = 0 ∧ (∃ s, s < y 4 d ∧ r_in y c d s = false) ∧ k_ag (fun a => a ≠ x + 54) h o.2))) := fun v ev => by
          unfold fX4_readHours_50
          rw [c_least s3' bb.1, k_bs1, xr10 X, xl54 X]
          by_cases e1 : v = k_ls (y 3 d)
          · rw [if_pos e1, q_gu_t (vp_in_nI q (by decide)), k_cl (by omega)]
            refine put _ ?_ (fun hy => ?_)
            · have : r_tl y c d i = false := by
                unfold r_tl
                by_cases hy : i < y 4 d
                · rw [if_pos hy] at ev
                  rw [← ev, e1]; simp
                · rw [decide_eq_false hy]; rfl
              rw [this]; rfl
            · rw [if_pos hy] at ev
              unfold r_in
              rw [← ev, e1]; simp
          · rw [if_neg e1, c_isIn, k_bs1]
            have hy : i < y 4 d := Classical.byContradiction fun n => by
              rw [if_neg n] at ev; exact e1 ev
            rw [if_pos hy] at ev
            by_cases rg : 0 ≤ v ∧ v ≤ 99
            · rw [if_pos rg, if_neg (by decide), q_gu_t (vp_in_nI q (by decide)), k_cl (by omega)]
              refine put v ?_ (fun _ => ?_)
              · have tl : r_tl y c d i = true := by
                  unfold r_tl
                  rw [decide_eq_true hy, ← ev, decide_eq_false e1]; rfl
                rw [tl, if_pos rfl]
                unfold r_T
                rw [tl, ← ev, decide_eq_true rg.2, if_pos (show (true && true) = true from rfl)]
                obtain ⟨j, hj, ej⟩ := k_is100 rg
                rw [ej, k_cl (by omega)]
              · unfold r_in
                rw [← ev, decide_eq_true rg, Bool.or_true]
            · rw [if_neg rg, if_pos rfl]
              refine k_some ⟨rfl, ⟨i, hy, ?_⟩, ag⟩
              unfold r_in
              rw [← ev, decide_eq_false e1, decide_eq_false rg]; rfl
        rw [if_neg (nI_ge q (by decide))]
        simp only [k_le2 rfl (show y 4 d < 2147483648 by omega) (show i < 2147483648 by omega)]
        by_cases hy : y 4 d ≤ i
        · rw [if_pos hy, c_least s3' bb.1, k_bs1]
          exact fifty _ (by rw [if_neg (by omega)])
        · rw [if_neg hy, c_at (ll1 L) (show i < 100 by omega) (by decide), k_bs1, k_agI ag (show x + 56 + 3 * d + 1 ≠ x + 54 by omega), show x + 56 + 3 * d + 1 = x + 57 + 3 * d by omega, cc i (by omega)]
          exact fifty _ (by rw [if_pos (by omega)])
      · have : i = 7 := by omega
        subst this
        rw [if_pos (nI_le (Nat.le_refl _) (by decide))]
        exact k_some ⟨hin, hc, ag⟩
    · cases o with
      | inl h' =>
        obtain ⟨hin, hc, ag⟩ := p
        rw [k_elL]
        exact k_some ⟨Or.inl ⟨rfl, r_okI.mpr ⟨hl, fun i hi => hin i (by omega) hi⟩, hc⟩, ag⟩
      | inr o =>
        obtain ⟨o1, o2⟩ := o
        obtain ⟨e, ⟨s, hs, hr⟩, ag⟩ := p
        rw [k_elR]
        refine k_some ⟨Or.inr ⟨e, ?_⟩, ag⟩
        cases eo : r_okh z y c d with
        | false => rfl
        | true =>
          have := (r_okI.mp eo).2 s hs
          rw [hr] at this; cases this
  · rw [if_neg hl]
    refine k_some ⟨Or.inr ⟨rfl, ?_⟩, k_ag_rf⟩
    unfold r_okh
    rw [decide_eq_false hl]; rfl
noncomputable def r_bst (z y : k_Z) (c : Nat → Nat → Int32) (d : Nat) : Nat := r_best (r_P (r_D z y c d) (r_q (r_D z y c d) (r_T y c d)) (r_ch z)) 128
noncomputable def p_ready (z y : k_Z) (c : Nat → Nat → Int32) (v w : Int32) : Int32 := if 0 ≤ w ∧ w ≤ 2 then (if k_wr y 2 v = 0 then (if r_okh z y c v.toNatClampNeg then (if w = 2 then nI (k_sm (fun s => if z 5 s = 2 then k_ch (z 1 s) (z 2 s) else 0) (z 0 0)) else if w = 0 then nI (k_pc (r_bst z y c v.toNatClampNeg)) else r_first (r_q (r_D z y c v.toNatClampNeg) (r_T y c v.toNatClampNeg)) (r_bst z y c v.toNatClampNeg)) else -13) else k_wr y 2 v) else -1
theorem c_ready {σ : q_St} {h : q_Hp} {x A B : Nat} {z zi y : k_Z} {p : Bool} {c : Nat → Nat → Int32} (I : k_CI σ h x A B z p zi y c) (K : k_va z) (vy : k_vy y) (v w : Int32) : k_ok (fX4_ready σ h x v w) (fun r => r.1 = p_ready z y c v w ∧ k_ag (fun a => ¬ k_scr x a) h r.2) := by
  have X := I.1
  have S := xA X
  have hAB := xAB X
  have n7 := va_ns K
  unfold fX4_ready p_ready
  rw [xr0 X, q_gu_t S.1, c_isShelf, k_bs1, k_01i]
  cases e : k_is v 8 with
  | false =>
    have : k_wr y 2 v = -1 := by unfold k_wr; rw [e]; rfl
    rw [if_neg (show ¬ false = true by decide), this]
    refine k_some ⟨?_, k_ag_rf⟩
    dsimp only
    split <;> rfl
  | true =>
  obtain ⟨d, hd, rfl⟩ := k_is_t (by decide) e
  have L := xL X d hd
  rw [if_pos rfl, c_isIn, k_bs1]
  by_cases hw : 0 ≤ w ∧ w ≤ 2
  · rw [if_pos hw, if_pos hw, if_neg (by decide), c_shelfAt X hd, k_bs1, q_gu_t (lt0 L), show (fX1_refusal σ h (x + 56 + 3 * d) 2) = _ from c_refusal I.2.2.2.2.1 vy hd (w := 2) (by decide), k_bs1]
    rcases k_wr_cases y 2 (nI d) with ⟨e0, d', hd', ed, y2, -⟩ | q
    · have := (nI_eq (by omega) (by omega)).mp ed
      subst this
      rw [if_pos e0, if_pos e0, k_cl (by omega)]
      refine k_b2 (c_readHours I K vy hd y2) (fun r h6 p => ?_)
      obtain ⟨D6, g6⟩ := p
      dsimp only at D6 g6
      have V6 := V_ne I.2.1 g6 (by rw [xt54 X]; decide) (by omega)
      have s6 : k_ag (fun a => ¬ k_scr x a) h h6 := k_ag_mono g6 (fun a ha e => ha (by subst e; exact ⟨by omega, by omega⟩))
      rcases D6 with ⟨e1, ok, hT⟩ | ⟨e1, ok⟩
      · subst e1
        rw [if_neg (by decide), ok, if_pos rfl]
        by_cases w2 : w = 2
        · have B2 := k_stB K 2
          rw [if_pos w2, if_pos w2, show (fX2_suitsThatAre σ h6 A 2) = _ from c_state V6 K (w := 2) (by decide), k_bs1, c_hoursOf V6 K (by omega), k_bs1]
          refine k_some ⟨?_, s6⟩
          dsimp only
          congr 1
          refine k_sm_cong (fun s hs => ?_)
          rw [k_bs_tb, decide_eq_true hs, Bool.true_and]
          by_cases e5 : z 5 s = 2 <;> simp [e5]
        · rw [if_neg w2, if_neg w2]
          have TB : ∀ s, s < 8 → r_T y c d s < 100 := fun s _ => r_TB y c d s
          have Dn : ∀ s, r_D z y c d s = true → s < z 0 0 := fun s hs => by
            unfold r_D at hs
            simp only [Bool.and_eq_true, decide_eq_true_eq] at hs
            exact hs.1.1
          have b7 : r_D z y c d 7 = false := by
            cases e7 : r_D z y c d 7 with
            | false => rfl
            | true => have := Dn 7 e7; omega
          refine k_b2 (c_order X V6 K TB hT) (fun r h7 p => ?_)
          obtain ⟨p1, hO, g7⟩ := p
          dsimp only at p1 hO g7
          subst p1
          have V7 := V_ne V6 g7 (by rw [xt55 X]; decide) (by omega)
          have s7 : k_ag (fun a => ¬ k_scr x a) h h7 := k_ag_tr s6 (k_ag_mono g7 (fun a ha e => ha (by subst e; exact ⟨by omega, by omega⟩)))
          have hT7 : ∀ s, r_D z y c d s = true → q_int h7 (x + 54) s = nI (r_T y c d s) := fun s hs => by
            have := Dn s hs
            rw [k_agI g7 (show x + 54 ≠ x + 55 by omega), hT s (by omega)]
            unfold r_D at hs
            simp only [Bool.and_eq_true] at hs
            rw [hs.2]; rfl
          have bst := r_bestB (r_P (r_D z y c d) (r_q (r_D z y c d) (r_T y c d)) (r_ch z)) 128
          have eb : r_bst z y c d = r_best (r_P (r_D z y c d) (r_q (r_D z y c d) (r_T y c d)) (r_ch z)) 128 := by rw [r_bst]
          have mr := c_mostReady (D := r_D z y c d) X V7 K TB Dn hT7 hO b7
          show k_ok ((fX4_mostReady σ h7 x (nI (k_one01 (r_q (r_D z y c d) (r_T y c d)) 800))).bind _) _
          rw [mr, k_bs1, eb]
          generalize r_best (r_P (r_D z y c d) (r_q (r_D z y c d) (r_T y c d)) (r_ch z)) 128 = bst' at bst ⊢
          by_cases w0 : w = 0
          · rw [if_pos w0, if_pos w0, c_bits bst' (by omega), k_bs1]
            refine k_some ⟨?_, s7⟩
            dsimp only
          · rw [if_neg w0, if_neg w0, show fX4_firstCleaned σ h7 x (nI bst') (nI (k_one01 (r_q (fun s => decide (s < z 0 0) && z 5 s == 2 && r_tl y c d s) (r_T y c d)) 800)) = _ from c_firstCleaned (D := r_D z y c d) X TB hO (by omega) b7, k_bs1]
            refine k_some ⟨?_, s7⟩
            dsimp only
      · subst e1
        rw [if_pos rfl, ok]
        exact k_some ⟨rfl, s6⟩
    · have n := k_neg q
      rw [if_neg n.2.2, if_neg n.2.2]
      exact k_some ⟨rfl, k_ag_rf⟩
  · rw [if_neg hw, if_neg hw, if_pos rfl]
    exact k_some ⟨rfl, k_ag_rf⟩
