/-! ready of the model -/
theorem m_told {σ : q_St} {h : q_Hp} {m d s : Nat} {y : k_Z} {c : Nat → Nat → Int32} (M : k_M σ m) (Y : k_YM h m y c) (vy : k_vy y) (hd : d < 8) (y2 : y 0 d = 2) (hs : s < 100) : fX5_toldHour σ h m (nI d) (nI s) = some (if s < y 4 d then c d s else k_ls (y 3 d)).toInt64 := by
  obtain ⟨s3, l4, cc⟩ := (Y d hd).2.2 y2
  have bb := (vy d hd).2.2 y2
  unfold fX5_toldHour
  rw [mr19 M, mr20 M, q_gu_t ⟨mt16 M, mt17 M⟩, ml16 M, ml17 M, q_gu_t (vp_in_nI hd (by decide)), k_cl (by omega), l4]
  simp only [k_le2 rfl (show y 4 d < 2147483648 by omega) (show s < 2147483648 by omega)]
  by_cases q : y 4 d ≤ s
  · rw [if_pos q, m_skipped M Y vy hd y2, k_bs1, if_neg (by omega)]
  · rw [if_neg q, show (100 : Int32) * nI d = nI (100 * d) from pk_mul 100 d, nI_add, q_gu_t (vp_in_nI (by omega) (by decide)), k_cl (by omega), cc s hs, if_pos (by omega)]
theorem m_wrongHours {σ : q_St} {h : q_Hp} {m : Nat} {z y : k_Z} {c : Nat → Nat → Int32} (M : k_M σ m) (W : k_W h m z) (Y : k_YM h m y c) (K : k_va z) (vy : k_vy y) (v : Int32) : fX5_wrongHours σ h m v = some (if k_wr y 2 v = 0 then (if r_okh z y c v.toNatClampNeg then 0 else -13) else k_wr y 2 v) := by
  have n7 := va_ns K
  unfold fX5_wrongHours
  rw [mr19 M, mr20 M, q_gu_t ⟨mt16 M, mt17 M⟩, m_wrongRow M Y vy, k_bs1]
  rcases k_wr_cases y 2 v with ⟨e0, d, hd, rfl, y2, -⟩ | q
  · obtain ⟨s3, l4, cc⟩ := (Y d hd).2.2 y2
    have bb := (vy d hd).2.2 y2
    rw [e0, if_pos rfl, if_pos rfl, k_cl (by omega), ml16 M, q_gu_t (vp_in_nI hd (by decide)), l4, w_ns W]
    simp only [k_le2 rfl (show y 4 d < 2147483648 by omega) (show z 0 0 < 2147483648 by omega)]
    unfold fX5_wrongHours_28 fX5_wrongHours_29
    by_cases hl : y 4 d ≤ z 0 0
    · rw [if_pos hl]
      refine k_eq (k_bind (k_for (n := y 4 d) (P := fun r => r = if r_okh z y c d then (0 : Int32) else -13) (fun i s => s.2 = nI i ∧ ((s.1 = 0 ∧ ∀ j, j < i → r_in y c d j = true) ∨ (s.1 = -13 ∧ ∃ j, j < y 4 d ∧ r_in y c d j = false))) (by rw [k_N]; omega) ⟨rfl, Or.inl ⟨rfl, fun j hj => absurd hj (Nat.not_lt_zero _)⟩⟩ ?_) (fun r hr => k_some hr))
      rintro i ⟨x2, x3⟩ hi ⟨e3, D⟩
      dsimp only at e3 D
      subst e3
      show k_ok (fX5_wrongHours_32 σ h m (nI d) x2 (nI i)) _
      unfold fX5_wrongHours_32
      rcases D with ⟨e, n⟩ | ⟨e, j, hj, nj⟩
      · subst e
        rw [if_pos rfl, mr19 M, mr20 M, ml16 M, ml17 M, q_gu_t (vp_in_nI hd (by decide)), k_cl (by omega), l4]
        rcases Nat.lt_or_ge i (y 4 d) with q | q
        · rw [if_neg (nI_ge q (by omega)), show (100 : Int32) * nI d = nI (100 * d) from pk_mul 100 d, nI_add, q_gu_t (vp_in_nI (by omega) (by decide)), m_skipped M Y vy hd y2, k_bs1, k_cl (by omega), cc i (by omega)]
          simp only [k_cmpE, k_ww]
          rw [show fX5_in σ h (c d i).toInt64 (0 : Int64) (99 : Int64) = _ from m_in (lo := 0) (hi := 99) (by decide) (by decide), k_bs1]
          unfold fX5_wrongHours_82 fX5_wrongHours_88
          rw [nI_1]
          by_cases h1 : c d i = k_ls (y 3 d)
          · rw [if_pos h1]
            refine k_some ⟨q, rfl, Or.inl ⟨rfl, fun j hj => ?_⟩⟩
            rcases Nat.lt_or_ge j i with g | g
            · exact n j g
            · have : j = i := by omega
              subst this
              unfold r_in
              rw [decide_eq_true h1]; rfl
          · rw [if_neg h1]
            by_cases h2 : 0 ≤ c d i ∧ c d i ≤ 99
            · rw [if_pos h2, if_neg (by decide)]
              refine k_some ⟨q, rfl, Or.inl ⟨rfl, fun j hj => ?_⟩⟩
              rcases Nat.lt_or_ge j i with g | g
              · exact n j g
              · have : j = i := by omega
                subst this
                unfold r_in
                rw [decide_eq_true h2, Bool.or_true]
            · rw [if_neg h2, if_pos rfl]
              refine k_some ⟨q, rfl, Or.inr ⟨rfl, i, q, ?_⟩⟩
              unfold r_in
              rw [decide_eq_false h1, decide_eq_false h2]; rfl
        · have : i = y 4 d := by omega
          subst this
          rw [if_pos (nI_le (Nat.le_refl _) (by omega))]
          refine k_some ?_
          show (0 : Int32) = _
          rw [if_pos (r_okI.mpr ⟨hl, n⟩)]
      · subst e
        rw [if_neg (by decide)]
        refine k_some ?_
        show (-13 : Int32) = _
        have : r_okh z y c d = false := by
          cases eo : r_okh z y c d with
          | false => rfl
          | true =>
            have := (r_okI.mp eo).2 j hj
            rw [nj] at this; cases this
        rw [this]; rfl
    · rw [if_neg hl]
      have : r_okh z y c d = false := by
        unfold r_okh
        rw [decide_eq_false hl]; rfl
      rw [this]
      refine k_eq (k_bind (k_for (n := 0) (P := fun r => r = (-13 : Int32)) (fun i s => s.1 = -13) (by rw [k_N]; omega) rfl ?_) (fun r hr => k_some hr))
      rintro i ⟨x2, x3⟩ hi e
      dsimp only at e
      subst e
      show k_ok (fX5_wrongHours_32 σ h m (nI d) (-13) x3) _
      unfold fX5_wrongHours_32
      rw [if_neg (by decide)]
      exact k_some rfl
  · have n := k_neg q
    rw [if_neg n.2.2, if_neg n.2.2]
    unfold fX5_wrongHours_28 fX5_wrongHours_29
    refine k_eq (k_bind (k_for (n := 0) (P := fun r => r = k_wr y 2 v) (fun i s => s.1 = k_wr y 2 v) (by rw [k_N]; omega) rfl ?_) (fun r hr => k_some hr))
    rintro i ⟨x2, x3⟩ hi e
    dsimp only at e
    subst e
    show k_ok (fX5_wrongHours_32 σ h m v (k_wr y 2 v) x3) _
    unfold fX5_wrongHours_32
    rw [if_neg n.2.2]
    exact k_some rfl
theorem r_best_no {P : Nat → Prop} {a : Nat} : ∀ {b : Nat}, a ≤ b → (∀ n, a ≤ n → n < b → ¬ P n) → r_best P b = r_best P a
  | 0, h, _ => by
    have : a = 0 := by omega
    rw [this]
  | b + 1, h, n => by
    rcases Nat.lt_or_ge b a with q | q
    · have : a = b + 1 := by omega
      rw [this]
    · rw [← r_best_no (b := b) q (fun k h1 h2 => n k h1 (by omega))]
      conv => lhs; unfold r_best
      rw [if_neg (fun c => n b q (by omega) c.2)]
theorem k_subs {x C : Nat} (hx : x < 2147483648) : (nI x &&& (nI C ^^^ (-1)) = 0) = ∀ s, x.testBit s = true → C.testBit s = true := by
  have lt : x &&& (C ^^^ 4294967295) < 2147483648 := Nat.lt_of_le_of_lt Nat.and_le_left hx
  rw [k_m1, k_xor, k_and, show (0 : Int32) = nI 0 from rfl, k_eqL rfl lt (by decide)]
  apply propext
  constructor
  · intro e s hs
    have t := congrArg (fun n => n.testBit s) e
    rw [Nat.testBit_and, Nat.testBit_xor, k_m32, Nat.zero_testBit, hs, Bool.true_and] at t
    have s32 : s < 32 := by
      rcases Nat.lt_or_ge s 32 with q | q
      · exact q
      · rw [Nat.testBit_lt_two_pow (Nat.lt_of_lt_of_le hx (Nat.le_trans (by decide) (Nat.pow_le_pow_right (by decide) q)))] at hs
        cases hs
    rw [decide_eq_true s32] at t
    cases eC : C.testBit s with
    | true => rfl
    | false => rw [eC] at t; cases t
  · intro f
    apply Nat.eq_of_testBit_eq
    intro s
    rw [Nat.testBit_and, Nat.testBit_xor, k_m32, Nat.zero_testBit]
    cases ex : x.testBit s with
    | false => rfl
    | true =>
      have s32 : s < 32 := by
        rcases Nat.lt_or_ge s 32 with q | q
        · exact q
        · rw [Nat.testBit_lt_two_pow (Nat.lt_of_lt_of_le hx (Nat.le_trans (by decide) (Nat.pow_le_pow_right (by decide) q)))] at ex
          cases ex
      rw [f s ex, decide_eq_true s32]; rfl
theorem m_ready {σ : q_St} {h : q_Hp} {m : Nat} {z zi y : k_Z} {p : Bool} {c : Nat → Nat → Int32} (I : k_MI σ h m z p zi y c) (K : k_va z) (vy : k_vy y) (v w : Int32) : k_ok (fX5_ready σ h m v w) (fun r => r.1 = p_ready z y c v w ∧ k_mf [21, 41] [] m h r.2) := by
  have M := I.1
  have n7 := va_ns K
  have A1 : k_mf [21, 41] [] m h (q_si h m 21 0) := mf_fi mf_rf (by decide)
  have I1 : k_MI σ (q_si h m 21 0) m z p zi y c := MI_th I
  unfold fX5_ready
  generalize q_si h m 21 0 = h1 at A1 I1 ⊢
  have W := I1.2.1
  have Y := I1.2.2.2.2.1
  rw [mr5 M, q_gu_t (mt5 M), show fX5_in σ h1 w.toInt64 (0 : Int64) (2 : Int64) = _ from m_in (lo := 0) (hi := 2) (by decide) (by decide), k_bs1]
  unfold p_ready
  by_cases hw : 0 ≤ w ∧ w ≤ 2
  · rw [if_pos hw, if_neg (by decide), m_wrongHours M W Y K vy, k_bs1]
    simp only [if_pos hw]
    rcases k_wr_cases y 2 v with ⟨e0, d, hd, rfl, y2, -⟩ | q
    · simp only [if_pos e0, k_cl (show d < 2147483648 by omega)]
      cases eo : r_okh z y c d with
      | false =>
        unfold fX5_ready_26
        rw [if_neg (show ¬ false = true by decide), if_neg (by decide)]
        exact k_some ⟨rfl, A1⟩
      | true =>
        obtain ⟨ol, oi⟩ := r_okI.mp eo
        obtain ⟨s3, l4, cc⟩ := (Y d hd).2.2 y2
        have bb := (vy d hd).2.2 y2
        simp only [eq_self, if_true]
        unfold fX5_ready_26
        rw [if_pos (by decide)]
        have L1 : k_ok (q_loop (fun s => fX5_ready_42 σ m (nI d) w s.1 s.2.1 s.2.2.1 s.2.2.2) q_N ((0 : Int32), (0 : Int32), (0 : Int32), h1)) (fun o => o = (nI (k_sm (fun s => if z 5 s = 2 then k_ch (z 1 s) (z 2 s) else 0) (z 0 0)), nI (k_bs (fun s => (z 5 s == 2) && r_tl y c d s) (z 0 0)), h1)) := by
          refine k_for (n := z 0 0) (fun i s => s = (nI (k_sm (fun s => if z 5 s = 2 then k_ch (z 1 s) (z 2 s) else 0) i), nI (k_bs (fun s => (z 5 s == 2) && r_tl y c d s) i), nI i, h1)) (by rw [k_N]; omega) rfl ?_
          intro i s hi es
          subst es
          dsimp only
          unfold fX5_ready_42
          rw [w_ns W]
          rcases Nat.lt_or_ge i (z 0 0) with q | q
          · have st := va_st K q
            rw [if_neg (nI_ge q (by omega)), mr5 M, ml5 M, q_gu_t (vp_in_nI (by omega) (by decide)), k_cl (by omega), w5 W q]
            simp only [k_eqL (show (2 : Int32) = nI 2 from rfl) (show z 5 i < 2147483648 by omega) (show 2 < 2147483648 by decide)]
            have ac := k_acc (p := fun s => (z 5 s == 2) && r_tl y c d s) (i := i) (by omega)
            unfold fX5_ready_74 fX5_ready_113 fX5_ready_114
            rw [mr5 M, ml5 M, q_gu_t (vp_in_nI (by omega) (by decide)), k_cl (by omega), w5 W q]
            simp only [k_eqL (show (2 : Int32) = nI 2 from rfl) (show z 5 i < 2147483648 by omega) (show 2 < 2147483648 by decide)]
            by_cases e5 : z 5 i = 2
            · rw [if_pos e5, m_cleans M W K q, k_bs1]
              rw [q_gu_t (vp_in_nI (by omega) (by decide)), if_pos e5, m_told M Y vy hd y2 (by omega), k_bs1, m_skipped M Y vy hd y2, k_bs1, nI_add, nI_1]
              simp only [k_cmpE, k_ww]
              have e3 : k_sm (fun s => if z 5 s = 2 then k_ch (z 1 s) (z 2 s) else 0) (i + 1) = k_sm (fun s => if z 5 s = 2 then k_ch (z 1 s) (z 2 s) else 0) i + k_ch (z 1 i) (z 2 i) := by
                rw [k_sm, if_pos e5]
              rw [e3]
              rw [e5] at ac
              have tl : r_tl y c d i = !decide ((if i < y 4 d then c d i else k_ls (y 3 d)) = k_ls (y 3 d)) := by
                unfold r_tl
                by_cases g : i < y 4 d
                · simp [g]
                · simp [g]
              by_cases g : (if i < y 4 d then c d i else k_ls (y 3 d)) = k_ls (y 3 d)
              · rw [if_pos g]
                rw [tl, decide_eq_true g] at ac
                refine k_some ⟨q, ?_⟩
                rw [← ac]; rfl
              · rw [if_neg g]
                rw [tl, decide_eq_false g] at ac
                refine k_some ⟨q, ?_⟩
                rw [← ac]; rfl
            · rw [if_neg e5, if_neg e5]
              refine k_some ⟨q, ?_⟩
              have e3 : k_sm (fun s => if z 5 s = 2 then k_ch (z 1 s) (z 2 s) else 0) (i + 1) = k_sm (fun s => if z 5 s = 2 then k_ch (z 1 s) (z 2 s) else 0) i := by
                rw [k_sm, if_neg e5, Nat.add_zero]
              rw [beq_false_of_ne e5] at ac
              rw [e3, ← ac, nI_1, show (0 : Int32) = nI 0 from rfl, nI_add, Nat.add_zero]; rfl
          · have : i = z 0 0 := by omega
            subst this
            rw [if_pos (nI_le (Nat.le_refl _) (by omega))]
            exact k_some rfl
        refine k_bind L1 (fun o po => ?_)
        subst po
        dsimp only
        have C7 : k_bs (fun s => (z 5 s == 2) && r_tl y c d s) (z 0 0) < 128 := bs_p2 _ (m := 7) n7
        have Ct : ∀ s, (k_bs (fun s => (z 5 s == 2) && r_tl y c d s) (z 0 0)).testBit s = r_D z y c d s := fun s => by
          rw [k_bs_tb]
          unfold r_D
          rw [Bool.and_assoc]
        generalize k_bs (fun s => (z 5 s == 2) && r_tl y c d s) (z 0 0) = C at C7 Ct ⊢
        generalize k_sm (fun s => if z 5 s = 2 then k_ch (z 1 s) (z 2 s) else 0) (z 0 0) = sum
        have TB : ∀ s, s < 8 → r_T y c d s < 100 := fun s _ => r_TB y c d s
        have Dn : ∀ s, r_D z y c d s = true → s < z 0 0 := fun s hs => by
          unfold r_D at hs
          simp only [Bool.and_eq_true, decide_eq_true_eq] at hs
          exact hs.1.1
        have TH : ∀ h2, k_mf [41] [] m h1 h2 → ∀ s, r_D z y c d s = true → fX5_toldHour σ h2 m (nI d) (nI s) = some (nI (r_T y c d s)).toInt64 := fun h2 a2 s hs => by
          have sn := Dn s hs
          unfold r_D at hs
          simp only [Bool.and_eq_true] at hs
          have tl := hs.2
          have tl2 := tl
          unfold r_tl at tl2
          simp only [Bool.and_eq_true, decide_eq_true_eq, Bool.not_eq_true', decide_eq_false_iff_not] at tl2
          have ri := oi s tl2.1
          unfold r_in at ri
          simp only [Bool.or_eq_true, decide_eq_true_eq] at ri
          have rr := ri.resolve_left tl2.2
          obtain ⟨j, hj, ej⟩ := k_is100 rr
          rw [m_told M (k_YM_mf Y a2 (fun _ _ _ => by simp)) vy hd y2 (by omega), if_pos tl2.1]
          congr 2
          unfold r_T
          rw [tl, decide_eq_true rr.2, Bool.true_and, if_pos rfl, ej, k_cl (by omega)]
        have qk : ∀ s, r_D z y c d s = true → r_q (r_D z y c d) (r_T y c d) (8 * r_T y c d s + s) = true := fun s hs => by
          have := Dn s hs
          have e1 : (8 * r_T y c d s + s) % 8 = s := by omega
          have e2 : (8 * r_T y c d s + s) / 8 = r_T y c d s := by omega
          unfold r_q
          rw [e1, e2, hs]; simp
        have kq : ∀ k, r_q (r_D z y c d) (r_T y c d) k = true → r_D z y c d (k % 8) = true ∧ k = 8 * r_T y c d (k % 8) + k % 8 := fun k hk => by
          unfold r_q at hk
          simp only [Bool.and_eq_true, beq_iff_eq] at hk
          exact ⟨hk.1, by rw [hk.2]; omega⟩
        have IR : ∀ (N : Nat), N = 800 → ∀ h2 B, k_mf [41] [] m h1 h2 → B < 256 → (∀ s, B.testBit s = true → r_D z y c d s = true) → k_ok (fX5_isReady σ h2 m (nI B) (nI d)) (fun o => r_E (r_q (r_D z y c d) (r_T y c d)) (r_ch z) B m N h2 o) := fun N hN h2 B a2 hB hBD => m_isReady M (W_mf W a2 (by decide) (fun _ _ _ => by simp)) K TB Dn (fun h3 a3 => TH h3 (mf_tr a2 a3)) hB hBD hN qk kq
        have eb : r_bst z y c d = r_best (r_P (r_D z y c d) (r_q (r_D z y c d) (r_T y c d)) (r_ch z)) 128 := by rw [r_bst]
        have PB : ∀ B, B < 128 → (r_P (r_D z y c d) (r_q (r_D z y c d) (r_T y c d)) (r_ch z) B ↔ (∀ s, B.testBit s = true → C.testBit s = true) ∧ r_fe (r_q (r_D z y c d) (r_T y c d)) (r_ch z) B 800) := fun B hB => by
          unfold r_P
          constructor
          · rintro ⟨f, g⟩
            refine ⟨fun s hs => ?_, g⟩
            rw [Ct]
            refine f s ?_ hs
            rcases Nat.lt_or_ge s 8 with q | q
            · exact q
            · rw [Nat.testBit_lt_two_pow (Nat.lt_of_lt_of_le hB (Nat.le_trans (by decide) (Nat.pow_le_pow_right (by decide) q)))] at hs
              cases hs
          · rintro ⟨f, g⟩
            exact ⟨fun s _ hs => by rw [← Ct]; exact f s hs, g⟩
        have P0 := r_best_P (P := r_P (r_D z y c d) (r_q (r_D z y c d) (r_T y c d)) (r_ch z))
        have nn := r_best_no (P := r_P (r_D z y c d) (r_q (r_D z y c d) (r_T y c d)) (r_ch z)) (a := 2 ^ z 0 0) (b := 128) (Nat.le_trans (Nat.pow_le_pow_right (by decide) n7) (by decide : 2 ^ 7 ≤ 128)) (fun n h1 h2 P => by
          have f := ((PB n h2).mp P).1
          apply absurd h1
          rw [Nat.not_le]
          apply Nat.lt_pow_two_of_testBit
          intro i hi
          cases e : n.testBit i with
          | false => rfl
          | true =>
            have := f i e
            rw [Ct] at this
            have := Dn i this
            omega)
        have bB := r_bestB (r_P (r_D z y c d) (r_q (r_D z y c d) (r_T y c d)) (r_ch z))
        have st1 : r_best (r_P (r_D z y c d) (r_q (r_D z y c d) (r_T y c d)) (r_ch z)) 1 = 0 := by have := bB 1; omega
        have stT : ∀ i, (k_pc (r_best (r_P (r_D z y c d) (r_q (r_D z y c d) (r_T y c d)) (r_ch z)) i) < k_pc i ∧ r_P (r_D z y c d) (r_q (r_D z y c d) (r_T y c d)) (r_ch z) i) → r_best (r_P (r_D z y c d) (r_q (r_D z y c d) (r_T y c d)) (r_ch z)) (i + 1) = i := fun i c => by
          conv => lhs; unfold r_best
          rw [if_pos c]
        have stF : ∀ i, ¬ (k_pc (r_best (r_P (r_D z y c d) (r_q (r_D z y c d) (r_T y c d)) (r_ch z)) i) < k_pc i ∧ r_P (r_D z y c d) (r_q (r_D z y c d) (r_T y c d)) (r_ch z) i) → r_best (r_P (r_D z y c d) (r_q (r_D z y c d) (r_T y c d)) (r_ch z)) (i + 1) = r_best (r_P (r_D z y c d) (r_q (r_D z y c d) (r_T y c d)) (r_ch z)) i := fun i c => by
          conv => lhs; unfold r_best
          rw [if_neg c]
        rw [eb]
        have rf : ∀ B N v, N = 800 → k_fst (fun k => r_q (r_D z y c d) (r_T y c d) k && B.testBit (k % 8)) (fun k => nI (k % 8)) 0 N v → v = r_first (r_q (r_D z y c d) (r_T y c d)) B := fun B N v hN hv => by
          subst hN
          exact k_fst_u hv p_fstE
        generalize r_first (r_q (r_D z y c d) (r_T y c d)) = fst at rf ⊢
        obtain ⟨N, hN⟩ : ∃ N, N = 800 := ⟨_, rfl⟩
        rw [← hN] at PB
        have IR := IR N hN
        generalize r_P (r_D z y c d) (r_q (r_D z y c d) (r_T y c d)) (r_ch z) = P at PB P0 nn bB st1 stT stF ⊢
        generalize r_q (r_D z y c d) (r_T y c d) = q at PB IR rf
        obtain ⟨K8, hK8⟩ : ∃ K8, K8 = 128 := ⟨_, rfl⟩
        rw [← hK8] at nn ⊢
        rw [nn]
        have z7 : 2 ^ z 0 0 ≤ 128 := Nat.le_trans (Nat.pow_le_pow_right (by decide) n7) (by decide : 2 ^ 7 ≤ 128)
        have z1 : 1 ≤ 2 ^ z 0 0 := Nat.one_le_two_pow
        have one := k_one (z 0 0) (by omega)
        generalize 2 ^ z 0 0 = e at z7 z1 one ⊢
        refine k_bind (P := fun o => o.1 = nI (r_best P e) ∧ k_mf [41] [] m h1 o.2) (k_for (n := e - 1) (fun i s => s.2.1 = nI (i + 1) ∧ s.1 = nI (r_best P (i + 1)) ∧ k_mf [41] [] m h1 s.2.2) (by rw [k_N]; omega) ⟨rfl, by rw [st1]; rfl, mf_rf⟩ ?_) ?_
        · rintro i ⟨x6, x7, h2⟩ hi ⟨e7, e6, a2⟩
          dsimp only at e7 e6 a2
          subst e7; subst e6
          show k_ok (fX5_ready_129 σ m (nI d) w (nI sum) (nI C) (nI (r_best P (i + 1))) (nI (i + 1)) h2) _
          have W2 := W_mf W a2 (by decide) (fun _ _ _ => by simp)
          have b1 := bB (i + 1)
          unfold fX5_ready_129 fX5_ready_180 fX5_ready_182
          rw [w_ns W2, one]
          rcases Nat.lt_or_ge i (e - 1) with q | q
          · rw [if_neg (nI_ge (by omega) (by omega))]
            rw [nI_1]
            by_cases sb0 : nI (i + 1) &&& (nI C ^^^ (-1)) = 0
            · have sb := Eq.mp (k_subs (show i + 1 < 2147483648 by omega)) sb0
              rw [if_pos sb0, m_ones (by omega), k_bs1, m_ones (by omega), k_bs1]
              have p1 := k_pcB (i + 1)
              have p2 := k_pcB (r_best P (i + 1))
              simp only [k_le2 rfl (show k_pc (i + 1) < 2147483648 by omega) (show k_pc (r_best P (i + 1)) < 2147483648 by omega)]
              by_cases le : k_pc (i + 1) ≤ k_pc (r_best P (i + 1))
              · rw [if_pos le]
                exact k_some ⟨q, rfl, congrArg nI (stF (i + 1) (fun c => by omega)).symm, a2⟩
              · rw [if_neg le]
                refine k_b2 (IR h2 (i + 1) a2 (by omega) (fun s hs => by rw [← Ct]; exact sb s hs)) (fun r h3 p => ?_)
                obtain ⟨pD, -, p3⟩ := p
                dsimp only at pD p3
                rcases pD with ⟨e1, f⟩ | ⟨e1, f⟩
                · subst e1
                  rw [if_neg (by decide)]
                  exact k_some ⟨q, rfl, congrArg nI (stT (i + 1) ⟨by omega, (PB (i + 1) (by omega)).mpr ⟨sb, f⟩⟩).symm, mf_tr a2 p3⟩
                · subst e1
                  rw [if_pos rfl]
                  exact k_some ⟨q, rfl, congrArg nI (stF (i + 1) (fun c => f ((PB (i + 1) (by omega)).mp c.2).2)).symm, mf_tr a2 p3⟩
            · have sb : ¬ ∀ s, (i + 1).testBit s = true → C.testBit s = true := fun q => sb0 (Eq.mpr (k_subs (show i + 1 < 2147483648 by omega)) q)
              rw [if_neg sb0]
              exact k_some ⟨q, rfl, congrArg nI (stF (i + 1) (fun c => sb ((PB (i + 1) (by omega)).mp c.2).1)).symm, a2⟩
          · have : i = e - 1 := by omega
            subst this
            rw [show e - 1 + 1 = e by omega, if_pos (nI_le (Nat.le_refl _) (by omega))]
            exact k_some ⟨rfl, a2⟩
        · rintro ⟨o1, h2⟩ ⟨e1, a2⟩
          dsimp only at e1 a2
          subst e1
          dsimp only
          have b1 := bB e
          have sb : ∀ s, (r_best P e).testBit s = true → r_D z y c d s = true := fun s hs => by
            rcases P0 e with q | q
            · rw [q, Nat.zero_testBit] at hs; cases hs
            · rw [← Ct]; exact ((PB _ (by omega)).mp q).1 s hs
          refine k_b2 (IR h2 (r_best P e) a2 (by omega) sb) (fun r h3 p => ?_)
          obtain ⟨-, p2, p3⟩ := p
          dsimp only at p2 p3
          have a3 : k_mf [21, 41] [] m h h3 := mf_tr A1 (mf_mono (mf_tr a2 p3) (by decide) (by decide))
          by_cases w0 : w = 0
          · rw [if_pos w0, m_ones (by omega), k_bs1, if_neg (by rw [w0]; decide), if_pos w0]
            exact k_some ⟨rfl, a3⟩
          · rw [if_neg w0]
            by_cases w1 : w = 1
            · rw [if_pos w1, if_neg (by rw [w1]; decide), if_neg w0]
              exact k_some ⟨rf _ N _ hN p2, a3⟩
            · rw [if_neg w1, if_pos (by
                obtain ⟨j, hj, ej⟩ := k_is_t (n := 3) (by decide) (decide_eq_true ⟨hw.1, by rw [show nI 3 - 1 = (2 : Int32) by decide]; exact hw.2⟩)
                subst ej
                rcases (show j = 0 ∨ j = 1 ∨ j = 2 by omega) with rfl | rfl | rfl
                · exact absurd rfl w0
                · exact absurd rfl w1
                · rfl)]
              exact k_some ⟨rfl, a3⟩
    · have n := k_neg q
      simp only [if_neg n.2.2]
      unfold fX5_ready_26
      rw [if_neg n.1]
      exact k_some ⟨rfl, A1⟩
  · rw [if_neg hw, if_pos rfl]
    simp only [if_neg hw]
    unfold fX5_ready_26
    rw [if_neg (by decide)]
    exact k_some ⟨rfl, A1⟩
