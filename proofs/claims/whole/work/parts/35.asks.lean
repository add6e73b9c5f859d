/-! simple questions -/
theorem k_si2 {α : Type} {c : Prop} [Decidable c] {a b : α} : some (if c then a else b) = if c then some a else some b := by split <;> rfl
theorem k_si3 {α β : Type} {c : Prop} [Decidable c] {a b : α} {h : β} : some ((if c then a else b), h) = if c then some (a, h) else some (b, h) := by split <;> rfl
theorem MI_th {σ : q_St} {h : q_Hp} {m : Nat} {z zi y : k_Z} {p : Bool} {c : Nat → Nat → Int32} {v : Int32} (I : k_MI σ h m z p zi y c) : k_MI σ (q_si h m 21 v) m z p zi y c := MI_mf I (mf_fi (L := [21]) (R := []) mf_rf (by decide)) (by decide) (fun _ _ _ => by simp) (by decide)
theorem fm_th {σ : q_St} {h : q_Hp} {m : Nat} {v : Int32} : k_fm σ h m σ (q_si h m 21 v) := ⟨⟨[21], [], mf_th (by decide)⟩, Or.inl rfl⟩
def p_suit (z : k_Z) (x w : Int32) : Int32 := if k_is x (z 0 0) then (if w = 0 then nI (z 1 x.toNatClampNeg) else if w = 1 then nI (z 2 x.toNatClampNeg) else if w = 2 then nI (z 3 x.toNatClampNeg) else if w = 3 then nI (z 4 x.toNatClampNeg) else if w = 4 then nI (z 5 x.toNatClampNeg) else if w = 5 then nI (k_pr (z 1 x.toNatClampNeg) (z 2 x.toNatClampNeg)) else if w = 6 then nI (k_gv (z 1 x.toNatClampNeg)) else if w = 7 then nI (k_ch (z 1 x.toNatClampNeg) (z 2 x.toNatClampNeg)) else if w = 8 then nI (k_la (z 1 x.toNatClampNeg) (z 2 x.toNatClampNeg)) else -1) else -1
theorem c_suit {σ : q_St} {h : q_Hp} {x A B : Nat} {z : k_Z} (X : k_X σ x A B) (V : k_V σ h A z) (K : k_va z) (s w : Int32) : fX4_suit σ h x s w = some (p_suit z s w) := by
  have S := vS V
  have n7 := va_ns K
  unfold fX4_suit
  rw [xr0 X, sr1 S, sr2 S, sr3 S, q_gu_t ⟨st0 S, st2 S, st3 S, st4 S⟩, c_isSuit V, k_bs1, k_01i]
  unfold p_suit
  cases e : k_is s (z 0 0) with
  | false => rfl
  | true =>
    obtain ⟨s, hs, rfl⟩ := k_is_t (by omega) e
    have U := v_su V hs
    simp only [if_true, c_kindOf V K hs, k_bs1, sut U, k_guT, su0 U, su1 U, su2 U, su3 U, su4 U, su5 U, c_at (sl2 S) (show s < 7 by omega) (show 7 < 2147483648 by decide), c_at (sl3 S) (show s < 7 by omega) (show 7 < 2147483648 by decide), c_at (sl4 S) (show s < 7 by omega) (show 7 < 2147483648 by decide), v3 V hs, v4 V hs, v5 V hs, k_cl (show s < 2147483648 by omega), k_si2]
theorem m_suitO {σ : q_St} {h : q_Hp} {m : Nat} {z : k_Z} (M : k_M σ m) (W : k_W h m z) (K : k_va z) (s w : Int32) : fX5_suit σ h m s w = some (p_suit z s w, q_si h m 21 0) := by
  have n7 := va_ns K
  have W1 : k_W (q_si h m 21 0) m z := W_th W
  unfold fX5_suit
  generalize q_si h m 21 0 = h1 at W1 ⊢
  rw [mr1 M, mr2 M, mr3 M, mr4 M, mr5 M, q_gu_t ⟨mt1 M, mt2 M, mt3 M, mt4 M, mt5 M⟩, m_isSuit W1, k_bs1, k_01i]
  unfold p_suit
  cases e : k_is s (z 0 0) with
  | false => rfl
  | true =>
    obtain ⟨s, hs, rfl⟩ := k_is_t (by omega) e
    simp only [if_true, ml1 M, ml2 M, ml3 M, ml4 M, ml5 M, k_vi (show s < 8 by omega) (show 8 < 2147483648 by decide), k_guT, k_cl (show s < 2147483648 by omega), w1 W1 hs, w2 W1 hs, w3 W1 hs, w4 W1 hs, w5 W1 hs, m_priceOf M W1 K hs, m_gives M W1 K hs, m_cleans M W1 K hs, m_lasts M W1 K hs, k_bs1, k_si3]
def p_booking (z : k_Z) (x w : Int32) : Int32 := if k_is x (z 0 1) then (if w = 0 then nI (z 6 x.toNatClampNeg) else if w = 1 then nI (z 7 x.toNatClampNeg) else if w = 2 then nI (z 8 x.toNatClampNeg) else if w = 3 then nI (z 9 x.toNatClampNeg) else if w = 4 then nI (z 10 x.toNatClampNeg) else if w = 5 then nI (z 11 x.toNatClampNeg) else -1) else -1
theorem c_booking {σ : q_St} {h : q_Hp} {x A B : Nat} {z : k_Z} (X : k_X σ x A B) (V : k_V σ h A z) (K : k_va z) (s w : Int32) : fX4_booking σ h x s w = some (p_booking z s w) := by
  have S := vS V
  have n7 := va_nb K
  unfold fX4_booking
  rw [xr0 X, sr4 S, sr5 S, sr6 S, sr7 S, sr8 S, sr9 S, q_gu_t ⟨st0 S, st5 S, st6 S, st7 S, st8 S, st9 S, st10 S⟩, c_isBooking V, k_bs1, k_01i]
  unfold p_booking
  cases e : k_is s (z 0 1) with
  | false => rfl
  | true =>
    obtain ⟨s, hs, rfl⟩ := k_is_t (by omega) e
    simp only [if_true, k_bs1, c_at (sl5 S) (show s < 7 by omega) (show 7 < 2147483648 by decide), c_at (sl6 S) (show s < 7 by omega) (show 7 < 2147483648 by decide), c_at (sl7 S) (show s < 7 by omega) (show 7 < 2147483648 by decide), c_at (sl8 S) (show s < 7 by omega) (show 7 < 2147483648 by decide), c_at (sl9 S) (show s < 7 by omega) (show 7 < 2147483648 by decide), c_at (sl10 S) (show s < 7 by omega) (show 7 < 2147483648 by decide), v6 V hs, v7 V hs, v8 V hs, v9 V hs, v10 V hs, v11 V hs, k_cl (show s < 2147483648 by omega), k_si2]
theorem m_bookingO {σ : q_St} {h : q_Hp} {m : Nat} {z : k_Z} (M : k_M σ m) (W : k_W h m z) (K : k_va z) (s w : Int32) : fX5_booking σ h m s w = some (p_booking z s w, q_si h m 21 0) := by
  have n7 := va_nb K
  have W1 : k_W (q_si h m 21 0) m z := W_th W
  unfold fX5_booking
  generalize q_si h m 21 0 = h1 at W1 ⊢
  rw [mr7 M, mr8 M, mr9 M, mr10 M, mr11 M, mr12 M, q_gu_t ⟨mt6 M, mt7 M, mt8 M, mt9 M, mt10 M, mt11 M⟩, m_isBooking W1, k_bs1, k_01i]
  unfold p_booking
  cases e : k_is s (z 0 1) with
  | false => rfl
  | true =>
    obtain ⟨s, hs, rfl⟩ := k_is_t (by omega) e
    simp only [if_true, ml6 M, ml7 M, ml8 M, ml9 M, ml10 M, ml11 M, k_vi (show s < 7 by omega) (show 7 < 2147483648 by decide), k_guT, k_cl (show s < 2147483648 by omega), w6 W1 hs, w7 W1 hs, w8 W1 hs, w9 W1 hs, w10 W1 hs, w11 W1 hs, k_si3]
def p_fits (z : k_Z) (x y : Int32) : Int32 := if k_is x (z 0 0) then (if k_is y (z 0 1) then (if k_fits z x.toNatClampNeg y.toNatClampNeg then 1 else 0) else -1) else -1
theorem c_fits {σ : q_St} {h : q_Hp} {x A B : Nat} {z : k_Z} (X : k_X σ x A B) (V : k_V σ h A z) (K : k_va z) (s b : Int32) : fX4_fits σ h x s b = some (p_fits z s b) := by
  have S := vS V
  have n7 := va_ns K
  have b7 := va_nb K
  unfold fX4_fits
  rw [xr0 X, q_gu_t (st0 S), c_isSuit V, k_bs1, k_01i, c_isBooking V, k_bs1, k_01i]
  unfold p_fits
  cases e : k_is s (z 0 0) with
  | false => rfl
  | true =>
  cases e2 : k_is b (z 0 1) with
  | false => rfl
  | true =>
    obtain ⟨s, hs, rfl⟩ := k_is_t (by omega) e
    obtain ⟨b, hb, rfl⟩ := k_is_t (by omega) e2
    simp only [if_true, c_right V K hs hb, k_bs1, k_01i, k_cl (show s < 2147483648 by omega), k_cl (show b < 2147483648 by omega)]
    cases k_fits z s b <;> rfl
theorem m_fitsO {σ : q_St} {h : q_Hp} {m : Nat} {z : k_Z} (M : k_M σ m) (W : k_W h m z) (K : k_va z) (s b : Int32) : fX5_fits σ h m s b = some (p_fits z s b, q_si h m 21 0) := by
  have n7 := va_ns K
  have b7 := va_nb K
  have W1 : k_W (q_si h m 21 0) m z := W_th W
  unfold fX5_fits
  generalize q_si h m 21 0 = h1 at W1 ⊢
  rw [m_isSuit W1, k_bs1, k_01i, m_isBooking W1, k_bs1, k_01i]
  unfold p_fits
  cases e : k_is s (z 0 0) with
  | false => rfl
  | true =>
  cases e2 : k_is b (z 0 1) with
  | false => rfl
  | true =>
    obtain ⟨s, hs, rfl⟩ := k_is_t (by omega) e
    obtain ⟨b, hb, rfl⟩ := k_is_t (by omega) e2
    simp only [if_true, m_fits M W1 K hs hb, k_bs1, k_01i, k_cl (show s < 2147483648 by omega), k_cl (show b < 2147483648 by omega)]
    cases k_fits z s b <;> rfl
def p_count (z : k_Z) (w : Int32) : Int32 := if w = 0 then nI (z 0 0) else if w = 1 then nI (z 0 1) else if w = 2 then nI (z 0 2) else if w = 3 then nI (z 0 3) else if w = 4 then nI (k_bs (fun s => z 5 s == 0) (z 0 0)) else if w = 5 then nI (k_bs (fun s => z 5 s == 1) (z 0 0)) else if w = 6 then nI (k_bs (fun s => z 5 s == 2) (z 0 0)) else if w = 7 then nI (k_sm (fun s => z 4 s) (z 0 0)) else -1
theorem c_count {σ : q_St} {h : q_Hp} {x A B : Nat} {z : k_Z} (X : k_X σ x A B) (V : k_V σ h A z) (K : k_va z) (w : Int32) : fX4_count σ h x w = some (p_count z w) := by
  have S := vS V
  unfold fX4_count p_count
  rw [xr0 X, q_gu_t (st0 S), v_ns V, v_nb V, v_pe V, v_ho V, show (fX2_suitsThatAre σ h A 0) = _ from c_state V K (w := 0) (by decide), show (fX2_suitsThatAre σ h A 1) = _ from c_state V K (w := 1) (by decide), show (fX2_suitsThatAre σ h A 2) = _ from c_state V K (w := 2) (by decide), c_worn V K]
  simp only [k_bs1, k_si2]
theorem m_countO {σ : q_St} {h : q_Hp} {m : Nat} {z : k_Z} (M : k_M σ m) (W : k_W h m z) (K : k_va z) (w : Int32) : fX5_count σ h m w = some (p_count z w, q_si h m 21 0) := by
  have n7 := va_ns K
  have W1 : k_W (q_si h m 21 0) m z := W_th W
  unfold fX5_count
  generalize q_si h m 21 0 = h1 at W1 ⊢
  rw [mr4 M, q_gu_t (mt4 M), w_ns W1, w_nb W1, w_pe W1, w_ho W1]
  have e7 : q_loop (fun s => fX5_count_86 σ m w s.1 s.2.1 s.2.2) q_N ((0 : Int32), (0 : Int32), h1) = some (nI (k_sm (fun s => z 4 s) (z 0 0)), h1) := by
    refine k_eq (k_for (n := z 0 0) (fun i s => s = (nI (k_sm (fun s => z 4 s) i), nI i, h1)) (by rw [k_N]; omega) rfl ?_)
    intro i s hi e
    subst e
    show k_ok (fX5_count_86 σ m w (nI (k_sm (fun s => z 4 s) i)) (nI i) h1) _
    unfold fX5_count_86
    rw [w_ns W1, mr4 M, ml4 M]
    rcases Nat.lt_or_ge i (z 0 0) with q | q
    · rw [if_neg (nI_ge q (by omega)), q_gu_t (vp_in_nI (by omega) (by decide)), k_cl (by omega), w4 W1 q, nI_add, nI_1]
      exact k_some ⟨q, rfl⟩
    · have : i = z 0 0 := by omega
      subst this
      rw [if_pos (nI_le (Nat.le_refl _) (by omega))]
      exact k_some rfl
  rw [e7]
  unfold p_count
  by_cases e4 : w = 4
  · subst e4
    rw [if_neg (by decide), if_neg (by decide), if_neg (by decide), if_neg (by decide), if_pos rfl, if_neg (by decide), if_neg (by decide), if_neg (by decide), if_neg (by decide), if_pos rfl, show (fX5_inState σ h1 m (4 - 4)) = _ from m_state M W1 K (w := 0) (by decide), k_bs1]
  by_cases e5 : w = 5
  · subst e5
    rw [if_neg (by decide), if_neg (by decide), if_neg (by decide), if_neg (by decide), if_neg (by decide), if_pos rfl, if_neg (by decide), if_neg (by decide), if_neg (by decide), if_neg (by decide), if_neg (by decide), if_pos rfl, show (fX5_inState σ h1 m (5 - 4)) = _ from m_state M W1 K (w := 1) (by decide), k_bs1]
  by_cases e6 : w = 6
  · subst e6
    rw [if_neg (by decide), if_neg (by decide), if_neg (by decide), if_neg (by decide), if_neg (by decide), if_neg (by decide), if_pos rfl, if_neg (by decide), if_neg (by decide), if_neg (by decide), if_neg (by decide), if_neg (by decide), if_neg (by decide), if_pos rfl, show (fX5_inState σ h1 m (6 - 4)) = _ from m_state M W1 K (w := 2) (by decide), k_bs1]
  simp only [if_neg e4, if_neg e5, if_neg e6, k_bs1, k_si3]
/-! worn too often -/
def p_shines (z : k_Z) : Int32 := nI (k_bs (fun s => decide (k_la (z 1 s) (z 2 s) < z 4 s)) (z 0 0))
theorem c_shines {σ : q_St} {h : q_Hp} {x A B : Nat} {z : k_Z} (X : k_X σ x A B) (V : k_V σ h A z) (K : k_va z) : fX4_shines σ h x = some (p_shines z) := by
  have S := vS V
  have n7 := va_ns K
  unfold fX4_shines p_shines
  rw [xr0 X, sr2 S, q_gu_t ⟨st0 S, st3 S⟩, k_bl (n := z 0 0) (p := fun s => decide (k_la (z 1 s) (z 2 s) < z 4 s)) (body := fun s => fX4_shines_4 σ h x s.1 s.2) (by omega) (fun i hi u => ?_) (fun u => ?_), k_bs1]
  · have := va_wo K hi
    have := k_laB _ (va_k K hi) _ (va_f K hi)
    simp only [fX4_shines_48, fX4_shines_4, xr0 X, v_ns V, sr2 S, c_at (sl3 S) (show i < 7 by omega) (show 7 < 2147483648 by decide), k_bs1, v4 V hi, c_kindOf V K hi, sut (v_su V hi), k_guT, su5 (v_su V hi), if_neg (nI_ge hi (show z 0 0 < 2 ^ 31 by omega)), k_le2 rfl (show z 4 i < 2147483648 by omega) (show k_la (z 1 i) (z 2 i) < 2147483648 by omega)]
    by_cases e : z 4 i ≤ k_la (z 1 i) (z 2 i)
    · rw [if_pos e, decide_eq_false (by omega)]; rfl
    · rw [if_neg e, decide_eq_true (by omega)]; rfl
  · simp only [fX4_shines_48, fX4_shines_4, xr0 X, v_ns V, if_pos (nI_le (Nat.le_refl (z 0 0)) (show z 0 0 < 2 ^ 31 by omega))]
/-- a loop of the model that gathers bits and carries the memory along -/
theorem k_blm {n : Nat} {p : Nat → Bool} {h : q_Hp} {body : Int32 × Int32 × q_Hp → Option ((Int32 × Int32 × q_Hp) ⊕ (Int32 × q_Hp))} (hn : n < 31) (hs : ∀ i, i < n → ∀ u, body (u, nI i, h) = some (.inl (u ||| (if p i then (1 : Int32) <<< (nI i &&& 31) else 0), nI i + 1, h))) (hx : ∀ u, body (u, nI n, h) = some (.inr (u, h))) : q_loop body q_N ((0 : Int32), (0 : Int32), h) = some (nI (k_bs p n), h) := by
  refine k_eq (k_for (n := n) (fun i s => s = (nI (k_bs p i), nI i, h)) (by rw [k_N]; omega) rfl ?_)
  intro i s hi hs2
  subst hs2
  rcases Nat.lt_or_ge i n with q | q
  · rw [hs i q]
    refine k_some ⟨q, ?_⟩
    rw [k_acc (by omega), nI_1]
  · have e : i = n := by omega
    subst e
    rw [hx]
    exact k_some rfl
theorem m_shinesO {σ : q_St} {h : q_Hp} {m : Nat} {z : k_Z} (M : k_M σ m) (W : k_W h m z) (K : k_va z) : fX5_shines σ h m = some (p_shines z, q_si h m 21 0) := by
  have n7 := va_ns K
  have W1 : k_W (q_si h m 21 0) m z := W_th W
  unfold fX5_shines p_shines
  generalize q_si h m 21 0 = h1 at W1 ⊢
  rw [mr4 M, q_gu_t (mt4 M), k_blm (n := z 0 0) (p := fun s => decide (k_la (z 1 s) (z 2 s) < z 4 s)) (body := fun s => fX5_shines_9 σ m s.1 s.2.1 s.2.2) (by omega) (fun i hi u => ?_) (fun u => ?_), k_bs1]
  · have := va_wo K hi
    have := k_laB _ (va_k K hi) _ (va_f K hi)
    simp only [fX5_shines_39, fX5_shines_9, w_ns W1, mr4 M, ml4 M, k_vi (show i < 8 by omega) (show 8 < 2147483648 by decide), k_guT, k_cl (show i < 2147483648 by omega), k_bs1, w4 W1 hi, m_lasts M W1 K hi, if_neg (nI_ge hi (show z 0 0 < 2 ^ 31 by omega)), k_le2 rfl (show z 4 i < 2147483648 by omega) (show k_la (z 1 i) (z 2 i) < 2147483648 by omega)]
    by_cases e : z 4 i ≤ k_la (z 1 i) (z 2 i)
    · rw [if_pos e, decide_eq_false (by omega)]; rfl
    · rw [if_neg e, decide_eq_true (by omega)]; rfl
  · simp only [fX5_shines_39, fX5_shines_9, w_ns W1, if_pos (nI_le (Nat.le_refl (z 0 0)) (show z 0 0 < 2 ^ 31 by omega))]
/-! fees -/
def k_come (z : k_Z) (f : Nat) : Nat := k_bs (fun b => decide (f / 5 ≤ z 9 b)) (z 0 1)
def k_fv (z : k_Z) (f b : Nat) : Nat := if f / 5 ≤ z 9 b then z 9 b - f / 4 else 0
def k_paid (z : k_Z) (f : Nat) : Nat := f * k_sm (k_fv z f) (z 0 1)
theorem k_sm_mul (f : Nat) (v : Nat → Nat) : ∀ n, k_sm (fun b => f * v b) n = f * k_sm v n
  | 0 => rfl
  | n + 1 => by rw [k_sm, k_sm, k_sm_mul f v n, Nat.mul_add]
theorem k_comeB {z : k_Z} (K : k_va z) (f : Nat) : k_come z f < 128 := Nat.lt_of_lt_of_le (k_bs_lt _ _) (Nat.pow_le_pow_right (by decide) (va_nb K))
theorem k_comeT {z : k_Z} {f b : Nat} (hb : b < z 0 1) : (k_come z f).testBit b = decide (f / 5 ≤ z 9 b) := by unfold k_come; rw [k_bs_tb]; simp [hb]
theorem c_comers {σ : q_St} {h : q_Hp} {x A B f : Nat} {z : k_Z} (X : k_X σ x A B) (V : k_V σ h A z) (K : k_va z) (hf : f ≤ 20) : fX4_comersFor σ h x (nI f) = some (nI (k_come z f)) := by
  have S := vS V
  have n7 := va_nb K
  unfold fX4_comersFor k_come
  rw [xr0 X, sr7 S, q_gu_t ⟨st0 S, st8 S⟩, k_bl (n := z 0 1) (p := fun b => decide (f / 5 ≤ z 9 b)) (body := fun s => fX4_comersFor_4 σ h x (nI f) s.1 s.2) (by omega) (fun i hi u => ?_) (fun u => ?_), k_bs1]
  · have := va_lt K hi
    simp only [fX4_comersFor_40, fX4_comersFor_4, xr0 X, v_nb V, sr7 S, c_at (sl8 S) (show i < 7 by omega) (show 7 < 2147483648 by decide), k_bs1, v9 V hi, if_neg (nI_ge hi (show z 0 1 < 2 ^ 31 by omega)), show nI f / 5 = nI (f / 5) from pk_div (d := 5) (by omega) (by decide) (by decide), k_lt2 rfl (show z 9 i < 2147483648 by omega) (show f / 5 < 2147483648 by omega)]
    by_cases e : z 9 i < f / 5
    · rw [if_pos e, decide_eq_false (by omega)]; rfl
    · rw [if_neg e, decide_eq_true (by omega)]; rfl
  · simp only [fX4_comersFor_40, fX4_comersFor_4, xr0 X, v_nb V, if_pos (nI_le (Nat.le_refl (z 0 1)) (show z 0 1 < 2 ^ 31 by omega))]
theorem m_comes {σ : q_St} {h : q_Hp} {m f : Nat} {z : k_Z} (M : k_M σ m) (W : k_W h m z) (K : k_va z) (hf : f ≤ 20) : fX5_comesBy σ h m (nI f) = some (nI (k_come z f)) := by
  have n7 := va_nb K
  unfold fX5_comesBy k_come
  rw [mr10 M, q_gu_t (mt9 M), k_bl (n := z 0 1) (p := fun b => decide (f / 5 ≤ z 9 b)) (body := fun s => fX5_comesBy_4 σ h m (nI f) s.1 s.2) (by omega) (fun i hi u => ?_) (fun u => ?_), k_bs1]
  · have := va_lt K hi
    simp only [fX5_comesBy_32, fX5_comesBy_4, w_nb W, mr10 M, ml9 M, k_vi (show i < 7 by omega) (show 7 < 2147483648 by decide), k_guT, k_cl (show i < 2147483648 by omega), w9 W hi, if_neg (nI_ge hi (show z 0 1 < 2 ^ 31 by omega)), show nI f / 5 = nI (f / 5) from pk_div (d := 5) (by omega) (by decide) (by decide), k_lt2 rfl (show z 9 i < 2147483648 by omega) (show f / 5 < 2147483648 by omega)]
    by_cases e : z 9 i < f / 5
    · rw [if_pos e, decide_eq_false (by omega)]; rfl
    · rw [if_neg e, decide_eq_true (by omega)]; rfl
  · simp only [fX5_comesBy_32, fX5_comesBy_4, w_nb W, if_pos (nI_le (Nat.le_refl (z 0 1)) (show z 0 1 < 2 ^ 31 by omega))]
theorem k_fvC : ∀ l, l < 10 → ∀ f, f < 21 → (nI l - nI f / 4 ≤ 0 ↔ l - f / 4 = 0) ∧ (¬ nI l - nI f / 4 ≤ 0 → nI l - nI f / 4 = nI (l - f / 4)) := by decide +kernel
theorem k_fvD : ∀ l, l < 10 → ∀ f, f < 21 → (if (0 : Int32) ≤ nI l - nI f / 4 then some (nI l - nI f / 4) else some 0) = some (nI (l - f / 4)) := by decide +kernel
theorem c_tenths {σ : q_St} {h : q_Hp} {x A B f : Nat} {z : k_Z} (X : k_X σ x A B) (V : k_V σ h A z) (K : k_va z) (hf : f ≤ 20) : fX4_feeTenths σ h x (nI f) = some (nI (k_paid z f)) := by
  have S := vS V
  have n7 := va_nb K
  have cB := k_comeB K f
  unfold fX4_feeTenths k_paid
  rw [xr0 X, sr7 S, q_gu_t ⟨st0 S, st8 S⟩, c_comers X V K hf, k_bs1, k_sl (n := z 0 1) (v := k_fv z f) (body := fun s => fX4_feeTenths_11 σ h x (nI f) (nI (k_come z f)) s.1 s.2) (by omega) (fun i hi u => ?_) (fun u => ?_), k_bs1, pk_mul]
  · have l9 := va_lt K hi
    obtain ⟨f1, f2⟩ := k_fvC (z 9 i) (by omega) f (by omega)
    simp only [fX4_feeTenths_62, fX4_feeTenths_61, fX4_feeTenths_11, xr0 X, v_nb V, sr7 S, c_at (sl8 S) (show i < 7 by omega) (show 7 < 2147483648 by decide), k_bs1, v9 V hi, if_neg (nI_ge hi (show z 0 1 < 2 ^ 31 by omega)), c_hasBit (show k_come z f < 2147483648 by omega) (show i < 31 by omega), k_01i, k_comeT hi]
    unfold k_fv
    by_cases e : f / 5 ≤ z 9 i
    · rw [decide_eq_true e, if_pos rfl, if_pos e]
      by_cases e2 : nI (z 9 i) - nI f / 4 ≤ 0
      · rw [if_pos e2, f1.mp e2]; rfl
      · rw [if_neg e2, f2 e2]
    · rw [decide_eq_false e, if_neg e]; rfl
  · simp only [fX4_feeTenths_62, fX4_feeTenths_61, fX4_feeTenths_11, xr0 X, v_nb V, if_pos (nI_le (Nat.le_refl (z 0 1)) (show z 0 1 < 2 ^ 31 by omega))]
theorem m_paid {σ : q_St} {h : q_Hp} {m f : Nat} {z : k_Z} (M : k_M σ m) (W : k_W h m z) (K : k_va z) (hf : f ≤ 20) : fX5_paidBy σ h m (nI f) = some (nI (k_paid z f)) := by
  have n7 := va_nb K
  have cB := k_comeB K f
  unfold fX5_paidBy k_paid
  rw [mr10 M, q_gu_t (mt9 M), k_sl (n := z 0 1) (v := fun b => f * k_fv z f b) (body := fun s => fX5_paidBy_4 σ h m (nI f) s.1 s.2) (by omega) (fun i hi u => ?_) (fun u => ?_), k_bs1, k_sm_mul]
  · have l9 := va_lt K hi
    have fD := k_fvD (z 9 i) (by omega) f (by omega)
    simp only [fX5_paidBy_45, fX5_paidBy_4, w_nb W, m_comes M W K hf, k_bs1, m_hasBit (show k_come z f < 2147483648 by omega) (show i < 31 by omega), k_01i, k_comeT hi, mr10 M, ml9 M, k_vi (show i < 7 by omega) (show 7 < 2147483648 by decide), k_guT, k_cl (show i < 2147483648 by omega), w9 W hi, if_neg (nI_ge hi (show z 0 1 < 2 ^ 31 by omega))]
    have eg : fX5_greater σ h 0 (nI (z 9 i) - nI f / 4) = some (nI (z 9 i - f / 4)) := by unfold fX5_greater; exact fD
    rw [eg, k_bs1]
    unfold k_fv
    by_cases e : f / 5 ≤ z 9 i
    · rw [decide_eq_true e, if_pos rfl, if_pos e, pk_mul]
    · rw [decide_eq_false e, if_neg e]; rfl
  · simp only [fX5_paidBy_45, fX5_paidBy_4, w_nb W, if_pos (nI_le (Nat.le_refl (z 0 1)) (show z 0 1 < 2 ^ 31 by omega))]
def p_fee (z : k_Z) (f w : Int32) : Int32 := if k_is f 21 then (if k_is w 2 then (if w = 0 then nI (k_paid z f.toNatClampNeg) else nI (k_come z f.toNatClampNeg)) else -1) else -1
theorem c_fee {σ : q_St} {h : q_Hp} {x A B : Nat} {z : k_Z} (X : k_X σ x A B) (V : k_V σ h A z) (K : k_va z) (f w : Int32) : fX4_fee σ h x f w = some (p_fee z f w) := by
  unfold fX4_fee p_fee
  rw [c_in (n := 21) (by decide), k_bs1, k_01i, c_in (n := 2) (by decide), k_bs1, k_01i]
  cases e : k_is f 21 with
  | false => rfl
  | true =>
  cases e2 : k_is w 2 with
  | false => rfl
  | true =>
    obtain ⟨f, hf, rfl⟩ := k_is_t (by decide) e
    simp only [if_true, c_tenths X V K (show f ≤ 20 by omega), c_comers X V K (show f ≤ 20 by omega), k_bs1, k_cl (show f < 2147483648 by omega), k_si2]
theorem m_feeO {σ : q_St} {h : q_Hp} {m : Nat} {z : k_Z} (M : k_M σ m) (W : k_W h m z) (K : k_va z) (f w : Int32) : fX5_fee σ h m f w = some (p_fee z f w, q_si h m 21 0) := by
  have W1 : k_W (q_si h m 21 0) m z := W_th W
  unfold fX5_fee p_fee
  generalize q_si h m 21 0 = h1 at W1 ⊢
  rw [m_inn (n := 21) (by decide), k_bs1, k_01i, m_inn (n := 2) (by decide), k_bs1, k_01i]
  cases e : k_is f 21 with
  | false => rfl
  | true =>
  cases e2 : k_is w 2 with
  | false => rfl
  | true =>
    obtain ⟨f, hf, rfl⟩ := k_is_t (by decide) e
    simp only [if_true, m_paid M W1 K (show f ≤ 20 by omega), m_comes M W1 K (show f ≤ 20 by omega), k_bs1, k_cl (show f < 2147483648 by omega), k_si3]
theorem k_paidB {z : k_Z} (K : k_va z) {f : Nat} (hf : f ≤ 20) : k_paid z f ≤ 1260 := by
  have n7 := va_nb K
  have : k_sm (k_fv z f) (z 0 1) ≤ 9 * z 0 1 := k_sm_le (fun i hi => by
    have := va_lt K hi
    unfold k_fv
    split <;> omega)
  have h2 : k_sm (k_fv z f) (z 0 1) ≤ 63 := by omega
  exact Nat.le_trans (Nat.mul_le_mul hf h2) (by decide)
def k_bf (z : k_Z) : Nat → Nat
  | 0 => 0
  | i + 1 => if k_paid z (i + 1) ≤ k_paid z (k_bf z i) then k_bf z i else i + 1
theorem k_bfB (z : k_Z) : ∀ i, k_bf z i ≤ i
  | 0 => Nat.le_refl 0
  | i + 1 => by
    have := k_bfB z i
    unfold k_bf
    split <;> omega
theorem c_bestFee {σ : q_St} {h : q_Hp} {x A B : Nat} {z : k_Z} (X : k_X σ x A B) (V : k_V σ h A z) (K : k_va z) : fX4_bestFee σ h x = some (nI (k_bf z 20)) := by
  unfold fX4_bestFee
  refine k_eq (k_bind (P := fun o => o = nI (k_bf z 20)) (k_for (n := 20) (fun i s => s = (nI (k_bf z i), nI (i + 1))) (by rw [k_N]; omega) rfl ?_) (fun o ho => by subst ho; exact k_some rfl))
  intro i s hi e
  subst e
  show k_ok (fX4_bestFee_4 σ h x (nI (k_bf z i)) (nI (i + 1))) _
  unfold fX4_bestFee_4 fX4_bestFee_28
  rcases Nat.lt_or_ge i 20 with q | q
  · have b := k_bfB z i
    have p1 := k_paidB K (f := i + 1) (by omega)
    have p2 := k_paidB K (f := k_bf z i) (by omega)
    rw [if_neg (k_nlL (n := 20) (l := 20) rfl (by omega) (by decide)), c_tenths X V K (by omega), k_bs1, c_tenths X V K (by omega), k_bs1, nI_1]
    simp only [k_le2 rfl (show k_paid z (i + 1) < 2147483648 by omega) (show k_paid z (k_bf z i) < 2147483648 by omega)]
    have e : k_bf z (i + 1) = if k_paid z (i + 1) ≤ k_paid z (k_bf z i) then k_bf z i else i + 1 := rfl
    rw [e]
    by_cases q2 : k_paid z (i + 1) ≤ k_paid z (k_bf z i)
    · rw [if_pos q2, if_pos q2]; exact k_some ⟨q, rfl⟩
    · rw [if_neg q2, if_neg q2]; exact k_some ⟨q, rfl⟩
  · have : i = 20 := by omega
    subst this
    rw [if_pos (k_ltL (n := 20) (l := 20) rfl (by decide) (by decide))]
    exact k_some rfl
theorem m_bestFeeO {σ : q_St} {h : q_Hp} {m : Nat} {z : k_Z} (M : k_M σ m) (W : k_W h m z) (K : k_va z) : fX5_bestFee σ h m = some (nI (k_bf z 20), q_si h m 21 0) := by
  have W1 : k_W (q_si h m 21 0) m z := W_th W
  unfold fX5_bestFee
  generalize q_si h m 21 0 = h1 at W1 ⊢
  refine k_eq (k_bind (P := fun o => o = (nI (k_bf z 20), h1)) (k_for (n := 20) (fun i s => s = (nI (k_bf z i), nI (i + 1), h1)) (by rw [k_N]; omega) rfl ?_) (fun o ho => by subst ho; exact k_some rfl))
  intro i s hi e
  subst e
  show k_ok (fX5_bestFee_9 σ m (nI (k_bf z i)) (nI (i + 1)) h1) _
  unfold fX5_bestFee_9 fX5_bestFee_33
  rcases Nat.lt_or_ge i 20 with q | q
  · have b := k_bfB z i
    have p1 := k_paidB K (f := i + 1) (by omega)
    have p2 := k_paidB K (f := k_bf z i) (by omega)
    rw [if_neg (k_nlL (n := 20) (l := 20) rfl (by omega) (by decide)), m_paid M W1 K (by omega), k_bs1, m_paid M W1 K (by omega), k_bs1, nI_1]
    simp only [k_le2 rfl (show k_paid z (i + 1) < 2147483648 by omega) (show k_paid z (k_bf z i) < 2147483648 by omega)]
    have e : k_bf z (i + 1) = if k_paid z (i + 1) ≤ k_paid z (k_bf z i) then k_bf z i else i + 1 := rfl
    rw [e]
    by_cases q2 : k_paid z (i + 1) ≤ k_paid z (k_bf z i)
    · rw [if_pos q2, if_pos q2]; exact k_some ⟨q, rfl⟩
    · rw [if_neg q2, if_neg q2]; exact k_some ⟨q, rfl⟩
  · have : i = 20 := by omega
    subst this
    rw [if_pos (k_ltL (n := 20) (l := 20) rfl (by decide) (by decide))]
    exact k_some rfl
/-! at five, a taxi -/
def p_five (c p q : Int32) : Int32 := if k_is c 11 then (if k_is p 100 then (if k_is q 100 then (if q * 10 ≤ c * p then 0 else 1) else -1) else -1) else -1
theorem c_five {σ : q_St} {h : q_Hp} {x : Nat} (c p q : Int32) : fX4_atFive σ h x c p q = some (p_five c p q) := by
  unfold fX4_atFive p_five
  rw [c_in (n := 11) (by decide), k_bs1, k_01i, c_in (n := 100) (by decide), k_bs1, k_01i, c_in (n := 100) (by decide), k_bs1, k_01i]
  simp only [k_si2]
theorem m_fiveO {σ : q_St} {h : q_Hp} {m : Nat} (c p q : Int32) : fX5_atFive σ h m c p q = some (p_five c p q, q_si h m 21 0) := by
  unfold fX5_atFive p_five
  rw [m_inn (n := 11) (by decide), k_bs1, k_01i, m_inn (n := 100) (by decide), k_bs1, k_01i, m_inn (n := 100) (by decide), k_bs1, k_01i, Int32.mul_comm 10 q]
  simp only [k_si3]
def p_taxi (z : k_Z) (s t w : Int32) : Int32 := if k_is s (z 0 0) then (if k_is t 100 then (if k_is w 1000 then (if z 5 s.toNatClampNeg = 1 then (if nI (z 9 (k_holder z s.toNatClampNeg)) * w ≤ t * 10 then 0 else 1) else -3) else -1) else -1) else -1
theorem c_taxi {σ : q_St} {h : q_Hp} {x A B : Nat} {z : k_Z} (X : k_X σ x A B) (V : k_V σ h A z) (K : k_va z) (s t w : Int32) : fX4_taxi σ h x s t w = some (p_taxi z s t w) := by
  have S := vS V
  have n7 := va_ns K
  have b7 := va_nb K
  unfold fX4_taxi p_taxi
  rw [xr0 X, sr3 S, sr7 S, q_gu_t ⟨st0 S, st4 S, st8 S⟩, c_isSuit V, k_bs1, k_01i, c_in (n := 100) (by decide), k_bs1, k_01i, c_in (n := 1000) (by decide), k_bs1, k_01i]
  cases e : k_is s (z 0 0) with
  | false => rfl
  | true =>
  cases e2 : k_is t 100 with
  | false => rfl
  | true =>
  cases e3 : k_is w 1000 with
  | false => rfl
  | true =>
    obtain ⟨s, hs, rfl⟩ := k_is_t (by omega) e
    have st := va_st K hs
    simp only [if_true, c_at (sl4 S) (show s < 7 by omega) (show 7 < 2147483648 by decide), k_bs1, v5 V hs, k_eqL (show (1 : Int32) = nI 1 from rfl) (show z 5 s < 2147483648 by omega) (show 1 < 2147483648 by decide), k_cl (show s < 2147483648 by omega)]
    by_cases e1 : z 5 s = 1
    · have hb := (k_holds K hs e1).1
      rw [if_pos e1, if_pos e1, c_holder V K hs e1, k_bs1, c_at (sl8 S) (by omega) (by decide), k_bs1, v9 V hb, k_si2]
    · rw [if_neg e1, if_neg e1]
theorem m_taxiO {σ : q_St} {h : q_Hp} {m : Nat} {z : k_Z} (M : k_M σ m) (W : k_W h m z) (K : k_va z) (s t w : Int32) : fX5_taxi σ h m s t w = some (p_taxi z s t w, q_si h m 21 0) := by
  have n7 := va_ns K
  have b7 := va_nb K
  have W1 : k_W (q_si h m 21 0) m z := W_th W
  unfold fX5_taxi p_taxi
  generalize q_si h m 21 0 = h1 at W1 ⊢
  rw [mr5 M, mr10 M, q_gu_t ⟨mt5 M, mt9 M⟩, m_isSuit W1, k_bs1, k_01i, m_inn (n := 100) (by decide), k_bs1, k_01i, m_inn (n := 1000) (by decide), k_bs1, k_01i]
  cases e : k_is s (z 0 0) with
  | false => rfl
  | true =>
  cases e2 : k_is t 100 with
  | false => rfl
  | true =>
  cases e3 : k_is w 1000 with
  | false => rfl
  | true =>
    obtain ⟨s, hs, rfl⟩ := k_is_t (by omega) e
    have st := va_st K hs
    simp only [if_true, ml5 M, k_vi (show s < 8 by omega) (show 8 < 2147483648 by decide), k_guT, w5 W1 hs, k_eqL (show (1 : Int32) = nI 1 from rfl) (show z 5 s < 2147483648 by omega) (show 1 < 2147483648 by decide), k_cl (show s < 2147483648 by omega)]
    by_cases e1 : z 5 s = 1
    · have hb := (k_holds K hs e1).1
      rw [if_pos e1, if_pos e1, m_holder M W1 K hs e1, k_bs1, ml9 M, q_gu_t (vp_in_nI (by omega) (by decide)), k_cl (by omega), w9 W1 hb, Int32.mul_comm 10 t, k_si3]
    · rw [if_neg e1, if_neg e1]
/-! who has a suit that would not fit any more -/
def k_tg (z : k_Z) (b : Nat) : Bool := !(z 11 b == 9) && !k_nr (z 3 (z 11 b)) (z 6 b + 1) (k_gv (z 1 (z 11 b)))
def p_tight (z : k_Z) : Int32 := nI (k_bs (k_tg z) (z 0 1))
theorem c_tight {σ : q_St} {h : q_Hp} {x A B : Nat} {z : k_Z} (X : k_X σ x A B) (V : k_V σ h A z) (K : k_va z) : fX4_tight σ h x = some (p_tight z) := by
  have S := vS V
  have n7 := va_ns K
  have b7 := va_nb K
  unfold fX4_tight p_tight
  rw [xr0 X, sr9 S, sr1 S, sr4 S, q_gu_t ⟨st0 S, st10 S, st2 S, st5 S⟩, k_bl (n := z 0 1) (p := k_tg z) (body := fun s => fX4_tight_4 σ h x s.1 s.2) (by omega) (fun i hi u => ?_) (fun u => ?_), k_bs1]
  · have h9 := va_ha9 K hi
    have wa := va_wa K hi
    simp only [fX4_tight_95, fX4_tight_80, fX4_tight_79, fX4_tight_4, xr0 X, v_nb V, sr9 S, sr1 S, sr4 S, c_at (sl10 S) (show i < 7 by omega) (show 7 < 2147483648 by decide), k_bs1, v11 V hi, if_neg (nI_ge hi (show z 0 1 < 2 ^ 31 by omega)), k_eqL (show (9 : Int32) = nI 9 from rfl) (show z 11 i < 2147483648 by omega) (show 9 < 2147483648 by decide)]
    unfold k_tg
    by_cases e : z 11 i = 9
    · rw [if_pos e]; simp [e]
    · have hs : z 11 i < z 0 0 := by
        rcases va_ha K hi with q | q
        · exact absurd q e
        · exact q.1
      have sz := va_sz K hs
      rw [if_neg e]
      simp only [c_kindOf V K hs, k_bs1, c_at (sl2 S) (show z 11 i < 7 by omega) (show 7 < 2147483648 by decide), c_at (sl5 S) (show i < 7 by omega) (show 7 < 2147483648 by decide), sut (v_su V hs), k_guT, v3 V hs, v6 V hi, nI_1, c_reaches (v_su V hs) (show z 3 (z 11 i) < 21 by omega) (show z 6 i + 1 < 22 by omega), k_01i]
      cases k_nr (z 3 (z 11 i)) (z 6 i + 1) (k_gv (z 1 (z 11 i))) <;> simp [e]
  · simp only [fX4_tight_95, fX4_tight_80, fX4_tight_79, fX4_tight_4, xr0 X, v_nb V, if_pos (nI_le (Nat.le_refl (z 0 1)) (show z 0 1 < 2 ^ 31 by omega))]
theorem m_tightO {σ : q_St} {h : q_Hp} {m : Nat} {z : k_Z} (M : k_M σ m) (W : k_W h m z) (K : k_va z) : fX5_tight σ h m = some (p_tight z, q_si h m 21 0) := by
  have n7 := va_ns K
  have b7 := va_nb K
  have W1 : k_W (q_si h m 21 0) m z := W_th W
  unfold fX5_tight p_tight
  generalize q_si h m 21 0 = h1 at W1 ⊢
  rw [mr12 M, mr3 M, mr7 M, q_gu_t ⟨mt11 M, mt3 M, mt6 M⟩, k_blm (n := z 0 1) (p := k_tg z) (body := fun s => fX5_tight_9 σ m s.1 s.2.1 s.2.2) (by omega) (fun i hi u => ?_) (fun u => ?_), k_bs1]
  · have h9 := va_ha9 K hi
    have wa := va_wa K hi
    simp only [fX5_tight_63, fX5_tight_62, fX5_tight_9, w_nb W1, mr12 M, mr3 M, mr7 M, ml11 M, ml3 M, ml6 M, k_vi (show i < 7 by omega) (show 7 < 2147483648 by decide), k_guT, k_cl (show i < 2147483648 by omega), w11 W1 hi, if_neg (nI_ge hi (show z 0 1 < 2 ^ 31 by omega)), k_eqL (show (9 : Int32) = nI 9 from rfl) (show z 11 i < 2147483648 by omega) (show 9 < 2147483648 by decide)]
    unfold k_tg
    by_cases e : z 11 i = 9
    · rw [if_pos e]; simp [e]
    · have hs : z 11 i < z 0 0 := by
        rcases va_ha K hi with q | q
        · exact absurd q e
        · exact q.1
      have sz := va_sz K hs
      have gv := k_gvB (z 1 (z 11 i))
      rw [if_neg e]
      simp only [k_vi (show z 11 i < 8 by omega) (show 8 < 2147483648 by decide), and_self, k_guT, k_cl (show z 11 i < 2147483648 by omega), w3 W1 hs, w6 W1 hi, nI_1, m_apart (show z 3 (z 11 i) < 2147483648 by omega) (show z 6 i + 1 < 2147483648 by omega), k_bs1, m_gives M W1 K hs, k_nrM]
      have dB : (if z 3 (z 11 i) ≤ z 6 i + 1 then z 6 i + 1 - z 3 (z 11 i) else z 3 (z 11 i) - (z 6 i + 1)) ≤ 21 := by split <;> omega
      generalize (if z 3 (z 11 i) ≤ z 6 i + 1 then z 6 i + 1 - z 3 (z 11 i) else z 3 (z 11 i) - (z 6 i + 1)) = dd at dB ⊢
      simp only [k_le2 rfl (show dd < 2147483648 by omega) (show k_gv (z 1 (z 11 i)) < 2147483648 by omega)]
      by_cases q : dd ≤ k_gv (z 1 (z 11 i))
      · rw [if_pos q]; simp [q]
      · rw [if_neg q]; simp [q, e]
  · simp only [fX5_tight_63, fX5_tight_62, fX5_tight_9, w_nb W1, if_pos (nI_le (Nat.le_refl (z 0 1)) (show z 0 1 < 2 ^ 31 by omega))]
