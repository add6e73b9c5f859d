/-! forged, stained, judged -/
def p_pr (y : k_Z) (v : Int32) : Int32 := if k_wr y 2 v = 0 then (if y 4 v.toNatClampNeg % 2 = 0 ∧ y 4 v.toNatClampNeg ≤ 14 then 0 else -13) else k_wr y 2 v
theorem p_pr_cases (y : k_Z) (v : Int32) : (p_pr y v = 0 ∧ ∃ d, d < 8 ∧ v = nI d ∧ y 0 d = 2 ∧ y 4 d % 2 = 0 ∧ y 4 d ≤ 14) ∨ (¬ 0 ≤ p_pr y v ∧ p_pr y v ≠ 0) := by
  unfold p_pr
  rcases k_wr_cases y 2 v with ⟨e, d, hd, rfl, e2, -⟩ | q
  · rw [if_pos e, k_cl (by omega)]
    by_cases h : y 4 d % 2 = 0 ∧ y 4 d ≤ 14
    · rw [if_pos h]; exact Or.inl ⟨rfl, d, hd, rfl, e2, h.1, h.2⟩
    · rw [if_neg h]; exact Or.inr (by decide)
  · have n := k_neg q
    rw [if_neg n.2.2]
    exact Or.inr ⟨n.1, n.2.2⟩
theorem c_pairRef {σ : q_St} {h : q_Hp} {x d : Nat} {y : k_Z} {c : Nat → Nat → Int32} (Y : k_Y σ h x y c) (vy : k_vy y) (hd : d < 8) : fX4_pairRefusal σ h (x + 56 + 3 * d) = some (p_pr y (nI d)) := by
  unfold fX4_pairRefusal p_pr
  rw [show (2 : Int32) = nI 2 from rfl, c_refusal Y vy hd (by decide), k_bs1, k_cl (by omega)]
  rcases k_wr_cases y 2 (nI d) with ⟨e, d', hd', ed, e2, -⟩ | q
  · have := (nI_eq (by omega) (by omega)).mp ed
    subst this
    have l4 := ((Y d hd).2.2 e2).2.1
    have b := ((vy d hd).2.2 e2).2
    rw [if_pos e, if_pos e, l4, pk_rem (d := 2) (by omega) (by decide) (by decide)]
    simp only [k_eqL (show (0 : Int32) = nI 0 from rfl) (show y 4 d % 2 < 2147483648 by omega) (show 0 < 2147483648 by decide), k_le2 (show (14 : Int32) = nI 14 from rfl) (show y 4 d < 2147483648 by omega) (show 14 < 2147483648 by decide)]
    by_cases h1 : y 4 d % 2 = 0
    · rw [if_pos h1]
      by_cases h2 : y 4 d ≤ 14
      · rw [if_pos h2, if_pos ⟨h1, h2⟩]
      · rw [if_neg h2, if_neg (fun q => h2 q.2)]
    · rw [if_neg h1, if_neg (fun q => h1 q.1)]
  · have n := k_neg q
    rw [if_neg n.2.2, if_neg n.2.2]
theorem m_wrongPairs {σ : q_St} {h : q_Hp} {m : Nat} {y : k_Z} {c : Nat → Nat → Int32} (M : k_M σ m) (Y : k_YM h m y c) (vy : k_vy y) (v : Int32) : fX5_wrongPairs σ h m v = some (p_pr y v) := by
  unfold fX5_wrongPairs p_pr
  rw [mr19 M, q_gu_t (mt16 M), m_wrongRow M Y vy, k_bs1]
  rcases k_wr_cases y 2 v with ⟨e, d, hd, rfl, e2, -⟩ | q
  · have l4 := ((Y d hd).2.2 e2).2.1
    have b := ((vy d hd).2.2 e2).2
    rw [if_pos e, if_pos e, ml16 M, q_gu_t (vp_in_nI hd (by decide)), k_cl (by omega), l4, show (2 : Int32) = nI 2 from rfl, pk_rem (d := 2) (by omega) (by decide) (by decide), e]
    simp only [k_eqL (show (1 : Int32) = nI 1 from rfl) (show y 4 d % 2 < 2147483648 by omega) (show 1 < 2147483648 by decide), k_le2 (show (14 : Int32) = nI 14 from rfl) (show y 4 d < 2147483648 by omega) (show 14 < 2147483648 by decide)]
    by_cases h1 : y 4 d % 2 = 0
    · rw [if_neg (by omega)]
      by_cases h2 : y 4 d ≤ 14
      · rw [if_pos h2, if_pos ⟨h1, h2⟩]
      · rw [if_neg h2, if_neg (fun q => h2 q.2)]
    · rw [if_pos (by omega), if_neg (fun q => h1 q.1)]
  · have n := k_neg q
    rw [if_neg n.2.2, if_neg n.2.2]
/-- the pair j is as it can be -/
def k_pk (z : k_Z) (c : Nat → Nat → Int32) (d j : Nat) : Bool := k_is (c d (2 * j)) (z 0 0) && k_is (c d (2 * j + 1)) (z 0 1) && k_fits z (c d (2 * j)).toNatClampNeg (c d (2 * j + 1)).toNatClampNeg
def p_ff (z : k_Z) (c : Nat → Nat → Int32) (d l : Nat) : Int32 := p_fst (fun j => !k_pk z c d j) nI (l / 2)
theorem k_fst_run {q : Nat → Bool} {n : Nat} : ∀ i, i ≤ fa_first q n → ∀ M, M < i → q M = false := fun i hi M hM => fa_first_no q n M (by omega)
/-- a loop that looks for the first -/
theorem k_find {S R : Type} {q : Nat → Bool} {n : Nat} {body : S → Option (S ⊕ R)} {st : Nat → S} {r : R} (hn : n < 1000000) (hs : ∀ i, i < n → q i = false → body (st i) = some (.inl (st (i + 1)))) (hf : ∀ i, i < n → q i = true → fa_first q n = i → body (st i) = some (.inr r)) (hx : fa_first q n = n → body (st n) = some (.inr r)) : q_loop body q_N (st 0) = some r := by
  refine k_eq (k_for (n := fa_first q n) (fun i s => s = st i) (by have := fa_first_le q n; rw [k_N]; omega) rfl ?_)
  intro i s hi e
  subst e
  have le := fa_first_le q n
  rcases Nat.lt_or_ge i (fa_first q n) with h | h
  · rw [hs i (by omega) (fa_first_no q n i h)]
    exact k_some ⟨h, rfl⟩
  · have e : i = fa_first q n := by omega
    subst e
    rcases Nat.lt_or_ge (fa_first q n) n with h2 | h2
    · rw [hf _ h2 (fa_first_yes q n h2) rfl]
      exact k_some rfl
    · have e2 : fa_first q n = n := by omega
      have := hx e2
      rw [e2, this]
      exact k_some rfl
theorem c_ff {σ : q_St} {h : q_Hp} {x A B d : Nat} {z zi y : k_Z} {p : Bool} {c : Nat → Nat → Int32} (I : k_CI σ h x A B z p zi y c) (K : k_va z) (hd : d < 8) (y2 : y 0 d = 2) (l2 : y 4 d % 2 = 0) (l14 : y 4 d ≤ 14) : fX4_firstForged σ h x (x + 56 + 3 * d) = some (p_ff z c d (y 4 d)) := by
  have L := xL I.1 d hd
  have V := I.2.1
  have S := vS V
  obtain ⟨-, l4, cc⟩ := (I.2.2.2.2.1 d hd).2.2 y2
  have n7 := va_ns K
  have b7 := va_nb K
  unfold fX4_firstForged p_ff p_fst
  rw [lr0 L, xr0 I.1, q_gu_t ⟨lt1 L, st0 S⟩]
  have rd : ∀ i, i < 100 → fX4_at σ h (x + 56 + 3 * d + 1) (nI i) = some (c d i) := fun i hi => by
    rw [c_at (ll1 L) hi (by decide), show x + 56 + 3 * d + 1 = x + 57 + 3 * d by omega, cc i hi]
  have dv : ∀ i, i < 100 → nI (2 * i) / 2 = nI i := fun i hi => by
    rw [show (2 : Int32) = nI 2 from rfl, pk_div (by omega) (by decide) (by decide), show 2 * i / 2 = i by omega]
  have e : q_loop (fun s => fX4_firstForged_2 σ h x (x + 56 + 3 * d) s) q_N (0 : Int32) = some (if fa_first (fun j => !k_pk z c d j) (y 4 d / 2) < y 4 d / 2 then .inr (nI (fa_first (fun j => !k_pk z c d j) (y 4 d / 2))) else .inl ()) := by
    refine k_find (q := fun j => !k_pk z c d j) (n := y 4 d / 2) (st := fun i => nI (2 * i)) (by omega) (fun i hi hq => ?_) (fun i hi hq hf => ?_) (fun hf => ?_)
    · have hq : k_pk z c d i = true := by simpa using hq
      simp only [fX4_firstForged_2, l4, lr0 L, xr0 I.1, nI_1, if_neg (nI_ge (show 2 * i + 1 < y 4 d by omega) (show y 4 d < 2 ^ 31 by omega)), rd (2 * i) (by omega), rd (2 * i + 1) (by omega), k_bs1, c_isSuit V, c_isBooking V, k_01i]
      unfold k_pk at hq
      simp only [Bool.and_eq_true] at hq
      obtain ⟨⟨h1, h2⟩, h3⟩ := hq
      obtain ⟨s, hs, es⟩ := k_is_t (by omega) h1
      obtain ⟨b, hb, eb⟩ := k_is_t (by omega) h2
      rw [h1, h2, if_pos rfl, if_pos rfl]
      rw [es, eb, k_cl (by omega), k_cl (by omega)] at h3
      rw [es, eb, c_right V K hs hb, k_bs1, h3, show nI (2 * i) + 2 = nI (2 * (i + 1)) from nI_add (2 * i) 2]
      rfl
    · have hq : k_pk z c d i = false := by simpa using hq
      rw [hf, if_pos hi]
      simp only [fX4_firstForged_2, l4, lr0 L, xr0 I.1, nI_1, if_neg (nI_ge (show 2 * i + 1 < y 4 d by omega) (show y 4 d < 2 ^ 31 by omega)), rd (2 * i) (by omega), rd (2 * i + 1) (by omega), k_bs1, c_isSuit V, c_isBooking V, k_01i, dv i (by omega)]
      unfold k_pk at hq
      cases h1 : k_is (c d (2 * i)) (z 0 0) with
      | false => rfl
      | true =>
      cases h2 : k_is (c d (2 * i + 1)) (z 0 1) with
      | false => rfl
      | true =>
        obtain ⟨s, hs, es⟩ := k_is_t (by omega) h1
        obtain ⟨b, hb, eb⟩ := k_is_t (by omega) h2
        rw [h1, h2, es, eb, k_cl (by omega), k_cl (by omega)] at hq
        have h3 : k_fits z s b = false := by simpa using hq
        rw [if_pos rfl, if_pos rfl, es, eb, c_right V K hs hb, k_bs1, h3]
        rfl
    · rw [hf, if_neg (by omega)]
      simp only [fX4_firstForged_2, l4, nI_1, if_pos (nI_le (show y 4 d ≤ 2 * (y 4 d / 2) + 1 by omega) (show 2 * (y 4 d / 2) + 1 < 2 ^ 31 by omega))]
  rw [e, k_bs1]
  split <;> rfl
theorem m_ff {σ : q_St} {h : q_Hp} {m d : Nat} {z y : k_Z} {c : Nat → Nat → Int32} (M : k_M σ m) (W : k_W h m z) (Y : k_YM h m y c) (K : k_va z) (hd : d < 8) (y2 : y 0 d = 2) (l14 : y 4 d ≤ 14) : fX5_forgedIn σ h m (nI d) = some (p_ff z c d (y 4 d)) := by
  obtain ⟨-, l4, cc⟩ := (Y d hd).2.2 y2
  have n7 := va_ns K
  have b7 := va_nb K
  unfold fX5_forgedIn p_ff p_fst
  rw [mr19 M, mr20 M, q_gu_t ⟨mt16 M, mt17 M⟩]
  have dv : nI (y 4 d) / 2 = nI (y 4 d / 2) := by rw [show (2 : Int32) = nI 2 from rfl, pk_div (by omega) (by decide) (by decide)]
  have e : q_loop (fun s => fX5_forgedIn_2 σ h m (nI d) s) q_N (0 : Int32) = some (if fa_first (fun j => !k_pk z c d j) (y 4 d / 2) < y 4 d / 2 then .inr (nI (fa_first (fun j => !k_pk z c d j) (y 4 d / 2))) else .inl ()) := by
    have pre : ∀ i, i < y 4 d / 2 → fX5_forgedIn_2 σ h m (nI d) (nI i) = if k_is (c d (2 * i)) (z 0 0) then (if k_is (c d (2 * i + 1)) (z 0 1) then ((fX5_fitsIn σ h m (c d (2 * i)) (c d (2 * i + 1))).bind fun r8 => if r8 = 0 then some (.inr (.inr (nI i))) else some (.inl (nI (i + 1)))) else some (.inr (.inr (nI i)))) else some (.inr (.inr (nI i))) := fun i hi => by
      unfold fX5_forgedIn_2
      rw [mr19 M, mr20 M, ml16 M, ml17 M, q_gu_t (vp_in_nI hd (by decide)), k_cl (by omega), l4, dv, if_neg (nI_ge hi (by omega)), show (100 : Int32) * nI d + 2 * nI i = nI (100 * d + 2 * i) by rw [show (100 : Int32) = nI 100 from rfl, show (2 : Int32) = nI 2 from rfl, pk_mul, pk_mul, nI_add], nI_1, q_gu_t ⟨vp_in_nI (by omega) (by decide), vp_in_nI (by omega) (by decide)⟩, k_cl (by omega), k_cl (by omega), cc (2 * i) (by omega), show 100 * d + 2 * i + 1 = 100 * d + (2 * i + 1) by omega, cc (2 * i + 1) (by omega), w_ns W, w_nb W, m_in (lo := 0) (by decide) rfl, m_in (lo := 0) (by decide) rfl, k_isI, k_isI, k_bs1, k_bs1, k_01i, k_01i]
      unfold fX5_forgedIn_80 fX5_forgedIn_81
      rw [if_pos (show (0 : Int32) = 0 from rfl), if_neg (show ¬ (1 : Int32) = 0 by decide), lg_l2i_i2l, lg_l2i_i2l, nI_1]
    refine k_find (q := fun j => !k_pk z c d j) (n := y 4 d / 2) (st := fun i => nI i) (by omega) (fun i hi hq => ?_) (fun i hi hq hf => ?_) (fun hf => ?_)
    · have hq : k_pk z c d i = true := by simpa using hq
      rw [pre i hi]
      unfold k_pk at hq
      simp only [Bool.and_eq_true] at hq
      obtain ⟨⟨h1, h2⟩, h3⟩ := hq
      obtain ⟨s, hs, es⟩ := k_is_t (by omega) h1
      obtain ⟨b, hb, eb⟩ := k_is_t (by omega) h2
      rw [h1, h2, if_pos rfl, if_pos rfl]
      rw [es, eb, k_cl (by omega), k_cl (by omega)] at h3
      rw [es, eb, m_fits M W K hs hb, k_bs1, h3]
      rfl
    · have hq : k_pk z c d i = false := by simpa using hq
      rw [hf, if_pos hi, pre i hi]
      unfold k_pk at hq
      cases h1 : k_is (c d (2 * i)) (z 0 0) with
      | false => rfl
      | true =>
      cases h2 : k_is (c d (2 * i + 1)) (z 0 1) with
      | false => rfl
      | true =>
        obtain ⟨s, hs, es⟩ := k_is_t (by omega) h1
        obtain ⟨b, hb, eb⟩ := k_is_t (by omega) h2
        rw [h1, h2, es, eb, k_cl (by omega), k_cl (by omega)] at hq
        have h3 : k_fits z s b = false := by simpa using hq
        rw [if_pos rfl, if_pos rfl, es, eb, m_fits M W K hs hb, k_bs1, h3]
        rfl
    · rw [hf, if_neg (by omega)]
      unfold fX5_forgedIn_2
      rw [mr19 M, ml16 M, q_gu_t (vp_in_nI hd (by decide)), k_cl (by omega), l4, dv, if_pos (nI_le (Nat.le_refl _) (by omega))]
  rw [e, k_bs1]
  split <;> rfl
def p_forged (z y : k_Z) (c : Nat → Nat → Int32) (v : Int32) : Int32 := if p_pr y v = 0 then p_ff z c v.toNatClampNeg (y 4 v.toNatClampNeg) else p_pr y v
theorem p_prF {y : k_Z} {v : Int32} (h : k_is v 8 = false) : p_pr y v = -1 := by
  have : k_wr y 2 v = -1 := by unfold k_wr; rw [h]; rfl
  unfold p_pr
  rw [this]; rfl
theorem c_forged {σ : q_St} {h : q_Hp} {x A B : Nat} {z zi y : k_Z} {p : Bool} {c : Nat → Nat → Int32} (I : k_CI σ h x A B z p zi y c) (K : k_va z) (vy : k_vy y) (v : Int32) : fX4_forged σ h x v = some (p_forged z y c v) := by
  unfold fX4_forged p_forged
  rw [c_isShelf, k_bs1, k_01i]
  cases e : k_is v 8 with
  | false => rw [p_prF e]; rfl
  | true =>
    obtain ⟨d, hd, rfl⟩ := k_is_t (by decide) e
    rw [if_pos rfl, c_shelfAt I.1 hd, k_bs1, q_gu_t (lt0 (xL I.1 d hd)), c_pairRef I.2.2.2.2.1 vy hd, k_bs1]
    rcases p_pr_cases y (nI d) with ⟨e0, d', hd', ed, q1, q2, q3⟩ | q
    · have := (nI_eq (by omega) (by omega)).mp ed
      subst this
      rw [if_pos e0, if_pos e0, c_ff I K hd q1 q2 q3, k_bs1, k_cl (by omega)]
    · rw [if_neg q.2, if_neg q.2]
theorem m_forgedO {σ : q_St} {h : q_Hp} {m : Nat} {z zi y : k_Z} {p : Bool} {c : Nat → Nat → Int32} (I : k_MI σ h m z p zi y c) (K : k_va z) (vy : k_vy y) (v : Int32) : fX5_forged σ h m v = some (p_forged z y c v, q_si h m 21 0) := by
  have M := I.1
  have I1 : k_MI σ (q_si h m 21 0) m z p zi y c := MI_th I
  unfold fX5_forged p_forged
  generalize q_si h m 21 0 = h1 at I1 ⊢
  rw [m_wrongPairs M I1.2.2.2.2.1 vy, k_bs1, k_bs1]
  rcases p_pr_cases y v with ⟨e0, d, hd, rfl, q1, q2, q3⟩ | q
  · rw [if_pos (by rw [e0]; decide), if_pos e0, m_ff M I1.2.1 I1.2.2.2.2.1 K hd q1 q3, k_bs1, k_cl (by omega)]
  · rw [if_neg q.1, if_neg q.2]
/-! stained -/
def k_had (c : Nat → Nat → Int32) (d b : Nat) : Nat → Int32
  | 0 => 0
  | j + 1 => k_had c d b j ||| (if c d (2 * j + 1) = nI b then (1 : Int32) <<< (c d (2 * j) &&& 31) else 0)
theorem c_had {σ : q_St} {h : q_Hp} {x A B d b : Nat} {z zi y : k_Z} {p : Bool} {c : Nat → Nat → Int32} (I : k_CI σ h x A B z p zi y c) (hd : d < 8) (y2 : y 0 d = 2) (l2 : y 4 d % 2 = 0) (l14 : y 4 d ≤ 14) : fX4_suitsHad σ h (x + 56 + 3 * d) (nI b) = some (k_had c d b (y 4 d / 2)) := by
  have L := xL I.1 d hd
  obtain ⟨-, l4, cc⟩ := (I.2.2.2.2.1 d hd).2.2 y2
  unfold fX4_suitsHad
  rw [lr0 L, q_gu_t (lt1 L)]
  have rd : ∀ i, i < 100 → fX4_at σ h (x + 56 + 3 * d + 1) (nI i) = some (c d i) := fun i hi => by
    rw [c_at (ll1 L) hi (by decide), show x + 56 + 3 * d + 1 = x + 57 + 3 * d by omega, cc i hi]
  refine k_eq (k_bind (P := fun o => o = k_had c d b (y 4 d / 2)) (k_for (n := y 4 d / 2) (fun i s => s = (k_had c d b i, nI (2 * i))) (by rw [k_N]; omega) rfl ?_) (fun o ho => by subst ho; exact k_some rfl))
  intro i s hi e
  subst e
  simp only [fX4_suitsHad_43, fX4_suitsHad_4, l4, lr0 L, nI_1]
  rcases Nat.lt_or_ge i (y 4 d / 2) with q | q
  · rw [if_neg (nI_ge (show 2 * i + 1 < y 4 d by omega) (by omega)), rd _ (by omega), k_bs1, rd _ (by omega), k_bs1, show nI (2 * i) + 2 = nI (2 * (i + 1)) from nI_add (2 * i) 2]
    by_cases e1 : c d (2 * i + 1) = nI b
    · rw [if_pos e1]
      exact k_some ⟨q, by show _ = (k_had c d b i ||| (if c d (2 * i + 1) = nI b then (1 : Int32) <<< (c d (2 * i) &&& 31) else 0), _); rw [if_pos e1]⟩
    · rw [if_neg e1]
      refine k_some ⟨q, ?_⟩
      show _ = (k_had c d b i ||| (if c d (2 * i + 1) = nI b then (1 : Int32) <<< (c d (2 * i) &&& 31) else 0), _)
      rw [if_neg e1]
  · have : i = y 4 d / 2 := by omega
    subst this
    rw [if_pos (nI_le (by omega) (by omega))]
    exact k_some rfl
theorem m_had {σ : q_St} {h : q_Hp} {m d b : Nat} {y : k_Z} {c : Nat → Nat → Int32} {u : Int32} (M : k_M σ m) (Y : k_YM h m y c) (hd : d < 8) (y2 : y 0 d = 2) (l2 : y 4 d % 2 = 0) (l14 : y 4 d ≤ 14) : fX5_hadAll σ h m (nI b) u (nI d) = some (if u &&& (k_had c d b (y 4 d / 2) ^^^ (-1)) = 0 then 1 else 0) := by
  obtain ⟨-, l4, cc⟩ := (Y d hd).2.2 y2
  unfold fX5_hadAll
  rw [mr19 M, mr20 M, q_gu_t ⟨mt16 M, mt17 M⟩]
  have e : q_loop (fun s => fX5_hadAll_6 σ h m (nI b) u (nI d) s.1 s.2) q_N ((0 : Int32), (0 : Int32)) = some (k_had c d b (y 4 d / 2)) := by
    refine k_eq (k_for (n := y 4 d / 2) (fun i s => s = (k_had c d b i, nI (2 * i))) (by rw [k_N]; omega) rfl ?_)
    intro i s hi e
    subst e
    simp only [fX5_hadAll_58, fX5_hadAll_6, mr19 M, mr20 M, ml16 M, ml17 M, k_vi hd (show 8 < 2147483648 by decide), k_guT, k_cl (show d < 2147483648 by omega), l4, show (100 : Int32) * nI d = nI (100 * d) from pk_mul 100 d, nI_add, nI_1, k_cmpE]
    rcases Nat.lt_or_ge i (y 4 d / 2) with q | q
    · rw [if_neg (nI_ge (show 2 * i < y 4 d by omega) (by omega)), q_gu_t (vp_in_nI (by omega) (by decide)), q_gu_t (vp_in_nI (by omega) (by decide)), k_cl (by omega), k_cl (by omega), show 100 * d + 2 * i + 1 = 100 * d + (2 * i + 1) by omega, cc _ (by omega), cc _ (by omega), lg_l2i_i2l, show nI (2 * i) + 2 = nI (2 * (i + 1)) from nI_add (2 * i) 2]
      simp only [k_ww]
      by_cases e1 : c d (2 * i + 1) = nI b
      · rw [if_pos e1]
        exact k_some ⟨q, by show _ = (k_had c d b i ||| (if c d (2 * i + 1) = nI b then (1 : Int32) <<< (c d (2 * i) &&& 31) else 0), _); rw [if_pos e1]⟩
      · rw [if_neg e1]
        refine k_some ⟨q, ?_⟩
        show _ = (k_had c d b i ||| (if c d (2 * i + 1) = nI b then (1 : Int32) <<< (c d (2 * i) &&& 31) else 0), _)
        rw [if_neg e1]
    · have : i = y 4 d / 2 := by omega
      subst this
      rw [if_pos (nI_le (by omega) (by omega))]
      exact k_some rfl
  rw [e, k_bs1, k_si2]
def k_sq (c : Nat → Nat → Int32) (d l : Nat) (u : Int32) (b : Nat) : Bool := decide (u &&& (k_had c d b (l / 2) ^^^ (-1)) = 0)
def p_stained (z y : k_Z) (c : Nat → Nat → Int32) (v u w : Int32) : Int32 :=
  if k_is u 128 && k_is w 2 then
    if p_pr y v = 0 then
      if p_ff z c v.toNatClampNeg (y 4 v.toNatClampNeg) = -4 then (if w = 0 then nI (k_one01 (k_sq c v.toNatClampNeg (y 4 v.toNatClampNeg) u) (z 0 1)) else p_fst (k_sq c v.toNatClampNeg (y 4 v.toNatClampNeg) u) nI (z 0 1)) else -13
    else p_pr y v
  else -1
theorem c_stained {σ : q_St} {h : q_Hp} {x A B : Nat} {z zi y : k_Z} {p : Bool} {c : Nat → Nat → Int32} (I : k_CI σ h x A B z p zi y c) (K : k_va z) (vy : k_vy y) (v u w : Int32) : fX4_stained σ h x v u w = some (p_stained z y c v u w) := by
  have V := I.2.1
  have b7 := va_nb K
  unfold fX4_stained p_stained
  rw [xr0 I.1, q_gu_t (st0 (vS V)), c_isShelf, k_bs1, k_01i, c_in (n := 128) (by decide), k_bs1, k_01i, c_in (n := 2) (by decide), k_bs1, k_01i]
  cases e : k_is v 8 with
  | false =>
    rw [p_prF e]
    cases k_is u 128 <;> cases k_is w 2 <;> rfl
  | true =>
  cases e2 : k_is u 128 with
  | false => rfl
  | true =>
  cases e3 : k_is w 2 with
  | false => rfl
  | true =>
  obtain ⟨d, hd, rfl⟩ := k_is_t (by decide) e
  have L := xL I.1 d hd
  rw [if_pos rfl, if_pos rfl, if_pos rfl, c_shelfAt I.1 hd, k_bs1, q_gu_t (lt0 L), c_pairRef I.2.2.2.2.1 vy hd, k_bs1, Bool.and_self, if_pos rfl]
  rcases p_pr_cases y (nI d) with ⟨e0, d', hd', ed, q1, q2, q3⟩ | q
  · have := (nI_eq (by omega) (by omega)).mp ed
    subst this
    rw [if_pos e0, if_pos e0, c_ff I K hd q1 q2 q3, k_bs1, k_cl (by omega)]
    by_cases f0 : p_ff z c d (y 4 d) = -4
    · rw [if_pos f0, if_pos f0]
      have el : q_loop (fun s => fX4_stained_74 σ h x (nI d) u w (x + 56 + 3 * d) s.1 s.2.1 s.2.2) q_N ((0 : Int32), (-4 : Int32), (0 : Int32)) = some (nI (k_one01 (k_sq c d (y 4 d) u) (z 0 1)), p_fst (k_sq c d (y 4 d) u) nI (z 0 1)) := by
        refine k_eq (k_mono (k_for (n := z 0 1) (P := fun o => o.1 = nI (k_one01 (k_sq c d (y 4 d) u) (z 0 1)) ∧ k_fst (k_sq c d (y 4 d) u) nI 0 (z 0 1) o.2) (fun i s => s.2.2 = nI i ∧ s.1 = nI (k_one01 (k_sq c d (y 4 d) u) i) ∧ k_fst (k_sq c d (y 4 d) u) nI 0 i s.2.1) (by rw [k_N]; omega) ⟨rfl, rfl, k_fst_0⟩ ?_) ?_)
        · rintro i ⟨t1, t2, t3⟩ hi ⟨f3, f1, hg⟩
          dsimp only at f3 f1 hg
          subst f3; subst f1
          have bd := k_one_le (k_sq c d (y 4 d) u) i
          simp only [fX4_stained_117, fX4_stained_112, fX4_stained_74, xr0 I.1, v_nb V]
          rcases Nat.lt_or_ge i (z 0 1) with q | q
          · have up := k_fst_up hg
            have c1 := k_one_s (k_sq c d (y 4 d) u) i
            rw [if_neg (nI_ge q (by omega)), q_gu_t (lt0 L), c_had I hd q1 q2 q3, k_bs1]
            simp only [k_eqL (show (0 : Int32) = nI 0 from rfl) (show k_one01 (k_sq c d (y 4 d) u) i < 2147483648 by omega) (show 0 < 2147483648 by decide), nI_1]
            by_cases qq : u &&& (k_had c d i (y 4 d / 2) ^^^ (-1)) = 0
            · have qt : k_sq c d (y 4 d) u i = true := decide_eq_true qq
              rw [qt, if_pos rfl] at up c1
              rw [if_pos qq]
              by_cases z0 : k_one01 (k_sq c d (y 4 d) u) i = 0
              · rw [if_pos z0] at up ⊢
                exact k_some ⟨q, rfl, by rw [c1], up⟩
              · rw [if_neg z0] at up ⊢
                exact k_some ⟨q, rfl, by rw [c1], up⟩
            · have qt : k_sq c d (y 4 d) u i = false := decide_eq_false qq
              rw [qt] at up c1
              rw [if_neg qq]
              exact k_some ⟨q, rfl, by rw [c1]; rfl, up⟩
          · have : i = z 0 1 := by omega
            subst this
            rw [if_pos (nI_le (Nat.le_refl _) (by omega))]
            exact k_some ⟨rfl, hg⟩
        · rintro ⟨o1, o2⟩ ⟨p1, p2⟩
          dsimp only at p1 p2
          rw [p1, k_fst_u p2 p_fstE]
      rw [el, k_bs1, k_si2]
    · rw [if_neg f0, if_neg f0]
  · rw [if_neg q.2, if_neg q.2]
theorem m_stainedO {σ : q_St} {h : q_Hp} {m : Nat} {z zi y : k_Z} {p : Bool} {c : Nat → Nat → Int32} (I : k_MI σ h m z p zi y c) (K : k_va z) (vy : k_vy y) (v u w : Int32) : fX5_stained σ h m v u w = some (p_stained z y c v u w, q_si h m 21 0) := by
  have M := I.1
  have b7 := va_nb K
  have I1 : k_MI σ (q_si h m 21 0) m z p zi y c := MI_th I
  unfold fX5_stained p_stained
  generalize q_si h m 21 0 = h1 at I1 ⊢
  have Y := I1.2.2.2.2.1
  have W := I1.2.1
  have ng : ∀ r : Int32, ¬ 0 ≤ r → fX5_stained_58 σ h1 m v u w r = some (r, h1) := fun r hr => by
    unfold fX5_stained_58; rw [if_neg hr]
  have e35 : fX5_stained_35 σ h1 m v u w = some (-1, h1) := by
    unfold fX5_stained_35 fX5_stained_36 fX5_stained_56
    rw [if_neg (by decide), ng _ (by decide)]
  rw [m_inn (n := 128) (by decide), k_bs1, k_01i, m_inn (n := 2) (by decide), k_bs1, k_01i, e35]
  cases e2 : k_is u 128 with
  | false => rfl
  | true =>
  cases e3 : k_is w 2 with
  | false => rfl
  | true =>
  rw [if_pos rfl, if_pos rfl, m_wrongPairs M Y vy, k_bs1, Bool.and_self, if_pos rfl]
  unfold fX5_stained_36 fX5_stained_56
  rcases p_pr_cases y v with ⟨e0, d, hd, rfl, q1, q2, q3⟩ | q
  · rw [if_pos e0, if_pos e0, m_ff M W Y K hd q1 q3, k_bs1, k_cl (by omega), e0]
    have lt : (p_ff z c d (y 4 d) < 0 ↔ p_ff z c d (y 4 d) = -4) := by
      unfold p_ff p_fst
      have := fa_first_le (fun j => !k_pk z c d j) (y 4 d / 2)
      split
      · have h1 : ¬ nI (fa_first (fun j => !k_pk z c d j) (y 4 d / 2)) < 0 := nI_pos (by omega)
        exact ⟨fun q => absurd q h1, fun q => absurd (by rw [q]; decide) h1⟩
      · decide
    by_cases f0 : p_ff z c d (y 4 d) = -4
    · rw [if_pos (lt.mpr f0), if_pos f0]
      unfold fX5_stained_58
      rw [if_pos (by decide), w_nb W]
      have el : q_loop (fun s => fX5_stained_83 σ m (nI d) u w s.1 s.2.1 s.2.2.1 s.2.2.2) q_N ((0 : Int32), (-4 : Int32), (nI (z 0 1) - 1), h1) = some (nI (k_one01 (k_sq c d (y 4 d) u) (z 0 1)), p_fst (k_sq c d (y 4 d) u) nI (z 0 1), h1) := by
        refine k_eq (k_mono (k_for (n := z 0 1) (P := fun o => o.1 = nI (k_one01 (k_sq c d (y 4 d) u) (z 0 1)) ∧ k_fst (k_sq c d (y 4 d) u) nI 0 (z 0 1) o.2.1 ∧ o.2.2 = h1) (fun i s => s.2.2.1 = nI (z 0 1 - i) - 1 ∧ s.1 = nI (k_one01 (k_sq c d (y 4 d) u) (z 0 1) - k_one01 (k_sq c d (y 4 d) u) (z 0 1 - i)) ∧ k_fst (k_sq c d (y 4 d) u) nI (z 0 1 - i) (z 0 1) s.2.1 ∧ s.2.2.2 = h1) (by rw [k_N]; omega) ⟨by rw [Nat.sub_zero], by rw [Nat.sub_zero, Nat.sub_self]; rfl, by rw [Nat.sub_zero]; exact k_fst_0, rfl⟩ ?_) ?_)
        · rintro i ⟨t1, t2, t3, t4⟩ hi ⟨f3, f1, hg, f4⟩
          dsimp only at f3 f1 hg f4
          subst f3; subst f1; subst f4
          show k_ok (fX5_stained_83 σ m (nI d) u w (nI (k_one01 (k_sq c d (y 4 d) u) (z 0 1) - k_one01 (k_sq c d (y 4 d) u) (z 0 1 - i))) t2 (nI (z 0 1 - i) - 1) t4) _
          unfold fX5_stained_83
          rcases Nat.lt_or_ge i (z 0 1) with q | q
          · obtain ⟨j, ej⟩ : ∃ j, z 0 1 - i = j + 1 := ⟨z 0 1 - i - 1, by omega⟩
            have hj : j < z 0 1 := by omega
            have bd := k_one_le (k_sq c d (y 4 d) u) (z 0 1)
            have mo := k_one_mono (k_sq c d (y 4 d) u) (show j + 1 ≤ z 0 1 by omega)
            rw [ej] at hg ⊢
            have dn := k_fst_dn hj hg
            have c1 := k_one_s (k_sq c d (y 4 d) u) j
            rw [nI_pred, if_neg (nI_pos (by omega)), m_had M Y hd q1 q2 q3, k_bs1]
            unfold fX5_stained_106 fX5_stained_127
            rw [m_had M Y hd q1 q2 q3, k_bs1, k_p1, show z 0 1 - (i + 1) = j by omega]
            by_cases qq : u &&& (k_had c d j (y 4 d / 2) ^^^ (-1)) = 0
            · have qt : k_sq c d (y 4 d) u j = true := decide_eq_true qq
              rw [qt, if_pos rfl] at dn c1
              rw [if_pos qq, if_neg (show ¬ (1 : Int32) = 0 by decide), k_bs1, if_neg (show ¬ (1 : Int32) = 0 by decide), nI_1]
              exact k_some ⟨q, rfl, by dsimp only; congr 1; omega, dn, rfl⟩
            · have qt : k_sq c d (y 4 d) u j = false := decide_eq_false qq
              rw [qt, if_neg (by decide)] at dn c1
              rw [if_neg qq]
              simp only [k_bs1, if_pos (show (0 : Int32) = 0 from rfl)]
              refine k_some ⟨q, rfl, ?_, dn, rfl⟩
              show nI _ + nI 0 = _
              rw [nI_add]; congr 1; omega
          · have : i = z 0 1 := by omega
            subst this
            rw [Nat.sub_self, if_pos (show nI 0 - 1 < 0 by decide)]
            rw [Nat.sub_self] at hg
            exact k_some ⟨rfl, hg, rfl⟩
        · rintro ⟨o1, o2, o3⟩ ⟨p1, p2, p3⟩
          dsimp only at p1 p2 p3
          rw [p1, p3, k_fst_u p2 p_fstE]
      rw [el, k_bs1, k_si3]
    · rw [if_neg (fun q => f0 (lt.mp q)), if_neg f0, ng _ (by decide)]
  · rw [if_neg q.2, if_neg q.2, ng _ q.1]
/-! judged -/
def k_ls (s : Nat) : Int32 := if s = 0 then -128 else if s = 1 then -32768 else -2147483648
def k_jq (z y : k_Z) (c : Nat → Nat → Int32) (d i : Nat) : Bool := !decide (c d i = k_ls (y 3 d)) && (decide (k_pc (k_bs (fun s => z 5 s == 2) (z 0 0)) < i) || !decide (c d i = nI (k_pc (k_bs (fun s => z 5 s == 0) (z 0 0)) + i)))
def p_judge (z y : k_Z) (c : Nat → Nat → Int32) (v : Int32) : Int32 := if k_wr y 2 v = 0 then p_fst (k_jq z y c v.toNatClampNeg) nI (y 4 v.toNatClampNeg) else k_wr y 2 v
theorem c_least {σ : q_St} {h : q_Hp} {a s : Nat} (e : q_int h a 3 = nI s) (hs : s ≤ 2) : fX1_least σ h a = some (k_ls s) := by
  unfold fX1_least k_ls
  rw [e]
  simp only [k_eqL (show (0 : Int32) = nI 0 from rfl) (show s < 2147483648 by omega) (show 0 < 2147483648 by decide), k_eqL (show (1 : Int32) = nI 1 from rfl) (show s < 2147483648 by omega) (show 1 < 2147483648 by decide), k_si2]
theorem m_skipped {σ : q_St} {h : q_Hp} {m d : Nat} {y : k_Z} {c : Nat → Nat → Int32} (M : k_M σ m) (Y : k_YM h m y c) (vy : k_vy y) (hd : d < 8) (y2 : y 0 d = 2) : fX5_skipped σ h m (nI d) = some (k_ls (y 3 d)).toInt64 := by
  have s3 := ((Y d hd).2.2 y2).1
  have b := ((vy d hd).2.2 y2).1
  unfold fX5_skipped k_ls
  rw [mr18 M, q_gu_t (mt15 M), ml15 M, q_gu_t (vp_in_nI hd (by decide)), k_cl (by omega), s3]
  simp only [k_eqL (show (0 : Int32) = nI 0 from rfl) (show y 3 d < 2147483648 by omega) (show 0 < 2147483648 by decide), k_eqL (show (1 : Int32) = nI 1 from rfl) (show y 3 d < 2147483648 by omega) (show 1 < 2147483648 by decide)]
  split
  · rfl
  · split <;> rfl
theorem k_stB {z : k_Z} (K : k_va z) (w : Nat) : k_bs (fun s => z 5 s == w) (z 0 0) < 128 := Nat.lt_of_lt_of_le (k_bs_lt _ _) (Nat.pow_le_pow_right (by decide) (va_ns K))
theorem c_judge {σ : q_St} {h : q_Hp} {x A B : Nat} {z zi y : k_Z} {p : Bool} {c : Nat → Nat → Int32} (I : k_CI σ h x A B z p zi y c) (K : k_va z) (vy : k_vy y) (v : Int32) : fX4_judge σ h x v = some (p_judge z y c v) := by
  have V := I.2.1
  unfold fX4_judge p_judge
  rw [xr0 I.1, q_gu_t (st0 (vS V)), c_isShelf, k_bs1, k_01i]
  cases e : k_is v 8 with
  | false =>
    have : k_wr y 2 v = -1 := by unfold k_wr; rw [e]; rfl
    rw [this]; rfl
  | true =>
  obtain ⟨d, hd, rfl⟩ := k_is_t (by decide) e
  have L := xL I.1 d hd
  rw [if_pos rfl, c_shelfAt I.1 hd, k_bs1, q_gu_t (lt0 L), show (2 : Int32) = nI 2 from rfl, c_refusal I.2.2.2.2.1 vy hd (by decide), k_bs1]
  rcases k_wr_cases y 2 (nI d) with ⟨e0, d', hd', ed, y2, -⟩ | q
  · have := (nI_eq (by omega) (by omega)).mp ed
    subst this
    obtain ⟨s3, l4, cc⟩ := (I.2.2.2.2.1 d hd).2.2 y2
    have bb := (vy d hd).2.2 y2
    have B0 := k_stB K 0
    have B2 := k_stB K 2
    have P0 := k_pcB (k_bs (fun s => z 5 s == 0) (z 0 0))
    have P2 := k_pcB (k_bs (fun s => z 5 s == 2) (z 0 0))
    rw [if_pos e0, if_pos e0, show (fX2_suitsThatAre σ h A 0) = _ from c_state V K (w := 0) (by decide), k_bs1, c_bits _ (by omega), k_bs1, c_state V K (w := 2) (by decide), k_bs1, c_bits _ (by omega), k_bs1, k_cl (by omega)]
    have el : q_loop (fun s => fX4_judge_56 σ h x (nI d) (x + 56 + 3 * d) (nI (k_pc (k_bs (fun s => z 5 s == 0) (z 0 0)))) (nI (k_pc (k_bs (fun s => z 5 s == 2) (z 0 0)))) s) q_N (0 : Int32) = some (if fa_first (k_jq z y c d) (y 4 d) < y 4 d then .inr (nI (fa_first (k_jq z y c d) (y 4 d))) else .inl ()) := by
      have pre : ∀ i, i < y 4 d → fX4_judge_56 σ h x (nI d) (x + 56 + 3 * d) (nI (k_pc (k_bs (fun s => z 5 s == 0) (z 0 0)))) (nI (k_pc (k_bs (fun s => z 5 s == 2) (z 0 0)))) (nI i) = if k_jq z y c d i then some (.inr (.inr (nI i))) else some (.inl (nI (i + 1))) := fun i hi => by
        unfold fX4_judge_56 fX4_judge_105
        rw [q_gu_t (lt0 L), l4, if_neg (nI_ge hi (by omega)), lr0 L, q_gu_t (lt1 L), c_at (ll1 L) (by omega) (by decide), k_bs1, c_least s3 bb.1, k_bs1, show x + 56 + 3 * d + 1 = x + 57 + 3 * d by omega, cc i (by omega), nI_add, nI_1]
        unfold k_jq
        by_cases h1 : c d i = k_ls (y 3 d)
        · rw [if_pos h1]; simp [h1]
        · rw [if_neg h1]
          by_cases h2 : k_pc (k_bs (fun s => z 5 s == 2) (z 0 0)) < i
          · rw [if_pos (nI_lt h2 (by omega))]; simp [h1, h2]
          · rw [if_neg (nI_nlt (by omega) (by omega))]
            by_cases h3 : c d i = nI (k_pc (k_bs (fun s => z 5 s == 0) (z 0 0)) + i)
            · rw [if_pos h3, decide_eq_true h3, decide_eq_false h2]; simp
            · rw [if_neg h3]; simp [h1, h3]
      refine k_find (q := k_jq z y c d) (n := y 4 d) (st := fun i => nI i) (by omega) (fun i hi hq => ?_) (fun i hi hq hf => ?_) (fun hf => ?_)
      · rw [pre i hi, hq]; rfl
      · rw [pre i hi, hq, hf, if_pos hi]; rfl
      · unfold fX4_judge_56
        rw [q_gu_t (lt0 L), l4, if_pos (nI_le (Nat.le_refl _) (by omega)), hf, if_neg (by omega)]
    rw [el, k_bs1]
    unfold p_fst
    split <;> rfl
  · have n := k_neg q
    rw [if_neg n.2.2, if_neg n.2.2]
theorem m_judgeO {σ : q_St} {h : q_Hp} {m : Nat} {z zi y : k_Z} {p : Bool} {c : Nat → Nat → Int32} (I : k_MI σ h m z p zi y c) (K : k_va z) (vy : k_vy y) (v : Int32) : fX5_judge σ h m v = some (p_judge z y c v, q_si h m 21 0) := by
  have M := I.1
  have I1 : k_MI σ (q_si h m 21 0) m z p zi y c := MI_th I
  unfold fX5_judge p_judge
  generalize q_si h m 21 0 = h1 at I1 ⊢
  have Y := I1.2.2.2.2.1
  have W := I1.2.1
  rw [mr19 M, mr20 M, q_gu_t ⟨mt16 M, mt17 M⟩, m_wrongRow M Y vy, k_bs1]
  rcases k_wr_cases y 2 v with ⟨e0, d, hd, rfl, y2, -⟩ | q
  · obtain ⟨s3, l4, cc⟩ := (Y d hd).2.2 y2
    have bb := (vy d hd).2.2 y2
    have B0 := k_stB K 0
    have B2 := k_stB K 2
    have P0 := k_pcB (k_bs (fun s => z 5 s == 0) (z 0 0))
    have P2 := k_pcB (k_bs (fun s => z 5 s == 2) (z 0 0))
    rw [if_pos (by rw [e0]; decide), if_pos e0, show (fX5_inState σ h1 m 0) = _ from m_state M W K (w := 0) (by decide), k_bs1, m_ones (by omega), k_bs1, show (fX5_inState σ h1 m 2) = _ from m_state M W K (w := 2) (by decide), k_bs1, m_ones (by omega), k_bs1, k_cl (by omega)]
    have el : q_loop (fun s => fX5_judge_39 σ m (nI d) (nI (k_pc (k_bs (fun s => z 5 s == 0) (z 0 0)))) (nI (k_pc (k_bs (fun s => z 5 s == 2) (z 0 0)))) s.1 s.2) q_N ((0 : Int32), h1) = some (if fa_first (k_jq z y c d) (y 4 d) < y 4 d then .inr (nI (fa_first (k_jq z y c d) (y 4 d)), h1) else .inl h1) := by
      have pre : ∀ i, i < y 4 d → fX5_judge_39 σ m (nI d) (nI (k_pc (k_bs (fun s => z 5 s == 0) (z 0 0)))) (nI (k_pc (k_bs (fun s => z 5 s == 2) (z 0 0)))) (nI i) h1 = if k_jq z y c d i then some (.inr (.inr (nI i, h1))) else some (.inl (nI (i + 1), h1)) := fun i hi => by
        unfold fX5_judge_39 fX5_judge_96
        rw [mr19 M, mr20 M, ml16 M, ml17 M, q_gu_t (vp_in_nI hd (by decide)), k_cl (by omega), l4, if_neg (nI_ge hi (by omega)), show (100 : Int32) * nI d = nI (100 * d) from pk_mul 100 d, nI_add, q_gu_t (vp_in_nI (by omega) (by decide)), m_skipped M Y vy hd y2, k_bs1, k_cl (by omega), cc i (by omega), nI_add, nI_1]
        simp only [k_cmpE, k_ww]
        unfold k_jq
        by_cases h1 : c d i = k_ls (y 3 d)
        · rw [if_pos h1]; simp [h1]
        · rw [if_neg h1]
          by_cases h2 : k_pc (k_bs (fun s => z 5 s == 2) (z 0 0)) < i
          · rw [if_pos (nI_lt h2 (by omega))]; simp [h1, h2]
          · rw [if_neg (nI_nlt (by omega) (by omega))]
            by_cases h3 : c d i = nI (k_pc (k_bs (fun s => z 5 s == 0) (z 0 0)) + i)
            · rw [if_pos h3, decide_eq_true h3, decide_eq_false h2]; simp
            · rw [if_neg h3]; simp [h1, h3]
      refine k_find (q := k_jq z y c d) (n := y 4 d) (st := fun i => (nI i, h1)) (by omega) (fun i hi hq => ?_) (fun i hi hq hf => ?_) (fun hf => ?_)
      · dsimp only
        rw [pre i hi, hq]; rfl
      · dsimp only
        rw [pre i hi, hq, hf, if_pos hi]; rfl
      · dsimp only
        unfold fX5_judge_39
        rw [mr19 M, ml16 M, q_gu_t (vp_in_nI hd (by decide)), k_cl (by omega), l4, if_pos (nI_le (Nat.le_refl _) (by omega)), hf, if_neg (by omega)]
    rw [el, k_bs1]
    unfold p_fst
    split <;> rfl
  · have n := k_neg q
    rw [if_neg n.1, if_neg n.2.2]
