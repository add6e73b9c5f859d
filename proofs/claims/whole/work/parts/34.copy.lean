/-! copy -/
theorem k_subT {l n : Nat} (hl : l ≤ 100) (hn : n < 2147483648) : (nI l - nI n).toInt = (l : Int) - n := by
  rw [Int32.toInt_sub, nI_toInt (by omega), nI_toInt (by omega)]
  apply Int.bmod_eq_of_le <;> omega
def k_st (l : Nat) (i n : Int32) : Bool := decide (0 ≤ n ∧ 0 ≤ i ∧ i ≤ nI l - n)
theorem k_stT {l : Nat} {i n : Int32} (hl : l ≤ 100) (h : k_st l i n = true) : ∃ a b, i = nI a ∧ n = nI b ∧ a + b ≤ l := by
  obtain ⟨h1, h2, h3⟩ := of_decide_eq_true h
  obtain ⟨b, hb, rfl⟩ := nI_of (x := n) (fun q => (k_nlt _ _).mp q h1)
  obtain ⟨a, ha, rfl⟩ := nI_of (x := i) (fun q => (k_nlt _ _).mp q h2)
  rw [Int32.le_iff_toInt_le, k_subT hl hb, nI_toInt ha] at h3
  exact ⟨a, b, rfl, rfl, by omega⟩
theorem c_stretch {σ : q_St} {h : q_Hp} {L l : Nat} {i n : Int32} (h4 : q_int h L 4 = nI l) (hl : l ≤ 100) : fX1_hasStretch σ h L i n = some (if k_st l i n then 1 else 0) := by
  unfold fX1_hasStretch
  rw [h4]
  by_cases h1 : 0 ≤ n
  · rw [if_neg (fun q => (k_nlt _ _).mp q h1)]
    by_cases h3 : 0 ≤ i
    · rw [if_neg (fun q => (k_nlt i 0).mp q h3)]
      obtain ⟨b, hb, rfl⟩ := nI_of (x := n) (fun q => (k_nlt _ _).mp q h1)
      obtain ⟨a, ha, rfl⟩ := nI_of (x := i) (fun q => (k_nlt _ _).mp q h3)
      by_cases h2 : b ≤ l
      · rw [if_neg (nI_nlt h2 (by omega))]
        by_cases h5 : nI a ≤ nI l - nI b
        · rw [if_neg (fun q => (k_nlt _ _).mp q h5), show k_st l (nI a) (nI b) = true from decide_eq_true ⟨h1, h3, h5⟩]; rfl
        · rw [if_pos ((k_nlt _ _).mpr h5), show k_st l (nI a) (nI b) = false from decide_eq_false (fun q => h5 q.2.2)]; rfl
      · rw [if_pos (nI_lt (by omega) hb), show k_st l (nI a) (nI b) = false from decide_eq_false (fun q => by
          have := q.2.2
          rw [Int32.le_iff_toInt_le, k_subT hl hb, nI_toInt ha] at this
          omega)]; rfl
    · rw [show k_st l i n = false from decide_eq_false (fun q => h3 q.2.1)]
      rw [if_pos ((k_nlt i 0).mpr h3)]
      split <;> rfl
  · rw [if_pos ((k_nlt _ _).mpr h1), show k_st l i n = false from decide_eq_false (fun q => h1 q.1)]; rfl
def p_copy (y : k_Z) (c : Nat → Nat → Int32) (v i e j n : Int32) : Int32 × (Nat → Nat → Int32) :=
  if k_is v 8 && k_is e 8 then
    if y 0 v.toNatClampNeg = 0 then (-11, c) else if y 0 e.toNatClampNeg = 0 then (-11, c)
    else if y 0 v.toNatClampNeg = 2 ∧ y 0 e.toNatClampNeg = 2 ∧ y 3 v.toNatClampNeg = y 3 e.toNatClampNeg then
      if k_st (y 4 v.toNatClampNeg) i n && k_st (y 4 e.toNatClampNeg) j n then (n, k_cC c v.toNatClampNeg i.toNatClampNeg e.toNatClampNeg j.toNatClampNeg n.toNatClampNeg) else (-13, c)
    else (-12, c)
  else (-1, c)
theorem c_copy {σ : q_St} {h : q_Hp} {x A B : Nat} {z zi y : k_Z} {p : Bool} {c : Nat → Nat → Int32} (I : k_CI σ h x A B z p zi y c) (vy : k_vy y) (E : k_etc σ x) (v i e j n : Int32) : k_ok (fX4_copy σ h x v i e j n) (fun r => r.1 = (p_copy y c v i e j n).1 ∧ k_CI σ r.2 x A B z p zi y (p_copy y c v i e j n).2 ∧ k_fc σ h x σ r.2) := by
  have hAB := xAB I.1
  have Y := I.2.2.2.2.1
  unfold fX4_copy
  rw [c_isShelf, k_bs1, k_01i, c_isShelf, k_bs1, k_01i]
  have no : ∀ r : Int32, k_ok (some (r, h)) (fun q => q.1 = r ∧ k_CI σ q.2 x A B z p zi y c ∧ k_fc σ h x σ q.2) := fun r => k_some ⟨rfl, I, fc_of E k_ag_rf⟩
  cases ev : k_is v 8 with
  | false =>
    rw [show p_copy y c v i e j n = (-1, c) by unfold p_copy; rw [ev]; rfl]
    exact no _
  | true =>
  cases ee : k_is e 8 with
  | false =>
    rw [show p_copy y c v i e j n = (-1, c) by unfold p_copy; rw [ev, ee]; rfl]
    exact no _
  | true =>
  obtain ⟨d, hd, rfl⟩ := k_is_t (by decide) ev
  obtain ⟨e, he, rfl⟩ := k_is_t (by decide) ee
  have L := xL I.1 d hd
  have L' := xL I.1 e he
  have v1 := vy d hd
  have v2 := vy e he
  have ep : p_copy y c (nI d) i (nI e) j n = if y 0 d = 0 then (-11, c) else if y 0 e = 0 then (-11, c) else if y 0 d = 2 ∧ y 0 e = 2 ∧ y 3 d = y 3 e then (if k_st (y 4 d) i n && k_st (y 4 e) j n then (n, k_cC c d i.toNatClampNeg e j.toNatClampNeg n.toNatClampNeg) else (-13, c)) else (-12, c) := by
    unfold p_copy
    rw [ev, ee, k_cl (by omega), k_cl (by omega)]; rfl
  rw [ep, if_pos rfl, if_pos rfl, c_shelfAt I.1 hd, k_bs1, c_shelfAt I.1 he, k_bs1, q_gu_t (lt0 L), q_gu_t (lt0 L'), (Y d hd).1, (Y e he).1]
  simp only [k_eqL (show (0 : Int32) = nI 0 from rfl) (show y 0 d < 2147483648 by omega) (show 0 < 2147483648 by decide), k_eqL (show (2 : Int32) = nI 2 from rfl) (show y 0 d < 2147483648 by omega) (show 2 < 2147483648 by decide), k_eqL (show (0 : Int32) = nI 0 from rfl) (show y 0 e < 2147483648 by omega) (show 0 < 2147483648 by decide), k_eqL (show (2 : Int32) = nI 2 from rfl) (show y 0 e < 2147483648 by omega) (show 2 < 2147483648 by decide)]
  by_cases z1 : y 0 d = 0
  · simp only [if_pos z1]; exact no _
  simp only [if_neg z1]
  by_cases z2 : y 0 e = 0
  · simp only [if_pos z2]; exact no _
  simp only [if_neg z2]
  by_cases w1 : ¬ (y 0 d = 2)
  · simp only [if_neg w1, if_neg (show ¬ (y 0 d = 2 ∧ y 0 e = 2 ∧ y 3 d = y 3 e) from fun q => w1 q.1)]; exact no _
  replace w1 : y 0 d = 2 := Decidable.not_not.mp w1
  simp only [if_pos w1]
  by_cases w2 : ¬ (y 0 e = 2)
  · simp only [if_neg w2, if_neg (show ¬ (y 0 d = 2 ∧ y 0 e = 2 ∧ y 3 d = y 3 e) from fun q => w2 q.2.1)]; exact no _
  replace w2 : y 0 e = 2 := Decidable.not_not.mp w2
  simp only [if_pos w2]
  obtain ⟨s3, l4, cc⟩ := (Y d hd).2.2 w1
  obtain ⟨s3', l4', cc'⟩ := (Y e he).2.2 w2
  have b1 := (vy d hd).2.2 w1
  have b2 := (vy e he).2.2 w2
  simp only [s3, s3', k_eqL rfl (show y 3 d < 2147483648 by omega) (show y 3 e < 2147483648 by omega)]
  by_cases w3 : ¬ (y 3 d = y 3 e)
  · simp only [if_neg w3, if_neg (show ¬ (y 0 d = 2 ∧ y 0 e = 2 ∧ y 3 d = y 3 e) from fun q => w3 q.2.2)]; exact no _
  replace w3 : y 3 d = y 3 e := Decidable.not_not.mp w3
  simp only [if_pos w3, if_pos (show y 0 d = 2 ∧ y 0 e = 2 ∧ y 3 d = y 3 e from ⟨w1, w2, w3⟩), c_stretch l4 b1.2, c_stretch l4' b2.2, k_bs1, k_01i]
  cases st1 : k_st (y 4 d) i n with
  | false => exact no _
  | true =>
  cases st2 : k_st (y 4 e) j n with
  | false => exact no _
  | true =>
  obtain ⟨a, b, rfl, rfl, hab⟩ := k_stT b1.2 st1
  obtain ⟨a', b', rfl, eb, hab'⟩ := k_stT b2.2 st2
  have hb31 : b < 2147483648 := by omega
  have eb' : b = b' := (nI_eq (by omega) (by omega)).mp eb
  subst eb'
  rw [Bool.and_self, if_pos (show (true = true) from rfl), if_pos (show (true = true) from rfl), if_pos (show (true = true) from rfl), lr0 L, lr0 L', q_gu_t ⟨lt1 L, lt1 L'⟩, ll1 L, ll1 L', k_cl (by omega), k_cl (by omega), k_cl (by omega), q_gu_t ⟨nI_pos (by omega), nI_pos (by omega), nI_pos (by omega), by omega, by omega⟩]
  have g : k_ag (fun q => q ≠ x + 57 + 3 * e) h (q_cp h (x + 56 + 3 * d + 1) (x + 56 + 3 * e + 1) a a' b) := fun q hq => ⟨va_up_ne _ _ (by omega), rfl⟩
  have gv : ∀ k, q_int (q_cp h (x + 56 + 3 * d + 1) (x + 56 + 3 * e + 1) a a' b) (x + 57 + 3 * e) k = if a' ≤ k ∧ k < a' + b then q_int h (x + 57 + 3 * d) (a + (k - a')) else q_int h (x + 57 + 3 * e) k := fun k => by
    show va_up h.1 (x + 56 + 3 * e + 1) _ (x + 57 + 3 * e) k = _
    rw [show x + 57 + 3 * e = x + 56 + 3 * e + 1 by omega, va_up_self, show x + 57 + 3 * d = x + 56 + 3 * d + 1 by omega]
    rfl
  generalize q_cp h (x + 56 + 3 * d + 1) (x + 56 + 3 * e + 1) a a' b = h' at g gv ⊢
  refine k_some ⟨rfl, CI_sh I he I.1 (k_ag_mono g (fun a ha => ha.2.1)) (fun _ h => h) (fun _ _ _ _ _ => rfl) (fun _ _ _ => rfl) (fun q k hq => ?_) ⟨?_, fun q1 => ?_, fun q1 => ⟨?_, ?_, fun k hk => ?_⟩⟩, fc_of E (k_ag_mono g (fun a ha e => by unfold k_mz at ha; omega))⟩
  · dsimp only; unfold k_cC; rw [if_neg (fun q2 => hq q2.1)]
  · dsimp only; rw [k_agI g (show x + 56 + 3 * e ≠ x + 57 + 3 * e by omega)]; exact (Y e he).1
  · omega
  · dsimp only; rw [k_agI g (show x + 56 + 3 * e ≠ x + 57 + 3 * e by omega)]; exact s3'
  · dsimp only; rw [k_agI g (show x + 56 + 3 * e ≠ x + 57 + 3 * e by omega)]; exact l4'
  · dsimp only
    rw [gv k]
    unfold k_cC
    by_cases q : a' ≤ k ∧ k < a' + b
    · rw [if_pos q, if_pos ⟨rfl, q⟩]; exact cc _ (by omega)
    · rw [if_neg q, if_neg (fun q2 => q q2.2)]; exact cc' k hk
theorem m_copy {σ : q_St} {h : q_Hp} {m : Nat} {z zi y : k_Z} {p : Bool} {c : Nat → Nat → Int32} (I : k_MI σ h m z p zi y c) (vy : k_vy y) (v i e j n : Int32) : k_ok (fX5_copy σ h m v i e j n) (fun r => r.1 = (p_copy y c v i e j n).1 ∧ k_MI σ r.2 m z p zi y (p_copy y c v i e j n).2 ∧ k_fm σ h m σ r.2) := by
  have M := I.1
  unfold fX5_copy
  have A1 : k_mf [21] [17, 26] m h (q_si h m 21 0) := mf_th (by decide)
  have I1 : k_MI σ (q_si h m 21 0) m z p zi y c := MI_mf I (mf_fi (L := [21]) (R := []) mf_rf (by decide)) (by decide) (fun _ _ _ => by simp) (by decide)
  generalize q_si h m 21 0 = h1 at A1 I1 ⊢
  have Y := I1.2.2.2.2.1
  have fm1 : k_fm σ h m σ h1 := ⟨⟨_, _, A1⟩, Or.inl rfl⟩
  have no : ∀ r : Int32, k_ok (some (r, h1)) (fun q => q.1 = r ∧ k_MI σ q.2 m z p zi y c ∧ k_fm σ h m σ q.2) := fun r => k_some ⟨rfl, I1, fm1⟩
  rw [mr15 M, mr18 M, mr19 M, mr20 M, mr43 M, q_gu_t ⟨mt12 M, mt15 M, mt16 M, mt17 M, mt26 M⟩, m_inn (n := 8) (by decide), k_bs1, k_01i, m_inn (n := 8) (by decide), k_bs1, k_01i]
  cases ev : k_is v 8 with
  | false =>
    rw [show p_copy y c v i e j n = (-1, c) by unfold p_copy; rw [ev]; rfl]
    exact no _
  | true =>
  cases ee : k_is e 8 with
  | false =>
    rw [show p_copy y c v i e j n = (-1, c) by unfold p_copy; rw [ev, ee]; rfl]
    exact no _
  | true =>
  obtain ⟨d, hd, rfl⟩ := k_is_t (by decide) ev
  obtain ⟨e, he, rfl⟩ := k_is_t (by decide) ee
  have v1 := vy d hd
  have v2 := vy e he
  have ep : p_copy y c (nI d) i (nI e) j n = if y 0 d = 0 then (-11, c) else if y 0 e = 0 then (-11, c) else if y 0 d = 2 ∧ y 0 e = 2 ∧ y 3 d = y 3 e then (if k_st (y 4 d) i n && k_st (y 4 e) j n then (n, k_cC c d i.toNatClampNeg e j.toNatClampNeg n.toNatClampNeg) else (-13, c)) else (-12, c) := by
    unfold p_copy
    rw [ev, ee, k_cl (by omega), k_cl (by omega)]; rfl
  rw [ep, if_pos rfl, if_pos rfl, ml12 M, q_gu_t (vp_in_nI hd (by decide)), q_gu_t (vp_in_nI he (by decide)), k_cl (by omega), k_cl (by omega), (Y d hd).1, (Y e he).1]
  simp only [k_eqL (show (0 : Int32) = nI 0 from rfl) (show y 0 d < 2147483648 by omega) (show 0 < 2147483648 by decide), k_eqL (show (2 : Int32) = nI 2 from rfl) (show y 0 d < 2147483648 by omega) (show 2 < 2147483648 by decide), k_eqL (show (0 : Int32) = nI 0 from rfl) (show y 0 e < 2147483648 by omega) (show 0 < 2147483648 by decide), k_eqL (show (2 : Int32) = nI 2 from rfl) (show y 0 e < 2147483648 by omega) (show 2 < 2147483648 by decide)]
  by_cases z1 : y 0 d = 0
  · simp only [if_pos z1]; exact no _
  simp only [if_neg z1]
  by_cases z2 : y 0 e = 0
  · simp only [if_pos z2]; exact no _
  simp only [if_neg z2]
  by_cases w1 : ¬ (y 0 d = 2)
  · simp only [if_neg w1, if_neg (show ¬ (y 0 d = 2 ∧ y 0 e = 2 ∧ y 3 d = y 3 e) from fun q => w1 q.1)]; exact no _
  replace w1 : y 0 d = 2 := Decidable.not_not.mp w1
  simp only [if_pos w1]
  by_cases w2 : ¬ (y 0 e = 2)
  · simp only [if_neg w2, if_neg (show ¬ (y 0 d = 2 ∧ y 0 e = 2 ∧ y 3 d = y 3 e) from fun q => w2 q.2.1)]; exact no _
  replace w2 : y 0 e = 2 := Decidable.not_not.mp w2
  simp only [if_pos w2]
  obtain ⟨s3, l4, cc⟩ := (Y d hd).2.2 w1
  obtain ⟨s3', l4', cc'⟩ := (Y e he).2.2 w2
  have b1 := (vy d hd).2.2 w1
  have b2 := (vy e he).2.2 w2
  simp only [ml15 M, ml16 M, ml17 M, ml26 M, k_vi hd (show 8 < 2147483648 by decide), k_vi he (show 8 < 2147483648 by decide), and_self, k_guT, s3, s3', l4, l4', k_eqL rfl (show y 3 d < 2147483648 by omega) (show y 3 e < 2147483648 by omega)]
  by_cases w3 : ¬ (y 3 d = y 3 e)
  · simp only [if_neg w3, if_neg (show ¬ (y 0 d = 2 ∧ y 0 e = 2 ∧ y 3 d = y 3 e) from fun q => w3 q.2.2)]; exact no _
  replace w3 : y 3 d = y 3 e := Decidable.not_not.mp w3
  simp only [if_pos w3, if_pos (show y 0 d = 2 ∧ y 0 e = 2 ∧ y 3 d = y 3 e from ⟨w1, w2, w3⟩)]
  by_cases g1 : ¬ (0 ≤ n)
  · rw [if_pos ((k_nlt _ _).mpr g1), show k_st (y 4 d) i n = false from decide_eq_false (fun q => g1 q.1)]; exact no _
  replace g1 : 0 ≤ n := Decidable.not_not.mp g1
  rw [if_neg (fun q => (k_nlt _ _).mp q g1)]
  by_cases g2 : ¬ (0 ≤ i)
  · rw [if_pos ((k_nlt _ _).mpr g2), show k_st (y 4 d) i n = false from decide_eq_false (fun q => g2 q.2.1)]; exact no _
  replace g2 : 0 ≤ i := Decidable.not_not.mp g2
  rw [if_neg (fun q => (k_nlt _ _).mp q g2)]
  by_cases g3 : ¬ (0 ≤ j)
  · rw [if_pos ((k_nlt _ _).mpr g3), show k_st (y 4 e) j n = false from decide_eq_false (fun q => g3 q.2.1), Bool.and_false]; exact no _
  replace g3 : 0 ≤ j := Decidable.not_not.mp g3
  rw [if_neg (fun q => (k_nlt _ _).mp q g3)]
  by_cases g4 : ¬ (i ≤ nI (y 4 d) - n)
  · rw [if_pos ((k_nlt _ _).mpr g4), show k_st (y 4 d) i n = false from decide_eq_false (fun q => g4 q.2.2)]; exact no _
  replace g4 : i ≤ nI (y 4 d) - n := Decidable.not_not.mp g4
  rw [if_neg (fun q => (k_nlt _ _).mp q g4)]
  by_cases g5 : ¬ (j ≤ nI (y 4 e) - n)
  · rw [if_neg g5, show k_st (y 4 e) j n = false from decide_eq_false (fun q => g5 q.2.2), Bool.and_false]; exact no _
  replace g5 : j ≤ nI (y 4 e) - n := Decidable.not_not.mp g5
  rw [if_pos g5]
  have st1 : k_st (y 4 d) i n = true := decide_eq_true ⟨g1, g2, g4⟩
  have st2 : k_st (y 4 e) j n = true := decide_eq_true ⟨g1, g3, g5⟩
  rw [st1, st2]
  obtain ⟨a, b, rfl, rfl, hab⟩ := k_stT b1.2 st1
  obtain ⟨a', b', rfl, eb, hab'⟩ := k_stT b2.2 st2
  have eb' : b = b' := (nI_eq (by omega) (by omega)).mp eb
  subst eb'
  rw [Bool.and_self, if_pos rfl, k_cl (by omega), k_cl (by omega), k_cl (by omega)]
  refine k_bind (k_for (n := b) (P := fun h' => (∀ k, k < b → q_lng h' (m + 26) k = q_lng h1 (m + 17) (100 * d + a + k)) ∧ k_mf [21] [26] m h1 h') (fun k t => t.1 = nI k ∧ (∀ q, q < k → q_lng t.2 (m + 26) q = q_lng h1 (m + 17) (100 * d + a + q)) ∧ k_mf [21] [26] m h1 t.2) (by rw [k_N]; omega) ⟨rfl, fun j hj => absurd hj (Nat.not_lt_zero _), mf_rf⟩ ?_) (fun h2 q => ?_)
  · rintro k ⟨w, h'⟩ hk ⟨e, hz, hg⟩
    dsimp only at e hz hg
    subst e
    show k_ok (fX5_copy_137 σ m (nI d) (nI a) (nI e) (nI a') (nI b) (nI k) h') _
    unfold fX5_copy_137
    rw [mr20 M, mr43 M, ml17 M, ml26 M, show (100 : Int32) * nI d = nI (100 * d) from pk_mul 100 d, nI_add, nI_add]
    rcases Nat.lt_or_ge k b with q | q
    · rw [if_neg (nI_ge q (by omega)), q_gu_t ⟨vp_in_nI (by omega) (by decide), vp_in_nI (by omega) (by decide)⟩, k_cl (by omega), k_cl (by omega), nI_1]
      refine k_some ⟨q, rfl, fun j hj => ?_, mf_al hg (by decide) (by decide)⟩
      dsimp only
      by_cases e : j = k
      · subst e; rw [k_sj_s, mf_l hg 17 (by decide) (by decide) (by decide)]
      · rw [k_sj_j e]; exact hz j (by omega)
    · have : k = b := by omega
      subst this
      rw [if_pos (nI_le (Nat.le_refl _) (by omega))]
      exact k_some ⟨hz, hg⟩
  · refine k_bind (k_for (n := b) (P := fun h' => (∀ k, q_lng h' (m + 17) k = if 100 * e + a' ≤ k ∧ k < 100 * e + a' + b then q_lng h2 (m + 26) (k - (100 * e + a')) else q_lng h2 (m + 17) k) ∧ k_mf [21] [17] m h2 h') (fun k t => t.1 = nI k ∧ (∀ q, q_lng t.2 (m + 17) q = if 100 * e + a' ≤ q ∧ q < 100 * e + a' + k then q_lng h2 (m + 26) (q - (100 * e + a')) else q_lng h2 (m + 17) q) ∧ k_mf [21] [17] m h2 t.2) (by rw [k_N]; omega) ⟨rfl, fun j => by rw [if_neg (by omega)], mf_rf⟩ ?_) (fun h3 q3 => ?_)
    · rintro k ⟨w, h'⟩ hk ⟨e, hz, hg⟩
      dsimp only at e hz hg
      subst e
      show k_ok (fX5_copy_174 σ m (nI d) (nI a) (nI _) (nI a') (nI b) (nI k) h') _
      unfold fX5_copy_174
      rw [mr20 M, mr43 M, ml17 M, ml26 M, show (100 : Int32) * nI e = nI (100 * e) from pk_mul 100 e, nI_add, nI_add]
      rcases Nat.lt_or_ge k b with q4 | q4
      · rw [if_neg (nI_ge q4 (by omega)), q_gu_t ⟨vp_in_nI (by omega) (by decide), vp_in_nI (by omega) (by decide)⟩, k_cl (by omega), k_cl (by omega), nI_1]
        refine k_some ⟨q4, rfl, fun j => ?_, mf_al hg (by decide) (by decide)⟩
        dsimp only
        by_cases e1 : j = 100 * e + a' + k
        · subst e1; rw [k_sj_s, if_pos (by omega), mf_l hg 26 (by decide) (by decide) (by decide)]; congr 1; omega
        · rw [k_sj_j e1, hz j]
          by_cases e2 : 100 * e + a' ≤ j ∧ j < 100 * e + a' + k
          · rw [if_pos e2, if_pos (by omega)]
          · rw [if_neg e2, if_neg (by omega)]
      · have : k = b := by omega
        subst this
        rw [if_pos (nI_le (Nat.le_refl _) (by omega))]
        exact k_some ⟨hz, hg⟩
    · have A3 : k_mf [21] [17, 26] m h1 h3 := mf_tr (mf_mono q.2 (by decide) (by decide)) (mf_mono q3.2 (by decide) (by decide))
      refine k_some ⟨rfl, MI_sh (d := e) I1 A3 (by decide) (fun r _ _ => by simp; omega) (by decide) (fun _ _ _ => rfl) (fun q k hq => ?_) (fun i hi8 hi => ⟨fun r r1 r2 => ?_, fun k hk => ?_⟩) ⟨?_, fun q1 => by omega, fun q1 => ⟨?_, ?_, fun k hk => ?_⟩⟩, ⟨⟨_, _, mf_tr A1 A3⟩, Or.inl rfl⟩⟩
      · dsimp only; unfold k_cC; rw [if_neg (fun q2 => hq q2.1)]
      · exact mf_i A3 r (by omega) (by omega) (by simp; omega) i
      · rw [q3.1, if_neg (by omega), mf_l q.2 17 (by decide) (by decide) (by decide)]
      · rw [mf_i A3 12 (by decide) (by decide) (by decide)]; exact (Y e he).1
      · rw [mf_i A3 15 (by decide) (by decide) (by decide)]; exact s3'
      · rw [mf_i A3 16 (by decide) (by decide) (by decide)]; exact l4'
      · dsimp only
        rw [q3.1]
        unfold k_cC
        by_cases q5 : a' ≤ k ∧ k < a' + b
        · rw [if_pos (by omega), if_pos ⟨rfl, q5⟩, q.1 _ (by omega), show 100 * d + a + (100 * e + k - (100 * e + a')) = 100 * d + (a + (k - a')) by omega]
          exact cc _ (by omega)
        · rw [if_neg (by omega), if_neg (fun q2 => q5 q2.2), mf_l q.2 17 (by decide) (by decide) (by decide)]; exact cc' k hk
/-- the model's element: which refusal, which value -/
def p_elK (y : k_Z) (v i : Int32) : Nat := if k_is v 8 then (if y 0 v.toNatClampNeg = 2 ∧ k_is i (y 4 v.toNatClampNeg) = true then 0 else 2) else 1
theorem m_element {σ : q_St} {h : q_Hp} {m : Nat} {z zi y : k_Z} {p : Bool} {c : Nat → Nat → Int32} (I : k_MI σ h m z p zi y c) (vy : k_vy y) (v i : Int32) : k_ok (fX5_element σ h m v i) (fun r => q_int r.2 m 21 = nI (p_elK y v i) ∧ (p_elK y v i = 0 → r.1 = (c v.toNatClampNeg i.toNatClampNeg).toInt64) ∧ k_MI σ r.2 m z p zi y c ∧ k_fm σ h m σ r.2) := by
  have M := I.1
  have Y := I.2.2.2.2.1
  have IT : ∀ k : Int32, k_MI σ (q_si h m 21 k) m z p zi y c ∧ k_fm σ h m σ (q_si h m 21 k) := fun k => ⟨MI_mf I (mf_fi (L := [21]) (R := []) mf_rf (by decide)) (by decide) (fun _ _ _ => by simp) (by decide), ⟨⟨[21], [], mf_th (by decide)⟩, Or.inl rfl⟩⟩
  unfold fX5_element fX5_element_38 fX5_element_43
  rw [mr19 M, mr20 M, q_gu_t ⟨mt16 M, mt17 M⟩, m_wrongRow M Y vy, k_bs1]
  have e1 : k_ok (q_gu (q_tag σ m = 6) (if q_int (q_si h m 21 1) m 21 ≤ 0 then q_gu (vp_in (100 * v + i) (q_len σ (m + 17))) (some (q_lng (q_si h m 21 1) (m + 17) (100 * v + i).toNatClampNeg, q_si h m 21 1)) else some (0, q_si h m 21 1))) (fun r => q_int r.2 m 21 = 1 ∧ r.2 = q_si h m 21 1) := by
    rw [q_gu_t (mt0 M), k_si_s, if_neg (by decide)]
    exact k_some ⟨k_si_s, rfl⟩
  have e2 : k_ok (q_gu (q_tag σ m = 6) (if q_int (q_si h m 21 2) m 21 ≤ 0 then q_gu (vp_in (100 * v + i) (q_len σ (m + 17))) (some (q_lng (q_si h m 21 2) (m + 17) (100 * v + i).toNatClampNeg, q_si h m 21 2)) else some (0, q_si h m 21 2))) (fun r => q_int r.2 m 21 = 2 ∧ r.2 = q_si h m 21 2) := by
    rw [q_gu_t (mt0 M), k_si_s, if_neg (by decide)]
    exact k_some ⟨k_si_s, rfl⟩
  cases ev : k_is v 8 with
  | false =>
    have w : k_wr y 2 v = -1 := by unfold k_wr; rw [ev]; rfl
    have pk : p_elK y v i = 1 := by unfold p_elK; rw [ev]; rfl
    rw [w, if_pos rfl, pk]
    exact k_mono e1 (fun r q => ⟨q.1, fun q2 => absurd q2 (by decide), by rw [q.2]; exact (IT 1).1, by rw [q.2]; exact (IT 1).2⟩)
  | true =>
  obtain ⟨d, hd, rfl⟩ := k_is_t (by decide) ev
  rw [k_wrN hd]
  have pk : p_elK y (nI d) i = if y 0 d = 2 ∧ k_is i (y 4 d) = true then 0 else 2 := by unfold p_elK; rw [ev, k_cl (by omega)]; rfl
  rw [pk]
  by_cases w0 : y 0 d = 0
  · rw [if_pos w0, if_neg (by decide), if_pos (by decide), if_neg (show ¬ (y 0 d = 2 ∧ k_is i (y 4 d) = true) from fun q => by omega)]
    exact k_mono e2 (fun r q => ⟨q.1, fun q2 => absurd q2 (by decide), by rw [q.2]; exact (IT 2).1, by rw [q.2]; exact (IT 2).2⟩)
  · rw [if_neg w0]
    by_cases w2 : y 0 d = 2
    · obtain ⟨s3, l4, cc⟩ := (Y d hd).2.2 w2
      have b1 := (vy d hd).2.2 w2
      rw [if_pos w2, if_neg (by decide), if_neg (by decide), ml16 M, q_gu_t (vp_in_nI hd (by decide)), k_cl (by omega), l4, m_in (lo := 0) (by decide) rfl, k_isI, k_bs1, k_01i]
      cases ei : k_is i (y 4 d) with
      | false =>
        rw [if_neg (show ¬ (false = true) by decide), if_neg (show ¬ (y 0 d = 2 ∧ false = true) from fun q => nomatch q.2)]
        exact k_mono e2 (fun r q => ⟨q.1, fun q2 => absurd q2 (by decide), by rw [q.2]; exact (IT 2).1, by rw [q.2]; exact (IT 2).2⟩)
      | true =>
        obtain ⟨i, hi, rfl⟩ := k_is_t (by omega) ei
        rw [if_pos (show true = true from rfl), if_pos (show y 0 d = 2 ∧ true = true from ⟨w2, rfl⟩), q_gu_t (mt0 M), k_si_s, if_pos (by decide), ml17 M, show (100 : Int32) * nI d = nI (100 * d) from pk_mul 100 d, nI_add, q_gu_t (vp_in_nI (by omega) (by decide)), k_cl (by omega)]
        exact k_some ⟨k_si_s, fun _ => by rw [k_cl (by omega)]; exact cc i (by omega), (IT 0).1, (IT 0).2⟩
    · rw [if_neg w2, if_neg (by decide), if_pos (by decide), if_neg (show ¬ (y 0 d = 2 ∧ k_is i (y 4 d) = true) from fun q => w2 q.1)]
      exact k_mono e2 (fun r q => ⟨q.1, fun q2 => absurd q2 (by decide), by rw [q.2]; exact (IT 2).1, by rw [q.2]; exact (IT 2).2⟩)
