/-! toss, element -/
def p_tv (k f : Nat) : Int32 := if k = 3 ∨ k = 6 ∨ f = 0 then -15 else if k = 4 then 200 + nI (k_wo 4 f) else if k = 1 ∨ k = 7 then 100 + nI f else nI f
theorem k_tkC : ∀ k, k < 8 → ∀ f, f < 10 → ((if nI f = 0 then some 0 else ((if nI k = (3 : Int32) then some (1 : Int32) else (if nI k = (6 : Int32) then some (1 : Int32) else some (0 : Int32)))).bind fun r1 => (if r1 = 0 then (if nI k = (4 : Int32) then some 3 else ((if nI k = (1 : Int32) then some (1 : Int32) else (if nI k = (4 : Int32) then some (1 : Int32) else (if nI k = (7 : Int32) then some (1 : Int32) else some (0 : Int32))))).bind fun r2 => (if r2 = 0 then some 1 else some 2)) else some 0)).bind fun r : Nat => (if r = 1 then some (nI f) else if r = 2 then some ((100 : Int32) + nI f) else if r = 3 then some ((200 : Int32) + nI (k_wo k f)) else some (-15 : Int32))) = some (p_tv k f) := by decide +kernel
theorem k_tkM : ∀ k, k < 8 → ∀ f, f < 10 → (if nI k = (3 : Int32) then some (-15 : Int32) else if nI k = (6 : Int32) then some (-15 : Int32) else if nI f = 0 then some (-15 : Int32) else if nI k = (4 : Int32) then some (200 + nI (k_wo k f)) else if nI k = (1 : Int32) then some (100 + nI f) else if nI k = (7 : Int32) then some (100 + nI f) else some (nI f)) = some (p_tv k f) := by decide +kernel
theorem c_caught {σ : q_St} {h : q_Hp} {a k f : Nat} (U : k_su σ h a k f) (hk : k < 8) (hf : f < 10) : fX4_caught σ h a = some (p_tv k f) := by
  unfold fX4_caught fX3_fail fX3_isMixed fX3_isBlack
  rw [su0 U, su1 U, su6 U]
  exact k_tkC k hk f hf
def p_toss (y : k_Z) (v : Int32) : Int32 := if k_wr y 1 v = 0 then p_tv (y 1 v.toNatClampNeg) (y 2 v.toNatClampNeg) else k_wr y 1 v
theorem c_toss {σ : q_St} {h : q_Hp} {x A B : Nat} {z zi y : k_Z} {p : Bool} {c : Nat → Nat → Int32} (I : k_CI σ h x A B z p zi y c) (vy : k_vy y) (v : Int32) : fX4_toss σ h x v = some (p_toss y v) := by
  have Y := I.2.2.2.2.1
  unfold fX4_toss
  rw [c_isShelf, k_bs1, k_01i]
  cases e : k_is v 8 with
  | false => unfold p_toss k_wr; rw [e]; rfl
  | true =>
    obtain ⟨d, hd, rfl⟩ := k_is_t (by decide) e
    have L := xL I.1 d hd
    rw [if_pos rfl, c_shelfAt I.1 hd, k_bs1, q_gu_t (lt0 L), show (1 : Int32) = nI 1 from rfl, c_refusal Y vy hd (by decide), k_bs1]
    unfold p_toss
    by_cases e0 : k_wr y 1 (nI d) = 0
    · rw [if_pos e0, if_pos e0, q_gu_t (lk2 L), k_cl (by omega)]
      rcases k_wr_cases y 1 (nI d) with ⟨-, d', hd', e1, e2, -⟩ | q | q | q
      · have := (nI_eq (by omega) (by omega)).mp e1
        subst this
        exact c_caught ((Y d hd).2.1 e2) ((vy d hd).2.1 e2).1 ((vy d hd).2.1 e2).2
      · rw [q] at e0; exact absurd e0 (by decide)
      · rw [q] at e0; exact absurd e0 (by decide)
      · rw [q] at e0; exact absurd e0 (by decide)
    · rw [if_neg e0, if_neg e0]
theorem k_tkO {k f : Nat} {h : q_Hp} (hk : k < 8) (hf : f < 10) : (if nI k = (3 : Int32) then some ((-15 : Int32), h) else if nI k = (6 : Int32) then some ((-15 : Int32), h) else if nI f = 0 then some ((-15 : Int32), h) else if nI k = (4 : Int32) then (some (nI (k_wo k f))).bind (fun r4 => some ((200 : Int32) + r4, h)) else if nI k = (1 : Int32) then some ((100 : Int32) + nI f, h) else if nI k = (7 : Int32) then some ((100 : Int32) + nI f, h) else some (nI f, h)) = some (p_tv k f, h) := by
  have e := congrArg (fun o : Option Int32 => o.map (fun r => (r, h))) (k_tkM k hk f hf)
  refine Eq.trans ?_ e
  repeat' split
  all_goals rfl
theorem m_tossO {σ : q_St} {h : q_Hp} {m : Nat} {y : k_Z} {c : Nat → Nat → Int32} (M : k_M σ m) (Y : k_YM h m y c) (vy : k_vy y) (v : Int32) : fX5_toss σ h m v = some (p_toss y v, q_si h m 21 0) := by
  have Y1 : k_YM (q_si h m 21 0) m y c := k_YM_mf Y (mf_fi (L := [21]) (R := []) mf_rf (by decide)) (fun _ _ _ => by simp)
  unfold fX5_toss
  generalize q_si h m 21 0 = h1 at Y1 ⊢
  rw [mr16 M, mr17 M, q_gu_t ⟨mt13 M, mt14 M⟩, m_wrongKept M Y1 vy, k_bs1]
  unfold p_toss
  rcases k_wr_cases y 1 v with ⟨e0, d, hd, rfl, e2, -⟩ | q
  · have := (vy d hd).2.1 e2
    rw [e0, if_pos (by decide), if_pos rfl, ml13 M, ml14 M, q_gu_t ⟨vp_in_nI hd (by decide), vp_in_nI hd (by decide)⟩, k_cl (by omega), ((Y1 d hd).2.1 e2).1, ((Y1 d hd).2.1 e2).2]
    unfold fX5_costOf
    rw [k_woC _ this.1 _ this.2]
    exact k_tkO this.1 this.2
  · have n := k_neg q
    rw [if_neg n.1, if_neg n.2.2, k_bs1]
theorem e_toss {σ : q_St} {h : q_Hp} {x : Nat} (I : k_Inv σ h x) (a0 : Int32) : ∃ r, fX4_toss σ h x a0 = some r ∧ ∀ n, q_sz σ ≤ n → ∃ h2, fX5_toss (q_gp σ n) h (x + 88) a0 = some (r, h2) ∧ k_Inv (q_gp σ n) h2 x := by
  obtain ⟨A, B, z, p, zi, y, c, ⟨K, Ki, vy⟩, C, Mi, E⟩ := I
  refine ⟨_, c_toss C vy a0, fun n hn => ⟨_, m_tossO (σ := q_gp σ n) (h := h) (c := c) Mi.1 Mi.2.2.2.2.1 vy a0, ?_⟩⟩
  have E' : k_etc (q_gp σ n) x := ⟨E.1, Nat.le_trans E.2.1 hn, fun a ha => E.2.2.1 a (Nat.le_trans hn ha), E.2.2.2⟩
  have C' : k_CI (q_gp σ n) h x A B z p zi y c := C
  have M' : k_MI (q_gp σ n) h (x + 88) z p zi y c := Mi
  exact Inv_th K Ki vy C' M' E'
theorem c_element {σ : q_St} {h : q_Hp} {x A B : Nat} {z zi y : k_Z} {p : Bool} {c : Nat → Nat → Int32} (I : k_CI σ h x A B z p zi y c) (vy : k_vy y) (v i : Int32) : k_ok (fX4_element σ h x v i) (fun r => r.1 = p_elK y v i ∧ (p_elK y v i = 0 → r.2 = (c v.toNatClampNeg i.toNatClampNeg).toInt64)) := by
  have Y := I.2.2.2.2.1
  unfold fX4_element
  rw [c_isShelf, k_bs1, k_01i]
  cases ev : k_is v 8 with
  | false =>
    have pk : p_elK y v i = 1 := by unfold p_elK; rw [ev]; rfl
    rw [pk]
    exact k_some ⟨rfl, fun q => absurd q (by decide)⟩
  | true =>
  obtain ⟨d, hd, rfl⟩ := k_is_t (by decide) ev
  have pk : p_elK y (nI d) i = if y 0 d = 2 ∧ k_is i (y 4 d) = true then 0 else 2 := by unfold p_elK; rw [ev, k_cl (by omega)]; rfl
  have L := xL I.1 d hd
  have b0 := (vy d hd).1
  rw [pk, if_pos rfl, c_shelfAt I.1 hd, k_bs1, q_gu_t (lt0 L), (Y d hd).1]
  by_cases w2 : y 0 d = 2
  · obtain ⟨s3, l4, cc⟩ := (Y d hd).2.2 w2
    have b1 := (vy d hd).2.2 w2
    rw [w2, if_pos (show nI 2 = (2 : Int32) from rfl), l4, c_in (n := y 4 d) rfl, k_bs1, k_01i]
    cases ei : k_is i (y 4 d) with
    | false => exact k_some ⟨rfl, fun q => absurd q (by decide)⟩
    | true =>
      obtain ⟨i, hi, rfl⟩ := k_is_t (by omega) ei
      rw [if_pos rfl, lr0 L, q_gu_t (lt1 L)]
      have e4 : fX4_at σ h (x + 56 + 3 * d + 1) (nI i) = some (c d i) := by
        rw [c_at (ll1 L) (show i < 100 by omega) (by decide), show x + 56 + 3 * d + 1 = x + 57 + 3 * d by omega, cc i (by omega)]
      rw [e4]
      exact k_some ⟨rfl, fun _ => by rw [k_cl (by omega), k_cl (by omega)]⟩
  · rw [if_neg (show ¬ nI (y 0 d) = (2 : Int32) from fun q => w2 ((nI_eq (by omega) (by omega)).mp (show nI (y 0 d) = nI 2 from q)))]
    simp only [show ¬ (y 0 d = 2 ∧ k_is i (y 4 d) = true) from fun q => w2 q.1, if_false]
    exact k_some ⟨rfl, fun q => absurd q (by decide)⟩
/-- the law's element leaves the row's one number, the model answers the same -/
theorem k_agJ {h : q_Hp} {x : Nat} {v : Int64} : k_ag (fun a => a ≠ x + 115) h (q_sj h (x + 115) 0 v) := k_ag_sj k_ag_rf (fun q => q rfl)
theorem e_element {σ : q_St} {h : q_Hp} {x : Nat} (I : k_Inv σ h x) (a0 a1 : Int32) : ∃ r h1, fL_element σ h x a0 a1 (x + 115) = some (r, h1) ∧ ∀ n, q_sz σ ≤ n → ∃ w h2, fX5_element (q_gp σ n) h1 (x + 88) a0 a1 = some (w, h2) ∧ r = q_int h2 (x + 88) 21 ∧ (r = 0 → q_lng h2 (x + 115) 0 = w) ∧ k_Inv (q_gp σ n) h2 x := by
  obtain ⟨A, B, z, p, zi, y, c, ⟨K, Ki, vy⟩, C, Mi, E⟩ := I
  obtain ⟨⟨r0, v0⟩, e0, p0, p1⟩ := c_element C vy a0 a1
  dsimp only at p0 p1
  have pk : p_elK y a0 a1 ≤ 2 := by unfold p_elK; (repeat' split) <;> decide
  have key : ∃ h1, fL_element σ h x a0 a1 (x + 115) = some (nI (p_elK y a0 a1), h1) ∧ k_ag (fun a => a ≠ x + 115) h h1 ∧ (p_elK y a0 a1 = 0 → q_lng h1 (x + 115) 0 = v0) := by
    unfold fL_element
    rw [e0, k_bs1]
    dsimp only
    rw [p0]
    rcases (show p_elK y a0 a1 = 0 ∨ p_elK y a0 a1 = 1 ∨ p_elK y a0 a1 = 2 by omega) with e | e | e
    · rw [e, if_pos rfl, E.1.2, q_gu_t ⟨E.1.1, vp_in_nI (show 0 < 1 by decide) (by decide)⟩]
      exact ⟨_, rfl, k_agJ, fun _ => k_sj_s⟩
    · rw [e, if_neg (by decide), if_pos rfl]
      exact ⟨_, rfl, k_ag_rf, fun q => absurd q (by decide)⟩
    · rw [e, if_neg (by decide), if_neg (by decide), if_pos rfl]
      exact ⟨_, rfl, k_ag_rf, fun q => absurd q (by decide)⟩
  obtain ⟨h1, f1, g1, l1⟩ := key
  have M1 : k_MI σ h1 (x + 88) z p zi y c := MI_ag Mi Mi.1 (k_ag_mono g1 (fun a ha => by omega))
  have C1 : k_CI σ h1 x A B z p zi y c := CI_ag C C.1 (k_ag_mono g1 (fun a ha q => by
    subst q
    rcases ha with e | e | e
    · omega
    · omega
    · rw [E.1.1] at e; exact absurd e (by decide))) (fun _ h => h) (fun _ _ _ _ => rfl)
  refine ⟨_, h1, f1, fun n hn => ?_⟩
  have E' : k_etc (q_gp σ n) x := ⟨E.1, Nat.le_trans E.2.1 hn, fun a ha => E.2.2.1 a (Nat.le_trans hn ha), E.2.2.2⟩
  have C' : k_CI (q_gp σ n) h1 x A B z p zi y c := C1
  have M' : k_MI (q_gp σ n) h1 (x + 88) z p zi y c := M1
  obtain ⟨⟨w, h2⟩, e2, q1, q2, M2, fm⟩ := m_element M' vy a0 a1
  dsimp only at q1 q2 M2 fm
  refine ⟨w, h2, e2, q1.symm, fun r0 => ?_, Inv_of K Ki vy E' C' M'.1 M2 fm⟩
  have k0 : p_elK y a0 a1 = 0 := (nI_eq (by omega) (by decide)).mp (show nI (p_elK y a0 a1) = nI 0 from r0)
  obtain ⟨L, R, a⟩ := fm.1
  rw [k_agL a.1 (show _ from by omega) 0, l1 k0, p1 k0, q2 k0]
