/-! shelves -/
theorem k_isL {x : Int32} {l : Int32} {n : Nat} (hl : l = nI n - 1) : (if (0 : Int32) ≤ x ∧ x ≤ l then (1 : Int32) else 0) = if k_is x n then 1 else 0 := by
  subst hl; exact k_isI x n
theorem c_in {σ : q_St} {h : q_Hp} {x l : Int32} {n : Nat} (hl : l = nI n - 1) : fX4_isIn σ h x 0 l = some (if k_is x n then 1 else 0) := by rw [c_isIn, k_isL hl]
theorem m_inn {σ : q_St} {h : q_Hp} {x : Int32} {l : Int64} {n : Nat} (hl : l = (nI n - 1).toInt64) : fX5_in σ h x.toInt64 0 l = some (if k_is x n then 1 else 0) := by rw [m_in (lo := 0) (by decide) hl, k_isI]
theorem c_isShelf {σ : q_St} {h : q_Hp} {v : Int32} : fX4_isShelf σ h v = some (if k_is v 8 then 1 else 0) := by
  unfold fX4_isShelf
  rw [c_in (n := 8) (by decide), k_bs1, k_01b, k_guT]
theorem c_shelfAt {σ : q_St} {h : q_Hp} {x A B d : Nat} (X : k_X σ x A B) (hd : d < 8) : fX4_shelfAt σ h x (nI d) = some (x + 56 + 3 * d) := by
  unfold fX4_shelfAt
  have e := xLr X d hd
  rw [xr5 X, xr4 X, q_gu_t ⟨lt0 (xN X), xt37 X⟩, if_neg (nI_pos (by omega)), xl37 X, k_ofN, if_pos (nI_lt hd (by decide)), q_gu_t (vp_in_nI hd (by decide)), k_cl (by omega), e, if_neg (by omega)]
theorem c_178 {σ : q_St} {h : q_Hp} {a k f : Nat} {v2 v3 v4 v5 v6 : Int32} (ta : q_tag σ a = 4) (a0 : a ≠ 0) (hk : k < 8) (hf : f < 10) (e2 : v2 = nI (k_pr k f)) (e3 : v3 = nI (k_gv k)) (e4 : v4 = nI (k_ch k f)) (e5 : v5 = nI (k_la k f)) (e6 : v6 = nI (k_wo k f)) : k_ok (fX3_init_178 σ h a (nI k) (nI f) v2 v3 v4 v5 v6) (fun h' => k_su σ h' a k f ∧ k_ag (fun b => b ≠ a) h h') := by
  subst e2; subst e3; subst e4; subst e5; subst e6
  unfold fX3_init_178
  have n : ¬ (fun b => b ≠ a) a := fun q => q rfl
  refine k_some ⟨⟨⟨a0, ta⟩, ⟨hk, hf⟩, ?_, ?_, ?_, ?_, ?_, ?_, ?_⟩, k_ag_si (k_ag_si (k_ag_si (k_ag_si (k_ag_si (k_ag_si (k_ag_si k_ag_rf n) n) n) n) n) n) n⟩
  · rw [k_si_j (by decide), k_si_j (by decide), k_si_j (by decide), k_si_j (by decide), k_si_j (by decide), k_si_j (by decide), k_si_s]
  · rw [k_si_j (by decide), k_si_j (by decide), k_si_j (by decide), k_si_j (by decide), k_si_j (by decide), k_si_s]
  · rw [k_si_j (by decide), k_si_j (by decide), k_si_j (by decide), k_si_j (by decide), k_si_s]
  · rw [k_si_j (by decide), k_si_j (by decide), k_si_j (by decide), k_si_s]
  · rw [k_si_j (by decide), k_si_j (by decide), k_si_s]
  · rw [k_si_j (by decide), k_si_s]
  · rw [k_si_s]
theorem c_init {σ : q_St} {h : q_Hp} {a k f : Nat} (ta : q_tag σ a = 4) (a0 : a ≠ 0) (hk : k < 8) (hf : f < 10) : k_ok (fX3_init σ h a (nI k) (nI f)) (fun h' => k_su σ h' a k f ∧ k_ag (fun b => b ≠ a) h h') := by
  unfold fX3_init fX3_isBlack fX3_isMixed fX3_init_56 fX3_init_85
  rcases (show k = 0 ∨ k = 1 ∨ k = 2 ∨ k = 3 ∨ k = 4 ∨ k = 5 ∨ k = 6 ∨ k = 7 by omega) with rfl | rfl | rfl | rfl | rfl | rfl | rfl | rfl
  all_goals
    repeat' first | rw [k_bs1] | rw [if_pos (by decide)] | rw [if_neg (by decide)]
    exact c_178 ta a0 hk hf (by clear ta a0; revert f; decide +kernel) (by clear ta a0; revert f; decide +kernel) (by clear ta a0; revert f; decide +kernel) (by clear ta a0; revert f; decide +kernel) (by clear ta a0; revert f; decide +kernel)
/-- what a shelf answers where something of kind w is wanted -/
def k_wr (y : k_Z) (w : Nat) (v : Int32) : Int32 := if k_is v 8 then (if y 0 v.toNatClampNeg = 0 then -11 else if y 0 v.toNatClampNeg = w then 0 else -12) else -1
theorem k_wrN {y : k_Z} {w d : Nat} (hd : d < 8) : k_wr y w (nI d) = if y 0 d = 0 then -11 else if y 0 d = w then 0 else -12 := by
  unfold k_wr
  rw [k_is_n (by decide) hd, k_cl (by omega)]; rfl
theorem c_refusal {σ : q_St} {h : q_Hp} {x d w : Nat} {y : k_Z} {c : Nat → Nat → Int32} (Y : k_Y σ h x y c) (vy : k_vy y) (hd : d < 8) (hw : w ≤ 2) : fX1_refusal σ h (x + 56 + 3 * d) (nI w) = some (k_wr y w (nI d)) := by
  have := (vy d hd).1
  unfold fX1_refusal
  rw [(Y d hd).1, k_wrN hd]
  simp only [k_eqL (show (0 : Int32) = nI 0 from rfl) (show y 0 d < 2147483648 by omega) (show 0 < 2147483648 by decide), k_eqL rfl (show y 0 d < 2147483648 by omega) (show w < 2147483648 by omega)]
  by_cases e : y 0 d = 0
  · rw [if_pos e, if_pos e]
  · rw [if_neg e, if_neg e]
    by_cases e2 : y 0 d = w
    · rw [if_pos e2, if_pos e2]
    · rw [if_neg e2, if_neg e2]
theorem m_wrongRow {σ : q_St} {h : q_Hp} {m : Nat} {y : k_Z} {c : Nat → Nat → Int32} (M : k_M σ m) (Y : k_YM h m y c) (vy : k_vy y) (v : Int32) : fX5_wrongRow σ h m v = some (k_wr y 2 v) := by
  unfold fX5_wrongRow
  rw [mr15 M, q_gu_t (mt12 M), m_inn (n := 8) (by decide), k_bs1, k_01i]
  cases e : k_is v 8 with
  | false => unfold k_wr; rw [e]; rfl
  | true =>
    obtain ⟨d, hd, rfl⟩ := k_is_t (by decide) e
    have := (vy d hd).1
    rw [k_wrN hd]
    simp only [if_true, ml12 M, k_vi hd (show 8 < 2147483648 by decide), k_guT, k_cl (show d < 2147483648 by omega), (Y d hd).1, k_eqL (show (0 : Int32) = nI 0 from rfl) (show y 0 d < 2147483648 by omega) (show 0 < 2147483648 by decide), k_eqL (show (2 : Int32) = nI 2 from rfl) (show y 0 d < 2147483648 by omega) (show 2 < 2147483648 by decide)]
    by_cases e : y 0 d = 0
    · rw [if_pos e, if_pos e]
    · rw [if_neg e, if_neg e]
      by_cases e2 : y 0 d = 2
      · rw [if_pos e2, if_pos e2]
      · rw [if_neg e2, if_neg e2]
theorem m_wrongKept {σ : q_St} {h : q_Hp} {m : Nat} {y : k_Z} {c : Nat → Nat → Int32} (M : k_M σ m) (Y : k_YM h m y c) (vy : k_vy y) (v : Int32) : fX5_wrongKept σ h m v = some (k_wr y 1 v) := by
  unfold fX5_wrongKept
  rw [mr15 M, q_gu_t (mt12 M), m_inn (n := 8) (by decide), k_bs1, k_01i]
  cases e : k_is v 8 with
  | false => unfold k_wr; rw [e]; rfl
  | true =>
    obtain ⟨d, hd, rfl⟩ := k_is_t (by decide) e
    have := (vy d hd).1
    rw [k_wrN hd]
    simp only [if_true, ml12 M, k_vi hd (show 8 < 2147483648 by decide), k_guT, k_cl (show d < 2147483648 by omega), (Y d hd).1, k_eqL (show (0 : Int32) = nI 0 from rfl) (show y 0 d < 2147483648 by omega) (show 0 < 2147483648 by decide), k_eqL (show (1 : Int32) = nI 1 from rfl) (show y 0 d < 2147483648 by omega) (show 1 < 2147483648 by decide)]
    by_cases e : y 0 d = 0
    · rw [if_pos e, if_pos e]
    · rw [if_neg e, if_neg e]
      by_cases e2 : y 0 d = 1
      · rw [if_pos e2, if_pos e2]
      · rw [if_neg e2, if_neg e2]
theorem k_wr_cases (y : k_Z) (w : Nat) (v : Int32) : (k_wr y w v = 0 ∧ ∃ d, d < 8 ∧ v = nI d ∧ y 0 d = w ∧ y 0 d ≠ 0) ∨ k_wr y w v = -1 ∨ k_wr y w v = -11 ∨ k_wr y w v = -12 := by
  unfold k_wr
  cases e : k_is v 8 with
  | false => exact Or.inr (Or.inl rfl)
  | true =>
    obtain ⟨d, hd, rfl⟩ := k_is_t (by decide) e
    rw [k_cl (by omega)]
    by_cases e0 : y 0 d = 0
    · rw [if_pos rfl, if_pos e0]; exact Or.inr (Or.inr (Or.inl rfl))
    · by_cases e1 : y 0 d = w
      · rw [if_pos rfl, if_neg e0, if_pos e1]; exact Or.inl ⟨rfl, d, hd, rfl, e1, e0⟩
      · rw [if_pos rfl, if_neg e0, if_neg e1]; exact Or.inr (Or.inr (Or.inr rfl))
/-- COST -/
def p_cost (y : k_Z) (v : Int32) : Int32 := if k_wr y 1 v = 0 then nI (k_wo (y 1 v.toNatClampNeg) (y 2 v.toNatClampNeg)) else k_wr y 1 v
theorem c_cost {σ : q_St} {h : q_Hp} {x A B : Nat} {z zi y : k_Z} {p : Bool} {c : Nat → Nat → Int32} (I : k_CI σ h x A B z p zi y c) (vy : k_vy y) (v : Int32) : fX4_cost σ h x v = some (p_cost y v) := by
  have Y := I.2.2.2.2.1
  unfold fX4_cost
  rw [c_isShelf, k_bs1, k_01i]
  cases e : k_is v 8 with
  | false => unfold p_cost k_wr; rw [e]; rfl
  | true =>
    obtain ⟨d, hd, rfl⟩ := k_is_t (by decide) e
    have L := xL I.1 d hd
    rw [if_pos rfl, c_shelfAt I.1 hd, k_bs1, q_gu_t (lt0 L), show (1 : Int32) = nI 1 from rfl, c_refusal Y vy hd (by decide), k_bs1]
    unfold p_cost
    by_cases e0 : k_wr y 1 (nI d) = 0
    · rw [if_pos e0, if_pos e0, q_gu_t (lk2 L), k_cl (by omega)]
      rcases k_wr_cases y 1 (nI d) with ⟨-, d', hd', e1, e2, -⟩ | q | q | q
      · have := (nI_eq (by omega) (by omega)).mp e1
        subst this
        rw [su6 ((Y d hd).2.1 e2)]
      · rw [q] at e0; exact absurd e0 (by decide)
      · rw [q] at e0; exact absurd e0 (by decide)
      · rw [q] at e0; exact absurd e0 (by decide)
    · rw [if_neg e0, if_neg e0]
theorem k_woC : ∀ k, k < 8 → ∀ f, f < 10 → (if nI k = 0 then some (4 : Int32) else if nI k = 1 then some (4 + nI f) else if nI k = 2 then some 2 else if nI k = 3 then some 5 else if nI k = 4 then some (2 * (4 + nI f)) else if nI k = 5 then some (2 + nI f) else if nI k = 6 then some 2 else some (4 + nI f + 3)) = some (nI (k_wo k f)) := by decide +kernel
theorem k_neg {v : Int32} (h : v = -1 ∨ v = -11 ∨ v = -12) : ¬ 0 ≤ v ∧ v < 0 ∧ v ≠ 0 := by
  rcases h with rfl | rfl | rfl <;> decide
theorem m_costO {σ : q_St} {h : q_Hp} {m : Nat} {y : k_Z} {c : Nat → Nat → Int32} (M : k_M σ m) (Y : k_YM h m y c) (vy : k_vy y) (v : Int32) : fX5_cost σ h m v = some (p_cost y v, q_si h m 21 0) := by
  have Y1 : k_YM (q_si h m 21 0) m y c := k_YM_mf Y (mf_fi (L := [21]) (R := []) mf_rf (by decide)) (fun _ _ _ => by simp)
  unfold fX5_cost
  generalize q_si h m 21 0 = h1 at Y1 ⊢
  rw [mr16 M, mr17 M, q_gu_t ⟨mt13 M, mt14 M⟩, m_wrongKept M Y1 vy, k_bs1]
  unfold p_cost
  rcases k_wr_cases y 1 v with ⟨e0, d, hd, rfl, e2, -⟩ | q
  · have := (vy d hd).2.1 e2
    rw [e0, if_pos (by decide), if_pos rfl, ml13 M, ml14 M, q_gu_t ⟨vp_in_nI hd (by decide), vp_in_nI hd (by decide)⟩, k_cl (by omega), ((Y1 d hd).2.1 e2).1, ((Y1 d hd).2.1 e2).2]
    unfold fX5_costOf
    rw [k_woC _ this.1 _ this.2, k_bs1]
  · have n := k_neg q
    rw [if_neg n.1, if_neg n.2.2, k_bs1]
/-! what is laid on shelves -/
def k_cu (c : Nat → Nat → Int32) (d i : Nat) (v : Int32) : Nat → Nat → Int32 := fun a b => if a = d ∧ b = i then v else c a b
def k_yK (y : k_Z) (d k f : Nat) : k_Z := k_zu (k_zu (k_zu y 0 d 1) 1 d k) 2 d f
def k_yR (y : k_Z) (d s n : Nat) : k_Z := k_zu (k_zu (k_zu y 0 d 2) 3 d s) 4 d n
def k_c0 (c : Nat → Nat → Int32) (d : Nat) : Nat → Nat → Int32 := fun a b => if a = d then 0 else c a b
def k_cC (c : Nat → Nat → Int32) (d i e j n : Nat) : Nat → Nat → Int32 := fun a b => if a = e ∧ j ≤ b ∧ b < j + n then c d (i + (b - j)) else c a b
/-- the class's side when a shelf changes (and a suit may be new) -/
theorem CI_sh {σ σ' : q_St} {h h' : q_Hp} {x A B d : Nat} {z zi y y' : k_Z} {p : Bool} {c c' : Nat → Nat → Int32} (I : k_CI σ h x A B z p zi y c) (hd : d < 8) (X' : k_X σ' x A B) (g : k_ag (fun a => a ≠ x + 56 + 3 * d ∧ a ≠ x + 57 + 3 * d ∧ q_tag σ a ≠ 0) h h') (e2 : ∀ a, q_tag σ a = 4 → q_tag σ' a = 4) (e3 : ∀ a k, x ≤ a → a < x + 88 → a ≠ x + 56 + 3 * d → q_ref σ' a k = q_ref σ a k)
    (hy : ∀ r i, i ≠ d → y' r i = y r i) (hc : ∀ i k, i ≠ d → c' i k = c i k) (Yd : q_int h' (x + 56 + 3 * d) 1 = nI (y' 0 d) ∧ (y' 0 d = 1 → k_su σ' h' (q_ref σ' (x + 56 + 3 * d) 2) (y' 1 d) (y' 2 d)) ∧ (y' 0 d = 2 → q_int h' (x + 56 + 3 * d) 3 = nI (y' 3 d) ∧ q_int h' (x + 56 + 3 * d) 4 = nI (y' 4 d) ∧ ∀ i, i < 100 → q_int h' (x + 57 + 3 * d) i = c' d i)) : k_CI σ' h' x A B z p zi y' c' := by
  obtain ⟨X, V, i3, i4, i5, i6, i7⟩ := I
  have hAB := xAB X
  have L := xL X d hd
  have n4 : ∀ a, q_tag σ a = 4 → a ≠ x + 56 + 3 * d ∧ a ≠ x + 57 + 3 * d ∧ q_tag σ a ≠ 0 := fun a ha => by
    refine ⟨fun e => ?_, fun e => ?_, by omega⟩
    · rw [e, lt0 L] at ha; exact absurd ha (by decide)
    · rw [e, show x + 57 + 3 * d = x + 56 + 3 * d + 1 by omega, lt1 L] at ha; exact absurd ha (by decide)
  have su' : ∀ {a k f : Nat}, k_su σ h a k f → k_su σ' h' a k f := fun U => su_mv U ((e2 _ (sut U)).trans (sut U).symm) (fun i => k_agI g (n4 _ (sut U)) i)
  have tS : ∀ {a : Nat}, k_sh σ a → ∀ b, a ≤ b → b ≤ a + 10 → q_tag σ b ≠ 0 := fun {a} S b h1 h2 => by
    obtain ⟨j, rfl⟩ : ∃ j, b = a + j := ⟨b - a, by omega⟩
    rcases (show j = 0 ∨ j = 1 ∨ (2 ≤ j ∧ j ≤ 10) by omega) with rfl | rfl | e
    · rw [Nat.add_zero, S.1]; decide
    · rw [S.2.2.1]; decide
    · rw [(S.2.2.2.2.1 j e).1]; decide
  refine ⟨X', V_ag V (xA X') g (fun a h1 h2 => ⟨by omega, by omega, tS (xA X) a h1 h2⟩) (fun a ha => ⟨n4 a ha, e2 a ha⟩) (fun s _ => e3 _ _ (by omega) (by omega) (by omega)), by rw [k_agI g ⟨by omega, by omega, by rw [xt0 X]; decide⟩]; exact i3, fun hp => V_ag (i4 hp) (xP X') g (fun a h1 h2 => ⟨by omega, by omega, tS (xP X) a h1 h2⟩) (fun a ha => ⟨n4 a ha, e2 a ha⟩) (fun s _ => e3 _ _ (by omega) (by omega) (by omega)), fun i hi => ?_, fun k hk => su' (i6 k hk), su' i7⟩
  by_cases e : i = d
  · subst e; exact Yd
  · have Li := xL X i hi
    have := i5 i hi
    rw [hy 0 i e, hy 1 i e, hy 2 i e, hy 3 i e, hy 4 i e, k_agI g ⟨by omega, by omega, by rw [lt0 Li]; decide⟩, k_agI g ⟨by omega, by omega, by rw [lt0 Li]; decide⟩, k_agI g ⟨by omega, by omega, by rw [lt0 Li]; decide⟩, e3 _ _ (by omega) (by omega) (by omega)]
    refine ⟨this.1, fun h1 => su' (this.2.1 h1), fun h2 => ⟨(this.2.2 h2).1, (this.2.2 h2).2.1, fun k hk => ?_⟩⟩
    rw [hc i k e, k_agI g ⟨by omega, by omega, by rw [show x + 57 + 3 * i = x + 56 + 3 * i + 1 by omega, lt1 Li]; decide⟩]
    exact (this.2.2 h2).2.2 k hk
/-- the model's side when a shelf changes -/
theorem MI_sh {L R : List Nat} {σ : q_St} {m d : Nat} {h h1 : q_Hp} {z zi y y' : k_Z} {p : Bool} {c c' : Nat → Nat → Int32} (I : k_MI σ h m z p zi y c) (a : k_mf L R m h h1) (e1 : 0 ∉ L ∧ 6 ∉ L ∧ 13 ∉ L ∧ 14 ∉ L ∧ 31 ∉ L ∧ 37 ∉ L ∧ 38 ∉ L) (e2 : ∀ r, 1 ≤ r → r ≤ 11 → r ∉ R) (e3 : 22 ∉ R ∧ 23 ∉ R)
    (hy : ∀ r i, i ≠ d → y' r i = y r i) (hc : ∀ i k, i ≠ d → c' i k = c i k) (ho : ∀ i, i < 8 → i ≠ d → (∀ r, 12 ≤ r → r ≤ 16 → q_int h1 (m + r) i = q_int h (m + r) i) ∧ ∀ k, k < 100 → q_lng h1 (m + 17) (100 * i + k) = q_lng h (m + 17) (100 * i + k)) (Yd : q_int h1 (m + 12) d = nI (y' 0 d) ∧ (y' 0 d = 1 → q_int h1 (m + 13) d = nI (y' 1 d) ∧ q_int h1 (m + 14) d = nI (y' 2 d)) ∧ (y' 0 d = 2 → q_int h1 (m + 15) d = nI (y' 3 d) ∧ q_int h1 (m + 16) d = nI (y' 4 d) ∧ ∀ i, i < 100 → q_lng h1 (m + 17) (100 * d + i) = (c' d i).toInt64)) : k_MI σ h1 m z p zi y' c' := by
  refine ⟨I.1, W_mf I.2.1 a ⟨e1.1, e1.2.1, e1.2.2.1, e1.2.2.2.1⟩ e2, by rw [a.2.1 31 e1.2.2.2.2.1]; exact I.2.2.1, fun hp => k_I_cg (I.2.2.2.1 hp) (mf_i a 22 (by decide) (by decide) e3.1), fun i hi => ?_, k_Kf_mf I.2.2.2.2.2 a e1.2.2.2.2.2 e3.2⟩
  by_cases e : i = d
  · subst e; exact Yd
  · have := I.2.2.2.2.1 i hi
    obtain ⟨o1, o2⟩ := ho i hi e
    rw [hy 0 i e, hy 1 i e, hy 2 i e, hy 3 i e, hy 4 i e, o1 12 (by decide) (by decide), o1 13 (by decide) (by decide), o1 14 (by decide) (by decide), o1 15 (by decide) (by decide), o1 16 (by decide) (by decide)]
    refine ⟨this.1, this.2.1, fun h2 => ⟨(this.2.2 h2).1, (this.2.2 h2).2.1, fun k hk => ?_⟩⟩
    rw [hc i k e, o2 k hk]
    exact (this.2.2 h2).2.2 k hk
