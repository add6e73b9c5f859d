/-! the text of a shop: its bytes, its statements' places -/
def t_b (t : Nat → Int32) (n i : Nat) : Int32 := if i < n then t i else -1
def t_dg (v : Int32) : Nat := if v = 98 then 6 else if v = 99 then 1 else if v = 104 then 2 else if v = 114 then 1 else if v = 115 then 6 else 0
def t_di (v : Int32) : Bool := decide (48 ≤ v ∧ v ≤ 57)
def t_dv (v : Int32) : Nat := v.toNatClampNeg - 48
theorem t_dgB (v : Int32) : t_dg v ≤ 6 := by
  unfold t_dg
  repeat' split
  all_goals decide
theorem t_diT {v : Int32} (h : t_di v = true) : v = nI (48 + t_dv v) ∧ t_dv v < 10 := by
  have h2 := of_decide_eq_true h
  obtain ⟨j, hj, rfl⟩ := k_is_t (x := v) (n := 58) (by decide) (decide_eq_true ⟨Int32.le_trans (by decide) h2.1, by rw [show nI 58 - 1 = (57 : Int32) by decide]; exact h2.2⟩)
  have h3 : 48 ≤ j := (nI_leI (a := 48) (by decide) (by omega)).mp h2.1
  unfold t_dv
  rw [k_cl (by omega)]
  exact ⟨by congr 1; omega, by omega⟩
/-- how many of s bytes from p on are digits, one behind the other -/
def t_F (t : Nat → Int32) (n p s : Nat) : Nat := fa_first (fun i => !t_di (t_b t n (p + i))) s
theorem t_Fle (t : Nat → Int32) (n p s : Nat) : t_F t n p s ≤ s := fa_first_le _ _
theorem t_F0 (t : Nat → Int32) (n p : Nat) : t_F t n p 0 = 0 := rfl
theorem t_Fs (t : Nat → Int32) (n p s : Nat) : t_F t n p (s + 1) = if t_F t n p s < s then t_F t n p s else if t_di (t_b t n (p + s)) then s + 1 else s := by
  unfold t_F
  rw [fa_first]
  cases t_di (t_b t n (p + s)) <;> rfl
theorem t_Fall {t : Nat → Int32} {n p s : Nat} (h : t_F t n p s = s) : ∀ i, i < s → t_di (t_b t n (p + i)) = true := fun i hi => by
  have := fa_first_no (fun i => !t_di (t_b t n (p + i))) s i (by unfold t_F at h; omega)
  simpa using this
def t_D (t : Nat → Int32) (n p : Nat) : Nat := t_dg (t_b t n p)
def t_e (t : Nat → Int32) (n p : Nat) : Nat := if t_D t n p = 0 then p else p + 1 + t_F t n (p + 1) (t_D t n p)
def t_g (t : Nat → Int32) (n p : Nat) : Bool := !(t_D t n p == 0) && (t_F t n (p + 1) (t_D t n p) == t_D t n p) && decide (t_b t n (p + 1 + t_D t n p) = 59)
def t_q (t : Nat → Int32) (n : Nat) : Nat → Nat
  | 0 => 0
  | k + 1 => t_q t n k + t_D t n (t_q t n k) + 2
def t_fin (t : Nat → Int32) (n k : Nat) : Bool := !t_g t n (t_q t n k) || decide (n ≤ t_q t n (k + 1))
def t_K (t : Nat → Int32) (n : Nat) : Nat := fa_first (t_fin t n) 101
theorem t_bn {t : Nat → Int32} {n i : Nat} (h : t_b t n i ≠ -1) : i < n := by
  rcases Nat.lt_or_ge i n with q | q
  · exact q
  · exact absurd (if_neg (by omega)) h
theorem t_Dn {t : Nat → Int32} {n p : Nat} (h : t_D t n p ≠ 0) : p < n := t_bn (fun e => h (by unfold t_D; rw [e]; decide))
theorem t_gT {t : Nat → Int32} {n p : Nat} (h : t_g t n p = true) : t_D t n p ≠ 0 ∧ t_F t n (p + 1) (t_D t n p) = t_D t n p ∧ t_b t n (p + 1 + t_D t n p) = 59 ∧ p + 1 + t_D t n p < n := by
  unfold t_g at h
  simp only [Bool.and_eq_true, Bool.not_eq_true', beq_eq_false_iff_ne, beq_iff_eq, decide_eq_true_eq] at h
  exact ⟨h.1.1, h.1.2, h.2, t_bn (by rw [h.2]; decide)⟩
theorem t_DB (t : Nat → Int32) (n p : Nat) : t_D t n p ≤ 6 := t_dgB _
theorem t_qB (t : Nat → Int32) (n : Nat) : ∀ k, t_q t n k ≤ 8 * k
  | 0 => Nat.le_refl _
  | k + 1 => by
    have := t_qB t n k
    have := t_DB t n (t_q t n k)
    rw [t_q]; omega
theorem t_finF {t : Nat → Int32} {n k : Nat} (h : t_fin t n k = false) : t_g t n (t_q t n k) = true ∧ t_q t n (k + 1) < n := by
  unfold t_fin at h
  simp only [Bool.or_eq_false_iff, Bool.not_eq_false', decide_eq_false_iff_not] at h
  exact ⟨h.1, by omega⟩
theorem t_run {t : Nat → Int32} {n : Nat} : ∀ k, k ≤ t_K t n → 3 * k ≤ t_q t n k ∧ (0 < k → t_q t n k < n)
  | 0, _ => ⟨Nat.le_refl _, fun h => absurd h (Nat.lt_irrefl _)⟩
  | k + 1, h => by
    have := t_run (t := t) (n := n) k (by omega)
    have f := t_finF (fa_first_no (t_fin t n) 101 k (by unfold t_K at h; omega))
    have g := t_gT f.1
    refine ⟨?_, fun _ => f.2⟩
    rw [t_q]; omega
theorem t_K34 {t : Nat → Int32} {n : Nat} (hn : n ≤ 100) : t_K t n ≤ 33 := by
  have := t_run (t := t) (n := n) (t_K t n) (Nat.le_refl _)
  omega
theorem t_Kfin {t : Nat → Int32} {n : Nat} (hn : n ≤ 100) : t_fin t n (t_K t n) = true := fa_first_yes _ 101 (by have := t_K34 (t := t) hn; unfold t_K at this; omega)
theorem t_Kg {t : Nat → Int32} {n k : Nat} (hk : k < t_K t n) : t_g t n (t_q t n k) = true ∧ t_q t n (k + 1) < n := t_finF (fa_first_no (t_fin t n) 101 k hk)
/-- a number of w digits -/
def t_nm (t : Nat → Int32) (n p : Nat) : Nat → Nat
  | 0 => 0
  | w + 1 => 10 * t_nm t n p w + t_dv (t_b t n (p + w))
theorem t_nmB {t : Nat → Int32} {n p : Nat} : ∀ w, (∀ i, i < w → t_di (t_b t n (p + i)) = true) → t_nm t n p w < 10 ^ w
  | 0, _ => Nat.one_pos
  | w + 1, h => by
    have := t_nmB (t := t) (n := n) (p := p) w (fun i hi => h i (by omega))
    have := (t_diT (h w (by omega))).2
    rw [t_nm, Nat.pow_succ]; omega
/-! the class reads a text -/
def t_X (σ : q_St) (h : q_Hp) (L : Nat) (t : Nat → Int32) (n : Nat) : Prop := k_lf σ L ∧ q_int h L 4 = nI n ∧ n ≤ 100 ∧ ∀ i, i < 100 → q_int h (L + 1) i = t i
theorem c_byte {σ : q_St} {h : q_Hp} {L n i : Nat} {t : Nat → Int32} (H : t_X σ h L t n) (hi : i < 1000000) : fX1_byteAt σ h L (nI i) = some (t_b t n i) := by
  obtain ⟨F, h4, hn, hc⟩ := H
  unfold fX1_byteAt t_b
  rw [lr0 F, q_gu_t (lt1 F), h4]
  simp only [k_le2 rfl (show n < 2147483648 by omega) (show i < 2147483648 by omega)]
  by_cases q : n ≤ i
  · rw [if_pos q, if_neg (by omega)]
  · rw [if_neg q, if_pos (by omega), c_at (ll1 F) (show i < 100 by omega) (by decide), k_bs1, hc i (by omega)]
theorem c_digits {σ : q_St} {h : q_Hp} {v : Int32} : fX4_digitsBehind σ h v = some (if t_dg v = 0 then -1 else nI (t_dg v)) := by
  unfold fX4_digitsBehind t_dg
  by_cases h1 : v = 98
  · rw [if_pos h1]; simp only [if_pos h1]; rfl
  rw [if_neg h1]; simp only [if_neg h1]
  by_cases h2 : v = 99
  · rw [if_pos h2]; simp only [if_pos h2]; rfl
  rw [if_neg h2]; simp only [if_neg h2]
  by_cases h3 : v = 104
  · rw [if_pos h3]; simp only [if_pos h3]; rfl
  rw [if_neg h3]; simp only [if_neg h3]
  by_cases h4 : v = 114
  · rw [if_pos h4]; simp only [if_pos h4]; rfl
  rw [if_neg h4]; simp only [if_neg h4]
  by_cases h5 : v = 115
  · rw [if_pos h5]; simp only [if_pos h5]; rfl
  rw [if_neg h5]; simp only [if_neg h5]; rfl
theorem c_number {σ : q_St} {h : q_Hp} {L n p w : Nat} {t : Nat → Int32} (H : t_X σ h L t n) (hp : p < 10000) (hw : w ≤ 3) (hd : ∀ i, i < w → t_di (t_b t n (p + i)) = true) : fX1_number σ h L (nI p) (nI w) = some (nI (t_nm t n p w)) := by
  unfold fX1_number
  refine k_eq (k_bind (k_for (n := w) (P := fun r => r = nI (t_nm t n p w)) (fun i s => s = (nI (t_nm t n p i), nI i)) (by rw [k_N]; omega) rfl ?_) (fun r hr => k_some hr))
  intro i s hi es
  subst es
  dsimp only
  unfold fX1_number_5
  rcases Nat.lt_or_ge i w with q | q
  · have dd := t_diT (hd i q)
    rw [if_neg (nI_ge q (by omega)), nI_add, c_byte H (by omega), k_bs1]
    refine k_some ⟨q, ?_⟩
    rw [show t_b t n (p + i) = nI (48 + t_dv (t_b t n (p + i))) from dd.1, show nI (t_nm t n p i) * (10 : Int32) = nI (t_nm t n p i * 10) from pk_mul _ 10, nI_add, show (48 : Int32) = nI 48 from rfl, pk_sub (by omega), nI_1, t_nm]
    congr 2
    omega
  · have : i = w := by omega
    subst this
    rw [if_pos (nI_le (Nat.le_refl _) (by omega))]
    exact k_some rfl
theorem c_firstBad {σ : q_St} {h : q_Hp} {L n : Nat} {t : Nat → Int32} (H : t_X σ h L t n) : fX4_firstBadByte σ h L = some (if t_g t n (t_q t n (t_K t n)) then -1 else nI (t_e t n (t_q t n (t_K t n)))) := by
  have hn := H.2.2.1
  have K33 := t_K34 (t := t) hn
  unfold fX4_firstBadByte
  have body : ∀ i, i < 101 → fX4_firstBadByte_4 σ h L (nI (t_q t n i)) (nI i) = if t_g t n (t_q t n i) then (if n ≤ t_q t n (i + 1) then some (.inr (.inr (-1))) else some (.inl (nI (t_q t n (i + 1)), nI (i + 1)))) else some (.inr (.inr (nI (t_e t n (t_q t n i))))) := fun i hi => by
    have qB := t_qB t n i
    unfold fX4_firstBadByte_4
    rw [if_neg (k_nlL (n := 100) (l := 100) rfl (by omega) (by decide)), c_byte H (by omega), k_bs1, c_digits, k_bs1]
    rw [show t_dg (t_b t n (t_q t n i)) = t_D t n (t_q t n i) from rfl]
    have DB := t_DB t n (t_q t n i)
    by_cases d0 : t_D t n (t_q t n i) = 0
    · rw [if_pos d0, if_neg (by decide)]
      have g0 : t_g t n (t_q t n i) = false := by
        unfold t_g
        rw [d0]; rfl
      have e0 : t_e t n (t_q t n i) = t_q t n i := if_pos d0
      rw [g0, e0]; rfl
    · rw [if_neg d0, if_pos (nI_pos' (by omega))]
      have el : q_loop (fun s => fX4_firstBadByte_28 σ h L (nI (t_q t n i)) (nI i) (nI (t_D t n (t_q t n i))) s) q_N (1 : Int32) = some (if t_F t n (t_q t n i + 1) (t_D t n (t_q t n i)) < t_D t n (t_q t n i) then .inr (.inr (.inr (nI (t_q t n i + 1 + t_F t n (t_q t n i + 1) (t_D t n (t_q t n i)))))) else .inl ()) := by
        refine k_find (q := fun j => !t_di (t_b t n (t_q t n i + 1 + j))) (n := t_D t n (t_q t n i)) (st := fun j => nI (1 + j)) (by omega) (fun j hj hq => ?_) (fun j hj hq hf => ?_) (fun hf => ?_)
        · skip
          unfold fX4_firstBadByte_28
          rw [if_neg (nI_nlt (by omega) (by omega)), nI_add, c_byte H (by omega), k_bs1, c_isIn, k_bs1, show t_q t n i + (1 + j) = t_q t n i + 1 + j by omega]
          have dd : t_di (t_b t n (t_q t n i + 1 + j)) = true := by simpa using hq
          rw [if_pos (of_decide_eq_true dd), if_neg (by decide), nI_1]; rfl
        · skip
          unfold fX4_firstBadByte_28
          rw [if_neg (nI_nlt (by omega) (by omega)), nI_add, c_byte H (by omega), k_bs1, c_isIn, k_bs1, show t_q t n i + (1 + j) = t_q t n i + 1 + j by omega]
          have dd : t_di (t_b t n (t_q t n i + 1 + j)) = false := by simpa using hq
          have ef : t_F t n (t_q t n i + 1) (t_D t n (t_q t n i)) = j := hf
          rw [if_neg (of_decide_eq_false dd), if_pos rfl, ef, if_pos hj]
        · skip
          unfold fX4_firstBadByte_28
          have ef : t_F t n (t_q t n i + 1) (t_D t n (t_q t n i)) = t_D t n (t_q t n i) := hf
          rw [if_pos (nI_lt (by omega) (by omega)), ef, if_neg (Nat.lt_irrefl _)]
      rw [el, k_bs1]
      have Fl := t_Fle t n (t_q t n i + 1) (t_D t n (t_q t n i))
      have ee : t_e t n (t_q t n i) = t_q t n i + 1 + t_F t n (t_q t n i + 1) (t_D t n (t_q t n i)) := if_neg d0
      by_cases fl : t_F t n (t_q t n i + 1) (t_D t n (t_q t n i)) < t_D t n (t_q t n i)
      · have g0 : t_g t n (t_q t n i) = false := by
          unfold t_g
          rw [beq_false_of_ne (a := t_F t n (t_q t n i + 1) (t_D t n (t_q t n i))) (by omega), Bool.and_false, Bool.false_and]
        rw [if_pos fl, k_elR, g0, ee]; rfl
      · have fe : t_F t n (t_q t n i + 1) (t_D t n (t_q t n i)) = t_D t n (t_q t n i) := by omega
        rw [if_neg fl, k_elL, nI_1, nI_add, c_byte H (by omega), k_bs1, show t_q t n i + (t_D t n (t_q t n i) + 1) = t_q t n i + 1 + t_D t n (t_q t n i) by omega]
        by_cases e59 : t_b t n (t_q t n i + 1 + t_D t n (t_q t n i)) = 59
        · have g1 : t_g t n (t_q t n i) = true := by
            unfold t_g
            rw [beq_false_of_ne d0, fe, e59]; simp
          rw [if_pos e59, g1, if_pos rfl, nI_1, H.2.1, show t_q t n i + 1 + t_D t n (t_q t n i) + 1 = t_q t n (i + 1) by rw [t_q]; omega]
          have qB2 := t_qB t n (i + 1)
          simp only [k_lt1 rfl (show n < 2147483648 by omega) (show t_q t n (i + 1) < 2147483648 by omega)]
          by_cases le : n ≤ t_q t n (i + 1)
          · rw [if_neg (by omega), if_pos le]
          · rw [if_pos (by omega), if_neg le, nI_1]
        · have g0 : t_g t n (t_q t n i) = false := by
            unfold t_g
            rw [decide_eq_false e59, Bool.and_false]
          rw [if_neg e59, g0, ee, fe]; rfl
  have el : q_loop (fun s => fX4_firstBadByte_4 σ h L s.1 s.2) q_N ((0 : Int32), (0 : Int32)) = some (.inr (if t_g t n (t_q t n (t_K t n)) then -1 else nI (t_e t n (t_q t n (t_K t n))))) := by
    refine k_find (q := t_fin t n) (n := 101) (st := fun i => (nI (t_q t n i), nI i)) (by decide) (fun i hi hq => ?_) (fun i hi hq hf => ?_) (fun hf => ?_)
    · dsimp only
      have := t_finF hq
      rw [body i hi, this.1, if_pos rfl, if_neg (by omega)]
    · dsimp only
      have e : t_K t n = i := hf
      rw [body i hi, e]
      cases g : t_g t n (t_q t n i) with
      | false => rfl
      | true =>
        unfold t_fin at hq
        rw [g] at hq
        rw [if_pos rfl, if_pos (by simpa using hq), if_pos rfl]
    · have e : t_K t n = 101 := hf
      omega
  rw [el, k_bs1, k_elR]
