/-! the model reads a text -/
def t_h (t : Nat → Int32) (n i : Nat) : Int32 := if i < n then t i else -999
theorem t_hdi (t : Nat → Int32) (n i : Nat) : t_di (t_h t n i) = t_di (t_b t n i) := by
  unfold t_h t_b
  split
  · rfl
  · decide
theorem t_hdg (t : Nat → Int32) (n i : Nat) : t_dg (t_h t n i) = t_D t n i := by
  unfold t_D t_h t_b
  split
  · rfl
  · decide
theorem t_h59 (t : Nat → Int32) (n i : Nat) : (t_h t n i = 59) = (t_b t n i = 59) := by
  unfold t_h t_b
  split
  · rfl
  · exact propext ⟨fun h => absurd h (by decide), fun h => absurd h (by decide)⟩
theorem t_hb {t : Nat → Int32} {n i : Nat} (h : i < n) : t_h t n i = t_b t n i := by
  unfold t_h t_b
  rw [if_pos h, if_pos h]
def t_U (h : q_Hp) (m d : Nat) (t : Nat → Int32) (n : Nat) : Prop := (d < 8 ∧ n ≤ 100) ∧ q_int h (m + 16) d = nI n ∧ (∀ i, i < 100 → q_lng h (m + 17) (100 * d + i) = (t i).toInt64) ∧ q_int h m 22 = nI d
theorem U_mf {L R : List Nat} {m d n : Nat} {h h1 : q_Hp} {t : Nat → Int32} (U : t_U h m d t n) (a : k_mf L R m h h1) (e1 : 22 ∉ L) (e2 : 16 ∉ R ∧ 17 ∉ R) : t_U h1 m d t n := ⟨U.1, by rw [mf_i a 16 (by decide) (by decide) e2.1]; exact U.2.1, fun i hi => by rw [mf_l a 17 (by decide) (by decide) e2.2]; exact U.2.2.1 i hi, by rw [a.2.1 22 e1]; exact U.2.2.2⟩
theorem m_here {σ : q_St} {h : q_Hp} {m d n p : Nat} {t : Nat → Int32} (M : k_M σ m) (U : t_U h m d t n) (hp : p < 1000000) (e : q_int h m 23 = nI p) : fX5_here σ h m = some (t_h t n p) := by
  obtain ⟨⟨hd, hn⟩, l4, cc, e22⟩ := U
  unfold fX5_here t_h
  rw [mr19 M, mr20 M, q_gu_t ⟨mt16 M, mt17 M⟩, e22, ml16 M, ml17 M, q_gu_t (vp_in_nI hd (by decide)), k_cl (by omega), l4, e]
  simp only [k_le2 rfl (show n < 2147483648 by omega) (show p < 2147483648 by omega)]
  by_cases q : n ≤ p
  · rw [if_pos q, if_neg (by omega)]
  · rw [if_neg q, if_pos (by omega), show (100 : Int32) * nI d = nI (100 * d) from pk_mul 100 d, nI_add, q_gu_t (vp_in_nI (by omega) (by decide)), k_cl (by omega), cc p (by omega)]
    congr 1
    exact Int32.toInt32_toInt64 _
/-- s digits from p on have been tried -/
def t_J (h : q_Hp) (m : Nat) (t : Nat → Int32) (n p s : Nat) : Prop := q_int h m 23 = nI (p + t_F t n p s) ∧ q_int h m 24 = if t_F t n p s < s then 1 else 0
theorem J_mf {L R : List Nat} {m n p s : Nat} {h h1 : q_Hp} {t : Nat → Int32} (J : t_J h m t n p s) (a : k_mf L R m h h1) (e1 : 23 ∉ L ∧ 24 ∉ L) : t_J h1 m t n p s := ⟨by rw [a.2.1 23 e1.1]; exact J.1, by rw [a.2.1 24 e1.2]; exact J.2⟩
theorem m_digits {σ : q_St} {h : q_Hp} {m d n p s w : Nat} {t : Nat → Int32} (M : k_M σ m) (U : t_U h m d t n) (J : t_J h m t n p s) (hp : p + s + w < 100000) : k_ok (fX5_readDigits σ h m (nI w)) (fun r => r.1 = nI (if t_F t n p (s + w) < s + w then 0 else t_nm t n (p + s) w) ∧ t_J r.2 m t n p (s + w) ∧ k_mf [23, 24] [] m h r.2) := by
  unfold fX5_readDigits
  have f0 := t_Fle t n p s
  refine k_bind (k_for (n := w) (P := fun o => o.1 = nI (if t_F t n p (s + w) < s + w then 0 else t_nm t n (p + s) w) ∧ t_J o.2 m t n p (s + w) ∧ k_mf [23, 24] [] m h o.2) (fun i st => st.2.1 = nI i ∧ st.1 = nI (if t_F t n p (s + i) < s + i then 0 else t_nm t n (p + s) i) ∧ t_J st.2.2 m t n p (s + i) ∧ k_mf [23, 24] [] m h st.2.2) (by rw [k_N]; omega) ⟨rfl, ?_, J, mf_rf⟩ ?_) (fun o p => k_some p)
  · dsimp only
    split <;> rfl
  rintro i ⟨x2, x3, h'⟩ hi ⟨e3, e2, Ji, ag⟩
  dsimp only at e3 e2 Ji ag
  subst e3; subst e2
  show k_ok (fX5_readDigits_4 σ m (nI w) (nI (if t_F t n p (s + i) < s + i then 0 else t_nm t n (p + s) i)) (nI i) h') _
  unfold fX5_readDigits_4
  rcases Nat.lt_or_ge i w with q | q
  · rw [if_neg (nI_ge q (by omega))]
    have U' := U_mf U ag (by decide) (by decide)
    have fl := t_Fle t n p (s + i)
    have fs := t_Fs t n p (s + i)
    have bad : t_F t n p (s + i + 1) < s + i + 1 → (t_F t n p (s + i) < s + i → t_F t n p (s + i + 1) = t_F t n p (s + i)) → t_F t n p (s + i + 1) = t_F t n p (s + i) → k_ok (fX5_readDigits_34 σ h' m (nI w) (nI (if t_F t n p (s + i) < s + i then 0 else t_nm t n (p + s) i)) (nI i) m) (k_z (fun s' => i < w ∧ (s'.2.1 = nI (i + 1) ∧ s'.1 = nI (if t_F t n p (s + (i + 1)) < s + (i + 1) then 0 else t_nm t n (p + s) (i + 1)) ∧ t_J s'.2.2 m t n p (s + (i + 1)) ∧ k_mf [23, 24] [] m h s'.2.2)) (fun o => o.1 = nI (if t_F t n p (s + w) < s + w then 0 else t_nm t n (p + s) w) ∧ t_J o.2 m t n p (s + w) ∧ k_mf [23, 24] [] m h o.2)) := fun b1 _ b2 => by
      unfold fX5_readDigits_34 fX5_readDigits_39 fX5_readDigits_65 fX5_readDigits_83
      have e24 : q_int (q_si h' m 24 1) m 24 = 1 := k_si_s
      have e23 : q_int (q_si h' m 24 1) m 23 = nI (p + t_F t n p (s + i)) := by rw [k_si_j (by decide)]; exact Ji.1
      have a1 : k_mf [23, 24] [] m h (q_si h' m 24 1) := mf_fi ag (by decide)
      rw [q_gu_t ⟨mt0 M, Or.inr rfl⟩]
      generalize q_si h' m 24 1 = h2 at e24 e23 a1 ⊢
      rw [e24, if_neg (by decide), if_neg (by decide), q_gu_t (mt0 M), e23, nI_1, show s + (i + 1) = s + i + 1 by omega, if_pos b1]
      refine k_some ⟨q, rfl, rfl, ⟨?_, ?_⟩, mf_fi a1 (by decide)⟩
      · dsimp only
        rw [k_si_s, b2, show (0 : Int32) = nI 0 from rfl, nI_add]; rfl
      · dsimp only
        rw [k_si_j (by decide), e24, if_pos b1]
    by_cases b : t_F t n p (s + i) < s + i
    · have e24 : q_int h' m 24 = 1 := by rw [Ji.2, if_pos b]
      rw [if_pos b] at fs
      rw [e24, if_neg (by decide)]
      exact bad (by omega) (fun _ => fs) fs
    · have e24 : q_int h' m 24 = 0 := by rw [Ji.2, if_neg b]
      have fe : t_F t n p (s + i) = s + i := by omega
      rw [if_neg b] at fs
      have e23 : q_int h' m 23 = nI (p + (s + i)) := by rw [Ji.1, fe]
      rw [e24, if_pos rfl, m_here M U' (by omega) e23, k_bs1, show fX5_in σ h' (t_h t n (p + (s + i))).toInt64 (48 : Int64) (57 : Int64) = _ from m_in (lo := 48) (hi := 57) (by decide) (by decide), k_bs1]
      have hdi := t_hdi t n (p + (s + i))
      cases dd : t_di (t_b t n (p + (s + i))) with
      | false =>
        rw [dd] at hdi fs
        rw [if_neg (of_decide_eq_false hdi), if_pos rfl]
        rw [if_neg (by decide)] at fs
        exact bad (by omega) (fun c => absurd c b) (by omega)
      | true =>
        rw [dd] at hdi fs
        rw [if_pos (of_decide_eq_true hdi), if_neg (by decide)]
        rw [if_pos rfl] at fs
        have lt := t_bn (n := n) (i := p + (s + i)) (t := t) (fun e => by rw [e] at dd; exact absurd dd (by decide))
        have tt := t_diT dd
        unfold fX5_readDigits_39 fX5_readDigits_65 fX5_readDigits_83
        have e24' : q_int (q_si h' m 24 0) m 24 = 0 := k_si_s
        have e23' : q_int (q_si h' m 24 0) m 23 = nI (p + (s + i)) := by rw [k_si_j (by decide)]; exact e23
        have a1 : k_mf [23, 24] [] m h (q_si h' m 24 0) := mf_fi ag (by decide)
        have U2 := U_mf U a1 (by decide) (by decide)
        rw [q_gu_t ⟨mt0 M, Or.inl rfl⟩]
        generalize q_si h' m 24 0 = h2 at e24' e23' a1 U2 ⊢
        rw [e24', if_pos rfl, m_here M U2 (by omega) e23', k_bs1, if_pos rfl, q_gu_t (mt0 M), e23', nI_1, if_neg b]
        refine k_some ⟨q, rfl, ?_, ⟨?_, ?_⟩, mf_fi a1 (by decide)⟩
        · dsimp only
          rw [show s + (i + 1) = s + i + 1 by omega, if_neg (by omega), t_nm, t_hb lt, show p + s + i = p + (s + i) by omega]
          rw [show t_b t n (p + (s + i)) = nI (48 + t_dv (t_b t n (p + (s + i)))) from tt.1, show (10 : Int32) * nI (t_nm t n (p + s) i) = nI (10 * t_nm t n (p + s) i) from pk_mul 10 _, nI_add, show (48 : Int32) = nI 48 from rfl, pk_sub (by omega)]
          congr 1
          rw [← tt.1]; omega
        · dsimp only
          rw [k_si_s, show s + (i + 1) = s + i + 1 by omega, fs, nI_1]; congr 1
        · dsimp only
          rw [k_si_j (by decide), e24', show s + (i + 1) = s + i + 1 by omega, fs, if_neg (Nat.lt_irrefl _)]
  · have : i = w := by omega
    subst this
    rw [if_pos (nI_le (Nat.le_refl _) (by omega))]
    exact k_some ⟨rfl, Ji, ag⟩
/-- the numbers that stand behind a letter -/
def t_to (t : Nat → Int32) (n : Nat) (v : Int32) (P j : Nat) : Nat := if v = 98 then (if j = 0 then t_nm t n P 2 else t_nm t n (P + 1 + j) 1) else if v = 104 then t_nm t n (P + j) 1 else if v = 115 then (if j = 0 then t_nm t n P 1 else if j = 1 then t_nm t n (P + 1) 1 else if j = 2 then t_nm t n (P + 2) 2 else t_nm t n (P + 4) 2) else t_nm t n P 1
def t_ct (v : Int32) : Nat := if v = 98 then 5 else if v = 104 then 2 else if v = 115 then 4 else 1
theorem t_goodF {t : Nat → Int32} {n p s : Nat} : ∀ {w : Nat}, t_F t n p (s + w) = s + w → t_F t n p s = s
  | 0, h => h
  | w + 1, h => by
    have f := t_Fs t n p (s + w)
    have l := t_Fle t n p (s + w)
    rw [show s + (w + 1) = s + w + 1 by omega] at h
    rw [h] at f
    refine t_goodF (w := w) ?_
    by_cases b : t_F t n p (s + w) < s + w
    · rw [if_pos b] at f; omega
    · omega
/-- a number is told -/
theorem m_tell {σ : q_St} {h : q_Hp} {m d n p s w i : Nat} {t : Nat → Int32} (M : k_M σ m) (U : t_U h m d t n) (J : t_J h m t n p s) (hp : p + s + w < 100000) (hi : i < 255) {x : Int32} (hx : x = nI i) : k_ok (fX5_readDigits σ h m (nI w)) (fun r => vp_in x (q_len σ (q_ref σ m 28)) ∧ q_si r.2 (q_ref σ m 28) x.toNatClampNeg r.1 = q_si r.2 (m + 20) i r.1 ∧ t_J (q_si r.2 (m + 20) i r.1) m t n p (s + w) ∧ k_mf [23, 24] [20] m h (q_si r.2 (m + 20) i r.1) ∧ (t_F t n p (s + w) = s + w → q_int (q_si r.2 (m + 20) i r.1) (m + 20) i = nI (t_nm t n (p + s) w)) ∧ ∀ j, j ≠ i → q_int (q_si r.2 (m + 20) i r.1) (m + 20) j = q_int h (m + 20) j) := by
  subst hx
  refine k_mono (m_digits M U J hp) (fun r pr => ?_)
  obtain ⟨e1, J1, a1⟩ := pr
  rw [mr28 M, ml20 M, k_cl (by omega)]
  refine ⟨vp_in_nI hi (by decide), rfl, ⟨by rw [k_ma (by decide)]; exact J1.1, by rw [k_ma (by decide)]; exact J1.2⟩, mf_ar (mf_mono a1 (by decide) (by decide)) (by decide) (by decide), fun g => ?_, fun j hj => ?_⟩
  · rw [k_si_s, e1, if_neg (by omega)]
  · rw [k_si_j hj, mf_i a1 20 (by decide) (by decide) (by decide)]
