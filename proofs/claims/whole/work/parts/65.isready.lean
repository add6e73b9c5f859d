/-! ready of the model: whether some can be ready in time -/
theorem r_H_s {q : Nat → Bool} {ch : Nat → Nat} {B k : Nat} (hq : q k = true) (hb : B.testBit (k % 8) = true) : r_H q ch B (k + 1) = r_H q ch B k + ch (k % 8) := by
  show r_H q ch B k + (if q k && B.testBit (k % 8) then ch (k % 8) else 0) = _
  rw [hq, hb]; rfl
theorem r_H_n {q : Nat → Bool} {ch : Nat → Nat} {B K K' : Nat} (h : K ≤ K') (n : ∀ k, K ≤ k → k < K' → (q k && B.testBit (k % 8)) = false) : r_H q ch B K' = r_H q ch B K := g_sm_more h (fun k h1 h2 => by rw [n k h1 h2]; rfl)
theorem k_dl_lt {R s : Nat} (hR : R < 256) (h : R.testBit s = true) : k_dl R s < R := by
  have le : k_dl R s ≤ R := Nat.and_le_left
  rcases Nat.lt_or_eq_of_le le with l | e
  · exact l
  · have := k_dlT (i := s) (j := s) (show R < 2147483648 by omega)
    rw [e, h] at this
    simp at this
/-- the least of the set by hours told, then numbers -/
theorem m_rs {σ : q_St} {h : q_Hp} {m d R : Nat} {z : k_Z} {T : Nat → Nat} {D : Nat → Bool} (W : k_W h m z) (K : k_va z) (hB : ∀ s, s < 8 → T s < 100) (hDn : ∀ s, D s = true → s < z 0 0) (hT : ∀ s, D s = true → fX5_toldHour σ h m (nI d) (nI s) = some (nI (T s)).toInt64) (hR : R < 256) (r0 : R ≠ 0) (rD : ∀ t, R.testBit t = true → D t = true) (x1 x3 x5 : Int32) :
    k_ok (q_loop (fun s => fX5_isReady_30 σ m x1 (nI d) x3 (nI R) x5 s.1 s.2.1 s.2.2) q_N ((-1 : Int32), nI (z 0 0) - 1, h)) (fun o => o.2 = h ∧ ∃ b, o.1 = nI b ∧ R.testBit b = true ∧ ∀ t, R.testBit t = true → 8 * T b + b ≤ 8 * T t + t) := by
  have n7 := va_ns K
  refine k_for (n := z 0 0) (fun j t => t.2.1 = nI (z 0 0 - j) - 1 ∧ t.2.2 = h ∧ ((t.1 = -1 ∧ ∀ t, z 0 0 - j ≤ t → R.testBit t = false) ∨ ∃ b, t.1 = nI b ∧ z 0 0 - j ≤ b ∧ R.testBit b = true ∧ ∀ t, z 0 0 - j ≤ t → R.testBit t = true → 8 * T b + b ≤ 8 * T t + t)) (by rw [k_N]; omega) ⟨by rw [Nat.sub_zero], rfl, Or.inl ⟨rfl, fun t ht => ?_⟩⟩ ?_
  · cases e : R.testBit t with
    | false => rfl
    | true => have := hDn t (rD t e); omega
  · rintro j ⟨x6, x7, h2⟩ hj ⟨e7, eh, D6⟩
    dsimp only at e7 eh D6
    subst e7; subst eh
    show k_ok (fX5_isReady_30 σ m x1 (nI d) x3 (nI R) x5 x6 (nI (z 0 0 - j) - 1) h2) _
    unfold fX5_isReady_30
    rcases Nat.lt_or_ge j (z 0 0) with q | q
    · obtain ⟨s, es⟩ : ∃ s, z 0 0 - j = s + 1 := ⟨z 0 0 - j - 1, by omega⟩
      have es' : z 0 0 - (j + 1) = s := by omega
      rw [es, nI_pred, if_neg (nI_pos (by omega)), m_hasBit (by omega) (by omega), k_bs1, k_01i]
      rw [es] at D6
      unfold fX5_isReady_72 fX5_isReady_68 fX5_isReady_73 fX5_isReady_87
      rw [if_pos rfl, if_neg (show ¬ (1 : Int32) = 0 by decide), k_p1]
      cases et : R.testBit s with
      | false =>
        rw [if_neg (by decide)]
        refine k_some ⟨q, by rw [es'], rfl, ?_⟩
        rw [es']
        rcases D6 with ⟨e, n⟩ | ⟨b, e, b1, b2, b3⟩
        · refine Or.inl ⟨e, fun t ht => ?_⟩
          by_cases e2 : t = s
          · rw [e2, et]
          · exact n t (by omega)
        · refine Or.inr ⟨b, e, by omega, b2, fun t ht hr => ?_⟩
          by_cases e2 : t = s
          · rw [e2, et] at hr; cases hr
          · exact b3 t (by omega) hr
      | true =>
        rw [if_pos rfl]
        rcases D6 with ⟨e, n⟩ | ⟨b, e, b1, b2, b3⟩
        · subst e
          rw [if_pos (by decide)]
          refine k_some ⟨q, by rw [es'], rfl, Or.inr ⟨s, rfl, by omega, et, fun t ht hr => ?_⟩⟩
          by_cases e2 : t = s
          · rw [e2]; omega
          · rw [n t (by omega)] at hr; cases hr
        · subst e
          have bn := hDn b (rD b b2)
          have t1 := hB s (by omega)
          have t2 := hB b (by omega)
          rw [if_neg (nI_pos (by omega)), hT s (rD s et), k_bs1, hT b (rD b b2), k_bs1]
          simp only [k_cmpP, k_lw, k_lt1 rfl (show T s < 2147483648 by omega) (show T b < 2147483648 by omega)]
          by_cases lt : T b < T s
          · rw [if_pos lt]
            refine k_some ⟨q, by rw [es'], rfl, Or.inr ⟨b, rfl, by omega, b2, fun t ht hr => ?_⟩⟩
            by_cases e2 : t = s
            · subst e2; omega
            · exact b3 t (by omega) hr
          · rw [if_neg lt]
            refine k_some ⟨q, by rw [es'], rfl, Or.inr ⟨s, rfl, by omega, et, fun t ht hr => ?_⟩⟩
            by_cases e2 : t = s
            · rw [e2]; omega
            · have := b3 t (by omega) hr; omega
    · have : j = z 0 0 := by omega
      subst this
      rw [Nat.sub_self, if_pos (by decide)]
      rw [Nat.sub_self] at D6
      refine k_some ⟨rfl, ?_⟩
      rcases D6 with ⟨-, n⟩ | ⟨b, e, -, b2, b3⟩
      · exfalso
        apply r0
        apply Nat.eq_of_testBit_eq
        intro t
        rw [Nat.zero_testBit]; exact n t (Nat.zero_le _)
      · exact ⟨b, e, b2, fun t hr => b3 t (Nat.zero_le _) hr⟩
def r_I (q : Nat → Bool) (ch T : Nat → Nat) (B m N : Nat) (h : q_Hp) (s : Int32 × Int32 × Int32 × q_Hp) : Prop := ∃ k R, k ≤ N ∧ s.1 = nI (r_H q ch B k) ∧ s.2.1 = nI R ∧ R < 256 ∧ (∀ t, R.testBit t = true ↔ (B.testBit t = true ∧ k ≤ 8 * T t + t)) ∧ ((s.2.2.1 = 1 ∧ r_fe q ch B k) ∨ (s.2.2.1 = 0 ∧ ¬ r_fe q ch B k)) ∧ k_fst (fun k => q k && B.testBit (k % 8)) (fun k => nI (k % 8)) 0 k (q_int s.2.2.2 m 41) ∧ k_mf [41] [] m h s.2.2.2
def r_E (q : Nat → Bool) (ch : Nat → Nat) (B m N : Nat) (h : q_Hp) (o : Int32 × q_Hp) : Prop := ((o.1 = 1 ∧ r_fe q ch B N) ∨ (o.1 = 0 ∧ ¬ r_fe q ch B N)) ∧ k_fst (fun k => q k && B.testBit (k % 8)) (fun k => nI (k % 8)) 0 N (q_int o.2 m 41) ∧ k_mf [41] [] m h o.2
theorem m_rt {σ : q_St} {h : q_Hp} {m d B N : Nat} {z : k_Z} {T : Nat → Nat} {D q : Nat → Bool} (M : k_M σ m) (W : k_W h m z) (K : k_va z) (hB : ∀ s, s < 8 → T s < 100) (hDn : ∀ s, D s = true → s < z 0 0) (hT : ∀ h', k_mf [41] [] m h h' → ∀ s, D s = true → fX5_toldHour σ h' m (nI d) (nI s) = some (nI (T s)).toInt64) (hBD : ∀ s, B.testBit s = true → D s = true) (hN : N = 800) (qk : ∀ s, D s = true → q (8 * T s + s) = true) (kq : ∀ k, q k = true → D (k % 8) = true ∧ k = 8 * T (k % 8) + k % 8)
    {s : Int32 × Int32 × Int32 × q_Hp} (J : r_I q (r_ch z) T B m N h s) : k_ok (fX5_isReady_14 σ m (nI B) (nI d) s.1 s.2.1 s.2.2.1 s.2.2.2) (k_z (fun s' => r_I q (r_ch z) T B m N h s' ∧ s'.2.1.toNatClampNeg < s.2.1.toNatClampNeg) (r_E q (r_ch z) B m N h)) := by
  have n7 := va_ns K
  obtain ⟨x3, x4, x5, h'⟩ := s
  obtain ⟨k, R, hk, e3, e4, hR, hRt, D5, F41, ag⟩ := J
  dsimp only at e3 e4 D5 F41 ag ⊢
  subst e3; subst e4
  unfold fX5_isReady_14
  simp only [k_eqL (show (0 : Int32) = nI 0 from rfl) (show R < 2147483648 by omega) (show 0 < 2147483648 by decide)]
  have W' := W_mf W ag (by decide) (fun _ _ _ => by simp)
  by_cases r0 : R = 0
  · rw [if_pos r0]
    have no : ∀ l, k ≤ l → (q l && B.testBit (l % 8)) = false := fun l l1 => by
      cases e : (q l && B.testBit (l % 8)) with
      | false => rfl
      | true =>
        simp only [Bool.and_eq_true] at e
        have := kq l e.1
        have rt := (hRt (l % 8)).mpr ⟨e.2, by omega⟩
        rw [r0, Nat.zero_testBit] at rt; cases rt
    have feN : r_fe q (r_ch z) B k ↔ r_fe q (r_ch z) B N := by
      constructor
      · intro f l hl hq hbt
        by_cases l2 : l < k
        · exact f l l2 hq hbt
        · have := no l (by omega)
          rw [hq, hbt] at this; cases this
      · exact fun f l hl => f l (by omega)
    refine k_some ⟨?_, ?_, ag⟩
    · rcases D5 with ⟨e, f⟩ | ⟨e, f⟩
      · exact Or.inl ⟨e, feN.mp f⟩
      · exact Or.inr ⟨e, fun g => f (feN.mpr g)⟩
    · exact k_fst_skip hk (fun l h1 _ => no l h1) F41
  · rw [if_neg r0, w_ns W']
    have rD : ∀ t, R.testBit t = true → D t = true := fun t ht => hBD t ((hRt t).mp ht).1
    refine k_bind (m_rs W' K hB hDn (hT h' ag) hR r0 rD (nI B) (nI (r_H q (r_ch z) B k)) x5) (fun o p => ?_)
    obtain ⟨o1, o2⟩ := o
    obtain ⟨eh, b, eb, rb, mn⟩ := p
    dsimp only at eh eb
    subst eh; subst eb
    dsimp only
    have db := rD b rb
    have bn := hDn b db
    have tb := hB b (by omega)
    have q1 := qk b db
    have q2 : (8 * T b + b) % 8 = b := by omega
    have q3 : (8 * T b + b) / 8 = T b := by omega
    have bb := (hRt b).mp rb
    have no : ∀ l, k ≤ l → l < 8 * T b + b → (q l && B.testBit (l % 8)) = false := fun l l1 l2 => by
      cases e : (q l && B.testBit (l % 8)) with
      | false => rfl
      | true =>
        simp only [Bool.and_eq_true] at e
        have h1 := kq l e.1
        have := mn _ ((hRt (l % 8)).mpr ⟨e.2, by omega⟩)
        omega
    have He : r_H q (r_ch z) B (8 * T b + b + 1) = r_H q (r_ch z) B k + r_ch z b := by
      rw [r_H_s q1 (by rw [q2]; exact bb.1), q2, r_H_n bb.2 no]
    have ce : r_ch z b = k_ch (z 1 b) (z 2 b) := if_pos bn
    have hb1 := r_HB (q := q) (B := B) (K := 8 * T b + b + 1) (r_chB K)
    have feS : r_fe q (r_ch z) B (8 * T b + b + 1) ↔ (r_fe q (r_ch z) B k ∧ r_H q (r_ch z) B (8 * T b + b + 1) ≤ T b) := by
      constructor
      · intro f
        refine ⟨fun l hl => f l (by omega), ?_⟩
        have := f (8 * T b + b) (by omega) q1 (by rw [q2]; exact bb.1)
        rw [q3] at this; exact this
      · rintro ⟨f, g⟩ l hl hq hbt
        by_cases e1 : l < k
        · exact f l e1 hq hbt
        · by_cases e2 : l = 8 * T b + b
          · subst e2; rw [q3]; exact g
          · have := no l (by omega) (by omega)
            rw [hq, hbt] at this; cases this
    have Rn : ∀ t, (k_dl R b).testBit t = true ↔ (B.testBit t = true ∧ 8 * T b + b + 1 ≤ 8 * T t + t) := fun t => by
      rw [k_dlT (by omega)]
      simp only [Bool.and_eq_true, Bool.not_eq_true', beq_eq_false_iff_ne]
      constructor
      · rintro ⟨h1, h2⟩
        have m1 := mn t h1
        have tn := hDn t (rD t h1)
        exact ⟨((hRt t).mp h1).1, by omega⟩
      · rintro ⟨h1, h2⟩
        exact ⟨(hRt t).mpr ⟨h1, by omega⟩, fun e => by subst e; omega⟩
    have fin : ∀ (x5' : Int32) h4, k_mf [41] [] m h h4 → k_fst (fun k => q k && B.testBit (k % 8)) (fun k => nI (k % 8)) 0 (8 * T b + b + 1) (q_int h4 m 41) → ((x5' = 1 ∧ r_fe q (r_ch z) B (8 * T b + b + 1)) ∨ (x5' = 0 ∧ ¬ r_fe q (r_ch z) B (8 * T b + b + 1))) → k_ok (fX5_isReady_147 σ h4 m (nI B) (nI d) (nI (r_H q (r_ch z) B (8 * T b + b + 1))) (nI R) (nI b) x5') (k_z (fun s' => r_I q (r_ch z) T B m N h s' ∧ s'.2.1.toNatClampNeg < (nI R).toNatClampNeg) (r_E q (r_ch z) B m N h)) := fun x5' h4 a4 f4 d5 => by
      unfold fX5_isReady_147
      have dl := k_dl_lt hR rb
      rw [k_del (by omega)]
      refine k_some ⟨⟨8 * T b + b + 1, k_dl R b, by omega, rfl, rfl, by omega, Rn, d5, f4, a4⟩, ?_⟩
      show (nI (k_dl R b)).toNatClampNeg < (nI R).toNatClampNeg
      rw [k_cl (by omega), k_cl (by omega)]; exact dl
    have key : ∀ v, k_fst (fun k => q k && B.testBit (k % 8)) (fun k => nI (k % 8)) 0 (8 * T b + b + 1) v → k_ok (fX5_isReady_112 σ o2 m (nI B) (nI d) (nI (r_H q (r_ch z) B k)) (nI R) x5 (nI b) v m) (k_z (fun s' => r_I q (r_ch z) T B m N h s' ∧ s'.2.1.toNatClampNeg < (nI R).toNatClampNeg) (r_E q (r_ch z) B m N h)) := fun v hv => by
      have a4 : k_mf [41] [] m h (q_si o2 m 41 v) := mf_fi ag (by decide)
      have f4 : k_fst (fun k => q k && B.testBit (k % 8)) (fun k => nI (k % 8)) 0 (8 * T b + b + 1) (q_int (q_si o2 m 41 v) m 41) := by rw [k_si_s]; exact hv
      have W4 := W_mf W a4 (by decide) (fun _ _ _ => by simp)
      have hT4 := hT _ a4 b db
      unfold fX5_isReady_112 fX5_isReady_146
      generalize q_si o2 m 41 v = h4 at a4 f4 W4 hT4 ⊢
      rw [q_gu_t (mt0 M), m_cleans M W4 K bn, k_bs1, nI_add, ← ce, ← He, hT4, k_bs1]
      rcases D5 with ⟨e, f⟩ | ⟨e, f⟩
      · subst e
        rw [if_neg (by decide)]
        simp only [k_cmpP, k_lw, k_lt1 rfl (show r_H q (r_ch z) B (8 * T b + b + 1) < 2147483648 by omega) (show T b < 2147483648 by omega)]
        by_cases lt : T b < r_H q (r_ch z) B (8 * T b + b + 1)
        · rw [if_pos lt]
          exact fin 0 _ a4 f4 (Or.inr ⟨rfl, fun g => by have := (feS.mp g).2; omega⟩)
        · rw [if_neg lt]
          exact fin 1 _ a4 f4 (Or.inl ⟨rfl, feS.mpr ⟨f, by omega⟩⟩)
      · subst e
        rw [if_pos rfl]
        exact fin 0 _ a4 f4 (Or.inr ⟨rfl, fun g => f (feS.mp g).1⟩)
    by_cases f0 : 0 ≤ q_int o2 m 41
    · rw [if_pos f0]
      refine key _ ?_
      rcases F41 with ⟨e, -⟩ | ⟨N1, a1, b1, t1, e1, g1⟩
      · rw [e] at f0; exact absurd f0 (by decide)
      · exact Or.inr ⟨N1, a1, by omega, t1, e1, g1⟩
    · rw [if_neg f0]
      refine key _ ?_
      rcases F41 with ⟨-, n⟩ | ⟨N1, a1, b1, t1, e1, g1⟩
      · refine Or.inr ⟨8 * T b + b, Nat.zero_le _, by omega, by dsimp only; rw [q1, q2, bb.1]; rfl, by dsimp only; rw [q2], fun l l1 l2 => ?_⟩
        by_cases e2 : l < k
        · exact n l l1 e2
        · exact no l (by omega) l2
      · exfalso
        apply f0
        rw [e1]
        exact nI_pos' (by omega)
theorem m_isReady {σ : q_St} {h : q_Hp} {m d B N : Nat} {z : k_Z} {T : Nat → Nat} {D q : Nat → Bool} (M : k_M σ m) (W : k_W h m z) (K : k_va z) (hB : ∀ s, s < 8 → T s < 100) (hDn : ∀ s, D s = true → s < z 0 0) (hT : ∀ h', k_mf [41] [] m h h' → ∀ s, D s = true → fX5_toldHour σ h' m (nI d) (nI s) = some (nI (T s)).toInt64) (hb : B < 256) (hBD : ∀ s, B.testBit s = true → D s = true) (hN : N = 800) (qk : ∀ s, D s = true → q (8 * T s + s) = true) (kq : ∀ k, q k = true → D (k % 8) = true ∧ k = 8 * T (k % 8) + k % 8) :
    k_ok (fX5_isReady σ h m (nI B) (nI d)) (r_E q (r_ch z) B m N h) := by
  unfold fX5_isReady
  refine k_bind (k_loop (r_I q (r_ch z) T B m N h) (fun s => s.2.1.toNatClampNeg) q_N _ ⟨0, B, by omega, rfl, rfl, hb, fun t => ⟨fun h => ⟨h, Nat.zero_le _⟩, fun h => h.1⟩, Or.inl ⟨rfl, fun k hk => absurd hk (Nat.not_lt_zero _)⟩, by dsimp only; rw [k_si_s]; exact k_fst_0, mf_fi mf_rf (by decide)⟩ (by show (nI B).toNatClampNeg < q_N; rw [k_cl (by omega), k_N]; omega) (fun s J => m_rt M W K hB hDn hT hBD hN qk kq J)) (fun o p => ?_)
  obtain ⟨o1, o2⟩ := o
  obtain ⟨D8, f8, a8⟩ := p
  dsimp only at D8 f8 a8
  dsimp only
  rw [q_gu_t (by rcases D8 with ⟨e, -⟩ | ⟨e, -⟩ <;> rw [e] <;> decide)]
  exact k_some ⟨D8, f8, a8⟩
