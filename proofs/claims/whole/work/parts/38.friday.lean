/-! Friday, as the model counts -/
theorem m_fridayO {σ : q_St} {h : q_Hp} {m : Nat} {z : k_Z} (M : k_M σ m) (W : k_W h m z) (K : k_va z) (w : Int32) : fX5_friday σ h m w = some (p_friday z w, q_si h m 21 0) := by
  have n7 := va_ns K
  have b7 := va_nb K
  have W1 : k_W (q_si h m 21 0) m z := W_th W
  unfold fX5_friday p_friday
  generalize q_si h m 21 0 = h1 at W1 ⊢
  rw [mr12 M, q_gu_t (mt11 M), m_inn (n := 2) (by decide), k_bs1, k_01i]
  cases e : k_is w 2 with
  | false => rfl
  | true =>
  rw [if_pos rfl, if_pos rfl, w_nb W1]
  have tot := k_one_le (k_fq z) 64
  have el : q_loop (fun s => fX5_friday_30 σ m w s.1 s.2.1 s.2.2.1 s.2.2.2) q_N ((0 : Int32), (-4 : Int32), (nI (z 0 1) - 1), h1) = some (nI (k_one01 (k_fq z) 64), p_fst (k_fq z) k_fval 64, h1) := by
    refine k_eq (k_mono (k_for (n := z 0 1) (P := fun o => o.1 = nI (k_one01 (k_fq z) 64) ∧ k_fst (k_fq z) k_fval 0 64 o.2.1 ∧ o.2.2 = h1) (fun i s => s.2.2.1 = nI (z 0 1 - i) - 1 ∧ s.1 = nI (k_one01 (k_fq z) 64 - k_one01 (k_fq z) (8 * (z 0 1 - i))) ∧ k_fst (k_fq z) k_fval (8 * (z 0 1 - i)) 64 s.2.1 ∧ s.2.2.2 = h1) (by rw [k_N]; omega) ⟨by rw [Nat.sub_zero], ?_, ?_, rfl⟩ ?_) ?_)
    · rw [Nat.sub_zero, k_one_no (q := k_fq z) (a := 8 * z 0 1) (b := 64) (by omega) (fun N h1 h2 => k_fqO (by omega)), Nat.sub_self]; rfl
    · rw [Nat.sub_zero]
      exact k_fst_skipD (by omega) (fun N h1 h2 => k_fqO (by omega)) k_fst_0
    · rintro i ⟨s1, s2, s3, s4⟩ hi ⟨e3, e1, hf, e4⟩
      dsimp only at e3 e1 hf e4
      subst e3; subst e1; subst e4
      show k_ok (fX5_friday_30 σ m w (nI (k_one01 (k_fq z) 64 - k_one01 (k_fq z) (8 * (z 0 1 - i)))) s2 (nI (z 0 1 - i) - 1) s4) _
      unfold fX5_friday_30
      rcases Nat.lt_or_ge i (z 0 1) with q | q
      · obtain ⟨a, ea⟩ : ∃ a, z 0 1 - i = a + 1 := ⟨z 0 1 - i - 1, by omega⟩
        have ha : a < z 0 1 := by omega
        have hA9 := va_ha9 K ha
        rw [ea] at hf ⊢
        rw [nI_pred, if_neg (nI_pos (by omega)), w_nb W1]
        refine k_bind (k_for (n := z 0 1 - 1 - a) (P := fun o => o.1 = nI (k_one01 (k_fq z) 64 - k_one01 (k_fq z) (8 * a)) ∧ k_fst (k_fq z) k_fval (8 * a) 64 o.2.1 ∧ o.2.2 = s4) (fun j s => s.2.2.1 = nI (z 0 1 - j) - 1 ∧ s.1 = nI (k_one01 (k_fq z) 64 - k_one01 (k_fq z) (8 * a + (z 0 1 - j))) ∧ k_fst (k_fq z) k_fval (8 * a + (z 0 1 - j)) 64 s.2.1 ∧ s.2.2.2 = s4) (by rw [k_N]; omega) ⟨by rw [Nat.sub_zero], ?_, ?_, rfl⟩ ?_) (fun o p => ?_)
        · dsimp only
          rw [Nat.sub_zero, k_one_no (q := k_fq z) (a := 8 * a + z 0 1) (b := 8 * (a + 1)) (by omega) (fun N h1 h2 => k_fqO (by omega))]
        · rw [Nat.sub_zero]
          exact k_fst_skipD (by omega) (fun N h1 h2 => k_fqO (by omega)) hf
        · rintro j ⟨t1, t2, t3, t4⟩ hj ⟨f3, f1, hg, f4⟩
          dsimp only at f3 f1 hg f4
          subst f3; subst f1; subst f4
          show k_ok (fX5_friday_43 σ m w (nI a) (nI (k_one01 (k_fq z) 64 - k_one01 (k_fq z) (8 * a + (z 0 1 - j)))) t2 (nI (z 0 1 - j) - 1) t4) _
          obtain ⟨b, eb⟩ : ∃ b, z 0 1 - j = b + 1 := ⟨z 0 1 - j - 1, by omega⟩
          rw [eb] at hg ⊢
          rw [nI_pred]
          unfold fX5_friday_43
          rcases Nat.lt_or_ge j (z 0 1 - 1 - a) with q2 | q2
          · have hb : b < z 0 1 := by omega
            have hB9 := va_ha9 K hb
            have qN : k_fq z (8 * a + b) = k_ch2 z a b := by
              rw [k_fqN (by omega), decide_eq_true (by omega)]; rfl
            have mo := k_one_mono (k_fq z) (show 8 * a + b + 1 ≤ 64 by omega)
            have c1 := k_one_s (k_fq z) (8 * a + b)
            have dn := k_fst_dn (show 8 * a + b < 64 by omega) hg
            rw [qN] at c1 dn
            rw [k_fvalN (by omega)] at dn
            have fin : ∀ v : Bool, k_ch2 z a b = v → k_ok (fX5_friday_111 σ t4 m w (nI (k_one01 (k_fq z) 64 - k_one01 (k_fq z) (8 * a + (b + 1)))) t2 (nI a) (nI b) (if v then 1 else 0)) (k_z (fun s => j < z 0 1 - 1 - a ∧ s.2.2.1 = nI (z 0 1 - (j + 1)) - 1 ∧ s.1 = nI (k_one01 (k_fq z) 64 - k_one01 (k_fq z) (8 * a + (z 0 1 - (j + 1)))) ∧ k_fst (k_fq z) k_fval (8 * a + (z 0 1 - (j + 1))) 64 s.2.1 ∧ s.2.2.2 = t4) (fun o => o.1 = nI (k_one01 (k_fq z) 64 - k_one01 (k_fq z) (8 * a)) ∧ k_fst (k_fq z) k_fval (8 * a) 64 o.2.1 ∧ o.2.2 = t4)) := by
              intro v hv
              rw [hv] at c1 dn
              unfold fX5_friday_111 fX5_friday_124 fX5_friday_143
              cases v with
              | true =>
                rw [if_pos rfl] at dn c1
                rw [if_neg (show ¬ (if true = true then (1 : Int32) else 0) = 0 by decide), if_neg (show ¬ (if true = true then (1 : Int32) else 0) = 0 by decide), nI_1, k_p1, show (10 : Int32) * nI a = nI (10 * a) from pk_mul 10 a, nI_add]
                refine k_some ⟨q2, by rw [show z 0 1 - (j + 1) = b by omega], ?_, by rw [show z 0 1 - (j + 1) = b by omega]; exact dn, rfl⟩
                rw [show z 0 1 - (j + 1) = b by omega]
                dsimp only
                congr 1
                have : 8 * a + (b + 1) = 8 * a + b + 1 := by omega
                rw [this]; omega
              | false =>
                rw [if_neg (by decide)] at dn c1
                rw [if_pos (show (if false = true then (1 : Int32) else 0) = 0 from rfl), if_pos (show (if false = true then (1 : Int32) else 0) = 0 from rfl), k_p1]
                refine k_some ⟨q2, by rw [show z 0 1 - (j + 1) = b by omega], ?_, by rw [show z 0 1 - (j + 1) = b by omega]; exact dn, rfl⟩
                rw [show z 0 1 - (j + 1) = b by omega]
                show nI _ + nI 0 = _
                rw [nI_add]
                congr 1
                have : 8 * a + (b + 1) = 8 * a + b + 1 := by omega
                rw [this]; omega
            unfold fX5_friday_110
            rw [if_neg (nI_ge (show a < b by omega) (by omega)), mr12 M, ml11 M, q_gu_t (vp_in_nI (by omega) (by decide)), q_gu_t (vp_in_nI (by omega) (by decide)), k_cl (by omega), k_cl (by omega), w11 W1 ha, w11 W1 hb]
            simp only [k_eqL (show (9 : Int32) = nI 9 from rfl) (show z 11 a < 2147483648 by omega) (show 9 < 2147483648 by decide), k_eqL (show (9 : Int32) = nI 9 from rfl) (show z 11 b < 2147483648 by omega) (show 9 < 2147483648 by decide)]
            by_cases e1 : z 11 a = 9
            · rw [if_pos e1]; exact fin false (by unfold k_ch2; simp [e1])
            rw [if_neg e1]
            by_cases e2 : z 11 b = 9
            · rw [if_pos e2]; exact fin false (by unfold k_ch2; simp [e2])
            rw [if_neg e2, m_fits M W1 K (k_hasS K ha e1) hb, k_bs1, k_01i, m_fits M W1 K (k_hasS K hb e2) ha, k_bs1, k_01i]
            cases e3 : k_fits z (z 11 a) b with
            | false => exact fin false (by unfold k_ch2; simp [e3])
            | true =>
            cases e4 : k_fits z (z 11 b) a with
            | false => exact fin false (by unfold k_ch2; simp [e4])
            | true => exact fin true (by unfold k_ch2; simp [e1, e2, e3, e4])
          · have ab : b = a := by omega
            subst ab
            rw [if_pos (nI_le (Nat.le_refl _) (by omega))]
            have no : ∀ N, 8 * b ≤ N → N < 8 * b + (b + 1) → k_fq z N = false := fun N h1 h2 => k_fqO (by omega)
            exact k_some ⟨by dsimp only; rw [k_one_no (by omega) no], k_fst_skipD (by omega) no hg, rfl⟩
        · obtain ⟨o1, o2, o3⟩ := o
          dsimp only at p ⊢
          obtain ⟨p1, p2, p3⟩ := p
          rw [k_p1, p1, p3]
          have ez : z 0 1 - (i + 1) = a := by omega
          refine k_some ⟨q, ?_, ?_, ?_, rfl⟩
          · dsimp only; rw [ez]
          · dsimp only; rw [ez]
          · dsimp only; rw [ez]; exact p2
      · have : i = z 0 1 := by omega
        subst this
        rw [Nat.sub_self] at hf ⊢
        rw [if_pos (show nI 0 - 1 < 0 by decide)]
        exact k_some ⟨rfl, hf, rfl⟩
    · rintro ⟨o1, o2, o3⟩ ⟨p1, p2, p3⟩
      dsimp only at p1 p2 p3
      rw [p1, p3, k_fst_u p2 p_fstE]
  rw [el, k_bs1, k_si3]
