/-! the class does what a text says -/
theorem tX_ag {σ σ' : q_St} {h h' : q_Hp} {L n : Nat} {t : Nat → Int32} {P : Nat → Prop} (H : t_X σ h L t n) (F : k_lf σ' L) (g : k_ag P h h') (h0 : P L) (h1 : P (L + 1)) : t_X σ' h' L t n := ⟨F, by rw [k_agI g h0]; exact H.2.1, H.2.2.1, fun i hi => by rw [k_agI g h1]; exact H.2.2.2 i hi⟩
theorem c_suitT {σ : q_St} {h : q_Hp} {B L n p : Nat} {t : Nat → Int32} {z : k_Z} (V : k_V σ h B z) (K : k_va z) (H : t_X σ h L t n) (g : t_g t n p = true) (fr : ∀ a, q_sz σ ≤ a → q_tag σ a = 0) (h0 : 0 < q_sz σ) (hB : B + 11 < q_sz σ) (hL : L + 1 < q_sz σ) (D6 : t_D t n p = 6) (hp : p ≤ 1000) :
    k_ok (fX4_tellSuit σ h B L (nI p)) (fun r => k_tr σ h B r.2.1 r.2.2 ∧ if t_nm t n (p + 1) 1 < 8 ∧ t_nm t n (p + 3) 2 ≤ 20 ∧ z 0 0 < 7 then 0 ≤ r.1 ∧ k_V r.2.1 r.2.2 B (k_newS z (t_nm t n (p + 1) 1) (t_nm t n (p + 2) 1) (t_nm t n (p + 3) 2) (t_nm t n (p + 5) 2)) else ¬ 0 ≤ r.1) := by
  have S := vS V
  have n1 := t_n1 (i := 0) (w := 1) g (by omega)
  have n2 := t_n1 (i := 1) (w := 1) g (by omega)
  have n3 := t_n1 (i := 2) (w := 2) g (by omega)
  have n5 := t_n1 (i := 4) (w := 2) g (by omega)
  rw [show p + 1 + 0 = p + 1 by omega, Nat.pow_one] at n1
  rw [show p + 1 + 1 = p + 2 by omega, Nat.pow_one] at n2
  rw [show p + 1 + 2 = p + 3 by omega, show 10 ^ 2 = 100 by decide] at n3
  rw [show p + 1 + 4 = p + 5 by omega, show 10 ^ 2 = 100 by decide] at n5
  have T0 := tr_rf (h := h) S fr
  unfold fX4_tellSuit
  rw [nI_1, show nI p + (3 : Int32) = nI (p + 3) from nI_add p 3, show nI p + (2 : Int32) = nI (p + 2) from nI_add p 2, show nI p + (5 : Int32) = nI (p + 5) from nI_add p 5, show fX1_number σ h L (nI (p + 1)) (1 : Int32) = _ from c_number (w := 1) H (by omega) (by omega) n1.1, k_bs1, show fX1_number σ h L (nI (p + 3)) (2 : Int32) = _ from c_number (w := 2) H (by omega) (by omega) n3.1, k_bs1]
  generalize ek : t_nm t n (p + 1) 1 = k at n1 ⊢
  generalize ez : t_nm t n (p + 3) 2 = sz at n3 ⊢
  simp only [k_le1 (show (8 : Int32) = nI 8 from rfl) (show k < 2147483648 by omega) (show 8 < 2147483648 by decide), k_le2 (show (20 : Int32) = nI 20 from rfl) (show sz < 2147483648 by omega) (show 20 < 2147483648 by decide)]
  by_cases q1 : 8 ≤ k
  · rw [if_pos q1]
    refine k_some ⟨T0, ?_⟩
    dsimp only
    rw [if_neg (by omega)]; decide
  rw [if_neg q1]
  by_cases q2 : sz ≤ 20
  · rw [if_pos q2]
    have gσ : ∀ a, a < q_sz σ → q_tag (q_nw σ 4 0) a = q_tag σ a ∧ q_len (q_nw σ 4 0) a = q_len σ a ∧ ∀ k, q_ref (q_nw σ 4 0) a k = q_ref σ a k := fun a ha => ⟨va_up_ne _ _ (by unfold q_sz at ha; omega), va_up_ne _ _ (by unfold q_sz at ha; omega), fun k => by
      show va_up σ.2.2.2 σ.1 _ a k = _
      rw [va_up_ne _ _ (by unfold q_sz at ha; omega)]; rfl⟩
    have tn : q_tag (q_nw σ 4 0) (q_sz σ) = 4 := q_tnew _ _ _
    have gh : k_ag (fun a => a ≠ q_sz σ) h (q_nh h (q_sz σ)) := fun a ha => ⟨va_up_ne _ _ ha, va_up_ne _ _ ha⟩
    have sz1 : q_sz (q_nw σ 4 0) = q_sz σ + 1 := rfl
    have fr1 : ∀ a, q_sz σ + 1 ≤ a → q_tag (q_nw σ 4 0) a = 0 := fun a ha => (va_up_ne _ _ (by unfold q_sz at ha; omega)).trans (fr a (by omega))
    generalize q_nw σ 4 0 = σ1 at gσ tn sz1 fr1 ⊢
    generalize q_nh h (q_sz σ) = h1 at gh ⊢
    have T1 : ∀ h', k_ag (fun a => a ≠ q_sz σ) h h' → k_tr σ h B σ1 h' := fun h' gg => ⟨k_ag_mono gg (fun a ha => by omega), by omega, fun a ha => ⟨(gσ a ha).1, (gσ a ha).2.1⟩, fun a k ha _ => (gσ a ha).2.2 k, fun a ha => fr1 a (by omega), fun s hs => by
      rw [(gσ (B + 1) (by omega)).2.2 s]
      refine (S.2.2.2.2.2.2 s hs).imp id (fun q => ?_)
      rcases Nat.lt_or_ge (q_ref σ (B + 1) s) (q_sz σ) with l | l
      · exact (gσ _ l).1.trans q
      · rw [fr _ l] at q; exact absurd q (by decide)⟩
    have F1 : k_lf σ1 L := lf_tr H.1 (T1 h1 gh) fr hL (fun e => by
      have := H.1.1
      rw [e, S.2.2.1] at this; exact absurd this (by decide))
    have H1 := tX_ag H F1 gh (by omega) (by omega)
    rw [q_gu_t F1.1, show fX1_number σ1 h1 L (nI (p + 2)) (1 : Int32) = _ from c_number (w := 1) H1 (by omega) (by omega) n2.1, k_bs1]
    generalize ef : t_nm t n (p + 2) 1 = f at n2 ⊢
    refine k_bind (c_init tn (by omega) (by omega : k < 8) n2.2) (fun h5 p5 => ?_)
    obtain ⟨U, g5⟩ := p5
    have g5' : k_ag (fun a => a ≠ q_sz σ) h h5 := k_ag_tr gh g5
    have H5 := tX_ag H F1 g5' (by omega) (by omega)
    have T5 := T1 h5 g5'
    have S1 : k_sh σ1 B := S_tr S T5 fr hB (Or.inl rfl)
    rw [show fX1_number σ1 h5 L (nI (p + 5)) (2 : Int32) = _ from c_number (w := 2) H5 (by omega) (by omega) n5.1, k_bs1, q_gu_t S1.1]
    generalize ew : t_nm t n (p + 5) 2 = wo at n5 ⊢
    have V5 : k_V σ1 h5 B z := V_ag V S1 g5' (fun a h1 h2 => by omega) (fun a ha => by
      rcases Nat.lt_or_ge a (q_sz σ) with l | l
      · exact ⟨by omega, (gσ a l).1.trans ha⟩
      · rw [fr a l] at ha; exact absurd ha (by decide)) (fun s _ => (gσ _ (by omega)).2.2 s)
    refine k_b3 (c_addS V5 K U) (fun r8 σ8 h8 p8 => ?_)
    by_cases q3 : z 0 0 < 7
    · rw [if_pos q3] at p8
      obtain ⟨e8, es, V8, g8⟩ := p8
      dsimp only at e8 es V8 g8
      subst e8; subst es
      refine k_some ⟨tr_tr T5 ⟨k_ag_mono g8 (fun a ha => ha.1), Nat.le_refl _, fun a _ => ⟨rfl, rfl⟩, fun a k _ ne => k_sr_n ne, fun a ha => fr1 a (by
        have : q_sz σ1 ≤ a := ha
        omega), (vS V8).2.2.2.2.2.2⟩, ?_⟩
      dsimp only
      rw [if_pos ⟨by omega, q2, q3⟩]
      exact ⟨nI_pos' (by omega), V8⟩
    · rw [if_neg q3] at p8
      cases p8
      refine k_some ⟨T5, ?_⟩
      dsimp only
      rw [if_neg (by omega)]; decide
  · rw [if_neg q2]
    refine k_some ⟨T0, ?_⟩
    dsimp only
    rw [if_neg (by omega)]; decide
theorem c_bookT {σ : q_St} {h : q_Hp} {B L n p : Nat} {t : Nat → Int32} {z : k_Z} (V : k_V σ h B z) (K : k_va z) (H : t_X σ h L t n) (g : t_g t n p = true) (D6 : t_D t n p = 6) (hp : p ≤ 1000) :
    k_ok (fX4_tellBooking σ h B L (nI p)) (fun r => if t_nm t n (p + 1) 2 ≤ 20 ∧ t_nm t n (p + 3) 1 < 4 ∧ z 0 1 < 7 then 0 ≤ r.1 ∧ k_V σ r.2 B (k_newB z (t_nm t n (p + 1) 2) (t_nm t n (p + 3) 1) (t_nm t n (p + 4) 1) (t_nm t n (p + 5) 1) (t_nm t n (p + 6) 1)) ∧ k_ag (k_oS B) h r.2 else ¬ 0 ≤ r.1 ∧ r.2 = h) := by
  have n1 := t_n1 (i := 0) (w := 2) g (by omega)
  have n3 := t_n1 (i := 2) (w := 1) g (by omega)
  have n4 := t_n1 (i := 3) (w := 3) g (by omega)
  have a4 := t_n1 (i := 3) (w := 1) g (by omega)
  have a5 := t_n1 (i := 4) (w := 1) g (by omega)
  have a6 := t_n1 (i := 5) (w := 1) g (by omega)
  rw [show p + 1 + 0 = p + 1 by omega, show 10 ^ 2 = 100 by decide] at n1
  rw [show p + 1 + 2 = p + 3 by omega, Nat.pow_one] at n3
  rw [show p + 1 + 3 = p + 4 by omega, show 10 ^ 3 = 1000 by decide] at n4
  rw [show p + 1 + 3 = p + 4 by omega, Nat.pow_one] at a4
  rw [show p + 1 + 4 = p + 5 by omega, Nat.pow_one] at a5
  rw [show p + 1 + 5 = p + 6 by omega, Nat.pow_one] at a6
  have od : t_nm t n (p + 4) 3 = 100 * t_nm t n (p + 4) 1 + 10 * t_nm t n (p + 5) 1 + t_nm t n (p + 6) 1 := by
    simp only [t_nm, Nat.add_zero, show p + 4 + 1 = p + 5 by omega, show p + 4 + 2 = p + 6 by omega]
    omega
  unfold fX4_tellBooking
  rw [nI_1, show nI p + (3 : Int32) = nI (p + 3) from nI_add p 3, show nI p + (4 : Int32) = nI (p + 4) from nI_add p 4, show fX1_number σ h L (nI (p + 1)) (2 : Int32) = _ from c_number (w := 2) H (by omega) (by omega) n1.1, k_bs1, show fX1_number σ h L (nI (p + 3)) (1 : Int32) = _ from c_number (w := 1) H (by omega) (by omega) n3.1, k_bs1, show fX1_number σ h L (nI (p + 4)) (3 : Int32) = _ from c_number (w := 3) H (by omega) (by omega) n4.1, k_bs1]
  generalize t_nm t n (p + 1) 2 = a at n1 ⊢
  generalize t_nm t n (p + 3) 1 = gr at n3 ⊢
  simp only [k_lt1 (show (20 : Int32) = nI 20 from rfl) (show a < 2147483648 by omega) (show 20 < 2147483648 by decide), k_le2 (show (3 : Int32) = nI 3 from rfl) (show gr < 2147483648 by omega) (show 3 < 2147483648 by decide)]
  by_cases q1 : 20 < a
  · rw [if_pos q1]
    refine k_some ?_
    dsimp only
    rw [if_neg (by omega)]; exact ⟨by decide, rfl⟩
  rw [if_neg q1]
  by_cases q2 : gr ≤ 3
  · rw [if_pos q2]
    refine k_b2 (c_addB V K (by omega : t_nm t n (p + 4) 3 ≤ 999)) (fun r4 h4 p4 => ?_)
    by_cases q3 : z 0 1 < 7
    · rw [if_pos q3] at p4
      obtain ⟨e4, V4, g4⟩ := p4
      dsimp only at e4 V4 g4
      subst e4
      rw [od, show (100 * t_nm t n (p + 4) 1 + 10 * t_nm t n (p + 5) 1 + t_nm t n (p + 6) 1) / 100 = t_nm t n (p + 4) 1 by omega, show (100 * t_nm t n (p + 4) 1 + 10 * t_nm t n (p + 5) 1 + t_nm t n (p + 6) 1) / 10 % 10 = t_nm t n (p + 5) 1 by omega, show (100 * t_nm t n (p + 4) 1 + 10 * t_nm t n (p + 5) 1 + t_nm t n (p + 6) 1) % 10 = t_nm t n (p + 6) 1 by omega] at V4
      refine k_some ?_
      dsimp only
      rw [if_pos ⟨by omega, by omega, q3⟩]
      exact ⟨nI_pos' (by omega), V4, g4⟩
    · rw [if_neg q3] at p4
      cases p4
      refine k_some ?_
      dsimp only
      rw [if_neg (by omega)]
      exact ⟨by decide, rfl⟩
  · rw [if_neg q2]
    refine k_some ?_
    dsimp only
    rw [if_neg (by omega)]
    exact ⟨by decide, rfl⟩
def t_P (σ : q_St) (h : q_Hp) (B : Nat) (o : Option k_Z) (r : Int32 × q_St × q_Hp) : Prop := k_tr σ h B r.2.1 r.2.2 ∧ match o with
  | some z' => 0 ≤ r.1 ∧ k_V r.2.1 r.2.2 B z'
  | none => ¬ 0 ≤ r.1
theorem t_Pif {σ : q_St} {h h' : q_Hp} {B : Nat} {w : Int32 × k_Z} {r : Int32} (S : k_sh σ B) (fr : ∀ a, q_sz σ ≤ a → q_tag σ a = 0) (e : r = w.1) (V : k_V σ h' B w.2) (g : k_ag (k_oS B) h h') : t_P σ h B (t_if w) (r, σ, h') := by
  subst e
  refine ⟨tr_h S fr g, ?_⟩
  unfold t_if
  by_cases q : 0 ≤ w.1
  · rw [if_pos q]; exact ⟨q, V⟩
  · rw [if_neg q]; exact q
theorem c_stmt {σ : q_St} {h : q_Hp} {B L n p : Nat} {t : Nat → Int32} {z : k_Z} (V : k_V σ h B z) (K : k_va z) (H : t_X σ h L t n) (g : t_g t n p = true) (fr : ∀ a, q_sz σ ≤ a → q_tag σ a = 0) (h0 : 0 < q_sz σ) (hB : B + 11 < q_sz σ) (hL : L + 1 < q_sz σ) (hp : p ≤ 1000) : k_ok (fX4_tellStatement σ h B L (nI p)) (t_P σ h B (t_do t n z p)) := by
  have S := vS V
  have D0 := (t_gT g).1
  have n1 := t_n1 (i := 0) (w := 1) g (by omega)
  rw [show p + 1 + 0 = p + 1 by omega, Nat.pow_one] at n1
  unfold fX4_tellStatement t_do
  rw [nI_1, show fX1_number σ h L (nI (p + 1)) (1 : Int32) = _ from c_number (w := 1) H (by omega) (by omega) n1.1, k_bs1, c_byte H (by omega), k_bs1]
  by_cases e1 : t_b t n p = 98
  · rw [if_pos e1, if_pos e1]
    refine k_b2 (c_bookT V K H g (t_D98 e1) hp) (fun r h3 p3 => k_some ?_)
    by_cases c : t_nm t n (p + 1) 2 ≤ 20 ∧ t_nm t n (p + 3) 1 < 4 ∧ z 0 1 < 7
    · rw [if_pos c] at p3 ⊢
      obtain ⟨q1, q2, q3⟩ := p3
      exact ⟨tr_h S fr q3, q1, q2⟩
    · rw [if_neg c] at p3 ⊢
      obtain ⟨q1, q2⟩ := p3
      dsimp only at q2
      subst q2
      exact ⟨tr_rf S fr, q1⟩
  rw [if_neg e1, if_neg e1]
  by_cases e2 : t_b t n p = 99
  · rw [if_pos e2, if_pos e2]
    refine k_b2 (c_clean V K _) (fun r h3 p3 => k_some ?_)
    obtain ⟨q1, q2, q3⟩ := p3
    exact t_Pif S fr q1 q2 q3
  rw [if_neg e2, if_neg e2]
  by_cases e3 : t_b t n p = 104
  · rw [if_pos e3, if_pos e3]
    have n2 := t_n1 (i := 1) (w := 1) g (by rw [t_D104 e3]; decide)
    rw [show p + 1 + 1 = p + 2 by omega] at n2
    rw [show nI p + (2 : Int32) = nI (p + 2) from nI_add p 2, show fX1_number σ h L (nI (p + 2)) (1 : Int32) = _ from c_number (w := 1) H (by omega) (by omega) n2.1, k_bs1]
    refine k_b2 (c_hire V K _ _) (fun r h3 p3 => k_some ?_)
    obtain ⟨q1, q2, q3⟩ := p3
    exact t_Pif S fr q1 q2 q3
  rw [if_neg e3, if_neg e3]
  by_cases e4 : t_b t n p = 114
  · rw [if_pos e4, if_pos e4]
    refine k_b2 (c_back V K _) (fun r h3 p3 => k_some ?_)
    obtain ⟨q1, q2, q3⟩ := p3
    exact t_Pif S fr q1 q2 q3
  rw [if_neg e4, if_neg e4]
  have e5 := t_letter D0 e1 e2 e3 e4
  rw [if_pos e5.1]
  refine k_b3 (c_suitT V K H g fr h0 hB hL e5.2 hp) (fun r σ3 h3 p3 => k_some ?_)
  obtain ⟨q1, q2⟩ := p3
  by_cases c : t_nm t n (p + 1) 1 < 8 ∧ t_nm t n (p + 3) 2 ≤ 20 ∧ z 0 0 < 7
  · rw [if_pos c] at q2 ⊢
    exact ⟨q1, q2⟩
  · rw [if_neg c] at q2 ⊢
    exact ⟨q1, q2⟩
