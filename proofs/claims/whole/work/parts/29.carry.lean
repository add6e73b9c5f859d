/-! a shop becomes another; the model's state is carried to a row and back -/
def k_sg (P : Nat → Prop) (σ σ' : q_St) : Prop := q_sz σ' = q_sz σ ∧ (∀ a, q_tag σ' a = q_tag σ a) ∧ (∀ a, q_len σ' a = q_len σ a) ∧ ∀ a k, P a → q_ref σ' a k = q_ref σ a k
theorem sg_rf {P : Nat → Prop} {σ : q_St} : k_sg P σ σ := ⟨rfl, fun _ => rfl, fun _ => rfl, fun _ _ _ => rfl⟩
theorem sg_tr {P : Nat → Prop} {σ σ1 σ2 : q_St} (a : k_sg P σ σ1) (b : k_sg P σ1 σ2) : k_sg P σ σ2 := ⟨b.1.trans a.1, fun x => (b.2.1 x).trans (a.2.1 x), fun x => (b.2.2.1 x).trans (a.2.2.1 x), fun x k h => (b.2.2.2 x k h).trans (a.2.2.2 x k h)⟩
theorem sg_sr {P : Nat → Prop} {σ σ1 : q_St} {a k v : Nat} (g : k_sg P σ σ1) (n : ¬ P a) : k_sg P σ (q_sr σ1 a k v) := sg_tr g ⟨rfl, fun _ => rfl, fun _ => rfl, fun x j hx => k_sr_n (fun e => n (e ▸ hx))⟩
theorem sg_mono {P Q : Nat → Prop} {σ σ1 : q_St} (g : k_sg P σ σ1) (f : ∀ a, Q a → P a) : k_sg Q σ σ1 := ⟨g.1, g.2.1, g.2.2.1, fun a k h => g.2.2.2 a k (f a h)⟩
theorem S_sg {P : Nat → Prop} {σ σ' : q_St} {A : Nat} (S : k_sh σ A) (g : k_sg P σ σ') (h1 : P A) (h2 : ∀ s, s < 7 → q_ref σ' (A + 1) s = 0 ∨ q_tag σ (q_ref σ' (A + 1) s) = 4) : k_sh σ' A :=
  ⟨(g.2.1 A).trans S.1, fun k hk => (g.2.2.2 A k h1).trans (S.2.1 k hk), (g.2.1 _).trans S.2.2.1, (g.2.2.1 _).trans S.2.2.2.1, fun k hk => ⟨(g.2.1 _).trans (S.2.2.2.2.1 k hk).1, (g.2.2.1 _).trans (S.2.2.2.2.1 k hk).2⟩, (g.2.1 _).trans S.2.2.2.2.2.1, fun s hs => (h2 s hs).imp id (fun q => (g.2.1 _).trans q)⟩
theorem S_sgP {P : Nat → Prop} {σ σ' : q_St} {A : Nat} (S : k_sh σ A) (g : k_sg P σ σ') (h1 : P A) (h2 : P (A + 1)) : k_sh σ' A := S_sg S g h1 (fun s hs => by rw [g.2.2.2 _ s h2]; exact S.2.2.2.2.2.2 s hs)
theorem S_n4 {σ : q_St} {A a : Nat} (S : k_sh σ A) (h : q_tag σ a = 4) : k_oS A a := fun q => by
  obtain ⟨j, rfl⟩ : ∃ j, a = A + j := ⟨a - A, by omega⟩
  rcases (show j = 0 ∨ j = 1 ∨ (2 ≤ j ∧ j ≤ 10) by omega) with rfl | rfl | e
  · rw [Nat.add_zero, S.1] at h; exact absurd h (by decide)
  · rw [S.2.2.1] at h; exact absurd h (by decide)
  · rw [(S.2.2.2.2.1 j e).1] at h; exact absurd h (by decide)
theorem su_oS {σ σ' : q_St} {h h' : q_Hp} {A a k f : Nat} (U : k_su σ h a k f) (S : k_sh σ A) (g : k_ag (k_oS A) h h') (e : q_tag σ' a = q_tag σ a) : k_su σ' h' a k f := su_mv U e (fun i => k_agI g (S_n4 S (sut U)) i)
theorem c_fill {σ : q_St} {h : q_Hp} {a b n : Nat} (ha : q_len σ a = n) (hb : q_len σ b = n) (hn : n < 1000) (ne : a ≠ b) : k_ok (fX4_fill σ h a b) (fun h' => (∀ i, i < n → q_int h' b i = q_int h a i) ∧ k_ag (fun x => x ≠ b) h h') := by
  unfold fX4_fill
  refine k_bind (k_for (n := n) (P := fun h' => (∀ i, i < n → q_int h' b i = q_int h a i) ∧ k_ag (fun x => x ≠ b) h h') (fun i s => s.1 = nI i ∧ (∀ j, j < i → q_int s.2 b j = q_int h a j) ∧ k_ag (fun x => x ≠ b) h s.2) (by rw [k_N]; omega) ⟨rfl, fun j hj => absurd hj (Nat.not_lt_zero _), k_ag_rf⟩ ?_) (fun r hr => k_some hr)
  rintro i ⟨x, h'⟩ hi ⟨e, hc, hg⟩
  dsimp only at e hc hg
  subst e
  show k_ok (fX4_fill_2 σ a b (nI i) h') _
  unfold fX4_fill_2
  rw [ha, hb, k_ofN]
  rcases Nat.lt_or_ge i n with q | q
  · rw [if_neg (nI_ge q (by omega)), if_neg (nI_ge q (by omega)), q_gu_t ⟨vp_in_nI q (by omega), vp_in_nI q (by omega)⟩, k_cl (by omega), nI_1]
    refine k_some ⟨q, rfl, fun j hj => ?_, k_ag_si hg (fun q => q rfl)⟩
    by_cases e : j = i
    · subst e
      show q_int (q_si h' b j (q_int h' a j)) b j = _
      rw [k_si_s, k_agI hg (a := a) ne]
    · show q_int (q_si h' b i (q_int h' a i)) b j = _
      rw [k_si_j e]; exact hc j (by omega)
  · have : i = n := by omega
    subst this
    rw [if_pos (nI_le q (by omega))]
    exact k_some ⟨hc, hg⟩
/-- so far rows 2 .. c - 1 of the shop at B have come to that at A -/
def k_cp (A B c : Nat) (h h' : q_Hp) : Prop := k_ag (k_oS A) h h' ∧ (∀ i, q_int h' A i = q_int h A i) ∧ ∀ k, 2 ≤ k → k < c → ∀ i, i < 7 → q_int h' (A + k) i = q_int h (B + k) i
theorem c_cp {σ : q_St} {h h' : q_Hp} {A B c : Nat} (SA : k_sh σ A) (SB : k_sh σ B) (d : A + 11 ≤ B ∨ B + 11 ≤ A) (hc : 2 ≤ c ∧ c ≤ 10) (Q : k_cp A B c h h') : k_ok (fX4_fill σ h' (B + c) (A + c)) (k_cp A B (c + 1) h) := by
  refine k_mono (c_fill (SB.2.2.2.2.1 c hc).2 (SA.2.2.2.2.1 c hc).2 (by decide) (by omega)) (fun h2 p => ⟨k_ag_tr Q.1 (k_ag_mono p.2 (fun x hx e => by subst e; exact hx ⟨by omega, by omega⟩)), fun i => by rw [k_agI p.2 (by omega)]; exact Q.2.1 i, fun k h1 h2' i hi => ?_⟩)
  by_cases e : k = c
  · subst e
    rw [p.1 i hi, k_agI Q.1 (show k_oS A (B + k) from fun q => by omega)]
  · rw [k_agI p.2 (by omega)]
    exact Q.2.2 k h1 (by omega) i hi
theorem c_become {σ : q_St} {h : q_Hp} {A B : Nat} {z : k_Z} (V : k_V σ h B z) (K : k_va z) (SA : k_sh σ A) (d : A + 11 ≤ B ∨ B + 11 ≤ A) : k_ok (fX2_become σ h A B) (fun r => k_V r.1 r.2 A z ∧ k_ag (k_oS A) h r.2 ∧ k_sg (fun a => a ≠ A + 1) σ r.1) := by
  have SB := vS V
  have n7 := va_ns K
  unfold fX2_become
  refine k_bind (k_for (n := 7) (P := fun o => o.2 = h ∧ k_sg (fun a => a ≠ A + 1) σ o.1 ∧ (∀ j, j < 7 → q_tag σ (q_ref o.1 (A + 1) j) = 4) ∧ ∀ j, j < z 0 0 → q_ref o.1 (A + 1) j = q_ref σ (B + 1) j) (fun i s => s.1 = nI i ∧ s.2.2 = h ∧ k_sg (fun a => a ≠ A + 1) σ s.2.1 ∧ (∀ j, j < 7 → q_ref s.2.1 (A + 1) j = 0 ∨ q_tag σ (q_ref s.2.1 (A + 1) j) = 4) ∧ (∀ j, j < i → q_tag σ (q_ref s.2.1 (A + 1) j) = 4) ∧ ∀ j, j < i → j < z 0 0 → q_ref s.2.1 (A + 1) j = q_ref σ (B + 1) j) (by rw [k_N]; omega) ⟨rfl, rfl, sg_rf, SA.2.2.2.2.2.2, fun j hj => absurd hj (Nat.not_lt_zero _), fun j hj => absurd hj (Nat.not_lt_zero _)⟩ ?_) ?_
  · rintro i ⟨x, σ', h'⟩ hi ⟨e1, e2, g, h0, h4, hr⟩
    dsimp only at e1 e2 g h0 h4 hr
    subst e1; subst e2
    have SA' : k_sh σ' A := S_sg SA g (by omega) h0
    have SB' : k_sh σ' B := S_sgP SB g (by omega) (by omega)
    have VB' : k_V σ' h' B z := ⟨SB', V.2.1, fun s hs => by rw [g.2.2.2 _ _ (by omega)]; exact su_mv (v_su V hs) (g.2.1 _) (fun _ => rfl), V.2.2.2.1, V.2.2.2.2⟩
    show k_ok (fX2_become_2 A B (nI i) σ' h') _
    unfold fX2_become_2
    rw [sr0 SA', q_gu_t ⟨st0 SA', st1 SA'⟩, sl1 SA', k_ofN]
    rcases Nat.lt_or_ge i 7 with q | q
    · rw [if_neg (nI_ge q (by decide)), q_gu_t (st0 SB')]
      have hk : k_ok (fX2_kindOf σ' h' B (nI i)) (fun a => q_tag σ' a = 4 ∧ (i < z 0 0 → a = q_ref σ (B + 1) i)) := by
        rcases Nat.lt_or_ge i (z 0 0) with q2 | q2
        · refine k_of (c_kindOf VB' K q2) ⟨sut (v_su VB' q2), fun _ => g.2.2.2 _ _ (by omega)⟩
        · exact k_mono (c_kindAny SB' (nI i)) (fun a ha => ⟨ha, fun q3 => absurd q3 (by omega)⟩)
      refine k_bind hk (fun a ha => k_gu ⟨ha.1, vp_in_nI q (by decide)⟩ ?_)
      rw [k_cl (by omega), nI_1]
      refine k_some ⟨q, rfl, rfl, sg_sr g (fun q => q rfl), fun j hj => ?_, fun j hj => ?_, fun j hj hz => ?_⟩
      · show q_ref (q_sr σ' (A + 1) i a) (A + 1) j = 0 ∨ _
        by_cases e : j = i
        · subst e; rw [k_sr_s]; exact Or.inr ((g.2.1 _).symm.trans ha.1)
        · rw [k_sr_j e]; exact h0 j hj
      · show q_tag σ (q_ref (q_sr σ' (A + 1) i a) (A + 1) j) = 4
        by_cases e : j = i
        · subst e; rw [k_sr_s]; exact (g.2.1 _).symm.trans ha.1
        · rw [k_sr_j e]; exact h4 j (by omega)
      · show q_ref (q_sr σ' (A + 1) i a) (A + 1) j = _
        by_cases e : j = i
        · subst e; rw [k_sr_s]; exact ha.2 hz
        · rw [k_sr_j e]; exact hr j (by omega) hz
    · have : i = 7 := by omega
      subst this
      rw [if_pos (nI_le (Nat.le_refl _) (by decide))]
      exact k_some ⟨rfl, g, h4, fun j hj => hr j (by omega) hj⟩
  · rintro ⟨σ', h'⟩ ⟨e2, g, h4, hr⟩
    dsimp only at e2 g h4 hr
    subst e2
    dsimp only
    have SA' : k_sh σ' A := S_sg SA g (by omega) (fun j hj => Or.inr (h4 j hj))
    have SB' : k_sh σ' B := S_sgP SB g (by omega) (by omega)
    rw [sr1 SA', sr2 SA', sr3 SA', sr4 SA', sr5 SA', sr6 SA', sr7 SA', sr8 SA', sr9 SA', sr1 SB', sr2 SB', sr3 SB', sr4 SB', sr5 SB', sr6 SB', sr7 SB', sr8 SB', sr9 SB']
    refine k_gu ⟨st0 SB', st2 SB', st0 SA', st2 SA'⟩ ?_
    refine k_bind (c_cp SA' SB' d (c := 2) (by decide) ⟨k_ag_rf, fun _ => rfl, fun k h1 h2 => absurd h2 (by omega)⟩) (fun h6 Q => k_gu ⟨st3 SB', st3 SA'⟩ ?_)
    refine k_bind (c_cp SA' SB' d (c := 3) (by decide) Q) (fun h6 Q => k_gu ⟨st4 SB', st4 SA'⟩ ?_)
    refine k_bind (c_cp SA' SB' d (c := 4) (by decide) Q) (fun h6 Q => k_gu ⟨st5 SB', st5 SA'⟩ ?_)
    refine k_bind (c_cp SA' SB' d (c := 5) (by decide) Q) (fun h6 Q => k_gu ⟨st6 SB', st6 SA'⟩ ?_)
    refine k_bind (c_cp SA' SB' d (c := 6) (by decide) Q) (fun h6 Q => k_gu ⟨st7 SB', st7 SA'⟩ ?_)
    refine k_bind (c_cp SA' SB' d (c := 7) (by decide) Q) (fun h6 Q => k_gu ⟨st8 SB', st8 SA'⟩ ?_)
    refine k_bind (c_cp SA' SB' d (c := 8) (by decide) Q) (fun h6 Q => k_gu ⟨st9 SB', st9 SA'⟩ ?_)
    refine k_bind (c_cp SA' SB' d (c := 9) (by decide) Q) (fun h6 Q => k_gu ⟨st10 SB', st10 SA'⟩ ?_)
    refine k_bind (c_cp SA' SB' d (c := 10) (by decide) Q) (fun h6 Q => ?_)
    have eB : ∀ j, q_int h6 B j = q_int h' B j := fun j => k_agI Q.1 (show k_oS A B from fun q => by omega) j
    have nAB : B ≠ A := by omega
    simp only [k_si_n nAB, eB, v_ns V, v_nb V, v_pe V, v_ho V]
    have AG : k_ag (k_oS A) h' (q_si (q_si (q_si (q_si h6 A 11 (nI (z 0 0))) A 12 (nI (z 0 1))) A 13 (nI (z 0 2))) A 14 (nI (z 0 3))) := k_ag_si (k_ag_si (k_ag_si (k_ag_si Q.1 k_oS_0) k_oS_0) k_oS_0) k_oS_0
    refine k_some ⟨⟨SA', fun j hj => ?_, fun s hs => ?_, fun r s hr' hs => ?_, fun r s hr' hs => ?_⟩, AG, g⟩
    · rcases (show j = 0 ∨ j = 1 ∨ j = 2 ∨ j = 3 by omega) with rfl | rfl | rfl | rfl
      · rw [k_si_j (by omega), k_si_j (by omega), k_si_j (by omega), k_si_s]
      · rw [k_si_j (by omega), k_si_j (by omega), k_si_s]
      · rw [k_si_j (by omega), k_si_s]
      · rw [k_si_s]
    · show k_su σ' _ (q_ref σ' (A + 1) s) _ _
      rw [hr s hs]
      exact su_oS (v_su V hs) SA AG (g.2.1 _)
    · show q_int (q_si (q_si (q_si (q_si h6 A 11 (nI (z 0 0))) A 12 (nI (z 0 1))) A 13 (nI (z 0 2))) A 14 (nI (z 0 3))) (A + (r - 1)) s = _
      rw [k_si_n (by omega), k_si_n (by omega), k_si_n (by omega), k_si_n (by omega), Q.2.2 (r - 1) (by omega) (by omega) s (by omega)]
      exact V.2.2.2.1 r s hr' hs
    · show q_int (q_si (q_si (q_si (q_si h6 A 11 (nI (z 0 0))) A 12 (nI (z 0 1))) A 13 (nI (z 0 2))) A 14 (nI (z 0 3))) (A + (r - 1)) s = _
      have := va_nb K
      rw [k_si_n (by omega), k_si_n (by omega), k_si_n (by omega), k_si_n (by omega), Q.2.2 (r - 1) (by omega) (by omega) s (by omega)]
      exact V.2.2.2.2 r s hr' hs
/-! the model's rows of the state, one behind the other -/
def k_loc (p : Nat) : Nat × Nat := if p < 4 then (0, if p = 0 then 0 else if p = 1 then 6 else if p = 2 then 13 else 14) else if p < 44 then (1 + (p - 4) % 5, (p - 4) / 5) else (6 + (p - 44) % 6, (p - 44) / 6)
def k_val (h : q_Hp) (m p : Nat) : Int32 := q_int h (m + (k_loc p).1) (k_loc p).2
theorem k_loc5 {s r : Nat} (hs : s < 8) (hr : r < 5) : k_loc (4 + 5 * s + r) = (1 + r, s) := by
  unfold k_loc
  rw [if_neg (by omega), if_pos (by omega)]
  have h1 : (4 + 5 * s + r - 4) % 5 = r := by omega
  have h2 : (4 + 5 * s + r - 4) / 5 = s := by omega
  rw [h1, h2]
theorem k_loc6 {s r : Nat} (hs : s < 7) (hr : r < 6) : k_loc (44 + 6 * s + r) = (6 + r, s) := by
  unfold k_loc
  rw [if_neg (by omega), if_neg (by omega)]
  have h1 : (44 + 6 * s + r - 44) % 6 = r := by omega
  have h2 : (44 + 6 * s + r - 44) / 6 = s := by omega
  rw [h1, h2]
set_option maxRecDepth 100000 in
theorem k_locJ : ∀ p, p < 86 → ∀ q, q < 86 → k_loc p = k_loc q → p = q := by decide +kernel
set_option maxRecDepth 100000 in
theorem k_locB : ∀ p, p < 86 → (k_loc p).1 ≤ 11 ∧ ((k_loc p).1 = 0 → (k_loc p).2 = 0 ∨ (k_loc p).2 = 6 ∨ (k_loc p).2 = 13 ∨ (k_loc p).2 = 14) := by decide +kernel
def k_Q (tk : Bool) (m t : Nat) (h1 : q_Hp) (p : Nat) (h' : q_Hp) : Prop := q_int h' m 32 = nI p ∧ q_int h' m 33 = (if tk then 1 else 0) ∧ (if tk then (k_mf [32, 33] [t] m h1 h' ∧ ∀ i, i < p → q_int h' (m + t) i = k_val h1 m i) else (k_mf [0, 6, 13, 14, 32, 33] [1, 2, 3, 4, 5, 6, 7, 8, 9, 10, 11] m h1 h' ∧ ∀ i, i < p → k_val h' m i = q_int h1 (m + t) i))
theorem k_si_id {h : q_Hp} {a i : Nat} {v : Int32} (e : q_int h a i = v) : q_si h a i v = h := by
  subst e
  have e1 : upd (h.1 a) i (q_int h a i) = h.1 a := by
    funext j
    unfold upd
    split
    · next e => subst e; rfl
    · rfl
  have e2 : va_up h.1 a (h.1 a) = h.1 := by
    funext x
    unfold va_up
    split
    · next e => subst e; rfl
    · rfl
  show (va_up h.1 a (upd (h.1 a) i (q_int h a i)), h.2) = h
  rw [e1, e2]
theorem m_step {σ : q_St} {h1 h' : q_Hp} {m t p c i a : Nat} {tk : Bool} (ht : t = 21 ∨ t = 22) (hT : q_ref σ m 34 = m + t) (tT : q_tag σ (m + t) = 7) (lT : q_len σ (m + t) = 90) (hp : p < 86) (hl : k_loc p = (c, i)) (ha : a = m + c) (Q : k_Q tk m t h1 p h') : k_ok (fX5_carry σ h' m (q_int h' a i)) (fun r => k_Q tk m t h1 (p + 1) (q_si r.2 a i r.1)) := by
  subst ha
  have hB := k_locB p hp
  rw [hl] at hB
  obtain ⟨b1, b2⟩ := hB
  dsimp only at b1 b2
  unfold fX5_carry
  rw [hT, q_gu_t tT, Q.1, Q.2.1, lT]
  cases tk with
  | true =>
    obtain ⟨q1, q2, q3, q4⟩ := Q
    replace q2 : q_int h' m 33 = 1 := q2
    rw [if_neg (by decide), q_gu_t (vp_in_nI (by omega) (by decide)), k_cl (by omega)]
    unfold fX5_carry_17
    rw [hT, lT]
    have e32 : q_int (q_si h' (m + t) p (q_int h' (m + c) i)) m 32 = nI p := by rw [k_si_n (by omega), q1]
    rw [e32, nI_1, k_si_s, nI_pred, q_gu_t (vp_in_nI (by omega) (by decide)), k_cl (by omega), k_si_n (by omega), k_si_s]
    refine k_some ?_
    have eid : q_si (q_si (q_si h' (m + t) p (q_int h' (m + c) i)) m 32 (nI (p + 1))) (m + c) i (q_int h' (m + c) i) = q_si (q_si h' (m + t) p (q_int h' (m + c) i)) m 32 (nI (p + 1)) := by
      apply k_si_id
      by_cases e : c = 0
      · subst e
        rw [Nat.add_zero m, k_si_j (by omega), k_si_n (by omega)]
      · rw [k_si_n (by omega), k_si_n (by omega)]
    show k_Q true m t h1 (p + 1) (q_si (q_si (q_si h' (m + t) p (q_int h' (m + c) i)) m 32 (nI (p + 1))) (m + c) i (q_int h' (m + c) i))
    rw [eid]
    refine ⟨k_si_s, ?_, ?_⟩
    · rw [k_si_j (by omega), k_si_n (by omega)]; exact q2
    · refine ⟨mf_fi (mf_ar q3 (by simp) (by omega)) (by decide), fun j hj => ?_⟩
      rw [k_si_n (by omega)]
      by_cases e : j = p
      · subst e
        rw [k_si_s]
        unfold k_val
        rw [hl]
        show q_int h' (m + c) i = q_int h1 (m + c) i
        by_cases e : c = 0
        · subst e
          rw [Nat.add_zero m]
          exact q3.2.1 i (by simp; omega)
        · exact mf_i q3 c (by omega) (by omega) (by simp; omega) i
      · rw [k_si_j e]
        exact q4 j (by omega)
  | false =>
    obtain ⟨q1, q2, q3, q4⟩ := Q
    replace q2 : q_int h' m 33 = 0 := q2
    rw [if_pos (show (if false = true then (1 : Int32) else 0) = 0 from rfl)]
    unfold fX5_carry_17
    rw [hT, lT, q1, nI_1, k_si_s, nI_pred, q_gu_t (vp_in_nI (by omega) (by decide)), k_cl (by omega), k_si_n (by omega)]
    refine k_some ?_
    show k_Q false m t h1 (p + 1) (q_si (q_si h' m 32 (nI (p + 1))) (m + c) i (q_int h' (m + t) p))
    have eT : q_int h' (m + t) p = q_int h1 (m + t) p := mf_i q3 t (by omega) (by omega) (by rcases ht with rfl | rfl <;> decide) p
    refine ⟨?_, ?_, ?_, fun j hj => ?_⟩
    · by_cases e : c = 0
      · subst e
        rw [Nat.add_zero m, k_si_j (by omega), k_si_s]
      · rw [k_si_n (by omega), k_si_s]
    · by_cases e : c = 0
      · subst e
        rw [Nat.add_zero m, k_si_j (by omega), k_si_j (by omega)]; exact q2
      · rw [k_si_n (by omega), k_si_j (by omega)]; exact q2
    · by_cases e : c = 0
      · subst e
        exact mf_fi (mf_fi q3 (by decide)) (by simp; omega)
      · exact mf_ar (mf_fi q3 (by decide)) (by simp; omega) (by omega)
    · unfold k_val
      by_cases e : j = p
      · subst e
        rw [hl, k_si_s]; exact eT
      · have hj86 : j < 86 := by omega
        have nl : k_loc j ≠ (c, i) := fun q => e (k_locJ j hj86 p hp (q.trans hl.symm))
        have hBj := k_locB j hj86
        have hv := q4 j (by omega)
        unfold k_val at hv
        rw [← hv]
        generalize k_loc j = l at nl hBj ⊢
        obtain ⟨l1, l2⟩ := l
        dsimp only at hBj ⊢
        by_cases e1 : l1 = c
        · subst e1
          have : l2 ≠ i := fun q => nl (by rw [q])
          rw [k_si_j this]
          by_cases e2 : l1 = 0
          · subst e2
            rw [Nat.add_zero m, k_si_j (by omega)]
          · rw [k_si_n (by omega)]
        · rw [k_si_n (by omega)]
          by_cases e2 : l1 = 0
          · subst e2
            rw [Nat.add_zero m, k_si_j (by omega)]
          · rw [k_si_n (by omega)]
theorem M_34 {σ : q_St} {m v : Nat} (M : k_M σ m) : k_M (q_sr σ m 34 v) m := ⟨M.1, fun p hp => by
  rw [k_sr_j (fun e => by
    have : ∀ p ∈ k_mr, p.1 ≠ 34 := by decide
    exact this p hp e)]
  exact M.2.1 p hp, M.2.2⟩
theorem m_carry {σ : q_St} {h : q_Hp} {m t : Nat} {tk : Bool} (M : k_M σ m) (ht : t = 21 ∨ t = 22) : k_ok (fX5_carryAll σ h m (m + t) (if tk then 1 else 0)) (fun r => r.1 = q_sr σ m 34 (m + t) ∧ k_Q tk m t h 86 r.2) := by
  have M' : k_M (q_sr σ m 34 (m + t)) m := M_34 M
  have hT : q_ref (q_sr σ m 34 (m + t)) m 34 = m + t := k_sr_s
  have tT : q_tag (q_sr σ m 34 (m + t)) (m + t) = 7 := by
    rcases ht with rfl | rfl
    · exact mt21 M'
    · exact mt22 M'
  have lT : q_len (q_sr σ m 34 (m + t)) (m + t) = 90 := by
    rcases ht with rfl | rfl
    · exact ml21 M'
    · exact ml22 M'
  unfold fX5_carryAll
  rw [q_gu_t (by cases tk <;> decide)]
  have Q0 : k_Q tk m t h 0 (q_si (q_si h m 33 (if tk then 1 else 0)) m 32 0) := by
    refine ⟨k_si_s, by rw [k_si_j (by omega), k_si_s], ?_⟩
    cases tk with
    | true => exact ⟨mf_fi (mf_fi mf_rf (by decide)) (by decide), fun i hi => absurd hi (Nat.not_lt_zero _)⟩
    | false => exact ⟨mf_fi (mf_fi mf_rf (by decide)) (by decide), fun i hi => absurd hi (Nat.not_lt_zero _)⟩
  generalize q_sr σ m 34 (m + t) = σ' at M' hT tT lT ⊢
  generalize q_si (q_si h m 33 (if tk then 1 else 0)) m 32 0 = h0 at Q0 ⊢
  refine k_b2 (m_step ht hT tT lT (p := 0) (c := 0) (i := 0) (a := m) (by decide) rfl rfl Q0) (fun r1 h1 Q1 => ?_)
  refine k_b2 (m_step ht hT tT lT (p := 1) (c := 0) (i := 6) (a := m) (by decide) rfl rfl Q1) (fun r2 h2 Q2 => ?_)
  refine k_b2 (m_step ht hT tT lT (p := 2) (c := 0) (i := 13) (a := m) (by decide) rfl rfl Q2) (fun r3 h3 Q3 => ?_)
  refine k_b2 (m_step ht hT tT lT (p := 3) (c := 0) (i := 14) (a := m) (by decide) rfl rfl Q3) (fun r4 h4 Q4 => ?_)
  refine k_bind (k_for (n := 8) (P := fun o => o.1 = σ' ∧ k_Q tk m t h 44 o.2) (fun s st => st.1 = nI s ∧ st.2.1 = σ' ∧ k_Q tk m t h (4 + 5 * s) st.2.2) (by rw [k_N]; omega) ⟨rfl, rfl, Q4⟩ ?_) ?_
  · rintro s ⟨x, σ2, h2⟩ hs ⟨e1, e2, Q⟩
    dsimp only at e1 e2 Q
    subst e1; subst e2
    show k_ok (fX5_carryAll_65 m (m + t) (if tk then 1 else 0) (nI s) σ2 h2) _
    unfold fX5_carryAll_65
    rcases Nat.lt_or_ge s 8 with q | q
    · rw [if_neg (k_geL (n := 8) (l := 8) rfl q (by decide))]
      simp only [mr1 M', mr2 M', mr3 M', mr4 M', mr5 M', mt0 M', mt1 M', mt2 M', mt3 M', mt4 M', mt5 M', ml1 M', ml2 M', ml3 M', ml4 M', ml5 M', and_self, k_guT, k_vi q (show 8 < 2147483648 by decide), k_cl (show s < 2147483648 by omega)]
      refine k_b2 (m_step ht hT tT lT (p := 4 + 5 * s + 0) (c := 1 + 0) (i := s) (a := m + 1) (by omega) (k_loc5 q (by decide)) (by omega) Q) (fun r30 h30 Q => ?_)
      refine k_b2 (m_step ht hT tT lT (p := 4 + 5 * s + 1) (c := 1 + 1) (i := s) (a := m + 2) (by omega) (k_loc5 q (by decide)) (by omega) Q) (fun r30 h30 Q => ?_)
      refine k_b2 (m_step ht hT tT lT (p := 4 + 5 * s + 2) (c := 1 + 2) (i := s) (a := m + 3) (by omega) (k_loc5 q (by decide)) (by omega) Q) (fun r30 h30 Q => ?_)
      refine k_b2 (m_step ht hT tT lT (p := 4 + 5 * s + 3) (c := 1 + 3) (i := s) (a := m + 4) (by omega) (k_loc5 q (by decide)) (by omega) Q) (fun r30 h30 Q => ?_)
      refine k_b2 (m_step ht hT tT lT (p := 4 + 5 * s + 4) (c := 1 + 4) (i := s) (a := m + 5) (by omega) (k_loc5 q (by decide)) (by omega) Q) (fun r30 h30 Q => ?_)
      rw [nI_1]
      refine k_some ⟨q, rfl, rfl, ?_⟩
      rw [show 4 + 5 * (s + 1) = 4 + 5 * s + 4 + 1 by omega]
      exact Q
    · have : s = 8 := by omega
      subst this
      rw [if_pos (k_leL (n := 8) (l := 8) rfl (by decide) (by decide))]
      exact k_some ⟨rfl, Q⟩
  rintro ⟨σ2, h5⟩ ⟨e1, Q5⟩
  dsimp only at e1 Q5
  subst e1
  refine k_bind (k_for (n := 7) (P := fun o => o.1 = σ2 ∧ k_Q tk m t h 86 o.2) (fun s st => st.1 = nI s ∧ st.2.1 = σ2 ∧ k_Q tk m t h (44 + 6 * s) st.2.2) (by rw [k_N]; omega) ⟨rfl, rfl, Q5⟩ ?_) (fun r hr => k_some hr)
  · rintro s ⟨x, σ3, h2⟩ hs ⟨e1, e2, Q⟩
    dsimp only at e1 e2 Q
    subst e1; subst e2
    show k_ok (fX5_carryAll_159 m (m + t) (if tk then 1 else 0) (nI s) σ3 h2) _
    unfold fX5_carryAll_159
    rcases Nat.lt_or_ge s 7 with q | q
    · rw [if_neg (k_geL (n := 7) (l := 7) rfl q (by decide))]
      simp only [mr7 M', mr8 M', mr9 M', mr10 M', mr11 M', mr12 M', mt0 M', mt6 M', mt7 M', mt8 M', mt9 M', mt10 M', mt11 M', ml6 M', ml7 M', ml8 M', ml9 M', ml10 M', ml11 M', and_self, k_guT, k_vi q (show 7 < 2147483648 by decide), k_cl (show s < 2147483648 by omega)]
      refine k_b2 (m_step ht hT tT lT (p := 44 + 6 * s + 0) (c := 6 + 0) (i := s) (a := m + 6) (by omega) (k_loc6 q (by decide)) (by omega) Q) (fun r30 h30 Q => ?_)
      refine k_b2 (m_step ht hT tT lT (p := 44 + 6 * s + 1) (c := 6 + 1) (i := s) (a := m + 7) (by omega) (k_loc6 q (by decide)) (by omega) Q) (fun r30 h30 Q => ?_)
      refine k_b2 (m_step ht hT tT lT (p := 44 + 6 * s + 2) (c := 6 + 2) (i := s) (a := m + 8) (by omega) (k_loc6 q (by decide)) (by omega) Q) (fun r30 h30 Q => ?_)
      refine k_b2 (m_step ht hT tT lT (p := 44 + 6 * s + 3) (c := 6 + 3) (i := s) (a := m + 9) (by omega) (k_loc6 q (by decide)) (by omega) Q) (fun r30 h30 Q => ?_)
      refine k_b2 (m_step ht hT tT lT (p := 44 + 6 * s + 4) (c := 6 + 4) (i := s) (a := m + 10) (by omega) (k_loc6 q (by decide)) (by omega) Q) (fun r30 h30 Q => ?_)
      refine k_b2 (m_step ht hT tT lT (p := 44 + 6 * s + 5) (c := 6 + 5) (i := s) (a := m + 11) (by omega) (k_loc6 q (by decide)) (by omega) Q) (fun r30 h30 Q => ?_)
      rw [nI_1]
      refine k_some ⟨q, rfl, rfl, ?_⟩
      rw [show 44 + 6 * (s + 1) = 44 + 6 * s + 5 + 1 by omega]
      exact Q
    · have : s = 7 := by omega
      subst this
      rw [if_pos (k_leL (n := 7) (l := 7) rfl (by decide) (by decide))]
      exact k_some ⟨rfl, Q⟩
/-- a row t that holds the state z -/
def k_I (h : q_Hp) (a : Nat) (z : k_Z) : Prop := (∀ j, j < 4 → q_int h a j = nI (z 0 j)) ∧ (∀ r s, 1 ≤ r ∧ r ≤ 5 → s < z 0 0 → q_int h a (4 + 5 * s + (r - 1)) = nI (z r s)) ∧ (∀ r s, 6 ≤ r ∧ r ≤ 11 → s < z 0 1 → q_int h a (44 + 6 * s + (r - 6)) = nI (z r s))
theorem k_locF {j : Nat} (hj : j < 4) : k_loc j = (0, if j = 0 then 0 else if j = 1 then 6 else if j = 2 then 13 else 14) := if_pos hj
theorem m_take {m t : Nat} {h h' : q_Hp} {z : k_Z} (W : k_W h m z) (K : k_va z) (Q : k_Q true m t h 86 h') : k_I h' (m + t) z ∧ k_mf [32, 33] [t] m h h' := by
  obtain ⟨-, -, q3, q4⟩ := Q
  have n7 := va_ns K
  have b7 := va_nb K
  refine ⟨⟨fun j hj => ?_, fun r s hr hs => ?_, fun r s hr hs => ?_⟩, q3⟩
  · rw [q4 j (by omega)]
    unfold k_val
    rw [k_locF hj]
    rcases (show j = 0 ∨ j = 1 ∨ j = 2 ∨ j = 3 by omega) with rfl | rfl | rfl | rfl
    · exact W.1.1
    · exact W.1.2.1
    · exact W.1.2.2.1
    · exact W.1.2.2.2
  · rw [q4 _ (by omega)]
    unfold k_val
    rw [k_loc5 (by omega) (by omega), show 1 + (r - 1) = r by omega]
    exact W.2.1 r s hr hs
  · rw [q4 _ (by omega)]
    unfold k_val
    rw [k_loc6 (by omega) (by omega), show 6 + (r - 6) = r by omega]
    exact W.2.2 r s hr hs
theorem m_lay {m t : Nat} {h h' : q_Hp} {z : k_Z} (I : k_I h (m + t) z) (K : k_va z) (Q : k_Q false m t h 86 h') : k_W h' m z ∧ k_mf [0, 6, 13, 14, 32, 33] [1, 2, 3, 4, 5, 6, 7, 8, 9, 10, 11] m h h' := by
  obtain ⟨-, -, q3, q4⟩ := Q
  have n7 := va_ns K
  have b7 := va_nb K
  have f : ∀ j, j < 4 → q_int h' m (k_loc j).2 = nI (z 0 j) := fun j hj => by
    have := q4 j (by omega)
    unfold k_val at this
    rw [k_locF hj] at this ⊢
    exact this.trans (I.1 j hj)
  refine ⟨⟨⟨f 0 (by decide), f 1 (by decide), f 2 (by decide), f 3 (by decide)⟩, fun r s hr hs => ?_, fun r s hr hs => ?_⟩, q3⟩
  · have := q4 (4 + 5 * s + (r - 1)) (by omega)
    unfold k_val at this
    rw [k_loc5 (by omega) (by omega), show 1 + (r - 1) = r by omega] at this
    exact this.trans (I.2.1 r s hr hs)
  · have := q4 (44 + 6 * s + (r - 6)) (by omega)
    unfold k_val at this
    rw [k_loc6 (by omega) (by omega), show 6 + (r - 6) = r by omega] at this
    exact this.trans (I.2.2 r s hr hs)
