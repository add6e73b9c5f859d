/-! fa_first and its rows stand so in the kit's starting texts -/
def fa_first (p : Nat → Bool) : Nat → Nat
  | 0 => 0
  | n + 1 => if fa_first p n < n then fa_first p n else if p n then n else n + 1
theorem fa_first_le (p : Nat → Bool) : ∀ n, fa_first p n ≤ n
  | 0 => Nat.le_refl 0
  | n + 1 => by
    have ih := fa_first_le p n
    unfold fa_first
    split
    · omega
    · split
      · omega
      · omega
theorem fa_first_no (p : Nat → Bool) : ∀ n k, k < fa_first p n → p k = false
  | 0, k, h => absurd h (Nat.not_lt_zero k)
  | n + 1, k, h => by
    have ih := fa_first_no p n
    have hl := fa_first_le p n
    unfold fa_first at h
    split at h
    · exact ih k h
    · rename_i h1
      split at h
      · exact ih k (by omega)
      · rename_i h2
        by_cases e : k = n
        · subst e
          exact Bool.eq_false_iff.mpr h2
        · exact ih k (by omega)
theorem fa_first_yes (p : Nat → Bool) : ∀ n, fa_first p n < n → p (fa_first p n) = true
  | 0, h => absurd h (Nat.not_lt_zero _)
  | n + 1, h => by
    have ih := fa_first_yes p n
    have hl := fa_first_le p n
    unfold fa_first at h ⊢
    split at h
    · rename_i h1
      rw [if_pos h1]
      exact ih h1
    · rename_i h1
      rw [if_neg h1]
      split at h
      · rename_i h2
        rw [if_pos h2]
        exact h2
      · omega
/-! how views change when a number is written; frames -/
/-- of the model's cells at most the fields L of m and the rows m + a with a in R are written -/
def k_mf (L R : List Nat) (m : Nat) (h h' : q_Hp) : Prop := (∀ a, ¬ (m ≤ a ∧ a ≤ m + 26) → h'.1 a = h.1 a ∧ h'.2 a = h.2 a) ∧ (∀ k, k ∉ L → q_int h' m k = q_int h m k) ∧ (∀ a, 1 ≤ a → a ≤ 26 → a ∉ R → h'.1 (m + a) = h.1 (m + a) ∧ h'.2 (m + a) = h.2 (m + a))
theorem mf_rf {L R : List Nat} {m : Nat} {h : q_Hp} : k_mf L R m h h := ⟨fun _ _ => ⟨rfl, rfl⟩, fun _ _ => rfl, fun _ _ _ _ => ⟨rfl, rfl⟩⟩
theorem mf_tr {L R : List Nat} {m : Nat} {h h1 h2 : q_Hp} (a : k_mf L R m h h1) (b : k_mf L R m h1 h2) : k_mf L R m h h2 :=
  ⟨fun x hx => ⟨(b.1 x hx).1.trans (a.1 x hx).1, (b.1 x hx).2.trans (a.1 x hx).2⟩, fun k hk => (b.2.1 k hk).trans (a.2.1 k hk), fun x h1 h2 hx => ⟨(b.2.2 x h1 h2 hx).1.trans (a.2.2 x h1 h2 hx).1, (b.2.2 x h1 h2 hx).2.trans (a.2.2 x h1 h2 hx).2⟩⟩
theorem mf_mono {L R L' R' : List Nat} {m : Nat} {h h1 : q_Hp} (a : k_mf L R m h h1) (e1 : ∀ x ∈ L, x ∈ L') (e2 : ∀ x ∈ R, x ∈ R') : k_mf L' R' m h h1 := ⟨a.1, fun k hk => a.2.1 k (fun q => hk (e1 k q)), fun x h1 h2 hx => a.2.2 x h1 h2 (fun q => hx (e2 x q))⟩
theorem mf_fi {L R : List Nat} {m k : Nat} {h h1 : q_Hp} {v : Int32} (a : k_mf L R m h h1) (hk : k ∈ L) : k_mf L R m h (q_si h1 m k v) := mf_tr a
  ⟨fun x hx => ⟨va_up_ne _ _ (fun e => hx (by omega)), rfl⟩, fun j hj => k_si_j (fun e => hj (e ▸ hk)), fun x h1 h2 _ => ⟨va_up_ne _ _ (by omega), rfl⟩⟩
theorem mf_ar {L R : List Nat} {m b i : Nat} {h h1 : q_Hp} {v : Int32} (a : k_mf L R m h h1) (hb : b ∈ R) (h1b : 1 ≤ b ∧ b ≤ 26) : k_mf L R m h (q_si h1 (m + b) i v) := mf_tr a
  ⟨fun x hx => ⟨va_up_ne _ _ (fun e => hx (by omega)), rfl⟩, fun j hj => k_si_n (by omega), fun x g1 g2 hx => ⟨va_up_ne _ _ (fun e => hx ((show x = b by omega) ▸ hb)), rfl⟩⟩
theorem mf_al {L R : List Nat} {m b i : Nat} {h h1 : q_Hp} {v : Int64} (a : k_mf L R m h h1) (hb : b ∈ R) (h1b : 1 ≤ b ∧ b ≤ 26) : k_mf L R m h (q_sj h1 (m + b) i v) := mf_tr a
  ⟨fun x hx => ⟨rfl, va_up_ne _ _ (fun e => hx (by omega))⟩, fun j hj => rfl, fun x g1 g2 hx => ⟨rfl, va_up_ne _ _ (fun e => hx ((show x = b by omega) ▸ hb))⟩⟩
theorem mf_i {L R : List Nat} {m : Nat} {h h1 : q_Hp} (a : k_mf L R m h h1) (b : Nat) (g1 : 1 ≤ b) (g2 : b ≤ 26) (hb : b ∉ R) (i : Nat) : q_int h1 (m + b) i = q_int h (m + b) i := congrFun (a.2.2 b g1 g2 hb).1 i
theorem mf_l {L R : List Nat} {m : Nat} {h h1 : q_Hp} (a : k_mf L R m h h1) (b : Nat) (g1 : 1 ≤ b) (g2 : b ≤ 26) (hb : b ∉ R) (i : Nat) : q_lng h1 (m + b) i = q_lng h (m + b) i := congrFun (a.2.2 b g1 g2 hb).2 i
theorem W_mf {L R : List Nat} {m : Nat} {h h1 : q_Hp} {z : k_Z} (W : k_W h m z) (a : k_mf L R m h h1) (e1 : 0 ∉ L ∧ 6 ∉ L ∧ 13 ∉ L ∧ 14 ∉ L) (e2 : ∀ r, 1 ≤ r → r ≤ 11 → r ∉ R) : k_W h1 m z := by
  refine ⟨⟨?_, ?_, ?_, ?_⟩, fun r s hr hs => ?_, fun r s hr hs => ?_⟩
  · rw [a.2.1 0 e1.1]; exact W.1.1
  · rw [a.2.1 6 e1.2.1]; exact W.1.2.1
  · rw [a.2.1 13 e1.2.2.1]; exact W.1.2.2.1
  · rw [a.2.1 14 e1.2.2.2]; exact W.1.2.2.2
  · rw [mf_i a r hr.1 (by omega) (e2 r hr.1 (by omega))]; exact W.2.1 r s hr hs
  · rw [mf_i a r (by omega) (by omega) (e2 r (by omega) hr.2)]; exact W.2.2 r s hr hs
theorem k_zu_comm {z : k_Z} {r i v r' i' v' : Nat} (n : ¬ (r = r' ∧ i = i')) : k_zu (k_zu z r i v) r' i' v' = k_zu (k_zu z r' i' v') r i v := by
  funext a b
  unfold k_zu
  by_cases h1 : a = r' ∧ b = i'
  · rw [if_pos h1]
    by_cases h2 : a = r ∧ b = i
    · exact absurd ⟨h2.1 ▸ h1.1, h2.2 ▸ h1.2⟩ n
    · rw [if_neg h2, if_pos h1]
  · rw [if_neg h1, if_neg h1]
theorem V_put {σ : q_St} {h : q_Hp} {A : Nat} {z : k_Z} (V : k_V σ h A z) {r i v : Nat} (hr : 3 ≤ r ∧ r ≤ 11) : k_V σ (q_si h (A + (r - 1)) i (nI v)) A (k_zu z r i v) := by
  have tg : q_tag σ (A + (r - 1)) = 7 := ((vS V).2.2.2.2.1 (r - 1) (by omega)).1
  have e0 : ∀ j, k_zu z r i v 0 j = z 0 j := fun j => k_zu_r (by omega)
  refine ⟨vS V, fun j hj => ?_, fun s hs => ?_, fun r' s hr' hs => ?_, fun r' s hr' hs => ?_⟩
  · rw [k_si_n (by omega), e0]; exact V.2.1 j hj
  · rw [e0] at hs
    have U := v_su V hs
    rw [k_zu_r (by omega), k_zu_r (by omega)]
    refine su_mv U rfl (fun j => k_si_n (fun e => ?_))
    have := sut U
    rw [e, tg] at this
    exact absurd this (by decide)
  · rw [e0] at hs
    by_cases e : r' = r
    · subst e
      by_cases e2 : s = i
      · subst e2; rw [k_si_s, k_zu_s]
      · rw [k_si_j e2, k_zu_n (fun q => e2 q.2)]; exact V.2.2.2.1 r' s hr' hs
    · rw [k_si_n (by omega), k_zu_r e]; exact V.2.2.2.1 r' s hr' hs
  · rw [e0] at hs
    by_cases e : r' = r
    · subst e
      by_cases e2 : s = i
      · subst e2; rw [k_si_s, k_zu_s]
      · rw [k_si_j e2, k_zu_n (fun q => e2 q.2)]; exact V.2.2.2.2 r' s hr' hs
    · rw [k_si_n (by omega), k_zu_r e]; exact V.2.2.2.2 r' s hr' hs
theorem V_sc {σ : q_St} {h : q_Hp} {A : Nat} {z : k_Z} (V : k_V σ h A z) {j v : Nat} (hj : j = 2 ∨ j = 3) : k_V σ (q_si h A (11 + j) (nI v)) A (k_zu z 0 j v) := by
  have e0 : k_zu z 0 j v 0 0 = z 0 0 := k_zu_n (by omega)
  have e1 : k_zu z 0 j v 0 1 = z 0 1 := k_zu_n (by omega)
  refine ⟨vS V, fun i hi => ?_, fun s hs => ?_, fun r' s hr' hs => ?_, fun r' s hr' hs => ?_⟩
  · by_cases e : i = j
    · subst e; rw [k_si_s, k_zu_s]
    · rw [k_si_j (by omega), k_zu_n (fun q => e q.2)]; exact V.2.1 i hi
  · rw [e0] at hs
    have U := v_su V hs
    rw [k_zu_r (by omega), k_zu_r (by omega)]
    refine su_mv U rfl (fun j => k_si_n (fun e => ?_))
    have := sut U
    rw [e, st0 (vS V)] at this
    exact absurd this (by decide)
  · rw [e0] at hs
    rw [k_si_n (by omega), k_zu_r (by omega)]; exact V.2.2.2.1 r' s hr' hs
  · rw [e1] at hs
    rw [k_si_n (by omega), k_zu_r (by omega)]; exact V.2.2.2.2 r' s hr' hs
/-- one suit more: its numbers stand there already -/
theorem V_ns {σ : q_St} {h : q_Hp} {A : Nat} {z : k_Z} (V : k_V σ h A z) (U : k_su σ h (q_ref σ (A + 1) (z 0 0)) (z 1 (z 0 0)) (z 2 (z 0 0))) (g : ∀ r, 3 ≤ r → r ≤ 5 → q_int h (A + (r - 1)) (z 0 0) = nI (z r (z 0 0))) : k_V σ (q_si h A 11 (nI (z 0 0 + 1))) A (k_zu z 0 0 (z 0 0 + 1)) := by
  have hsu : ∀ s, s < z 0 0 + 1 → k_su σ h (q_ref σ (A + 1) s) (z 1 s) (z 2 s) := fun s hs => by
    rcases Nat.lt_or_ge s (z 0 0) with q | q
    · exact v_su V q
    · have : s = z 0 0 := by omega
      subst this; exact U
  refine ⟨vS V, fun i hi => ?_, fun s hs => ?_, fun r' s hr' hs => ?_, fun r' s hr' hs => ?_⟩
  · by_cases e : i = 0
    · subst e; rw [k_si_s, k_zu_s]
    · rw [k_si_j (by omega), k_zu_n (fun q => e q.2)]; exact V.2.1 i hi
  · rw [k_zu_s] at hs
    rw [k_zu_r (by omega), k_zu_r (by omega)]
    refine su_mv (hsu s hs) rfl (fun j => k_si_n (fun e => ?_))
    have := sut (hsu s hs)
    rw [e, st0 (vS V)] at this
    exact absurd this (by decide)
  · rw [k_zu_s] at hs
    rw [k_si_n (by omega), k_zu_r (by omega)]
    rcases Nat.lt_or_ge s (z 0 0) with q | q
    · exact V.2.2.2.1 r' s hr' q
    · have : s = z 0 0 := by omega
      subst this; exact g r' hr'.1 hr'.2
  · rw [k_zu_n (by omega)] at hs
    rw [k_si_n (by omega), k_zu_r (by omega)]; exact V.2.2.2.2 r' s hr' hs
theorem V_nb {σ : q_St} {h : q_Hp} {A : Nat} {z : k_Z} (V : k_V σ h A z) (g : ∀ r, 6 ≤ r → r ≤ 11 → q_int h (A + (r - 1)) (z 0 1) = nI (z r (z 0 1))) : k_V σ (q_si h A 12 (nI (z 0 1 + 1))) A (k_zu z 0 1 (z 0 1 + 1)) := by
  refine ⟨vS V, fun i hi => ?_, fun s hs => ?_, fun r' s hr' hs => ?_, fun r' s hr' hs => ?_⟩
  · by_cases e : i = 1
    · subst e; rw [k_si_s, k_zu_s]
    · rw [k_si_j (by omega), k_zu_n (fun q => e q.2)]; exact V.2.1 i hi
  · rw [k_zu_n (by omega)] at hs
    have U := v_su V hs
    rw [k_zu_r (by omega), k_zu_r (by omega)]
    refine su_mv U rfl (fun j => k_si_n (fun e => ?_))
    have := sut U
    rw [e, st0 (vS V)] at this
    exact absurd this (by decide)
  · rw [k_zu_n (by omega)] at hs
    rw [k_si_n (by omega), k_zu_r (by omega)]; exact V.2.2.2.1 r' s hr' hs
  · rw [k_zu_s] at hs
    rw [k_si_n (by omega), k_zu_r (by omega)]
    rcases Nat.lt_or_ge s (z 0 1) with q | q
    · exact V.2.2.2.2 r' s hr' q
    · have : s = z 0 1 := by omega
      subst this; exact g r' hr'.1 hr'.2
theorem W_put {h : q_Hp} {m : Nat} {z : k_Z} (W : k_W h m z) {r i v : Nat} (hr : 1 ≤ r ∧ r ≤ 11) : k_W (q_si h (m + r) i (nI v)) m (k_zu z r i v) := by
  have e0 : ∀ j, k_zu z r i v 0 j = z 0 j := fun j => k_zu_r (by omega)
  refine ⟨⟨?_, ?_, ?_, ?_⟩, fun r' s hr' hs => ?_, fun r' s hr' hs => ?_⟩
  · rw [k_si_n (by omega), e0]; exact W.1.1
  · rw [k_si_n (by omega), e0]; exact W.1.2.1
  · rw [k_si_n (by omega), e0]; exact W.1.2.2.1
  · rw [k_si_n (by omega), e0]; exact W.1.2.2.2
  · rw [e0] at hs
    by_cases e : r' = r
    · subst e
      by_cases e2 : s = i
      · subst e2; rw [k_si_s, k_zu_s]
      · rw [k_si_j e2, k_zu_n (fun q => e2 q.2)]; exact W.2.1 r' s hr' hs
    · rw [k_si_n (by omega), k_zu_r e]; exact W.2.1 r' s hr' hs
  · rw [e0] at hs
    by_cases e : r' = r
    · subst e
      by_cases e2 : s = i
      · subst e2; rw [k_si_s, k_zu_s]
      · rw [k_si_j e2, k_zu_n (fun q => e2 q.2)]; exact W.2.2 r' s hr' hs
    · rw [k_si_n (by omega), k_zu_r e]; exact W.2.2 r' s hr' hs
theorem W_pe {h : q_Hp} {m : Nat} {z : k_Z} (W : k_W h m z) {v : Nat} : k_W (q_si h m 13 (nI v)) m (k_zu z 0 2 v) := by
  refine ⟨⟨?_, ?_, ?_, ?_⟩, fun r' s hr' hs => ?_, fun r' s hr' hs => ?_⟩
  · rw [k_si_j (by omega), k_zu_n (by omega)]; exact W.1.1
  · rw [k_si_j (by omega), k_zu_n (by omega)]; exact W.1.2.1
  · rw [k_si_s, k_zu_s]
  · rw [k_si_j (by omega), k_zu_n (by omega)]; exact W.1.2.2.2
  · rw [k_zu_n (by omega)] at hs
    rw [k_si_n (by omega), k_zu_r (by omega)]; exact W.2.1 r' s hr' hs
  · rw [k_zu_n (by omega)] at hs
    rw [k_si_n (by omega), k_zu_r (by omega)]; exact W.2.2 r' s hr' hs
theorem W_ho {h : q_Hp} {m : Nat} {z : k_Z} (W : k_W h m z) {v : Nat} : k_W (q_si h m 14 (nI v)) m (k_zu z 0 3 v) := by
  refine ⟨⟨?_, ?_, ?_, ?_⟩, fun r' s hr' hs => ?_, fun r' s hr' hs => ?_⟩
  · rw [k_si_j (by omega), k_zu_n (by omega)]; exact W.1.1
  · rw [k_si_j (by omega), k_zu_n (by omega)]; exact W.1.2.1
  · rw [k_si_j (by omega), k_zu_n (by omega)]; exact W.1.2.2.1
  · rw [k_si_s, k_zu_s]
  · rw [k_zu_n (by omega)] at hs
    rw [k_si_n (by omega), k_zu_r (by omega)]; exact W.2.1 r' s hr' hs
  · rw [k_zu_n (by omega)] at hs
    rw [k_si_n (by omega), k_zu_r (by omega)]; exact W.2.2 r' s hr' hs
theorem W_ns {h : q_Hp} {m : Nat} {z : k_Z} (W : k_W h m z) (g : ∀ r, 1 ≤ r → r ≤ 5 → q_int h (m + r) (z 0 0) = nI (z r (z 0 0))) : k_W (q_si h m 0 (nI (z 0 0 + 1))) m (k_zu z 0 0 (z 0 0 + 1)) := by
  refine ⟨⟨?_, ?_, ?_, ?_⟩, fun r' s hr' hs => ?_, fun r' s hr' hs => ?_⟩
  · rw [k_si_s, k_zu_s]
  · rw [k_si_j (by omega), k_zu_n (by omega)]; exact W.1.2.1
  · rw [k_si_j (by omega), k_zu_n (by omega)]; exact W.1.2.2.1
  · rw [k_si_j (by omega), k_zu_n (by omega)]; exact W.1.2.2.2
  · rw [k_zu_s] at hs
    rw [k_si_n (by omega), k_zu_r (by omega)]
    rcases Nat.lt_or_ge s (z 0 0) with q | q
    · exact W.2.1 r' s hr' q
    · have : s = z 0 0 := by omega
      subst this; exact g r' hr'.1 hr'.2
  · rw [k_zu_n (by omega)] at hs
    rw [k_si_n (by omega), k_zu_r (by omega)]; exact W.2.2 r' s hr' hs
theorem W_nb {h : q_Hp} {m : Nat} {z : k_Z} (W : k_W h m z) (g : ∀ r, 6 ≤ r → r ≤ 11 → q_int h (m + r) (z 0 1) = nI (z r (z 0 1))) : k_W (q_si h m 6 (nI (z 0 1 + 1))) m (k_zu z 0 1 (z 0 1 + 1)) := by
  refine ⟨⟨?_, ?_, ?_, ?_⟩, fun r' s hr' hs => ?_, fun r' s hr' hs => ?_⟩
  · rw [k_si_j (by omega), k_zu_n (by omega)]; exact W.1.1
  · rw [k_si_s, k_zu_s]
  · rw [k_si_j (by omega), k_zu_n (by omega)]; exact W.1.2.2.1
  · rw [k_si_j (by omega), k_zu_n (by omega)]; exact W.1.2.2.2
  · rw [k_zu_n (by omega)] at hs
    rw [k_si_n (by omega), k_zu_r (by omega)]; exact W.2.1 r' s hr' hs
  · rw [k_zu_s] at hs
    rw [k_si_n (by omega), k_zu_r (by omega)]
    rcases Nat.lt_or_ge s (z 0 1) with q | q
    · exact W.2.2 r' s hr' q
    · have : s = z 0 1 := by omega
      subst this; exact g r' hr'.1 hr'.2
/-! hired, brought back, cleaned: the state's side -/
def k_hire (z : k_Z) (s b : Nat) : k_Z := k_zu (k_zu (k_zu (k_zu z 5 s 1) 11 b s) 4 s (min (z 4 s + 1) 99)) 0 2 (z 0 2 + k_pr (z 1 s) (z 2 s))
def k_holder (z : k_Z) (s : Nat) : Nat := fa_first (fun b => z 11 b == s) (z 0 1)
def k_back (z : k_Z) (s : Nat) : k_Z := k_zu (k_zu z 5 s 2) 11 (k_holder z s) 9
def k_clean (z : k_Z) (s : Nat) : k_Z := k_zu (k_zu z 5 s 0) 0 3 (z 0 3 + k_ch (z 1 s) (z 2 s))
def k_newS (z : k_Z) (k f sz wo : Nat) : k_Z := k_zu (k_zu (k_zu (k_zu (k_zu (k_zu z 1 (z 0 0) k) 2 (z 0 0) f) 3 (z 0 0) sz) 4 (z 0 0) wo) 5 (z 0 0) 0) 0 0 (z 0 0 + 1)
def k_newB (z : k_Z) (a g x y w : Nat) : k_Z := k_zu (k_zu (k_zu (k_zu (k_zu (k_zu (k_zu z 6 (z 0 1) a) 7 (z 0 1) g) 8 (z 0 1) x) 9 (z 0 1) y) 10 (z 0 1) w) 11 (z 0 1) 9) 0 1 (z 0 1 + 1)
theorem va_hire {z : k_Z} (K : k_va z) {s b : Nat} (hs : s < z 0 0) (hb : b < z 0 1) (h9 : z 11 b = 9) (hc : k_can z s b (z 0 2) = true) : k_va (k_hire z s b) := by
  unfold k_can at hc
  simp only [Bool.and_eq_true, beq_iff_eq, decide_eq_true_eq] at hc
  obtain ⟨⟨st, -⟩, pe⟩ := hc
  refine ⟨⟨?_, ?_, ?_, ?_⟩, fun t ht => ?_, fun c hc => ?_, fun c d hc hd e n => ?_, fun t ht e => ?_⟩
  · simp [k_hire, k_zu]; exact va_ns K
  · simp [k_hire, k_zu]; exact va_nb K
  · simp [k_hire, k_zu]; exact pe
  · simp [k_hire, k_zu]; exact va_ho K
  · simp [k_hire, k_zu] at ht ⊢
    have := K.2.1 t ht
    refine ⟨this.1, this.2.1, this.2.2.1, ?_, ?_⟩
    · split <;> omega
    · split <;> omega
  · simp [k_hire, k_zu] at hc ⊢
    have := K.2.2.1 c hc
    refine ⟨this.1, this.2.1, this.2.2.1, this.2.2.2.1, this.2.2.2.2.1, ?_⟩
    by_cases e : c = b
    · subst e; simp; exact Or.inr hs
    · simp [e]
      rcases this.2.2.2.2.2 with q | q
      · exact Or.inl q
      · exact Or.inr ⟨q.1, fun _ => q.2⟩
  · simp [k_hire, k_zu] at hc hd e n
    by_cases e1 : c = b <;> by_cases e2 : d = b
    · rw [e1, e2]
    · exfalso
      simp [e1, e2] at e
      rcases va_ha K hd with q | q
      · have := va_ns K; omega
      · rw [← e] at q; omega
    · exfalso
      simp [e1, e2] at e n
      rcases va_ha K hc with q | q
      · omega
      · rw [e] at q; omega
    · simp [e1, e2] at e n
      exact K.2.2.2.1 c d hc hd e n
  · simp [k_hire, k_zu] at ht e ⊢
    by_cases e1 : t = s
    · subst e1; exact ⟨b, hb, by simp⟩
    · obtain ⟨c, hc, ec⟩ := K.2.2.2.2 t ht (by simpa [e1] using e)
      refine ⟨c, hc, ?_⟩
      have : c ≠ b := fun q => by subst q; have := va_ns K; omega
      simp [this, ec]
theorem k_holds {z : k_Z} (K : k_va z) {s : Nat} (hs : s < z 0 0) (h1 : z 5 s = 1) : k_holder z s < z 0 1 ∧ z 11 (k_holder z s) = s := by
  obtain ⟨b, hb, e⟩ := K.2.2.2.2 s hs h1
  have hlt : k_holder z s < z 0 1 := by
    rcases Nat.lt_or_ge (k_holder z s) (z 0 1) with q | q
    · exact q
    · have := fa_first_no (fun b => z 11 b == s) (z 0 1) b (by unfold k_holder at q; omega)
      simp [e] at this
  have := fa_first_yes (fun b => z 11 b == s) (z 0 1) hlt
  exact ⟨hlt, eq_of_beq this⟩
theorem va_back {z : k_Z} (K : k_va z) {s : Nat} (hs : s < z 0 0) (h1 : z 5 s = 1) : k_va (k_back z s) := by
  obtain ⟨hb, hz⟩ := k_holds K hs h1
  unfold k_back
  generalize k_holder z s = b at hb hz ⊢
  refine ⟨⟨?_, ?_, ?_, ?_⟩, fun t ht => ?_, fun c hc => ?_, fun c d hc hd e n => ?_, fun t ht e => ?_⟩
  · simp [k_zu]; exact va_ns K
  · simp [k_zu]; exact va_nb K
  · simp [k_zu]; exact va_pe K
  · simp [k_zu]; exact va_ho K
  · simp [k_zu] at ht ⊢
    have := K.2.1 t ht
    refine ⟨this.1, this.2.1, this.2.2.1, this.2.2.2.1, ?_⟩
    split <;> omega
  · simp [k_zu] at hc ⊢
    have := K.2.2.1 c hc
    refine ⟨this.1, this.2.1, this.2.2.1, this.2.2.2.1, this.2.2.2.2.1, ?_⟩
    by_cases e : c = b
    · subst e; simp
    · simp [e]
      rcases this.2.2.2.2.2 with q | q
      · exact Or.inl q
      · refine Or.inr ⟨q.1, ?_⟩
        have : z 11 c ≠ s := fun q2 => e (K.2.2.2.1 c b hc hb (by rw [q2, hz]) (by have := va_ns K; omega))
        simp [this, q.2]
  · simp [k_zu] at hc hd e n
    by_cases e1 : c = b <;> by_cases e2 : d = b
    · rw [e1, e2]
    · exfalso
      simp [e1] at n
    · exfalso
      simp [e1, e2] at e n
      exact n e
    · simp [e1, e2] at e n
      exact K.2.2.2.1 c d hc hd e n
  · simp [k_zu] at ht e ⊢
    have e1 : t ≠ s := fun q => by simp [q] at e
    obtain ⟨c, hc, ec⟩ := K.2.2.2.2 t ht (by simpa [e1] using e)
    refine ⟨c, hc, ?_⟩
    have : c ≠ b := fun q => by subst q; omega
    simp [this, ec]
theorem va_clean {z : k_Z} (K : k_va z) {s : Nat} (hs : s < z 0 0) (h2 : z 5 s = 2) (hh : z 0 3 + k_ch (z 1 s) (z 2 s) ≤ 999) : k_va (k_clean z s) := by
  unfold k_clean
  refine ⟨⟨?_, ?_, ?_, ?_⟩, fun t ht => ?_, fun c hc => ?_, fun c d hc hd e n => ?_, fun t ht e => ?_⟩
  · simp [k_zu]; exact va_ns K
  · simp [k_zu]; exact va_nb K
  · simp [k_zu]; exact va_pe K
  · simp [k_zu]; exact hh
  · simp [k_zu] at ht ⊢
    have := K.2.1 t ht
    refine ⟨this.1, this.2.1, this.2.2.1, this.2.2.2.1, ?_⟩
    split <;> omega
  · simp [k_zu] at hc ⊢
    have := K.2.2.1 c hc
    refine ⟨this.1, this.2.1, this.2.2.1, this.2.2.2.1, this.2.2.2.2.1, ?_⟩
    rcases this.2.2.2.2.2 with q | q
    · exact Or.inl q
    · refine Or.inr ⟨q.1, ?_⟩
      have : z 11 c ≠ s := fun q2 => by rw [q2] at q; omega
      simp [this, q.2]
  · simp [k_zu] at hc hd e n
    exact K.2.2.2.1 c d hc hd e n
  · simp [k_zu] at ht e ⊢
    have e1 : t ≠ s := fun q => by simp [q] at e
    exact K.2.2.2.2 t ht (by simpa [e1] using e)
theorem va_newS {z : k_Z} (K : k_va z) {k f sz wo : Nat} (h7 : z 0 0 < 7) (hk : k < 8) (hf : f < 10) (hz : sz ≤ 20) (hw : wo ≤ 99) : k_va (k_newS z k f sz wo) := by
  unfold k_newS
  refine ⟨⟨?_, ?_, ?_, ?_⟩, fun t ht => ?_, fun c hc => ?_, fun c d hc hd e n => ?_, fun t ht e => ?_⟩
  · simp [k_zu]; omega
  · simp [k_zu]; exact va_nb K
  · simp [k_zu]; exact va_pe K
  · simp [k_zu]; exact va_ho K
  · simp [k_zu] at ht ⊢
    by_cases e : t = z 0 0
    · simp [e]; omega
    · simp [e]; exact K.2.1 t (by omega)
  · simp [k_zu] at hc ⊢
    have := K.2.2.1 c hc
    refine ⟨this.1, this.2.1, this.2.2.1, this.2.2.2.1, this.2.2.2.2.1, ?_⟩
    rcases this.2.2.2.2.2 with q | q
    · exact Or.inl q
    · refine Or.inr ⟨by omega, ?_⟩
      have : z 11 c ≠ z 0 0 := by omega
      simp [this, q.2]
  · simp [k_zu] at hc hd e n
    exact K.2.2.2.1 c d hc hd e n
  · simp [k_zu] at ht e ⊢
    by_cases e1 : t = z 0 0
    · simp [e1] at e
    · simp [e1] at e
      exact K.2.2.2.2 t (by omega) e
theorem va_newB {z : k_Z} (K : k_va z) {a g x y w : Nat} (h7 : z 0 1 < 7) (ha : a ≤ 20) (hg : g ≤ 3) (hx : x ≤ 9) (hy : y ≤ 9) (hw : w ≤ 9) : k_va (k_newB z a g x y w) := by
  unfold k_newB
  refine ⟨⟨?_, ?_, ?_, ?_⟩, fun t ht => ?_, fun c hc => ?_, fun c d hc hd e n => ?_, fun t ht e => ?_⟩
  · simp [k_zu]; exact va_ns K
  · simp [k_zu]; omega
  · simp [k_zu]; exact va_pe K
  · simp [k_zu]; exact va_ho K
  · simp [k_zu] at ht ⊢
    exact K.2.1 t ht
  · simp [k_zu] at hc ⊢
    by_cases e : c = z 0 1
    · simp [e]; omega
    · simp [e]; exact K.2.2.1 c (by omega)
  · simp [k_zu] at hc hd e n
    by_cases e1 : c = z 0 1 <;> by_cases e2 : d = z 0 1
    · rw [e1, e2]
    · exfalso
      simp [e1] at n
    · exfalso
      simp [e1, e2] at e n
      exact n e
    · simp [e1, e2] at e n
      exact K.2.2.2.1 c d (by omega) (by omega) e n
  · simp [k_zu] at ht e ⊢
    obtain ⟨c, hc, ec⟩ := K.2.2.2.2 t ht e
    exact ⟨c, by omega, by have : c ≠ z 0 1 := by omega
                           simp [this, ec]⟩
