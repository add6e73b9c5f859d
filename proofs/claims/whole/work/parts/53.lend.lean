/-! one suit more: at 7 with the class, behind the last with the model -/
theorem g_top_perm {E : Nat → Nat → Bool} {w f : Nat → Nat} (hf : ∀ s, s < 8 → f s < 8 ∧ f (f s) = s) : g_top (fun s b => E (f s) b) (fun s => w (f s)) ≤ g_top E w := by
  obtain ⟨-, so, bo, H, e⟩ := g_isT (E := fun s b => E (f s) b) (w := fun s => w (f s))
  rw [← e]
  have H' : g_MM E (fun b => if so b = 9 then 9 else f (so b)) (fun s => bo (f s)) := by
    refine ⟨fun b hb => ?_, fun s hs => ?_⟩
    · dsimp only
      by_cases q : so b = 9
      · rw [if_pos q]; exact Or.inl rfl
      · rw [if_neg q]
        obtain ⟨h1, h2, h3⟩ := (H.1 b hb).resolve_left q
        exact Or.inr ⟨(hf _ h1).1, by rw [(hf _ h1).2]; exact h2, h3⟩
    · dsimp only
      rcases H.2 (f s) (hf s hs).1 with q | ⟨h1, h2⟩
      · exact Or.inl q
      · refine Or.inr ⟨h1, ?_⟩
        have := (hf s hs).1
        rw [h2, if_neg (by omega), (hf s hs).2]
  refine Nat.le_trans (Nat.le_of_eq ?_) ((g_isT (E := E) (w := w)).1 _ _ H')
  unfold g_v
  have s1 := g_sum H (fun s => w (f s))
  have s2 := g_sum H' w
  rw [← s1, ← s2]
  refine k_sm_cong (fun b hb => ?_)
  by_cases q : so b = 9
  · rw [if_pos q, if_pos q, if_pos rfl]
  · obtain ⟨h1, -, -⟩ := (H.1 b hb).resolve_left q
    have := (hf _ h1).1
    rw [if_neg q, if_neg q, if_neg (by omega)]
theorem g_top_cgw {E : Nat → Nat → Bool} {w w' : Nat → Nat} (h : ∀ s, s < 8 → w s = w' s) : g_top E w = g_top E w' := by
  have hv : ∀ bo, g_v w bo = g_v w' bo := fun bo => k_sm_cong (fun s hs => by rw [h s hs])
  obtain ⟨a, so, bo, H, e⟩ := g_isT (E := E) (w := w)
  exact g_is_u ⟨fun so bo H => by rw [← hv]; exact a so bo H, so, bo, H, by rw [← hv]; exact e⟩ g_isT
theorem g_top_permE {E : Nat → Nat → Bool} {w f : Nat → Nat} (hf : ∀ s, s < 8 → f s < 8 ∧ f (f s) = s) : g_top (fun s b => E (f s) b) (fun s => w (f s)) = g_top E w := by
  apply Nat.le_antisymm (g_top_perm hf)
  have h2 := g_top_perm (E := fun s b => E (f s) b) (w := fun s => w (f s)) (f := f) hf
  have e : g_top (fun s b => E (f (f s)) b) (fun s => w (f (f s))) = g_top E w := by
    rw [g_top_cg (E' := E) (fun s b hs _ => by rw [(hf s hs).2])]
    exact g_top_cgw (fun s hs => by rw [(hf s hs).2])
  rw [e] at h2
  exact h2
theorem g_top_one {E E0 : Nat → Nat → Bool} {w : Nat → Nat} {e : Nat} (he : e < 8) (h : ∀ s b, s < 8 → s ≠ e → E s b = true → E0 s b = true) : g_top E w ≤ g_top E0 w + w e := by
  obtain ⟨-, so, bo, H, ev⟩ := g_isT (E := E) (w := w)
  rw [← ev]
  have H' : g_MM E0 (fun b => if so b = e then 9 else so b) (fun s => if s = e then 9 else bo s) := by
    refine ⟨fun b hb => ?_, fun s hs => ?_⟩
    · dsimp only
      by_cases q : so b = e
      · rw [if_pos q]; exact Or.inl rfl
      · rw [if_neg q]
        rcases H.1 b hb with h1 | ⟨h1, h2, h3⟩
        · exact Or.inl h1
        · exact Or.inr ⟨h1, by rw [if_neg q]; exact h2, h _ _ h1 q h3⟩
    · dsimp only
      by_cases q : s = e
      · rw [if_pos q]; exact Or.inl rfl
      · rw [if_neg q]
        rcases H.2 s hs with h1 | ⟨h1, h2⟩
        · exact Or.inl h1
        · exact Or.inr ⟨h1, by rw [h2, if_neg q]⟩
  have le := (g_isT (E := E0) (w := w)).1 _ _ H'
  have add : g_v w bo ≤ g_v w (fun s => if s = e then 9 else bo s) + w e := by
    unfold g_v
    have : ∀ n, k_sm (fun s => if bo s = 9 then 0 else w s) n ≤ k_sm (fun s => if (if s = e then 9 else bo s) = 9 then 0 else w s) n + (if e < n then w e else 0) := by
      intro n
      induction n with
      | zero => exact Nat.zero_le _
      | succ n ih =>
        show k_sm _ n + (if bo n = 9 then 0 else w n) ≤ k_sm _ n + (if (if n = e then 9 else bo n) = 9 then 0 else w n) + _
        by_cases q : n = e
        · subst q
          rw [if_neg (Nat.lt_irrefl n)] at ih
          rw [if_pos rfl, if_pos rfl, if_pos (Nat.lt_succ_self n)]
          split <;> omega
        · rw [if_neg q]
          by_cases l : e < n
          · rw [if_pos l] at ih
            rw [if_pos (show e < n + 1 by omega)]; omega
          · rw [if_neg l] at ih
            rw [if_neg (show ¬ e < n + 1 by omega)]; omega
    have t := this 8
    rw [if_pos he] at t
    exact t
  omega
def k_zx (z : k_Z) (k f sz wo : Nat) : k_Z := fun r i => if r = 0 ∧ i = 0 then z 0 0 + 1 else if i = z 0 0 then (if r = 1 then k else if r = 2 then f else if r = 3 then sz else if r = 4 then wo else if r = 5 then 0 else z r i) else z r i
theorem zx_00 {z : k_Z} {k f sz wo : Nat} : k_zx z k f sz wo 0 0 = z 0 0 + 1 := if_pos ⟨rfl, rfl⟩
theorem zx_0 {z : k_Z} {k f sz wo j : Nat} (h : j ≠ 0) : k_zx z k f sz wo 0 j = z 0 j := by
  unfold k_zx
  rw [if_neg (by omega)]
  by_cases e : j = z 0 0
  · rw [if_pos e, if_neg (by decide), if_neg (by decide), if_neg (by decide), if_neg (by decide), if_neg (by decide)]
  · rw [if_neg e]
theorem zx_hi {z : k_Z} {k f sz wo r j : Nat} (h : 6 ≤ r) : k_zx z k f sz wo r j = z r j := by
  unfold k_zx
  rw [if_neg (by omega)]
  by_cases e : j = z 0 0
  · rw [if_pos e, if_neg (by omega), if_neg (by omega), if_neg (by omega), if_neg (by omega), if_neg (by omega)]
  · rw [if_neg e]
theorem zx_lo {z : k_Z} {k f sz wo r j : Nat} (h : 1 ≤ r) (hj : j ≠ z 0 0) : k_zx z k f sz wo r j = z r j := by
  unfold k_zx
  rw [if_neg (by omega), if_neg hj]
theorem zx_n {z : k_Z} {k f sz wo r : Nat} (h : 1 ≤ r) : k_zx z k f sz wo r (z 0 0) = (if r = 1 then k else if r = 2 then f else if r = 3 then sz else if r = 4 then wo else if r = 5 then 0 else z r (z 0 0)) := by
  unfold k_zx
  rw [if_neg (by omega), if_pos rfl]
theorem zx_vb {z : k_Z} {k f sz wo : Nat} (K : k_va z) (hk : k < 8) (hf : f < 10) (hz : sz ≤ 20) : k_vb (k_zx z k f sz wo) := by
  have B := vb_va K
  have n7 := va_ns K
  refine ⟨⟨by rw [zx_00]; omega, by rw [zx_0 (by decide)]; exact B.1.2⟩, fun s hs => ?_, fun b hb => ?_⟩
  · rw [zx_00] at hs
    by_cases e : s = z 0 0
    · subst e
      rw [zx_n (by decide), zx_n (by decide), zx_n (by decide), zx_n (by decide)]
      exact ⟨hk, hf, hz, Nat.zero_le 2⟩
    · rw [zx_lo (by decide) e, zx_lo (by decide) e, zx_lo (by decide) e, zx_lo (by decide) e]
      exact B.2.1 s (by omega)
  · rw [zx_0 (by decide)] at hb
    rw [zx_hi (by decide), zx_hi (by decide), zx_hi (by decide)]
    exact B.2.2 b hb
theorem nI_any (x : Int32) : ∃ n, x = nI n := ⟨x.toBitVec.toNat, by
  apply Int32.toBitVec_inj.mp
  unfold nI
  rw [Int32.toBitVec_ofNat']
  simp⟩
theorem m_add {σ : q_St} {h : q_Hp} {m k f sz : Nat} {z : k_Z} (M : k_M σ m) (W : k_W h m z) (K : k_va z) : k_ok (fX5_add σ h m (nI k) (nI f) (nI sz)) (fun h' => (∃ wo, k_W h' m (k_zx z k f sz wo)) ∧ k_mf [0] [1, 2, 3, 5] m h h') := by
  have n7 := va_ns K
  obtain ⟨wo, ew⟩ := nI_any (q_int h (m + 4) (z 0 0))
  unfold fX5_add
  simp only [mr1 M, mr2 M, mr3 M, mr5 M, mt1 M, mt2 M, mt3 M, mt5 M, ml1 M, ml2 M, ml3 M, ml5 M, and_self, k_guT, k_si_n (show m ≠ m + 1 by omega), k_si_n (show m ≠ m + 2 by omega), k_si_n (show m ≠ m + 3 by omega), k_si_n (show m ≠ m + 5 by omega), w_ns W, k_vi (show z 0 0 < 8 by omega) (show 8 < 2147483648 by decide), k_cl (show z 0 0 < 2147483648 by omega), nI_1]
  refine k_some ⟨⟨wo, ⟨⟨?_, ?_, ?_, ?_⟩, fun r s hr hs => ?_, fun r s hr hs => ?_⟩⟩, mf_fi (mf_ar (mf_ar (mf_ar (mf_ar mf_rf (by decide) (by decide)) (by decide) (by decide)) (by decide) (by decide)) (by decide) (by decide)) (by decide)⟩
  · rw [k_si_s, zx_00]
  · rw [k_si_j (by decide), k_si_n (by omega), k_si_n (by omega), k_si_n (by omega), k_si_n (by omega), zx_0 (by decide)]; exact W.1.2.1
  · rw [k_si_j (by decide), k_si_n (by omega), k_si_n (by omega), k_si_n (by omega), k_si_n (by omega), zx_0 (by decide)]; exact W.1.2.2.1
  · rw [k_si_j (by decide), k_si_n (by omega), k_si_n (by omega), k_si_n (by omega), k_si_n (by omega), zx_0 (by decide)]; exact W.1.2.2.2
  · rw [zx_00] at hs
    by_cases e : s = z 0 0
    · subst e
      rw [zx_n hr.1, k_si_n (by omega)]
      rcases (show r = 1 ∨ r = 2 ∨ r = 3 ∨ r = 4 ∨ r = 5 by omega) with rfl | rfl | rfl | rfl | rfl
      · rw [k_si_n (by omega), k_si_n (by omega), k_si_n (by omega), k_si_s]; rfl
      · rw [k_si_n (by omega), k_si_n (by omega), k_si_s]; rfl
      · rw [k_si_n (by omega), k_si_s]; rfl
      · rw [k_si_n (by omega), k_si_n (by omega), k_si_n (by omega), k_si_n (by omega), ew]; rfl
      · rw [k_si_s]; rfl
    · rw [zx_lo hr.1 e, k_si_n (by omega)]
      have := W.2.1 r s hr (by omega)
      have g : ∀ (h0 : q_Hp) (c : Nat) (v : Int32), q_int (q_si h0 (m + c) (z 0 0) v) (m + r) s = q_int h0 (m + r) s := fun h0 c v => by
        by_cases ec : c = r
        · subst ec; exact k_si_j e
        · exact k_si_n (by omega)
      rw [g, g, g, g]; exact this
  · rw [zx_0 (by decide)] at hs
    rw [zx_hi hr.1, k_si_n (by omega), k_si_n (by omega), k_si_n (by omega), k_si_n (by omega), k_si_n (by omega)]
    exact W.2.2 r s hr hs
/-- one suit more of the kind k, in the class's place -/
def g_x (z : k_Z) (k sz s b : Nat) : Bool := if s = 7 then decide (b < z 0 1) && (z 11 b == 9) && k_nr sz (z 6 b) (k_gv k) else g_z z 0 0 k_any s b
def g_wx (z : k_Z) (k f s : Nat) : Nat := if s = 7 then k_pr k f else p_pw z s
def k_sw (n s : Nat) : Nat := if s = n then 7 else if s = 7 then n else s
theorem k_swS {n : Nat} (hn : n ≤ 7) : ∀ s, s < 8 → k_sw n s < 8 ∧ k_sw n (k_sw n s) = s := fun s hs => by
  unfold k_sw
  by_cases e : s = n
  · rw [if_pos e]
    by_cases e7 : (7 : Nat) = n
    · rw [if_pos e7]; omega
    · rw [if_neg e7, if_pos rfl]; omega
  · rw [if_neg e]
    by_cases e7 : s = 7
    · rw [if_pos e7, if_pos rfl]; omega
    · rw [if_neg e7, if_neg e, if_neg e7]; omega
theorem g_xE {z : k_Z} {k f sz wo : Nat} (K : k_va z) {s b : Nat} (hs : s < 8) (hb : b < 7) : g_z (k_zx z k f sz wo) 0 0 k_any (k_sw (z 0 0) s) b = g_x z k sz s b := by
  have n7 := va_ns K
  unfold g_z g_dp k_zo k_zm g_x
  rw [show ∀ v u, k_kd (k_any v) u = true from fun _ _ => rfl, Nat.zero_testBit, Nat.zero_testBit, zx_00, zx_0 (by decide), zx_hi (by decide)]
  unfold k_fits
  rw [zx_hi (r := 6) (by decide)]
  by_cases e7 : s = 7
  · have : k_sw (z 0 0) s = z 0 0 := by
      unfold k_sw
      by_cases e : s = z 0 0
      · rw [if_pos e]; omega
      · rw [if_neg e, if_pos e7]
    rw [this, if_pos e7, zx_n (by decide), zx_n (by decide), zx_n (by decide), decide_eq_true (Nat.lt_succ_self (z 0 0))]
    simp
  · rw [if_neg e7]
    unfold g_z g_dp k_zo k_zm k_fits
    rw [show ∀ v u, k_kd (k_any v) u = true from fun _ _ => rfl, Nat.zero_testBit, Nat.zero_testBit]
    by_cases l : s < z 0 0
    · have : k_sw (z 0 0) s = s := by
        unfold k_sw
        rw [if_neg (by omega), if_neg e7]
      rw [this, zx_lo (by decide) (by omega), zx_lo (by decide) (by omega), zx_lo (by decide) (by omega), decide_eq_true l, decide_eq_true (show s < z 0 0 + 1 by omega)]
    · have : ¬ k_sw (z 0 0) s < z 0 0 + 1 := by
        unfold k_sw
        by_cases e : s = z 0 0
        · rw [if_pos e]; omega
        · rw [if_neg e, if_neg e7]; omega
      rw [decide_eq_false this, decide_eq_false l]; rfl
theorem g_wxE {z : k_Z} {k f sz wo : Nat} (K : k_va z) {s : Nat} (hs : s < 8) (h : s < z 0 0 ∨ s = 7) : p_pw (k_zx z k f sz wo) (k_sw (z 0 0) s) = g_wx z k f s := by
  have n7 := va_ns K
  unfold p_pw g_wx
  rw [zx_00]
  by_cases e7 : s = 7
  · have : k_sw (z 0 0) s = z 0 0 := by
      unfold k_sw
      by_cases e : s = z 0 0
      · rw [if_pos e]; omega
      · rw [if_neg e, if_pos e7]
    rw [this, if_pos e7, if_pos (Nat.lt_succ_self _), zx_n (by decide), zx_n (by decide)]; rfl
  · have l : s < z 0 0 := h.resolve_right e7
    have : k_sw (z 0 0) s = s := by
      unfold k_sw
      rw [if_neg (by omega), if_neg e7]
    rw [this, if_neg e7, if_pos (by omega), zx_lo (by decide) (by omega), zx_lo (by decide) (by omega)]
    unfold p_pw
    rw [if_pos l]
