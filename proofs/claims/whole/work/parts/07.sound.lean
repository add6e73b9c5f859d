/-! the function tells the truth -/
theorem q_lk_has {ls : Array Slot} {nL : Nat} {lv : List (Nat × Value)} (h : lv_has ls nL lv) {i : Nat} {v : Value} (hk : q_lk lv i = some v) : ls[i]? = some (.val v) := h.2.2 _ (q_lk_mem hk)
theorem q_ld_inv {pc : Nat} {lv : List (Nat × Value)} {h : q_Hp} {st : List Value} {i t : Nat} {r : q_Cf} {g : Option Prop} (hx : q_ld pc lv h st i t = some (r, g)) : ∃ v, q_lk lv i = some v ∧ r = (pc, lv, v :: st, h) ∧ g = none ∧ ((t = 0 ∧ ∃ x, v = .int x) ∨ (t = 1 ∧ ∃ x, v = .long x) ∨ (t = 2 ∧ ((∃ x, v = .ref x) ∨ v = .null))) := by
  unfold q_ld at hx
  split at hx <;> simp only [q_go, Option.some.injEq, Prod.mk.injEq, reduceCtorEq] at hx
  · next x hk => exact ⟨_, hk, hx.1.symm, hx.2.symm, Or.inl ⟨rfl, x, rfl⟩⟩
  · next x hk => exact ⟨_, hk, hx.1.symm, hx.2.symm, Or.inr (Or.inl ⟨rfl, x, rfl⟩)⟩
  · next x hk => exact ⟨_, hk, hx.1.symm, hx.2.symm, Or.inr (Or.inr ⟨rfl, Or.inl ⟨x, rfl⟩⟩)⟩
  · next hk => exact ⟨_, hk, hx.1.symm, hx.2.symm, Or.inr (Or.inr ⟨rfl, Or.inr rfl⟩)⟩
theorem q_bif_some {α : Type} {b : Bool} {x : Option α} {r : α} (h : (bif b then x else none) = some r) : b = true ∧ x = some r := by
  cases b
  · cases h
  · exact ⟨rfl, h⟩
theorem q_stt_inv {nL pc : Nat} {lv : List (Nat × Value)} {h : q_Hp} {st : List Value} {i t : Nat} {r : q_Cf} {g : Option Prop} (hx : q_stt nL pc lv h st i t = some (r, g)) : ∃ v st', st = v :: st' ∧ g = none ∧ ((t = 0 ∧ (∃ x, v = .int x) ∧ i < nL ∧ r = (pc, q_set1 i v lv, st', h)) ∨ (t = 1 ∧ (∃ x, v = .long x) ∧ i + 1 < nL ∧ r = (pc, q_set2 i v lv, st', h)) ∨ (t = 2 ∧ ((∃ x, v = .ref x) ∨ v = .null) ∧ i < nL ∧ r = (pc, q_set1 i v lv, st', h))) := by
  unfold q_stt at hx
  split at hx
  · obtain ⟨hb, hx⟩ := q_bif_some hx
    simp only [q_go, Option.some.injEq, Prod.mk.injEq] at hx
    exact ⟨_, _, rfl, hx.2.symm, Or.inl ⟨rfl, ⟨_, rfl⟩, Nat.blt_eq.mp hb, hx.1.symm⟩⟩
  · obtain ⟨hb, hx⟩ := q_bif_some hx
    simp only [q_go, Option.some.injEq, Prod.mk.injEq] at hx
    exact ⟨_, _, rfl, hx.2.symm, Or.inr (Or.inl ⟨rfl, ⟨_, rfl⟩, Nat.blt_eq.mp hb, hx.1.symm⟩)⟩
  · obtain ⟨hb, hx⟩ := q_bif_some hx
    simp only [q_go, Option.some.injEq, Prod.mk.injEq] at hx
    exact ⟨_, _, rfl, hx.2.symm, Or.inr (Or.inr ⟨rfl, Or.inl ⟨_, rfl⟩, Nat.blt_eq.mp hb, hx.1.symm⟩)⟩
  · obtain ⟨hb, hx⟩ := q_bif_some hx
    simp only [q_go, Option.some.injEq, Prod.mk.injEq] at hx
    exact ⟨_, _, rfl, hx.2.symm, Or.inr (Or.inr ⟨rfl, Or.inr rfl, Nat.blt_eq.mp hb, hx.1.symm⟩)⟩
  · cases hx
theorem q_bi_inv {pc : Nat} {lv : List (Nat × Value)} {h : q_Hp} {st : List Value} {f : Int32 → Int32 → Int32} {r : q_Cf} {g : Option Prop} (hx : q_bi pc lv h st f = some (r, g)) : ∃ y x st', st = .int y :: .int x :: st' ∧ r = (pc, lv, .int (f x y) :: st', h) ∧ g = none := by
  unfold q_bi at hx
  split at hx
  · simp only [q_go, Option.some.injEq, Prod.mk.injEq] at hx
    exact ⟨_, _, _, rfl, hx.1.symm, hx.2.symm⟩
  · cases hx
theorem q_bl_inv {pc : Nat} {lv : List (Nat × Value)} {h : q_Hp} {st : List Value} {f : Int64 → Int64 → Int64} {r : q_Cf} {g : Option Prop} (hx : q_bl pc lv h st f = some (r, g)) : ∃ y x st', st = .long y :: .long x :: st' ∧ r = (pc, lv, .long (f x y) :: st', h) ∧ g = none := by
  unfold q_bl at hx
  split at hx
  · simp only [q_go, Option.some.injEq, Prod.mk.injEq] at hx
    exact ⟨_, _, _, rfl, hx.1.symm, hx.2.symm⟩
  · cases hx
theorem q_ui_inv {pc : Nat} {lv : List (Nat × Value)} {h : q_Hp} {st : List Value} {f : Int32 → Value} {r : q_Cf} {g : Option Prop} (hx : q_ui pc lv h st f = some (r, g)) : ∃ x st', st = .int x :: st' ∧ r = (pc, lv, f x :: st', h) ∧ g = none := by
  unfold q_ui at hx
  split at hx
  · simp only [q_go, Option.some.injEq, Prod.mk.injEq] at hx
    exact ⟨_, _, rfl, hx.1.symm, hx.2.symm⟩
  · cases hx
theorem q_go_inv {pc : Nat} {lv : List (Nat × Value)} {h : q_Hp} {st : List Value} {r : q_Cf} {g : Option Prop} (hx : q_go pc lv h st = some (r, g)) : r = (pc, lv, st, h) ∧ g = none := by
  simp only [q_go, Option.some.injEq, Prod.mk.injEq] at hx
  exact ⟨hx.1.symm, hx.2.symm⟩
theorem q_gd_inv {pc : Nat} {lv : List (Nat × Value)} {h : q_Hp} {st : List Value} {r : q_Cf} {G : Prop} {g : Option Prop} (hx : q_gd pc lv h st G = some (r, g)) : r = (pc, lv, st, h) ∧ g = some G := by
  simp only [q_gd, Option.some.injEq, Prod.mk.injEq] at hx
  exact ⟨hx.1.symm, hx.2.symm⟩
section QX
variable {p : Program} {l : Launch} {e : Env} {R : Room} {s : State} {m : MethodId} {args : Array Value} {below : List Frame} {meth : Method} {c : Code} {Q : State → Prop} {D : va_G} {cy : Nat → Nat} {b0 nL mc ms kc ks : Nat} {σ : q_St} {h : q_Hp} {pc : Nat} {lv : List (Nat × Value)} {st : List Value} {own : String} {cc : ByteArray} {T : q_Tb}
def q_hold (g : Option Prop) : Prop := match g with
  | none => True
  | some G => G
theorem v_ex (C0 : VC p R s m args meth c D cy b0 nL mc ms own cc) (hT : q_tok own T) {i : Instr} (hd : decode cc pc = .ok (i, q_il i)) {r : q_Cf} {g : Option Prop} (hx : q_ex nL T σ i pc lv st h = some (r, g)) (hg : q_hold g)
    (kk : V p l e R s m args below meth c Q D cy b0 nL mc ms kc ks σ r.2.2.2 r.1 r.2.1 r.2.2.1) : V p l e R s m args below meth c Q D cy b0 nL mc ms kc ks σ h pc lv st := by
  obtain ⟨c1, c2, c3, c4, c5, c6, c7, c8, c9, c10⟩ := C0
  intro H locs cells slots ls hW hS hl h1 h2
  unfold q_ex at hx
  split at hx
  · obtain ⟨v, hk, rfl, rfl, ⟨-, x, rfl⟩ | ⟨h0, -⟩ | ⟨h0, -⟩⟩ := q_ld_inv hx
    · exact lv_iload_n c1 c2 hd rfl (q_lk_has hl hk) (kk H locs cells slots ls hW hS hl h1 h2)
    · exact absurd h0 (by decide)
    · exact absurd h0 (by decide)
  · obtain ⟨v, hk, rfl, rfl, ⟨-, x, rfl⟩ | ⟨h0, -⟩ | ⟨h0, -⟩⟩ := q_ld_inv hx
    · exact lv_iload c1 c2 hd (q_lk_has hl hk) (kk H locs cells slots ls hW hS hl h1 h2)
    · exact absurd h0 (by decide)
    · exact absurd h0 (by decide)
  · obtain ⟨v, hk, rfl, rfl, ⟨h0, -⟩ | ⟨-, x, rfl⟩ | ⟨h0, -⟩⟩ := q_ld_inv hx
    · exact absurd h0 (by decide)
    · exact lv_lload_n c1 c2 hd rfl (q_lk_has hl hk) (kk H locs cells slots ls hW hS hl h1 h2)
    · exact absurd h0 (by decide)
  · obtain ⟨v, hk, rfl, rfl, ⟨h0, -⟩ | ⟨-, x, rfl⟩ | ⟨h0, -⟩⟩ := q_ld_inv hx
    · exact absurd h0 (by decide)
    · exact lv_lload c1 c2 hd (q_lk_has hl hk) (kk H locs cells slots ls hW hS hl h1 h2)
    · exact absurd h0 (by decide)
  · obtain ⟨v, hk, rfl, rfl, ⟨h0, -⟩ | ⟨h0, -⟩ | ⟨-, ⟨x, rfl⟩ | rfl⟩⟩ := q_ld_inv hx
    · exact absurd h0 (by decide)
    · exact absurd h0 (by decide)
    · exact lv_aload_n c1 c2 hd rfl (q_lk_has hl hk) (kk H locs cells slots ls hW hS hl h1 h2)
    · exact lv_aload_nN c1 c2 hd rfl (q_lk_has hl hk) (kk H locs cells slots ls hW hS hl h1 h2)
  · obtain ⟨v, hk, rfl, rfl, ⟨h0, -⟩ | ⟨h0, -⟩ | ⟨-, ⟨x, rfl⟩ | rfl⟩⟩ := q_ld_inv hx
    · exact absurd h0 (by decide)
    · exact absurd h0 (by decide)
    · exact lv_aload c1 c2 hd (q_lk_has hl hk) (kk H locs cells slots ls hW hS hl h1 h2)
    · exact lv_aloadN c1 c2 hd (q_lk_has hl hk) (kk H locs cells slots ls hW hS hl h1 h2)
  · obtain ⟨v, st', rfl, rfl, ⟨-, ⟨x, rfl⟩, hn, rfl⟩ | ⟨h0, -⟩ | ⟨h0, -⟩⟩ := q_stt_inv hx
    · exact lv_istore_n c1 c2 hd rfl hl hn rfl (fun ls' hl' => kk H locs cells slots ls' hW hS hl' h1 h2)
    · exact absurd h0 (by decide)
    · exact absurd h0 (by decide)
  · obtain ⟨v, st', rfl, rfl, ⟨-, ⟨x, rfl⟩, hn, rfl⟩ | ⟨h0, -⟩ | ⟨h0, -⟩⟩ := q_stt_inv hx
    · exact lv_istore c1 c2 hd hl hn rfl (fun ls' hl' => kk H locs cells slots ls' hW hS hl' h1 h2)
    · exact absurd h0 (by decide)
    · exact absurd h0 (by decide)
  · obtain ⟨v, st', rfl, rfl, ⟨h0, -⟩ | ⟨-, ⟨x, rfl⟩, hn, rfl⟩ | ⟨h0, -⟩⟩ := q_stt_inv hx
    · exact absurd h0 (by decide)
    · exact lv_lstore_n c1 c2 hd rfl hl hn rfl (fun ls' hl' => kk H locs cells slots ls' hW hS hl' h1 h2)
    · exact absurd h0 (by decide)
  · obtain ⟨v, st', rfl, rfl, ⟨h0, -⟩ | ⟨-, ⟨x, rfl⟩, hn, rfl⟩ | ⟨h0, -⟩⟩ := q_stt_inv hx
    · exact absurd h0 (by decide)
    · exact lv_lstore c1 c2 hd hl hn rfl (fun ls' hl' => kk H locs cells slots ls' hW hS hl' h1 h2)
    · exact absurd h0 (by decide)
  · obtain ⟨v, st', rfl, rfl, ⟨h0, -⟩ | ⟨h0, -⟩ | ⟨-, ⟨x, rfl⟩ | rfl, hn, rfl⟩⟩ := q_stt_inv hx
    · exact absurd h0 (by decide)
    · exact absurd h0 (by decide)
    · exact lv_astore_n c1 c2 hd rfl hl hn rfl (fun ls' hl' => kk H locs cells slots ls' hW hS hl' h1 h2)
    · exact lv_astore_nN c1 c2 hd rfl hl hn rfl (fun ls' hl' => kk H locs cells slots ls' hW hS hl' h1 h2)
  · obtain ⟨v, st', rfl, rfl, ⟨h0, -⟩ | ⟨h0, -⟩ | ⟨-, ⟨x, rfl⟩ | rfl, hn, rfl⟩⟩ := q_stt_inv hx
    · exact absurd h0 (by decide)
    · exact absurd h0 (by decide)
    · exact lv_astore c1 c2 hd hl hn rfl (fun ls' hl' => kk H locs cells slots ls' hW hS hl' h1 h2)
    · exact lv_astoreN c1 c2 hd hl hn rfl (fun ls' hl' => kk H locs cells slots ls' hW hS hl' h1 h2)
  · obtain ⟨rfl, rfl⟩ := q_go_inv hx
    exact lv_iconst c1 c2 hd (q_c_eq _) (kk H locs cells slots ls hW hS hl h1 h2)
  · obtain ⟨hb, hx⟩ := q_bif_some hx
    obtain ⟨rfl, rfl⟩ := q_go_inv hx
    exact lv_bipush c1 c2 hd (q_c8 hb) (kk H locs cells slots ls hW hS hl h1 h2)
  · obtain ⟨hb, hx⟩ := q_bif_some hx
    obtain ⟨rfl, rfl⟩ := q_go_inv hx
    exact lv_sipush c1 c2 hd (q_c16 hb) (kk H locs cells slots ls hW hS hl h1 h2)
  · obtain ⟨rfl, rfl⟩ := q_go_inv hx
    exact lv_lconst c1 c2 hd rfl (kk H locs cells slots ls hW hS hl h1 h2)
  · split at hx
    · next v hv =>
      obtain ⟨rfl, rfl⟩ := q_go_inv hx
      exact lv_ldc c1 c2 c4 (c5 _ (hT.2.1 _ (q_lk_mem hv))) hd (kk H locs cells slots ls hW hS hl h1 h2)
    · cases hx
  · split at hx
    · next v hv =>
      obtain ⟨rfl, rfl⟩ := q_go_inv hx
      exact lv_ldcw c1 c2 c4 (c5 _ (hT.2.1 _ (q_lk_mem hv))) hd (kk H locs cells slots ls hW hS hl h1 h2)
    · cases hx
  · split at hx
    · next v hv =>
      obtain ⟨rfl, rfl⟩ := q_go_inv hx
      exact lv_ldc2 c1 c2 c4 (c5 _ (hT.2.2 _ (q_lk_mem hv))) hd (kk H locs cells slots ls hW hS hl h1 h2)
    · cases hx
  · obtain ⟨y, x, st', rfl, rfl, rfl⟩ := q_bi_inv hx
    exact lv_iadd c1 c2 hd (kk H locs cells slots ls hW hS hl h1 h2)
  · obtain ⟨y, x, st', rfl, rfl, rfl⟩ := q_bi_inv hx
    exact lv_isub c1 c2 hd (kk H locs cells slots ls hW hS hl h1 h2)
  · obtain ⟨y, x, st', rfl, rfl, rfl⟩ := q_bi_inv hx
    exact lv_imul c1 c2 hd (kk H locs cells slots ls hW hS hl h1 h2)
  · obtain ⟨y, x, st', rfl, rfl, rfl⟩ := q_bi_inv hx
    exact lv_iand c1 c2 hd (kk H locs cells slots ls hW hS hl h1 h2)
  · obtain ⟨y, x, st', rfl, rfl, rfl⟩ := q_bi_inv hx
    exact lv_ior c1 c2 hd (kk H locs cells slots ls hW hS hl h1 h2)
  · obtain ⟨y, x, st', rfl, rfl, rfl⟩ := q_bi_inv hx
    exact lv_ixor c1 c2 hd (kk H locs cells slots ls hW hS hl h1 h2)
  · obtain ⟨y, x, st', rfl, rfl, rfl⟩ := q_bi_inv hx
    exact lv_ishl c1 c2 hd (kk H locs cells slots ls hW hS hl h1 h2)
  · obtain ⟨y, x, st', rfl, rfl, rfl⟩ := q_bi_inv hx
    exact lv_ishr c1 c2 hd (kk H locs cells slots ls hW hS hl h1 h2)
  · obtain ⟨y, x, st', rfl, rfl, rfl⟩ := q_bi_inv hx
    exact lv_iushr c1 c2 hd rfl (kk H locs cells slots ls hW hS hl h1 h2)
  · obtain ⟨y, x, st', rfl, rfl, rfl⟩ := q_bl_inv hx
    exact lv_ladd c1 c2 hd (kk H locs cells slots ls hW hS hl h1 h2)
  · obtain ⟨y, x, st', rfl, rfl, rfl⟩ := q_bl_inv hx
    exact lv_lsub c1 c2 hd (kk H locs cells slots ls hW hS hl h1 h2)
  · obtain ⟨y, x, st', rfl, rfl, rfl⟩ := q_bl_inv hx
    exact lv_lmul c1 c2 hd (kk H locs cells slots ls hW hS hl h1 h2)
  · split at hx
    · obtain ⟨rfl, rfl⟩ := q_gd_inv hx
      exact lv_idiv c1 c2 hd hg (kk H locs cells slots ls hW hS hl h1 h2)
    · cases hx
  · split at hx
    · obtain ⟨rfl, rfl⟩ := q_gd_inv hx
      exact lv_irem c1 c2 hd hg (kk H locs cells slots ls hW hS hl h1 h2)
    · cases hx
  · split at hx
    · obtain ⟨rfl, rfl⟩ := q_gd_inv hx
      exact lv_ldiv c1 c2 hd hg (kk H locs cells slots ls hW hS hl h1 h2)
    · cases hx
  · split at hx
    · obtain ⟨rfl, rfl⟩ := q_gd_inv hx
      exact lv_lrem c1 c2 hd hg (kk H locs cells slots ls hW hS hl h1 h2)
    · cases hx
  · obtain ⟨x, st', rfl, rfl, rfl⟩ := q_ui_inv hx
    exact lv_i2l c1 c2 hd rfl (kk H locs cells slots ls hW hS hl h1 h2)
  · obtain ⟨x, st', rfl, rfl, rfl⟩ := q_ui_inv hx
    exact lv_i2b c1 c2 hd rfl (kk H locs cells slots ls hW hS hl h1 h2)
  · obtain ⟨x, st', rfl, rfl, rfl⟩ := q_ui_inv hx
    exact lv_i2s c1 c2 hd rfl (kk H locs cells slots ls hW hS hl h1 h2)
  · split at hx
    · obtain ⟨rfl, rfl⟩ := q_go_inv hx
      exact lv_l2i c1 c2 hd rfl (kk H locs cells slots ls hW hS hl h1 h2)
    · cases hx
  · split at hx
    · obtain ⟨rfl, rfl⟩ := q_go_inv hx
      exact W.lcmp c1 c2 hd (kk H locs cells slots ls hW hS hl h1 h2)
    · cases hx
  · split at hx
    · next x hk =>
      obtain ⟨hb, hx⟩ := q_bif_some hx
      obtain ⟨rfl, rfl⟩ := q_go_inv hx
      obtain ⟨k0, hk0⟩ := List.getElem?_of_mem (q_lk_mem hk)
      exact lv_iinc c1 c2 hd hl hk0 (by rw [q_c_eq]) (Nat.blt_eq.mp hb) rfl (fun ls' hl' => kk H locs cells slots ls' hW hS hl' h1 h2)
    · cases hx
  · split at hx
    · next t ht =>
      obtain ⟨rfl, rfl⟩ := q_go_inv hx
      exact lv_goto c1 c2 hd ht (kk H locs cells slots ls hW hS hl h1 h2)
    · cases hx
  · split at hx
    · obtain ⟨rfl, rfl⟩ := q_go_inv hx
      exact lv_ifnull c1 c2 hd (kk H locs cells slots ls hW hS hl h1 h2)
    · split at hx
      · next t ht =>
        obtain ⟨rfl, rfl⟩ := q_go_inv hx
        exact lv_ifnullN c1 c2 hd ht (kk H locs cells slots ls hW hS hl h1 h2)
      · cases hx
    · cases hx
  · split at hx
    · obtain ⟨rfl, rfl⟩ := q_go_inv hx
      exact lv_ifnonnullN c1 c2 hd (kk H locs cells slots ls hW hS hl h1 h2)
    · split at hx
      · next t ht =>
        obtain ⟨rfl, rfl⟩ := q_go_inv hx
        exact lv_ifnonnull c1 c2 hd ht (kk H locs cells slots ls hW hS hl h1 h2)
      · cases hx
    · cases hx
  · split at hx
    · obtain ⟨rfl, rfl⟩ := q_go_inv hx
      exact lv_dup c1 c2 hd rfl (kk H locs cells slots ls hW hS hl h1 h2)
    · obtain ⟨rfl, rfl⟩ := q_go_inv hx
      exact lv_dup c1 c2 hd rfl (kk H locs cells slots ls hW hS hl h1 h2)
    · cases hx
  · split at hx
    · obtain ⟨rfl, rfl⟩ := q_go_inv hx
      exact lv_dup2_11 c1 c2 hd rfl rfl (kk H locs cells slots ls hW hS hl h1 h2)
    · obtain ⟨rfl, rfl⟩ := q_go_inv hx
      exact lv_dup2_11 c1 c2 hd rfl rfl (kk H locs cells slots ls hW hS hl h1 h2)
    · cases hx
  · split at hx
    · obtain ⟨rfl, rfl⟩ := q_go_inv hx
      exact lv_pop c1 c2 hd rfl (kk H locs cells slots ls hW hS hl h1 h2)
    · obtain ⟨rfl, rfl⟩ := q_go_inv hx
      exact lv_pop c1 c2 hd rfl (kk H locs cells slots ls hW hS hl h1 h2)
    · cases hx
  · split at hx
    · next hk =>
      split at hx
      · next hy =>
        obtain ⟨rfl, rfl⟩ := q_gd_inv hx
        obtain ⟨g1, g2⟩ := hg
        refine x_getf c1 c2 c5 c4 c6 hW (hT.1 _ (q_lk_mem hk)) g1 hy hd ?_
        rw [if_pos rfl, q_rv_n (q_nz hW g2)]
        exact kk H locs cells slots ls hW hS hl h1 h2
      · next hy =>
        obtain ⟨rfl, rfl⟩ := q_gd_inv hx
        exact x_getf c1 c2 c5 c4 c6 hW (hT.1 _ (q_lk_mem hk)) hg hy hd (kk H locs cells slots ls hW hS hl h1 h2)
      · cases hx
    · cases hx
  · split at hx
    · next ci k v a r' hk =>
      split at hx
      · next hy hfin =>
        by_cases hq : q_isb ci k = true
        · rw [hq] at hx
          obtain ⟨rfl, rfl⟩ := q_gd_inv hx
          obtain ⟨g1, g2⟩ := hg
          exact x_puti c1 c2 c5 c4 c6 hW hS (hT.1 _ (q_lk_mem hk)) g1 (Or.inl hfin) hy (fun _ => g2) hd (fun H1 locs1 w1 w2 => kk H1 locs1 cells slots ls w1 w2 hl h1 h2)
        · have hq' : q_isb ci k = false := by simpa using hq
          rw [hq'] at hx
          obtain ⟨rfl, rfl⟩ := q_gd_inv hx
          exact x_puti c1 c2 c5 c4 c6 hW hS (hT.1 _ (q_lk_mem hk)) hg (Or.inl hfin) hy (fun z => absurd z hq) hd (fun H1 locs1 w1 w2 => kk H1 locs1 cells slots ls w1 w2 hl h1 h2)
      · cases hx
    · cases hx
  · split at hx
    · obtain ⟨rfl, rfl⟩ := q_gd_inv hx
      exact x_iald c1 c2 c6 hW hg.1 hg.2 hd (kk H locs cells slots ls hW hS hl h1 h2)
    · cases hx
  · split at hx
    · obtain ⟨rfl, rfl⟩ := q_gd_inv hx
      exact x_lald c1 c2 c6 hW hg.1 hg.2 hd (kk H locs cells slots ls hW hS hl h1 h2)
    · cases hx
  · split at hx
    · obtain ⟨rfl, rfl⟩ := q_gd_inv hx
      exact x_iast c1 c2 c6 hW hS hg.1 hg.2 hd (fun H1 locs1 w1 w2 => kk H1 locs1 cells slots ls w1 w2 hl h1 h2)
    · cases hx
  · split at hx
    · obtain ⟨rfl, rfl⟩ := q_gd_inv hx
      exact x_last c1 c2 c6 hW hS hg.1 hg.2 hd (fun H1 locs1 w1 w2 => kk H1 locs1 cells slots ls w1 w2 hl h1 h2)
    · cases hx
  · split at hx
    · obtain ⟨rfl, rfl⟩ := q_gd_inv hx
      exact x_alen c1 c2 c6 hW hg hd (kk H locs cells slots ls hW hS hl h1 h2)
    · cases hx
  · cases hx
/-- n instructions of a straight stretch: where they lead, and all that they ask -/
def q_run (nL : Nat) (T : q_Tb) (cd : q_Cd) (σ : q_St) : Nat → Nat → List (Nat × Value) → List Value → q_Hp → Option (q_Cf × Prop)
  | 0, pc, lv, st, h => some ((pc, lv, st, h), True)
  | n + 1, pc, lv, st, h => match q_lk cd pc with
    | some i => match q_ex nL T σ i pc lv st h with
      | some (r, none) => q_run nL T cd σ n r.1 r.2.1 r.2.2.1 r.2.2.2
      | some (r, some g) => match q_run nL T cd σ n r.1 r.2.1 r.2.2.1 r.2.2.2 with
        | some (z, G) => some (z, g ∧ G)
        | none => none
      | none => none
    | none => none
theorem v_run (C0 : VC p R s m args meth c D cy b0 nL mc ms own cc) (hT : q_tok own T) {cd : q_Cd} (hc : q_cok cc cd) {pc' : Nat} {lv' : List (Nat × Value)} {st' : List Value} {h' : q_Hp} : ∀ (n : Nat) {pc : Nat} {lv : List (Nat × Value)} {st : List Value} {h : q_Hp} {G : Prop}, q_run nL T cd σ n pc lv st h = some ((pc', lv', st', h'), G) → G → V p l e R s m args below meth c Q D cy b0 nL mc ms kc ks σ h' pc' lv' st' → V p l e R s m args below meth c Q D cy b0 nL mc ms kc ks σ h pc lv st
  | 0, pc, lv, st, h, G, hx, hg, kk => by
    simp only [q_run, Option.some.injEq, Prod.mk.injEq] at hx
    obtain ⟨⟨rfl, rfl, rfl, rfl⟩, -⟩ := hx
    exact kk
  | n + 1, pc, lv, st, h, G, hx, hg, kk => by
    unfold q_run at hx
    split at hx
    · next i hi =>
      have hd := hc _ (q_lk_mem hi)
      split at hx
      · next r hr => exact v_ex C0 hT hd hr trivial (v_run C0 hT hc n hx hg kk)
      · next r g hr =>
        split at hx
        · next z G1 hz =>
          simp only [Option.some.injEq, Prod.mk.injEq] at hx
          obtain ⟨rfl, rfl⟩ := hx
          exact v_ex C0 hT hd hr hg.1 (v_run C0 hT hc n hz hg.2 kk)
        · cases hx
      · cases hx
    · cases hx
end QX
