/-! contracts, calls, branches, ends -/
noncomputable def q_gu {α : Type} (G : Prop) (X : Option α) : Option α := @ite _ G (Classical.propDecidable G) X none
theorem q_gu_t {α : Type} {G : Prop} {X : Option α} (h : G) : q_gu G X = X := if_pos h
theorem q_gu_o {α : Type} {G : Prop} {X : Option α} {o : α} (h : q_gu G X = some o) : G ∧ X = some o := by
  unfold q_gu at h
  split at h
  · next g => exact ⟨g, h⟩
  · cases h
theorem q_bd {α β : Type} {x : Option α} {f : α → Option β} {o : β} (h : x.bind f = some o) : ∃ r, x = some r ∧ f r = some o := by
  cases x with
  | none => cases h
  | some r => exact ⟨r, rfl, h⟩
def q_Pc (D : va_G) (cy : Nat → Nat) (b0 : Nat) (σ : q_St) (h : q_Hp) (as : List Value) : Array Value → State → Prop := va_Pc as (fun U => q_HW D cy b0 σ h U.heap ∧ va_K D vwCl (q_tys cy) U ∧ q_NW U)
def q_Qc (D : va_G) (cy : Nat → Nat) (b0 : Nat) (r : Option Value) (σ : q_St) (h : q_Hp) : Array Value → State → Outcome → State → Prop := fun _ st o t => o = .returned r ∧ q_HW D cy b0 σ h t.heap ∧ va_F (fun q => b0 ≤ q) st t
/-- a method's contract: from the memory (σ, h), with the arguments as, it answers r and leaves (σ', h') -/
def q_M (l : Launch) (y : MethodName) (bytes : ByteArray) (maxL : Nat) (ret : Option FieldType) (fr lo mc ms : Nat) (D : va_G) (cy : Nat → Nat) (b0 : Nat) (σ : q_St) (h : q_Hp) (as : List Value) (r : Option Value) (σ' : q_St) (h' : q_Hp) : Prop :=
  Met l y (Cond.code y bytes maxL ret :: q_tbl) { frames := fr, cells := mc, slots := ms, locals := lo } (q_Pc D cy b0 σ h as) (q_Qc D cy b0 r σ' h') mc ms (fun q => b0 ≤ q)
theorem q_blind (D : va_G) (cy : Nat → Nat) (b0 : Nat) (σ : q_St) (h : q_Hp) (as : List Value) : FrameBlind (q_Pc D cy b0 σ h as) := fun a U g mk q => by
  obtain ⟨q0, q1, q2, q3⟩ := q
  exact ⟨q0, q1, va_K.moved (u := U) (U := U.calling g mk a) (Vm.Alike.refl U.vm) q2, q3.same rfl⟩
theorem q_good {ws : List Cond} (h : ∀ w ∈ ws, w ∈ q_tbl) : GoodIn q_tbl ws := fun w hw => ⟨h w hw, good_of_word (List.all_eq_true.mp q_tbl_good w (h w hw))⟩
theorem q_enter {l : Launch} {y : MethodName} {bytes : ByteArray} {maxL : Nat} {ret : Option FieldType} {fr lo mc ms : Nat} {D : va_G} {cy : Nat → Nat} {b0 : Nat} {σ : q_St} {h : q_Hp} {as : List Value} {r : Option Value} {σ' : q_St} {h' : q_Hp} (hy : plainName y.cls = true) (hlen : (lg_sl as).length ≤ maxL)
    (body : ∀ (p : Program) (e : Env) (s : State) (m : MethodId) (args : Array Value) (below : List Frame) (meth : Method) (c : Code), VC p { frames := fr, cells := mc, slots := ms, locals := lo } s m args meth c D cy b0 maxL mc ms y.cls bytes → meth.sig.returnType = ret → meth.locks = false → meth.name = y.name →
      V p l e { frames := fr, cells := mc, slots := ms, locals := lo } s m args below meth c (MQ below (q_Qc D cy b0 r σ' h') args s mc ms (fun q => b0 ≤ q)) D cy b0 maxL mc ms mc ms σ h 0 (lv_args 0 as) []) : q_M l y bytes maxL ret fr lo mc ms D cy b0 σ h as r σ' h' := by
  refine Met.ofW (cc := bytes) (maxL := maxL) (ret := ret) hy rfl ?_
  intro p e s m args below meth c s₁ B hml hv
  obtain ⟨rfl, hW, hK, hN⟩ := hv
  have hts := atoms_spec (ws := Cond.code y bytes maxL ret :: q_tbl) B.pre
  have hb0 : b0 ≤ s.heap.size := by rw [hW.1]; exact hW.2.2.2.1
  rw [lg_entry_eq]
  exact body p e s m _ below meth c ⟨B.exec, B.bytes, hml, findClass_of_methodNamed B.named, fun w hw => hts w (List.mem_cons_of_mem _ hw), hK, Nat.le_refl _, Nat.le_refl _, hb0, hN⟩ B.returns B.notSynchronized (name_of_methodNamed B.named B.method).1 s.heap [] 0 0 _ hW va_S.rf (lv_entry as hlen) (by omega) (by omega)
/-- what the tables say of a callee -/
def q_cal (y : MethodName) (bytes : ByteArray) (maxL : Nat) (ret : Option FieldType) : Prop := Cond.initialized y.cls ∈ q_tbl ∧ Cond.code y bytes maxL ret ∈ q_tbl ∧ y.cls ≠ "java/lang/invoke/MethodHandle" ∧ y.cls ≠ "java/lang/invoke/VarHandle"
theorem q_dec {cc : ByteArray} {cd : q_Cd} (hc : q_cok cc cd) {pc : Nat} {i : Instr} (hi : q_lk cd pc = some i) : decode cc pc = .ok (i, q_il i) := hc (pc, i) (q_lk_mem hi)
section QR
variable {p : Program} {l : Launch} {e : Env} {R : Room} {s : State} {m : MethodId} {args : Array Value} {below : List Frame} {meth : Method} {c : Code} {Q : State → Prop} {D : va_G} {cy : Nat → Nat} {b0 nL mc ms kc ks : Nat} {σ : q_St} {h : q_Hp} {pc : Nat} {lv : List (Nat × Value)} {st : List Value} {own : String} {cc : ByteArray} {cd : q_Cd}
theorem v_sub (lv' : List (Nat × Value)) (hl : ∀ q ∈ lv', q ∈ lv) (kk : V p l e R s m args below meth c Q D cy b0 nL mc ms kc ks σ h pc lv' st) : V p l e R s m args below meth c Q D cy b0 nL mc ms kc ks σ h pc lv st := fun H locs cells slots ls hW hS hl0 h1 h2 => kk H locs cells slots ls hW hS ⟨hl0.1, hl0.2.1, fun q hq => hl0.2.2 q (hl q hq)⟩ h1 h2
theorem v_pick (is : List Nat) {lv' : List (Nat × Value)} (hl : lv_pick lv is = lv') (kk : V p l e R s m args below meth c Q D cy b0 nL mc ms kc ks σ h pc lv' st) : V p l e R s m args below meth c Q D cy b0 nL mc ms kc ks σ h pc lv st := fun H locs cells slots ls hW hS hl0 h1 h2 => kk H locs cells slots ls hW hS (lv_sub hl0 is hl) h1 h2
theorem v_less {kc' ks' : Nat} (h1 : kc' ≤ kc) (h2 : ks' ≤ ks) (kk : V p l e R s m args below meth c Q D cy b0 nL mc ms kc' ks' σ h pc lv st) : V p l e R s m args below meth c Q D cy b0 nL mc ms kc ks σ h pc lv st := fun H locs cells slots ls hW hS hl0 g1 g2 => kk H locs cells slots ls hW hS hl0 (by omega) (by omega)
theorem v_iret (C0 : VC p R s m args meth c D cy b0 nL mc ms own cc) (hc : q_cok cc cd) (hr : meth.sig.returnType = some .int) (hlk : meth.locks = false) (hi : q_lk cd pc = some .ireturn) {x : Int32} : V p l e R s m args below meth c (MQ below (q_Qc D cy b0 (some (.int x)) σ h) args s mc ms (fun q => b0 ≤ q)) D cy b0 nL mc ms kc ks σ h pc lv [.int x] := by
  intro H locs cells slots ls hW hS hl h1 h2
  refine W.widen (k := mc) (n := ms) (by omega) (by omega) ?_
  exact W.iret C0.1 C0.2.1 hr (fun t ht hWm => ⟨rfl, by rw [ht]; exact hW, hS.F ht⟩) hS.2.2 (q_dec hc hi) hlk
theorem v_zret (C0 : VC p R s m args meth c D cy b0 nL mc ms own cc) (hc : q_cok cc cd) (hr : meth.sig.returnType = some .boolean) (hlk : meth.locks = false) (hi : q_lk cd pc = some .ireturn) {x : Int32} (hx : x = 0 ∨ x = 1) : V p l e R s m args below meth c (MQ below (q_Qc D cy b0 (some (.int x)) σ h) args s mc ms (fun q => b0 ≤ q)) D cy b0 nL mc ms kc ks σ h pc lv [.int x] := by
  intro H locs cells slots ls hW hS hl h1 h2
  refine W.widen (k := mc) (n := ms) (by omega) (by omega) ?_
  exact W.zret C0.1 C0.2.1 hr (by rcases hx with rfl | rfl <;> rfl) (fun t ht hWm => ⟨rfl, by rw [ht]; exact hW, hS.F ht⟩) hS.2.2 (q_dec hc hi) hlk
theorem v_lret (C0 : VC p R s m args meth c D cy b0 nL mc ms own cc) (hc : q_cok cc cd) (hr : meth.sig.returnType = some .long) (hlk : meth.locks = false) (hi : q_lk cd pc = some .lreturn) {x : Int64} : V p l e R s m args below meth c (MQ below (q_Qc D cy b0 (some (.long x)) σ h) args s mc ms (fun q => b0 ≤ q)) D cy b0 nL mc ms kc ks σ h pc lv [.long x] := by
  intro H locs cells slots ls hW hS hl h1 h2
  refine W.widen (k := mc) (n := ms) (by omega) (by omega) ?_
  exact W.lret C0.1 C0.2.1 hr (fun t ht hWm => ⟨rfl, by rw [ht]; exact hW, hS.F ht⟩) hS.2.2 (q_dec hc hi) hlk
theorem v_vret (C0 : VC p R s m args meth c D cy b0 nL mc ms own cc) (hc : q_cok cc cd) (hr : meth.sig.returnType = none) (hlk : meth.locks = false) (hi : q_lk cd pc = some .return_) : V p l e R s m args below meth c (MQ below (q_Qc D cy b0 none σ h) args s mc ms (fun q => b0 ≤ q)) D cy b0 nL mc ms kc ks σ h pc lv [] := by
  intro H locs cells slots ls hW hS hl h1 h2
  refine W.widen (k := mc) (n := ms) (by omega) (by omega) ?_
  exact W.vret C0.1 C0.2.1 hr (fun t ht hWm => ⟨rfl, by rw [ht]; exact hW, hS.F ht⟩) hS.2.2 (q_dec hc hi) hlk
theorem v_aret (C0 : VC p R s m args meth c D cy b0 nL mc ms own cc) (hc : q_cok cc cd) {n : String} (hr : meth.sig.returnType = some (.object n)) (hlk : meth.locks = false) (hi : q_lk cd pc = some .areturn) {x : Nat} : V p l e R s m args below meth c (MQ below (q_Qc D cy b0 (some (.ref x)) σ h) args s mc ms (fun q => b0 ≤ q)) D cy b0 nL mc ms kc ks σ h pc lv [.ref x] := by
  intro H locs cells slots ls hW hS hl h1 h2
  refine W.widen (k := mc) (n := ms) (by omega) (by omega) ?_
  exact W.aret C0.1 C0.2.1 hr (Or.inl ⟨n, rfl⟩) (Or.inr ⟨x, rfl⟩) (fun t ht hWm => ⟨rfl, by rw [ht]; exact hW, hS.F ht⟩) hS.2.2 (q_dec hc hi) hlk
/-- behind a call -/
theorem v_back {y : MethodName} {r : Option Value} {σ' : q_St} {h' : q_Hp} {mc' ms' kc' ks' : Nat} {rest : List Value} {a : Array Value} (hk1 : kc' + mc' ≤ kc) (hk2 : ks' + ms' ≤ ks)
    (hr : ∀ (H : Heap) (locs : List Loc) (cells slots : Nat) (ls : Array Slot), q_HW D cy b0 σ h H → lv_has ls nL lv → cells + mc' ≤ mc → slots + ms' ≤ ms → va_Run p l e R s m args below meth c H locs cells slots mc' ms' (F0 m pc ls st) rest (q_Qc D cy b0 r σ' h' a) (fun q => b0 ≤ q))
    (kk : V p l e R s m args below meth c Q D cy b0 nL mc ms kc' ks' σ' h' (pc + 3) lv (r.toList ++ rest)) : V p l e R s m args below meth c Q D cy b0 nL mc ms kc ks σ h pc lv st := by
  intro H locs cells slots ls hW hS hl h1 h2 T hT X
  obtain ⟨v, st₀, t, T', L, h0, X', hL, e1, e2, ⟨hv, hW', hF⟩, hst⟩ := hr H locs cells slots ls hW hl (by omega) (by omega) T hT X
  cases hv
  obtain ⟨hz, hkp⟩ := hF
  rw [h0] at hz hkp
  rw [← e1] at hz hkp hW'
  obtain ⟨t2, a1, b1⟩ := kk T'.heap (locs ++ L) (cells + mc') (slots + ms') ls hW' ⟨Nat.le_trans hS.1 hz, fun q g1 g2 => by rw [hkp q (Nat.lt_of_lt_of_le g1 hS.1) g2]; exact hS.2.1 q g1 g2, fun q hq => by
      rcases List.mem_append.mp hq with g | g
      · exact hS.2.2 q g
      · exact hL q g⟩ hl (by omega) (by omega) T' rfl X'
  exact ⟨t2, hst t2 a1, b1⟩
theorem v_callV (C0 : VC p R s m args meth c D cy b0 nL mc ms own cc) (hc : q_cok cc cd) {idx : Nat} (hi : q_lk cd pc = some (.invokevirtual idx)) {y : MethodName} {bytes : ByteArray} {maxL n : Nat} {ret : Option FieldType} {fr lo mc' ms' kc' ks' : Nat} {b : Nat} {as rest : List Value} {r : Option Value} {σ' : q_St} {h' : q_Hp}
    (hM : q_M l y bytes maxL ret fr lo mc' ms' D cy b0 σ h (.ref b :: as) r σ' h') (hy : q_cal y bytes maxL ret) (hlink : Cond.methodLink own idx y ∈ q_tbl) (hin : Cond.instanceMethod y ∈ q_tbl ∧ Cond.selects y.cls y y ∈ q_tbl) (hn : (parseMethodDescriptor y.desc).map (fun d => d.parameters.length) = some n) {ci : Nat} (hci : (vwCl[ci]?).map (fun q => q.1) = some y.cls ∧ ci < 6) (hb : q_tag σ b = ci + 1) (hst : st = as.reverse ++ .ref b :: rest) (has : as.length = n) (hR : fr + 1 ≤ R.frames ∧ 8 + (maxL + 11) + lo ≤ R.locals) (hw : (rest.map fun v => v.category).sum ≤ 8) (hk1 : kc' + mc' ≤ kc) (hk2 : ks' + ms' ≤ ks)
    (kk : V p l e R s m args below meth c Q D cy b0 nL mc ms kc' ks' σ' h' (pc + 3) lv (r.toList ++ rest)) : V p l e R s m args below meth c Q D cy b0 nL mc ms kc ks σ h pc lv st := by
  obtain ⟨c1, c2, c3, c4, c5, c6, c7, c8, c9, c10⟩ := C0
  subst hst
  refine v_back (y := y) (mc' := mc') (ms' := ms') (a := (Value.ref b :: as).toArray) hk1 hk2 (fun H locs cells slots ls hW hl h1 h2 => ?_) kk
  refine va_runV (As := as) (rest := rest) (b := b) (C := y.cls) ⟨c1, c2, c3, c4, c5⟩ hM (cwV n c5 (q_good ?_) rfl rfl rfl ⟨rfl, hy.2.2.1, hy.2.2.2, hn⟩ hR) ⟨q_blind D cy b0 σ h _, ?_, fun U hU hWm => ⟨rfl, by rw [hU]; exact hW, va_K.moved hWm.alike c6, c10.warm hWm⟩⟩ rfl has hl.1 rfl (lv_room hw) (q_dec hc hi) ⟨by omega, by omega⟩
  · intro w hw
    simp only [wsV, List.mem_append, List.mem_cons, List.not_mem_nil, or_false] at hw
    rcases hw with (rfl | rfl | rfl | rfl) | rfl | hw
    · exact hlink
    · exact hin.1
    · exact hin.2
    · exact hy.1
    · exact hy.2.1
    · exact hw
  · obtain ⟨q0, hq⟩ := q_at hW (a := b) (by rw [hb]; omega)
    rw [q_cell_obj hb hci.2] at hq
    obtain ⟨x, hx1, hx2⟩ := Option.map_eq_some_iff.mp hci.1
    obtain ⟨cell, g1, g2, g3⟩ := va_recv c6 hW.2.1 (ci := ci) hx1 hq
    exact ⟨cell, g1, g2, by rw [← hx2]; exact g3⟩
theorem v_callS (C0 : VC p R s m args meth c D cy b0 nL mc ms own cc) (hc : q_cok cc cd) {idx : Nat} (hi : q_lk cd pc = some (.invokestatic idx)) {y : MethodName} {bytes : ByteArray} {maxL n : Nat} {ret : Option FieldType} {fr lo mc' ms' kc' ks' : Nat} {as rest : List Value} {r : Option Value} {σ' : q_St} {h' : q_Hp}
    (hM : q_M l y bytes maxL ret fr lo mc' ms' D cy b0 σ h as r σ' h') (hy : q_cal y bytes maxL ret) (hlink : Cond.methodLink own idx y ∈ q_tbl) (hin : Cond.static y ∈ q_tbl) (hn : (parseMethodDescriptor y.desc).map (fun d => d.parameters.length) = some n) (hst : st = as.reverse ++ rest) (has : as.length = n) (hR : fr + 1 ≤ R.frames ∧ 8 + (maxL + 11) + lo ≤ R.locals) (hw : (rest.map fun v => v.category).sum ≤ 8) (hk1 : kc' + mc' ≤ kc) (hk2 : ks' + ms' ≤ ks)
    (kk : V p l e R s m args below meth c Q D cy b0 nL mc ms kc' ks' σ' h' (pc + 3) lv (r.toList ++ rest)) : V p l e R s m args below meth c Q D cy b0 nL mc ms kc ks σ h pc lv st := by
  obtain ⟨c1, c2, c3, c4, c5, c6, c7, c8, c9, c10⟩ := C0
  subst hst
  refine v_back (y := y) (mc' := mc') (ms' := ms') (a := as.toArray) hk1 hk2 (fun H locs cells slots ls hW hl h1 h2 => ?_) kk
  refine va_runS (As := as) (rest := rest) ⟨c1, c2, c3, c4, c5⟩ hM ⟨callB_of n c5 (q_good ?_) rfl rfl rfl (c5 _ hy.1) (c5 _ hlink) ⟨hy.2.2.1, hy.2.2.2, hn⟩ hR, c5 _ hin⟩ ⟨q_blind D cy b0 σ h _, fun U hU hWm => ⟨rfl, by rw [hU]; exact hW, va_K.moved hWm.alike c6, c10.warm hWm⟩⟩ rfl has hl.1 rfl (lv_room hw) (q_dec hc hi) ⟨by omega, by omega⟩
  intro w hw
  rcases List.mem_cons.mp hw with rfl | hw
  · exact hy.2.1
  · exact hw
/-- a static method of another class of the nest -/
theorem v_callSN (C0 : VC p R s m args meth c D cy b0 nL mc ms own cc) (hc : q_cok cc cd) {idx : Nat} (hi : q_lk cd pc = some (.invokestatic idx)) {y : MethodName} {host : String} {bytes : ByteArray} {maxL n : Nat} {ret : Option FieldType} {fr lo mc' ms' kc' ks' : Nat} {as rest : List Value} {r : Option Value} {σ' : q_St} {h' : q_Hp}
    (hM : q_M l y bytes maxL ret fr lo mc' ms' D cy b0 σ h as r σ' h') (hy : q_cal y bytes maxL ret) (hlink : Cond.methodLinkNest own idx y host ∈ lw_tbl) (hin : Cond.static y ∈ q_tbl) (hn : (parseMethodDescriptor y.desc).map (fun d => d.parameters.length) = some n) (hst : st = as.reverse ++ rest) (has : as.length = n) (hR : fr + 1 ≤ R.frames ∧ 8 + (maxL + 11) + lo ≤ R.locals) (hw : (rest.map fun v => v.category).sum ≤ 8) (hk1 : kc' + mc' ≤ kc) (hk2 : ks' + ms' ≤ ks)
    (kk : V p l e R s m args below meth c Q D cy b0 nL mc ms kc' ks' σ' h' (pc + 3) lv (r.toList ++ rest)) : V p l e R s m args below meth c Q D cy b0 nL mc ms kc ks σ h pc lv st := by
  obtain ⟨c1, c2, c3, c4, c5, c6, c7, c8, c9, c10⟩ := C0
  subst hst
  refine v_back (y := y) (mc' := mc') (ms' := ms') (a := as.toArray) hk1 hk2 (fun H locs cells slots ls hW hl h1 h2 => ?_) kk
  refine va_runSN (As := as) (rest := rest) (host := host) ⟨c1, c2, c3, c4, c5⟩ hM ⟨va_cnB n c5 (q_good ?_) rfl rfl rfl (c10.1 _ _ _ _ hlink) (c5 _ hy.1) ⟨hy.2.2.1, hy.2.2.2, hn⟩ hR, c5 _ hin, trivial⟩ ⟨q_blind D cy b0 σ h _, fun U hU hWm => ⟨rfl, by rw [hU]; exact hW, va_K.moved hWm.alike c6, c10.warm hWm⟩⟩ rfl has hl.1 rfl (lv_room hw) (q_dec hc hi) ⟨by omega, by omega⟩
  intro w hw
  rcases List.mem_cons.mp hw with rfl | hw
  · exact hy.2.1
  · exact hw
theorem v_icmp_eq (C0 : VC p R s m args meth c D cy b0 nL mc ms own cc) (hc : q_cok cc cd) {off : Int} (hi : q_lk cd pc = some (.if_icmp .eq off)) (tgt : Nat) (ht : (pc : Int) + off = (tgt : Int)) {x y : Int32} {α : Type} {A B : Option α} {o : α} (hf : (if x = y then A else B) = some o) (kt : x = y → A = some o → V p l e R s m args below meth c Q D cy b0 nL mc ms kc ks σ h tgt lv st) (kf : ¬ x = y → B = some o → V p l e R s m args below meth c Q D cy b0 nL mc ms kc ks σ h (pc + 3) lv st) : V p l e R s m args below meth c Q D cy b0 nL mc ms kc ks σ h pc lv (.int y :: .int x :: st) := fun H locs cells slots ls hW hS hl h1 h2 => lv_icmp_eq C0.1 C0.2.1 (q_dec hc hi) ht (fun q => kt q (by rw [if_pos q] at hf; exact hf) H locs cells slots ls hW hS hl h1 h2) (fun q => kf q (by rw [if_neg q] at hf; exact hf) H locs cells slots ls hW hS hl h1 h2)
theorem v_if_eq (C0 : VC p R s m args meth c D cy b0 nL mc ms own cc) (hc : q_cok cc cd) {off : Int} (hi : q_lk cd pc = some (.ifCond .eq off)) (tgt : Nat) (ht : (pc : Int) + off = (tgt : Int)) {x : Int32} {α : Type} {A B : Option α} {o : α} (hf : (if x = 0 then A else B) = some o) (kt : x = 0 → A = some o → V p l e R s m args below meth c Q D cy b0 nL mc ms kc ks σ h tgt lv st) (kf : ¬ x = 0 → B = some o → V p l e R s m args below meth c Q D cy b0 nL mc ms kc ks σ h (pc + 3) lv st) : V p l e R s m args below meth c Q D cy b0 nL mc ms kc ks σ h pc lv (.int x :: st) := fun H locs cells slots ls hW hS hl h1 h2 => lv_if_eq C0.1 C0.2.1 (q_dec hc hi) ht (fun q => kt q (by rw [if_pos q] at hf; exact hf) H locs cells slots ls hW hS hl h1 h2) (fun q => kf q (by rw [if_neg q] at hf; exact hf) H locs cells slots ls hW hS hl h1 h2)
theorem v_icmp_ne (C0 : VC p R s m args meth c D cy b0 nL mc ms own cc) (hc : q_cok cc cd) {off : Int} (hi : q_lk cd pc = some (.if_icmp .ne off)) (tgt : Nat) (ht : (pc : Int) + off = (tgt : Int)) {x y : Int32} {α : Type} {A B : Option α} {o : α} (hf : (if x = y then A else B) = some o) (kf : x = y → A = some o → V p l e R s m args below meth c Q D cy b0 nL mc ms kc ks σ h (pc + 3) lv st) (kt : ¬ x = y → B = some o → V p l e R s m args below meth c Q D cy b0 nL mc ms kc ks σ h tgt lv st) : V p l e R s m args below meth c Q D cy b0 nL mc ms kc ks σ h pc lv (.int y :: .int x :: st) := fun H locs cells slots ls hW hS hl h1 h2 => lv_icmp_ne C0.1 C0.2.1 (q_dec hc hi) ht (fun q => kt q (by rw [if_neg q] at hf; exact hf) H locs cells slots ls hW hS hl h1 h2) (fun q => kf q (by rw [if_pos q] at hf; exact hf) H locs cells slots ls hW hS hl h1 h2)
theorem v_if_ne (C0 : VC p R s m args meth c D cy b0 nL mc ms own cc) (hc : q_cok cc cd) {off : Int} (hi : q_lk cd pc = some (.ifCond .ne off)) (tgt : Nat) (ht : (pc : Int) + off = (tgt : Int)) {x : Int32} {α : Type} {A B : Option α} {o : α} (hf : (if x = 0 then A else B) = some o) (kf : x = 0 → A = some o → V p l e R s m args below meth c Q D cy b0 nL mc ms kc ks σ h (pc + 3) lv st) (kt : ¬ x = 0 → B = some o → V p l e R s m args below meth c Q D cy b0 nL mc ms kc ks σ h tgt lv st) : V p l e R s m args below meth c Q D cy b0 nL mc ms kc ks σ h pc lv (.int x :: st) := fun H locs cells slots ls hW hS hl h1 h2 => lv_if_ne C0.1 C0.2.1 (q_dec hc hi) ht (fun q => kt q (by rw [if_neg q] at hf; exact hf) H locs cells slots ls hW hS hl h1 h2) (fun q => kf q (by rw [if_pos q] at hf; exact hf) H locs cells slots ls hW hS hl h1 h2)
theorem v_icmp_lt (C0 : VC p R s m args meth c D cy b0 nL mc ms own cc) (hc : q_cok cc cd) {off : Int} (hi : q_lk cd pc = some (.if_icmp .lt off)) (tgt : Nat) (ht : (pc : Int) + off = (tgt : Int)) {x y : Int32} {α : Type} {A B : Option α} {o : α} (hf : (if x < y then A else B) = some o) (kt : x < y → A = some o → V p l e R s m args below meth c Q D cy b0 nL mc ms kc ks σ h tgt lv st) (kf : ¬ x < y → B = some o → V p l e R s m args below meth c Q D cy b0 nL mc ms kc ks σ h (pc + 3) lv st) : V p l e R s m args below meth c Q D cy b0 nL mc ms kc ks σ h pc lv (.int y :: .int x :: st) := fun H locs cells slots ls hW hS hl h1 h2 => lv_icmp_lt C0.1 C0.2.1 (q_dec hc hi) ht (fun q => kt q (by rw [if_pos q] at hf; exact hf) H locs cells slots ls hW hS hl h1 h2) (fun q => kf q (by rw [if_neg q] at hf; exact hf) H locs cells slots ls hW hS hl h1 h2)
theorem v_if_lt (C0 : VC p R s m args meth c D cy b0 nL mc ms own cc) (hc : q_cok cc cd) {off : Int} (hi : q_lk cd pc = some (.ifCond .lt off)) (tgt : Nat) (ht : (pc : Int) + off = (tgt : Int)) {x : Int32} {α : Type} {A B : Option α} {o : α} (hf : (if x < 0 then A else B) = some o) (kt : x < 0 → A = some o → V p l e R s m args below meth c Q D cy b0 nL mc ms kc ks σ h tgt lv st) (kf : ¬ x < 0 → B = some o → V p l e R s m args below meth c Q D cy b0 nL mc ms kc ks σ h (pc + 3) lv st) : V p l e R s m args below meth c Q D cy b0 nL mc ms kc ks σ h pc lv (.int x :: st) := fun H locs cells slots ls hW hS hl h1 h2 => lv_if_lt C0.1 C0.2.1 (q_dec hc hi) ht (fun q => kt q (by rw [if_pos q] at hf; exact hf) H locs cells slots ls hW hS hl h1 h2) (fun q => kf q (by rw [if_neg q] at hf; exact hf) H locs cells slots ls hW hS hl h1 h2)
theorem v_icmp_ge (C0 : VC p R s m args meth c D cy b0 nL mc ms own cc) (hc : q_cok cc cd) {off : Int} (hi : q_lk cd pc = some (.if_icmp .ge off)) (tgt : Nat) (ht : (pc : Int) + off = (tgt : Int)) {x y : Int32} {α : Type} {A B : Option α} {o : α} (hf : (if y ≤ x then A else B) = some o) (kt : y ≤ x → A = some o → V p l e R s m args below meth c Q D cy b0 nL mc ms kc ks σ h tgt lv st) (kf : ¬ y ≤ x → B = some o → V p l e R s m args below meth c Q D cy b0 nL mc ms kc ks σ h (pc + 3) lv st) : V p l e R s m args below meth c Q D cy b0 nL mc ms kc ks σ h pc lv (.int y :: .int x :: st) := fun H locs cells slots ls hW hS hl h1 h2 => lv_icmp_ge C0.1 C0.2.1 (q_dec hc hi) ht (fun q => kt q (by rw [if_pos q] at hf; exact hf) H locs cells slots ls hW hS hl h1 h2) (fun q => kf q (by rw [if_neg q] at hf; exact hf) H locs cells slots ls hW hS hl h1 h2)
theorem v_if_ge (C0 : VC p R s m args meth c D cy b0 nL mc ms own cc) (hc : q_cok cc cd) {off : Int} (hi : q_lk cd pc = some (.ifCond .ge off)) (tgt : Nat) (ht : (pc : Int) + off = (tgt : Int)) {x : Int32} {α : Type} {A B : Option α} {o : α} (hf : (if 0 ≤ x then A else B) = some o) (kt : 0 ≤ x → A = some o → V p l e R s m args below meth c Q D cy b0 nL mc ms kc ks σ h tgt lv st) (kf : ¬ 0 ≤ x → B = some o → V p l e R s m args below meth c Q D cy b0 nL mc ms kc ks σ h (pc + 3) lv st) : V p l e R s m args below meth c Q D cy b0 nL mc ms kc ks σ h pc lv (.int x :: st) := fun H locs cells slots ls hW hS hl h1 h2 => lv_if_ge C0.1 C0.2.1 (q_dec hc hi) ht (fun q => kt q (by rw [if_pos q] at hf; exact hf) H locs cells slots ls hW hS hl h1 h2) (fun q => kf q (by rw [if_neg q] at hf; exact hf) H locs cells slots ls hW hS hl h1 h2)
theorem v_icmp_gt (C0 : VC p R s m args meth c D cy b0 nL mc ms own cc) (hc : q_cok cc cd) {off : Int} (hi : q_lk cd pc = some (.if_icmp .gt off)) (tgt : Nat) (ht : (pc : Int) + off = (tgt : Int)) {x y : Int32} {α : Type} {A B : Option α} {o : α} (hf : (if y < x then A else B) = some o) (kt : y < x → A = some o → V p l e R s m args below meth c Q D cy b0 nL mc ms kc ks σ h tgt lv st) (kf : ¬ y < x → B = some o → V p l e R s m args below meth c Q D cy b0 nL mc ms kc ks σ h (pc + 3) lv st) : V p l e R s m args below meth c Q D cy b0 nL mc ms kc ks σ h pc lv (.int y :: .int x :: st) := fun H locs cells slots ls hW hS hl h1 h2 => lv_icmp_gt C0.1 C0.2.1 (q_dec hc hi) ht (fun q => kt q (by rw [if_pos q] at hf; exact hf) H locs cells slots ls hW hS hl h1 h2) (fun q => kf q (by rw [if_neg q] at hf; exact hf) H locs cells slots ls hW hS hl h1 h2)
theorem v_if_gt (C0 : VC p R s m args meth c D cy b0 nL mc ms own cc) (hc : q_cok cc cd) {off : Int} (hi : q_lk cd pc = some (.ifCond .gt off)) (tgt : Nat) (ht : (pc : Int) + off = (tgt : Int)) {x : Int32} {α : Type} {A B : Option α} {o : α} (hf : (if 0 < x then A else B) = some o) (kt : 0 < x → A = some o → V p l e R s m args below meth c Q D cy b0 nL mc ms kc ks σ h tgt lv st) (kf : ¬ 0 < x → B = some o → V p l e R s m args below meth c Q D cy b0 nL mc ms kc ks σ h (pc + 3) lv st) : V p l e R s m args below meth c Q D cy b0 nL mc ms kc ks σ h pc lv (.int x :: st) := fun H locs cells slots ls hW hS hl h1 h2 => lv_if_gt C0.1 C0.2.1 (q_dec hc hi) ht (fun q => kt q (by rw [if_pos q] at hf; exact hf) H locs cells slots ls hW hS hl h1 h2) (fun q => kf q (by rw [if_neg q] at hf; exact hf) H locs cells slots ls hW hS hl h1 h2)
theorem v_icmp_le (C0 : VC p R s m args meth c D cy b0 nL mc ms own cc) (hc : q_cok cc cd) {off : Int} (hi : q_lk cd pc = some (.if_icmp .le off)) (tgt : Nat) (ht : (pc : Int) + off = (tgt : Int)) {x y : Int32} {α : Type} {A B : Option α} {o : α} (hf : (if x ≤ y then A else B) = some o) (kt : x ≤ y → A = some o → V p l e R s m args below meth c Q D cy b0 nL mc ms kc ks σ h tgt lv st) (kf : ¬ x ≤ y → B = some o → V p l e R s m args below meth c Q D cy b0 nL mc ms kc ks σ h (pc + 3) lv st) : V p l e R s m args below meth c Q D cy b0 nL mc ms kc ks σ h pc lv (.int y :: .int x :: st) := fun H locs cells slots ls hW hS hl h1 h2 => lv_icmp_le C0.1 C0.2.1 (q_dec hc hi) ht (fun q => kt q (by rw [if_pos q] at hf; exact hf) H locs cells slots ls hW hS hl h1 h2) (fun q => kf q (by rw [if_neg q] at hf; exact hf) H locs cells slots ls hW hS hl h1 h2)
theorem v_if_le (C0 : VC p R s m args meth c D cy b0 nL mc ms own cc) (hc : q_cok cc cd) {off : Int} (hi : q_lk cd pc = some (.ifCond .le off)) (tgt : Nat) (ht : (pc : Int) + off = (tgt : Int)) {x : Int32} {α : Type} {A B : Option α} {o : α} (hf : (if x ≤ 0 then A else B) = some o) (kt : x ≤ 0 → A = some o → V p l e R s m args below meth c Q D cy b0 nL mc ms kc ks σ h tgt lv st) (kf : ¬ x ≤ 0 → B = some o → V p l e R s m args below meth c Q D cy b0 nL mc ms kc ks σ h (pc + 3) lv st) : V p l e R s m args below meth c Q D cy b0 nL mc ms kc ks σ h pc lv (.int x :: st) := fun H locs cells slots ls hW hS hl h1 h2 => lv_if_le C0.1 C0.2.1 (q_dec hc hi) ht (fun q => kt q (by rw [if_pos q] at hf; exact hf) H locs cells slots ls hW hS hl h1 h2) (fun q => kf q (by rw [if_neg q] at hf; exact hf) H locs cells slots ls hW hS hl h1 h2)
end QR
