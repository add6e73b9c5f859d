/-! methods that throw, methods that catch: over the memory's words -/
def q_gp (σ : q_St) (n : Nat) : q_St := (n, σ.2)
theorem q_L_gp {σ : q_St} (hlt : ∀ a, q_tag σ a ≠ 0 → a < q_sz σ) : ∀ k, q_L (q_gp σ (q_sz σ + k)) = q_L σ
  | 0 => rfl
  | k + 1 => by
    have ih := q_L_gp hlt k
    have e : q_tag σ (q_sz σ + k) = 0 := by
      rcases Nat.eq_zero_or_pos (q_tag σ (q_sz σ + k)) with q | q
      · exact q
      · have := hlt _ (Nat.pos_iff_ne_zero.mp q); omega
    unfold q_L q_gp at ih ⊢
    dsimp only at ih ⊢
    rw [show q_sz σ + (k + 1) = (q_sz σ + k) + 1 by omega, List.range_succ, List.filter_append, ih]
    have e2 : σ.2.1 (q_sz σ + k) = 0 := e
    simp [e2]
theorem q_HW_gp {D : va_G} {cy : Nat → Nat} {b0 : Nat} {σ : q_St} {h : q_Hp} {H H1 : Heap} (hW : q_HW D cy b0 σ h H) (hz : H.size ≤ H1.size) (hk : ∀ q : Nat, q < H.size → H1[q]? = H[q]?) : q_HW D cy b0 (q_gp σ H1.size) h H1 := by
  have e1 := hW.1
  obtain ⟨k, ek⟩ : ∃ k, H1.size = q_sz σ + k := ⟨H1.size - q_sz σ, by omega⟩
  have eL : q_L (q_gp σ H1.size) = q_L σ := by
    rw [ek]; exact q_L_gp (fun a ha => (hW.2.2.2.2 a ha).2) k
  refine ⟨rfl, ?_, hW.2.2.1, ?_, fun a ha => ?_⟩
  · rw [eL]
    exact hW.2.1.kept (fun k q hq => hk q.1 (vx_lt hW.2.1 hq))
  · show b0 ≤ H1.size
    have := hW.2.2.2.1; omega
  · have := hW.2.2.2.2 a ha
    refine ⟨this.1, ?_⟩
    show a < H1.size
    omega
def q_nms : List String := ["java/lang/RuntimeException", "java/lang/Exception"]
def q_IA : String := "java/lang/IllegalArgumentException"
def q_IS : String := "java/lang/IllegalStateException"
def q_UO : String := "java/lang/UnsupportedOperationException"
def q_strs : List (String × Nat × String) := [(RX3, 42, "a silk one has failed"), (RX3, 49, "a black one has failed"), (RX3, 54, "a suit has failed"), (RX4, 341, "no such shelf"), (RX4, 348, "no row"), (RX4, 351, "no such place")]
def q_dcl : List MethodName := [Bundle.initS "java/lang/RuntimeException", Bundle.initS "java/lang/Exception", Bundle.initS Bundle.tN]
def q_cst : List String := [q_IA, q_IS, q_UO]
def q_ncs : List (String × String) := [(q_IS, q_IA), (q_UO, q_IA), (q_UO, q_IS)]
/-- what a throw rests on, beside the tables: two statics, the texts, some words -/
def q_TX (b0 : Nat) (U : State) : Prop := (vx_Zq Bundle.tN "UNASSIGNED_STACK" Bundle.steD (fun q => b0 ≤ q) U U.heap ∧ vx_Zq Bundle.tN "SUPPRESSED_SENTINEL" Bundle.listD (fun q => b0 ≤ q) U U.heap) ∧ (∀ x ∈ q_strs, ∃ a, vk_R x.1 x.2.1 x.2.2 a U) ∧ (∀ x ∈ q_dcl, va_Nw (.declares x) U) ∧ (∀ x ∈ q_cst, va_Nw (.castable x x) U) ∧ ∀ x ∈ q_ncs, va_Nc x.1 x.2 U
theorem q_TX.warm {b0 : Nat} {s U : State} {H : Heap} {locs : List Loc} (h : q_TX b0 s) (hW : s.WarmedH U.vm) (hS : va_S (fun q => b0 ≤ q) s.heap H locs) (hU : U.heap = H) : q_TX b0 U := by
  obtain ⟨⟨h1, h2⟩, h3, h4, h5, h6⟩ := h
  subst hU
  exact ⟨⟨(h1.kept hS.2.1).moved hW.alike, (h2.kept hS.2.1).moved hW.alike⟩, fun x hx => by obtain ⟨a, ha⟩ := h3 x hx; exact ⟨a, vk_R.warm hW ha⟩, fun x hx => va_Nw.warmD hW (h4 x hx), fun x hx => va_Nw.warmC hW (h5 x hx), fun x hx => va_Nc.moved hW.alike (h6 x hx)⟩
theorem q_TX.same {b0 : Nat} {u U : State} (h : q_TX b0 u) (hv : u.vm = U.vm) (hh : U.heap = u.heap) : q_TX b0 U := by
  obtain ⟨⟨h1, h2⟩, h3, h4, h5, h6⟩ := h
  have al : u.vm.Alike U.vm := by rw [hv]; exact Vm.Alike.refl _
  rw [← hh] at h1 h2
  exact ⟨⟨h1.moved al, h2.moved al⟩, fun x hx => by obtain ⟨a, ha⟩ := h3 x hx; exact ⟨a, vk_R.same hv.symm ha⟩, fun x hx => va_Nw.same rfl hv (h4 x hx), fun x hx => va_Nw.same rfl hv (h5 x hx), fun x hx => va_Nc.moved al (h6 x hx)⟩
def q_PcX (D : va_G) (cy : Nat → Nat) (b0 : Nat) (σ : q_St) (h : q_Hp) (as : List Value) : Array Value → State → Prop := va_Pc as (fun U => q_HW D cy b0 σ h U.heap ∧ va_K D vwCl (q_tys cy) U ∧ q_NW U ∧ q_TX b0 U)
theorem q_blindX (D : va_G) (cy : Nat → Nat) (b0 : Nat) (σ : q_St) (h : q_Hp) (as : List Value) : FrameBlind (q_PcX D cy b0 σ h as) := fun a U g mk q => by
  obtain ⟨q0, q1, q2, q3, q4⟩ := q
  exact ⟨q0, q1, va_K.moved (u := U) (U := U.calling g mk a) (Vm.Alike.refl U.vm) q2, q3.same rfl, q4.same rfl rfl⟩
/-- an exception of the class E has left: other cells may have been made -/
def q_XC (D : va_G) (cy : Nat → Nat) (b0 : Nat) (σ : q_St) (h : q_Hp) (E0 : String) : String → State → State → Prop := fun E st t => E = E0 ∧ (∃ n, q_sz σ ≤ n ∧ q_HW D cy b0 (q_gp σ n) h t.heap) ∧ va_F (fun q => b0 ≤ q) st t
theorem q_enterX {l : Launch} {y : MethodName} {bytes : ByteArray} {maxL : Nat} {ret : Option FieldType} {fr lo mc ms : Nat} {D : va_G} {cy : Nat → Nat} {b0 : Nat} {σ : q_St} {h : q_Hp} {as : List Value} {Qc : Array Value → State → Outcome → State → Prop} {XC : String → State → State → Prop} (hy : plainName y.cls = true) (hlen : (lg_sl as).length ≤ maxL)
    (body : ∀ (p : Program) (e : Env) (s : State) (m : MethodId) (args : Array Value) (below : List Frame) (meth : Method) (c : Code), VC p { frames := fr, cells := mc, slots := ms, locals := lo } s m args meth c D cy b0 maxL mc ms y.cls bytes → meth.sig.returnType = ret → meth.locks = false → (∀ x ∈ c.exceptionTable.toList, False) → q_TX b0 s →
      V p l e { frames := fr, cells := mc, slots := ms, locals := lo } s m args below meth c (vx_MQ below Qc XC args s mc ms (fun q => b0 ≤ q)) D cy b0 maxL mc ms mc ms σ h 0 (lv_args 0 as) []) : vx_Met l y (Cond.code y bytes maxL ret :: q_tbl) { frames := fr, cells := mc, slots := ms, locals := lo } (q_PcX D cy b0 σ h as) Qc XC mc ms (fun q => b0 ≤ q) := by
  refine vx_ofW (cc := bytes) (maxL := maxL) (ret := ret) hy rfl ?_
  intro p e s m args below meth c s₁ B hml hex hv
  obtain ⟨rfl, hW, hK, hN, hT⟩ := hv
  have hts := atoms_spec (ws := Cond.code y bytes maxL ret :: q_tbl) B.pre
  have hb0 : b0 ≤ s.heap.size := by rw [hW.1]; exact hW.2.2.2.1
  rw [lg_entry_eq]
  exact body p e s m _ below meth c ⟨B.exec, B.bytes, hml, findClass_of_methodNamed B.named, fun w hw => hts w (List.mem_cons_of_mem _ hw), hK, Nat.le_refl _, Nat.le_refl _, hb0, hN⟩ B.returns B.notSynchronized hex hT s.heap [] 0 0 _ hW va_S.rf (lv_entry as hlen) (by omega) (by omega)
theorem q_enterH {l : Launch} {y : MethodName} {bytes : ByteArray} {maxL : Nat} {ret : Option FieldType} {hh : List (Nat × Nat × Nat × Nat)} {fr lo mc ms : Nat} {D : va_G} {cy : Nat → Nat} {b0 : Nat} {σ : q_St} {h : q_Hp} {as : List Value} {Qc : Array Value → State → Outcome → State → Prop} {XC : String → State → State → Prop} (hy : plainName y.cls = true) (hlen : (lg_sl as).length ≤ maxL)
    (body : ∀ (p : Program) (e : Env) (s : State) (m : MethodId) (args : Array Value) (below : List Frame) (meth : Method) (c : Code), VC p { frames := fr, cells := mc, slots := ms, locals := lo } s m args meth c D cy b0 maxL mc ms y.cls bytes → meth.sig.returnType = ret → meth.locks = false → c.exceptionTable.toList = tableOf hh → q_TX b0 s →
      V p l e { frames := fr, cells := mc, slots := ms, locals := lo } s m args below meth c (vx_MQ below Qc XC args s mc ms (fun q => b0 ≤ q)) D cy b0 maxL mc ms mc ms σ h 0 (lv_args 0 as) []) : vx_Met l y (Cond.codeWith y bytes maxL ret hh :: q_tbl) { frames := fr, cells := mc, slots := ms, locals := lo } (q_PcX D cy b0 σ h as) Qc XC mc ms (fun q => b0 ≤ q) := by
  refine vx_ofWH (cc := bytes) (maxL := maxL) (ret := ret) (hh := hh) hy rfl ?_
  intro p e s m args below meth c s₁ B hml hv
  obtain ⟨rfl, hW, hK, hN, hT⟩ := hv
  have hts := atoms_spec (ws := Cond.codeWith y bytes maxL ret hh :: q_tbl) B.pre
  have hb0 : b0 ≤ s.heap.size := by rw [hW.1]; exact hW.2.2.2.1
  have hex := vx_table (x := y) B (hts _ List.mem_cons_self)
  rw [lg_entry_eq]
  exact body p e s m _ below meth c ⟨B.exec, B.bytes, hml, findClass_of_methodNamed B.named, fun w hw => hts w (List.mem_cons_of_mem _ hw), hK, Nat.le_refl _, Nat.le_refl _, hb0, hN⟩ B.returns B.notSynchronized hex hT s.heap [] 0 0 _ hW va_S.rf (lv_entry as hlen) (by omega) (by omega)
section QX
variable {p : Program} {l : Launch} {e : Env} {R : Room} {s : State} {m : MethodId} {args : Array Value} {below : List Frame} {meth : Method} {c : Code} {Q : State → Prop} {D : va_G} {cy : Nat → Nat} {b0 nL mc ms kc ks : Nat} {σ : q_St} {h : q_Hp} {pc : Nat} {lv : List (Nat × Value)} {st : List Value} {own : String} {cc : ByteArray} {cd : q_Cd}
theorem v_xret {Qc Qd : Array Value → State → Outcome → State → Prop} {XC : String → State → State → Prop} {free : Addr → Prop} (hQ : ∀ (st : State) (o : Outcome) (t : State), Qd args st o t → Qc args st o t) (kk : V p l e R s m args below meth c (MQ below Qd args s mc ms free) D cy b0 nL mc ms kc ks σ h pc lv st) : V p l e R s m args below meth c (vx_MQ below Qc XC args s mc ms free) D cy b0 nL mc ms kc ks σ h pc lv st := by
  intro H locs cells slots ls hW hS hl h1 h2 T hT X
  obtain ⟨t, a1, o, b1, b2, b3, b4⟩ := kk H locs cells slots ls hW hS hl h1 h2 T hT X
  exact ⟨t, a1, o, b1, b2, Or.inl ⟨hQ _ _ _ b3, b4⟩⟩
theorem q_thx (D : va_G) (cy : Nat → Nat) {H : Heap} {locs : List Loc} {cls : String} (hW : q_HW D cy b0 σ h H) (hS : va_S (fun q => b0 ≤ q) s.heap H locs) : ∀ t : State, s.vm.Alike t.vm → H.size ≤ t.heap.size → (∀ q : Nat, q < H.size → t.heap[q]? = H[q]?) → q_XC D cy b0 σ h cls cls s t := fun t _ hz hk =>
  ⟨rfl, ⟨t.heap.size, by rw [← hW.1]; exact hz, q_HW_gp hW hz hk⟩, Nat.le_trans hS.1 hz, fun q hq hn => (hk q (Nat.lt_of_lt_of_le hq hS.1)).trans (hS.2.1 q hq hn)⟩
theorem q_nmsF : ∀ n ∈ q_nms, Bundle.fit n = true := by decide +kernel
theorem q_hatX {ik ic : Nat} {cls : String} (hts : ∀ w ∈ q_tbl, w.before args s = true) (hT : q_TX b0 s) (h1 : ∀ w ∈ (vx_atS own ic cls q_nms).filter goodWord, w ∈ q_tbl) (h2 : ∀ w ∈ (vx_atS own ic cls q_nms).filter (fun w => !goodWord w), w ∈ q_dcl.map Cond.declares ++ q_cst.map (fun x => Cond.castable x x)) : ∀ w ∈ vx_atS own ic cls q_nms, w.before args s = true :=
  vx_hat (fun w hw => hts w (h1 w hw)) h2 (fun w hw => by
    rcases List.mem_append.mp hw with q | q
    · obtain ⟨x, hx, rfl⟩ := List.mem_map.mp q
      exact va_Nw.use rfl (hT.2.2.1 x hx)
    · obtain ⟨x, hx, rfl⟩ := List.mem_map.mp q
      exact va_Nw.use rfl (hT.2.2.2.1 x hx))
theorem v_throw {Qc : Array Value → State → Outcome → State → Prop} {XC : String → State → State → Prop} (C0 : VC p R s m args meth c D cy b0 nL mc ms own cc) (hl : l.stackTraces = false) (hT : q_TX b0 s) (hc : q_cok cc cd) {ik is ic : Nat} {cls text : String} (i0 : q_lk cd pc = some (.new ik)) (i3 : q_lk cd (pc + 3) = some .dup) (i4 : q_lk cd (pc + 4) = some (.ldc is)) (i6 : q_lk cd (pc + 6) = some (.invokespecial ic)) (i9 : q_lk cd (pc + 9) = some .athrow)
    (hcls : Bundle.fit cls = true) (hk : Cond.classLink own ik cls ∈ q_tbl) (hini : Cond.initialized cls ∈ q_tbl) (hstr : (own, is, text) ∈ q_strs) (hat1 : ∀ w ∈ (vx_atS own ic cls q_nms).filter goodWord, w ∈ q_tbl) (hat2 : ∀ w ∈ (vx_atS own ic cls q_nms).filter (fun w => !goodWord w), w ∈ q_dcl.map Cond.declares ++ q_cst.map (fun x => Cond.castable x x)) (hgood : ∀ w ∈ Cond.classLink own ik cls :: Cond.initialized cls :: vx_atS own ic cls q_nms, vx_ot w = true)
    (hex : ∀ x ∈ c.exceptionTable.toList, False) (hlk : meth.locks = false) (hR : 5 < R.frames) (hRl : (st.map fun v => v.category).sum + 82 ≤ R.locals) (hkc : 1 ≤ kc) (hks : 6 ≤ ks) (hX : ∀ E st t, q_XC D cy b0 σ h cls E st t → XC E st t) : V p l e R s m args below meth c (vx_MQ below Qc XC args s mc ms (fun q => b0 ≤ q)) D cy b0 nL mc ms kc ks σ h pc lv st := by
  obtain ⟨c1, c2, c3, c4, c5, c6, c7, c8, c9, c10⟩ := C0
  intro H locs cells slots ls hW hS hl0 h1 h2
  obtain ⟨sa, hsa⟩ := hT.2.1 _ hstr
  exact vx_throwS (names := q_nms) (sa := sa) c1 c2 hl c4 hcls q_nmsF (c5 _ hk) (c5 _ hini) hsa (q_hatX (ik := ik) c5 hT hat1 hat2) hgood hT.1.1 hT.1.2 hS (by rw [c3]; exact hl0.1) (q_dec hc i0) (q_dec hc i3) (q_dec hc i4) (q_dec hc i6) (q_dec hc i9) (fun x hx => (hex x hx).elim) hR hRl (by omega) (by omega) hlk (fun t ha hz hk => hX _ _ _ (q_thx D cy hW hS t ha hz hk)) hS.2.2 (by omega) (by omega)
theorem v_throwW {Qc : Array Value → State → Outcome → State → Prop} {XC : String → State → State → Prop} (C0 : VC p R s m args meth c D cy b0 nL mc ms own cc) (hl : l.stackTraces = false) (hT : q_TX b0 s) (hc : q_cok cc cd) {ik is ic : Nat} {cls text : String} (i0 : q_lk cd pc = some (.new ik)) (i3 : q_lk cd (pc + 3) = some .dup) (i4 : q_lk cd (pc + 4) = some (.ldc_w is)) (i7 : q_lk cd (pc + 7) = some (.invokespecial ic)) (i10 : q_lk cd (pc + 10) = some .athrow)
    (hcls : Bundle.fit cls = true) (hk : Cond.classLink own ik cls ∈ q_tbl) (hini : Cond.initialized cls ∈ q_tbl) (hstr : (own, is, text) ∈ q_strs) (hat1 : ∀ w ∈ (vx_atS own ic cls q_nms).filter goodWord, w ∈ q_tbl) (hat2 : ∀ w ∈ (vx_atS own ic cls q_nms).filter (fun w => !goodWord w), w ∈ q_dcl.map Cond.declares ++ q_cst.map (fun x => Cond.castable x x)) (hgood : ∀ w ∈ Cond.classLink own ik cls :: Cond.initialized cls :: vx_atS own ic cls q_nms, vx_ot w = true)
    (hex : ∀ x ∈ c.exceptionTable.toList, False) (hlk : meth.locks = false) (hR : 5 < R.frames) (hRl : (st.map fun v => v.category).sum + 82 ≤ R.locals) (hkc : 1 ≤ kc) (hks : 6 ≤ ks) (hX : ∀ E st t, q_XC D cy b0 σ h cls E st t → XC E st t) : V p l e R s m args below meth c (vx_MQ below Qc XC args s mc ms (fun q => b0 ≤ q)) D cy b0 nL mc ms kc ks σ h pc lv st := by
  obtain ⟨c1, c2, c3, c4, c5, c6, c7, c8, c9, c10⟩ := C0
  intro H locs cells slots ls hW hS hl0 h1 h2
  obtain ⟨sa, hsa⟩ := hT.2.1 _ hstr
  exact vx_throwSW (names := q_nms) (sa := sa) c1 c2 hl c4 hcls q_nmsF (c5 _ hk) (c5 _ hini) hsa (q_hatX (ik := ik) c5 hT hat1 hat2) hgood hT.1.1 hT.1.2 hS (by rw [c3]; exact hl0.1) (q_dec hc i0) (q_dec hc i3) (q_dec hc i4) (q_dec hc i7) (q_dec hc i10) (fun x hx => (hex x hx).elim) hR hRl (by omega) (by omega) hlk (fun t ha hz hk => hX _ _ _ (q_thx D cy hW hS t ha hz hk)) hS.2.2 (by omega) (by omega)
/-- an exception of the class E stands above the frame -/
def VX (p : Program) (l : Launch) (e : Env) (R : Room) (s : State) (m : MethodId) (args : Array Value) (below : List Frame) (meth : Method) (c : Code) (Q : State → Prop) (D : va_G) (cy : Nat → Nat) (b0 nL mc ms kc ks : Nat) (σ : q_St) (h : q_Hp) (pc : Nat) (lv : List (Nat × Value)) (rest : List Value) (E : String) : Prop :=
  ∀ (H : Heap) (locs : List Loc) (cells slots : Nat) (ls : Array Slot) (q : Addr) (ce : Cell), q_HW D cy b0 σ h H → va_S (fun q => b0 ≤ q) s.heap H locs → lv_has ls nL lv → cells + kc ≤ mc → slots + ks ≤ ms → H[q]? = some ce → ce.vm = .none → s.vm.findClass E = some ce.cls → vx_W p l e R s m args below meth c H locs cells slots Q (F0 m pc ls rest) q
theorem v_catch {name E : String} (C0 : VC p R s m args meth c D cy b0 nL mc ms own cc) (pre : List ExceptionTableEntry) (x : ExceptionTableEntry) (suf : List ExceptionTableEntry) (hsplit : c.exceptionTable.toList = pre ++ x :: suf)
    (hpass : ∀ z ∈ pre, covers z pc = false ∨ (z.catchType ≠ 0 ∧ ∃ nm : String, Cond.classLink own z.catchType nm ∈ q_tbl ∧ va_Nc E nm s)) (hx : covers x pc = true) (h0 : x.catchType ≠ 0) (hlink : Cond.classLink own x.catchType name ∈ q_tbl) (hcast : (Cond.castable E name).before args s = true) {rest : List Value}
    (kk : ∀ q, V p l e R s m args below meth c Q D cy b0 nL mc ms kc ks σ h x.handlerPc lv [.ref q]) : VX p l e R s m args below meth c Q D cy b0 nL mc ms kc ks σ h pc lv rest E := fun H locs cells slots ls q ce hW hS hl h1 h2 hce hcv hcl =>
  vx_catch C0.2.2.2.1 pre x suf hsplit (fun z hz => (hpass z hz).imp id (fun ⟨z0, nm, hl1, hn1⟩ => ⟨z0, nm, C0.2.2.2.2.1 _ hl1, hn1⟩)) hx h0 (C0.2.2.2.2.1 _ hlink) hcast hce hcv hcl (kk q H locs cells slots ls hW hS hl h1 h2)
/-- behind a call that returns or throws -/
theorem v_callX {Qa : State → Outcome → State → Prop} {XC : String → State → State → Prop} {mc' ms' kc' ks' : Nat} {rest : List Value} (hk1 : kc' + mc' ≤ kc) (hk2 : ks' + ms' ≤ ks)
    (hr : ∀ (H : Heap) (locs : List Loc) (cells slots : Nat) (ls : Array Slot), q_HW D cy b0 σ h H → va_S (fun q => b0 ≤ q) s.heap H locs → lv_has ls nL lv → cells + mc' ≤ mc → slots + ms' ≤ ms → vx_Run p l e R s m args below meth c H locs cells slots mc' ms' (F0 m pc ls st) rest Qa XC (fun q => b0 ≤ q))
    (kr : ∀ (v : Option Value) (st₀ t : State), Qa st₀ (.returned v) t → ∃ σ1 h1, q_HW D cy b0 σ1 h1 t.heap ∧ va_F (fun q => b0 ≤ q) st₀ t ∧ V p l e R s m args below meth c Q D cy b0 nL mc ms kc' ks' σ1 h1 (pc + 3) lv (v.toList ++ rest))
    (kx : ∀ (E : String) (st₀ t : State), XC E st₀ t → ∃ σ1 h1, q_HW D cy b0 σ1 h1 t.heap ∧ va_F (fun q => b0 ≤ q) st₀ t ∧ VX p l e R s m args below meth c Q D cy b0 nL mc ms kc' ks' σ1 h1 pc lv rest E) : V p l e R s m args below meth c Q D cy b0 nL mc ms kc ks σ h pc lv st := by
  intro H locs cells slots ls hW hS hl h1 h2 T hT X
  rcases hr H locs cells slots ls hW hS hl (by omega) (by omega) T hT X with ⟨v, st₀, t, T', L, h0, X', hL, e1, e2, hq, hst⟩ | ⟨q, st₀, t, T', L, E, ce, h0, X', hL, e1, e2, hq, hce, hcv, hcl, hst⟩
  · obtain ⟨σ1, h1', hW1, ⟨hz, hkp⟩, kk⟩ := kr v st₀ t hq
    rw [h0] at hz hkp
    rw [← e1] at hz hkp hW1
    obtain ⟨t2, a1, b1⟩ := kk T'.heap (locs ++ L) (cells + mc') (slots + ms') ls hW1 ⟨Nat.le_trans hS.1 hz, fun q g1 g2 => by rw [hkp q (Nat.lt_of_lt_of_le g1 hS.1) g2]; exact hS.2.1 q g1 g2, fun q hq => by
      rcases List.mem_append.mp hq with g | g
      · exact hS.2.2 q g
      · exact hL q g⟩ hl (by omega) (by omega) T' rfl X'
    exact ⟨t2, hst t2 a1, b1⟩
  · obtain ⟨σ1, h1', hW1, ⟨hz, hkp⟩, kk⟩ := kx E st₀ t hq
    rw [h0] at hz hkp
    rw [← e1] at hz hkp hW1 hce
    obtain ⟨t2, a1, b1⟩ := kk T'.heap (locs ++ L) (cells + mc') (slots + ms') ls q ce hW1 ⟨Nat.le_trans hS.1 hz, fun q g1 g2 => by rw [hkp q (Nat.lt_of_lt_of_le g1 hS.1) g2]; exact hS.2.1 q g1 g2, fun q hq => by
      rcases List.mem_append.mp hq with g | g
      · exact hS.2.2 q g
      · exact hL q g⟩ hl (by omega) (by omega) hce hcv hcl T' rfl X'
    exact ⟨t2, hst.trans a1, b1⟩
end QX
theorem Inv_gp {σ : q_St} {h : q_Hp} {x n : Nat} (I : k_Inv σ h x) (hn : q_sz σ ≤ n) : k_Inv (q_gp σ n) h x := by
  obtain ⟨A, B, z, p, zi, y, c, v, C, Mi, e1, e2, e3, e4⟩ := I
  refine ⟨A, B, z, p, zi, y, c, v, C, Mi, e1, ?_, fun a ha => e3 a ?_, e4⟩
  · show x + 116 ≤ n
    omega
  · have : n ≤ a := ha
    omega
