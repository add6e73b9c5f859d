/-! the methods that throw and those that catch -/
theorem q_hatT {own : String} {ic : Nat} {cls : String} (h : ((vx_atS own ic cls q_nms).filter goodWord).all (fun w => lw_tbl.contains w) = true) : ∀ w ∈ (vx_atS own ic cls q_nms).filter goodWord, w ∈ q_tbl := fun w hw =>
  q_tbl_of (by have := List.all_eq_true.mp h w hw; simpa using this) (List.mem_filter.mp hw).2
section QV
variable {p : Program} {l : Launch} {e : Env} {R : Room} {s : State} {m : MethodId} {args : Array Value} {below : List Frame} {meth : Method} {c : Code} {Q : State → Prop} {D : va_G} {cy : Nat → Nat} {b0 nL mc ms kc ks : Nat} {σ : q_St} {h : q_Hp} {pc : Nat} {lv : List (Nat × Value)} {st : List Value} {own : String} {cc : ByteArray} {cd : q_Cd}
theorem v_callVX (C0 : VC p R s m args meth c D cy b0 nL mc ms own cc) (hX : q_TX b0 s) (hc : q_cok cc cd) {idx : Nat} (hi : q_lk cd pc = some (.invokevirtual idx)) {y : MethodName} {bytes : ByteArray} {maxL n : Nat} {ret : Option FieldType} {fr lo mc' ms' kc' ks' : Nat} {b : Nat} {as rest : List Value} {Qc : Array Value → State → Outcome → State → Prop} {XC : String → State → State → Prop}
    (hM : vx_Met l y (Cond.code y bytes maxL ret :: q_tbl) { frames := fr, cells := mc', slots := ms', locals := lo } (q_PcX D cy b0 σ h (.ref b :: as)) Qc XC mc' ms' (fun q => b0 ≤ q)) (hy : q_cal y bytes maxL ret) (hlink : Cond.methodLink own idx y ∈ q_tbl) (hin : Cond.instanceMethod y ∈ q_tbl ∧ Cond.selects y.cls y y ∈ q_tbl) (hn : (parseMethodDescriptor y.desc).map (fun d => d.parameters.length) = some n) {ci : Nat} (hci : (vwCl[ci]?).map (fun q => q.1) = some y.cls ∧ ci < 6) (hb : q_tag σ b = ci + 1) (hst : st = as.reverse ++ .ref b :: rest) (has : as.length = n) (hR : fr + 1 ≤ R.frames ∧ 8 + (maxL + 11) + lo ≤ R.locals) (hw : (rest.map fun v => v.category).sum ≤ 8) (hk1 : kc' + mc' ≤ kc) (hk2 : ks' + ms' ≤ ks)
    (kr : ∀ (v : Option Value) (st₀ t : State), Qc (Value.ref b :: as).toArray st₀ (.returned v) t → ∃ σ1 h1, q_HW D cy b0 σ1 h1 t.heap ∧ va_F (fun q => b0 ≤ q) st₀ t ∧ V p l e R s m args below meth c Q D cy b0 nL mc ms kc' ks' σ1 h1 (pc + 3) lv (v.toList ++ rest))
    (kx : ∀ (E : String) (st₀ t : State), XC E st₀ t → ∃ σ1 h1, q_HW D cy b0 σ1 h1 t.heap ∧ va_F (fun q => b0 ≤ q) st₀ t ∧ VX p l e R s m args below meth c Q D cy b0 nL mc ms kc' ks' σ1 h1 pc lv rest E) : V p l e R s m args below meth c Q D cy b0 nL mc ms kc ks σ h pc lv st := by
  obtain ⟨c1, c2, c3, c4, c5, c6, c7, c8, c9, c10⟩ := C0
  subst hst
  refine v_callX (mc' := mc') (ms' := ms') hk1 hk2 (fun H locs cells slots ls hW hS hl h1 h2 => ?_) kr kx
  refine vx_runV (As := as) (rest := rest) (b := b) (C := y.cls) ⟨c1, c2, c3, c4, c5⟩ hM (cwV n c5 (q_good ?_) rfl rfl rfl ⟨rfl, hy.2.2.1, hy.2.2.2, hn⟩ hR) ⟨q_blindX D cy b0 σ h _, ?_, fun U hU hWm => ⟨rfl, by rw [hU]; exact hW, va_K.moved hWm.alike c6, c10.warm hWm, hX.warm hWm hS hU⟩⟩ rfl has hl.1 rfl (lv_room hw) (q_dec hc hi) ⟨by omega, by omega⟩
  · intro w hw
    simp only [wsV, List.mem_append, List.mem_cons, List.not_mem_nil, or_false] at hw
    rcases hw with (rfl | rfl | rfl | rfl) | rfl | hw
    · exact hlink
    · exact hin.1
    · exact hin.2
    · exact hy.1
    · exact hy.2.1
    · exact hw
  · obtain ⟨q0, hq⟩ := q_at hW (a := b) (by rw [hb]; omega)
    rw [q_cell_obj hb hci.2] at hq
    obtain ⟨x, hx1, hx2⟩ := Option.map_eq_some_iff.mp hci.1
    obtain ⟨cell, g1, g2, g3⟩ := va_recv c6 hW.2.1 (ci := ci) hx1 hq
    exact ⟨cell, g1, g2, by rw [← hx2]; exact g3⟩
theorem v_callSX (C0 : VC p R s m args meth c D cy b0 nL mc ms own cc) (hX : q_TX b0 s) (hc : q_cok cc cd) {idx : Nat} (hi : q_lk cd pc = some (.invokestatic idx)) {y : MethodName} {bytes : ByteArray} {maxL n : Nat} {ret : Option FieldType} {hh : List (Nat × Nat × Nat × Nat)} {fr lo mc' ms' kc' ks' : Nat} {as rest : List Value} {Qc : Array Value → State → Outcome → State → Prop} {XC : String → State → State → Prop}
    (hM : vx_Met l y (Cond.codeWith y bytes maxL ret hh :: q_tbl) { frames := fr, cells := mc', slots := ms', locals := lo } (q_PcX D cy b0 σ h as) Qc XC mc' ms' (fun q => b0 ≤ q)) (hy : Cond.initialized y.cls ∈ q_tbl ∧ Cond.codeWith y bytes maxL ret hh ∈ q_tbl ∧ y.cls ≠ "java/lang/invoke/MethodHandle" ∧ y.cls ≠ "java/lang/invoke/VarHandle") (hlink : Cond.methodLink own idx y ∈ q_tbl) (hin : Cond.static y ∈ q_tbl) (hn : (parseMethodDescriptor y.desc).map (fun d => d.parameters.length) = some n) (hst : st = as.reverse ++ rest) (has : as.length = n) (hR : fr + 1 ≤ R.frames ∧ 8 + (maxL + 11) + lo ≤ R.locals) (hw : (rest.map fun v => v.category).sum ≤ 8) (hk1 : kc' + mc' ≤ kc) (hk2 : ks' + ms' ≤ ks)
    (kr : ∀ (v : Option Value) (st₀ t : State), Qc as.toArray st₀ (.returned v) t → ∃ σ1 h1, q_HW D cy b0 σ1 h1 t.heap ∧ va_F (fun q => b0 ≤ q) st₀ t ∧ V p l e R s m args below meth c Q D cy b0 nL mc ms kc' ks' σ1 h1 (pc + 3) lv (v.toList ++ rest))
    (kx : ∀ (E : String) (st₀ t : State), XC E st₀ t → ∃ σ1 h1, q_HW D cy b0 σ1 h1 t.heap ∧ va_F (fun q => b0 ≤ q) st₀ t ∧ VX p l e R s m args below meth c Q D cy b0 nL mc ms kc' ks' σ1 h1 pc lv rest E) : V p l e R s m args below meth c Q D cy b0 nL mc ms kc ks σ h pc lv st := by
  obtain ⟨c1, c2, c3, c4, c5, c6, c7, c8, c9, c10⟩ := C0
  subst hst
  refine v_callX (mc' := mc') (ms' := ms') hk1 hk2 (fun H locs cells slots ls hW hS hl h1 h2 => ?_) kr kx
  refine vx_runSX (As := as) (rest := rest) ⟨c1, c2, c3, c4, c5⟩ hM (vx_cwSW n c5 (q_good ?_) rfl rfl rfl ⟨hy.2.2.1, hy.2.2.2, hn⟩ hR) ⟨q_blindX D cy b0 σ h _, fun U hU hWm => ⟨rfl, by rw [hU]; exact hW, va_K.moved hWm.alike c6, c10.warm hWm, hX.warm hWm hS hU⟩⟩ rfl has hl.1 rfl (lv_room hw) (q_dec hc hi) ⟨by omega, by omega⟩
  intro w hw
  simp only [va_wsS, List.mem_append, List.mem_cons, List.not_mem_nil, or_false] at hw
  rcases hw with (rfl | rfl | rfl) | rfl | hw
  · exact hlink
  · exact hin
  · exact hy.1
  · exact hy.2.1
  · exact hw
end QV
theorem q_at3IS : (∀ w ∈ (vx_atS RX3 51 q_IS q_nms).filter goodWord, w ∈ q_tbl) ∧ (∀ w ∈ (vx_atS RX3 51 q_IS q_nms).filter (fun w => !goodWord w), w ∈ q_dcl.map Cond.declares ++ q_cst.map (fun x => Cond.castable x x)) ∧ ∀ w ∈ Cond.classLink RX3 47 q_IS :: Cond.initialized q_IS :: vx_atS RX3 51 q_IS q_nms, vx_ot w = true := ⟨q_hatT (by decide +kernel), by decide +kernel, by decide +kernel⟩
theorem q_at3UO : (∀ w ∈ (vx_atS RX3 44 q_UO q_nms).filter goodWord, w ∈ q_tbl) ∧ (∀ w ∈ (vx_atS RX3 44 q_UO q_nms).filter (fun w => !goodWord w), w ∈ q_dcl.map Cond.declares ++ q_cst.map (fun x => Cond.castable x x)) ∧ ∀ w ∈ Cond.classLink RX3 40 q_UO :: Cond.initialized q_UO :: vx_atS RX3 44 q_UO q_nms, vx_ot w = true := ⟨q_hatT (by decide +kernel), by decide +kernel, by decide +kernel⟩
theorem q_at3IA : (∀ w ∈ (vx_atS RX3 56 q_IA q_nms).filter goodWord, w ∈ q_tbl) ∧ (∀ w ∈ (vx_atS RX3 56 q_IA q_nms).filter (fun w => !goodWord w), w ∈ q_dcl.map Cond.declares ++ q_cst.map (fun x => Cond.castable x x)) ∧ ∀ w ∈ Cond.classLink RX3 52 q_IA :: Cond.initialized q_IA :: vx_atS RX3 56 q_IA q_nms, vx_ot w = true := ⟨q_hatT (by decide +kernel), by decide +kernel, by decide +kernel⟩
theorem q_at4IA : (∀ w ∈ (vx_atS RX4 343 q_IA q_nms).filter goodWord, w ∈ q_tbl) ∧ (∀ w ∈ (vx_atS RX4 343 q_IA q_nms).filter (fun w => !goodWord w), w ∈ q_dcl.map Cond.declares ++ q_cst.map (fun x => Cond.castable x x)) ∧ ∀ w ∈ Cond.classLink RX4 339 q_IA :: Cond.initialized q_IA :: vx_atS RX4 343 q_IA q_nms, vx_ot w = true := ⟨q_hatT (by decide +kernel), by decide +kernel, by decide +kernel⟩
theorem q_at4IS : (∀ w ∈ (vx_atS RX4 350 q_IS q_nms).filter goodWord, w ∈ q_tbl) ∧ (∀ w ∈ (vx_atS RX4 350 q_IS q_nms).filter (fun w => !goodWord w), w ∈ q_dcl.map Cond.declares ++ q_cst.map (fun x => Cond.castable x x)) ∧ ∀ w ∈ Cond.classLink RX4 346 q_IS :: Cond.initialized q_IS :: vx_atS RX4 350 q_IS q_nms, vx_ot w = true := ⟨q_hatT (by decide +kernel), by decide +kernel, by decide +kernel⟩
theorem calX3_fail : q_cal yX3_fail cX3_fail 1 none := ⟨(q_tb1 3 rfl rfl), (q_tb4 7 rfl rfl), by decide +kernel, by decide +kernel⟩
theorem dnX3_fail : (parseMethodDescriptor yX3_fail.desc).map (fun d => d.parameters.length) = some 0 := by decide +kernel
theorem inX3_fail : Cond.instanceMethod yX3_fail ∈ q_tbl ∧ Cond.selects yX3_fail.cls yX3_fail yX3_fail ∈ q_tbl := ⟨(q_tb4 5 rfl rfl), (q_tb4 6 rfl rfl)⟩
theorem lkX4_399 : Cond.methodLink RX4 399 yX3_fail ∈ q_tbl := (q_tb4 4 rfl rfl)
def hhX4_caught : List (Nat × Nat × Nat × Nat) := [(0, 6, 7, 339), (0, 6, 13, 346), (0, 6, 22, 402)]
theorem calX4_caught : Cond.initialized yX4_caught.cls ∈ q_tbl ∧ Cond.codeWith yX4_caught cX4_caught 2 (some .int) hhX4_caught ∈ q_tbl ∧ yX4_caught.cls ≠ "java/lang/invoke/MethodHandle" ∧ yX4_caught.cls ≠ "java/lang/invoke/VarHandle" := ⟨(q_tb1 1 rfl rfl), (q_tb4 0 rfl rfl), by decide +kernel, by decide +kernel⟩
theorem dnX4_caught : (parseMethodDescriptor yX4_caught.desc).map (fun d => d.parameters.length) = some 1 := by decide +kernel
theorem inX4_caught : Cond.static yX4_caught ∈ q_tbl := (q_tb3 239 rfl rfl)
theorem lkX4_365 : Cond.methodLink RX4 365 yX4_caught ∈ q_tbl := (q_tb3 238 rfl rfl)
theorem calX4_toss : q_cal yX4_toss cX4_toss 4 (some .int) := ⟨(q_tb1 1 rfl rfl), (q_tb3 237 rfl rfl), by decide +kernel, by decide +kernel⟩
theorem dnX4_toss : (parseMethodDescriptor yX4_toss.desc).map (fun d => d.parameters.length) = some 1 := by decide +kernel
theorem inX4_toss : Cond.instanceMethod yX4_toss ∈ q_tbl ∧ Cond.selects yX4_toss.cls yX4_toss yX4_toss ∈ q_tbl := ⟨(q_tb3 235 rfl rfl), (q_tb3 236 rfl rfl)⟩
theorem calX4_element : q_cal yX4_element cX4_element 4 (some .long) := ⟨(q_tb1 1 rfl rfl), (q_tb4 116 rfl rfl), by decide +kernel, by decide +kernel⟩
theorem dnX4_element : (parseMethodDescriptor yX4_element.desc).map (fun d => d.parameters.length) = some 2 := by decide +kernel
theorem inX4_element : Cond.instanceMethod yX4_element ∈ q_tbl ∧ Cond.selects yX4_element.cls yX4_element yX4_element ∈ q_tbl := ⟨(q_tb4 114 rfl rfl), (q_tb4 115 rfl rfl)⟩
def hhL_element : List (Nat × Nat × Nat × Nat) := [(0, 9, 12, 13), (0, 9, 16, 15)]
theorem calL_element : Cond.initialized yL_element.cls ∈ q_tbl ∧ Cond.codeWith yL_element cL_element 5 (some .int) hhL_element ∈ q_tbl ∧ yL_element.cls ≠ "java/lang/invoke/MethodHandle" ∧ yL_element.cls ≠ "java/lang/invoke/VarHandle" := ⟨(q_tb1 0 rfl rfl), (q_tb4 110 rfl rfl), by decide +kernel, by decide +kernel⟩
theorem dnL_element : (parseMethodDescriptor yL_element.desc).map (fun d => d.parameters.length) = some 4 := by decide +kernel
theorem inL_element : Cond.static yL_element ∈ q_tbl := (q_tb4 109 rfl rfl)
theorem lkL_7 : Cond.methodLink RL 7 yX4_element ∈ q_tbl := (q_tb4 113 rfl rfl)
