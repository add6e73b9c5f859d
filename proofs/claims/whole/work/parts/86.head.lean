/-! THE CLAIM OUT OF ONE WALK OF THE LAW'S BODY. Your part is whole_start (and what it stands on); all else here is the same for every law, but numbers. -/
def R_law : String := "BackByNoonOnMondayLaw"
def lw_P (b : Addr) (xs : List Int32) (args : Array Value) (s : State) : Prop := args = #[.ref b] ∧ s.IntsAt b xs ∧ xs.length ≤ 3072 ∧ (Jvm.Cond.and given_1 narrow_1).before args s = true
def lw_Q (_ : Array Value) (s : State) (o : Outcome) (t : State) : Prop := o = .returned (some (.int 1)) ∧ Framed s o t [] room_1.cells room_1.slots
def lw_Z (below : List Frame) (a : Array Value) (s : State) : State → Prop := fun t => ∃ o, t.status = .running ∧ Ended t below o ∧ lw_Q a s o t
/-- the law's own end, with 1 on the stack, nothing written that was there before, its room as the claim has it -/
theorem lw_ret {p : Program} {l : Launch} {e : Env} {s : State} {m : MethodId} {below : List Frame} {meth : Method} {c : Code} {b : Nat} (hx : p.tables.exec = Jvm.exec) (hb : c.code = code) (hr : meth.sig.returnType = ret) (hlocks : meth.locks = false) {pc : Nat} {H : Heap} {ls : Array Slot} (hdg : decode code pc = .ok (.ireturn, 1)) : W p l e room_1 s m #[Value.ref b] below meth c H [] room_1.cells room_1.slots (lw_Z below #[Value.ref b] s) (F0 m pc ls [.int 1]) := by
  intro T hT X
  obtain ⟨fs, hret, hrun, hended, hW, hframe⟩ := X.leave (v := some (.int 1)) (hlocks := hlocks) (fun h => by rw [hr] at h; cases h)
  have hmeth' : T.vm.method? m = some meth := X.method'
  refine ⟨T.setFrames fs, ?_, .returned (some (.int 1)), hrun, hended, rfl, ⟨_, rfl⟩, hW, hframe⟩
  jvm_step X.here [X.here.top, hx, hb, hdg, hmeth', hr, ret, narrow_b1]
  (try refine ⟨rfl, ?_⟩); (try refine ⟨rfl, ?_⟩)
  first | (intro acts; rw [hret _ acts rfl rfl rfl]) | rw [hret _ _ rfl rfl rfl]
  exact Steps.refl _
/-- what holds at the law's entry: the machine, the code, the tables' words (any of lw_tbl by 'hts w (by decide +kernel)'), the script of L ints xs at the cell b, what the Statement gives of the start (any of its parts by flat_of_before) -/
def lw_At (p : Program) (s : State) (m : MethodId) (meth : Method) (c : Code) (b L : Nat) (xs : Nat → Int32) : Prop :=
  p.tables.exec = Jvm.exec ∧ c.code = code ∧ meth.sig.returnType = ret ∧ c.maxLocals = 8 ∧ s.vm.findClass R_law = some m.cls ∧ (∀ w ∈ lw_tbl, w.before #[Value.ref b] s = true) ∧ va_X b L xs s s.heap ∧ b < s.heap.size ∧ meth.locks = false ∧ (Jvm.Cond.and given_1 narrow_1).before #[Value.ref b] s = true
/-! what the entry gives -/
theorem st_tbl {args : Array Value} {s : State} (hts : ∀ w ∈ lw_tbl, w.before args s = true) : ∀ w ∈ q_tbl, w.before args s = true := fun w hw => hts w (List.mem_filter.mp hw).1
theorem st_inst : ∀ k, k < 6 → Cond.instantiable (q_cl k).1 (q_cl k).2.2 ∈ q_tbl := fun k hk => by
  match k, hk with
  | 0, _ => exact nwiX0
  | 1, _ => exact nwiX1
  | 2, _ => exact nwiX2
  | 3, _ => exact nwiX3
  | 4, _ => exact q_tb1 17 rfl rfl
  | 5, _ => exact q_tb4 123 rfl rfl
theorem st_known {args : Array Value} {s : State} (hts : ∀ w ∈ q_tbl, w.before args s = true) : ∃ D : va_G, ∀ (k : Nat) (q : vw_C), vwCl[k]? = some q → u_Kn s q.1 q.2.1 q.2.2 (D.1 k) (D.2 k) := by
  have h : ∀ k : Nat, ∃ q : ClassId × (Nat → Nat), k < 6 → u_Kn s (q_cl k).1 (q_cl k).2.1 (q_cl k).2.2 q.1 q.2 := fun k => by
    by_cases hk : k < 6
    · obtain ⟨cC, iS, e⟩ := u_known hts (q_clsok hk).2.1 (hts _ (st_inst k hk))
      exact ⟨(cC, iS), fun _ => e⟩
    · exact ⟨(0, fun _ => 0), fun q => absurd q hk⟩
  obtain ⟨f, hfg⟩ := Classical.axiomOfChoice h
  refine ⟨(fun k => (f k).1, fun k => (f k).2), fun k q hq => ?_⟩
  have hk : k < 6 := by
    have := (List.getElem?_eq_some_iff.mp hq).1
    simpa using this
  have e := (q_clsok hk).1
  rw [hq] at e
  cases e
  exact hfg k hk
theorem st_arr {args : Array Value} {s : State} (hts : ∀ w ∈ q_tbl, w.before args s = true) (hov : ∀ C : String, C = RX1 ∨ C = RX3 → (Cond.arrayOver (.object C)).before args s = true) : ∃ cy : Nat → Nat, ∀ (k : Nat) (q : ClassId × FieldType), (q_tys cy)[k]? = some q → ArrOfT s q.1 q.2 ∧ va_RA s q.1 q.2 := by
  obtain ⟨c0, k0, p0, a1, a2, a3⟩ := Cond.arrayClass_spec (hts _ ac_int)
  obtain ⟨c1, k1, p1, b1, b2, b3⟩ := Cond.arrayClass_spec (hts _ ac_long)
  obtain ⟨p2, c2, k2, d0, d1, d2, d3, d4⟩ := Cond.arrayOver_spec (hov RX1 (Or.inl rfl))
  obtain ⟨p3, c3, k3, e0, e1, e2, e3, e4⟩ := Cond.arrayOver_spec (hov RX3 (Or.inr rfl))
  refine ⟨fun k => if k = 0 then c0 else if k = 1 then c1 else if k = 2 then c2 else c3, fun k q hq => ?_⟩
  match k, hq with
  | 0, hq => cases hq; exact ⟨fun n z => ⟨fun k h => (by cases h), k0, a2, p0, a3⟩, a1⟩
  | 1, hq => cases hq; exact ⟨fun n z => ⟨fun k h => (by cases h), k1, b2, p1, b3⟩, b1⟩
  | 2, hq => cases hq; exact ⟨fun n z => ⟨fun k h => (by cases h), k2, d2, p2, d3⟩, k2, p2, d2, d3, d0, d4⟩
  | 3, hq => cases hq; exact ⟨fun n z => ⟨fun k h => (by cases h), k3, e2, p3, e3⟩, k3, p3, e2, e3, e0, e4⟩
theorem st_over : Cond.arrayOver (.object RX1) ∈ lw_tbl ∧ Cond.arrayOver (.object RX3) ∈ lw_tbl := ⟨q_in1 140 rfl, q_in1 31 rfl⟩
theorem st_str : ∀ x ∈ q_strs, Cond.stringRef x.1 x.2.1 x.2.2 ∈ lw_tbl := by
  have e : q_strs.map (fun x => some (Cond.stringRef x.1 x.2.1 x.2.2)) = ([(4, 49), (4, 85), (4, 101), (4, 117), (4, 119), (4, 121)] : List (Nat × Nat)).map q_tat := by decide +kernel
  intro x hx
  have : some (Cond.stringRef x.1 x.2.1 x.2.2) ∈ q_strs.map (fun x => some (Cond.stringRef x.1 x.2.1 x.2.2)) := List.mem_map_of_mem (f := fun x : String × Nat × String => some (Cond.stringRef x.1 x.2.1 x.2.2)) hx
  rw [e] at this
  obtain ⟨y, -, hy⟩ := List.mem_map.mp this
  exact q_tat_in hy
theorem st_dcl : ∀ x ∈ q_dcl, Cond.declares x ∈ lw_tbl := by
  have e : q_dcl.map (fun x => some (Cond.declares x)) = ([(4, 12), (4, 14), (4, 16)] : List (Nat × Nat)).map q_tat := by decide +kernel
  intro x hx
  have : some (Cond.declares x) ∈ q_dcl.map (fun x => some (Cond.declares x)) := List.mem_map_of_mem (f := fun x => some (Cond.declares x)) hx
  rw [e] at this
  obtain ⟨y, -, hy⟩ := List.mem_map.mp this
  exact q_tat_in hy
theorem st_cst : ∀ x ∈ q_cst, Cond.castable x x ∈ lw_tbl := by
  have e : q_cst.map (fun x => some (Cond.castable x x)) = ([(4, 94), (4, 78), (4, 10)] : List (Nat × Nat)).map q_tat := by decide +kernel
  intro x hx
  have : some (Cond.castable x x) ∈ q_cst.map (fun x => some (Cond.castable x x)) := List.mem_map_of_mem (f := fun x => some (Cond.castable x x)) hx
  rw [e] at this
  obtain ⟨y, -, hy⟩ := List.mem_map.mp this
  exact q_tat_in hy
theorem st_lay : Cond.laysStatic Bundle.tN "UNASSIGNED_STACK" Bundle.steD ∈ lw_tbl ∧ Cond.laysStatic Bundle.tN "SUPPRESSED_SENTINEL" Bundle.listD ∈ lw_tbl ∧ Cond.initialized Bundle.tN ∈ lw_tbl := ⟨q_in4 35 rfl, q_in4 37 rfl, q_in1 9 rfl⟩
theorem st_TX {args : Array Value} {s : State} (hts : ∀ w ∈ lw_tbl, w.before args s = true) (hgv : (Jvm.Cond.and given_1 narrow_1).before args s = true) : q_TX s.heap.size s := by
  have hs := flat_of_before _ hgv
  refine ⟨⟨vx_Zqof (hts _ st_lay.1) (hts _ st_lay.2.2) (hs _ (by decide +kernel)) (fun a h1 => Nat.not_le.mpr h1), vx_Zqof (hts _ st_lay.2.1) (hts _ st_lay.2.2) (hs _ (by decide +kernel)) (fun a h1 => Nat.not_le.mpr h1)⟩, fun x hx => ?_, fun x hx => va_Nw.of rfl (hts _ (st_dcl x hx)), fun x hx => va_Nw.of rfl (hts _ (st_cst x hx)), fun x hx => ?_⟩
  · have h1 : (Cond.stringRef x.1 x.2.1 x.2.2).before #[] s = true := hts _ (st_str x hx)
    have hcur : ∃ cur, s.vm.findClass x.1 = some cur := by
      have h2 := h1
      simp only [Cond.before, Cond.holds, Cond.value] at h2
      cases hc : s.vm.findClass x.1 with
      | none => simp [hc] at h2
      | some cur => exact ⟨cur, rfl⟩
    obtain ⟨cur, hcur⟩ := hcur
    obtain ⟨k, cf, j, a, -, -, -, -, -, hev⟩ := Cond.stringRef_spec hcur h1
    exact ⟨a, vk_R.of h1 hev⟩
  · simp only [q_ncs, List.mem_cons, List.not_mem_nil, or_false] at hx
    rcases hx with rfl | rfl | rfl
    · exact va_Nc.of (hs _ (by decide +kernel))
    · exact va_Nc.of (hs _ (by decide +kernel))
    · exact va_Nc.of (hs _ (by decide +kernel))
theorem st_NW {args : Array Value} {s : State} (hts : ∀ w ∈ lw_tbl, w.before args s = true) : q_NW s := ⟨fun a i x hh hm => va_Nw.of rfl (hts _ hm), hts _ st_over.1, hts _ st_over.2⟩
theorem st_K {args : Array Value} {s : State} (hts : ∀ w ∈ lw_tbl, w.before args s = true) : ∃ (D : va_G) (cy : Nat → Nat), va_K D vwCl (q_tys cy) s := by
  obtain ⟨D, hD⟩ := st_known (st_tbl hts)
  obtain ⟨cy, hcy⟩ := st_arr (st_tbl hts) (fun C hC => by
    rcases hC with rfl | rfl
    · exact hts _ st_over.1
    · exact hts _ st_over.2)
  exact ⟨D, cy, hD, hcy⟩
/-- nothing of ours yet -/
def st_0 (n : Nat) : q_St := (n, fun _ => 0, fun _ => 0, fun _ _ => 0)
def sh_0 : q_Hp := (fun _ _ => 0, fun _ _ => 0)
theorem st_HW {D : va_G} {cy : Nat → Nat} {H : Heap} (h : 0 < H.size) : q_HW D cy H.size (st_0 H.size) sh_0 H := by
  refine ⟨rfl, ?_, h, Nat.le_refl _, fun a ha => absurd rfl ha⟩
  have e : q_L (st_0 H.size) = [] := by
    unfold q_L st_0
    simp
  rw [e]
  exact fun k q hk => by simp [va_pl] at hk
