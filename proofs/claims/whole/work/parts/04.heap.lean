/-! the heap's instructions, over the memory's words -/
def q_tbl : List Cond := lw_tbl.filter goodWord
theorem q_tbl_of {w : Cond} (h : w ∈ lw_tbl) (g : goodWord w = true) : w ∈ q_tbl := List.mem_filter.mpr ⟨h, g⟩
theorem q_tbl_good : q_tbl.all goodWord = true := List.all_eq_true.mpr fun _ h => (List.mem_filter.mp h).2
def q_dc : vw_C := (RX0, TX0, 11)
def q_cl (c : Nat) : vw_C := vwCl.getD c q_dc
def q_ty (c k : Nat) : FieldType := match c with
  | 0 => tyX0 k
  | 1 => tyX1 k
  | 2 => tyX2 k
  | 3 => tyX3 k
  | 4 => tyX4 k
  | _ => tyX5 k
/-- boolean fields -/
def q_isb (c k : Nat) : Bool := match q_ty c k with
  | .boolean => true
  | _ => false
theorem q_in1 {w : Cond} (i : Nat) (h : tables_1_1[i]? = some w) : w ∈ lw_tbl := List.mem_append_right _ (List.mem_append_left _ (List.mem_of_getElem? h))
theorem q_tb1 {w : Cond} (i : Nat) (h : tables_1_1[i]? = some w) (g : goodWord w = true) : w ∈ q_tbl := q_tbl_of (q_in1 i h) g
theorem q_in2 {w : Cond} (i : Nat) (h : tables_1_2[i]? = some w) : w ∈ lw_tbl := List.mem_append_right _ (List.mem_append_right _ (List.mem_append_left _ (List.mem_of_getElem? h)))
theorem q_tb2 {w : Cond} (i : Nat) (h : tables_1_2[i]? = some w) (g : goodWord w = true) : w ∈ q_tbl := q_tbl_of (q_in2 i h) g
theorem q_in3 {w : Cond} (i : Nat) (h : tables_1_3[i]? = some w) : w ∈ lw_tbl := List.mem_append_right _ (List.mem_append_right _ (List.mem_append_right _ (List.mem_append_left _ (List.mem_of_getElem? h))))
theorem q_tb3 {w : Cond} (i : Nat) (h : tables_1_3[i]? = some w) (g : goodWord w = true) : w ∈ q_tbl := q_tbl_of (q_in3 i h) g
theorem q_in4 {w : Cond} (i : Nat) (h : tables_1_4[i]? = some w) : w ∈ lw_tbl := List.mem_append_right _ (List.mem_append_right _ (List.mem_append_right _ (List.mem_append_right _ (List.mem_append_left _ (List.mem_of_getElem? h)))))
theorem q_tb4 {w : Cond} (i : Nat) (h : tables_1_4[i]? = some w) (g : goodWord w = true) : w ∈ q_tbl := q_tbl_of (q_in4 i h) g
theorem q_in5 {w : Cond} (i : Nat) (h : tables_1_5[i]? = some w) : w ∈ lw_tbl := List.mem_append_right _ (List.mem_append_right _ (List.mem_append_right _ (List.mem_append_right _ (List.mem_append_right _ (List.mem_append_left _ (List.mem_of_getElem? h))))))
theorem q_tb5 {w : Cond} (i : Nat) (h : tables_1_5[i]? = some w) (g : goodWord w = true) : w ∈ q_tbl := q_tbl_of (q_in5 i h) g
theorem q_in6 {w : Cond} (i : Nat) (h : tables_1_6[i]? = some w) : w ∈ lw_tbl := List.mem_append_right _ (List.mem_append_right _ (List.mem_append_right _ (List.mem_append_right _ (List.mem_append_right _ (List.mem_append_right _ (List.mem_of_getElem? h))))))
theorem q_tb6 {w : Cond} (i : Nat) (h : tables_1_6[i]? = some w) (g : goodWord w = true) : w ∈ q_tbl := q_tbl_of (q_in6 i h) g
theorem q_sl {w : Cond} (i : Nat) (h : (k2_sels lw_privs)[i]? = some w) (g : goodWord w = true) : w ∈ q_tbl := q_tbl_of (List.mem_append_left _ (List.mem_of_getElem? h)) g
def q_tat (x : Nat × Nat) : Option Cond := match x.1 with
  | 1 => tables_1_1[x.2]?
  | 2 => tables_1_2[x.2]?
  | 3 => tables_1_3[x.2]?
  | 4 => tables_1_4[x.2]?
  | 5 => tables_1_5[x.2]?
  | 6 => tables_1_6[x.2]?
  | _ => none
theorem q_tat_in {w : Cond} : ∀ {x : Nat × Nat}, q_tat x = some w → w ∈ lw_tbl
  | (1, i), h => q_in1 i h
  | (2, i), h => q_in2 i h
  | (3, i), h => q_in3 i h
  | (4, i), h => q_in4 i h
  | (5, i), h => q_in5 i h
  | (6, i), h => q_in6 i h
  | (0, i), h => by cases h
  | (n + 7, i), h => by cases h
theorem q_tbs {ws : List Cond} (ps : List (Nat × Nat)) (h : ws = ps.filterMap q_tat) (g : ws.all goodWord = true) : ∀ w ∈ ws, w ∈ q_tbl := by
  intro w hw
  have hg := List.all_eq_true.mp g w hw
  rw [h] at hw
  obtain ⟨i, -, hi⟩ := List.mem_filterMap.mp hw
  exact q_tbl_of (q_tat_in hi) hg
theorem q_sub0 : ∀ w ∈ wsX00, w ∈ q_tbl := q_tbs [(1, 191), (1, 193), (1, 195), (1, 197), (1, 199), (1, 201), (1, 203), (1, 205), (1, 207), (1, 209), (1, 211)] (by decide +kernel) (by decide +kernel)
theorem q_sub1 : ∀ w ∈ wsX10, w ∈ q_tbl := q_tbs [(1, 158), (1, 160), (1, 162), (1, 164), (1, 166)] (by decide +kernel) (by decide +kernel)
theorem q_sub2 : ∀ w ∈ wsX20, w ∈ q_tbl := q_tbs [(1, 108), (1, 110), (1, 112), (1, 114), (1, 116), (1, 118), (1, 120), (1, 122), (1, 124), (1, 126), (1, 128), (1, 130), (1, 132), (1, 134), (1, 136)] (by decide +kernel) (by decide +kernel)
theorem q_sub3 : ∀ w ∈ wsX30, w ∈ q_tbl := q_tbs [(1, 62), (1, 64), (1, 66), (1, 68), (1, 70), (1, 72), (1, 74)] (by decide +kernel) (by decide +kernel)
theorem q_sub4 : ∀ w ∈ wsX40, w ∈ q_tbl := q_tbs [(1, 226), (1, 228), (1, 230), (1, 232), (1, 234), (1, 236), (1, 238), (2, 0), (2, 2), (2, 4), (2, 6), (2, 8)] (by decide +kernel) (by decide +kernel)
theorem q_sub5 : ∀ w ∈ wsX50, w ∈ q_tbl := q_tbs [(4, 172), (4, 174), (4, 176), (4, 178), (4, 180), (4, 182), (4, 184), (4, 186), (4, 188), (4, 190), (4, 192), (4, 194), (4, 196), (4, 198), (4, 200), (4, 202), (4, 204), (4, 206), (4, 208), (4, 210), (4, 212), (4, 214), (4, 216), (4, 218), (4, 220), (4, 222), (4, 224), (4, 226), (4, 228), (4, 230), (4, 232), (4, 234), (4, 236), (4, 238), (5, 0), (5, 2), (5, 4), (5, 6), (5, 8), (5, 10), (5, 12), (5, 14), (5, 16), (5, 18)] (by decide +kernel) (by decide +kernel)
def q_clok (c : Nat) (C : String) (T : u_T) (N : Nat) : Prop :=
  vwCl[c]? = some (C, T, N) ∧ (∀ w ∈ u_ws C T N, w ∈ q_tbl) ∧ (∀ k, k < N → parseFieldDescriptor (T k).2.2.1 = some (q_ty c k)) ∧ (∀ a, a < N → ∀ b, b < N → a ≠ b → (T a).2.1 ≠ (T b).2.1) ∧ (q_lay c).length = N
theorem q_c0 : q_clok 0 RX0 TX0 11 := ⟨rfl, q_sub0, tyX0_ok, nmX0, rfl⟩
theorem q_c1 : q_clok 1 RX1 TX1 5 := ⟨rfl, q_sub1, tyX1_ok, nmX1, rfl⟩
theorem q_c2 : q_clok 2 RX2 TX2 15 := ⟨rfl, q_sub2, tyX2_ok, nmX2, rfl⟩
theorem q_c3 : q_clok 3 RX3 TX3 7 := ⟨rfl, q_sub3, tyX3_ok, nmX3, rfl⟩
theorem q_c4 : q_clok 4 RX4 TX4 12 := ⟨rfl, q_sub4, tyX4_ok, nmX4, rfl⟩
theorem q_c5 : q_clok 5 RX5 TX5 44 := ⟨rfl, q_sub5, tyX5_ok, nmX5, rfl⟩
theorem q_clsok {c : Nat} (h : c < 6) : q_clok c (q_cl c).1 (q_cl c).2.1 (q_cl c).2.2 := by
  match c, h with
  | 0, _ => exact q_c0
  | 1, _ => exact q_c1
  | 2, _ => exact q_c2
  | 3, _ => exact q_c3
  | 4, _ => exact q_c4
  | 5, _ => exact q_c5
theorem q_intty : ∀ c, c < 6 → ∀ k, k < (q_lay c).length → (q_lay c)[k]? = some false → q_ty c k = .int ∨ q_ty c k = .boolean := by decide +kernel
def q_isref (t : FieldType) : Bool := match t with
  | .object _ => true
  | .array _ => true
  | _ => false
theorem q_refty : ∀ c, c < 6 → ∀ k, k < (q_lay c).length → (q_lay c)[k]? = some true → q_isref (q_ty c k) = true := by decide +kernel
/-- a field's word: own's pool entry idx is field k of class c -/
def q_fok (own : String) (x : Nat × Nat × Nat) : Prop := x.2.1 < 6 ∧ x.2.2 < (q_cl x.2.1).2.2 ∧ Cond.fieldLink own x.1 (q_cl x.2.1).1 ((q_cl x.2.1).2.1 x.2.2).2.1 ((q_cl x.2.1).2.1 x.2.2).2.2.1 ∈ q_tbl ∧ ((q_cl x.2.1).2.1 x.2.2).1 = (q_cl x.2.1).1
section QH
variable {p : Program} {l : Launch} {e : Env} {R : Room} {s : State} {m : MethodId} {args : Array Value} {below : List Frame} {meth : Method} {c : Code} {H : Heap} {locs : List Loc} {cells slots : Nat} {Q : State → Prop}
variable {cc : ByteArray} {pc : Nat} {ls : Array Slot} {rest : List Value} {D : va_G} {cy : Nat → Nat} {b0 : Nat} {σ : q_St} {h : q_Hp} {H0 : Heap} {own : String} {a : Nat}
theorem x_getf (hexec : p.tables.exec = Jvm.exec) (hb : c.code = cc) (hts : ∀ w ∈ q_tbl, w.before args s = true) (hown : s.vm.findClass own = some m.cls) (hK : va_K D vwCl (q_tys cy) s) (hW : q_HW D cy b0 σ h H) {idx ci k : Nat} (hf : q_fok own (idx, ci, k)) (ht : q_tag σ a = ci + 1) {b : Bool} (hl : (q_lay ci)[k]? = some b) (hdg : decode cc pc = .ok (.getfield idx, 3))
    (kk : W p l e R s m args below meth c H locs cells slots Q (F0 m (pc + 3) ls ((if b then q_rv (q_ref σ a k) else .int (q_int h a k)) :: rest))) : W p l e R s m args below meth c H locs cells slots Q (F0 m pc ls (.ref a :: rest)) := by
  obtain ⟨h1, h2, h3, h4⟩ := hf
  obtain ⟨k1, k2, k3, k4, k5⟩ := q_clsok h1
  obtain ⟨q0, hq⟩ := q_at hW (a := a) (by rw [ht]; omega)
  rw [q_cell_obj ht h1] at hq
  refine va_get (C := (q_cl ci).1) (T := (q_cl ci).2.1) (N := (q_cl ci).2.2) hexec hb hts k2 hown hK hW.2.1 q0 hq k1 k h2 (hts _ h3) (fun x hx => by rw [h4] at hx; exact hx) (v := if b then q_rv (q_ref σ a k) else .int (q_int h a k)) ?_ hdg kk
  have := q_fl_get (q_ref σ a) (h.1 a) (q_lay ci) 0 k b hl
  rw [Nat.zero_add] at this
  exact this
theorem x_iald (hexec : p.tables.exec = Jvm.exec) (hb : c.code = cc) (hK : va_K D vwCl (q_tys cy) s) (hW : q_HW D cy b0 σ h H) (ht : q_tag σ a = 7) {i : Int32} (hin : vp_in i (q_len σ a)) (hdg : decode cc pc = .ok (.iaload, 1))
    (kk : W p l e R s m args below meth c H locs cells slots Q (F0 m (pc + 1) ls (.int (q_int h a i.toNatClampNeg) :: rest))) : W p l e R s m args below meth c H locs cells slots Q (F0 m pc ls (.int i :: .ref a :: rest)) := by
  obtain ⟨q0, hq⟩ := q_at hW (a := a) (by rw [ht]; omega)
  rw [q_cell_ints ht] at hq
  exact va_iald hexec hb hK hW.2.1 q0 0 hq rfl hin hdg kk
theorem x_lald (hexec : p.tables.exec = Jvm.exec) (hb : c.code = cc) (hK : va_K D vwCl (q_tys cy) s) (hW : q_HW D cy b0 σ h H) (ht : q_tag σ a = 8) {i : Int32} (hin : vp_in i (q_len σ a)) (hdg : decode cc pc = .ok (.laload, 1))
    (kk : W p l e R s m args below meth c H locs cells slots Q (F0 m (pc + 1) ls (.long (q_lng h a i.toNatClampNeg) :: rest))) : W p l e R s m args below meth c H locs cells slots Q (F0 m pc ls (.int i :: .ref a :: rest)) := by
  obtain ⟨q0, hq⟩ := q_at hW (a := a) (by rw [ht]; omega)
  rw [q_cell_longs ht] at hq
  exact va_lald hexec hb hK hW.2.1 q0 1 hq rfl hin hdg kk
theorem x_aald (hexec : p.tables.exec = Jvm.exec) (hb : c.code = cc) (hK : va_K D vwCl (q_tys cy) s) (hW : q_HW D cy b0 σ h H) (ht : q_tag σ a = 9 ∨ q_tag σ a = 10) {i : Int32} (hin : vp_in i (q_len σ a)) (hdg : decode cc pc = .ok (.aaload, 1))
    (kk : W p l e R s m args below meth c H locs cells slots Q (F0 m (pc + 1) ls (q_rv (q_ref σ a i.toNatClampNeg) :: rest))) : W p l e R s m args below meth c H locs cells slots Q (F0 m pc ls (.int i :: .ref a :: rest)) := by
  obtain ⟨q0, hq⟩ := q_at hW (a := a) (by rcases ht with ht | ht <;> rw [ht] <;> omega)
  rcases ht with ht | ht
  · rw [q_cell_refs (c := 0) ht] at hq
    exact va_aldq hexec hb hK hW.2.1 q0 2 hq rfl hin hdg kk
  · rw [q_cell_refs (c := 1) ht] at hq
    exact va_aldq hexec hb hK hW.2.1 q0 3 hq rfl hin hdg kk
theorem x_alen (hexec : p.tables.exec = Jvm.exec) (hb : c.code = cc) (hK : va_K D vwCl (q_tys cy) s) (hW : q_HW D cy b0 σ h H) (ht : q_tag σ a = 7 ∨ q_tag σ a = 8 ∨ q_tag σ a = 9 ∨ q_tag σ a = 10) (hdg : decode cc pc = .ok (.arraylength, 1))
    (kk : W p l e R s m args below meth c H locs cells slots Q (F0 m (pc + 1) ls (.int (Int32.ofNat (q_len σ a)) :: rest))) : W p l e R s m args below meth c H locs cells slots Q (F0 m pc ls (.ref a :: rest)) := by
  obtain ⟨q0, hq⟩ := q_at hW (a := a) (by rcases ht with ht | ht | ht | ht <;> rw [ht] <;> omega)
  rcases ht with ht | ht | ht | ht
  · rw [q_cell_ints ht] at hq
    exact va_alen hexec hb hK hW.2.1 q0 0 hq (ty := .int) rfl rfl hdg kk
  · rw [q_cell_longs ht] at hq
    exact va_alen hexec hb hK hW.2.1 q0 1 hq (ty := .long) rfl rfl hdg kk
  · rw [q_cell_refs (c := 0) ht] at hq
    exact va_alen hexec hb hK hW.2.1 q0 2 hq (ty := .object RX1) rfl rfl hdg kk
  · rw [q_cell_refs (c := 1) ht] at hq
    exact va_alen hexec hb hK hW.2.1 q0 3 hq (ty := .object RX3) rfl rfl hdg kk
theorem q_up_ne {α : Type} (f : Nat → α) {k j : Nat} (v : α) (h : j ≠ k) : va_up f k v j = f j := va_up_ne f v h
theorem x_iast (hexec : p.tables.exec = Jvm.exec) (hb : c.code = cc) (hK : va_K D vwCl (q_tys cy) s) (hW : q_HW D cy b0 σ h H) (hS : va_S (fun q => b0 ≤ q) H0 H locs) (ht : q_tag σ a = 7) {i x : Int32} (hin : vp_in i (q_len σ a)) (hdg : decode cc pc = .ok (.iastore, 1))
    (kk : ∀ (H1 : Heap) (locs1 : List Loc), q_HW D cy b0 σ (q_si h a i.toNatClampNeg x) H1 → va_S (fun q => b0 ≤ q) H0 H1 locs1 → W p l e R s m args below meth c H1 locs1 cells slots Q (F0 m (pc + 1) ls rest)) : W p l e R s m args below meth c H locs cells slots Q (F0 m pc ls (.int x :: .int i :: .ref a :: rest)) := by
  have h0 : q_tag σ a ≠ 0 := by rw [ht]; omega
  obtain ⟨q0, hq⟩ := q_at hW h0
  have hq' := hq
  rw [q_cell_ints ht] at hq'
  refine W.iast hexec hb (hW.2.1 q0 _ hq') ((hK.2 0 _ rfl).1 (q_len σ a) (fun j => .int (h.1 a j))) (fun q => by cases q) (by show ¬ (i < 0 ∨ (arrV _ _ _).slots.size ≤ _); rw [arrV_size]; exact hin) rfl rfl hdg fun H1 e z oq => ?_
  refine kk H1 _ (q_wr hW h0 hq (hW.2.1.set (q_D hW _) hq (e := .inl (cy 0, q_len σ a, .inl (upd (h.1 a) i.toNatClampNeg x))) ?_ oq) z rfl rfl rfl (fun _ _ => rfl) (fun b hb => va_up_ne _ _ hb) (fun _ _ => rfl) ?_) (hS.put z oq (hW.2.2.2.2 a h0).1)
  · show H1[a]? = some (vp_cell _ _)
    rw [e]
    rw [vp_cell_i, vp_cell_i, arrV_store]
    congr 2
    funext q
    by_cases hq : q = i.toNatClampNeg
    · subst hq
      simp [updV, upd]
    · simp [updV, upd, hq]
  · rw [q_cell_ints ht]
    simp [q_si, va_up_self]
theorem x_last (hexec : p.tables.exec = Jvm.exec) (hb : c.code = cc) (hK : va_K D vwCl (q_tys cy) s) (hW : q_HW D cy b0 σ h H) (hS : va_S (fun q => b0 ≤ q) H0 H locs) (ht : q_tag σ a = 8) {i : Int32} {x : Int64} (hin : vp_in i (q_len σ a)) (hdg : decode cc pc = .ok (.lastore, 1))
    (kk : ∀ (H1 : Heap) (locs1 : List Loc), q_HW D cy b0 σ (q_sj h a i.toNatClampNeg x) H1 → va_S (fun q => b0 ≤ q) H0 H1 locs1 → W p l e R s m args below meth c H1 locs1 cells slots Q (F0 m (pc + 1) ls rest)) : W p l e R s m args below meth c H locs cells slots Q (F0 m pc ls (.long x :: .int i :: .ref a :: rest)) := by
  have h0 : q_tag σ a ≠ 0 := by rw [ht]; omega
  obtain ⟨q0, hq⟩ := q_at hW h0
  have hq' := hq
  rw [q_cell_longs ht] at hq'
  refine W.last hexec hb (hW.2.1 q0 _ hq') ((hK.2 1 _ rfl).1 (q_len σ a) (fun j => .long (h.2 a j))) (fun q => by cases q) (by show ¬ (i < 0 ∨ (arrV _ _ _).slots.size ≤ _); rw [arrV_size]; exact hin) rfl rfl hdg fun H1 e z oq => ?_
  refine kk H1 _ (q_wr hW h0 hq (hW.2.1.set (q_D hW _) hq (e := .inl (cy 1, q_len σ a, .inr (.inl (vp_updL (h.2 a) i.toNatClampNeg x)))) ?_ oq) z rfl rfl rfl (fun _ _ => rfl) (fun _ _ => rfl) (fun b hb => va_up_ne _ _ hb) ?_) (hS.put z oq (hW.2.2.2.2 a h0).1)
  · show H1[a]? = some (vp_cell _ _)
    rw [e]
    rw [vp_cell_l, vp_cell_l, arrV_store]
    congr 2
    funext q
    by_cases hq : q = i.toNatClampNeg
    · subst hq
      simp [updV, vp_updL]
    · simp [updV, vp_updL, hq]
  · rw [q_cell_longs ht]
    simp [q_sj, va_up_self]
end QH
