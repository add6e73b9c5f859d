/-! cells made; references written; arrays copied -/
theorem q_L_push (σ : q_St) (t n : Nat) (ht : t ≠ 0) (hlt : ∀ a, q_tag σ a ≠ 0 → a < q_sz σ) : q_L (q_nw σ t n) = q_L σ ++ [q_sz σ] := by
  unfold q_L q_nw q_sz
  simp only [List.range_succ, List.filter_append]
  congr 1
  · apply List.filter_congr
    intro a ha
    have : a < σ.1 := List.mem_range.mp ha
    rw [va_up_ne _ _ (by omega)]
  · simp [va_up, ht]
theorem q_push {D : va_G} {cy : Nat → Nat} {b0 : Nat} {σ : q_St} {h : q_Hp} {H H1 : Heap} (hW : q_HW D cy b0 σ h H) {t n : Nat} (ht : t ≠ 0) (e1 : va_at D vwCl (q_sz σ, q_cell cy (q_nw σ t n) (q_nh h (q_sz σ)) (q_sz σ)) H1) (z1 : H1.size = H.size + 1) (o1 : ∀ q : Nat, q < H.size → H1[q]? = H[q]?) : q_HW D cy b0 (q_nw σ t n) (q_nh h (q_sz σ)) H1 := by
  have hlt : ∀ a, q_tag σ a ≠ 0 → a < q_sz σ := fun a ha => (hW.2.2.2.2 a ha).2
  refine ⟨by rw [z1, hW.1]; rfl, ?_, hW.2.2.1, Nat.le_trans hW.2.2.2.1 (Nat.le_succ _), fun a ha => ?_⟩
  · rw [q_L_push σ t n ht hlt]
    have hc : ∀ a ∈ q_L σ, q_cell cy (q_nw σ t n) (q_nh h (q_sz σ)) a = q_cell cy σ h a := fun a ha => by
      have hne : a ≠ q_sz σ := Nat.ne_of_lt (q_L_mem.mp ha).1
      exact q_cell_cong (va_up_ne _ _ hne) (va_up_ne _ _ hne) (va_up_ne _ _ hne) (va_up_ne _ _ hne) (va_up_ne _ _ hne)
    have hP : va_P D vwCl (va_pl (q_L σ) (q_cell cy (q_nw σ t n) (q_nh h (q_sz σ)))) H1 := by
      have e : va_pl (q_L σ) (q_cell cy (q_nw σ t n) (q_nh h (q_sz σ))) = va_pl (q_L σ) (q_cell cy σ h) := List.map_congr_left (fun a ha => by rw [hc a ha])
      rw [e]
      exact hW.2.1.kept (fun k q hk => o1 q.1 (hW.2.1 k q hk).lt)
    refine va_P.app (w1 := []) (fun k q hk => by simp at hk) ?_
    unfold va_pl
    rw [List.map_append]
    refine va_P.app hP (fun k q hk => ?_)
    have hk0 : k = 0 := by
      have := (List.getElem?_eq_some_iff.mp hk).1
      simp at this
      exact this
    subst hk0
    cases hk
    exact e1
  · by_cases hq : a = q_sz σ
    · subst hq
      exact ⟨hW.2.2.2.1, Nat.lt_succ_self _⟩
    · have : q_tag (q_nw σ t n) a = q_tag σ a := va_up_ne _ _ hq
      rw [this] at ha
      obtain ⟨g1, g2⟩ := hW.2.2.2.2 a ha
      exact ⟨g1, Nat.lt_succ_of_lt g2⟩
theorem q_dfl : ∀ c, c < 6 → ∀ j, j < (q_lay c).length → defaultValue (q_ty c j) = vp_V (q_fl (fun _ => 0) (fun _ => 0) (q_lay c) 0) j := by decide +kernel
section QN
variable {p : Program} {l : Launch} {e : Env} {R : Room} {s : State} {m : MethodId} {args : Array Value} {below : List Frame} {meth : Method} {c : Code} {H : Heap} {locs : List Loc} {cells slots : Nat} {Q : State → Prop}
variable {cc : ByteArray} {pc : Nat} {ls : Array Slot} {rest : List Value} {D : va_G} {cy : Nat → Nat} {b0 : Nat} {σ : q_St} {h : q_Hp} {H0 : Heap} {own : String} {a : Nat}
theorem x_new (hexec : p.tables.exec = Jvm.exec) (hb : c.code = cc) (hts : ∀ w ∈ q_tbl, w.before args s = true) (hown : s.vm.findClass own = some m.cls) (hK : va_K D vwCl (q_tys cy) s) (hW : q_HW D cy b0 σ h H) (hS : va_S (fun q => b0 ≤ q) H0 H locs) {idx ci : Nat} (hci : ci < 6) (hcl : Cond.classLink own idx (q_cl ci).1 ∈ q_tbl) (hin : Cond.instantiable (q_cl ci).1 (q_cl ci).2.2 ∈ q_tbl) (hini : Cond.initialized (q_cl ci).1 ∈ q_tbl) (hcells : cells + 1 ≤ R.cells) (hslots : slots + (q_cl ci).2.2 ≤ R.slots) (hdg : decode cc pc = .ok (.new idx, 3))
    (kk : ∀ H1 : Heap, q_HW D cy b0 (q_nw σ (ci + 1) 0) (q_nh h (q_sz σ)) H1 → va_S (fun q => b0 ≤ q) H0 H1 locs → W p l e R s m args below meth c H1 locs (cells + 1) (slots + (q_cl ci).2.2) Q (F0 m (pc + 3) ls (.ref (q_sz σ) :: rest))) : W p l e R s m args below meth c H locs cells slots Q (F0 m pc ls rest) := by
  obtain ⟨k1, k2, k3, k4, k5⟩ := q_clsok hci
  have hKn := hK.1 ci _ k1
  refine W.newcK hexec hb hown (hts _ hcl) (hts _ hin) (hts _ hini) rfl hdg hcells hslots hKn.2.1 rfl fun H1 kC hkC e1 z1 o1 => ?_
  have hsz : H.size = q_sz σ := hW.1
  have born := u_born (q_ty ci) hts k2 hKn hkC e1 k3
  rw [hsz] at born ⊢
  refine kk H1 (q_push hW (Nat.succ_ne_zero ci) ?_ z1 o1) ⟨Nat.le_trans hS.1 (by omega), fun x g1 g2 => (o1 x (Nat.lt_of_lt_of_le g1 hS.1)).trans (hS.2.1 x g1 g2), hS.2.2⟩
  have e0 : q_cell cy (q_nw σ (ci + 1) 0) (q_nh h (q_sz σ)) (q_sz σ) = .inr (ci, q_fl (fun _ => 0) (fun _ => 0) (q_lay ci) 0) := by
    rw [q_cell_obj (show q_tag (q_nw σ (ci + 1) 0) (q_sz σ) = ci + 1 from va_up_self _ _ _) hci]
    have r1 : q_ref (q_nw σ (ci + 1) 0) (q_sz σ) = fun _ => 0 := va_up_self _ _ _
    have r2 : (q_nh h (q_sz σ)).1 (q_sz σ) = fun _ => 0 := va_up_self _ _ _
    rw [r1, r2]
  rw [e0]
  exact ⟨_, k1, born.to (fun j hj => q_dfl ci hci j (by rw [k5]; exact hj))⟩
theorem x_newa (hexec : p.tables.exec = Jvm.exec) (hb : c.code = cc) (hts : ∀ w ∈ q_tbl, w.before args s = true) (hK : va_K D vwCl (q_tys cy) s) (hW : q_HW D cy b0 σ h H) (hS : va_S (fun q => b0 ≤ q) H0 H locs) (harr : Cond.arrayClass .int ∈ q_tbl) {n : Int32} (hn : ¬ n < 0) (hbytes : n.toNatClampNeg * 4 ≤ 536870912) (hcells : cells + 1 ≤ R.cells) (hslots : slots + n.toNatClampNeg ≤ R.slots) (hdg : decode cc pc = .ok (.newarray .int, 2))
    (kk : ∀ H1 : Heap, q_HW D cy b0 (q_nw σ 7 n.toNatClampNeg) (q_nh h (q_sz σ)) H1 → va_S (fun q => b0 ≤ q) H0 H1 locs → W p l e R s m args below meth c H1 locs (cells + 1) (slots + n.toNatClampNeg) Q (F0 m (pc + 2) ls (.ref (q_sz σ) :: rest))) : W p l e R s m args below meth c H locs cells slots Q (F0 m pc ls (.int n :: rest)) := by
  refine va_newaK (atype := .int) hexec hb (hts _ harr) rfl hdg rfl hn rfl hbytes hcells hslots rfl fun H1 cA e1 z1 o1 hAr hNm => ?_
  have hcA : cA = cy 0 := Option.some.inj (hNm.symm.trans (hK.2 0 _ rfl).2)
  subst hcA
  have hsz : H.size = q_sz σ := hW.1
  rw [hsz] at e1 ⊢
  refine kk H1 (q_push hW (by decide) ?_ (by rw [z1]) o1) ⟨Nat.le_trans hS.1 (by omega), fun x g1 g2 => (o1 x (Nat.lt_of_lt_of_le g1 hS.1)).trans (hS.2.1 x g1 g2), hS.2.2⟩
  rw [q_cell_ints (show q_tag (q_nw σ 7 n.toNatClampNeg) (q_sz σ) = 7 from va_up_self _ _ _)]
  have r1 : q_len (q_nw σ 7 n.toNatClampNeg) (q_sz σ) = n.toNatClampNeg := va_up_self _ _ _
  have r2 : (q_nh h (q_sz σ)).1 (q_sz σ) = fun _ => 0 := va_up_self _ _ _
  rw [r1, r2]
  exact e1
theorem x_newl (hexec : p.tables.exec = Jvm.exec) (hb : c.code = cc) (hts : ∀ w ∈ q_tbl, w.before args s = true) (hK : va_K D vwCl (q_tys cy) s) (hW : q_HW D cy b0 σ h H) (hS : va_S (fun q => b0 ≤ q) H0 H locs) (harr : Cond.arrayClass .long ∈ q_tbl) {n : Int32} (hn : ¬ n < 0) (hbytes : n.toNatClampNeg * 8 ≤ 536870912) (hcells : cells + 1 ≤ R.cells) (hslots : slots + n.toNatClampNeg ≤ R.slots) (hdg : decode cc pc = .ok (.newarray .long, 2))
    (kk : ∀ H1 : Heap, q_HW D cy b0 (q_nw σ 8 n.toNatClampNeg) (q_nh h (q_sz σ)) H1 → va_S (fun q => b0 ≤ q) H0 H1 locs → W p l e R s m args below meth c H1 locs (cells + 1) (slots + n.toNatClampNeg) Q (F0 m (pc + 2) ls (.ref (q_sz σ) :: rest))) : W p l e R s m args below meth c H locs cells slots Q (F0 m pc ls (.int n :: rest)) := by
  refine va_newaK (atype := .long) hexec hb (hts _ harr) rfl hdg rfl hn rfl hbytes hcells hslots rfl fun H1 cA e1 z1 o1 hAr hNm => ?_
  have hcA : cA = cy 1 := Option.some.inj (hNm.symm.trans (hK.2 1 _ rfl).2)
  subst hcA
  have hsz : H.size = q_sz σ := hW.1
  rw [hsz] at e1 ⊢
  refine kk H1 (q_push hW (by decide) ?_ (by rw [z1]) o1) ⟨Nat.le_trans hS.1 (by omega), fun x g1 g2 => (o1 x (Nat.lt_of_lt_of_le g1 hS.1)).trans (hS.2.1 x g1 g2), hS.2.2⟩
  rw [q_cell_longs (show q_tag (q_nw σ 8 n.toNatClampNeg) (q_sz σ) = 8 from va_up_self _ _ _)]
  have r1 : q_len (q_nw σ 8 n.toNatClampNeg) (q_sz σ) = n.toNatClampNeg := va_up_self _ _ _
  have r2 : (q_nh h (q_sz σ)).2 (q_sz σ) = fun _ => 0 := va_up_self _ _ _
  rw [r1, r2]
  exact e1
theorem x_newq (hexec : p.tables.exec = Jvm.exec) (hb : c.code = cc) (hts : ∀ w ∈ q_tbl, w.before args s = true) (hown : s.vm.findClass own = some m.cls) (hK : va_K D vwCl (q_tys cy) s) (hN : q_NW s) (hW : q_HW D cy b0 σ h H) (hS : va_S (fun q => b0 ≤ q) H0 H locs) {k : Nat} (hk : k = 0 ∨ k = 1) {C : String} (hC : C = if k = 0 then RX1 else RX3) {idx : Nat} (hcl : Cond.classLink own idx C ∈ q_tbl) {n : Int32} (hn : ¬ n < 0) (hbytes : n.toNatClampNeg * 4 ≤ 536870912) (hcells : cells + 1 ≤ R.cells) (hslots : slots + n.toNatClampNeg ≤ R.slots) (hdg : decode cc pc = .ok (.anewarray idx, 3))
    (kk : ∀ H1 : Heap, q_HW D cy b0 (q_nw σ (k + 9) n.toNatClampNeg) (q_nh h (q_sz σ)) H1 → va_S (fun q => b0 ≤ q) H0 H1 locs → W p l e R s m args below meth c H1 locs (cells + 1) (slots + n.toNatClampNeg) Q (F0 m (pc + 3) ls (.ref (q_sz σ) :: rest))) : W p l e R s m args below meth c H locs cells slots Q (F0 m pc ls (.int n :: rest)) := by
  obtain ⟨ho, hty⟩ : va_AO C s ∧ (q_tys cy)[k + 2]? = some (cy (k + 2), FieldType.object C) := by
    subst hC
    rcases hk with rfl | rfl
    · exact ⟨hN.2.1, rfl⟩
    · exact ⟨hN.2.2, rfl⟩
  refine W.anew hexec hb hown (hts _ hcl) (va_AO.use ho) rfl hdg rfl hn hbytes hcells hslots fun cA kA comp f1 f2 f3 f4 => ?_
  obtain ⟨kA', comp', -, -, -, hNm⟩ := (hK.2 (k + 2) _ hty).2
  have hcA : cA = cy (k + 2) := Option.some.inj (f1.symm.trans hNm)
  subst hcA
  have hsz : H.size = q_sz σ := hW.1
  rw [hsz]
  refine kk _ (q_push hW (by omega) ?_ (by rw [Array.size_push]) (fun q hq => by rw [Array.getElem?_push, if_neg (Nat.ne_of_lt hq)])) ⟨by rw [Array.size_push]; exact Nat.le_trans hS.1 (Nat.le_succ _), fun x g1 g2 => by rw [Array.getElem?_push, if_neg (Nat.ne_of_lt (Nat.lt_of_lt_of_le g1 hS.1))]; exact hS.2.1 x g1 g2, hS.2.2⟩
  rw [q_cell_refs (c := k) (show q_tag (q_nw σ (k + 9) n.toNatClampNeg) (q_sz σ) = k + 9 from va_up_self _ _ _)]
  have r1 : q_len (q_nw σ (k + 9) n.toNatClampNeg) (q_sz σ) = n.toNatClampNeg := va_up_self _ _ _
  have r2 : q_ref (q_nw σ (k + 9) n.toNatClampNeg) (q_sz σ) = fun _ => 0 := va_up_self _ _ _
  rw [r1, r2]
  show (H.push _)[q_sz σ]? = some (vp_cell _ _)
  rw [vp_cell_q, ← hsz, Array.getElem?_push_size]
  exact congrArg some (arrV_new _ _ _)
end QN
theorem q_bud {x : Int32} {n : Nat} (g : vp_in x n) (hn : n < 2 ^ 31) : n - x.toNatClampNeg = (n - (x + 1).toNatClampNeg) + 1 := by
  obtain ⟨j, hj, rfl⟩ := vp_in_of g hn
  rw [nI_1, nI_clamp (by omega), nI_clamp (by omega)]
  omega
theorem q_tnew (σ : q_St) (t n : Nat) : q_tag (q_nw σ t n) (q_sz σ) = t := va_up_self _ _ _
def q_b3 {α β γ δ : Type} (x : Option (α × β × γ)) (f : α → β → γ → Option δ) : Option δ := x.bind fun z => f z.1 z.2.1 z.2.2
theorem q_bd3 {α β γ δ : Type} {x : Option (α × β × γ)} {f : α → β → γ → Option δ} {o : δ} (h : q_b3 x f = some o) : ∃ r t u, x = some (r, t, u) ∧ f r t u = some o := by
  cases x with
  | none => cases h
  | some r => exact ⟨r.1, r.2.1, r.2.2, rfl, h⟩
def q_cp (h : q_Hp) (src dst sp dp n : Nat) : q_Hp := (va_up h.1 dst (va_cpy (h.1 src) (h.1 dst) sp dp n), h.2)
section QC
variable {p : Program} {l : Launch} {e : Env} {R : Room} {s : State} {m : MethodId} {args : Array Value} {below : List Frame} {meth : Method} {c : Code} {H : Heap} {locs : List Loc} {cells slots : Nat} {Q : State → Prop}
variable {cc : ByteArray} {pc : Nat} {ls : Array Slot} {rest : List Value} {D : va_G} {cy : Nat → Nat} {b0 : Nat} {σ : q_St} {h : q_Hp} {H0 : Heap} {own : String} {a a0 : Nat}
theorem x_copy (hexec : p.tables.exec = Jvm.exec) (hb : c.code = cc) (hml : c.maxLocals = ls.size) {index : Nat} (hown : s.vm.findClass own = some m.cls) (hlink : (Cond.methodLink own index arraycopyName).before args s = true) (hnat : (Cond.native arraycopyName).before args s = true) (hstat : (Cond.static arraycopyName).before args s = true) (hini : (Cond.initialized "java/lang/System").before args s = true) (hK : va_K D vwCl (q_tys cy) s) (hW : q_HW D cy b0 σ h H) (hS : va_S (fun q => b0 ≤ q) H0 H locs) (t0 : q_tag σ a0 = 7) (t1 : q_tag σ a = 7) {sp dp n : Int32} (g : ¬ sp < 0 ∧ ¬ dp < 0 ∧ ¬ n < 0 ∧ sp.toNatClampNeg + n.toNatClampNeg ≤ q_len σ a0 ∧ dp.toNatClampNeg + n.toNatClampNeg ≤ q_len σ a) (hframes : 1 ≤ R.frames) (hlocals : (rest.map fun v => v.category).sum + (nativeFrameWords "java/lang/System" "arraycopy" 5 + 11) ≤ R.locals) (hdg : decode cc pc = .ok (.invokestatic index, 3))
    (kk : ∀ (H1 : Heap) (locs1 : List Loc), q_HW D cy b0 σ (q_cp h a0 a sp.toNatClampNeg dp.toNatClampNeg n.toNatClampNeg) H1 → va_S (fun q => b0 ≤ q) H0 H1 locs1 → W p l e R s m args below meth c H1 locs1 cells slots Q (F0 m (pc + 3) ls rest)) : W p l e R s m args below meth c H locs cells slots Q (F0 m pc ls (.int n :: .int dp :: .ref a :: .int sp :: .ref a0 :: rest)) := by
  obtain ⟨h1, h2, h3, h4, h5⟩ := g
  have hn0 : q_tag σ a0 ≠ 0 := by rw [t0]; omega
  have hn1 : q_tag σ a ≠ 0 := by rw [t1]; omega
  obtain ⟨q0, hq0⟩ := q_at hW hn0
  obtain ⟨q1, hq1⟩ := q_at hW hn1
  have hq0' := hq0
  have hq1' := hq1
  rw [q_cell_ints t0] at hq0'
  rw [q_cell_ints t1] at hq1'
  have nn : ∀ z : Int32, ¬ z < 0 → z.toInt = (z.toNatClampNeg : Int) := by
    intro z hz
    have hz0 : (0 : Int) ≤ z.toInt := by
      have := Int32.not_lt.mp hz
      simpa using Int32.le_iff_toInt_le.mp this
    show z.toInt = ((z.toInt.toNat : Nat) : Int)
    omega
  intro T hT X
  have hc0 : H[a0]? = some (vp_cell (cy 0) (q_len σ a0, .inl (h.1 a0))) := hW.2.1 q0 _ hq0'
  have hc1 : H[a]? = some (vp_cell (cy 0) (q_len σ a, .inl (h.1 a))) := hW.2.1 q1 _ hq1'
  obtain ⟨-, k0, hk0, cm0, hkk0⟩ := (hK.2 0 _ rfl).1 (q_len σ a0) (fun j => .int (h.1 a0 j))
  obtain ⟨-, k1, hk1, cm1, hkk1⟩ := (hK.2 0 _ rfl).1 (q_len σ a) (fun j => .int (h.1 a j))
  obtain ⟨vm', X', step⟩ := X.arraycopy hexec hown hlink hnat hstat hini (src := a0) (dst := a) (cs := vp_cell (cy 0) (q_len σ a0, .inl (h.1 a0))) (cd := vp_cell (cy 0) (q_len σ a, .inl (h.1 a))) (srcPos := sp) (destPos := dp) (n := n) (by rw [hT]; exact hc0) (by rw [hT]; exact hc1)
    (fun _ h => by cases h) (fun _ h => by cases h) (fun h => by cases h) (fun h => by cases h) hk0 hk1 hkk0 hkk1 (by simp [refKind]) h1 h2 h3
    (by rw [nn sp h1, nn n h3]; show ¬ _ > ((arrV (cy 0) (q_len σ a0) (fun j => .int (h.1 a0 j))).slots.size : Int); rw [arrV_size]; omega)
    (by rw [nn dp h2, nn n h3]; show ¬ _ > ((arrV (cy 0) (q_len σ a) (fun j => .int (h.1 a j))).slots.size : Int); rw [arrV_size]; omega)
    (fun vm₁ _ i hi => by
      have e : (vp_cell (cy 0) (q_len σ a0, .inl (h.1 a0))).slots.getD (sp.toNatClampNeg + i) .null = .int (h.1 a0 (sp.toNatClampNeg + i)) := by
        show (arrV (cy 0) (q_len σ a0) (fun j => .int (h.1 a0 j))).slots.getD _ _ = _
        rw [Array.getD_eq_getD_getElem?, arrV_read _ _ (by omega)]
        rfl
      refine ⟨?_, ?_⟩
      · rw [e]
        rfl
      · rw [e]
        exact trivial)
    (g := F0 m pc ls (.int n :: .int dp :: .ref a :: .int sp :: .ref a0 :: rest)) rfl (by rw [hml]) (rest := rest) rfl (by rw [hb]; exact hdg) hframes (by show 2 * 0 + _ + _ ≤ _; omega)
  have e1 : copied (vp_cell (cy 0) (q_len σ a0, .inl (h.1 a0))) (vp_cell (cy 0) (q_len σ a, .inl (h.1 a))) sp dp n = vp_cell (cy 0) (q_len σ a, .inl (va_cpy (h.1 a0) (h.1 a) sp.toNatClampNeg dp.toNatClampNeg n.toNatClampNeg)) := va_copied (fun z => .int z) (cy 0) (cy 0) (h.1 a0) (h.1 a) h4
  rw [e1] at X' step
  have hl : a < H.size := (Array.getElem?_eq_some_iff.mp hc1).1
  have hheap : ((T.setVm vm').setCell a (vp_cell (cy 0) (q_len σ a, .inl (va_cpy (h.1 a0) (h.1 a) sp.toNatClampNeg dp.toNatClampNeg n.toNatClampNeg)))).heap = H.setIfInBounds a (vp_cell (cy 0) (q_len σ a, .inl (va_cpy (h.1 a0) (h.1 a) sp.toNatClampNeg dp.toNatClampNeg n.toNatClampNeg))) := by rw [← hT]; rfl
  have oq : ∀ q : Nat, q ≠ a → (H.setIfInBounds a (vp_cell (cy 0) (q_len σ a, .inl (va_cpy (h.1 a0) (h.1 a) sp.toNatClampNeg dp.toNatClampNeg n.toNatClampNeg))))[q]? = H[q]? := fun q hq => by simp [Array.getElem?_setIfInBounds, Ne.symm hq]
  obtain ⟨t, a1, b1⟩ := kk _ _ (q_wr (σ' := σ) (h' := q_cp h a0 a sp.toNatClampNeg dp.toNatClampNeg n.toNatClampNeg) hW hn1 hq1 (hW.2.1.set (q_D hW _) hq1 (e := .inl (cy 0, q_len σ a, .inl (va_cpy (h.1 a0) (h.1 a) sp.toNatClampNeg dp.toNatClampNeg n.toNatClampNeg))) (show (H.setIfInBounds a _)[a]? = some _ by simp [Array.getElem?_setIfInBounds, hl]) oq) (by simp) rfl rfl rfl (fun _ _ => rfl) (fun b hb => va_up_ne _ _ hb) (fun _ _ => rfl) (by rw [q_cell_ints t1]; simp [q_cp, va_up_self])) ⟨by simp; exact hS.1, fun q g1 g2 => by
      rw [oq q (fun e => g2 (by rw [e]; exact (hW.2.2.2.2 a hn1).1))]
      exact hS.2.1 q g1 g2, fun q hq => by
      rcases List.mem_append.mp hq with h | h
      · exact hS.2.2 q h
      · obtain ⟨z, -, hz⟩ := List.mem_map.mp h
        rw [← hz]
        exact (hW.2.2.2.2 a hn1).1⟩ _ hheap X'
  exact ⟨t, step t a1, b1⟩
end QC
section QV
variable {p : Program} {l : Launch} {e : Env} {R : Room} {s : State} {m : MethodId} {args : Array Value} {below : List Frame} {meth : Method} {c : Code} {Q : State → Prop} {D : va_G} {cy : Nat → Nat} {b0 nL mc ms kc ks : Nat} {σ : q_St} {h : q_Hp} {pc : Nat} {lv : List (Nat × Value)} {st : List Value} {own : String} {cc : ByteArray} {cd : q_Cd} {T : q_Tb}
theorem v_putr (C0 : VC p R s m args meth c D cy b0 nL mc ms own cc) (hT : q_tok own T) (hc : q_cok cc cd) {idx ci k : Nat} (hi : q_lk cd pc = some (.putfield idx)) (hf : q_lk T.1 idx = some (ci, k)) (hl : (q_lay ci)[k]? = some true) (hfin : ((q_cl ci).2.1 k).2.2.2 = false ∨ (((q_cl ci).2.1 k).2.2.2 = true ∧ meth.name = "<init>" ∧ (q_cl ci).1 = own)) {a n : Nat} (ht : q_tag σ a = ci + 1) (hn : q_tag σ n ≠ 0) (kk : V p l e R s m args below meth c Q D cy b0 nL mc ms kc ks (q_sr σ a k n) h (pc + 3) lv st) : V p l e R s m args below meth c Q D cy b0 nL mc ms kc ks σ h pc lv (.ref n :: .ref a :: st) := by
  obtain ⟨c1, c2, c3, c4, c5, c6, c7, c8, c9, c10⟩ := C0
  intro H locs cells slots ls hW hS hl0 h1 h2
  have e : q_rv n = .ref n := q_rv_n (q_nz hW hn)
  rw [← e]
  exact x_putr c1 c2 c5 c4 c6 hW hS (hT.1 _ (q_lk_mem hf)) ht hfin hl (q_dec hc hi) (fun H1 locs1 w1 w2 => kk H1 locs1 cells slots ls w1 w2 hl0 h1 h2)
theorem v_putF (C0 : VC p R s m args meth c D cy b0 nL mc ms own cc) (hT : q_tok own T) (hc : q_cok cc cd) {idx ci k : Nat} (hi : q_lk cd pc = some (.putfield idx)) (hf : q_lk T.1 idx = some (ci, k)) (hl : (q_lay ci)[k]? = some false) (hb : q_isb ci k = false) (hfin : ((q_cl ci).2.1 k).2.2.2 = true ∧ meth.name = "<init>" ∧ (q_cl ci).1 = own) {a : Nat} {x : Int32} (ht : q_tag σ a = ci + 1) (kk : V p l e R s m args below meth c Q D cy b0 nL mc ms kc ks σ (q_si h a k x) (pc + 3) lv st) : V p l e R s m args below meth c Q D cy b0 nL mc ms kc ks σ h pc lv (.int x :: .ref a :: st) := by
  obtain ⟨c1, c2, c3, c4, c5, c6, c7, c8, c9, c10⟩ := C0
  intro H locs cells slots ls hW hS hl0 h1 h2
  exact x_puti c1 c2 c5 c4 c6 hW hS (hT.1 _ (q_lk_mem hf)) ht (Or.inr hfin) hl (fun z => by rw [hb] at z; cases z) (q_dec hc hi) (fun H1 locs1 w1 w2 => kk H1 locs1 cells slots ls w1 w2 hl0 h1 h2)
theorem v_aast (C0 : VC p R s m args meth c D cy b0 nL mc ms own cc) (hc : q_cok cc cd) (hi : q_lk cd pc = some .aastore) {a v : Nat} {i : Int32} (ht : (q_tag σ a = 9 ∧ q_tag σ v = 2) ∨ (q_tag σ a = 10 ∧ q_tag σ v = 4)) (hin : vp_in i (q_len σ a)) (kk : V p l e R s m args below meth c Q D cy b0 nL mc ms kc ks (q_sr σ a i.toNatClampNeg v) h (pc + 1) lv st) : V p l e R s m args below meth c Q D cy b0 nL mc ms kc ks σ h pc lv (.ref v :: .int i :: .ref a :: st) := by
  obtain ⟨c1, c2, c3, c4, c5, c6, c7, c8, c9, c10⟩ := C0
  intro H locs cells slots ls hW hS hl0 h1 h2
  exact x_aast c1 c2 c6 hW hS ht hin (q_dec hc hi) (fun H1 locs1 w1 w2 => kk H1 locs1 cells slots ls w1 w2 hl0 h1 h2)
theorem v_new (C0 : VC p R s m args meth c D cy b0 nL mc ms own cc) (hc : q_cok cc cd) {idx ci : Nat} (hi : q_lk cd pc = some (.new idx)) (hci : ci < 6) (hcl : Cond.classLink own idx (q_cl ci).1 ∈ q_tbl) (hin : Cond.instantiable (q_cl ci).1 (q_cl ci).2.2 ∈ q_tbl) (hini : Cond.initialized (q_cl ci).1 ∈ q_tbl) {nn : Nat} (hnn : (q_cl ci).2.2 = nn) (kk : V p l e R s m args below meth c Q D cy b0 nL mc ms kc ks (q_nw σ (ci + 1) 0) (q_nh h (q_sz σ)) (pc + 3) lv (.ref (q_sz σ) :: st)) : V p l e R s m args below meth c Q D cy b0 nL mc ms (kc + 1) (ks + nn) σ h pc lv st := by
  subst hnn
  obtain ⟨c1, c2, c3, c4, c5, c6, c7, c8, c9, c10⟩ := C0
  intro H locs cells slots ls hW hS hl0 h1 h2
  exact x_new c1 c2 c5 c4 c6 hW hS hci hcl hin hini (by omega) (by omega) (q_dec hc hi) (fun H1 w1 w2 => kk H1 locs (cells + 1) (slots + (q_cl ci).2.2) ls w1 w2 hl0 (by omega) (by omega))
theorem v_newa (C0 : VC p R s m args meth c D cy b0 nL mc ms own cc) (hc : q_cok cc cd) (hi : q_lk cd pc = some (.newarray .int)) (harr : Cond.arrayClass .int ∈ q_tbl) {n : Int32} {nn : Nat} (hnn : n.toNatClampNeg = nn) (hn : ¬ n < 0) (hbytes : nn * 4 ≤ 536870912) (kk : V p l e R s m args below meth c Q D cy b0 nL mc ms kc ks (q_nw σ 7 nn) (q_nh h (q_sz σ)) (pc + 2) lv (.ref (q_sz σ) :: st)) : V p l e R s m args below meth c Q D cy b0 nL mc ms (kc + 1) (ks + nn) σ h pc lv (.int n :: st) := by
  subst hnn
  obtain ⟨c1, c2, c3, c4, c5, c6, c7, c8, c9, c10⟩ := C0
  intro H locs cells slots ls hW hS hl0 h1 h2
  exact x_newa c1 c2 c5 c6 hW hS harr hn hbytes (by omega) (by omega) (q_dec hc hi) (fun H1 w1 w2 => kk H1 locs (cells + 1) (slots + n.toNatClampNeg) ls w1 w2 hl0 (by omega) (by omega))
theorem v_newl (C0 : VC p R s m args meth c D cy b0 nL mc ms own cc) (hc : q_cok cc cd) (hi : q_lk cd pc = some (.newarray .long)) (harr : Cond.arrayClass .long ∈ q_tbl) {n : Int32} {nn : Nat} (hnn : n.toNatClampNeg = nn) (hn : ¬ n < 0) (hbytes : nn * 8 ≤ 536870912) (kk : V p l e R s m args below meth c Q D cy b0 nL mc ms kc ks (q_nw σ 8 nn) (q_nh h (q_sz σ)) (pc + 2) lv (.ref (q_sz σ) :: st)) : V p l e R s m args below meth c Q D cy b0 nL mc ms (kc + 1) (ks + nn) σ h pc lv (.int n :: st) := by
  subst hnn
  obtain ⟨c1, c2, c3, c4, c5, c6, c7, c8, c9, c10⟩ := C0
  intro H locs cells slots ls hW hS hl0 h1 h2
  exact x_newl c1 c2 c5 c6 hW hS harr hn hbytes (by omega) (by omega) (q_dec hc hi) (fun H1 w1 w2 => kk H1 locs (cells + 1) (slots + n.toNatClampNeg) ls w1 w2 hl0 (by omega) (by omega))
theorem v_newq (C0 : VC p R s m args meth c D cy b0 nL mc ms own cc) (hc : q_cok cc cd) {idx : Nat} (hi : q_lk cd pc = some (.anewarray idx)) {k : Nat} (hk : k = 0 ∨ k = 1) {C : String} (hC : C = if k = 0 then RX1 else RX3) (hcl : Cond.classLink own idx C ∈ q_tbl) {n : Int32} {nn : Nat} (hnn : n.toNatClampNeg = nn) (hn : ¬ n < 0) (hbytes : nn * 4 ≤ 536870912) (kk : V p l e R s m args below meth c Q D cy b0 nL mc ms kc ks (q_nw σ (k + 9) nn) (q_nh h (q_sz σ)) (pc + 3) lv (.ref (q_sz σ) :: st)) : V p l e R s m args below meth c Q D cy b0 nL mc ms (kc + 1) (ks + nn) σ h pc lv (.int n :: st) := by
  subst hnn
  obtain ⟨c1, c2, c3, c4, c5, c6, c7, c8, c9, c10⟩ := C0
  intro H locs cells slots ls hW hS hl0 h1 h2
  exact x_newq c1 c2 c5 c4 c6 c10 hW hS hk hC hcl hn hbytes (by omega) (by omega) (q_dec hc hi) (fun H1 w1 w2 => kk H1 locs (cells + 1) (slots + n.toNatClampNeg) ls w1 w2 hl0 (by omega) (by omega))
theorem v_obj (C0 : VC p R s m args meth c D cy b0 nL mc ms own cc) (hc : q_cok cc cd) {idx : Nat} (hi : q_lk cd pc = some (.invokespecial idx)) (hw : Cond.methodLink own idx Lib.objectInit ∈ q_tbl ∧ Cond.instanceMethod Lib.objectInit ∈ q_tbl ∧ Cond.code Lib.objectInit ⟨#[0xb1]⟩ 1 none ∈ q_tbl) (hfr : 1 ≤ R.frames) (hlo : 20 ≤ R.locals) {a : Nat} (hr : (st.map fun v => v.category).sum ≤ 8) (kk : V p l e R s m args below meth c Q D cy b0 nL mc ms kc ks σ h (pc + 3) lv st) : V p l e R s m args below meth c Q D cy b0 nL mc ms kc ks σ h pc lv (.ref a :: st) := by
  obtain ⟨c1, c2, c3, c4, c5, c6, c7, c8, c9, c10⟩ := C0
  intro H locs cells slots ls hW hS hl0 h1 h2
  exact W.objInit c1 c2 c4 (c5 _ hw.1) (c5 _ hw.2.1) (c5 _ hw.2.2) rfl (by rw [c3]; exact hl0.1) rfl (q_dec hc hi) hfr (by show 2 * 0 + _ + 12 ≤ _; omega) (kk H locs cells slots ls hW hS hl0 h1 h2)
theorem v_callI (C0 : VC p R s m args meth c D cy b0 nL mc ms own cc) (hc : q_cok cc cd) {idx : Nat} (hi : q_lk cd pc = some (.invokespecial idx)) {y : MethodName} {bytes : ByteArray} {maxL n : Nat} {fr lo mc' ms' kc' ks' : Nat} {b : Nat} {as rest : List Value} {σ' : q_St} {h' : q_Hp}
    (hM : q_M l y bytes maxL none fr lo mc' ms' D cy b0 σ h (.ref b :: as) none σ' h') (hy : q_cal y bytes maxL none) (hy1 : y.name = "<init>") (hlink : Cond.methodLink own idx y ∈ q_tbl) (hin : Cond.instanceMethod y ∈ q_tbl) (hn : (parseMethodDescriptor y.desc).map (fun d => d.parameters.length) = some n) (hst : st = as.reverse ++ .ref b :: rest) (has : as.length = n) (hR : fr + 1 ≤ R.frames ∧ 8 + (maxL + 11) + lo ≤ R.locals) (hw : (rest.map fun v => v.category).sum ≤ 8) (hk1 : kc' + mc' ≤ kc) (hk2 : ks' + ms' ≤ ks)
    (kk : V p l e R s m args below meth c Q D cy b0 nL mc ms kc' ks' σ' h' (pc + 3) lv rest) : V p l e R s m args below meth c Q D cy b0 nL mc ms kc ks σ h pc lv st := by
  obtain ⟨c1, c2, c3, c4, c5, c6, c7, c8, c9, c10⟩ := C0
  subst hst
  refine v_back (y := y) (r := none) (rest := rest) (mc' := mc') (ms' := ms') (a := (Value.ref b :: as).toArray) hk1 hk2 (fun H locs cells slots ls hW hl h1 h2 => ?_) kk
  refine va_runI (As := as) (rest := rest) (b := b) ⟨c1, c2, c3, c4, c5⟩ hM (cwI n c5 (q_good ?_) rfl rfl rfl (c5 _ hy.1) (c5 _ hlink) (c5 _ hin) hy1 ⟨hy.2.2.1, hy.2.2.2, hn⟩ hR) ⟨q_blind D cy b0 σ h _, fun U hU hWm => ⟨rfl, by rw [hU]; exact hW, va_K.moved hWm.alike c6, c10.warm hWm⟩⟩ rfl has hl.1 rfl (lv_room hw) (q_dec hc hi) ⟨by omega, by omega⟩
  intro w hw
  rcases List.mem_cons.mp hw with rfl | hw
  · exact hy.2.1
  · exact hw
theorem v_callIN (C0 : VC p R s m args meth c D cy b0 nL mc ms own cc) (hc : q_cok cc cd) {idx : Nat} (hi : q_lk cd pc = some (.invokespecial idx)) {y : MethodName} {host : String} {bytes : ByteArray} {maxL n : Nat} {fr lo mc' ms' kc' ks' : Nat} {b : Nat} {as rest : List Value} {σ' : q_St} {h' : q_Hp}
    (hM : q_M l y bytes maxL none fr lo mc' ms' D cy b0 σ h (.ref b :: as) none σ' h') (hy : q_cal y bytes maxL none) (hy1 : y.name = "<init>") (hlink : Cond.methodLinkNest own idx y host ∈ lw_tbl) (hin : Cond.instanceMethod y ∈ q_tbl) (hn : (parseMethodDescriptor y.desc).map (fun d => d.parameters.length) = some n) (hst : st = as.reverse ++ .ref b :: rest) (has : as.length = n) (hR : fr + 1 ≤ R.frames ∧ 8 + (maxL + 11) + lo ≤ R.locals) (hw : (rest.map fun v => v.category).sum ≤ 8) (hk1 : kc' + mc' ≤ kc) (hk2 : ks' + ms' ≤ ks)
    (kk : V p l e R s m args below meth c Q D cy b0 nL mc ms kc' ks' σ' h' (pc + 3) lv rest) : V p l e R s m args below meth c Q D cy b0 nL mc ms kc ks σ h pc lv st := by
  obtain ⟨c1, c2, c3, c4, c5, c6, c7, c8, c9, c10⟩ := C0
  subst hst
  refine v_back (y := y) (r := none) (rest := rest) (mc' := mc') (ms' := ms') (a := (Value.ref b :: as).toArray) hk1 hk2 (fun H locs cells slots ls hW hl h1 h2 => ?_) kk
  refine va_runIN (As := as) (rest := rest) (b := b) (host := host) ⟨c1, c2, c3, c4, c5⟩ hM ⟨va_cnB n c5 (q_good ?_) rfl rfl rfl (c10.1 _ _ _ _ hlink) (c5 _ hy.1) ⟨hy.2.2.1, hy.2.2.2, hn⟩ hR, hy1, c5 _ hin⟩ ⟨q_blind D cy b0 σ h _, fun U hU hWm => ⟨rfl, by rw [hU]; exact hW, va_K.moved hWm.alike c6, c10.warm hWm⟩⟩ rfl has hl.1 rfl (lv_room hw) (q_dec hc hi) ⟨by omega, by omega⟩
  intro w hw
  rcases List.mem_cons.mp hw with rfl | hw
  · exact hy.2.1
  · exact hw
theorem v_copy (C0 : VC p R s m args meth c D cy b0 nL mc ms own cc) (hc : q_cok cc cd) {idx : Nat} (hi : q_lk cd pc = some (.invokestatic idx)) (hw : Cond.methodLink own idx arraycopyName ∈ q_tbl ∧ Cond.native arraycopyName ∈ q_tbl ∧ Cond.static arraycopyName ∈ q_tbl ∧ Cond.initialized "java/lang/System" ∈ q_tbl) (hfr : 1 ≤ R.frames) (hlo : 8 + (nativeFrameWords "java/lang/System" "arraycopy" 5 + 11) ≤ R.locals) {a0 a : Nat} (t0 : q_tag σ a0 = 7) (t1 : q_tag σ a = 7) {sp dp n : Int32} (g : ¬ sp < 0 ∧ ¬ dp < 0 ∧ ¬ n < 0 ∧ sp.toNatClampNeg + n.toNatClampNeg ≤ q_len σ a0 ∧ dp.toNatClampNeg + n.toNatClampNeg ≤ q_len σ a) {rest : List Value} (hr : (rest.map fun v => v.category).sum ≤ 8) (kk : V p l e R s m args below meth c Q D cy b0 nL mc ms kc ks σ (q_cp h a0 a sp.toNatClampNeg dp.toNatClampNeg n.toNatClampNeg) (pc + 3) lv rest) : V p l e R s m args below meth c Q D cy b0 nL mc ms kc ks σ h pc lv (.int n :: .int dp :: .ref a :: .int sp :: .ref a0 :: rest) := by
  obtain ⟨c1, c2, c3, c4, c5, c6, c7, c8, c9, c10⟩ := C0
  intro H locs cells slots ls hW hS hl0 h1 h2
  exact x_copy c1 c2 (by rw [c3, hl0.1]) c4 (c5 _ hw.1) (c5 _ hw.2.1) (c5 _ hw.2.2.1) (c5 _ hw.2.2.2) c6 hW hS t0 t1 g hfr (by omega) (q_dec hc hi) (fun H1 locs1 w1 w2 => kk H1 locs1 cells slots ls w1 w2 hl0 h1 h2)
end QV
