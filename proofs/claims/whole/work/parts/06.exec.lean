/-! straight stretches of code, run by a function -/
/-- where a method stands: place, locals, stack, numbers of the memory -/
abbrev q_Cf : Type := Nat × List (Nat × Value) × List Value × q_Hp
def V (p : Program) (l : Launch) (e : Env) (R : Room) (s : State) (m : MethodId) (args : Array Value) (below : List Frame) (meth : Method) (c : Code) (Q : State → Prop) (D : va_G) (cy : Nat → Nat) (b0 nL mc ms kc ks : Nat) (σ : q_St) (h : q_Hp) (pc : Nat) (lv : List (Nat × Value)) (st : List Value) : Prop :=
  ∀ (H : Heap) (locs : List Loc) (cells slots : Nat) (ls : Array Slot), q_HW D cy b0 σ h H → va_S (fun q => b0 ≤ q) s.heap H locs → lv_has ls nL lv → cells + kc ≤ mc → slots + ks ≤ ms → W p l e R s m args below meth c H locs cells slots Q (F0 m pc ls st)
/-- the words of nest mates' calls, of arrays of references -/
def q_NW (U : State) : Prop := (∀ (a : String) (i : Nat) (x : MethodName) (hh : String), Cond.methodLinkNest a i x hh ∈ lw_tbl → va_Nw (.methodLinkNest a i x hh) U) ∧ va_AO RX1 U ∧ va_AO RX3 U
theorem q_NW.warm {s U : State} (hW : s.WarmedH U.vm) (h : q_NW s) : q_NW U := ⟨fun a i x hh hm => va_Nw.warmM hW (h.1 a i x hh hm), va_AO.moved hW.alike h.2.1, va_AO.moved hW.alike h.2.2⟩
theorem q_NW.same {s U : State} (hv : s.vm = U.vm) (h : q_NW s) : q_NW U := ⟨fun a i x hh hm => va_Nw.same rfl hv (h.1 a i x hh hm), va_AO.moved (hv ▸ Vm.Alike.refl s.vm) h.2.1, va_AO.moved (hv ▸ Vm.Alike.refl s.vm) h.2.2⟩
/-- what a method's walk rests on -/
def VC (p : Program) (R : Room) (s : State) (m : MethodId) (args : Array Value) (meth : Method) (c : Code) (D : va_G) (cy : Nat → Nat) (b0 nL mc ms : Nat) (own : String) (cc : ByteArray) : Prop :=
  p.tables.exec = Jvm.exec ∧ c.code = cc ∧ c.maxLocals = nL ∧ s.vm.findClass own = some m.cls ∧ (∀ w ∈ q_tbl, w.before args s = true) ∧ va_K D vwCl (q_tys cy) s ∧ mc ≤ R.cells ∧ ms ≤ R.slots ∧ b0 ≤ s.heap.size ∧ q_NW s
def q_lk {α : Type} : List (Nat × α) → Nat → Option α
  | [], _ => none
  | (j, v) :: t, i => bif Nat.beq j i then some v else q_lk t i
theorem q_lk_mem {α : Type} : ∀ {l : List (Nat × α)} {i : Nat} {v : α}, q_lk l i = some v → (i, v) ∈ l
  | [], _, _, h => by simp [q_lk] at h
  | (j, w) :: t, i, v, h => by
    unfold q_lk at h
    cases hb : Nat.beq j i with
    | true =>
      rw [hb] at h
      have hj : j = i := Nat.eq_of_beq_eq_true hb
      have hw : w = v := by simpa using h
      rw [hj, hw]
      exact List.mem_cons_self
    | false =>
      rw [hb] at h
      exact List.mem_cons_of_mem _ (q_lk_mem (by simpa using h))
/-- a method's tables: its code, its class's fields and constants -/
abbrev q_Cd : Type := List (Nat × Instr)
abbrev q_Tb : Type := List (Nat × Nat × Nat) × List (Nat × Int32) × List (Nat × Int64)
/-- how long an instruction is (switches apart) -/
def q_il : Instr → Nat
  | .iload _ | .lload _ | .aload _ | .istore _ | .lstore _ | .astore _ | .bipush _ | .ldc _ | .newarray _ => 2
  | .sipush _ | .ldc_w _ | .ldc2_w _ | .iinc _ _ | .goto _ | .getfield _ | .putfield _ | .ifCond _ _ | .if_icmp _ _ | .ifnull _ | .ifnonnull _ | .invokevirtual _ | .invokestatic _ | .invokespecial _ | .new _ | .anewarray _ => 3
  | _ => 1
def q_cok (cc : ByteArray) (cd : q_Cd) : Prop := ∀ x ∈ cd, decode cc x.1 = .ok (x.2, q_il x.2)
def q_tok (own : String) (T : q_Tb) : Prop := (∀ x ∈ T.1, q_fok own x) ∧ (∀ x ∈ T.2.1, Cond.constant own x.1 x.2 ∈ q_tbl) ∧ ∀ x ∈ T.2.2, Cond.constantLong own x.1 x.2 ∈ q_tbl
def q_set1 (n : Nat) (v : Value) (lv : List (Nat × Value)) : List (Nat × Value) := (n, v) :: lv.filter (fun q => !(q.1 == n) && !(q.1 + 1 == n && q.2.category == 2))
def q_set2 (n : Nat) (v : Value) (lv : List (Nat × Value)) : List (Nat × Value) := (n, v) :: lv.filter (fun q => !(q.1 == n) && (!(q.1 == n + 1) && !(q.1 + 1 == n && q.2.category == 2)))
abbrev q_Re : Type := Option (q_Cf × Option Prop)
def q_go (pc : Nat) (lv : List (Nat × Value)) (h : q_Hp) (st : List Value) : q_Re := some ((pc, lv, st, h), none)
def q_gd (pc : Nat) (lv : List (Nat × Value)) (h : q_Hp) (st : List Value) (g : Prop) : q_Re := some ((pc, lv, st, h), some g)
def q_bi (pc : Nat) (lv : List (Nat × Value)) (h : q_Hp) (st : List Value) (f : Int32 → Int32 → Int32) : q_Re := match st with
  | .int y :: .int x :: r => q_go pc lv h (.int (f x y) :: r)
  | _ => none
def q_bl (pc : Nat) (lv : List (Nat × Value)) (h : q_Hp) (st : List Value) (f : Int64 → Int64 → Int64) : q_Re := match st with
  | .long y :: .long x :: r => q_go pc lv h (.long (f x y) :: r)
  | _ => none
def q_ui (pc : Nat) (lv : List (Nat × Value)) (h : q_Hp) (st : List Value) (f : Int32 → Value) : q_Re := match st with
  | .int x :: r => q_go pc lv h (f x :: r)
  | _ => none
def q_ld (pc : Nat) (lv : List (Nat × Value)) (h : q_Hp) (st : List Value) (i : Nat) (t : Nat) : q_Re := match q_lk lv i, t with
  | some (.int x), 0 => q_go pc lv h (.int x :: st)
  | some (.long x), 1 => q_go pc lv h (.long x :: st)
  | some (.ref x), 2 => q_go pc lv h (.ref x :: st)
  | some .null, 2 => q_go pc lv h (.null :: st)
  | _, _ => none
def q_stt (nL pc : Nat) (lv : List (Nat × Value)) (h : q_Hp) (st : List Value) (i : Nat) (t : Nat) : q_Re := match st, t with
  | .int x :: r, 0 => bif Nat.blt i nL then q_go pc (q_set1 i (.int x) lv) h r else none
  | .long x :: r, 1 => bif Nat.blt (i + 1) nL then q_go pc (q_set2 i (.long x) lv) h r else none
  | .ref x :: r, 2 => bif Nat.blt i nL then q_go pc (q_set1 i (.ref x) lv) h r else none
  | .null :: r, 2 => bif Nat.blt i nL then q_go pc (q_set1 i .null lv) h r else none
  | _, _ => none
/-- a written number -/
def q_c : Int → Int32
  | .ofNat k => @OfNat.ofNat Int32 k _
  | .negSucc k => -(@OfNat.ofNat Int32 (k + 1) _)
theorem q_c_eq (n : Int) : Int32.ofInt n = q_c n := by
  cases n with
  | ofNat k => rfl
  | negSucc k =>
    show Int32.ofInt (-((k + 1 : Nat) : Int)) = -(Int32.ofNat (k + 1))
    rw [Int32.ofInt_neg]
    rfl
theorem q_c8 {n : Int} (h : (decide (-128 ≤ n) && decide (n < 128)) = true) : (Int8.ofInt n).toInt32 = q_c n := by
  simp only [Bool.and_eq_true, decide_eq_true_eq] at h
  rw [← q_c_eq]
  apply Int32.toInt_inj.mp
  rw [Int8.toInt_toInt32, Int8.toInt_ofInt, Int32.toInt_ofInt]
  rw [Int.bmod_eq_of_le (by simp; omega) (by simp; omega), Int.bmod_eq_of_le (by simp; omega) (by simp; omega)]
theorem q_c16 {n : Int} (h : (decide (-32768 ≤ n) && decide (n < 32768)) = true) : (Int16.ofInt n).toInt32 = q_c n := by
  simp only [Bool.and_eq_true, decide_eq_true_eq] at h
  rw [← q_c_eq]
  apply Int32.toInt_inj.mp
  rw [Int16.toInt_toInt32, Int16.toInt_ofInt, Int32.toInt_ofInt]
  rw [Int.bmod_eq_of_le (by simp; omega) (by simp; omega), Int.bmod_eq_of_le (by simp; omega) (by simp; omega)]
example : q_c 5 = (5 : Int32) := rfl
example : q_c (-1) = (-1 : Int32) := rfl
/-- one instruction of a straight stretch: where it leads, what it asks -/
def q_ex (nL : Nat) (T : q_Tb) (σ : q_St) (i : Instr) (pc : Nat) (lv : List (Nat × Value)) (st : List Value) (h : q_Hp) : q_Re := match i with
  | .iload_n k => q_ld (pc + 1) lv h st k 0
  | .iload k => q_ld (pc + 2) lv h st k 0
  | .lload_n k => q_ld (pc + 1) lv h st k 1
  | .lload k => q_ld (pc + 2) lv h st k 1
  | .aload_n k => q_ld (pc + 1) lv h st k 2
  | .aload k => q_ld (pc + 2) lv h st k 2
  | .istore_n k => q_stt nL (pc + 1) lv h st k 0
  | .istore k => q_stt nL (pc + 2) lv h st k 0
  | .lstore_n k => q_stt nL (pc + 1) lv h st k 1
  | .lstore k => q_stt nL (pc + 2) lv h st k 1
  | .astore_n k => q_stt nL (pc + 1) lv h st k 2
  | .astore k => q_stt nL (pc + 2) lv h st k 2
  | .iconst n => q_go (pc + 1) lv h (.int (q_c n) :: st)
  | .bipush n => bif decide (-128 ≤ n) && decide (n < 128) then q_go (pc + 2) lv h (.int (q_c n) :: st) else none
  | .sipush n => bif decide (-32768 ≤ n) && decide (n < 32768) then q_go (pc + 3) lv h (.int (q_c n) :: st) else none
  | .lconst n => q_go (pc + 1) lv h (.long (Int64.ofNat (n : Nat)) :: st)
  | .ldc x => match q_lk T.2.1 x with
    | some v => q_go (pc + 2) lv h (.int v :: st)
    | none => none
  | .ldc_w x => match q_lk T.2.1 x with
    | some v => q_go (pc + 3) lv h (.int v :: st)
    | none => none
  | .ldc2_w x => match q_lk T.2.2 x with
    | some v => q_go (pc + 3) lv h (.long v :: st)
    | none => none
  | .iadd => q_bi (pc + 1) lv h st (fun x y => x + y)
  | .isub => q_bi (pc + 1) lv h st (fun x y => x - y)
  | .imul => q_bi (pc + 1) lv h st (fun x y => x * y)
  | .iand => q_bi (pc + 1) lv h st (fun x y => x &&& y)
  | .ior => q_bi (pc + 1) lv h st (fun x y => x ||| y)
  | .ixor => q_bi (pc + 1) lv h st (fun x y => x ^^^ y)
  | .ishl => q_bi (pc + 1) lv h st (fun x y => x <<< (y &&& 31))
  | .ishr => q_bi (pc + 1) lv h st (fun x y => x >>> (y &&& 31))
  | .iushr => q_bi (pc + 1) lv h st (fun x y => (Int32.toUInt32 x >>> (Int32.toUInt32 y &&& Int32.toUInt32 31)).toInt32)
  | .ladd => q_bl (pc + 1) lv h st (fun x y => x + y)
  | .lsub => q_bl (pc + 1) lv h st (fun x y => x - y)
  | .lmul => q_bl (pc + 1) lv h st (fun x y => x * y)
  | .idiv => match st with
    | .int y :: .int x :: r => q_gd (pc + 1) lv h (.int (x / y) :: r) (¬ y = 0)
    | _ => none
  | .irem => match st with
    | .int y :: .int x :: r => q_gd (pc + 1) lv h (.int (x - x / y * y) :: r) (¬ y = 0)
    | _ => none
  | .ldiv => match st with
    | .long y :: .long x :: r => q_gd (pc + 1) lv h (.long (x / y) :: r) (¬ y = 0)
    | _ => none
  | .lrem => match st with
    | .long y :: .long x :: r => q_gd (pc + 1) lv h (.long (x - x / y * y) :: r) (¬ y = 0)
    | _ => none
  | .i2l => q_ui (pc + 1) lv h st (fun x => .long x.toInt64)
  | .i2b => q_ui (pc + 1) lv h st (fun x => .int x.toInt8.toInt32)
  | .i2s => q_ui (pc + 1) lv h st (fun x => .int x.toInt16.toInt32)
  | .l2i => match st with
    | .long x :: r => q_go (pc + 1) lv h (.int x.toInt32 :: r)
    | _ => none
  | .lcmp => match st with
    | .long y :: .long x :: r => q_go (pc + 1) lv h (.int (lg_cmp x y) :: r)
    | _ => none
  | .iinc k n => match q_lk lv k with
    | some (.int x) => bif Nat.blt k nL then q_go (pc + 3) (q_set1 k (.int (x + q_c n)) lv) h st else none
    | _ => none
  | .goto off => match (pc : Int) + off with
    | .ofNat t => q_go t lv h st
    | _ => none
  | .ifnull off => match st with
    | .ref _ :: r => q_go (pc + 3) lv h r
    | .null :: r => match (pc : Int) + off with
      | .ofNat t => q_go t lv h r
      | _ => none
    | _ => none
  | .ifnonnull off => match st with
    | .null :: r => q_go (pc + 3) lv h r
    | .ref _ :: r => match (pc : Int) + off with
      | .ofNat t => q_go t lv h r
      | _ => none
    | _ => none
  | .dup => match st with
    | .int x :: r => q_go (pc + 1) lv h (.int x :: .int x :: r)
    | .ref x :: r => q_go (pc + 1) lv h (.ref x :: .ref x :: r)
    | _ => none
  | .dup2 => match st with
    | .int y :: .int x :: r => q_go (pc + 1) lv h (.int y :: .int x :: .int y :: .int x :: r)
    | .int y :: .ref x :: r => q_go (pc + 1) lv h (.int y :: .ref x :: .int y :: .ref x :: r)
    | _ => none
  | .pop => match st with
    | .int _ :: r => q_go (pc + 1) lv h r
    | .ref _ :: r => q_go (pc + 1) lv h r
    | _ => none
  | .getfield x => match q_lk T.1 x, st with
    | some (ci, k), .ref a :: r => match (q_lay ci)[k]? with
      | some true => q_gd (pc + 3) lv h (.ref (q_ref σ a k) :: r) (q_tag σ a = ci + 1 ∧ q_tag σ (q_ref σ a k) ≠ 0)
      | some false => q_gd (pc + 3) lv h (.int (q_int h a k) :: r) (q_tag σ a = ci + 1)
      | none => none
    | _, _ => none
  | .putfield x => match q_lk T.1 x, st with
    | some (ci, k), .int v :: .ref a :: r => match (q_lay ci)[k]?, ((q_cl ci).2.1 k).2.2.2 with
      | some false, false => bif q_isb ci k then q_gd (pc + 3) lv (q_si h a k v) r (q_tag σ a = ci + 1 ∧ (v = 0 ∨ v = 1)) else q_gd (pc + 3) lv (q_si h a k v) r (q_tag σ a = ci + 1)
      | _, _ => none
    | _, _ => none
  | .iaload => match st with
    | .int i :: .ref a :: r => q_gd (pc + 1) lv h (.int (q_int h a i.toNatClampNeg) :: r) (q_tag σ a = 7 ∧ vp_in i (q_len σ a))
    | _ => none
  | .laload => match st with
    | .int i :: .ref a :: r => q_gd (pc + 1) lv h (.long (q_lng h a i.toNatClampNeg) :: r) (q_tag σ a = 8 ∧ vp_in i (q_len σ a))
    | _ => none
  | .iastore => match st with
    | .int x :: .int i :: .ref a :: r => q_gd (pc + 1) lv (q_si h a i.toNatClampNeg x) r (q_tag σ a = 7 ∧ vp_in i (q_len σ a))
    | _ => none
  | .lastore => match st with
    | .long x :: .int i :: .ref a :: r => q_gd (pc + 1) lv (q_sj h a i.toNatClampNeg x) r (q_tag σ a = 8 ∧ vp_in i (q_len σ a))
    | _ => none
  | .arraylength => match st with
    | .ref a :: r => q_gd (pc + 1) lv h (.int (Int32.ofNat (q_len σ a)) :: r) (q_tag σ a = 7 ∨ q_tag σ a = 8 ∨ q_tag σ a = 9 ∨ q_tag σ a = 10)
    | _ => none
  | _ => none
