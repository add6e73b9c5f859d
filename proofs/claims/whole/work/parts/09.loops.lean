/-! loops, choices, what may fail -/
def q_N : Nat := 1000000000
def q_loop {S R : Type} (body : S → Option (S ⊕ R)) : Nat → S → Option R
  | 0, _ => none
  | n + 1, s => match body s with
    | none => none
    | some (.inl s') => q_loop body n s'
    | some (.inr r) => some r
theorem q_loop_V {S R : Type} {body : S → Option (S ⊕ R)} {P : S → Prop} {o : R} (hb : ∀ s z, body s = some z → (∀ s', z = .inl s' → P s') → (∀ r, z = .inr r → r = o) → P s) : ∀ n s, q_loop body n s = some o → P s
  | 0, s, h => by cases h
  | n + 1, s, h => by
    unfold q_loop at h
    split at h
    · cases h
    · next s' hs => exact hb s _ hs (fun s2 e => by cases e; exact q_loop_V hb n s' h) (fun r e => by cases e)
    · next r hs =>
      cases h
      exact hb s _ hs (fun s2 e => by cases e) (fun r e => by cases e; rfl)
def q_b2 {α β γ : Type} (x : Option (α × β)) (f : α → β → Option γ) : Option γ := x.bind fun z => f z.1 z.2
theorem q_bd2 {α β γ : Type} {x : Option (α × β)} {f : α → β → Option γ} {o : γ} (h : q_b2 x f = some o) : ∃ r t, x = some (r, t) ∧ f r t = some o := by
  cases x with
  | none => cases h
  | some r => exact ⟨r.1, r.2, rfl, h⟩
def q_el {X R : Type} (o : X ⊕ R) (f : X → Option R) : Option R := match o with
  | .inl x => f x
  | .inr r => some r
theorem q_el_l {X R : Type} {x : X} {f : X → Option R} {o : R} (h : q_el (.inl x) f = some o) : f x = some o := h
theorem q_tn {x n : Nat} (h : x = n + 1) : x ≠ 0 := by omega
theorem q_ite {c : Prop} [Decidable c] {α : Type} {A B : Option α} {o : α} (h : (if c then A else B) = some o) : (c ∧ A = some o) ∨ (¬ c ∧ B = some o) := by
  by_cases hc : c
  · rw [if_pos hc] at h; exact Or.inl ⟨hc, h⟩
  · rw [if_neg hc] at h; exact Or.inr ⟨hc, h⟩
theorem q_tok_of {own : String} {T : q_Tb} (is js ks : List (Nat × Nat)) (h1 : T.1.all (fun x => decide (x.2.1 < 6) && decide (x.2.2 < (q_cl x.2.1).2.2) && decide (((q_cl x.2.1).2.1 x.2.2).1 = (q_cl x.2.1).1)) = true) (h2 : T.1.map (fun x => Cond.fieldLink own x.1 (q_cl x.2.1).1 ((q_cl x.2.1).2.1 x.2.2).2.1 ((q_cl x.2.1).2.1 x.2.2).2.2.1) = is.filterMap q_tat) (h3 : T.2.1.map (fun x => Cond.constant own x.1 x.2) = js.filterMap q_tat) (h4 : T.2.2.map (fun x => Cond.constantLong own x.1 x.2) = ks.filterMap q_tat) : q_tok own T := by
  refine ⟨fun x hx => ?_, fun x hx => ?_, fun x hx => ?_⟩
  · have g := List.all_eq_true.mp h1 x hx
    simp only [Bool.and_eq_true, decide_eq_true_eq] at g
    have hw := List.mem_map_of_mem (f := fun x : Nat × Nat × Nat => Cond.fieldLink own x.1 (q_cl x.2.1).1 ((q_cl x.2.1).2.1 x.2.2).2.1 ((q_cl x.2.1).2.1 x.2.2).2.2.1) hx
    rw [h2] at hw
    obtain ⟨i, -, hi⟩ := List.mem_filterMap.mp hw
    exact ⟨g.1.1, g.1.2, q_tbl_of (q_tat_in hi) rfl, g.2⟩
  · have hw := List.mem_map_of_mem (f := fun x : Nat × Int32 => Cond.constant own x.1 x.2) hx
    rw [h3] at hw
    obtain ⟨i, -, hi⟩ := List.mem_filterMap.mp hw
    exact q_tbl_of (q_tat_in hi) rfl
  · have hw := List.mem_map_of_mem (f := fun x : Nat × Int64 => Cond.constantLong own x.1 x.2) hx
    rw [h4] at hw
    obtain ⟨i, -, hi⟩ := List.mem_filterMap.mp hw
    exact q_tbl_of (q_tat_in hi) rfl
section QL
variable {p : Program} {l : Launch} {e : Env} {R : Room} {s : State} {m : MethodId} {args : Array Value} {below : List Frame} {meth : Method} {c : Code} {Q : State → Prop} {D : va_G} {cy : Nat → Nat} {b0 nL mc ms kc ks : Nat} {σ : q_St} {h : q_Hp} {pc : Nat} {lv : List (Nat × Value)} {st : List Value} {own : String} {cc : ByteArray} {cd : q_Cd}
theorem v_aald (C0 : VC p R s m args meth c D cy b0 nL mc ms own cc) (hc : q_cok cc cd) (hi : q_lk cd pc = some .aaload) {a : Nat} {i : Int32} (ht : q_tag σ a = 9 ∨ q_tag σ a = 10) (hin : vp_in i (q_len σ a)) {α : Type} {A B : Option α} {o : α} (hf : (if q_ref σ a i.toNatClampNeg = 0 then A else B) = some o)
    (k0 : q_ref σ a i.toNatClampNeg = 0 → A = some o → V p l e R s m args below meth c Q D cy b0 nL mc ms kc ks σ h (pc + 1) lv (.null :: st)) (k1 : ¬ q_ref σ a i.toNatClampNeg = 0 → B = some o → V p l e R s m args below meth c Q D cy b0 nL mc ms kc ks σ h (pc + 1) lv (.ref (q_ref σ a i.toNatClampNeg) :: st)) : V p l e R s m args below meth c Q D cy b0 nL mc ms kc ks σ h pc lv (.int i :: .ref a :: st) := by
  intro H locs cells slots ls hW hS hl h1 h2
  refine x_aald C0.1 C0.2.1 C0.2.2.2.2.2.1 hW ht hin (q_dec hc hi) ?_
  rcases q_ite hf with ⟨hz, hf⟩ | ⟨hz, hf⟩
  · rw [hz, q_rv_0]
    exact k0 hz hf H locs cells slots ls hW hS hl h1 h2
  · rw [q_rv_n hz]
    exact k1 hz hf H locs cells slots ls hW hS hl h1 h2
theorem v_tabI (C0 : VC p R s m args meth c D cy b0 nL mc ms own cc) {dflt lo hi : Int} {offs : Array Int} {len : Nat} (hd : decode cc pc = .ok (.tableswitch dflt lo hi offs, len)) {x : Int32} {k : Int32} (hx : x = k) (tgt : Nat) (h1 : ¬ k.toInt < lo ∧ ¬ hi < k.toInt) (h2 : (offs[(k.toInt - lo).toNat]?).map (fun off => (pc : Int) + off) = some (tgt : Int)) (kk : V p l e R s m args below meth c Q D cy b0 nL mc ms kc ks σ h tgt lv st) : V p l e R s m args below meth c Q D cy b0 nL mc ms kc ks σ h pc lv (.int x :: st) := by
  subst hx
  obtain ⟨off, ho, ht⟩ := Option.map_eq_some_iff.mp h2
  exact fun H locs cells slots ls hW hS hl g1 g2 => lv_tableIn C0.1 C0.2.1 hd h1.1 h1.2 ho ht (kk H locs cells slots ls hW hS hl g1 g2)
theorem v_tabO (C0 : VC p R s m args meth c D cy b0 nL mc ms own cc) {dflt lo hi : Int} {offs : Array Int} {len : Nat} (hd : decode cc pc = .ok (.tableswitch dflt lo hi offs, len)) {x : Int32} (tgt : Nat) (ht : (pc : Int) + dflt = (tgt : Int)) (hx : ∀ k : Int, lo ≤ k → k ≤ hi → x.toInt = k → False) (kk : V p l e R s m args below meth c Q D cy b0 nL mc ms kc ks σ h tgt lv st) : V p l e R s m args below meth c Q D cy b0 nL mc ms kc ks σ h pc lv (.int x :: st) := by
  have : x.toInt < lo ∨ hi < x.toInt := by
    rcases Int.lt_or_le x.toInt lo with q | q
    · exact Or.inl q
    · rcases Int.lt_or_le hi x.toInt with q2 | q2
      · exact Or.inr q2
      · exact (hx x.toInt q q2 rfl).elim
  exact fun H locs cells slots ls hW hS hl g1 g2 => lv_tableOut C0.1 C0.2.1 hd this ht (kk H locs cells slots ls hW hS hl g1 g2)
def q_asc (ps : Array (Int × Int)) : Bool := (ps.toList.zip (ps.toList.drop 1)).all (fun (a, next) => a.1 < next.1)
theorem v_lkI (C0 : VC p R s m args meth c D cy b0 nL mc ms own cc) {dflt : Int} {ps : Array (Int × Int)} {len : Nat} (hd : decode cc pc = .ok (.lookupswitch dflt ps, len)) {x : Int32} {k : Int32} (hx : x = k) (tgt : Nat) (h1 : q_asc ps = true) (h2 : (pc : Int) + Op.lookupswitch.offset ps.toList dflt k.toInt = (tgt : Int)) (kk : V p l e R s m args below meth c Q D cy b0 nL mc ms kc ks σ h tgt lv st) : V p l e R s m args below meth c Q D cy b0 nL mc ms kc ks σ h pc lv (.int x :: st) := by
  subst hx
  exact fun H locs cells slots ls hW hS hl g1 g2 => lv_lookup C0.1 C0.2.1 hd h1 rfl h2 (kk H locs cells slots ls hW hS hl g1 g2)
theorem v_lkO (C0 : VC p R s m args meth c D cy b0 nL mc ms own cc) {dflt : Int} {ps : Array (Int × Int)} {len : Nat} (hd : decode cc pc = .ok (.lookupswitch dflt ps, len)) {x : Int32} (tgt : Nat) (qs : List Int) (hq : ps.toList.map (fun q => q.1) = qs) (h1 : q_asc ps = true) (h2 : (pc : Int) + dflt = (tgt : Int)) (hx : ∀ k, k ∈ qs → x.toInt = k → False) (kk : V p l e R s m args below meth c Q D cy b0 nL mc ms kc ks σ h tgt lv st) : V p l e R s m args below meth c Q D cy b0 nL mc ms kc ks σ h pc lv (.int x :: st) := by
  have key : ∀ (l : List (Int × Int)) (k : Int), (∀ q ∈ l, q.1 ≠ k) → Op.lookupswitch.offset l dflt k = dflt := by
    intro l k
    induction l with
    | nil => intro _; rfl
    | cons a r ih =>
      intro hh
      obtain ⟨a1, o1⟩ := a
      rw [Op.lookupswitch.offset_cons, if_neg (hh (a1, o1) List.mem_cons_self)]
      exact ih (fun q hq => hh q (List.mem_cons_of_mem _ hq))
  have hoff := key ps.toList x.toInt (fun q hm he => hx q.1 (by rw [← hq]; exact List.mem_map_of_mem hm) he.symm)
  exact fun H locs cells slots ls hW hS hl g1 g2 => lv_lookup C0.1 C0.2.1 hd h1 hoff h2 (kk H locs cells slots ls hW hS hl g1 g2)
theorem v_min (C0 : VC p R s m args meth c D cy b0 nL mc ms own cc) (hc : q_cok cc cd) {idx : Nat} (hi : q_lk cd pc = some (.invokestatic idx)) (hw : Cond.methodLink own idx Lib.Math.min.name ∈ q_tbl ∧ Cond.static Lib.Math.min.name ∈ q_tbl ∧ Cond.initialized "java/lang/Math" ∈ q_tbl ∧ Cond.code Lib.Math.min.name Lib.Math.min.code 2 (some .int) ∈ q_tbl) (hf : 1 ≤ R.frames) (hlo : 21 ≤ R.locals) {rest : List Value} (hr : (rest.map fun v => v.category).sum ≤ 8) {x y : Int32} (kk : V p l e R s m args below meth c Q D cy b0 nL mc ms kc ks σ h (pc + 3) lv (.int (if y < x then y else x) :: rest)) : V p l e R s m args below meth c Q D cy b0 nL mc ms kc ks σ h pc lv (.int y :: .int x :: rest) := by
  obtain ⟨c1, c2, c3, c4, c5, c6, c7, c8, c9, c10⟩ := C0
  intro H locs cells slots ls hW hS hl h1 h2
  exact va_mmin c1 c2 (by rw [c3, hl.1]) c4 (c5 _ hw.1) (c5 _ hw.2.1) (c5 _ hw.2.2.1) (c5 _ hw.2.2.2) hf (by omega) (by omega) (by omega) (q_dec hc hi) (kk H locs cells slots ls hW hS hl h1 h2)
end QL
