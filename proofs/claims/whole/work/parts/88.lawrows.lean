/-! rows of the law's own code -/
theorem lg_cmp_self (v : Int64) : lg_cmp v v = 0 := by
  unfold lg_cmp
  rw [if_neg (Int64.lt_irrefl), if_pos rfl]
/-- the script, at the place i: its ints are A -/
def lc_S (s : State) (b0 b L : Nat) (xs : Nat → Int32) (i : Int32) (A : Int → Int32) : Prop := va_X b L xs s s.heap ∧ b < s.heap.size ∧ b < b0 ∧ ∀ k : Int, 0 ≤ k → k ≤ 5 → vp_in (i + q_c k) L ∧ xs (i + q_c k).toNatClampNeg = A k
abbrev lc_lv (b x : Nat) (i : Int32) : List (Nat × Value) := [(4, .int i), (3, .ref (x + 115)), (2, .ref (x + 88)), (1, .ref x), (0, .ref b)]
theorem q_run_s {nL : Nat} {T : q_Tb} {cd : q_Cd} {σ : q_St} {n pc : Nat} {lv : List (Nat × Value)} {st : List Value} {h : q_Hp} {i : Instr} {r : q_Cf} (h1 : q_lk cd pc = some i) (h2 : q_ex nL T σ i pc lv st h = some (r, none)) : q_run nL T cd σ (n + 1) pc lv st h = q_run nL T cd σ n r.1 r.2.1 r.2.2.1 r.2.2.2 := by
  rw [q_run, h1]
  dsimp only
  rw [h2]
section LW
variable {p : Program} {l : Launch} {e : Env} {R : Room} {s : State} {m : MethodId} {args : Array Value} {below : List Frame} {meth : Method} {c : Code} {Q : State → Prop} {D : va_G} {cy : Nat → Nat} {b0 nL mc ms kc ks : Nat} {σ : q_St} {h : q_Hp} {pc : Nat} {lv : List (Nat × Value)} {st : List Value} {cc : ByteArray} {cd : q_Cd} {b L : Nat} {xs : Nat → Int32} {i : Int32} {A : Int → Int32}
theorem v_arg (C0 : VC p R s m args meth c D cy b0 nL mc ms RL cc) (S : lc_S s b0 b L xs i A) (hc : q_cok cc cd) {k : Int} {pc' : Nat} (hp : pc + 6 = pc') (i0 : q_lk cd pc = some (.aload_n 0)) (i1 : q_lk cd (pc + 1) = some (.iload 4)) (i3 : q_lk cd (pc + 3) = some (.iconst k)) (i4 : q_lk cd (pc + 4) = some .iadd) (i5 : q_lk cd (pc + 5) = some .iaload) (l0 : q_lk lv 0 = some (.ref b)) (l4 : q_lk lv 4 = some (.int i)) (hk : 0 ≤ k ∧ k ≤ 5) (kk : V p l e R s m args below meth c Q D cy b0 nL mc ms kc ks σ h pc' lv (.int (A k) :: st)) : V p l e R s m args below meth c Q D cy b0 nL mc ms kc ks σ h pc lv st := by
  subst hp
  refine v_run C0 tbL hc (pc' := pc + 5) (lv' := lv) (st' := .int (i + q_c k) :: .ref b :: st) (h' := h) (G := True) 4 ?_ trivial ?_
  · refine (q_run_s (r := (pc + 1, lv, .ref b :: st, h)) i0 (by show q_ld (pc + 1) lv h st 0 2 = _; unfold q_ld; rw [l0]; rfl)).trans ?_
    refine (q_run_s (r := (pc + 3, lv, .int i :: .ref b :: st, h)) i1 (by show q_ld (pc + 3) lv h (.ref b :: st) 4 0 = _; unfold q_ld; rw [l4]; rfl)).trans ?_
    refine (q_run_s (r := (pc + 4, lv, .int (q_c k) :: .int i :: .ref b :: st, h)) i3 rfl).trans ?_
    refine (q_run_s (r := (pc + 5, lv, .int (i + q_c k) :: .ref b :: st, h)) i4 rfl).trans ?_
    rfl
  · intro H locs cells slots ls hW hS hl h1 h2
    have g := S.2.2.2 k hk.1 hk.2
    refine va_sld C0.1 C0.2.1 S.1 S.2.1 (Nat.not_le.mpr S.2.2.1) hS g.1 (q_dec hc i5) ?_
    rw [g.2]
    exact kk H locs cells slots ls hW hS hl h1 h2
theorem v_arg0 (C0 : VC p R s m args meth c D cy b0 nL mc ms RL cc) (S : lc_S s b0 b L xs i A) (hc : q_cok cc cd) (i5 : q_lk cd pc = some .iaload) (kk : V p l e R s m args below meth c Q D cy b0 nL mc ms kc ks σ h (pc + 1) lv (.int (A 0) :: st)) : V p l e R s m args below meth c Q D cy b0 nL mc ms kc ks σ h pc lv (.int i :: .ref b :: st) := by
  intro H locs cells slots ls hW hS hl h1 h2
  have g := S.2.2.2 0 (by decide) (by decide)
  have e0 : i + q_c 0 = i := by
    show i + (0 : Int32) = i
    simp
  rw [e0] at g
  refine va_sld C0.1 C0.2.1 S.1 S.2.1 (Nat.not_le.mpr S.2.2.1) hS g.1 (q_dec hc i5) ?_
  rw [g.2]
  exact kk H locs cells slots ls hW hS hl h1 h2
theorem v_slen (C0 : VC p R s m args meth c D cy b0 nL mc ms RL cc) (hX : va_X b L xs s s.heap) (hbl : b < s.heap.size) (hb0 : b < b0) (hc : q_cok cc cd) (i5 : q_lk cd pc = some .arraylength) (kk : V p l e R s m args below meth c Q D cy b0 nL mc ms kc ks σ h (pc + 1) lv (.int (Int32.ofNat L) :: st)) : V p l e R s m args below meth c Q D cy b0 nL mc ms kc ks σ h pc lv (.ref b :: st) := by
  intro H locs cells slots ls hW hS hl h1 h2
  exact va_slen C0.1 C0.2.1 hX hbl (Nat.not_le.mpr hb0) hS (q_dec hc i5) (kk H locs cells slots ls hW hS hl h1 h2)
theorem v_same (C0 : VC p R s m args meth c D cy b0 nL mc ms RL cc) (hc : q_cok cc cd) {off : Int} (hi : q_lk cd pc = some (.if_icmp .eq off)) (tgt : Nat) (ht : (pc : Int) + off = (tgt : Int)) {x : Int32} (kk : V p l e R s m args below meth c Q D cy b0 nL mc ms kc ks σ h tgt lv st) : V p l e R s m args below meth c Q D cy b0 nL mc ms kc ks σ h pc lv (.int x :: .int x :: st) :=
  v_icmp_eq C0 hc hi tgt ht (o := ()) (A := some ()) (B := none) (if_pos rfl) (fun _ _ => kk) (fun n _ => absurd rfl n)
theorem v_sameL (C0 : VC p R s m args meth c D cy b0 nL mc ms RL cc) (hc : q_cok cc cd) {off : Int} (h0 : q_lk cd pc = some .lcmp) (hi : q_lk cd (pc + 1) = some (.ifCond .eq off)) (tgt : Nat) (ht : ((pc + 1 : Nat) : Int) + off = (tgt : Int)) {x : Int64} (kk : V p l e R s m args below meth c Q D cy b0 nL mc ms kc ks σ h tgt lv st) : V p l e R s m args below meth c Q D cy b0 nL mc ms kc ks σ h pc lv (.long x :: .long x :: st) := by
  refine v_run C0 tbL hc (pc' := pc + 1) (lv' := lv) (st' := .int (lg_cmp x x) :: st) (h' := h) (G := True) 1 ?_ trivial ?_
  · exact q_run_s (r := (pc + 1, lv, .int (lg_cmp x x) :: st, h)) h0 rfl
  · exact v_if_eq C0 hc hi tgt ht (o := ()) (A := some ()) (B := none) (if_pos (lg_cmp_self x)) (fun _ _ => kk) (fun n _ => absurd (lg_cmp_self x) n)
end LW
theorem I_t4 {σ : q_St} {h : q_Hp} {x : Nat} (I : k_Inv σ h x) : q_tag σ x = 5 := by
  obtain ⟨A, B, z, p, zi, y, c, -, C, -⟩ := I
  exact xt0 C.1
theorem I_t5 {σ : q_St} {h : q_Hp} {x : Nat} (I : k_Inv σ h x) : q_tag σ (x + 88) = 6 := by
  obtain ⟨A, B, z, p, zi, y, c, -, -, M, -⟩ := I
  exact mt0 M.1
theorem I_t8 {σ : q_St} {h : q_Hp} {x : Nat} (I : k_Inv σ h x) : q_tag σ (x + 115) = 8 ∧ q_len σ (x + 115) = 1 := by
  obtain ⟨A, B, z, p, zi, y, c, -, -, -, E, -⟩ := I
  exact E
