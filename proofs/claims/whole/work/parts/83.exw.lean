/-! walks: fail, caught, toss, element -/
def q_Qg (D : va_G) (cy : Nat → Nat) (b0 : Nat) (r : Option Value) (σ : q_St) (h : q_Hp) : Array Value → State → Outcome → State → Prop := fun _ st o t => o = .returned r ∧ (∃ n, q_sz σ ≤ n ∧ q_HW D cy b0 (q_gp σ n) h t.heap) ∧ va_F (fun q => b0 ≤ q) st t
theorem q_Qg_of {D : va_G} {cy : Nat → Nat} {b0 : Nat} {r : Option Value} {σ : q_St} {h : q_Hp} {n : Nat} (hn : q_sz σ ≤ n) (a : Array Value) : ∀ (st : State) (o : Outcome) (t : State), q_Qc D cy b0 r (q_gp σ n) h a st o t → q_Qg D cy b0 r σ h a st o t := fun _ _ _ q => ⟨q.1, ⟨n, hn, q.2.1⟩, q.2.2⟩
noncomputable def fX3_fail (σ : q_St) (h : q_Hp) (a0 : Nat) : Option Nat := (if q_int h a0 1 = 0 then some 0 else (fX3_isMixed σ h (q_int h a0 0)).bind fun r1 => (if r1 = 0 then (if q_int h a0 0 = (4 : Int32) then some 3 else (fX3_isBlack σ h (q_int h a0 0)).bind fun r2 => (if r2 = 0 then some 1 else some 2)) else some 0))
def cdX3_fail : q_Cd := [(0, .aload_n 0), (1, .getfield 22), (4, .ifCond .eq 13), (7, .aload_n 0), (8, .getfield 18), (11, .invokestatic 15), (14, .ifCond .eq 4), (17, .return_), (18, .aload_n 0), (19, .getfield 18), (22, .iconst 4), (23, .if_icmp .ne 13), (26, .new 40), (29, .dup), (30, .ldc 42), (32, .invokespecial 44), (35, .athrow), (36, .aload_n 0), (37, .getfield 18), (40, .invokestatic 9), (43, .ifCond .eq 13), (46, .new 47), (49, .dup), (50, .ldc 49), (52, .invokespecial 51), (55, .athrow), (56, .new 52), (59, .dup), (60, .ldc 54), (62, .invokespecial 56), (65, .athrow)]
set_option maxRecDepth 100000 in
theorem cokX3_fail : q_cok cX3_fail cdX3_fail := by unfold q_cok; decide +kernel
def q_QF (D : va_G) (cy : Nat → Nat) (b0 : Nat) (r : Nat) (σ : q_St) (h : q_Hp) : Array Value → State → Outcome → State → Prop := fun a st o t => r = 0 ∧ q_Qc D cy b0 none σ h a st o t
def q_XF (D : va_G) (cy : Nat → Nat) (b0 : Nat) (r : Nat) (σ : q_St) (h : q_Hp) : String → State → State → Prop := fun E st t => (r = 1 ∧ q_XC D cy b0 σ h q_IA E st t) ∨ (r = 2 ∧ q_XC D cy b0 σ h q_IS E st t) ∨ (r = 3 ∧ q_XC D cy b0 σ h q_UO E st t)
set_option maxRecDepth 100000 in
set_option maxHeartbeats 4000000 in
theorem ctX3_fail {l : Launch} (hl : l.stackTraces = false) {D : va_G} {cy : Nat → Nat} {b0 : Nat} {σ : q_St} {h : q_Hp} (a0 : Nat) {r : Nat} (ta0 : q_tag σ a0 = 4) (hf : fX3_fail σ h a0 = some r) : vx_Met l yX3_fail (Cond.code yX3_fail cX3_fail 1 none :: q_tbl) { frames := 6, cells := 1, slots := 6, locals := 82 } (q_PcX D cy b0 σ h [.ref a0]) (q_QF D cy b0 r σ h) (q_XF D cy b0 r σ h) 1 6 (fun q => b0 ≤ q) := by
  unfold fX3_fail at hf
  refine q_enterX (by decide) (Nat.le_of_ble_eq_true rfl) ?_
  intro p e s m args below meth c C0 hr hlk hex hX
  replace C0 : VC p { frames := 6, cells := 1, slots := 6, locals := 82 } s m args meth c D cy b0 1 1 6 RX3 cX3_fail := C0
  refine v_run C0 tbX3 cokX3_fail (pc' := 4) (lv' := [(0, .ref a0)]) (st' := [.int (q_int h a0 1)]) (h' := h) 2 rfl ⟨ta0, trivial⟩ ?_
  refine v_if_eq C0 cokX3_fail rfl 17 (by decide) hf (fun _ hf => ?_) (fun _ hf => ?_)
  · obtain rfl := Option.some.inj hf
    exact v_xret (fun _ _ _ q => ⟨rfl, q⟩) (v_vret C0 cokX3_fail hr hlk rfl)
  · refine v_run C0 tbX3 cokX3_fail (pc' := 11) (lv' := [(0, .ref a0)]) (st' := [.int (q_int h a0 0)]) (h' := h) 2 rfl ⟨ta0, trivial⟩ ?_
    obtain ⟨r1, e1, hf⟩ := q_bd hf
    refine v_callS C0 cokX3_fail rfl (rest := []) (ctX3_isMixed _ e1) calX3_isMixed lkX3_15 inX3_isMixed dnX3_isMixed rfl rfl ⟨by decide, by decide⟩ (Nat.le_of_ble_eq_true rfl) (Nat.le_refl _) (Nat.le_refl _) ?_
    refine v_if_eq C0 cokX3_fail rfl 18 (by decide) hf (fun _ hf => ?_) (fun _ hf => ?_)
    · refine v_run C0 tbX3 cokX3_fail (pc' := 23) (lv' := [(0, .ref a0)]) (st' := [.int (4 : Int32), .int (q_int h a0 0)]) (h' := h) 3 rfl ⟨ta0, trivial⟩ ?_
      refine v_icmp_ne C0 cokX3_fail rfl 36 (by decide) hf (fun _ hf => ?_) (fun _ hf => ?_)
      · obtain rfl := Option.some.inj hf
        exact v_throw C0 hl hX cokX3_fail rfl rfl rfl rfl rfl (cls := q_UO) (by decide +kernel) (q_tb4 8 rfl rfl) (q_tb1 15 rfl rfl) (text := "a silk one has failed") (by decide) q_at3UO.1 q_at3UO.2.1 q_at3UO.2.2 hex hlk (by decide) (by decide) (Nat.le_refl _) (Nat.le_refl _) (fun E st t q => Or.inr (Or.inr ⟨rfl, q⟩))
      · refine v_run C0 tbX3 cokX3_fail (pc' := 40) (lv' := [(0, .ref a0)]) (st' := [.int (q_int h a0 0)]) (h' := h) 2 rfl ⟨ta0, trivial⟩ ?_
        obtain ⟨r2, e2, hf⟩ := q_bd hf
        refine v_callS C0 cokX3_fail rfl (rest := []) (ctX3_isBlack _ e2) calX3_isBlack lkX3_9 inX3_isBlack dnX3_isBlack rfl rfl ⟨by decide, by decide⟩ (Nat.le_of_ble_eq_true rfl) (Nat.le_refl _) (Nat.le_refl _) ?_
        refine v_if_eq C0 cokX3_fail rfl 56 (by decide) hf (fun _ hf => ?_) (fun _ hf => ?_)
        · obtain rfl := Option.some.inj hf
          exact v_throw C0 hl hX cokX3_fail rfl rfl rfl rfl rfl (cls := q_IA) (by decide +kernel) (q_tb4 92 rfl rfl) (q_tb1 12 rfl rfl) (text := "a suit has failed") (by decide) q_at3IA.1 q_at3IA.2.1 q_at3IA.2.2 hex hlk (by decide) (by decide) (Nat.le_refl _) (Nat.le_refl _) (fun E st t q => Or.inl ⟨rfl, q⟩)
        · obtain rfl := Option.some.inj hf
          exact v_throw C0 hl hX cokX3_fail rfl rfl rfl rfl rfl (cls := q_IS) (by decide +kernel) (q_tb4 76 rfl rfl) (q_tb1 13 rfl rfl) (text := "a black one has failed") (by decide) q_at3IS.1 q_at3IS.2.1 q_at3IS.2.2 hex hlk (by decide) (by decide) (Nat.le_refl _) (Nat.le_refl _) (fun E st t q => Or.inr (Or.inl ⟨rfl, q⟩))
    · obtain rfl := Option.some.inj hf
      exact v_xret (fun _ _ _ q => ⟨rfl, q⟩) (v_vret C0 cokX3_fail hr hlk rfl)
-- caught
noncomputable def fX4_caught (σ : q_St) (h : q_Hp) (a0 : Nat) : Option Int32 := (fX3_fail σ h a0).bind fun r => (if r = 1 then some (q_int h a0 1) else if r = 2 then some ((100 : Int32) + q_int h a0 1) else if r = 3 then some ((200 : Int32) + q_int h a0 6) else some (-15 : Int32))
def cdX4_caught : q_Cd := [(0, .aload_n 0), (1, .invokevirtual 399), (4, .bipush (-15)), (6, .ireturn), (7, .astore_n 1), (8, .aload_n 0), (9, .getfield 99), (12, .ireturn), (13, .astore_n 1), (14, .bipush 100), (16, .aload_n 0), (17, .getfield 99), (20, .iadd), (21, .ireturn), (22, .astore_n 1), (23, .sipush 200), (26, .aload_n 0), (27, .getfield 362), (30, .iadd), (31, .ireturn)]
set_option maxRecDepth 100000 in
theorem cokX4_caught : q_cok cX4_caught cdX4_caught := by unfold q_cok; decide +kernel
theorem q_at4c : Cond.classLink RX4 339 q_IA ∈ q_tbl ∧ Cond.classLink RX4 346 q_IS ∈ q_tbl ∧ Cond.classLink RX4 402 q_UO ∈ q_tbl := ⟨q_tb4 1 rfl rfl, q_tb4 2 rfl rfl, q_tb4 3 rfl rfl⟩
set_option maxRecDepth 100000 in
set_option maxHeartbeats 4000000 in
theorem ctX4_caught {l : Launch} (hl : l.stackTraces = false) {D : va_G} {cy : Nat → Nat} {b0 : Nat} {σ : q_St} {h : q_Hp} (a0 : Nat) {r : Int32} (ta0 : q_tag σ a0 = 4) (hf : fX4_caught σ h a0 = some r) : vx_Met l yX4_caught (Cond.codeWith yX4_caught cX4_caught 2 (some .int) hhX4_caught :: q_tbl) { frames := 7, cells := 1, slots := 6, locals := 102 } (q_PcX D cy b0 σ h [.ref a0]) (q_Qg D cy b0 (some (.int r)) σ h) (fun _ _ _ => False) 1 6 (fun q => b0 ≤ q) := by
  unfold fX4_caught at hf
  obtain ⟨r1, e1, hf⟩ := q_bd hf
  refine q_enterH (by decide) (Nat.le_of_ble_eq_true rfl) ?_
  intro p e s m args below meth c C0 hr hlk hex hX
  replace C0 : VC p { frames := 7, cells := 1, slots := 6, locals := 102 } s m args meth c D cy b0 2 1 6 RX4 cX4_caught := C0
  refine v_run C0 tbX4 cokX4_caught (pc' := 1) (lv' := [(0, .ref a0)]) (st' := [.ref a0]) (h' := h) 1 rfl trivial ?_
  refine v_callVX C0 hX cokX4_caught rfl (rest := []) (as := []) (kc' := 0) (ks' := 0) (ctX3_fail hl a0 ta0 e1) calX3_fail lkX4_399 inX3_fail dnX3_fail (ci := 3) ⟨rfl, by decide⟩ ta0 rfl rfl ⟨by decide, by decide⟩ (Nat.le_of_ble_eq_true rfl) (Nat.le_refl _) (Nat.le_refl _) (fun v st₀ t hq => ?_) (fun E st₀ t hq => ?_)
  · obtain ⟨rfl, hv, hW, hF⟩ := hq
    cases hv
    refine ⟨σ, h, hW, hF, ?_⟩
    obtain rfl := Option.some.inj hf
    refine v_run C0 tbX4 cokX4_caught (pc' := 6) (lv' := [(0, .ref a0)]) (st' := [.int (-15 : Int32)]) (h' := h) 1 rfl trivial ?_
    exact v_xret (q_Qg_of (n := q_sz σ) (Nat.le_refl _) _) (v_iret C0 cokX4_caught hr hlk rfl)
  · rcases hq with ⟨rfl, rfl, ⟨n, hn, hW⟩, hF⟩ | ⟨rfl, rfl, ⟨n, hn, hW⟩, hF⟩ | ⟨rfl, rfl, ⟨n, hn, hW⟩, hF⟩
    · refine ⟨q_gp σ n, h, hW, hF, ?_⟩
      obtain rfl := Option.some.inj hf
      refine v_catch (name := q_IA) C0 [] ⟨0, 6, 7, 339⟩ _ hex (by intro z hz; cases hz) (by decide) (by decide) q_at4c.1 (va_Nw.use rfl (hX.2.2.2.1 q_IA (by decide))) (fun q => ?_)
      refine v_run C0 tbX4 cokX4_caught (pc' := 12) (lv' := [(1, .ref q), (0, .ref a0)]) (st' := [.int (q_int h a0 1)]) (h' := h) 3 rfl ⟨ta0, trivial⟩ ?_
      exact v_xret (q_Qg_of hn _) (v_iret C0 cokX4_caught hr hlk rfl)
    · refine ⟨q_gp σ n, h, hW, hF, ?_⟩
      obtain rfl := Option.some.inj hf
      refine v_catch (name := q_IS) C0 [⟨0, 6, 7, 339⟩] ⟨0, 6, 13, 346⟩ _ hex (fun z hz => ?_) (by decide) (by decide) q_at4c.2.1 (va_Nw.use rfl (hX.2.2.2.1 q_IS (by decide))) (fun q => ?_)
      · obtain rfl := List.mem_singleton.mp hz
        exact Or.inr ⟨by decide, q_IA, q_at4c.1, hX.2.2.2.2 (q_IS, q_IA) (by decide)⟩
      refine v_run C0 tbX4 cokX4_caught (pc' := 21) (lv' := [(1, .ref q), (0, .ref a0)]) (st' := [.int ((100 : Int32) + q_int h a0 1)]) (h' := h) 5 rfl ⟨ta0, trivial⟩ ?_
      exact v_xret (q_Qg_of hn _) (v_iret C0 cokX4_caught hr hlk rfl)
    · refine ⟨q_gp σ n, h, hW, hF, ?_⟩
      obtain rfl := Option.some.inj hf
      refine v_catch (name := q_UO) C0 [⟨0, 6, 7, 339⟩, ⟨0, 6, 13, 346⟩] ⟨0, 6, 22, 402⟩ _ hex (fun z hz => ?_) (by decide) (by decide) q_at4c.2.2 (va_Nw.use rfl (hX.2.2.2.1 q_UO (by decide))) (fun q => ?_)
      · rcases List.mem_cons.mp hz with rfl | hz
        · exact Or.inr ⟨by decide, q_IA, q_at4c.1, hX.2.2.2.2 (q_UO, q_IA) (by decide)⟩
        · obtain rfl := List.mem_singleton.mp hz
          exact Or.inr ⟨by decide, q_IS, q_at4c.2.1, hX.2.2.2.2 (q_UO, q_IS) (by decide)⟩
      refine v_run C0 tbX4 cokX4_caught (pc' := 31) (lv' := [(1, .ref q), (0, .ref a0)]) (st' := [.int ((200 : Int32) + q_int h a0 6)]) (h' := h) 5 rfl ⟨ta0, trivial⟩ ?_
      exact v_xret (q_Qg_of hn _) (v_iret C0 cokX4_caught hr hlk rfl)
