/-! walks: toss, element, the law's element -/
noncomputable def fX4_toss (σ : q_St) (h : q_Hp) (a0 : Nat) (x1 : Int32) : Option Int32 := ((fX4_isShelf σ h x1).bind fun r1 => (if r1 = 0 then some (-1 : Int32) else ((fX4_shelfAt σ h a0 x1).bind fun r2 => q_gu ((q_tag σ r2 = 2)) (((fX1_refusal σ h r2 (1 : Int32)).bind fun r4 => (if r4 = 0 then q_gu ((q_tag σ (q_ref σ r2 2) = 4)) (fX4_caught σ h (q_ref σ r2 2)) else some r4))))))
def cdX4_toss : q_Cd := [(0, .iload_n 1), (1, .invokestatic 67), (4, .ifCond .ne 5), (7, .iconst (-1)), (8, .ireturn), (9, .aload_n 0), (10, .iload_n 1), (11, .invokevirtual 71), (14, .astore_n 2), (15, .aload_n 2), (16, .iconst 1), (17, .invokevirtual 152), (20, .istore_n 3), (21, .iload_n 3), (22, .ifCond .eq 7), (25, .iload_n 3), (26, .goto 10), (29, .aload_n 2), (30, .getfield 156), (33, .invokestatic 365), (36, .ireturn)]
set_option maxRecDepth 100000 in
theorem cokX4_toss : q_cok cX4_toss cdX4_toss := by unfold q_cok; decide +kernel
set_option maxRecDepth 100000 in
set_option maxHeartbeats 4000000 in
theorem ctX4_toss {l : Launch} (hl : l.stackTraces = false) {D : va_G} {cy : Nat → Nat} {b0 : Nat} {σ : q_St} {h : q_Hp} (a0 : Nat) (x1 : Int32) {r : Int32} (ta0 : q_tag σ a0 = 5) (hf : fX4_toss σ h a0 x1 = some r) : vx_Met l yX4_toss (Cond.code yX4_toss cX4_toss 4 (some .int) :: q_tbl) { frames := 8, cells := 1, slots := 6, locals := 130 } (q_PcX D cy b0 σ h [.ref a0, .int x1]) (q_Qg D cy b0 (some (.int r)) σ h) (fun _ _ _ => False) 1 6 (fun q => b0 ≤ q) := by
  unfold fX4_toss at hf
  refine q_enterX (by decide) (Nat.le_of_ble_eq_true rfl) ?_
  intro p e s m args below meth c C0 hr hlk hex hX
  replace C0 : VC p { frames := 8, cells := 1, slots := 6, locals := 130 } s m args meth c D cy b0 4 1 6 RX4 cX4_toss := C0
  refine v_run C0 tbX4 cokX4_toss (pc' := 1) (lv' := [(0, .ref a0), (1, .int x1)]) (st' := [.int x1]) (h' := h) 1 rfl trivial ?_
  obtain ⟨r1, e1, hf⟩ := q_bd hf
  refine v_callS C0 cokX4_toss rfl (rest := []) (ctX4_isShelf x1 e1) calX4_isShelf lkX4_67 inX4_isShelf dnX4_isShelf rfl rfl ⟨by decide, by decide⟩ (Nat.le_of_ble_eq_true rfl) (Nat.le_refl _) (Nat.le_refl _) ?_
  refine v_if_ne C0 cokX4_toss rfl 9 (by decide) hf (fun _ hf => ?_) (fun _ hf => ?_)
  · refine v_run C0 tbX4 cokX4_toss (pc' := 8) (lv' := [(0, .ref a0), (1, .int x1)]) (st' := [.int (-1 : Int32)]) (h' := h) 1 rfl trivial ?_
    obtain rfl := Option.some.inj hf
    exact v_xret (q_Qg_of (n := q_sz σ) (Nat.le_refl _) _) (v_iret C0 cokX4_toss hr hlk rfl)
  · refine v_run C0 tbX4 cokX4_toss (pc' := 11) (lv' := [(0, .ref a0), (1, .int x1)]) (st' := [.int x1, .ref a0]) (h' := h) 2 rfl trivial ?_
    obtain ⟨r2, e2, hf⟩ := q_bd hf
    refine v_callV C0 cokX4_toss rfl (rest := []) (ctX4_shelfAt a0 x1 ta0 e2) calX4_shelfAt lkX4_71 inX4_shelfAt dnX4_shelfAt (ci := 4) ⟨rfl, by decide⟩ ta0 rfl rfl ⟨by decide, by decide⟩ (Nat.le_of_ble_eq_true rfl) (Nat.le_refl _) (Nat.le_refl _) ?_
    refine v_run C0 tbX4 cokX4_toss (pc' := 17) (lv' := [(2, .ref r2), (0, .ref a0), (1, .int x1)]) (st' := [.int (1 : Int32), .ref r2]) (h' := h) 3 rfl trivial ?_
    obtain ⟨g3, hf⟩ := q_gu_o hf
    obtain ⟨r4, e4, hf⟩ := q_bd hf
    refine v_callV C0 cokX4_toss rfl (rest := []) (ctX1_refusal r2 (1 : Int32) g3 e4) calX1_refusal lkX4_152 inX1_refusal dnX1_refusal (ci := 1) ⟨rfl, by decide⟩ g3 rfl rfl ⟨by decide, by decide⟩ (Nat.le_of_ble_eq_true rfl) (Nat.le_refl _) (Nat.le_refl _) ?_
    refine v_run C0 tbX4 cokX4_toss (pc' := 22) (lv' := [(3, .int r4), (2, .ref r2), (0, .ref a0), (1, .int x1)]) (st' := [.int r4]) (h' := h) 2 rfl trivial ?_
    refine v_if_eq C0 cokX4_toss rfl 29 (by decide) hf (fun _ hf => ?_) (fun _ hf => ?_)
    · obtain ⟨g5, hf⟩ := q_gu_o hf
      refine v_run C0 tbX4 cokX4_toss (pc' := 33) (lv' := [(3, .int r4), (2, .ref r2), (0, .ref a0), (1, .int x1)]) (st' := [.ref (q_ref σ r2 2)]) (h' := h) 2 rfl ⟨⟨g3, q_tn g5⟩, trivial⟩ ?_
      refine v_callSX C0 hX cokX4_toss rfl (rest := []) (as := [.ref (q_ref σ r2 2)]) (kc' := 0) (ks' := 0) (ctX4_caught hl (q_ref σ r2 2) g5 hf) calX4_caught lkX4_365 inX4_caught dnX4_caught rfl rfl ⟨by decide, by decide⟩ (Nat.le_of_ble_eq_true rfl) (Nat.le_refl _) (Nat.le_refl _) (fun v st₀ t hq => ?_) (fun E st₀ t hq => hq.elim)
      obtain ⟨hv, ⟨n, hn, hW⟩, hF⟩ := hq
      cases hv
      exact ⟨q_gp σ n, h, hW, hF, v_xret (q_Qg_of hn _) (v_iret C0 cokX4_toss hr hlk rfl)⟩
    · refine v_run C0 tbX4 cokX4_toss (pc' := 36) (lv' := [(3, .int r4), (2, .ref r2), (0, .ref a0), (1, .int x1)]) (st' := [.int r4]) (h' := h) 2 rfl trivial ?_
      obtain rfl := Option.some.inj hf
      exact v_xret (q_Qg_of (n := q_sz σ) (Nat.le_refl _) _) (v_iret C0 cokX4_toss hr hlk rfl)
-- element
noncomputable def fX4_element (σ : q_St) (h : q_Hp) (a0 : Nat) (x1 x2 : Int32) : Option (Nat × Int64) := (fX4_isShelf σ h x1).bind fun r1 => (if r1 = 0 then some (1, 0) else (fX4_shelfAt σ h a0 x1).bind fun r2 => q_gu (q_tag σ r2 = 2) (if q_int h r2 1 = (2 : Int32) then (fX4_isIn σ h x2 (0 : Int32) (q_int h r2 4 - (1 : Int32))).bind fun r3 => (if r3 = 0 then some (2, 0) else q_gu (q_tag σ (q_ref σ r2 0) = 7) ((fX4_at σ h (q_ref σ r2 0) x2).bind fun r4 => some (0, r4.toInt64))) else some (2, 0)))
def cdX4_element : q_Cd := [(0, .iload_n 1), (1, .invokestatic 67), (4, .ifCond .ne 14), (7, .new 339), (10, .dup), (11, .ldc_w 341), (14, .invokespecial 343), (17, .athrow), (18, .aload_n 0), (19, .iload_n 1), (20, .invokevirtual 71), (23, .astore_n 3), (24, .aload_n 3), (25, .getfield 75), (28, .iconst 2), (29, .if_icmp .eq 14), (32, .new 346), (35, .dup), (36, .ldc_w 348), (39, .invokespecial 350), (42, .athrow), (43, .iload_n 2), (44, .iconst 0), (45, .aload_n 3), (46, .getfield 292), (49, .iconst 1), (50, .isub), (51, .invokestatic 148), (54, .ifCond .ne 14), (57, .new 346), (60, .dup), (61, .ldc_w 351), (64, .invokespecial 350), (67, .athrow), (68, .aload_n 3), (69, .getfield 295), (72, .iload_n 2), (73, .invokestatic 105), (76, .i2l), (77, .lreturn)]
set_option maxRecDepth 100000 in
theorem cokX4_element : q_cok cX4_element cdX4_element := by unfold q_cok; decide +kernel
def q_QE (D : va_G) (cy : Nat → Nat) (b0 : Nat) (r : Nat × Int64) (σ : q_St) (h : q_Hp) : Array Value → State → Outcome → State → Prop := fun a st o t => r.1 = 0 ∧ q_Qc D cy b0 (some (.long r.2)) σ h a st o t
def q_XE (D : va_G) (cy : Nat → Nat) (b0 : Nat) (r : Nat × Int64) (σ : q_St) (h : q_Hp) : String → State → State → Prop := fun E st t => (r.1 = 1 ∧ q_XC D cy b0 σ h q_IA E st t) ∨ (r.1 = 2 ∧ q_XC D cy b0 σ h q_IS E st t)
set_option maxRecDepth 100000 in
set_option maxHeartbeats 4000000 in
theorem ctX4_element {l : Launch} (hl : l.stackTraces = false) {D : va_G} {cy : Nat → Nat} {b0 : Nat} {σ : q_St} {h : q_Hp} (a0 : Nat) (x1 x2 : Int32) {r : Nat × Int64} (ta0 : q_tag σ a0 = 5) (hf : fX4_element σ h a0 x1 x2 = some r) : vx_Met l yX4_element (Cond.code yX4_element cX4_element 4 (some .long) :: q_tbl) { frames := 6, cells := 1, slots := 6, locals := 82 } (q_PcX D cy b0 σ h [.ref a0, .int x1, .int x2]) (q_QE D cy b0 r σ h) (q_XE D cy b0 r σ h) 1 6 (fun q => b0 ≤ q) := by
  unfold fX4_element at hf
  refine q_enterX (by decide) (Nat.le_of_ble_eq_true rfl) ?_
  intro p e s m args below meth c C0 hr hlk hex hX
  replace C0 : VC p { frames := 6, cells := 1, slots := 6, locals := 82 } s m args meth c D cy b0 4 1 6 RX4 cX4_element := C0
  refine v_run C0 tbX4 cokX4_element (pc' := 1) (lv' := [(0, .ref a0), (1, .int x1), (2, .int x2)]) (st' := [.int x1]) (h' := h) 1 rfl trivial ?_
  obtain ⟨r1, e1, hf⟩ := q_bd hf
  refine v_callS C0 cokX4_element rfl (rest := []) (ctX4_isShelf x1 e1) calX4_isShelf lkX4_67 inX4_isShelf dnX4_isShelf rfl rfl ⟨by decide, by decide⟩ (Nat.le_of_ble_eq_true rfl) (Nat.le_refl _) (Nat.le_refl _) ?_
  refine v_if_ne C0 cokX4_element rfl 18 (by decide) hf (fun _ hf => ?_) (fun _ hf => ?_)
  · obtain rfl := Option.some.inj hf
    exact v_throwW C0 hl hX cokX4_element rfl rfl rfl rfl rfl (cls := q_IA) (by decide +kernel) q_at4c.1 (q_tb1 12 rfl rfl) (text := "no such shelf") (by decide) q_at4IA.1 q_at4IA.2.1 q_at4IA.2.2 hex hlk (by decide) (by decide) (Nat.le_refl _) (Nat.le_refl _) (fun E st t q => Or.inl ⟨rfl, q⟩)
  · refine v_run C0 tbX4 cokX4_element (pc' := 20) (lv' := [(0, .ref a0), (1, .int x1), (2, .int x2)]) (st' := [.int x1, .ref a0]) (h' := h) 2 rfl trivial ?_
    obtain ⟨r2, e2, hf⟩ := q_bd hf
    refine v_callV C0 cokX4_element rfl (rest := []) (ctX4_shelfAt a0 x1 ta0 e2) calX4_shelfAt lkX4_71 inX4_shelfAt dnX4_shelfAt (ci := 4) ⟨rfl, by decide⟩ ta0 rfl rfl ⟨by decide, by decide⟩ (Nat.le_of_ble_eq_true rfl) (Nat.le_refl _) (Nat.le_refl _) ?_
    obtain ⟨g3, hf⟩ := q_gu_o hf
    refine v_run C0 tbX4 cokX4_element (pc' := 29) (lv' := [(3, .ref r2), (0, .ref a0), (1, .int x1), (2, .int x2)]) (st' := [.int (2 : Int32), .int (q_int h r2 1)]) (h' := h) 4 rfl ⟨g3, trivial⟩ ?_
    refine v_icmp_eq C0 cokX4_element rfl 43 (by decide) hf (fun _ hf => ?_) (fun _ hf => ?_)
    · refine v_run C0 tbX4 cokX4_element (pc' := 51) (lv' := [(3, .ref r2), (0, .ref a0), (1, .int x1), (2, .int x2)]) (st' := [.int (q_int h r2 4 - (1 : Int32)), .int (0 : Int32), .int x2]) (h' := h) 6 rfl ⟨g3, trivial⟩ ?_
      obtain ⟨r3, e3, hf⟩ := q_bd hf
      refine v_callS C0 cokX4_element rfl (rest := []) (ctX4_isIn x2 (0 : Int32) (q_int h r2 4 - (1 : Int32)) e3) calX4_isIn lkX4_148 inX4_isIn dnX4_isIn rfl rfl ⟨by decide, by decide⟩ (Nat.le_of_ble_eq_true rfl) (Nat.le_refl _) (Nat.le_refl _) ?_
      refine v_if_ne C0 cokX4_element rfl 68 (by decide) hf (fun _ hf => ?_) (fun _ hf => ?_)
      · obtain rfl := Option.some.inj hf
        exact v_throwW C0 hl hX cokX4_element rfl rfl rfl rfl rfl (cls := q_IS) (by decide +kernel) q_at4c.2.1 (q_tb1 13 rfl rfl) (text := "no such place") (by decide) q_at4IS.1 q_at4IS.2.1 q_at4IS.2.2 hex hlk (by decide) (by decide) (Nat.le_refl _) (Nat.le_refl _) (fun E st t q => Or.inr ⟨rfl, q⟩)
      · obtain ⟨g4, hf⟩ := q_gu_o hf
        obtain ⟨r4, e4, hf⟩ := q_bd hf
        refine v_run C0 tbX4 cokX4_element (pc' := 73) (lv' := [(3, .ref r2), (0, .ref a0), (1, .int x1), (2, .int x2)]) (st' := [.int x2, .ref (q_ref σ r2 0)]) (h' := h) 3 rfl ⟨⟨g3, q_tn g4⟩, trivial⟩ ?_
        refine v_callS C0 cokX4_element rfl (rest := []) (ctX4_at (q_ref σ r2 0) x2 g4 e4) calX4_at lkX4_105 inX4_at dnX4_at rfl rfl ⟨by decide, by decide⟩ (Nat.le_of_ble_eq_true rfl) (Nat.le_refl _) (Nat.le_refl _) ?_
        refine v_run C0 tbX4 cokX4_element (pc' := 77) (lv' := [(3, .ref r2), (0, .ref a0), (1, .int x1), (2, .int x2)]) (st' := [.long r4.toInt64]) (h' := h) 1 rfl trivial ?_
        obtain rfl := Option.some.inj hf
        exact v_xret (fun _ _ _ q => ⟨rfl, q⟩) (v_lret C0 cokX4_element hr hlk rfl)
    · obtain rfl := Option.some.inj hf
      exact v_throwW C0 hl hX cokX4_element rfl rfl rfl rfl rfl (cls := q_IS) (by decide +kernel) q_at4c.2.1 (q_tb1 13 rfl rfl) (text := "no row") (by decide) q_at4IS.1 q_at4IS.2.1 q_at4IS.2.2 hex hlk (by decide) (by decide) (Nat.le_refl _) (Nat.le_refl _) (fun E st t q => Or.inr ⟨rfl, q⟩)
-- the law's element
noncomputable def fL_element (σ : q_St) (h : q_Hp) (a0 : Nat) (x1 x2 : Int32) (a3 : Nat) : Option (Int32 × q_Hp) := (fX4_element σ h a0 x1 x2).bind fun r => (if r.1 = 0 then q_gu (q_tag σ a3 = 8 ∧ vp_in (0 : Int32) (q_len σ a3)) (some ((0 : Int32), q_sj h a3 0 r.2)) else if r.1 = 1 then some ((1 : Int32), h) else if r.1 = 2 then some ((2 : Int32), h) else none)
def cdL_element : q_Cd := [(0, .aload_n 3), (1, .iconst 0), (2, .aload_n 0), (3, .iload_n 1), (4, .iload_n 2), (5, .invokevirtual 7), (8, .lastore), (9, .goto 11), (12, .astore 4), (14, .iconst 1), (15, .ireturn), (16, .astore 4), (18, .iconst 2), (19, .ireturn), (20, .iconst 0), (21, .ireturn)]
set_option maxRecDepth 100000 in
theorem cokL_element : q_cok cL_element cdL_element := by unfold q_cok; decide +kernel
theorem q_atLc : Cond.classLink RL 13 q_IA ∈ q_tbl ∧ Cond.classLink RL 15 q_IS ∈ q_tbl := ⟨q_tb4 111 rfl rfl, q_tb4 112 rfl rfl⟩
def TbL : q_Tb := ([], [], [])
theorem tbL : q_tok RL TbL := ⟨fun _ h => by (cases h), fun _ h => by (cases h), fun _ h => by (cases h)⟩
set_option maxRecDepth 100000 in
set_option maxHeartbeats 4000000 in
theorem ctL_element {l : Launch} (hl : l.stackTraces = false) {D : va_G} {cy : Nat → Nat} {b0 : Nat} {σ : q_St} {h : q_Hp} (a0 : Nat) (x1 x2 : Int32) (a3 : Nat) {r : Int32} {h1 : q_Hp} (ta0 : q_tag σ a0 = 5) (hf : fL_element σ h a0 x1 x2 a3 = some (r, h1)) : vx_Met l yL_element (Cond.codeWith yL_element cL_element 5 (some .int) hhL_element :: q_tbl) { frames := 7, cells := 1, slots := 6, locals := 110 } (q_PcX D cy b0 σ h [.ref a0, .int x1, .int x2, .ref a3]) (q_Qg D cy b0 (some (.int r)) σ h1) (fun _ _ _ => False) 1 6 (fun q => b0 ≤ q) := by
  unfold fL_element at hf
  obtain ⟨⟨r1, v1⟩, e1, hf⟩ := q_bd hf
  refine q_enterH (by decide) (Nat.le_of_ble_eq_true rfl) ?_
  intro p e s m args below meth c C0 hr hlk hex hX
  replace C0 : VC p { frames := 7, cells := 1, slots := 6, locals := 110 } s m args meth c D cy b0 5 1 6 RL cL_element := C0
  refine v_run C0 tbL cokL_element (pc' := 5) (lv' := [(0, .ref a0), (1, .int x1), (2, .int x2), (3, .ref a3)]) (st' := [.int x2, .int x1, .ref a0, .int (0 : Int32), .ref a3]) (h' := h) 5 rfl trivial ?_
  refine v_callVX C0 hX cokL_element rfl (rest := [.int (0 : Int32), .ref a3]) (as := [.int x1, .int x2]) (kc' := 0) (ks' := 0) (ctX4_element hl a0 x1 x2 ta0 e1) calX4_element lkL_7 inX4_element dnX4_element (ci := 4) ⟨rfl, by decide⟩ ta0 rfl rfl ⟨by decide, by decide⟩ (Nat.le_of_ble_eq_true rfl) (Nat.le_refl _) (Nat.le_refl _) (fun v st₀ t hq => ?_) (fun E st₀ t hq => ?_)
  · obtain ⟨hz, hv, hW, hF⟩ := hq
    cases hv
    refine ⟨σ, h, hW, hF, ?_⟩
    rw [if_pos hz] at hf
    obtain ⟨g, hf⟩ := q_gu_o hf
    obtain ⟨rfl, rfl⟩ := Prod.mk.inj (Option.some.inj hf)
    refine v_run C0 tbL cokL_element (pc' := 21) (lv' := [(0, .ref a0), (1, .int x1), (2, .int x2), (3, .ref a3)]) (st' := [.int (0 : Int32)]) (h' := q_sj h a3 0 v1) 3 rfl ⟨g, trivial⟩ ?_
    exact v_xret (q_Qg_of (n := q_sz σ) (Nat.le_refl _) _) (v_iret C0 cokL_element hr hlk rfl)
  · rcases hq with ⟨hz, rfl, ⟨n, hn, hW⟩, hF⟩ | ⟨hz, rfl, ⟨n, hn, hW⟩, hF⟩
    · refine ⟨q_gp σ n, h, hW, hF, ?_⟩
      obtain rfl : r1 = 1 := hz
      obtain ⟨rfl, rfl⟩ := Prod.mk.inj (Option.some.inj hf)
      refine v_catch (name := q_IA) C0 [] ⟨0, 9, 12, 13⟩ _ hex (by intro z hz; cases hz) (by decide) (by decide) q_atLc.1 (va_Nw.use rfl (hX.2.2.2.1 q_IA (by decide))) (fun q => ?_)
      refine v_run C0 tbL cokL_element (pc' := 15) (lv' := [(4, .ref q), (0, .ref a0), (1, .int x1), (2, .int x2), (3, .ref a3)]) (st' := [.int (1 : Int32)]) (h' := h) 2 rfl trivial ?_
      exact v_xret (q_Qg_of hn _) (v_iret C0 cokL_element hr hlk rfl)
    · refine ⟨q_gp σ n, h, hW, hF, ?_⟩
      obtain rfl : r1 = 2 := hz
      obtain ⟨rfl, rfl⟩ := Prod.mk.inj (Option.some.inj hf)
      refine v_catch (name := q_IS) C0 [⟨0, 9, 12, 13⟩] ⟨0, 9, 16, 15⟩ _ hex (fun z hz => ?_) (by decide) (by decide) q_atLc.2 (va_Nw.use rfl (hX.2.2.2.1 q_IS (by decide))) (fun q => ?_)
      · obtain rfl := List.mem_singleton.mp hz
        exact Or.inr ⟨by decide, q_IA, q_atLc.1, hX.2.2.2.2 (q_IS, q_IA) (by decide)⟩
      refine v_run C0 tbL cokL_element (pc' := 19) (lv' := [(4, .ref q), (0, .ref a0), (1, .int x1), (2, .int x2), (3, .ref a3)]) (st' := [.int (2 : Int32)]) (h' := h) 2 rfl trivial ?_
      exact v_xret (q_Qg_of hn _) (v_iret C0 cokL_element hr hlk rfl)
