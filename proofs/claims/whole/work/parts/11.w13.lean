-- BackByNoonOnMondayModel.fee(II)I
noncomputable def fX5_fee (σ : q_St) (h : q_Hp) (a0 : Nat) (x1 : Int32) (x2 : Int32) : Option (Int32 × q_Hp) := ((fX5_in σ (q_si h a0 21 (0 : Int32)) (Int32.toInt64 x1) (0 : Int64) (20 : Int64)).bind fun r1 => (if r1 = 0 then some ((-1 : Int32), (q_si h a0 21 (0 : Int32))) else ((fX5_in σ (q_si h a0 21 (0 : Int32)) (Int32.toInt64 x2) (0 : Int64) (1 : Int64)).bind fun r2 => (if r2 = 0 then some ((-1 : Int32), (q_si h a0 21 (0 : Int32))) else (if x2 = 0 then ((fX5_paidBy σ (q_si h a0 21 (0 : Int32)) a0 x1).bind fun r4 => some (r4, (q_si h a0 21 (0 : Int32)))) else ((fX5_comesBy σ (q_si h a0 21 (0 : Int32)) a0 x1).bind fun r3 => some (r3, (q_si h a0 21 (0 : Int32)))))))))
def cdX5_fee : q_Cd := [(0, .aload_n 0), (1, .iconst 0), (2, .putfield 89), (5, .iload_n 1), (6, .i2l), (7, .lconst 0), (8, .ldc2_w 231), (11, .invokestatic 96), (14, .ifCond .eq 13), (17, .iload_n 2), (18, .i2l), (19, .lconst 0), (20, .lconst 1), (21, .invokestatic 96), (24, .ifCond .ne 5), (27, .iconst (-1)), (28, .ireturn), (29, .iload_n 2), (30, .ifCond .ne 11), (33, .aload_n 0), (34, .iload_n 1), (35, .invokevirtual 330), (38, .goto 8), (41, .aload_n 0), (42, .iload_n 1), (43, .invokevirtual 327), (46, .ireturn)]
set_option maxRecDepth 100000 in
theorem cokX5_fee : q_cok cX5_fee cdX5_fee := by unfold q_cok; decide +kernel
set_option maxRecDepth 100000 in
set_option maxHeartbeats 4000000 in
theorem ctX5_fee {l : Launch} {D : va_G} {cy : Nat → Nat} {b0 : Nat} {σ : q_St} {h : q_Hp} (a0 : Nat) (x1 : Int32) (x2 : Int32) {r : Int32} {h' : q_Hp} (ta0 : q_tag σ a0 = 6) (hf : fX5_fee σ h a0 x1 x2 = some (r, h')) : q_M l yX5_fee cX5_fee 3 (some .int) 2 46 0 0 D cy b0 σ h [.ref a0, .int x1, .int x2] (some (.int r)) σ h' := by
  unfold fX5_fee at hf
  refine q_enter (by decide) (Nat.le_of_ble_eq_true rfl) ?_
  intro p e s m args below meth c C0 hr hlk hnm
  replace C0 : VC p { frames := 2, cells := 0, slots := 0, locals := 46 } s m args meth c D cy b0 3 0 0 RX5 cX5_fee := C0
  refine v_run C0 tbX5 cokX5_fee (pc' := 11) (lv' := [(0, .ref a0), (1, .int x1), (2, .int x2)]) (st' := [.long (20 : Int64), .long (0 : Int64), .long (Int32.toInt64 x1)]) (h' := (q_si h a0 21 (0 : Int32))) 7 rfl ⟨ta0, trivial⟩ ?_
  obtain ⟨r1, e1, hf⟩ := q_bd hf
  refine v_callS C0 cokX5_fee rfl (rest := []) (ctX5_in (Int32.toInt64 x1) (0 : Int64) (20 : Int64) e1) calX5_in lkX5_96 inX5_in dnX5_in rfl rfl ⟨by decide, by decide⟩ (Nat.le_of_ble_eq_true rfl) (Nat.le_refl _) (Nat.le_refl _) ?_
  refine v_if_eq C0 cokX5_fee rfl 27 (by decide) hf (fun _ hf => ?_) (fun _ hf => ?_)
  · refine v_run C0 tbX5 cokX5_fee (pc' := 28) (lv' := [(0, .ref a0), (1, .int x1), (2, .int x2)]) (st' := [.int (-1 : Int32)]) (h' := (q_si h a0 21 (0 : Int32))) 1 rfl trivial ?_
    obtain ⟨rfl, rfl⟩ := Prod.mk.inj (Option.some.inj hf)
    exact v_iret C0 cokX5_fee hr hlk rfl
  · refine v_run C0 tbX5 cokX5_fee (pc' := 21) (lv' := [(0, .ref a0), (1, .int x1), (2, .int x2)]) (st' := [.long (1 : Int64), .long (0 : Int64), .long (Int32.toInt64 x2)]) (h' := (q_si h a0 21 (0 : Int32))) 4 rfl trivial ?_
    obtain ⟨r2, e2, hf⟩ := q_bd hf
    refine v_callS C0 cokX5_fee rfl (rest := []) (ctX5_in (Int32.toInt64 x2) (0 : Int64) (1 : Int64) e2) calX5_in lkX5_96 inX5_in dnX5_in rfl rfl ⟨by decide, by decide⟩ (Nat.le_of_ble_eq_true rfl) (Nat.le_refl _) (Nat.le_refl _) ?_
    refine v_if_ne C0 cokX5_fee rfl 29 (by decide) hf (fun _ hf => ?_) (fun _ hf => ?_)
    · refine v_run C0 tbX5 cokX5_fee (pc' := 28) (lv' := [(0, .ref a0), (1, .int x1), (2, .int x2)]) (st' := [.int (-1 : Int32)]) (h' := (q_si h a0 21 (0 : Int32))) 1 rfl trivial ?_
      obtain ⟨rfl, rfl⟩ := Prod.mk.inj (Option.some.inj hf)
      exact v_iret C0 cokX5_fee hr hlk rfl
    · refine v_run C0 tbX5 cokX5_fee (pc' := 30) (lv' := [(0, .ref a0), (1, .int x1), (2, .int x2)]) (st' := [.int x2]) (h' := (q_si h a0 21 (0 : Int32))) 1 rfl trivial ?_
      refine v_if_ne C0 cokX5_fee rfl 41 (by decide) hf (fun _ hf => ?_) (fun _ hf => ?_)
      · refine v_run C0 tbX5 cokX5_fee (pc' := 35) (lv' := [(0, .ref a0), (1, .int x1), (2, .int x2)]) (st' := [.int x1, .ref a0]) (h' := (q_si h a0 21 (0 : Int32))) 2 rfl trivial ?_
        obtain ⟨r4, e4, hf⟩ := q_bd hf
        refine v_callV C0 cokX5_fee rfl (rest := []) (ctX5_paidBy a0 x1 ta0 e4) calX5_paidBy lkX5_330 inX5_paidBy dnX5_paidBy (ci := 5) ⟨rfl, by decide⟩ ta0 rfl rfl ⟨by decide, by decide⟩ (Nat.le_of_ble_eq_true rfl) (Nat.le_refl _) (Nat.le_refl _) ?_
        refine v_run C0 tbX5 cokX5_fee (pc' := 46) (lv' := [(0, .ref a0), (1, .int x1), (2, .int x2)]) (st' := [.int r4]) (h' := (q_si h a0 21 (0 : Int32))) 1 rfl trivial ?_
        obtain ⟨rfl, rfl⟩ := Prod.mk.inj (Option.some.inj hf)
        exact v_iret C0 cokX5_fee hr hlk rfl
      · refine v_run C0 tbX5 cokX5_fee (pc' := 43) (lv' := [(0, .ref a0), (1, .int x1), (2, .int x2)]) (st' := [.int x1, .ref a0]) (h' := (q_si h a0 21 (0 : Int32))) 2 rfl trivial ?_
        obtain ⟨r3, e3, hf⟩ := q_bd hf
        refine v_callV C0 cokX5_fee rfl (rest := []) (ctX5_comesBy a0 x1 ta0 e3) calX5_comesBy lkX5_327 inX5_comesBy dnX5_comesBy (ci := 5) ⟨rfl, by decide⟩ ta0 rfl rfl ⟨by decide, by decide⟩ (Nat.le_of_ble_eq_true rfl) (Nat.le_refl _) (Nat.le_refl _) ?_
        obtain ⟨rfl, rfl⟩ := Prod.mk.inj (Option.some.inj hf)
        exact v_iret C0 cokX5_fee hr hlk rfl
-- BackByNoonOnMondayModel.bestFee()I
noncomputable def fX5_bestFee_33 (σ : q_St) (h : q_Hp) (a0 : Nat) (x2 : Int32) (s0 : Int32) : Option ((Int32 × Int32 × q_Hp) ⊕ (Int32 × q_Hp)) := some (Sum.inl (s0, (x2 + (1 : Int32)), h))
noncomputable def fX5_bestFee_9 (σ : q_St) (a0 : Nat) (x1 : Int32) (x2 : Int32) (h : q_Hp) : Option ((Int32 × Int32 × q_Hp) ⊕ (Int32 × q_Hp)) := (if (20 : Int32) < x2 then some (Sum.inr (x1, h)) else ((fX5_paidBy σ h a0 x2).bind fun r2 => ((fX5_paidBy σ h a0 x1).bind fun r3 => (if r2 ≤ r3 then fX5_bestFee_33 σ h a0 x2 x1 else fX5_bestFee_33 σ h a0 x2 x2))))
noncomputable def fX5_bestFee (σ : q_St) (h : q_Hp) (a0 : Nat) : Option (Int32 × q_Hp) := (q_loop (fun s => fX5_bestFee_9 σ a0 s.1 s.2.1 s.2.2) q_N ((0 : Int32), (1 : Int32), (q_si h a0 21 (0 : Int32)))).bind fun o1 => some (o1.1, o1.2)
def cdX5_bestFee : q_Cd := [(0, .aload_n 0), (1, .iconst 0), (2, .putfield 89), (5, .iconst 0), (6, .istore_n 1), (7, .iconst 1), (8, .istore_n 2), (9, .iload_n 2), (10, .bipush 20), (12, .if_icmp .gt 28), (15, .aload_n 0), (16, .iload_n 2), (17, .invokevirtual 330), (20, .aload_n 0), (21, .iload_n 1), (22, .invokevirtual 330), (25, .if_icmp .le 7), (28, .iload_n 2), (29, .goto 4), (32, .iload_n 1), (33, .istore_n 1), (34, .iinc 2 1), (37, .goto (-28)), (40, .iload_n 1), (41, .ireturn)]
set_option maxRecDepth 100000 in
theorem cokX5_bestFee : q_cok cX5_bestFee cdX5_bestFee := by unfold q_cok; decide +kernel
set_option maxRecDepth 100000 in
set_option maxHeartbeats 4000000 in
theorem ctX5_bestFee {l : Launch} {D : va_G} {cy : Nat → Nat} {b0 : Nat} {σ : q_St} {h : q_Hp} (a0 : Nat) {r : Int32} {h' : q_Hp} (ta0 : q_tag σ a0 = 6) (hf : fX5_bestFee σ h a0 = some (r, h')) : q_M l yX5_bestFee cX5_bestFee 3 (some .int) 2 46 0 0 D cy b0 σ h [.ref a0] (some (.int r)) σ h' := by
  unfold fX5_bestFee at hf
  refine q_enter (by decide) (Nat.le_of_ble_eq_true rfl) ?_
  intro p e s m args below meth c C0 hr hlk hnm
  replace C0 : VC p { frames := 2, cells := 0, slots := 0, locals := 46 } s m args meth c D cy b0 3 0 0 RX5 cX5_bestFee := C0
  have n9 : ∀ (o : (Int32 × q_Hp)) (s1 : (Int32 × Int32 × q_Hp)), q_loop (fun s => fX5_bestFee_9 σ a0 s.1 s.2.1 s.2.2) q_N s1 = some o → V p l e { frames := 2, cells := 0, slots := 0, locals := 46 } s m args below meth c (MQ below (q_Qc D cy b0 (some (.int r)) σ h') args s 0 0 (fun q => b0 ≤ q)) D cy b0 3 0 0 0 0 σ o.2 40 [(1, .int o.1)] [] → V p l e { frames := 2, cells := 0, slots := 0, locals := 46 } s m args below meth c (MQ below (q_Qc D cy b0 (some (.int r)) σ h') args s 0 0 (fun q => b0 ≤ q)) D cy b0 3 0 0 0 0 σ s1.2.2 9 [(0, .ref a0), (1, .int s1.1), (2, .int s1.2.1)] [] := by
    intro o s1 ho kx1
    refine q_loop_V (P := fun s0 => V p l e { frames := 2, cells := 0, slots := 0, locals := 46 } s m args below meth c (MQ below (q_Qc D cy b0 (some (.int r)) σ h') args s 0 0 (fun q => b0 ≤ q)) D cy b0 3 0 0 0 0 σ s0.2.2 9 [(0, .ref a0), (1, .int s0.1), (2, .int s0.2.1)] []) (o := o) ?_ q_N s1 ho
    intro s2 z1 hf kb1 kr1
    obtain ⟨x1, x2, h⟩ := s2
    replace hf : fX5_bestFee_9 σ a0 x1 x2 h = some z1 := hf
    unfold fX5_bestFee_9 at hf
    show V p l e { frames := 2, cells := 0, slots := 0, locals := 46 } s m args below meth c (MQ below (q_Qc D cy b0 (some (.int r)) σ h') args s 0 0 (fun q => b0 ≤ q)) D cy b0 3 0 0 0 0 σ h 9 [(0, .ref a0), (1, .int x1), (2, .int x2)] []
    have n33 : ∀ (h : q_Hp) (x2 : Int32) (s0 : Int32), fX5_bestFee_33 σ h a0 x2 s0 = some z1 → V p l e { frames := 2, cells := 0, slots := 0, locals := 46 } s m args below meth c (MQ below (q_Qc D cy b0 (some (.int r)) σ h') args s 0 0 (fun q => b0 ≤ q)) D cy b0 3 0 0 0 0 σ h 33 [(0, .ref a0), (2, .int x2)] [.int s0] := by
      intro h x2 s0 hf
      unfold fX5_bestFee_33 at hf
      refine v_run C0 tbX5 cokX5_bestFee (pc' := 9) (lv' := [(2, .int (x2 + (1 : Int32))), (1, .int s0), (0, .ref a0)]) (st' := []) (h' := h) 3 rfl trivial ?_
      obtain rfl := Option.some.inj hf
      refine v_pick [2, 1, 0] rfl ?_
      exact kb1 _ rfl
    refine v_run C0 tbX5 cokX5_bestFee (pc' := 12) (lv' := [(0, .ref a0), (1, .int x1), (2, .int x2)]) (st' := [.int (20 : Int32), .int x2]) (h' := h) 2 rfl trivial ?_
    refine v_icmp_gt C0 cokX5_bestFee rfl 40 (by decide) hf (fun _ hf => ?_) (fun _ hf => ?_)
    · obtain rfl := Option.some.inj hf
      refine v_pick [1] rfl ?_
      have hx := kr1 _ rfl
      subst hx
      exact kx1
    · refine v_run C0 tbX5 cokX5_bestFee (pc' := 17) (lv' := [(0, .ref a0), (1, .int x1), (2, .int x2)]) (st' := [.int x2, .ref a0]) (h' := h) 2 rfl trivial ?_
      obtain ⟨r2, e2, hf⟩ := q_bd hf
      refine v_callV C0 cokX5_bestFee rfl (rest := []) (ctX5_paidBy a0 x2 ta0 e2) calX5_paidBy lkX5_330 inX5_paidBy dnX5_paidBy (ci := 5) ⟨rfl, by decide⟩ ta0 rfl rfl ⟨by decide, by decide⟩ (Nat.le_of_ble_eq_true rfl) (Nat.le_refl _) (Nat.le_refl _) ?_
      refine v_run C0 tbX5 cokX5_bestFee (pc' := 22) (lv' := [(0, .ref a0), (1, .int x1), (2, .int x2)]) (st' := [.int x1, .ref a0, .int r2]) (h' := h) 2 rfl trivial ?_
      obtain ⟨r3, e3, hf⟩ := q_bd hf
      refine v_callV C0 cokX5_bestFee rfl (rest := [.int r2]) (ctX5_paidBy a0 x1 ta0 e3) calX5_paidBy lkX5_330 inX5_paidBy dnX5_paidBy (ci := 5) ⟨rfl, by decide⟩ ta0 rfl rfl ⟨by decide, by decide⟩ (Nat.le_of_ble_eq_true rfl) (Nat.le_refl _) (Nat.le_refl _) ?_
      refine v_icmp_le C0 cokX5_bestFee rfl 32 (by decide) hf (fun _ hf => ?_) (fun _ hf => ?_)
      · refine v_run C0 tbX5 cokX5_bestFee (pc' := 33) (lv' := [(0, .ref a0), (1, .int x1), (2, .int x2)]) (st' := [.int x1]) (h' := h) 1 rfl trivial ?_
        refine v_pick [0, 2] rfl ?_
        exact n33 h x2 x1 hf
      · refine v_run C0 tbX5 cokX5_bestFee (pc' := 33) (lv' := [(0, .ref a0), (1, .int x1), (2, .int x2)]) (st' := [.int x2]) (h' := h) 2 rfl trivial ?_
        refine v_pick [0, 2] rfl ?_
        exact n33 h x2 x2 hf
  refine v_run C0 tbX5 cokX5_bestFee (pc' := 9) (lv' := [(2, .int (1 : Int32)), (1, .int (0 : Int32)), (0, .ref a0)]) (st' := []) (h' := (q_si h a0 21 (0 : Int32))) 7 rfl ⟨ta0, trivial⟩ ?_
  obtain ⟨o1, eo1, hf⟩ := q_bd hf
  refine v_pick [2, 1, 0] rfl ?_
  refine n9 o1 ((0 : Int32), (1 : Int32), (q_si h a0 21 (0 : Int32))) eo1 ?_
  refine v_run C0 tbX5 cokX5_bestFee (pc' := 41) (lv' := [(1, .int o1.1)]) (st' := [.int o1.1]) (h' := o1.2) 1 rfl trivial ?_
  obtain ⟨rfl, rfl⟩ := Prod.mk.inj (Option.some.inj hf)
  exact v_iret C0 cokX5_bestFee hr hlk rfl
-- BackByNoonOnMondayModel.atFive(III)I
noncomputable def fX5_atFive (σ : q_St) (h : q_Hp) (a0 : Nat) (x1 : Int32) (x2 : Int32) (x3 : Int32) : Option (Int32 × q_Hp) := ((fX5_in σ (q_si h a0 21 (0 : Int32)) (Int32.toInt64 x1) (0 : Int64) (10 : Int64)).bind fun r1 => (if r1 = 0 then some ((-1 : Int32), (q_si h a0 21 (0 : Int32))) else ((fX5_in σ (q_si h a0 21 (0 : Int32)) (Int32.toInt64 x2) (0 : Int64) (99 : Int64)).bind fun r2 => (if r2 = 0 then some ((-1 : Int32), (q_si h a0 21 (0 : Int32))) else ((fX5_in σ (q_si h a0 21 (0 : Int32)) (Int32.toInt64 x3) (0 : Int64) (99 : Int64)).bind fun r3 => (if r3 = 0 then some ((-1 : Int32), (q_si h a0 21 (0 : Int32))) else (if ((10 : Int32) * x3) ≤ (x1 * x2) then some ((0 : Int32), (q_si h a0 21 (0 : Int32))) else some ((1 : Int32), (q_si h a0 21 (0 : Int32))))))))))
def cdX5_atFive : q_Cd := [(0, .aload_n 0), (1, .iconst 0), (2, .putfield 89), (5, .iload_n 1), (6, .i2l), (7, .lconst 0), (8, .ldc2_w 294), (11, .invokestatic 96), (14, .ifCond .eq 27), (17, .iload_n 2), (18, .i2l), (19, .lconst 0), (20, .ldc2_w 310), (23, .invokestatic 96), (26, .ifCond .eq 15), (29, .iload_n 3), (30, .i2l), (31, .lconst 0), (32, .ldc2_w 310), (35, .invokestatic 96), (38, .ifCond .ne 5), (41, .iconst (-1)), (42, .ireturn), (43, .bipush 10), (45, .iload_n 3), (46, .imul), (47, .iload_n 1), (48, .iload_n 2), (49, .imul), (50, .if_icmp .le 7), (53, .iconst 1), (54, .goto 4), (57, .iconst 0), (58, .ireturn)]
set_option maxRecDepth 100000 in
theorem cokX5_atFive : q_cok cX5_atFive cdX5_atFive := by unfold q_cok; decide +kernel
set_option maxRecDepth 100000 in
set_option maxHeartbeats 4000000 in
theorem ctX5_atFive {l : Launch} {D : va_G} {cy : Nat → Nat} {b0 : Nat} {σ : q_St} {h : q_Hp} (a0 : Nat) (x1 : Int32) (x2 : Int32) (x3 : Int32) {r : Int32} {h' : q_Hp} (ta0 : q_tag σ a0 = 6) (hf : fX5_atFive σ h a0 x1 x2 x3 = some (r, h')) : q_M l yX5_atFive cX5_atFive 4 (some .int) 1 25 0 0 D cy b0 σ h [.ref a0, .int x1, .int x2, .int x3] (some (.int r)) σ h' := by
  unfold fX5_atFive at hf
  refine q_enter (by decide) (Nat.le_of_ble_eq_true rfl) ?_
  intro p e s m args below meth c C0 hr hlk hnm
  replace C0 : VC p { frames := 1, cells := 0, slots := 0, locals := 25 } s m args meth c D cy b0 4 0 0 RX5 cX5_atFive := C0
  refine v_run C0 tbX5 cokX5_atFive (pc' := 11) (lv' := [(0, .ref a0), (1, .int x1), (2, .int x2), (3, .int x3)]) (st' := [.long (10 : Int64), .long (0 : Int64), .long (Int32.toInt64 x1)]) (h' := (q_si h a0 21 (0 : Int32))) 7 rfl ⟨ta0, trivial⟩ ?_
  obtain ⟨r1, e1, hf⟩ := q_bd hf
  refine v_callS C0 cokX5_atFive rfl (rest := []) (ctX5_in (Int32.toInt64 x1) (0 : Int64) (10 : Int64) e1) calX5_in lkX5_96 inX5_in dnX5_in rfl rfl ⟨by decide, by decide⟩ (Nat.le_of_ble_eq_true rfl) (Nat.le_refl _) (Nat.le_refl _) ?_
  refine v_if_eq C0 cokX5_atFive rfl 41 (by decide) hf (fun _ hf => ?_) (fun _ hf => ?_)
  · refine v_run C0 tbX5 cokX5_atFive (pc' := 42) (lv' := [(0, .ref a0), (1, .int x1), (2, .int x2), (3, .int x3)]) (st' := [.int (-1 : Int32)]) (h' := (q_si h a0 21 (0 : Int32))) 1 rfl trivial ?_
    obtain ⟨rfl, rfl⟩ := Prod.mk.inj (Option.some.inj hf)
    exact v_iret C0 cokX5_atFive hr hlk rfl
  · refine v_run C0 tbX5 cokX5_atFive (pc' := 23) (lv' := [(0, .ref a0), (1, .int x1), (2, .int x2), (3, .int x3)]) (st' := [.long (99 : Int64), .long (0 : Int64), .long (Int32.toInt64 x2)]) (h' := (q_si h a0 21 (0 : Int32))) 4 rfl trivial ?_
    obtain ⟨r2, e2, hf⟩ := q_bd hf
    refine v_callS C0 cokX5_atFive rfl (rest := []) (ctX5_in (Int32.toInt64 x2) (0 : Int64) (99 : Int64) e2) calX5_in lkX5_96 inX5_in dnX5_in rfl rfl ⟨by decide, by decide⟩ (Nat.le_of_ble_eq_true rfl) (Nat.le_refl _) (Nat.le_refl _) ?_
    refine v_if_eq C0 cokX5_atFive rfl 41 (by decide) hf (fun _ hf => ?_) (fun _ hf => ?_)
    · refine v_run C0 tbX5 cokX5_atFive (pc' := 42) (lv' := [(0, .ref a0), (1, .int x1), (2, .int x2), (3, .int x3)]) (st' := [.int (-1 : Int32)]) (h' := (q_si h a0 21 (0 : Int32))) 1 rfl trivial ?_
      obtain ⟨rfl, rfl⟩ := Prod.mk.inj (Option.some.inj hf)
      exact v_iret C0 cokX5_atFive hr hlk rfl
    · refine v_run C0 tbX5 cokX5_atFive (pc' := 35) (lv' := [(0, .ref a0), (1, .int x1), (2, .int x2), (3, .int x3)]) (st' := [.long (99 : Int64), .long (0 : Int64), .long (Int32.toInt64 x3)]) (h' := (q_si h a0 21 (0 : Int32))) 4 rfl trivial ?_
      obtain ⟨r3, e3, hf⟩ := q_bd hf
      refine v_callS C0 cokX5_atFive rfl (rest := []) (ctX5_in (Int32.toInt64 x3) (0 : Int64) (99 : Int64) e3) calX5_in lkX5_96 inX5_in dnX5_in rfl rfl ⟨by decide, by decide⟩ (Nat.le_of_ble_eq_true rfl) (Nat.le_refl _) (Nat.le_refl _) ?_
      refine v_if_ne C0 cokX5_atFive rfl 43 (by decide) hf (fun _ hf => ?_) (fun _ hf => ?_)
      · refine v_run C0 tbX5 cokX5_atFive (pc' := 42) (lv' := [(0, .ref a0), (1, .int x1), (2, .int x2), (3, .int x3)]) (st' := [.int (-1 : Int32)]) (h' := (q_si h a0 21 (0 : Int32))) 1 rfl trivial ?_
        obtain ⟨rfl, rfl⟩ := Prod.mk.inj (Option.some.inj hf)
        exact v_iret C0 cokX5_atFive hr hlk rfl
      · refine v_run C0 tbX5 cokX5_atFive (pc' := 50) (lv' := [(0, .ref a0), (1, .int x1), (2, .int x2), (3, .int x3)]) (st' := [.int (x1 * x2), .int ((10 : Int32) * x3)]) (h' := (q_si h a0 21 (0 : Int32))) 6 rfl trivial ?_
        refine v_icmp_le C0 cokX5_atFive rfl 57 (by decide) hf (fun _ hf => ?_) (fun _ hf => ?_)
        · refine v_run C0 tbX5 cokX5_atFive (pc' := 58) (lv' := [(0, .ref a0), (1, .int x1), (2, .int x2), (3, .int x3)]) (st' := [.int (0 : Int32)]) (h' := (q_si h a0 21 (0 : Int32))) 1 rfl trivial ?_
          obtain ⟨rfl, rfl⟩ := Prod.mk.inj (Option.some.inj hf)
          exact v_iret C0 cokX5_atFive hr hlk rfl
        · refine v_run C0 tbX5 cokX5_atFive (pc' := 58) (lv' := [(0, .ref a0), (1, .int x1), (2, .int x2), (3, .int x3)]) (st' := [.int (1 : Int32)]) (h' := (q_si h a0 21 (0 : Int32))) 2 rfl trivial ?_
          obtain ⟨rfl, rfl⟩ := Prod.mk.inj (Option.some.inj hf)
          exact v_iret C0 cokX5_atFive hr hlk rfl
-- BackByNoonOnMondayModel.taxi(III)I
noncomputable def fX5_taxi (σ : q_St) (h : q_Hp) (a0 : Nat) (x1 : Int32) (x2 : Int32) (x3 : Int32) : Option (Int32 × q_Hp) := q_gu ((q_tag σ (q_ref σ a0 5) = 7) ∧ (q_tag σ (q_ref σ a0 10) = 7)) (((fX5_isSuit σ (q_si h a0 21 (0 : Int32)) a0 x1).bind fun r1 => (if r1 = 0 then some ((-1 : Int32), (q_si h a0 21 (0 : Int32))) else ((fX5_in σ (q_si h a0 21 (0 : Int32)) (Int32.toInt64 x2) (0 : Int64) (99 : Int64)).bind fun r2 => (if r2 = 0 then some ((-1 : Int32), (q_si h a0 21 (0 : Int32))) else ((fX5_in σ (q_si h a0 21 (0 : Int32)) (Int32.toInt64 x3) (0 : Int64) (999 : Int64)).bind fun r3 => (if r3 = 0 then some ((-1 : Int32), (q_si h a0 21 (0 : Int32))) else q_gu ((vp_in x1 (q_len σ (q_ref σ a0 5)))) ((if (q_int (q_si h a0 21 (0 : Int32)) (q_ref σ a0 5) (Int32.toNatClampNeg x1)) = (1 : Int32) then ((fX5_bookingOf σ (q_si h a0 21 (0 : Int32)) a0 x1).bind fun r5 => q_gu ((vp_in r5 (q_len σ (q_ref σ a0 10)))) ((if ((q_int (q_si h a0 21 (0 : Int32)) (q_ref σ a0 10) (Int32.toNatClampNeg r5)) * x3) ≤ ((10 : Int32) * x2) then some ((0 : Int32), (q_si h a0 21 (0 : Int32))) else some ((1 : Int32), (q_si h a0 21 (0 : Int32)))))) else some ((-3 : Int32), (q_si h a0 21 (0 : Int32))))))))))))
def cdX5_taxi : q_Cd := [(0, .aload_n 0), (1, .iconst 0), (2, .putfield 89), (5, .aload_n 0), (6, .iload_n 1), (7, .invokevirtual 169), (10, .ifCond .eq 27), (13, .iload_n 2), (14, .i2l), (15, .lconst 0), (16, .ldc2_w 310), (19, .invokestatic 96), (22, .ifCond .eq 15), (25, .iload_n 3), (26, .i2l), (27, .lconst 0), (28, .ldc2_w 238), (31, .invokestatic 96), (34, .ifCond .ne 5), (37, .iconst (-1)), (38, .ireturn), (39, .aload_n 0), (40, .getfield 22), (43, .iload_n 1), (44, .iaload), (45, .iconst 1), (46, .if_icmp .eq 6), (49, .bipush (-3)), (51, .ireturn), (52, .aload_n 0), (53, .getfield 34), (56, .aload_n 0), (57, .iload_n 1), (58, .invokevirtual 124), (61, .iaload), (62, .iload_n 3), (63, .imul), (64, .bipush 10), (66, .iload_n 2), (67, .imul), (68, .if_icmp .le 7), (71, .iconst 1), (72, .goto 4), (75, .iconst 0), (76, .ireturn)]
set_option maxRecDepth 100000 in
theorem cokX5_taxi : q_cok cX5_taxi cdX5_taxi := by unfold q_cok; decide +kernel
set_option maxRecDepth 100000 in
set_option maxHeartbeats 4000000 in
theorem ctX5_taxi {l : Launch} {D : va_G} {cy : Nat → Nat} {b0 : Nat} {σ : q_St} {h : q_Hp} (a0 : Nat) (x1 : Int32) (x2 : Int32) (x3 : Int32) {r : Int32} {h' : q_Hp} (ta0 : q_tag σ a0 = 6) (hf : fX5_taxi σ h a0 x1 x2 x3 = some (r, h')) : q_M l yX5_taxi cX5_taxi 4 (some .int) 2 46 0 0 D cy b0 σ h [.ref a0, .int x1, .int x2, .int x3] (some (.int r)) σ h' := by
  unfold fX5_taxi at hf
  obtain ⟨⟨k0, k1⟩, hf⟩ := q_gu_o hf
  refine q_enter (by decide) (Nat.le_of_ble_eq_true rfl) ?_
  intro p e s m args below meth c C0 hr hlk hnm
  replace C0 : VC p { frames := 2, cells := 0, slots := 0, locals := 46 } s m args meth c D cy b0 4 0 0 RX5 cX5_taxi := C0
  refine v_run C0 tbX5 cokX5_taxi (pc' := 7) (lv' := [(0, .ref a0), (1, .int x1), (2, .int x2), (3, .int x3)]) (st' := [.int x1, .ref a0]) (h' := (q_si h a0 21 (0 : Int32))) 5 rfl ⟨ta0, trivial⟩ ?_
  obtain ⟨r1, e1, hf⟩ := q_bd hf
  refine v_callV C0 cokX5_taxi rfl (rest := []) (ctX5_isSuit a0 x1 ta0 e1) calX5_isSuit lkX5_169 inX5_isSuit dnX5_isSuit (ci := 5) ⟨rfl, by decide⟩ ta0 rfl rfl ⟨by decide, by decide⟩ (Nat.le_of_ble_eq_true rfl) (Nat.le_refl _) (Nat.le_refl _) ?_
  refine v_if_eq C0 cokX5_taxi rfl 37 (by decide) hf (fun _ hf => ?_) (fun _ hf => ?_)
  · refine v_run C0 tbX5 cokX5_taxi (pc' := 38) (lv' := [(0, .ref a0), (1, .int x1), (2, .int x2), (3, .int x3)]) (st' := [.int (-1 : Int32)]) (h' := (q_si h a0 21 (0 : Int32))) 1 rfl trivial ?_
    obtain ⟨rfl, rfl⟩ := Prod.mk.inj (Option.some.inj hf)
    exact v_iret C0 cokX5_taxi hr hlk rfl
  · refine v_run C0 tbX5 cokX5_taxi (pc' := 19) (lv' := [(0, .ref a0), (1, .int x1), (2, .int x2), (3, .int x3)]) (st' := [.long (99 : Int64), .long (0 : Int64), .long (Int32.toInt64 x2)]) (h' := (q_si h a0 21 (0 : Int32))) 4 rfl trivial ?_
    obtain ⟨r2, e2, hf⟩ := q_bd hf
    refine v_callS C0 cokX5_taxi rfl (rest := []) (ctX5_in (Int32.toInt64 x2) (0 : Int64) (99 : Int64) e2) calX5_in lkX5_96 inX5_in dnX5_in rfl rfl ⟨by decide, by decide⟩ (Nat.le_of_ble_eq_true rfl) (Nat.le_refl _) (Nat.le_refl _) ?_
    refine v_if_eq C0 cokX5_taxi rfl 37 (by decide) hf (fun _ hf => ?_) (fun _ hf => ?_)
    · refine v_run C0 tbX5 cokX5_taxi (pc' := 38) (lv' := [(0, .ref a0), (1, .int x1), (2, .int x2), (3, .int x3)]) (st' := [.int (-1 : Int32)]) (h' := (q_si h a0 21 (0 : Int32))) 1 rfl trivial ?_
      obtain ⟨rfl, rfl⟩ := Prod.mk.inj (Option.some.inj hf)
      exact v_iret C0 cokX5_taxi hr hlk rfl
    · refine v_run C0 tbX5 cokX5_taxi (pc' := 31) (lv' := [(0, .ref a0), (1, .int x1), (2, .int x2), (3, .int x3)]) (st' := [.long (999 : Int64), .long (0 : Int64), .long (Int32.toInt64 x3)]) (h' := (q_si h a0 21 (0 : Int32))) 4 rfl trivial ?_
      obtain ⟨r3, e3, hf⟩ := q_bd hf
      refine v_callS C0 cokX5_taxi rfl (rest := []) (ctX5_in (Int32.toInt64 x3) (0 : Int64) (999 : Int64) e3) calX5_in lkX5_96 inX5_in dnX5_in rfl rfl ⟨by decide, by decide⟩ (Nat.le_of_ble_eq_true rfl) (Nat.le_refl _) (Nat.le_refl _) ?_
      refine v_if_ne C0 cokX5_taxi rfl 39 (by decide) hf (fun _ hf => ?_) (fun _ hf => ?_)
      · refine v_run C0 tbX5 cokX5_taxi (pc' := 38) (lv' := [(0, .ref a0), (1, .int x1), (2, .int x2), (3, .int x3)]) (st' := [.int (-1 : Int32)]) (h' := (q_si h a0 21 (0 : Int32))) 1 rfl trivial ?_
        obtain ⟨rfl, rfl⟩ := Prod.mk.inj (Option.some.inj hf)
        exact v_iret C0 cokX5_taxi hr hlk rfl
      · obtain ⟨g4, hf⟩ := q_gu_o hf
        refine v_run C0 tbX5 cokX5_taxi (pc' := 46) (lv' := [(0, .ref a0), (1, .int x1), (2, .int x2), (3, .int x3)]) (st' := [.int (1 : Int32), .int (q_int (q_si h a0 21 (0 : Int32)) (q_ref σ a0 5) (Int32.toNatClampNeg x1))]) (h' := (q_si h a0 21 (0 : Int32))) 5 rfl ⟨⟨ta0, q_tn k0⟩, ⟨k0, g4⟩, trivial⟩ ?_
        refine v_icmp_eq C0 cokX5_taxi rfl 52 (by decide) hf (fun _ hf => ?_) (fun _ hf => ?_)
        · refine v_run C0 tbX5 cokX5_taxi (pc' := 58) (lv' := [(0, .ref a0), (1, .int x1), (2, .int x2), (3, .int x3)]) (st' := [.int x1, .ref a0, .ref (q_ref σ a0 10)]) (h' := (q_si h a0 21 (0 : Int32))) 4 rfl ⟨⟨ta0, q_tn k1⟩, trivial⟩ ?_
          obtain ⟨r5, e5, hf⟩ := q_bd hf
          refine v_callV C0 cokX5_taxi rfl (rest := [.ref (q_ref σ a0 10)]) (ctX5_bookingOf a0 x1 ta0 e5) calX5_bookingOf lkX5_124 inX5_bookingOf dnX5_bookingOf (ci := 5) ⟨rfl, by decide⟩ ta0 rfl rfl ⟨by decide, by decide⟩ (Nat.le_of_ble_eq_true rfl) (Nat.le_refl _) (Nat.le_refl _) ?_
          obtain ⟨g6, hf⟩ := q_gu_o hf
          refine v_run C0 tbX5 cokX5_taxi (pc' := 68) (lv' := [(0, .ref a0), (1, .int x1), (2, .int x2), (3, .int x3)]) (st' := [.int ((10 : Int32) * x2), .int ((q_int (q_si h a0 21 (0 : Int32)) (q_ref σ a0 10) (Int32.toNatClampNeg r5)) * x3)]) (h' := (q_si h a0 21 (0 : Int32))) 6 rfl ⟨⟨k1, g6⟩, trivial⟩ ?_
          refine v_icmp_le C0 cokX5_taxi rfl 75 (by decide) hf (fun _ hf => ?_) (fun _ hf => ?_)
          · refine v_run C0 tbX5 cokX5_taxi (pc' := 76) (lv' := [(0, .ref a0), (1, .int x1), (2, .int x2), (3, .int x3)]) (st' := [.int (0 : Int32)]) (h' := (q_si h a0 21 (0 : Int32))) 1 rfl trivial ?_
            obtain ⟨rfl, rfl⟩ := Prod.mk.inj (Option.some.inj hf)
            exact v_iret C0 cokX5_taxi hr hlk rfl
          · refine v_run C0 tbX5 cokX5_taxi (pc' := 76) (lv' := [(0, .ref a0), (1, .int x1), (2, .int x2), (3, .int x3)]) (st' := [.int (1 : Int32)]) (h' := (q_si h a0 21 (0 : Int32))) 2 rfl trivial ?_
            obtain ⟨rfl, rfl⟩ := Prod.mk.inj (Option.some.inj hf)
            exact v_iret C0 cokX5_taxi hr hlk rfl
        · refine v_run C0 tbX5 cokX5_taxi (pc' := 51) (lv' := [(0, .ref a0), (1, .int x1), (2, .int x2), (3, .int x3)]) (st' := [.int (-3 : Int32)]) (h' := (q_si h a0 21 (0 : Int32))) 1 rfl trivial ?_
          obtain ⟨rfl, rfl⟩ := Prod.mk.inj (Option.some.inj hf)
          exact v_iret C0 cokX5_taxi hr hlk rfl
-- BackByNoonOnMondayModel.tight()I
noncomputable def fX5_tight_63 (σ : q_St) (h : q_Hp) (a0 : Nat) (x2 : Int32) (s0 : Int32) (s1 : Int32) : Option ((Int32 × Int32 × q_Hp) ⊕ (Int32 × q_Hp)) := some (Sum.inl ((s1 ||| s0), (x2 + (1 : Int32)), h))
noncomputable def fX5_tight_62 (σ : q_St) (h : q_Hp) (a0 : Nat) (x2 : Int32) (s0 : Int32) : Option ((Int32 × Int32 × q_Hp) ⊕ (Int32 × q_Hp)) := fX5_tight_63 σ h a0 x2 (0 : Int32) s0
noncomputable def fX5_tight_9 (σ : q_St) (a0 : Nat) (x1 : Int32) (x2 : Int32) (h : q_Hp) : Option ((Int32 × Int32 × q_Hp) ⊕ (Int32 × q_Hp)) := (if (q_int h a0 6) ≤ x2 then some (Sum.inr (x1, h)) else q_gu ((vp_in x2 (q_len σ (q_ref σ a0 12)))) ((if (q_int h (q_ref σ a0 12) (Int32.toNatClampNeg x2)) = (9 : Int32) then fX5_tight_62 σ h a0 x2 x1 else q_gu ((vp_in (q_int h (q_ref σ a0 12) (Int32.toNatClampNeg x2)) (q_len σ (q_ref σ a0 3))) ∧ (vp_in x2 (q_len σ (q_ref σ a0 7)))) (((fX5_apart σ h (q_int h (q_ref σ a0 3) (Int32.toNatClampNeg (q_int h (q_ref σ a0 12) (Int32.toNatClampNeg x2)))) ((q_int h (q_ref σ a0 7) (Int32.toNatClampNeg x2)) + (1 : Int32))).bind fun r5 => ((fX5_givesOf σ h a0 (q_int h (q_ref σ a0 12) (Int32.toNatClampNeg x2))).bind fun r6 => (if r5 ≤ r6 then fX5_tight_62 σ h a0 x2 x1 else fX5_tight_63 σ h a0 x2 ((1 : Int32) <<< (x2 &&& 31)) x1)))))))
noncomputable def fX5_tight (σ : q_St) (h : q_Hp) (a0 : Nat) : Option (Int32 × q_Hp) := q_gu ((q_tag σ (q_ref σ a0 12) = 7) ∧ (q_tag σ (q_ref σ a0 3) = 7) ∧ (q_tag σ (q_ref σ a0 7) = 7)) ((q_loop (fun s => fX5_tight_9 σ a0 s.1 s.2.1 s.2.2) q_N ((0 : Int32), (0 : Int32), (q_si h a0 21 (0 : Int32)))).bind fun o1 => some (o1.1, o1.2))
def cdX5_tight : q_Cd := [(0, .aload_n 0), (1, .iconst 0), (2, .putfield 89), (5, .iconst 0), (6, .istore_n 1), (7, .iconst 0), (8, .istore_n 2), (9, .iload_n 2), (10, .aload_n 0), (11, .getfield 100), (14, .if_icmp .ge 57), (17, .aload_n 0), (18, .getfield 40), (21, .iload_n 2), (22, .iaload), (23, .istore_n 3), (24, .iload_n 1), (25, .iload_n 3), (26, .bipush 9), (28, .if_icmp .eq 34), (31, .aload_n 0), (32, .getfield 16), (35, .iload_n 3), (36, .iaload), (37, .aload_n 0), (38, .getfield 25), (41, .iload_n 2), (42, .iaload), (43, .iconst 1), (44, .iadd), (45, .invokestatic 107), (48, .aload_n 0), (49, .iload_n 3), (50, .invokevirtual 110), (53, .if_icmp .le 9), (56, .iconst 1), (57, .iload_n 2), (58, .ishl), (59, .goto 4), (62, .iconst 0), (63, .ior), (64, .istore_n 1), (65, .iinc 2 1), (68, .goto (-59)), (71, .iload_n 1), (72, .ireturn)]
set_option maxRecDepth 100000 in
theorem cokX5_tight : q_cok cX5_tight cdX5_tight := by unfold q_cok; decide +kernel
set_option maxRecDepth 100000 in
set_option maxHeartbeats 4000000 in
theorem ctX5_tight {l : Launch} {D : va_G} {cy : Nat → Nat} {b0 : Nat} {σ : q_St} {h : q_Hp} (a0 : Nat) {r : Int32} {h' : q_Hp} (ta0 : q_tag σ a0 = 6) (hf : fX5_tight σ h a0 = some (r, h')) : q_M l yX5_tight cX5_tight 4 (some .int) 1 21 0 0 D cy b0 σ h [.ref a0] (some (.int r)) σ h' := by
  unfold fX5_tight at hf
  obtain ⟨⟨k0, k1, k2⟩, hf⟩ := q_gu_o hf
  refine q_enter (by decide) (Nat.le_of_ble_eq_true rfl) ?_
  intro p e s m args below meth c C0 hr hlk hnm
  replace C0 : VC p { frames := 1, cells := 0, slots := 0, locals := 21 } s m args meth c D cy b0 4 0 0 RX5 cX5_tight := C0
  have n9 : ∀ (o : (Int32 × q_Hp)) (s1 : (Int32 × Int32 × q_Hp)), q_loop (fun s => fX5_tight_9 σ a0 s.1 s.2.1 s.2.2) q_N s1 = some o → V p l e { frames := 1, cells := 0, slots := 0, locals := 21 } s m args below meth c (MQ below (q_Qc D cy b0 (some (.int r)) σ h') args s 0 0 (fun q => b0 ≤ q)) D cy b0 4 0 0 0 0 σ o.2 71 [(1, .int o.1)] [] → V p l e { frames := 1, cells := 0, slots := 0, locals := 21 } s m args below meth c (MQ below (q_Qc D cy b0 (some (.int r)) σ h') args s 0 0 (fun q => b0 ≤ q)) D cy b0 4 0 0 0 0 σ s1.2.2 9 [(0, .ref a0), (1, .int s1.1), (2, .int s1.2.1)] [] := by
    intro o s1 ho kx1
    refine q_loop_V (P := fun s0 => V p l e { frames := 1, cells := 0, slots := 0, locals := 21 } s m args below meth c (MQ below (q_Qc D cy b0 (some (.int r)) σ h') args s 0 0 (fun q => b0 ≤ q)) D cy b0 4 0 0 0 0 σ s0.2.2 9 [(0, .ref a0), (1, .int s0.1), (2, .int s0.2.1)] []) (o := o) ?_ q_N s1 ho
    intro s2 z1 hf kb1 kr1
    obtain ⟨x1, x2, h⟩ := s2
    replace hf : fX5_tight_9 σ a0 x1 x2 h = some z1 := hf
    unfold fX5_tight_9 at hf
    show V p l e { frames := 1, cells := 0, slots := 0, locals := 21 } s m args below meth c (MQ below (q_Qc D cy b0 (some (.int r)) σ h') args s 0 0 (fun q => b0 ≤ q)) D cy b0 4 0 0 0 0 σ h 9 [(0, .ref a0), (1, .int x1), (2, .int x2)] []
    have n63 : ∀ (h : q_Hp) (x2 : Int32) (s0 : Int32) (s1 : Int32), fX5_tight_63 σ h a0 x2 s0 s1 = some z1 → V p l e { frames := 1, cells := 0, slots := 0, locals := 21 } s m args below meth c (MQ below (q_Qc D cy b0 (some (.int r)) σ h') args s 0 0 (fun q => b0 ≤ q)) D cy b0 4 0 0 0 0 σ h 63 [(0, .ref a0), (2, .int x2)] [.int s0, .int s1] := by
      intro h x2 s0 s1 hf
      unfold fX5_tight_63 at hf
      refine v_run C0 tbX5 cokX5_tight (pc' := 9) (lv' := [(2, .int (x2 + (1 : Int32))), (1, .int (s1 ||| s0)), (0, .ref a0)]) (st' := []) (h' := h) 4 rfl trivial ?_
      obtain rfl := Option.some.inj hf
      refine v_pick [2, 1, 0] rfl ?_
      exact kb1 _ rfl
    have n62 : ∀ (h : q_Hp) (x2 : Int32) (s0 : Int32), fX5_tight_62 σ h a0 x2 s0 = some z1 → V p l e { frames := 1, cells := 0, slots := 0, locals := 21 } s m args below meth c (MQ below (q_Qc D cy b0 (some (.int r)) σ h') args s 0 0 (fun q => b0 ≤ q)) D cy b0 4 0 0 0 0 σ h 62 [(0, .ref a0), (2, .int x2)] [.int s0] := by
      intro h x2 s0 hf
      unfold fX5_tight_62 at hf
      refine v_run C0 tbX5 cokX5_tight (pc' := 63) (lv' := [(0, .ref a0), (2, .int x2)]) (st' := [.int (0 : Int32), .int s0]) (h' := h) 1 rfl trivial ?_
      refine v_pick [0, 1] rfl ?_
      exact n63 h x2 (0 : Int32) s0 hf
    refine v_run C0 tbX5 cokX5_tight (pc' := 14) (lv' := [(0, .ref a0), (1, .int x1), (2, .int x2)]) (st' := [.int (q_int h a0 6), .int x2]) (h' := h) 3 rfl ⟨ta0, trivial⟩ ?_
    refine v_icmp_ge C0 cokX5_tight rfl 71 (by decide) hf (fun _ hf => ?_) (fun _ hf => ?_)
    · obtain rfl := Option.some.inj hf
      refine v_pick [1] rfl ?_
      have hx := kr1 _ rfl
      subst hx
      exact kx1
    · obtain ⟨g2, hf⟩ := q_gu_o hf
      refine v_run C0 tbX5 cokX5_tight (pc' := 28) (lv' := [(3, .int (q_int h (q_ref σ a0 12) (Int32.toNatClampNeg x2))), (0, .ref a0), (1, .int x1), (2, .int x2)]) (st' := [.int (9 : Int32), .int (q_int h (q_ref σ a0 12) (Int32.toNatClampNeg x2)), .int x1]) (h' := h) 8 rfl ⟨⟨ta0, q_tn k0⟩, ⟨k0, g2⟩, trivial⟩ ?_
      refine v_icmp_eq C0 cokX5_tight rfl 62 (by decide) hf (fun _ hf => ?_) (fun _ hf => ?_)
      · refine v_pick [1, 3] rfl ?_
        exact n62 h x2 x1 hf
      · obtain ⟨⟨g3, g4⟩, hf⟩ := q_gu_o hf
        refine v_run C0 tbX5 cokX5_tight (pc' := 45) (lv' := [(3, .int (q_int h (q_ref σ a0 12) (Int32.toNatClampNeg x2))), (0, .ref a0), (1, .int x1), (2, .int x2)]) (st' := [.int ((q_int h (q_ref σ a0 7) (Int32.toNatClampNeg x2)) + (1 : Int32)), .int (q_int h (q_ref σ a0 3) (Int32.toNatClampNeg (q_int h (q_ref σ a0 12) (Int32.toNatClampNeg x2)))), .int x1]) (h' := h) 10 rfl ⟨⟨ta0, q_tn k1⟩, ⟨k1, g3⟩, ⟨ta0, q_tn k2⟩, ⟨k2, g4⟩, trivial⟩ ?_
        obtain ⟨r5, e5, hf⟩ := q_bd hf
        refine v_callS C0 cokX5_tight rfl (rest := [.int x1]) (ctX5_apart (q_int h (q_ref σ a0 3) (Int32.toNatClampNeg (q_int h (q_ref σ a0 12) (Int32.toNatClampNeg x2)))) ((q_int h (q_ref σ a0 7) (Int32.toNatClampNeg x2)) + (1 : Int32)) e5) calX5_apart lkX5_107 inX5_apart dnX5_apart rfl rfl ⟨by decide, by decide⟩ (Nat.le_of_ble_eq_true rfl) (Nat.le_refl _) (Nat.le_refl _) ?_
        refine v_run C0 tbX5 cokX5_tight (pc' := 50) (lv' := [(3, .int (q_int h (q_ref σ a0 12) (Int32.toNatClampNeg x2))), (0, .ref a0), (1, .int x1), (2, .int x2)]) (st' := [.int (q_int h (q_ref σ a0 12) (Int32.toNatClampNeg x2)), .ref a0, .int r5, .int x1]) (h' := h) 2 rfl trivial ?_
        obtain ⟨r6, e6, hf⟩ := q_bd hf
        refine v_callV C0 cokX5_tight rfl (rest := [.int r5, .int x1]) (ctX5_givesOf a0 (q_int h (q_ref σ a0 12) (Int32.toNatClampNeg x2)) ta0 e6) calX5_givesOf lkX5_110 inX5_givesOf dnX5_givesOf (ci := 5) ⟨rfl, by decide⟩ ta0 rfl rfl ⟨by decide, by decide⟩ (Nat.le_of_ble_eq_true rfl) (Nat.le_refl _) (Nat.le_refl _) ?_
        refine v_icmp_le C0 cokX5_tight rfl 62 (by decide) hf (fun _ hf => ?_) (fun _ hf => ?_)
        · refine v_pick [1, 3] rfl ?_
          exact n62 h x2 x1 hf
        · refine v_run C0 tbX5 cokX5_tight (pc' := 63) (lv' := [(3, .int (q_int h (q_ref σ a0 12) (Int32.toNatClampNeg x2))), (0, .ref a0), (1, .int x1), (2, .int x2)]) (st' := [.int ((1 : Int32) <<< (x2 &&& 31)), .int x1]) (h' := h) 4 rfl trivial ?_
          refine v_pick [1, 3] rfl ?_
          exact n63 h x2 ((1 : Int32) <<< (x2 &&& 31)) x1 hf
  refine v_run C0 tbX5 cokX5_tight (pc' := 9) (lv' := [(2, .int (0 : Int32)), (1, .int (0 : Int32)), (0, .ref a0)]) (st' := []) (h' := (q_si h a0 21 (0 : Int32))) 7 rfl ⟨ta0, trivial⟩ ?_
  obtain ⟨o1, eo1, hf⟩ := q_bd hf
  refine v_pick [2, 1, 0] rfl ?_
  refine n9 o1 ((0 : Int32), (0 : Int32), (q_si h a0 21 (0 : Int32))) eo1 ?_
  refine v_run C0 tbX5 cokX5_tight (pc' := 72) (lv' := [(1, .int o1.1)]) (st' := [.int o1.1]) (h' := o1.2) 1 rfl trivial ?_
  obtain ⟨rfl, rfl⟩ := Prod.mk.inj (Option.some.inj hf)
  exact v_iret C0 cokX5_tight hr hlk rfl
-- BackByNoonOnMondayModel.wrongPairs(I)I
noncomputable def fX5_wrongPairs (σ : q_St) (h : q_Hp) (a0 : Nat) (x1 : Int32) : Option Int32 := q_gu ((q_tag σ (q_ref σ a0 19) = 7)) (((fX5_wrongRow σ h a0 x1).bind fun r1 => (if r1 = 0 then q_gu ((vp_in x1 (q_len σ (q_ref σ a0 19)))) ((if ((q_int h (q_ref σ a0 19) (Int32.toNatClampNeg x1)) - (q_int h (q_ref σ a0 19) (Int32.toNatClampNeg x1)) / (2 : Int32) * (2 : Int32)) = (1 : Int32) then some (-13 : Int32) else (if (q_int h (q_ref σ a0 19) (Int32.toNatClampNeg x1)) ≤ (14 : Int32) then some r1 else some (-13 : Int32)))) else some r1)))
def cdX5_wrongPairs : q_Cd := [(0, .aload_n 0), (1, .iload_n 1), (2, .invokevirtual 192), (5, .istore_n 2), (6, .iload_n 2), (7, .ifCond .ne 31), (10, .aload_n 0), (11, .getfield 55), (14, .iload_n 1), (15, .iaload), (16, .iconst 2), (17, .irem), (18, .iconst 1), (19, .if_icmp .eq 14), (22, .aload_n 0), (23, .getfield 55), (26, .iload_n 1), (27, .iaload), (28, .bipush 14), (30, .if_icmp .le 8), (33, .bipush (-13)), (35, .goto 4), (38, .iload_n 2), (39, .ireturn)]
set_option maxRecDepth 100000 in
theorem cokX5_wrongPairs : q_cok cX5_wrongPairs cdX5_wrongPairs := by unfold q_cok; decide +kernel
set_option maxRecDepth 100000 in
set_option maxHeartbeats 4000000 in
theorem ctX5_wrongPairs {l : Launch} {D : va_G} {cy : Nat → Nat} {b0 : Nat} {σ : q_St} {h : q_Hp} (a0 : Nat) (x1 : Int32) {r : Int32} (ta0 : q_tag σ a0 = 6) (hf : fX5_wrongPairs σ h a0 x1 = some r) : q_M l yX5_wrongPairs cX5_wrongPairs 3 (some .int) 2 46 0 0 D cy b0 σ h [.ref a0, .int x1] (some (.int r)) σ h := by
  unfold fX5_wrongPairs at hf
  obtain ⟨k0, hf⟩ := q_gu_o hf
  refine q_enter (by decide) (Nat.le_of_ble_eq_true rfl) ?_
  intro p e s m args below meth c C0 hr hlk hnm
  replace C0 : VC p { frames := 2, cells := 0, slots := 0, locals := 46 } s m args meth c D cy b0 3 0 0 RX5 cX5_wrongPairs := C0
  refine v_run C0 tbX5 cokX5_wrongPairs (pc' := 2) (lv' := [(0, .ref a0), (1, .int x1)]) (st' := [.int x1, .ref a0]) (h' := h) 2 rfl trivial ?_
  obtain ⟨r1, e1, hf⟩ := q_bd hf
  refine v_callV C0 cokX5_wrongPairs rfl (rest := []) (ctX5_wrongRow a0 x1 ta0 e1) calX5_wrongRow lkX5_192 inX5_wrongRow dnX5_wrongRow (ci := 5) ⟨rfl, by decide⟩ ta0 rfl rfl ⟨by decide, by decide⟩ (Nat.le_of_ble_eq_true rfl) (Nat.le_refl _) (Nat.le_refl _) ?_
  refine v_run C0 tbX5 cokX5_wrongPairs (pc' := 7) (lv' := [(2, .int r1), (0, .ref a0), (1, .int x1)]) (st' := [.int r1]) (h' := h) 2 rfl trivial ?_
  refine v_if_ne C0 cokX5_wrongPairs rfl 38 (by decide) hf (fun _ hf => ?_) (fun _ hf => ?_)
  · obtain ⟨g2, hf⟩ := q_gu_o hf
    refine v_run C0 tbX5 cokX5_wrongPairs (pc' := 19) (lv' := [(2, .int r1), (0, .ref a0), (1, .int x1)]) (st' := [.int (1 : Int32), .int ((q_int h (q_ref σ a0 19) (Int32.toNatClampNeg x1)) - (q_int h (q_ref σ a0 19) (Int32.toNatClampNeg x1)) / (2 : Int32) * (2 : Int32))]) (h' := h) 7 rfl ⟨⟨ta0, q_tn k0⟩, ⟨k0, g2⟩, (by decide), trivial⟩ ?_
    refine v_icmp_eq C0 cokX5_wrongPairs rfl 33 (by decide) hf (fun _ hf => ?_) (fun _ hf => ?_)
    · refine v_run C0 tbX5 cokX5_wrongPairs (pc' := 39) (lv' := [(2, .int r1), (0, .ref a0), (1, .int x1)]) (st' := [.int (-13 : Int32)]) (h' := h) 2 rfl trivial ?_
      obtain rfl := Option.some.inj hf
      exact v_iret C0 cokX5_wrongPairs hr hlk rfl
    · refine v_run C0 tbX5 cokX5_wrongPairs (pc' := 30) (lv' := [(2, .int r1), (0, .ref a0), (1, .int x1)]) (st' := [.int (14 : Int32), .int (q_int h (q_ref σ a0 19) (Int32.toNatClampNeg x1))]) (h' := h) 5 rfl ⟨⟨ta0, q_tn k0⟩, ⟨k0, g2⟩, trivial⟩ ?_
      refine v_icmp_le C0 cokX5_wrongPairs rfl 38 (by decide) hf (fun _ hf => ?_) (fun _ hf => ?_)
      · refine v_run C0 tbX5 cokX5_wrongPairs (pc' := 39) (lv' := [(2, .int r1), (0, .ref a0), (1, .int x1)]) (st' := [.int r1]) (h' := h) 1 rfl trivial ?_
        obtain rfl := Option.some.inj hf
        exact v_iret C0 cokX5_wrongPairs hr hlk rfl
      · refine v_run C0 tbX5 cokX5_wrongPairs (pc' := 39) (lv' := [(2, .int r1), (0, .ref a0), (1, .int x1)]) (st' := [.int (-13 : Int32)]) (h' := h) 2 rfl trivial ?_
        obtain rfl := Option.some.inj hf
        exact v_iret C0 cokX5_wrongPairs hr hlk rfl
  · refine v_run C0 tbX5 cokX5_wrongPairs (pc' := 39) (lv' := [(2, .int r1), (0, .ref a0), (1, .int x1)]) (st' := [.int r1]) (h' := h) 1 rfl trivial ?_
    obtain rfl := Option.some.inj hf
    exact v_iret C0 cokX5_wrongPairs hr hlk rfl
-- BackByNoonOnMondayModel.forgedIn(I)I
noncomputable def fX5_forgedIn_81 (σ : q_St) (h : q_Hp) (a0 : Nat) (x1 : Int32) (x2 : Int32) (y3 : Int64) (y5 : Int64) (s0 : Int32) : Option (Int32 ⊕ (Unit ⊕ Int32)) := (if s0 = 0 then some (Sum.inr (Sum.inr x2)) else ((fX5_fitsIn σ h a0 (Int64.toInt32 y3) (Int64.toInt32 y5)).bind fun r8 => (if r8 = 0 then some (Sum.inr (Sum.inr x2)) else some (Sum.inl (x2 + (1 : Int32))))))
noncomputable def fX5_forgedIn_80 (σ : q_St) (h : q_Hp) (a0 : Nat) (x1 : Int32) (x2 : Int32) (y3 : Int64) (y5 : Int64) : Option (Int32 ⊕ (Unit ⊕ Int32)) := fX5_forgedIn_81 σ h a0 x1 x2 y3 y5 (0 : Int32)
noncomputable def fX5_forgedIn_2 (σ : q_St) (h : q_Hp) (a0 : Nat) (x1 : Int32) (x2 : Int32) : Option (Int32 ⊕ (Unit ⊕ Int32)) := q_gu ((vp_in x1 (q_len σ (q_ref σ a0 19)))) ((if ((q_int h (q_ref σ a0 19) (Int32.toNatClampNeg x1)) / (2 : Int32)) ≤ x2 then some (Sum.inr (Sum.inl ())) else q_gu ((vp_in (((100 : Int32) * x1) + ((2 : Int32) * x2)) (q_len σ (q_ref σ a0 20))) ∧ (vp_in ((((100 : Int32) * x1) + ((2 : Int32) * x2)) + (1 : Int32)) (q_len σ (q_ref σ a0 20)))) (((fX5_in σ h (q_lng h (q_ref σ a0 20) (Int32.toNatClampNeg (((100 : Int32) * x1) + ((2 : Int32) * x2)))) (0 : Int64) (Int32.toInt64 ((q_int h a0 0) - (1 : Int32)))).bind fun r6 => (if r6 = 0 then fX5_forgedIn_80 σ h a0 x1 x2 (q_lng h (q_ref σ a0 20) (Int32.toNatClampNeg (((100 : Int32) * x1) + ((2 : Int32) * x2)))) (q_lng h (q_ref σ a0 20) (Int32.toNatClampNeg ((((100 : Int32) * x1) + ((2 : Int32) * x2)) + (1 : Int32)))) else ((fX5_in σ h (q_lng h (q_ref σ a0 20) (Int32.toNatClampNeg ((((100 : Int32) * x1) + ((2 : Int32) * x2)) + (1 : Int32)))) (0 : Int64) (Int32.toInt64 ((q_int h a0 6) - (1 : Int32)))).bind fun r7 => (if r7 = 0 then fX5_forgedIn_80 σ h a0 x1 x2 (q_lng h (q_ref σ a0 20) (Int32.toNatClampNeg (((100 : Int32) * x1) + ((2 : Int32) * x2)))) (q_lng h (q_ref σ a0 20) (Int32.toNatClampNeg ((((100 : Int32) * x1) + ((2 : Int32) * x2)) + (1 : Int32)))) else fX5_forgedIn_81 σ h a0 x1 x2 (q_lng h (q_ref σ a0 20) (Int32.toNatClampNeg (((100 : Int32) * x1) + ((2 : Int32) * x2)))) (q_lng h (q_ref σ a0 20) (Int32.toNatClampNeg ((((100 : Int32) * x1) + ((2 : Int32) * x2)) + (1 : Int32)))) (1 : Int32))))))))
noncomputable def fX5_forgedIn (σ : q_St) (h : q_Hp) (a0 : Nat) (x1 : Int32) : Option Int32 := q_gu ((q_tag σ (q_ref σ a0 19) = 7) ∧ (q_tag σ (q_ref σ a0 20) = 8)) ((q_loop (fun s => fX5_forgedIn_2 σ h a0 x1 s) q_N (0 : Int32)).bind fun o1 => q_el o1 fun w2 => some (-4 : Int32))
def cdX5_forgedIn : q_Cd := [(0, .iconst 0), (1, .istore_n 2), (2, .iload_n 2), (3, .aload_n 0), (4, .getfield 55), (7, .iload_n 1), (8, .iaload), (9, .iconst 2), (10, .idiv), (11, .if_icmp .ge 97), (14, .aload_n 0), (15, .getfield 58), (18, .bipush 100), (20, .iload_n 1), (21, .imul), (22, .iconst 2), (23, .iload_n 2), (24, .imul), (25, .iadd), (26, .laload), (27, .lstore_n 3), (28, .aload_n 0), (29, .getfield 58), (32, .bipush 100), (34, .iload_n 1), (35, .imul), (36, .iconst 2), (37, .iload_n 2), (38, .imul), (39, .iadd), (40, .iconst 1), (41, .iadd), (42, .laload), (43, .lstore 5), (45, .lload_n 3), (46, .lconst 0), (47, .aload_n 0), (48, .getfield 93), (51, .iconst 1), (52, .isub), (53, .i2l), (54, .invokestatic 96), (57, .ifCond .eq 23), (60, .lload 5), (62, .lconst 0), (63, .aload_n 0), (64, .getfield 100), (67, .iconst 1), (68, .isub), (69, .i2l), (70, .invokestatic 96), (73, .ifCond .eq 7), (76, .iconst 1), (77, .goto 4), (80, .iconst 0), (81, .istore 7), (83, .iload 7), (85, .ifCond .eq 15), (88, .aload_n 0), (89, .lload_n 3), (90, .l2i), (91, .lload 5), (93, .l2i), (94, .invokevirtual 114), (97, .ifCond .ne 5), (100, .iload_n 2), (101, .ireturn), (102, .iinc 2 1), (105, .goto (-103)), (108, .bipush (-4)), (110, .ireturn)]
set_option maxRecDepth 100000 in
theorem cokX5_forgedIn : q_cok cX5_forgedIn cdX5_forgedIn := by unfold q_cok; decide +kernel
set_option maxRecDepth 100000 in
set_option maxHeartbeats 4000000 in
theorem ctX5_forgedIn {l : Launch} {D : va_G} {cy : Nat → Nat} {b0 : Nat} {σ : q_St} {h : q_Hp} (a0 : Nat) (x1 : Int32) {r : Int32} (ta0 : q_tag σ a0 = 6) (hf : fX5_forgedIn σ h a0 x1 = some r) : q_M l yX5_forgedIn cX5_forgedIn 8 (some .int) 2 43 0 0 D cy b0 σ h [.ref a0, .int x1] (some (.int r)) σ h := by
  unfold fX5_forgedIn at hf
  obtain ⟨⟨k0, k1⟩, hf⟩ := q_gu_o hf
  refine q_enter (by decide) (Nat.le_of_ble_eq_true rfl) ?_
  intro p e s m args below meth c C0 hr hlk hnm
  replace C0 : VC p { frames := 2, cells := 0, slots := 0, locals := 43 } s m args meth c D cy b0 8 0 0 RX5 cX5_forgedIn := C0
  have n2 : ∀ (o : (Unit ⊕ Int32)) (s1 : Int32), q_loop (fun s => fX5_forgedIn_2 σ h a0 x1 s) q_N s1 = some o → (∀ w0 : Unit, Sum.inl w0 = o → V p l e { frames := 2, cells := 0, slots := 0, locals := 43 } s m args below meth c (MQ below (q_Qc D cy b0 (some (.int r)) σ h) args s 0 0 (fun q => b0 ≤ q)) D cy b0 8 0 0 0 0 σ h 108 [] []) → (∀ r0 : Int32, Sum.inr r0 = o → (some r0 : Option Int32) = some r) → V p l e { frames := 2, cells := 0, slots := 0, locals := 43 } s m args below meth c (MQ below (q_Qc D cy b0 (some (.int r)) σ h) args s 0 0 (fun q => b0 ≤ q)) D cy b0 8 0 0 0 0 σ h 2 [(0, .ref a0), (1, .int x1), (2, .int s1)] [] := by
    intro o s1 ho kx1 ke1
    refine q_loop_V (P := fun s0 => V p l e { frames := 2, cells := 0, slots := 0, locals := 43 } s m args below meth c (MQ below (q_Qc D cy b0 (some (.int r)) σ h) args s 0 0 (fun q => b0 ≤ q)) D cy b0 8 0 0 0 0 σ h 2 [(0, .ref a0), (1, .int x1), (2, .int s0)] []) (o := o) ?_ q_N s1 ho
    intro x2 z1 hf kb1 kr1
    replace hf : fX5_forgedIn_2 σ h a0 x1 x2 = some z1 := hf
    unfold fX5_forgedIn_2 at hf
    show V p l e { frames := 2, cells := 0, slots := 0, locals := 43 } s m args below meth c (MQ below (q_Qc D cy b0 (some (.int r)) σ h) args s 0 0 (fun q => b0 ≤ q)) D cy b0 8 0 0 0 0 σ h 2 [(0, .ref a0), (1, .int x1), (2, .int x2)] []
    have n81 : ∀ (x2 : Int32) (y3 : Int64) (y5 : Int64) (s0 : Int32), fX5_forgedIn_81 σ h a0 x1 x2 y3 y5 s0 = some z1 → V p l e { frames := 2, cells := 0, slots := 0, locals := 43 } s m args below meth c (MQ below (q_Qc D cy b0 (some (.int r)) σ h) args s 0 0 (fun q => b0 ≤ q)) D cy b0 8 0 0 0 0 σ h 81 [(0, .ref a0), (1, .int x1), (2, .int x2), (3, .long y3), (5, .long y5)] [.int s0] := by
      intro x2 y3 y5 s0 hf
      unfold fX5_forgedIn_81 at hf
      refine v_run C0 tbX5 cokX5_forgedIn (pc' := 85) (lv' := [(7, .int s0), (0, .ref a0), (1, .int x1), (2, .int x2), (3, .long y3), (5, .long y5)]) (st' := [.int s0]) (h' := h) 2 rfl trivial ?_
      refine v_if_eq C0 cokX5_forgedIn rfl 100 (by decide) hf (fun _ hf => ?_) (fun _ hf => ?_)
      · refine v_run C0 tbX5 cokX5_forgedIn (pc' := 101) (lv' := [(7, .int s0), (0, .ref a0), (1, .int x1), (2, .int x2), (3, .long y3), (5, .long y5)]) (st' := [.int x2]) (h' := h) 1 rfl trivial ?_
        obtain rfl := Option.some.inj hf
        have hf := ke1 _ (kr1 _ rfl)
        obtain rfl := Option.some.inj hf
        exact v_iret C0 cokX5_forgedIn hr hlk rfl
      · refine v_run C0 tbX5 cokX5_forgedIn (pc' := 94) (lv' := [(7, .int s0), (0, .ref a0), (1, .int x1), (2, .int x2), (3, .long y3), (5, .long y5)]) (st' := [.int (Int64.toInt32 y5), .int (Int64.toInt32 y3), .ref a0]) (h' := h) 5 rfl trivial ?_
        obtain ⟨r8, e8, hf⟩ := q_bd hf
        refine v_callV C0 cokX5_forgedIn rfl (rest := []) (ctX5_fitsIn a0 (Int64.toInt32 y3) (Int64.toInt32 y5) ta0 e8) calX5_fitsIn lkX5_114 inX5_fitsIn dnX5_fitsIn (ci := 5) ⟨rfl, by decide⟩ ta0 rfl rfl ⟨by decide, by decide⟩ (Nat.le_of_ble_eq_true rfl) (Nat.le_refl _) (Nat.le_refl _) ?_
        refine v_if_ne C0 cokX5_forgedIn rfl 102 (by decide) hf (fun _ hf => ?_) (fun _ hf => ?_)
        · refine v_run C0 tbX5 cokX5_forgedIn (pc' := 101) (lv' := [(7, .int s0), (0, .ref a0), (1, .int x1), (2, .int x2), (3, .long y3), (5, .long y5)]) (st' := [.int x2]) (h' := h) 1 rfl trivial ?_
          obtain rfl := Option.some.inj hf
          have hf := ke1 _ (kr1 _ rfl)
          obtain rfl := Option.some.inj hf
          exact v_iret C0 cokX5_forgedIn hr hlk rfl
        · refine v_run C0 tbX5 cokX5_forgedIn (pc' := 2) (lv' := [(2, .int (x2 + (1 : Int32))), (7, .int s0), (0, .ref a0), (1, .int x1), (3, .long y3), (5, .long y5)]) (st' := []) (h' := h) 2 rfl trivial ?_
          obtain rfl := Option.some.inj hf
          refine v_pick [2, 3, 0] rfl ?_
          exact kb1 _ rfl
    have n80 : ∀ (x2 : Int32) (y3 : Int64) (y5 : Int64), fX5_forgedIn_80 σ h a0 x1 x2 y3 y5 = some z1 → V p l e { frames := 2, cells := 0, slots := 0, locals := 43 } s m args below meth c (MQ below (q_Qc D cy b0 (some (.int r)) σ h) args s 0 0 (fun q => b0 ≤ q)) D cy b0 8 0 0 0 0 σ h 80 [(0, .ref a0), (1, .int x1), (2, .int x2), (3, .long y3), (5, .long y5)] [] := by
      intro x2 y3 y5 hf
      unfold fX5_forgedIn_80 at hf
      refine v_run C0 tbX5 cokX5_forgedIn (pc' := 81) (lv' := [(0, .ref a0), (1, .int x1), (2, .int x2), (3, .long y3), (5, .long y5)]) (st' := [.int (0 : Int32)]) (h' := h) 1 rfl trivial ?_
      refine v_pick [0, 1, 2, 3, 4] rfl ?_
      exact n81 x2 y3 y5 (0 : Int32) hf
    obtain ⟨g3, hf⟩ := q_gu_o hf
    refine v_run C0 tbX5 cokX5_forgedIn (pc' := 11) (lv' := [(0, .ref a0), (1, .int x1), (2, .int x2)]) (st' := [.int ((q_int h (q_ref σ a0 19) (Int32.toNatClampNeg x1)) / (2 : Int32)), .int x2]) (h' := h) 7 rfl ⟨⟨ta0, q_tn k0⟩, ⟨k0, g3⟩, (by decide), trivial⟩ ?_
    refine v_icmp_ge C0 cokX5_forgedIn rfl 108 (by decide) hf (fun _ hf => ?_) (fun _ hf => ?_)
    · obtain rfl := Option.some.inj hf
      refine v_pick [] rfl ?_
      exact kx1 _ (kr1 _ rfl)
    · obtain ⟨⟨g4, g5⟩, hf⟩ := q_gu_o hf
      refine v_run C0 tbX5 cokX5_forgedIn (pc' := 54) (lv' := [(5, .long (q_lng h (q_ref σ a0 20) (Int32.toNatClampNeg ((((100 : Int32) * x1) + ((2 : Int32) * x2)) + (1 : Int32))))), (3, .long (q_lng h (q_ref σ a0 20) (Int32.toNatClampNeg (((100 : Int32) * x1) + ((2 : Int32) * x2))))), (0, .ref a0), (1, .int x1), (2, .int x2)]) (st' := [.long (Int32.toInt64 ((q_int h a0 0) - (1 : Int32))), .long (0 : Int64), .long (q_lng h (q_ref σ a0 20) (Int32.toNatClampNeg (((100 : Int32) * x1) + ((2 : Int32) * x2))))]) (h' := h) 31 rfl ⟨⟨ta0, q_tn k1⟩, ⟨k1, g4⟩, ⟨ta0, q_tn k1⟩, ⟨k1, g5⟩, ta0, trivial⟩ ?_
      obtain ⟨r6, e6, hf⟩ := q_bd hf
      refine v_callS C0 cokX5_forgedIn rfl (rest := []) (ctX5_in (q_lng h (q_ref σ a0 20) (Int32.toNatClampNeg (((100 : Int32) * x1) + ((2 : Int32) * x2)))) (0 : Int64) (Int32.toInt64 ((q_int h a0 0) - (1 : Int32))) e6) calX5_in lkX5_96 inX5_in dnX5_in rfl rfl ⟨by decide, by decide⟩ (Nat.le_of_ble_eq_true rfl) (Nat.le_refl _) (Nat.le_refl _) ?_
      refine v_if_eq C0 cokX5_forgedIn rfl 80 (by decide) hf (fun _ hf => ?_) (fun _ hf => ?_)
      · refine v_pick [2, 3, 4, 1, 0] rfl ?_
        exact n80 x2 (q_lng h (q_ref σ a0 20) (Int32.toNatClampNeg (((100 : Int32) * x1) + ((2 : Int32) * x2)))) (q_lng h (q_ref σ a0 20) (Int32.toNatClampNeg ((((100 : Int32) * x1) + ((2 : Int32) * x2)) + (1 : Int32)))) hf
      · refine v_run C0 tbX5 cokX5_forgedIn (pc' := 70) (lv' := [(5, .long (q_lng h (q_ref σ a0 20) (Int32.toNatClampNeg ((((100 : Int32) * x1) + ((2 : Int32) * x2)) + (1 : Int32))))), (3, .long (q_lng h (q_ref σ a0 20) (Int32.toNatClampNeg (((100 : Int32) * x1) + ((2 : Int32) * x2))))), (0, .ref a0), (1, .int x1), (2, .int x2)]) (st' := [.long (Int32.toInt64 ((q_int h a0 6) - (1 : Int32))), .long (0 : Int64), .long (q_lng h (q_ref σ a0 20) (Int32.toNatClampNeg ((((100 : Int32) * x1) + ((2 : Int32) * x2)) + (1 : Int32))))]) (h' := h) 7 rfl ⟨ta0, trivial⟩ ?_
        obtain ⟨r7, e7, hf⟩ := q_bd hf
        refine v_callS C0 cokX5_forgedIn rfl (rest := []) (ctX5_in (q_lng h (q_ref σ a0 20) (Int32.toNatClampNeg ((((100 : Int32) * x1) + ((2 : Int32) * x2)) + (1 : Int32)))) (0 : Int64) (Int32.toInt64 ((q_int h a0 6) - (1 : Int32))) e7) calX5_in lkX5_96 inX5_in dnX5_in rfl rfl ⟨by decide, by decide⟩ (Nat.le_of_ble_eq_true rfl) (Nat.le_refl _) (Nat.le_refl _) ?_
        refine v_if_eq C0 cokX5_forgedIn rfl 80 (by decide) hf (fun _ hf => ?_) (fun _ hf => ?_)
        · refine v_pick [2, 3, 4, 1, 0] rfl ?_
          exact n80 x2 (q_lng h (q_ref σ a0 20) (Int32.toNatClampNeg (((100 : Int32) * x1) + ((2 : Int32) * x2)))) (q_lng h (q_ref σ a0 20) (Int32.toNatClampNeg ((((100 : Int32) * x1) + ((2 : Int32) * x2)) + (1 : Int32)))) hf
        · refine v_run C0 tbX5 cokX5_forgedIn (pc' := 81) (lv' := [(5, .long (q_lng h (q_ref σ a0 20) (Int32.toNatClampNeg ((((100 : Int32) * x1) + ((2 : Int32) * x2)) + (1 : Int32))))), (3, .long (q_lng h (q_ref σ a0 20) (Int32.toNatClampNeg (((100 : Int32) * x1) + ((2 : Int32) * x2))))), (0, .ref a0), (1, .int x1), (2, .int x2)]) (st' := [.int (1 : Int32)]) (h' := h) 2 rfl trivial ?_
          refine v_pick [2, 3, 4, 1, 0] rfl ?_
          exact n81 x2 (q_lng h (q_ref σ a0 20) (Int32.toNatClampNeg (((100 : Int32) * x1) + ((2 : Int32) * x2)))) (q_lng h (q_ref σ a0 20) (Int32.toNatClampNeg ((((100 : Int32) * x1) + ((2 : Int32) * x2)) + (1 : Int32)))) (1 : Int32) hf
  refine v_run C0 tbX5 cokX5_forgedIn (pc' := 2) (lv' := [(2, .int (0 : Int32)), (0, .ref a0), (1, .int x1)]) (st' := []) (h' := h) 2 rfl trivial ?_
  obtain ⟨o1, eo1, hf⟩ := q_bd hf
  refine v_pick [1, 2, 0] rfl ?_
  refine n2 o1 (0 : Int32) eo1 (fun w2 hx => ?_) (fun r0 hx => ?_)
  · rw [← hx] at hf
    replace hf := q_el_l hf
    refine v_run C0 tbX5 cokX5_forgedIn (pc' := 110) (lv' := []) (st' := [.int (-4 : Int32)]) (h' := h) 1 rfl trivial ?_
    obtain rfl := Option.some.inj hf
    exact v_iret C0 cokX5_forgedIn hr hlk rfl
  · rw [← hx] at hf
    exact hf
-- BackByNoonOnMondayModel.forged(I)I
noncomputable def fX5_forged (σ : q_St) (h : q_Hp) (a0 : Nat) (x1 : Int32) : Option (Int32 × q_Hp) := ((fX5_wrongPairs σ (q_si h a0 21 (0 : Int32)) a0 x1).bind fun r1 => (if 0 ≤ r1 then ((fX5_forgedIn σ (q_si h a0 21 (0 : Int32)) a0 x1).bind fun r2 => some (r2, (q_si h a0 21 (0 : Int32)))) else ((fX5_wrongPairs σ (q_si h a0 21 (0 : Int32)) a0 x1).bind fun r3 => some (r3, (q_si h a0 21 (0 : Int32))))))
def cdX5_forged : q_Cd := [(0, .aload_n 0), (1, .iconst 0), (2, .putfield 89), (5, .aload_n 0), (6, .iload_n 1), (7, .invokevirtual 333), (10, .ifCond .ge 11), (13, .aload_n 0), (14, .iload_n 1), (15, .invokevirtual 333), (18, .goto 8), (21, .aload_n 0), (22, .iload_n 1), (23, .invokevirtual 336), (26, .ireturn)]
set_option maxRecDepth 100000 in
theorem cokX5_forged : q_cok cX5_forged cdX5_forged := by unfold q_cok; decide +kernel
set_option maxRecDepth 100000 in
set_option maxHeartbeats 4000000 in
theorem ctX5_forged {l : Launch} {D : va_G} {cy : Nat → Nat} {b0 : Nat} {σ : q_St} {h : q_Hp} (a0 : Nat) (x1 : Int32) {r : Int32} {h' : q_Hp} (ta0 : q_tag σ a0 = 6) (hf : fX5_forged σ h a0 x1 = some (r, h')) : q_M l yX5_forged cX5_forged 2 (some .int) 3 70 0 0 D cy b0 σ h [.ref a0, .int x1] (some (.int r)) σ h' := by
  unfold fX5_forged at hf
  refine q_enter (by decide) (Nat.le_of_ble_eq_true rfl) ?_
  intro p e s m args below meth c C0 hr hlk hnm
  replace C0 : VC p { frames := 3, cells := 0, slots := 0, locals := 70 } s m args meth c D cy b0 2 0 0 RX5 cX5_forged := C0
  refine v_run C0 tbX5 cokX5_forged (pc' := 7) (lv' := [(0, .ref a0), (1, .int x1)]) (st' := [.int x1, .ref a0]) (h' := (q_si h a0 21 (0 : Int32))) 5 rfl ⟨ta0, trivial⟩ ?_
  obtain ⟨r1, e1, hf⟩ := q_bd hf
  refine v_callV C0 cokX5_forged rfl (rest := []) (ctX5_wrongPairs a0 x1 ta0 e1) calX5_wrongPairs lkX5_333 inX5_wrongPairs dnX5_wrongPairs (ci := 5) ⟨rfl, by decide⟩ ta0 rfl rfl ⟨by decide, by decide⟩ (Nat.le_of_ble_eq_true rfl) (Nat.le_refl _) (Nat.le_refl _) ?_
  refine v_if_ge C0 cokX5_forged rfl 21 (by decide) hf (fun _ hf => ?_) (fun _ hf => ?_)
  · refine v_run C0 tbX5 cokX5_forged (pc' := 23) (lv' := [(0, .ref a0), (1, .int x1)]) (st' := [.int x1, .ref a0]) (h' := (q_si h a0 21 (0 : Int32))) 2 rfl trivial ?_
    obtain ⟨r2, e2, hf⟩ := q_bd hf
    refine v_callV C0 cokX5_forged rfl (rest := []) (ctX5_forgedIn a0 x1 ta0 e2) calX5_forgedIn lkX5_336 inX5_forgedIn dnX5_forgedIn (ci := 5) ⟨rfl, by decide⟩ ta0 rfl rfl ⟨by decide, by decide⟩ (Nat.le_of_ble_eq_true rfl) (Nat.le_refl _) (Nat.le_refl _) ?_
    obtain ⟨rfl, rfl⟩ := Prod.mk.inj (Option.some.inj hf)
    exact v_iret C0 cokX5_forged hr hlk rfl
  · refine v_run C0 tbX5 cokX5_forged (pc' := 15) (lv' := [(0, .ref a0), (1, .int x1)]) (st' := [.int x1, .ref a0]) (h' := (q_si h a0 21 (0 : Int32))) 2 rfl trivial ?_
    obtain ⟨r3, e3, hf⟩ := q_bd hf
    refine v_callV C0 cokX5_forged rfl (rest := []) (ctX5_wrongPairs a0 x1 ta0 e3) calX5_wrongPairs lkX5_333 inX5_wrongPairs dnX5_wrongPairs (ci := 5) ⟨rfl, by decide⟩ ta0 rfl rfl ⟨by decide, by decide⟩ (Nat.le_of_ble_eq_true rfl) (Nat.le_refl _) (Nat.le_refl _) ?_
    refine v_run C0 tbX5 cokX5_forged (pc' := 26) (lv' := [(0, .ref a0), (1, .int x1)]) (st' := [.int r3]) (h' := (q_si h a0 21 (0 : Int32))) 1 rfl trivial ?_
    obtain ⟨rfl, rfl⟩ := Prod.mk.inj (Option.some.inj hf)
    exact v_iret C0 cokX5_forged hr hlk rfl
-- BackByNoonOnMondayModel.hadAll(III)Z
noncomputable def fX5_hadAll_58 (σ : q_St) (h : q_Hp) (a0 : Nat) (x1 : Int32) (x2 : Int32) (x3 : Int32) (x5 : Int32) (s0 : Int32) (s1 : Int32) : Option ((Int32 × Int32) ⊕ Int32) := some (Sum.inl ((s1 ||| s0), (x5 + (2 : Int32))))
noncomputable def fX5_hadAll_6 (σ : q_St) (h : q_Hp) (a0 : Nat) (x1 : Int32) (x2 : Int32) (x3 : Int32) (x4 : Int32) (x5 : Int32) : Option ((Int32 × Int32) ⊕ Int32) := q_gu ((vp_in x3 (q_len σ (q_ref σ a0 19)))) ((if (q_int h (q_ref σ a0 19) (Int32.toNatClampNeg x3)) ≤ x5 then some (Sum.inr x4) else q_gu ((vp_in ((((100 : Int32) * x3) + x5) + (1 : Int32)) (q_len σ (q_ref σ a0 20)))) ((if (lg_cmp (q_lng h (q_ref σ a0 20) (Int32.toNatClampNeg ((((100 : Int32) * x3) + x5) + (1 : Int32)))) (Int32.toInt64 x1)) = 0 then q_gu ((vp_in (((100 : Int32) * x3) + x5) (q_len σ (q_ref σ a0 20)))) (fX5_hadAll_58 σ h a0 x1 x2 x3 x5 ((1 : Int32) <<< ((Int64.toInt32 (q_lng h (q_ref σ a0 20) (Int32.toNatClampNeg (((100 : Int32) * x3) + x5)))) &&& 31)) x4) else fX5_hadAll_58 σ h a0 x1 x2 x3 x5 (0 : Int32) x4))))
noncomputable def fX5_hadAll (σ : q_St) (h : q_Hp) (a0 : Nat) (x1 : Int32) (x2 : Int32) (x3 : Int32) : Option Int32 := q_gu ((q_tag σ (q_ref σ a0 19) = 7) ∧ (q_tag σ (q_ref σ a0 20) = 8)) ((q_loop (fun s => fX5_hadAll_6 σ h a0 x1 x2 x3 s.1 s.2) q_N ((0 : Int32), (0 : Int32))).bind fun o1 => (if (x2 &&& (o1 ^^^ (-1 : Int32))) = 0 then some (1 : Int32) else some (0 : Int32)))
def cdX5_hadAll : q_Cd := [(0, .iconst 0), (1, .istore 4), (3, .iconst 0), (4, .istore 5), (6, .iload 5), (8, .aload_n 0), (9, .getfield 55), (12, .iload_n 3), (13, .iaload), (14, .if_icmp .ge 53), (17, .iload 4), (19, .aload_n 0), (20, .getfield 58), (23, .bipush 100), (25, .iload_n 3), (26, .imul), (27, .iload 5), (29, .iadd), (30, .iconst 1), (31, .iadd), (32, .laload), (33, .iload_n 1), (34, .i2l), (35, .lcmp), (36, .ifCond .ne 21), (39, .iconst 1), (40, .aload_n 0), (41, .getfield 58), (44, .bipush 100), (46, .iload_n 3), (47, .imul), (48, .iload 5), (50, .iadd), (51, .laload), (52, .l2i), (53, .ishl), (54, .goto 4), (57, .iconst 0), (58, .ior), (59, .istore 4), (61, .iinc 5 2), (64, .goto (-58)), (67, .iload_n 2), (68, .iload 4), (70, .iconst (-1)), (71, .ixor), (72, .iand), (73, .ifCond .ne 7), (76, .iconst 1), (77, .goto 4), (80, .iconst 0), (81, .ireturn)]
set_option maxRecDepth 100000 in
theorem cokX5_hadAll : q_cok cX5_hadAll cdX5_hadAll := by unfold q_cok; decide +kernel
set_option maxRecDepth 100000 in
set_option maxHeartbeats 4000000 in
theorem ctX5_hadAll {l : Launch} {D : va_G} {cy : Nat → Nat} {b0 : Nat} {σ : q_St} {h : q_Hp} (a0 : Nat) (x1 : Int32) (x2 : Int32) (x3 : Int32) {r : Int32} (ta0 : q_tag σ a0 = 6) (hf : fX5_hadAll σ h a0 x1 x2 x3 = some r) : q_M l yX5_hadAll cX5_hadAll 6 (some .boolean) 0 0 0 0 D cy b0 σ h [.ref a0, .int x1, .int x2, .int x3] (some (.int r)) σ h := by
  unfold fX5_hadAll at hf
  obtain ⟨⟨k0, k1⟩, hf⟩ := q_gu_o hf
  refine q_enter (by decide) (Nat.le_of_ble_eq_true rfl) ?_
  intro p e s m args below meth c C0 hr hlk hnm
  replace C0 : VC p { frames := 0, cells := 0, slots := 0, locals := 0 } s m args meth c D cy b0 6 0 0 RX5 cX5_hadAll := C0
  have n6 : ∀ (o : Int32) (s1 : (Int32 × Int32)), q_loop (fun s => fX5_hadAll_6 σ h a0 x1 x2 x3 s.1 s.2) q_N s1 = some o → V p l e { frames := 0, cells := 0, slots := 0, locals := 0 } s m args below meth c (MQ below (q_Qc D cy b0 (some (.int r)) σ h) args s 0 0 (fun q => b0 ≤ q)) D cy b0 6 0 0 0 0 σ h 67 [(2, .int x2), (4, .int o)] [] → V p l e { frames := 0, cells := 0, slots := 0, locals := 0 } s m args below meth c (MQ below (q_Qc D cy b0 (some (.int r)) σ h) args s 0 0 (fun q => b0 ≤ q)) D cy b0 6 0 0 0 0 σ h 6 [(0, .ref a0), (1, .int x1), (2, .int x2), (3, .int x3), (4, .int s1.1), (5, .int s1.2)] [] := by
    intro o s1 ho kx1
    refine q_loop_V (P := fun s0 => V p l e { frames := 0, cells := 0, slots := 0, locals := 0 } s m args below meth c (MQ below (q_Qc D cy b0 (some (.int r)) σ h) args s 0 0 (fun q => b0 ≤ q)) D cy b0 6 0 0 0 0 σ h 6 [(0, .ref a0), (1, .int x1), (2, .int x2), (3, .int x3), (4, .int s0.1), (5, .int s0.2)] []) (o := o) ?_ q_N s1 ho
    intro s2 z1 hf kb1 kr1
    obtain ⟨x4, x5⟩ := s2
    replace hf : fX5_hadAll_6 σ h a0 x1 x2 x3 x4 x5 = some z1 := hf
    unfold fX5_hadAll_6 at hf
    show V p l e { frames := 0, cells := 0, slots := 0, locals := 0 } s m args below meth c (MQ below (q_Qc D cy b0 (some (.int r)) σ h) args s 0 0 (fun q => b0 ≤ q)) D cy b0 6 0 0 0 0 σ h 6 [(0, .ref a0), (1, .int x1), (2, .int x2), (3, .int x3), (4, .int x4), (5, .int x5)] []
    have n58 : ∀ (x5 : Int32) (s0 : Int32) (s1 : Int32), fX5_hadAll_58 σ h a0 x1 x2 x3 x5 s0 s1 = some z1 → V p l e { frames := 0, cells := 0, slots := 0, locals := 0 } s m args below meth c (MQ below (q_Qc D cy b0 (some (.int r)) σ h) args s 0 0 (fun q => b0 ≤ q)) D cy b0 6 0 0 0 0 σ h 58 [(0, .ref a0), (1, .int x1), (2, .int x2), (3, .int x3), (5, .int x5)] [.int s0, .int s1] := by
      intro x5 s0 s1 hf
      unfold fX5_hadAll_58 at hf
      refine v_run C0 tbX5 cokX5_hadAll (pc' := 6) (lv' := [(5, .int (x5 + (2 : Int32))), (4, .int (s1 ||| s0)), (0, .ref a0), (1, .int x1), (2, .int x2), (3, .int x3)]) (st' := []) (h' := h) 4 rfl trivial ?_
      obtain rfl := Option.some.inj hf
      refine v_pick [2, 3, 4, 5, 1, 0] rfl ?_
      exact kb1 _ rfl
    obtain ⟨g2, hf⟩ := q_gu_o hf
    refine v_run C0 tbX5 cokX5_hadAll (pc' := 14) (lv' := [(0, .ref a0), (1, .int x1), (2, .int x2), (3, .int x3), (4, .int x4), (5, .int x5)]) (st' := [.int (q_int h (q_ref σ a0 19) (Int32.toNatClampNeg x3)), .int x5]) (h' := h) 5 rfl ⟨⟨ta0, q_tn k0⟩, ⟨k0, g2⟩, trivial⟩ ?_
    refine v_icmp_ge C0 cokX5_hadAll rfl 67 (by decide) hf (fun _ hf => ?_) (fun _ hf => ?_)
    · obtain rfl := Option.some.inj hf
      refine v_pick [2, 4] rfl ?_
      have hx := kr1 _ rfl
      subst hx
      exact kx1
    · obtain ⟨g3, hf⟩ := q_gu_o hf
      refine v_run C0 tbX5 cokX5_hadAll (pc' := 36) (lv' := [(0, .ref a0), (1, .int x1), (2, .int x2), (3, .int x3), (4, .int x4), (5, .int x5)]) (st' := [.int (lg_cmp (q_lng h (q_ref σ a0 20) (Int32.toNatClampNeg ((((100 : Int32) * x3) + x5) + (1 : Int32)))) (Int32.toInt64 x1)), .int x4]) (h' := h) 14 rfl ⟨⟨ta0, q_tn k1⟩, ⟨k1, g3⟩, trivial⟩ ?_
      refine v_if_ne C0 cokX5_hadAll rfl 57 (by decide) hf (fun _ hf => ?_) (fun _ hf => ?_)
      · obtain ⟨g4, hf⟩ := q_gu_o hf
        refine v_run C0 tbX5 cokX5_hadAll (pc' := 58) (lv' := [(0, .ref a0), (1, .int x1), (2, .int x2), (3, .int x3), (4, .int x4), (5, .int x5)]) (st' := [.int ((1 : Int32) <<< ((Int64.toInt32 (q_lng h (q_ref σ a0 20) (Int32.toNatClampNeg (((100 : Int32) * x3) + x5)))) &&& 31)), .int x4]) (h' := h) 12 rfl ⟨⟨ta0, q_tn k1⟩, ⟨k1, g4⟩, trivial⟩ ?_
        refine v_pick [0, 1, 2, 3, 5] rfl ?_
        exact n58 x5 ((1 : Int32) <<< ((Int64.toInt32 (q_lng h (q_ref σ a0 20) (Int32.toNatClampNeg (((100 : Int32) * x3) + x5)))) &&& 31)) x4 hf
      · refine v_run C0 tbX5 cokX5_hadAll (pc' := 58) (lv' := [(0, .ref a0), (1, .int x1), (2, .int x2), (3, .int x3), (4, .int x4), (5, .int x5)]) (st' := [.int (0 : Int32), .int x4]) (h' := h) 1 rfl trivial ?_
        refine v_pick [0, 1, 2, 3, 5] rfl ?_
        exact n58 x5 (0 : Int32) x4 hf
  refine v_run C0 tbX5 cokX5_hadAll (pc' := 6) (lv' := [(5, .int (0 : Int32)), (4, .int (0 : Int32)), (0, .ref a0), (1, .int x1), (2, .int x2), (3, .int x3)]) (st' := []) (h' := h) 4 rfl trivial ?_
  obtain ⟨o1, eo1, hf⟩ := q_bd hf
  refine v_pick [2, 3, 4, 5, 1, 0] rfl ?_
  refine n6 o1 ((0 : Int32), (0 : Int32)) eo1 ?_
  refine v_run C0 tbX5 cokX5_hadAll (pc' := 73) (lv' := [(2, .int x2), (4, .int o1)]) (st' := [.int (x2 &&& (o1 ^^^ (-1 : Int32)))]) (h' := h) 5 rfl trivial ?_
  refine v_if_ne C0 cokX5_hadAll rfl 80 (by decide) hf (fun _ hf => ?_) (fun _ hf => ?_)
  · refine v_run C0 tbX5 cokX5_hadAll (pc' := 81) (lv' := [(2, .int x2), (4, .int o1)]) (st' := [.int (1 : Int32)]) (h' := h) 2 rfl trivial ?_
    obtain rfl := Option.some.inj hf
    exact v_zret C0 cokX5_hadAll hr hlk rfl (Or.inr rfl)
  · refine v_run C0 tbX5 cokX5_hadAll (pc' := 81) (lv' := [(2, .int x2), (4, .int o1)]) (st' := [.int (0 : Int32)]) (h' := h) 1 rfl trivial ?_
    obtain rfl := Option.some.inj hf
    exact v_zret C0 cokX5_hadAll hr hlk rfl (Or.inl rfl)
-- BackByNoonOnMondayModel.stained(III)I
noncomputable def fX5_stained_127 (σ : q_St) (h : q_Hp) (a0 : Nat) (x1 : Int32) (x2 : Int32) (x3 : Int32) (x5 : Int32) (x7 : Int32) (s0 : Int32) : Option ((Int32 × Int32 × Int32 × q_Hp) ⊕ (Int32 × Int32 × q_Hp)) := some (Sum.inl (x5, s0, (x7 + (-1 : Int32)), h))
noncomputable def fX5_stained_106 (σ : q_St) (h : q_Hp) (a0 : Nat) (x1 : Int32) (x2 : Int32) (x3 : Int32) (x6 : Int32) (x7 : Int32) (s0 : Int32) (s1 : Int32) : Option ((Int32 × Int32 × Int32 × q_Hp) ⊕ (Int32 × Int32 × q_Hp)) := ((fX5_hadAll σ h a0 x7 x2 x1).bind fun r7 => (if r7 = 0 then fX5_stained_127 σ h a0 x1 x2 x3 (s1 + s0) x7 x6 else fX5_stained_127 σ h a0 x1 x2 x3 (s1 + s0) x7 x7))
noncomputable def fX5_stained_83 (σ : q_St) (a0 : Nat) (x1 : Int32) (x2 : Int32) (x3 : Int32) (x5 : Int32) (x6 : Int32) (x7 : Int32) (h : q_Hp) : Option ((Int32 × Int32 × Int32 × q_Hp) ⊕ (Int32 × Int32 × q_Hp)) := (if x7 < 0 then some (Sum.inr (x5, x6, h)) else ((fX5_hadAll σ h a0 x7 x2 x1).bind fun r6 => (if r6 = 0 then fX5_stained_106 σ h a0 x1 x2 x3 x6 x7 (0 : Int32) x5 else fX5_stained_106 σ h a0 x1 x2 x3 x6 x7 (1 : Int32) x5)))
noncomputable def fX5_stained_58 (σ : q_St) (h : q_Hp) (a0 : Nat) (x1 : Int32) (x2 : Int32) (x3 : Int32) (s0 : Int32) : Option (Int32 × q_Hp) := (if 0 ≤ s0 then (q_loop (fun s => fX5_stained_83 σ a0 x1 x2 x3 s.1 s.2.1 s.2.2.1 s.2.2.2) q_N ((0 : Int32), (-4 : Int32), ((q_int h a0 6) - (1 : Int32)), h)).bind fun o5 => (if x3 = 0 then some (o5.1, o5.2.2) else some (o5.2.1, o5.2.2)) else some (s0, h))
noncomputable def fX5_stained_56 (σ : q_St) (h : q_Hp) (a0 : Nat) (x1 : Int32) (x2 : Int32) (x3 : Int32) (x4 : Int32) : Option (Int32 × q_Hp) := fX5_stained_58 σ h a0 x1 x2 x3 x4
noncomputable def fX5_stained_36 (σ : q_St) (h : q_Hp) (a0 : Nat) (x1 : Int32) (x2 : Int32) (x3 : Int32) (s0 : Int32) : Option (Int32 × q_Hp) := (if s0 = 0 then ((fX5_forgedIn σ h a0 x1).bind fun r4 => (if r4 < 0 then fX5_stained_56 σ h a0 x1 x2 x3 s0 else fX5_stained_58 σ h a0 x1 x2 x3 (-13 : Int32))) else fX5_stained_56 σ h a0 x1 x2 x3 s0)
noncomputable def fX5_stained_35 (σ : q_St) (h : q_Hp) (a0 : Nat) (x1 : Int32) (x2 : Int32) (x3 : Int32) : Option (Int32 × q_Hp) := fX5_stained_36 σ h a0 x1 x2 x3 (-1 : Int32)
noncomputable def fX5_stained (σ : q_St) (h : q_Hp) (a0 : Nat) (x1 : Int32) (x2 : Int32) (x3 : Int32) : Option (Int32 × q_Hp) := ((fX5_in σ (q_si h a0 21 (0 : Int32)) (Int32.toInt64 x2) (0 : Int64) (127 : Int64)).bind fun r1 => (if r1 = 0 then fX5_stained_35 σ (q_si h a0 21 (0 : Int32)) a0 x1 x2 x3 else ((fX5_in σ (q_si h a0 21 (0 : Int32)) (Int32.toInt64 x3) (0 : Int64) (1 : Int64)).bind fun r2 => (if r2 = 0 then fX5_stained_35 σ (q_si h a0 21 (0 : Int32)) a0 x1 x2 x3 else ((fX5_wrongPairs σ (q_si h a0 21 (0 : Int32)) a0 x1).bind fun r3 => fX5_stained_36 σ (q_si h a0 21 (0 : Int32)) a0 x1 x2 x3 r3)))))
def cdX5_stained : q_Cd := [(0, .aload_n 0), (1, .iconst 0), (2, .putfield 89), (5, .iload_n 2), (6, .i2l), (7, .lconst 0), (8, .ldc2_w 339), (11, .invokestatic 96), (14, .ifCond .eq 21), (17, .iload_n 3), (18, .i2l), (19, .lconst 0), (20, .lconst 1), (21, .invokestatic 96), (24, .ifCond .eq 11), (27, .aload_n 0), (28, .iload_n 1), (29, .invokevirtual 333), (32, .goto 4), (35, .iconst (-1)), (36, .istore 4), (38, .iload 4), (40, .ifCond .ne 16), (43, .aload_n 0), (44, .iload_n 1), (45, .invokevirtual 336), (48, .ifCond .lt 8), (51, .bipush (-13)), (53, .goto 5), (56, .iload 4), (58, .istore 4), (60, .iload 4), (62, .ifCond .ge 6), (65, .iload 4), (67, .ireturn), (68, .iconst 0), (69, .istore 5), (71, .bipush (-4)), (73, .istore 6), (75, .aload_n 0), (76, .getfield 100), (79, .iconst 1), (80, .isub), (81, .istore 7), (83, .iload 7), (85, .ifCond .lt 50), (88, .iload 5), (90, .aload_n 0), (91, .iload 7), (93, .iload_n 2), (94, .iload_n 1), (95, .invokevirtual 341), (98, .ifCond .eq 7), (101, .iconst 1), (102, .goto 4), (105, .iconst 0), (106, .iadd), (107, .istore 5), (109, .aload_n 0), (110, .iload 7), (112, .iload_n 2), (113, .iload_n 1), (114, .invokevirtual 341), (117, .ifCond .eq 8), (120, .iload 7), (122, .goto 5), (125, .iload 6), (127, .istore 6), (129, .iinc 7 (-1)), (132, .goto (-49)), (135, .iload_n 3), (136, .ifCond .ne 8), (139, .iload 5), (141, .goto 5), (144, .iload 6), (146, .ireturn)]
set_option maxRecDepth 100000 in
theorem cokX5_stained : q_cok cX5_stained cdX5_stained := by unfold q_cok; decide +kernel
set_option maxRecDepth 100000 in
set_option maxHeartbeats 4000000 in
theorem ctX5_stained {l : Launch} {D : va_G} {cy : Nat → Nat} {b0 : Nat} {σ : q_St} {h : q_Hp} (a0 : Nat) (x1 : Int32) (x2 : Int32) (x3 : Int32) {r : Int32} {h' : q_Hp} (ta0 : q_tag σ a0 = 6) (hf : fX5_stained σ h a0 x1 x2 x3 = some (r, h')) : q_M l yX5_stained cX5_stained 8 (some .int) 3 70 0 0 D cy b0 σ h [.ref a0, .int x1, .int x2, .int x3] (some (.int r)) σ h' := by
  unfold fX5_stained at hf
  refine q_enter (by decide) (Nat.le_of_ble_eq_true rfl) ?_
  intro p e s m args below meth c C0 hr hlk hnm
  replace C0 : VC p { frames := 3, cells := 0, slots := 0, locals := 70 } s m args meth c D cy b0 8 0 0 RX5 cX5_stained := C0
  have n83 : ∀ (o : (Int32 × Int32 × q_Hp)) (s1 : (Int32 × Int32 × Int32 × q_Hp)), q_loop (fun s => fX5_stained_83 σ a0 x1 x2 x3 s.1 s.2.1 s.2.2.1 s.2.2.2) q_N s1 = some o → V p l e { frames := 3, cells := 0, slots := 0, locals := 70 } s m args below meth c (MQ below (q_Qc D cy b0 (some (.int r)) σ h') args s 0 0 (fun q => b0 ≤ q)) D cy b0 8 0 0 0 0 σ o.2.2 135 [(3, .int x3), (5, .int o.1), (6, .int o.2.1)] [] → V p l e { frames := 3, cells := 0, slots := 0, locals := 70 } s m args below meth c (MQ below (q_Qc D cy b0 (some (.int r)) σ h') args s 0 0 (fun q => b0 ≤ q)) D cy b0 8 0 0 0 0 σ s1.2.2.2 83 [(0, .ref a0), (1, .int x1), (2, .int x2), (3, .int x3), (5, .int s1.1), (6, .int s1.2.1), (7, .int s1.2.2.1)] [] := by
    intro o s1 ho kx1
    refine q_loop_V (P := fun s0 => V p l e { frames := 3, cells := 0, slots := 0, locals := 70 } s m args below meth c (MQ below (q_Qc D cy b0 (some (.int r)) σ h') args s 0 0 (fun q => b0 ≤ q)) D cy b0 8 0 0 0 0 σ s0.2.2.2 83 [(0, .ref a0), (1, .int x1), (2, .int x2), (3, .int x3), (5, .int s0.1), (6, .int s0.2.1), (7, .int s0.2.2.1)] []) (o := o) ?_ q_N s1 ho
    intro s2 z1 hf kb1 kr1
    obtain ⟨x5, x6, x7, h⟩ := s2
    replace hf : fX5_stained_83 σ a0 x1 x2 x3 x5 x6 x7 h = some z1 := hf
    unfold fX5_stained_83 at hf
    show V p l e { frames := 3, cells := 0, slots := 0, locals := 70 } s m args below meth c (MQ below (q_Qc D cy b0 (some (.int r)) σ h') args s 0 0 (fun q => b0 ≤ q)) D cy b0 8 0 0 0 0 σ h 83 [(0, .ref a0), (1, .int x1), (2, .int x2), (3, .int x3), (5, .int x5), (6, .int x6), (7, .int x7)] []
    have n127 : ∀ (h : q_Hp) (x5 : Int32) (x7 : Int32) (s0 : Int32), fX5_stained_127 σ h a0 x1 x2 x3 x5 x7 s0 = some z1 → V p l e { frames := 3, cells := 0, slots := 0, locals := 70 } s m args below meth c (MQ below (q_Qc D cy b0 (some (.int r)) σ h') args s 0 0 (fun q => b0 ≤ q)) D cy b0 8 0 0 0 0 σ h 127 [(0, .ref a0), (1, .int x1), (2, .int x2), (3, .int x3), (5, .int x5), (7, .int x7)] [.int s0] := by
      intro h x5 x7 s0 hf
      unfold fX5_stained_127 at hf
      refine v_run C0 tbX5 cokX5_stained (pc' := 83) (lv' := [(7, .int (x7 + (-1 : Int32))), (6, .int s0), (0, .ref a0), (1, .int x1), (2, .int x2), (3, .int x3), (5, .int x5)]) (st' := []) (h' := h) 3 rfl trivial ?_
      obtain rfl := Option.some.inj hf
      refine v_pick [2, 3, 4, 5, 6, 1, 0] rfl ?_
      exact kb1 _ rfl
    have n106 : ∀ (h : q_Hp) (x6 : Int32) (x7 : Int32) (s0 : Int32) (s1 : Int32), fX5_stained_106 σ h a0 x1 x2 x3 x6 x7 s0 s1 = some z1 → V p l e { frames := 3, cells := 0, slots := 0, locals := 70 } s m args below meth c (MQ below (q_Qc D cy b0 (some (.int r)) σ h') args s 0 0 (fun q => b0 ≤ q)) D cy b0 8 0 0 0 0 σ h 106 [(0, .ref a0), (1, .int x1), (2, .int x2), (3, .int x3), (6, .int x6), (7, .int x7)] [.int s0, .int s1] := by
      intro h x6 x7 s0 s1 hf
      unfold fX5_stained_106 at hf
      refine v_run C0 tbX5 cokX5_stained (pc' := 114) (lv' := [(5, .int (s1 + s0)), (0, .ref a0), (1, .int x1), (2, .int x2), (3, .int x3), (6, .int x6), (7, .int x7)]) (st' := [.int x1, .int x2, .int x7, .ref a0]) (h' := h) 6 rfl trivial ?_
      obtain ⟨r7, e7, hf⟩ := q_bd hf
      refine v_callV C0 cokX5_stained rfl (rest := []) (ctX5_hadAll a0 x7 x2 x1 ta0 e7) calX5_hadAll lkX5_341 inX5_hadAll dnX5_hadAll (ci := 5) ⟨rfl, by decide⟩ ta0 rfl rfl ⟨by decide, by decide⟩ (Nat.le_of_ble_eq_true rfl) (Nat.le_refl _) (Nat.le_refl _) ?_
      refine v_if_eq C0 cokX5_stained rfl 125 (by decide) hf (fun _ hf => ?_) (fun _ hf => ?_)
      · refine v_run C0 tbX5 cokX5_stained (pc' := 127) (lv' := [(5, .int (s1 + s0)), (0, .ref a0), (1, .int x1), (2, .int x2), (3, .int x3), (6, .int x6), (7, .int x7)]) (st' := [.int x6]) (h' := h) 1 rfl trivial ?_
        refine v_pick [1, 2, 3, 4, 0, 6] rfl ?_
        exact n127 h (s1 + s0) x7 x6 hf
      · refine v_run C0 tbX5 cokX5_stained (pc' := 127) (lv' := [(5, .int (s1 + s0)), (0, .ref a0), (1, .int x1), (2, .int x2), (3, .int x3), (6, .int x6), (7, .int x7)]) (st' := [.int x7]) (h' := h) 2 rfl trivial ?_
        refine v_pick [1, 2, 3, 4, 0, 6] rfl ?_
        exact n127 h (s1 + s0) x7 x7 hf
    refine v_run C0 tbX5 cokX5_stained (pc' := 85) (lv' := [(0, .ref a0), (1, .int x1), (2, .int x2), (3, .int x3), (5, .int x5), (6, .int x6), (7, .int x7)]) (st' := [.int x7]) (h' := h) 1 rfl trivial ?_
    refine v_if_lt C0 cokX5_stained rfl 135 (by decide) hf (fun _ hf => ?_) (fun _ hf => ?_)
    · obtain rfl := Option.some.inj hf
      refine v_pick [3, 4, 5] rfl ?_
      have hx := kr1 _ rfl
      subst hx
      exact kx1
    · refine v_run C0 tbX5 cokX5_stained (pc' := 95) (lv' := [(0, .ref a0), (1, .int x1), (2, .int x2), (3, .int x3), (5, .int x5), (6, .int x6), (7, .int x7)]) (st' := [.int x1, .int x2, .int x7, .ref a0, .int x5]) (h' := h) 5 rfl trivial ?_
      obtain ⟨r6, e6, hf⟩ := q_bd hf
      refine v_callV C0 cokX5_stained rfl (rest := [.int x5]) (ctX5_hadAll a0 x7 x2 x1 ta0 e6) calX5_hadAll lkX5_341 inX5_hadAll dnX5_hadAll (ci := 5) ⟨rfl, by decide⟩ ta0 rfl rfl ⟨by decide, by decide⟩ (Nat.le_of_ble_eq_true rfl) (Nat.le_refl _) (Nat.le_refl _) ?_
      refine v_if_eq C0 cokX5_stained rfl 105 (by decide) hf (fun _ hf => ?_) (fun _ hf => ?_)
      · refine v_run C0 tbX5 cokX5_stained (pc' := 106) (lv' := [(0, .ref a0), (1, .int x1), (2, .int x2), (3, .int x3), (5, .int x5), (6, .int x6), (7, .int x7)]) (st' := [.int (0 : Int32), .int x5]) (h' := h) 1 rfl trivial ?_
        refine v_pick [0, 1, 2, 3, 5, 6] rfl ?_
        exact n106 h x6 x7 (0 : Int32) x5 hf
      · refine v_run C0 tbX5 cokX5_stained (pc' := 106) (lv' := [(0, .ref a0), (1, .int x1), (2, .int x2), (3, .int x3), (5, .int x5), (6, .int x6), (7, .int x7)]) (st' := [.int (1 : Int32), .int x5]) (h' := h) 2 rfl trivial ?_
        refine v_pick [0, 1, 2, 3, 5, 6] rfl ?_
        exact n106 h x6 x7 (1 : Int32) x5 hf
  have n58 : ∀ (h : q_Hp) (s0 : Int32), fX5_stained_58 σ h a0 x1 x2 x3 s0 = some (r, h') → V p l e { frames := 3, cells := 0, slots := 0, locals := 70 } s m args below meth c (MQ below (q_Qc D cy b0 (some (.int r)) σ h') args s 0 0 (fun q => b0 ≤ q)) D cy b0 8 0 0 0 0 σ h 58 [(0, .ref a0), (1, .int x1), (2, .int x2), (3, .int x3)] [.int s0] := by
    intro h s0 hf
    unfold fX5_stained_58 at hf
    refine v_run C0 tbX5 cokX5_stained (pc' := 62) (lv' := [(4, .int s0), (0, .ref a0), (1, .int x1), (2, .int x2), (3, .int x3)]) (st' := [.int s0]) (h' := h) 2 rfl trivial ?_
    refine v_if_ge C0 cokX5_stained rfl 68 (by decide) hf (fun _ hf => ?_) (fun _ hf => ?_)
    · refine v_run C0 tbX5 cokX5_stained (pc' := 83) (lv' := [(7, .int ((q_int h a0 6) - (1 : Int32))), (6, .int (-4 : Int32)), (5, .int (0 : Int32)), (4, .int s0), (0, .ref a0), (1, .int x1), (2, .int x2), (3, .int x3)]) (st' := []) (h' := h) 9 rfl ⟨ta0, trivial⟩ ?_
      obtain ⟨o5, eo5, hf⟩ := q_bd hf
      refine v_pick [4, 5, 6, 7, 2, 1, 0] rfl ?_
      refine n83 o5 ((0 : Int32), (-4 : Int32), ((q_int h a0 6) - (1 : Int32)), h) eo5 ?_
      refine v_run C0 tbX5 cokX5_stained (pc' := 136) (lv' := [(3, .int x3), (5, .int o5.1), (6, .int o5.2.1)]) (st' := [.int x3]) (h' := o5.2.2) 1 rfl trivial ?_
      refine v_if_ne C0 cokX5_stained rfl 144 (by decide) hf (fun _ hf => ?_) (fun _ hf => ?_)
      · refine v_run C0 tbX5 cokX5_stained (pc' := 146) (lv' := [(3, .int x3), (5, .int o5.1), (6, .int o5.2.1)]) (st' := [.int o5.1]) (h' := o5.2.2) 2 rfl trivial ?_
        obtain ⟨rfl, rfl⟩ := Prod.mk.inj (Option.some.inj hf)
        exact v_iret C0 cokX5_stained hr hlk rfl
      · refine v_run C0 tbX5 cokX5_stained (pc' := 146) (lv' := [(3, .int x3), (5, .int o5.1), (6, .int o5.2.1)]) (st' := [.int o5.2.1]) (h' := o5.2.2) 1 rfl trivial ?_
        obtain ⟨rfl, rfl⟩ := Prod.mk.inj (Option.some.inj hf)
        exact v_iret C0 cokX5_stained hr hlk rfl
    · refine v_run C0 tbX5 cokX5_stained (pc' := 67) (lv' := [(4, .int s0), (0, .ref a0), (1, .int x1), (2, .int x2), (3, .int x3)]) (st' := [.int s0]) (h' := h) 1 rfl trivial ?_
      obtain ⟨rfl, rfl⟩ := Prod.mk.inj (Option.some.inj hf)
      exact v_iret C0 cokX5_stained hr hlk rfl
  have n56 : ∀ (h : q_Hp) (x4 : Int32), fX5_stained_56 σ h a0 x1 x2 x3 x4 = some (r, h') → V p l e { frames := 3, cells := 0, slots := 0, locals := 70 } s m args below meth c (MQ below (q_Qc D cy b0 (some (.int r)) σ h') args s 0 0 (fun q => b0 ≤ q)) D cy b0 8 0 0 0 0 σ h 56 [(0, .ref a0), (1, .int x1), (2, .int x2), (3, .int x3), (4, .int x4)] [] := by
    intro h x4 hf
    unfold fX5_stained_56 at hf
    refine v_run C0 tbX5 cokX5_stained (pc' := 58) (lv' := [(0, .ref a0), (1, .int x1), (2, .int x2), (3, .int x3), (4, .int x4)]) (st' := [.int x4]) (h' := h) 1 rfl trivial ?_
    refine v_pick [0, 1, 2, 3] rfl ?_
    exact n58 h x4 hf
  have n36 : ∀ (h : q_Hp) (s0 : Int32), fX5_stained_36 σ h a0 x1 x2 x3 s0 = some (r, h') → V p l e { frames := 3, cells := 0, slots := 0, locals := 70 } s m args below meth c (MQ below (q_Qc D cy b0 (some (.int r)) σ h') args s 0 0 (fun q => b0 ≤ q)) D cy b0 8 0 0 0 0 σ h 36 [(0, .ref a0), (1, .int x1), (2, .int x2), (3, .int x3)] [.int s0] := by
    intro h s0 hf
    unfold fX5_stained_36 at hf
    refine v_run C0 tbX5 cokX5_stained (pc' := 40) (lv' := [(4, .int s0), (0, .ref a0), (1, .int x1), (2, .int x2), (3, .int x3)]) (st' := [.int s0]) (h' := h) 2 rfl trivial ?_
    refine v_if_ne C0 cokX5_stained rfl 56 (by decide) hf (fun _ hf => ?_) (fun _ hf => ?_)
    · refine v_run C0 tbX5 cokX5_stained (pc' := 45) (lv' := [(4, .int s0), (0, .ref a0), (1, .int x1), (2, .int x2), (3, .int x3)]) (st' := [.int x1, .ref a0]) (h' := h) 2 rfl trivial ?_
      obtain ⟨r4, e4, hf⟩ := q_bd hf
      refine v_callV C0 cokX5_stained rfl (rest := []) (ctX5_forgedIn a0 x1 ta0 e4) calX5_forgedIn lkX5_336 inX5_forgedIn dnX5_forgedIn (ci := 5) ⟨rfl, by decide⟩ ta0 rfl rfl ⟨by decide, by decide⟩ (Nat.le_of_ble_eq_true rfl) (Nat.le_refl _) (Nat.le_refl _) ?_
      refine v_if_lt C0 cokX5_stained rfl 56 (by decide) hf (fun _ hf => ?_) (fun _ hf => ?_)
      · refine v_pick [1, 2, 3, 4, 0] rfl ?_
        exact n56 h s0 hf
      · refine v_run C0 tbX5 cokX5_stained (pc' := 58) (lv' := [(4, .int s0), (0, .ref a0), (1, .int x1), (2, .int x2), (3, .int x3)]) (st' := [.int (-13 : Int32)]) (h' := h) 2 rfl trivial ?_
        refine v_pick [1, 2, 3, 4] rfl ?_
        exact n58 h (-13 : Int32) hf
    · refine v_pick [1, 2, 3, 4, 0] rfl ?_
      exact n56 h s0 hf
  have n35 : ∀ (h : q_Hp), fX5_stained_35 σ h a0 x1 x2 x3 = some (r, h') → V p l e { frames := 3, cells := 0, slots := 0, locals := 70 } s m args below meth c (MQ below (q_Qc D cy b0 (some (.int r)) σ h') args s 0 0 (fun q => b0 ≤ q)) D cy b0 8 0 0 0 0 σ h 35 [(0, .ref a0), (1, .int x1), (2, .int x2), (3, .int x3)] [] := by
    intro h hf
    unfold fX5_stained_35 at hf
    refine v_run C0 tbX5 cokX5_stained (pc' := 36) (lv' := [(0, .ref a0), (1, .int x1), (2, .int x2), (3, .int x3)]) (st' := [.int (-1 : Int32)]) (h' := h) 1 rfl trivial ?_
    refine v_pick [0, 1, 2, 3] rfl ?_
    exact n36 h (-1 : Int32) hf
  refine v_run C0 tbX5 cokX5_stained (pc' := 11) (lv' := [(0, .ref a0), (1, .int x1), (2, .int x2), (3, .int x3)]) (st' := [.long (127 : Int64), .long (0 : Int64), .long (Int32.toInt64 x2)]) (h' := (q_si h a0 21 (0 : Int32))) 7 rfl ⟨ta0, trivial⟩ ?_
  obtain ⟨r1, e1, hf⟩ := q_bd hf
  refine v_callS C0 cokX5_stained rfl (rest := []) (ctX5_in (Int32.toInt64 x2) (0 : Int64) (127 : Int64) e1) calX5_in lkX5_96 inX5_in dnX5_in rfl rfl ⟨by decide, by decide⟩ (Nat.le_of_ble_eq_true rfl) (Nat.le_refl _) (Nat.le_refl _) ?_
  refine v_if_eq C0 cokX5_stained rfl 35 (by decide) hf (fun _ hf => ?_) (fun _ hf => ?_)
  · refine v_pick [0, 1, 2, 3] rfl ?_
    exact n35 (q_si h a0 21 (0 : Int32)) hf
  · refine v_run C0 tbX5 cokX5_stained (pc' := 21) (lv' := [(0, .ref a0), (1, .int x1), (2, .int x2), (3, .int x3)]) (st' := [.long (1 : Int64), .long (0 : Int64), .long (Int32.toInt64 x3)]) (h' := (q_si h a0 21 (0 : Int32))) 4 rfl trivial ?_
    obtain ⟨r2, e2, hf⟩ := q_bd hf
    refine v_callS C0 cokX5_stained rfl (rest := []) (ctX5_in (Int32.toInt64 x3) (0 : Int64) (1 : Int64) e2) calX5_in lkX5_96 inX5_in dnX5_in rfl rfl ⟨by decide, by decide⟩ (Nat.le_of_ble_eq_true rfl) (Nat.le_refl _) (Nat.le_refl _) ?_
    refine v_if_eq C0 cokX5_stained rfl 35 (by decide) hf (fun _ hf => ?_) (fun _ hf => ?_)
    · refine v_pick [0, 1, 2, 3] rfl ?_
      exact n35 (q_si h a0 21 (0 : Int32)) hf
    · refine v_run C0 tbX5 cokX5_stained (pc' := 29) (lv' := [(0, .ref a0), (1, .int x1), (2, .int x2), (3, .int x3)]) (st' := [.int x1, .ref a0]) (h' := (q_si h a0 21 (0 : Int32))) 2 rfl trivial ?_
      obtain ⟨r3, e3, hf⟩ := q_bd hf
      refine v_callV C0 cokX5_stained rfl (rest := []) (ctX5_wrongPairs a0 x1 ta0 e3) calX5_wrongPairs lkX5_333 inX5_wrongPairs dnX5_wrongPairs (ci := 5) ⟨rfl, by decide⟩ ta0 rfl rfl ⟨by decide, by decide⟩ (Nat.le_of_ble_eq_true rfl) (Nat.le_refl _) (Nat.le_refl _) ?_
      refine v_run C0 tbX5 cokX5_stained (pc' := 36) (lv' := [(0, .ref a0), (1, .int x1), (2, .int x2), (3, .int x3)]) (st' := [.int r3]) (h' := (q_si h a0 21 (0 : Int32))) 1 rfl trivial ?_
      refine v_pick [0, 1, 2, 3] rfl ?_
      exact n36 (q_si h a0 21 (0 : Int32)) r3 hf
-- BackByNoonOnMondayModel.judge(I)I
noncomputable def fX5_judge_96 (σ : q_St) (h : q_Hp) (a0 : Nat) (x1 : Int32) (x3 : Int32) (x4 : Int32) (x5 : Int32) : Option ((Int32 × q_Hp) ⊕ (q_Hp ⊕ (Int32 × q_Hp))) := some (Sum.inl ((x5 + (1 : Int32)), h))
noncomputable def fX5_judge_39 (σ : q_St) (a0 : Nat) (x1 : Int32) (x3 : Int32) (x4 : Int32) (x5 : Int32) (h : q_Hp) : Option ((Int32 × q_Hp) ⊕ (q_Hp ⊕ (Int32 × q_Hp))) := q_gu ((vp_in x1 (q_len σ (q_ref σ a0 19)))) ((if (q_int h (q_ref σ a0 19) (Int32.toNatClampNeg x1)) ≤ x5 then some (Sum.inr (Sum.inl h)) else q_gu ((vp_in (((100 : Int32) * x1) + x5) (q_len σ (q_ref σ a0 20)))) (((fX5_skipped σ h a0 x1).bind fun r10 => (if (lg_cmp (q_lng h (q_ref σ a0 20) (Int32.toNatClampNeg (((100 : Int32) * x1) + x5))) r10) = 0 then fX5_judge_96 σ h a0 x1 x3 x4 x5 else (if x4 < x5 then some (Sum.inr (Sum.inr (x5, h))) else (if (lg_cmp (q_lng h (q_ref σ a0 20) (Int32.toNatClampNeg (((100 : Int32) * x1) + x5))) (Int32.toInt64 (x3 + x5))) = 0 then fX5_judge_96 σ h a0 x1 x3 x4 x5 else some (Sum.inr (Sum.inr (x5, h))))))))))
noncomputable def fX5_judge (σ : q_St) (h : q_Hp) (a0 : Nat) (x1 : Int32) : Option (Int32 × q_Hp) := q_gu ((q_tag σ (q_ref σ a0 19) = 7) ∧ (q_tag σ (q_ref σ a0 20) = 8)) (((fX5_wrongRow σ (q_si h a0 21 (0 : Int32)) a0 x1).bind fun r1 => (if 0 ≤ r1 then ((fX5_inState σ (q_si h a0 21 (0 : Int32)) a0 (0 : Int32)).bind fun r2 => ((fX5_onesOf σ (q_si h a0 21 (0 : Int32)) r2).bind fun r3 => ((fX5_inState σ (q_si h a0 21 (0 : Int32)) a0 (2 : Int32)).bind fun r4 => ((fX5_onesOf σ (q_si h a0 21 (0 : Int32)) r4).bind fun r5 => (q_loop (fun s => fX5_judge_39 σ a0 x1 r3 r5 s.1 s.2) q_N ((0 : Int32), (q_si h a0 21 (0 : Int32)))).bind fun o6 => q_el o6 fun w7 => some ((-4 : Int32), w7))))) else some (r1, (q_si h a0 21 (0 : Int32))))))
def cdX5_judge : q_Cd := [(0, .aload_n 0), (1, .iconst 0), (2, .putfield 89), (5, .aload_n 0), (6, .iload_n 1), (7, .invokevirtual 192), (10, .istore_n 2), (11, .iload_n 2), (12, .ifCond .ge 5), (15, .iload_n 2), (16, .ireturn), (17, .aload_n 0), (18, .iconst 0), (19, .invokevirtual 275), (22, .invokestatic 291), (25, .istore_n 3), (26, .aload_n 0), (27, .iconst 2), (28, .invokevirtual 275), (31, .invokestatic 291), (34, .istore 4), (36, .iconst 0), (37, .istore 5), (39, .iload 5), (41, .aload_n 0), (42, .getfield 55), (45, .iload_n 1), (46, .iaload), (47, .if_icmp .ge 55), (50, .aload_n 0), (51, .getfield 58), (54, .bipush 100), (56, .iload_n 1), (57, .imul), (58, .iload 5), (60, .iadd), (61, .laload), (62, .lstore 6), (64, .lload 6), (66, .aload_n 0), (67, .iload_n 1), (68, .invokevirtual 306), (71, .lcmp), (72, .ifCond .eq 24), (75, .iload 5), (77, .iload 4), (79, .if_icmp .gt 14), (82, .lload 6), (84, .iload_n 3), (85, .iload 5), (87, .iadd), (88, .i2l), (89, .lcmp), (90, .ifCond .eq 6), (93, .iload 5), (95, .ireturn), (96, .iinc 5 1), (99, .goto (-60)), (102, .bipush (-4)), (104, .ireturn)]
set_option maxRecDepth 100000 in
theorem cokX5_judge : q_cok cX5_judge cdX5_judge := by unfold q_cok; decide +kernel
set_option maxRecDepth 100000 in
set_option maxHeartbeats 4000000 in
theorem ctX5_judge {l : Launch} {D : va_G} {cy : Nat → Nat} {b0 : Nat} {σ : q_St} {h : q_Hp} (a0 : Nat) (x1 : Int32) {r : Int32} {h' : q_Hp} (ta0 : q_tag σ a0 = 6) (hf : fX5_judge σ h a0 x1 = some (r, h')) : q_M l yX5_judge cX5_judge 8 (some .int) 2 46 0 0 D cy b0 σ h [.ref a0, .int x1] (some (.int r)) σ h' := by
  unfold fX5_judge at hf
  obtain ⟨⟨k0, k1⟩, hf⟩ := q_gu_o hf
  refine q_enter (by decide) (Nat.le_of_ble_eq_true rfl) ?_
  intro p e s m args below meth c C0 hr hlk hnm
  replace C0 : VC p { frames := 2, cells := 0, slots := 0, locals := 46 } s m args meth c D cy b0 8 0 0 RX5 cX5_judge := C0
  have n39 : ∀ (x3 : Int32) (x4 : Int32) (o : (q_Hp ⊕ (Int32 × q_Hp))) (s1 : (Int32 × q_Hp)), q_loop (fun s => fX5_judge_39 σ a0 x1 x3 x4 s.1 s.2) q_N s1 = some o → (∀ w0 : q_Hp, Sum.inl w0 = o → V p l e { frames := 2, cells := 0, slots := 0, locals := 46 } s m args below meth c (MQ below (q_Qc D cy b0 (some (.int r)) σ h') args s 0 0 (fun q => b0 ≤ q)) D cy b0 8 0 0 0 0 σ w0 102 [] []) → (∀ r0 : (Int32 × q_Hp), Sum.inr r0 = o → (some r0 : Option (Int32 × q_Hp)) = some (r, h')) → V p l e { frames := 2, cells := 0, slots := 0, locals := 46 } s m args below meth c (MQ below (q_Qc D cy b0 (some (.int r)) σ h') args s 0 0 (fun q => b0 ≤ q)) D cy b0 8 0 0 0 0 σ s1.2 39 [(0, .ref a0), (1, .int x1), (3, .int x3), (4, .int x4), (5, .int s1.1)] [] := by
    intro x3 x4 o s1 ho kx1 ke1
    refine q_loop_V (P := fun s0 => V p l e { frames := 2, cells := 0, slots := 0, locals := 46 } s m args below meth c (MQ below (q_Qc D cy b0 (some (.int r)) σ h') args s 0 0 (fun q => b0 ≤ q)) D cy b0 8 0 0 0 0 σ s0.2 39 [(0, .ref a0), (1, .int x1), (3, .int x3), (4, .int x4), (5, .int s0.1)] []) (o := o) ?_ q_N s1 ho
    intro s2 z1 hf kb1 kr1
    obtain ⟨x5, h⟩ := s2
    replace hf : fX5_judge_39 σ a0 x1 x3 x4 x5 h = some z1 := hf
    unfold fX5_judge_39 at hf
    show V p l e { frames := 2, cells := 0, slots := 0, locals := 46 } s m args below meth c (MQ below (q_Qc D cy b0 (some (.int r)) σ h') args s 0 0 (fun q => b0 ≤ q)) D cy b0 8 0 0 0 0 σ h 39 [(0, .ref a0), (1, .int x1), (3, .int x3), (4, .int x4), (5, .int x5)] []
    have n96 : ∀ (h : q_Hp) (x5 : Int32), fX5_judge_96 σ h a0 x1 x3 x4 x5 = some z1 → V p l e { frames := 2, cells := 0, slots := 0, locals := 46 } s m args below meth c (MQ below (q_Qc D cy b0 (some (.int r)) σ h') args s 0 0 (fun q => b0 ≤ q)) D cy b0 8 0 0 0 0 σ h 96 [(0, .ref a0), (1, .int x1), (3, .int x3), (4, .int x4), (5, .int x5)] [] := by
      intro h x5 hf
      unfold fX5_judge_96 at hf
      refine v_run C0 tbX5 cokX5_judge (pc' := 39) (lv' := [(5, .int (x5 + (1 : Int32))), (0, .ref a0), (1, .int x1), (3, .int x3), (4, .int x4)]) (st' := []) (h' := h) 2 rfl trivial ?_
      obtain rfl := Option.some.inj hf
      refine v_pick [1, 2, 3, 4, 0] rfl ?_
      exact kb1 _ rfl
    obtain ⟨g8, hf⟩ := q_gu_o hf
    refine v_run C0 tbX5 cokX5_judge (pc' := 47) (lv' := [(0, .ref a0), (1, .int x1), (3, .int x3), (4, .int x4), (5, .int x5)]) (st' := [.int (q_int h (q_ref σ a0 19) (Int32.toNatClampNeg x1)), .int x5]) (h' := h) 5 rfl ⟨⟨ta0, q_tn k0⟩, ⟨k0, g8⟩, trivial⟩ ?_
    refine v_icmp_ge C0 cokX5_judge rfl 102 (by decide) hf (fun _ hf => ?_) (fun _ hf => ?_)
    · obtain rfl := Option.some.inj hf
      refine v_pick [] rfl ?_
      exact kx1 _ (kr1 _ rfl)
    · obtain ⟨g9, hf⟩ := q_gu_o hf
      refine v_run C0 tbX5 cokX5_judge (pc' := 68) (lv' := [(6, .long (q_lng h (q_ref σ a0 20) (Int32.toNatClampNeg (((100 : Int32) * x1) + x5)))), (0, .ref a0), (1, .int x1), (3, .int x3), (4, .int x4), (5, .int x5)]) (st' := [.int x1, .ref a0, .long (q_lng h (q_ref σ a0 20) (Int32.toNatClampNeg (((100 : Int32) * x1) + x5)))]) (h' := h) 12 rfl ⟨⟨ta0, q_tn k1⟩, ⟨k1, g9⟩, trivial⟩ ?_
      obtain ⟨r10, e10, hf⟩ := q_bd hf
      refine v_callV C0 cokX5_judge rfl (rest := [.long (q_lng h (q_ref σ a0 20) (Int32.toNatClampNeg (((100 : Int32) * x1) + x5)))]) (ctX5_skipped a0 x1 ta0 e10) calX5_skipped lkX5_306 inX5_skipped dnX5_skipped (ci := 5) ⟨rfl, by decide⟩ ta0 rfl rfl ⟨by decide, by decide⟩ (Nat.le_of_ble_eq_true rfl) (Nat.le_refl _) (Nat.le_refl _) ?_
      refine v_run C0 tbX5 cokX5_judge (pc' := 72) (lv' := [(6, .long (q_lng h (q_ref σ a0 20) (Int32.toNatClampNeg (((100 : Int32) * x1) + x5)))), (0, .ref a0), (1, .int x1), (3, .int x3), (4, .int x4), (5, .int x5)]) (st' := [.int (lg_cmp (q_lng h (q_ref σ a0 20) (Int32.toNatClampNeg (((100 : Int32) * x1) + x5))) r10)]) (h' := h) 1 rfl trivial ?_
      refine v_if_eq C0 cokX5_judge rfl 96 (by decide) hf (fun _ hf => ?_) (fun _ hf => ?_)
      · refine v_pick [1, 2, 3, 4, 5] rfl ?_
        exact n96 h x5 hf
      · refine v_run C0 tbX5 cokX5_judge (pc' := 79) (lv' := [(6, .long (q_lng h (q_ref σ a0 20) (Int32.toNatClampNeg (((100 : Int32) * x1) + x5)))), (0, .ref a0), (1, .int x1), (3, .int x3), (4, .int x4), (5, .int x5)]) (st' := [.int x4, .int x5]) (h' := h) 2 rfl trivial ?_
        refine v_icmp_gt C0 cokX5_judge rfl 93 (by decide) hf (fun _ hf => ?_) (fun _ hf => ?_)
        · refine v_run C0 tbX5 cokX5_judge (pc' := 95) (lv' := [(6, .long (q_lng h (q_ref σ a0 20) (Int32.toNatClampNeg (((100 : Int32) * x1) + x5)))), (0, .ref a0), (1, .int x1), (3, .int x3), (4, .int x4), (5, .int x5)]) (st' := [.int x5]) (h' := h) 1 rfl trivial ?_
          obtain rfl := Option.some.inj hf
          have hf := ke1 _ (kr1 _ rfl)
          obtain ⟨rfl, rfl⟩ := Prod.mk.inj (Option.some.inj hf)
          exact v_iret C0 cokX5_judge hr hlk rfl
        · refine v_run C0 tbX5 cokX5_judge (pc' := 90) (lv' := [(6, .long (q_lng h (q_ref σ a0 20) (Int32.toNatClampNeg (((100 : Int32) * x1) + x5)))), (0, .ref a0), (1, .int x1), (3, .int x3), (4, .int x4), (5, .int x5)]) (st' := [.int (lg_cmp (q_lng h (q_ref σ a0 20) (Int32.toNatClampNeg (((100 : Int32) * x1) + x5))) (Int32.toInt64 (x3 + x5)))]) (h' := h) 6 rfl trivial ?_
          refine v_if_eq C0 cokX5_judge rfl 96 (by decide) hf (fun _ hf => ?_) (fun _ hf => ?_)
          · refine v_pick [1, 2, 3, 4, 5] rfl ?_
            exact n96 h x5 hf
          · refine v_run C0 tbX5 cokX5_judge (pc' := 95) (lv' := [(6, .long (q_lng h (q_ref σ a0 20) (Int32.toNatClampNeg (((100 : Int32) * x1) + x5)))), (0, .ref a0), (1, .int x1), (3, .int x3), (4, .int x4), (5, .int x5)]) (st' := [.int x5]) (h' := h) 1 rfl trivial ?_
            obtain rfl := Option.some.inj hf
            have hf := ke1 _ (kr1 _ rfl)
            obtain ⟨rfl, rfl⟩ := Prod.mk.inj (Option.some.inj hf)
            exact v_iret C0 cokX5_judge hr hlk rfl
  refine v_run C0 tbX5 cokX5_judge (pc' := 7) (lv' := [(0, .ref a0), (1, .int x1)]) (st' := [.int x1, .ref a0]) (h' := (q_si h a0 21 (0 : Int32))) 5 rfl ⟨ta0, trivial⟩ ?_
  obtain ⟨r1, e1, hf⟩ := q_bd hf
  refine v_callV C0 cokX5_judge rfl (rest := []) (ctX5_wrongRow a0 x1 ta0 e1) calX5_wrongRow lkX5_192 inX5_wrongRow dnX5_wrongRow (ci := 5) ⟨rfl, by decide⟩ ta0 rfl rfl ⟨by decide, by decide⟩ (Nat.le_of_ble_eq_true rfl) (Nat.le_refl _) (Nat.le_refl _) ?_
  refine v_run C0 tbX5 cokX5_judge (pc' := 12) (lv' := [(2, .int r1), (0, .ref a0), (1, .int x1)]) (st' := [.int r1]) (h' := (q_si h a0 21 (0 : Int32))) 2 rfl trivial ?_
  refine v_if_ge C0 cokX5_judge rfl 17 (by decide) hf (fun _ hf => ?_) (fun _ hf => ?_)
  · refine v_run C0 tbX5 cokX5_judge (pc' := 19) (lv' := [(2, .int r1), (0, .ref a0), (1, .int x1)]) (st' := [.int (0 : Int32), .ref a0]) (h' := (q_si h a0 21 (0 : Int32))) 2 rfl trivial ?_
    obtain ⟨r2, e2, hf⟩ := q_bd hf
    refine v_callV C0 cokX5_judge rfl (rest := []) (ctX5_inState a0 (0 : Int32) ta0 e2) calX5_inState lkX5_275 inX5_inState dnX5_inState (ci := 5) ⟨rfl, by decide⟩ ta0 rfl rfl ⟨by decide, by decide⟩ (Nat.le_of_ble_eq_true rfl) (Nat.le_refl _) (Nat.le_refl _) ?_
    obtain ⟨r3, e3, hf⟩ := q_bd hf
    refine v_callS C0 cokX5_judge rfl (rest := []) (ctX5_onesOf r2 e3) calX5_onesOf lkX5_291 inX5_onesOf dnX5_onesOf rfl rfl ⟨by decide, by decide⟩ (Nat.le_of_ble_eq_true rfl) (Nat.le_refl _) (Nat.le_refl _) ?_
    refine v_run C0 tbX5 cokX5_judge (pc' := 28) (lv' := [(3, .int r3), (2, .int r1), (0, .ref a0), (1, .int x1)]) (st' := [.int (2 : Int32), .ref a0]) (h' := (q_si h a0 21 (0 : Int32))) 3 rfl trivial ?_
    obtain ⟨r4, e4, hf⟩ := q_bd hf
    refine v_callV C0 cokX5_judge rfl (rest := []) (ctX5_inState a0 (2 : Int32) ta0 e4) calX5_inState lkX5_275 inX5_inState dnX5_inState (ci := 5) ⟨rfl, by decide⟩ ta0 rfl rfl ⟨by decide, by decide⟩ (Nat.le_of_ble_eq_true rfl) (Nat.le_refl _) (Nat.le_refl _) ?_
    obtain ⟨r5, e5, hf⟩ := q_bd hf
    refine v_callS C0 cokX5_judge rfl (rest := []) (ctX5_onesOf r4 e5) calX5_onesOf lkX5_291 inX5_onesOf dnX5_onesOf rfl rfl ⟨by decide, by decide⟩ (Nat.le_of_ble_eq_true rfl) (Nat.le_refl _) (Nat.le_refl _) ?_
    refine v_run C0 tbX5 cokX5_judge (pc' := 39) (lv' := [(5, .int (0 : Int32)), (4, .int r5), (3, .int r3), (2, .int r1), (0, .ref a0), (1, .int x1)]) (st' := []) (h' := (q_si h a0 21 (0 : Int32))) 3 rfl trivial ?_
    obtain ⟨o6, eo6, hf⟩ := q_bd hf
    refine v_pick [4, 5, 2, 1, 0] rfl ?_
    refine n39 r3 r5 o6 ((0 : Int32), (q_si h a0 21 (0 : Int32))) eo6 (fun w7 hx => ?_) (fun r0 hx => ?_)
    · rw [← hx] at hf
      replace hf := q_el_l hf
      refine v_run C0 tbX5 cokX5_judge (pc' := 104) (lv' := []) (st' := [.int (-4 : Int32)]) (h' := w7) 1 rfl trivial ?_
      obtain ⟨rfl, rfl⟩ := Prod.mk.inj (Option.some.inj hf)
      exact v_iret C0 cokX5_judge hr hlk rfl
    · rw [← hx] at hf
      exact hf
  · refine v_run C0 tbX5 cokX5_judge (pc' := 16) (lv' := [(2, .int r1), (0, .ref a0), (1, .int x1)]) (st' := [.int r1]) (h' := (q_si h a0 21 (0 : Int32))) 1 rfl trivial ?_
    obtain ⟨rfl, rfl⟩ := Prod.mk.inj (Option.some.inj hf)
    exact v_iret C0 cokX5_judge hr hlk rfl
-- BackByNoonOnMondayModel.drawBelow(I)I
noncomputable def fX5_drawBelow (σ : q_St) (h : q_Hp) (a0 : Nat) (x1 : Int32) : Option (Int32 × q_Hp) := q_gu ((¬ x1 = 0)) (some (((((q_int (q_si h a0 42 (((q_int h a0 42) * (1103515245 : Int32)) + (12345 : Int32))) a0 42) &&& (2147483647 : Int32)) / (65536 : Int32)) - (((q_int (q_si h a0 42 (((q_int h a0 42) * (1103515245 : Int32)) + (12345 : Int32))) a0 42) &&& (2147483647 : Int32)) / (65536 : Int32)) / x1 * x1), (q_si h a0 42 (((q_int h a0 42) * (1103515245 : Int32)) + (12345 : Int32)))))
def cdX5_drawBelow : q_Cd := [(0, .aload_n 0), (1, .aload_n 0), (2, .getfield 345), (5, .ldc_w 348), (8, .imul), (9, .sipush 12345), (12, .iadd), (13, .putfield 345), (16, .aload_n 0), (17, .getfield 345), (20, .ldc_w 349), (23, .iand), (24, .ldc_w 350), (27, .idiv), (28, .iload_n 1), (29, .irem), (30, .ireturn)]
set_option maxRecDepth 100000 in
theorem cokX5_drawBelow : q_cok cX5_drawBelow cdX5_drawBelow := by unfold q_cok; decide +kernel
set_option maxRecDepth 100000 in
set_option maxHeartbeats 4000000 in
theorem ctX5_drawBelow {l : Launch} {D : va_G} {cy : Nat → Nat} {b0 : Nat} {σ : q_St} {h : q_Hp} (a0 : Nat) (x1 : Int32) {r : Int32} {h' : q_Hp} (ta0 : q_tag σ a0 = 6) (hf : fX5_drawBelow σ h a0 x1 = some (r, h')) : q_M l yX5_drawBelow cX5_drawBelow 2 (some .int) 0 0 0 0 D cy b0 σ h [.ref a0, .int x1] (some (.int r)) σ h' := by
  unfold fX5_drawBelow at hf
  refine q_enter (by decide) (Nat.le_of_ble_eq_true rfl) ?_
  intro p e s m args below meth c C0 hr hlk hnm
  replace C0 : VC p { frames := 0, cells := 0, slots := 0, locals := 0 } s m args meth c D cy b0 2 0 0 RX5 cX5_drawBelow := C0
  obtain ⟨g1, hf⟩ := q_gu_o hf
  refine v_run C0 tbX5 cokX5_drawBelow (pc' := 30) (lv' := [(0, .ref a0), (1, .int x1)]) (st' := [.int ((((q_int (q_si h a0 42 (((q_int h a0 42) * (1103515245 : Int32)) + (12345 : Int32))) a0 42) &&& (2147483647 : Int32)) / (65536 : Int32)) - (((q_int (q_si h a0 42 (((q_int h a0 42) * (1103515245 : Int32)) + (12345 : Int32))) a0 42) &&& (2147483647 : Int32)) / (65536 : Int32)) / x1 * x1)]) (h' := (q_si h a0 42 (((q_int h a0 42) * (1103515245 : Int32)) + (12345 : Int32)))) 16 rfl ⟨ta0, ta0, ta0, (by decide), g1, trivial⟩ ?_
  obtain ⟨rfl, rfl⟩ := Prod.mk.inj (Option.some.inj hf)
  exact v_iret C0 cokX5_drawBelow hr hlk rfl
-- BackByNoonOnMondayModel.hiresLeast(I)Z
noncomputable def fX5_hiresLeast_2 (σ : q_St) (a0 : Nat) (x1 : Int32) (x2 : Int32) (h : q_Hp) : Option ((Int32 × q_Hp) ⊕ (q_Hp ⊕ (Int32 × q_Hp))) := (if (q_int h a0 0) ≤ x2 then some (Sum.inr (Sum.inl h)) else ((fX5_canHire σ h a0 x2 x1).bind fun r3 => (if r3 = 0 then some (Sum.inl ((x2 + (1 : Int32)), h)) else ((fX5_hire σ h a0 x2 x1).bind fun h4 => some (Sum.inr (Sum.inr ((1 : Int32), h4)))))))
noncomputable def fX5_hiresLeast (σ : q_St) (h : q_Hp) (a0 : Nat) (x1 : Int32) : Option (Int32 × q_Hp) := (q_loop (fun s => fX5_hiresLeast_2 σ a0 x1 s.1 s.2) q_N ((0 : Int32), h)).bind fun o1 => q_el o1 fun w2 => some ((0 : Int32), w2)
def cdX5_hiresLeast : q_Cd := [(0, .iconst 0), (1, .istore_n 2), (2, .iload_n 2), (3, .aload_n 0), (4, .getfield 93), (7, .if_icmp .ge 26), (10, .aload_n 0), (11, .iload_n 2), (12, .iload_n 1), (13, .invokevirtual 176), (16, .ifCond .eq 11), (19, .aload_n 0), (20, .iload_n 2), (21, .iload_n 1), (22, .invokevirtual 179), (25, .iconst 1), (26, .ireturn), (27, .iinc 2 1), (30, .goto (-28)), (33, .iconst 0), (34, .ireturn)]
set_option maxRecDepth 100000 in
theorem cokX5_hiresLeast : q_cok cX5_hiresLeast cdX5_hiresLeast := by unfold q_cok; decide +kernel
set_option maxRecDepth 100000 in
set_option maxHeartbeats 4000000 in
theorem ctX5_hiresLeast {l : Launch} {D : va_G} {cy : Nat → Nat} {b0 : Nat} {σ : q_St} {h : q_Hp} (a0 : Nat) (x1 : Int32) {r : Int32} {h' : q_Hp} (ta0 : q_tag σ a0 = 6) (hf : fX5_hiresLeast σ h a0 x1 = some (r, h')) : q_M l yX5_hiresLeast cX5_hiresLeast 3 (some .boolean) 3 65 0 0 D cy b0 σ h [.ref a0, .int x1] (some (.int r)) σ h' := by
  unfold fX5_hiresLeast at hf
  refine q_enter (by decide) (Nat.le_of_ble_eq_true rfl) ?_
  intro p e s m args below meth c C0 hr hlk hnm
  replace C0 : VC p { frames := 3, cells := 0, slots := 0, locals := 65 } s m args meth c D cy b0 3 0 0 RX5 cX5_hiresLeast := C0
  have n2 : ∀ (o : (q_Hp ⊕ (Int32 × q_Hp))) (s1 : (Int32 × q_Hp)), q_loop (fun s => fX5_hiresLeast_2 σ a0 x1 s.1 s.2) q_N s1 = some o → (∀ w0 : q_Hp, Sum.inl w0 = o → V p l e { frames := 3, cells := 0, slots := 0, locals := 65 } s m args below meth c (MQ below (q_Qc D cy b0 (some (.int r)) σ h') args s 0 0 (fun q => b0 ≤ q)) D cy b0 3 0 0 0 0 σ w0 33 [] []) → (∀ r0 : (Int32 × q_Hp), Sum.inr r0 = o → (some r0 : Option (Int32 × q_Hp)) = some (r, h')) → V p l e { frames := 3, cells := 0, slots := 0, locals := 65 } s m args below meth c (MQ below (q_Qc D cy b0 (some (.int r)) σ h') args s 0 0 (fun q => b0 ≤ q)) D cy b0 3 0 0 0 0 σ s1.2 2 [(0, .ref a0), (1, .int x1), (2, .int s1.1)] [] := by
    intro o s1 ho kx1 ke1
    refine q_loop_V (P := fun s0 => V p l e { frames := 3, cells := 0, slots := 0, locals := 65 } s m args below meth c (MQ below (q_Qc D cy b0 (some (.int r)) σ h') args s 0 0 (fun q => b0 ≤ q)) D cy b0 3 0 0 0 0 σ s0.2 2 [(0, .ref a0), (1, .int x1), (2, .int s0.1)] []) (o := o) ?_ q_N s1 ho
    intro s2 z1 hf kb1 kr1
    obtain ⟨x2, h⟩ := s2
    replace hf : fX5_hiresLeast_2 σ a0 x1 x2 h = some z1 := hf
    unfold fX5_hiresLeast_2 at hf
    show V p l e { frames := 3, cells := 0, slots := 0, locals := 65 } s m args below meth c (MQ below (q_Qc D cy b0 (some (.int r)) σ h') args s 0 0 (fun q => b0 ≤ q)) D cy b0 3 0 0 0 0 σ h 2 [(0, .ref a0), (1, .int x1), (2, .int x2)] []
    refine v_run C0 tbX5 cokX5_hiresLeast (pc' := 7) (lv' := [(0, .ref a0), (1, .int x1), (2, .int x2)]) (st' := [.int (q_int h a0 0), .int x2]) (h' := h) 3 rfl ⟨ta0, trivial⟩ ?_
    refine v_icmp_ge C0 cokX5_hiresLeast rfl 33 (by decide) hf (fun _ hf => ?_) (fun _ hf => ?_)
    · obtain rfl := Option.some.inj hf
      refine v_pick [] rfl ?_
      exact kx1 _ (kr1 _ rfl)
    · refine v_run C0 tbX5 cokX5_hiresLeast (pc' := 13) (lv' := [(0, .ref a0), (1, .int x1), (2, .int x2)]) (st' := [.int x1, .int x2, .ref a0]) (h' := h) 3 rfl trivial ?_
      obtain ⟨r3, e3, hf⟩ := q_bd hf
      refine v_callV C0 cokX5_hiresLeast rfl (rest := []) (ctX5_canHire a0 x2 x1 ta0 e3) calX5_canHire lkX5_176 inX5_canHire dnX5_canHire (ci := 5) ⟨rfl, by decide⟩ ta0 rfl rfl ⟨by decide, by decide⟩ (Nat.le_of_ble_eq_true rfl) (Nat.le_refl _) (Nat.le_refl _) ?_
      refine v_if_eq C0 cokX5_hiresLeast rfl 27 (by decide) hf (fun _ hf => ?_) (fun _ hf => ?_)
      · refine v_run C0 tbX5 cokX5_hiresLeast (pc' := 2) (lv' := [(2, .int (x2 + (1 : Int32))), (0, .ref a0), (1, .int x1)]) (st' := []) (h' := h) 2 rfl trivial ?_
        obtain rfl := Option.some.inj hf
        refine v_pick [1, 2, 0] rfl ?_
        exact kb1 _ rfl
      · refine v_run C0 tbX5 cokX5_hiresLeast (pc' := 22) (lv' := [(0, .ref a0), (1, .int x1), (2, .int x2)]) (st' := [.int x1, .int x2, .ref a0]) (h' := h) 3 rfl trivial ?_
        obtain ⟨h4, e4, hf⟩ := q_bd hf
        refine v_callV C0 cokX5_hiresLeast rfl (rest := []) (ctX5_hire a0 x2 x1 ta0 e4) calX5_hire lkX5_179 inX5_hire dnX5_hire (ci := 5) ⟨rfl, by decide⟩ ta0 rfl rfl ⟨by decide, by decide⟩ (Nat.le_of_ble_eq_true rfl) (Nat.le_refl _) (Nat.le_refl _) ?_
        refine v_run C0 tbX5 cokX5_hiresLeast (pc' := 26) (lv' := [(0, .ref a0), (1, .int x1), (2, .int x2)]) (st' := [.int (1 : Int32)]) (h' := h4) 1 rfl trivial ?_
        obtain rfl := Option.some.inj hf
        have hf := ke1 _ (kr1 _ rfl)
        obtain ⟨rfl, rfl⟩ := Prod.mk.inj (Option.some.inj hf)
        exact v_zret C0 cokX5_hiresLeast hr hlk rfl (Or.inr rfl)
  refine v_run C0 tbX5 cokX5_hiresLeast (pc' := 2) (lv' := [(2, .int (0 : Int32)), (0, .ref a0), (1, .int x1)]) (st' := []) (h' := h) 2 rfl trivial ?_
  obtain ⟨o1, eo1, hf⟩ := q_bd hf
  refine v_pick [1, 2, 0] rfl ?_
  refine n2 o1 ((0 : Int32), h) eo1 (fun w2 hx => ?_) (fun r0 hx => ?_)
  · rw [← hx] at hf
    replace hf := q_el_l hf
    refine v_run C0 tbX5 cokX5_hiresLeast (pc' := 34) (lv' := []) (st' := [.int (0 : Int32)]) (h' := w2) 1 rfl trivial ?_
    obtain ⟨rfl, rfl⟩ := Prod.mk.inj (Option.some.inj hf)
    exact v_zret C0 cokX5_hiresLeast hr hlk rfl (Or.inl rfl)
  · rw [← hx] at hf
    exact hf
