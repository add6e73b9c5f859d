-- BackByNoonOnMondayModel.served(I)I
noncomputable def fX5_served (σ : q_St) (h : q_Hp) (a0 : Nat) (x1 : Int32) : Option (Int32 × q_Hp) := q_gu ((q_tag σ (q_ref σ a0 40) = 7)) (((fX5_in σ (q_si h a0 21 (0 : Int32)) (Int32.toInt64 x1) (-1 : Int64) (Int32.toInt64 ((q_int (q_si h a0 21 (0 : Int32)) a0 6) - (1 : Int32)))).bind fun r1 => (if r1 = 0 then some ((-1 : Int32), (q_si h a0 21 (0 : Int32))) else (if 0 ≤ x1 then (q_b2 (fX5_layFirst σ (q_si h a0 21 (0 : Int32)) a0) fun r2 h2 => q_gu ((vp_in x1 (q_len σ (q_ref σ a0 40)))) (some ((q_int h2 (q_ref σ a0 40) (Int32.toNatClampNeg x1)), h2))) else (q_b2 (fX5_servedNow σ (q_si h a0 21 (0 : Int32)) a0) fun r4 h4 => some (r4, h4))))))
def cdX5_served : q_Cd := [(0, .aload_n 0), (1, .iconst 0), (2, .putfield 89), (5, .iload_n 1), (6, .i2l), (7, .ldc2_w 270), (10, .aload_n 0), (11, .getfield 100), (14, .iconst 1), (15, .isub), (16, .i2l), (17, .invokestatic 96), (20, .ifCond .ne 5), (23, .iconst (-1)), (24, .ireturn), (25, .iload_n 1), (26, .ifCond .ge 8), (29, .aload_n 0), (30, .invokevirtual 267), (33, .ireturn), (34, .aload_n 0), (35, .invokevirtual 272), (38, .pop), (39, .aload_n 0), (40, .getfield 83), (43, .iload_n 1), (44, .iaload), (45, .ireturn)]
set_option maxRecDepth 100000 in
theorem cokX5_served : q_cok cX5_served cdX5_served := by unfold q_cok; decide +kernel
set_option maxRecDepth 100000 in
set_option maxHeartbeats 4000000 in
theorem ctX5_served {l : Launch} {D : va_G} {cy : Nat → Nat} {b0 : Nat} {σ : q_St} {h : q_Hp} (a0 : Nat) (x1 : Int32) {r : Int32} {h' : q_Hp} (ta0 : q_tag σ a0 = 6) (hf : fX5_served σ h a0 x1 = some (r, h')) : q_M l yX5_served cX5_served 2 (some .int) 7 157 0 0 D cy b0 σ h [.ref a0, .int x1] (some (.int r)) σ h' := by
  unfold fX5_served at hf
  obtain ⟨k0, hf⟩ := q_gu_o hf
  refine q_enter (by decide) (Nat.le_of_ble_eq_true rfl) ?_
  intro p e s m args below meth c C0 hr hlk hnm
  replace C0 : VC p { frames := 7, cells := 0, slots := 0, locals := 157 } s m args meth c D cy b0 2 0 0 RX5 cX5_served := C0
  refine v_run C0 tbX5 cokX5_served (pc' := 17) (lv' := [(0, .ref a0), (1, .int x1)]) (st' := [.long (Int32.toInt64 ((q_int (q_si h a0 21 (0 : Int32)) a0 6) - (1 : Int32))), .long (-1 : Int64), .long (Int32.toInt64 x1)]) (h' := (q_si h a0 21 (0 : Int32))) 11 rfl ⟨ta0, ta0, trivial⟩ ?_
  obtain ⟨r1, e1, hf⟩ := q_bd hf
  refine v_callS C0 cokX5_served rfl (rest := []) (ctX5_in (Int32.toInt64 x1) (-1 : Int64) (Int32.toInt64 ((q_int (q_si h a0 21 (0 : Int32)) a0 6) - (1 : Int32))) e1) calX5_in lkX5_96 inX5_in dnX5_in rfl rfl ⟨by decide, by decide⟩ (Nat.le_of_ble_eq_true rfl) (Nat.le_refl _) (Nat.le_refl _) ?_
  refine v_if_ne C0 cokX5_served rfl 25 (by decide) hf (fun _ hf => ?_) (fun _ hf => ?_)
  · refine v_run C0 tbX5 cokX5_served (pc' := 24) (lv' := [(0, .ref a0), (1, .int x1)]) (st' := [.int (-1 : Int32)]) (h' := (q_si h a0 21 (0 : Int32))) 1 rfl trivial ?_
    obtain ⟨rfl, rfl⟩ := Prod.mk.inj (Option.some.inj hf)
    exact v_iret C0 cokX5_served hr hlk rfl
  · refine v_run C0 tbX5 cokX5_served (pc' := 26) (lv' := [(0, .ref a0), (1, .int x1)]) (st' := [.int x1]) (h' := (q_si h a0 21 (0 : Int32))) 1 rfl trivial ?_
    refine v_if_ge C0 cokX5_served rfl 34 (by decide) hf (fun _ hf => ?_) (fun _ hf => ?_)
    · refine v_run C0 tbX5 cokX5_served (pc' := 35) (lv' := [(0, .ref a0), (1, .int x1)]) (st' := [.ref a0]) (h' := (q_si h a0 21 (0 : Int32))) 1 rfl trivial ?_
      obtain ⟨r2, h2, e2, hf⟩ := q_bd2 hf
      refine v_callV C0 cokX5_served rfl (rest := []) (ctX5_layFirst a0 ta0 e2) calX5_layFirst lkX5_272 inX5_layFirst dnX5_layFirst (ci := 5) ⟨rfl, by decide⟩ ta0 rfl rfl ⟨by decide, by decide⟩ (Nat.le_of_ble_eq_true rfl) (Nat.le_refl _) (Nat.le_refl _) ?_
      obtain ⟨g3, hf⟩ := q_gu_o hf
      refine v_run C0 tbX5 cokX5_served (pc' := 45) (lv' := [(0, .ref a0), (1, .int x1)]) (st' := [.int (q_int h2 (q_ref σ a0 40) (Int32.toNatClampNeg x1))]) (h' := h2) 5 rfl ⟨⟨ta0, q_tn k0⟩, ⟨k0, g3⟩, trivial⟩ ?_
      obtain ⟨rfl, rfl⟩ := Prod.mk.inj (Option.some.inj hf)
      exact v_iret C0 cokX5_served hr hlk rfl
    · refine v_run C0 tbX5 cokX5_served (pc' := 30) (lv' := [(0, .ref a0), (1, .int x1)]) (st' := [.ref a0]) (h' := (q_si h a0 21 (0 : Int32))) 1 rfl trivial ?_
      obtain ⟨r4, h4, e4, hf⟩ := q_bd2 hf
      refine v_callV C0 cokX5_served rfl (rest := []) (ctX5_servedNow a0 ta0 e4) calX5_servedNow lkX5_267 inX5_servedNow dnX5_servedNow (ci := 5) ⟨rfl, by decide⟩ ta0 rfl rfl ⟨by decide, by decide⟩ (Nat.le_of_ble_eq_true rfl) (Nat.le_refl _) (Nat.le_refl _) ?_
      obtain ⟨rfl, rfl⟩ := Prod.mk.inj (Option.some.inj hf)
      exact v_iret C0 cokX5_served hr hlk rfl
-- BackByNoonOnMondayModel.inState(I)I
noncomputable def fX5_inState_30 (σ : q_St) (h : q_Hp) (a0 : Nat) (x1 : Int32) (x3 : Int32) (s0 : Int32) (s1 : Int32) : Option ((Int32 × Int32) ⊕ Int32) := some (Sum.inl ((s1 ||| s0), (x3 + (1 : Int32))))
noncomputable def fX5_inState_4 (σ : q_St) (h : q_Hp) (a0 : Nat) (x1 : Int32) (x2 : Int32) (x3 : Int32) : Option ((Int32 × Int32) ⊕ Int32) := (if (q_int h a0 0) ≤ x3 then some (Sum.inr x2) else q_gu ((vp_in x3 (q_len σ (q_ref σ a0 5)))) ((if (q_int h (q_ref σ a0 5) (Int32.toNatClampNeg x3)) = x1 then fX5_inState_30 σ h a0 x1 x3 ((1 : Int32) <<< (x3 &&& 31)) x2 else fX5_inState_30 σ h a0 x1 x3 (0 : Int32) x2)))
noncomputable def fX5_inState (σ : q_St) (h : q_Hp) (a0 : Nat) (x1 : Int32) : Option Int32 := q_gu ((q_tag σ (q_ref σ a0 5) = 7)) ((q_loop (fun s => fX5_inState_4 σ h a0 x1 s.1 s.2) q_N ((0 : Int32), (0 : Int32))).bind fun o1 => some o1)
def cdX5_inState : q_Cd := [(0, .iconst 0), (1, .istore_n 2), (2, .iconst 0), (3, .istore_n 3), (4, .iload_n 3), (5, .aload_n 0), (6, .getfield 93), (9, .if_icmp .ge 29), (12, .iload_n 2), (13, .aload_n 0), (14, .getfield 22), (17, .iload_n 3), (18, .iaload), (19, .iload_n 1), (20, .if_icmp .ne 9), (23, .iconst 1), (24, .iload_n 3), (25, .ishl), (26, .goto 4), (29, .iconst 0), (30, .ior), (31, .istore_n 2), (32, .iinc 3 1), (35, .goto (-31)), (38, .iload_n 2), (39, .ireturn)]
set_option maxRecDepth 100000 in
theorem cokX5_inState : q_cok cX5_inState cdX5_inState := by unfold q_cok; decide +kernel
set_option maxRecDepth 100000 in
set_option maxHeartbeats 4000000 in
theorem ctX5_inState {l : Launch} {D : va_G} {cy : Nat → Nat} {b0 : Nat} {σ : q_St} {h : q_Hp} (a0 : Nat) (x1 : Int32) {r : Int32} (ta0 : q_tag σ a0 = 6) (hf : fX5_inState σ h a0 x1 = some r) : q_M l yX5_inState cX5_inState 4 (some .int) 0 0 0 0 D cy b0 σ h [.ref a0, .int x1] (some (.int r)) σ h := by
  unfold fX5_inState at hf
  obtain ⟨k0, hf⟩ := q_gu_o hf
  refine q_enter (by decide) (Nat.le_of_ble_eq_true rfl) ?_
  intro p e s m args below meth c C0 hr hlk hnm
  replace C0 : VC p { frames := 0, cells := 0, slots := 0, locals := 0 } s m args meth c D cy b0 4 0 0 RX5 cX5_inState := C0
  have n4 : ∀ (o : Int32) (s1 : (Int32 × Int32)), q_loop (fun s => fX5_inState_4 σ h a0 x1 s.1 s.2) q_N s1 = some o → V p l e { frames := 0, cells := 0, slots := 0, locals := 0 } s m args below meth c (MQ below (q_Qc D cy b0 (some (.int r)) σ h) args s 0 0 (fun q => b0 ≤ q)) D cy b0 4 0 0 0 0 σ h 38 [(2, .int o)] [] → V p l e { frames := 0, cells := 0, slots := 0, locals := 0 } s m args below meth c (MQ below (q_Qc D cy b0 (some (.int r)) σ h) args s 0 0 (fun q => b0 ≤ q)) D cy b0 4 0 0 0 0 σ h 4 [(0, .ref a0), (1, .int x1), (2, .int s1.1), (3, .int s1.2)] [] := by
    intro o s1 ho kx1
    refine q_loop_V (P := fun s0 => V p l e { frames := 0, cells := 0, slots := 0, locals := 0 } s m args below meth c (MQ below (q_Qc D cy b0 (some (.int r)) σ h) args s 0 0 (fun q => b0 ≤ q)) D cy b0 4 0 0 0 0 σ h 4 [(0, .ref a0), (1, .int x1), (2, .int s0.1), (3, .int s0.2)] []) (o := o) ?_ q_N s1 ho
    intro s2 z1 hf kb1 kr1
    obtain ⟨x2, x3⟩ := s2
    replace hf : fX5_inState_4 σ h a0 x1 x2 x3 = some z1 := hf
    unfold fX5_inState_4 at hf
    show V p l e { frames := 0, cells := 0, slots := 0, locals := 0 } s m args below meth c (MQ below (q_Qc D cy b0 (some (.int r)) σ h) args s 0 0 (fun q => b0 ≤ q)) D cy b0 4 0 0 0 0 σ h 4 [(0, .ref a0), (1, .int x1), (2, .int x2), (3, .int x3)] []
    have n30 : ∀ (x3 : Int32) (s0 : Int32) (s1 : Int32), fX5_inState_30 σ h a0 x1 x3 s0 s1 = some z1 → V p l e { frames := 0, cells := 0, slots := 0, locals := 0 } s m args below meth c (MQ below (q_Qc D cy b0 (some (.int r)) σ h) args s 0 0 (fun q => b0 ≤ q)) D cy b0 4 0 0 0 0 σ h 30 [(0, .ref a0), (1, .int x1), (3, .int x3)] [.int s0, .int s1] := by
      intro x3 s0 s1 hf
      unfold fX5_inState_30 at hf
      refine v_run C0 tbX5 cokX5_inState (pc' := 4) (lv' := [(3, .int (x3 + (1 : Int32))), (2, .int (s1 ||| s0)), (0, .ref a0), (1, .int x1)]) (st' := []) (h' := h) 4 rfl trivial ?_
      obtain rfl := Option.some.inj hf
      refine v_pick [2, 3, 1, 0] rfl ?_
      exact kb1 _ rfl
    refine v_run C0 tbX5 cokX5_inState (pc' := 9) (lv' := [(0, .ref a0), (1, .int x1), (2, .int x2), (3, .int x3)]) (st' := [.int (q_int h a0 0), .int x3]) (h' := h) 3 rfl ⟨ta0, trivial⟩ ?_
    refine v_icmp_ge C0 cokX5_inState rfl 38 (by decide) hf (fun _ hf => ?_) (fun _ hf => ?_)
    · obtain rfl := Option.some.inj hf
      refine v_pick [2] rfl ?_
      have hx := kr1 _ rfl
      subst hx
      exact kx1
    · obtain ⟨g2, hf⟩ := q_gu_o hf
      refine v_run C0 tbX5 cokX5_inState (pc' := 20) (lv' := [(0, .ref a0), (1, .int x1), (2, .int x2), (3, .int x3)]) (st' := [.int x1, .int (q_int h (q_ref σ a0 5) (Int32.toNatClampNeg x3)), .int x2]) (h' := h) 6 rfl ⟨⟨ta0, q_tn k0⟩, ⟨k0, g2⟩, trivial⟩ ?_
      refine v_icmp_ne C0 cokX5_inState rfl 29 (by decide) hf (fun _ hf => ?_) (fun _ hf => ?_)
      · refine v_run C0 tbX5 cokX5_inState (pc' := 30) (lv' := [(0, .ref a0), (1, .int x1), (2, .int x2), (3, .int x3)]) (st' := [.int ((1 : Int32) <<< (x3 &&& 31)), .int x2]) (h' := h) 4 rfl trivial ?_
        refine v_pick [0, 1, 3] rfl ?_
        exact n30 x3 ((1 : Int32) <<< (x3 &&& 31)) x2 hf
      · refine v_run C0 tbX5 cokX5_inState (pc' := 30) (lv' := [(0, .ref a0), (1, .int x1), (2, .int x2), (3, .int x3)]) (st' := [.int (0 : Int32), .int x2]) (h' := h) 1 rfl trivial ?_
        refine v_pick [0, 1, 3] rfl ?_
        exact n30 x3 (0 : Int32) x2 hf
  refine v_run C0 tbX5 cokX5_inState (pc' := 4) (lv' := [(3, .int (0 : Int32)), (2, .int (0 : Int32)), (0, .ref a0), (1, .int x1)]) (st' := []) (h' := h) 4 rfl trivial ?_
  obtain ⟨o1, eo1, hf⟩ := q_bd hf
  refine v_pick [2, 3, 1, 0] rfl ?_
  refine n4 o1 ((0 : Int32), (0 : Int32)) eo1 ?_
  refine v_run C0 tbX5 cokX5_inState (pc' := 39) (lv' := [(2, .int o1)]) (st' := [.int o1]) (h' := h) 1 rfl trivial ?_
  obtain rfl := Option.some.inj hf
  exact v_iret C0 cokX5_inState hr hlk rfl
-- BackByNoonOnMondayModel.leftOver()I
noncomputable def fX5_leftOver (σ : q_St) (h : q_Hp) (a0 : Nat) : Option (Int32 × q_Hp) := ((fX5_inState σ (q_si h a0 21 (0 : Int32)) a0 (0 : Int32)).bind fun r1 => (q_b2 (fX5_layFirst σ (q_si h a0 21 (0 : Int32)) a0) fun r2 h2 => some ((r1 &&& (r2 ^^^ (-1 : Int32))), h2)))
def cdX5_leftOver : q_Cd := [(0, .aload_n 0), (1, .iconst 0), (2, .putfield 89), (5, .aload_n 0), (6, .iconst 0), (7, .invokevirtual 275), (10, .aload_n 0), (11, .invokevirtual 272), (14, .iconst (-1)), (15, .ixor), (16, .iand), (17, .ireturn)]
set_option maxRecDepth 100000 in
theorem cokX5_leftOver : q_cok cX5_leftOver cdX5_leftOver := by unfold q_cok; decide +kernel
set_option maxRecDepth 100000 in
set_option maxHeartbeats 4000000 in
theorem ctX5_leftOver {l : Launch} {D : va_G} {cy : Nat → Nat} {b0 : Nat} {σ : q_St} {h : q_Hp} (a0 : Nat) {r : Int32} {h' : q_Hp} (ta0 : q_tag σ a0 = 6) (hf : fX5_leftOver σ h a0 = some (r, h')) : q_M l yX5_leftOver cX5_leftOver 1 (some .int) 7 157 0 0 D cy b0 σ h [.ref a0] (some (.int r)) σ h' := by
  unfold fX5_leftOver at hf
  refine q_enter (by decide) (Nat.le_of_ble_eq_true rfl) ?_
  intro p e s m args below meth c C0 hr hlk hnm
  replace C0 : VC p { frames := 7, cells := 0, slots := 0, locals := 157 } s m args meth c D cy b0 1 0 0 RX5 cX5_leftOver := C0
  refine v_run C0 tbX5 cokX5_leftOver (pc' := 7) (lv' := [(0, .ref a0)]) (st' := [.int (0 : Int32), .ref a0]) (h' := (q_si h a0 21 (0 : Int32))) 5 rfl ⟨ta0, trivial⟩ ?_
  obtain ⟨r1, e1, hf⟩ := q_bd hf
  refine v_callV C0 cokX5_leftOver rfl (rest := []) (ctX5_inState a0 (0 : Int32) ta0 e1) calX5_inState lkX5_275 inX5_inState dnX5_inState (ci := 5) ⟨rfl, by decide⟩ ta0 rfl rfl ⟨by decide, by decide⟩ (Nat.le_of_ble_eq_true rfl) (Nat.le_refl _) (Nat.le_refl _) ?_
  refine v_run C0 tbX5 cokX5_leftOver (pc' := 11) (lv' := [(0, .ref a0)]) (st' := [.ref a0, .int r1]) (h' := (q_si h a0 21 (0 : Int32))) 1 rfl trivial ?_
  obtain ⟨r2, h2, e2, hf⟩ := q_bd2 hf
  refine v_callV C0 cokX5_leftOver rfl (rest := [.int r1]) (ctX5_layFirst a0 ta0 e2) calX5_layFirst lkX5_272 inX5_layFirst dnX5_layFirst (ci := 5) ⟨rfl, by decide⟩ ta0 rfl rfl ⟨by decide, by decide⟩ (Nat.le_of_ble_eq_true rfl) (Nat.le_refl _) (Nat.le_refl _) ?_
  refine v_run C0 tbX5 cokX5_leftOver (pc' := 17) (lv' := [(0, .ref a0)]) (st' := [.int (r1 &&& (r2 ^^^ (-1 : Int32)))]) (h' := h2) 3 rfl trivial ?_
  obtain ⟨rfl, rfl⟩ := Prod.mk.inj (Option.some.inj hf)
  exact v_iret C0 cokX5_leftOver hr hlk rfl
-- BackByNoonOnMondayModel.earned()I
noncomputable def fX5_earned (σ : q_St) (h : q_Hp) (a0 : Nat) : Option (Int32 × q_Hp) := (q_b2 (fX5_earnedNow σ (q_si h a0 21 (0 : Int32)) a0) fun r1 h1 => some (r1, h1))
def cdX5_earned : q_Cd := [(0, .aload_n 0), (1, .iconst 0), (2, .putfield 89), (5, .aload_n 0), (6, .invokevirtual 278), (9, .ireturn)]
set_option maxRecDepth 100000 in
theorem cokX5_earned : q_cok cX5_earned cdX5_earned := by unfold q_cok; decide +kernel
set_option maxRecDepth 100000 in
set_option maxHeartbeats 4000000 in
theorem ctX5_earned {l : Launch} {D : va_G} {cy : Nat → Nat} {b0 : Nat} {σ : q_St} {h : q_Hp} (a0 : Nat) {r : Int32} {h' : q_Hp} (ta0 : q_tag σ a0 = 6) (hf : fX5_earned σ h a0 = some (r, h')) : q_M l yX5_earned cX5_earned 1 (some .int) 6 132 0 0 D cy b0 σ h [.ref a0] (some (.int r)) σ h' := by
  unfold fX5_earned at hf
  refine q_enter (by decide) (Nat.le_of_ble_eq_true rfl) ?_
  intro p e s m args below meth c C0 hr hlk hnm
  replace C0 : VC p { frames := 6, cells := 0, slots := 0, locals := 132 } s m args meth c D cy b0 1 0 0 RX5 cX5_earned := C0
  refine v_run C0 tbX5 cokX5_earned (pc' := 6) (lv' := [(0, .ref a0)]) (st' := [.ref a0]) (h' := (q_si h a0 21 (0 : Int32))) 4 rfl ⟨ta0, trivial⟩ ?_
  obtain ⟨r1, h1, e1, hf⟩ := q_bd2 hf
  refine v_callV C0 cokX5_earned rfl (rest := []) (ctX5_earnedNow a0 ta0 e1) calX5_earnedNow lkX5_278 inX5_earnedNow dnX5_earnedNow (ci := 5) ⟨rfl, by decide⟩ ta0 rfl rfl ⟨by decide, by decide⟩ (Nat.le_of_ble_eq_true rfl) (Nat.le_refl _) (Nat.le_refl _) ?_
  obtain ⟨rfl, rfl⟩ := Prod.mk.inj (Option.some.inj hf)
  exact v_iret C0 cokX5_earned hr hlk rfl
-- BackByNoonOnMondayModel.alike()I
noncomputable def fX5_alike_9 (σ : q_St) (a0 : Nat) (x1 : Int32) (x2 : Int32) (h : q_Hp) : Option ((Int32 × Int32 × q_Hp) ⊕ (Int32 × q_Hp)) := (if (512 : Int32) ≤ x2 then some (Sum.inr (x1, h)) else q_gu ((vp_in (1 : Int32) (q_len σ (q_ref σ a0 36))) ∧ (vp_in (2 : Int32) (q_len σ (q_ref σ a0 36))) ∧ (vp_in (3 : Int32) (q_len σ (q_ref σ a0 36)))) ((q_b2 (fX5_servedNow σ (q_si (q_si (q_si h (q_ref σ a0 36) (Int32.toNatClampNeg (1 : Int32)) (x2 / (64 : Int32))) (q_ref σ a0 36) (Int32.toNatClampNeg (2 : Int32)) ((x2 / (8 : Int32)) - (x2 / (8 : Int32)) / (8 : Int32) * (8 : Int32))) (q_ref σ a0 36) (Int32.toNatClampNeg (3 : Int32)) (x2 - x2 / (8 : Int32) * (8 : Int32))) a0) fun r7 h7 => ((fX5_greater σ h7 x1 r7).bind fun r8 => some (Sum.inl (r8, (x2 + (1 : Int32)), h7))))))
noncomputable def fX5_alike_66 (σ : q_St) (a0 : Nat) (x1 : Int32) (x2 : Int32) (h : q_Hp) : Option ((Int32 × q_Hp) ⊕ q_Hp) := (if (4 : Int32) ≤ x2 then some (Sum.inr h) else q_gu ((vp_in x2 (q_len σ (q_ref σ a0 36)))) (some (Sum.inl ((x2 + (1 : Int32)), (q_si h (q_ref σ a0 36) (Int32.toNatClampNeg x2) (-1 : Int32))))))
noncomputable def fX5_alike (σ : q_St) (h : q_Hp) (a0 : Nat) : Option (Int32 × q_Hp) := q_gu ((q_tag σ (q_ref σ a0 36) = 7)) ((q_loop (fun s => fX5_alike_9 σ a0 s.1 s.2.1 s.2.2) q_N ((0 : Int32), (0 : Int32), (q_si h a0 21 (0 : Int32)))).bind fun o1 => (q_loop (fun s => fX5_alike_66 σ a0 o1.1 s.1 s.2) q_N ((1 : Int32), o1.2)).bind fun o2 => some (o1.1, o2))
def cdX5_alike : q_Cd := [(0, .aload_n 0), (1, .iconst 0), (2, .putfield 89), (5, .iconst 0), (6, .istore_n 1), (7, .iconst 0), (8, .istore_n 2), (9, .iload_n 2), (10, .sipush 512), (13, .if_icmp .ge 51), (16, .aload_n 0), (17, .getfield 77), (20, .iconst 1), (21, .iload_n 2), (22, .bipush 64), (24, .idiv), (25, .iastore), (26, .aload_n 0), (27, .getfield 77), (30, .iconst 2), (31, .iload_n 2), (32, .bipush 8), (34, .idiv), (35, .bipush 8), (37, .irem), (38, .iastore), (39, .aload_n 0), (40, .getfield 77), (43, .iconst 3), (44, .iload_n 2), (45, .bipush 8), (47, .irem), (48, .iastore), (49, .iload_n 1), (50, .aload_n 0), (51, .invokevirtual 267), (54, .invokestatic 258), (57, .istore_n 1), (58, .iinc 2 1), (61, .goto (-52)), (64, .iconst 1), (65, .istore_n 2), (66, .iload_n 2), (67, .iconst 4), (68, .if_icmp .ge 16), (71, .aload_n 0), (72, .getfield 77), (75, .iload_n 2), (76, .iconst (-1)), (77, .iastore), (78, .iinc 2 1), (81, .goto (-15)), (84, .iload_n 1), (85, .ireturn)]
set_option maxRecDepth 100000 in
theorem cokX5_alike : q_cok cX5_alike cdX5_alike := by unfold q_cok; decide +kernel
set_option maxRecDepth 100000 in
set_option maxHeartbeats 4000000 in
theorem ctX5_alike {l : Launch} {D : va_G} {cy : Nat → Nat} {b0 : Nat} {σ : q_St} {h : q_Hp} (a0 : Nat) {r : Int32} {h' : q_Hp} (ta0 : q_tag σ a0 = 6) (hf : fX5_alike σ h a0 = some (r, h')) : q_M l yX5_alike cX5_alike 3 (some .int) 6 132 0 0 D cy b0 σ h [.ref a0] (some (.int r)) σ h' := by
  unfold fX5_alike at hf
  obtain ⟨k0, hf⟩ := q_gu_o hf
  refine q_enter (by decide) (Nat.le_of_ble_eq_true rfl) ?_
  intro p e s m args below meth c C0 hr hlk hnm
  replace C0 : VC p { frames := 6, cells := 0, slots := 0, locals := 132 } s m args meth c D cy b0 3 0 0 RX5 cX5_alike := C0
  have n9 : ∀ (o : (Int32 × q_Hp)) (s1 : (Int32 × Int32 × q_Hp)), q_loop (fun s => fX5_alike_9 σ a0 s.1 s.2.1 s.2.2) q_N s1 = some o → V p l e { frames := 6, cells := 0, slots := 0, locals := 132 } s m args below meth c (MQ below (q_Qc D cy b0 (some (.int r)) σ h') args s 0 0 (fun q => b0 ≤ q)) D cy b0 3 0 0 0 0 σ o.2 64 [(0, .ref a0), (1, .int o.1)] [] → V p l e { frames := 6, cells := 0, slots := 0, locals := 132 } s m args below meth c (MQ below (q_Qc D cy b0 (some (.int r)) σ h') args s 0 0 (fun q => b0 ≤ q)) D cy b0 3 0 0 0 0 σ s1.2.2 9 [(0, .ref a0), (1, .int s1.1), (2, .int s1.2.1)] [] := by
    intro o s1 ho kx1
    refine q_loop_V (P := fun s0 => V p l e { frames := 6, cells := 0, slots := 0, locals := 132 } s m args below meth c (MQ below (q_Qc D cy b0 (some (.int r)) σ h') args s 0 0 (fun q => b0 ≤ q)) D cy b0 3 0 0 0 0 σ s0.2.2 9 [(0, .ref a0), (1, .int s0.1), (2, .int s0.2.1)] []) (o := o) ?_ q_N s1 ho
    intro s2 z1 hf kb1 kr1
    obtain ⟨x1, x2, h⟩ := s2
    replace hf : fX5_alike_9 σ a0 x1 x2 h = some z1 := hf
    unfold fX5_alike_9 at hf
    show V p l e { frames := 6, cells := 0, slots := 0, locals := 132 } s m args below meth c (MQ below (q_Qc D cy b0 (some (.int r)) σ h') args s 0 0 (fun q => b0 ≤ q)) D cy b0 3 0 0 0 0 σ h 9 [(0, .ref a0), (1, .int x1), (2, .int x2)] []
    refine v_run C0 tbX5 cokX5_alike (pc' := 13) (lv' := [(0, .ref a0), (1, .int x1), (2, .int x2)]) (st' := [.int (512 : Int32), .int x2]) (h' := h) 2 rfl trivial ?_
    refine v_icmp_ge C0 cokX5_alike rfl 64 (by decide) hf (fun _ hf => ?_) (fun _ hf => ?_)
    · obtain rfl := Option.some.inj hf
      refine v_pick [0, 1] rfl ?_
      have hx := kr1 _ rfl
      subst hx
      exact kx1
    · obtain ⟨⟨g4, g5, g6⟩, hf⟩ := q_gu_o hf
      refine v_run C0 tbX5 cokX5_alike (pc' := 51) (lv' := [(0, .ref a0), (1, .int x1), (2, .int x2)]) (st' := [.ref a0, .int x1]) (h' := (q_si (q_si (q_si h (q_ref σ a0 36) (Int32.toNatClampNeg (1 : Int32)) (x2 / (64 : Int32))) (q_ref σ a0 36) (Int32.toNatClampNeg (2 : Int32)) ((x2 / (8 : Int32)) - (x2 / (8 : Int32)) / (8 : Int32) * (8 : Int32))) (q_ref σ a0 36) (Int32.toNatClampNeg (3 : Int32)) (x2 - x2 / (8 : Int32) * (8 : Int32)))) 25 rfl ⟨⟨ta0, q_tn k0⟩, (by decide), ⟨k0, g4⟩, ⟨ta0, q_tn k0⟩, (by decide), (by decide), ⟨k0, g5⟩, ⟨ta0, q_tn k0⟩, (by decide), ⟨k0, g6⟩, trivial⟩ ?_
      obtain ⟨r7, h7, e7, hf⟩ := q_bd2 hf
      refine v_callV C0 cokX5_alike rfl (rest := [.int x1]) (ctX5_servedNow a0 ta0 e7) calX5_servedNow lkX5_267 inX5_servedNow dnX5_servedNow (ci := 5) ⟨rfl, by decide⟩ ta0 rfl rfl ⟨by decide, by decide⟩ (Nat.le_of_ble_eq_true rfl) (Nat.le_refl _) (Nat.le_refl _) ?_
      obtain ⟨r8, e8, hf⟩ := q_bd hf
      refine v_callS C0 cokX5_alike rfl (rest := []) (ctX5_greater x1 r7 e8) calX5_greater lkX5_258 inX5_greater dnX5_greater rfl rfl ⟨by decide, by decide⟩ (Nat.le_of_ble_eq_true rfl) (Nat.le_refl _) (Nat.le_refl _) ?_
      refine v_run C0 tbX5 cokX5_alike (pc' := 9) (lv' := [(2, .int (x2 + (1 : Int32))), (1, .int r8), (0, .ref a0)]) (st' := []) (h' := h7) 3 rfl trivial ?_
      obtain rfl := Option.some.inj hf
      refine v_pick [2, 1, 0] rfl ?_
      exact kb1 _ rfl
  have n66 : ∀ (x1 : Int32) (o : q_Hp) (s1 : (Int32 × q_Hp)), q_loop (fun s => fX5_alike_66 σ a0 x1 s.1 s.2) q_N s1 = some o → V p l e { frames := 6, cells := 0, slots := 0, locals := 132 } s m args below meth c (MQ below (q_Qc D cy b0 (some (.int r)) σ h') args s 0 0 (fun q => b0 ≤ q)) D cy b0 3 0 0 0 0 σ o 84 [(1, .int x1)] [] → V p l e { frames := 6, cells := 0, slots := 0, locals := 132 } s m args below meth c (MQ below (q_Qc D cy b0 (some (.int r)) σ h') args s 0 0 (fun q => b0 ≤ q)) D cy b0 3 0 0 0 0 σ s1.2 66 [(0, .ref a0), (1, .int x1), (2, .int s1.1)] [] := by
    intro x1 o s1 ho kx1
    refine q_loop_V (P := fun s0 => V p l e { frames := 6, cells := 0, slots := 0, locals := 132 } s m args below meth c (MQ below (q_Qc D cy b0 (some (.int r)) σ h') args s 0 0 (fun q => b0 ≤ q)) D cy b0 3 0 0 0 0 σ s0.2 66 [(0, .ref a0), (1, .int x1), (2, .int s0.1)] []) (o := o) ?_ q_N s1 ho
    intro s2 z1 hf kb1 kr1
    obtain ⟨x2, h⟩ := s2
    replace hf : fX5_alike_66 σ a0 x1 x2 h = some z1 := hf
    unfold fX5_alike_66 at hf
    show V p l e { frames := 6, cells := 0, slots := 0, locals := 132 } s m args below meth c (MQ below (q_Qc D cy b0 (some (.int r)) σ h') args s 0 0 (fun q => b0 ≤ q)) D cy b0 3 0 0 0 0 σ h 66 [(0, .ref a0), (1, .int x1), (2, .int x2)] []
    refine v_run C0 tbX5 cokX5_alike (pc' := 68) (lv' := [(0, .ref a0), (1, .int x1), (2, .int x2)]) (st' := [.int (4 : Int32), .int x2]) (h' := h) 2 rfl trivial ?_
    refine v_icmp_ge C0 cokX5_alike rfl 84 (by decide) hf (fun _ hf => ?_) (fun _ hf => ?_)
    · obtain rfl := Option.some.inj hf
      refine v_pick [1] rfl ?_
      have hx := kr1 _ rfl
      subst hx
      exact kx1
    · obtain ⟨g3, hf⟩ := q_gu_o hf
      refine v_run C0 tbX5 cokX5_alike (pc' := 66) (lv' := [(2, .int (x2 + (1 : Int32))), (0, .ref a0), (1, .int x1)]) (st' := []) (h' := (q_si h (q_ref σ a0 36) (Int32.toNatClampNeg x2) (-1 : Int32))) 7 rfl ⟨⟨ta0, q_tn k0⟩, ⟨k0, g3⟩, trivial⟩ ?_
      obtain rfl := Option.some.inj hf
      refine v_pick [1, 2, 0] rfl ?_
      exact kb1 _ rfl
  refine v_run C0 tbX5 cokX5_alike (pc' := 9) (lv' := [(2, .int (0 : Int32)), (1, .int (0 : Int32)), (0, .ref a0)]) (st' := []) (h' := (q_si h a0 21 (0 : Int32))) 7 rfl ⟨ta0, trivial⟩ ?_
  obtain ⟨o1, eo1, hf⟩ := q_bd hf
  refine v_pick [2, 1, 0] rfl ?_
  refine n9 o1 ((0 : Int32), (0 : Int32), (q_si h a0 21 (0 : Int32))) eo1 ?_
  refine v_run C0 tbX5 cokX5_alike (pc' := 66) (lv' := [(2, .int (1 : Int32)), (0, .ref a0), (1, .int o1.1)]) (st' := []) (h' := o1.2) 2 rfl trivial ?_
  obtain ⟨o2, eo2, hf⟩ := q_bd hf
  refine v_pick [1, 2, 0] rfl ?_
  refine n66 o1.1 o2 ((1 : Int32), o1.2) eo2 ?_
  refine v_run C0 tbX5 cokX5_alike (pc' := 85) (lv' := [(1, .int o1.1)]) (st' := [.int o1.1]) (h' := o2) 1 rfl trivial ?_
  obtain ⟨rfl, rfl⟩ := Prod.mk.inj (Option.some.inj hf)
  exact v_iret C0 cokX5_alike hr hlk rfl
-- BackByNoonOnMondayModel.add(III)V
noncomputable def fX5_add (σ : q_St) (h : q_Hp) (a0 : Nat) (x1 : Int32) (x2 : Int32) (x3 : Int32) : Option q_Hp := q_gu ((q_tag σ (q_ref σ a0 1) = 7) ∧ (q_tag σ (q_ref σ a0 2) = 7) ∧ (q_tag σ (q_ref σ a0 3) = 7) ∧ (q_tag σ (q_ref σ a0 5) = 7)) (q_gu ((vp_in (q_int h a0 0) (q_len σ (q_ref σ a0 1))) ∧ (vp_in (q_int (q_si h (q_ref σ a0 1) (Int32.toNatClampNeg (q_int h a0 0)) x1) a0 0) (q_len σ (q_ref σ a0 2))) ∧ (vp_in (q_int (q_si (q_si h (q_ref σ a0 1) (Int32.toNatClampNeg (q_int h a0 0)) x1) (q_ref σ a0 2) (Int32.toNatClampNeg (q_int (q_si h (q_ref σ a0 1) (Int32.toNatClampNeg (q_int h a0 0)) x1) a0 0)) x2) a0 0) (q_len σ (q_ref σ a0 3))) ∧ (vp_in (q_int (q_si (q_si (q_si h (q_ref σ a0 1) (Int32.toNatClampNeg (q_int h a0 0)) x1) (q_ref σ a0 2) (Int32.toNatClampNeg (q_int (q_si h (q_ref σ a0 1) (Int32.toNatClampNeg (q_int h a0 0)) x1) a0 0)) x2) (q_ref σ a0 3) (Int32.toNatClampNeg (q_int (q_si (q_si h (q_ref σ a0 1) (Int32.toNatClampNeg (q_int h a0 0)) x1) (q_ref σ a0 2) (Int32.toNatClampNeg (q_int (q_si h (q_ref σ a0 1) (Int32.toNatClampNeg (q_int h a0 0)) x1) a0 0)) x2) a0 0)) x3) a0 0) (q_len σ (q_ref σ a0 5)))) (some (q_si (q_si (q_si (q_si (q_si h (q_ref σ a0 1) (Int32.toNatClampNeg (q_int h a0 0)) x1) (q_ref σ a0 2) (Int32.toNatClampNeg (q_int (q_si h (q_ref σ a0 1) (Int32.toNatClampNeg (q_int h a0 0)) x1) a0 0)) x2) (q_ref σ a0 3) (Int32.toNatClampNeg (q_int (q_si (q_si h (q_ref σ a0 1) (Int32.toNatClampNeg (q_int h a0 0)) x1) (q_ref σ a0 2) (Int32.toNatClampNeg (q_int (q_si h (q_ref σ a0 1) (Int32.toNatClampNeg (q_int h a0 0)) x1) a0 0)) x2) a0 0)) x3) (q_ref σ a0 5) (Int32.toNatClampNeg (q_int (q_si (q_si (q_si h (q_ref σ a0 1) (Int32.toNatClampNeg (q_int h a0 0)) x1) (q_ref σ a0 2) (Int32.toNatClampNeg (q_int (q_si h (q_ref σ a0 1) (Int32.toNatClampNeg (q_int h a0 0)) x1) a0 0)) x2) (q_ref σ a0 3) (Int32.toNatClampNeg (q_int (q_si (q_si h (q_ref σ a0 1) (Int32.toNatClampNeg (q_int h a0 0)) x1) (q_ref σ a0 2) (Int32.toNatClampNeg (q_int (q_si h (q_ref σ a0 1) (Int32.toNatClampNeg (q_int h a0 0)) x1) a0 0)) x2) a0 0)) x3) a0 0)) (0 : Int32)) a0 0 ((q_int (q_si (q_si (q_si (q_si h (q_ref σ a0 1) (Int32.toNatClampNeg (q_int h a0 0)) x1) (q_ref σ a0 2) (Int32.toNatClampNeg (q_int (q_si h (q_ref σ a0 1) (Int32.toNatClampNeg (q_int h a0 0)) x1) a0 0)) x2) (q_ref σ a0 3) (Int32.toNatClampNeg (q_int (q_si (q_si h (q_ref σ a0 1) (Int32.toNatClampNeg (q_int h a0 0)) x1) (q_ref σ a0 2) (Int32.toNatClampNeg (q_int (q_si h (q_ref σ a0 1) (Int32.toNatClampNeg (q_int h a0 0)) x1) a0 0)) x2) a0 0)) x3) (q_ref σ a0 5) (Int32.toNatClampNeg (q_int (q_si (q_si (q_si h (q_ref σ a0 1) (Int32.toNatClampNeg (q_int h a0 0)) x1) (q_ref σ a0 2) (Int32.toNatClampNeg (q_int (q_si h (q_ref σ a0 1) (Int32.toNatClampNeg (q_int h a0 0)) x1) a0 0)) x2) (q_ref σ a0 3) (Int32.toNatClampNeg (q_int (q_si (q_si h (q_ref σ a0 1) (Int32.toNatClampNeg (q_int h a0 0)) x1) (q_ref σ a0 2) (Int32.toNatClampNeg (q_int (q_si h (q_ref σ a0 1) (Int32.toNatClampNeg (q_int h a0 0)) x1) a0 0)) x2) a0 0)) x3) a0 0)) (0 : Int32)) a0 0) + (1 : Int32)))))
def cdX5_add : q_Cd := [(0, .aload_n 0), (1, .getfield 7), (4, .aload_n 0), (5, .getfield 93), (8, .iload_n 1), (9, .iastore), (10, .aload_n 0), (11, .getfield 13), (14, .aload_n 0), (15, .getfield 93), (18, .iload_n 2), (19, .iastore), (20, .aload_n 0), (21, .getfield 16), (24, .aload_n 0), (25, .getfield 93), (28, .iload_n 3), (29, .iastore), (30, .aload_n 0), (31, .getfield 22), (34, .aload_n 0), (35, .getfield 93), (38, .iconst 0), (39, .iastore), (40, .aload_n 0), (41, .dup), (42, .getfield 93), (45, .iconst 1), (46, .iadd), (47, .putfield 93), (50, .return_)]
set_option maxRecDepth 100000 in
theorem cokX5_add : q_cok cX5_add cdX5_add := by unfold q_cok; decide +kernel
set_option maxRecDepth 100000 in
set_option maxHeartbeats 4000000 in
theorem ctX5_add {l : Launch} {D : va_G} {cy : Nat → Nat} {b0 : Nat} {σ : q_St} {h : q_Hp} (a0 : Nat) (x1 : Int32) (x2 : Int32) (x3 : Int32) {h' : q_Hp} (ta0 : q_tag σ a0 = 6) (hf : fX5_add σ h a0 x1 x2 x3 = some h') : q_M l yX5_add cX5_add 4 none 0 0 0 0 D cy b0 σ h [.ref a0, .int x1, .int x2, .int x3] none σ h' := by
  unfold fX5_add at hf
  obtain ⟨⟨k0, k1, k2, k3⟩, hf⟩ := q_gu_o hf
  refine q_enter (by decide) (Nat.le_of_ble_eq_true rfl) ?_
  intro p e s m args below meth c C0 hr hlk hnm
  replace C0 : VC p { frames := 0, cells := 0, slots := 0, locals := 0 } s m args meth c D cy b0 4 0 0 RX5 cX5_add := C0
  obtain ⟨⟨g1, g2, g3, g4⟩, hf⟩ := q_gu_o hf
  refine v_run C0 tbX5 cokX5_add (pc' := 50) (lv' := [(0, .ref a0), (1, .int x1), (2, .int x2), (3, .int x3)]) (st' := []) (h' := (q_si (q_si (q_si (q_si (q_si h (q_ref σ a0 1) (Int32.toNatClampNeg (q_int h a0 0)) x1) (q_ref σ a0 2) (Int32.toNatClampNeg (q_int (q_si h (q_ref σ a0 1) (Int32.toNatClampNeg (q_int h a0 0)) x1) a0 0)) x2) (q_ref σ a0 3) (Int32.toNatClampNeg (q_int (q_si (q_si h (q_ref σ a0 1) (Int32.toNatClampNeg (q_int h a0 0)) x1) (q_ref σ a0 2) (Int32.toNatClampNeg (q_int (q_si h (q_ref σ a0 1) (Int32.toNatClampNeg (q_int h a0 0)) x1) a0 0)) x2) a0 0)) x3) (q_ref σ a0 5) (Int32.toNatClampNeg (q_int (q_si (q_si (q_si h (q_ref σ a0 1) (Int32.toNatClampNeg (q_int h a0 0)) x1) (q_ref σ a0 2) (Int32.toNatClampNeg (q_int (q_si h (q_ref σ a0 1) (Int32.toNatClampNeg (q_int h a0 0)) x1) a0 0)) x2) (q_ref σ a0 3) (Int32.toNatClampNeg (q_int (q_si (q_si h (q_ref σ a0 1) (Int32.toNatClampNeg (q_int h a0 0)) x1) (q_ref σ a0 2) (Int32.toNatClampNeg (q_int (q_si h (q_ref σ a0 1) (Int32.toNatClampNeg (q_int h a0 0)) x1) a0 0)) x2) a0 0)) x3) a0 0)) (0 : Int32)) a0 0 ((q_int (q_si (q_si (q_si (q_si h (q_ref σ a0 1) (Int32.toNatClampNeg (q_int h a0 0)) x1) (q_ref σ a0 2) (Int32.toNatClampNeg (q_int (q_si h (q_ref σ a0 1) (Int32.toNatClampNeg (q_int h a0 0)) x1) a0 0)) x2) (q_ref σ a0 3) (Int32.toNatClampNeg (q_int (q_si (q_si h (q_ref σ a0 1) (Int32.toNatClampNeg (q_int h a0 0)) x1) (q_ref σ a0 2) (Int32.toNatClampNeg (q_int (q_si h (q_ref σ a0 1) (Int32.toNatClampNeg (q_int h a0 0)) x1) a0 0)) x2) a0 0)) x3) (q_ref σ a0 5) (Int32.toNatClampNeg (q_int (q_si (q_si (q_si h (q_ref σ a0 1) (Int32.toNatClampNeg (q_int h a0 0)) x1) (q_ref σ a0 2) (Int32.toNatClampNeg (q_int (q_si h (q_ref σ a0 1) (Int32.toNatClampNeg (q_int h a0 0)) x1) a0 0)) x2) (q_ref σ a0 3) (Int32.toNatClampNeg (q_int (q_si (q_si h (q_ref σ a0 1) (Int32.toNatClampNeg (q_int h a0 0)) x1) (q_ref σ a0 2) (Int32.toNatClampNeg (q_int (q_si h (q_ref σ a0 1) (Int32.toNatClampNeg (q_int h a0 0)) x1) a0 0)) x2) a0 0)) x3) a0 0)) (0 : Int32)) a0 0) + (1 : Int32)))) 30 rfl ⟨⟨ta0, q_tn k0⟩, ta0, ⟨k0, g1⟩, ⟨ta0, q_tn k1⟩, ta0, ⟨k1, g2⟩, ⟨ta0, q_tn k2⟩, ta0, ⟨k2, g3⟩, ⟨ta0, q_tn k3⟩, ta0, ⟨k3, g4⟩, ta0, ta0, trivial⟩ ?_
  obtain rfl := Option.some.inj hf
  exact v_vret C0 cokX5_add hr hlk rfl
-- BackByNoonOnMondayModel.oneMore()I
noncomputable def fX5_oneMore_53 (σ : q_St) (h : q_Hp) (a0 : Nat) (x1 : Int32) (x3 : Int32) (x4 : Int32) (s0 : Int32) : Option ((Int32 × Int32 × Int32 × q_St × q_Hp) ⊕ (Int32 × q_St × q_Hp)) := ((fX5_greater σ h x1 x4).bind fun r8 => some (Sum.inl (r8, s0, (x3 + (1 : Int32)), σ, h)))
noncomputable def fX5_oneMore_19 (a0 : Nat) (x1 : Int32) (x2 : Int32) (x3 : Int32) (σ : q_St) (h : q_Hp) : Option ((Int32 × Int32 × Int32 × q_St × q_Hp) ⊕ (Int32 × q_St × q_Hp)) := (if (20 : Int32) < x3 then some (Sum.inr (x2, σ, h)) else q_gu ((q_tag σ a0 = 6)) (((fX5_add σ h a0 (0 : Int32) (0 : Int32) x3).bind fun h5 => (q_b2 (fX5_servedNow σ h5 a0) fun r6 h6 => (q_b2 (fX5_close σ h6 a0) fun σ7 h7 => (if r6 ≤ x1 then fX5_oneMore_53  σ7 h7 a0 x1 x3 r6 x2 else fX5_oneMore_53  σ7 h7 a0 x1 x3 r6 x3))))))
noncomputable def fX5_oneMore (σ : q_St) (h : q_Hp) (a0 : Nat) : Option (Int32 × q_St × q_Hp) := (q_b2 (fX5_servedNow σ (q_si h a0 21 (0 : Int32)) a0) fun r1 h1 => (q_b2 (fX5_open σ h1 a0) fun σ2 h2 => (q_loop (fun s => fX5_oneMore_19  a0 s.1 s.2.1 s.2.2.1 s.2.2.2.1 s.2.2.2.2) q_N (r1, (-4 : Int32), (0 : Int32), σ2, h2)).bind fun o3 => some (o3.1, o3.2.1, o3.2.2)))
def cdX5_oneMore : q_Cd := [(0, .aload_n 0), (1, .iconst 0), (2, .putfield 89), (5, .aload_n 0), (6, .invokevirtual 267), (9, .istore_n 1), (10, .bipush (-4)), (12, .istore_n 2), (13, .aload_n 0), (14, .invokevirtual 198), (17, .iconst 0), (18, .istore_n 3), (19, .iload_n 3), (20, .bipush 20), (22, .if_icmp .gt 45), (25, .aload_n 0), (26, .iconst 0), (27, .iconst 0), (28, .iload_n 3), (29, .invokevirtual 281), (32, .aload_n 0), (33, .invokevirtual 267), (36, .istore 4), (38, .aload_n 0), (39, .invokevirtual 204), (42, .iload 4), (44, .iload_n 1), (45, .if_icmp .le 7), (48, .iload_n 3), (49, .goto 4), (52, .iload_n 2), (53, .istore_n 2), (54, .iload_n 1), (55, .iload 4), (57, .invokestatic 258), (60, .istore_n 1), (61, .iinc 3 1), (64, .goto (-45)), (67, .iload_n 2), (68, .ireturn)]
set_option maxRecDepth 100000 in
theorem cokX5_oneMore : q_cok cX5_oneMore cdX5_oneMore := by unfold q_cok; decide +kernel
set_option maxRecDepth 100000 in
set_option maxHeartbeats 4000000 in
theorem ctX5_oneMore {l : Launch} {D : va_G} {cy : Nat → Nat} {b0 : Nat} {σ : q_St} {h : q_Hp} (a0 : Nat) {r : Int32} {σ' : q_St} {h' : q_Hp} (ta0 : q_tag σ a0 = 6) (hf : fX5_oneMore σ h a0 = some (r, σ', h')) : q_M l yX5_oneMore cX5_oneMore 5 (some .int) 6 132 0 0 D cy b0 σ h [.ref a0] (some (.int r)) σ' h' := by
  unfold fX5_oneMore at hf
  refine q_enter (by decide) (Nat.le_of_ble_eq_true rfl) ?_
  intro p e s m args below meth c C0 hr hlk hnm
  replace C0 : VC p { frames := 6, cells := 0, slots := 0, locals := 132 } s m args meth c D cy b0 5 0 0 RX5 cX5_oneMore := C0
  have n19 : ∀ (o : (Int32 × q_St × q_Hp)) (s1 : (Int32 × Int32 × Int32 × q_St × q_Hp)), q_loop (fun s => fX5_oneMore_19  a0 s.1 s.2.1 s.2.2.1 s.2.2.2.1 s.2.2.2.2) q_N s1 = some o → V p l e { frames := 6, cells := 0, slots := 0, locals := 132 } s m args below meth c (MQ below (q_Qc D cy b0 (some (.int r)) σ' h') args s 0 0 (fun q => b0 ≤ q)) D cy b0 5 0 0 0 0 o.2.1 o.2.2 67 [(2, .int o.1)] [] → V p l e { frames := 6, cells := 0, slots := 0, locals := 132 } s m args below meth c (MQ below (q_Qc D cy b0 (some (.int r)) σ' h') args s 0 0 (fun q => b0 ≤ q)) D cy b0 5 0 0 0 0 s1.2.2.2.1 s1.2.2.2.2 19 [(0, .ref a0), (1, .int s1.1), (2, .int s1.2.1), (3, .int s1.2.2.1)] [] := by
    intro o s1 ho kx1
    refine q_loop_V (P := fun s0 => V p l e { frames := 6, cells := 0, slots := 0, locals := 132 } s m args below meth c (MQ below (q_Qc D cy b0 (some (.int r)) σ' h') args s 0 0 (fun q => b0 ≤ q)) D cy b0 5 0 0 0 0 s0.2.2.2.1 s0.2.2.2.2 19 [(0, .ref a0), (1, .int s0.1), (2, .int s0.2.1), (3, .int s0.2.2.1)] []) (o := o) ?_ q_N s1 ho
    intro s2 z1 hf kb1 kr1
    obtain ⟨x1, x2, x3, σ, h⟩ := s2
    replace hf : fX5_oneMore_19  a0 x1 x2 x3 σ h = some z1 := hf
    unfold fX5_oneMore_19 at hf
    show V p l e { frames := 6, cells := 0, slots := 0, locals := 132 } s m args below meth c (MQ below (q_Qc D cy b0 (some (.int r)) σ' h') args s 0 0 (fun q => b0 ≤ q)) D cy b0 5 0 0 0 0 σ h 19 [(0, .ref a0), (1, .int x1), (2, .int x2), (3, .int x3)] []
    have n53 : ∀ (σ : q_St) (h : q_Hp) (x1 : Int32) (x3 : Int32) (x4 : Int32) (s0 : Int32), fX5_oneMore_53  σ h a0 x1 x3 x4 s0 = some z1 → V p l e { frames := 6, cells := 0, slots := 0, locals := 132 } s m args below meth c (MQ below (q_Qc D cy b0 (some (.int r)) σ' h') args s 0 0 (fun q => b0 ≤ q)) D cy b0 5 0 0 0 0 σ h 53 [(0, .ref a0), (1, .int x1), (3, .int x3), (4, .int x4)] [.int s0] := by
      intro σ h x1 x3 x4 s0 hf
      unfold fX5_oneMore_53 at hf
      refine v_run C0 tbX5 cokX5_oneMore (pc' := 57) (lv' := [(2, .int s0), (0, .ref a0), (1, .int x1), (3, .int x3), (4, .int x4)]) (st' := [.int x4, .int x1]) (h' := h) 3 rfl trivial ?_
      obtain ⟨r8, e8, hf⟩ := q_bd hf
      refine v_callS C0 cokX5_oneMore rfl (rest := []) (ctX5_greater x1 x4 e8) calX5_greater lkX5_258 inX5_greater dnX5_greater rfl rfl ⟨by decide, by decide⟩ (Nat.le_of_ble_eq_true rfl) (Nat.le_refl _) (Nat.le_refl _) ?_
      refine v_run C0 tbX5 cokX5_oneMore (pc' := 19) (lv' := [(3, .int (x3 + (1 : Int32))), (1, .int r8), (2, .int s0), (0, .ref a0), (4, .int x4)]) (st' := []) (h' := h) 3 rfl trivial ?_
      obtain rfl := Option.some.inj hf
      refine v_pick [3, 1, 2, 0] rfl ?_
      exact kb1 _ rfl
    refine v_run C0 tbX5 cokX5_oneMore (pc' := 22) (lv' := [(0, .ref a0), (1, .int x1), (2, .int x2), (3, .int x3)]) (st' := [.int (20 : Int32), .int x3]) (h' := h) 2 rfl trivial ?_
    refine v_icmp_gt C0 cokX5_oneMore rfl 67 (by decide) hf (fun _ hf => ?_) (fun _ hf => ?_)
    · obtain rfl := Option.some.inj hf
      refine v_pick [2] rfl ?_
      have hx := kr1 _ rfl
      subst hx
      exact kx1
    · refine v_run C0 tbX5 cokX5_oneMore (pc' := 29) (lv' := [(0, .ref a0), (1, .int x1), (2, .int x2), (3, .int x3)]) (st' := [.int x3, .int (0 : Int32), .int (0 : Int32), .ref a0]) (h' := h) 4 rfl trivial ?_
      obtain ⟨g4, hf⟩ := q_gu_o hf
      obtain ⟨h5, e5, hf⟩ := q_bd hf
      refine v_callV C0 cokX5_oneMore rfl (rest := []) (ctX5_add a0 (0 : Int32) (0 : Int32) x3 g4 e5) calX5_add lkX5_281 inX5_add dnX5_add (ci := 5) ⟨rfl, by decide⟩ g4 rfl rfl ⟨by decide, by decide⟩ (Nat.le_of_ble_eq_true rfl) (Nat.le_refl _) (Nat.le_refl _) ?_
      refine v_run C0 tbX5 cokX5_oneMore (pc' := 33) (lv' := [(0, .ref a0), (1, .int x1), (2, .int x2), (3, .int x3)]) (st' := [.ref a0]) (h' := h5) 1 rfl trivial ?_
      obtain ⟨r6, h6, e6, hf⟩ := q_bd2 hf
      refine v_callV C0 cokX5_oneMore rfl (rest := []) (ctX5_servedNow a0 g4 e6) calX5_servedNow lkX5_267 inX5_servedNow dnX5_servedNow (ci := 5) ⟨rfl, by decide⟩ g4 rfl rfl ⟨by decide, by decide⟩ (Nat.le_of_ble_eq_true rfl) (Nat.le_refl _) (Nat.le_refl _) ?_
      refine v_run C0 tbX5 cokX5_oneMore (pc' := 39) (lv' := [(4, .int r6), (0, .ref a0), (1, .int x1), (2, .int x2), (3, .int x3)]) (st' := [.ref a0]) (h' := h6) 2 rfl trivial ?_
      obtain ⟨σ7, h7, e7, hf⟩ := q_bd2 hf
      refine v_callV C0 cokX5_oneMore rfl (rest := []) (ctX5_close a0 g4 e7) calX5_close lkX5_204 inX5_close dnX5_close (ci := 5) ⟨rfl, by decide⟩ g4 rfl rfl ⟨by decide, by decide⟩ (Nat.le_of_ble_eq_true rfl) (Nat.le_refl _) (Nat.le_refl _) ?_
      refine v_run C0 tbX5 cokX5_oneMore (pc' := 45) (lv' := [(4, .int r6), (0, .ref a0), (1, .int x1), (2, .int x2), (3, .int x3)]) (st' := [.int x1, .int r6]) (h' := h7) 2 rfl trivial ?_
      refine v_icmp_le C0 cokX5_oneMore rfl 52 (by decide) hf (fun _ hf => ?_) (fun _ hf => ?_)
      · refine v_run C0 tbX5 cokX5_oneMore (pc' := 53) (lv' := [(4, .int r6), (0, .ref a0), (1, .int x1), (2, .int x2), (3, .int x3)]) (st' := [.int x2]) (h' := h7) 1 rfl trivial ?_
        refine v_pick [1, 2, 4, 0] rfl ?_
        exact n53 σ7 h7 x1 x3 r6 x2 hf
      · refine v_run C0 tbX5 cokX5_oneMore (pc' := 53) (lv' := [(4, .int r6), (0, .ref a0), (1, .int x1), (2, .int x2), (3, .int x3)]) (st' := [.int x3]) (h' := h7) 2 rfl trivial ?_
        refine v_pick [1, 2, 4, 0] rfl ?_
        exact n53 σ7 h7 x1 x3 r6 x3 hf
  refine v_run C0 tbX5 cokX5_oneMore (pc' := 6) (lv' := [(0, .ref a0)]) (st' := [.ref a0]) (h' := (q_si h a0 21 (0 : Int32))) 4 rfl ⟨ta0, trivial⟩ ?_
  obtain ⟨r1, h1, e1, hf⟩ := q_bd2 hf
  refine v_callV C0 cokX5_oneMore rfl (rest := []) (ctX5_servedNow a0 ta0 e1) calX5_servedNow lkX5_267 inX5_servedNow dnX5_servedNow (ci := 5) ⟨rfl, by decide⟩ ta0 rfl rfl ⟨by decide, by decide⟩ (Nat.le_of_ble_eq_true rfl) (Nat.le_refl _) (Nat.le_refl _) ?_
  refine v_run C0 tbX5 cokX5_oneMore (pc' := 14) (lv' := [(2, .int (-4 : Int32)), (1, .int r1), (0, .ref a0)]) (st' := [.ref a0]) (h' := h1) 4 rfl trivial ?_
  obtain ⟨σ2, h2, e2, hf⟩ := q_bd2 hf
  refine v_callV C0 cokX5_oneMore rfl (rest := []) (ctX5_open a0 ta0 e2) calX5_open lkX5_198 inX5_open dnX5_open (ci := 5) ⟨rfl, by decide⟩ ta0 rfl rfl ⟨by decide, by decide⟩ (Nat.le_of_ble_eq_true rfl) (Nat.le_refl _) (Nat.le_refl _) ?_
  refine v_run C0 tbX5 cokX5_oneMore (pc' := 19) (lv' := [(3, .int (0 : Int32)), (2, .int (-4 : Int32)), (1, .int r1), (0, .ref a0)]) (st' := []) (h' := h2) 2 rfl trivial ?_
  obtain ⟨o3, eo3, hf⟩ := q_bd hf
  refine v_pick [3, 2, 1, 0] rfl ?_
  refine n19 o3 (r1, (-4 : Int32), (0 : Int32), σ2, h2) eo3 ?_
  refine v_run C0 tbX5 cokX5_oneMore (pc' := 68) (lv' := [(2, .int o3.1)]) (st' := [.int o3.1]) (h' := o3.2.2) 1 rfl trivial ?_
  obtain ⟨hq1, hq2⟩ := Prod.mk.inj (Option.some.inj hf)
  obtain ⟨hq3, hq4⟩ := Prod.mk.inj hq2
  subst hq1
  subst hq3
  subst hq4
  exact v_iret C0 cokX5_oneMore hr hlk rfl
-- BackByNoonOnMondayModel.divisor(JJ)J
noncomputable def fX5_divisor_6 (σ : q_St) (h : q_Hp) (y0 : Int64) (y2 : Int64) (y4 : Int64) (y6 : Int64) : Option ((Int64 × Int64) ⊕ Int64) := (if (lg_cmp y6 (0 : Int64)) = 0 then some (Sum.inr y4) else q_gu ((¬ y6 = 0)) (some (Sum.inl (y6, (y4 - y4 / y6 * y6)))))
noncomputable def fX5_divisor (σ : q_St) (h : q_Hp) (y0 : Int64) (y2 : Int64) : Option Int64 := (q_loop (fun s => fX5_divisor_6 σ h y0 y2 s.1 s.2) q_N (y0, y2)).bind fun o1 => some o1
def cdX5_divisor : q_Cd := [(0, .lload_n 0), (1, .lstore 4), (3, .lload_n 2), (4, .lstore 6), (6, .lload 6), (8, .lconst 0), (9, .lcmp), (10, .ifCond .eq 21), (13, .lload 4), (15, .lload 6), (17, .lrem), (18, .lstore 8), (20, .lload 6), (22, .lstore 4), (24, .lload 8), (26, .lstore 6), (28, .goto (-22)), (31, .lload 4), (33, .lreturn)]
set_option maxRecDepth 100000 in
theorem cokX5_divisor : q_cok cX5_divisor cdX5_divisor := by unfold q_cok; decide +kernel
set_option maxRecDepth 100000 in
set_option maxHeartbeats 4000000 in
theorem ctX5_divisor {l : Launch} {D : va_G} {cy : Nat → Nat} {b0 : Nat} {σ : q_St} {h : q_Hp} (y0 : Int64) (y2 : Int64) {r : Int64} (hf : fX5_divisor σ h y0 y2 = some r) : q_M l yX5_divisor cX5_divisor 10 (some .long) 0 0 0 0 D cy b0 σ h [.long y0, .long y2] (some (.long r)) σ h := by
  unfold fX5_divisor at hf
  refine q_enter (by decide) (Nat.le_of_ble_eq_true rfl) ?_
  intro p e s m args below meth c C0 hr hlk hnm
  replace C0 : VC p { frames := 0, cells := 0, slots := 0, locals := 0 } s m args meth c D cy b0 10 0 0 RX5 cX5_divisor := C0
  have n6 : ∀ (o : Int64) (s1 : (Int64 × Int64)), q_loop (fun s => fX5_divisor_6 σ h y0 y2 s.1 s.2) q_N s1 = some o → V p l e { frames := 0, cells := 0, slots := 0, locals := 0 } s m args below meth c (MQ below (q_Qc D cy b0 (some (.long r)) σ h) args s 0 0 (fun q => b0 ≤ q)) D cy b0 10 0 0 0 0 σ h 31 [(4, .long o)] [] → V p l e { frames := 0, cells := 0, slots := 0, locals := 0 } s m args below meth c (MQ below (q_Qc D cy b0 (some (.long r)) σ h) args s 0 0 (fun q => b0 ≤ q)) D cy b0 10 0 0 0 0 σ h 6 [(4, .long s1.1), (6, .long s1.2)] [] := by
    intro o s1 ho kx1
    refine q_loop_V (P := fun s0 => V p l e { frames := 0, cells := 0, slots := 0, locals := 0 } s m args below meth c (MQ below (q_Qc D cy b0 (some (.long r)) σ h) args s 0 0 (fun q => b0 ≤ q)) D cy b0 10 0 0 0 0 σ h 6 [(4, .long s0.1), (6, .long s0.2)] []) (o := o) ?_ q_N s1 ho
    intro s2 z1 hf kb1 kr1
    obtain ⟨y4, y6⟩ := s2
    replace hf : fX5_divisor_6 σ h y0 y2 y4 y6 = some z1 := hf
    unfold fX5_divisor_6 at hf
    show V p l e { frames := 0, cells := 0, slots := 0, locals := 0 } s m args below meth c (MQ below (q_Qc D cy b0 (some (.long r)) σ h) args s 0 0 (fun q => b0 ≤ q)) D cy b0 10 0 0 0 0 σ h 6 [(4, .long y4), (6, .long y6)] []
    refine v_run C0 tbX5 cokX5_divisor (pc' := 10) (lv' := [(4, .long y4), (6, .long y6)]) (st' := [.int (lg_cmp y6 (0 : Int64))]) (h' := h) 3 rfl trivial ?_
    refine v_if_eq C0 cokX5_divisor rfl 31 (by decide) hf (fun _ hf => ?_) (fun _ hf => ?_)
    · obtain rfl := Option.some.inj hf
      refine v_pick [0] rfl ?_
      have hx := kr1 _ rfl
      subst hx
      exact kx1
    · obtain ⟨g2, hf⟩ := q_gu_o hf
      refine v_run C0 tbX5 cokX5_divisor (pc' := 6) (lv' := [(6, .long (y4 - y4 / y6 * y6)), (4, .long y6), (8, .long (y4 - y4 / y6 * y6))]) (st' := []) (h' := h) 9 rfl ⟨g2, trivial⟩ ?_
      obtain rfl := Option.some.inj hf
      refine v_pick [1, 0] rfl ?_
      exact kb1 _ rfl
  refine v_run C0 tbX5 cokX5_divisor (pc' := 6) (lv' := [(6, .long y2), (4, .long y0), (0, .long y0), (2, .long y2)]) (st' := []) (h' := h) 4 rfl trivial ?_
  obtain ⟨o1, eo1, hf⟩ := q_bd hf
  refine v_pick [1, 0] rfl ?_
  refine n6 o1 (y0, y2) eo1 ?_
  refine v_run C0 tbX5 cokX5_divisor (pc' := 33) (lv' := [(4, .long o1)]) (st' := [.long o1]) (h' := h) 1 rfl trivial ?_
  obtain rfl := Option.some.inj hf
  exact v_lret C0 cokX5_divisor hr hlk rfl
-- BackByNoonOnMondayModel.partOf(JJI)J
noncomputable def fX5_partOf (σ : q_St) (h : q_Hp) (y0 : Int64) (y2 : Int64) (x4 : Int32) : Option Int64 := (if (lg_cmp y0 (0 : Int64)) = 0 then some (Int32.toInt64 x4) else ((fX5_divisor σ h y0 y2).bind fun r1 => (if x4 = 0 then q_gu ((¬ r1 = 0)) (some (y0 / r1)) else q_gu ((¬ r1 = 0)) (some (y2 / r1)))))
def cdX5_partOf : q_Cd := [(0, .lload_n 0), (1, .lconst 0), (2, .lcmp), (3, .ifCond .ne 7), (6, .iload 4), (8, .i2l), (9, .lreturn), (10, .lload_n 0), (11, .lload_n 2), (12, .invokestatic 285), (15, .lstore 5), (17, .iload 4), (19, .ifCond .ne 10), (22, .lload_n 0), (23, .lload 5), (25, .ldiv), (26, .goto 7), (29, .lload_n 2), (30, .lload 5), (32, .ldiv), (33, .lreturn)]
set_option maxRecDepth 100000 in
theorem cokX5_partOf : q_cok cX5_partOf cdX5_partOf := by unfold q_cok; decide +kernel
set_option maxRecDepth 100000 in
set_option maxHeartbeats 4000000 in
theorem ctX5_partOf {l : Launch} {D : va_G} {cy : Nat → Nat} {b0 : Nat} {σ : q_St} {h : q_Hp} (y0 : Int64) (y2 : Int64) (x4 : Int32) {r : Int64} (hf : fX5_partOf σ h y0 y2 x4 = some r) : q_M l yX5_partOf cX5_partOf 7 (some .long) 1 29 0 0 D cy b0 σ h [.long y0, .long y2, .int x4] (some (.long r)) σ h := by
  unfold fX5_partOf at hf
  refine q_enter (by decide) (Nat.le_of_ble_eq_true rfl) ?_
  intro p e s m args below meth c C0 hr hlk hnm
  replace C0 : VC p { frames := 1, cells := 0, slots := 0, locals := 29 } s m args meth c D cy b0 7 0 0 RX5 cX5_partOf := C0
  refine v_run C0 tbX5 cokX5_partOf (pc' := 3) (lv' := [(0, .long y0), (2, .long y2), (4, .int x4)]) (st' := [.int (lg_cmp y0 (0 : Int64))]) (h' := h) 3 rfl trivial ?_
  refine v_if_ne C0 cokX5_partOf rfl 10 (by decide) hf (fun _ hf => ?_) (fun _ hf => ?_)
  · refine v_run C0 tbX5 cokX5_partOf (pc' := 9) (lv' := [(0, .long y0), (2, .long y2), (4, .int x4)]) (st' := [.long (Int32.toInt64 x4)]) (h' := h) 2 rfl trivial ?_
    obtain rfl := Option.some.inj hf
    exact v_lret C0 cokX5_partOf hr hlk rfl
  · refine v_run C0 tbX5 cokX5_partOf (pc' := 12) (lv' := [(0, .long y0), (2, .long y2), (4, .int x4)]) (st' := [.long y2, .long y0]) (h' := h) 2 rfl trivial ?_
    obtain ⟨r1, e1, hf⟩ := q_bd hf
    refine v_callS C0 cokX5_partOf rfl (rest := []) (ctX5_divisor y0 y2 e1) calX5_divisor lkX5_285 inX5_divisor dnX5_divisor rfl rfl ⟨by decide, by decide⟩ (Nat.le_of_ble_eq_true rfl) (Nat.le_refl _) (Nat.le_refl _) ?_
    refine v_run C0 tbX5 cokX5_partOf (pc' := 19) (lv' := [(5, .long r1), (0, .long y0), (2, .long y2), (4, .int x4)]) (st' := [.int x4]) (h' := h) 2 rfl trivial ?_
    refine v_if_ne C0 cokX5_partOf rfl 29 (by decide) hf (fun _ hf => ?_) (fun _ hf => ?_)
    · obtain ⟨g3, hf⟩ := q_gu_o hf
      refine v_run C0 tbX5 cokX5_partOf (pc' := 33) (lv' := [(5, .long r1), (0, .long y0), (2, .long y2), (4, .int x4)]) (st' := [.long (y0 / r1)]) (h' := h) 4 rfl ⟨g3, trivial⟩ ?_
      obtain rfl := Option.some.inj hf
      exact v_lret C0 cokX5_partOf hr hlk rfl
    · obtain ⟨g2, hf⟩ := q_gu_o hf
      refine v_run C0 tbX5 cokX5_partOf (pc' := 33) (lv' := [(5, .long r1), (0, .long y0), (2, .long y2), (4, .int x4)]) (st' := [.long (y2 / r1)]) (h' := h) 3 rfl ⟨g2, trivial⟩ ?_
      obtain rfl := Option.some.inj hf
      exact v_lret C0 cokX5_partOf hr hlk rfl
-- BackByNoonOnMondayModel.grown(I)J
noncomputable def fX5_grown_50 (σ : q_St) (h : q_Hp) (a0 : Nat) (x1 : Int32) (x3 : Int32) (s0 : Int32) (s1 : Int32) : Option ((Int32 × Int32 × q_St × q_Hp) ⊕ (Int32 × q_St × q_Hp)) := some (Sum.inl ((s1 ||| s0), (x3 + (1 : Int32)), σ, h))
noncomputable def fX5_grown_23 (a0 : Nat) (x1 : Int32) (x2 : Int32) (x3 : Int32) (σ : q_St) (h : q_Hp) : Option ((Int32 × Int32 × q_St × q_Hp) ⊕ (Int32 × q_St × q_Hp)) := q_gu ((q_tag σ a0 = 6)) ((if (q_int h a0 6) ≤ x3 then some (Sum.inr (x2, σ, h)) else q_gu ((q_tag σ (q_ref σ a0 12) = 7) ∧ (vp_in x3 (q_len σ (q_ref σ a0 12)))) ((if (q_int h (q_ref σ a0 12) (Int32.toNatClampNeg x3)) = (9 : Int32) then fX5_grown_50  σ h a0 x1 x3 ((1 : Int32) <<< (x3 &&& 31)) x2 else fX5_grown_50  σ h a0 x1 x3 (0 : Int32) x2))))
noncomputable def fX5_grown_66 (a0 : Nat) (x1 : Int32) (x2 : Int32) (y3 : Int64) (y5 : Int64) (x7 : Int32) (σ : q_St) (h : q_Hp) : Option ((Int64 × Int32 × q_St × q_Hp) ⊕ (Int64 × q_St × q_Hp)) := ((fX5_onesOf σ h x2).bind fun r11 => (if r11 ≤ x7 then some (Sum.inr (y5, σ, h)) else some (Sum.inl ((y5 * (10 : Int64)), (x7 + (1 : Int32)), σ, h))))
noncomputable def fX5_grown_215 (σ : q_St) (h : q_Hp) (a0 : Nat) (x1 : Int32) (x2 : Int32) (y3 : Int64) (y5 : Int64) (x7 : Int32) (y8 : Int64) (x10 : Int32) (s0 : Int32) (s1 : Int32) (s2 : Int32) (s3 : Nat) : Option ((Int64 × Int32 × q_St × q_Hp) ⊕ (Int64 × q_St × q_Hp)) := q_gu ((q_tag σ s3 = 7) ∧ (vp_in s2 (q_len σ s3))) (some (Sum.inl (y8, (x10 + (1 : Int32)), σ, (q_si h s3 (Int32.toNatClampNeg s2) (s1 + s0)))))
noncomputable def fX5_grown_214 (σ : q_St) (h : q_Hp) (a0 : Nat) (x1 : Int32) (x2 : Int32) (y3 : Int64) (y5 : Int64) (x7 : Int32) (y8 : Int64) (x10 : Int32) (s0 : Int32) (s1 : Int32) (s2 : Nat) : Option ((Int64 × Int32 × q_St × q_Hp) ⊕ (Int64 × q_St × q_Hp)) := fX5_grown_215  σ h a0 x1 x2 y3 y5 x7 y8 x10 (0 : Int32) s0 s1 s2
noncomputable def fX5_grown_182 (σ : q_St) (h : q_Hp) (a0 : Nat) (x1 : Int32) (x2 : Int32) (y3 : Int64) (y5 : Int64) (x7 : Int32) (x10 : Int32) (x11 : Int32) (s0 : Int64) (s1 : Int64) : Option ((Int64 × Int32 × q_St × q_Hp) ⊕ (Int64 × q_St × q_Hp)) := q_gu ((q_tag σ a0 = 6) ∧ (q_tag σ (q_ref σ a0 7) = 7) ∧ (vp_in x10 (q_len σ (q_ref σ a0 7)))) ((if x11 = 0 then fX5_grown_214  σ h a0 x1 x2 y3 y5 x7 (s1 * s0) x10 (q_int h (q_ref σ a0 7) (Int32.toNatClampNeg x10)) x10 (q_ref σ a0 7) else (if (20 : Int32) ≤ (q_int h (q_ref σ a0 7) (Int32.toNatClampNeg x10)) then fX5_grown_214  σ h a0 x1 x2 y3 y5 x7 (s1 * s0) x10 (q_int h (q_ref σ a0 7) (Int32.toNatClampNeg x10)) x10 (q_ref σ a0 7) else fX5_grown_215  σ h a0 x1 x2 y3 y5 x7 (s1 * s0) x10 (1 : Int32) (q_int h (q_ref σ a0 7) (Int32.toNatClampNeg x10)) x10 (q_ref σ a0 7))))
noncomputable def fX5_grown_122 (a0 : Nat) (x1 : Int32) (x2 : Int32) (y3 : Int64) (y5 : Int64) (x7 : Int32) (y8 : Int64) (x10 : Int32) (σ : q_St) (h : q_Hp) : Option ((Int64 × Int32 × q_St × q_Hp) ⊕ (Int64 × q_St × q_Hp)) := q_gu ((q_tag σ a0 = 6)) ((if (q_int h a0 6) ≤ x10 then some (Sum.inr (y8, σ, h)) else ((fX5_hasBit σ h x7 x10).bind fun r20 => ((fX5_hasBit σ h x2 x10).bind fun r21 => (if r21 = 0 then fX5_grown_182  σ h a0 x1 x2 y3 y5 x7 x10 r20 (1 : Int64) y8 else (if r20 = 0 then q_gu ((q_tag σ (q_ref σ a0 9) = 7) ∧ (vp_in x10 (q_len σ (q_ref σ a0 9)))) (fX5_grown_182  σ h a0 x1 x2 y3 y5 x7 x10 r20 (Int32.toInt64 ((10 : Int32) - (q_int h (q_ref σ a0 9) (Int32.toNatClampNeg x10)))) y8) else q_gu ((q_tag σ (q_ref σ a0 9) = 7) ∧ (vp_in x10 (q_len σ (q_ref σ a0 9)))) (fX5_grown_182  σ h a0 x1 x2 y3 y5 x7 x10 r20 (Int32.toInt64 (q_int h (q_ref σ a0 9) (Int32.toNatClampNeg x10))) y8)))))))
noncomputable def fX5_grown_254 (σ : q_St) (h : q_Hp) (a0 : Nat) (x1 : Int32) (x2 : Int32) (y3 : Int64) (y5 : Int64) (x7 : Int32) : Option ((Int64 × Int32 × q_St × q_Hp) ⊕ (Int64 × q_St × q_Hp)) := some (Sum.inl (y3, (x7 + (1 : Int32)), σ, h))
noncomputable def fX5_grown_248 (σ : q_St) (h : q_Hp) (a0 : Nat) (x1 : Int32) (x2 : Int32) (y5 : Int64) (x7 : Int32) (s0 : Int64) (s1 : Int64) : Option ((Int64 × Int32 × q_St × q_Hp) ⊕ (Int64 × q_St × q_Hp)) := q_gu ((q_tag σ a0 = 6)) ((q_b2 (fX5_close σ h a0) fun σ18 h18 => fX5_grown_254  σ18 h18 a0 x1 x2 (s1 + s0) y5 x7))
noncomputable def fX5_grown_247 (σ : q_St) (h : q_Hp) (a0 : Nat) (x1 : Int32) (x2 : Int32) (y5 : Int64) (x7 : Int32) (s0 : Int64) : Option ((Int64 × Int32 × q_St × q_Hp) ⊕ (Int64 × q_St × q_Hp)) := fX5_grown_248  σ h a0 x1 x2 y5 x7 (0 : Int64) s0
noncomputable def fX5_grown_96 (a0 : Nat) (x1 : Int32) (x2 : Int32) (y5 : Int64) (y3 : Int64) (x7 : Int32) (σ : q_St) (h : q_Hp) : Option ((Int64 × Int32 × q_St × q_Hp) ⊕ (Int64 × q_St × q_Hp)) := q_gu ((q_tag σ a0 = 6)) ((if ((1 : Int32) <<< ((q_int h a0 6) &&& 31)) ≤ x7 then some (Sum.inr (y3, σ, h)) else (if (x7 &&& (x2 ^^^ (-1 : Int32))) = 0 then (q_loop (fun s => fX5_grown_122  a0 x1 x2 y3 y5 x7 s.1 s.2.1 s.2.2.1 s.2.2.2) q_N ((1 : Int64), (0 : Int32), σ, h)).bind fun o13 => (if (lg_cmp o13.1 (0 : Int64)) ≤ 0 then fX5_grown_247  o13.2.1 o13.2.2 a0 x1 x2 y5 x7 y3 else q_gu ((q_tag o13.2.1 a0 = 6)) ((q_b2 (fX5_servedNow o13.2.1 o13.2.2 a0) fun r15 h15 => ((fX5_onesOf o13.2.1 h15 x2).bind fun r16 => (if r15 = r16 then fX5_grown_248  o13.2.1 h15 a0 x1 x2 y5 x7 o13.1 y3 else fX5_grown_247  o13.2.1 h15 a0 x1 x2 y5 x7 y3))))) else fX5_grown_254  σ h a0 x1 x2 y3 y5 x7)))
noncomputable def fX5_grown (σ : q_St) (h : q_Hp) (a0 : Nat) (x1 : Int32) : Option (Int64 × q_St × q_Hp) := ((fX5_in σ (q_si h a0 21 (0 : Int32)) (Int32.toInt64 x1) (0 : Int64) (1 : Int64)).bind fun r1 => (if r1 = 0 then some ((1000000001 : Int64), σ, (q_si h a0 21 (0 : Int32))) else (q_loop (fun s => fX5_grown_23  a0 x1 s.1 s.2.1 s.2.2.1 s.2.2.2) q_N ((0 : Int32), (0 : Int32), σ, (q_si h a0 21 (0 : Int32)))).bind fun o2 => (q_loop (fun s => fX5_grown_66  a0 x1 o2.1 (0 : Int64) s.1 s.2.1 s.2.2.1 s.2.2.2) q_N ((1 : Int64), (0 : Int32), o2.2.1, o2.2.2)).bind fun o3 => q_gu ((q_tag o3.2.1 a0 = 6)) ((q_b2 (fX5_open o3.2.1 o3.2.2 a0) fun σ5 h5 => (q_loop (fun s => fX5_grown_96  a0 x1 o2.1 o3.1 s.1 s.2.1 s.2.2.1 s.2.2.2) q_N ((0 : Int64), (0 : Int32), σ5, h5)).bind fun o6 => ((fX5_partOf o6.2.1 o6.2.2 o6.1 o3.1 x1).bind fun r7 => some (r7, o6.2.1, o6.2.2))))))
def cdX5_grown : q_Cd := [(0, .aload_n 0), (1, .iconst 0), (2, .putfield 89), (5, .iload_n 1), (6, .i2l), (7, .lconst 0), (8, .lconst 1), (9, .invokestatic 96), (12, .ifCond .ne 7), (15, .ldc2_w 289), (18, .lreturn), (19, .iconst 0), (20, .istore_n 2), (21, .iconst 0), (22, .istore_n 3), (23, .iload_n 3), (24, .aload_n 0), (25, .getfield 100), (28, .if_icmp .ge 30), (31, .iload_n 2), (32, .aload_n 0), (33, .getfield 40), (36, .iload_n 3), (37, .iaload), (38, .bipush 9), (40, .if_icmp .ne 9), (43, .iconst 1), (44, .iload_n 3), (45, .ishl), (46, .goto 4), (49, .iconst 0), (50, .ior), (51, .istore_n 2), (52, .iinc 3 1), (55, .goto (-32)), (58, .lconst 0), (59, .lstore_n 3), (60, .lconst 1), (61, .lstore 5), (63, .iconst 0), (64, .istore 7), (66, .iload 7), (68, .iload_n 2), (69, .invokestatic 291), (72, .if_icmp .ge 17), (75, .lload 5), (77, .ldc2_w 294), (80, .lmul), (81, .lstore 5), (83, .iinc 7 1), (86, .goto (-20)), (89, .aload_n 0), (90, .invokevirtual 198), (93, .iconst 0), (94, .istore 7), (96, .iload 7), (98, .iconst 1), (99, .aload_n 0), (100, .getfield 100), (103, .ishl), (104, .if_icmp .ge 156), (107, .iload 7), (109, .iload_n 2), (110, .iconst (-1)), (111, .ixor), (112, .iand), (113, .ifCond .ne 141), (116, .lconst 1), (117, .lstore 8), (119, .iconst 0), (120, .istore 10), (122, .iload 10), (124, .aload_n 0), (125, .getfield 100), (128, .if_icmp .ge 95), (131, .iload 7), (133, .iload 10), (135, .invokestatic 243), (138, .istore 11), (140, .lload 8), (142, .iload_n 2), (143, .iload 10), (145, .invokestatic 243), (148, .ifCond .ne 7), (151, .lconst 1), (152, .goto 30), (155, .iload 11), (157, .ifCond .eq 14), (160, .aload_n 0), (161, .getfield 31), (164, .iload 10), (166, .iaload), (167, .i2l), (168, .goto 14), (171, .bipush 10), (173, .aload_n 0), (174, .getfield 31), (177, .iload 10), (179, .iaload), (180, .isub), (181, .i2l), (182, .lmul), (183, .lstore 8), (185, .aload_n 0), (186, .getfield 25), (189, .iload 10), (191, .dup2), (192, .iaload), (193, .iload 11), (195, .ifCond .eq 19), (198, .aload_n 0), (199, .getfield 25), (202, .iload 10), (204, .iaload), (205, .bipush 20), (207, .if_icmp .ge 7), (210, .iconst 1), (211, .goto 4), (214, .iconst 0), (215, .iadd), (216, .iastore), (217, .iinc 10 1), (220, .goto (-98)), (223, .lload_n 3), (224, .lload 8), (226, .lconst 0), (227, .lcmp), (228, .ifCond .le 19), (231, .aload_n 0), (232, .invokevirtual 267), (235, .iload_n 2), (236, .invokestatic 291), (239, .if_icmp .ne 8), (242, .lload 8), (244, .goto 4), (247, .lconst 0), (248, .ladd), (249, .lstore_n 3), (250, .aload_n 0), (251, .invokevirtual 204), (254, .iinc 7 1), (257, .goto (-161)), (260, .lload_n 3), (261, .lload 5), (263, .iload_n 1), (264, .invokestatic 296), (267, .lreturn)]
set_option maxRecDepth 100000 in
theorem cokX5_grown : q_cok cX5_grown cdX5_grown := by unfold q_cok; decide +kernel
set_option maxRecDepth 100000 in
set_option maxHeartbeats 4000000 in
theorem ctX5_grown {l : Launch} {D : va_G} {cy : Nat → Nat} {b0 : Nat} {σ : q_St} {h : q_Hp} (a0 : Nat) (x1 : Int32) {r : Int64} {σ' : q_St} {h' : q_Hp} (ta0 : q_tag σ a0 = 6) (hf : fX5_grown σ h a0 x1 = some (r, σ', h')) : q_M l yX5_grown cX5_grown 12 (some .long) 6 132 0 0 D cy b0 σ h [.ref a0, .int x1] (some (.long r)) σ' h' := by
  unfold fX5_grown at hf
  refine q_enter (by decide) (Nat.le_of_ble_eq_true rfl) ?_
  intro p e s m args below meth c C0 hr hlk hnm
  replace C0 : VC p { frames := 6, cells := 0, slots := 0, locals := 132 } s m args meth c D cy b0 12 0 0 RX5 cX5_grown := C0
  have n23 : ∀ (o : (Int32 × q_St × q_Hp)) (s1 : (Int32 × Int32 × q_St × q_Hp)), q_loop (fun s => fX5_grown_23  a0 x1 s.1 s.2.1 s.2.2.1 s.2.2.2) q_N s1 = some o → V p l e { frames := 6, cells := 0, slots := 0, locals := 132 } s m args below meth c (MQ below (q_Qc D cy b0 (some (.long r)) σ' h') args s 0 0 (fun q => b0 ≤ q)) D cy b0 12 0 0 0 0 o.2.1 o.2.2 58 [(0, .ref a0), (1, .int x1), (2, .int o.1)] [] → V p l e { frames := 6, cells := 0, slots := 0, locals := 132 } s m args below meth c (MQ below (q_Qc D cy b0 (some (.long r)) σ' h') args s 0 0 (fun q => b0 ≤ q)) D cy b0 12 0 0 0 0 s1.2.2.1 s1.2.2.2 23 [(0, .ref a0), (1, .int x1), (2, .int s1.1), (3, .int s1.2.1)] [] := by
    intro o s1 ho kx1
    refine q_loop_V (P := fun s0 => V p l e { frames := 6, cells := 0, slots := 0, locals := 132 } s m args below meth c (MQ below (q_Qc D cy b0 (some (.long r)) σ' h') args s 0 0 (fun q => b0 ≤ q)) D cy b0 12 0 0 0 0 s0.2.2.1 s0.2.2.2 23 [(0, .ref a0), (1, .int x1), (2, .int s0.1), (3, .int s0.2.1)] []) (o := o) ?_ q_N s1 ho
    intro s2 z1 hf kb1 kr1
    obtain ⟨x2, x3, σ, h⟩ := s2
    replace hf : fX5_grown_23  a0 x1 x2 x3 σ h = some z1 := hf
    unfold fX5_grown_23 at hf
    show V p l e { frames := 6, cells := 0, slots := 0, locals := 132 } s m args below meth c (MQ below (q_Qc D cy b0 (some (.long r)) σ' h') args s 0 0 (fun q => b0 ≤ q)) D cy b0 12 0 0 0 0 σ h 23 [(0, .ref a0), (1, .int x1), (2, .int x2), (3, .int x3)] []
    have n50 : ∀ (σ : q_St) (h : q_Hp) (x3 : Int32) (s0 : Int32) (s1 : Int32), fX5_grown_50  σ h a0 x1 x3 s0 s1 = some z1 → V p l e { frames := 6, cells := 0, slots := 0, locals := 132 } s m args below meth c (MQ below (q_Qc D cy b0 (some (.long r)) σ' h') args s 0 0 (fun q => b0 ≤ q)) D cy b0 12 0 0 0 0 σ h 50 [(0, .ref a0), (1, .int x1), (3, .int x3)] [.int s0, .int s1] := by
      intro σ h x3 s0 s1 hf
      unfold fX5_grown_50 at hf
      refine v_run C0 tbX5 cokX5_grown (pc' := 23) (lv' := [(3, .int (x3 + (1 : Int32))), (2, .int (s1 ||| s0)), (0, .ref a0), (1, .int x1)]) (st' := []) (h' := h) 4 rfl trivial ?_
      obtain rfl := Option.some.inj hf
      refine v_pick [2, 3, 1, 0] rfl ?_
      exact kb1 _ rfl
    obtain ⟨g8, hf⟩ := q_gu_o hf
    refine v_run C0 tbX5 cokX5_grown (pc' := 28) (lv' := [(0, .ref a0), (1, .int x1), (2, .int x2), (3, .int x3)]) (st' := [.int (q_int h a0 6), .int x3]) (h' := h) 3 rfl ⟨g8, trivial⟩ ?_
    refine v_icmp_ge C0 cokX5_grown rfl 58 (by decide) hf (fun _ hf => ?_) (fun _ hf => ?_)
    · obtain rfl := Option.some.inj hf
      refine v_pick [0, 1, 2] rfl ?_
      have hx := kr1 _ rfl
      subst hx
      exact kx1
    · obtain ⟨⟨g9, g10⟩, hf⟩ := q_gu_o hf
      refine v_run C0 tbX5 cokX5_grown (pc' := 40) (lv' := [(0, .ref a0), (1, .int x1), (2, .int x2), (3, .int x3)]) (st' := [.int (9 : Int32), .int (q_int h (q_ref σ a0 12) (Int32.toNatClampNeg x3)), .int x2]) (h' := h) 6 rfl ⟨⟨g8, q_tn g9⟩, ⟨g9, g10⟩, trivial⟩ ?_
      refine v_icmp_ne C0 cokX5_grown rfl 49 (by decide) hf (fun _ hf => ?_) (fun _ hf => ?_)
      · refine v_run C0 tbX5 cokX5_grown (pc' := 50) (lv' := [(0, .ref a0), (1, .int x1), (2, .int x2), (3, .int x3)]) (st' := [.int ((1 : Int32) <<< (x3 &&& 31)), .int x2]) (h' := h) 4 rfl trivial ?_
        refine v_pick [0, 1, 3] rfl ?_
        exact n50 σ h x3 ((1 : Int32) <<< (x3 &&& 31)) x2 hf
      · refine v_run C0 tbX5 cokX5_grown (pc' := 50) (lv' := [(0, .ref a0), (1, .int x1), (2, .int x2), (3, .int x3)]) (st' := [.int (0 : Int32), .int x2]) (h' := h) 1 rfl trivial ?_
        refine v_pick [0, 1, 3] rfl ?_
        exact n50 σ h x3 (0 : Int32) x2 hf
  have n66 : ∀ (x2 : Int32) (y3 : Int64) (o : (Int64 × q_St × q_Hp)) (s1 : (Int64 × Int32 × q_St × q_Hp)), q_loop (fun s => fX5_grown_66  a0 x1 x2 y3 s.1 s.2.1 s.2.2.1 s.2.2.2) q_N s1 = some o → V p l e { frames := 6, cells := 0, slots := 0, locals := 132 } s m args below meth c (MQ below (q_Qc D cy b0 (some (.long r)) σ' h') args s 0 0 (fun q => b0 ≤ q)) D cy b0 12 0 0 0 0 o.2.1 o.2.2 89 [(0, .ref a0), (1, .int x1), (2, .int x2), (3, .long y3), (5, .long o.1)] [] → V p l e { frames := 6, cells := 0, slots := 0, locals := 132 } s m args below meth c (MQ below (q_Qc D cy b0 (some (.long r)) σ' h') args s 0 0 (fun q => b0 ≤ q)) D cy b0 12 0 0 0 0 s1.2.2.1 s1.2.2.2 66 [(0, .ref a0), (1, .int x1), (2, .int x2), (3, .long y3), (5, .long s1.1), (7, .int s1.2.1)] [] := by
    intro x2 y3 o s1 ho kx1
    refine q_loop_V (P := fun s0 => V p l e { frames := 6, cells := 0, slots := 0, locals := 132 } s m args below meth c (MQ below (q_Qc D cy b0 (some (.long r)) σ' h') args s 0 0 (fun q => b0 ≤ q)) D cy b0 12 0 0 0 0 s0.2.2.1 s0.2.2.2 66 [(0, .ref a0), (1, .int x1), (2, .int x2), (3, .long y3), (5, .long s0.1), (7, .int s0.2.1)] []) (o := o) ?_ q_N s1 ho
    intro s2 z1 hf kb1 kr1
    obtain ⟨y5, x7, σ, h⟩ := s2
    replace hf : fX5_grown_66  a0 x1 x2 y3 y5 x7 σ h = some z1 := hf
    unfold fX5_grown_66 at hf
    show V p l e { frames := 6, cells := 0, slots := 0, locals := 132 } s m args below meth c (MQ below (q_Qc D cy b0 (some (.long r)) σ' h') args s 0 0 (fun q => b0 ≤ q)) D cy b0 12 0 0 0 0 σ h 66 [(0, .ref a0), (1, .int x1), (2, .int x2), (3, .long y3), (5, .long y5), (7, .int x7)] []
    refine v_run C0 tbX5 cokX5_grown (pc' := 69) (lv' := [(0, .ref a0), (1, .int x1), (2, .int x2), (3, .long y3), (5, .long y5), (7, .int x7)]) (st' := [.int x2, .int x7]) (h' := h) 2 rfl trivial ?_
    obtain ⟨r11, e11, hf⟩ := q_bd hf
    refine v_callS C0 cokX5_grown rfl (rest := [.int x7]) (ctX5_onesOf x2 e11) calX5_onesOf lkX5_291 inX5_onesOf dnX5_onesOf rfl rfl ⟨by decide, by decide⟩ (Nat.le_of_ble_eq_true rfl) (Nat.le_refl _) (Nat.le_refl _) ?_
    refine v_icmp_ge C0 cokX5_grown rfl 89 (by decide) hf (fun _ hf => ?_) (fun _ hf => ?_)
    · obtain rfl := Option.some.inj hf
      refine v_pick [0, 1, 2, 3, 4] rfl ?_
      have hx := kr1 _ rfl
      subst hx
      exact kx1
    · refine v_run C0 tbX5 cokX5_grown (pc' := 66) (lv' := [(7, .int (x7 + (1 : Int32))), (5, .long (y5 * (10 : Int64))), (0, .ref a0), (1, .int x1), (2, .int x2), (3, .long y3)]) (st' := []) (h' := h) 6 rfl trivial ?_
      obtain rfl := Option.some.inj hf
      refine v_pick [2, 3, 4, 5, 1, 0] rfl ?_
      exact kb1 _ rfl
  have n96 : ∀ (x2 : Int32) (y5 : Int64) (o : (Int64 × q_St × q_Hp)) (s1 : (Int64 × Int32 × q_St × q_Hp)), q_loop (fun s => fX5_grown_96  a0 x1 x2 y5 s.1 s.2.1 s.2.2.1 s.2.2.2) q_N s1 = some o → V p l e { frames := 6, cells := 0, slots := 0, locals := 132 } s m args below meth c (MQ below (q_Qc D cy b0 (some (.long r)) σ' h') args s 0 0 (fun q => b0 ≤ q)) D cy b0 12 0 0 0 0 o.2.1 o.2.2 260 [(1, .int x1), (3, .long o.1), (5, .long y5)] [] → V p l e { frames := 6, cells := 0, slots := 0, locals := 132 } s m args below meth c (MQ below (q_Qc D cy b0 (some (.long r)) σ' h') args s 0 0 (fun q => b0 ≤ q)) D cy b0 12 0 0 0 0 s1.2.2.1 s1.2.2.2 96 [(0, .ref a0), (1, .int x1), (2, .int x2), (3, .long s1.1), (5, .long y5), (7, .int s1.2.1)] [] := by
    intro x2 y5 o s1 ho kx1
    refine q_loop_V (P := fun s0 => V p l e { frames := 6, cells := 0, slots := 0, locals := 132 } s m args below meth c (MQ below (q_Qc D cy b0 (some (.long r)) σ' h') args s 0 0 (fun q => b0 ≤ q)) D cy b0 12 0 0 0 0 s0.2.2.1 s0.2.2.2 96 [(0, .ref a0), (1, .int x1), (2, .int x2), (3, .long s0.1), (5, .long y5), (7, .int s0.2.1)] []) (o := o) ?_ q_N s1 ho
    intro s2 z1 hf kb1 kr1
    obtain ⟨y3, x7, σ, h⟩ := s2
    replace hf : fX5_grown_96  a0 x1 x2 y5 y3 x7 σ h = some z1 := hf
    unfold fX5_grown_96 at hf
    show V p l e { frames := 6, cells := 0, slots := 0, locals := 132 } s m args below meth c (MQ below (q_Qc D cy b0 (some (.long r)) σ' h') args s 0 0 (fun q => b0 ≤ q)) D cy b0 12 0 0 0 0 σ h 96 [(0, .ref a0), (1, .int x1), (2, .int x2), (3, .long y3), (5, .long y5), (7, .int x7)] []
    have n122 : ∀ (x2 : Int32) (y3 : Int64) (y5 : Int64) (x7 : Int32) (o : (Int64 × q_St × q_Hp)) (s1 : (Int64 × Int32 × q_St × q_Hp)), q_loop (fun s => fX5_grown_122  a0 x1 x2 y3 y5 x7 s.1 s.2.1 s.2.2.1 s.2.2.2) q_N s1 = some o → V p l e { frames := 6, cells := 0, slots := 0, locals := 132 } s m args below meth c (MQ below (q_Qc D cy b0 (some (.long r)) σ' h') args s 0 0 (fun q => b0 ≤ q)) D cy b0 12 0 0 0 0 o.2.1 o.2.2 223 [(0, .ref a0), (1, .int x1), (2, .int x2), (3, .long y3), (5, .long y5), (7, .int x7), (8, .long o.1)] [] → V p l e { frames := 6, cells := 0, slots := 0, locals := 132 } s m args below meth c (MQ below (q_Qc D cy b0 (some (.long r)) σ' h') args s 0 0 (fun q => b0 ≤ q)) D cy b0 12 0 0 0 0 s1.2.2.1 s1.2.2.2 122 [(0, .ref a0), (1, .int x1), (2, .int x2), (3, .long y3), (5, .long y5), (7, .int x7), (8, .long s1.1), (10, .int s1.2.1)] [] := by
      intro x2 y3 y5 x7 o s1 ho kx2
      refine q_loop_V (P := fun s0 => V p l e { frames := 6, cells := 0, slots := 0, locals := 132 } s m args below meth c (MQ below (q_Qc D cy b0 (some (.long r)) σ' h') args s 0 0 (fun q => b0 ≤ q)) D cy b0 12 0 0 0 0 s0.2.2.1 s0.2.2.2 122 [(0, .ref a0), (1, .int x1), (2, .int x2), (3, .long y3), (5, .long y5), (7, .int x7), (8, .long s0.1), (10, .int s0.2.1)] []) (o := o) ?_ q_N s1 ho
      intro s2 z2 hf kb2 kr2
      obtain ⟨y8, x10, σ, h⟩ := s2
      replace hf : fX5_grown_122  a0 x1 x2 y3 y5 x7 y8 x10 σ h = some z2 := hf
      unfold fX5_grown_122 at hf
      show V p l e { frames := 6, cells := 0, slots := 0, locals := 132 } s m args below meth c (MQ below (q_Qc D cy b0 (some (.long r)) σ' h') args s 0 0 (fun q => b0 ≤ q)) D cy b0 12 0 0 0 0 σ h 122 [(0, .ref a0), (1, .int x1), (2, .int x2), (3, .long y3), (5, .long y5), (7, .int x7), (8, .long y8), (10, .int x10)] []
      have n215 : ∀ (σ : q_St) (h : q_Hp) (y8 : Int64) (x10 : Int32) (s0 : Int32) (s1 : Int32) (s2 : Int32) (s3 : Nat), fX5_grown_215  σ h a0 x1 x2 y3 y5 x7 y8 x10 s0 s1 s2 s3 = some z2 → V p l e { frames := 6, cells := 0, slots := 0, locals := 132 } s m args below meth c (MQ below (q_Qc D cy b0 (some (.long r)) σ' h') args s 0 0 (fun q => b0 ≤ q)) D cy b0 12 0 0 0 0 σ h 215 [(0, .ref a0), (1, .int x1), (2, .int x2), (3, .long y3), (5, .long y5), (7, .int x7), (8, .long y8), (10, .int x10)] [.int s0, .int s1, .int s2, .ref s3] := by
        intro σ h y8 x10 s0 s1 s2 s3 hf
        unfold fX5_grown_215 at hf
        obtain ⟨⟨g29, g30⟩, hf⟩ := q_gu_o hf
        refine v_run C0 tbX5 cokX5_grown (pc' := 122) (lv' := [(10, .int (x10 + (1 : Int32))), (0, .ref a0), (1, .int x1), (2, .int x2), (3, .long y3), (5, .long y5), (7, .int x7), (8, .long y8)]) (st' := []) (h' := (q_si h s3 (Int32.toNatClampNeg s2) (s1 + s0))) 4 rfl ⟨⟨g29, g30⟩, trivial⟩ ?_
        obtain rfl := Option.some.inj hf
        refine v_pick [1, 2, 3, 4, 5, 6, 7, 0] rfl ?_
        exact kb2 _ rfl
      have n214 : ∀ (σ : q_St) (h : q_Hp) (y8 : Int64) (x10 : Int32) (s0 : Int32) (s1 : Int32) (s2 : Nat), fX5_grown_214  σ h a0 x1 x2 y3 y5 x7 y8 x10 s0 s1 s2 = some z2 → V p l e { frames := 6, cells := 0, slots := 0, locals := 132 } s m args below meth c (MQ below (q_Qc D cy b0 (some (.long r)) σ' h') args s 0 0 (fun q => b0 ≤ q)) D cy b0 12 0 0 0 0 σ h 214 [(0, .ref a0), (1, .int x1), (2, .int x2), (3, .long y3), (5, .long y5), (7, .int x7), (8, .long y8), (10, .int x10)] [.int s0, .int s1, .ref s2] := by
        intro σ h y8 x10 s0 s1 s2 hf
        unfold fX5_grown_214 at hf
        refine v_run C0 tbX5 cokX5_grown (pc' := 215) (lv' := [(0, .ref a0), (1, .int x1), (2, .int x2), (3, .long y3), (5, .long y5), (7, .int x7), (8, .long y8), (10, .int x10)]) (st' := [.int (0 : Int32), .int s0, .int s1, .ref s2]) (h' := h) 1 rfl trivial ?_
        refine v_pick [0, 1, 2, 3, 4, 5, 6, 7] rfl ?_
        exact n215 σ h y8 x10 (0 : Int32) s0 s1 s2 hf
      have n182 : ∀ (σ : q_St) (h : q_Hp) (x10 : Int32) (x11 : Int32) (s0 : Int64) (s1 : Int64), fX5_grown_182  σ h a0 x1 x2 y3 y5 x7 x10 x11 s0 s1 = some z2 → V p l e { frames := 6, cells := 0, slots := 0, locals := 132 } s m args below meth c (MQ below (q_Qc D cy b0 (some (.long r)) σ' h') args s 0 0 (fun q => b0 ≤ q)) D cy b0 12 0 0 0 0 σ h 182 [(0, .ref a0), (1, .int x1), (2, .int x2), (3, .long y3), (5, .long y5), (7, .int x7), (10, .int x10), (11, .int x11)] [.long s0, .long s1] := by
        intro σ h x10 x11 s0 s1 hf
        unfold fX5_grown_182 at hf
        obtain ⟨⟨g26, g27, g28⟩, hf⟩ := q_gu_o hf
        refine v_run C0 tbX5 cokX5_grown (pc' := 195) (lv' := [(8, .long (s1 * s0)), (0, .ref a0), (1, .int x1), (2, .int x2), (3, .long y3), (5, .long y5), (7, .int x7), (10, .int x10), (11, .int x11)]) (st' := [.int x11, .int (q_int h (q_ref σ a0 7) (Int32.toNatClampNeg x10)), .int x10, .ref (q_ref σ a0 7)]) (h' := h) 8 rfl ⟨⟨g26, q_tn g27⟩, ⟨g27, g28⟩, trivial⟩ ?_
        refine v_if_eq C0 cokX5_grown rfl 214 (by decide) hf (fun _ hf => ?_) (fun _ hf => ?_)
        · refine v_pick [1, 2, 3, 4, 5, 6, 0, 7] rfl ?_
          exact n214 σ h (s1 * s0) x10 (q_int h (q_ref σ a0 7) (Int32.toNatClampNeg x10)) x10 (q_ref σ a0 7) hf
        · refine v_run C0 tbX5 cokX5_grown (pc' := 207) (lv' := [(8, .long (s1 * s0)), (0, .ref a0), (1, .int x1), (2, .int x2), (3, .long y3), (5, .long y5), (7, .int x7), (10, .int x10), (11, .int x11)]) (st' := [.int (20 : Int32), .int (q_int h (q_ref σ a0 7) (Int32.toNatClampNeg x10)), .int (q_int h (q_ref σ a0 7) (Int32.toNatClampNeg x10)), .int x10, .ref (q_ref σ a0 7)]) (h' := h) 5 rfl ⟨⟨g26, q_tn g27⟩, ⟨g27, g28⟩, trivial⟩ ?_
          refine v_icmp_ge C0 cokX5_grown rfl 214 (by decide) hf (fun _ hf => ?_) (fun _ hf => ?_)
          · refine v_pick [1, 2, 3, 4, 5, 6, 0, 7] rfl ?_
            exact n214 σ h (s1 * s0) x10 (q_int h (q_ref σ a0 7) (Int32.toNatClampNeg x10)) x10 (q_ref σ a0 7) hf
          · refine v_run C0 tbX5 cokX5_grown (pc' := 215) (lv' := [(8, .long (s1 * s0)), (0, .ref a0), (1, .int x1), (2, .int x2), (3, .long y3), (5, .long y5), (7, .int x7), (10, .int x10), (11, .int x11)]) (st' := [.int (1 : Int32), .int (q_int h (q_ref σ a0 7) (Int32.toNatClampNeg x10)), .int x10, .ref (q_ref σ a0 7)]) (h' := h) 2 rfl trivial ?_
            refine v_pick [1, 2, 3, 4, 5, 6, 0, 7] rfl ?_
            exact n215 σ h (s1 * s0) x10 (1 : Int32) (q_int h (q_ref σ a0 7) (Int32.toNatClampNeg x10)) x10 (q_ref σ a0 7) hf
      obtain ⟨g19, hf⟩ := q_gu_o hf
      refine v_run C0 tbX5 cokX5_grown (pc' := 128) (lv' := [(0, .ref a0), (1, .int x1), (2, .int x2), (3, .long y3), (5, .long y5), (7, .int x7), (8, .long y8), (10, .int x10)]) (st' := [.int (q_int h a0 6), .int x10]) (h' := h) 3 rfl ⟨g19, trivial⟩ ?_
      refine v_icmp_ge C0 cokX5_grown rfl 223 (by decide) hf (fun _ hf => ?_) (fun _ hf => ?_)
      · obtain rfl := Option.some.inj hf
        refine v_pick [0, 1, 2, 3, 4, 5, 6] rfl ?_
        have hx := kr2 _ rfl
        subst hx
        exact kx2
      · refine v_run C0 tbX5 cokX5_grown (pc' := 135) (lv' := [(0, .ref a0), (1, .int x1), (2, .int x2), (3, .long y3), (5, .long y5), (7, .int x7), (8, .long y8), (10, .int x10)]) (st' := [.int x10, .int x7]) (h' := h) 2 rfl trivial ?_
        obtain ⟨r20, e20, hf⟩ := q_bd hf
        refine v_callS C0 cokX5_grown rfl (rest := []) (ctX5_hasBit x7 x10 e20) calX5_hasBit lkX5_243 inX5_hasBit dnX5_hasBit rfl rfl ⟨by decide, by decide⟩ (Nat.le_of_ble_eq_true rfl) (Nat.le_refl _) (Nat.le_refl _) ?_
        refine v_run C0 tbX5 cokX5_grown (pc' := 145) (lv' := [(11, .int r20), (0, .ref a0), (1, .int x1), (2, .int x2), (3, .long y3), (5, .long y5), (7, .int x7), (8, .long y8), (10, .int x10)]) (st' := [.int x10, .int x2, .long y8]) (h' := h) 4 rfl trivial ?_
        obtain ⟨r21, e21, hf⟩ := q_bd hf
        refine v_callS C0 cokX5_grown rfl (rest := [.long y8]) (ctX5_hasBit x2 x10 e21) calX5_hasBit lkX5_243 inX5_hasBit dnX5_hasBit rfl rfl ⟨by decide, by decide⟩ (Nat.le_of_ble_eq_true rfl) (Nat.le_refl _) (Nat.le_refl _) ?_
        refine v_if_ne C0 cokX5_grown rfl 155 (by decide) hf (fun _ hf => ?_) (fun _ hf => ?_)
        · refine v_run C0 tbX5 cokX5_grown (pc' := 182) (lv' := [(11, .int r20), (0, .ref a0), (1, .int x1), (2, .int x2), (3, .long y3), (5, .long y5), (7, .int x7), (8, .long y8), (10, .int x10)]) (st' := [.long (1 : Int64), .long y8]) (h' := h) 2 rfl trivial ?_
          refine v_pick [1, 2, 3, 4, 5, 6, 8, 0] rfl ?_
          exact n182 σ h x10 r20 (1 : Int64) y8 hf
        · refine v_run C0 tbX5 cokX5_grown (pc' := 157) (lv' := [(11, .int r20), (0, .ref a0), (1, .int x1), (2, .int x2), (3, .long y3), (5, .long y5), (7, .int x7), (8, .long y8), (10, .int x10)]) (st' := [.int r20, .long y8]) (h' := h) 1 rfl trivial ?_
          refine v_if_eq C0 cokX5_grown rfl 171 (by decide) hf (fun _ hf => ?_) (fun _ hf => ?_)
          · obtain ⟨⟨g22, g23⟩, hf⟩ := q_gu_o hf
            refine v_run C0 tbX5 cokX5_grown (pc' := 182) (lv' := [(11, .int r20), (0, .ref a0), (1, .int x1), (2, .int x2), (3, .long y3), (5, .long y5), (7, .int x7), (8, .long y8), (10, .int x10)]) (st' := [.long (Int32.toInt64 ((10 : Int32) - (q_int h (q_ref σ a0 9) (Int32.toNatClampNeg x10)))), .long y8]) (h' := h) 7 rfl ⟨⟨g19, q_tn g22⟩, ⟨g22, g23⟩, trivial⟩ ?_
            refine v_pick [1, 2, 3, 4, 5, 6, 8, 0] rfl ?_
            exact n182 σ h x10 r20 (Int32.toInt64 ((10 : Int32) - (q_int h (q_ref σ a0 9) (Int32.toNatClampNeg x10)))) y8 hf
          · obtain ⟨⟨g24, g25⟩, hf⟩ := q_gu_o hf
            refine v_run C0 tbX5 cokX5_grown (pc' := 182) (lv' := [(11, .int r20), (0, .ref a0), (1, .int x1), (2, .int x2), (3, .long y3), (5, .long y5), (7, .int x7), (8, .long y8), (10, .int x10)]) (st' := [.long (Int32.toInt64 (q_int h (q_ref σ a0 9) (Int32.toNatClampNeg x10))), .long y8]) (h' := h) 6 rfl ⟨⟨g19, q_tn g24⟩, ⟨g24, g25⟩, trivial⟩ ?_
            refine v_pick [1, 2, 3, 4, 5, 6, 8, 0] rfl ?_
            exact n182 σ h x10 r20 (Int32.toInt64 (q_int h (q_ref σ a0 9) (Int32.toNatClampNeg x10))) y8 hf
    have n254 : ∀ (σ : q_St) (h : q_Hp) (y3 : Int64) (x7 : Int32), fX5_grown_254  σ h a0 x1 x2 y3 y5 x7 = some z1 → V p l e { frames := 6, cells := 0, slots := 0, locals := 132 } s m args below meth c (MQ below (q_Qc D cy b0 (some (.long r)) σ' h') args s 0 0 (fun q => b0 ≤ q)) D cy b0 12 0 0 0 0 σ h 254 [(0, .ref a0), (1, .int x1), (2, .int x2), (3, .long y3), (5, .long y5), (7, .int x7)] [] := by
      intro σ h y3 x7 hf
      unfold fX5_grown_254 at hf
      refine v_run C0 tbX5 cokX5_grown (pc' := 96) (lv' := [(7, .int (x7 + (1 : Int32))), (0, .ref a0), (1, .int x1), (2, .int x2), (3, .long y3), (5, .long y5)]) (st' := []) (h' := h) 2 rfl trivial ?_
      obtain rfl := Option.some.inj hf
      refine v_pick [1, 2, 3, 4, 5, 0] rfl ?_
      exact kb1 _ rfl
    have n248 : ∀ (σ : q_St) (h : q_Hp) (x7 : Int32) (s0 : Int64) (s1 : Int64), fX5_grown_248  σ h a0 x1 x2 y5 x7 s0 s1 = some z1 → V p l e { frames := 6, cells := 0, slots := 0, locals := 132 } s m args below meth c (MQ below (q_Qc D cy b0 (some (.long r)) σ' h') args s 0 0 (fun q => b0 ≤ q)) D cy b0 12 0 0 0 0 σ h 248 [(0, .ref a0), (1, .int x1), (2, .int x2), (5, .long y5), (7, .int x7)] [.long s0, .long s1] := by
      intro σ h x7 s0 s1 hf
      unfold fX5_grown_248 at hf
      refine v_run C0 tbX5 cokX5_grown (pc' := 251) (lv' := [(3, .long (s1 + s0)), (0, .ref a0), (1, .int x1), (2, .int x2), (5, .long y5), (7, .int x7)]) (st' := [.ref a0]) (h' := h) 3 rfl trivial ?_
      obtain ⟨g17, hf⟩ := q_gu_o hf
      obtain ⟨σ18, h18, e18, hf⟩ := q_bd2 hf
      refine v_callV C0 cokX5_grown rfl (rest := []) (ctX5_close a0 g17 e18) calX5_close lkX5_204 inX5_close dnX5_close (ci := 5) ⟨rfl, by decide⟩ g17 rfl rfl ⟨by decide, by decide⟩ (Nat.le_of_ble_eq_true rfl) (Nat.le_refl _) (Nat.le_refl _) ?_
      refine v_pick [1, 2, 3, 0, 4, 5] rfl ?_
      exact n254 σ18 h18 (s1 + s0) x7 hf
    have n247 : ∀ (σ : q_St) (h : q_Hp) (x7 : Int32) (s0 : Int64), fX5_grown_247  σ h a0 x1 x2 y5 x7 s0 = some z1 → V p l e { frames := 6, cells := 0, slots := 0, locals := 132 } s m args below meth c (MQ below (q_Qc D cy b0 (some (.long r)) σ' h') args s 0 0 (fun q => b0 ≤ q)) D cy b0 12 0 0 0 0 σ h 247 [(0, .ref a0), (1, .int x1), (2, .int x2), (5, .long y5), (7, .int x7)] [.long s0] := by
      intro σ h x7 s0 hf
      unfold fX5_grown_247 at hf
      refine v_run C0 tbX5 cokX5_grown (pc' := 248) (lv' := [(0, .ref a0), (1, .int x1), (2, .int x2), (5, .long y5), (7, .int x7)]) (st' := [.long (0 : Int64), .long s0]) (h' := h) 1 rfl trivial ?_
      refine v_pick [0, 1, 2, 3, 4] rfl ?_
      exact n248 σ h x7 (0 : Int64) s0 hf
    obtain ⟨g12, hf⟩ := q_gu_o hf
    refine v_run C0 tbX5 cokX5_grown (pc' := 104) (lv' := [(0, .ref a0), (1, .int x1), (2, .int x2), (3, .long y3), (5, .long y5), (7, .int x7)]) (st' := [.int ((1 : Int32) <<< ((q_int h a0 6) &&& 31)), .int x7]) (h' := h) 5 rfl ⟨g12, trivial⟩ ?_
    refine v_icmp_ge C0 cokX5_grown rfl 260 (by decide) hf (fun _ hf => ?_) (fun _ hf => ?_)
    · obtain rfl := Option.some.inj hf
      refine v_pick [1, 3, 4] rfl ?_
      have hx := kr1 _ rfl
      subst hx
      exact kx1
    · refine v_run C0 tbX5 cokX5_grown (pc' := 113) (lv' := [(0, .ref a0), (1, .int x1), (2, .int x2), (3, .long y3), (5, .long y5), (7, .int x7)]) (st' := [.int (x7 &&& (x2 ^^^ (-1 : Int32)))]) (h' := h) 5 rfl trivial ?_
      refine v_if_ne C0 cokX5_grown rfl 254 (by decide) hf (fun _ hf => ?_) (fun _ hf => ?_)
      · refine v_run C0 tbX5 cokX5_grown (pc' := 122) (lv' := [(10, .int (0 : Int32)), (8, .long (1 : Int64)), (0, .ref a0), (1, .int x1), (2, .int x2), (3, .long y3), (5, .long y5), (7, .int x7)]) (st' := []) (h' := h) 4 rfl trivial ?_
        obtain ⟨o13, eo13, hf⟩ := q_bd hf
        refine v_pick [2, 3, 4, 5, 6, 7, 1, 0] rfl ?_
        refine n122 x2 y3 y5 x7 o13 ((1 : Int64), (0 : Int32), σ, h) eo13 ?_
        refine v_run C0 tbX5 cokX5_grown (pc' := 228) (lv' := [(0, .ref a0), (1, .int x1), (2, .int x2), (3, .long y3), (5, .long y5), (7, .int x7), (8, .long o13.1)]) (st' := [.int (lg_cmp o13.1 (0 : Int64)), .long y3]) (h' := o13.2.2) 4 rfl trivial ?_
        refine v_if_le C0 cokX5_grown rfl 247 (by decide) hf (fun _ hf => ?_) (fun _ hf => ?_)
        · refine v_pick [0, 1, 2, 4, 5] rfl ?_
          exact n247 o13.2.1 o13.2.2 x7 y3 hf
        · refine v_run C0 tbX5 cokX5_grown (pc' := 232) (lv' := [(0, .ref a0), (1, .int x1), (2, .int x2), (3, .long y3), (5, .long y5), (7, .int x7), (8, .long o13.1)]) (st' := [.ref a0, .long y3]) (h' := o13.2.2) 1 rfl trivial ?_
          obtain ⟨g14, hf⟩ := q_gu_o hf
          obtain ⟨r15, h15, e15, hf⟩ := q_bd2 hf
          refine v_callV C0 cokX5_grown rfl (rest := [.long y3]) (ctX5_servedNow a0 g14 e15) calX5_servedNow lkX5_267 inX5_servedNow dnX5_servedNow (ci := 5) ⟨rfl, by decide⟩ g14 rfl rfl ⟨by decide, by decide⟩ (Nat.le_of_ble_eq_true rfl) (Nat.le_refl _) (Nat.le_refl _) ?_
          refine v_run C0 tbX5 cokX5_grown (pc' := 236) (lv' := [(0, .ref a0), (1, .int x1), (2, .int x2), (3, .long y3), (5, .long y5), (7, .int x7), (8, .long o13.1)]) (st' := [.int x2, .int r15, .long y3]) (h' := h15) 1 rfl trivial ?_
          obtain ⟨r16, e16, hf⟩ := q_bd hf
          refine v_callS C0 cokX5_grown rfl (rest := [.int r15, .long y3]) (ctX5_onesOf x2 e16) calX5_onesOf lkX5_291 inX5_onesOf dnX5_onesOf rfl rfl ⟨by decide, by decide⟩ (Nat.le_of_ble_eq_true rfl) (Nat.le_refl _) (Nat.le_refl _) ?_
          refine v_icmp_ne C0 cokX5_grown rfl 247 (by decide) hf (fun _ hf => ?_) (fun _ hf => ?_)
          · refine v_run C0 tbX5 cokX5_grown (pc' := 248) (lv' := [(0, .ref a0), (1, .int x1), (2, .int x2), (3, .long y3), (5, .long y5), (7, .int x7), (8, .long o13.1)]) (st' := [.long o13.1, .long y3]) (h' := h15) 2 rfl trivial ?_
            refine v_pick [0, 1, 2, 4, 5] rfl ?_
            exact n248 o13.2.1 h15 x7 o13.1 y3 hf
          · refine v_pick [0, 1, 2, 4, 5] rfl ?_
            exact n247 o13.2.1 h15 x7 y3 hf
      · refine v_pick [0, 1, 2, 3, 4, 5] rfl ?_
        exact n254 σ h y3 x7 hf
  refine v_run C0 tbX5 cokX5_grown (pc' := 9) (lv' := [(0, .ref a0), (1, .int x1)]) (st' := [.long (1 : Int64), .long (0 : Int64), .long (Int32.toInt64 x1)]) (h' := (q_si h a0 21 (0 : Int32))) 7 rfl ⟨ta0, trivial⟩ ?_
  obtain ⟨r1, e1, hf⟩ := q_bd hf
  refine v_callS C0 cokX5_grown rfl (rest := []) (ctX5_in (Int32.toInt64 x1) (0 : Int64) (1 : Int64) e1) calX5_in lkX5_96 inX5_in dnX5_in rfl rfl ⟨by decide, by decide⟩ (Nat.le_of_ble_eq_true rfl) (Nat.le_refl _) (Nat.le_refl _) ?_
  refine v_if_ne C0 cokX5_grown rfl 19 (by decide) hf (fun _ hf => ?_) (fun _ hf => ?_)
  · refine v_run C0 tbX5 cokX5_grown (pc' := 18) (lv' := [(0, .ref a0), (1, .int x1)]) (st' := [.long (1000000001 : Int64)]) (h' := (q_si h a0 21 (0 : Int32))) 1 rfl trivial ?_
    obtain ⟨hq1, hq2⟩ := Prod.mk.inj (Option.some.inj hf)
    obtain ⟨hq3, hq4⟩ := Prod.mk.inj hq2
    subst hq1
    subst hq3
    subst hq4
    exact v_lret C0 cokX5_grown hr hlk rfl
  · refine v_run C0 tbX5 cokX5_grown (pc' := 23) (lv' := [(3, .int (0 : Int32)), (2, .int (0 : Int32)), (0, .ref a0), (1, .int x1)]) (st' := []) (h' := (q_si h a0 21 (0 : Int32))) 4 rfl trivial ?_
    obtain ⟨o2, eo2, hf⟩ := q_bd hf
    refine v_pick [2, 3, 1, 0] rfl ?_
    refine n23 o2 ((0 : Int32), (0 : Int32), σ, (q_si h a0 21 (0 : Int32))) eo2 ?_
    refine v_run C0 tbX5 cokX5_grown (pc' := 66) (lv' := [(7, .int (0 : Int32)), (5, .long (1 : Int64)), (3, .long (0 : Int64)), (0, .ref a0), (1, .int x1), (2, .int o2.1)]) (st' := []) (h' := o2.2.2) 6 rfl trivial ?_
    obtain ⟨o3, eo3, hf⟩ := q_bd hf
    refine v_pick [3, 4, 5, 2, 1, 0] rfl ?_
    refine n66 o2.1 (0 : Int64) o3 ((1 : Int64), (0 : Int32), o2.2.1, o2.2.2) eo3 ?_
    refine v_run C0 tbX5 cokX5_grown (pc' := 90) (lv' := [(0, .ref a0), (1, .int x1), (2, .int o2.1), (3, .long (0 : Int64)), (5, .long o3.1)]) (st' := [.ref a0]) (h' := o3.2.2) 1 rfl trivial ?_
    obtain ⟨g4, hf⟩ := q_gu_o hf
    obtain ⟨σ5, h5, e5, hf⟩ := q_bd2 hf
    refine v_callV C0 cokX5_grown rfl (rest := []) (ctX5_open a0 g4 e5) calX5_open lkX5_198 inX5_open dnX5_open (ci := 5) ⟨rfl, by decide⟩ g4 rfl rfl ⟨by decide, by decide⟩ (Nat.le_of_ble_eq_true rfl) (Nat.le_refl _) (Nat.le_refl _) ?_
    refine v_run C0 tbX5 cokX5_grown (pc' := 96) (lv' := [(7, .int (0 : Int32)), (0, .ref a0), (1, .int x1), (2, .int o2.1), (3, .long (0 : Int64)), (5, .long o3.1)]) (st' := []) (h' := h5) 2 rfl trivial ?_
    obtain ⟨o6, eo6, hf⟩ := q_bd hf
    refine v_pick [1, 2, 3, 4, 5, 0] rfl ?_
    refine n96 o2.1 o3.1 o6 ((0 : Int64), (0 : Int32), σ5, h5) eo6 ?_
    refine v_run C0 tbX5 cokX5_grown (pc' := 264) (lv' := [(1, .int x1), (3, .long o6.1), (5, .long o3.1)]) (st' := [.int x1, .long o3.1, .long o6.1]) (h' := o6.2.2) 3 rfl trivial ?_
    obtain ⟨r7, e7, hf⟩ := q_bd hf
    refine v_callS C0 cokX5_grown rfl (rest := []) (ctX5_partOf o6.1 o3.1 x1 e7) calX5_partOf lkX5_296 inX5_partOf dnX5_partOf rfl rfl ⟨by decide, by decide⟩ (Nat.le_of_ble_eq_true rfl) (Nat.le_refl _) (Nat.le_refl _) ?_
    obtain ⟨hq1, hq2⟩ := Prod.mk.inj (Option.some.inj hf)
    obtain ⟨hq3, hq4⟩ := Prod.mk.inj hq2
    subst hq1
    subst hq3
    subst hq4
    exact v_lret C0 cokX5_grown hr hlk rfl
-- BackByNoonOnMondayModel.come(II)J
noncomputable def fX5_come_39 (σ : q_St) (a0 : Nat) (x1 : Int32) (x2 : Int32) (y3 : Int64) (y5 : Int64) (x7 : Int32) (h : q_Hp) : Option ((Int64 × Int32 × q_Hp) ⊕ (Int64 × q_Hp)) := (if (q_int h a0 6) ≤ x7 then some (Sum.inr (y5, h)) else some (Sum.inl ((y5 * (10 : Int64)), (x7 + (1 : Int32)), h)))
noncomputable def fX5_come_125 (σ : q_St) (h : q_Hp) (a0 : Nat) (x1 : Int32) (x2 : Int32) (y3 : Int64) (y5 : Int64) (x7 : Int32) (x10 : Int32) (s0 : Int64) (s1 : Int64) : Option ((Int64 × Int32 × q_Hp) ⊕ (Int64 × q_Hp)) := some (Sum.inl ((s1 * s0), (x10 + (1 : Int32)), h))
noncomputable def fX5_come_82 (σ : q_St) (a0 : Nat) (x1 : Int32) (x2 : Int32) (y3 : Int64) (y5 : Int64) (x7 : Int32) (y8 : Int64) (x10 : Int32) (h : q_Hp) : Option ((Int64 × Int32 × q_Hp) ⊕ (Int64 × q_Hp)) := (if (q_int h a0 6) ≤ x10 then some (Sum.inr (y8, h)) else ((fX5_hasBit σ h x7 x10).bind fun r8 => (if r8 = 0 then q_gu ((vp_in x10 (q_len σ (q_ref σ a0 11)))) (fX5_come_125 σ h a0 x1 x2 y3 y5 x7 x10 (Int32.toInt64 (q_int h (q_ref σ a0 11) (Int32.toNatClampNeg x10))) y8) else q_gu ((vp_in x10 (q_len σ (q_ref σ a0 11)))) (fX5_come_125 σ h a0 x1 x2 y3 y5 x7 x10 (Int32.toInt64 ((10 : Int32) - (q_int h (q_ref σ a0 11) (Int32.toNatClampNeg x10)))) y8))))
noncomputable def fX5_come_150 (σ : q_St) (h : q_Hp) (a0 : Nat) (x1 : Int32) (x2 : Int32) (y5 : Int64) (x7 : Int32) (s0 : Int64) (s1 : Int64) : Option ((Int64 × Int32 × q_Hp) ⊕ (Int64 × q_Hp)) := some (Sum.inl ((s1 + s0), (x7 + (1 : Int32)), h))
noncomputable def fX5_come_65 (σ : q_St) (a0 : Nat) (x1 : Int32) (x2 : Int32) (y5 : Int64) (y3 : Int64) (x7 : Int32) (h : q_Hp) : Option ((Int64 × Int32 × q_Hp) ⊕ (Int64 × q_Hp)) := (if ((1 : Int32) <<< ((q_int h a0 6) &&& 31)) ≤ x7 then some (Sum.inr (y3, h)) else (q_loop (fun s => fX5_come_82 σ a0 x1 x2 y3 y5 x7 s.1 s.2.1 s.2.2) q_N ((1 : Int64), (0 : Int32), h)).bind fun o6 => ((fX5_onesOf σ o6.2 x7).bind fun r7 => (if x1 < r7 then fX5_come_150 σ o6.2 a0 x1 x2 y5 x7 (0 : Int64) y3 else fX5_come_150 σ o6.2 a0 x1 x2 y5 x7 o6.1 y3)))
noncomputable def fX5_come (σ : q_St) (h : q_Hp) (a0 : Nat) (x1 : Int32) (x2 : Int32) : Option (Int64 × q_Hp) := q_gu ((q_tag σ (q_ref σ a0 11) = 7)) (((fX5_in σ (q_si h a0 21 (0 : Int32)) (Int32.toInt64 x1) (0 : Int64) (7 : Int64)).bind fun r1 => (if r1 = 0 then some ((1000000001 : Int64), (q_si h a0 21 (0 : Int32))) else ((fX5_in σ (q_si h a0 21 (0 : Int32)) (Int32.toInt64 x2) (0 : Int64) (1 : Int64)).bind fun r2 => (if r2 = 0 then some ((1000000001 : Int64), (q_si h a0 21 (0 : Int32))) else (q_loop (fun s => fX5_come_39 σ a0 x1 x2 (0 : Int64) s.1 s.2.1 s.2.2) q_N ((1 : Int64), (0 : Int32), (q_si h a0 21 (0 : Int32)))).bind fun o3 => (q_loop (fun s => fX5_come_65 σ a0 x1 x2 o3.1 s.1 s.2.1 s.2.2) q_N ((0 : Int64), (0 : Int32), o3.2)).bind fun o4 => ((fX5_partOf σ o4.2 o4.1 o3.1 x2).bind fun r5 => some (r5, o4.2)))))))
def cdX5_come : q_Cd := [(0, .aload_n 0), (1, .iconst 0), (2, .putfield 89), (5, .iload_n 1), (6, .i2l), (7, .lconst 0), (8, .ldc2_w 229), (11, .invokestatic 96), (14, .ifCond .eq 13), (17, .iload_n 2), (18, .i2l), (19, .lconst 0), (20, .lconst 1), (21, .invokestatic 96), (24, .ifCond .ne 7), (27, .ldc2_w 289), (30, .lreturn), (31, .lconst 0), (32, .lstore_n 3), (33, .lconst 1), (34, .lstore 5), (36, .iconst 0), (37, .istore 7), (39, .iload 7), (41, .aload_n 0), (42, .getfield 100), (45, .if_icmp .ge 17), (48, .lload 5), (50, .ldc2_w 294), (53, .lmul), (54, .lstore 5), (56, .iinc 7 1), (59, .goto (-20)), (62, .iconst 0), (63, .istore 7), (65, .iload 7), (67, .iconst 1), (68, .aload_n 0), (69, .getfield 100), (72, .ishl), (73, .if_icmp .ge 85), (76, .lconst 1), (77, .lstore 8), (79, .iconst 0), (80, .istore 10), (82, .iload 10), (84, .aload_n 0), (85, .getfield 100), (88, .if_icmp .ge 46), (91, .lload 8), (93, .iload 7), (95, .iload 10), (97, .invokestatic 243), (100, .ifCond .eq 17), (103, .bipush 10), (105, .aload_n 0), (106, .getfield 37), (109, .iload 10), (111, .iaload), (112, .isub), (113, .i2l), (114, .goto 11), (117, .aload_n 0), (118, .getfield 37), (121, .iload 10), (123, .iaload), (124, .i2l), (125, .lmul), (126, .lstore 8), (128, .iinc 10 1), (131, .goto (-49)), (134, .lload_n 3), (135, .iload 7), (137, .invokestatic 291), (140, .iload_n 1), (141, .if_icmp .gt 8), (144, .lload 8), (146, .goto 4), (149, .lconst 0), (150, .ladd), (151, .lstore_n 3), (152, .iinc 7 1), (155, .goto (-90)), (158, .lload_n 3), (159, .lload 5), (161, .iload_n 2), (162, .invokestatic 296), (165, .lreturn)]
set_option maxRecDepth 100000 in
theorem cokX5_come : q_cok cX5_come cdX5_come := by unfold q_cok; decide +kernel
set_option maxRecDepth 100000 in
set_option maxHeartbeats 4000000 in
theorem ctX5_come {l : Launch} {D : va_G} {cy : Nat → Nat} {b0 : Nat} {σ : q_St} {h : q_Hp} (a0 : Nat) (x1 : Int32) (x2 : Int32) {r : Int64} {h' : q_Hp} (ta0 : q_tag σ a0 = 6) (hf : fX5_come σ h a0 x1 x2 = some (r, h')) : q_M l yX5_come cX5_come 11 (some .long) 2 55 0 0 D cy b0 σ h [.ref a0, .int x1, .int x2] (some (.long r)) σ h' := by
  unfold fX5_come at hf
  obtain ⟨k0, hf⟩ := q_gu_o hf
  refine q_enter (by decide) (Nat.le_of_ble_eq_true rfl) ?_
  intro p e s m args below meth c C0 hr hlk hnm
  replace C0 : VC p { frames := 2, cells := 0, slots := 0, locals := 55 } s m args meth c D cy b0 11 0 0 RX5 cX5_come := C0
  have n39 : ∀ (y3 : Int64) (o : (Int64 × q_Hp)) (s1 : (Int64 × Int32 × q_Hp)), q_loop (fun s => fX5_come_39 σ a0 x1 x2 y3 s.1 s.2.1 s.2.2) q_N s1 = some o → V p l e { frames := 2, cells := 0, slots := 0, locals := 55 } s m args below meth c (MQ below (q_Qc D cy b0 (some (.long r)) σ h') args s 0 0 (fun q => b0 ≤ q)) D cy b0 11 0 0 0 0 σ o.2 62 [(0, .ref a0), (1, .int x1), (2, .int x2), (3, .long y3), (5, .long o.1)] [] → V p l e { frames := 2, cells := 0, slots := 0, locals := 55 } s m args below meth c (MQ below (q_Qc D cy b0 (some (.long r)) σ h') args s 0 0 (fun q => b0 ≤ q)) D cy b0 11 0 0 0 0 σ s1.2.2 39 [(0, .ref a0), (1, .int x1), (2, .int x2), (3, .long y3), (5, .long s1.1), (7, .int s1.2.1)] [] := by
    intro y3 o s1 ho kx1
    refine q_loop_V (P := fun s0 => V p l e { frames := 2, cells := 0, slots := 0, locals := 55 } s m args below meth c (MQ below (q_Qc D cy b0 (some (.long r)) σ h') args s 0 0 (fun q => b0 ≤ q)) D cy b0 11 0 0 0 0 σ s0.2.2 39 [(0, .ref a0), (1, .int x1), (2, .int x2), (3, .long y3), (5, .long s0.1), (7, .int s0.2.1)] []) (o := o) ?_ q_N s1 ho
    intro s2 z1 hf kb1 kr1
    obtain ⟨y5, x7, h⟩ := s2
    replace hf : fX5_come_39 σ a0 x1 x2 y3 y5 x7 h = some z1 := hf
    unfold fX5_come_39 at hf
    show V p l e { frames := 2, cells := 0, slots := 0, locals := 55 } s m args below meth c (MQ below (q_Qc D cy b0 (some (.long r)) σ h') args s 0 0 (fun q => b0 ≤ q)) D cy b0 11 0 0 0 0 σ h 39 [(0, .ref a0), (1, .int x1), (2, .int x2), (3, .long y3), (5, .long y5), (7, .int x7)] []
    refine v_run C0 tbX5 cokX5_come (pc' := 45) (lv' := [(0, .ref a0), (1, .int x1), (2, .int x2), (3, .long y3), (5, .long y5), (7, .int x7)]) (st' := [.int (q_int h a0 6), .int x7]) (h' := h) 3 rfl ⟨ta0, trivial⟩ ?_
    refine v_icmp_ge C0 cokX5_come rfl 62 (by decide) hf (fun _ hf => ?_) (fun _ hf => ?_)
    · obtain rfl := Option.some.inj hf
      refine v_pick [0, 1, 2, 3, 4] rfl ?_
      have hx := kr1 _ rfl
      subst hx
      exact kx1
    · refine v_run C0 tbX5 cokX5_come (pc' := 39) (lv' := [(7, .int (x7 + (1 : Int32))), (5, .long (y5 * (10 : Int64))), (0, .ref a0), (1, .int x1), (2, .int x2), (3, .long y3)]) (st' := []) (h' := h) 6 rfl trivial ?_
      obtain rfl := Option.some.inj hf
      refine v_pick [2, 3, 4, 5, 1, 0] rfl ?_
      exact kb1 _ rfl
  have n65 : ∀ (y5 : Int64) (o : (Int64 × q_Hp)) (s1 : (Int64 × Int32 × q_Hp)), q_loop (fun s => fX5_come_65 σ a0 x1 x2 y5 s.1 s.2.1 s.2.2) q_N s1 = some o → V p l e { frames := 2, cells := 0, slots := 0, locals := 55 } s m args below meth c (MQ below (q_Qc D cy b0 (some (.long r)) σ h') args s 0 0 (fun q => b0 ≤ q)) D cy b0 11 0 0 0 0 σ o.2 158 [(2, .int x2), (3, .long o.1), (5, .long y5)] [] → V p l e { frames := 2, cells := 0, slots := 0, locals := 55 } s m args below meth c (MQ below (q_Qc D cy b0 (some (.long r)) σ h') args s 0 0 (fun q => b0 ≤ q)) D cy b0 11 0 0 0 0 σ s1.2.2 65 [(0, .ref a0), (1, .int x1), (2, .int x2), (3, .long s1.1), (5, .long y5), (7, .int s1.2.1)] [] := by
    intro y5 o s1 ho kx1
    refine q_loop_V (P := fun s0 => V p l e { frames := 2, cells := 0, slots := 0, locals := 55 } s m args below meth c (MQ below (q_Qc D cy b0 (some (.long r)) σ h') args s 0 0 (fun q => b0 ≤ q)) D cy b0 11 0 0 0 0 σ s0.2.2 65 [(0, .ref a0), (1, .int x1), (2, .int x2), (3, .long s0.1), (5, .long y5), (7, .int s0.2.1)] []) (o := o) ?_ q_N s1 ho
    intro s2 z1 hf kb1 kr1
    obtain ⟨y3, x7, h⟩ := s2
    replace hf : fX5_come_65 σ a0 x1 x2 y5 y3 x7 h = some z1 := hf
    unfold fX5_come_65 at hf
    show V p l e { frames := 2, cells := 0, slots := 0, locals := 55 } s m args below meth c (MQ below (q_Qc D cy b0 (some (.long r)) σ h') args s 0 0 (fun q => b0 ≤ q)) D cy b0 11 0 0 0 0 σ h 65 [(0, .ref a0), (1, .int x1), (2, .int x2), (3, .long y3), (5, .long y5), (7, .int x7)] []
    have n82 : ∀ (y3 : Int64) (y5 : Int64) (x7 : Int32) (o : (Int64 × q_Hp)) (s1 : (Int64 × Int32 × q_Hp)), q_loop (fun s => fX5_come_82 σ a0 x1 x2 y3 y5 x7 s.1 s.2.1 s.2.2) q_N s1 = some o → V p l e { frames := 2, cells := 0, slots := 0, locals := 55 } s m args below meth c (MQ below (q_Qc D cy b0 (some (.long r)) σ h') args s 0 0 (fun q => b0 ≤ q)) D cy b0 11 0 0 0 0 σ o.2 134 [(0, .ref a0), (1, .int x1), (2, .int x2), (3, .long y3), (5, .long y5), (7, .int x7), (8, .long o.1)] [] → V p l e { frames := 2, cells := 0, slots := 0, locals := 55 } s m args below meth c (MQ below (q_Qc D cy b0 (some (.long r)) σ h') args s 0 0 (fun q => b0 ≤ q)) D cy b0 11 0 0 0 0 σ s1.2.2 82 [(0, .ref a0), (1, .int x1), (2, .int x2), (3, .long y3), (5, .long y5), (7, .int x7), (8, .long s1.1), (10, .int s1.2.1)] [] := by
      intro y3 y5 x7 o s1 ho kx2
      refine q_loop_V (P := fun s0 => V p l e { frames := 2, cells := 0, slots := 0, locals := 55 } s m args below meth c (MQ below (q_Qc D cy b0 (some (.long r)) σ h') args s 0 0 (fun q => b0 ≤ q)) D cy b0 11 0 0 0 0 σ s0.2.2 82 [(0, .ref a0), (1, .int x1), (2, .int x2), (3, .long y3), (5, .long y5), (7, .int x7), (8, .long s0.1), (10, .int s0.2.1)] []) (o := o) ?_ q_N s1 ho
      intro s2 z2 hf kb2 kr2
      obtain ⟨y8, x10, h⟩ := s2
      replace hf : fX5_come_82 σ a0 x1 x2 y3 y5 x7 y8 x10 h = some z2 := hf
      unfold fX5_come_82 at hf
      show V p l e { frames := 2, cells := 0, slots := 0, locals := 55 } s m args below meth c (MQ below (q_Qc D cy b0 (some (.long r)) σ h') args s 0 0 (fun q => b0 ≤ q)) D cy b0 11 0 0 0 0 σ h 82 [(0, .ref a0), (1, .int x1), (2, .int x2), (3, .long y3), (5, .long y5), (7, .int x7), (8, .long y8), (10, .int x10)] []
      have n125 : ∀ (h : q_Hp) (x10 : Int32) (s0 : Int64) (s1 : Int64), fX5_come_125 σ h a0 x1 x2 y3 y5 x7 x10 s0 s1 = some z2 → V p l e { frames := 2, cells := 0, slots := 0, locals := 55 } s m args below meth c (MQ below (q_Qc D cy b0 (some (.long r)) σ h') args s 0 0 (fun q => b0 ≤ q)) D cy b0 11 0 0 0 0 σ h 125 [(0, .ref a0), (1, .int x1), (2, .int x2), (3, .long y3), (5, .long y5), (7, .int x7), (10, .int x10)] [.long s0, .long s1] := by
        intro h x10 s0 s1 hf
        unfold fX5_come_125 at hf
        refine v_run C0 tbX5 cokX5_come (pc' := 82) (lv' := [(10, .int (x10 + (1 : Int32))), (8, .long (s1 * s0)), (0, .ref a0), (1, .int x1), (2, .int x2), (3, .long y3), (5, .long y5), (7, .int x7)]) (st' := []) (h' := h) 4 rfl trivial ?_
        obtain rfl := Option.some.inj hf
        refine v_pick [2, 3, 4, 5, 6, 7, 1, 0] rfl ?_
        exact kb2 _ rfl
      refine v_run C0 tbX5 cokX5_come (pc' := 88) (lv' := [(0, .ref a0), (1, .int x1), (2, .int x2), (3, .long y3), (5, .long y5), (7, .int x7), (8, .long y8), (10, .int x10)]) (st' := [.int (q_int h a0 6), .int x10]) (h' := h) 3 rfl ⟨ta0, trivial⟩ ?_
      refine v_icmp_ge C0 cokX5_come rfl 134 (by decide) hf (fun _ hf => ?_) (fun _ hf => ?_)
      · obtain rfl := Option.some.inj hf
        refine v_pick [0, 1, 2, 3, 4, 5, 6] rfl ?_
        have hx := kr2 _ rfl
        subst hx
        exact kx2
      · refine v_run C0 tbX5 cokX5_come (pc' := 97) (lv' := [(0, .ref a0), (1, .int x1), (2, .int x2), (3, .long y3), (5, .long y5), (7, .int x7), (8, .long y8), (10, .int x10)]) (st' := [.int x10, .int x7, .long y8]) (h' := h) 3 rfl trivial ?_
        obtain ⟨r8, e8, hf⟩ := q_bd hf
        refine v_callS C0 cokX5_come rfl (rest := [.long y8]) (ctX5_hasBit x7 x10 e8) calX5_hasBit lkX5_243 inX5_hasBit dnX5_hasBit rfl rfl ⟨by decide, by decide⟩ (Nat.le_of_ble_eq_true rfl) (Nat.le_refl _) (Nat.le_refl _) ?_
        refine v_if_eq C0 cokX5_come rfl 117 (by decide) hf (fun _ hf => ?_) (fun _ hf => ?_)
        · obtain ⟨g9, hf⟩ := q_gu_o hf
          refine v_run C0 tbX5 cokX5_come (pc' := 125) (lv' := [(0, .ref a0), (1, .int x1), (2, .int x2), (3, .long y3), (5, .long y5), (7, .int x7), (8, .long y8), (10, .int x10)]) (st' := [.long (Int32.toInt64 (q_int h (q_ref σ a0 11) (Int32.toNatClampNeg x10))), .long y8]) (h' := h) 5 rfl ⟨⟨ta0, q_tn k0⟩, ⟨k0, g9⟩, trivial⟩ ?_
          refine v_pick [0, 1, 2, 3, 4, 5, 7] rfl ?_
          exact n125 h x10 (Int32.toInt64 (q_int h (q_ref σ a0 11) (Int32.toNatClampNeg x10))) y8 hf
        · obtain ⟨g10, hf⟩ := q_gu_o hf
          refine v_run C0 tbX5 cokX5_come (pc' := 125) (lv' := [(0, .ref a0), (1, .int x1), (2, .int x2), (3, .long y3), (5, .long y5), (7, .int x7), (8, .long y8), (10, .int x10)]) (st' := [.long (Int32.toInt64 ((10 : Int32) - (q_int h (q_ref σ a0 11) (Int32.toNatClampNeg x10)))), .long y8]) (h' := h) 8 rfl ⟨⟨ta0, q_tn k0⟩, ⟨k0, g10⟩, trivial⟩ ?_
          refine v_pick [0, 1, 2, 3, 4, 5, 7] rfl ?_
          exact n125 h x10 (Int32.toInt64 ((10 : Int32) - (q_int h (q_ref σ a0 11) (Int32.toNatClampNeg x10)))) y8 hf
    have n150 : ∀ (h : q_Hp) (x7 : Int32) (s0 : Int64) (s1 : Int64), fX5_come_150 σ h a0 x1 x2 y5 x7 s0 s1 = some z1 → V p l e { frames := 2, cells := 0, slots := 0, locals := 55 } s m args below meth c (MQ below (q_Qc D cy b0 (some (.long r)) σ h') args s 0 0 (fun q => b0 ≤ q)) D cy b0 11 0 0 0 0 σ h 150 [(0, .ref a0), (1, .int x1), (2, .int x2), (5, .long y5), (7, .int x7)] [.long s0, .long s1] := by
      intro h x7 s0 s1 hf
      unfold fX5_come_150 at hf
      refine v_run C0 tbX5 cokX5_come (pc' := 65) (lv' := [(7, .int (x7 + (1 : Int32))), (3, .long (s1 + s0)), (0, .ref a0), (1, .int x1), (2, .int x2), (5, .long y5)]) (st' := []) (h' := h) 4 rfl trivial ?_
      obtain rfl := Option.some.inj hf
      refine v_pick [2, 3, 4, 1, 5, 0] rfl ?_
      exact kb1 _ rfl
    refine v_run C0 tbX5 cokX5_come (pc' := 73) (lv' := [(0, .ref a0), (1, .int x1), (2, .int x2), (3, .long y3), (5, .long y5), (7, .int x7)]) (st' := [.int ((1 : Int32) <<< ((q_int h a0 6) &&& 31)), .int x7]) (h' := h) 5 rfl ⟨ta0, trivial⟩ ?_
    refine v_icmp_ge C0 cokX5_come rfl 158 (by decide) hf (fun _ hf => ?_) (fun _ hf => ?_)
    · obtain rfl := Option.some.inj hf
      refine v_pick [2, 3, 4] rfl ?_
      have hx := kr1 _ rfl
      subst hx
      exact kx1
    · refine v_run C0 tbX5 cokX5_come (pc' := 82) (lv' := [(10, .int (0 : Int32)), (8, .long (1 : Int64)), (0, .ref a0), (1, .int x1), (2, .int x2), (3, .long y3), (5, .long y5), (7, .int x7)]) (st' := []) (h' := h) 4 rfl trivial ?_
      obtain ⟨o6, eo6, hf⟩ := q_bd hf
      refine v_pick [2, 3, 4, 5, 6, 7, 1, 0] rfl ?_
      refine n82 y3 y5 x7 o6 ((1 : Int64), (0 : Int32), h) eo6 ?_
      refine v_run C0 tbX5 cokX5_come (pc' := 137) (lv' := [(0, .ref a0), (1, .int x1), (2, .int x2), (3, .long y3), (5, .long y5), (7, .int x7), (8, .long o6.1)]) (st' := [.int x7, .long y3]) (h' := o6.2) 2 rfl trivial ?_
      obtain ⟨r7, e7, hf⟩ := q_bd hf
      refine v_callS C0 cokX5_come rfl (rest := [.long y3]) (ctX5_onesOf x7 e7) calX5_onesOf lkX5_291 inX5_onesOf dnX5_onesOf rfl rfl ⟨by decide, by decide⟩ (Nat.le_of_ble_eq_true rfl) (Nat.le_refl _) (Nat.le_refl _) ?_
      refine v_run C0 tbX5 cokX5_come (pc' := 141) (lv' := [(0, .ref a0), (1, .int x1), (2, .int x2), (3, .long y3), (5, .long y5), (7, .int x7), (8, .long o6.1)]) (st' := [.int x1, .int r7, .long y3]) (h' := o6.2) 1 rfl trivial ?_
      refine v_icmp_gt C0 cokX5_come rfl 149 (by decide) hf (fun _ hf => ?_) (fun _ hf => ?_)
      · refine v_run C0 tbX5 cokX5_come (pc' := 150) (lv' := [(0, .ref a0), (1, .int x1), (2, .int x2), (3, .long y3), (5, .long y5), (7, .int x7), (8, .long o6.1)]) (st' := [.long (0 : Int64), .long y3]) (h' := o6.2) 1 rfl trivial ?_
        refine v_pick [0, 1, 2, 4, 5] rfl ?_
        exact n150 o6.2 x7 (0 : Int64) y3 hf
      · refine v_run C0 tbX5 cokX5_come (pc' := 150) (lv' := [(0, .ref a0), (1, .int x1), (2, .int x2), (3, .long y3), (5, .long y5), (7, .int x7), (8, .long o6.1)]) (st' := [.long o6.1, .long y3]) (h' := o6.2) 2 rfl trivial ?_
        refine v_pick [0, 1, 2, 4, 5] rfl ?_
        exact n150 o6.2 x7 o6.1 y3 hf
  refine v_run C0 tbX5 cokX5_come (pc' := 11) (lv' := [(0, .ref a0), (1, .int x1), (2, .int x2)]) (st' := [.long (7 : Int64), .long (0 : Int64), .long (Int32.toInt64 x1)]) (h' := (q_si h a0 21 (0 : Int32))) 7 rfl ⟨ta0, trivial⟩ ?_
  obtain ⟨r1, e1, hf⟩ := q_bd hf
  refine v_callS C0 cokX5_come rfl (rest := []) (ctX5_in (Int32.toInt64 x1) (0 : Int64) (7 : Int64) e1) calX5_in lkX5_96 inX5_in dnX5_in rfl rfl ⟨by decide, by decide⟩ (Nat.le_of_ble_eq_true rfl) (Nat.le_refl _) (Nat.le_refl _) ?_
  refine v_if_eq C0 cokX5_come rfl 27 (by decide) hf (fun _ hf => ?_) (fun _ hf => ?_)
  · refine v_run C0 tbX5 cokX5_come (pc' := 30) (lv' := [(0, .ref a0), (1, .int x1), (2, .int x2)]) (st' := [.long (1000000001 : Int64)]) (h' := (q_si h a0 21 (0 : Int32))) 1 rfl trivial ?_
    obtain ⟨rfl, rfl⟩ := Prod.mk.inj (Option.some.inj hf)
    exact v_lret C0 cokX5_come hr hlk rfl
  · refine v_run C0 tbX5 cokX5_come (pc' := 21) (lv' := [(0, .ref a0), (1, .int x1), (2, .int x2)]) (st' := [.long (1 : Int64), .long (0 : Int64), .long (Int32.toInt64 x2)]) (h' := (q_si h a0 21 (0 : Int32))) 4 rfl trivial ?_
    obtain ⟨r2, e2, hf⟩ := q_bd hf
    refine v_callS C0 cokX5_come rfl (rest := []) (ctX5_in (Int32.toInt64 x2) (0 : Int64) (1 : Int64) e2) calX5_in lkX5_96 inX5_in dnX5_in rfl rfl ⟨by decide, by decide⟩ (Nat.le_of_ble_eq_true rfl) (Nat.le_refl _) (Nat.le_refl _) ?_
    refine v_if_ne C0 cokX5_come rfl 31 (by decide) hf (fun _ hf => ?_) (fun _ hf => ?_)
    · refine v_run C0 tbX5 cokX5_come (pc' := 30) (lv' := [(0, .ref a0), (1, .int x1), (2, .int x2)]) (st' := [.long (1000000001 : Int64)]) (h' := (q_si h a0 21 (0 : Int32))) 1 rfl trivial ?_
      obtain ⟨rfl, rfl⟩ := Prod.mk.inj (Option.some.inj hf)
      exact v_lret C0 cokX5_come hr hlk rfl
    · refine v_run C0 tbX5 cokX5_come (pc' := 39) (lv' := [(7, .int (0 : Int32)), (5, .long (1 : Int64)), (3, .long (0 : Int64)), (0, .ref a0), (1, .int x1), (2, .int x2)]) (st' := []) (h' := (q_si h a0 21 (0 : Int32))) 6 rfl trivial ?_
      obtain ⟨o3, eo3, hf⟩ := q_bd hf
      refine v_pick [3, 4, 5, 2, 1, 0] rfl ?_
      refine n39 (0 : Int64) o3 ((1 : Int64), (0 : Int32), (q_si h a0 21 (0 : Int32))) eo3 ?_
      refine v_run C0 tbX5 cokX5_come (pc' := 65) (lv' := [(7, .int (0 : Int32)), (0, .ref a0), (1, .int x1), (2, .int x2), (3, .long (0 : Int64)), (5, .long o3.1)]) (st' := []) (h' := o3.2) 2 rfl trivial ?_
      obtain ⟨o4, eo4, hf⟩ := q_bd hf
      refine v_pick [1, 2, 3, 4, 5, 0] rfl ?_
      refine n65 o3.1 o4 ((0 : Int64), (0 : Int32), o3.2) eo4 ?_
      refine v_run C0 tbX5 cokX5_come (pc' := 162) (lv' := [(2, .int x2), (3, .long o4.1), (5, .long o3.1)]) (st' := [.int x2, .long o3.1, .long o4.1]) (h' := o4.2) 3 rfl trivial ?_
      obtain ⟨r5, e5, hf⟩ := q_bd hf
      refine v_callS C0 cokX5_come rfl (rest := []) (ctX5_partOf o4.1 o3.1 x2 e5) calX5_partOf lkX5_296 inX5_partOf dnX5_partOf rfl rfl ⟨by decide, by decide⟩ (Nat.le_of_ble_eq_true rfl) (Nat.le_refl _) (Nat.le_refl _) ?_
      obtain ⟨rfl, rfl⟩ := Prod.mk.inj (Option.some.inj hf)
      exact v_lret C0 cokX5_come hr hlk rfl
-- BackByNoonOnMondayModel.refuse()I
noncomputable def fX5_refuse_59 (σ : q_St) (h : q_Hp) (a0 : Nat) (x1 : Int32) (x3 : Int32) (s0 : Int32) : Option ((Int32 × Int32 × q_Hp) ⊕ (Int32 × q_Hp)) := some (Sum.inl (s0, (x3 + (1 : Int32)), h))
noncomputable def fX5_refuse_57 (σ : q_St) (h : q_Hp) (a0 : Nat) (x1 : Int32) (x3 : Int32) : Option ((Int32 × Int32 × q_Hp) ⊕ (Int32 × q_Hp)) := fX5_refuse_59 σ h a0 x1 x3 (-4 : Int32)
noncomputable def fX5_refuse_15 (σ : q_St) (a0 : Nat) (x1 : Int32) (x2 : Int32) (x3 : Int32) (h : q_Hp) : Option ((Int32 × Int32 × q_Hp) ⊕ (Int32 × q_Hp)) := (if (q_int h a0 6) ≤ x3 then some (Sum.inr (x2, h)) else (if 0 ≤ x2 then some (Sum.inr (x2, h)) else q_gu ((vp_in x3 (q_len σ (q_ref σ a0 12)))) ((if (q_int (q_si h a0 38 ((1 : Int32) <<< (x3 &&& 31))) (q_ref σ a0 12) (Int32.toNatClampNeg x3)) = (9 : Int32) then (q_b2 (fX5_earnedNow σ (q_si h a0 38 ((1 : Int32) <<< (x3 &&& 31))) a0) fun r4 h4 => (if r4 = x1 then fX5_refuse_59 σ h4 a0 x1 x3 x3 else fX5_refuse_57 σ h4 a0 x1 x3)) else fX5_refuse_57 σ (q_si h a0 38 ((1 : Int32) <<< (x3 &&& 31))) a0 x1 x3))))
noncomputable def fX5_refuse_66 (σ : q_St) (h : q_Hp) (a0 : Nat) (x2 : Int32) : Option (Int32 × q_Hp) := some (x2, (q_si h a0 38 (0 : Int32)))
noncomputable def fX5_refuse (σ : q_St) (h : q_Hp) (a0 : Nat) : Option (Int32 × q_Hp) := q_gu ((q_tag σ (q_ref σ a0 12) = 7)) ((q_b2 (fX5_earnedNow σ (q_si h a0 21 (0 : Int32)) a0) fun r1 h1 => (q_loop (fun s => fX5_refuse_15 σ a0 r1 s.1 s.2.1 s.2.2) q_N ((-4 : Int32), (0 : Int32), h1)).bind fun o2 => fX5_refuse_66 σ o2.2 a0 o2.1))
def cdX5_refuse : q_Cd := [(0, .aload_n 0), (1, .iconst 0), (2, .putfield 89), (5, .aload_n 0), (6, .invokevirtual 278), (9, .istore_n 1), (10, .bipush (-4)), (12, .istore_n 2), (13, .iconst 0), (14, .istore_n 3), (15, .iload_n 3), (16, .aload_n 0), (17, .getfield 100), (20, .if_icmp .ge 46), (23, .iload_n 2), (24, .ifCond .ge 42), (27, .aload_n 0), (28, .iconst 1), (29, .iload_n 3), (30, .ishl), (31, .putfield 246), (34, .aload_n 0), (35, .getfield 40), (38, .iload_n 3), (39, .iaload), (40, .bipush 9), (42, .if_icmp .ne 15), (45, .aload_n 0), (46, .invokevirtual 278), (49, .iload_n 1), (50, .if_icmp .ne 7), (53, .iload_n 3), (54, .goto 5), (57, .bipush (-4)), (59, .istore_n 2), (60, .iinc 3 1), (63, .goto (-48)), (66, .aload_n 0), (67, .iconst 0), (68, .putfield 246), (71, .iload_n 2), (72, .ireturn)]
set_option maxRecDepth 100000 in
theorem cokX5_refuse : q_cok cX5_refuse cdX5_refuse := by unfold q_cok; decide +kernel
set_option maxRecDepth 100000 in
set_option maxHeartbeats 4000000 in
theorem ctX5_refuse {l : Launch} {D : va_G} {cy : Nat → Nat} {b0 : Nat} {σ : q_St} {h : q_Hp} (a0 : Nat) {r : Int32} {h' : q_Hp} (ta0 : q_tag σ a0 = 6) (hf : fX5_refuse σ h a0 = some (r, h')) : q_M l yX5_refuse cX5_refuse 4 (some .int) 6 132 0 0 D cy b0 σ h [.ref a0] (some (.int r)) σ h' := by
  unfold fX5_refuse at hf
  obtain ⟨k0, hf⟩ := q_gu_o hf
  refine q_enter (by decide) (Nat.le_of_ble_eq_true rfl) ?_
  intro p e s m args below meth c C0 hr hlk hnm
  replace C0 : VC p { frames := 6, cells := 0, slots := 0, locals := 132 } s m args meth c D cy b0 4 0 0 RX5 cX5_refuse := C0
  have n15 : ∀ (x1 : Int32) (o : (Int32 × q_Hp)) (s1 : (Int32 × Int32 × q_Hp)), q_loop (fun s => fX5_refuse_15 σ a0 x1 s.1 s.2.1 s.2.2) q_N s1 = some o → V p l e { frames := 6, cells := 0, slots := 0, locals := 132 } s m args below meth c (MQ below (q_Qc D cy b0 (some (.int r)) σ h') args s 0 0 (fun q => b0 ≤ q)) D cy b0 4 0 0 0 0 σ o.2 66 [(0, .ref a0), (2, .int o.1)] [] → V p l e { frames := 6, cells := 0, slots := 0, locals := 132 } s m args below meth c (MQ below (q_Qc D cy b0 (some (.int r)) σ h') args s 0 0 (fun q => b0 ≤ q)) D cy b0 4 0 0 0 0 σ s1.2.2 15 [(0, .ref a0), (1, .int x1), (2, .int s1.1), (3, .int s1.2.1)] [] := by
    intro x1 o s1 ho kx1
    refine q_loop_V (P := fun s0 => V p l e { frames := 6, cells := 0, slots := 0, locals := 132 } s m args below meth c (MQ below (q_Qc D cy b0 (some (.int r)) σ h') args s 0 0 (fun q => b0 ≤ q)) D cy b0 4 0 0 0 0 σ s0.2.2 15 [(0, .ref a0), (1, .int x1), (2, .int s0.1), (3, .int s0.2.1)] []) (o := o) ?_ q_N s1 ho
    intro s2 z1 hf kb1 kr1
    obtain ⟨x2, x3, h⟩ := s2
    replace hf : fX5_refuse_15 σ a0 x1 x2 x3 h = some z1 := hf
    unfold fX5_refuse_15 at hf
    show V p l e { frames := 6, cells := 0, slots := 0, locals := 132 } s m args below meth c (MQ below (q_Qc D cy b0 (some (.int r)) σ h') args s 0 0 (fun q => b0 ≤ q)) D cy b0 4 0 0 0 0 σ h 15 [(0, .ref a0), (1, .int x1), (2, .int x2), (3, .int x3)] []
    have n59 : ∀ (h : q_Hp) (x3 : Int32) (s0 : Int32), fX5_refuse_59 σ h a0 x1 x3 s0 = some z1 → V p l e { frames := 6, cells := 0, slots := 0, locals := 132 } s m args below meth c (MQ below (q_Qc D cy b0 (some (.int r)) σ h') args s 0 0 (fun q => b0 ≤ q)) D cy b0 4 0 0 0 0 σ h 59 [(0, .ref a0), (1, .int x1), (3, .int x3)] [.int s0] := by
      intro h x3 s0 hf
      unfold fX5_refuse_59 at hf
      refine v_run C0 tbX5 cokX5_refuse (pc' := 15) (lv' := [(3, .int (x3 + (1 : Int32))), (2, .int s0), (0, .ref a0), (1, .int x1)]) (st' := []) (h' := h) 3 rfl trivial ?_
      obtain rfl := Option.some.inj hf
      refine v_pick [2, 3, 1, 0] rfl ?_
      exact kb1 _ rfl
    have n57 : ∀ (h : q_Hp) (x3 : Int32), fX5_refuse_57 σ h a0 x1 x3 = some z1 → V p l e { frames := 6, cells := 0, slots := 0, locals := 132 } s m args below meth c (MQ below (q_Qc D cy b0 (some (.int r)) σ h') args s 0 0 (fun q => b0 ≤ q)) D cy b0 4 0 0 0 0 σ h 57 [(0, .ref a0), (1, .int x1), (3, .int x3)] [] := by
      intro h x3 hf
      unfold fX5_refuse_57 at hf
      refine v_run C0 tbX5 cokX5_refuse (pc' := 59) (lv' := [(0, .ref a0), (1, .int x1), (3, .int x3)]) (st' := [.int (-4 : Int32)]) (h' := h) 1 rfl trivial ?_
      refine v_pick [0, 1, 2] rfl ?_
      exact n59 h x3 (-4 : Int32) hf
    refine v_run C0 tbX5 cokX5_refuse (pc' := 20) (lv' := [(0, .ref a0), (1, .int x1), (2, .int x2), (3, .int x3)]) (st' := [.int (q_int h a0 6), .int x3]) (h' := h) 3 rfl ⟨ta0, trivial⟩ ?_
    refine v_icmp_ge C0 cokX5_refuse rfl 66 (by decide) hf (fun _ hf => ?_) (fun _ hf => ?_)
    · obtain rfl := Option.some.inj hf
      refine v_pick [0, 2] rfl ?_
      have hx := kr1 _ rfl
      subst hx
      exact kx1
    · refine v_run C0 tbX5 cokX5_refuse (pc' := 24) (lv' := [(0, .ref a0), (1, .int x1), (2, .int x2), (3, .int x3)]) (st' := [.int x2]) (h' := h) 1 rfl trivial ?_
      refine v_if_ge C0 cokX5_refuse rfl 66 (by decide) hf (fun _ hf => ?_) (fun _ hf => ?_)
      · obtain rfl := Option.some.inj hf
        refine v_pick [0, 2] rfl ?_
        have hx := kr1 _ rfl
        subst hx
        exact kx1
      · obtain ⟨g3, hf⟩ := q_gu_o hf
        refine v_run C0 tbX5 cokX5_refuse (pc' := 42) (lv' := [(0, .ref a0), (1, .int x1), (2, .int x2), (3, .int x3)]) (st' := [.int (9 : Int32), .int (q_int (q_si h a0 38 ((1 : Int32) <<< (x3 &&& 31))) (q_ref σ a0 12) (Int32.toNatClampNeg x3))]) (h' := (q_si h a0 38 ((1 : Int32) <<< (x3 &&& 31)))) 10 rfl ⟨ta0, ⟨ta0, q_tn k0⟩, ⟨k0, g3⟩, trivial⟩ ?_
        refine v_icmp_ne C0 cokX5_refuse rfl 57 (by decide) hf (fun _ hf => ?_) (fun _ hf => ?_)
        · refine v_run C0 tbX5 cokX5_refuse (pc' := 46) (lv' := [(0, .ref a0), (1, .int x1), (2, .int x2), (3, .int x3)]) (st' := [.ref a0]) (h' := (q_si h a0 38 ((1 : Int32) <<< (x3 &&& 31)))) 1 rfl trivial ?_
          obtain ⟨r4, h4, e4, hf⟩ := q_bd2 hf
          refine v_callV C0 cokX5_refuse rfl (rest := []) (ctX5_earnedNow a0 ta0 e4) calX5_earnedNow lkX5_278 inX5_earnedNow dnX5_earnedNow (ci := 5) ⟨rfl, by decide⟩ ta0 rfl rfl ⟨by decide, by decide⟩ (Nat.le_of_ble_eq_true rfl) (Nat.le_refl _) (Nat.le_refl _) ?_
          refine v_run C0 tbX5 cokX5_refuse (pc' := 50) (lv' := [(0, .ref a0), (1, .int x1), (2, .int x2), (3, .int x3)]) (st' := [.int x1, .int r4]) (h' := h4) 1 rfl trivial ?_
          refine v_icmp_ne C0 cokX5_refuse rfl 57 (by decide) hf (fun _ hf => ?_) (fun _ hf => ?_)
          · refine v_run C0 tbX5 cokX5_refuse (pc' := 59) (lv' := [(0, .ref a0), (1, .int x1), (2, .int x2), (3, .int x3)]) (st' := [.int x3]) (h' := h4) 2 rfl trivial ?_
            refine v_pick [0, 1, 3] rfl ?_
            exact n59 h4 x3 x3 hf
          · refine v_pick [0, 1, 3] rfl ?_
            exact n57 h4 x3 hf
        · refine v_pick [0, 1, 3] rfl ?_
          exact n57 (q_si h a0 38 ((1 : Int32) <<< (x3 &&& 31))) x3 hf
  have n66 : ∀ (h : q_Hp) (x2 : Int32), fX5_refuse_66 σ h a0 x2 = some (r, h') → V p l e { frames := 6, cells := 0, slots := 0, locals := 132 } s m args below meth c (MQ below (q_Qc D cy b0 (some (.int r)) σ h') args s 0 0 (fun q => b0 ≤ q)) D cy b0 4 0 0 0 0 σ h 66 [(0, .ref a0), (2, .int x2)] [] := by
    intro h x2 hf
    unfold fX5_refuse_66 at hf
    refine v_run C0 tbX5 cokX5_refuse (pc' := 72) (lv' := [(0, .ref a0), (2, .int x2)]) (st' := [.int x2]) (h' := (q_si h a0 38 (0 : Int32))) 4 rfl ⟨ta0, trivial⟩ ?_
    obtain ⟨rfl, rfl⟩ := Prod.mk.inj (Option.some.inj hf)
    exact v_iret C0 cokX5_refuse hr hlk rfl
  refine v_run C0 tbX5 cokX5_refuse (pc' := 6) (lv' := [(0, .ref a0)]) (st' := [.ref a0]) (h' := (q_si h a0 21 (0 : Int32))) 4 rfl ⟨ta0, trivial⟩ ?_
  obtain ⟨r1, h1, e1, hf⟩ := q_bd2 hf
  refine v_callV C0 cokX5_refuse rfl (rest := []) (ctX5_earnedNow a0 ta0 e1) calX5_earnedNow lkX5_278 inX5_earnedNow dnX5_earnedNow (ci := 5) ⟨rfl, by decide⟩ ta0 rfl rfl ⟨by decide, by decide⟩ (Nat.le_of_ble_eq_true rfl) (Nat.le_refl _) (Nat.le_refl _) ?_
  refine v_run C0 tbX5 cokX5_refuse (pc' := 15) (lv' := [(3, .int (0 : Int32)), (2, .int (-4 : Int32)), (1, .int r1), (0, .ref a0)]) (st' := []) (h' := h1) 5 rfl trivial ?_
  obtain ⟨o2, eo2, hf⟩ := q_bd hf
  refine v_pick [3, 2, 1, 0] rfl ?_
  refine n15 r1 o2 ((-4 : Int32), (0 : Int32), h1) eo2 ?_
  refine v_pick [0, 1] rfl ?_
  exact n66 o2.2 o2.1 hf
