-- BackByNoonOnMonday.at([II)I
noncomputable def fX4_at (σ : q_St) (h : q_Hp) (a0 : Nat) (x1 : Int32) : Option Int32 := (if x1 < 0 then some (0 : Int32) else (if (Int32.ofNat (q_len σ a0)) ≤ x1 then some (0 : Int32) else q_gu ((vp_in x1 (q_len σ a0))) (some (q_int h a0 (Int32.toNatClampNeg x1)))))
def cdX4_at : q_Cd := [(0, .iload_n 1), (1, .ifCond .lt 15), (4, .iload_n 1), (5, .aload_n 0), (6, .arraylength), (7, .if_icmp .ge 9), (10, .aload_n 0), (11, .iload_n 1), (12, .iaload), (13, .goto 4), (16, .iconst 0), (17, .ireturn)]
set_option maxRecDepth 100000 in
theorem cokX4_at : q_cok cX4_at cdX4_at := by unfold q_cok; decide +kernel
set_option maxRecDepth 100000 in
set_option maxHeartbeats 4000000 in
theorem ctX4_at {l : Launch} {D : va_G} {cy : Nat → Nat} {b0 : Nat} {σ : q_St} {h : q_Hp} (a0 : Nat) (x1 : Int32) {r : Int32} (ta0 : q_tag σ a0 = 7) (hf : fX4_at σ h a0 x1 = some r) : q_M l yX4_at cX4_at 2 (some .int) 0 0 0 0 D cy b0 σ h [.ref a0, .int x1] (some (.int r)) σ h := by
  unfold fX4_at at hf
  refine q_enter (by decide) (Nat.le_of_ble_eq_true rfl) ?_
  intro p e s m args below meth c C0 hr hlk hnm
  replace C0 : VC p { frames := 0, cells := 0, slots := 0, locals := 0 } s m args meth c D cy b0 2 0 0 RX4 cX4_at := C0
  refine v_run C0 tbX4 cokX4_at (pc' := 1) (lv' := [(0, .ref a0), (1, .int x1)]) (st' := [.int x1]) (h' := h) 1 rfl trivial ?_
  refine v_if_lt C0 cokX4_at rfl 16 (by decide) hf (fun _ hf => ?_) (fun _ hf => ?_)
  · refine v_run C0 tbX4 cokX4_at (pc' := 17) (lv' := [(0, .ref a0), (1, .int x1)]) (st' := [.int (0 : Int32)]) (h' := h) 1 rfl trivial ?_
    obtain rfl := Option.some.inj hf
    exact v_iret C0 cokX4_at hr hlk rfl
  · refine v_run C0 tbX4 cokX4_at (pc' := 7) (lv' := [(0, .ref a0), (1, .int x1)]) (st' := [.int (Int32.ofNat (q_len σ a0)), .int x1]) (h' := h) 3 rfl ⟨(Or.inl ta0), trivial⟩ ?_
    refine v_icmp_ge C0 cokX4_at rfl 16 (by decide) hf (fun _ hf => ?_) (fun _ hf => ?_)
    · refine v_run C0 tbX4 cokX4_at (pc' := 17) (lv' := [(0, .ref a0), (1, .int x1)]) (st' := [.int (0 : Int32)]) (h' := h) 1 rfl trivial ?_
      obtain rfl := Option.some.inj hf
      exact v_iret C0 cokX4_at hr hlk rfl
    · obtain ⟨g1, hf⟩ := q_gu_o hf
      refine v_run C0 tbX4 cokX4_at (pc' := 17) (lv' := [(0, .ref a0), (1, .int x1)]) (st' := [.int (q_int h a0 (Int32.toNatClampNeg x1))]) (h' := h) 4 rfl ⟨⟨ta0, g1⟩, trivial⟩ ?_
      obtain rfl := Option.some.inj hf
      exact v_iret C0 cokX4_at hr hlk rfl
-- BackByNoonOnMonday$Shop.openBookings()I
noncomputable def fX2_openBookings_33 (σ : q_St) (h : q_Hp) (a0 : Nat) (x2 : Int32) (s0 : Int32) (s1 : Int32) : Option ((Int32 × Int32) ⊕ Int32) := some (Sum.inl ((s1 ||| s0), (x2 + (1 : Int32))))
noncomputable def fX2_openBookings_4 (σ : q_St) (h : q_Hp) (a0 : Nat) (x1 : Int32) (x2 : Int32) : Option ((Int32 × Int32) ⊕ Int32) := (if (q_int h a0 12) ≤ x2 then some (Sum.inr x1) else ((fX4_at σ h (q_ref σ a0 9) x2).bind fun r2 => (if r2 = (9 : Int32) then fX2_openBookings_33 σ h a0 x2 ((1 : Int32) <<< (x2 &&& 31)) x1 else fX2_openBookings_33 σ h a0 x2 (0 : Int32) x1)))
noncomputable def fX2_openBookings (σ : q_St) (h : q_Hp) (a0 : Nat) : Option Int32 := q_gu ((q_tag σ (q_ref σ a0 9) = 7)) ((q_loop (fun s => fX2_openBookings_4 σ h a0 s.1 s.2) q_N ((0 : Int32), (0 : Int32))).bind fun o1 => some o1)
def cdX2_openBookings : q_Cd := [(0, .iconst 0), (1, .istore_n 1), (2, .iconst 0), (3, .istore_n 2), (4, .iload_n 2), (5, .aload_n 0), (6, .getfield 56), (9, .if_icmp .ge 32), (12, .iload_n 1), (13, .aload_n 0), (14, .getfield 42), (17, .iload_n 2), (18, .invokestatic 88), (21, .bipush 9), (23, .if_icmp .ne 9), (26, .iconst 1), (27, .iload_n 2), (28, .ishl), (29, .goto 4), (32, .iconst 0), (33, .ior), (34, .istore_n 1), (35, .iinc 2 1), (38, .goto (-34)), (41, .iload_n 1), (42, .ireturn)]
set_option maxRecDepth 100000 in
theorem cokX2_openBookings : q_cok cX2_openBookings cdX2_openBookings := by unfold q_cok; decide +kernel
set_option maxRecDepth 100000 in
set_option maxHeartbeats 4000000 in
theorem ctX2_openBookings {l : Launch} {D : va_G} {cy : Nat → Nat} {b0 : Nat} {σ : q_St} {h : q_Hp} (a0 : Nat) {r : Int32} (ta0 : q_tag σ a0 = 3) (hf : fX2_openBookings σ h a0 = some r) : q_M l yX2_openBookings cX2_openBookings 3 (some .int) 1 21 0 0 D cy b0 σ h [.ref a0] (some (.int r)) σ h := by
  unfold fX2_openBookings at hf
  obtain ⟨k0, hf⟩ := q_gu_o hf
  refine q_enter (by decide) (Nat.le_of_ble_eq_true rfl) ?_
  intro p e s m args below meth c C0 hr hlk hnm
  replace C0 : VC p { frames := 1, cells := 0, slots := 0, locals := 21 } s m args meth c D cy b0 3 0 0 RX2 cX2_openBookings := C0
  have n4 : ∀ (o : Int32) (s1 : (Int32 × Int32)), q_loop (fun s => fX2_openBookings_4 σ h a0 s.1 s.2) q_N s1 = some o → V p l e { frames := 1, cells := 0, slots := 0, locals := 21 } s m args below meth c (MQ below (q_Qc D cy b0 (some (.int r)) σ h) args s 0 0 (fun q => b0 ≤ q)) D cy b0 3 0 0 0 0 σ h 41 [(1, .int o)] [] → V p l e { frames := 1, cells := 0, slots := 0, locals := 21 } s m args below meth c (MQ below (q_Qc D cy b0 (some (.int r)) σ h) args s 0 0 (fun q => b0 ≤ q)) D cy b0 3 0 0 0 0 σ h 4 [(0, .ref a0), (1, .int s1.1), (2, .int s1.2)] [] := by
    intro o s1 ho kx1
    refine q_loop_V (P := fun s0 => V p l e { frames := 1, cells := 0, slots := 0, locals := 21 } s m args below meth c (MQ below (q_Qc D cy b0 (some (.int r)) σ h) args s 0 0 (fun q => b0 ≤ q)) D cy b0 3 0 0 0 0 σ h 4 [(0, .ref a0), (1, .int s0.1), (2, .int s0.2)] []) (o := o) ?_ q_N s1 ho
    intro s2 z1 hf kb1 kr1
    obtain ⟨x1, x2⟩ := s2
    replace hf : fX2_openBookings_4 σ h a0 x1 x2 = some z1 := hf
    unfold fX2_openBookings_4 at hf
    show V p l e { frames := 1, cells := 0, slots := 0, locals := 21 } s m args below meth c (MQ below (q_Qc D cy b0 (some (.int r)) σ h) args s 0 0 (fun q => b0 ≤ q)) D cy b0 3 0 0 0 0 σ h 4 [(0, .ref a0), (1, .int x1), (2, .int x2)] []
    have n33 : ∀ (x2 : Int32) (s0 : Int32) (s1 : Int32), fX2_openBookings_33 σ h a0 x2 s0 s1 = some z1 → V p l e { frames := 1, cells := 0, slots := 0, locals := 21 } s m args below meth c (MQ below (q_Qc D cy b0 (some (.int r)) σ h) args s 0 0 (fun q => b0 ≤ q)) D cy b0 3 0 0 0 0 σ h 33 [(0, .ref a0), (2, .int x2)] [.int s0, .int s1] := by
      intro x2 s0 s1 hf
      unfold fX2_openBookings_33 at hf
      refine v_run C0 tbX2 cokX2_openBookings (pc' := 4) (lv' := [(2, .int (x2 + (1 : Int32))), (1, .int (s1 ||| s0)), (0, .ref a0)]) (st' := []) (h' := h) 4 rfl trivial ?_
      obtain rfl := Option.some.inj hf
      refine v_pick [2, 1, 0] rfl ?_
      exact kb1 _ rfl
    refine v_run C0 tbX2 cokX2_openBookings (pc' := 9) (lv' := [(0, .ref a0), (1, .int x1), (2, .int x2)]) (st' := [.int (q_int h a0 12), .int x2]) (h' := h) 3 rfl ⟨ta0, trivial⟩ ?_
    refine v_icmp_ge C0 cokX2_openBookings rfl 41 (by decide) hf (fun _ hf => ?_) (fun _ hf => ?_)
    · obtain rfl := Option.some.inj hf
      refine v_pick [1] rfl ?_
      have hx := kr1 _ rfl
      subst hx
      exact kx1
    · refine v_run C0 tbX2 cokX2_openBookings (pc' := 18) (lv' := [(0, .ref a0), (1, .int x1), (2, .int x2)]) (st' := [.int x2, .ref (q_ref σ a0 9), .int x1]) (h' := h) 4 rfl ⟨⟨ta0, q_tn k0⟩, trivial⟩ ?_
      obtain ⟨r2, e2, hf⟩ := q_bd hf
      refine v_callSN C0 cokX2_openBookings rfl (rest := [.int x1]) (ctX4_at (q_ref σ a0 9) x2 k0 e2) calX4_at lkX2_88 inX4_at dnX4_at rfl rfl ⟨by decide, by decide⟩ (Nat.le_of_ble_eq_true rfl) (Nat.le_refl _) (Nat.le_refl _) ?_
      refine v_run C0 tbX2 cokX2_openBookings (pc' := 23) (lv' := [(0, .ref a0), (1, .int x1), (2, .int x2)]) (st' := [.int (9 : Int32), .int r2, .int x1]) (h' := h) 1 rfl trivial ?_
      refine v_icmp_ne C0 cokX2_openBookings rfl 32 (by decide) hf (fun _ hf => ?_) (fun _ hf => ?_)
      · refine v_run C0 tbX2 cokX2_openBookings (pc' := 33) (lv' := [(0, .ref a0), (1, .int x1), (2, .int x2)]) (st' := [.int ((1 : Int32) <<< (x2 &&& 31)), .int x1]) (h' := h) 4 rfl trivial ?_
        refine v_pick [0, 2] rfl ?_
        exact n33 x2 ((1 : Int32) <<< (x2 &&& 31)) x1 hf
      · refine v_run C0 tbX2 cokX2_openBookings (pc' := 33) (lv' := [(0, .ref a0), (1, .int x1), (2, .int x2)]) (st' := [.int (0 : Int32), .int x1]) (h' := h) 1 rfl trivial ?_
        refine v_pick [0, 2] rfl ?_
        exact n33 x2 (0 : Int32) x1 hf
  refine v_run C0 tbX2 cokX2_openBookings (pc' := 4) (lv' := [(2, .int (0 : Int32)), (1, .int (0 : Int32)), (0, .ref a0)]) (st' := []) (h' := h) 4 rfl trivial ?_
  obtain ⟨o1, eo1, hf⟩ := q_bd hf
  refine v_pick [2, 1, 0] rfl ?_
  refine n4 o1 ((0 : Int32), (0 : Int32)) eo1 ?_
  refine v_run C0 tbX2 cokX2_openBookings (pc' := 42) (lv' := [(1, .int o1)]) (st' := [.int o1]) (h' := h) 1 rfl trivial ?_
  obtain rfl := Option.some.inj hf
  exact v_iret C0 cokX2_openBookings hr hlk rfl
-- BackByNoonOnMonday$Shop.suitsThatAre(I)I
noncomputable def fX2_suitsThatAre_32 (σ : q_St) (h : q_Hp) (a0 : Nat) (x1 : Int32) (x3 : Int32) (s0 : Int32) (s1 : Int32) : Option ((Int32 × Int32) ⊕ Int32) := some (Sum.inl ((s1 ||| s0), (x3 + (1 : Int32))))
noncomputable def fX2_suitsThatAre_4 (σ : q_St) (h : q_Hp) (a0 : Nat) (x1 : Int32) (x2 : Int32) (x3 : Int32) : Option ((Int32 × Int32) ⊕ Int32) := (if (q_int h a0 11) ≤ x3 then some (Sum.inr x2) else ((fX4_at σ h (q_ref σ a0 3) x3).bind fun r2 => (if r2 = x1 then fX2_suitsThatAre_32 σ h a0 x1 x3 ((1 : Int32) <<< (x3 &&& 31)) x2 else fX2_suitsThatAre_32 σ h a0 x1 x3 (0 : Int32) x2)))
noncomputable def fX2_suitsThatAre (σ : q_St) (h : q_Hp) (a0 : Nat) (x1 : Int32) : Option Int32 := q_gu ((q_tag σ (q_ref σ a0 3) = 7)) ((q_loop (fun s => fX2_suitsThatAre_4 σ h a0 x1 s.1 s.2) q_N ((0 : Int32), (0 : Int32))).bind fun o1 => some o1)
def cdX2_suitsThatAre : q_Cd := [(0, .iconst 0), (1, .istore_n 2), (2, .iconst 0), (3, .istore_n 3), (4, .iload_n 3), (5, .aload_n 0), (6, .getfield 52), (9, .if_icmp .ge 31), (12, .iload_n 2), (13, .aload_n 0), (14, .getfield 24), (17, .iload_n 3), (18, .invokestatic 88), (21, .iload_n 1), (22, .if_icmp .ne 9), (25, .iconst 1), (26, .iload_n 3), (27, .ishl), (28, .goto 4), (31, .iconst 0), (32, .ior), (33, .istore_n 2), (34, .iinc 3 1), (37, .goto (-33)), (40, .iload_n 2), (41, .ireturn)]
set_option maxRecDepth 100000 in
theorem cokX2_suitsThatAre : q_cok cX2_suitsThatAre cdX2_suitsThatAre := by unfold q_cok; decide +kernel
set_option maxRecDepth 100000 in
set_option maxHeartbeats 4000000 in
theorem ctX2_suitsThatAre {l : Launch} {D : va_G} {cy : Nat → Nat} {b0 : Nat} {σ : q_St} {h : q_Hp} (a0 : Nat) (x1 : Int32) {r : Int32} (ta0 : q_tag σ a0 = 3) (hf : fX2_suitsThatAre σ h a0 x1 = some r) : q_M l yX2_suitsThatAre cX2_suitsThatAre 4 (some .int) 1 21 0 0 D cy b0 σ h [.ref a0, .int x1] (some (.int r)) σ h := by
  unfold fX2_suitsThatAre at hf
  obtain ⟨k0, hf⟩ := q_gu_o hf
  refine q_enter (by decide) (Nat.le_of_ble_eq_true rfl) ?_
  intro p e s m args below meth c C0 hr hlk hnm
  replace C0 : VC p { frames := 1, cells := 0, slots := 0, locals := 21 } s m args meth c D cy b0 4 0 0 RX2 cX2_suitsThatAre := C0
  have n4 : ∀ (o : Int32) (s1 : (Int32 × Int32)), q_loop (fun s => fX2_suitsThatAre_4 σ h a0 x1 s.1 s.2) q_N s1 = some o → V p l e { frames := 1, cells := 0, slots := 0, locals := 21 } s m args below meth c (MQ below (q_Qc D cy b0 (some (.int r)) σ h) args s 0 0 (fun q => b0 ≤ q)) D cy b0 4 0 0 0 0 σ h 40 [(2, .int o)] [] → V p l e { frames := 1, cells := 0, slots := 0, locals := 21 } s m args below meth c (MQ below (q_Qc D cy b0 (some (.int r)) σ h) args s 0 0 (fun q => b0 ≤ q)) D cy b0 4 0 0 0 0 σ h 4 [(0, .ref a0), (1, .int x1), (2, .int s1.1), (3, .int s1.2)] [] := by
    intro o s1 ho kx1
    refine q_loop_V (P := fun s0 => V p l e { frames := 1, cells := 0, slots := 0, locals := 21 } s m args below meth c (MQ below (q_Qc D cy b0 (some (.int r)) σ h) args s 0 0 (fun q => b0 ≤ q)) D cy b0 4 0 0 0 0 σ h 4 [(0, .ref a0), (1, .int x1), (2, .int s0.1), (3, .int s0.2)] []) (o := o) ?_ q_N s1 ho
    intro s2 z1 hf kb1 kr1
    obtain ⟨x2, x3⟩ := s2
    replace hf : fX2_suitsThatAre_4 σ h a0 x1 x2 x3 = some z1 := hf
    unfold fX2_suitsThatAre_4 at hf
    show V p l e { frames := 1, cells := 0, slots := 0, locals := 21 } s m args below meth c (MQ below (q_Qc D cy b0 (some (.int r)) σ h) args s 0 0 (fun q => b0 ≤ q)) D cy b0 4 0 0 0 0 σ h 4 [(0, .ref a0), (1, .int x1), (2, .int x2), (3, .int x3)] []
    have n32 : ∀ (x3 : Int32) (s0 : Int32) (s1 : Int32), fX2_suitsThatAre_32 σ h a0 x1 x3 s0 s1 = some z1 → V p l e { frames := 1, cells := 0, slots := 0, locals := 21 } s m args below meth c (MQ below (q_Qc D cy b0 (some (.int r)) σ h) args s 0 0 (fun q => b0 ≤ q)) D cy b0 4 0 0 0 0 σ h 32 [(0, .ref a0), (1, .int x1), (3, .int x3)] [.int s0, .int s1] := by
      intro x3 s0 s1 hf
      unfold fX2_suitsThatAre_32 at hf
      refine v_run C0 tbX2 cokX2_suitsThatAre (pc' := 4) (lv' := [(3, .int (x3 + (1 : Int32))), (2, .int (s1 ||| s0)), (0, .ref a0), (1, .int x1)]) (st' := []) (h' := h) 4 rfl trivial ?_
      obtain rfl := Option.some.inj hf
      refine v_pick [2, 3, 1, 0] rfl ?_
      exact kb1 _ rfl
    refine v_run C0 tbX2 cokX2_suitsThatAre (pc' := 9) (lv' := [(0, .ref a0), (1, .int x1), (2, .int x2), (3, .int x3)]) (st' := [.int (q_int h a0 11), .int x3]) (h' := h) 3 rfl ⟨ta0, trivial⟩ ?_
    refine v_icmp_ge C0 cokX2_suitsThatAre rfl 40 (by decide) hf (fun _ hf => ?_) (fun _ hf => ?_)
    · obtain rfl := Option.some.inj hf
      refine v_pick [2] rfl ?_
      have hx := kr1 _ rfl
      subst hx
      exact kx1
    · refine v_run C0 tbX2 cokX2_suitsThatAre (pc' := 18) (lv' := [(0, .ref a0), (1, .int x1), (2, .int x2), (3, .int x3)]) (st' := [.int x3, .ref (q_ref σ a0 3), .int x2]) (h' := h) 4 rfl ⟨⟨ta0, q_tn k0⟩, trivial⟩ ?_
      obtain ⟨r2, e2, hf⟩ := q_bd hf
      refine v_callSN C0 cokX2_suitsThatAre rfl (rest := [.int x2]) (ctX4_at (q_ref σ a0 3) x3 k0 e2) calX4_at lkX2_88 inX4_at dnX4_at rfl rfl ⟨by decide, by decide⟩ (Nat.le_of_ble_eq_true rfl) (Nat.le_refl _) (Nat.le_refl _) ?_
      refine v_run C0 tbX2 cokX2_suitsThatAre (pc' := 22) (lv' := [(0, .ref a0), (1, .int x1), (2, .int x2), (3, .int x3)]) (st' := [.int x1, .int r2, .int x2]) (h' := h) 1 rfl trivial ?_
      refine v_icmp_ne C0 cokX2_suitsThatAre rfl 31 (by decide) hf (fun _ hf => ?_) (fun _ hf => ?_)
      · refine v_run C0 tbX2 cokX2_suitsThatAre (pc' := 32) (lv' := [(0, .ref a0), (1, .int x1), (2, .int x2), (3, .int x3)]) (st' := [.int ((1 : Int32) <<< (x3 &&& 31)), .int x2]) (h' := h) 4 rfl trivial ?_
        refine v_pick [0, 1, 3] rfl ?_
        exact n32 x3 ((1 : Int32) <<< (x3 &&& 31)) x2 hf
      · refine v_run C0 tbX2 cokX2_suitsThatAre (pc' := 32) (lv' := [(0, .ref a0), (1, .int x1), (2, .int x2), (3, .int x3)]) (st' := [.int (0 : Int32), .int x2]) (h' := h) 1 rfl trivial ?_
        refine v_pick [0, 1, 3] rfl ?_
        exact n32 x3 (0 : Int32) x2 hf
  refine v_run C0 tbX2 cokX2_suitsThatAre (pc' := 4) (lv' := [(3, .int (0 : Int32)), (2, .int (0 : Int32)), (0, .ref a0), (1, .int x1)]) (st' := []) (h' := h) 4 rfl trivial ?_
  obtain ⟨o1, eo1, hf⟩ := q_bd hf
  refine v_pick [2, 3, 1, 0] rfl ?_
  refine n4 o1 ((0 : Int32), (0 : Int32)) eo1 ?_
  refine v_run C0 tbX2 cokX2_suitsThatAre (pc' := 41) (lv' := [(2, .int o1)]) (st' := [.int o1]) (h' := h) 1 rfl trivial ?_
  obtain rfl := Option.some.inj hf
  exact v_iret C0 cokX2_suitsThatAre hr hlk rfl
-- BackByNoonOnMonday$Shop.kindOf(I)LBackByNoonOnMonday$Suit;
noncomputable def fX2_kindOf (σ : q_St) (h : q_Hp) (a0 : Nat) (x1 : Int32) : Option Nat := q_gu ((q_tag σ (q_ref σ a0 10) = 4) ∧ (q_tag σ (q_ref σ a0 0) = 10)) ((if x1 < 0 then some (q_ref σ a0 10) else (if x1 < (Int32.ofNat (q_len σ (q_ref σ a0 0))) then q_gu ((vp_in x1 (q_len σ (q_ref σ a0 0)))) ((if (q_ref σ (q_ref σ a0 0) (Int32.toNatClampNeg x1)) = 0 then some (q_ref σ a0 10) else some (q_ref σ (q_ref σ a0 0) (Int32.toNatClampNeg x1)))) else some (q_ref σ a0 10))))
def cdX2_kindOf : q_Cd := [(0, .iload_n 1), (1, .ifCond .lt 12), (4, .iload_n 1), (5, .aload_n 0), (6, .getfield 11), (9, .arraylength), (10, .if_icmp .lt 8), (13, .aload_n 0), (14, .getfield 48), (17, .areturn), (18, .aload_n 0), (19, .getfield 11), (22, .iload_n 1), (23, .aaload), (24, .astore_n 2), (25, .aload_n 2), (26, .ifnonnull 10), (29, .aload_n 0), (30, .getfield 48), (33, .goto 4), (36, .aload_n 2), (37, .areturn)]
set_option maxRecDepth 100000 in
theorem cokX2_kindOf : q_cok cX2_kindOf cdX2_kindOf := by unfold q_cok; decide +kernel
set_option maxRecDepth 100000 in
set_option maxHeartbeats 4000000 in
theorem ctX2_kindOf {l : Launch} {D : va_G} {cy : Nat → Nat} {b0 : Nat} {σ : q_St} {h : q_Hp} (a0 : Nat) (x1 : Int32) {r : Nat} (ta0 : q_tag σ a0 = 3) (hf : fX2_kindOf σ h a0 x1 = some r) : q_M l yX2_kindOf cX2_kindOf 3 (some (.object "BackByNoonOnMonday$Suit")) 0 0 0 0 D cy b0 σ h [.ref a0, .int x1] (some (.ref r)) σ h := by
  unfold fX2_kindOf at hf
  obtain ⟨⟨k0, k1⟩, hf⟩ := q_gu_o hf
  refine q_enter (by decide) (Nat.le_of_ble_eq_true rfl) ?_
  intro p e s m args below meth c C0 hr hlk hnm
  replace C0 : VC p { frames := 0, cells := 0, slots := 0, locals := 0 } s m args meth c D cy b0 3 0 0 RX2 cX2_kindOf := C0
  refine v_run C0 tbX2 cokX2_kindOf (pc' := 1) (lv' := [(0, .ref a0), (1, .int x1)]) (st' := [.int x1]) (h' := h) 1 rfl trivial ?_
  refine v_if_lt C0 cokX2_kindOf rfl 13 (by decide) hf (fun _ hf => ?_) (fun _ hf => ?_)
  · refine v_run C0 tbX2 cokX2_kindOf (pc' := 17) (lv' := [(0, .ref a0), (1, .int x1)]) (st' := [.ref (q_ref σ a0 10)]) (h' := h) 2 rfl ⟨⟨ta0, q_tn k0⟩, trivial⟩ ?_
    obtain rfl := Option.some.inj hf
    exact v_aret C0 cokX2_kindOf hr hlk rfl
  · refine v_run C0 tbX2 cokX2_kindOf (pc' := 10) (lv' := [(0, .ref a0), (1, .int x1)]) (st' := [.int (Int32.ofNat (q_len σ (q_ref σ a0 0))), .int x1]) (h' := h) 4 rfl ⟨⟨ta0, q_tn k1⟩, (Or.inr (Or.inr (Or.inr k1))), trivial⟩ ?_
    refine v_icmp_lt C0 cokX2_kindOf rfl 18 (by decide) hf (fun _ hf => ?_) (fun _ hf => ?_)
    · refine v_run C0 tbX2 cokX2_kindOf (pc' := 23) (lv' := [(0, .ref a0), (1, .int x1)]) (st' := [.int x1, .ref (q_ref σ a0 0)]) (h' := h) 3 rfl ⟨⟨ta0, q_tn k1⟩, trivial⟩ ?_
      obtain ⟨g1, hf⟩ := q_gu_o hf
      refine v_aald C0 cokX2_kindOf rfl (Or.inr k1) g1 hf (fun _ hf => ?_) (fun _ hf => ?_)
      · refine v_run C0 tbX2 cokX2_kindOf (pc' := 37) (lv' := [(2, .null), (0, .ref a0), (1, .int x1)]) (st' := [.ref (q_ref σ a0 10)]) (h' := h) 6 rfl ⟨⟨ta0, q_tn k0⟩, trivial⟩ ?_
        obtain rfl := Option.some.inj hf
        exact v_aret C0 cokX2_kindOf hr hlk rfl
      · refine v_run C0 tbX2 cokX2_kindOf (pc' := 37) (lv' := [(2, .ref (q_ref σ (q_ref σ a0 0) (Int32.toNatClampNeg x1))), (0, .ref a0), (1, .int x1)]) (st' := [.ref (q_ref σ (q_ref σ a0 0) (Int32.toNatClampNeg x1))]) (h' := h) 4 rfl trivial ?_
        obtain rfl := Option.some.inj hf
        exact v_aret C0 cokX2_kindOf hr hlk rfl
    · refine v_run C0 tbX2 cokX2_kindOf (pc' := 17) (lv' := [(0, .ref a0), (1, .int x1)]) (st' := [.ref (q_ref σ a0 10)]) (h' := h) 2 rfl ⟨⟨ta0, q_tn k0⟩, trivial⟩ ?_
      obtain rfl := Option.some.inj hf
      exact v_aret C0 cokX2_kindOf hr hlk rfl
-- BackByNoonOnMonday.hasBit(II)Z
noncomputable def fX4_hasBit (σ : q_St) (h : q_Hp) (x0 : Int32) (x1 : Int32) : Option Int32 := (if ((x0 >>> (x1 &&& 31)) &&& (1 : Int32)) = 0 then some (0 : Int32) else some (1 : Int32))
def cdX4_hasBit : q_Cd := [(0, .iload_n 0), (1, .iload_n 1), (2, .ishr), (3, .iconst 1), (4, .iand), (5, .ifCond .eq 7), (8, .iconst 1), (9, .goto 4), (12, .iconst 0), (13, .ireturn)]
set_option maxRecDepth 100000 in
theorem cokX4_hasBit : q_cok cX4_hasBit cdX4_hasBit := by unfold q_cok; decide +kernel
set_option maxRecDepth 100000 in
set_option maxHeartbeats 4000000 in
theorem ctX4_hasBit {l : Launch} {D : va_G} {cy : Nat → Nat} {b0 : Nat} {σ : q_St} {h : q_Hp} (x0 : Int32) (x1 : Int32) {r : Int32} (hf : fX4_hasBit σ h x0 x1 = some r) : q_M l yX4_hasBit cX4_hasBit 2 (some .boolean) 0 0 0 0 D cy b0 σ h [.int x0, .int x1] (some (.int r)) σ h := by
  unfold fX4_hasBit at hf
  refine q_enter (by decide) (Nat.le_of_ble_eq_true rfl) ?_
  intro p e s m args below meth c C0 hr hlk hnm
  replace C0 : VC p { frames := 0, cells := 0, slots := 0, locals := 0 } s m args meth c D cy b0 2 0 0 RX4 cX4_hasBit := C0
  refine v_run C0 tbX4 cokX4_hasBit (pc' := 5) (lv' := [(0, .int x0), (1, .int x1)]) (st' := [.int ((x0 >>> (x1 &&& 31)) &&& (1 : Int32))]) (h' := h) 5 rfl trivial ?_
  refine v_if_eq C0 cokX4_hasBit rfl 12 (by decide) hf (fun _ hf => ?_) (fun _ hf => ?_)
  · refine v_run C0 tbX4 cokX4_hasBit (pc' := 13) (lv' := [(0, .int x0), (1, .int x1)]) (st' := [.int (0 : Int32)]) (h' := h) 1 rfl trivial ?_
    obtain rfl := Option.some.inj hf
    exact v_zret C0 cokX4_hasBit hr hlk rfl (Or.inl rfl)
  · refine v_run C0 tbX4 cokX4_hasBit (pc' := 13) (lv' := [(0, .int x0), (1, .int x1)]) (st' := [.int (1 : Int32)]) (h' := h) 2 rfl trivial ?_
    obtain rfl := Option.some.inj hf
    exact v_zret C0 cokX4_hasBit hr hlk rfl (Or.inr rfl)
-- BackByNoonOnMonday$Shop.reaches(LBackByNoonOnMonday$Suit;II)Z
noncomputable def fX2_reaches (σ : q_St) (h : q_Hp) (a0 : Nat) (a1 : Nat) (x2 : Int32) (x3 : Int32) : Option Int32 := (if (q_int h a1 3) < (x2 - x3) then some (0 : Int32) else (if (q_int h a1 3) < (x3 - x2) then some (0 : Int32) else some (1 : Int32)))
def cdX2_reaches : q_Cd := [(0, .iload_n 2), (1, .iload_n 3), (2, .isub), (3, .aload_n 1), (4, .getfield 113), (7, .if_icmp .gt 17), (10, .iload_n 3), (11, .iload_n 2), (12, .isub), (13, .aload_n 1), (14, .getfield 113), (17, .if_icmp .gt 7), (20, .iconst 1), (21, .goto 4), (24, .iconst 0), (25, .ireturn)]
set_option maxRecDepth 100000 in
theorem cokX2_reaches : q_cok cX2_reaches cdX2_reaches := by unfold q_cok; decide +kernel
set_option maxRecDepth 100000 in
set_option maxHeartbeats 4000000 in
theorem ctX2_reaches {l : Launch} {D : va_G} {cy : Nat → Nat} {b0 : Nat} {σ : q_St} {h : q_Hp} (a0 : Nat) (a1 : Nat) (x2 : Int32) (x3 : Int32) {r : Int32} (ta0 : q_tag σ a0 = 3) (ta1 : q_tag σ a1 = 4) (hf : fX2_reaches σ h a0 a1 x2 x3 = some r) : q_M l yX2_reaches cX2_reaches 4 (some .boolean) 0 0 0 0 D cy b0 σ h [.ref a0, .ref a1, .int x2, .int x3] (some (.int r)) σ h := by
  unfold fX2_reaches at hf
  refine q_enter (by decide) (Nat.le_of_ble_eq_true rfl) ?_
  intro p e s m args below meth c C0 hr hlk hnm
  replace C0 : VC p { frames := 0, cells := 0, slots := 0, locals := 0 } s m args meth c D cy b0 4 0 0 RX2 cX2_reaches := C0
  refine v_run C0 tbX2 cokX2_reaches (pc' := 7) (lv' := [(0, .ref a0), (1, .ref a1), (2, .int x2), (3, .int x3)]) (st' := [.int (q_int h a1 3), .int (x2 - x3)]) (h' := h) 5 rfl ⟨ta1, trivial⟩ ?_
  refine v_icmp_gt C0 cokX2_reaches rfl 24 (by decide) hf (fun _ hf => ?_) (fun _ hf => ?_)
  · refine v_run C0 tbX2 cokX2_reaches (pc' := 25) (lv' := [(0, .ref a0), (1, .ref a1), (2, .int x2), (3, .int x3)]) (st' := [.int (0 : Int32)]) (h' := h) 1 rfl trivial ?_
    obtain rfl := Option.some.inj hf
    exact v_zret C0 cokX2_reaches hr hlk rfl (Or.inl rfl)
  · refine v_run C0 tbX2 cokX2_reaches (pc' := 17) (lv' := [(0, .ref a0), (1, .ref a1), (2, .int x2), (3, .int x3)]) (st' := [.int (q_int h a1 3), .int (x3 - x2)]) (h' := h) 5 rfl ⟨ta1, trivial⟩ ?_
    refine v_icmp_gt C0 cokX2_reaches rfl 24 (by decide) hf (fun _ hf => ?_) (fun _ hf => ?_)
    · refine v_run C0 tbX2 cokX2_reaches (pc' := 25) (lv' := [(0, .ref a0), (1, .ref a1), (2, .int x2), (3, .int x3)]) (st' := [.int (0 : Int32)]) (h' := h) 1 rfl trivial ?_
      obtain rfl := Option.some.inj hf
      exact v_zret C0 cokX2_reaches hr hlk rfl (Or.inl rfl)
    · refine v_run C0 tbX2 cokX2_reaches (pc' := 25) (lv' := [(0, .ref a0), (1, .ref a1), (2, .int x2), (3, .int x3)]) (st' := [.int (1 : Int32)]) (h' := h) 2 rfl trivial ?_
      obtain rfl := Option.some.inj hf
      exact v_zret C0 cokX2_reaches hr hlk rfl (Or.inr rfl)
-- BackByNoonOnMonday$Shop.takers(LBackByNoonOnMonday$Suit;II)I
noncomputable def fX2_takers_50 (σ : q_St) (h : q_Hp) (a0 : Nat) (a1 : Nat) (x2 : Int32) (x3 : Int32) (x5 : Int32) (s0 : Int32) (s1 : Int32) : Option ((Int32 × Int32) ⊕ Int32) := some (Sum.inl ((s1 ||| s0), (x5 + (1 : Int32))))
noncomputable def fX2_takers_6 (σ : q_St) (h : q_Hp) (a0 : Nat) (a1 : Nat) (x2 : Int32) (x3 : Int32) (x4 : Int32) (x5 : Int32) : Option ((Int32 × Int32) ⊕ Int32) := (if (q_int h a0 12) ≤ x5 then some (Sum.inr x4) else ((fX4_at σ h (q_ref σ a0 4) x5).bind fun r2 => ((fX2_reaches σ h a0 a1 x2 (if (20 : Int32) < (r2 + x3) then (20 : Int32) else (r2 + x3))).bind fun r3 => (if r3 = 0 then fX2_takers_50 σ h a0 a1 x2 x3 x5 (0 : Int32) x4 else fX2_takers_50 σ h a0 a1 x2 x3 x5 ((1 : Int32) <<< (x5 &&& 31)) x4))))
noncomputable def fX2_takers (σ : q_St) (h : q_Hp) (a0 : Nat) (a1 : Nat) (x2 : Int32) (x3 : Int32) : Option Int32 := q_gu ((q_tag σ (q_ref σ a0 4) = 7)) ((q_loop (fun s => fX2_takers_6 σ h a0 a1 x2 x3 s.1 s.2) q_N ((0 : Int32), (0 : Int32))).bind fun o1 => some o1)
def cdX2_takers : q_Cd := [(0, .iconst 0), (1, .istore 4), (3, .iconst 0), (4, .istore 5), (6, .iload 5), (8, .aload_n 0), (9, .getfield 56), (12, .if_icmp .ge 47), (15, .iload 4), (17, .aload_n 0), (18, .aload_n 1), (19, .iload_n 2), (20, .aload_n 0), (21, .getfield 27), (24, .iload 5), (26, .invokestatic 88), (29, .iload_n 3), (30, .iadd), (31, .bipush 20), (33, .invokestatic 116), (36, .invokevirtual 109), (39, .ifCond .eq 10), (42, .iconst 1), (43, .iload 5), (45, .ishl), (46, .goto 4), (49, .iconst 0), (50, .ior), (51, .istore 4), (53, .iinc 5 1), (56, .goto (-50)), (59, .iload 4), (61, .ireturn)]
set_option maxRecDepth 100000 in
theorem cokX2_takers : q_cok cX2_takers cdX2_takers := by unfold q_cok; decide +kernel
set_option maxRecDepth 100000 in
set_option maxHeartbeats 4000000 in
theorem ctX2_takers {l : Launch} {D : va_G} {cy : Nat → Nat} {b0 : Nat} {σ : q_St} {h : q_Hp} (a0 : Nat) (a1 : Nat) (x2 : Int32) (x3 : Int32) {r : Int32} (ta0 : q_tag σ a0 = 3) (ta1 : q_tag σ a1 = 4) (hf : fX2_takers σ h a0 a1 x2 x3 = some r) : q_M l yX2_takers cX2_takers 6 (some .int) 1 23 0 0 D cy b0 σ h [.ref a0, .ref a1, .int x2, .int x3] (some (.int r)) σ h := by
  unfold fX2_takers at hf
  obtain ⟨k0, hf⟩ := q_gu_o hf
  refine q_enter (by decide) (Nat.le_of_ble_eq_true rfl) ?_
  intro p e s m args below meth c C0 hr hlk hnm
  replace C0 : VC p { frames := 1, cells := 0, slots := 0, locals := 23 } s m args meth c D cy b0 6 0 0 RX2 cX2_takers := C0
  have n6 : ∀ (o : Int32) (s1 : (Int32 × Int32)), q_loop (fun s => fX2_takers_6 σ h a0 a1 x2 x3 s.1 s.2) q_N s1 = some o → V p l e { frames := 1, cells := 0, slots := 0, locals := 23 } s m args below meth c (MQ below (q_Qc D cy b0 (some (.int r)) σ h) args s 0 0 (fun q => b0 ≤ q)) D cy b0 6 0 0 0 0 σ h 59 [(4, .int o)] [] → V p l e { frames := 1, cells := 0, slots := 0, locals := 23 } s m args below meth c (MQ below (q_Qc D cy b0 (some (.int r)) σ h) args s 0 0 (fun q => b0 ≤ q)) D cy b0 6 0 0 0 0 σ h 6 [(0, .ref a0), (1, .ref a1), (2, .int x2), (3, .int x3), (4, .int s1.1), (5, .int s1.2)] [] := by
    intro o s1 ho kx1
    refine q_loop_V (P := fun s0 => V p l e { frames := 1, cells := 0, slots := 0, locals := 23 } s m args below meth c (MQ below (q_Qc D cy b0 (some (.int r)) σ h) args s 0 0 (fun q => b0 ≤ q)) D cy b0 6 0 0 0 0 σ h 6 [(0, .ref a0), (1, .ref a1), (2, .int x2), (3, .int x3), (4, .int s0.1), (5, .int s0.2)] []) (o := o) ?_ q_N s1 ho
    intro s2 z1 hf kb1 kr1
    obtain ⟨x4, x5⟩ := s2
    replace hf : fX2_takers_6 σ h a0 a1 x2 x3 x4 x5 = some z1 := hf
    unfold fX2_takers_6 at hf
    show V p l e { frames := 1, cells := 0, slots := 0, locals := 23 } s m args below meth c (MQ below (q_Qc D cy b0 (some (.int r)) σ h) args s 0 0 (fun q => b0 ≤ q)) D cy b0 6 0 0 0 0 σ h 6 [(0, .ref a0), (1, .ref a1), (2, .int x2), (3, .int x3), (4, .int x4), (5, .int x5)] []
    have n50 : ∀ (x5 : Int32) (s0 : Int32) (s1 : Int32), fX2_takers_50 σ h a0 a1 x2 x3 x5 s0 s1 = some z1 → V p l e { frames := 1, cells := 0, slots := 0, locals := 23 } s m args below meth c (MQ below (q_Qc D cy b0 (some (.int r)) σ h) args s 0 0 (fun q => b0 ≤ q)) D cy b0 6 0 0 0 0 σ h 50 [(0, .ref a0), (1, .ref a1), (2, .int x2), (3, .int x3), (5, .int x5)] [.int s0, .int s1] := by
      intro x5 s0 s1 hf
      unfold fX2_takers_50 at hf
      refine v_run C0 tbX2 cokX2_takers (pc' := 6) (lv' := [(5, .int (x5 + (1 : Int32))), (4, .int (s1 ||| s0)), (0, .ref a0), (1, .ref a1), (2, .int x2), (3, .int x3)]) (st' := []) (h' := h) 4 rfl trivial ?_
      obtain rfl := Option.some.inj hf
      refine v_pick [2, 3, 4, 5, 1, 0] rfl ?_
      exact kb1 _ rfl
    refine v_run C0 tbX2 cokX2_takers (pc' := 12) (lv' := [(0, .ref a0), (1, .ref a1), (2, .int x2), (3, .int x3), (4, .int x4), (5, .int x5)]) (st' := [.int (q_int h a0 12), .int x5]) (h' := h) 3 rfl ⟨ta0, trivial⟩ ?_
    refine v_icmp_ge C0 cokX2_takers rfl 59 (by decide) hf (fun _ hf => ?_) (fun _ hf => ?_)
    · obtain rfl := Option.some.inj hf
      refine v_pick [4] rfl ?_
      have hx := kr1 _ rfl
      subst hx
      exact kx1
    · refine v_run C0 tbX2 cokX2_takers (pc' := 26) (lv' := [(0, .ref a0), (1, .ref a1), (2, .int x2), (3, .int x3), (4, .int x4), (5, .int x5)]) (st' := [.int x5, .ref (q_ref σ a0 4), .int x2, .ref a1, .ref a0, .int x4]) (h' := h) 7 rfl ⟨⟨ta0, q_tn k0⟩, trivial⟩ ?_
      obtain ⟨r2, e2, hf⟩ := q_bd hf
      refine v_callSN C0 cokX2_takers rfl (rest := [.int x2, .ref a1, .ref a0, .int x4]) (ctX4_at (q_ref σ a0 4) x5 k0 e2) calX4_at lkX2_88 inX4_at dnX4_at rfl rfl ⟨by decide, by decide⟩ (Nat.le_of_ble_eq_true rfl) (Nat.le_refl _) (Nat.le_refl _) ?_
      refine v_run C0 tbX2 cokX2_takers (pc' := 33) (lv' := [(0, .ref a0), (1, .ref a1), (2, .int x2), (3, .int x3), (4, .int x4), (5, .int x5)]) (st' := [.int (20 : Int32), .int (r2 + x3), .int x2, .ref a1, .ref a0, .int x4]) (h' := h) 3 rfl trivial ?_
      refine v_min C0 cokX2_takers rfl (by decide +kernel) (by decide) (by decide) (Nat.le_of_ble_eq_true rfl) ?_
      obtain ⟨r3, e3, hf⟩ := q_bd hf
      refine v_callV C0 cokX2_takers rfl (rest := [.int x4]) (ctX2_reaches a0 a1 x2 (if (20 : Int32) < (r2 + x3) then (20 : Int32) else (r2 + x3)) ta0 ta1 e3) calX2_reaches lkX2_109 inX2_reaches dnX2_reaches (ci := 2) ⟨rfl, by decide⟩ ta0 rfl rfl ⟨by decide, by decide⟩ (Nat.le_of_ble_eq_true rfl) (Nat.le_refl _) (Nat.le_refl _) ?_
      refine v_if_eq C0 cokX2_takers rfl 49 (by decide) hf (fun _ hf => ?_) (fun _ hf => ?_)
      · refine v_run C0 tbX2 cokX2_takers (pc' := 50) (lv' := [(0, .ref a0), (1, .ref a1), (2, .int x2), (3, .int x3), (4, .int x4), (5, .int x5)]) (st' := [.int (0 : Int32), .int x4]) (h' := h) 1 rfl trivial ?_
        refine v_pick [0, 1, 2, 3, 5] rfl ?_
        exact n50 x5 (0 : Int32) x4 hf
      · refine v_run C0 tbX2 cokX2_takers (pc' := 50) (lv' := [(0, .ref a0), (1, .ref a1), (2, .int x2), (3, .int x3), (4, .int x4), (5, .int x5)]) (st' := [.int ((1 : Int32) <<< (x5 &&& 31)), .int x4]) (h' := h) 4 rfl trivial ?_
        refine v_pick [0, 1, 2, 3, 5] rfl ?_
        exact n50 x5 ((1 : Int32) <<< (x5 &&& 31)) x4 hf
  refine v_run C0 tbX2 cokX2_takers (pc' := 6) (lv' := [(5, .int (0 : Int32)), (4, .int (0 : Int32)), (0, .ref a0), (1, .ref a1), (2, .int x2), (3, .int x3)]) (st' := []) (h' := h) 4 rfl trivial ?_
  obtain ⟨o1, eo1, hf⟩ := q_bd hf
  refine v_pick [2, 3, 4, 5, 1, 0] rfl ?_
  refine n6 o1 ((0 : Int32), (0 : Int32)) eo1 ?_
  refine v_run C0 tbX2 cokX2_takers (pc' := 61) (lv' := [(4, .int o1)]) (st' := [.int o1]) (h' := h) 1 rfl trivial ?_
  obtain rfl := Option.some.inj hf
  exact v_iret C0 cokX2_takers hr hlk rfl
-- BackByNoonOnMonday.set([III)V
noncomputable def fX4_set (σ : q_St) (h : q_Hp) (a0 : Nat) (x1 : Int32) (x2 : Int32) : Option q_Hp := (if x1 < 0 then some h else (if (Int32.ofNat (q_len σ a0)) ≤ x1 then some h else q_gu ((vp_in x1 (q_len σ a0))) (some (q_si h a0 (Int32.toNatClampNeg x1) x2))))
def cdX4_set : q_Cd := [(0, .iload_n 1), (1, .ifCond .lt 13), (4, .iload_n 1), (5, .aload_n 0), (6, .arraylength), (7, .if_icmp .ge 7), (10, .aload_n 0), (11, .iload_n 1), (12, .iload_n 2), (13, .iastore), (14, .return_)]
set_option maxRecDepth 100000 in
theorem cokX4_set : q_cok cX4_set cdX4_set := by unfold q_cok; decide +kernel
set_option maxRecDepth 100000 in
set_option maxHeartbeats 4000000 in
theorem ctX4_set {l : Launch} {D : va_G} {cy : Nat → Nat} {b0 : Nat} {σ : q_St} {h : q_Hp} (a0 : Nat) (x1 : Int32) (x2 : Int32) {h' : q_Hp} (ta0 : q_tag σ a0 = 7) (hf : fX4_set σ h a0 x1 x2 = some h') : q_M l yX4_set cX4_set 3 none 0 0 0 0 D cy b0 σ h [.ref a0, .int x1, .int x2] none σ h' := by
  unfold fX4_set at hf
  refine q_enter (by decide) (Nat.le_of_ble_eq_true rfl) ?_
  intro p e s m args below meth c C0 hr hlk hnm
  replace C0 : VC p { frames := 0, cells := 0, slots := 0, locals := 0 } s m args meth c D cy b0 3 0 0 RX4 cX4_set := C0
  refine v_run C0 tbX4 cokX4_set (pc' := 1) (lv' := [(0, .ref a0), (1, .int x1), (2, .int x2)]) (st' := [.int x1]) (h' := h) 1 rfl trivial ?_
  refine v_if_lt C0 cokX4_set rfl 14 (by decide) hf (fun _ hf => ?_) (fun _ hf => ?_)
  · obtain rfl := Option.some.inj hf
    exact v_vret C0 cokX4_set hr hlk rfl
  · refine v_run C0 tbX4 cokX4_set (pc' := 7) (lv' := [(0, .ref a0), (1, .int x1), (2, .int x2)]) (st' := [.int (Int32.ofNat (q_len σ a0)), .int x1]) (h' := h) 3 rfl ⟨(Or.inl ta0), trivial⟩ ?_
    refine v_icmp_ge C0 cokX4_set rfl 14 (by decide) hf (fun _ hf => ?_) (fun _ hf => ?_)
    · obtain rfl := Option.some.inj hf
      exact v_vret C0 cokX4_set hr hlk rfl
    · obtain ⟨g1, hf⟩ := q_gu_o hf
      refine v_run C0 tbX4 cokX4_set (pc' := 14) (lv' := [(0, .ref a0), (1, .int x1), (2, .int x2)]) (st' := []) (h' := (q_si h a0 (Int32.toNatClampNeg x1) x2)) 4 rfl ⟨⟨ta0, g1⟩, trivial⟩ ?_
      obtain rfl := Option.some.inj hf
      exact v_vret C0 cokX4_set hr hlk rfl
-- BackByNoonOnMonday.fill([I[I)V
noncomputable def fX4_fill_2 (σ : q_St) (a0 : Nat) (a1 : Nat) (x2 : Int32) (h : q_Hp) : Option ((Int32 × q_Hp) ⊕ q_Hp) := (if (Int32.ofNat (q_len σ a0)) ≤ x2 then some (Sum.inr h) else (if (Int32.ofNat (q_len σ a1)) ≤ x2 then some (Sum.inr h) else q_gu ((vp_in x2 (q_len σ a0)) ∧ (vp_in x2 (q_len σ a1))) (some (Sum.inl ((x2 + (1 : Int32)), (q_si h a1 (Int32.toNatClampNeg x2) (q_int h a0 (Int32.toNatClampNeg x2))))))))
noncomputable def fX4_fill (σ : q_St) (h : q_Hp) (a0 : Nat) (a1 : Nat) : Option q_Hp := (q_loop (fun s => fX4_fill_2 σ a0 a1 s.1 s.2) q_N ((0 : Int32), h)).bind fun o1 => some o1
def cdX4_fill : q_Cd := [(0, .iconst 0), (1, .istore_n 2), (2, .iload_n 2), (3, .aload_n 0), (4, .arraylength), (5, .if_icmp .ge 21), (8, .iload_n 2), (9, .aload_n 1), (10, .arraylength), (11, .if_icmp .ge 15), (14, .aload_n 1), (15, .iload_n 2), (16, .aload_n 0), (17, .iload_n 2), (18, .iaload), (19, .iastore), (20, .iinc 2 1), (23, .goto (-21)), (26, .return_)]
set_option maxRecDepth 100000 in
theorem cokX4_fill : q_cok cX4_fill cdX4_fill := by unfold q_cok; decide +kernel
set_option maxRecDepth 100000 in
set_option maxHeartbeats 4000000 in
theorem ctX4_fill {l : Launch} {D : va_G} {cy : Nat → Nat} {b0 : Nat} {σ : q_St} {h : q_Hp} (a0 : Nat) (a1 : Nat) {h' : q_Hp} (ta0 : q_tag σ a0 = 7) (ta1 : q_tag σ a1 = 7) (hf : fX4_fill σ h a0 a1 = some h') : q_M l yX4_fill cX4_fill 3 none 0 0 0 0 D cy b0 σ h [.ref a0, .ref a1] none σ h' := by
  unfold fX4_fill at hf
  refine q_enter (by decide) (Nat.le_of_ble_eq_true rfl) ?_
  intro p e s m args below meth c C0 hr hlk hnm
  replace C0 : VC p { frames := 0, cells := 0, slots := 0, locals := 0 } s m args meth c D cy b0 3 0 0 RX4 cX4_fill := C0
  have n2 : ∀ (o : q_Hp) (s1 : (Int32 × q_Hp)), q_loop (fun s => fX4_fill_2 σ a0 a1 s.1 s.2) q_N s1 = some o → V p l e { frames := 0, cells := 0, slots := 0, locals := 0 } s m args below meth c (MQ below (q_Qc D cy b0 none σ h') args s 0 0 (fun q => b0 ≤ q)) D cy b0 3 0 0 0 0 σ o 26 [] [] → V p l e { frames := 0, cells := 0, slots := 0, locals := 0 } s m args below meth c (MQ below (q_Qc D cy b0 none σ h') args s 0 0 (fun q => b0 ≤ q)) D cy b0 3 0 0 0 0 σ s1.2 2 [(0, .ref a0), (1, .ref a1), (2, .int s1.1)] [] := by
    intro o s1 ho kx1
    refine q_loop_V (P := fun s0 => V p l e { frames := 0, cells := 0, slots := 0, locals := 0 } s m args below meth c (MQ below (q_Qc D cy b0 none σ h') args s 0 0 (fun q => b0 ≤ q)) D cy b0 3 0 0 0 0 σ s0.2 2 [(0, .ref a0), (1, .ref a1), (2, .int s0.1)] []) (o := o) ?_ q_N s1 ho
    intro s2 z1 hf kb1 kr1
    obtain ⟨x2, h⟩ := s2
    replace hf : fX4_fill_2 σ a0 a1 x2 h = some z1 := hf
    unfold fX4_fill_2 at hf
    show V p l e { frames := 0, cells := 0, slots := 0, locals := 0 } s m args below meth c (MQ below (q_Qc D cy b0 none σ h') args s 0 0 (fun q => b0 ≤ q)) D cy b0 3 0 0 0 0 σ h 2 [(0, .ref a0), (1, .ref a1), (2, .int x2)] []
    refine v_run C0 tbX4 cokX4_fill (pc' := 5) (lv' := [(0, .ref a0), (1, .ref a1), (2, .int x2)]) (st' := [.int (Int32.ofNat (q_len σ a0)), .int x2]) (h' := h) 3 rfl ⟨(Or.inl ta0), trivial⟩ ?_
    refine v_icmp_ge C0 cokX4_fill rfl 26 (by decide) hf (fun _ hf => ?_) (fun _ hf => ?_)
    · obtain rfl := Option.some.inj hf
      refine v_pick [] rfl ?_
      have hx := kr1 _ rfl
      subst hx
      exact kx1
    · refine v_run C0 tbX4 cokX4_fill (pc' := 11) (lv' := [(0, .ref a0), (1, .ref a1), (2, .int x2)]) (st' := [.int (Int32.ofNat (q_len σ a1)), .int x2]) (h' := h) 3 rfl ⟨(Or.inl ta1), trivial⟩ ?_
      refine v_icmp_ge C0 cokX4_fill rfl 26 (by decide) hf (fun _ hf => ?_) (fun _ hf => ?_)
      · obtain rfl := Option.some.inj hf
        refine v_pick [] rfl ?_
        have hx := kr1 _ rfl
        subst hx
        exact kx1
      · obtain ⟨⟨g2, g3⟩, hf⟩ := q_gu_o hf
        refine v_run C0 tbX4 cokX4_fill (pc' := 2) (lv' := [(2, .int (x2 + (1 : Int32))), (0, .ref a0), (1, .ref a1)]) (st' := []) (h' := (q_si h a1 (Int32.toNatClampNeg x2) (q_int h a0 (Int32.toNatClampNeg x2)))) 8 rfl ⟨⟨ta0, g2⟩, ⟨ta1, g3⟩, trivial⟩ ?_
        obtain rfl := Option.some.inj hf
        refine v_pick [1, 2, 0] rfl ?_
        exact kb1 _ rfl
  refine v_run C0 tbX4 cokX4_fill (pc' := 2) (lv' := [(2, .int (0 : Int32)), (0, .ref a0), (1, .ref a1)]) (st' := []) (h' := h) 2 rfl trivial ?_
  obtain ⟨o1, eo1, hf⟩ := q_bd hf
  refine v_pick [1, 2, 0] rfl ?_
  refine n2 o1 ((0 : Int32), h) eo1 ?_
  obtain rfl := Option.some.inj hf
  exact v_vret C0 cokX4_fill hr hlk rfl
-- BackByNoonOnMonday$Fitting.load(LBackByNoonOnMonday$Shop;)V
noncomputable def fX0_load_103 (σ : q_St) (h : q_Hp) (a0 : Nat) (a1 : Nat) (x2 : Int32) (a3 : Nat) (s0 : Int32) (s1 : Int32) (s2 : Nat) : Option ((Int32 × q_Hp) ⊕ q_Hp) := q_gu ((q_tag σ s2 = 7)) (((fX4_set σ h s2 s1 s0).bind fun h16 => q_gu ((q_tag σ a3 = 4)) (((fX4_set σ h16 (q_ref σ a0 3) x2 (q_int h16 a3 2)).bind fun h18 => some (Sum.inl ((x2 + (1 : Int32)), h18))))))
noncomputable def fX0_load_72 (σ : q_St) (h : q_Hp) (a0 : Nat) (a1 : Nat) (x2 : Int32) (a3 : Nat) (x4 : Int32) (s0 : Int32) (s1 : Int32) (s2 : Nat) : Option ((Int32 × q_Hp) ⊕ q_Hp) := q_gu ((q_tag σ s2 = 7)) (((fX4_set σ h s2 s1 s0).bind fun h11 => ((fX4_hasBit σ h11 (q_int h11 a0 10) x2).bind fun r12 => (if r12 = 0 then fX0_load_103 σ h11 a0 a1 x2 a3 (0 : Int32) x2 (q_ref σ a0 1) else q_gu ((q_tag σ a3 = 4)) (((fX2_takers σ h11 a1 a3 x4 (1 : Int32)).bind fun r14 => fX0_load_103 σ h11 a0 a1 x2 a3 r14 x2 (q_ref σ a0 1)))))))
noncomputable def fX0_load_19 (σ : q_St) (a0 : Nat) (a1 : Nat) (x2 : Int32) (h : q_Hp) : Option ((Int32 × q_Hp) ⊕ q_Hp) := (if (Int32.ofNat (q_len σ (q_ref σ a0 2))) ≤ x2 then some (Sum.inr h) else ((fX2_kindOf σ h a1 x2).bind fun r5 => ((fX4_at σ h (q_ref σ a1 1) x2).bind fun r6 => ((fX4_hasBit σ h (q_int h a0 10) x2).bind fun r7 => (if r7 = 0 then fX0_load_72 σ h a0 a1 x2 r5 r6 (0 : Int32) x2 (q_ref σ a0 0) else q_gu ((q_tag σ r5 = 4)) (((fX2_takers σ h a1 r5 r6 (0 : Int32)).bind fun r9 => fX0_load_72 σ h a0 a1 x2 r5 r6 r9 x2 (q_ref σ a0 0))))))))
noncomputable def fX0_load (σ : q_St) (h : q_Hp) (a0 : Nat) (a1 : Nat) : Option q_Hp := q_gu ((q_tag σ (q_ref σ a0 0) = 7) ∧ (q_tag σ (q_ref σ a0 2) = 7) ∧ (q_tag σ (q_ref σ a1 1) = 7) ∧ (q_tag σ (q_ref σ a0 1) = 7) ∧ (q_tag σ (q_ref σ a0 3) = 7)) (((fX2_openBookings σ h a1).bind fun r1 => ((fX2_suitsThatAre σ (q_si h a0 9 r1) a1 (0 : Int32)).bind fun r2 => (q_loop (fun s => fX0_load_19 σ a0 a1 s.1 s.2) q_N ((0 : Int32), (q_si (q_si h a0 9 r1) a0 10 r2))).bind fun o3 => ((fX4_fill σ o3 (q_ref σ a0 0) (q_ref σ a0 2)).bind fun h4 => some h4))))
def cdX0_load : q_Cd := [(0, .aload_n 0), (1, .aload_n 1), (2, .invokevirtual 46), (5, .putfield 39), (8, .aload_n 0), (9, .aload_n 1), (10, .iconst 0), (11, .invokevirtual 52), (14, .putfield 43), (17, .iconst 0), (18, .istore_n 2), (19, .iload_n 2), (20, .aload_n 0), (21, .getfield 18), (24, .arraylength), (25, .if_icmp .ge 99), (28, .aload_n 1), (29, .iload_n 2), (30, .invokevirtual 56), (33, .astore_n 3), (34, .aload_n 1), (35, .getfield 60), (38, .iload_n 2), (39, .invokestatic 63), (42, .istore 4), (44, .aload_n 0), (45, .getfield 9), (48, .iload_n 2), (49, .aload_n 0), (50, .getfield 43), (53, .iload_n 2), (54, .invokestatic 67), (57, .ifCond .eq 14), (60, .aload_n 1), (61, .aload_n 3), (62, .iload 4), (64, .iconst 0), (65, .invokevirtual 71), (68, .goto 4), (71, .iconst 0), (72, .invokestatic 74), (75, .aload_n 0), (76, .getfield 15), (79, .iload_n 2), (80, .aload_n 0), (81, .getfield 43), (84, .iload_n 2), (85, .invokestatic 67), (88, .ifCond .eq 14), (91, .aload_n 1), (92, .aload_n 3), (93, .iload 4), (95, .iconst 1), (96, .invokevirtual 71), (99, .goto 4), (102, .iconst 0), (103, .invokestatic 74), (106, .aload_n 0), (107, .getfield 21), (110, .iload_n 2), (111, .aload_n 3), (112, .getfield 78), (115, .invokestatic 74), (118, .iinc 2 1), (121, .goto (-102)), (124, .aload_n 0), (125, .getfield 9), (128, .aload_n 0), (129, .getfield 18), (132, .invokestatic 83), (135, .return_)]
set_option maxRecDepth 100000 in
theorem cokX0_load : q_cok cX0_load cdX0_load := by unfold q_cok; decide +kernel
set_option maxRecDepth 100000 in
set_option maxHeartbeats 4000000 in
theorem ctX0_load {l : Launch} {D : va_G} {cy : Nat → Nat} {b0 : Nat} {σ : q_St} {h : q_Hp} (a0 : Nat) (a1 : Nat) {h' : q_Hp} (ta0 : q_tag σ a0 = 1) (ta1 : q_tag σ a1 = 3) (hf : fX0_load σ h a0 a1 = some h') : q_M l yX0_load cX0_load 5 none 2 48 0 0 D cy b0 σ h [.ref a0, .ref a1] none σ h' := by
  unfold fX0_load at hf
  obtain ⟨⟨k0, k1, k2, k3, k4⟩, hf⟩ := q_gu_o hf
  refine q_enter (by decide) (Nat.le_of_ble_eq_true rfl) ?_
  intro p e s m args below meth c C0 hr hlk hnm
  replace C0 : VC p { frames := 2, cells := 0, slots := 0, locals := 48 } s m args meth c D cy b0 5 0 0 RX0 cX0_load := C0
  have n19 : ∀ (o : q_Hp) (s1 : (Int32 × q_Hp)), q_loop (fun s => fX0_load_19 σ a0 a1 s.1 s.2) q_N s1 = some o → V p l e { frames := 2, cells := 0, slots := 0, locals := 48 } s m args below meth c (MQ below (q_Qc D cy b0 none σ h') args s 0 0 (fun q => b0 ≤ q)) D cy b0 5 0 0 0 0 σ o 124 [(0, .ref a0)] [] → V p l e { frames := 2, cells := 0, slots := 0, locals := 48 } s m args below meth c (MQ below (q_Qc D cy b0 none σ h') args s 0 0 (fun q => b0 ≤ q)) D cy b0 5 0 0 0 0 σ s1.2 19 [(0, .ref a0), (1, .ref a1), (2, .int s1.1)] [] := by
    intro o s1 ho kx1
    refine q_loop_V (P := fun s0 => V p l e { frames := 2, cells := 0, slots := 0, locals := 48 } s m args below meth c (MQ below (q_Qc D cy b0 none σ h') args s 0 0 (fun q => b0 ≤ q)) D cy b0 5 0 0 0 0 σ s0.2 19 [(0, .ref a0), (1, .ref a1), (2, .int s0.1)] []) (o := o) ?_ q_N s1 ho
    intro s2 z1 hf kb1 kr1
    obtain ⟨x2, h⟩ := s2
    replace hf : fX0_load_19 σ a0 a1 x2 h = some z1 := hf
    unfold fX0_load_19 at hf
    show V p l e { frames := 2, cells := 0, slots := 0, locals := 48 } s m args below meth c (MQ below (q_Qc D cy b0 none σ h') args s 0 0 (fun q => b0 ≤ q)) D cy b0 5 0 0 0 0 σ h 19 [(0, .ref a0), (1, .ref a1), (2, .int x2)] []
    have n103 : ∀ (h : q_Hp) (x2 : Int32) (a3 : Nat) (s0 : Int32) (s1 : Int32) (s2 : Nat), fX0_load_103 σ h a0 a1 x2 a3 s0 s1 s2 = some z1 → V p l e { frames := 2, cells := 0, slots := 0, locals := 48 } s m args below meth c (MQ below (q_Qc D cy b0 none σ h') args s 0 0 (fun q => b0 ≤ q)) D cy b0 5 0 0 0 0 σ h 103 [(0, .ref a0), (1, .ref a1), (2, .int x2), (3, .ref a3)] [.int s0, .int s1, .ref s2] := by
      intro h x2 a3 s0 s1 s2 hf
      unfold fX0_load_103 at hf
      obtain ⟨g15, hf⟩ := q_gu_o hf
      obtain ⟨h16, e16, hf⟩ := q_bd hf
      refine v_callSN C0 cokX0_load rfl (rest := []) (ctX4_set s2 s1 s0 g15 e16) calX4_set lkX0_74 inX4_set dnX4_set rfl rfl ⟨by decide, by decide⟩ (Nat.le_of_ble_eq_true rfl) (Nat.le_refl _) (Nat.le_refl _) ?_
      obtain ⟨g17, hf⟩ := q_gu_o hf
      refine v_run C0 tbX0 cokX0_load (pc' := 115) (lv' := [(0, .ref a0), (1, .ref a1), (2, .int x2), (3, .ref a3)]) (st' := [.int (q_int h16 a3 2), .int x2, .ref (q_ref σ a0 3)]) (h' := h16) 5 rfl ⟨⟨ta0, q_tn k4⟩, g17, trivial⟩ ?_
      obtain ⟨h18, e18, hf⟩ := q_bd hf
      refine v_callSN C0 cokX0_load rfl (rest := []) (ctX4_set (q_ref σ a0 3) x2 (q_int h16 a3 2) k4 e18) calX4_set lkX0_74 inX4_set dnX4_set rfl rfl ⟨by decide, by decide⟩ (Nat.le_of_ble_eq_true rfl) (Nat.le_refl _) (Nat.le_refl _) ?_
      refine v_run C0 tbX0 cokX0_load (pc' := 19) (lv' := [(2, .int (x2 + (1 : Int32))), (0, .ref a0), (1, .ref a1), (3, .ref a3)]) (st' := []) (h' := h18) 2 rfl trivial ?_
      obtain rfl := Option.some.inj hf
      refine v_pick [1, 2, 0] rfl ?_
      exact kb1 _ rfl
    have n72 : ∀ (h : q_Hp) (x2 : Int32) (a3 : Nat) (x4 : Int32) (s0 : Int32) (s1 : Int32) (s2 : Nat), fX0_load_72 σ h a0 a1 x2 a3 x4 s0 s1 s2 = some z1 → V p l e { frames := 2, cells := 0, slots := 0, locals := 48 } s m args below meth c (MQ below (q_Qc D cy b0 none σ h') args s 0 0 (fun q => b0 ≤ q)) D cy b0 5 0 0 0 0 σ h 72 [(0, .ref a0), (1, .ref a1), (2, .int x2), (3, .ref a3), (4, .int x4)] [.int s0, .int s1, .ref s2] := by
      intro h x2 a3 x4 s0 s1 s2 hf
      unfold fX0_load_72 at hf
      obtain ⟨g10, hf⟩ := q_gu_o hf
      obtain ⟨h11, e11, hf⟩ := q_bd hf
      refine v_callSN C0 cokX0_load rfl (rest := []) (ctX4_set s2 s1 s0 g10 e11) calX4_set lkX0_74 inX4_set dnX4_set rfl rfl ⟨by decide, by decide⟩ (Nat.le_of_ble_eq_true rfl) (Nat.le_refl _) (Nat.le_refl _) ?_
      refine v_run C0 tbX0 cokX0_load (pc' := 85) (lv' := [(0, .ref a0), (1, .ref a1), (2, .int x2), (3, .ref a3), (4, .int x4)]) (st' := [.int x2, .int (q_int h11 a0 10), .int x2, .ref (q_ref σ a0 1)]) (h' := h11) 6 rfl ⟨⟨ta0, q_tn k3⟩, ta0, trivial⟩ ?_
      obtain ⟨r12, e12, hf⟩ := q_bd hf
      refine v_callSN C0 cokX0_load rfl (rest := [.int x2, .ref (q_ref σ a0 1)]) (ctX4_hasBit (q_int h11 a0 10) x2 e12) calX4_hasBit lkX0_67 inX4_hasBit dnX4_hasBit rfl rfl ⟨by decide, by decide⟩ (Nat.le_of_ble_eq_true rfl) (Nat.le_refl _) (Nat.le_refl _) ?_
      refine v_if_eq C0 cokX0_load rfl 102 (by decide) hf (fun _ hf => ?_) (fun _ hf => ?_)
      · refine v_run C0 tbX0 cokX0_load (pc' := 103) (lv' := [(0, .ref a0), (1, .ref a1), (2, .int x2), (3, .ref a3), (4, .int x4)]) (st' := [.int (0 : Int32), .int x2, .ref (q_ref σ a0 1)]) (h' := h11) 1 rfl trivial ?_
        refine v_pick [0, 1, 2, 3] rfl ?_
        exact n103 h11 x2 a3 (0 : Int32) x2 (q_ref σ a0 1) hf
      · refine v_run C0 tbX0 cokX0_load (pc' := 96) (lv' := [(0, .ref a0), (1, .ref a1), (2, .int x2), (3, .ref a3), (4, .int x4)]) (st' := [.int (1 : Int32), .int x4, .ref a3, .ref a1, .int x2, .ref (q_ref σ a0 1)]) (h' := h11) 4 rfl trivial ?_
        obtain ⟨g13, hf⟩ := q_gu_o hf
        obtain ⟨r14, e14, hf⟩ := q_bd hf
        refine v_callV C0 cokX0_load rfl (rest := [.int x2, .ref (q_ref σ a0 1)]) (ctX2_takers a1 a3 x4 (1 : Int32) ta1 g13 e14) calX2_takers lkX0_71 inX2_takers dnX2_takers (ci := 2) ⟨rfl, by decide⟩ ta1 rfl rfl ⟨by decide, by decide⟩ (Nat.le_of_ble_eq_true rfl) (Nat.le_refl _) (Nat.le_refl _) ?_
        refine v_run C0 tbX0 cokX0_load (pc' := 103) (lv' := [(0, .ref a0), (1, .ref a1), (2, .int x2), (3, .ref a3), (4, .int x4)]) (st' := [.int r14, .int x2, .ref (q_ref σ a0 1)]) (h' := h11) 1 rfl trivial ?_
        refine v_pick [0, 1, 2, 3] rfl ?_
        exact n103 h11 x2 a3 r14 x2 (q_ref σ a0 1) hf
    refine v_run C0 tbX0 cokX0_load (pc' := 25) (lv' := [(0, .ref a0), (1, .ref a1), (2, .int x2)]) (st' := [.int (Int32.ofNat (q_len σ (q_ref σ a0 2))), .int x2]) (h' := h) 4 rfl ⟨⟨ta0, q_tn k1⟩, (Or.inl k1), trivial⟩ ?_
    refine v_icmp_ge C0 cokX0_load rfl 124 (by decide) hf (fun _ hf => ?_) (fun _ hf => ?_)
    · obtain rfl := Option.some.inj hf
      refine v_pick [0] rfl ?_
      have hx := kr1 _ rfl
      subst hx
      exact kx1
    · refine v_run C0 tbX0 cokX0_load (pc' := 30) (lv' := [(0, .ref a0), (1, .ref a1), (2, .int x2)]) (st' := [.int x2, .ref a1]) (h' := h) 2 rfl trivial ?_
      obtain ⟨r5, e5, hf⟩ := q_bd hf
      refine v_callV C0 cokX0_load rfl (rest := []) (ctX2_kindOf a1 x2 ta1 e5) calX2_kindOf lkX0_56 inX2_kindOf dnX2_kindOf (ci := 2) ⟨rfl, by decide⟩ ta1 rfl rfl ⟨by decide, by decide⟩ (Nat.le_of_ble_eq_true rfl) (Nat.le_refl _) (Nat.le_refl _) ?_
      refine v_run C0 tbX0 cokX0_load (pc' := 39) (lv' := [(3, .ref r5), (0, .ref a0), (1, .ref a1), (2, .int x2)]) (st' := [.int x2, .ref (q_ref σ a1 1)]) (h' := h) 4 rfl ⟨⟨ta1, q_tn k2⟩, trivial⟩ ?_
      obtain ⟨r6, e6, hf⟩ := q_bd hf
      refine v_callSN C0 cokX0_load rfl (rest := []) (ctX4_at (q_ref σ a1 1) x2 k2 e6) calX4_at lkX0_63 inX4_at dnX4_at rfl rfl ⟨by decide, by decide⟩ (Nat.le_of_ble_eq_true rfl) (Nat.le_refl _) (Nat.le_refl _) ?_
      refine v_run C0 tbX0 cokX0_load (pc' := 54) (lv' := [(4, .int r6), (3, .ref r5), (0, .ref a0), (1, .ref a1), (2, .int x2)]) (st' := [.int x2, .int (q_int h a0 10), .int x2, .ref (q_ref σ a0 0)]) (h' := h) 7 rfl ⟨⟨ta0, q_tn k0⟩, ta0, trivial⟩ ?_
      obtain ⟨r7, e7, hf⟩ := q_bd hf
      refine v_callSN C0 cokX0_load rfl (rest := [.int x2, .ref (q_ref σ a0 0)]) (ctX4_hasBit (q_int h a0 10) x2 e7) calX4_hasBit lkX0_67 inX4_hasBit dnX4_hasBit rfl rfl ⟨by decide, by decide⟩ (Nat.le_of_ble_eq_true rfl) (Nat.le_refl _) (Nat.le_refl _) ?_
      refine v_if_eq C0 cokX0_load rfl 71 (by decide) hf (fun _ hf => ?_) (fun _ hf => ?_)
      · refine v_run C0 tbX0 cokX0_load (pc' := 72) (lv' := [(4, .int r6), (3, .ref r5), (0, .ref a0), (1, .ref a1), (2, .int x2)]) (st' := [.int (0 : Int32), .int x2, .ref (q_ref σ a0 0)]) (h' := h) 1 rfl trivial ?_
        refine v_pick [2, 3, 4, 1, 0] rfl ?_
        exact n72 h x2 r5 r6 (0 : Int32) x2 (q_ref σ a0 0) hf
      · refine v_run C0 tbX0 cokX0_load (pc' := 65) (lv' := [(4, .int r6), (3, .ref r5), (0, .ref a0), (1, .ref a1), (2, .int x2)]) (st' := [.int (0 : Int32), .int r6, .ref r5, .ref a1, .int x2, .ref (q_ref σ a0 0)]) (h' := h) 4 rfl trivial ?_
        obtain ⟨g8, hf⟩ := q_gu_o hf
        obtain ⟨r9, e9, hf⟩ := q_bd hf
        refine v_callV C0 cokX0_load rfl (rest := [.int x2, .ref (q_ref σ a0 0)]) (ctX2_takers a1 r5 r6 (0 : Int32) ta1 g8 e9) calX2_takers lkX0_71 inX2_takers dnX2_takers (ci := 2) ⟨rfl, by decide⟩ ta1 rfl rfl ⟨by decide, by decide⟩ (Nat.le_of_ble_eq_true rfl) (Nat.le_refl _) (Nat.le_refl _) ?_
        refine v_run C0 tbX0 cokX0_load (pc' := 72) (lv' := [(4, .int r6), (3, .ref r5), (0, .ref a0), (1, .ref a1), (2, .int x2)]) (st' := [.int r9, .int x2, .ref (q_ref σ a0 0)]) (h' := h) 1 rfl trivial ?_
        refine v_pick [2, 3, 4, 1, 0] rfl ?_
        exact n72 h x2 r5 r6 r9 x2 (q_ref σ a0 0) hf
  refine v_run C0 tbX0 cokX0_load (pc' := 2) (lv' := [(0, .ref a0), (1, .ref a1)]) (st' := [.ref a1, .ref a0]) (h' := h) 2 rfl trivial ?_
  obtain ⟨r1, e1, hf⟩ := q_bd hf
  refine v_callV C0 cokX0_load rfl (rest := [.ref a0]) (ctX2_openBookings a1 ta1 e1) calX2_openBookings lkX0_46 inX2_openBookings dnX2_openBookings (ci := 2) ⟨rfl, by decide⟩ ta1 rfl rfl ⟨by decide, by decide⟩ (Nat.le_of_ble_eq_true rfl) (Nat.le_refl _) (Nat.le_refl _) ?_
  refine v_run C0 tbX0 cokX0_load (pc' := 11) (lv' := [(0, .ref a0), (1, .ref a1)]) (st' := [.int (0 : Int32), .ref a1, .ref a0]) (h' := (q_si h a0 9 r1)) 4 rfl ⟨ta0, trivial⟩ ?_
  obtain ⟨r2, e2, hf⟩ := q_bd hf
  refine v_callV C0 cokX0_load rfl (rest := [.ref a0]) (ctX2_suitsThatAre a1 (0 : Int32) ta1 e2) calX2_suitsThatAre lkX0_52 inX2_suitsThatAre dnX2_suitsThatAre (ci := 2) ⟨rfl, by decide⟩ ta1 rfl rfl ⟨by decide, by decide⟩ (Nat.le_of_ble_eq_true rfl) (Nat.le_refl _) (Nat.le_refl _) ?_
  refine v_run C0 tbX0 cokX0_load (pc' := 19) (lv' := [(2, .int (0 : Int32)), (0, .ref a0), (1, .ref a1)]) (st' := []) (h' := (q_si (q_si h a0 9 r1) a0 10 r2)) 3 rfl ⟨ta0, trivial⟩ ?_
  obtain ⟨o3, eo3, hf⟩ := q_bd hf
  refine v_pick [1, 2, 0] rfl ?_
  refine n19 o3 ((0 : Int32), (q_si (q_si h a0 9 r1) a0 10 r2)) eo3 ?_
  refine v_run C0 tbX0 cokX0_load (pc' := 132) (lv' := [(0, .ref a0)]) (st' := [.ref (q_ref σ a0 2), .ref (q_ref σ a0 0)]) (h' := o3) 4 rfl ⟨⟨ta0, q_tn k0⟩, ⟨ta0, q_tn k1⟩, trivial⟩ ?_
  obtain ⟨h4, e4, hf⟩ := q_bd hf
  refine v_callSN C0 cokX0_load rfl (rest := []) (ctX4_fill (q_ref σ a0 0) (q_ref σ a0 2) k0 k1 e4) calX4_fill lkX0_83 inX4_fill dnX4_fill rfl rfl ⟨by decide, by decide⟩ (Nat.le_of_ble_eq_true rfl) (Nat.le_refl _) (Nat.le_refl _) ?_
  obtain rfl := Option.some.inj hf
  exact v_vret C0 cokX0_load hr hlk rfl
-- BackByNoonOnMonday$Fitting.lend(LBackByNoonOnMonday$Shop;LBackByNoonOnMonday$Suit;I)V
noncomputable def fX0_lend_12 (σ : q_St) (h : q_Hp) (a0 : Nat) (a1 : Nat) (a2 : Nat) (x3 : Int32) (s0 : Nat) : Option q_Hp := q_gu ((q_tag σ s0 = 4)) (((fX2_takers σ h a1 s0 x3 (0 : Int32)).bind fun r2 => ((fX4_set σ h (q_ref σ a0 2) (7 : Int32) r2).bind fun h3 => ((fX4_set σ h3 (q_ref σ a0 3) (7 : Int32) (q_int h3 s0 2)).bind fun h4 => some h4))))
noncomputable def fX0_lend (σ : q_St) (h : q_Hp) (a0 : Nat) (a1 : Nat) (a2 : Nat) (x3 : Int32) : Option q_Hp := q_gu ((q_tag σ (q_ref σ a0 2) = 7) ∧ (q_tag σ (q_ref σ a0 3) = 7)) (fX0_lend_12 σ h a0 a1 a2 x3 a2)
def cdX0_lend : q_Cd := [(0, .aload_n 2), (1, .ifnonnull 10), (4, .aload_n 1), (5, .getfield 87), (8, .goto 4), (11, .aload_n 2), (12, .astore 4), (14, .aload_n 0), (15, .getfield 18), (18, .bipush 7), (20, .aload_n 1), (21, .aload 4), (23, .iload_n 3), (24, .iconst 0), (25, .invokevirtual 71), (28, .invokestatic 74), (31, .aload_n 0), (32, .getfield 21), (35, .bipush 7), (37, .aload 4), (39, .getfield 78), (42, .invokestatic 74), (45, .return_)]
set_option maxRecDepth 100000 in
theorem cokX0_lend : q_cok cX0_lend cdX0_lend := by unfold q_cok; decide +kernel
set_option maxRecDepth 100000 in
set_option maxHeartbeats 4000000 in
theorem ctX0_lend {l : Launch} {D : va_G} {cy : Nat → Nat} {b0 : Nat} {σ : q_St} {h : q_Hp} (a0 : Nat) (a1 : Nat) (a2 : Nat) (x3 : Int32) {h' : q_Hp} (ta0 : q_tag σ a0 = 1) (ta1 : q_tag σ a1 = 3) (ta2 : q_tag σ a2 = 4) (hf : fX0_lend σ h a0 a1 a2 x3 = some h') : q_M l yX0_lend cX0_lend 5 none 2 48 0 0 D cy b0 σ h [.ref a0, .ref a1, .ref a2, .int x3] none σ h' := by
  unfold fX0_lend at hf
  obtain ⟨⟨k0, k1⟩, hf⟩ := q_gu_o hf
  refine q_enter (by decide) (Nat.le_of_ble_eq_true rfl) ?_
  intro p e s m args below meth c C0 hr hlk hnm
  replace C0 : VC p { frames := 2, cells := 0, slots := 0, locals := 48 } s m args meth c D cy b0 5 0 0 RX0 cX0_lend := C0
  have n12 : ∀ (h : q_Hp) (s0 : Nat), fX0_lend_12 σ h a0 a1 a2 x3 s0 = some h' → V p l e { frames := 2, cells := 0, slots := 0, locals := 48 } s m args below meth c (MQ below (q_Qc D cy b0 none σ h') args s 0 0 (fun q => b0 ≤ q)) D cy b0 5 0 0 0 0 σ h 12 [(0, .ref a0), (1, .ref a1), (3, .int x3)] [.ref s0] := by
    intro h s0 hf
    unfold fX0_lend_12 at hf
    refine v_run C0 tbX0 cokX0_lend (pc' := 25) (lv' := [(4, .ref s0), (0, .ref a0), (1, .ref a1), (3, .int x3)]) (st' := [.int (0 : Int32), .int x3, .ref s0, .ref a1, .int (7 : Int32), .ref (q_ref σ a0 2)]) (h' := h) 8 rfl ⟨⟨ta0, q_tn k0⟩, trivial⟩ ?_
    obtain ⟨g1, hf⟩ := q_gu_o hf
    obtain ⟨r2, e2, hf⟩ := q_bd hf
    refine v_callV C0 cokX0_lend rfl (rest := [.int (7 : Int32), .ref (q_ref σ a0 2)]) (ctX2_takers a1 s0 x3 (0 : Int32) ta1 g1 e2) calX2_takers lkX0_71 inX2_takers dnX2_takers (ci := 2) ⟨rfl, by decide⟩ ta1 rfl rfl ⟨by decide, by decide⟩ (Nat.le_of_ble_eq_true rfl) (Nat.le_refl _) (Nat.le_refl _) ?_
    obtain ⟨h3, e3, hf⟩ := q_bd hf
    refine v_callSN C0 cokX0_lend rfl (rest := []) (ctX4_set (q_ref σ a0 2) (7 : Int32) r2 k0 e3) calX4_set lkX0_74 inX4_set dnX4_set rfl rfl ⟨by decide, by decide⟩ (Nat.le_of_ble_eq_true rfl) (Nat.le_refl _) (Nat.le_refl _) ?_
    refine v_run C0 tbX0 cokX0_lend (pc' := 42) (lv' := [(4, .ref s0), (0, .ref a0), (1, .ref a1), (3, .int x3)]) (st' := [.int (q_int h3 s0 2), .int (7 : Int32), .ref (q_ref σ a0 3)]) (h' := h3) 5 rfl ⟨⟨ta0, q_tn k1⟩, g1, trivial⟩ ?_
    obtain ⟨h4, e4, hf⟩ := q_bd hf
    refine v_callSN C0 cokX0_lend rfl (rest := []) (ctX4_set (q_ref σ a0 3) (7 : Int32) (q_int h3 s0 2) k1 e4) calX4_set lkX0_74 inX4_set dnX4_set rfl rfl ⟨by decide, by decide⟩ (Nat.le_of_ble_eq_true rfl) (Nat.le_refl _) (Nat.le_refl _) ?_
    obtain rfl := Option.some.inj hf
    exact v_vret C0 cokX0_lend hr hlk rfl
  refine v_run C0 tbX0 cokX0_lend (pc' := 12) (lv' := [(0, .ref a0), (1, .ref a1), (2, .ref a2), (3, .int x3)]) (st' := [.ref a2]) (h' := h) 3 rfl trivial ?_
  refine v_pick [0, 1, 3] rfl ?_
  exact n12 h a2 hf
-- BackByNoonOnMonday$Fitting.grow(I)V
noncomputable def fX0_grow_2 (σ : q_St) (a0 : Nat) (x1 : Int32) (x2 : Int32) (h : q_Hp) : Option ((Int32 × q_Hp) ⊕ q_Hp) := (if (Int32.ofNat (q_len σ (q_ref σ a0 2))) ≤ x2 then some (Sum.inr h) else ((fX4_at σ h (q_ref σ a0 0) x2).bind fun r2 => ((fX4_at σ h (q_ref σ a0 1) x2).bind fun r3 => q_gu ((vp_in x2 (q_len σ (q_ref σ a0 2)))) (some (Sum.inl ((x2 + (1 : Int32)), (q_si h (q_ref σ a0 2) (Int32.toNatClampNeg x2) ((r2 &&& (x1 ^^^ (-1 : Int32))) ||| (r3 &&& x1)))))))))
noncomputable def fX0_grow (σ : q_St) (h : q_Hp) (a0 : Nat) (x1 : Int32) : Option q_Hp := q_gu ((q_tag σ (q_ref σ a0 2) = 7) ∧ (q_tag σ (q_ref σ a0 0) = 7) ∧ (q_tag σ (q_ref σ a0 1) = 7)) ((q_loop (fun s => fX0_grow_2 σ a0 x1 s.1 s.2) q_N ((0 : Int32), h)).bind fun o1 => some o1)
def cdX0_grow : q_Cd := [(0, .iconst 0), (1, .istore_n 2), (2, .iload_n 2), (3, .aload_n 0), (4, .getfield 18), (7, .arraylength), (8, .if_icmp .ge 38), (11, .aload_n 0), (12, .getfield 18), (15, .iload_n 2), (16, .aload_n 0), (17, .getfield 9), (20, .iload_n 2), (21, .invokestatic 63), (24, .iload_n 1), (25, .iconst (-1)), (26, .ixor), (27, .iand), (28, .aload_n 0), (29, .getfield 15), (32, .iload_n 2), (33, .invokestatic 63), (36, .iload_n 1), (37, .iand), (38, .ior), (39, .iastore), (40, .iinc 2 1), (43, .goto (-41)), (46, .return_)]
set_option maxRecDepth 100000 in
theorem cokX0_grow : q_cok cX0_grow cdX0_grow := by unfold q_cok; decide +kernel
set_option maxRecDepth 100000 in
set_option maxHeartbeats 4000000 in
theorem ctX0_grow {l : Launch} {D : va_G} {cy : Nat → Nat} {b0 : Nat} {σ : q_St} {h : q_Hp} (a0 : Nat) (x1 : Int32) {h' : q_Hp} (ta0 : q_tag σ a0 = 1) (hf : fX0_grow σ h a0 x1 = some h') : q_M l yX0_grow cX0_grow 3 none 1 21 0 0 D cy b0 σ h [.ref a0, .int x1] none σ h' := by
  unfold fX0_grow at hf
  obtain ⟨⟨k0, k1, k2⟩, hf⟩ := q_gu_o hf
  refine q_enter (by decide) (Nat.le_of_ble_eq_true rfl) ?_
  intro p e s m args below meth c C0 hr hlk hnm
  replace C0 : VC p { frames := 1, cells := 0, slots := 0, locals := 21 } s m args meth c D cy b0 3 0 0 RX0 cX0_grow := C0
  have n2 : ∀ (o : q_Hp) (s1 : (Int32 × q_Hp)), q_loop (fun s => fX0_grow_2 σ a0 x1 s.1 s.2) q_N s1 = some o → V p l e { frames := 1, cells := 0, slots := 0, locals := 21 } s m args below meth c (MQ below (q_Qc D cy b0 none σ h') args s 0 0 (fun q => b0 ≤ q)) D cy b0 3 0 0 0 0 σ o 46 [] [] → V p l e { frames := 1, cells := 0, slots := 0, locals := 21 } s m args below meth c (MQ below (q_Qc D cy b0 none σ h') args s 0 0 (fun q => b0 ≤ q)) D cy b0 3 0 0 0 0 σ s1.2 2 [(0, .ref a0), (1, .int x1), (2, .int s1.1)] [] := by
    intro o s1 ho kx1
    refine q_loop_V (P := fun s0 => V p l e { frames := 1, cells := 0, slots := 0, locals := 21 } s m args below meth c (MQ below (q_Qc D cy b0 none σ h') args s 0 0 (fun q => b0 ≤ q)) D cy b0 3 0 0 0 0 σ s0.2 2 [(0, .ref a0), (1, .int x1), (2, .int s0.1)] []) (o := o) ?_ q_N s1 ho
    intro s2 z1 hf kb1 kr1
    obtain ⟨x2, h⟩ := s2
    replace hf : fX0_grow_2 σ a0 x1 x2 h = some z1 := hf
    unfold fX0_grow_2 at hf
    show V p l e { frames := 1, cells := 0, slots := 0, locals := 21 } s m args below meth c (MQ below (q_Qc D cy b0 none σ h') args s 0 0 (fun q => b0 ≤ q)) D cy b0 3 0 0 0 0 σ h 2 [(0, .ref a0), (1, .int x1), (2, .int x2)] []
    refine v_run C0 tbX0 cokX0_grow (pc' := 8) (lv' := [(0, .ref a0), (1, .int x1), (2, .int x2)]) (st' := [.int (Int32.ofNat (q_len σ (q_ref σ a0 2))), .int x2]) (h' := h) 4 rfl ⟨⟨ta0, q_tn k0⟩, (Or.inl k0), trivial⟩ ?_
    refine v_icmp_ge C0 cokX0_grow rfl 46 (by decide) hf (fun _ hf => ?_) (fun _ hf => ?_)
    · obtain rfl := Option.some.inj hf
      refine v_pick [] rfl ?_
      have hx := kr1 _ rfl
      subst hx
      exact kx1
    · refine v_run C0 tbX0 cokX0_grow (pc' := 21) (lv' := [(0, .ref a0), (1, .int x1), (2, .int x2)]) (st' := [.int x2, .ref (q_ref σ a0 0), .int x2, .ref (q_ref σ a0 2)]) (h' := h) 6 rfl ⟨⟨ta0, q_tn k0⟩, ⟨ta0, q_tn k1⟩, trivial⟩ ?_
      obtain ⟨r2, e2, hf⟩ := q_bd hf
      refine v_callSN C0 cokX0_grow rfl (rest := [.int x2, .ref (q_ref σ a0 2)]) (ctX4_at (q_ref σ a0 0) x2 k1 e2) calX4_at lkX0_63 inX4_at dnX4_at rfl rfl ⟨by decide, by decide⟩ (Nat.le_of_ble_eq_true rfl) (Nat.le_refl _) (Nat.le_refl _) ?_
      refine v_run C0 tbX0 cokX0_grow (pc' := 33) (lv' := [(0, .ref a0), (1, .int x1), (2, .int x2)]) (st' := [.int x2, .ref (q_ref σ a0 1), .int (r2 &&& (x1 ^^^ (-1 : Int32))), .int x2, .ref (q_ref σ a0 2)]) (h' := h) 7 rfl ⟨⟨ta0, q_tn k2⟩, trivial⟩ ?_
      obtain ⟨r3, e3, hf⟩ := q_bd hf
      refine v_callSN C0 cokX0_grow rfl (rest := [.int (r2 &&& (x1 ^^^ (-1 : Int32))), .int x2, .ref (q_ref σ a0 2)]) (ctX4_at (q_ref σ a0 1) x2 k2 e3) calX4_at lkX0_63 inX4_at dnX4_at rfl rfl ⟨by decide, by decide⟩ (Nat.le_of_ble_eq_true rfl) (Nat.le_refl _) (Nat.le_refl _) ?_
      obtain ⟨g4, hf⟩ := q_gu_o hf
      refine v_run C0 tbX0 cokX0_grow (pc' := 2) (lv' := [(2, .int (x2 + (1 : Int32))), (0, .ref a0), (1, .int x1)]) (st' := []) (h' := (q_si h (q_ref σ a0 2) (Int32.toNatClampNeg x2) ((r2 &&& (x1 ^^^ (-1 : Int32))) ||| (r3 &&& x1)))) 6 rfl ⟨⟨k0, g4⟩, trivial⟩ ?_
      obtain rfl := Option.some.inj hf
      refine v_pick [1, 2, 0] rfl ?_
      exact kb1 _ rfl
  refine v_run C0 tbX0 cokX0_grow (pc' := 2) (lv' := [(2, .int (0 : Int32)), (0, .ref a0), (1, .int x1)]) (st' := []) (h' := h) 2 rfl trivial ?_
  obtain ⟨o1, eo1, hf⟩ := q_bd hf
  refine v_pick [1, 2, 0] rfl ?_
  refine n2 o1 ((0 : Int32), h) eo1 ?_
  obtain rfl := Option.some.inj hf
  exact v_vret C0 cokX0_grow hr hlk rfl
-- BackByNoonOnMonday$Shop.groupBits(I)I
noncomputable def fX2_groupBits_32 (σ : q_St) (h : q_Hp) (a0 : Nat) (x1 : Int32) (x3 : Int32) (s0 : Int32) (s1 : Int32) : Option ((Int32 × Int32) ⊕ Int32) := some (Sum.inl ((s1 ||| s0), (x3 + (1 : Int32))))
noncomputable def fX2_groupBits_4 (σ : q_St) (h : q_Hp) (a0 : Nat) (x1 : Int32) (x2 : Int32) (x3 : Int32) : Option ((Int32 × Int32) ⊕ Int32) := (if (q_int h a0 12) ≤ x3 then some (Sum.inr x2) else ((fX4_at σ h (q_ref σ a0 5) x3).bind fun r2 => (if r2 = x1 then fX2_groupBits_32 σ h a0 x1 x3 ((1 : Int32) <<< (x3 &&& 31)) x2 else fX2_groupBits_32 σ h a0 x1 x3 (0 : Int32) x2)))
noncomputable def fX2_groupBits (σ : q_St) (h : q_Hp) (a0 : Nat) (x1 : Int32) : Option Int32 := q_gu ((q_tag σ (q_ref σ a0 5) = 7)) ((q_loop (fun s => fX2_groupBits_4 σ h a0 x1 s.1 s.2) q_N ((0 : Int32), (0 : Int32))).bind fun o1 => some o1)
def cdX2_groupBits : q_Cd := [(0, .iconst 0), (1, .istore_n 2), (2, .iconst 0), (3, .istore_n 3), (4, .iload_n 3), (5, .aload_n 0), (6, .getfield 56), (9, .if_icmp .ge 31), (12, .iload_n 2), (13, .aload_n 0), (14, .getfield 30), (17, .iload_n 3), (18, .invokestatic 88), (21, .iload_n 1), (22, .if_icmp .ne 9), (25, .iconst 1), (26, .iload_n 3), (27, .ishl), (28, .goto 4), (31, .iconst 0), (32, .ior), (33, .istore_n 2), (34, .iinc 3 1), (37, .goto (-33)), (40, .iload_n 2), (41, .ireturn)]
set_option maxRecDepth 100000 in
theorem cokX2_groupBits : q_cok cX2_groupBits cdX2_groupBits := by unfold q_cok; decide +kernel
set_option maxRecDepth 100000 in
set_option maxHeartbeats 4000000 in
theorem ctX2_groupBits {l : Launch} {D : va_G} {cy : Nat → Nat} {b0 : Nat} {σ : q_St} {h : q_Hp} (a0 : Nat) (x1 : Int32) {r : Int32} (ta0 : q_tag σ a0 = 3) (hf : fX2_groupBits σ h a0 x1 = some r) : q_M l yX2_groupBits cX2_groupBits 4 (some .int) 1 21 0 0 D cy b0 σ h [.ref a0, .int x1] (some (.int r)) σ h := by
  unfold fX2_groupBits at hf
  obtain ⟨k0, hf⟩ := q_gu_o hf
  refine q_enter (by decide) (Nat.le_of_ble_eq_true rfl) ?_
  intro p e s m args below meth c C0 hr hlk hnm
  replace C0 : VC p { frames := 1, cells := 0, slots := 0, locals := 21 } s m args meth c D cy b0 4 0 0 RX2 cX2_groupBits := C0
  have n4 : ∀ (o : Int32) (s1 : (Int32 × Int32)), q_loop (fun s => fX2_groupBits_4 σ h a0 x1 s.1 s.2) q_N s1 = some o → V p l e { frames := 1, cells := 0, slots := 0, locals := 21 } s m args below meth c (MQ below (q_Qc D cy b0 (some (.int r)) σ h) args s 0 0 (fun q => b0 ≤ q)) D cy b0 4 0 0 0 0 σ h 40 [(2, .int o)] [] → V p l e { frames := 1, cells := 0, slots := 0, locals := 21 } s m args below meth c (MQ below (q_Qc D cy b0 (some (.int r)) σ h) args s 0 0 (fun q => b0 ≤ q)) D cy b0 4 0 0 0 0 σ h 4 [(0, .ref a0), (1, .int x1), (2, .int s1.1), (3, .int s1.2)] [] := by
    intro o s1 ho kx1
    refine q_loop_V (P := fun s0 => V p l e { frames := 1, cells := 0, slots := 0, locals := 21 } s m args below meth c (MQ below (q_Qc D cy b0 (some (.int r)) σ h) args s 0 0 (fun q => b0 ≤ q)) D cy b0 4 0 0 0 0 σ h 4 [(0, .ref a0), (1, .int x1), (2, .int s0.1), (3, .int s0.2)] []) (o := o) ?_ q_N s1 ho
    intro s2 z1 hf kb1 kr1
    obtain ⟨x2, x3⟩ := s2
    replace hf : fX2_groupBits_4 σ h a0 x1 x2 x3 = some z1 := hf
    unfold fX2_groupBits_4 at hf
    show V p l e { frames := 1, cells := 0, slots := 0, locals := 21 } s m args below meth c (MQ below (q_Qc D cy b0 (some (.int r)) σ h) args s 0 0 (fun q => b0 ≤ q)) D cy b0 4 0 0 0 0 σ h 4 [(0, .ref a0), (1, .int x1), (2, .int x2), (3, .int x3)] []
    have n32 : ∀ (x3 : Int32) (s0 : Int32) (s1 : Int32), fX2_groupBits_32 σ h a0 x1 x3 s0 s1 = some z1 → V p l e { frames := 1, cells := 0, slots := 0, locals := 21 } s m args below meth c (MQ below (q_Qc D cy b0 (some (.int r)) σ h) args s 0 0 (fun q => b0 ≤ q)) D cy b0 4 0 0 0 0 σ h 32 [(0, .ref a0), (1, .int x1), (3, .int x3)] [.int s0, .int s1] := by
      intro x3 s0 s1 hf
      unfold fX2_groupBits_32 at hf
      refine v_run C0 tbX2 cokX2_groupBits (pc' := 4) (lv' := [(3, .int (x3 + (1 : Int32))), (2, .int (s1 ||| s0)), (0, .ref a0), (1, .int x1)]) (st' := []) (h' := h) 4 rfl trivial ?_
      obtain rfl := Option.some.inj hf
      refine v_pick [2, 3, 1, 0] rfl ?_
      exact kb1 _ rfl
    refine v_run C0 tbX2 cokX2_groupBits (pc' := 9) (lv' := [(0, .ref a0), (1, .int x1), (2, .int x2), (3, .int x3)]) (st' := [.int (q_int h a0 12), .int x3]) (h' := h) 3 rfl ⟨ta0, trivial⟩ ?_
    refine v_icmp_ge C0 cokX2_groupBits rfl 40 (by decide) hf (fun _ hf => ?_) (fun _ hf => ?_)
    · obtain rfl := Option.some.inj hf
      refine v_pick [2] rfl ?_
      have hx := kr1 _ rfl
      subst hx
      exact kx1
    · refine v_run C0 tbX2 cokX2_groupBits (pc' := 18) (lv' := [(0, .ref a0), (1, .int x1), (2, .int x2), (3, .int x3)]) (st' := [.int x3, .ref (q_ref σ a0 5), .int x2]) (h' := h) 4 rfl ⟨⟨ta0, q_tn k0⟩, trivial⟩ ?_
      obtain ⟨r2, e2, hf⟩ := q_bd hf
      refine v_callSN C0 cokX2_groupBits rfl (rest := [.int x2]) (ctX4_at (q_ref σ a0 5) x3 k0 e2) calX4_at lkX2_88 inX4_at dnX4_at rfl rfl ⟨by decide, by decide⟩ (Nat.le_of_ble_eq_true rfl) (Nat.le_refl _) (Nat.le_refl _) ?_
      refine v_run C0 tbX2 cokX2_groupBits (pc' := 22) (lv' := [(0, .ref a0), (1, .int x1), (2, .int x2), (3, .int x3)]) (st' := [.int x1, .int r2, .int x2]) (h' := h) 1 rfl trivial ?_
      refine v_icmp_ne C0 cokX2_groupBits rfl 31 (by decide) hf (fun _ hf => ?_) (fun _ hf => ?_)
      · refine v_run C0 tbX2 cokX2_groupBits (pc' := 32) (lv' := [(0, .ref a0), (1, .int x1), (2, .int x2), (3, .int x3)]) (st' := [.int ((1 : Int32) <<< (x3 &&& 31)), .int x2]) (h' := h) 4 rfl trivial ?_
        refine v_pick [0, 1, 3] rfl ?_
        exact n32 x3 ((1 : Int32) <<< (x3 &&& 31)) x2 hf
      · refine v_run C0 tbX2 cokX2_groupBits (pc' := 32) (lv' := [(0, .ref a0), (1, .int x1), (2, .int x2), (3, .int x3)]) (st' := [.int (0 : Int32), .int x2]) (h' := h) 1 rfl trivial ?_
        refine v_pick [0, 1, 3] rfl ?_
        exact n32 x3 (0 : Int32) x2 hf
  refine v_run C0 tbX2 cokX2_groupBits (pc' := 4) (lv' := [(3, .int (0 : Int32)), (2, .int (0 : Int32)), (0, .ref a0), (1, .int x1)]) (st' := []) (h' := h) 4 rfl trivial ?_
  obtain ⟨o1, eo1, hf⟩ := q_bd hf
  refine v_pick [2, 3, 1, 0] rfl ?_
  refine n4 o1 ((0 : Int32), (0 : Int32)) eo1 ?_
  refine v_run C0 tbX2 cokX2_groupBits (pc' := 41) (lv' := [(2, .int o1)]) (st' := [.int o1]) (h' := h) 1 rfl trivial ?_
  obtain rfl := Option.some.inj hf
  exact v_iret C0 cokX2_groupBits hr hlk rfl
-- BackByNoonOnMonday$Fitting.dress(LBackByNoonOnMonday$Shop;I)Z
noncomputable def fX0_dress_86 (σ : q_St) (h : q_Hp) (a0 : Nat) (a1 : Nat) (x2 : Int32) (x3 : Int32) (x4 : Int32) (x5 : Int32) (x6 : Int32) (x7 : Int32) : Option ((Int32 × Int32 × q_Hp) ⊕ (Int32 × q_Hp)) := ((fX4_at σ h (q_ref σ a0 2) x7).bind fun r9 => some (Sum.inl ((x6 ||| (r9 &&& x4)), (x7 + (1 : Int32)), h)))
noncomputable def fX0_dress_48 (σ : q_St) (a0 : Nat) (a1 : Nat) (x2 : Int32) (x3 : Int32) (x4 : Int32) (x5 : Int32) (x6 : Int32) (x7 : Int32) (h : q_Hp) : Option ((Int32 × Int32 × q_Hp) ⊕ (Int32 × q_Hp)) := (if (Int32.ofNat (q_len σ (q_ref σ a0 2))) ≤ x7 then some (Sum.inr (x6, h)) else ((fX2_kindOf σ h a1 x7).bind fun r6 => q_gu ((q_tag σ r6 = 4)) ((if (q_int h r6 0) = x5 then fX0_dress_86 σ h a0 a1 x2 x3 x4 x5 x6 x7 else q_gu ((vp_in x7 (q_len σ (q_ref σ a0 2)))) (fX0_dress_86 σ (q_si h (q_ref σ a0 2) (Int32.toNatClampNeg x7) ((q_int h (q_ref σ a0 2) (Int32.toNatClampNeg x7)) &&& (x4 ^^^ (-1 : Int32)))) a0 a1 x2 x3 x4 x5 x6 x7)))))
noncomputable def fX0_dress_121 (σ : q_St) (h : q_Hp) (a0 : Nat) (a1 : Nat) (x2 : Int32) (x3 : Int32) : Option ((Int32 × q_Hp) ⊕ (q_Hp ⊕ (Int32 × q_Hp))) := some (Sum.inl ((x3 + (1 : Int32)), h))
noncomputable def fX0_dress_13 (σ : q_St) (a0 : Nat) (a1 : Nat) (x2 : Int32) (x3 : Int32) (h : q_Hp) : Option ((Int32 × q_Hp) ⊕ (q_Hp ⊕ (Int32 × q_Hp))) := (if (3 : Int32) < x3 then some (Sum.inr (Sum.inl h)) else ((fX2_groupBits σ h a1 x3).bind fun r4 => (q_loop (fun s => fX0_dress_48 σ a0 a1 x2 x3 (r4 &&& (q_int h a0 9)) ((x2 >>> (((3 : Int32) * (x3 - (1 : Int32))) &&& 31)) &&& (7 : Int32)) s.1 s.2.1 s.2.2) q_N ((0 : Int32), (0 : Int32), h)).bind fun o5 => (if o5.1 = 0 then (if ((x2 >>> (((3 : Int32) * (x3 - (1 : Int32))) &&& 31)) &&& (7 : Int32)) = 0 then fX0_dress_121 σ o5.2 a0 a1 x2 x3 else some (Sum.inr (Sum.inr ((0 : Int32), o5.2)))) else fX0_dress_121 σ o5.2 a0 a1 x2 x3)))
noncomputable def fX0_dress (σ : q_St) (h : q_Hp) (a0 : Nat) (a1 : Nat) (x2 : Int32) : Option (Int32 × q_Hp) := q_gu ((q_tag σ (q_ref σ a0 0) = 7) ∧ (q_tag σ (q_ref σ a0 2) = 7)) (((fX4_fill σ h (q_ref σ a0 0) (q_ref σ a0 2)).bind fun h1 => (q_loop (fun s => fX0_dress_13 σ a0 a1 x2 s.1 s.2) q_N ((1 : Int32), h1)).bind fun o2 => q_el o2 fun w3 => some ((1 : Int32), w3)))
def cdX0_dress : q_Cd := [(0, .aload_n 0), (1, .getfield 9), (4, .aload_n 0), (5, .getfield 18), (8, .invokestatic 83), (11, .iconst 1), (12, .istore_n 3), (13, .iload_n 3), (14, .iconst 3), (15, .if_icmp .gt 112), (18, .aload_n 1), (19, .iload_n 3), (20, .invokevirtual 91), (23, .aload_n 0), (24, .getfield 39), (27, .iand), (28, .istore 4), (30, .iload_n 2), (31, .iconst 3), (32, .iload_n 3), (33, .iconst 1), (34, .isub), (35, .imul), (36, .ishr), (37, .bipush 7), (39, .iand), (40, .istore 5), (42, .iconst 0), (43, .istore 6), (45, .iconst 0), (46, .istore 7), (48, .iload 7), (50, .aload_n 0), (51, .getfield 18), (54, .arraylength), (55, .if_icmp .ge 54), (58, .aload_n 1), (59, .iload 7), (61, .invokevirtual 56), (64, .getfield 94), (67, .iload 5), (69, .if_icmp .eq 17), (72, .aload_n 0), (73, .getfield 18), (76, .iload 7), (78, .dup2), (79, .iaload), (80, .iload 4), (82, .iconst (-1)), (83, .ixor), (84, .iand), (85, .iastore), (86, .iload 6), (88, .aload_n 0), (89, .getfield 18), (92, .iload 7), (94, .invokestatic 63), (97, .iload 4), (99, .iand), (100, .ior), (101, .istore 6), (103, .iinc 7 1), (106, .goto (-58)), (109, .iload 6), (111, .ifCond .ne 10), (114, .iload 5), (116, .ifCond .eq 5), (119, .iconst 0), (120, .ireturn), (121, .iinc 3 1), (124, .goto (-111)), (127, .iconst 1), (128, .ireturn)]
set_option maxRecDepth 100000 in
theorem cokX0_dress : q_cok cX0_dress cdX0_dress := by unfold q_cok; decide +kernel
set_option maxRecDepth 100000 in
set_option maxHeartbeats 4000000 in
theorem ctX0_dress {l : Launch} {D : va_G} {cy : Nat → Nat} {b0 : Nat} {σ : q_St} {h : q_Hp} (a0 : Nat) (a1 : Nat) (x2 : Int32) {r : Int32} {h' : q_Hp} (ta0 : q_tag σ a0 = 1) (ta1 : q_tag σ a1 = 3) (hf : fX0_dress σ h a0 a1 x2 = some (r, h')) : q_M l yX0_dress cX0_dress 8 (some .boolean) 2 44 0 0 D cy b0 σ h [.ref a0, .ref a1, .int x2] (some (.int r)) σ h' := by
  unfold fX0_dress at hf
  obtain ⟨⟨k0, k1⟩, hf⟩ := q_gu_o hf
  refine q_enter (by decide) (Nat.le_of_ble_eq_true rfl) ?_
  intro p e s m args below meth c C0 hr hlk hnm
  replace C0 : VC p { frames := 2, cells := 0, slots := 0, locals := 44 } s m args meth c D cy b0 8 0 0 RX0 cX0_dress := C0
  have n13 : ∀ (o : (q_Hp ⊕ (Int32 × q_Hp))) (s1 : (Int32 × q_Hp)), q_loop (fun s => fX0_dress_13 σ a0 a1 x2 s.1 s.2) q_N s1 = some o → (∀ w0 : q_Hp, Sum.inl w0 = o → V p l e { frames := 2, cells := 0, slots := 0, locals := 44 } s m args below meth c (MQ below (q_Qc D cy b0 (some (.int r)) σ h') args s 0 0 (fun q => b0 ≤ q)) D cy b0 8 0 0 0 0 σ w0 127 [] []) → (∀ r0 : (Int32 × q_Hp), Sum.inr r0 = o → (some r0 : Option (Int32 × q_Hp)) = some (r, h')) → V p l e { frames := 2, cells := 0, slots := 0, locals := 44 } s m args below meth c (MQ below (q_Qc D cy b0 (some (.int r)) σ h') args s 0 0 (fun q => b0 ≤ q)) D cy b0 8 0 0 0 0 σ s1.2 13 [(0, .ref a0), (1, .ref a1), (2, .int x2), (3, .int s1.1)] [] := by
    intro o s1 ho kx1 ke1
    refine q_loop_V (P := fun s0 => V p l e { frames := 2, cells := 0, slots := 0, locals := 44 } s m args below meth c (MQ below (q_Qc D cy b0 (some (.int r)) σ h') args s 0 0 (fun q => b0 ≤ q)) D cy b0 8 0 0 0 0 σ s0.2 13 [(0, .ref a0), (1, .ref a1), (2, .int x2), (3, .int s0.1)] []) (o := o) ?_ q_N s1 ho
    intro s2 z1 hf kb1 kr1
    obtain ⟨x3, h⟩ := s2
    replace hf : fX0_dress_13 σ a0 a1 x2 x3 h = some z1 := hf
    unfold fX0_dress_13 at hf
    show V p l e { frames := 2, cells := 0, slots := 0, locals := 44 } s m args below meth c (MQ below (q_Qc D cy b0 (some (.int r)) σ h') args s 0 0 (fun q => b0 ≤ q)) D cy b0 8 0 0 0 0 σ h 13 [(0, .ref a0), (1, .ref a1), (2, .int x2), (3, .int x3)] []
    have n48 : ∀ (x3 : Int32) (x4 : Int32) (x5 : Int32) (o : (Int32 × q_Hp)) (s1 : (Int32 × Int32 × q_Hp)), q_loop (fun s => fX0_dress_48 σ a0 a1 x2 x3 x4 x5 s.1 s.2.1 s.2.2) q_N s1 = some o → V p l e { frames := 2, cells := 0, slots := 0, locals := 44 } s m args below meth c (MQ below (q_Qc D cy b0 (some (.int r)) σ h') args s 0 0 (fun q => b0 ≤ q)) D cy b0 8 0 0 0 0 σ o.2 109 [(0, .ref a0), (1, .ref a1), (2, .int x2), (3, .int x3), (5, .int x5), (6, .int o.1)] [] → V p l e { frames := 2, cells := 0, slots := 0, locals := 44 } s m args below meth c (MQ below (q_Qc D cy b0 (some (.int r)) σ h') args s 0 0 (fun q => b0 ≤ q)) D cy b0 8 0 0 0 0 σ s1.2.2 48 [(0, .ref a0), (1, .ref a1), (2, .int x2), (3, .int x3), (4, .int x4), (5, .int x5), (6, .int s1.1), (7, .int s1.2.1)] [] := by
      intro x3 x4 x5 o s1 ho kx2
      refine q_loop_V (P := fun s0 => V p l e { frames := 2, cells := 0, slots := 0, locals := 44 } s m args below meth c (MQ below (q_Qc D cy b0 (some (.int r)) σ h') args s 0 0 (fun q => b0 ≤ q)) D cy b0 8 0 0 0 0 σ s0.2.2 48 [(0, .ref a0), (1, .ref a1), (2, .int x2), (3, .int x3), (4, .int x4), (5, .int x5), (6, .int s0.1), (7, .int s0.2.1)] []) (o := o) ?_ q_N s1 ho
      intro s2 z2 hf kb2 kr2
      obtain ⟨x6, x7, h⟩ := s2
      replace hf : fX0_dress_48 σ a0 a1 x2 x3 x4 x5 x6 x7 h = some z2 := hf
      unfold fX0_dress_48 at hf
      show V p l e { frames := 2, cells := 0, slots := 0, locals := 44 } s m args below meth c (MQ below (q_Qc D cy b0 (some (.int r)) σ h') args s 0 0 (fun q => b0 ≤ q)) D cy b0 8 0 0 0 0 σ h 48 [(0, .ref a0), (1, .ref a1), (2, .int x2), (3, .int x3), (4, .int x4), (5, .int x5), (6, .int x6), (7, .int x7)] []
      have n86 : ∀ (h : q_Hp) (x6 : Int32) (x7 : Int32), fX0_dress_86 σ h a0 a1 x2 x3 x4 x5 x6 x7 = some z2 → V p l e { frames := 2, cells := 0, slots := 0, locals := 44 } s m args below meth c (MQ below (q_Qc D cy b0 (some (.int r)) σ h') args s 0 0 (fun q => b0 ≤ q)) D cy b0 8 0 0 0 0 σ h 86 [(0, .ref a0), (1, .ref a1), (2, .int x2), (3, .int x3), (4, .int x4), (5, .int x5), (6, .int x6), (7, .int x7)] [] := by
        intro h x6 x7 hf
        unfold fX0_dress_86 at hf
        refine v_run C0 tbX0 cokX0_dress (pc' := 94) (lv' := [(0, .ref a0), (1, .ref a1), (2, .int x2), (3, .int x3), (4, .int x4), (5, .int x5), (6, .int x6), (7, .int x7)]) (st' := [.int x7, .ref (q_ref σ a0 2), .int x6]) (h' := h) 4 rfl ⟨⟨ta0, q_tn k1⟩, trivial⟩ ?_
        obtain ⟨r9, e9, hf⟩ := q_bd hf
        refine v_callSN C0 cokX0_dress rfl (rest := [.int x6]) (ctX4_at (q_ref σ a0 2) x7 k1 e9) calX4_at lkX0_63 inX4_at dnX4_at rfl rfl ⟨by decide, by decide⟩ (Nat.le_of_ble_eq_true rfl) (Nat.le_refl _) (Nat.le_refl _) ?_
        refine v_run C0 tbX0 cokX0_dress (pc' := 48) (lv' := [(7, .int (x7 + (1 : Int32))), (6, .int (x6 ||| (r9 &&& x4))), (0, .ref a0), (1, .ref a1), (2, .int x2), (3, .int x3), (4, .int x4), (5, .int x5)]) (st' := []) (h' := h) 6 rfl trivial ?_
        obtain rfl := Option.some.inj hf
        refine v_pick [2, 3, 4, 5, 6, 7, 1, 0] rfl ?_
        exact kb2 _ rfl
      refine v_run C0 tbX0 cokX0_dress (pc' := 55) (lv' := [(0, .ref a0), (1, .ref a1), (2, .int x2), (3, .int x3), (4, .int x4), (5, .int x5), (6, .int x6), (7, .int x7)]) (st' := [.int (Int32.ofNat (q_len σ (q_ref σ a0 2))), .int x7]) (h' := h) 4 rfl ⟨⟨ta0, q_tn k1⟩, (Or.inl k1), trivial⟩ ?_
      refine v_icmp_ge C0 cokX0_dress rfl 109 (by decide) hf (fun _ hf => ?_) (fun _ hf => ?_)
      · obtain rfl := Option.some.inj hf
        refine v_pick [0, 1, 2, 3, 5, 6] rfl ?_
        have hx := kr2 _ rfl
        subst hx
        exact kx2
      · refine v_run C0 tbX0 cokX0_dress (pc' := 61) (lv' := [(0, .ref a0), (1, .ref a1), (2, .int x2), (3, .int x3), (4, .int x4), (5, .int x5), (6, .int x6), (7, .int x7)]) (st' := [.int x7, .ref a1]) (h' := h) 2 rfl trivial ?_
        obtain ⟨r6, e6, hf⟩ := q_bd hf
        refine v_callV C0 cokX0_dress rfl (rest := []) (ctX2_kindOf a1 x7 ta1 e6) calX2_kindOf lkX0_56 inX2_kindOf dnX2_kindOf (ci := 2) ⟨rfl, by decide⟩ ta1 rfl rfl ⟨by decide, by decide⟩ (Nat.le_of_ble_eq_true rfl) (Nat.le_refl _) (Nat.le_refl _) ?_
        obtain ⟨g7, hf⟩ := q_gu_o hf
        refine v_run C0 tbX0 cokX0_dress (pc' := 69) (lv' := [(0, .ref a0), (1, .ref a1), (2, .int x2), (3, .int x3), (4, .int x4), (5, .int x5), (6, .int x6), (7, .int x7)]) (st' := [.int x5, .int (q_int h r6 0)]) (h' := h) 2 rfl ⟨g7, trivial⟩ ?_
        refine v_icmp_eq C0 cokX0_dress rfl 86 (by decide) hf (fun _ hf => ?_) (fun _ hf => ?_)
        · refine v_pick [0, 1, 2, 3, 4, 5, 6, 7] rfl ?_
          exact n86 h x6 x7 hf
        · obtain ⟨g8, hf⟩ := q_gu_o hf
          refine v_run C0 tbX0 cokX0_dress (pc' := 86) (lv' := [(0, .ref a0), (1, .ref a1), (2, .int x2), (3, .int x3), (4, .int x4), (5, .int x5), (6, .int x6), (7, .int x7)]) (st' := []) (h' := (q_si h (q_ref σ a0 2) (Int32.toNatClampNeg x7) ((q_int h (q_ref σ a0 2) (Int32.toNatClampNeg x7)) &&& (x4 ^^^ (-1 : Int32))))) 10 rfl ⟨⟨ta0, q_tn k1⟩, ⟨k1, g8⟩, ⟨k1, g8⟩, trivial⟩ ?_
          refine v_pick [0, 1, 2, 3, 4, 5, 6, 7] rfl ?_
          exact n86 (q_si h (q_ref σ a0 2) (Int32.toNatClampNeg x7) ((q_int h (q_ref σ a0 2) (Int32.toNatClampNeg x7)) &&& (x4 ^^^ (-1 : Int32)))) x6 x7 hf
    have n121 : ∀ (h : q_Hp) (x3 : Int32), fX0_dress_121 σ h a0 a1 x2 x3 = some z1 → V p l e { frames := 2, cells := 0, slots := 0, locals := 44 } s m args below meth c (MQ below (q_Qc D cy b0 (some (.int r)) σ h') args s 0 0 (fun q => b0 ≤ q)) D cy b0 8 0 0 0 0 σ h 121 [(0, .ref a0), (1, .ref a1), (2, .int x2), (3, .int x3)] [] := by
      intro h x3 hf
      unfold fX0_dress_121 at hf
      refine v_run C0 tbX0 cokX0_dress (pc' := 13) (lv' := [(3, .int (x3 + (1 : Int32))), (0, .ref a0), (1, .ref a1), (2, .int x2)]) (st' := []) (h' := h) 2 rfl trivial ?_
      obtain rfl := Option.some.inj hf
      refine v_pick [1, 2, 3, 0] rfl ?_
      exact kb1 _ rfl
    refine v_run C0 tbX0 cokX0_dress (pc' := 15) (lv' := [(0, .ref a0), (1, .ref a1), (2, .int x2), (3, .int x3)]) (st' := [.int (3 : Int32), .int x3]) (h' := h) 2 rfl trivial ?_
    refine v_icmp_gt C0 cokX0_dress rfl 127 (by decide) hf (fun _ hf => ?_) (fun _ hf => ?_)
    · obtain rfl := Option.some.inj hf
      refine v_pick [] rfl ?_
      exact kx1 _ (kr1 _ rfl)
    · refine v_run C0 tbX0 cokX0_dress (pc' := 20) (lv' := [(0, .ref a0), (1, .ref a1), (2, .int x2), (3, .int x3)]) (st' := [.int x3, .ref a1]) (h' := h) 2 rfl trivial ?_
      obtain ⟨r4, e4, hf⟩ := q_bd hf
      refine v_callV C0 cokX0_dress rfl (rest := []) (ctX2_groupBits a1 x3 ta1 e4) calX2_groupBits lkX0_91 inX2_groupBits dnX2_groupBits (ci := 2) ⟨rfl, by decide⟩ ta1 rfl rfl ⟨by decide, by decide⟩ (Nat.le_of_ble_eq_true rfl) (Nat.le_refl _) (Nat.le_refl _) ?_
      refine v_run C0 tbX0 cokX0_dress (pc' := 48) (lv' := [(7, .int (0 : Int32)), (6, .int (0 : Int32)), (5, .int ((x2 >>> (((3 : Int32) * (x3 - (1 : Int32))) &&& 31)) &&& (7 : Int32))), (4, .int (r4 &&& (q_int h a0 9))), (0, .ref a0), (1, .ref a1), (2, .int x2), (3, .int x3)]) (st' := []) (h' := h) 18 rfl ⟨ta0, trivial⟩ ?_
      obtain ⟨o5, eo5, hf⟩ := q_bd hf
      refine v_pick [4, 5, 6, 7, 3, 2, 1, 0] rfl ?_
      refine n48 x3 (r4 &&& (q_int h a0 9)) ((x2 >>> (((3 : Int32) * (x3 - (1 : Int32))) &&& 31)) &&& (7 : Int32)) o5 ((0 : Int32), (0 : Int32), h) eo5 ?_
      refine v_run C0 tbX0 cokX0_dress (pc' := 111) (lv' := [(0, .ref a0), (1, .ref a1), (2, .int x2), (3, .int x3), (5, .int ((x2 >>> (((3 : Int32) * (x3 - (1 : Int32))) &&& 31)) &&& (7 : Int32))), (6, .int o5.1)]) (st' := [.int o5.1]) (h' := o5.2) 1 rfl trivial ?_
      refine v_if_ne C0 cokX0_dress rfl 121 (by decide) hf (fun _ hf => ?_) (fun _ hf => ?_)
      · refine v_run C0 tbX0 cokX0_dress (pc' := 116) (lv' := [(0, .ref a0), (1, .ref a1), (2, .int x2), (3, .int x3), (5, .int ((x2 >>> (((3 : Int32) * (x3 - (1 : Int32))) &&& 31)) &&& (7 : Int32))), (6, .int o5.1)]) (st' := [.int ((x2 >>> (((3 : Int32) * (x3 - (1 : Int32))) &&& 31)) &&& (7 : Int32))]) (h' := o5.2) 1 rfl trivial ?_
        refine v_if_eq C0 cokX0_dress rfl 121 (by decide) hf (fun _ hf => ?_) (fun _ hf => ?_)
        · refine v_pick [0, 1, 2, 3] rfl ?_
          exact n121 o5.2 x3 hf
        · refine v_run C0 tbX0 cokX0_dress (pc' := 120) (lv' := [(0, .ref a0), (1, .ref a1), (2, .int x2), (3, .int x3), (5, .int ((x2 >>> (((3 : Int32) * (x3 - (1 : Int32))) &&& 31)) &&& (7 : Int32))), (6, .int o5.1)]) (st' := [.int (0 : Int32)]) (h' := o5.2) 1 rfl trivial ?_
          obtain rfl := Option.some.inj hf
          have hf := ke1 _ (kr1 _ rfl)
          obtain ⟨rfl, rfl⟩ := Prod.mk.inj (Option.some.inj hf)
          exact v_zret C0 cokX0_dress hr hlk rfl (Or.inl rfl)
      · refine v_pick [0, 1, 2, 3] rfl ?_
        exact n121 o5.2 x3 hf
  refine v_run C0 tbX0 cokX0_dress (pc' := 8) (lv' := [(0, .ref a0), (1, .ref a1), (2, .int x2)]) (st' := [.ref (q_ref σ a0 2), .ref (q_ref σ a0 0)]) (h' := h) 4 rfl ⟨⟨ta0, q_tn k0⟩, ⟨ta0, q_tn k1⟩, trivial⟩ ?_
  obtain ⟨h1, e1, hf⟩ := q_bd hf
  refine v_callSN C0 cokX0_dress rfl (rest := []) (ctX4_fill (q_ref σ a0 0) (q_ref σ a0 2) k0 k1 e1) calX4_fill lkX0_83 inX4_fill dnX4_fill rfl rfl ⟨by decide, by decide⟩ (Nat.le_of_ble_eq_true rfl) (Nat.le_refl _) (Nat.le_refl _) ?_
  refine v_run C0 tbX0 cokX0_dress (pc' := 13) (lv' := [(3, .int (1 : Int32)), (0, .ref a0), (1, .ref a1), (2, .int x2)]) (st' := []) (h' := h1) 2 rfl trivial ?_
  obtain ⟨o2, eo2, hf⟩ := q_bd hf
  refine v_pick [1, 2, 3, 0] rfl ?_
  refine n13 o2 ((1 : Int32), h1) eo2 (fun w3 hx => ?_) (fun r0 hx => ?_)
  · rw [← hx] at hf
    replace hf := q_el_l hf
    refine v_run C0 tbX0 cokX0_dress (pc' := 128) (lv' := []) (st' := [.int (1 : Int32)]) (h' := w3) 1 rfl trivial ?_
    obtain ⟨rfl, rfl⟩ := Prod.mk.inj (Option.some.inj hf)
    exact v_zret C0 cokX0_dress hr hlk rfl (Or.inr rfl)
  · rw [← hx] at hf
    exact hf
-- BackByNoonOnMonday$Fitting.clear()V
noncomputable def fX0_clear_2 (σ : q_St) (a0 : Nat) (x1 : Int32) (h : q_Hp) : Option ((Int32 × q_Hp) ⊕ q_Hp) := (if (Int32.ofNat (q_len σ (q_ref σ a0 4))) ≤ x1 then some (Sum.inr h) else q_gu ((vp_in x1 (q_len σ (q_ref σ a0 4)))) (some (Sum.inl ((x1 + (1 : Int32)), (q_si h (q_ref σ a0 4) (Int32.toNatClampNeg x1) (9 : Int32))))))
noncomputable def fX0_clear_27 (σ : q_St) (a0 : Nat) (x1 : Int32) (h : q_Hp) : Option ((Int32 × q_Hp) ⊕ q_Hp) := (if (Int32.ofNat (q_len σ (q_ref σ a0 6))) ≤ x1 then some (Sum.inr h) else q_gu ((vp_in x1 (q_len σ (q_ref σ a0 6)))) (some (Sum.inl ((x1 + (1 : Int32)), (q_si h (q_ref σ a0 6) (Int32.toNatClampNeg x1) (9 : Int32))))))
noncomputable def fX0_clear (σ : q_St) (h : q_Hp) (a0 : Nat) : Option q_Hp := q_gu ((q_tag σ (q_ref σ a0 6) = 7) ∧ (q_tag σ (q_ref σ a0 4) = 7)) ((q_loop (fun s => fX0_clear_2 σ a0 s.1 s.2) q_N ((0 : Int32), h)).bind fun o1 => (q_loop (fun s => fX0_clear_27 σ a0 s.1 s.2) q_N ((0 : Int32), o1)).bind fun o2 => some o2)
def cdX0_clear : q_Cd := [(0, .iconst 0), (1, .istore_n 1), (2, .iload_n 1), (3, .aload_n 0), (4, .getfield 24), (7, .arraylength), (8, .if_icmp .ge 17), (11, .aload_n 0), (12, .getfield 24), (15, .iload_n 1), (16, .bipush 9), (18, .iastore), (19, .iinc 1 1), (22, .goto (-20)), (25, .iconst 0), (26, .istore_n 1), (27, .iload_n 1), (28, .aload_n 0), (29, .getfield 30), (32, .arraylength), (33, .if_icmp .ge 17), (36, .aload_n 0), (37, .getfield 30), (40, .iload_n 1), (41, .bipush 9), (43, .iastore), (44, .iinc 1 1), (47, .goto (-20)), (50, .return_)]
set_option maxRecDepth 100000 in
theorem cokX0_clear : q_cok cX0_clear cdX0_clear := by unfold q_cok; decide +kernel
set_option maxRecDepth 100000 in
set_option maxHeartbeats 4000000 in
theorem ctX0_clear {l : Launch} {D : va_G} {cy : Nat → Nat} {b0 : Nat} {σ : q_St} {h : q_Hp} (a0 : Nat) {h' : q_Hp} (ta0 : q_tag σ a0 = 1) (hf : fX0_clear σ h a0 = some h') : q_M l yX0_clear cX0_clear 2 none 0 0 0 0 D cy b0 σ h [.ref a0] none σ h' := by
  unfold fX0_clear at hf
  obtain ⟨⟨k0, k1⟩, hf⟩ := q_gu_o hf
  refine q_enter (by decide) (Nat.le_of_ble_eq_true rfl) ?_
  intro p e s m args below meth c C0 hr hlk hnm
  replace C0 : VC p { frames := 0, cells := 0, slots := 0, locals := 0 } s m args meth c D cy b0 2 0 0 RX0 cX0_clear := C0
  have n2 : ∀ (o : q_Hp) (s1 : (Int32 × q_Hp)), q_loop (fun s => fX0_clear_2 σ a0 s.1 s.2) q_N s1 = some o → V p l e { frames := 0, cells := 0, slots := 0, locals := 0 } s m args below meth c (MQ below (q_Qc D cy b0 none σ h') args s 0 0 (fun q => b0 ≤ q)) D cy b0 2 0 0 0 0 σ o 25 [(0, .ref a0)] [] → V p l e { frames := 0, cells := 0, slots := 0, locals := 0 } s m args below meth c (MQ below (q_Qc D cy b0 none σ h') args s 0 0 (fun q => b0 ≤ q)) D cy b0 2 0 0 0 0 σ s1.2 2 [(0, .ref a0), (1, .int s1.1)] [] := by
    intro o s1 ho kx1
    refine q_loop_V (P := fun s0 => V p l e { frames := 0, cells := 0, slots := 0, locals := 0 } s m args below meth c (MQ below (q_Qc D cy b0 none σ h') args s 0 0 (fun q => b0 ≤ q)) D cy b0 2 0 0 0 0 σ s0.2 2 [(0, .ref a0), (1, .int s0.1)] []) (o := o) ?_ q_N s1 ho
    intro s2 z1 hf kb1 kr1
    obtain ⟨x1, h⟩ := s2
    replace hf : fX0_clear_2 σ a0 x1 h = some z1 := hf
    unfold fX0_clear_2 at hf
    show V p l e { frames := 0, cells := 0, slots := 0, locals := 0 } s m args below meth c (MQ below (q_Qc D cy b0 none σ h') args s 0 0 (fun q => b0 ≤ q)) D cy b0 2 0 0 0 0 σ h 2 [(0, .ref a0), (1, .int x1)] []
    refine v_run C0 tbX0 cokX0_clear (pc' := 8) (lv' := [(0, .ref a0), (1, .int x1)]) (st' := [.int (Int32.ofNat (q_len σ (q_ref σ a0 4))), .int x1]) (h' := h) 4 rfl ⟨⟨ta0, q_tn k1⟩, (Or.inl k1), trivial⟩ ?_
    refine v_icmp_ge C0 cokX0_clear rfl 25 (by decide) hf (fun _ hf => ?_) (fun _ hf => ?_)
    · obtain rfl := Option.some.inj hf
      refine v_pick [0] rfl ?_
      have hx := kr1 _ rfl
      subst hx
      exact kx1
    · obtain ⟨g4, hf⟩ := q_gu_o hf
      refine v_run C0 tbX0 cokX0_clear (pc' := 2) (lv' := [(1, .int (x1 + (1 : Int32))), (0, .ref a0)]) (st' := []) (h' := (q_si h (q_ref σ a0 4) (Int32.toNatClampNeg x1) (9 : Int32))) 7 rfl ⟨⟨ta0, q_tn k1⟩, ⟨k1, g4⟩, trivial⟩ ?_
      obtain rfl := Option.some.inj hf
      refine v_pick [1, 0] rfl ?_
      exact kb1 _ rfl
  have n27 : ∀ (o : q_Hp) (s1 : (Int32 × q_Hp)), q_loop (fun s => fX0_clear_27 σ a0 s.1 s.2) q_N s1 = some o → V p l e { frames := 0, cells := 0, slots := 0, locals := 0 } s m args below meth c (MQ below (q_Qc D cy b0 none σ h') args s 0 0 (fun q => b0 ≤ q)) D cy b0 2 0 0 0 0 σ o 50 [] [] → V p l e { frames := 0, cells := 0, slots := 0, locals := 0 } s m args below meth c (MQ below (q_Qc D cy b0 none σ h') args s 0 0 (fun q => b0 ≤ q)) D cy b0 2 0 0 0 0 σ s1.2 27 [(0, .ref a0), (1, .int s1.1)] [] := by
    intro o s1 ho kx1
    refine q_loop_V (P := fun s0 => V p l e { frames := 0, cells := 0, slots := 0, locals := 0 } s m args below meth c (MQ below (q_Qc D cy b0 none σ h') args s 0 0 (fun q => b0 ≤ q)) D cy b0 2 0 0 0 0 σ s0.2 27 [(0, .ref a0), (1, .int s0.1)] []) (o := o) ?_ q_N s1 ho
    intro s2 z1 hf kb1 kr1
    obtain ⟨x1, h⟩ := s2
    replace hf : fX0_clear_27 σ a0 x1 h = some z1 := hf
    unfold fX0_clear_27 at hf
    show V p l e { frames := 0, cells := 0, slots := 0, locals := 0 } s m args below meth c (MQ below (q_Qc D cy b0 none σ h') args s 0 0 (fun q => b0 ≤ q)) D cy b0 2 0 0 0 0 σ h 27 [(0, .ref a0), (1, .int x1)] []
    refine v_run C0 tbX0 cokX0_clear (pc' := 33) (lv' := [(0, .ref a0), (1, .int x1)]) (st' := [.int (Int32.ofNat (q_len σ (q_ref σ a0 6))), .int x1]) (h' := h) 4 rfl ⟨⟨ta0, q_tn k0⟩, (Or.inl k0), trivial⟩ ?_
    refine v_icmp_ge C0 cokX0_clear rfl 50 (by decide) hf (fun _ hf => ?_) (fun _ hf => ?_)
    · obtain rfl := Option.some.inj hf
      refine v_pick [] rfl ?_
      have hx := kr1 _ rfl
      subst hx
      exact kx1
    · obtain ⟨g3, hf⟩ := q_gu_o hf
      refine v_run C0 tbX0 cokX0_clear (pc' := 27) (lv' := [(1, .int (x1 + (1 : Int32))), (0, .ref a0)]) (st' := []) (h' := (q_si h (q_ref σ a0 6) (Int32.toNatClampNeg x1) (9 : Int32))) 7 rfl ⟨⟨ta0, q_tn k0⟩, ⟨k0, g3⟩, trivial⟩ ?_
      obtain rfl := Option.some.inj hf
      refine v_pick [1, 0] rfl ?_
      exact kb1 _ rfl
  refine v_run C0 tbX0 cokX0_clear (pc' := 2) (lv' := [(1, .int (0 : Int32)), (0, .ref a0)]) (st' := []) (h' := h) 2 rfl trivial ?_
  obtain ⟨o1, eo1, hf⟩ := q_bd hf
  refine v_pick [1, 0] rfl ?_
  refine n2 o1 ((0 : Int32), h) eo1 ?_
  refine v_run C0 tbX0 cokX0_clear (pc' := 27) (lv' := [(1, .int (0 : Int32)), (0, .ref a0)]) (st' := []) (h' := o1) 2 rfl trivial ?_
  obtain ⟨o2, eo2, hf⟩ := q_bd hf
  refine v_pick [1, 0] rfl ?_
  refine n27 o2 ((0 : Int32), o1) eo2 ?_
  obtain rfl := Option.some.inj hf
  exact v_vret C0 cokX0_clear hr hlk rfl
-- BackByNoonOnMonday$Fitting.moveOn(I)V
noncomputable def fX0_moveOn_4 (σ : q_St) (a0 : Nat) (x1 : Int32) (x2 : Int32) (x3 : Int32) (h : q_Hp) : Option ((Int32 × Int32 × q_Hp) ⊕ q_Hp) := (if (Int32.ofNat (q_len σ (q_ref σ a0 5))) ≤ x3 then some (Sum.inr h) else (if x2 = (9 : Int32) then some (Sum.inr h) else ((fX4_at σ h (q_ref σ a0 7) x2).bind fun r2 => ((fX4_at σ h (q_ref σ a0 4) r2).bind fun r3 => ((fX4_set σ h (q_ref σ a0 6) x2 r2).bind fun h4 => ((fX4_set σ h4 (q_ref σ a0 4) r2 x2).bind fun h5 => some (Sum.inl (r3, (x3 + (1 : Int32)), h5))))))))
noncomputable def fX0_moveOn (σ : q_St) (h : q_Hp) (a0 : Nat) (x1 : Int32) : Option q_Hp := q_gu ((q_tag σ (q_ref σ a0 5) = 7) ∧ (q_tag σ (q_ref σ a0 7) = 7) ∧ (q_tag σ (q_ref σ a0 4) = 7) ∧ (q_tag σ (q_ref σ a0 6) = 7)) ((q_loop (fun s => fX0_moveOn_4 σ a0 x1 s.1 s.2.1 s.2.2) q_N (x1, (0 : Int32), h)).bind fun o1 => some o1)
def cdX0_moveOn : q_Cd := [(0, .iload_n 1), (1, .istore_n 2), (2, .iconst 0), (3, .istore_n 3), (4, .iload_n 3), (5, .aload_n 0), (6, .getfield 27), (9, .arraylength), (10, .if_icmp .ge 59), (13, .iload_n 2), (14, .bipush 9), (16, .if_icmp .eq 53), (19, .aload_n 0), (20, .getfield 33), (23, .iload_n 2), (24, .invokestatic 63), (27, .istore 4), (29, .aload_n 0), (30, .getfield 24), (33, .iload 4), (35, .invokestatic 63), (38, .istore 5), (40, .aload_n 0), (41, .getfield 30), (44, .iload_n 2), (45, .iload 4), (47, .invokestatic 74), (50, .aload_n 0), (51, .getfield 24), (54, .iload 4), (56, .iload_n 2), (57, .invokestatic 74), (60, .iload 5), (62, .istore_n 2), (63, .iinc 3 1), (66, .goto (-62)), (69, .return_)]
set_option maxRecDepth 100000 in
theorem cokX0_moveOn : q_cok cX0_moveOn cdX0_moveOn := by unfold q_cok; decide +kernel
set_option maxRecDepth 100000 in
set_option maxHeartbeats 4000000 in
theorem ctX0_moveOn {l : Launch} {D : va_G} {cy : Nat → Nat} {b0 : Nat} {σ : q_St} {h : q_Hp} (a0 : Nat) (x1 : Int32) {h' : q_Hp} (ta0 : q_tag σ a0 = 1) (hf : fX0_moveOn σ h a0 x1 = some h') : q_M l yX0_moveOn cX0_moveOn 6 none 1 22 0 0 D cy b0 σ h [.ref a0, .int x1] none σ h' := by
  unfold fX0_moveOn at hf
  obtain ⟨⟨k0, k1, k2, k3⟩, hf⟩ := q_gu_o hf
  refine q_enter (by decide) (Nat.le_of_ble_eq_true rfl) ?_
  intro p e s m args below meth c C0 hr hlk hnm
  replace C0 : VC p { frames := 1, cells := 0, slots := 0, locals := 22 } s m args meth c D cy b0 6 0 0 RX0 cX0_moveOn := C0
  have n4 : ∀ (o : q_Hp) (s1 : (Int32 × Int32 × q_Hp)), q_loop (fun s => fX0_moveOn_4 σ a0 x1 s.1 s.2.1 s.2.2) q_N s1 = some o → V p l e { frames := 1, cells := 0, slots := 0, locals := 22 } s m args below meth c (MQ below (q_Qc D cy b0 none σ h') args s 0 0 (fun q => b0 ≤ q)) D cy b0 6 0 0 0 0 σ o 69 [] [] → V p l e { frames := 1, cells := 0, slots := 0, locals := 22 } s m args below meth c (MQ below (q_Qc D cy b0 none σ h') args s 0 0 (fun q => b0 ≤ q)) D cy b0 6 0 0 0 0 σ s1.2.2 4 [(0, .ref a0), (2, .int s1.1), (3, .int s1.2.1)] [] := by
    intro o s1 ho kx1
    refine q_loop_V (P := fun s0 => V p l e { frames := 1, cells := 0, slots := 0, locals := 22 } s m args below meth c (MQ below (q_Qc D cy b0 none σ h') args s 0 0 (fun q => b0 ≤ q)) D cy b0 6 0 0 0 0 σ s0.2.2 4 [(0, .ref a0), (2, .int s0.1), (3, .int s0.2.1)] []) (o := o) ?_ q_N s1 ho
    intro s2 z1 hf kb1 kr1
    obtain ⟨x2, x3, h⟩ := s2
    replace hf : fX0_moveOn_4 σ a0 x1 x2 x3 h = some z1 := hf
    unfold fX0_moveOn_4 at hf
    show V p l e { frames := 1, cells := 0, slots := 0, locals := 22 } s m args below meth c (MQ below (q_Qc D cy b0 none σ h') args s 0 0 (fun q => b0 ≤ q)) D cy b0 6 0 0 0 0 σ h 4 [(0, .ref a0), (2, .int x2), (3, .int x3)] []
    refine v_run C0 tbX0 cokX0_moveOn (pc' := 10) (lv' := [(0, .ref a0), (2, .int x2), (3, .int x3)]) (st' := [.int (Int32.ofNat (q_len σ (q_ref σ a0 5))), .int x3]) (h' := h) 4 rfl ⟨⟨ta0, q_tn k0⟩, (Or.inl k0), trivial⟩ ?_
    refine v_icmp_ge C0 cokX0_moveOn rfl 69 (by decide) hf (fun _ hf => ?_) (fun _ hf => ?_)
    · obtain rfl := Option.some.inj hf
      refine v_pick [] rfl ?_
      have hx := kr1 _ rfl
      subst hx
      exact kx1
    · refine v_run C0 tbX0 cokX0_moveOn (pc' := 16) (lv' := [(0, .ref a0), (2, .int x2), (3, .int x3)]) (st' := [.int (9 : Int32), .int x2]) (h' := h) 2 rfl trivial ?_
      refine v_icmp_eq C0 cokX0_moveOn rfl 69 (by decide) hf (fun _ hf => ?_) (fun _ hf => ?_)
      · obtain rfl := Option.some.inj hf
        refine v_pick [] rfl ?_
        have hx := kr1 _ rfl
        subst hx
        exact kx1
      · refine v_run C0 tbX0 cokX0_moveOn (pc' := 24) (lv' := [(0, .ref a0), (2, .int x2), (3, .int x3)]) (st' := [.int x2, .ref (q_ref σ a0 7)]) (h' := h) 3 rfl ⟨⟨ta0, q_tn k1⟩, trivial⟩ ?_
        obtain ⟨r2, e2, hf⟩ := q_bd hf
        refine v_callSN C0 cokX0_moveOn rfl (rest := []) (ctX4_at (q_ref σ a0 7) x2 k1 e2) calX4_at lkX0_63 inX4_at dnX4_at rfl rfl ⟨by decide, by decide⟩ (Nat.le_of_ble_eq_true rfl) (Nat.le_refl _) (Nat.le_refl _) ?_
        refine v_run C0 tbX0 cokX0_moveOn (pc' := 35) (lv' := [(4, .int r2), (0, .ref a0), (2, .int x2), (3, .int x3)]) (st' := [.int r2, .ref (q_ref σ a0 4)]) (h' := h) 4 rfl ⟨⟨ta0, q_tn k2⟩, trivial⟩ ?_
        obtain ⟨r3, e3, hf⟩ := q_bd hf
        refine v_callSN C0 cokX0_moveOn rfl (rest := []) (ctX4_at (q_ref σ a0 4) r2 k2 e3) calX4_at lkX0_63 inX4_at dnX4_at rfl rfl ⟨by decide, by decide⟩ (Nat.le_of_ble_eq_true rfl) (Nat.le_refl _) (Nat.le_refl _) ?_
        refine v_run C0 tbX0 cokX0_moveOn (pc' := 47) (lv' := [(5, .int r3), (4, .int r2), (0, .ref a0), (2, .int x2), (3, .int x3)]) (st' := [.int r2, .int x2, .ref (q_ref σ a0 6)]) (h' := h) 5 rfl ⟨⟨ta0, q_tn k3⟩, trivial⟩ ?_
        obtain ⟨h4, e4, hf⟩ := q_bd hf
        refine v_callSN C0 cokX0_moveOn rfl (rest := []) (ctX4_set (q_ref σ a0 6) x2 r2 k3 e4) calX4_set lkX0_74 inX4_set dnX4_set rfl rfl ⟨by decide, by decide⟩ (Nat.le_of_ble_eq_true rfl) (Nat.le_refl _) (Nat.le_refl _) ?_
        refine v_run C0 tbX0 cokX0_moveOn (pc' := 57) (lv' := [(5, .int r3), (4, .int r2), (0, .ref a0), (2, .int x2), (3, .int x3)]) (st' := [.int x2, .int r2, .ref (q_ref σ a0 4)]) (h' := h4) 4 rfl ⟨⟨ta0, q_tn k2⟩, trivial⟩ ?_
        obtain ⟨h5, e5, hf⟩ := q_bd hf
        refine v_callSN C0 cokX0_moveOn rfl (rest := []) (ctX4_set (q_ref σ a0 4) r2 x2 k2 e5) calX4_set lkX0_74 inX4_set dnX4_set rfl rfl ⟨by decide, by decide⟩ (Nat.le_of_ble_eq_true rfl) (Nat.le_refl _) (Nat.le_refl _) ?_
        refine v_run C0 tbX0 cokX0_moveOn (pc' := 4) (lv' := [(3, .int (x3 + (1 : Int32))), (2, .int r3), (5, .int r3), (4, .int r2), (0, .ref a0)]) (st' := []) (h' := h5) 4 rfl trivial ?_
        obtain rfl := Option.some.inj hf
        refine v_pick [4, 1, 0] rfl ?_
        exact kb1 _ rfl
  refine v_run C0 tbX0 cokX0_moveOn (pc' := 4) (lv' := [(3, .int (0 : Int32)), (2, .int x1), (0, .ref a0), (1, .int x1)]) (st' := []) (h' := h) 4 rfl trivial ?_
  obtain ⟨o1, eo1, hf⟩ := q_bd hf
  refine v_pick [2, 1, 0] rfl ?_
  refine n4 o1 (x1, (0 : Int32), h) eo1 ?_
  obtain rfl := Option.some.inj hf
  exact v_vret C0 cokX0_moveOn hr hlk rfl
-- BackByNoonOnMonday$Fitting.seat(II)Z
noncomputable def fX0_seat_134 (σ : q_St) (h : q_Hp) (a0 : Nat) (x1 : Int32) (x2 : Int32) (x3 : Int32) (x4 : Int32) (x5 : Int32) (x6 : Int32) (x7 : Int32) : Option ((Int32 × Int32 × Int32 × q_Hp) ⊕ ((Int32 × Int32 × q_Hp) ⊕ ((Int32 × Int32 × Int32 × q_Hp) ⊕ (q_Hp ⊕ (Int32 × q_Hp))))) := some (Sum.inl (x3, x4, (x7 + (1 : Int32)), h))
noncomputable def fX0_seat_46 (σ : q_St) (a0 : Nat) (x1 : Int32) (x2 : Int32) (x5 : Int32) (x6 : Int32) (x3 : Int32) (x4 : Int32) (x7 : Int32) (h : q_Hp) : Option ((Int32 × Int32 × Int32 × q_Hp) ⊕ ((Int32 × Int32 × q_Hp) ⊕ ((Int32 × Int32 × Int32 × q_Hp) ⊕ (q_Hp ⊕ (Int32 × q_Hp))))) := (if (Int32.ofNat (q_len σ (q_ref σ a0 6))) ≤ x7 then some (Sum.inr (Sum.inl (x3, x4, h))) else ((fX4_at σ h (q_ref σ a0 2) x6).bind fun r7 => ((fX4_hasBit σ h (x3 &&& r7) x7).bind fun r8 => (if r8 = 0 then fX0_seat_134 σ h a0 x1 x2 x3 x4 x5 x6 x7 else ((fX4_set σ h (q_ref σ a0 7) x7 x6).bind fun h9 => q_gu ((vp_in x7 (q_len σ (q_ref σ a0 6)))) ((if (q_int h9 (q_ref σ a0 6) (Int32.toNatClampNeg x7)) = (9 : Int32) then ((fX0_moveOn σ h9 a0 x7).bind fun h12 => some (Sum.inr (Sum.inr (Sum.inr (Sum.inr ((1 : Int32), h12)))))) else ((fX4_set σ h9 (q_ref σ a0 5) x4 (q_int h9 (q_ref σ a0 6) (Int32.toNatClampNeg x7))).bind fun h11 => fX0_seat_134 σ h11 a0 x1 x2 (x3 &&& (((1 : Int32) <<< (x7 &&& 31)) ^^^ (-1 : Int32))) (x4 + (1 : Int32)) x5 x6 x7))))))))
noncomputable def fX0_seat_17 (σ : q_St) (a0 : Nat) (x1 : Int32) (x2 : Int32) (x3 : Int32) (x4 : Int32) (x5 : Int32) (h : q_Hp) : Option ((Int32 × Int32 × Int32 × q_Hp) ⊕ (q_Hp ⊕ (Int32 × q_Hp))) := (if x4 ≤ x5 then some (Sum.inr (Sum.inl h)) else (if (Int32.ofNat (q_len σ (q_ref σ a0 5))) ≤ x5 then some (Sum.inr (Sum.inl h)) else q_gu ((vp_in x5 (q_len σ (q_ref σ a0 5)))) ((q_loop (fun s => fX0_seat_46 σ a0 x1 x2 x5 (q_int h (q_ref σ a0 5) (Int32.toNatClampNeg x5)) s.1 s.2.1 s.2.2.1 s.2.2.2) q_N (x3, x4, (0 : Int32), h)).bind fun o5 => q_el o5 fun w6 => some (Sum.inl (w6.1, w6.2.1, (x5 + (1 : Int32)), w6.2.2)))))
noncomputable def fX0_seat (σ : q_St) (h : q_Hp) (a0 : Nat) (x1 : Int32) (x2 : Int32) : Option (Int32 × q_Hp) := q_gu ((q_tag σ (q_ref σ a0 5) = 7) ∧ (q_tag σ (q_ref σ a0 6) = 7) ∧ (q_tag σ (q_ref σ a0 2) = 7) ∧ (q_tag σ (q_ref σ a0 7) = 7)) (((fX4_set σ h (q_ref σ a0 5) (0 : Int32) x1).bind fun h1 => (q_loop (fun s => fX0_seat_17 σ a0 x1 x2 s.1 s.2.1 s.2.2.1 s.2.2.2) q_N (x2, (1 : Int32), (0 : Int32), h1)).bind fun o2 => q_el o2 fun w3 => some ((0 : Int32), w3)))
def cdX0_seat : q_Cd := [(0, .iload_n 2), (1, .istore_n 3), (2, .iconst 1), (3, .istore 4), (5, .aload_n 0), (6, .getfield 27), (9, .iconst 0), (10, .iload_n 1), (11, .invokestatic 74), (14, .iconst 0), (15, .istore 5), (17, .iload 5), (19, .iload 4), (21, .if_icmp .ge 125), (24, .iload 5), (26, .aload_n 0), (27, .getfield 27), (30, .arraylength), (31, .if_icmp .ge 115), (34, .aload_n 0), (35, .getfield 27), (38, .iload 5), (40, .iaload), (41, .istore 6), (43, .iconst 0), (44, .istore 7), (46, .iload 7), (48, .aload_n 0), (49, .getfield 30), (52, .arraylength), (53, .if_icmp .ge 87), (56, .iload_n 3), (57, .aload_n 0), (58, .getfield 18), (61, .iload 6), (63, .invokestatic 63), (66, .iand), (67, .iload 7), (69, .invokestatic 67), (72, .ifCond .eq 62), (75, .iload_n 3), (76, .iconst 1), (77, .iload 7), (79, .ishl), (80, .iconst (-1)), (81, .ixor), (82, .iand), (83, .istore_n 3), (84, .aload_n 0), (85, .getfield 33), (88, .iload 7), (90, .iload 6), (92, .invokestatic 74), (95, .aload_n 0), (96, .getfield 30), (99, .iload 7), (101, .iaload), (102, .bipush 9), (104, .if_icmp .ne 11), (107, .aload_n 0), (108, .iload 7), (110, .invokevirtual 114), (113, .iconst 1), (114, .ireturn), (115, .aload_n 0), (116, .getfield 27), (119, .iload 4), (121, .aload_n 0), (122, .getfield 30), (125, .iload 7), (127, .iaload), (128, .invokestatic 74), (131, .iinc 4 1), (134, .iinc 7 1), (137, .goto (-91)), (140, .iinc 5 1), (143, .goto (-126)), (146, .iconst 0), (147, .ireturn)]
set_option maxRecDepth 100000 in
theorem cokX0_seat : q_cok cX0_seat cdX0_seat := by unfold q_cok; decide +kernel
set_option maxRecDepth 100000 in
set_option maxHeartbeats 4000000 in
theorem ctX0_seat {l : Launch} {D : va_G} {cy : Nat → Nat} {b0 : Nat} {σ : q_St} {h : q_Hp} (a0 : Nat) (x1 : Int32) (x2 : Int32) {r : Int32} {h' : q_Hp} (ta0 : q_tag σ a0 = 1) (hf : fX0_seat σ h a0 x1 x2 = some (r, h')) : q_M l yX0_seat cX0_seat 8 (some .boolean) 2 47 0 0 D cy b0 σ h [.ref a0, .int x1, .int x2] (some (.int r)) σ h' := by
  unfold fX0_seat at hf
  obtain ⟨⟨k0, k1, k2, k3⟩, hf⟩ := q_gu_o hf
  refine q_enter (by decide) (Nat.le_of_ble_eq_true rfl) ?_
  intro p e s m args below meth c C0 hr hlk hnm
  replace C0 : VC p { frames := 2, cells := 0, slots := 0, locals := 47 } s m args meth c D cy b0 8 0 0 RX0 cX0_seat := C0
  have n17 : ∀ (o : (q_Hp ⊕ (Int32 × q_Hp))) (s1 : (Int32 × Int32 × Int32 × q_Hp)), q_loop (fun s => fX0_seat_17 σ a0 x1 x2 s.1 s.2.1 s.2.2.1 s.2.2.2) q_N s1 = some o → (∀ w0 : q_Hp, Sum.inl w0 = o → V p l e { frames := 2, cells := 0, slots := 0, locals := 47 } s m args below meth c (MQ below (q_Qc D cy b0 (some (.int r)) σ h') args s 0 0 (fun q => b0 ≤ q)) D cy b0 8 0 0 0 0 σ w0 146 [] []) → (∀ r0 : (Int32 × q_Hp), Sum.inr r0 = o → (some r0 : Option (Int32 × q_Hp)) = some (r, h')) → V p l e { frames := 2, cells := 0, slots := 0, locals := 47 } s m args below meth c (MQ below (q_Qc D cy b0 (some (.int r)) σ h') args s 0 0 (fun q => b0 ≤ q)) D cy b0 8 0 0 0 0 σ s1.2.2.2 17 [(0, .ref a0), (3, .int s1.1), (4, .int s1.2.1), (5, .int s1.2.2.1)] [] := by
    intro o s1 ho kx1 ke1
    refine q_loop_V (P := fun s0 => V p l e { frames := 2, cells := 0, slots := 0, locals := 47 } s m args below meth c (MQ below (q_Qc D cy b0 (some (.int r)) σ h') args s 0 0 (fun q => b0 ≤ q)) D cy b0 8 0 0 0 0 σ s0.2.2.2 17 [(0, .ref a0), (3, .int s0.1), (4, .int s0.2.1), (5, .int s0.2.2.1)] []) (o := o) ?_ q_N s1 ho
    intro s2 z1 hf kb1 kr1
    obtain ⟨x3, x4, x5, h⟩ := s2
    replace hf : fX0_seat_17 σ a0 x1 x2 x3 x4 x5 h = some z1 := hf
    unfold fX0_seat_17 at hf
    show V p l e { frames := 2, cells := 0, slots := 0, locals := 47 } s m args below meth c (MQ below (q_Qc D cy b0 (some (.int r)) σ h') args s 0 0 (fun q => b0 ≤ q)) D cy b0 8 0 0 0 0 σ h 17 [(0, .ref a0), (3, .int x3), (4, .int x4), (5, .int x5)] []
    have n46 : ∀ (x5 : Int32) (x6 : Int32) (o : ((Int32 × Int32 × q_Hp) ⊕ ((Int32 × Int32 × Int32 × q_Hp) ⊕ (q_Hp ⊕ (Int32 × q_Hp))))) (s1 : (Int32 × Int32 × Int32 × q_Hp)), q_loop (fun s => fX0_seat_46 σ a0 x1 x2 x5 x6 s.1 s.2.1 s.2.2.1 s.2.2.2) q_N s1 = some o → (∀ w0 : (Int32 × Int32 × q_Hp), Sum.inl w0 = o → V p l e { frames := 2, cells := 0, slots := 0, locals := 47 } s m args below meth c (MQ below (q_Qc D cy b0 (some (.int r)) σ h') args s 0 0 (fun q => b0 ≤ q)) D cy b0 8 0 0 0 0 σ w0.2.2 140 [(0, .ref a0), (3, .int w0.1), (4, .int w0.2.1), (5, .int x5)] []) → (∀ r0 : ((Int32 × Int32 × Int32 × q_Hp) ⊕ (q_Hp ⊕ (Int32 × q_Hp))), Sum.inr r0 = o → (some r0 : Option ((Int32 × Int32 × Int32 × q_Hp) ⊕ (q_Hp ⊕ (Int32 × q_Hp)))) = some z1) → V p l e { frames := 2, cells := 0, slots := 0, locals := 47 } s m args below meth c (MQ below (q_Qc D cy b0 (some (.int r)) σ h') args s 0 0 (fun q => b0 ≤ q)) D cy b0 8 0 0 0 0 σ s1.2.2.2 46 [(0, .ref a0), (3, .int s1.1), (4, .int s1.2.1), (5, .int x5), (6, .int x6), (7, .int s1.2.2.1)] [] := by
      intro x5 x6 o s1 ho kx2 ke2
      refine q_loop_V (P := fun s0 => V p l e { frames := 2, cells := 0, slots := 0, locals := 47 } s m args below meth c (MQ below (q_Qc D cy b0 (some (.int r)) σ h') args s 0 0 (fun q => b0 ≤ q)) D cy b0 8 0 0 0 0 σ s0.2.2.2 46 [(0, .ref a0), (3, .int s0.1), (4, .int s0.2.1), (5, .int x5), (6, .int x6), (7, .int s0.2.2.1)] []) (o := o) ?_ q_N s1 ho
      intro s2 z2 hf kb2 kr2
      obtain ⟨x3, x4, x7, h⟩ := s2
      replace hf : fX0_seat_46 σ a0 x1 x2 x5 x6 x3 x4 x7 h = some z2 := hf
      unfold fX0_seat_46 at hf
      show V p l e { frames := 2, cells := 0, slots := 0, locals := 47 } s m args below meth c (MQ below (q_Qc D cy b0 (some (.int r)) σ h') args s 0 0 (fun q => b0 ≤ q)) D cy b0 8 0 0 0 0 σ h 46 [(0, .ref a0), (3, .int x3), (4, .int x4), (5, .int x5), (6, .int x6), (7, .int x7)] []
      have n134 : ∀ (h : q_Hp) (x3 : Int32) (x4 : Int32) (x7 : Int32), fX0_seat_134 σ h a0 x1 x2 x3 x4 x5 x6 x7 = some z2 → V p l e { frames := 2, cells := 0, slots := 0, locals := 47 } s m args below meth c (MQ below (q_Qc D cy b0 (some (.int r)) σ h') args s 0 0 (fun q => b0 ≤ q)) D cy b0 8 0 0 0 0 σ h 134 [(0, .ref a0), (3, .int x3), (4, .int x4), (5, .int x5), (6, .int x6), (7, .int x7)] [] := by
        intro h x3 x4 x7 hf
        unfold fX0_seat_134 at hf
        refine v_run C0 tbX0 cokX0_seat (pc' := 46) (lv' := [(7, .int (x7 + (1 : Int32))), (0, .ref a0), (3, .int x3), (4, .int x4), (5, .int x5), (6, .int x6)]) (st' := []) (h' := h) 2 rfl trivial ?_
        obtain rfl := Option.some.inj hf
        refine v_pick [1, 2, 3, 4, 5, 0] rfl ?_
        exact kb2 _ rfl
      refine v_run C0 tbX0 cokX0_seat (pc' := 53) (lv' := [(0, .ref a0), (3, .int x3), (4, .int x4), (5, .int x5), (6, .int x6), (7, .int x7)]) (st' := [.int (Int32.ofNat (q_len σ (q_ref σ a0 6))), .int x7]) (h' := h) 4 rfl ⟨⟨ta0, q_tn k1⟩, (Or.inl k1), trivial⟩ ?_
      refine v_icmp_ge C0 cokX0_seat rfl 140 (by decide) hf (fun _ hf => ?_) (fun _ hf => ?_)
      · obtain rfl := Option.some.inj hf
        refine v_pick [0, 1, 2, 3] rfl ?_
        exact kx2 _ (kr2 _ rfl)
      · refine v_run C0 tbX0 cokX0_seat (pc' := 63) (lv' := [(0, .ref a0), (3, .int x3), (4, .int x4), (5, .int x5), (6, .int x6), (7, .int x7)]) (st' := [.int x6, .ref (q_ref σ a0 2), .int x3]) (h' := h) 4 rfl ⟨⟨ta0, q_tn k2⟩, trivial⟩ ?_
        obtain ⟨r7, e7, hf⟩ := q_bd hf
        refine v_callSN C0 cokX0_seat rfl (rest := [.int x3]) (ctX4_at (q_ref σ a0 2) x6 k2 e7) calX4_at lkX0_63 inX4_at dnX4_at rfl rfl ⟨by decide, by decide⟩ (Nat.le_of_ble_eq_true rfl) (Nat.le_refl _) (Nat.le_refl _) ?_
        refine v_run C0 tbX0 cokX0_seat (pc' := 69) (lv' := [(0, .ref a0), (3, .int x3), (4, .int x4), (5, .int x5), (6, .int x6), (7, .int x7)]) (st' := [.int x7, .int (x3 &&& r7)]) (h' := h) 2 rfl trivial ?_
        obtain ⟨r8, e8, hf⟩ := q_bd hf
        refine v_callSN C0 cokX0_seat rfl (rest := []) (ctX4_hasBit (x3 &&& r7) x7 e8) calX4_hasBit lkX0_67 inX4_hasBit dnX4_hasBit rfl rfl ⟨by decide, by decide⟩ (Nat.le_of_ble_eq_true rfl) (Nat.le_refl _) (Nat.le_refl _) ?_
        refine v_if_eq C0 cokX0_seat rfl 134 (by decide) hf (fun _ hf => ?_) (fun _ hf => ?_)
        · refine v_pick [0, 1, 2, 3, 4, 5] rfl ?_
          exact n134 h x3 x4 x7 hf
        · refine v_run C0 tbX0 cokX0_seat (pc' := 92) (lv' := [(3, .int (x3 &&& (((1 : Int32) <<< (x7 &&& 31)) ^^^ (-1 : Int32)))), (0, .ref a0), (4, .int x4), (5, .int x5), (6, .int x6), (7, .int x7)]) (st' := [.int x6, .int x7, .ref (q_ref σ a0 7)]) (h' := h) 12 rfl ⟨⟨ta0, q_tn k3⟩, trivial⟩ ?_
          obtain ⟨h9, e9, hf⟩ := q_bd hf
          refine v_callSN C0 cokX0_seat rfl (rest := []) (ctX4_set (q_ref σ a0 7) x7 x6 k3 e9) calX4_set lkX0_74 inX4_set dnX4_set rfl rfl ⟨by decide, by decide⟩ (Nat.le_of_ble_eq_true rfl) (Nat.le_refl _) (Nat.le_refl _) ?_
          obtain ⟨g10, hf⟩ := q_gu_o hf
          refine v_run C0 tbX0 cokX0_seat (pc' := 104) (lv' := [(3, .int (x3 &&& (((1 : Int32) <<< (x7 &&& 31)) ^^^ (-1 : Int32)))), (0, .ref a0), (4, .int x4), (5, .int x5), (6, .int x6), (7, .int x7)]) (st' := [.int (9 : Int32), .int (q_int h9 (q_ref σ a0 6) (Int32.toNatClampNeg x7))]) (h' := h9) 5 rfl ⟨⟨ta0, q_tn k1⟩, ⟨k1, g10⟩, trivial⟩ ?_
          refine v_icmp_ne C0 cokX0_seat rfl 115 (by decide) hf (fun _ hf => ?_) (fun _ hf => ?_)
          · refine v_run C0 tbX0 cokX0_seat (pc' := 110) (lv' := [(3, .int (x3 &&& (((1 : Int32) <<< (x7 &&& 31)) ^^^ (-1 : Int32)))), (0, .ref a0), (4, .int x4), (5, .int x5), (6, .int x6), (7, .int x7)]) (st' := [.int x7, .ref a0]) (h' := h9) 2 rfl trivial ?_
            obtain ⟨h12, e12, hf⟩ := q_bd hf
            refine v_callV C0 cokX0_seat rfl (rest := []) (ctX0_moveOn a0 x7 ta0 e12) calX0_moveOn lkX0_114 inX0_moveOn dnX0_moveOn (ci := 0) ⟨rfl, by decide⟩ ta0 rfl rfl ⟨by decide, by decide⟩ (Nat.le_of_ble_eq_true rfl) (Nat.le_refl _) (Nat.le_refl _) ?_
            refine v_run C0 tbX0 cokX0_seat (pc' := 114) (lv' := [(3, .int (x3 &&& (((1 : Int32) <<< (x7 &&& 31)) ^^^ (-1 : Int32)))), (0, .ref a0), (4, .int x4), (5, .int x5), (6, .int x6), (7, .int x7)]) (st' := [.int (1 : Int32)]) (h' := h12) 1 rfl trivial ?_
            obtain rfl := Option.some.inj hf
            have hf := ke2 _ (kr2 _ rfl)
            obtain rfl := Option.some.inj hf
            have hf := ke1 _ (kr1 _ rfl)
            obtain ⟨rfl, rfl⟩ := Prod.mk.inj (Option.some.inj hf)
            exact v_zret C0 cokX0_seat hr hlk rfl (Or.inr rfl)
          · refine v_run C0 tbX0 cokX0_seat (pc' := 128) (lv' := [(3, .int (x3 &&& (((1 : Int32) <<< (x7 &&& 31)) ^^^ (-1 : Int32)))), (0, .ref a0), (4, .int x4), (5, .int x5), (6, .int x6), (7, .int x7)]) (st' := [.int (q_int h9 (q_ref σ a0 6) (Int32.toNatClampNeg x7)), .int x4, .ref (q_ref σ a0 5)]) (h' := h9) 7 rfl ⟨⟨ta0, q_tn k0⟩, ⟨ta0, q_tn k1⟩, ⟨k1, g10⟩, trivial⟩ ?_
            obtain ⟨h11, e11, hf⟩ := q_bd hf
            refine v_callSN C0 cokX0_seat rfl (rest := []) (ctX4_set (q_ref σ a0 5) x4 (q_int h9 (q_ref σ a0 6) (Int32.toNatClampNeg x7)) k0 e11) calX4_set lkX0_74 inX4_set dnX4_set rfl rfl ⟨by decide, by decide⟩ (Nat.le_of_ble_eq_true rfl) (Nat.le_refl _) (Nat.le_refl _) ?_
            refine v_run C0 tbX0 cokX0_seat (pc' := 134) (lv' := [(4, .int (x4 + (1 : Int32))), (3, .int (x3 &&& (((1 : Int32) <<< (x7 &&& 31)) ^^^ (-1 : Int32)))), (0, .ref a0), (5, .int x5), (6, .int x6), (7, .int x7)]) (st' := []) (h' := h11) 1 rfl trivial ?_
            refine v_pick [2, 1, 0, 3, 4, 5] rfl ?_
            exact n134 h11 (x3 &&& (((1 : Int32) <<< (x7 &&& 31)) ^^^ (-1 : Int32))) (x4 + (1 : Int32)) x7 hf
    refine v_run C0 tbX0 cokX0_seat (pc' := 21) (lv' := [(0, .ref a0), (3, .int x3), (4, .int x4), (5, .int x5)]) (st' := [.int x4, .int x5]) (h' := h) 2 rfl trivial ?_
    refine v_icmp_ge C0 cokX0_seat rfl 146 (by decide) hf (fun _ hf => ?_) (fun _ hf => ?_)
    · obtain rfl := Option.some.inj hf
      refine v_pick [] rfl ?_
      exact kx1 _ (kr1 _ rfl)
    · refine v_run C0 tbX0 cokX0_seat (pc' := 31) (lv' := [(0, .ref a0), (3, .int x3), (4, .int x4), (5, .int x5)]) (st' := [.int (Int32.ofNat (q_len σ (q_ref σ a0 5))), .int x5]) (h' := h) 4 rfl ⟨⟨ta0, q_tn k0⟩, (Or.inl k0), trivial⟩ ?_
      refine v_icmp_ge C0 cokX0_seat rfl 146 (by decide) hf (fun _ hf => ?_) (fun _ hf => ?_)
      · obtain rfl := Option.some.inj hf
        refine v_pick [] rfl ?_
        exact kx1 _ (kr1 _ rfl)
      · obtain ⟨g4, hf⟩ := q_gu_o hf
        refine v_run C0 tbX0 cokX0_seat (pc' := 46) (lv' := [(7, .int (0 : Int32)), (6, .int (q_int h (q_ref σ a0 5) (Int32.toNatClampNeg x5))), (0, .ref a0), (3, .int x3), (4, .int x4), (5, .int x5)]) (st' := []) (h' := h) 7 rfl ⟨⟨ta0, q_tn k0⟩, ⟨k0, g4⟩, trivial⟩ ?_
        obtain ⟨o5, eo5, hf⟩ := q_bd hf
        refine v_pick [2, 3, 4, 5, 1, 0] rfl ?_
        refine n46 x5 (q_int h (q_ref σ a0 5) (Int32.toNatClampNeg x5)) o5 (x3, x4, (0 : Int32), h) eo5 (fun w6 hx => ?_) (fun r0 hx => ?_)
        · rw [← hx] at hf
          replace hf := q_el_l hf
          refine v_run C0 tbX0 cokX0_seat (pc' := 17) (lv' := [(5, .int (x5 + (1 : Int32))), (0, .ref a0), (3, .int w6.1), (4, .int w6.2.1)]) (st' := []) (h' := w6.2.2) 2 rfl trivial ?_
          obtain rfl := Option.some.inj hf
          refine v_pick [1, 2, 3, 0] rfl ?_
          exact kb1 _ rfl
        · rw [← hx] at hf
          exact hf
  refine v_run C0 tbX0 cokX0_seat (pc' := 11) (lv' := [(4, .int (1 : Int32)), (3, .int x2), (0, .ref a0), (1, .int x1), (2, .int x2)]) (st' := [.int x1, .int (0 : Int32), .ref (q_ref σ a0 5)]) (h' := h) 8 rfl ⟨⟨ta0, q_tn k0⟩, trivial⟩ ?_
  obtain ⟨h1, e1, hf⟩ := q_bd hf
  refine v_callSN C0 cokX0_seat rfl (rest := []) (ctX4_set (q_ref σ a0 5) (0 : Int32) x1 k0 e1) calX4_set lkX0_74 inX4_set dnX4_set rfl rfl ⟨by decide, by decide⟩ (Nat.le_of_ble_eq_true rfl) (Nat.le_refl _) (Nat.le_refl _) ?_
  refine v_run C0 tbX0 cokX0_seat (pc' := 17) (lv' := [(5, .int (0 : Int32)), (4, .int (1 : Int32)), (3, .int x2), (0, .ref a0), (1, .int x1), (2, .int x2)]) (st' := []) (h' := h1) 2 rfl trivial ?_
  obtain ⟨o2, eo2, hf⟩ := q_bd hf
  refine v_pick [3, 2, 1, 0] rfl ?_
  refine n17 o2 (x2, (1 : Int32), (0 : Int32), h1) eo2 (fun w3 hx => ?_) (fun r0 hx => ?_)
  · rw [← hx] at hf
    replace hf := q_el_l hf
    refine v_run C0 tbX0 cokX0_seat (pc' := 147) (lv' := []) (st' := [.int (0 : Int32)]) (h' := w3) 1 rfl trivial ?_
    obtain ⟨rfl, rfl⟩ := Prod.mk.inj (Option.some.inj hf)
    exact v_zret C0 cokX0_seat hr hlk rfl (Or.inl rfl)
  · rw [← hx] at hf
    exact hf
