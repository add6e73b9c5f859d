-- BackByNoonOnMonday$Fitting.most(II)I
noncomputable def fX0_most_41 (σ : q_St) (h : q_Hp) (a0 : Nat) (x1 : Int32) (x2 : Int32) (x3 : Int32) (x4 : Int32) : Option ((Int32 × Int32 × q_Hp) ⊕ (Int32 × q_Hp)) := some (Sum.inl (x3, (x4 + (1 : Int32)), h))
noncomputable def fX0_most_9 (σ : q_St) (a0 : Nat) (x1 : Int32) (x2 : Int32) (x3 : Int32) (x4 : Int32) (h : q_Hp) : Option ((Int32 × Int32 × q_Hp) ⊕ (Int32 × q_Hp)) := (if (Int32.ofNat (q_len σ (q_ref σ a0 2))) ≤ x4 then some (Sum.inr (x3, h)) else ((fX4_hasBit σ h x2 x4).bind fun r3 => (if r3 = 0 then fX0_most_41 σ h a0 x1 x2 x3 x4 else (q_b2 (fX0_seat σ h a0 x4 x1) fun r4 h4 => (if r4 = 0 then fX0_most_41 σ h4 a0 x1 x2 x3 x4 else fX0_most_41 σ h4 a0 x1 x2 (x3 + (1 : Int32)) x4)))))
noncomputable def fX0_most (σ : q_St) (h : q_Hp) (a0 : Nat) (x1 : Int32) (x2 : Int32) : Option (Int32 × q_Hp) := q_gu ((q_tag σ (q_ref σ a0 2) = 7)) (((fX0_clear σ h a0).bind fun h1 => (q_loop (fun s => fX0_most_9 σ a0 x1 x2 s.1 s.2.1 s.2.2) q_N ((0 : Int32), (0 : Int32), h1)).bind fun o2 => some (o2.1, o2.2)))
def cdX0_most : q_Cd := [(0, .aload_n 0), (1, .invokevirtual 97), (4, .iconst 0), (5, .istore_n 3), (6, .iconst 0), (7, .istore 4), (9, .iload 4), (11, .aload_n 0), (12, .getfield 18), (15, .arraylength), (16, .if_icmp .ge 31), (19, .iload_n 2), (20, .iload 4), (22, .invokestatic 67), (25, .ifCond .eq 16), (28, .aload_n 0), (29, .iload 4), (31, .iload_n 1), (32, .invokevirtual 100), (35, .ifCond .eq 6), (38, .iinc 3 1), (41, .iinc 4 1), (44, .goto (-35)), (47, .iload_n 3), (48, .ireturn)]
set_option maxRecDepth 100000 in
theorem cokX0_most : q_cok cX0_most cdX0_most := by unfold q_cok; decide +kernel
set_option maxRecDepth 100000 in
set_option maxHeartbeats 4000000 in
theorem ctX0_most {l : Launch} {D : va_G} {cy : Nat → Nat} {b0 : Nat} {σ : q_St} {h : q_Hp} (a0 : Nat) (x1 : Int32) (x2 : Int32) {r : Int32} {h' : q_Hp} (ta0 : q_tag σ a0 = 1) (hf : fX0_most σ h a0 x1 x2 = some (r, h')) : q_M l yX0_most cX0_most 5 (some .int) 3 74 0 0 D cy b0 σ h [.ref a0, .int x1, .int x2] (some (.int r)) σ h' := by
  unfold fX0_most at hf
  obtain ⟨k0, hf⟩ := q_gu_o hf
  refine q_enter (by decide) (Nat.le_of_ble_eq_true rfl) ?_
  intro p e s m args below meth c C0 hr hlk hnm
  replace C0 : VC p { frames := 3, cells := 0, slots := 0, locals := 74 } s m args meth c D cy b0 5 0 0 RX0 cX0_most := C0
  have n9 : ∀ (o : (Int32 × q_Hp)) (s1 : (Int32 × Int32 × q_Hp)), q_loop (fun s => fX0_most_9 σ a0 x1 x2 s.1 s.2.1 s.2.2) q_N s1 = some o → V p l e { frames := 3, cells := 0, slots := 0, locals := 74 } s m args below meth c (MQ below (q_Qc D cy b0 (some (.int r)) σ h') args s 0 0 (fun q => b0 ≤ q)) D cy b0 5 0 0 0 0 σ o.2 47 [(3, .int o.1)] [] → V p l e { frames := 3, cells := 0, slots := 0, locals := 74 } s m args below meth c (MQ below (q_Qc D cy b0 (some (.int r)) σ h') args s 0 0 (fun q => b0 ≤ q)) D cy b0 5 0 0 0 0 σ s1.2.2 9 [(0, .ref a0), (1, .int x1), (2, .int x2), (3, .int s1.1), (4, .int s1.2.1)] [] := by
    intro o s1 ho kx1
    refine q_loop_V (P := fun s0 => V p l e { frames := 3, cells := 0, slots := 0, locals := 74 } s m args below meth c (MQ below (q_Qc D cy b0 (some (.int r)) σ h') args s 0 0 (fun q => b0 ≤ q)) D cy b0 5 0 0 0 0 σ s0.2.2 9 [(0, .ref a0), (1, .int x1), (2, .int x2), (3, .int s0.1), (4, .int s0.2.1)] []) (o := o) ?_ q_N s1 ho
    intro s2 z1 hf kb1 kr1
    obtain ⟨x3, x4, h⟩ := s2
    replace hf : fX0_most_9 σ a0 x1 x2 x3 x4 h = some z1 := hf
    unfold fX0_most_9 at hf
    show V p l e { frames := 3, cells := 0, slots := 0, locals := 74 } s m args below meth c (MQ below (q_Qc D cy b0 (some (.int r)) σ h') args s 0 0 (fun q => b0 ≤ q)) D cy b0 5 0 0 0 0 σ h 9 [(0, .ref a0), (1, .int x1), (2, .int x2), (3, .int x3), (4, .int x4)] []
    have n41 : ∀ (h : q_Hp) (x3 : Int32) (x4 : Int32), fX0_most_41 σ h a0 x1 x2 x3 x4 = some z1 → V p l e { frames := 3, cells := 0, slots := 0, locals := 74 } s m args below meth c (MQ below (q_Qc D cy b0 (some (.int r)) σ h') args s 0 0 (fun q => b0 ≤ q)) D cy b0 5 0 0 0 0 σ h 41 [(0, .ref a0), (1, .int x1), (2, .int x2), (3, .int x3), (4, .int x4)] [] := by
      intro h x3 x4 hf
      unfold fX0_most_41 at hf
      refine v_run C0 tbX0 cokX0_most (pc' := 9) (lv' := [(4, .int (x4 + (1 : Int32))), (0, .ref a0), (1, .int x1), (2, .int x2), (3, .int x3)]) (st' := []) (h' := h) 2 rfl trivial ?_
      obtain rfl := Option.some.inj hf
      refine v_pick [1, 2, 3, 4, 0] rfl ?_
      exact kb1 _ rfl
    refine v_run C0 tbX0 cokX0_most (pc' := 16) (lv' := [(0, .ref a0), (1, .int x1), (2, .int x2), (3, .int x3), (4, .int x4)]) (st' := [.int (Int32.ofNat (q_len σ (q_ref σ a0 2))), .int x4]) (h' := h) 4 rfl ⟨⟨ta0, q_tn k0⟩, (Or.inl k0), trivial⟩ ?_
    refine v_icmp_ge C0 cokX0_most rfl 47 (by decide) hf (fun _ hf => ?_) (fun _ hf => ?_)
    · obtain rfl := Option.some.inj hf
      refine v_pick [3] rfl ?_
      have hx := kr1 _ rfl
      subst hx
      exact kx1
    · refine v_run C0 tbX0 cokX0_most (pc' := 22) (lv' := [(0, .ref a0), (1, .int x1), (2, .int x2), (3, .int x3), (4, .int x4)]) (st' := [.int x4, .int x2]) (h' := h) 2 rfl trivial ?_
      obtain ⟨r3, e3, hf⟩ := q_bd hf
      refine v_callSN C0 cokX0_most rfl (rest := []) (ctX4_hasBit x2 x4 e3) calX4_hasBit lkX0_67 inX4_hasBit dnX4_hasBit rfl rfl ⟨by decide, by decide⟩ (Nat.le_of_ble_eq_true rfl) (Nat.le_refl _) (Nat.le_refl _) ?_
      refine v_if_eq C0 cokX0_most rfl 41 (by decide) hf (fun _ hf => ?_) (fun _ hf => ?_)
      · refine v_pick [0, 1, 2, 3, 4] rfl ?_
        exact n41 h x3 x4 hf
      · refine v_run C0 tbX0 cokX0_most (pc' := 32) (lv' := [(0, .ref a0), (1, .int x1), (2, .int x2), (3, .int x3), (4, .int x4)]) (st' := [.int x1, .int x4, .ref a0]) (h' := h) 3 rfl trivial ?_
        obtain ⟨r4, h4, e4, hf⟩ := q_bd2 hf
        refine v_callV C0 cokX0_most rfl (rest := []) (ctX0_seat a0 x4 x1 ta0 e4) calX0_seat lkX0_100 inX0_seat dnX0_seat (ci := 0) ⟨rfl, by decide⟩ ta0 rfl rfl ⟨by decide, by decide⟩ (Nat.le_of_ble_eq_true rfl) (Nat.le_refl _) (Nat.le_refl _) ?_
        refine v_if_eq C0 cokX0_most rfl 41 (by decide) hf (fun _ hf => ?_) (fun _ hf => ?_)
        · refine v_pick [0, 1, 2, 3, 4] rfl ?_
          exact n41 h4 x3 x4 hf
        · refine v_run C0 tbX0 cokX0_most (pc' := 41) (lv' := [(3, .int (x3 + (1 : Int32))), (0, .ref a0), (1, .int x1), (2, .int x2), (4, .int x4)]) (st' := []) (h' := h4) 1 rfl trivial ?_
          refine v_pick [1, 2, 3, 0, 4] rfl ?_
          exact n41 h4 (x3 + (1 : Int32)) x4 hf
  refine v_run C0 tbX0 cokX0_most (pc' := 1) (lv' := [(0, .ref a0), (1, .int x1), (2, .int x2)]) (st' := [.ref a0]) (h' := h) 1 rfl trivial ?_
  obtain ⟨h1, e1, hf⟩ := q_bd hf
  refine v_callV C0 cokX0_most rfl (rest := []) (ctX0_clear a0 ta0 e1) calX0_clear lkX0_97 inX0_clear dnX0_clear (ci := 0) ⟨rfl, by decide⟩ ta0 rfl rfl ⟨by decide, by decide⟩ (Nat.le_of_ble_eq_true rfl) (Nat.le_refl _) (Nat.le_refl _) ?_
  refine v_run C0 tbX0 cokX0_most (pc' := 9) (lv' := [(4, .int (0 : Int32)), (3, .int (0 : Int32)), (0, .ref a0), (1, .int x1), (2, .int x2)]) (st' := []) (h' := h1) 4 rfl trivial ?_
  obtain ⟨o2, eo2, hf⟩ := q_bd hf
  refine v_pick [2, 3, 4, 1, 0] rfl ?_
  refine n9 o2 ((0 : Int32), (0 : Int32), h1) eo2 ?_
  refine v_run C0 tbX0 cokX0_most (pc' := 48) (lv' := [(3, .int o2.1)]) (st' := [.int o2.1]) (h' := o2.2) 1 rfl trivial ?_
  obtain ⟨rfl, rfl⟩ := Prod.mk.inj (Option.some.inj hf)
  exact v_iret C0 cokX0_most hr hlk rfl
-- BackByNoonOnMonday$Fitting.dearest(I)I
noncomputable def fX0_dearest_48 (σ : q_St) (h : q_Hp) (a0 : Nat) (x1 : Int32) (x2 : Int32) (x3 : Int32) (x4 : Int32) : Option ((Int32 × Int32 × Int32) ⊕ Int32) := some (Sum.inl (x2, x3, (x4 + (1 : Int32))))
noncomputable def fX0_dearest_7 (σ : q_St) (h : q_Hp) (a0 : Nat) (x1 : Int32) (x2 : Int32) (x3 : Int32) (x4 : Int32) : Option ((Int32 × Int32 × Int32) ⊕ Int32) := (if (Int32.ofNat (q_len σ (q_ref σ a0 3))) ≤ x4 then some (Sum.inr x2) else ((fX4_hasBit σ h x1 x4).bind fun r2 => (if r2 = 0 then fX0_dearest_48 σ h a0 x1 x2 x3 x4 else q_gu ((vp_in x4 (q_len σ (q_ref σ a0 3)))) ((if (q_int h (q_ref σ a0 3) (Int32.toNatClampNeg x4)) ≤ x3 then fX0_dearest_48 σ h a0 x1 x2 x3 x4 else fX0_dearest_48 σ h a0 x1 x4 (q_int h (q_ref σ a0 3) (Int32.toNatClampNeg x4)) x4)))))
noncomputable def fX0_dearest (σ : q_St) (h : q_Hp) (a0 : Nat) (x1 : Int32) : Option Int32 := q_gu ((q_tag σ (q_ref σ a0 3) = 7)) ((q_loop (fun s => fX0_dearest_7 σ h a0 x1 s.1 s.2.1 s.2.2) q_N ((0 : Int32), (-1 : Int32), (0 : Int32))).bind fun o1 => some o1)
def cdX0_dearest : q_Cd := [(0, .iconst 0), (1, .istore_n 2), (2, .iconst (-1)), (3, .istore_n 3), (4, .iconst 0), (5, .istore 4), (7, .iload 4), (9, .aload_n 0), (10, .getfield 21), (13, .arraylength), (14, .if_icmp .ge 40), (17, .iload_n 1), (18, .iload 4), (20, .invokestatic 67), (23, .ifCond .eq 25), (26, .aload_n 0), (27, .getfield 21), (30, .iload 4), (32, .iaload), (33, .iload_n 3), (34, .if_icmp .le 14), (37, .iload 4), (39, .istore_n 2), (40, .aload_n 0), (41, .getfield 21), (44, .iload 4), (46, .iaload), (47, .istore_n 3), (48, .iinc 4 1), (51, .goto (-44)), (54, .iload_n 2), (55, .ireturn)]
set_option maxRecDepth 100000 in
theorem cokX0_dearest : q_cok cX0_dearest cdX0_dearest := by unfold q_cok; decide +kernel
set_option maxRecDepth 100000 in
set_option maxHeartbeats 4000000 in
theorem ctX0_dearest {l : Launch} {D : va_G} {cy : Nat → Nat} {b0 : Nat} {σ : q_St} {h : q_Hp} (a0 : Nat) (x1 : Int32) {r : Int32} (ta0 : q_tag σ a0 = 1) (hf : fX0_dearest σ h a0 x1 = some r) : q_M l yX0_dearest cX0_dearest 5 (some .int) 1 21 0 0 D cy b0 σ h [.ref a0, .int x1] (some (.int r)) σ h := by
  unfold fX0_dearest at hf
  obtain ⟨k0, hf⟩ := q_gu_o hf
  refine q_enter (by decide) (Nat.le_of_ble_eq_true rfl) ?_
  intro p e s m args below meth c C0 hr hlk hnm
  replace C0 : VC p { frames := 1, cells := 0, slots := 0, locals := 21 } s m args meth c D cy b0 5 0 0 RX0 cX0_dearest := C0
  have n7 : ∀ (o : Int32) (s1 : (Int32 × Int32 × Int32)), q_loop (fun s => fX0_dearest_7 σ h a0 x1 s.1 s.2.1 s.2.2) q_N s1 = some o → V p l e { frames := 1, cells := 0, slots := 0, locals := 21 } s m args below meth c (MQ below (q_Qc D cy b0 (some (.int r)) σ h) args s 0 0 (fun q => b0 ≤ q)) D cy b0 5 0 0 0 0 σ h 54 [(2, .int o)] [] → V p l e { frames := 1, cells := 0, slots := 0, locals := 21 } s m args below meth c (MQ below (q_Qc D cy b0 (some (.int r)) σ h) args s 0 0 (fun q => b0 ≤ q)) D cy b0 5 0 0 0 0 σ h 7 [(0, .ref a0), (1, .int x1), (2, .int s1.1), (3, .int s1.2.1), (4, .int s1.2.2)] [] := by
    intro o s1 ho kx1
    refine q_loop_V (P := fun s0 => V p l e { frames := 1, cells := 0, slots := 0, locals := 21 } s m args below meth c (MQ below (q_Qc D cy b0 (some (.int r)) σ h) args s 0 0 (fun q => b0 ≤ q)) D cy b0 5 0 0 0 0 σ h 7 [(0, .ref a0), (1, .int x1), (2, .int s0.1), (3, .int s0.2.1), (4, .int s0.2.2)] []) (o := o) ?_ q_N s1 ho
    intro s2 z1 hf kb1 kr1
    obtain ⟨x2, x3, x4⟩ := s2
    replace hf : fX0_dearest_7 σ h a0 x1 x2 x3 x4 = some z1 := hf
    unfold fX0_dearest_7 at hf
    show V p l e { frames := 1, cells := 0, slots := 0, locals := 21 } s m args below meth c (MQ below (q_Qc D cy b0 (some (.int r)) σ h) args s 0 0 (fun q => b0 ≤ q)) D cy b0 5 0 0 0 0 σ h 7 [(0, .ref a0), (1, .int x1), (2, .int x2), (3, .int x3), (4, .int x4)] []
    have n48 : ∀ (x2 : Int32) (x3 : Int32) (x4 : Int32), fX0_dearest_48 σ h a0 x1 x2 x3 x4 = some z1 → V p l e { frames := 1, cells := 0, slots := 0, locals := 21 } s m args below meth c (MQ below (q_Qc D cy b0 (some (.int r)) σ h) args s 0 0 (fun q => b0 ≤ q)) D cy b0 5 0 0 0 0 σ h 48 [(0, .ref a0), (1, .int x1), (2, .int x2), (3, .int x3), (4, .int x4)] [] := by
      intro x2 x3 x4 hf
      unfold fX0_dearest_48 at hf
      refine v_run C0 tbX0 cokX0_dearest (pc' := 7) (lv' := [(4, .int (x4 + (1 : Int32))), (0, .ref a0), (1, .int x1), (2, .int x2), (3, .int x3)]) (st' := []) (h' := h) 2 rfl trivial ?_
      obtain rfl := Option.some.inj hf
      refine v_pick [1, 2, 3, 4, 0] rfl ?_
      exact kb1 _ rfl
    refine v_run C0 tbX0 cokX0_dearest (pc' := 14) (lv' := [(0, .ref a0), (1, .int x1), (2, .int x2), (3, .int x3), (4, .int x4)]) (st' := [.int (Int32.ofNat (q_len σ (q_ref σ a0 3))), .int x4]) (h' := h) 4 rfl ⟨⟨ta0, q_tn k0⟩, (Or.inl k0), trivial⟩ ?_
    refine v_icmp_ge C0 cokX0_dearest rfl 54 (by decide) hf (fun _ hf => ?_) (fun _ hf => ?_)
    · obtain rfl := Option.some.inj hf
      refine v_pick [2] rfl ?_
      have hx := kr1 _ rfl
      subst hx
      exact kx1
    · refine v_run C0 tbX0 cokX0_dearest (pc' := 20) (lv' := [(0, .ref a0), (1, .int x1), (2, .int x2), (3, .int x3), (4, .int x4)]) (st' := [.int x4, .int x1]) (h' := h) 2 rfl trivial ?_
      obtain ⟨r2, e2, hf⟩ := q_bd hf
      refine v_callSN C0 cokX0_dearest rfl (rest := []) (ctX4_hasBit x1 x4 e2) calX4_hasBit lkX0_67 inX4_hasBit dnX4_hasBit rfl rfl ⟨by decide, by decide⟩ (Nat.le_of_ble_eq_true rfl) (Nat.le_refl _) (Nat.le_refl _) ?_
      refine v_if_eq C0 cokX0_dearest rfl 48 (by decide) hf (fun _ hf => ?_) (fun _ hf => ?_)
      · refine v_pick [0, 1, 2, 3, 4] rfl ?_
        exact n48 x2 x3 x4 hf
      · obtain ⟨g3, hf⟩ := q_gu_o hf
        refine v_run C0 tbX0 cokX0_dearest (pc' := 34) (lv' := [(0, .ref a0), (1, .int x1), (2, .int x2), (3, .int x3), (4, .int x4)]) (st' := [.int x3, .int (q_int h (q_ref σ a0 3) (Int32.toNatClampNeg x4))]) (h' := h) 5 rfl ⟨⟨ta0, q_tn k0⟩, ⟨k0, g3⟩, trivial⟩ ?_
        refine v_icmp_le C0 cokX0_dearest rfl 48 (by decide) hf (fun _ hf => ?_) (fun _ hf => ?_)
        · refine v_pick [0, 1, 2, 3, 4] rfl ?_
          exact n48 x2 x3 x4 hf
        · refine v_run C0 tbX0 cokX0_dearest (pc' := 48) (lv' := [(3, .int (q_int h (q_ref σ a0 3) (Int32.toNatClampNeg x4))), (2, .int x4), (0, .ref a0), (1, .int x1), (4, .int x4)]) (st' := []) (h' := h) 7 rfl ⟨⟨ta0, q_tn k0⟩, ⟨k0, g3⟩, trivial⟩ ?_
          refine v_pick [2, 3, 1, 0, 4] rfl ?_
          exact n48 x4 (q_int h (q_ref σ a0 3) (Int32.toNatClampNeg x4)) x4 hf
  refine v_run C0 tbX0 cokX0_dearest (pc' := 7) (lv' := [(4, .int (0 : Int32)), (3, .int (-1 : Int32)), (2, .int (0 : Int32)), (0, .ref a0), (1, .int x1)]) (st' := []) (h' := h) 6 rfl trivial ?_
  obtain ⟨o1, eo1, hf⟩ := q_bd hf
  refine v_pick [3, 4, 2, 1, 0] rfl ?_
  refine n7 o1 ((0 : Int32), (-1 : Int32), (0 : Int32)) eo1 ?_
  refine v_run C0 tbX0 cokX0_dearest (pc' := 55) (lv' := [(2, .int o1)]) (st' := [.int o1]) (h' := h) 1 rfl trivial ?_
  obtain rfl := Option.some.inj hf
  exact v_iret C0 cokX0_dearest hr hlk rfl
-- BackByNoonOnMonday$Fitting.richest(II)I
noncomputable def fX0_richest_67 (σ : q_St) (h : q_Hp) (a0 : Nat) (x1 : Int32) (x2 : Int32) (x3 : Int32) (x5 : Int32) (s0 : Int32) (s1 : Int32) : Option ((Int32 × Int32 × Int32 × q_Hp) ⊕ (Int32 × q_Hp)) := some (Sum.inl (x3, (s1 + s0), (x5 + (1 : Int32)), h))
noncomputable def fX0_richest_12 (σ : q_St) (a0 : Nat) (x1 : Int32) (x2 : Int32) (x3 : Int32) (x4 : Int32) (x5 : Int32) (h : q_Hp) : Option ((Int32 × Int32 × Int32 × q_Hp) ⊕ (Int32 × q_Hp)) := (if (Int32.ofNat (q_len σ (q_ref σ a0 2))) ≤ x5 then some (Sum.inr (x4, h)) else (if x3 = 0 then some (Sum.inr (x4, h)) else ((fX0_dearest σ h a0 x3).bind fun r3 => (q_b2 (fX0_seat σ h a0 r3 x1) fun r4 h4 => (if r4 = 0 then fX0_richest_67 σ h4 a0 x1 x2 (x3 &&& (((1 : Int32) <<< (r3 &&& 31)) ^^^ (-1 : Int32))) x5 (0 : Int32) x4 else ((fX4_at σ h4 (q_ref σ a0 3) r3).bind fun r5 => fX0_richest_67 σ h4 a0 x1 x2 (x3 &&& (((1 : Int32) <<< (r3 &&& 31)) ^^^ (-1 : Int32))) x5 r5 x4))))))
noncomputable def fX0_richest (σ : q_St) (h : q_Hp) (a0 : Nat) (x1 : Int32) (x2 : Int32) : Option (Int32 × q_Hp) := q_gu ((q_tag σ (q_ref σ a0 2) = 7) ∧ (q_tag σ (q_ref σ a0 3) = 7)) (((fX0_clear σ h a0).bind fun h1 => (q_loop (fun s => fX0_richest_12 σ a0 x1 x2 s.1 s.2.1 s.2.2.1 s.2.2.2) q_N (x2, (0 : Int32), (0 : Int32), h1)).bind fun o2 => some (o2.1, o2.2)))
def cdX0_richest : q_Cd := [(0, .aload_n 0), (1, .invokevirtual 97), (4, .iload_n 2), (5, .istore_n 3), (6, .iconst 0), (7, .istore 4), (9, .iconst 0), (10, .istore 5), (12, .iload 5), (14, .aload_n 0), (15, .getfield 18), (18, .arraylength), (19, .if_icmp .ge 57), (22, .iload_n 3), (23, .ifCond .eq 53), (26, .aload_n 0), (27, .iload_n 3), (28, .invokevirtual 103), (31, .istore 6), (33, .iload_n 3), (34, .iconst 1), (35, .iload 6), (37, .ishl), (38, .iconst (-1)), (39, .ixor), (40, .iand), (41, .istore_n 3), (42, .iload 4), (44, .aload_n 0), (45, .iload 6), (47, .iload_n 1), (48, .invokevirtual 100), (51, .ifCond .eq 15), (54, .aload_n 0), (55, .getfield 21), (58, .iload 6), (60, .invokestatic 63), (63, .goto 4), (66, .iconst 0), (67, .iadd), (68, .istore 4), (70, .iinc 5 1), (73, .goto (-61)), (76, .iload 4), (78, .ireturn)]
set_option maxRecDepth 100000 in
theorem cokX0_richest : q_cok cX0_richest cdX0_richest := by unfold q_cok; decide +kernel
set_option maxRecDepth 100000 in
set_option maxHeartbeats 4000000 in
theorem ctX0_richest {l : Launch} {D : va_G} {cy : Nat → Nat} {b0 : Nat} {σ : q_St} {h : q_Hp} (a0 : Nat) (x1 : Int32) (x2 : Int32) {r : Int32} {h' : q_Hp} (ta0 : q_tag σ a0 = 1) (hf : fX0_richest σ h a0 x1 x2 = some (r, h')) : q_M l yX0_richest cX0_richest 7 (some .int) 3 74 0 0 D cy b0 σ h [.ref a0, .int x1, .int x2] (some (.int r)) σ h' := by
  unfold fX0_richest at hf
  obtain ⟨⟨k0, k1⟩, hf⟩ := q_gu_o hf
  refine q_enter (by decide) (Nat.le_of_ble_eq_true rfl) ?_
  intro p e s m args below meth c C0 hr hlk hnm
  replace C0 : VC p { frames := 3, cells := 0, slots := 0, locals := 74 } s m args meth c D cy b0 7 0 0 RX0 cX0_richest := C0
  have n12 : ∀ (o : (Int32 × q_Hp)) (s1 : (Int32 × Int32 × Int32 × q_Hp)), q_loop (fun s => fX0_richest_12 σ a0 x1 x2 s.1 s.2.1 s.2.2.1 s.2.2.2) q_N s1 = some o → V p l e { frames := 3, cells := 0, slots := 0, locals := 74 } s m args below meth c (MQ below (q_Qc D cy b0 (some (.int r)) σ h') args s 0 0 (fun q => b0 ≤ q)) D cy b0 7 0 0 0 0 σ o.2 76 [(4, .int o.1)] [] → V p l e { frames := 3, cells := 0, slots := 0, locals := 74 } s m args below meth c (MQ below (q_Qc D cy b0 (some (.int r)) σ h') args s 0 0 (fun q => b0 ≤ q)) D cy b0 7 0 0 0 0 σ s1.2.2.2 12 [(0, .ref a0), (1, .int x1), (3, .int s1.1), (4, .int s1.2.1), (5, .int s1.2.2.1)] [] := by
    intro o s1 ho kx1
    refine q_loop_V (P := fun s0 => V p l e { frames := 3, cells := 0, slots := 0, locals := 74 } s m args below meth c (MQ below (q_Qc D cy b0 (some (.int r)) σ h') args s 0 0 (fun q => b0 ≤ q)) D cy b0 7 0 0 0 0 σ s0.2.2.2 12 [(0, .ref a0), (1, .int x1), (3, .int s0.1), (4, .int s0.2.1), (5, .int s0.2.2.1)] []) (o := o) ?_ q_N s1 ho
    intro s2 z1 hf kb1 kr1
    obtain ⟨x3, x4, x5, h⟩ := s2
    replace hf : fX0_richest_12 σ a0 x1 x2 x3 x4 x5 h = some z1 := hf
    unfold fX0_richest_12 at hf
    show V p l e { frames := 3, cells := 0, slots := 0, locals := 74 } s m args below meth c (MQ below (q_Qc D cy b0 (some (.int r)) σ h') args s 0 0 (fun q => b0 ≤ q)) D cy b0 7 0 0 0 0 σ h 12 [(0, .ref a0), (1, .int x1), (3, .int x3), (4, .int x4), (5, .int x5)] []
    have n67 : ∀ (h : q_Hp) (x3 : Int32) (x5 : Int32) (s0 : Int32) (s1 : Int32), fX0_richest_67 σ h a0 x1 x2 x3 x5 s0 s1 = some z1 → V p l e { frames := 3, cells := 0, slots := 0, locals := 74 } s m args below meth c (MQ below (q_Qc D cy b0 (some (.int r)) σ h') args s 0 0 (fun q => b0 ≤ q)) D cy b0 7 0 0 0 0 σ h 67 [(0, .ref a0), (1, .int x1), (3, .int x3), (5, .int x5)] [.int s0, .int s1] := by
      intro h x3 x5 s0 s1 hf
      unfold fX0_richest_67 at hf
      refine v_run C0 tbX0 cokX0_richest (pc' := 12) (lv' := [(5, .int (x5 + (1 : Int32))), (4, .int (s1 + s0)), (0, .ref a0), (1, .int x1), (3, .int x3)]) (st' := []) (h' := h) 4 rfl trivial ?_
      obtain rfl := Option.some.inj hf
      refine v_pick [2, 3, 4, 1, 0] rfl ?_
      exact kb1 _ rfl
    refine v_run C0 tbX0 cokX0_richest (pc' := 19) (lv' := [(0, .ref a0), (1, .int x1), (3, .int x3), (4, .int x4), (5, .int x5)]) (st' := [.int (Int32.ofNat (q_len σ (q_ref σ a0 2))), .int x5]) (h' := h) 4 rfl ⟨⟨ta0, q_tn k0⟩, (Or.inl k0), trivial⟩ ?_
    refine v_icmp_ge C0 cokX0_richest rfl 76 (by decide) hf (fun _ hf => ?_) (fun _ hf => ?_)
    · obtain rfl := Option.some.inj hf
      refine v_pick [3] rfl ?_
      have hx := kr1 _ rfl
      subst hx
      exact kx1
    · refine v_run C0 tbX0 cokX0_richest (pc' := 23) (lv' := [(0, .ref a0), (1, .int x1), (3, .int x3), (4, .int x4), (5, .int x5)]) (st' := [.int x3]) (h' := h) 1 rfl trivial ?_
      refine v_if_eq C0 cokX0_richest rfl 76 (by decide) hf (fun _ hf => ?_) (fun _ hf => ?_)
      · obtain rfl := Option.some.inj hf
        refine v_pick [3] rfl ?_
        have hx := kr1 _ rfl
        subst hx
        exact kx1
      · refine v_run C0 tbX0 cokX0_richest (pc' := 28) (lv' := [(0, .ref a0), (1, .int x1), (3, .int x3), (4, .int x4), (5, .int x5)]) (st' := [.int x3, .ref a0]) (h' := h) 2 rfl trivial ?_
        obtain ⟨r3, e3, hf⟩ := q_bd hf
        refine v_callV C0 cokX0_richest rfl (rest := []) (ctX0_dearest a0 x3 ta0 e3) calX0_dearest lkX0_103 inX0_dearest dnX0_dearest (ci := 0) ⟨rfl, by decide⟩ ta0 rfl rfl ⟨by decide, by decide⟩ (Nat.le_of_ble_eq_true rfl) (Nat.le_refl _) (Nat.le_refl _) ?_
        refine v_run C0 tbX0 cokX0_richest (pc' := 48) (lv' := [(3, .int (x3 &&& (((1 : Int32) <<< (r3 &&& 31)) ^^^ (-1 : Int32)))), (6, .int r3), (0, .ref a0), (1, .int x1), (4, .int x4), (5, .int x5)]) (st' := [.int x1, .int r3, .ref a0, .int x4]) (h' := h) 13 rfl trivial ?_
        obtain ⟨r4, h4, e4, hf⟩ := q_bd2 hf
        refine v_callV C0 cokX0_richest rfl (rest := [.int x4]) (ctX0_seat a0 r3 x1 ta0 e4) calX0_seat lkX0_100 inX0_seat dnX0_seat (ci := 0) ⟨rfl, by decide⟩ ta0 rfl rfl ⟨by decide, by decide⟩ (Nat.le_of_ble_eq_true rfl) (Nat.le_refl _) (Nat.le_refl _) ?_
        refine v_if_eq C0 cokX0_richest rfl 66 (by decide) hf (fun _ hf => ?_) (fun _ hf => ?_)
        · refine v_run C0 tbX0 cokX0_richest (pc' := 67) (lv' := [(3, .int (x3 &&& (((1 : Int32) <<< (r3 &&& 31)) ^^^ (-1 : Int32)))), (6, .int r3), (0, .ref a0), (1, .int x1), (4, .int x4), (5, .int x5)]) (st' := [.int (0 : Int32), .int x4]) (h' := h4) 1 rfl trivial ?_
          refine v_pick [2, 3, 0, 5] rfl ?_
          exact n67 h4 (x3 &&& (((1 : Int32) <<< (r3 &&& 31)) ^^^ (-1 : Int32))) x5 (0 : Int32) x4 hf
        · refine v_run C0 tbX0 cokX0_richest (pc' := 60) (lv' := [(3, .int (x3 &&& (((1 : Int32) <<< (r3 &&& 31)) ^^^ (-1 : Int32)))), (6, .int r3), (0, .ref a0), (1, .int x1), (4, .int x4), (5, .int x5)]) (st' := [.int r3, .ref (q_ref σ a0 3), .int x4]) (h' := h4) 3 rfl ⟨⟨ta0, q_tn k1⟩, trivial⟩ ?_
          obtain ⟨r5, e5, hf⟩ := q_bd hf
          refine v_callSN C0 cokX0_richest rfl (rest := [.int x4]) (ctX4_at (q_ref σ a0 3) r3 k1 e5) calX4_at lkX0_63 inX4_at dnX4_at rfl rfl ⟨by decide, by decide⟩ (Nat.le_of_ble_eq_true rfl) (Nat.le_refl _) (Nat.le_refl _) ?_
          refine v_run C0 tbX0 cokX0_richest (pc' := 67) (lv' := [(3, .int (x3 &&& (((1 : Int32) <<< (r3 &&& 31)) ^^^ (-1 : Int32)))), (6, .int r3), (0, .ref a0), (1, .int x1), (4, .int x4), (5, .int x5)]) (st' := [.int r5, .int x4]) (h' := h4) 1 rfl trivial ?_
          refine v_pick [2, 3, 0, 5] rfl ?_
          exact n67 h4 (x3 &&& (((1 : Int32) <<< (r3 &&& 31)) ^^^ (-1 : Int32))) x5 r5 x4 hf
  refine v_run C0 tbX0 cokX0_richest (pc' := 1) (lv' := [(0, .ref a0), (1, .int x1), (2, .int x2)]) (st' := [.ref a0]) (h' := h) 1 rfl trivial ?_
  obtain ⟨h1, e1, hf⟩ := q_bd hf
  refine v_callV C0 cokX0_richest rfl (rest := []) (ctX0_clear a0 ta0 e1) calX0_clear lkX0_97 inX0_clear dnX0_clear (ci := 0) ⟨rfl, by decide⟩ ta0 rfl rfl ⟨by decide, by decide⟩ (Nat.le_of_ble_eq_true rfl) (Nat.le_refl _) (Nat.le_refl _) ?_
  refine v_run C0 tbX0 cokX0_richest (pc' := 12) (lv' := [(5, .int (0 : Int32)), (4, .int (0 : Int32)), (3, .int x2), (0, .ref a0), (1, .int x1), (2, .int x2)]) (st' := []) (h' := h1) 6 rfl trivial ?_
  obtain ⟨o2, eo2, hf⟩ := q_bd hf
  refine v_pick [3, 4, 2, 1, 0] rfl ?_
  refine n12 o2 (x2, (0 : Int32), (0 : Int32), h1) eo2 ?_
  refine v_run C0 tbX0 cokX0_richest (pc' := 78) (lv' := [(4, .int o2.1)]) (st' := [.int o2.1]) (h' := o2.2) 1 rfl trivial ?_
  obtain ⟨rfl, rfl⟩ := Prod.mk.inj (Option.some.inj hf)
  exact v_iret C0 cokX0_richest hr hlk rfl
-- BackByNoonOnMonday$Fitting.leastKeeping(IIII)I
noncomputable def fX0_leastKeeping_73 (σ : q_St) (h : q_Hp) (a0 : Nat) (x1 : Int32) (x2 : Int32) (x3 : Int32) (x4 : Int32) (x5 : Int32) : Option ((Int32 × q_Hp) ⊕ (q_Hp ⊕ (Int32 × q_Hp))) := some (Sum.inl ((x5 + (1 : Int32)), h))
noncomputable def fX0_leastKeeping_43 (σ : q_St) (h : q_Hp) (a0 : Nat) (x1 : Int32) (x2 : Int32) (x3 : Int32) (x4 : Int32) (x5 : Int32) (s0 : Int32) : Option ((Int32 × q_Hp) ⊕ (q_Hp ⊕ (Int32 × q_Hp))) := (if s0 = 0 then fX0_leastKeeping_73 σ h a0 x1 x2 x3 x4 x5 else (q_b2 (fX0_most σ h a0 x2 (x3 &&& (((1 : Int32) <<< (x5 &&& 31)) ^^^ (-1 : Int32)))) fun r6 h6 => (if r6 = (x4 - (1 : Int32)) then some (Sum.inr (Sum.inr (x5, h6))) else fX0_leastKeeping_73 σ h6 a0 x1 x2 x3 x4 x5)))
noncomputable def fX0_leastKeeping_42 (σ : q_St) (h : q_Hp) (a0 : Nat) (x1 : Int32) (x2 : Int32) (x3 : Int32) (x4 : Int32) (x5 : Int32) : Option ((Int32 × q_Hp) ⊕ (q_Hp ⊕ (Int32 × q_Hp))) := fX0_leastKeeping_43 σ h a0 x1 x2 x3 x4 x5 (0 : Int32)
noncomputable def fX0_leastKeeping_3 (σ : q_St) (a0 : Nat) (x1 : Int32) (x2 : Int32) (x3 : Int32) (x4 : Int32) (x5 : Int32) (h : q_Hp) : Option ((Int32 × q_Hp) ⊕ (q_Hp ⊕ (Int32 × q_Hp))) := (if (Int32.ofNat (q_len σ (q_ref σ a0 2))) ≤ x5 then some (Sum.inr (Sum.inl h)) else ((fX4_hasBit σ h x3 x5).bind fun r3 => (if r3 = 0 then fX0_leastKeeping_42 σ h a0 x1 x2 x3 x4 x5 else ((fX4_at σ h (q_ref σ a0 2) x5).bind fun r4 => ((fX4_hasBit σ h r4 x1).bind fun r5 => (if r5 = 0 then fX0_leastKeeping_42 σ h a0 x1 x2 x3 x4 x5 else fX0_leastKeeping_43 σ h a0 x1 x2 x3 x4 x5 (1 : Int32)))))))
noncomputable def fX0_leastKeeping (σ : q_St) (h : q_Hp) (a0 : Nat) (x1 : Int32) (x2 : Int32) (x3 : Int32) (x4 : Int32) : Option (Int32 × q_Hp) := q_gu ((q_tag σ (q_ref σ a0 2) = 7)) ((q_loop (fun s => fX0_leastKeeping_3 σ a0 x1 x2 x3 x4 s.1 s.2) q_N ((0 : Int32), h)).bind fun o1 => q_el o1 fun w2 => some ((9 : Int32), w2))
def cdX0_leastKeeping : q_Cd := [(0, .iconst 0), (1, .istore 5), (3, .iload 5), (5, .aload_n 0), (6, .getfield 18), (9, .arraylength), (10, .if_icmp .ge 69), (13, .iload_n 3), (14, .iload 5), (16, .invokestatic 67), (19, .ifCond .eq 23), (22, .aload_n 0), (23, .getfield 18), (26, .iload 5), (28, .invokestatic 63), (31, .iload_n 1), (32, .invokestatic 67), (35, .ifCond .eq 7), (38, .iconst 1), (39, .goto 4), (42, .iconst 0), (43, .istore 6), (45, .iload 6), (47, .ifCond .eq 26), (50, .aload_n 0), (51, .iload_n 2), (52, .iload_n 3), (53, .iconst 1), (54, .iload 5), (56, .ishl), (57, .iconst (-1)), (58, .ixor), (59, .iand), (60, .invokevirtual 106), (63, .iload 4), (65, .iconst 1), (66, .isub), (67, .if_icmp .ne 6), (70, .iload 5), (72, .ireturn), (73, .iinc 5 1), (76, .goto (-73)), (79, .bipush 9), (81, .ireturn)]
set_option maxRecDepth 100000 in
theorem cokX0_leastKeeping : q_cok cX0_leastKeeping cdX0_leastKeeping := by unfold q_cok; decide +kernel
set_option maxRecDepth 100000 in
set_option maxHeartbeats 4000000 in
theorem ctX0_leastKeeping {l : Launch} {D : va_G} {cy : Nat → Nat} {b0 : Nat} {σ : q_St} {h : q_Hp} (a0 : Nat) (x1 : Int32) (x2 : Int32) (x3 : Int32) (x4 : Int32) {r : Int32} {h' : q_Hp} (ta0 : q_tag σ a0 = 1) (hf : fX0_leastKeeping σ h a0 x1 x2 x3 x4 = some (r, h')) : q_M l yX0_leastKeeping cX0_leastKeeping 7 (some .int) 4 98 0 0 D cy b0 σ h [.ref a0, .int x1, .int x2, .int x3, .int x4] (some (.int r)) σ h' := by
  unfold fX0_leastKeeping at hf
  obtain ⟨k0, hf⟩ := q_gu_o hf
  refine q_enter (by decide) (Nat.le_of_ble_eq_true rfl) ?_
  intro p e s m args below meth c C0 hr hlk hnm
  replace C0 : VC p { frames := 4, cells := 0, slots := 0, locals := 98 } s m args meth c D cy b0 7 0 0 RX0 cX0_leastKeeping := C0
  have n3 : ∀ (o : (q_Hp ⊕ (Int32 × q_Hp))) (s1 : (Int32 × q_Hp)), q_loop (fun s => fX0_leastKeeping_3 σ a0 x1 x2 x3 x4 s.1 s.2) q_N s1 = some o → (∀ w0 : q_Hp, Sum.inl w0 = o → V p l e { frames := 4, cells := 0, slots := 0, locals := 98 } s m args below meth c (MQ below (q_Qc D cy b0 (some (.int r)) σ h') args s 0 0 (fun q => b0 ≤ q)) D cy b0 7 0 0 0 0 σ w0 79 [] []) → (∀ r0 : (Int32 × q_Hp), Sum.inr r0 = o → (some r0 : Option (Int32 × q_Hp)) = some (r, h')) → V p l e { frames := 4, cells := 0, slots := 0, locals := 98 } s m args below meth c (MQ below (q_Qc D cy b0 (some (.int r)) σ h') args s 0 0 (fun q => b0 ≤ q)) D cy b0 7 0 0 0 0 σ s1.2 3 [(0, .ref a0), (1, .int x1), (2, .int x2), (3, .int x3), (4, .int x4), (5, .int s1.1)] [] := by
    intro o s1 ho kx1 ke1
    refine q_loop_V (P := fun s0 => V p l e { frames := 4, cells := 0, slots := 0, locals := 98 } s m args below meth c (MQ below (q_Qc D cy b0 (some (.int r)) σ h') args s 0 0 (fun q => b0 ≤ q)) D cy b0 7 0 0 0 0 σ s0.2 3 [(0, .ref a0), (1, .int x1), (2, .int x2), (3, .int x3), (4, .int x4), (5, .int s0.1)] []) (o := o) ?_ q_N s1 ho
    intro s2 z1 hf kb1 kr1
    obtain ⟨x5, h⟩ := s2
    replace hf : fX0_leastKeeping_3 σ a0 x1 x2 x3 x4 x5 h = some z1 := hf
    unfold fX0_leastKeeping_3 at hf
    show V p l e { frames := 4, cells := 0, slots := 0, locals := 98 } s m args below meth c (MQ below (q_Qc D cy b0 (some (.int r)) σ h') args s 0 0 (fun q => b0 ≤ q)) D cy b0 7 0 0 0 0 σ h 3 [(0, .ref a0), (1, .int x1), (2, .int x2), (3, .int x3), (4, .int x4), (5, .int x5)] []
    have n73 : ∀ (h : q_Hp) (x5 : Int32), fX0_leastKeeping_73 σ h a0 x1 x2 x3 x4 x5 = some z1 → V p l e { frames := 4, cells := 0, slots := 0, locals := 98 } s m args below meth c (MQ below (q_Qc D cy b0 (some (.int r)) σ h') args s 0 0 (fun q => b0 ≤ q)) D cy b0 7 0 0 0 0 σ h 73 [(0, .ref a0), (1, .int x1), (2, .int x2), (3, .int x3), (4, .int x4), (5, .int x5)] [] := by
      intro h x5 hf
      unfold fX0_leastKeeping_73 at hf
      refine v_run C0 tbX0 cokX0_leastKeeping (pc' := 3) (lv' := [(5, .int (x5 + (1 : Int32))), (0, .ref a0), (1, .int x1), (2, .int x2), (3, .int x3), (4, .int x4)]) (st' := []) (h' := h) 2 rfl trivial ?_
      obtain rfl := Option.some.inj hf
      refine v_pick [1, 2, 3, 4, 5, 0] rfl ?_
      exact kb1 _ rfl
    have n43 : ∀ (h : q_Hp) (x5 : Int32) (s0 : Int32), fX0_leastKeeping_43 σ h a0 x1 x2 x3 x4 x5 s0 = some z1 → V p l e { frames := 4, cells := 0, slots := 0, locals := 98 } s m args below meth c (MQ below (q_Qc D cy b0 (some (.int r)) σ h') args s 0 0 (fun q => b0 ≤ q)) D cy b0 7 0 0 0 0 σ h 43 [(0, .ref a0), (1, .int x1), (2, .int x2), (3, .int x3), (4, .int x4), (5, .int x5)] [.int s0] := by
      intro h x5 s0 hf
      unfold fX0_leastKeeping_43 at hf
      refine v_run C0 tbX0 cokX0_leastKeeping (pc' := 47) (lv' := [(6, .int s0), (0, .ref a0), (1, .int x1), (2, .int x2), (3, .int x3), (4, .int x4), (5, .int x5)]) (st' := [.int s0]) (h' := h) 2 rfl trivial ?_
      refine v_if_eq C0 cokX0_leastKeeping rfl 73 (by decide) hf (fun _ hf => ?_) (fun _ hf => ?_)
      · refine v_pick [1, 2, 3, 4, 5, 6] rfl ?_
        exact n73 h x5 hf
      · refine v_run C0 tbX0 cokX0_leastKeeping (pc' := 60) (lv' := [(6, .int s0), (0, .ref a0), (1, .int x1), (2, .int x2), (3, .int x3), (4, .int x4), (5, .int x5)]) (st' := [.int (x3 &&& (((1 : Int32) <<< (x5 &&& 31)) ^^^ (-1 : Int32))), .int x2, .ref a0]) (h' := h) 9 rfl trivial ?_
        obtain ⟨r6, h6, e6, hf⟩ := q_bd2 hf
        refine v_callV C0 cokX0_leastKeeping rfl (rest := []) (ctX0_most a0 x2 (x3 &&& (((1 : Int32) <<< (x5 &&& 31)) ^^^ (-1 : Int32))) ta0 e6) calX0_most lkX0_106 inX0_most dnX0_most (ci := 0) ⟨rfl, by decide⟩ ta0 rfl rfl ⟨by decide, by decide⟩ (Nat.le_of_ble_eq_true rfl) (Nat.le_refl _) (Nat.le_refl _) ?_
        refine v_run C0 tbX0 cokX0_leastKeeping (pc' := 67) (lv' := [(6, .int s0), (0, .ref a0), (1, .int x1), (2, .int x2), (3, .int x3), (4, .int x4), (5, .int x5)]) (st' := [.int (x4 - (1 : Int32)), .int r6]) (h' := h6) 3 rfl trivial ?_
        refine v_icmp_ne C0 cokX0_leastKeeping rfl 73 (by decide) hf (fun _ hf => ?_) (fun _ hf => ?_)
        · refine v_run C0 tbX0 cokX0_leastKeeping (pc' := 72) (lv' := [(6, .int s0), (0, .ref a0), (1, .int x1), (2, .int x2), (3, .int x3), (4, .int x4), (5, .int x5)]) (st' := [.int x5]) (h' := h6) 1 rfl trivial ?_
          obtain rfl := Option.some.inj hf
          have hf := ke1 _ (kr1 _ rfl)
          obtain ⟨rfl, rfl⟩ := Prod.mk.inj (Option.some.inj hf)
          exact v_iret C0 cokX0_leastKeeping hr hlk rfl
        · refine v_pick [1, 2, 3, 4, 5, 6] rfl ?_
          exact n73 h6 x5 hf
    have n42 : ∀ (h : q_Hp) (x5 : Int32), fX0_leastKeeping_42 σ h a0 x1 x2 x3 x4 x5 = some z1 → V p l e { frames := 4, cells := 0, slots := 0, locals := 98 } s m args below meth c (MQ below (q_Qc D cy b0 (some (.int r)) σ h') args s 0 0 (fun q => b0 ≤ q)) D cy b0 7 0 0 0 0 σ h 42 [(0, .ref a0), (1, .int x1), (2, .int x2), (3, .int x3), (4, .int x4), (5, .int x5)] [] := by
      intro h x5 hf
      unfold fX0_leastKeeping_42 at hf
      refine v_run C0 tbX0 cokX0_leastKeeping (pc' := 43) (lv' := [(0, .ref a0), (1, .int x1), (2, .int x2), (3, .int x3), (4, .int x4), (5, .int x5)]) (st' := [.int (0 : Int32)]) (h' := h) 1 rfl trivial ?_
      refine v_pick [0, 1, 2, 3, 4, 5] rfl ?_
      exact n43 h x5 (0 : Int32) hf
    refine v_run C0 tbX0 cokX0_leastKeeping (pc' := 10) (lv' := [(0, .ref a0), (1, .int x1), (2, .int x2), (3, .int x3), (4, .int x4), (5, .int x5)]) (st' := [.int (Int32.ofNat (q_len σ (q_ref σ a0 2))), .int x5]) (h' := h) 4 rfl ⟨⟨ta0, q_tn k0⟩, (Or.inl k0), trivial⟩ ?_
    refine v_icmp_ge C0 cokX0_leastKeeping rfl 79 (by decide) hf (fun _ hf => ?_) (fun _ hf => ?_)
    · obtain rfl := Option.some.inj hf
      refine v_pick [] rfl ?_
      exact kx1 _ (kr1 _ rfl)
    · refine v_run C0 tbX0 cokX0_leastKeeping (pc' := 16) (lv' := [(0, .ref a0), (1, .int x1), (2, .int x2), (3, .int x3), (4, .int x4), (5, .int x5)]) (st' := [.int x5, .int x3]) (h' := h) 2 rfl trivial ?_
      obtain ⟨r3, e3, hf⟩ := q_bd hf
      refine v_callSN C0 cokX0_leastKeeping rfl (rest := []) (ctX4_hasBit x3 x5 e3) calX4_hasBit lkX0_67 inX4_hasBit dnX4_hasBit rfl rfl ⟨by decide, by decide⟩ (Nat.le_of_ble_eq_true rfl) (Nat.le_refl _) (Nat.le_refl _) ?_
      refine v_if_eq C0 cokX0_leastKeeping rfl 42 (by decide) hf (fun _ hf => ?_) (fun _ hf => ?_)
      · refine v_pick [0, 1, 2, 3, 4, 5] rfl ?_
        exact n42 h x5 hf
      · refine v_run C0 tbX0 cokX0_leastKeeping (pc' := 28) (lv' := [(0, .ref a0), (1, .int x1), (2, .int x2), (3, .int x3), (4, .int x4), (5, .int x5)]) (st' := [.int x5, .ref (q_ref σ a0 2)]) (h' := h) 3 rfl ⟨⟨ta0, q_tn k0⟩, trivial⟩ ?_
        obtain ⟨r4, e4, hf⟩ := q_bd hf
        refine v_callSN C0 cokX0_leastKeeping rfl (rest := []) (ctX4_at (q_ref σ a0 2) x5 k0 e4) calX4_at lkX0_63 inX4_at dnX4_at rfl rfl ⟨by decide, by decide⟩ (Nat.le_of_ble_eq_true rfl) (Nat.le_refl _) (Nat.le_refl _) ?_
        refine v_run C0 tbX0 cokX0_leastKeeping (pc' := 32) (lv' := [(0, .ref a0), (1, .int x1), (2, .int x2), (3, .int x3), (4, .int x4), (5, .int x5)]) (st' := [.int x1, .int r4]) (h' := h) 1 rfl trivial ?_
        obtain ⟨r5, e5, hf⟩ := q_bd hf
        refine v_callSN C0 cokX0_leastKeeping rfl (rest := []) (ctX4_hasBit r4 x1 e5) calX4_hasBit lkX0_67 inX4_hasBit dnX4_hasBit rfl rfl ⟨by decide, by decide⟩ (Nat.le_of_ble_eq_true rfl) (Nat.le_refl _) (Nat.le_refl _) ?_
        refine v_if_eq C0 cokX0_leastKeeping rfl 42 (by decide) hf (fun _ hf => ?_) (fun _ hf => ?_)
        · refine v_pick [0, 1, 2, 3, 4, 5] rfl ?_
          exact n42 h x5 hf
        · refine v_run C0 tbX0 cokX0_leastKeeping (pc' := 43) (lv' := [(0, .ref a0), (1, .int x1), (2, .int x2), (3, .int x3), (4, .int x4), (5, .int x5)]) (st' := [.int (1 : Int32)]) (h' := h) 2 rfl trivial ?_
          refine v_pick [0, 1, 2, 3, 4, 5] rfl ?_
          exact n43 h x5 (1 : Int32) hf
  refine v_run C0 tbX0 cokX0_leastKeeping (pc' := 3) (lv' := [(5, .int (0 : Int32)), (0, .ref a0), (1, .int x1), (2, .int x2), (3, .int x3), (4, .int x4)]) (st' := []) (h' := h) 2 rfl trivial ?_
  obtain ⟨o1, eo1, hf⟩ := q_bd hf
  refine v_pick [1, 2, 3, 4, 5, 0] rfl ?_
  refine n3 o1 ((0 : Int32), h) eo1 (fun w2 hx => ?_) (fun r0 hx => ?_)
  · rw [← hx] at hf
    replace hf := q_el_l hf
    refine v_run C0 tbX0 cokX0_leastKeeping (pc' := 81) (lv' := []) (st' := [.int (9 : Int32)]) (h' := w2) 1 rfl trivial ?_
    obtain ⟨rfl, rfl⟩ := Prod.mk.inj (Option.some.inj hf)
    exact v_iret C0 cokX0_leastKeeping hr hlk rfl
  · rw [← hx] at hf
    exact hf
-- BackByNoonOnMonday$Fitting.chooseFirst()I
noncomputable def fX0_chooseFirst_101 (σ : q_St) (h : q_Hp) (a0 : Nat) (x1 : Int32) (x2 : Int32) (x3 : Int32) (x4 : Int32) : Option ((Int32 × Int32 × Int32 × Int32 × q_Hp) ⊕ (Int32 × q_Hp)) := some (Sum.inl (x1, x2, x3, (x4 + (1 : Int32)), h))
noncomputable def fX0_chooseFirst_71 (σ : q_St) (h : q_Hp) (a0 : Nat) (x1 : Int32) (x2 : Int32) (x3 : Int32) (x4 : Int32) (s0 : Int32) : Option ((Int32 × Int32 × Int32 × Int32 × q_Hp) ⊕ (Int32 × q_Hp)) := q_gu ((vp_in x4 (q_len σ (q_ref σ a0 8)))) ((if s0 = (9 : Int32) then fX0_chooseFirst_101 σ (q_si h (q_ref σ a0 8) (Int32.toNatClampNeg x4) s0) a0 x1 x2 x3 x4 else fX0_chooseFirst_101 σ (q_si h (q_ref σ a0 8) (Int32.toNatClampNeg x4) s0) a0 (x1 + (-1 : Int32)) (x2 &&& (((1 : Int32) <<< (s0 &&& 31)) ^^^ (-1 : Int32))) x3 x4))
noncomputable def fX0_chooseFirst_26 (σ : q_St) (a0 : Nat) (x1 : Int32) (x2 : Int32) (x3 : Int32) (x4 : Int32) (h : q_Hp) : Option ((Int32 × Int32 × Int32 × Int32 × q_Hp) ⊕ (Int32 × q_Hp)) := (if (Int32.ofNat (q_len σ (q_ref σ a0 8))) ≤ x4 then some (Sum.inr (x2, h)) else ((fX4_hasBit σ h (q_int h a0 9) x4).bind fun r3 => (if r3 = 0 then fX0_chooseFirst_71 σ h a0 x1 x2 (x3 &&& (((1 : Int32) <<< (x4 &&& 31)) ^^^ (-1 : Int32))) x4 (9 : Int32) else (q_b2 (fX0_leastKeeping σ h a0 x4 (x3 &&& (((1 : Int32) <<< (x4 &&& 31)) ^^^ (-1 : Int32))) x2 x1) fun r4 h4 => fX0_chooseFirst_71 σ h4 a0 x1 x2 (x3 &&& (((1 : Int32) <<< (x4 &&& 31)) ^^^ (-1 : Int32))) x4 r4))))
noncomputable def fX0_chooseFirst (σ : q_St) (h : q_Hp) (a0 : Nat) : Option (Int32 × q_Hp) := q_gu ((q_tag σ (q_ref σ a0 8) = 7)) ((q_b2 (fX0_most σ h a0 (q_int h a0 9) (q_int h a0 10)) fun r1 h1 => (q_loop (fun s => fX0_chooseFirst_26 σ a0 s.1 s.2.1 s.2.2.1 s.2.2.2.1 s.2.2.2.2) q_N (r1, (q_int h1 a0 10), (q_int h1 a0 9), (0 : Int32), h1)).bind fun o2 => some (o2.1, o2.2)))
def cdX0_chooseFirst : q_Cd := [(0, .aload_n 0), (1, .aload_n 0), (2, .getfield 39), (5, .aload_n 0), (6, .getfield 43), (9, .invokevirtual 106), (12, .istore_n 1), (13, .aload_n 0), (14, .getfield 43), (17, .istore_n 2), (18, .aload_n 0), (19, .getfield 39), (22, .istore_n 3), (23, .iconst 0), (24, .istore 4), (26, .iload 4), (28, .aload_n 0), (29, .getfield 36), (32, .arraylength), (33, .if_icmp .ge 74), (36, .iload_n 3), (37, .iconst 1), (38, .iload 4), (40, .ishl), (41, .iconst (-1)), (42, .ixor), (43, .iand), (44, .istore_n 3), (45, .aload_n 0), (46, .getfield 39), (49, .iload 4), (51, .invokestatic 67), (54, .ifCond .eq 15), (57, .aload_n 0), (58, .iload 4), (60, .iload_n 3), (61, .iload_n 2), (62, .iload_n 1), (63, .invokevirtual 110), (66, .goto 5), (69, .bipush 9), (71, .istore 5), (73, .aload_n 0), (74, .getfield 36), (77, .iload 4), (79, .iload 5), (81, .iastore), (82, .iload 5), (84, .bipush 9), (86, .if_icmp .eq 15), (89, .iload_n 2), (90, .iconst 1), (91, .iload 5), (93, .ishl), (94, .iconst (-1)), (95, .ixor), (96, .iand), (97, .istore_n 2), (98, .iinc 1 (-1)), (101, .iinc 4 1), (104, .goto (-78)), (107, .iload_n 2), (108, .ireturn)]
set_option maxRecDepth 100000 in
theorem cokX0_chooseFirst : q_cok cX0_chooseFirst cdX0_chooseFirst := by unfold q_cok; decide +kernel
set_option maxRecDepth 100000 in
set_option maxHeartbeats 4000000 in
theorem ctX0_chooseFirst {l : Launch} {D : va_G} {cy : Nat → Nat} {b0 : Nat} {σ : q_St} {h : q_Hp} (a0 : Nat) {r : Int32} {h' : q_Hp} (ta0 : q_tag σ a0 = 1) (hf : fX0_chooseFirst σ h a0 = some (r, h')) : q_M l yX0_chooseFirst cX0_chooseFirst 6 (some .int) 5 124 0 0 D cy b0 σ h [.ref a0] (some (.int r)) σ h' := by
  unfold fX0_chooseFirst at hf
  obtain ⟨k0, hf⟩ := q_gu_o hf
  refine q_enter (by decide) (Nat.le_of_ble_eq_true rfl) ?_
  intro p e s m args below meth c C0 hr hlk hnm
  replace C0 : VC p { frames := 5, cells := 0, slots := 0, locals := 124 } s m args meth c D cy b0 6 0 0 RX0 cX0_chooseFirst := C0
  have n26 : ∀ (o : (Int32 × q_Hp)) (s1 : (Int32 × Int32 × Int32 × Int32 × q_Hp)), q_loop (fun s => fX0_chooseFirst_26 σ a0 s.1 s.2.1 s.2.2.1 s.2.2.2.1 s.2.2.2.2) q_N s1 = some o → V p l e { frames := 5, cells := 0, slots := 0, locals := 124 } s m args below meth c (MQ below (q_Qc D cy b0 (some (.int r)) σ h') args s 0 0 (fun q => b0 ≤ q)) D cy b0 6 0 0 0 0 σ o.2 107 [(2, .int o.1)] [] → V p l e { frames := 5, cells := 0, slots := 0, locals := 124 } s m args below meth c (MQ below (q_Qc D cy b0 (some (.int r)) σ h') args s 0 0 (fun q => b0 ≤ q)) D cy b0 6 0 0 0 0 σ s1.2.2.2.2 26 [(0, .ref a0), (1, .int s1.1), (2, .int s1.2.1), (3, .int s1.2.2.1), (4, .int s1.2.2.2.1)] [] := by
    intro o s1 ho kx1
    refine q_loop_V (P := fun s0 => V p l e { frames := 5, cells := 0, slots := 0, locals := 124 } s m args below meth c (MQ below (q_Qc D cy b0 (some (.int r)) σ h') args s 0 0 (fun q => b0 ≤ q)) D cy b0 6 0 0 0 0 σ s0.2.2.2.2 26 [(0, .ref a0), (1, .int s0.1), (2, .int s0.2.1), (3, .int s0.2.2.1), (4, .int s0.2.2.2.1)] []) (o := o) ?_ q_N s1 ho
    intro s2 z1 hf kb1 kr1
    obtain ⟨x1, x2, x3, x4, h⟩ := s2
    replace hf : fX0_chooseFirst_26 σ a0 x1 x2 x3 x4 h = some z1 := hf
    unfold fX0_chooseFirst_26 at hf
    show V p l e { frames := 5, cells := 0, slots := 0, locals := 124 } s m args below meth c (MQ below (q_Qc D cy b0 (some (.int r)) σ h') args s 0 0 (fun q => b0 ≤ q)) D cy b0 6 0 0 0 0 σ h 26 [(0, .ref a0), (1, .int x1), (2, .int x2), (3, .int x3), (4, .int x4)] []
    have n101 : ∀ (h : q_Hp) (x1 : Int32) (x2 : Int32) (x3 : Int32) (x4 : Int32), fX0_chooseFirst_101 σ h a0 x1 x2 x3 x4 = some z1 → V p l e { frames := 5, cells := 0, slots := 0, locals := 124 } s m args below meth c (MQ below (q_Qc D cy b0 (some (.int r)) σ h') args s 0 0 (fun q => b0 ≤ q)) D cy b0 6 0 0 0 0 σ h 101 [(0, .ref a0), (1, .int x1), (2, .int x2), (3, .int x3), (4, .int x4)] [] := by
      intro h x1 x2 x3 x4 hf
      unfold fX0_chooseFirst_101 at hf
      refine v_run C0 tbX0 cokX0_chooseFirst (pc' := 26) (lv' := [(4, .int (x4 + (1 : Int32))), (0, .ref a0), (1, .int x1), (2, .int x2), (3, .int x3)]) (st' := []) (h' := h) 2 rfl trivial ?_
      obtain rfl := Option.some.inj hf
      refine v_pick [1, 2, 3, 4, 0] rfl ?_
      exact kb1 _ rfl
    have n71 : ∀ (h : q_Hp) (x1 : Int32) (x2 : Int32) (x3 : Int32) (x4 : Int32) (s0 : Int32), fX0_chooseFirst_71 σ h a0 x1 x2 x3 x4 s0 = some z1 → V p l e { frames := 5, cells := 0, slots := 0, locals := 124 } s m args below meth c (MQ below (q_Qc D cy b0 (some (.int r)) σ h') args s 0 0 (fun q => b0 ≤ q)) D cy b0 6 0 0 0 0 σ h 71 [(0, .ref a0), (1, .int x1), (2, .int x2), (3, .int x3), (4, .int x4)] [.int s0] := by
      intro h x1 x2 x3 x4 s0 hf
      unfold fX0_chooseFirst_71 at hf
      obtain ⟨g5, hf⟩ := q_gu_o hf
      refine v_run C0 tbX0 cokX0_chooseFirst (pc' := 86) (lv' := [(5, .int s0), (0, .ref a0), (1, .int x1), (2, .int x2), (3, .int x3), (4, .int x4)]) (st' := [.int (9 : Int32), .int s0]) (h' := (q_si h (q_ref σ a0 8) (Int32.toNatClampNeg x4) s0)) 8 rfl ⟨⟨ta0, q_tn k0⟩, ⟨k0, g5⟩, trivial⟩ ?_
      refine v_icmp_eq C0 cokX0_chooseFirst rfl 101 (by decide) hf (fun _ hf => ?_) (fun _ hf => ?_)
      · refine v_pick [1, 2, 3, 4, 5] rfl ?_
        exact n101 (q_si h (q_ref σ a0 8) (Int32.toNatClampNeg x4) s0) x1 x2 x3 x4 hf
      · refine v_run C0 tbX0 cokX0_chooseFirst (pc' := 101) (lv' := [(1, .int (x1 + (-1 : Int32))), (2, .int (x2 &&& (((1 : Int32) <<< (s0 &&& 31)) ^^^ (-1 : Int32)))), (5, .int s0), (0, .ref a0), (3, .int x3), (4, .int x4)]) (st' := []) (h' := (q_si h (q_ref σ a0 8) (Int32.toNatClampNeg x4) s0)) 9 rfl trivial ?_
        refine v_pick [3, 0, 1, 4, 5] rfl ?_
        exact n101 (q_si h (q_ref σ a0 8) (Int32.toNatClampNeg x4) s0) (x1 + (-1 : Int32)) (x2 &&& (((1 : Int32) <<< (s0 &&& 31)) ^^^ (-1 : Int32))) x3 x4 hf
    refine v_run C0 tbX0 cokX0_chooseFirst (pc' := 33) (lv' := [(0, .ref a0), (1, .int x1), (2, .int x2), (3, .int x3), (4, .int x4)]) (st' := [.int (Int32.ofNat (q_len σ (q_ref σ a0 8))), .int x4]) (h' := h) 4 rfl ⟨⟨ta0, q_tn k0⟩, (Or.inl k0), trivial⟩ ?_
    refine v_icmp_ge C0 cokX0_chooseFirst rfl 107 (by decide) hf (fun _ hf => ?_) (fun _ hf => ?_)
    · obtain rfl := Option.some.inj hf
      refine v_pick [2] rfl ?_
      have hx := kr1 _ rfl
      subst hx
      exact kx1
    · refine v_run C0 tbX0 cokX0_chooseFirst (pc' := 51) (lv' := [(3, .int (x3 &&& (((1 : Int32) <<< (x4 &&& 31)) ^^^ (-1 : Int32)))), (0, .ref a0), (1, .int x1), (2, .int x2), (4, .int x4)]) (st' := [.int x4, .int (q_int h a0 9)]) (h' := h) 11 rfl ⟨ta0, trivial⟩ ?_
      obtain ⟨r3, e3, hf⟩ := q_bd hf
      refine v_callSN C0 cokX0_chooseFirst rfl (rest := []) (ctX4_hasBit (q_int h a0 9) x4 e3) calX4_hasBit lkX0_67 inX4_hasBit dnX4_hasBit rfl rfl ⟨by decide, by decide⟩ (Nat.le_of_ble_eq_true rfl) (Nat.le_refl _) (Nat.le_refl _) ?_
      refine v_if_eq C0 cokX0_chooseFirst rfl 69 (by decide) hf (fun _ hf => ?_) (fun _ hf => ?_)
      · refine v_run C0 tbX0 cokX0_chooseFirst (pc' := 71) (lv' := [(3, .int (x3 &&& (((1 : Int32) <<< (x4 &&& 31)) ^^^ (-1 : Int32)))), (0, .ref a0), (1, .int x1), (2, .int x2), (4, .int x4)]) (st' := [.int (9 : Int32)]) (h' := h) 1 rfl trivial ?_
        refine v_pick [1, 2, 3, 0, 4] rfl ?_
        exact n71 h x1 x2 (x3 &&& (((1 : Int32) <<< (x4 &&& 31)) ^^^ (-1 : Int32))) x4 (9 : Int32) hf
      · refine v_run C0 tbX0 cokX0_chooseFirst (pc' := 63) (lv' := [(3, .int (x3 &&& (((1 : Int32) <<< (x4 &&& 31)) ^^^ (-1 : Int32)))), (0, .ref a0), (1, .int x1), (2, .int x2), (4, .int x4)]) (st' := [.int x1, .int x2, .int (x3 &&& (((1 : Int32) <<< (x4 &&& 31)) ^^^ (-1 : Int32))), .int x4, .ref a0]) (h' := h) 5 rfl trivial ?_
        obtain ⟨r4, h4, e4, hf⟩ := q_bd2 hf
        refine v_callV C0 cokX0_chooseFirst rfl (rest := []) (ctX0_leastKeeping a0 x4 (x3 &&& (((1 : Int32) <<< (x4 &&& 31)) ^^^ (-1 : Int32))) x2 x1 ta0 e4) calX0_leastKeeping lkX0_110 inX0_leastKeeping dnX0_leastKeeping (ci := 0) ⟨rfl, by decide⟩ ta0 rfl rfl ⟨by decide, by decide⟩ (Nat.le_of_ble_eq_true rfl) (Nat.le_refl _) (Nat.le_refl _) ?_
        refine v_run C0 tbX0 cokX0_chooseFirst (pc' := 71) (lv' := [(3, .int (x3 &&& (((1 : Int32) <<< (x4 &&& 31)) ^^^ (-1 : Int32)))), (0, .ref a0), (1, .int x1), (2, .int x2), (4, .int x4)]) (st' := [.int r4]) (h' := h4) 1 rfl trivial ?_
        refine v_pick [1, 2, 3, 0, 4] rfl ?_
        exact n71 h4 x1 x2 (x3 &&& (((1 : Int32) <<< (x4 &&& 31)) ^^^ (-1 : Int32))) x4 r4 hf
  refine v_run C0 tbX0 cokX0_chooseFirst (pc' := 9) (lv' := [(0, .ref a0)]) (st' := [.int (q_int h a0 10), .int (q_int h a0 9), .ref a0]) (h' := h) 5 rfl ⟨ta0, ta0, trivial⟩ ?_
  obtain ⟨r1, h1, e1, hf⟩ := q_bd2 hf
  refine v_callV C0 cokX0_chooseFirst rfl (rest := []) (ctX0_most a0 (q_int h a0 9) (q_int h a0 10) ta0 e1) calX0_most lkX0_106 inX0_most dnX0_most (ci := 0) ⟨rfl, by decide⟩ ta0 rfl rfl ⟨by decide, by decide⟩ (Nat.le_of_ble_eq_true rfl) (Nat.le_refl _) (Nat.le_refl _) ?_
  refine v_run C0 tbX0 cokX0_chooseFirst (pc' := 26) (lv' := [(4, .int (0 : Int32)), (3, .int (q_int h1 a0 9)), (2, .int (q_int h1 a0 10)), (1, .int r1), (0, .ref a0)]) (st' := []) (h' := h1) 9 rfl ⟨ta0, ta0, trivial⟩ ?_
  obtain ⟨o2, eo2, hf⟩ := q_bd hf
  refine v_pick [4, 3, 2, 1, 0] rfl ?_
  refine n26 o2 (r1, (q_int h1 a0 10), (q_int h1 a0 9), (0 : Int32), h1) eo2 ?_
  refine v_run C0 tbX0 cokX0_chooseFirst (pc' := 108) (lv' := [(2, .int o2.1)]) (st' := [.int o2.1]) (h' := o2.2) 1 rfl trivial ?_
  obtain ⟨rfl, rfl⟩ := Prod.mk.inj (Option.some.inj hf)
  exact v_iret C0 cokX0_chooseFirst hr hlk rfl
-- BackByNoonOnMonday$Suit.isBlack(I)Z
noncomputable def fX3_isBlack (σ : q_St) (h : q_Hp) (x0 : Int32) : Option Int32 := (if x0 = (1 : Int32) then some (1 : Int32) else (if x0 = (4 : Int32) then some (1 : Int32) else (if x0 = (7 : Int32) then some (1 : Int32) else some (0 : Int32))))
def cdX3_isBlack : q_Cd := [(0, .iload_n 0), (1, .iconst 1), (2, .if_icmp .eq 14), (5, .iload_n 0), (6, .iconst 4), (7, .if_icmp .eq 9), (10, .iload_n 0), (11, .bipush 7), (13, .if_icmp .ne 7), (16, .iconst 1), (17, .goto 4), (20, .iconst 0), (21, .ireturn)]
set_option maxRecDepth 100000 in
theorem cokX3_isBlack : q_cok cX3_isBlack cdX3_isBlack := by unfold q_cok; decide +kernel
set_option maxRecDepth 100000 in
set_option maxHeartbeats 4000000 in
theorem ctX3_isBlack {l : Launch} {D : va_G} {cy : Nat → Nat} {b0 : Nat} {σ : q_St} {h : q_Hp} (x0 : Int32) {r : Int32} (hf : fX3_isBlack σ h x0 = some r) : q_M l yX3_isBlack cX3_isBlack 1 (some .boolean) 0 0 0 0 D cy b0 σ h [.int x0] (some (.int r)) σ h := by
  unfold fX3_isBlack at hf
  refine q_enter (by decide) (Nat.le_of_ble_eq_true rfl) ?_
  intro p e s m args below meth c C0 hr hlk hnm
  replace C0 : VC p { frames := 0, cells := 0, slots := 0, locals := 0 } s m args meth c D cy b0 1 0 0 RX3 cX3_isBlack := C0
  refine v_run C0 tbX3 cokX3_isBlack (pc' := 2) (lv' := [(0, .int x0)]) (st' := [.int (1 : Int32), .int x0]) (h' := h) 2 rfl trivial ?_
  refine v_icmp_eq C0 cokX3_isBlack rfl 16 (by decide) hf (fun _ hf => ?_) (fun _ hf => ?_)
  · refine v_run C0 tbX3 cokX3_isBlack (pc' := 21) (lv' := [(0, .int x0)]) (st' := [.int (1 : Int32)]) (h' := h) 2 rfl trivial ?_
    obtain rfl := Option.some.inj hf
    exact v_zret C0 cokX3_isBlack hr hlk rfl (Or.inr rfl)
  · refine v_run C0 tbX3 cokX3_isBlack (pc' := 7) (lv' := [(0, .int x0)]) (st' := [.int (4 : Int32), .int x0]) (h' := h) 2 rfl trivial ?_
    refine v_icmp_eq C0 cokX3_isBlack rfl 16 (by decide) hf (fun _ hf => ?_) (fun _ hf => ?_)
    · refine v_run C0 tbX3 cokX3_isBlack (pc' := 21) (lv' := [(0, .int x0)]) (st' := [.int (1 : Int32)]) (h' := h) 2 rfl trivial ?_
      obtain rfl := Option.some.inj hf
      exact v_zret C0 cokX3_isBlack hr hlk rfl (Or.inr rfl)
    · refine v_run C0 tbX3 cokX3_isBlack (pc' := 13) (lv' := [(0, .int x0)]) (st' := [.int (7 : Int32), .int x0]) (h' := h) 2 rfl trivial ?_
      refine v_icmp_ne C0 cokX3_isBlack rfl 20 (by decide) hf (fun _ hf => ?_) (fun _ hf => ?_)
      · refine v_run C0 tbX3 cokX3_isBlack (pc' := 21) (lv' := [(0, .int x0)]) (st' := [.int (1 : Int32)]) (h' := h) 2 rfl trivial ?_
        obtain rfl := Option.some.inj hf
        exact v_zret C0 cokX3_isBlack hr hlk rfl (Or.inr rfl)
      · refine v_run C0 tbX3 cokX3_isBlack (pc' := 21) (lv' := [(0, .int x0)]) (st' := [.int (0 : Int32)]) (h' := h) 1 rfl trivial ?_
        obtain rfl := Option.some.inj hf
        exact v_zret C0 cokX3_isBlack hr hlk rfl (Or.inl rfl)
-- BackByNoonOnMonday$Suit.isMixed(I)Z
noncomputable def fX3_isMixed (σ : q_St) (h : q_Hp) (x0 : Int32) : Option Int32 := (if x0 = (3 : Int32) then some (1 : Int32) else (if x0 = (6 : Int32) then some (1 : Int32) else some (0 : Int32)))
def cdX3_isMixed : q_Cd := [(0, .iload_n 0), (1, .iconst 3), (2, .if_icmp .eq 9), (5, .iload_n 0), (6, .bipush 6), (8, .if_icmp .ne 7), (11, .iconst 1), (12, .goto 4), (15, .iconst 0), (16, .ireturn)]
set_option maxRecDepth 100000 in
theorem cokX3_isMixed : q_cok cX3_isMixed cdX3_isMixed := by unfold q_cok; decide +kernel
set_option maxRecDepth 100000 in
set_option maxHeartbeats 4000000 in
theorem ctX3_isMixed {l : Launch} {D : va_G} {cy : Nat → Nat} {b0 : Nat} {σ : q_St} {h : q_Hp} (x0 : Int32) {r : Int32} (hf : fX3_isMixed σ h x0 = some r) : q_M l yX3_isMixed cX3_isMixed 1 (some .boolean) 0 0 0 0 D cy b0 σ h [.int x0] (some (.int r)) σ h := by
  unfold fX3_isMixed at hf
  refine q_enter (by decide) (Nat.le_of_ble_eq_true rfl) ?_
  intro p e s m args below meth c C0 hr hlk hnm
  replace C0 : VC p { frames := 0, cells := 0, slots := 0, locals := 0 } s m args meth c D cy b0 1 0 0 RX3 cX3_isMixed := C0
  refine v_run C0 tbX3 cokX3_isMixed (pc' := 2) (lv' := [(0, .int x0)]) (st' := [.int (3 : Int32), .int x0]) (h' := h) 2 rfl trivial ?_
  refine v_icmp_eq C0 cokX3_isMixed rfl 11 (by decide) hf (fun _ hf => ?_) (fun _ hf => ?_)
  · refine v_run C0 tbX3 cokX3_isMixed (pc' := 16) (lv' := [(0, .int x0)]) (st' := [.int (1 : Int32)]) (h' := h) 2 rfl trivial ?_
    obtain rfl := Option.some.inj hf
    exact v_zret C0 cokX3_isMixed hr hlk rfl (Or.inr rfl)
  · refine v_run C0 tbX3 cokX3_isMixed (pc' := 8) (lv' := [(0, .int x0)]) (st' := [.int (6 : Int32), .int x0]) (h' := h) 2 rfl trivial ?_
    refine v_icmp_ne C0 cokX3_isMixed rfl 15 (by decide) hf (fun _ hf => ?_) (fun _ hf => ?_)
    · refine v_run C0 tbX3 cokX3_isMixed (pc' := 16) (lv' := [(0, .int x0)]) (st' := [.int (1 : Int32)]) (h' := h) 2 rfl trivial ?_
      obtain rfl := Option.some.inj hf
      exact v_zret C0 cokX3_isMixed hr hlk rfl (Or.inr rfl)
    · refine v_run C0 tbX3 cokX3_isMixed (pc' := 16) (lv' := [(0, .int x0)]) (st' := [.int (0 : Int32)]) (h' := h) 1 rfl trivial ?_
      obtain rfl := Option.some.inj hf
      exact v_zret C0 cokX3_isMixed hr hlk rfl (Or.inl rfl)
-- BackByNoonOnMonday$Suit.<init>(II)V
noncomputable def fX3_init_178 (σ : q_St) (h : q_Hp) (a0 : Nat) (x1 : Int32) (x2 : Int32) (x3 : Int32) (x4 : Int32) (x5 : Int32) (x6 : Int32) (x7 : Int32) : Option q_Hp := some (q_si (q_si (q_si (q_si (q_si (q_si (q_si h a0 0 x1) a0 1 x2) a0 2 x3) a0 3 x4) a0 4 x5) a0 5 x6) a0 6 x7)
noncomputable def fX3_init_85 (σ : q_St) (h : q_Hp) (a0 : Nat) (x1 : Int32) (x2 : Int32) (x3 : Int32) (x4 : Int32) (x5 : Int32) (x6 : Int32) (x7 : Int32) : Option q_Hp := (if x1 = (4 : Int32) then fX3_init_178 σ h a0 x1 x2 (x3 * (2 : Int32)) (0 : Int32) (x5 * (2 : Int32)) (x6 / (2 : Int32)) (x7 * (2 : Int32)) else (if x1 = (5 : Int32) then fX3_init_178 σ h a0 x1 x2 (x3 + x2) (x4 + (2 : Int32)) x5 x6 (x7 + x2) else (if x1 = (6 : Int32) then fX3_init_178 σ h a0 x1 x2 (x3 + (-1 : Int32)) x4 x5 (x6 + (-15 : Int32)) (x7 / (2 : Int32)) else (if x1 = (7 : Int32) then fX3_init_178 σ h a0 x1 x2 (x3 + (3 : Int32)) x4 (x5 + x2) x6 (x7 + (3 : Int32)) else fX3_init_178 σ h a0 x1 x2 x3 x4 x5 x6 x7))))
noncomputable def fX3_init_56 (σ : q_St) (h : q_Hp) (a0 : Nat) (x1 : Int32) (x2 : Int32) (x3 : Int32) (x4 : Int32) (x5 : Int32) (x6 : Int32) (x7 : Int32) : Option q_Hp := fX3_init_85 σ h a0 x1 x2 (x3 + (-2 : Int32)) (x4 + (1 : Int32)) x5 x6 (x7 + (-2 : Int32))
noncomputable def fX3_init (σ : q_St) (h : q_Hp) (a0 : Nat) (x1 : Int32) (x2 : Int32) : Option q_Hp := ((fX3_isBlack σ h x1).bind fun r1 => (if r1 = 0 then (if x1 = (2 : Int32) then fX3_init_56 σ h a0 x1 x2 ((10 : Int32) + x2) (1 : Int32) (3 : Int32) ((20 : Int32) + x2) (4 : Int32) else (if x1 = (5 : Int32) then fX3_init_56 σ h a0 x1 x2 ((10 : Int32) + x2) (1 : Int32) (3 : Int32) ((20 : Int32) + x2) (4 : Int32) else ((fX3_isMixed σ h x1).bind fun r2 => (if r2 = 0 then fX3_init_85 σ h a0 x1 x2 ((10 : Int32) + x2) (1 : Int32) (3 : Int32) ((20 : Int32) + x2) (4 : Int32) else fX3_init_85 σ h a0 x1 x2 (((10 : Int32) + x2) / (2 : Int32)) (1 : Int32) ((3 : Int32) + (-1 : Int32)) ((20 : Int32) + x2) ((4 : Int32) + (1 : Int32)))))) else fX3_init_85 σ h a0 x1 x2 (((10 : Int32) + x2) + (5 : Int32)) (1 : Int32) ((3 : Int32) + (1 : Int32)) ((20 : Int32) + x2) ((4 : Int32) + x2)))
def cdX3_init : q_Cd := [(0, .aload_n 0), (1, .invokespecial 3), (4, .bipush 10), (6, .iload_n 2), (7, .iadd), (8, .istore_n 3), (9, .iconst 1), (10, .istore 4), (12, .iconst 3), (13, .istore 5), (15, .bipush 20), (17, .iload_n 2), (18, .iadd), (19, .istore 6), (21, .iconst 4), (22, .istore 7), (24, .iload_n 1), (25, .invokestatic 9), (28, .ifCond .eq 18), (31, .iinc 3 5), (34, .iinc 5 1), (37, .iload 7), (39, .iload_n 2), (40, .iadd), (41, .istore 7), (43, .goto 42), (46, .iload_n 1), (47, .iconst 2), (48, .if_icmp .eq 8), (51, .iload_n 1), (52, .iconst 5), (53, .if_icmp .ne 15), (56, .iinc 3 (-2)), (59, .iinc 4 1), (62, .iinc 7 (-2)), (65, .goto 20), (68, .iload_n 1), (69, .invokestatic 15), (72, .ifCond .eq 13), (75, .iload_n 3), (76, .iconst 2), (77, .idiv), (78, .istore_n 3), (79, .iinc 5 (-1)), (82, .iinc 7 1), (85, .iload_n 1), (86, .iconst 4), (87, .if_icmp .ne 31), (90, .iload_n 3), (91, .iconst 2), (92, .imul), (93, .istore_n 3), (94, .iconst 0), (95, .istore 4), (97, .iload 5), (99, .iconst 2), (100, .imul), (101, .istore 5), (103, .iload 6), (105, .iconst 2), (106, .idiv), (107, .istore 6), (109, .iload 7), (111, .iconst 2), (112, .imul), (113, .istore 7), (115, .goto 63), (118, .iload_n 1), (119, .iconst 5), (120, .if_icmp .ne 19), (123, .iload_n 3), (124, .iload_n 2), (125, .iadd), (126, .istore_n 3), (127, .iinc 4 2), (130, .iload 7), (132, .iload_n 2), (133, .iadd), (134, .istore 7), (136, .goto 42), (139, .iload_n 1), (140, .bipush 6), (142, .if_icmp .ne 18), (145, .iinc 3 (-1)), (148, .iinc 6 (-15)), (151, .iload 7), (153, .iconst 2), (154, .idiv), (155, .istore 7), (157, .goto 21), (160, .iload_n 1), (161, .bipush 7), (163, .if_icmp .ne 15), (166, .iinc 3 3), (169, .iload 5), (171, .iload_n 2), (172, .iadd), (173, .istore 5), (175, .iinc 7 3), (178, .aload_n 0), (179, .iload_n 1), (180, .putfield 18), (183, .aload_n 0), (184, .iload_n 2), (185, .putfield 22), (188, .aload_n 0), (189, .iload_n 3), (190, .putfield 25), (193, .aload_n 0), (194, .iload 4), (196, .putfield 28), (199, .aload_n 0), (200, .iload 5), (202, .putfield 31), (205, .aload_n 0), (206, .iload 6), (208, .putfield 34), (211, .aload_n 0), (212, .iload 7), (214, .putfield 37), (217, .return_)]
set_option maxRecDepth 100000 in
theorem cokX3_init : q_cok cX3_init cdX3_init := by unfold q_cok; decide +kernel
set_option maxRecDepth 100000 in
set_option maxHeartbeats 4000000 in
theorem ctX3_init {l : Launch} {D : va_G} {cy : Nat → Nat} {b0 : Nat} {σ : q_St} {h : q_Hp} (a0 : Nat) (x1 : Int32) (x2 : Int32) {h' : q_Hp} (ta0 : q_tag σ a0 = 4) (hf : fX3_init σ h a0 x1 x2 = some h') : q_M l yX3_init cX3_init 8 none 1 20 0 0 D cy b0 σ h [.ref a0, .int x1, .int x2] none σ h' := by
  unfold fX3_init at hf
  refine q_enter (by decide) (Nat.le_of_ble_eq_true rfl) ?_
  intro p e s m args below meth c C0 hr hlk hnm
  replace C0 : VC p { frames := 1, cells := 0, slots := 0, locals := 20 } s m args meth c D cy b0 8 0 0 RX3 cX3_init := C0
  have n178 : ∀ (h : q_Hp) (x3 : Int32) (x4 : Int32) (x5 : Int32) (x6 : Int32) (x7 : Int32), fX3_init_178 σ h a0 x1 x2 x3 x4 x5 x6 x7 = some h' → V p l e { frames := 1, cells := 0, slots := 0, locals := 20 } s m args below meth c (MQ below (q_Qc D cy b0 none σ h') args s 0 0 (fun q => b0 ≤ q)) D cy b0 8 0 0 0 0 σ h 178 [(0, .ref a0), (1, .int x1), (2, .int x2), (3, .int x3), (4, .int x4), (5, .int x5), (6, .int x6), (7, .int x7)] [] := by
    intro h x3 x4 x5 x6 x7 hf
    unfold fX3_init_178 at hf
    refine v_run C0 tbX3 cokX3_init (pc' := 180) (lv' := [(0, .ref a0), (1, .int x1), (2, .int x2), (3, .int x3), (4, .int x4), (5, .int x5), (6, .int x6), (7, .int x7)]) (st' := [.int x1, .ref a0]) (h' := h) 2 rfl trivial ?_
    refine v_putF C0 tbX3 cokX3_init rfl (ci := 3) (k := 0) rfl rfl rfl ⟨rfl, hnm, rfl⟩ ta0 ?_
    refine v_run C0 tbX3 cokX3_init (pc' := 185) (lv' := [(0, .ref a0), (1, .int x1), (2, .int x2), (3, .int x3), (4, .int x4), (5, .int x5), (6, .int x6), (7, .int x7)]) (st' := [.int x2, .ref a0]) (h' := (q_si h a0 0 x1)) 2 rfl trivial ?_
    refine v_putF C0 tbX3 cokX3_init rfl (ci := 3) (k := 1) rfl rfl rfl ⟨rfl, hnm, rfl⟩ ta0 ?_
    refine v_run C0 tbX3 cokX3_init (pc' := 190) (lv' := [(0, .ref a0), (1, .int x1), (2, .int x2), (3, .int x3), (4, .int x4), (5, .int x5), (6, .int x6), (7, .int x7)]) (st' := [.int x3, .ref a0]) (h' := (q_si (q_si h a0 0 x1) a0 1 x2)) 2 rfl trivial ?_
    refine v_putF C0 tbX3 cokX3_init rfl (ci := 3) (k := 2) rfl rfl rfl ⟨rfl, hnm, rfl⟩ ta0 ?_
    refine v_run C0 tbX3 cokX3_init (pc' := 196) (lv' := [(0, .ref a0), (1, .int x1), (2, .int x2), (3, .int x3), (4, .int x4), (5, .int x5), (6, .int x6), (7, .int x7)]) (st' := [.int x4, .ref a0]) (h' := (q_si (q_si (q_si h a0 0 x1) a0 1 x2) a0 2 x3)) 2 rfl trivial ?_
    refine v_putF C0 tbX3 cokX3_init rfl (ci := 3) (k := 3) rfl rfl rfl ⟨rfl, hnm, rfl⟩ ta0 ?_
    refine v_run C0 tbX3 cokX3_init (pc' := 202) (lv' := [(0, .ref a0), (1, .int x1), (2, .int x2), (3, .int x3), (4, .int x4), (5, .int x5), (6, .int x6), (7, .int x7)]) (st' := [.int x5, .ref a0]) (h' := (q_si (q_si (q_si (q_si h a0 0 x1) a0 1 x2) a0 2 x3) a0 3 x4)) 2 rfl trivial ?_
    refine v_putF C0 tbX3 cokX3_init rfl (ci := 3) (k := 4) rfl rfl rfl ⟨rfl, hnm, rfl⟩ ta0 ?_
    refine v_run C0 tbX3 cokX3_init (pc' := 208) (lv' := [(0, .ref a0), (1, .int x1), (2, .int x2), (3, .int x3), (4, .int x4), (5, .int x5), (6, .int x6), (7, .int x7)]) (st' := [.int x6, .ref a0]) (h' := (q_si (q_si (q_si (q_si (q_si h a0 0 x1) a0 1 x2) a0 2 x3) a0 3 x4) a0 4 x5)) 2 rfl trivial ?_
    refine v_putF C0 tbX3 cokX3_init rfl (ci := 3) (k := 5) rfl rfl rfl ⟨rfl, hnm, rfl⟩ ta0 ?_
    refine v_run C0 tbX3 cokX3_init (pc' := 214) (lv' := [(0, .ref a0), (1, .int x1), (2, .int x2), (3, .int x3), (4, .int x4), (5, .int x5), (6, .int x6), (7, .int x7)]) (st' := [.int x7, .ref a0]) (h' := (q_si (q_si (q_si (q_si (q_si (q_si h a0 0 x1) a0 1 x2) a0 2 x3) a0 3 x4) a0 4 x5) a0 5 x6)) 2 rfl trivial ?_
    refine v_putF C0 tbX3 cokX3_init rfl (ci := 3) (k := 6) rfl rfl rfl ⟨rfl, hnm, rfl⟩ ta0 ?_
    obtain rfl := Option.some.inj hf
    exact v_vret C0 cokX3_init hr hlk rfl
  have n85 : ∀ (h : q_Hp) (x3 : Int32) (x4 : Int32) (x5 : Int32) (x6 : Int32) (x7 : Int32), fX3_init_85 σ h a0 x1 x2 x3 x4 x5 x6 x7 = some h' → V p l e { frames := 1, cells := 0, slots := 0, locals := 20 } s m args below meth c (MQ below (q_Qc D cy b0 none σ h') args s 0 0 (fun q => b0 ≤ q)) D cy b0 8 0 0 0 0 σ h 85 [(0, .ref a0), (1, .int x1), (2, .int x2), (3, .int x3), (4, .int x4), (5, .int x5), (6, .int x6), (7, .int x7)] [] := by
    intro h x3 x4 x5 x6 x7 hf
    unfold fX3_init_85 at hf
    refine v_run C0 tbX3 cokX3_init (pc' := 87) (lv' := [(0, .ref a0), (1, .int x1), (2, .int x2), (3, .int x3), (4, .int x4), (5, .int x5), (6, .int x6), (7, .int x7)]) (st' := [.int (4 : Int32), .int x1]) (h' := h) 2 rfl trivial ?_
    refine v_icmp_ne C0 cokX3_init rfl 118 (by decide) hf (fun _ hf => ?_) (fun _ hf => ?_)
    · refine v_run C0 tbX3 cokX3_init (pc' := 178) (lv' := [(7, .int (x7 * (2 : Int32))), (6, .int (x6 / (2 : Int32))), (5, .int (x5 * (2 : Int32))), (4, .int (0 : Int32)), (3, .int (x3 * (2 : Int32))), (0, .ref a0), (1, .int x1), (2, .int x2)]) (st' := []) (h' := h) 19 rfl ⟨(by decide), trivial⟩ ?_
      refine v_pick [5, 6, 7, 4, 3, 2, 1, 0] rfl ?_
      exact n178 h (x3 * (2 : Int32)) (0 : Int32) (x5 * (2 : Int32)) (x6 / (2 : Int32)) (x7 * (2 : Int32)) hf
    · refine v_run C0 tbX3 cokX3_init (pc' := 120) (lv' := [(0, .ref a0), (1, .int x1), (2, .int x2), (3, .int x3), (4, .int x4), (5, .int x5), (6, .int x6), (7, .int x7)]) (st' := [.int (5 : Int32), .int x1]) (h' := h) 2 rfl trivial ?_
      refine v_icmp_ne C0 cokX3_init rfl 139 (by decide) hf (fun _ hf => ?_) (fun _ hf => ?_)
      · refine v_run C0 tbX3 cokX3_init (pc' := 178) (lv' := [(7, .int (x7 + x2)), (4, .int (x4 + (2 : Int32))), (3, .int (x3 + x2)), (0, .ref a0), (1, .int x1), (2, .int x2), (5, .int x5), (6, .int x6)]) (st' := []) (h' := h) 10 rfl trivial ?_
        refine v_pick [3, 4, 5, 2, 1, 6, 7, 0] rfl ?_
        exact n178 h (x3 + x2) (x4 + (2 : Int32)) x5 x6 (x7 + x2) hf
      · refine v_run C0 tbX3 cokX3_init (pc' := 142) (lv' := [(0, .ref a0), (1, .int x1), (2, .int x2), (3, .int x3), (4, .int x4), (5, .int x5), (6, .int x6), (7, .int x7)]) (st' := [.int (6 : Int32), .int x1]) (h' := h) 2 rfl trivial ?_
        refine v_icmp_ne C0 cokX3_init rfl 160 (by decide) hf (fun _ hf => ?_) (fun _ hf => ?_)
        · refine v_run C0 tbX3 cokX3_init (pc' := 178) (lv' := [(7, .int (x7 / (2 : Int32))), (6, .int (x6 + (-15 : Int32))), (3, .int (x3 + (-1 : Int32))), (0, .ref a0), (1, .int x1), (2, .int x2), (4, .int x4), (5, .int x5)]) (st' := []) (h' := h) 7 rfl ⟨(by decide), trivial⟩ ?_
          refine v_pick [3, 4, 5, 2, 6, 7, 1, 0] rfl ?_
          exact n178 h (x3 + (-1 : Int32)) x4 x5 (x6 + (-15 : Int32)) (x7 / (2 : Int32)) hf
        · refine v_run C0 tbX3 cokX3_init (pc' := 163) (lv' := [(0, .ref a0), (1, .int x1), (2, .int x2), (3, .int x3), (4, .int x4), (5, .int x5), (6, .int x6), (7, .int x7)]) (st' := [.int (7 : Int32), .int x1]) (h' := h) 2 rfl trivial ?_
          refine v_icmp_ne C0 cokX3_init rfl 178 (by decide) hf (fun _ hf => ?_) (fun _ hf => ?_)
          · refine v_run C0 tbX3 cokX3_init (pc' := 178) (lv' := [(7, .int (x7 + (3 : Int32))), (5, .int (x5 + x2)), (3, .int (x3 + (3 : Int32))), (0, .ref a0), (1, .int x1), (2, .int x2), (4, .int x4), (6, .int x6)]) (st' := []) (h' := h) 6 rfl trivial ?_
            refine v_pick [3, 4, 5, 2, 6, 1, 7, 0] rfl ?_
            exact n178 h (x3 + (3 : Int32)) x4 (x5 + x2) x6 (x7 + (3 : Int32)) hf
          · refine v_pick [0, 1, 2, 3, 4, 5, 6, 7] rfl ?_
            exact n178 h x3 x4 x5 x6 x7 hf
  have n56 : ∀ (h : q_Hp) (x3 : Int32) (x4 : Int32) (x5 : Int32) (x6 : Int32) (x7 : Int32), fX3_init_56 σ h a0 x1 x2 x3 x4 x5 x6 x7 = some h' → V p l e { frames := 1, cells := 0, slots := 0, locals := 20 } s m args below meth c (MQ below (q_Qc D cy b0 none σ h') args s 0 0 (fun q => b0 ≤ q)) D cy b0 8 0 0 0 0 σ h 56 [(0, .ref a0), (1, .int x1), (2, .int x2), (3, .int x3), (4, .int x4), (5, .int x5), (6, .int x6), (7, .int x7)] [] := by
    intro h x3 x4 x5 x6 x7 hf
    unfold fX3_init_56 at hf
    refine v_run C0 tbX3 cokX3_init (pc' := 85) (lv' := [(7, .int (x7 + (-2 : Int32))), (4, .int (x4 + (1 : Int32))), (3, .int (x3 + (-2 : Int32))), (0, .ref a0), (1, .int x1), (2, .int x2), (5, .int x5), (6, .int x6)]) (st' := []) (h' := h) 4 rfl trivial ?_
    refine v_pick [3, 4, 5, 2, 1, 6, 7, 0] rfl ?_
    exact n85 h (x3 + (-2 : Int32)) (x4 + (1 : Int32)) x5 x6 (x7 + (-2 : Int32)) hf
  refine v_run C0 tbX3 cokX3_init (pc' := 1) (lv' := [(0, .ref a0), (1, .int x1), (2, .int x2)]) (st' := [.ref a0]) (h' := h) 1 rfl trivial ?_
  refine v_obj C0 cokX3_init rfl objX3 (by decide) (by decide) (Nat.le_of_ble_eq_true rfl) ?_
  refine v_run C0 tbX3 cokX3_init (pc' := 25) (lv' := [(7, .int (4 : Int32)), (6, .int ((20 : Int32) + x2)), (5, .int (3 : Int32)), (4, .int (1 : Int32)), (3, .int ((10 : Int32) + x2)), (0, .ref a0), (1, .int x1), (2, .int x2)]) (st' := [.int x1]) (h' := h) 15 rfl trivial ?_
  obtain ⟨r1, e1, hf⟩ := q_bd hf
  refine v_callS C0 cokX3_init rfl (rest := []) (ctX3_isBlack x1 e1) calX3_isBlack lkX3_9 inX3_isBlack dnX3_isBlack rfl rfl ⟨by decide, by decide⟩ (Nat.le_of_ble_eq_true rfl) (Nat.le_refl _) (Nat.le_refl _) ?_
  refine v_if_eq C0 cokX3_init rfl 46 (by decide) hf (fun _ hf => ?_) (fun _ hf => ?_)
  · refine v_run C0 tbX3 cokX3_init (pc' := 48) (lv' := [(7, .int (4 : Int32)), (6, .int ((20 : Int32) + x2)), (5, .int (3 : Int32)), (4, .int (1 : Int32)), (3, .int ((10 : Int32) + x2)), (0, .ref a0), (1, .int x1), (2, .int x2)]) (st' := [.int (2 : Int32), .int x1]) (h' := h) 2 rfl trivial ?_
    refine v_icmp_eq C0 cokX3_init rfl 56 (by decide) hf (fun _ hf => ?_) (fun _ hf => ?_)
    · refine v_pick [5, 6, 7, 4, 3, 2, 1, 0] rfl ?_
      exact n56 h ((10 : Int32) + x2) (1 : Int32) (3 : Int32) ((20 : Int32) + x2) (4 : Int32) hf
    · refine v_run C0 tbX3 cokX3_init (pc' := 53) (lv' := [(7, .int (4 : Int32)), (6, .int ((20 : Int32) + x2)), (5, .int (3 : Int32)), (4, .int (1 : Int32)), (3, .int ((10 : Int32) + x2)), (0, .ref a0), (1, .int x1), (2, .int x2)]) (st' := [.int (5 : Int32), .int x1]) (h' := h) 2 rfl trivial ?_
      refine v_icmp_ne C0 cokX3_init rfl 68 (by decide) hf (fun _ hf => ?_) (fun _ hf => ?_)
      · refine v_pick [5, 6, 7, 4, 3, 2, 1, 0] rfl ?_
        exact n56 h ((10 : Int32) + x2) (1 : Int32) (3 : Int32) ((20 : Int32) + x2) (4 : Int32) hf
      · refine v_run C0 tbX3 cokX3_init (pc' := 69) (lv' := [(7, .int (4 : Int32)), (6, .int ((20 : Int32) + x2)), (5, .int (3 : Int32)), (4, .int (1 : Int32)), (3, .int ((10 : Int32) + x2)), (0, .ref a0), (1, .int x1), (2, .int x2)]) (st' := [.int x1]) (h' := h) 1 rfl trivial ?_
        obtain ⟨r2, e2, hf⟩ := q_bd hf
        refine v_callS C0 cokX3_init rfl (rest := []) (ctX3_isMixed x1 e2) calX3_isMixed lkX3_15 inX3_isMixed dnX3_isMixed rfl rfl ⟨by decide, by decide⟩ (Nat.le_of_ble_eq_true rfl) (Nat.le_refl _) (Nat.le_refl _) ?_
        refine v_if_eq C0 cokX3_init rfl 85 (by decide) hf (fun _ hf => ?_) (fun _ hf => ?_)
        · refine v_pick [5, 6, 7, 4, 3, 2, 1, 0] rfl ?_
          exact n85 h ((10 : Int32) + x2) (1 : Int32) (3 : Int32) ((20 : Int32) + x2) (4 : Int32) hf
        · refine v_run C0 tbX3 cokX3_init (pc' := 85) (lv' := [(7, .int ((4 : Int32) + (1 : Int32))), (5, .int ((3 : Int32) + (-1 : Int32))), (3, .int (((10 : Int32) + x2) / (2 : Int32))), (6, .int ((20 : Int32) + x2)), (4, .int (1 : Int32)), (0, .ref a0), (1, .int x1), (2, .int x2)]) (st' := []) (h' := h) 6 rfl ⟨(by decide), trivial⟩ ?_
          refine v_pick [5, 6, 7, 2, 4, 1, 3, 0] rfl ?_
          exact n85 h (((10 : Int32) + x2) / (2 : Int32)) (1 : Int32) ((3 : Int32) + (-1 : Int32)) ((20 : Int32) + x2) ((4 : Int32) + (1 : Int32)) hf
  · refine v_run C0 tbX3 cokX3_init (pc' := 85) (lv' := [(7, .int ((4 : Int32) + x2)), (5, .int ((3 : Int32) + (1 : Int32))), (3, .int (((10 : Int32) + x2) + (5 : Int32))), (6, .int ((20 : Int32) + x2)), (4, .int (1 : Int32)), (0, .ref a0), (1, .int x1), (2, .int x2)]) (st' := []) (h' := h) 7 rfl trivial ?_
    refine v_pick [5, 6, 7, 2, 4, 1, 3, 0] rfl ?_
    exact n85 h (((10 : Int32) + x2) + (5 : Int32)) (1 : Int32) ((3 : Int32) + (1 : Int32)) ((20 : Int32) + x2) ((4 : Int32) + x2) hf
-- BackByNoonOnMonday$Shelf.clear()V
noncomputable def fX1_clear (σ : q_St) (h : q_Hp) (a0 : Nat) : Option q_Hp := some (q_si (q_si h a0 1 (0 : Int32)) a0 4 (0 : Int32))
def cdX1_clear : q_Cd := [(0, .aload_n 0), (1, .iconst 0), (2, .putfield 15), (5, .aload_n 0), (6, .iconst 0), (7, .putfield 31), (10, .return_)]
set_option maxRecDepth 100000 in
theorem cokX1_clear : q_cok cX1_clear cdX1_clear := by unfold q_cok; decide +kernel
set_option maxRecDepth 100000 in
set_option maxHeartbeats 4000000 in
theorem ctX1_clear {l : Launch} {D : va_G} {cy : Nat → Nat} {b0 : Nat} {σ : q_St} {h : q_Hp} (a0 : Nat) {h' : q_Hp} (ta0 : q_tag σ a0 = 2) (hf : fX1_clear σ h a0 = some h') : q_M l yX1_clear cX1_clear 1 none 0 0 0 0 D cy b0 σ h [.ref a0] none σ h' := by
  unfold fX1_clear at hf
  refine q_enter (by decide) (Nat.le_of_ble_eq_true rfl) ?_
  intro p e s m args below meth c C0 hr hlk hnm
  replace C0 : VC p { frames := 0, cells := 0, slots := 0, locals := 0 } s m args meth c D cy b0 1 0 0 RX1 cX1_clear := C0
  refine v_run C0 tbX1 cokX1_clear (pc' := 10) (lv' := [(0, .ref a0)]) (st' := []) (h' := (q_si (q_si h a0 1 (0 : Int32)) a0 4 (0 : Int32))) 6 rfl ⟨ta0, ta0, trivial⟩ ?_
  obtain rfl := Option.some.inj hf
  exact v_vret C0 cokX1_clear hr hlk rfl
-- BackByNoonOnMonday$Shelf.hang(LBackByNoonOnMonday$Suit;)V
noncomputable def fX1_hang (σ : q_St) (h : q_Hp) (a0 : Nat) (a1 : Nat) : Option (q_St × q_Hp) := some ((q_sr σ a0 2 a1), (q_si (q_si h a0 1 (1 : Int32)) a0 4 (0 : Int32)))
def cdX1_hang : q_Cd := [(0, .aload_n 0), (1, .iconst 1), (2, .putfield 15), (5, .aload_n 0), (6, .aload_n 1), (7, .putfield 24), (10, .aload_n 0), (11, .iconst 0), (12, .putfield 31), (15, .return_)]
set_option maxRecDepth 100000 in
theorem cokX1_hang : q_cok cX1_hang cdX1_hang := by unfold q_cok; decide +kernel
set_option maxRecDepth 100000 in
set_option maxHeartbeats 4000000 in
theorem ctX1_hang {l : Launch} {D : va_G} {cy : Nat → Nat} {b0 : Nat} {σ : q_St} {h : q_Hp} (a0 : Nat) (a1 : Nat) {σ' : q_St} {h' : q_Hp} (ta0 : q_tag σ a0 = 2) (ta1 : q_tag σ a1 = 4) (hf : fX1_hang σ h a0 a1 = some (σ', h')) : q_M l yX1_hang cX1_hang 2 none 0 0 0 0 D cy b0 σ h [.ref a0, .ref a1] none σ' h' := by
  unfold fX1_hang at hf
  refine q_enter (by decide) (Nat.le_of_ble_eq_true rfl) ?_
  intro p e s m args below meth c C0 hr hlk hnm
  replace C0 : VC p { frames := 0, cells := 0, slots := 0, locals := 0 } s m args meth c D cy b0 2 0 0 RX1 cX1_hang := C0
  refine v_run C0 tbX1 cokX1_hang (pc' := 7) (lv' := [(0, .ref a0), (1, .ref a1)]) (st' := [.ref a1, .ref a0]) (h' := (q_si h a0 1 (1 : Int32))) 5 rfl ⟨ta0, trivial⟩ ?_
  refine v_putr C0 tbX1 cokX1_hang rfl (ci := 1) (k := 2) rfl rfl (Or.inl rfl) ta0 (q_tn ta1) ?_
  refine v_run C0 tbX1 cokX1_hang (pc' := 15) (lv' := [(0, .ref a0), (1, .ref a1)]) (st' := []) (h' := (q_si (q_si h a0 1 (1 : Int32)) a0 4 (0 : Int32))) 3 rfl ⟨ta0, trivial⟩ ?_
  obtain ⟨rfl, rfl⟩ := Prod.mk.inj (Option.some.inj hf)
  exact v_vret C0 cokX1_hang hr hlk rfl
-- BackByNoonOnMonday$Shelf.lay(II)V
noncomputable def fX1_lay_42 (σ : q_St) (a0 : Nat) (x1 : Int32) (x2 : Int32) (x3 : Int32) (h : q_Hp) : Option ((Int32 × q_Hp) ⊕ q_Hp) := (if (Int32.ofNat (q_len σ (q_ref σ a0 0))) ≤ x3 then some (Sum.inr h) else q_gu ((vp_in x3 (q_len σ (q_ref σ a0 0)))) (some (Sum.inl ((x3 + (1 : Int32)), (q_si h (q_ref σ a0 0) (Int32.toNatClampNeg x3) (0 : Int32))))))
noncomputable def fX1_lay_37 (σ : q_St) (h : q_Hp) (a0 : Nat) (x1 : Int32) (x2 : Int32) (s0 : Int32) (s1 : Nat) : Option q_Hp := q_gu ((q_tag σ s1 = 2)) ((q_loop (fun s => fX1_lay_42 σ a0 x1 x2 s.1 s.2) q_N ((0 : Int32), (q_si h s1 4 s0))).bind fun o2 => some o2)
noncomputable def fX1_lay (σ : q_St) (h : q_Hp) (a0 : Nat) (x1 : Int32) (x2 : Int32) : Option q_Hp := q_gu ((q_tag σ (q_ref σ a0 0) = 7)) ((if 0 ≤ x2 then (if x2 ≤ (Int32.ofNat (q_len σ (q_ref σ a0 0))) then fX1_lay_37 σ (q_si (q_si h a0 1 (2 : Int32)) a0 3 x1) a0 x1 x2 x2 a0 else fX1_lay_37 σ (q_si (q_si h a0 1 (2 : Int32)) a0 3 x1) a0 x1 x2 (Int32.ofNat (q_len σ (q_ref σ a0 0))) a0) else fX1_lay_37 σ (q_si (q_si h a0 1 (2 : Int32)) a0 3 x1) a0 x1 x2 (0 : Int32) a0))
def cdX1_lay : q_Cd := [(0, .aload_n 0), (1, .iconst 2), (2, .putfield 15), (5, .aload_n 0), (6, .iload_n 1), (7, .putfield 28), (10, .aload_n 0), (11, .iload_n 2), (12, .ifCond .ge 7), (15, .iconst 0), (16, .goto 21), (19, .iload_n 2), (20, .aload_n 0), (21, .getfield 9), (24, .arraylength), (25, .if_icmp .le 11), (28, .aload_n 0), (29, .getfield 9), (32, .arraylength), (33, .goto 4), (36, .iload_n 2), (37, .putfield 31), (40, .iconst 0), (41, .istore_n 3), (42, .iload_n 3), (43, .aload_n 0), (44, .getfield 9), (47, .arraylength), (48, .if_icmp .ge 16), (51, .aload_n 0), (52, .getfield 9), (55, .iload_n 3), (56, .iconst 0), (57, .iastore), (58, .iinc 3 1), (61, .goto (-19)), (64, .return_)]
set_option maxRecDepth 100000 in
theorem cokX1_lay : q_cok cX1_lay cdX1_lay := by unfold q_cok; decide +kernel
set_option maxRecDepth 100000 in
set_option maxHeartbeats 4000000 in
theorem ctX1_lay {l : Launch} {D : va_G} {cy : Nat → Nat} {b0 : Nat} {σ : q_St} {h : q_Hp} (a0 : Nat) (x1 : Int32) (x2 : Int32) {h' : q_Hp} (ta0 : q_tag σ a0 = 2) (hf : fX1_lay σ h a0 x1 x2 = some h') : q_M l yX1_lay cX1_lay 4 none 0 0 0 0 D cy b0 σ h [.ref a0, .int x1, .int x2] none σ h' := by
  unfold fX1_lay at hf
  obtain ⟨k0, hf⟩ := q_gu_o hf
  refine q_enter (by decide) (Nat.le_of_ble_eq_true rfl) ?_
  intro p e s m args below meth c C0 hr hlk hnm
  replace C0 : VC p { frames := 0, cells := 0, slots := 0, locals := 0 } s m args meth c D cy b0 4 0 0 RX1 cX1_lay := C0
  have n42 : ∀ (o : q_Hp) (s1 : (Int32 × q_Hp)), q_loop (fun s => fX1_lay_42 σ a0 x1 x2 s.1 s.2) q_N s1 = some o → V p l e { frames := 0, cells := 0, slots := 0, locals := 0 } s m args below meth c (MQ below (q_Qc D cy b0 none σ h') args s 0 0 (fun q => b0 ≤ q)) D cy b0 4 0 0 0 0 σ o 64 [] [] → V p l e { frames := 0, cells := 0, slots := 0, locals := 0 } s m args below meth c (MQ below (q_Qc D cy b0 none σ h') args s 0 0 (fun q => b0 ≤ q)) D cy b0 4 0 0 0 0 σ s1.2 42 [(0, .ref a0), (3, .int s1.1)] [] := by
    intro o s1 ho kx1
    refine q_loop_V (P := fun s0 => V p l e { frames := 0, cells := 0, slots := 0, locals := 0 } s m args below meth c (MQ below (q_Qc D cy b0 none σ h') args s 0 0 (fun q => b0 ≤ q)) D cy b0 4 0 0 0 0 σ s0.2 42 [(0, .ref a0), (3, .int s0.1)] []) (o := o) ?_ q_N s1 ho
    intro s2 z1 hf kb1 kr1
    obtain ⟨x3, h⟩ := s2
    replace hf : fX1_lay_42 σ a0 x1 x2 x3 h = some z1 := hf
    unfold fX1_lay_42 at hf
    show V p l e { frames := 0, cells := 0, slots := 0, locals := 0 } s m args below meth c (MQ below (q_Qc D cy b0 none σ h') args s 0 0 (fun q => b0 ≤ q)) D cy b0 4 0 0 0 0 σ h 42 [(0, .ref a0), (3, .int x3)] []
    refine v_run C0 tbX1 cokX1_lay (pc' := 48) (lv' := [(0, .ref a0), (3, .int x3)]) (st' := [.int (Int32.ofNat (q_len σ (q_ref σ a0 0))), .int x3]) (h' := h) 4 rfl ⟨⟨ta0, q_tn k0⟩, (Or.inl k0), trivial⟩ ?_
    refine v_icmp_ge C0 cokX1_lay rfl 64 (by decide) hf (fun _ hf => ?_) (fun _ hf => ?_)
    · obtain rfl := Option.some.inj hf
      refine v_pick [] rfl ?_
      have hx := kr1 _ rfl
      subst hx
      exact kx1
    · obtain ⟨g3, hf⟩ := q_gu_o hf
      refine v_run C0 tbX1 cokX1_lay (pc' := 42) (lv' := [(3, .int (x3 + (1 : Int32))), (0, .ref a0)]) (st' := []) (h' := (q_si h (q_ref σ a0 0) (Int32.toNatClampNeg x3) (0 : Int32))) 7 rfl ⟨⟨ta0, q_tn k0⟩, ⟨k0, g3⟩, trivial⟩ ?_
      obtain rfl := Option.some.inj hf
      refine v_pick [1, 0] rfl ?_
      exact kb1 _ rfl
  have n37 : ∀ (h : q_Hp) (s0 : Int32) (s1 : Nat), fX1_lay_37 σ h a0 x1 x2 s0 s1 = some h' → V p l e { frames := 0, cells := 0, slots := 0, locals := 0 } s m args below meth c (MQ below (q_Qc D cy b0 none σ h') args s 0 0 (fun q => b0 ≤ q)) D cy b0 4 0 0 0 0 σ h 37 [(0, .ref a0)] [.int s0, .ref s1] := by
    intro h s0 s1 hf
    unfold fX1_lay_37 at hf
    obtain ⟨g1, hf⟩ := q_gu_o hf
    refine v_run C0 tbX1 cokX1_lay (pc' := 42) (lv' := [(3, .int (0 : Int32)), (0, .ref a0)]) (st' := []) (h' := (q_si h s1 4 s0)) 3 rfl ⟨g1, trivial⟩ ?_
    obtain ⟨o2, eo2, hf⟩ := q_bd hf
    refine v_pick [1, 0] rfl ?_
    refine n42 o2 ((0 : Int32), (q_si h s1 4 s0)) eo2 ?_
    obtain rfl := Option.some.inj hf
    exact v_vret C0 cokX1_lay hr hlk rfl
  refine v_run C0 tbX1 cokX1_lay (pc' := 12) (lv' := [(0, .ref a0), (1, .int x1), (2, .int x2)]) (st' := [.int x2, .ref a0]) (h' := (q_si (q_si h a0 1 (2 : Int32)) a0 3 x1)) 8 rfl ⟨ta0, ta0, trivial⟩ ?_
  refine v_if_ge C0 cokX1_lay rfl 19 (by decide) hf (fun _ hf => ?_) (fun _ hf => ?_)
  · refine v_run C0 tbX1 cokX1_lay (pc' := 25) (lv' := [(0, .ref a0), (1, .int x1), (2, .int x2)]) (st' := [.int (Int32.ofNat (q_len σ (q_ref σ a0 0))), .int x2, .ref a0]) (h' := (q_si (q_si h a0 1 (2 : Int32)) a0 3 x1)) 4 rfl ⟨⟨ta0, q_tn k0⟩, (Or.inl k0), trivial⟩ ?_
    refine v_icmp_le C0 cokX1_lay rfl 36 (by decide) hf (fun _ hf => ?_) (fun _ hf => ?_)
    · refine v_run C0 tbX1 cokX1_lay (pc' := 37) (lv' := [(0, .ref a0), (1, .int x1), (2, .int x2)]) (st' := [.int x2, .ref a0]) (h' := (q_si (q_si h a0 1 (2 : Int32)) a0 3 x1)) 1 rfl trivial ?_
      refine v_pick [0] rfl ?_
      exact n37 (q_si (q_si h a0 1 (2 : Int32)) a0 3 x1) x2 a0 hf
    · refine v_run C0 tbX1 cokX1_lay (pc' := 37) (lv' := [(0, .ref a0), (1, .int x1), (2, .int x2)]) (st' := [.int (Int32.ofNat (q_len σ (q_ref σ a0 0))), .ref a0]) (h' := (q_si (q_si h a0 1 (2 : Int32)) a0 3 x1)) 4 rfl ⟨⟨ta0, q_tn k0⟩, (Or.inl k0), trivial⟩ ?_
      refine v_pick [0] rfl ?_
      exact n37 (q_si (q_si h a0 1 (2 : Int32)) a0 3 x1) (Int32.ofNat (q_len σ (q_ref σ a0 0))) a0 hf
  · refine v_run C0 tbX1 cokX1_lay (pc' := 37) (lv' := [(0, .ref a0), (1, .int x1), (2, .int x2)]) (st' := [.int (0 : Int32), .ref a0]) (h' := (q_si (q_si h a0 1 (2 : Int32)) a0 3 x1)) 2 rfl trivial ?_
    refine v_pick [0] rfl ?_
    exact n37 (q_si (q_si h a0 1 (2 : Int32)) a0 3 x1) (0 : Int32) a0 hf
-- BackByNoonOnMonday$Shelf.refusal(I)I
noncomputable def fX1_refusal (σ : q_St) (h : q_Hp) (a0 : Nat) (x1 : Int32) : Option Int32 := (if (q_int h a0 1) = 0 then some (-11 : Int32) else (if (q_int h a0 1) = x1 then some (0 : Int32) else some (-12 : Int32)))
def cdX1_refusal : q_Cd := [(0, .aload_n 0), (1, .getfield 15), (4, .ifCond .ne 6), (7, .bipush (-11)), (9, .ireturn), (10, .aload_n 0), (11, .getfield 15), (14, .iload_n 1), (15, .if_icmp .ne 7), (18, .iconst 0), (19, .goto 5), (22, .bipush (-12)), (24, .ireturn)]
set_option maxRecDepth 100000 in
theorem cokX1_refusal : q_cok cX1_refusal cdX1_refusal := by unfold q_cok; decide +kernel
set_option maxRecDepth 100000 in
set_option maxHeartbeats 4000000 in
theorem ctX1_refusal {l : Launch} {D : va_G} {cy : Nat → Nat} {b0 : Nat} {σ : q_St} {h : q_Hp} (a0 : Nat) (x1 : Int32) {r : Int32} (ta0 : q_tag σ a0 = 2) (hf : fX1_refusal σ h a0 x1 = some r) : q_M l yX1_refusal cX1_refusal 2 (some .int) 0 0 0 0 D cy b0 σ h [.ref a0, .int x1] (some (.int r)) σ h := by
  unfold fX1_refusal at hf
  refine q_enter (by decide) (Nat.le_of_ble_eq_true rfl) ?_
  intro p e s m args below meth c C0 hr hlk hnm
  replace C0 : VC p { frames := 0, cells := 0, slots := 0, locals := 0 } s m args meth c D cy b0 2 0 0 RX1 cX1_refusal := C0
  refine v_run C0 tbX1 cokX1_refusal (pc' := 4) (lv' := [(0, .ref a0), (1, .int x1)]) (st' := [.int (q_int h a0 1)]) (h' := h) 2 rfl ⟨ta0, trivial⟩ ?_
  refine v_if_ne C0 cokX1_refusal rfl 10 (by decide) hf (fun _ hf => ?_) (fun _ hf => ?_)
  · refine v_run C0 tbX1 cokX1_refusal (pc' := 9) (lv' := [(0, .ref a0), (1, .int x1)]) (st' := [.int (-11 : Int32)]) (h' := h) 1 rfl trivial ?_
    obtain rfl := Option.some.inj hf
    exact v_iret C0 cokX1_refusal hr hlk rfl
  · refine v_run C0 tbX1 cokX1_refusal (pc' := 15) (lv' := [(0, .ref a0), (1, .int x1)]) (st' := [.int x1, .int (q_int h a0 1)]) (h' := h) 3 rfl ⟨ta0, trivial⟩ ?_
    refine v_icmp_ne C0 cokX1_refusal rfl 22 (by decide) hf (fun _ hf => ?_) (fun _ hf => ?_)
    · refine v_run C0 tbX1 cokX1_refusal (pc' := 24) (lv' := [(0, .ref a0), (1, .int x1)]) (st' := [.int (0 : Int32)]) (h' := h) 2 rfl trivial ?_
      obtain rfl := Option.some.inj hf
      exact v_iret C0 cokX1_refusal hr hlk rfl
    · refine v_run C0 tbX1 cokX1_refusal (pc' := 24) (lv' := [(0, .ref a0), (1, .int x1)]) (st' := [.int (-12 : Int32)]) (h' := h) 1 rfl trivial ?_
      obtain rfl := Option.some.inj hf
      exact v_iret C0 cokX1_refusal hr hlk rfl
-- BackByNoonOnMonday$Shelf.narrowed(I)I
noncomputable def fX1_narrowed (σ : q_St) (h : q_Hp) (a0 : Nat) (x1 : Int32) : Option Int32 := (if (q_int h a0 3) = 0 then some (Int8.toInt32 (Int32.toInt8 x1)) else (if (q_int h a0 3) = (1 : Int32) then some (Int16.toInt32 (Int32.toInt16 x1)) else some x1))
def cdX1_narrowed : q_Cd := [(0, .aload_n 0), (1, .getfield 28), (4, .ifCond .ne 8), (7, .iload_n 1), (8, .i2b), (9, .goto 17), (12, .aload_n 0), (13, .getfield 28), (16, .iconst 1), (17, .if_icmp .ne 8), (20, .iload_n 1), (21, .i2s), (22, .goto 4), (25, .iload_n 1), (26, .ireturn)]
set_option maxRecDepth 100000 in
theorem cokX1_narrowed : q_cok cX1_narrowed cdX1_narrowed := by unfold q_cok; decide +kernel
set_option maxRecDepth 100000 in
set_option maxHeartbeats 4000000 in
theorem ctX1_narrowed {l : Launch} {D : va_G} {cy : Nat → Nat} {b0 : Nat} {σ : q_St} {h : q_Hp} (a0 : Nat) (x1 : Int32) {r : Int32} (ta0 : q_tag σ a0 = 2) (hf : fX1_narrowed σ h a0 x1 = some r) : q_M l yX1_narrowed cX1_narrowed 2 (some .int) 0 0 0 0 D cy b0 σ h [.ref a0, .int x1] (some (.int r)) σ h := by
  unfold fX1_narrowed at hf
  refine q_enter (by decide) (Nat.le_of_ble_eq_true rfl) ?_
  intro p e s m args below meth c C0 hr hlk hnm
  replace C0 : VC p { frames := 0, cells := 0, slots := 0, locals := 0 } s m args meth c D cy b0 2 0 0 RX1 cX1_narrowed := C0
  refine v_run C0 tbX1 cokX1_narrowed (pc' := 4) (lv' := [(0, .ref a0), (1, .int x1)]) (st' := [.int (q_int h a0 3)]) (h' := h) 2 rfl ⟨ta0, trivial⟩ ?_
  refine v_if_ne C0 cokX1_narrowed rfl 12 (by decide) hf (fun _ hf => ?_) (fun _ hf => ?_)
  · refine v_run C0 tbX1 cokX1_narrowed (pc' := 26) (lv' := [(0, .ref a0), (1, .int x1)]) (st' := [.int (Int8.toInt32 (Int32.toInt8 x1))]) (h' := h) 3 rfl trivial ?_
    obtain rfl := Option.some.inj hf
    exact v_iret C0 cokX1_narrowed hr hlk rfl
  · refine v_run C0 tbX1 cokX1_narrowed (pc' := 17) (lv' := [(0, .ref a0), (1, .int x1)]) (st' := [.int (1 : Int32), .int (q_int h a0 3)]) (h' := h) 3 rfl ⟨ta0, trivial⟩ ?_
    refine v_icmp_ne C0 cokX1_narrowed rfl 25 (by decide) hf (fun _ hf => ?_) (fun _ hf => ?_)
    · refine v_run C0 tbX1 cokX1_narrowed (pc' := 26) (lv' := [(0, .ref a0), (1, .int x1)]) (st' := [.int (Int16.toInt32 (Int32.toInt16 x1))]) (h' := h) 3 rfl trivial ?_
      obtain rfl := Option.some.inj hf
      exact v_iret C0 cokX1_narrowed hr hlk rfl
    · refine v_run C0 tbX1 cokX1_narrowed (pc' := 26) (lv' := [(0, .ref a0), (1, .int x1)]) (st' := [.int x1]) (h' := h) 1 rfl trivial ?_
      obtain rfl := Option.some.inj hf
      exact v_iret C0 cokX1_narrowed hr hlk rfl
-- BackByNoonOnMonday$Shelf.least()I
noncomputable def fX1_least (σ : q_St) (h : q_Hp) (a0 : Nat) : Option Int32 := (if (q_int h a0 3) = 0 then some (-128 : Int32) else (if (q_int h a0 3) = (1 : Int32) then some (-32768 : Int32) else some (-2147483648 : Int32)))
def cdX1_least : q_Cd := [(0, .aload_n 0), (1, .getfield 28), (4, .ifCond .ne 8), (7, .bipush (-128)), (9, .goto 19), (12, .aload_n 0), (13, .getfield 28), (16, .iconst 1), (17, .if_icmp .ne 9), (20, .sipush (-32768)), (23, .goto 5), (26, .ldc 34), (28, .ireturn)]
set_option maxRecDepth 100000 in
theorem cokX1_least : q_cok cX1_least cdX1_least := by unfold q_cok; decide +kernel
set_option maxRecDepth 100000 in
set_option maxHeartbeats 4000000 in
theorem ctX1_least {l : Launch} {D : va_G} {cy : Nat → Nat} {b0 : Nat} {σ : q_St} {h : q_Hp} (a0 : Nat) {r : Int32} (ta0 : q_tag σ a0 = 2) (hf : fX1_least σ h a0 = some r) : q_M l yX1_least cX1_least 1 (some .int) 0 0 0 0 D cy b0 σ h [.ref a0] (some (.int r)) σ h := by
  unfold fX1_least at hf
  refine q_enter (by decide) (Nat.le_of_ble_eq_true rfl) ?_
  intro p e s m args below meth c C0 hr hlk hnm
  replace C0 : VC p { frames := 0, cells := 0, slots := 0, locals := 0 } s m args meth c D cy b0 1 0 0 RX1 cX1_least := C0
  refine v_run C0 tbX1 cokX1_least (pc' := 4) (lv' := [(0, .ref a0)]) (st' := [.int (q_int h a0 3)]) (h' := h) 2 rfl ⟨ta0, trivial⟩ ?_
  refine v_if_ne C0 cokX1_least rfl 12 (by decide) hf (fun _ hf => ?_) (fun _ hf => ?_)
  · refine v_run C0 tbX1 cokX1_least (pc' := 28) (lv' := [(0, .ref a0)]) (st' := [.int (-128 : Int32)]) (h' := h) 2 rfl trivial ?_
    obtain rfl := Option.some.inj hf
    exact v_iret C0 cokX1_least hr hlk rfl
  · refine v_run C0 tbX1 cokX1_least (pc' := 17) (lv' := [(0, .ref a0)]) (st' := [.int (1 : Int32), .int (q_int h a0 3)]) (h' := h) 3 rfl ⟨ta0, trivial⟩ ?_
    refine v_icmp_ne C0 cokX1_least rfl 26 (by decide) hf (fun _ hf => ?_) (fun _ hf => ?_)
    · refine v_run C0 tbX1 cokX1_least (pc' := 28) (lv' := [(0, .ref a0)]) (st' := [.int (-32768 : Int32)]) (h' := h) 2 rfl trivial ?_
      obtain rfl := Option.some.inj hf
      exact v_iret C0 cokX1_least hr hlk rfl
    · refine v_run C0 tbX1 cokX1_least (pc' := 28) (lv' := [(0, .ref a0)]) (st' := [.int (-2147483648 : Int32)]) (h' := h) 1 rfl trivial ?_
      obtain rfl := Option.some.inj hf
      exact v_iret C0 cokX1_least hr hlk rfl
-- BackByNoonOnMonday$Shelf.hasStretch(II)Z
noncomputable def fX1_hasStretch (σ : q_St) (h : q_Hp) (a0 : Nat) (x1 : Int32) (x2 : Int32) : Option Int32 := (if x2 < 0 then some (0 : Int32) else (if (q_int h a0 4) < x2 then some (0 : Int32) else (if x1 < 0 then some (0 : Int32) else (if ((q_int h a0 4) - x2) < x1 then some (0 : Int32) else some (1 : Int32)))))
def cdX1_hasStretch : q_Cd := [(0, .iload_n 2), (1, .ifCond .lt 29), (4, .iload_n 2), (5, .aload_n 0), (6, .getfield 31), (9, .if_icmp .gt 21), (12, .iload_n 1), (13, .ifCond .lt 17), (16, .iload_n 1), (17, .aload_n 0), (18, .getfield 31), (21, .iload_n 2), (22, .isub), (23, .if_icmp .gt 7), (26, .iconst 1), (27, .goto 4), (30, .iconst 0), (31, .ireturn)]
set_option maxRecDepth 100000 in
theorem cokX1_hasStretch : q_cok cX1_hasStretch cdX1_hasStretch := by unfold q_cok; decide +kernel
set_option maxRecDepth 100000 in
set_option maxHeartbeats 4000000 in
theorem ctX1_hasStretch {l : Launch} {D : va_G} {cy : Nat → Nat} {b0 : Nat} {σ : q_St} {h : q_Hp} (a0 : Nat) (x1 : Int32) (x2 : Int32) {r : Int32} (ta0 : q_tag σ a0 = 2) (hf : fX1_hasStretch σ h a0 x1 x2 = some r) : q_M l yX1_hasStretch cX1_hasStretch 3 (some .boolean) 0 0 0 0 D cy b0 σ h [.ref a0, .int x1, .int x2] (some (.int r)) σ h := by
  unfold fX1_hasStretch at hf
  refine q_enter (by decide) (Nat.le_of_ble_eq_true rfl) ?_
  intro p e s m args below meth c C0 hr hlk hnm
  replace C0 : VC p { frames := 0, cells := 0, slots := 0, locals := 0 } s m args meth c D cy b0 3 0 0 RX1 cX1_hasStretch := C0
  refine v_run C0 tbX1 cokX1_hasStretch (pc' := 1) (lv' := [(0, .ref a0), (1, .int x1), (2, .int x2)]) (st' := [.int x2]) (h' := h) 1 rfl trivial ?_
  refine v_if_lt C0 cokX1_hasStretch rfl 30 (by decide) hf (fun _ hf => ?_) (fun _ hf => ?_)
  · refine v_run C0 tbX1 cokX1_hasStretch (pc' := 31) (lv' := [(0, .ref a0), (1, .int x1), (2, .int x2)]) (st' := [.int (0 : Int32)]) (h' := h) 1 rfl trivial ?_
    obtain rfl := Option.some.inj hf
    exact v_zret C0 cokX1_hasStretch hr hlk rfl (Or.inl rfl)
  · refine v_run C0 tbX1 cokX1_hasStretch (pc' := 9) (lv' := [(0, .ref a0), (1, .int x1), (2, .int x2)]) (st' := [.int (q_int h a0 4), .int x2]) (h' := h) 3 rfl ⟨ta0, trivial⟩ ?_
    refine v_icmp_gt C0 cokX1_hasStretch rfl 30 (by decide) hf (fun _ hf => ?_) (fun _ hf => ?_)
    · refine v_run C0 tbX1 cokX1_hasStretch (pc' := 31) (lv' := [(0, .ref a0), (1, .int x1), (2, .int x2)]) (st' := [.int (0 : Int32)]) (h' := h) 1 rfl trivial ?_
      obtain rfl := Option.some.inj hf
      exact v_zret C0 cokX1_hasStretch hr hlk rfl (Or.inl rfl)
    · refine v_run C0 tbX1 cokX1_hasStretch (pc' := 13) (lv' := [(0, .ref a0), (1, .int x1), (2, .int x2)]) (st' := [.int x1]) (h' := h) 1 rfl trivial ?_
      refine v_if_lt C0 cokX1_hasStretch rfl 30 (by decide) hf (fun _ hf => ?_) (fun _ hf => ?_)
      · refine v_run C0 tbX1 cokX1_hasStretch (pc' := 31) (lv' := [(0, .ref a0), (1, .int x1), (2, .int x2)]) (st' := [.int (0 : Int32)]) (h' := h) 1 rfl trivial ?_
        obtain rfl := Option.some.inj hf
        exact v_zret C0 cokX1_hasStretch hr hlk rfl (Or.inl rfl)
      · refine v_run C0 tbX1 cokX1_hasStretch (pc' := 23) (lv' := [(0, .ref a0), (1, .int x1), (2, .int x2)]) (st' := [.int ((q_int h a0 4) - x2), .int x1]) (h' := h) 5 rfl ⟨ta0, trivial⟩ ?_
        refine v_icmp_gt C0 cokX1_hasStretch rfl 30 (by decide) hf (fun _ hf => ?_) (fun _ hf => ?_)
        · refine v_run C0 tbX1 cokX1_hasStretch (pc' := 31) (lv' := [(0, .ref a0), (1, .int x1), (2, .int x2)]) (st' := [.int (0 : Int32)]) (h' := h) 1 rfl trivial ?_
          obtain rfl := Option.some.inj hf
          exact v_zret C0 cokX1_hasStretch hr hlk rfl (Or.inl rfl)
        · refine v_run C0 tbX1 cokX1_hasStretch (pc' := 31) (lv' := [(0, .ref a0), (1, .int x1), (2, .int x2)]) (st' := [.int (1 : Int32)]) (h' := h) 2 rfl trivial ?_
          obtain rfl := Option.some.inj hf
          exact v_zret C0 cokX1_hasStretch hr hlk rfl (Or.inr rfl)
-- BackByNoonOnMonday$Shelf.byteAt(I)I
noncomputable def fX1_byteAt (σ : q_St) (h : q_Hp) (a0 : Nat) (x1 : Int32) : Option Int32 := q_gu ((q_tag σ (q_ref σ a0 0) = 7)) ((if (q_int h a0 4) ≤ x1 then some (-1 : Int32) else ((fX4_at σ h (q_ref σ a0 0) x1).bind fun r1 => some r1)))
def cdX1_byteAt : q_Cd := [(0, .iload_n 1), (1, .aload_n 0), (2, .getfield 31), (5, .if_icmp .ge 14), (8, .aload_n 0), (9, .getfield 9), (12, .iload_n 1), (13, .invokestatic 35), (16, .goto 4), (19, .iconst (-1)), (20, .ireturn)]
set_option maxRecDepth 100000 in
theorem cokX1_byteAt : q_cok cX1_byteAt cdX1_byteAt := by unfold q_cok; decide +kernel
set_option maxRecDepth 100000 in
set_option maxHeartbeats 4000000 in
theorem ctX1_byteAt {l : Launch} {D : va_G} {cy : Nat → Nat} {b0 : Nat} {σ : q_St} {h : q_Hp} (a0 : Nat) (x1 : Int32) {r : Int32} (ta0 : q_tag σ a0 = 2) (hf : fX1_byteAt σ h a0 x1 = some r) : q_M l yX1_byteAt cX1_byteAt 2 (some .int) 1 21 0 0 D cy b0 σ h [.ref a0, .int x1] (some (.int r)) σ h := by
  unfold fX1_byteAt at hf
  obtain ⟨k0, hf⟩ := q_gu_o hf
  refine q_enter (by decide) (Nat.le_of_ble_eq_true rfl) ?_
  intro p e s m args below meth c C0 hr hlk hnm
  replace C0 : VC p { frames := 1, cells := 0, slots := 0, locals := 21 } s m args meth c D cy b0 2 0 0 RX1 cX1_byteAt := C0
  refine v_run C0 tbX1 cokX1_byteAt (pc' := 5) (lv' := [(0, .ref a0), (1, .int x1)]) (st' := [.int (q_int h a0 4), .int x1]) (h' := h) 3 rfl ⟨ta0, trivial⟩ ?_
  refine v_icmp_ge C0 cokX1_byteAt rfl 19 (by decide) hf (fun _ hf => ?_) (fun _ hf => ?_)
  · refine v_run C0 tbX1 cokX1_byteAt (pc' := 20) (lv' := [(0, .ref a0), (1, .int x1)]) (st' := [.int (-1 : Int32)]) (h' := h) 1 rfl trivial ?_
    obtain rfl := Option.some.inj hf
    exact v_iret C0 cokX1_byteAt hr hlk rfl
  · refine v_run C0 tbX1 cokX1_byteAt (pc' := 13) (lv' := [(0, .ref a0), (1, .int x1)]) (st' := [.int x1, .ref (q_ref σ a0 0)]) (h' := h) 3 rfl ⟨⟨ta0, q_tn k0⟩, trivial⟩ ?_
    obtain ⟨r1, e1, hf⟩ := q_bd hf
    refine v_callSN C0 cokX1_byteAt rfl (rest := []) (ctX4_at (q_ref σ a0 0) x1 k0 e1) calX4_at lkX1_35 inX4_at dnX4_at rfl rfl ⟨by decide, by decide⟩ (Nat.le_of_ble_eq_true rfl) (Nat.le_refl _) (Nat.le_refl _) ?_
    refine v_run C0 tbX1 cokX1_byteAt (pc' := 20) (lv' := [(0, .ref a0), (1, .int x1)]) (st' := [.int r1]) (h' := h) 1 rfl trivial ?_
    obtain rfl := Option.some.inj hf
    exact v_iret C0 cokX1_byteAt hr hlk rfl
-- BackByNoonOnMonday$Shelf.number(II)I
noncomputable def fX1_number_5 (σ : q_St) (h : q_Hp) (a0 : Nat) (x1 : Int32) (x2 : Int32) (x3 : Int32) (x4 : Int32) : Option ((Int32 × Int32) ⊕ Int32) := (if x2 ≤ x4 then some (Sum.inr x3) else ((fX1_byteAt σ h a0 (x1 + x4)).bind fun r2 => some (Sum.inl ((((x3 * (10 : Int32)) + r2) - (48 : Int32)), (x4 + (1 : Int32))))))
noncomputable def fX1_number (σ : q_St) (h : q_Hp) (a0 : Nat) (x1 : Int32) (x2 : Int32) : Option Int32 := (q_loop (fun s => fX1_number_5 σ h a0 x1 x2 s.1 s.2) q_N ((0 : Int32), (0 : Int32))).bind fun o1 => some o1
def cdX1_number : q_Cd := [(0, .iconst 0), (1, .istore_n 3), (2, .iconst 0), (3, .istore 4), (5, .iload 4), (7, .iload_n 2), (8, .if_icmp .ge 26), (11, .iload_n 3), (12, .bipush 10), (14, .imul), (15, .aload_n 0), (16, .iload_n 1), (17, .iload 4), (19, .iadd), (20, .invokevirtual 39), (23, .iadd), (24, .bipush 48), (26, .isub), (27, .istore_n 3), (28, .iinc 4 1), (31, .goto (-26)), (34, .iload_n 3), (35, .ireturn)]
set_option maxRecDepth 100000 in
theorem cokX1_number : q_cok cX1_number cdX1_number := by unfold q_cok; decide +kernel
set_option maxRecDepth 100000 in
set_option maxHeartbeats 4000000 in
theorem ctX1_number {l : Launch} {D : va_G} {cy : Nat → Nat} {b0 : Nat} {σ : q_St} {h : q_Hp} (a0 : Nat) (x1 : Int32) (x2 : Int32) {r : Int32} (ta0 : q_tag σ a0 = 2) (hf : fX1_number σ h a0 x1 x2 = some r) : q_M l yX1_number cX1_number 5 (some .int) 2 42 0 0 D cy b0 σ h [.ref a0, .int x1, .int x2] (some (.int r)) σ h := by
  unfold fX1_number at hf
  refine q_enter (by decide) (Nat.le_of_ble_eq_true rfl) ?_
  intro p e s m args below meth c C0 hr hlk hnm
  replace C0 : VC p { frames := 2, cells := 0, slots := 0, locals := 42 } s m args meth c D cy b0 5 0 0 RX1 cX1_number := C0
  have n5 : ∀ (o : Int32) (s1 : (Int32 × Int32)), q_loop (fun s => fX1_number_5 σ h a0 x1 x2 s.1 s.2) q_N s1 = some o → V p l e { frames := 2, cells := 0, slots := 0, locals := 42 } s m args below meth c (MQ below (q_Qc D cy b0 (some (.int r)) σ h) args s 0 0 (fun q => b0 ≤ q)) D cy b0 5 0 0 0 0 σ h 34 [(3, .int o)] [] → V p l e { frames := 2, cells := 0, slots := 0, locals := 42 } s m args below meth c (MQ below (q_Qc D cy b0 (some (.int r)) σ h) args s 0 0 (fun q => b0 ≤ q)) D cy b0 5 0 0 0 0 σ h 5 [(0, .ref a0), (1, .int x1), (2, .int x2), (3, .int s1.1), (4, .int s1.2)] [] := by
    intro o s1 ho kx1
    refine q_loop_V (P := fun s0 => V p l e { frames := 2, cells := 0, slots := 0, locals := 42 } s m args below meth c (MQ below (q_Qc D cy b0 (some (.int r)) σ h) args s 0 0 (fun q => b0 ≤ q)) D cy b0 5 0 0 0 0 σ h 5 [(0, .ref a0), (1, .int x1), (2, .int x2), (3, .int s0.1), (4, .int s0.2)] []) (o := o) ?_ q_N s1 ho
    intro s2 z1 hf kb1 kr1
    obtain ⟨x3, x4⟩ := s2
    replace hf : fX1_number_5 σ h a0 x1 x2 x3 x4 = some z1 := hf
    unfold fX1_number_5 at hf
    show V p l e { frames := 2, cells := 0, slots := 0, locals := 42 } s m args below meth c (MQ below (q_Qc D cy b0 (some (.int r)) σ h) args s 0 0 (fun q => b0 ≤ q)) D cy b0 5 0 0 0 0 σ h 5 [(0, .ref a0), (1, .int x1), (2, .int x2), (3, .int x3), (4, .int x4)] []
    refine v_run C0 tbX1 cokX1_number (pc' := 8) (lv' := [(0, .ref a0), (1, .int x1), (2, .int x2), (3, .int x3), (4, .int x4)]) (st' := [.int x2, .int x4]) (h' := h) 2 rfl trivial ?_
    refine v_icmp_ge C0 cokX1_number rfl 34 (by decide) hf (fun _ hf => ?_) (fun _ hf => ?_)
    · obtain rfl := Option.some.inj hf
      refine v_pick [3] rfl ?_
      have hx := kr1 _ rfl
      subst hx
      exact kx1
    · refine v_run C0 tbX1 cokX1_number (pc' := 20) (lv' := [(0, .ref a0), (1, .int x1), (2, .int x2), (3, .int x3), (4, .int x4)]) (st' := [.int (x1 + x4), .ref a0, .int (x3 * (10 : Int32))]) (h' := h) 7 rfl trivial ?_
      obtain ⟨r2, e2, hf⟩ := q_bd hf
      refine v_callV C0 cokX1_number rfl (rest := [.int (x3 * (10 : Int32))]) (ctX1_byteAt a0 (x1 + x4) ta0 e2) calX1_byteAt lkX1_39 inX1_byteAt dnX1_byteAt (ci := 1) ⟨rfl, by decide⟩ ta0 rfl rfl ⟨by decide, by decide⟩ (Nat.le_of_ble_eq_true rfl) (Nat.le_refl _) (Nat.le_refl _) ?_
      refine v_run C0 tbX1 cokX1_number (pc' := 5) (lv' := [(4, .int (x4 + (1 : Int32))), (3, .int (((x3 * (10 : Int32)) + r2) - (48 : Int32))), (0, .ref a0), (1, .int x1), (2, .int x2)]) (st' := []) (h' := h) 6 rfl trivial ?_
      obtain rfl := Option.some.inj hf
      refine v_pick [2, 3, 4, 1, 0] rfl ?_
      exact kb1 _ rfl
  refine v_run C0 tbX1 cokX1_number (pc' := 5) (lv' := [(4, .int (0 : Int32)), (3, .int (0 : Int32)), (0, .ref a0), (1, .int x1), (2, .int x2)]) (st' := []) (h' := h) 4 rfl trivial ?_
  obtain ⟨o1, eo1, hf⟩ := q_bd hf
  refine v_pick [2, 3, 4, 1, 0] rfl ?_
  refine n5 o1 ((0 : Int32), (0 : Int32)) eo1 ?_
  refine v_run C0 tbX1 cokX1_number (pc' := 35) (lv' := [(3, .int o1)]) (st' := [.int o1]) (h' := h) 1 rfl trivial ?_
  obtain rfl := Option.some.inj hf
  exact v_iret C0 cokX1_number hr hlk rfl
-- BackByNoonOnMonday$Shop.become(LBackByNoonOnMonday$Shop;)V
noncomputable def fX2_become_2 (a0 : Nat) (a1 : Nat) (x2 : Int32) (σ : q_St) (h : q_Hp) : Option ((Int32 × q_St × q_Hp) ⊕ (q_St × q_Hp)) := q_gu ((q_tag σ a0 = 3) ∧ (q_tag σ (q_ref σ a0 0) = 10)) ((if (Int32.ofNat (q_len σ (q_ref σ a0 0))) ≤ x2 then some (Sum.inr (σ, h)) else q_gu ((q_tag σ a1 = 3)) (((fX2_kindOf σ h a1 x2).bind fun r34 => q_gu ((q_tag σ r34 = 4) ∧ (vp_in x2 (q_len σ (q_ref σ a0 0)))) (some (Sum.inl ((x2 + (1 : Int32)), (q_sr σ (q_ref σ a0 0) (Int32.toNatClampNeg x2) r34), h)))))))
noncomputable def fX2_become (σ : q_St) (h : q_Hp) (a0 : Nat) (a1 : Nat) : Option (q_St × q_Hp) := (q_loop (fun s => fX2_become_2  a0 a1 s.1 s.2.1 s.2.2) q_N ((0 : Int32), σ, h)).bind fun o1 => q_gu ((q_tag o1.1 a1 = 3) ∧ (q_tag o1.1 (q_ref o1.1 a1 1) = 7) ∧ (q_tag o1.1 a0 = 3) ∧ (q_tag o1.1 (q_ref o1.1 a0 1) = 7)) (((fX4_fill o1.1 o1.2 (q_ref o1.1 a1 1) (q_ref o1.1 a0 1)).bind fun h6 => q_gu ((q_tag o1.1 (q_ref o1.1 a1 2) = 7) ∧ (q_tag o1.1 (q_ref o1.1 a0 2) = 7)) (((fX4_fill o1.1 h6 (q_ref o1.1 a1 2) (q_ref o1.1 a0 2)).bind fun h9 => q_gu ((q_tag o1.1 (q_ref o1.1 a1 3) = 7) ∧ (q_tag o1.1 (q_ref o1.1 a0 3) = 7)) (((fX4_fill o1.1 h9 (q_ref o1.1 a1 3) (q_ref o1.1 a0 3)).bind fun h12 => q_gu ((q_tag o1.1 (q_ref o1.1 a1 4) = 7) ∧ (q_tag o1.1 (q_ref o1.1 a0 4) = 7)) (((fX4_fill o1.1 h12 (q_ref o1.1 a1 4) (q_ref o1.1 a0 4)).bind fun h15 => q_gu ((q_tag o1.1 (q_ref o1.1 a1 5) = 7) ∧ (q_tag o1.1 (q_ref o1.1 a0 5) = 7)) (((fX4_fill o1.1 h15 (q_ref o1.1 a1 5) (q_ref o1.1 a0 5)).bind fun h18 => q_gu ((q_tag o1.1 (q_ref o1.1 a1 6) = 7) ∧ (q_tag o1.1 (q_ref o1.1 a0 6) = 7)) (((fX4_fill o1.1 h18 (q_ref o1.1 a1 6) (q_ref o1.1 a0 6)).bind fun h21 => q_gu ((q_tag o1.1 (q_ref o1.1 a1 7) = 7) ∧ (q_tag o1.1 (q_ref o1.1 a0 7) = 7)) (((fX4_fill o1.1 h21 (q_ref o1.1 a1 7) (q_ref o1.1 a0 7)).bind fun h24 => q_gu ((q_tag o1.1 (q_ref o1.1 a1 8) = 7) ∧ (q_tag o1.1 (q_ref o1.1 a0 8) = 7)) (((fX4_fill o1.1 h24 (q_ref o1.1 a1 8) (q_ref o1.1 a0 8)).bind fun h27 => q_gu ((q_tag o1.1 (q_ref o1.1 a1 9) = 7) ∧ (q_tag o1.1 (q_ref o1.1 a0 9) = 7)) (((fX4_fill o1.1 h27 (q_ref o1.1 a1 9) (q_ref o1.1 a0 9)).bind fun h30 => some (o1.1, (q_si (q_si (q_si (q_si h30 a0 11 (q_int h30 a1 11)) a0 12 (q_int (q_si h30 a0 11 (q_int h30 a1 11)) a1 12)) a0 13 (q_int (q_si (q_si h30 a0 11 (q_int h30 a1 11)) a0 12 (q_int (q_si h30 a0 11 (q_int h30 a1 11)) a1 12)) a1 13)) a0 14 (q_int (q_si (q_si (q_si h30 a0 11 (q_int h30 a1 11)) a0 12 (q_int (q_si h30 a0 11 (q_int h30 a1 11)) a1 12)) a0 13 (q_int (q_si (q_si h30 a0 11 (q_int h30 a1 11)) a0 12 (q_int (q_si h30 a0 11 (q_int h30 a1 11)) a1 12)) a1 13)) a1 14)))))))))))))))))))))
def cdX2_become : q_Cd := [(0, .iconst 0), (1, .istore_n 2), (2, .iload_n 2), (3, .aload_n 0), (4, .getfield 11), (7, .arraylength), (8, .if_icmp .ge 20), (11, .aload_n 0), (12, .getfield 11), (15, .iload_n 2), (16, .aload_n 1), (17, .iload_n 2), (18, .invokevirtual 65), (21, .aastore), (22, .iinc 2 1), (25, .goto (-23)), (28, .aload_n 1), (29, .getfield 17), (32, .aload_n 0), (33, .getfield 17), (36, .invokestatic 69), (39, .aload_n 1), (40, .getfield 21), (43, .aload_n 0), (44, .getfield 21), (47, .invokestatic 69), (50, .aload_n 1), (51, .getfield 24), (54, .aload_n 0), (55, .getfield 24), (58, .invokestatic 69), (61, .aload_n 1), (62, .getfield 27), (65, .aload_n 0), (66, .getfield 27), (69, .invokestatic 69), (72, .aload_n 1), (73, .getfield 30), (76, .aload_n 0), (77, .getfield 30), (80, .invokestatic 69), (83, .aload_n 1), (84, .getfield 33), (87, .aload_n 0), (88, .getfield 33), (91, .invokestatic 69), (94, .aload_n 1), (95, .getfield 36), (98, .aload_n 0), (99, .getfield 36), (102, .invokestatic 69), (105, .aload_n 1), (106, .getfield 39), (109, .aload_n 0), (110, .getfield 39), (113, .invokestatic 69), (116, .aload_n 1), (117, .getfield 42), (120, .aload_n 0), (121, .getfield 42), (124, .invokestatic 69), (127, .aload_n 0), (128, .aload_n 1), (129, .getfield 52), (132, .putfield 52), (135, .aload_n 0), (136, .aload_n 1), (137, .getfield 56), (140, .putfield 56), (143, .aload_n 0), (144, .aload_n 1), (145, .getfield 59), (148, .putfield 59), (151, .aload_n 0), (152, .aload_n 1), (153, .getfield 62), (156, .putfield 62), (159, .return_)]
set_option maxRecDepth 100000 in
theorem cokX2_become : q_cok cX2_become cdX2_become := by unfold q_cok; decide +kernel
set_option maxRecDepth 100000 in
set_option maxHeartbeats 4000000 in
theorem ctX2_become {l : Launch} {D : va_G} {cy : Nat → Nat} {b0 : Nat} {σ : q_St} {h : q_Hp} (a0 : Nat) (a1 : Nat) {σ' : q_St} {h' : q_Hp} (ta0 : q_tag σ a0 = 3) (ta1 : q_tag σ a1 = 3) (hf : fX2_become σ h a0 a1 = some (σ', h')) : q_M l yX2_become cX2_become 3 none 1 22 0 0 D cy b0 σ h [.ref a0, .ref a1] none σ' h' := by
  unfold fX2_become at hf
  refine q_enter (by decide) (Nat.le_of_ble_eq_true rfl) ?_
  intro p e s m args below meth c C0 hr hlk hnm
  replace C0 : VC p { frames := 1, cells := 0, slots := 0, locals := 22 } s m args meth c D cy b0 3 0 0 RX2 cX2_become := C0
  have n2 : ∀ (o : (q_St × q_Hp)) (s1 : (Int32 × q_St × q_Hp)), q_loop (fun s => fX2_become_2  a0 a1 s.1 s.2.1 s.2.2) q_N s1 = some o → V p l e { frames := 1, cells := 0, slots := 0, locals := 22 } s m args below meth c (MQ below (q_Qc D cy b0 none σ' h') args s 0 0 (fun q => b0 ≤ q)) D cy b0 3 0 0 0 0 o.1 o.2 28 [(0, .ref a0), (1, .ref a1)] [] → V p l e { frames := 1, cells := 0, slots := 0, locals := 22 } s m args below meth c (MQ below (q_Qc D cy b0 none σ' h') args s 0 0 (fun q => b0 ≤ q)) D cy b0 3 0 0 0 0 s1.2.1 s1.2.2 2 [(0, .ref a0), (1, .ref a1), (2, .int s1.1)] [] := by
    intro o s1 ho kx1
    refine q_loop_V (P := fun s0 => V p l e { frames := 1, cells := 0, slots := 0, locals := 22 } s m args below meth c (MQ below (q_Qc D cy b0 none σ' h') args s 0 0 (fun q => b0 ≤ q)) D cy b0 3 0 0 0 0 s0.2.1 s0.2.2 2 [(0, .ref a0), (1, .ref a1), (2, .int s0.1)] []) (o := o) ?_ q_N s1 ho
    intro s2 z1 hf kb1 kr1
    obtain ⟨x2, σ, h⟩ := s2
    replace hf : fX2_become_2  a0 a1 x2 σ h = some z1 := hf
    unfold fX2_become_2 at hf
    show V p l e { frames := 1, cells := 0, slots := 0, locals := 22 } s m args below meth c (MQ below (q_Qc D cy b0 none σ' h') args s 0 0 (fun q => b0 ≤ q)) D cy b0 3 0 0 0 0 σ h 2 [(0, .ref a0), (1, .ref a1), (2, .int x2)] []
    obtain ⟨⟨g31, g32⟩, hf⟩ := q_gu_o hf
    refine v_run C0 tbX2 cokX2_become (pc' := 8) (lv' := [(0, .ref a0), (1, .ref a1), (2, .int x2)]) (st' := [.int (Int32.ofNat (q_len σ (q_ref σ a0 0))), .int x2]) (h' := h) 4 rfl ⟨⟨g31, q_tn g32⟩, (Or.inr (Or.inr (Or.inr g32))), trivial⟩ ?_
    refine v_icmp_ge C0 cokX2_become rfl 28 (by decide) hf (fun _ hf => ?_) (fun _ hf => ?_)
    · obtain rfl := Option.some.inj hf
      refine v_pick [0, 1] rfl ?_
      have hx := kr1 _ rfl
      subst hx
      exact kx1
    · refine v_run C0 tbX2 cokX2_become (pc' := 18) (lv' := [(0, .ref a0), (1, .ref a1), (2, .int x2)]) (st' := [.int x2, .ref a1, .int x2, .ref (q_ref σ a0 0)]) (h' := h) 5 rfl ⟨⟨g31, q_tn g32⟩, trivial⟩ ?_
      obtain ⟨g33, hf⟩ := q_gu_o hf
      obtain ⟨r34, e34, hf⟩ := q_bd hf
      refine v_callV C0 cokX2_become rfl (rest := [.int x2, .ref (q_ref σ a0 0)]) (ctX2_kindOf a1 x2 g33 e34) calX2_kindOf lkX2_65 inX2_kindOf dnX2_kindOf (ci := 2) ⟨rfl, by decide⟩ g33 rfl rfl ⟨by decide, by decide⟩ (Nat.le_of_ble_eq_true rfl) (Nat.le_refl _) (Nat.le_refl _) ?_
      obtain ⟨⟨g35, g36⟩, hf⟩ := q_gu_o hf
      refine v_aast C0 cokX2_become rfl (Or.inr ⟨g32, g35⟩) g36 ?_
      refine v_run C0 tbX2 cokX2_become (pc' := 2) (lv' := [(2, .int (x2 + (1 : Int32))), (0, .ref a0), (1, .ref a1)]) (st' := []) (h' := h) 2 rfl trivial ?_
      obtain rfl := Option.some.inj hf
      refine v_pick [1, 2, 0] rfl ?_
      exact kb1 _ rfl
  refine v_run C0 tbX2 cokX2_become (pc' := 2) (lv' := [(2, .int (0 : Int32)), (0, .ref a0), (1, .ref a1)]) (st' := []) (h' := h) 2 rfl trivial ?_
  obtain ⟨o1, eo1, hf⟩ := q_bd hf
  refine v_pick [1, 2, 0] rfl ?_
  refine n2 o1 ((0 : Int32), σ, h) eo1 ?_
  obtain ⟨⟨g2, g3, g4, g5⟩, hf⟩ := q_gu_o hf
  refine v_run C0 tbX2 cokX2_become (pc' := 36) (lv' := [(0, .ref a0), (1, .ref a1)]) (st' := [.ref (q_ref o1.1 a0 1), .ref (q_ref o1.1 a1 1)]) (h' := o1.2) 4 rfl ⟨⟨g2, q_tn g3⟩, ⟨g4, q_tn g5⟩, trivial⟩ ?_
  obtain ⟨h6, e6, hf⟩ := q_bd hf
  refine v_callSN C0 cokX2_become rfl (rest := []) (ctX4_fill (q_ref o1.1 a1 1) (q_ref o1.1 a0 1) g3 g5 e6) calX4_fill lkX2_69 inX4_fill dnX4_fill rfl rfl ⟨by decide, by decide⟩ (Nat.le_of_ble_eq_true rfl) (Nat.le_refl _) (Nat.le_refl _) ?_
  obtain ⟨⟨g7, g8⟩, hf⟩ := q_gu_o hf
  refine v_run C0 tbX2 cokX2_become (pc' := 47) (lv' := [(0, .ref a0), (1, .ref a1)]) (st' := [.ref (q_ref o1.1 a0 2), .ref (q_ref o1.1 a1 2)]) (h' := h6) 4 rfl ⟨⟨g2, q_tn g7⟩, ⟨g4, q_tn g8⟩, trivial⟩ ?_
  obtain ⟨h9, e9, hf⟩ := q_bd hf
  refine v_callSN C0 cokX2_become rfl (rest := []) (ctX4_fill (q_ref o1.1 a1 2) (q_ref o1.1 a0 2) g7 g8 e9) calX4_fill lkX2_69 inX4_fill dnX4_fill rfl rfl ⟨by decide, by decide⟩ (Nat.le_of_ble_eq_true rfl) (Nat.le_refl _) (Nat.le_refl _) ?_
  obtain ⟨⟨g10, g11⟩, hf⟩ := q_gu_o hf
  refine v_run C0 tbX2 cokX2_become (pc' := 58) (lv' := [(0, .ref a0), (1, .ref a1)]) (st' := [.ref (q_ref o1.1 a0 3), .ref (q_ref o1.1 a1 3)]) (h' := h9) 4 rfl ⟨⟨g2, q_tn g10⟩, ⟨g4, q_tn g11⟩, trivial⟩ ?_
  obtain ⟨h12, e12, hf⟩ := q_bd hf
  refine v_callSN C0 cokX2_become rfl (rest := []) (ctX4_fill (q_ref o1.1 a1 3) (q_ref o1.1 a0 3) g10 g11 e12) calX4_fill lkX2_69 inX4_fill dnX4_fill rfl rfl ⟨by decide, by decide⟩ (Nat.le_of_ble_eq_true rfl) (Nat.le_refl _) (Nat.le_refl _) ?_
  obtain ⟨⟨g13, g14⟩, hf⟩ := q_gu_o hf
  refine v_run C0 tbX2 cokX2_become (pc' := 69) (lv' := [(0, .ref a0), (1, .ref a1)]) (st' := [.ref (q_ref o1.1 a0 4), .ref (q_ref o1.1 a1 4)]) (h' := h12) 4 rfl ⟨⟨g2, q_tn g13⟩, ⟨g4, q_tn g14⟩, trivial⟩ ?_
  obtain ⟨h15, e15, hf⟩ := q_bd hf
  refine v_callSN C0 cokX2_become rfl (rest := []) (ctX4_fill (q_ref o1.1 a1 4) (q_ref o1.1 a0 4) g13 g14 e15) calX4_fill lkX2_69 inX4_fill dnX4_fill rfl rfl ⟨by decide, by decide⟩ (Nat.le_of_ble_eq_true rfl) (Nat.le_refl _) (Nat.le_refl _) ?_
  obtain ⟨⟨g16, g17⟩, hf⟩ := q_gu_o hf
  refine v_run C0 tbX2 cokX2_become (pc' := 80) (lv' := [(0, .ref a0), (1, .ref a1)]) (st' := [.ref (q_ref o1.1 a0 5), .ref (q_ref o1.1 a1 5)]) (h' := h15) 4 rfl ⟨⟨g2, q_tn g16⟩, ⟨g4, q_tn g17⟩, trivial⟩ ?_
  obtain ⟨h18, e18, hf⟩ := q_bd hf
  refine v_callSN C0 cokX2_become rfl (rest := []) (ctX4_fill (q_ref o1.1 a1 5) (q_ref o1.1 a0 5) g16 g17 e18) calX4_fill lkX2_69 inX4_fill dnX4_fill rfl rfl ⟨by decide, by decide⟩ (Nat.le_of_ble_eq_true rfl) (Nat.le_refl _) (Nat.le_refl _) ?_
  obtain ⟨⟨g19, g20⟩, hf⟩ := q_gu_o hf
  refine v_run C0 tbX2 cokX2_become (pc' := 91) (lv' := [(0, .ref a0), (1, .ref a1)]) (st' := [.ref (q_ref o1.1 a0 6), .ref (q_ref o1.1 a1 6)]) (h' := h18) 4 rfl ⟨⟨g2, q_tn g19⟩, ⟨g4, q_tn g20⟩, trivial⟩ ?_
  obtain ⟨h21, e21, hf⟩ := q_bd hf
  refine v_callSN C0 cokX2_become rfl (rest := []) (ctX4_fill (q_ref o1.1 a1 6) (q_ref o1.1 a0 6) g19 g20 e21) calX4_fill lkX2_69 inX4_fill dnX4_fill rfl rfl ⟨by decide, by decide⟩ (Nat.le_of_ble_eq_true rfl) (Nat.le_refl _) (Nat.le_refl _) ?_
  obtain ⟨⟨g22, g23⟩, hf⟩ := q_gu_o hf
  refine v_run C0 tbX2 cokX2_become (pc' := 102) (lv' := [(0, .ref a0), (1, .ref a1)]) (st' := [.ref (q_ref o1.1 a0 7), .ref (q_ref o1.1 a1 7)]) (h' := h21) 4 rfl ⟨⟨g2, q_tn g22⟩, ⟨g4, q_tn g23⟩, trivial⟩ ?_
  obtain ⟨h24, e24, hf⟩ := q_bd hf
  refine v_callSN C0 cokX2_become rfl (rest := []) (ctX4_fill (q_ref o1.1 a1 7) (q_ref o1.1 a0 7) g22 g23 e24) calX4_fill lkX2_69 inX4_fill dnX4_fill rfl rfl ⟨by decide, by decide⟩ (Nat.le_of_ble_eq_true rfl) (Nat.le_refl _) (Nat.le_refl _) ?_
  obtain ⟨⟨g25, g26⟩, hf⟩ := q_gu_o hf
  refine v_run C0 tbX2 cokX2_become (pc' := 113) (lv' := [(0, .ref a0), (1, .ref a1)]) (st' := [.ref (q_ref o1.1 a0 8), .ref (q_ref o1.1 a1 8)]) (h' := h24) 4 rfl ⟨⟨g2, q_tn g25⟩, ⟨g4, q_tn g26⟩, trivial⟩ ?_
  obtain ⟨h27, e27, hf⟩ := q_bd hf
  refine v_callSN C0 cokX2_become rfl (rest := []) (ctX4_fill (q_ref o1.1 a1 8) (q_ref o1.1 a0 8) g25 g26 e27) calX4_fill lkX2_69 inX4_fill dnX4_fill rfl rfl ⟨by decide, by decide⟩ (Nat.le_of_ble_eq_true rfl) (Nat.le_refl _) (Nat.le_refl _) ?_
  obtain ⟨⟨g28, g29⟩, hf⟩ := q_gu_o hf
  refine v_run C0 tbX2 cokX2_become (pc' := 124) (lv' := [(0, .ref a0), (1, .ref a1)]) (st' := [.ref (q_ref o1.1 a0 9), .ref (q_ref o1.1 a1 9)]) (h' := h27) 4 rfl ⟨⟨g2, q_tn g28⟩, ⟨g4, q_tn g29⟩, trivial⟩ ?_
  obtain ⟨h30, e30, hf⟩ := q_bd hf
  refine v_callSN C0 cokX2_become rfl (rest := []) (ctX4_fill (q_ref o1.1 a1 9) (q_ref o1.1 a0 9) g28 g29 e30) calX4_fill lkX2_69 inX4_fill dnX4_fill rfl rfl ⟨by decide, by decide⟩ (Nat.le_of_ble_eq_true rfl) (Nat.le_refl _) (Nat.le_refl _) ?_
  refine v_run C0 tbX2 cokX2_become (pc' := 159) (lv' := [(0, .ref a0), (1, .ref a1)]) (st' := []) (h' := (q_si (q_si (q_si (q_si h30 a0 11 (q_int h30 a1 11)) a0 12 (q_int (q_si h30 a0 11 (q_int h30 a1 11)) a1 12)) a0 13 (q_int (q_si (q_si h30 a0 11 (q_int h30 a1 11)) a0 12 (q_int (q_si h30 a0 11 (q_int h30 a1 11)) a1 12)) a1 13)) a0 14 (q_int (q_si (q_si (q_si h30 a0 11 (q_int h30 a1 11)) a0 12 (q_int (q_si h30 a0 11 (q_int h30 a1 11)) a1 12)) a0 13 (q_int (q_si (q_si h30 a0 11 (q_int h30 a1 11)) a0 12 (q_int (q_si h30 a0 11 (q_int h30 a1 11)) a1 12)) a1 13)) a1 14))) 16 rfl ⟨g2, g4, g2, g4, g2, g4, g2, g4, trivial⟩ ?_
  obtain ⟨rfl, rfl⟩ := Prod.mk.inj (Option.some.inj hf)
  exact v_vret C0 cokX2_become hr hlk rfl
-- BackByNoonOnMonday.isIn(III)Z
noncomputable def fX4_isIn (σ : q_St) (h : q_Hp) (x0 : Int32) (x1 : Int32) (x2 : Int32) : Option Int32 := (if x0 < x1 then some (0 : Int32) else (if x2 < x0 then some (0 : Int32) else some (1 : Int32)))
def cdX4_isIn : q_Cd := [(0, .iload_n 0), (1, .iload_n 1), (2, .if_icmp .lt 12), (5, .iload_n 0), (6, .iload_n 2), (7, .if_icmp .gt 7), (10, .iconst 1), (11, .goto 4), (14, .iconst 0), (15, .ireturn)]
set_option maxRecDepth 100000 in
theorem cokX4_isIn : q_cok cX4_isIn cdX4_isIn := by unfold q_cok; decide +kernel
set_option maxRecDepth 100000 in
set_option maxHeartbeats 4000000 in
theorem ctX4_isIn {l : Launch} {D : va_G} {cy : Nat → Nat} {b0 : Nat} {σ : q_St} {h : q_Hp} (x0 : Int32) (x1 : Int32) (x2 : Int32) {r : Int32} (hf : fX4_isIn σ h x0 x1 x2 = some r) : q_M l yX4_isIn cX4_isIn 3 (some .boolean) 0 0 0 0 D cy b0 σ h [.int x0, .int x1, .int x2] (some (.int r)) σ h := by
  unfold fX4_isIn at hf
  refine q_enter (by decide) (Nat.le_of_ble_eq_true rfl) ?_
  intro p e s m args below meth c C0 hr hlk hnm
  replace C0 : VC p { frames := 0, cells := 0, slots := 0, locals := 0 } s m args meth c D cy b0 3 0 0 RX4 cX4_isIn := C0
  refine v_run C0 tbX4 cokX4_isIn (pc' := 2) (lv' := [(0, .int x0), (1, .int x1), (2, .int x2)]) (st' := [.int x1, .int x0]) (h' := h) 2 rfl trivial ?_
  refine v_icmp_lt C0 cokX4_isIn rfl 14 (by decide) hf (fun _ hf => ?_) (fun _ hf => ?_)
  · refine v_run C0 tbX4 cokX4_isIn (pc' := 15) (lv' := [(0, .int x0), (1, .int x1), (2, .int x2)]) (st' := [.int (0 : Int32)]) (h' := h) 1 rfl trivial ?_
    obtain rfl := Option.some.inj hf
    exact v_zret C0 cokX4_isIn hr hlk rfl (Or.inl rfl)
  · refine v_run C0 tbX4 cokX4_isIn (pc' := 7) (lv' := [(0, .int x0), (1, .int x1), (2, .int x2)]) (st' := [.int x2, .int x0]) (h' := h) 2 rfl trivial ?_
    refine v_icmp_gt C0 cokX4_isIn rfl 14 (by decide) hf (fun _ hf => ?_) (fun _ hf => ?_)
    · refine v_run C0 tbX4 cokX4_isIn (pc' := 15) (lv' := [(0, .int x0), (1, .int x1), (2, .int x2)]) (st' := [.int (0 : Int32)]) (h' := h) 1 rfl trivial ?_
      obtain rfl := Option.some.inj hf
      exact v_zret C0 cokX4_isIn hr hlk rfl (Or.inl rfl)
    · refine v_run C0 tbX4 cokX4_isIn (pc' := 15) (lv' := [(0, .int x0), (1, .int x1), (2, .int x2)]) (st' := [.int (1 : Int32)]) (h' := h) 2 rfl trivial ?_
      obtain rfl := Option.some.inj hf
      exact v_zret C0 cokX4_isIn hr hlk rfl (Or.inr rfl)
-- BackByNoonOnMonday$Shop.isSuit(I)Z
noncomputable def fX2_isSuit (σ : q_St) (h : q_Hp) (a0 : Nat) (x1 : Int32) : Option Int32 := ((fX4_isIn σ h x1 (0 : Int32) ((q_int h a0 11) - (1 : Int32))).bind fun r1 => q_gu ((r1 = 0 ∨ r1 = 1)) (some r1))
def cdX2_isSuit : q_Cd := [(0, .iload_n 1), (1, .iconst 0), (2, .aload_n 0), (3, .getfield 52), (6, .iconst 1), (7, .isub), (8, .invokestatic 73), (11, .ireturn)]
set_option maxRecDepth 100000 in
theorem cokX2_isSuit : q_cok cX2_isSuit cdX2_isSuit := by unfold q_cok; decide +kernel
set_option maxRecDepth 100000 in
set_option maxHeartbeats 4000000 in
theorem ctX2_isSuit {l : Launch} {D : va_G} {cy : Nat → Nat} {b0 : Nat} {σ : q_St} {h : q_Hp} (a0 : Nat) (x1 : Int32) {r : Int32} (ta0 : q_tag σ a0 = 3) (hf : fX2_isSuit σ h a0 x1 = some r) : q_M l yX2_isSuit cX2_isSuit 2 (some .boolean) 1 22 0 0 D cy b0 σ h [.ref a0, .int x1] (some (.int r)) σ h := by
  unfold fX2_isSuit at hf
  refine q_enter (by decide) (Nat.le_of_ble_eq_true rfl) ?_
  intro p e s m args below meth c C0 hr hlk hnm
  replace C0 : VC p { frames := 1, cells := 0, slots := 0, locals := 22 } s m args meth c D cy b0 2 0 0 RX2 cX2_isSuit := C0
  refine v_run C0 tbX2 cokX2_isSuit (pc' := 8) (lv' := [(0, .ref a0), (1, .int x1)]) (st' := [.int ((q_int h a0 11) - (1 : Int32)), .int (0 : Int32), .int x1]) (h' := h) 6 rfl ⟨ta0, trivial⟩ ?_
  obtain ⟨r1, e1, hf⟩ := q_bd hf
  refine v_callSN C0 cokX2_isSuit rfl (rest := []) (ctX4_isIn x1 (0 : Int32) ((q_int h a0 11) - (1 : Int32)) e1) calX4_isIn lkX2_73 inX4_isIn dnX4_isIn rfl rfl ⟨by decide, by decide⟩ (Nat.le_of_ble_eq_true rfl) (Nat.le_refl _) (Nat.le_refl _) ?_
  obtain ⟨g2, hf⟩ := q_gu_o hf
  obtain rfl := Option.some.inj hf
  exact v_zret C0 cokX2_isSuit hr hlk rfl g2
-- BackByNoonOnMonday$Shop.isBooking(I)Z
noncomputable def fX2_isBooking (σ : q_St) (h : q_Hp) (a0 : Nat) (x1 : Int32) : Option Int32 := ((fX4_isIn σ h x1 (0 : Int32) ((q_int h a0 12) - (1 : Int32))).bind fun r1 => q_gu ((r1 = 0 ∨ r1 = 1)) (some r1))
def cdX2_isBooking : q_Cd := [(0, .iload_n 1), (1, .iconst 0), (2, .aload_n 0), (3, .getfield 56), (6, .iconst 1), (7, .isub), (8, .invokestatic 73), (11, .ireturn)]
set_option maxRecDepth 100000 in
theorem cokX2_isBooking : q_cok cX2_isBooking cdX2_isBooking := by unfold q_cok; decide +kernel
set_option maxRecDepth 100000 in
set_option maxHeartbeats 4000000 in
theorem ctX2_isBooking {l : Launch} {D : va_G} {cy : Nat → Nat} {b0 : Nat} {σ : q_St} {h : q_Hp} (a0 : Nat) (x1 : Int32) {r : Int32} (ta0 : q_tag σ a0 = 3) (hf : fX2_isBooking σ h a0 x1 = some r) : q_M l yX2_isBooking cX2_isBooking 2 (some .boolean) 1 22 0 0 D cy b0 σ h [.ref a0, .int x1] (some (.int r)) σ h := by
  unfold fX2_isBooking at hf
  refine q_enter (by decide) (Nat.le_of_ble_eq_true rfl) ?_
  intro p e s m args below meth c C0 hr hlk hnm
  replace C0 : VC p { frames := 1, cells := 0, slots := 0, locals := 22 } s m args meth c D cy b0 2 0 0 RX2 cX2_isBooking := C0
  refine v_run C0 tbX2 cokX2_isBooking (pc' := 8) (lv' := [(0, .ref a0), (1, .int x1)]) (st' := [.int ((q_int h a0 12) - (1 : Int32)), .int (0 : Int32), .int x1]) (h' := h) 6 rfl ⟨ta0, trivial⟩ ?_
  obtain ⟨r1, e1, hf⟩ := q_bd hf
  refine v_callSN C0 cokX2_isBooking rfl (rest := []) (ctX4_isIn x1 (0 : Int32) ((q_int h a0 12) - (1 : Int32)) e1) calX4_isIn lkX2_73 inX4_isIn dnX4_isIn rfl rfl ⟨by decide, by decide⟩ (Nat.le_of_ble_eq_true rfl) (Nat.le_refl _) (Nat.le_refl _) ?_
  obtain ⟨g2, hf⟩ := q_gu_o hf
  obtain rfl := Option.some.inj hf
  exact v_zret C0 cokX2_isBooking hr hlk rfl g2
