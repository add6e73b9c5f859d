-- BackByNoonOnMonday.firstCleaned(II)I
noncomputable def fX4_firstCleaned_2 (σ : q_St) (h : q_Hp) (a0 : Nat) (x1 : Int32) (x2 : Int32) (x3 : Int32) : Option (Int32 ⊕ (Unit ⊕ Int32)) := (if x2 ≤ x3 then some (Sum.inr (Sum.inl ())) else ((fX4_at σ h (q_ref σ a0 11) x3).bind fun r3 => ((fX4_hasBit σ h x1 r3).bind fun r4 => (if r4 = 0 then some (Sum.inl (x3 + (1 : Int32))) else ((fX4_at σ h (q_ref σ a0 11) x3).bind fun r5 => some (Sum.inr (Sum.inr r5)))))))
noncomputable def fX4_firstCleaned (σ : q_St) (h : q_Hp) (a0 : Nat) (x1 : Int32) (x2 : Int32) : Option Int32 := q_gu ((q_tag σ (q_ref σ a0 11) = 7)) ((q_loop (fun s => fX4_firstCleaned_2 σ h a0 x1 x2 s) q_N (0 : Int32)).bind fun o1 => q_el o1 fun w2 => some (-4 : Int32))
def cdX4_firstCleaned : q_Cd := [(0, .iconst 0), (1, .istore_n 3), (2, .iload_n 3), (3, .iload_n 2), (4, .if_icmp .ge 33), (7, .iload_n 1), (8, .aload_n 0), (9, .getfield 64), (12, .iload_n 3), (13, .invokestatic 105), (16, .invokestatic 241), (19, .ifCond .eq 12), (22, .aload_n 0), (23, .getfield 64), (26, .iload_n 3), (27, .invokestatic 105), (30, .ireturn), (31, .iinc 3 1), (34, .goto (-32)), (37, .bipush (-4)), (39, .ireturn)]
set_option maxRecDepth 100000 in
theorem cokX4_firstCleaned : q_cok cX4_firstCleaned cdX4_firstCleaned := by unfold q_cok; decide +kernel
set_option maxRecDepth 100000 in
set_option maxHeartbeats 4000000 in
theorem ctX4_firstCleaned {l : Launch} {D : va_G} {cy : Nat → Nat} {b0 : Nat} {σ : q_St} {h : q_Hp} (a0 : Nat) (x1 : Int32) (x2 : Int32) {r : Int32} (ta0 : q_tag σ a0 = 5) (hf : fX4_firstCleaned σ h a0 x1 x2 = some r) : q_M l yX4_firstCleaned cX4_firstCleaned 4 (some .int) 1 21 0 0 D cy b0 σ h [.ref a0, .int x1, .int x2] (some (.int r)) σ h := by
  unfold fX4_firstCleaned at hf
  obtain ⟨k0, hf⟩ := q_gu_o hf
  refine q_enter (by decide) (Nat.le_of_ble_eq_true rfl) ?_
  intro p e s m args below meth c C0 hr hlk hnm
  replace C0 : VC p { frames := 1, cells := 0, slots := 0, locals := 21 } s m args meth c D cy b0 4 0 0 RX4 cX4_firstCleaned := C0
  have n2 : ∀ (o : (Unit ⊕ Int32)) (s1 : Int32), q_loop (fun s => fX4_firstCleaned_2 σ h a0 x1 x2 s) q_N s1 = some o → (∀ w0 : Unit, Sum.inl w0 = o → V p l e { frames := 1, cells := 0, slots := 0, locals := 21 } s m args below meth c (MQ below (q_Qc D cy b0 (some (.int r)) σ h) args s 0 0 (fun q => b0 ≤ q)) D cy b0 4 0 0 0 0 σ h 37 [] []) → (∀ r0 : Int32, Sum.inr r0 = o → (some r0 : Option Int32) = some r) → V p l e { frames := 1, cells := 0, slots := 0, locals := 21 } s m args below meth c (MQ below (q_Qc D cy b0 (some (.int r)) σ h) args s 0 0 (fun q => b0 ≤ q)) D cy b0 4 0 0 0 0 σ h 2 [(0, .ref a0), (1, .int x1), (2, .int x2), (3, .int s1)] [] := by
    intro o s1 ho kx1 ke1
    refine q_loop_V (P := fun s0 => V p l e { frames := 1, cells := 0, slots := 0, locals := 21 } s m args below meth c (MQ below (q_Qc D cy b0 (some (.int r)) σ h) args s 0 0 (fun q => b0 ≤ q)) D cy b0 4 0 0 0 0 σ h 2 [(0, .ref a0), (1, .int x1), (2, .int x2), (3, .int s0)] []) (o := o) ?_ q_N s1 ho
    intro x3 z1 hf kb1 kr1
    replace hf : fX4_firstCleaned_2 σ h a0 x1 x2 x3 = some z1 := hf
    unfold fX4_firstCleaned_2 at hf
    show V p l e { frames := 1, cells := 0, slots := 0, locals := 21 } s m args below meth c (MQ below (q_Qc D cy b0 (some (.int r)) σ h) args s 0 0 (fun q => b0 ≤ q)) D cy b0 4 0 0 0 0 σ h 2 [(0, .ref a0), (1, .int x1), (2, .int x2), (3, .int x3)] []
    refine v_run C0 tbX4 cokX4_firstCleaned (pc' := 4) (lv' := [(0, .ref a0), (1, .int x1), (2, .int x2), (3, .int x3)]) (st' := [.int x2, .int x3]) (h' := h) 2 rfl trivial ?_
    refine v_icmp_ge C0 cokX4_firstCleaned rfl 37 (by decide) hf (fun _ hf => ?_) (fun _ hf => ?_)
    · obtain rfl := Option.some.inj hf
      refine v_pick [] rfl ?_
      exact kx1 _ (kr1 _ rfl)
    · refine v_run C0 tbX4 cokX4_firstCleaned (pc' := 13) (lv' := [(0, .ref a0), (1, .int x1), (2, .int x2), (3, .int x3)]) (st' := [.int x3, .ref (q_ref σ a0 11), .int x1]) (h' := h) 4 rfl ⟨⟨ta0, q_tn k0⟩, trivial⟩ ?_
      obtain ⟨r3, e3, hf⟩ := q_bd hf
      refine v_callS C0 cokX4_firstCleaned rfl (rest := [.int x1]) (ctX4_at (q_ref σ a0 11) x3 k0 e3) calX4_at lkX4_105 inX4_at dnX4_at rfl rfl ⟨by decide, by decide⟩ (Nat.le_of_ble_eq_true rfl) (Nat.le_refl _) (Nat.le_refl _) ?_
      obtain ⟨r4, e4, hf⟩ := q_bd hf
      refine v_callS C0 cokX4_firstCleaned rfl (rest := []) (ctX4_hasBit x1 r3 e4) calX4_hasBit lkX4_241 inX4_hasBit dnX4_hasBit rfl rfl ⟨by decide, by decide⟩ (Nat.le_of_ble_eq_true rfl) (Nat.le_refl _) (Nat.le_refl _) ?_
      refine v_if_eq C0 cokX4_firstCleaned rfl 31 (by decide) hf (fun _ hf => ?_) (fun _ hf => ?_)
      · refine v_run C0 tbX4 cokX4_firstCleaned (pc' := 2) (lv' := [(3, .int (x3 + (1 : Int32))), (0, .ref a0), (1, .int x1), (2, .int x2)]) (st' := []) (h' := h) 2 rfl trivial ?_
        obtain rfl := Option.some.inj hf
        refine v_pick [1, 2, 3, 0] rfl ?_
        exact kb1 _ rfl
      · refine v_run C0 tbX4 cokX4_firstCleaned (pc' := 27) (lv' := [(0, .ref a0), (1, .int x1), (2, .int x2), (3, .int x3)]) (st' := [.int x3, .ref (q_ref σ a0 11)]) (h' := h) 3 rfl ⟨⟨ta0, q_tn k0⟩, trivial⟩ ?_
        obtain ⟨r5, e5, hf⟩ := q_bd hf
        refine v_callS C0 cokX4_firstCleaned rfl (rest := []) (ctX4_at (q_ref σ a0 11) x3 k0 e5) calX4_at lkX4_105 inX4_at dnX4_at rfl rfl ⟨by decide, by decide⟩ (Nat.le_of_ble_eq_true rfl) (Nat.le_refl _) (Nat.le_refl _) ?_
        obtain rfl := Option.some.inj hf
        have hf := ke1 _ (kr1 _ rfl)
        obtain rfl := Option.some.inj hf
        exact v_iret C0 cokX4_firstCleaned hr hlk rfl
  refine v_run C0 tbX4 cokX4_firstCleaned (pc' := 2) (lv' := [(3, .int (0 : Int32)), (0, .ref a0), (1, .int x1), (2, .int x2)]) (st' := []) (h' := h) 2 rfl trivial ?_
  obtain ⟨o1, eo1, hf⟩ := q_bd hf
  refine v_pick [1, 2, 3, 0] rfl ?_
  refine n2 o1 (0 : Int32) eo1 (fun w2 hx => ?_) (fun r0 hx => ?_)
  · rw [← hx] at hf
    replace hf := q_el_l hf
    refine v_run C0 tbX4 cokX4_firstCleaned (pc' := 39) (lv' := []) (st' := [.int (-4 : Int32)]) (h' := h) 1 rfl trivial ?_
    obtain rfl := Option.some.inj hf
    exact v_iret C0 cokX4_firstCleaned hr hlk rfl
  · rw [← hx] at hf
    exact hf
-- BackByNoonOnMonday.ready(II)I
noncomputable def fX4_ready (σ : q_St) (h : q_Hp) (a0 : Nat) (x1 : Int32) (x2 : Int32) : Option (Int32 × q_Hp) := q_gu ((q_tag σ (q_ref σ a0 0) = 3)) (((fX4_isShelf σ h x1).bind fun r1 => (if r1 = 0 then some ((-1 : Int32), h) else ((fX4_isIn σ h x2 (0 : Int32) (2 : Int32)).bind fun r2 => (if r2 = 0 then some ((-1 : Int32), h) else ((fX4_shelfAt σ h a0 x1).bind fun r3 => q_gu ((q_tag σ r3 = 2)) (((fX1_refusal σ h r3 (2 : Int32)).bind fun r5 => (if r5 = 0 then (q_b2 (fX4_readHours σ h a0 r3) fun r6 h6 => (if r6 = 0 then some ((-13 : Int32), h6) else (if x2 = (2 : Int32) then ((fX2_suitsThatAre σ h6 (q_ref σ a0 0) (2 : Int32)).bind fun r11 => ((fX2_hoursOf σ h6 (q_ref σ a0 0) r11).bind fun r12 => some (r12, h6))) else (q_b2 (fX4_orderCleaning σ h6 a0) fun r7 h7 => ((fX4_mostReady σ h7 a0 r7).bind fun r8 => (if x2 = 0 then ((fJ6_bitCount_0f7a4 σ h7 r8).bind fun r10 => some (r10, h7)) else ((fX4_firstCleaned σ h7 a0 r8 r7).bind fun r9 => some (r9, h7)))))))) else some (r5, h))))))))))
def cdX4_ready : q_Cd := [(0, .iload_n 1), (1, .invokestatic 67), (4, .ifCond .eq 12), (7, .iload_n 2), (8, .iconst 0), (9, .iconst 2), (10, .invokestatic 148), (13, .ifCond .ne 5), (16, .iconst (-1)), (17, .ireturn), (18, .aload_n 0), (19, .iload_n 1), (20, .invokevirtual 71), (23, .astore_n 3), (24, .aload_n 3), (25, .iconst 2), (26, .invokevirtual 152), (29, .istore 4), (31, .iload 4), (33, .ifCond .eq 6), (36, .iload 4), (38, .ireturn), (39, .aload_n 0), (40, .aload_n 3), (41, .invokevirtual 247), (44, .ifCond .ne 6), (47, .bipush (-13)), (49, .ireturn), (50, .iload_n 2), (51, .iconst 2), (52, .if_icmp .ne 19), (55, .aload_n 0), (56, .getfield 12), (59, .aload_n 0), (60, .getfield 12), (63, .iconst 2), (64, .invokevirtual 251), (67, .invokevirtual 254), (70, .ireturn), (71, .aload_n 0), (72, .invokevirtual 257), (75, .istore 5), (77, .aload_n 0), (78, .iload 5), (80, .invokevirtual 260), (83, .istore 6), (85, .iload_n 2), (86, .ifCond .ne 11), (89, .iload 6), (91, .invokestatic 217), (94, .goto 11), (97, .aload_n 0), (98, .iload 6), (100, .iload 5), (102, .invokevirtual 263), (105, .ireturn)]
set_option maxRecDepth 100000 in
theorem cokX4_ready : q_cok cX4_ready cdX4_ready := by unfold q_cok; decide +kernel
set_option maxRecDepth 100000 in
set_option maxHeartbeats 4000000 in
theorem ctX4_ready {l : Launch} {D : va_G} {cy : Nat → Nat} {b0 : Nat} {σ : q_St} {h : q_Hp} (a0 : Nat) (x1 : Int32) (x2 : Int32) {r : Int32} {h' : q_Hp} (ta0 : q_tag σ a0 = 5) (hf : fX4_ready σ h a0 x1 x2 = some (r, h')) : q_M l yX4_ready cX4_ready 7 (some .int) 3 71 0 0 D cy b0 σ h [.ref a0, .int x1, .int x2] (some (.int r)) σ h' := by
  unfold fX4_ready at hf
  obtain ⟨k0, hf⟩ := q_gu_o hf
  refine q_enter (by decide) (Nat.le_of_ble_eq_true rfl) ?_
  intro p e s m args below meth c C0 hr hlk hnm
  replace C0 : VC p { frames := 3, cells := 0, slots := 0, locals := 71 } s m args meth c D cy b0 7 0 0 RX4 cX4_ready := C0
  refine v_run C0 tbX4 cokX4_ready (pc' := 1) (lv' := [(0, .ref a0), (1, .int x1), (2, .int x2)]) (st' := [.int x1]) (h' := h) 1 rfl trivial ?_
  obtain ⟨r1, e1, hf⟩ := q_bd hf
  refine v_callS C0 cokX4_ready rfl (rest := []) (ctX4_isShelf x1 e1) calX4_isShelf lkX4_67 inX4_isShelf dnX4_isShelf rfl rfl ⟨by decide, by decide⟩ (Nat.le_of_ble_eq_true rfl) (Nat.le_refl _) (Nat.le_refl _) ?_
  refine v_if_eq C0 cokX4_ready rfl 16 (by decide) hf (fun _ hf => ?_) (fun _ hf => ?_)
  · refine v_run C0 tbX4 cokX4_ready (pc' := 17) (lv' := [(0, .ref a0), (1, .int x1), (2, .int x2)]) (st' := [.int (-1 : Int32)]) (h' := h) 1 rfl trivial ?_
    obtain ⟨rfl, rfl⟩ := Prod.mk.inj (Option.some.inj hf)
    exact v_iret C0 cokX4_ready hr hlk rfl
  · refine v_run C0 tbX4 cokX4_ready (pc' := 10) (lv' := [(0, .ref a0), (1, .int x1), (2, .int x2)]) (st' := [.int (2 : Int32), .int (0 : Int32), .int x2]) (h' := h) 3 rfl trivial ?_
    obtain ⟨r2, e2, hf⟩ := q_bd hf
    refine v_callS C0 cokX4_ready rfl (rest := []) (ctX4_isIn x2 (0 : Int32) (2 : Int32) e2) calX4_isIn lkX4_148 inX4_isIn dnX4_isIn rfl rfl ⟨by decide, by decide⟩ (Nat.le_of_ble_eq_true rfl) (Nat.le_refl _) (Nat.le_refl _) ?_
    refine v_if_ne C0 cokX4_ready rfl 18 (by decide) hf (fun _ hf => ?_) (fun _ hf => ?_)
    · refine v_run C0 tbX4 cokX4_ready (pc' := 17) (lv' := [(0, .ref a0), (1, .int x1), (2, .int x2)]) (st' := [.int (-1 : Int32)]) (h' := h) 1 rfl trivial ?_
      obtain ⟨rfl, rfl⟩ := Prod.mk.inj (Option.some.inj hf)
      exact v_iret C0 cokX4_ready hr hlk rfl
    · refine v_run C0 tbX4 cokX4_ready (pc' := 20) (lv' := [(0, .ref a0), (1, .int x1), (2, .int x2)]) (st' := [.int x1, .ref a0]) (h' := h) 2 rfl trivial ?_
      obtain ⟨r3, e3, hf⟩ := q_bd hf
      refine v_callV C0 cokX4_ready rfl (rest := []) (ctX4_shelfAt a0 x1 ta0 e3) calX4_shelfAt lkX4_71 inX4_shelfAt dnX4_shelfAt (ci := 4) ⟨rfl, by decide⟩ ta0 rfl rfl ⟨by decide, by decide⟩ (Nat.le_of_ble_eq_true rfl) (Nat.le_refl _) (Nat.le_refl _) ?_
      refine v_run C0 tbX4 cokX4_ready (pc' := 26) (lv' := [(3, .ref r3), (0, .ref a0), (1, .int x1), (2, .int x2)]) (st' := [.int (2 : Int32), .ref r3]) (h' := h) 3 rfl trivial ?_
      obtain ⟨g4, hf⟩ := q_gu_o hf
      obtain ⟨r5, e5, hf⟩ := q_bd hf
      refine v_callV C0 cokX4_ready rfl (rest := []) (ctX1_refusal r3 (2 : Int32) g4 e5) calX1_refusal lkX4_152 inX1_refusal dnX1_refusal (ci := 1) ⟨rfl, by decide⟩ g4 rfl rfl ⟨by decide, by decide⟩ (Nat.le_of_ble_eq_true rfl) (Nat.le_refl _) (Nat.le_refl _) ?_
      refine v_run C0 tbX4 cokX4_ready (pc' := 33) (lv' := [(4, .int r5), (3, .ref r3), (0, .ref a0), (1, .int x1), (2, .int x2)]) (st' := [.int r5]) (h' := h) 2 rfl trivial ?_
      refine v_if_eq C0 cokX4_ready rfl 39 (by decide) hf (fun _ hf => ?_) (fun _ hf => ?_)
      · refine v_run C0 tbX4 cokX4_ready (pc' := 41) (lv' := [(4, .int r5), (3, .ref r3), (0, .ref a0), (1, .int x1), (2, .int x2)]) (st' := [.ref r3, .ref a0]) (h' := h) 2 rfl trivial ?_
        obtain ⟨r6, h6, e6, hf⟩ := q_bd2 hf
        refine v_callV C0 cokX4_ready rfl (rest := []) (ctX4_readHours a0 r3 ta0 g4 e6) calX4_readHours lkX4_247 inX4_readHours dnX4_readHours (ci := 4) ⟨rfl, by decide⟩ ta0 rfl rfl ⟨by decide, by decide⟩ (Nat.le_of_ble_eq_true rfl) (Nat.le_refl _) (Nat.le_refl _) ?_
        refine v_if_ne C0 cokX4_ready rfl 50 (by decide) hf (fun _ hf => ?_) (fun _ hf => ?_)
        · refine v_run C0 tbX4 cokX4_ready (pc' := 49) (lv' := [(4, .int r5), (3, .ref r3), (0, .ref a0), (1, .int x1), (2, .int x2)]) (st' := [.int (-13 : Int32)]) (h' := h6) 1 rfl trivial ?_
          obtain ⟨rfl, rfl⟩ := Prod.mk.inj (Option.some.inj hf)
          exact v_iret C0 cokX4_ready hr hlk rfl
        · refine v_run C0 tbX4 cokX4_ready (pc' := 52) (lv' := [(4, .int r5), (3, .ref r3), (0, .ref a0), (1, .int x1), (2, .int x2)]) (st' := [.int (2 : Int32), .int x2]) (h' := h6) 2 rfl trivial ?_
          refine v_icmp_ne C0 cokX4_ready rfl 71 (by decide) hf (fun _ hf => ?_) (fun _ hf => ?_)
          · refine v_run C0 tbX4 cokX4_ready (pc' := 64) (lv' := [(4, .int r5), (3, .ref r3), (0, .ref a0), (1, .int x1), (2, .int x2)]) (st' := [.int (2 : Int32), .ref (q_ref σ a0 0), .ref (q_ref σ a0 0)]) (h' := h6) 5 rfl ⟨⟨ta0, q_tn k0⟩, ⟨ta0, q_tn k0⟩, trivial⟩ ?_
            obtain ⟨r11, e11, hf⟩ := q_bd hf
            refine v_callV C0 cokX4_ready rfl (rest := [.ref (q_ref σ a0 0)]) (ctX2_suitsThatAre (q_ref σ a0 0) (2 : Int32) k0 e11) calX2_suitsThatAre lkX4_251 inX2_suitsThatAre dnX2_suitsThatAre (ci := 2) ⟨rfl, by decide⟩ k0 rfl rfl ⟨by decide, by decide⟩ (Nat.le_of_ble_eq_true rfl) (Nat.le_refl _) (Nat.le_refl _) ?_
            obtain ⟨r12, e12, hf⟩ := q_bd hf
            refine v_callV C0 cokX4_ready rfl (rest := []) (ctX2_hoursOf (q_ref σ a0 0) r11 k0 e12) calX2_hoursOf lkX4_254 inX2_hoursOf dnX2_hoursOf (ci := 2) ⟨rfl, by decide⟩ k0 rfl rfl ⟨by decide, by decide⟩ (Nat.le_of_ble_eq_true rfl) (Nat.le_refl _) (Nat.le_refl _) ?_
            obtain ⟨rfl, rfl⟩ := Prod.mk.inj (Option.some.inj hf)
            exact v_iret C0 cokX4_ready hr hlk rfl
          · refine v_run C0 tbX4 cokX4_ready (pc' := 72) (lv' := [(4, .int r5), (3, .ref r3), (0, .ref a0), (1, .int x1), (2, .int x2)]) (st' := [.ref a0]) (h' := h6) 1 rfl trivial ?_
            obtain ⟨r7, h7, e7, hf⟩ := q_bd2 hf
            refine v_callV C0 cokX4_ready rfl (rest := []) (ctX4_orderCleaning a0 ta0 e7) calX4_orderCleaning lkX4_257 inX4_orderCleaning dnX4_orderCleaning (ci := 4) ⟨rfl, by decide⟩ ta0 rfl rfl ⟨by decide, by decide⟩ (Nat.le_of_ble_eq_true rfl) (Nat.le_refl _) (Nat.le_refl _) ?_
            refine v_run C0 tbX4 cokX4_ready (pc' := 80) (lv' := [(5, .int r7), (4, .int r5), (3, .ref r3), (0, .ref a0), (1, .int x1), (2, .int x2)]) (st' := [.int r7, .ref a0]) (h' := h7) 3 rfl trivial ?_
            obtain ⟨r8, e8, hf⟩ := q_bd hf
            refine v_callV C0 cokX4_ready rfl (rest := []) (ctX4_mostReady a0 r7 ta0 e8) calX4_mostReady lkX4_260 inX4_mostReady dnX4_mostReady (ci := 4) ⟨rfl, by decide⟩ ta0 rfl rfl ⟨by decide, by decide⟩ (Nat.le_of_ble_eq_true rfl) (Nat.le_refl _) (Nat.le_refl _) ?_
            refine v_run C0 tbX4 cokX4_ready (pc' := 86) (lv' := [(6, .int r8), (5, .int r7), (4, .int r5), (3, .ref r3), (0, .ref a0), (1, .int x1), (2, .int x2)]) (st' := [.int x2]) (h' := h7) 2 rfl trivial ?_
            refine v_if_ne C0 cokX4_ready rfl 97 (by decide) hf (fun _ hf => ?_) (fun _ hf => ?_)
            · refine v_run C0 tbX4 cokX4_ready (pc' := 91) (lv' := [(6, .int r8), (5, .int r7), (4, .int r5), (3, .ref r3), (0, .ref a0), (1, .int x1), (2, .int x2)]) (st' := [.int r8]) (h' := h7) 1 rfl trivial ?_
              obtain ⟨r10, e10, hf⟩ := q_bd hf
              refine v_callS C0 cokX4_ready rfl (rest := []) (ctJ6_bitCount_0f7a4 r8 e10) calJ6_bitCount_0f7a4 lkX4_217 inJ6_bitCount_0f7a4 dnJ6_bitCount_0f7a4 rfl rfl ⟨by decide, by decide⟩ (Nat.le_of_ble_eq_true rfl) (Nat.le_refl _) (Nat.le_refl _) ?_
              refine v_run C0 tbX4 cokX4_ready (pc' := 105) (lv' := [(6, .int r8), (5, .int r7), (4, .int r5), (3, .ref r3), (0, .ref a0), (1, .int x1), (2, .int x2)]) (st' := [.int r10]) (h' := h7) 1 rfl trivial ?_
              obtain ⟨rfl, rfl⟩ := Prod.mk.inj (Option.some.inj hf)
              exact v_iret C0 cokX4_ready hr hlk rfl
            · refine v_run C0 tbX4 cokX4_ready (pc' := 102) (lv' := [(6, .int r8), (5, .int r7), (4, .int r5), (3, .ref r3), (0, .ref a0), (1, .int x1), (2, .int x2)]) (st' := [.int r7, .int r8, .ref a0]) (h' := h7) 3 rfl trivial ?_
              obtain ⟨r9, e9, hf⟩ := q_bd hf
              refine v_callV C0 cokX4_ready rfl (rest := []) (ctX4_firstCleaned a0 r8 r7 ta0 e9) calX4_firstCleaned lkX4_263 inX4_firstCleaned dnX4_firstCleaned (ci := 4) ⟨rfl, by decide⟩ ta0 rfl rfl ⟨by decide, by decide⟩ (Nat.le_of_ble_eq_true rfl) (Nat.le_refl _) (Nat.le_refl _) ?_
              obtain ⟨rfl, rfl⟩ := Prod.mk.inj (Option.some.inj hf)
              exact v_iret C0 cokX4_ready hr hlk rfl
      · refine v_run C0 tbX4 cokX4_ready (pc' := 38) (lv' := [(4, .int r5), (3, .ref r3), (0, .ref a0), (1, .int x1), (2, .int x2)]) (st' := [.int r5]) (h' := h) 1 rfl trivial ?_
        obtain ⟨rfl, rfl⟩ := Prod.mk.inj (Option.some.inj hf)
        exact v_iret C0 cokX4_ready hr hlk rfl
-- BackByNoonOnMonday.comersFor(I)I
noncomputable def fX4_comersFor_40 (σ : q_St) (h : q_Hp) (a0 : Nat) (x1 : Int32) (x3 : Int32) (s0 : Int32) (s1 : Int32) : Option ((Int32 × Int32) ⊕ Int32) := some (Sum.inl ((s1 ||| s0), (x3 + (1 : Int32))))
noncomputable def fX4_comersFor_4 (σ : q_St) (h : q_Hp) (a0 : Nat) (x1 : Int32) (x2 : Int32) (x3 : Int32) : Option ((Int32 × Int32) ⊕ Int32) := (if (q_int h (q_ref σ a0 0) 12) ≤ x3 then some (Sum.inr x2) else ((fX4_at σ h (q_ref σ (q_ref σ a0 0) 7) x3).bind fun r2 => (if r2 < (x1 / (5 : Int32)) then fX4_comersFor_40 σ h a0 x1 x3 (0 : Int32) x2 else fX4_comersFor_40 σ h a0 x1 x3 ((1 : Int32) <<< (x3 &&& 31)) x2)))
noncomputable def fX4_comersFor (σ : q_St) (h : q_Hp) (a0 : Nat) (x1 : Int32) : Option Int32 := q_gu ((q_tag σ (q_ref σ a0 0) = 3) ∧ (q_tag σ (q_ref σ (q_ref σ a0 0) 7) = 7)) ((q_loop (fun s => fX4_comersFor_4 σ h a0 x1 s.1 s.2) q_N ((0 : Int32), (0 : Int32))).bind fun o1 => some o1)
def cdX4_comersFor : q_Cd := [(0, .iconst 0), (1, .istore_n 2), (2, .iconst 0), (3, .istore_n 3), (4, .iload_n 3), (5, .aload_n 0), (6, .getfield 12), (9, .getfield 181), (12, .if_icmp .ge 36), (15, .iload_n 2), (16, .aload_n 0), (17, .getfield 12), (20, .getfield 139), (23, .iload_n 3), (24, .invokestatic 105), (27, .iload_n 1), (28, .iconst 5), (29, .idiv), (30, .if_icmp .lt 9), (33, .iconst 1), (34, .iload_n 3), (35, .ishl), (36, .goto 4), (39, .iconst 0), (40, .ior), (41, .istore_n 2), (42, .iinc 3 1), (45, .goto (-41)), (48, .iload_n 2), (49, .ireturn)]
set_option maxRecDepth 100000 in
theorem cokX4_comersFor : q_cok cX4_comersFor cdX4_comersFor := by unfold q_cok; decide +kernel
set_option maxRecDepth 100000 in
set_option maxHeartbeats 4000000 in
theorem ctX4_comersFor {l : Launch} {D : va_G} {cy : Nat → Nat} {b0 : Nat} {σ : q_St} {h : q_Hp} (a0 : Nat) (x1 : Int32) {r : Int32} (ta0 : q_tag σ a0 = 5) (hf : fX4_comersFor σ h a0 x1 = some r) : q_M l yX4_comersFor cX4_comersFor 4 (some .int) 1 21 0 0 D cy b0 σ h [.ref a0, .int x1] (some (.int r)) σ h := by
  unfold fX4_comersFor at hf
  obtain ⟨⟨k0, k1⟩, hf⟩ := q_gu_o hf
  refine q_enter (by decide) (Nat.le_of_ble_eq_true rfl) ?_
  intro p e s m args below meth c C0 hr hlk hnm
  replace C0 : VC p { frames := 1, cells := 0, slots := 0, locals := 21 } s m args meth c D cy b0 4 0 0 RX4 cX4_comersFor := C0
  have n4 : ∀ (o : Int32) (s1 : (Int32 × Int32)), q_loop (fun s => fX4_comersFor_4 σ h a0 x1 s.1 s.2) q_N s1 = some o → V p l e { frames := 1, cells := 0, slots := 0, locals := 21 } s m args below meth c (MQ below (q_Qc D cy b0 (some (.int r)) σ h) args s 0 0 (fun q => b0 ≤ q)) D cy b0 4 0 0 0 0 σ h 48 [(2, .int o)] [] → V p l e { frames := 1, cells := 0, slots := 0, locals := 21 } s m args below meth c (MQ below (q_Qc D cy b0 (some (.int r)) σ h) args s 0 0 (fun q => b0 ≤ q)) D cy b0 4 0 0 0 0 σ h 4 [(0, .ref a0), (1, .int x1), (2, .int s1.1), (3, .int s1.2)] [] := by
    intro o s1 ho kx1
    refine q_loop_V (P := fun s0 => V p l e { frames := 1, cells := 0, slots := 0, locals := 21 } s m args below meth c (MQ below (q_Qc D cy b0 (some (.int r)) σ h) args s 0 0 (fun q => b0 ≤ q)) D cy b0 4 0 0 0 0 σ h 4 [(0, .ref a0), (1, .int x1), (2, .int s0.1), (3, .int s0.2)] []) (o := o) ?_ q_N s1 ho
    intro s2 z1 hf kb1 kr1
    obtain ⟨x2, x3⟩ := s2
    replace hf : fX4_comersFor_4 σ h a0 x1 x2 x3 = some z1 := hf
    unfold fX4_comersFor_4 at hf
    show V p l e { frames := 1, cells := 0, slots := 0, locals := 21 } s m args below meth c (MQ below (q_Qc D cy b0 (some (.int r)) σ h) args s 0 0 (fun q => b0 ≤ q)) D cy b0 4 0 0 0 0 σ h 4 [(0, .ref a0), (1, .int x1), (2, .int x2), (3, .int x3)] []
    have n40 : ∀ (x3 : Int32) (s0 : Int32) (s1 : Int32), fX4_comersFor_40 σ h a0 x1 x3 s0 s1 = some z1 → V p l e { frames := 1, cells := 0, slots := 0, locals := 21 } s m args below meth c (MQ below (q_Qc D cy b0 (some (.int r)) σ h) args s 0 0 (fun q => b0 ≤ q)) D cy b0 4 0 0 0 0 σ h 40 [(0, .ref a0), (1, .int x1), (3, .int x3)] [.int s0, .int s1] := by
      intro x3 s0 s1 hf
      unfold fX4_comersFor_40 at hf
      refine v_run C0 tbX4 cokX4_comersFor (pc' := 4) (lv' := [(3, .int (x3 + (1 : Int32))), (2, .int (s1 ||| s0)), (0, .ref a0), (1, .int x1)]) (st' := []) (h' := h) 4 rfl trivial ?_
      obtain rfl := Option.some.inj hf
      refine v_pick [2, 3, 1, 0] rfl ?_
      exact kb1 _ rfl
    refine v_run C0 tbX4 cokX4_comersFor (pc' := 12) (lv' := [(0, .ref a0), (1, .int x1), (2, .int x2), (3, .int x3)]) (st' := [.int (q_int h (q_ref σ a0 0) 12), .int x3]) (h' := h) 4 rfl ⟨⟨ta0, q_tn k0⟩, k0, trivial⟩ ?_
    refine v_icmp_ge C0 cokX4_comersFor rfl 48 (by decide) hf (fun _ hf => ?_) (fun _ hf => ?_)
    · obtain rfl := Option.some.inj hf
      refine v_pick [2] rfl ?_
      have hx := kr1 _ rfl
      subst hx
      exact kx1
    · refine v_run C0 tbX4 cokX4_comersFor (pc' := 24) (lv' := [(0, .ref a0), (1, .int x1), (2, .int x2), (3, .int x3)]) (st' := [.int x3, .ref (q_ref σ (q_ref σ a0 0) 7), .int x2]) (h' := h) 5 rfl ⟨⟨ta0, q_tn k0⟩, ⟨k0, q_tn k1⟩, trivial⟩ ?_
      obtain ⟨r2, e2, hf⟩ := q_bd hf
      refine v_callS C0 cokX4_comersFor rfl (rest := [.int x2]) (ctX4_at (q_ref σ (q_ref σ a0 0) 7) x3 k1 e2) calX4_at lkX4_105 inX4_at dnX4_at rfl rfl ⟨by decide, by decide⟩ (Nat.le_of_ble_eq_true rfl) (Nat.le_refl _) (Nat.le_refl _) ?_
      refine v_run C0 tbX4 cokX4_comersFor (pc' := 30) (lv' := [(0, .ref a0), (1, .int x1), (2, .int x2), (3, .int x3)]) (st' := [.int (x1 / (5 : Int32)), .int r2, .int x2]) (h' := h) 3 rfl ⟨(by decide), trivial⟩ ?_
      refine v_icmp_lt C0 cokX4_comersFor rfl 39 (by decide) hf (fun _ hf => ?_) (fun _ hf => ?_)
      · refine v_run C0 tbX4 cokX4_comersFor (pc' := 40) (lv' := [(0, .ref a0), (1, .int x1), (2, .int x2), (3, .int x3)]) (st' := [.int (0 : Int32), .int x2]) (h' := h) 1 rfl trivial ?_
        refine v_pick [0, 1, 3] rfl ?_
        exact n40 x3 (0 : Int32) x2 hf
      · refine v_run C0 tbX4 cokX4_comersFor (pc' := 40) (lv' := [(0, .ref a0), (1, .int x1), (2, .int x2), (3, .int x3)]) (st' := [.int ((1 : Int32) <<< (x3 &&& 31)), .int x2]) (h' := h) 4 rfl trivial ?_
        refine v_pick [0, 1, 3] rfl ?_
        exact n40 x3 ((1 : Int32) <<< (x3 &&& 31)) x2 hf
  refine v_run C0 tbX4 cokX4_comersFor (pc' := 4) (lv' := [(3, .int (0 : Int32)), (2, .int (0 : Int32)), (0, .ref a0), (1, .int x1)]) (st' := []) (h' := h) 4 rfl trivial ?_
  obtain ⟨o1, eo1, hf⟩ := q_bd hf
  refine v_pick [2, 3, 1, 0] rfl ?_
  refine n4 o1 ((0 : Int32), (0 : Int32)) eo1 ?_
  refine v_run C0 tbX4 cokX4_comersFor (pc' := 49) (lv' := [(2, .int o1)]) (st' := [.int o1]) (h' := h) 1 rfl trivial ?_
  obtain rfl := Option.some.inj hf
  exact v_iret C0 cokX4_comersFor hr hlk rfl
-- BackByNoonOnMonday.feeTenths(I)I
noncomputable def fX4_feeTenths_62 (σ : q_St) (h : q_Hp) (a0 : Nat) (x1 : Int32) (x3 : Int32) (x4 : Int32) (s0 : Int32) (s1 : Int32) : Option ((Int32 × Int32) ⊕ Int32) := some (Sum.inl ((s1 + s0), (x4 + (1 : Int32))))
noncomputable def fX4_feeTenths_61 (σ : q_St) (h : q_Hp) (a0 : Nat) (x1 : Int32) (x3 : Int32) (x4 : Int32) (s0 : Int32) : Option ((Int32 × Int32) ⊕ Int32) := fX4_feeTenths_62 σ h a0 x1 x3 x4 (0 : Int32) s0
noncomputable def fX4_feeTenths_11 (σ : q_St) (h : q_Hp) (a0 : Nat) (x1 : Int32) (x3 : Int32) (x2 : Int32) (x4 : Int32) : Option ((Int32 × Int32) ⊕ Int32) := (if (q_int h (q_ref σ a0 0) 12) ≤ x4 then some (Sum.inr x2) else ((fX4_at σ h (q_ref σ (q_ref σ a0 0) 7) x4).bind fun r3 => ((fX4_hasBit σ h x3 x4).bind fun r4 => (if r4 = 0 then fX4_feeTenths_61 σ h a0 x1 x3 x4 x2 else (if (r3 - (x1 / (4 : Int32))) ≤ 0 then fX4_feeTenths_61 σ h a0 x1 x3 x4 x2 else fX4_feeTenths_62 σ h a0 x1 x3 x4 (r3 - (x1 / (4 : Int32))) x2)))))
noncomputable def fX4_feeTenths (σ : q_St) (h : q_Hp) (a0 : Nat) (x1 : Int32) : Option Int32 := q_gu ((q_tag σ (q_ref σ a0 0) = 3) ∧ (q_tag σ (q_ref σ (q_ref σ a0 0) 7) = 7)) (((fX4_comersFor σ h a0 x1).bind fun r1 => (q_loop (fun s => fX4_feeTenths_11 σ h a0 x1 r1 s.1 s.2) q_N ((0 : Int32), (0 : Int32))).bind fun o2 => some (x1 * o2)))
def cdX4_feeTenths : q_Cd := [(0, .iconst 0), (1, .istore_n 2), (2, .aload_n 0), (3, .iload_n 1), (4, .invokevirtual 269), (7, .istore_n 3), (8, .iconst 0), (9, .istore 4), (11, .iload 4), (13, .aload_n 0), (14, .getfield 12), (17, .getfield 181), (20, .if_icmp .ge 50), (23, .aload_n 0), (24, .getfield 12), (27, .getfield 139), (30, .iload 4), (32, .invokestatic 105), (35, .iload_n 1), (36, .iconst 4), (37, .idiv), (38, .isub), (39, .istore 5), (41, .iload_n 2), (42, .iload_n 3), (43, .iload 4), (45, .invokestatic 241), (48, .ifCond .eq 13), (51, .iload 5), (53, .ifCond .le 8), (56, .iload 5), (58, .goto 4), (61, .iconst 0), (62, .iadd), (63, .istore_n 2), (64, .iinc 4 1), (67, .goto (-56)), (70, .iload_n 1), (71, .iload_n 2), (72, .imul), (73, .ireturn)]
set_option maxRecDepth 100000 in
theorem cokX4_feeTenths : q_cok cX4_feeTenths cdX4_feeTenths := by unfold q_cok; decide +kernel
set_option maxRecDepth 100000 in
set_option maxHeartbeats 4000000 in
theorem ctX4_feeTenths {l : Launch} {D : va_G} {cy : Nat → Nat} {b0 : Nat} {σ : q_St} {h : q_Hp} (a0 : Nat) (x1 : Int32) {r : Int32} (ta0 : q_tag σ a0 = 5) (hf : fX4_feeTenths σ h a0 x1 = some r) : q_M l yX4_feeTenths cX4_feeTenths 6 (some .int) 2 44 0 0 D cy b0 σ h [.ref a0, .int x1] (some (.int r)) σ h := by
  unfold fX4_feeTenths at hf
  obtain ⟨⟨k0, k1⟩, hf⟩ := q_gu_o hf
  refine q_enter (by decide) (Nat.le_of_ble_eq_true rfl) ?_
  intro p e s m args below meth c C0 hr hlk hnm
  replace C0 : VC p { frames := 2, cells := 0, slots := 0, locals := 44 } s m args meth c D cy b0 6 0 0 RX4 cX4_feeTenths := C0
  have n11 : ∀ (x3 : Int32) (o : Int32) (s1 : (Int32 × Int32)), q_loop (fun s => fX4_feeTenths_11 σ h a0 x1 x3 s.1 s.2) q_N s1 = some o → V p l e { frames := 2, cells := 0, slots := 0, locals := 44 } s m args below meth c (MQ below (q_Qc D cy b0 (some (.int r)) σ h) args s 0 0 (fun q => b0 ≤ q)) D cy b0 6 0 0 0 0 σ h 70 [(1, .int x1), (2, .int o)] [] → V p l e { frames := 2, cells := 0, slots := 0, locals := 44 } s m args below meth c (MQ below (q_Qc D cy b0 (some (.int r)) σ h) args s 0 0 (fun q => b0 ≤ q)) D cy b0 6 0 0 0 0 σ h 11 [(0, .ref a0), (1, .int x1), (2, .int s1.1), (3, .int x3), (4, .int s1.2)] [] := by
    intro x3 o s1 ho kx1
    refine q_loop_V (P := fun s0 => V p l e { frames := 2, cells := 0, slots := 0, locals := 44 } s m args below meth c (MQ below (q_Qc D cy b0 (some (.int r)) σ h) args s 0 0 (fun q => b0 ≤ q)) D cy b0 6 0 0 0 0 σ h 11 [(0, .ref a0), (1, .int x1), (2, .int s0.1), (3, .int x3), (4, .int s0.2)] []) (o := o) ?_ q_N s1 ho
    intro s2 z1 hf kb1 kr1
    obtain ⟨x2, x4⟩ := s2
    replace hf : fX4_feeTenths_11 σ h a0 x1 x3 x2 x4 = some z1 := hf
    unfold fX4_feeTenths_11 at hf
    show V p l e { frames := 2, cells := 0, slots := 0, locals := 44 } s m args below meth c (MQ below (q_Qc D cy b0 (some (.int r)) σ h) args s 0 0 (fun q => b0 ≤ q)) D cy b0 6 0 0 0 0 σ h 11 [(0, .ref a0), (1, .int x1), (2, .int x2), (3, .int x3), (4, .int x4)] []
    have n62 : ∀ (x4 : Int32) (s0 : Int32) (s1 : Int32), fX4_feeTenths_62 σ h a0 x1 x3 x4 s0 s1 = some z1 → V p l e { frames := 2, cells := 0, slots := 0, locals := 44 } s m args below meth c (MQ below (q_Qc D cy b0 (some (.int r)) σ h) args s 0 0 (fun q => b0 ≤ q)) D cy b0 6 0 0 0 0 σ h 62 [(0, .ref a0), (1, .int x1), (3, .int x3), (4, .int x4)] [.int s0, .int s1] := by
      intro x4 s0 s1 hf
      unfold fX4_feeTenths_62 at hf
      refine v_run C0 tbX4 cokX4_feeTenths (pc' := 11) (lv' := [(4, .int (x4 + (1 : Int32))), (2, .int (s1 + s0)), (0, .ref a0), (1, .int x1), (3, .int x3)]) (st' := []) (h' := h) 4 rfl trivial ?_
      obtain rfl := Option.some.inj hf
      refine v_pick [2, 3, 1, 4, 0] rfl ?_
      exact kb1 _ rfl
    have n61 : ∀ (x4 : Int32) (s0 : Int32), fX4_feeTenths_61 σ h a0 x1 x3 x4 s0 = some z1 → V p l e { frames := 2, cells := 0, slots := 0, locals := 44 } s m args below meth c (MQ below (q_Qc D cy b0 (some (.int r)) σ h) args s 0 0 (fun q => b0 ≤ q)) D cy b0 6 0 0 0 0 σ h 61 [(0, .ref a0), (1, .int x1), (3, .int x3), (4, .int x4)] [.int s0] := by
      intro x4 s0 hf
      unfold fX4_feeTenths_61 at hf
      refine v_run C0 tbX4 cokX4_feeTenths (pc' := 62) (lv' := [(0, .ref a0), (1, .int x1), (3, .int x3), (4, .int x4)]) (st' := [.int (0 : Int32), .int s0]) (h' := h) 1 rfl trivial ?_
      refine v_pick [0, 1, 2, 3] rfl ?_
      exact n62 x4 (0 : Int32) s0 hf
    refine v_run C0 tbX4 cokX4_feeTenths (pc' := 20) (lv' := [(0, .ref a0), (1, .int x1), (2, .int x2), (3, .int x3), (4, .int x4)]) (st' := [.int (q_int h (q_ref σ a0 0) 12), .int x4]) (h' := h) 4 rfl ⟨⟨ta0, q_tn k0⟩, k0, trivial⟩ ?_
    refine v_icmp_ge C0 cokX4_feeTenths rfl 70 (by decide) hf (fun _ hf => ?_) (fun _ hf => ?_)
    · obtain rfl := Option.some.inj hf
      refine v_pick [1, 2] rfl ?_
      have hx := kr1 _ rfl
      subst hx
      exact kx1
    · refine v_run C0 tbX4 cokX4_feeTenths (pc' := 32) (lv' := [(0, .ref a0), (1, .int x1), (2, .int x2), (3, .int x3), (4, .int x4)]) (st' := [.int x4, .ref (q_ref σ (q_ref σ a0 0) 7)]) (h' := h) 4 rfl ⟨⟨ta0, q_tn k0⟩, ⟨k0, q_tn k1⟩, trivial⟩ ?_
      obtain ⟨r3, e3, hf⟩ := q_bd hf
      refine v_callS C0 cokX4_feeTenths rfl (rest := []) (ctX4_at (q_ref σ (q_ref σ a0 0) 7) x4 k1 e3) calX4_at lkX4_105 inX4_at dnX4_at rfl rfl ⟨by decide, by decide⟩ (Nat.le_of_ble_eq_true rfl) (Nat.le_refl _) (Nat.le_refl _) ?_
      refine v_run C0 tbX4 cokX4_feeTenths (pc' := 45) (lv' := [(5, .int (r3 - (x1 / (4 : Int32)))), (0, .ref a0), (1, .int x1), (2, .int x2), (3, .int x3), (4, .int x4)]) (st' := [.int x4, .int x3, .int x2]) (h' := h) 8 rfl ⟨(by decide), trivial⟩ ?_
      obtain ⟨r4, e4, hf⟩ := q_bd hf
      refine v_callS C0 cokX4_feeTenths rfl (rest := [.int x2]) (ctX4_hasBit x3 x4 e4) calX4_hasBit lkX4_241 inX4_hasBit dnX4_hasBit rfl rfl ⟨by decide, by decide⟩ (Nat.le_of_ble_eq_true rfl) (Nat.le_refl _) (Nat.le_refl _) ?_
      refine v_if_eq C0 cokX4_feeTenths rfl 61 (by decide) hf (fun _ hf => ?_) (fun _ hf => ?_)
      · refine v_pick [1, 2, 4, 5] rfl ?_
        exact n61 x4 x2 hf
      · refine v_run C0 tbX4 cokX4_feeTenths (pc' := 53) (lv' := [(5, .int (r3 - (x1 / (4 : Int32)))), (0, .ref a0), (1, .int x1), (2, .int x2), (3, .int x3), (4, .int x4)]) (st' := [.int (r3 - (x1 / (4 : Int32))), .int x2]) (h' := h) 1 rfl trivial ?_
        refine v_if_le C0 cokX4_feeTenths rfl 61 (by decide) hf (fun _ hf => ?_) (fun _ hf => ?_)
        · refine v_pick [1, 2, 4, 5] rfl ?_
          exact n61 x4 x2 hf
        · refine v_run C0 tbX4 cokX4_feeTenths (pc' := 62) (lv' := [(5, .int (r3 - (x1 / (4 : Int32)))), (0, .ref a0), (1, .int x1), (2, .int x2), (3, .int x3), (4, .int x4)]) (st' := [.int (r3 - (x1 / (4 : Int32))), .int x2]) (h' := h) 2 rfl trivial ?_
          refine v_pick [1, 2, 4, 5] rfl ?_
          exact n62 x4 (r3 - (x1 / (4 : Int32))) x2 hf
  refine v_run C0 tbX4 cokX4_feeTenths (pc' := 4) (lv' := [(2, .int (0 : Int32)), (0, .ref a0), (1, .int x1)]) (st' := [.int x1, .ref a0]) (h' := h) 4 rfl trivial ?_
  obtain ⟨r1, e1, hf⟩ := q_bd hf
  refine v_callV C0 cokX4_feeTenths rfl (rest := []) (ctX4_comersFor a0 x1 ta0 e1) calX4_comersFor lkX4_269 inX4_comersFor dnX4_comersFor (ci := 4) ⟨rfl, by decide⟩ ta0 rfl rfl ⟨by decide, by decide⟩ (Nat.le_of_ble_eq_true rfl) (Nat.le_refl _) (Nat.le_refl _) ?_
  refine v_run C0 tbX4 cokX4_feeTenths (pc' := 11) (lv' := [(4, .int (0 : Int32)), (3, .int r1), (2, .int (0 : Int32)), (0, .ref a0), (1, .int x1)]) (st' := []) (h' := h) 3 rfl trivial ?_
  obtain ⟨o2, eo2, hf⟩ := q_bd hf
  refine v_pick [3, 4, 2, 1, 0] rfl ?_
  refine n11 r1 o2 ((0 : Int32), (0 : Int32)) eo2 ?_
  refine v_run C0 tbX4 cokX4_feeTenths (pc' := 73) (lv' := [(1, .int x1), (2, .int o2)]) (st' := [.int (x1 * o2)]) (h' := h) 3 rfl trivial ?_
  obtain rfl := Option.some.inj hf
  exact v_iret C0 cokX4_feeTenths hr hlk rfl
-- BackByNoonOnMonday.fee(II)I
noncomputable def fX4_fee (σ : q_St) (h : q_Hp) (a0 : Nat) (x1 : Int32) (x2 : Int32) : Option Int32 := ((fX4_isIn σ h x1 (0 : Int32) (20 : Int32)).bind fun r1 => (if r1 = 0 then some (-1 : Int32) else ((fX4_isIn σ h x2 (0 : Int32) (1 : Int32)).bind fun r2 => (if r2 = 0 then some (-1 : Int32) else (if x2 = 0 then ((fX4_feeTenths σ h a0 x1).bind fun r4 => some r4) else ((fX4_comersFor σ h a0 x1).bind fun r3 => some r3))))))
def cdX4_fee : q_Cd := [(0, .iload_n 1), (1, .iconst 0), (2, .bipush 20), (4, .invokestatic 148), (7, .ifCond .eq 12), (10, .iload_n 2), (11, .iconst 0), (12, .iconst 1), (13, .invokestatic 148), (16, .ifCond .ne 5), (19, .iconst (-1)), (20, .ireturn), (21, .iload_n 2), (22, .ifCond .ne 11), (25, .aload_n 0), (26, .iload_n 1), (27, .invokevirtual 266), (30, .goto 8), (33, .aload_n 0), (34, .iload_n 1), (35, .invokevirtual 269), (38, .ireturn)]
set_option maxRecDepth 100000 in
theorem cokX4_fee : q_cok cX4_fee cdX4_fee := by unfold q_cok; decide +kernel
set_option maxRecDepth 100000 in
set_option maxHeartbeats 4000000 in
theorem ctX4_fee {l : Launch} {D : va_G} {cy : Nat → Nat} {b0 : Nat} {σ : q_St} {h : q_Hp} (a0 : Nat) (x1 : Int32) (x2 : Int32) {r : Int32} (ta0 : q_tag σ a0 = 5) (hf : fX4_fee σ h a0 x1 x2 = some r) : q_M l yX4_fee cX4_fee 3 (some .int) 3 69 0 0 D cy b0 σ h [.ref a0, .int x1, .int x2] (some (.int r)) σ h := by
  unfold fX4_fee at hf
  refine q_enter (by decide) (Nat.le_of_ble_eq_true rfl) ?_
  intro p e s m args below meth c C0 hr hlk hnm
  replace C0 : VC p { frames := 3, cells := 0, slots := 0, locals := 69 } s m args meth c D cy b0 3 0 0 RX4 cX4_fee := C0
  refine v_run C0 tbX4 cokX4_fee (pc' := 4) (lv' := [(0, .ref a0), (1, .int x1), (2, .int x2)]) (st' := [.int (20 : Int32), .int (0 : Int32), .int x1]) (h' := h) 3 rfl trivial ?_
  obtain ⟨r1, e1, hf⟩ := q_bd hf
  refine v_callS C0 cokX4_fee rfl (rest := []) (ctX4_isIn x1 (0 : Int32) (20 : Int32) e1) calX4_isIn lkX4_148 inX4_isIn dnX4_isIn rfl rfl ⟨by decide, by decide⟩ (Nat.le_of_ble_eq_true rfl) (Nat.le_refl _) (Nat.le_refl _) ?_
  refine v_if_eq C0 cokX4_fee rfl 19 (by decide) hf (fun _ hf => ?_) (fun _ hf => ?_)
  · refine v_run C0 tbX4 cokX4_fee (pc' := 20) (lv' := [(0, .ref a0), (1, .int x1), (2, .int x2)]) (st' := [.int (-1 : Int32)]) (h' := h) 1 rfl trivial ?_
    obtain rfl := Option.some.inj hf
    exact v_iret C0 cokX4_fee hr hlk rfl
  · refine v_run C0 tbX4 cokX4_fee (pc' := 13) (lv' := [(0, .ref a0), (1, .int x1), (2, .int x2)]) (st' := [.int (1 : Int32), .int (0 : Int32), .int x2]) (h' := h) 3 rfl trivial ?_
    obtain ⟨r2, e2, hf⟩ := q_bd hf
    refine v_callS C0 cokX4_fee rfl (rest := []) (ctX4_isIn x2 (0 : Int32) (1 : Int32) e2) calX4_isIn lkX4_148 inX4_isIn dnX4_isIn rfl rfl ⟨by decide, by decide⟩ (Nat.le_of_ble_eq_true rfl) (Nat.le_refl _) (Nat.le_refl _) ?_
    refine v_if_ne C0 cokX4_fee rfl 21 (by decide) hf (fun _ hf => ?_) (fun _ hf => ?_)
    · refine v_run C0 tbX4 cokX4_fee (pc' := 20) (lv' := [(0, .ref a0), (1, .int x1), (2, .int x2)]) (st' := [.int (-1 : Int32)]) (h' := h) 1 rfl trivial ?_
      obtain rfl := Option.some.inj hf
      exact v_iret C0 cokX4_fee hr hlk rfl
    · refine v_run C0 tbX4 cokX4_fee (pc' := 22) (lv' := [(0, .ref a0), (1, .int x1), (2, .int x2)]) (st' := [.int x2]) (h' := h) 1 rfl trivial ?_
      refine v_if_ne C0 cokX4_fee rfl 33 (by decide) hf (fun _ hf => ?_) (fun _ hf => ?_)
      · refine v_run C0 tbX4 cokX4_fee (pc' := 27) (lv' := [(0, .ref a0), (1, .int x1), (2, .int x2)]) (st' := [.int x1, .ref a0]) (h' := h) 2 rfl trivial ?_
        obtain ⟨r4, e4, hf⟩ := q_bd hf
        refine v_callV C0 cokX4_fee rfl (rest := []) (ctX4_feeTenths a0 x1 ta0 e4) calX4_feeTenths lkX4_266 inX4_feeTenths dnX4_feeTenths (ci := 4) ⟨rfl, by decide⟩ ta0 rfl rfl ⟨by decide, by decide⟩ (Nat.le_of_ble_eq_true rfl) (Nat.le_refl _) (Nat.le_refl _) ?_
        refine v_run C0 tbX4 cokX4_fee (pc' := 38) (lv' := [(0, .ref a0), (1, .int x1), (2, .int x2)]) (st' := [.int r4]) (h' := h) 1 rfl trivial ?_
        obtain rfl := Option.some.inj hf
        exact v_iret C0 cokX4_fee hr hlk rfl
      · refine v_run C0 tbX4 cokX4_fee (pc' := 35) (lv' := [(0, .ref a0), (1, .int x1), (2, .int x2)]) (st' := [.int x1, .ref a0]) (h' := h) 2 rfl trivial ?_
        obtain ⟨r3, e3, hf⟩ := q_bd hf
        refine v_callV C0 cokX4_fee rfl (rest := []) (ctX4_comersFor a0 x1 ta0 e3) calX4_comersFor lkX4_269 inX4_comersFor dnX4_comersFor (ci := 4) ⟨rfl, by decide⟩ ta0 rfl rfl ⟨by decide, by decide⟩ (Nat.le_of_ble_eq_true rfl) (Nat.le_refl _) (Nat.le_refl _) ?_
        obtain rfl := Option.some.inj hf
        exact v_iret C0 cokX4_fee hr hlk rfl
-- BackByNoonOnMonday.bestFee()I
noncomputable def fX4_bestFee_28 (σ : q_St) (h : q_Hp) (a0 : Nat) (x2 : Int32) (s0 : Int32) : Option ((Int32 × Int32) ⊕ Int32) := some (Sum.inl (s0, (x2 + (1 : Int32))))
noncomputable def fX4_bestFee_4 (σ : q_St) (h : q_Hp) (a0 : Nat) (x1 : Int32) (x2 : Int32) : Option ((Int32 × Int32) ⊕ Int32) := (if (20 : Int32) < x2 then some (Sum.inr x1) else ((fX4_feeTenths σ h a0 x2).bind fun r2 => ((fX4_feeTenths σ h a0 x1).bind fun r3 => (if r2 ≤ r3 then fX4_bestFee_28 σ h a0 x2 x1 else fX4_bestFee_28 σ h a0 x2 x2))))
noncomputable def fX4_bestFee (σ : q_St) (h : q_Hp) (a0 : Nat) : Option Int32 := (q_loop (fun s => fX4_bestFee_4 σ h a0 s.1 s.2) q_N ((0 : Int32), (1 : Int32))).bind fun o1 => some o1
def cdX4_bestFee : q_Cd := [(0, .iconst 0), (1, .istore_n 1), (2, .iconst 1), (3, .istore_n 2), (4, .iload_n 2), (5, .bipush 20), (7, .if_icmp .gt 28), (10, .aload_n 0), (11, .iload_n 2), (12, .invokevirtual 266), (15, .aload_n 0), (16, .iload_n 1), (17, .invokevirtual 266), (20, .if_icmp .le 7), (23, .iload_n 2), (24, .goto 4), (27, .iload_n 1), (28, .istore_n 1), (29, .iinc 2 1), (32, .goto (-28)), (35, .iload_n 1), (36, .ireturn)]
set_option maxRecDepth 100000 in
theorem cokX4_bestFee : q_cok cX4_bestFee cdX4_bestFee := by unfold q_cok; decide +kernel
set_option maxRecDepth 100000 in
set_option maxHeartbeats 4000000 in
theorem ctX4_bestFee {l : Launch} {D : va_G} {cy : Nat → Nat} {b0 : Nat} {σ : q_St} {h : q_Hp} (a0 : Nat) {r : Int32} (ta0 : q_tag σ a0 = 5) (hf : fX4_bestFee σ h a0 = some r) : q_M l yX4_bestFee cX4_bestFee 3 (some .int) 3 69 0 0 D cy b0 σ h [.ref a0] (some (.int r)) σ h := by
  unfold fX4_bestFee at hf
  refine q_enter (by decide) (Nat.le_of_ble_eq_true rfl) ?_
  intro p e s m args below meth c C0 hr hlk hnm
  replace C0 : VC p { frames := 3, cells := 0, slots := 0, locals := 69 } s m args meth c D cy b0 3 0 0 RX4 cX4_bestFee := C0
  have n4 : ∀ (o : Int32) (s1 : (Int32 × Int32)), q_loop (fun s => fX4_bestFee_4 σ h a0 s.1 s.2) q_N s1 = some o → V p l e { frames := 3, cells := 0, slots := 0, locals := 69 } s m args below meth c (MQ below (q_Qc D cy b0 (some (.int r)) σ h) args s 0 0 (fun q => b0 ≤ q)) D cy b0 3 0 0 0 0 σ h 35 [(1, .int o)] [] → V p l e { frames := 3, cells := 0, slots := 0, locals := 69 } s m args below meth c (MQ below (q_Qc D cy b0 (some (.int r)) σ h) args s 0 0 (fun q => b0 ≤ q)) D cy b0 3 0 0 0 0 σ h 4 [(0, .ref a0), (1, .int s1.1), (2, .int s1.2)] [] := by
    intro o s1 ho kx1
    refine q_loop_V (P := fun s0 => V p l e { frames := 3, cells := 0, slots := 0, locals := 69 } s m args below meth c (MQ below (q_Qc D cy b0 (some (.int r)) σ h) args s 0 0 (fun q => b0 ≤ q)) D cy b0 3 0 0 0 0 σ h 4 [(0, .ref a0), (1, .int s0.1), (2, .int s0.2)] []) (o := o) ?_ q_N s1 ho
    intro s2 z1 hf kb1 kr1
    obtain ⟨x1, x2⟩ := s2
    replace hf : fX4_bestFee_4 σ h a0 x1 x2 = some z1 := hf
    unfold fX4_bestFee_4 at hf
    show V p l e { frames := 3, cells := 0, slots := 0, locals := 69 } s m args below meth c (MQ below (q_Qc D cy b0 (some (.int r)) σ h) args s 0 0 (fun q => b0 ≤ q)) D cy b0 3 0 0 0 0 σ h 4 [(0, .ref a0), (1, .int x1), (2, .int x2)] []
    have n28 : ∀ (x2 : Int32) (s0 : Int32), fX4_bestFee_28 σ h a0 x2 s0 = some z1 → V p l e { frames := 3, cells := 0, slots := 0, locals := 69 } s m args below meth c (MQ below (q_Qc D cy b0 (some (.int r)) σ h) args s 0 0 (fun q => b0 ≤ q)) D cy b0 3 0 0 0 0 σ h 28 [(0, .ref a0), (2, .int x2)] [.int s0] := by
      intro x2 s0 hf
      unfold fX4_bestFee_28 at hf
      refine v_run C0 tbX4 cokX4_bestFee (pc' := 4) (lv' := [(2, .int (x2 + (1 : Int32))), (1, .int s0), (0, .ref a0)]) (st' := []) (h' := h) 3 rfl trivial ?_
      obtain rfl := Option.some.inj hf
      refine v_pick [2, 1, 0] rfl ?_
      exact kb1 _ rfl
    refine v_run C0 tbX4 cokX4_bestFee (pc' := 7) (lv' := [(0, .ref a0), (1, .int x1), (2, .int x2)]) (st' := [.int (20 : Int32), .int x2]) (h' := h) 2 rfl trivial ?_
    refine v_icmp_gt C0 cokX4_bestFee rfl 35 (by decide) hf (fun _ hf => ?_) (fun _ hf => ?_)
    · obtain rfl := Option.some.inj hf
      refine v_pick [1] rfl ?_
      have hx := kr1 _ rfl
      subst hx
      exact kx1
    · refine v_run C0 tbX4 cokX4_bestFee (pc' := 12) (lv' := [(0, .ref a0), (1, .int x1), (2, .int x2)]) (st' := [.int x2, .ref a0]) (h' := h) 2 rfl trivial ?_
      obtain ⟨r2, e2, hf⟩ := q_bd hf
      refine v_callV C0 cokX4_bestFee rfl (rest := []) (ctX4_feeTenths a0 x2 ta0 e2) calX4_feeTenths lkX4_266 inX4_feeTenths dnX4_feeTenths (ci := 4) ⟨rfl, by decide⟩ ta0 rfl rfl ⟨by decide, by decide⟩ (Nat.le_of_ble_eq_true rfl) (Nat.le_refl _) (Nat.le_refl _) ?_
      refine v_run C0 tbX4 cokX4_bestFee (pc' := 17) (lv' := [(0, .ref a0), (1, .int x1), (2, .int x2)]) (st' := [.int x1, .ref a0, .int r2]) (h' := h) 2 rfl trivial ?_
      obtain ⟨r3, e3, hf⟩ := q_bd hf
      refine v_callV C0 cokX4_bestFee rfl (rest := [.int r2]) (ctX4_feeTenths a0 x1 ta0 e3) calX4_feeTenths lkX4_266 inX4_feeTenths dnX4_feeTenths (ci := 4) ⟨rfl, by decide⟩ ta0 rfl rfl ⟨by decide, by decide⟩ (Nat.le_of_ble_eq_true rfl) (Nat.le_refl _) (Nat.le_refl _) ?_
      refine v_icmp_le C0 cokX4_bestFee rfl 27 (by decide) hf (fun _ hf => ?_) (fun _ hf => ?_)
      · refine v_run C0 tbX4 cokX4_bestFee (pc' := 28) (lv' := [(0, .ref a0), (1, .int x1), (2, .int x2)]) (st' := [.int x1]) (h' := h) 1 rfl trivial ?_
        refine v_pick [0, 2] rfl ?_
        exact n28 x2 x1 hf
      · refine v_run C0 tbX4 cokX4_bestFee (pc' := 28) (lv' := [(0, .ref a0), (1, .int x1), (2, .int x2)]) (st' := [.int x2]) (h' := h) 2 rfl trivial ?_
        refine v_pick [0, 2] rfl ?_
        exact n28 x2 x2 hf
  refine v_run C0 tbX4 cokX4_bestFee (pc' := 4) (lv' := [(2, .int (1 : Int32)), (1, .int (0 : Int32)), (0, .ref a0)]) (st' := []) (h' := h) 4 rfl trivial ?_
  obtain ⟨o1, eo1, hf⟩ := q_bd hf
  refine v_pick [2, 1, 0] rfl ?_
  refine n4 o1 ((0 : Int32), (1 : Int32)) eo1 ?_
  refine v_run C0 tbX4 cokX4_bestFee (pc' := 36) (lv' := [(1, .int o1)]) (st' := [.int o1]) (h' := h) 1 rfl trivial ?_
  obtain rfl := Option.some.inj hf
  exact v_iret C0 cokX4_bestFee hr hlk rfl
-- BackByNoonOnMonday.atFive(III)I
noncomputable def fX4_atFive (σ : q_St) (h : q_Hp) (a0 : Nat) (x1 : Int32) (x2 : Int32) (x3 : Int32) : Option Int32 := ((fX4_isIn σ h x1 (0 : Int32) (10 : Int32)).bind fun r1 => (if r1 = 0 then some (-1 : Int32) else ((fX4_isIn σ h x2 (0 : Int32) (99 : Int32)).bind fun r2 => (if r2 = 0 then some (-1 : Int32) else ((fX4_isIn σ h x3 (0 : Int32) (99 : Int32)).bind fun r3 => (if r3 = 0 then some (-1 : Int32) else (if (x3 * (10 : Int32)) ≤ (x1 * x2) then some (0 : Int32) else some (1 : Int32))))))))
def cdX4_atFive : q_Cd := [(0, .iload_n 1), (1, .iconst 0), (2, .bipush 10), (4, .invokestatic 148), (7, .ifCond .eq 23), (10, .iload_n 2), (11, .iconst 0), (12, .bipush 99), (14, .invokestatic 148), (17, .ifCond .eq 13), (20, .iload_n 3), (21, .iconst 0), (22, .bipush 99), (24, .invokestatic 148), (27, .ifCond .ne 5), (30, .iconst (-1)), (31, .ireturn), (32, .iload_n 3), (33, .bipush 10), (35, .imul), (36, .iload_n 1), (37, .iload_n 2), (38, .imul), (39, .if_icmp .le 7), (42, .iconst 1), (43, .goto 4), (46, .iconst 0), (47, .ireturn)]
set_option maxRecDepth 100000 in
theorem cokX4_atFive : q_cok cX4_atFive cdX4_atFive := by unfold q_cok; decide +kernel
set_option maxRecDepth 100000 in
set_option maxHeartbeats 4000000 in
theorem ctX4_atFive {l : Launch} {D : va_G} {cy : Nat → Nat} {b0 : Nat} {σ : q_St} {h : q_Hp} (a0 : Nat) (x1 : Int32) (x2 : Int32) (x3 : Int32) {r : Int32} (ta0 : q_tag σ a0 = 5) (hf : fX4_atFive σ h a0 x1 x2 x3 = some r) : q_M l yX4_atFive cX4_atFive 4 (some .int) 1 22 0 0 D cy b0 σ h [.ref a0, .int x1, .int x2, .int x3] (some (.int r)) σ h := by
  unfold fX4_atFive at hf
  refine q_enter (by decide) (Nat.le_of_ble_eq_true rfl) ?_
  intro p e s m args below meth c C0 hr hlk hnm
  replace C0 : VC p { frames := 1, cells := 0, slots := 0, locals := 22 } s m args meth c D cy b0 4 0 0 RX4 cX4_atFive := C0
  refine v_run C0 tbX4 cokX4_atFive (pc' := 4) (lv' := [(0, .ref a0), (1, .int x1), (2, .int x2), (3, .int x3)]) (st' := [.int (10 : Int32), .int (0 : Int32), .int x1]) (h' := h) 3 rfl trivial ?_
  obtain ⟨r1, e1, hf⟩ := q_bd hf
  refine v_callS C0 cokX4_atFive rfl (rest := []) (ctX4_isIn x1 (0 : Int32) (10 : Int32) e1) calX4_isIn lkX4_148 inX4_isIn dnX4_isIn rfl rfl ⟨by decide, by decide⟩ (Nat.le_of_ble_eq_true rfl) (Nat.le_refl _) (Nat.le_refl _) ?_
  refine v_if_eq C0 cokX4_atFive rfl 30 (by decide) hf (fun _ hf => ?_) (fun _ hf => ?_)
  · refine v_run C0 tbX4 cokX4_atFive (pc' := 31) (lv' := [(0, .ref a0), (1, .int x1), (2, .int x2), (3, .int x3)]) (st' := [.int (-1 : Int32)]) (h' := h) 1 rfl trivial ?_
    obtain rfl := Option.some.inj hf
    exact v_iret C0 cokX4_atFive hr hlk rfl
  · refine v_run C0 tbX4 cokX4_atFive (pc' := 14) (lv' := [(0, .ref a0), (1, .int x1), (2, .int x2), (3, .int x3)]) (st' := [.int (99 : Int32), .int (0 : Int32), .int x2]) (h' := h) 3 rfl trivial ?_
    obtain ⟨r2, e2, hf⟩ := q_bd hf
    refine v_callS C0 cokX4_atFive rfl (rest := []) (ctX4_isIn x2 (0 : Int32) (99 : Int32) e2) calX4_isIn lkX4_148 inX4_isIn dnX4_isIn rfl rfl ⟨by decide, by decide⟩ (Nat.le_of_ble_eq_true rfl) (Nat.le_refl _) (Nat.le_refl _) ?_
    refine v_if_eq C0 cokX4_atFive rfl 30 (by decide) hf (fun _ hf => ?_) (fun _ hf => ?_)
    · refine v_run C0 tbX4 cokX4_atFive (pc' := 31) (lv' := [(0, .ref a0), (1, .int x1), (2, .int x2), (3, .int x3)]) (st' := [.int (-1 : Int32)]) (h' := h) 1 rfl trivial ?_
      obtain rfl := Option.some.inj hf
      exact v_iret C0 cokX4_atFive hr hlk rfl
    · refine v_run C0 tbX4 cokX4_atFive (pc' := 24) (lv' := [(0, .ref a0), (1, .int x1), (2, .int x2), (3, .int x3)]) (st' := [.int (99 : Int32), .int (0 : Int32), .int x3]) (h' := h) 3 rfl trivial ?_
      obtain ⟨r3, e3, hf⟩ := q_bd hf
      refine v_callS C0 cokX4_atFive rfl (rest := []) (ctX4_isIn x3 (0 : Int32) (99 : Int32) e3) calX4_isIn lkX4_148 inX4_isIn dnX4_isIn rfl rfl ⟨by decide, by decide⟩ (Nat.le_of_ble_eq_true rfl) (Nat.le_refl _) (Nat.le_refl _) ?_
      refine v_if_ne C0 cokX4_atFive rfl 32 (by decide) hf (fun _ hf => ?_) (fun _ hf => ?_)
      · refine v_run C0 tbX4 cokX4_atFive (pc' := 31) (lv' := [(0, .ref a0), (1, .int x1), (2, .int x2), (3, .int x3)]) (st' := [.int (-1 : Int32)]) (h' := h) 1 rfl trivial ?_
        obtain rfl := Option.some.inj hf
        exact v_iret C0 cokX4_atFive hr hlk rfl
      · refine v_run C0 tbX4 cokX4_atFive (pc' := 39) (lv' := [(0, .ref a0), (1, .int x1), (2, .int x2), (3, .int x3)]) (st' := [.int (x1 * x2), .int (x3 * (10 : Int32))]) (h' := h) 6 rfl trivial ?_
        refine v_icmp_le C0 cokX4_atFive rfl 46 (by decide) hf (fun _ hf => ?_) (fun _ hf => ?_)
        · refine v_run C0 tbX4 cokX4_atFive (pc' := 47) (lv' := [(0, .ref a0), (1, .int x1), (2, .int x2), (3, .int x3)]) (st' := [.int (0 : Int32)]) (h' := h) 1 rfl trivial ?_
          obtain rfl := Option.some.inj hf
          exact v_iret C0 cokX4_atFive hr hlk rfl
        · refine v_run C0 tbX4 cokX4_atFive (pc' := 47) (lv' := [(0, .ref a0), (1, .int x1), (2, .int x2), (3, .int x3)]) (st' := [.int (1 : Int32)]) (h' := h) 2 rfl trivial ?_
          obtain rfl := Option.some.inj hf
          exact v_iret C0 cokX4_atFive hr hlk rfl
-- BackByNoonOnMonday.taxi(III)I
noncomputable def fX4_taxi (σ : q_St) (h : q_Hp) (a0 : Nat) (x1 : Int32) (x2 : Int32) (x3 : Int32) : Option Int32 := q_gu ((q_tag σ (q_ref σ a0 0) = 3) ∧ (q_tag σ (q_ref σ (q_ref σ a0 0) 3) = 7) ∧ (q_tag σ (q_ref σ (q_ref σ a0 0) 7) = 7)) (((fX2_isSuit σ h (q_ref σ a0 0) x1).bind fun r1 => (if r1 = 0 then some (-1 : Int32) else ((fX4_isIn σ h x2 (0 : Int32) (99 : Int32)).bind fun r2 => (if r2 = 0 then some (-1 : Int32) else ((fX4_isIn σ h x3 (0 : Int32) (999 : Int32)).bind fun r3 => (if r3 = 0 then some (-1 : Int32) else ((fX4_at σ h (q_ref σ (q_ref σ a0 0) 3) x1).bind fun r4 => (if r4 = (1 : Int32) then ((fX2_holderOf σ h (q_ref σ a0 0) x1).bind fun r5 => ((fX4_at σ h (q_ref σ (q_ref σ a0 0) 7) r5).bind fun r6 => (if (r6 * x3) ≤ (x2 * (10 : Int32)) then some (0 : Int32) else some (1 : Int32)))) else some (-3 : Int32))))))))))
def cdX4_taxi : q_Cd := [(0, .aload_n 0), (1, .getfield 12), (4, .iload_n 1), (5, .invokevirtual 89), (8, .ifCond .eq 24), (11, .iload_n 2), (12, .iconst 0), (13, .bipush 99), (15, .invokestatic 148), (18, .ifCond .eq 14), (21, .iload_n 3), (22, .iconst 0), (23, .sipush 999), (26, .invokestatic 148), (29, .ifCond .ne 5), (32, .iconst (-1)), (33, .ireturn), (34, .aload_n 0), (35, .getfield 12), (38, .getfield 112), (41, .iload_n 1), (42, .invokestatic 105), (45, .iconst 1), (46, .if_icmp .eq 6), (49, .bipush (-3)), (51, .ireturn), (52, .aload_n 0), (53, .getfield 12), (56, .getfield 139), (59, .aload_n 0), (60, .getfield 12), (63, .iload_n 1), (64, .invokevirtual 272), (67, .invokestatic 105), (70, .iload_n 3), (71, .imul), (72, .iload_n 2), (73, .bipush 10), (75, .imul), (76, .if_icmp .le 7), (79, .iconst 1), (80, .goto 4), (83, .iconst 0), (84, .ireturn)]
set_option maxRecDepth 100000 in
theorem cokX4_taxi : q_cok cX4_taxi cdX4_taxi := by unfold q_cok; decide +kernel
set_option maxRecDepth 100000 in
set_option maxHeartbeats 4000000 in
theorem ctX4_taxi {l : Launch} {D : va_G} {cy : Nat → Nat} {b0 : Nat} {σ : q_St} {h : q_Hp} (a0 : Nat) (x1 : Int32) (x2 : Int32) (x3 : Int32) {r : Int32} (ta0 : q_tag σ a0 = 5) (hf : fX4_taxi σ h a0 x1 x2 x3 = some r) : q_M l yX4_taxi cX4_taxi 4 (some .int) 2 43 0 0 D cy b0 σ h [.ref a0, .int x1, .int x2, .int x3] (some (.int r)) σ h := by
  unfold fX4_taxi at hf
  obtain ⟨⟨k0, k1, k2⟩, hf⟩ := q_gu_o hf
  refine q_enter (by decide) (Nat.le_of_ble_eq_true rfl) ?_
  intro p e s m args below meth c C0 hr hlk hnm
  replace C0 : VC p { frames := 2, cells := 0, slots := 0, locals := 43 } s m args meth c D cy b0 4 0 0 RX4 cX4_taxi := C0
  refine v_run C0 tbX4 cokX4_taxi (pc' := 5) (lv' := [(0, .ref a0), (1, .int x1), (2, .int x2), (3, .int x3)]) (st' := [.int x1, .ref (q_ref σ a0 0)]) (h' := h) 3 rfl ⟨⟨ta0, q_tn k0⟩, trivial⟩ ?_
  obtain ⟨r1, e1, hf⟩ := q_bd hf
  refine v_callV C0 cokX4_taxi rfl (rest := []) (ctX2_isSuit (q_ref σ a0 0) x1 k0 e1) calX2_isSuit lkX4_89 inX2_isSuit dnX2_isSuit (ci := 2) ⟨rfl, by decide⟩ k0 rfl rfl ⟨by decide, by decide⟩ (Nat.le_of_ble_eq_true rfl) (Nat.le_refl _) (Nat.le_refl _) ?_
  refine v_if_eq C0 cokX4_taxi rfl 32 (by decide) hf (fun _ hf => ?_) (fun _ hf => ?_)
  · refine v_run C0 tbX4 cokX4_taxi (pc' := 33) (lv' := [(0, .ref a0), (1, .int x1), (2, .int x2), (3, .int x3)]) (st' := [.int (-1 : Int32)]) (h' := h) 1 rfl trivial ?_
    obtain rfl := Option.some.inj hf
    exact v_iret C0 cokX4_taxi hr hlk rfl
  · refine v_run C0 tbX4 cokX4_taxi (pc' := 15) (lv' := [(0, .ref a0), (1, .int x1), (2, .int x2), (3, .int x3)]) (st' := [.int (99 : Int32), .int (0 : Int32), .int x2]) (h' := h) 3 rfl trivial ?_
    obtain ⟨r2, e2, hf⟩ := q_bd hf
    refine v_callS C0 cokX4_taxi rfl (rest := []) (ctX4_isIn x2 (0 : Int32) (99 : Int32) e2) calX4_isIn lkX4_148 inX4_isIn dnX4_isIn rfl rfl ⟨by decide, by decide⟩ (Nat.le_of_ble_eq_true rfl) (Nat.le_refl _) (Nat.le_refl _) ?_
    refine v_if_eq C0 cokX4_taxi rfl 32 (by decide) hf (fun _ hf => ?_) (fun _ hf => ?_)
    · refine v_run C0 tbX4 cokX4_taxi (pc' := 33) (lv' := [(0, .ref a0), (1, .int x1), (2, .int x2), (3, .int x3)]) (st' := [.int (-1 : Int32)]) (h' := h) 1 rfl trivial ?_
      obtain rfl := Option.some.inj hf
      exact v_iret C0 cokX4_taxi hr hlk rfl
    · refine v_run C0 tbX4 cokX4_taxi (pc' := 26) (lv' := [(0, .ref a0), (1, .int x1), (2, .int x2), (3, .int x3)]) (st' := [.int (999 : Int32), .int (0 : Int32), .int x3]) (h' := h) 3 rfl trivial ?_
      obtain ⟨r3, e3, hf⟩ := q_bd hf
      refine v_callS C0 cokX4_taxi rfl (rest := []) (ctX4_isIn x3 (0 : Int32) (999 : Int32) e3) calX4_isIn lkX4_148 inX4_isIn dnX4_isIn rfl rfl ⟨by decide, by decide⟩ (Nat.le_of_ble_eq_true rfl) (Nat.le_refl _) (Nat.le_refl _) ?_
      refine v_if_ne C0 cokX4_taxi rfl 34 (by decide) hf (fun _ hf => ?_) (fun _ hf => ?_)
      · refine v_run C0 tbX4 cokX4_taxi (pc' := 33) (lv' := [(0, .ref a0), (1, .int x1), (2, .int x2), (3, .int x3)]) (st' := [.int (-1 : Int32)]) (h' := h) 1 rfl trivial ?_
        obtain rfl := Option.some.inj hf
        exact v_iret C0 cokX4_taxi hr hlk rfl
      · refine v_run C0 tbX4 cokX4_taxi (pc' := 42) (lv' := [(0, .ref a0), (1, .int x1), (2, .int x2), (3, .int x3)]) (st' := [.int x1, .ref (q_ref σ (q_ref σ a0 0) 3)]) (h' := h) 4 rfl ⟨⟨ta0, q_tn k0⟩, ⟨k0, q_tn k1⟩, trivial⟩ ?_
        obtain ⟨r4, e4, hf⟩ := q_bd hf
        refine v_callS C0 cokX4_taxi rfl (rest := []) (ctX4_at (q_ref σ (q_ref σ a0 0) 3) x1 k1 e4) calX4_at lkX4_105 inX4_at dnX4_at rfl rfl ⟨by decide, by decide⟩ (Nat.le_of_ble_eq_true rfl) (Nat.le_refl _) (Nat.le_refl _) ?_
        refine v_run C0 tbX4 cokX4_taxi (pc' := 46) (lv' := [(0, .ref a0), (1, .int x1), (2, .int x2), (3, .int x3)]) (st' := [.int (1 : Int32), .int r4]) (h' := h) 1 rfl trivial ?_
        refine v_icmp_eq C0 cokX4_taxi rfl 52 (by decide) hf (fun _ hf => ?_) (fun _ hf => ?_)
        · refine v_run C0 tbX4 cokX4_taxi (pc' := 64) (lv' := [(0, .ref a0), (1, .int x1), (2, .int x2), (3, .int x3)]) (st' := [.int x1, .ref (q_ref σ a0 0), .ref (q_ref σ (q_ref σ a0 0) 7)]) (h' := h) 6 rfl ⟨⟨ta0, q_tn k0⟩, ⟨k0, q_tn k2⟩, ⟨ta0, q_tn k0⟩, trivial⟩ ?_
          obtain ⟨r5, e5, hf⟩ := q_bd hf
          refine v_callV C0 cokX4_taxi rfl (rest := [.ref (q_ref σ (q_ref σ a0 0) 7)]) (ctX2_holderOf (q_ref σ a0 0) x1 k0 e5) calX2_holderOf lkX4_272 inX2_holderOf dnX2_holderOf (ci := 2) ⟨rfl, by decide⟩ k0 rfl rfl ⟨by decide, by decide⟩ (Nat.le_of_ble_eq_true rfl) (Nat.le_refl _) (Nat.le_refl _) ?_
          obtain ⟨r6, e6, hf⟩ := q_bd hf
          refine v_callS C0 cokX4_taxi rfl (rest := []) (ctX4_at (q_ref σ (q_ref σ a0 0) 7) r5 k2 e6) calX4_at lkX4_105 inX4_at dnX4_at rfl rfl ⟨by decide, by decide⟩ (Nat.le_of_ble_eq_true rfl) (Nat.le_refl _) (Nat.le_refl _) ?_
          refine v_run C0 tbX4 cokX4_taxi (pc' := 76) (lv' := [(0, .ref a0), (1, .int x1), (2, .int x2), (3, .int x3)]) (st' := [.int (x2 * (10 : Int32)), .int (r6 * x3)]) (h' := h) 5 rfl trivial ?_
          refine v_icmp_le C0 cokX4_taxi rfl 83 (by decide) hf (fun _ hf => ?_) (fun _ hf => ?_)
          · refine v_run C0 tbX4 cokX4_taxi (pc' := 84) (lv' := [(0, .ref a0), (1, .int x1), (2, .int x2), (3, .int x3)]) (st' := [.int (0 : Int32)]) (h' := h) 1 rfl trivial ?_
            obtain rfl := Option.some.inj hf
            exact v_iret C0 cokX4_taxi hr hlk rfl
          · refine v_run C0 tbX4 cokX4_taxi (pc' := 84) (lv' := [(0, .ref a0), (1, .int x1), (2, .int x2), (3, .int x3)]) (st' := [.int (1 : Int32)]) (h' := h) 2 rfl trivial ?_
            obtain rfl := Option.some.inj hf
            exact v_iret C0 cokX4_taxi hr hlk rfl
        · refine v_run C0 tbX4 cokX4_taxi (pc' := 51) (lv' := [(0, .ref a0), (1, .int x1), (2, .int x2), (3, .int x3)]) (st' := [.int (-3 : Int32)]) (h' := h) 1 rfl trivial ?_
          obtain rfl := Option.some.inj hf
          exact v_iret C0 cokX4_taxi hr hlk rfl
-- BackByNoonOnMonday.friday(I)I
noncomputable def fX4_friday_83 (σ : q_St) (h : q_Hp) (a0 : Nat) (x1 : Int32) (x2 : Int32) (x3 : Int32) (x4 : Int32) (x5 : Int32) : Option ((Int32 × Int32 × Int32) ⊕ (Int32 × Int32)) := some (Sum.inl (x2, x3, (x5 + (1 : Int32))))
noncomputable def fX4_friday_79 (σ : q_St) (h : q_Hp) (a0 : Nat) (x1 : Int32) (x2 : Int32) (x4 : Int32) (x5 : Int32) (s0 : Int32) : Option ((Int32 × Int32 × Int32) ⊕ (Int32 × Int32)) := fX4_friday_83 σ h a0 x1 (x2 + (1 : Int32)) s0 x4 x5
noncomputable def fX4_friday_37 (σ : q_St) (h : q_Hp) (a0 : Nat) (x1 : Int32) (x4 : Int32) (x2 : Int32) (x3 : Int32) (x5 : Int32) : Option ((Int32 × Int32 × Int32) ⊕ (Int32 × Int32)) := (if (q_int h (q_ref σ a0 0) 12) ≤ x5 then some (Sum.inr (x2, x3)) else ((fX2_couldChange σ h (q_ref σ a0 0) x4 x5).bind fun r4 => (if r4 = 0 then fX4_friday_83 σ h a0 x1 x2 x3 x4 x5 else (if x2 = 0 then fX4_friday_79 σ h a0 x1 x2 x4 x5 ((x4 * (10 : Int32)) + x5) else fX4_friday_79 σ h a0 x1 x2 x4 x5 x3))))
noncomputable def fX4_friday_19 (σ : q_St) (h : q_Hp) (a0 : Nat) (x1 : Int32) (x2 : Int32) (x3 : Int32) (x4 : Int32) : Option ((Int32 × Int32 × Int32) ⊕ (Int32 × Int32)) := (if (q_int h (q_ref σ a0 0) 12) ≤ x4 then some (Sum.inr (x2, x3)) else (q_loop (fun s => fX4_friday_37 σ h a0 x1 x4 s.1 s.2.1 s.2.2) q_N (x2, x3, (x4 + (1 : Int32)))).bind fun o3 => some (Sum.inl (o3.1, o3.2, (x4 + (1 : Int32)))))
noncomputable def fX4_friday (σ : q_St) (h : q_Hp) (a0 : Nat) (x1 : Int32) : Option Int32 := q_gu ((q_tag σ (q_ref σ a0 0) = 3)) (((fX4_isIn σ h x1 (0 : Int32) (1 : Int32)).bind fun r1 => (if r1 = 0 then some (-1 : Int32) else (q_loop (fun s => fX4_friday_19 σ h a0 x1 s.1 s.2.1 s.2.2) q_N ((0 : Int32), (-4 : Int32), (0 : Int32))).bind fun o2 => (if x1 = 0 then some o2.1 else some o2.2))))
def cdX4_friday : q_Cd := [(0, .iload_n 1), (1, .iconst 0), (2, .iconst 1), (3, .invokestatic 148), (6, .ifCond .ne 5), (9, .iconst (-1)), (10, .ireturn), (11, .iconst 0), (12, .istore_n 2), (13, .bipush (-4)), (15, .istore_n 3), (16, .iconst 0), (17, .istore 4), (19, .iload 4), (21, .aload_n 0), (22, .getfield 12), (25, .getfield 181), (28, .if_icmp .ge 67), (31, .iload 4), (33, .iconst 1), (34, .iadd), (35, .istore 5), (37, .iload 5), (39, .aload_n 0), (40, .getfield 12), (43, .getfield 181), (46, .if_icmp .ge 43), (49, .aload_n 0), (50, .getfield 12), (53, .iload 4), (55, .iload 5), (57, .invokevirtual 275), (60, .ifCond .eq 23), (63, .iload_n 2), (64, .ifCond .ne 14), (67, .iload 4), (69, .bipush 10), (71, .imul), (72, .iload 5), (74, .iadd), (75, .goto 4), (78, .iload_n 3), (79, .istore_n 3), (80, .iinc 2 1), (83, .iinc 5 1), (86, .goto (-49)), (89, .iinc 4 1), (92, .goto (-73)), (95, .iload_n 1), (96, .ifCond .ne 7), (99, .iload_n 2), (100, .goto 4), (103, .iload_n 3), (104, .ireturn)]
set_option maxRecDepth 100000 in
theorem cokX4_friday : q_cok cX4_friday cdX4_friday := by unfold q_cok; decide +kernel
set_option maxRecDepth 100000 in
set_option maxHeartbeats 4000000 in
theorem ctX4_friday {l : Launch} {D : va_G} {cy : Nat → Nat} {b0 : Nat} {σ : q_St} {h : q_Hp} (a0 : Nat) (x1 : Int32) {r : Int32} (ta0 : q_tag σ a0 = 5) (hf : fX4_friday σ h a0 x1 = some r) : q_M l yX4_friday cX4_friday 6 (some .int) 3 69 0 0 D cy b0 σ h [.ref a0, .int x1] (some (.int r)) σ h := by
  unfold fX4_friday at hf
  obtain ⟨k0, hf⟩ := q_gu_o hf
  refine q_enter (by decide) (Nat.le_of_ble_eq_true rfl) ?_
  intro p e s m args below meth c C0 hr hlk hnm
  replace C0 : VC p { frames := 3, cells := 0, slots := 0, locals := 69 } s m args meth c D cy b0 6 0 0 RX4 cX4_friday := C0
  have n19 : ∀ (o : (Int32 × Int32)) (s1 : (Int32 × Int32 × Int32)), q_loop (fun s => fX4_friday_19 σ h a0 x1 s.1 s.2.1 s.2.2) q_N s1 = some o → V p l e { frames := 3, cells := 0, slots := 0, locals := 69 } s m args below meth c (MQ below (q_Qc D cy b0 (some (.int r)) σ h) args s 0 0 (fun q => b0 ≤ q)) D cy b0 6 0 0 0 0 σ h 95 [(1, .int x1), (2, .int o.1), (3, .int o.2)] [] → V p l e { frames := 3, cells := 0, slots := 0, locals := 69 } s m args below meth c (MQ below (q_Qc D cy b0 (some (.int r)) σ h) args s 0 0 (fun q => b0 ≤ q)) D cy b0 6 0 0 0 0 σ h 19 [(0, .ref a0), (1, .int x1), (2, .int s1.1), (3, .int s1.2.1), (4, .int s1.2.2)] [] := by
    intro o s1 ho kx1
    refine q_loop_V (P := fun s0 => V p l e { frames := 3, cells := 0, slots := 0, locals := 69 } s m args below meth c (MQ below (q_Qc D cy b0 (some (.int r)) σ h) args s 0 0 (fun q => b0 ≤ q)) D cy b0 6 0 0 0 0 σ h 19 [(0, .ref a0), (1, .int x1), (2, .int s0.1), (3, .int s0.2.1), (4, .int s0.2.2)] []) (o := o) ?_ q_N s1 ho
    intro s2 z1 hf kb1 kr1
    obtain ⟨x2, x3, x4⟩ := s2
    replace hf : fX4_friday_19 σ h a0 x1 x2 x3 x4 = some z1 := hf
    unfold fX4_friday_19 at hf
    show V p l e { frames := 3, cells := 0, slots := 0, locals := 69 } s m args below meth c (MQ below (q_Qc D cy b0 (some (.int r)) σ h) args s 0 0 (fun q => b0 ≤ q)) D cy b0 6 0 0 0 0 σ h 19 [(0, .ref a0), (1, .int x1), (2, .int x2), (3, .int x3), (4, .int x4)] []
    have n37 : ∀ (x4 : Int32) (o : (Int32 × Int32)) (s1 : (Int32 × Int32 × Int32)), q_loop (fun s => fX4_friday_37 σ h a0 x1 x4 s.1 s.2.1 s.2.2) q_N s1 = some o → V p l e { frames := 3, cells := 0, slots := 0, locals := 69 } s m args below meth c (MQ below (q_Qc D cy b0 (some (.int r)) σ h) args s 0 0 (fun q => b0 ≤ q)) D cy b0 6 0 0 0 0 σ h 89 [(0, .ref a0), (1, .int x1), (2, .int o.1), (3, .int o.2), (4, .int x4)] [] → V p l e { frames := 3, cells := 0, slots := 0, locals := 69 } s m args below meth c (MQ below (q_Qc D cy b0 (some (.int r)) σ h) args s 0 0 (fun q => b0 ≤ q)) D cy b0 6 0 0 0 0 σ h 37 [(0, .ref a0), (1, .int x1), (2, .int s1.1), (3, .int s1.2.1), (4, .int x4), (5, .int s1.2.2)] [] := by
      intro x4 o s1 ho kx2
      refine q_loop_V (P := fun s0 => V p l e { frames := 3, cells := 0, slots := 0, locals := 69 } s m args below meth c (MQ below (q_Qc D cy b0 (some (.int r)) σ h) args s 0 0 (fun q => b0 ≤ q)) D cy b0 6 0 0 0 0 σ h 37 [(0, .ref a0), (1, .int x1), (2, .int s0.1), (3, .int s0.2.1), (4, .int x4), (5, .int s0.2.2)] []) (o := o) ?_ q_N s1 ho
      intro s2 z2 hf kb2 kr2
      obtain ⟨x2, x3, x5⟩ := s2
      replace hf : fX4_friday_37 σ h a0 x1 x4 x2 x3 x5 = some z2 := hf
      unfold fX4_friday_37 at hf
      show V p l e { frames := 3, cells := 0, slots := 0, locals := 69 } s m args below meth c (MQ below (q_Qc D cy b0 (some (.int r)) σ h) args s 0 0 (fun q => b0 ≤ q)) D cy b0 6 0 0 0 0 σ h 37 [(0, .ref a0), (1, .int x1), (2, .int x2), (3, .int x3), (4, .int x4), (5, .int x5)] []
      have n83 : ∀ (x2 : Int32) (x3 : Int32) (x5 : Int32), fX4_friday_83 σ h a0 x1 x2 x3 x4 x5 = some z2 → V p l e { frames := 3, cells := 0, slots := 0, locals := 69 } s m args below meth c (MQ below (q_Qc D cy b0 (some (.int r)) σ h) args s 0 0 (fun q => b0 ≤ q)) D cy b0 6 0 0 0 0 σ h 83 [(0, .ref a0), (1, .int x1), (2, .int x2), (3, .int x3), (4, .int x4), (5, .int x5)] [] := by
        intro x2 x3 x5 hf
        unfold fX4_friday_83 at hf
        refine v_run C0 tbX4 cokX4_friday (pc' := 37) (lv' := [(5, .int (x5 + (1 : Int32))), (0, .ref a0), (1, .int x1), (2, .int x2), (3, .int x3), (4, .int x4)]) (st' := []) (h' := h) 2 rfl trivial ?_
        obtain rfl := Option.some.inj hf
        refine v_pick [1, 2, 3, 4, 5, 0] rfl ?_
        exact kb2 _ rfl
      have n79 : ∀ (x2 : Int32) (x5 : Int32) (s0 : Int32), fX4_friday_79 σ h a0 x1 x2 x4 x5 s0 = some z2 → V p l e { frames := 3, cells := 0, slots := 0, locals := 69 } s m args below meth c (MQ below (q_Qc D cy b0 (some (.int r)) σ h) args s 0 0 (fun q => b0 ≤ q)) D cy b0 6 0 0 0 0 σ h 79 [(0, .ref a0), (1, .int x1), (2, .int x2), (4, .int x4), (5, .int x5)] [.int s0] := by
        intro x2 x5 s0 hf
        unfold fX4_friday_79 at hf
        refine v_run C0 tbX4 cokX4_friday (pc' := 83) (lv' := [(2, .int (x2 + (1 : Int32))), (3, .int s0), (0, .ref a0), (1, .int x1), (4, .int x4), (5, .int x5)]) (st' := []) (h' := h) 2 rfl trivial ?_
        refine v_pick [2, 3, 0, 1, 4, 5] rfl ?_
        exact n83 (x2 + (1 : Int32)) s0 x5 hf
      refine v_run C0 tbX4 cokX4_friday (pc' := 46) (lv' := [(0, .ref a0), (1, .int x1), (2, .int x2), (3, .int x3), (4, .int x4), (5, .int x5)]) (st' := [.int (q_int h (q_ref σ a0 0) 12), .int x5]) (h' := h) 4 rfl ⟨⟨ta0, q_tn k0⟩, k0, trivial⟩ ?_
      refine v_icmp_ge C0 cokX4_friday rfl 89 (by decide) hf (fun _ hf => ?_) (fun _ hf => ?_)
      · obtain rfl := Option.some.inj hf
        refine v_pick [0, 1, 2, 3, 4] rfl ?_
        have hx := kr2 _ rfl
        subst hx
        exact kx2
      · refine v_run C0 tbX4 cokX4_friday (pc' := 57) (lv' := [(0, .ref a0), (1, .int x1), (2, .int x2), (3, .int x3), (4, .int x4), (5, .int x5)]) (st' := [.int x5, .int x4, .ref (q_ref σ a0 0)]) (h' := h) 4 rfl ⟨⟨ta0, q_tn k0⟩, trivial⟩ ?_
        obtain ⟨r4, e4, hf⟩ := q_bd hf
        refine v_callV C0 cokX4_friday rfl (rest := []) (ctX2_couldChange (q_ref σ a0 0) x4 x5 k0 e4) calX2_couldChange lkX4_275 inX2_couldChange dnX2_couldChange (ci := 2) ⟨rfl, by decide⟩ k0 rfl rfl ⟨by decide, by decide⟩ (Nat.le_of_ble_eq_true rfl) (Nat.le_refl _) (Nat.le_refl _) ?_
        refine v_if_eq C0 cokX4_friday rfl 83 (by decide) hf (fun _ hf => ?_) (fun _ hf => ?_)
        · refine v_pick [0, 1, 2, 3, 4, 5] rfl ?_
          exact n83 x2 x3 x5 hf
        · refine v_run C0 tbX4 cokX4_friday (pc' := 64) (lv' := [(0, .ref a0), (1, .int x1), (2, .int x2), (3, .int x3), (4, .int x4), (5, .int x5)]) (st' := [.int x2]) (h' := h) 1 rfl trivial ?_
          refine v_if_ne C0 cokX4_friday rfl 78 (by decide) hf (fun _ hf => ?_) (fun _ hf => ?_)
          · refine v_run C0 tbX4 cokX4_friday (pc' := 79) (lv' := [(0, .ref a0), (1, .int x1), (2, .int x2), (3, .int x3), (4, .int x4), (5, .int x5)]) (st' := [.int ((x4 * (10 : Int32)) + x5)]) (h' := h) 6 rfl trivial ?_
            refine v_pick [0, 1, 2, 4, 5] rfl ?_
            exact n79 x2 x5 ((x4 * (10 : Int32)) + x5) hf
          · refine v_run C0 tbX4 cokX4_friday (pc' := 79) (lv' := [(0, .ref a0), (1, .int x1), (2, .int x2), (3, .int x3), (4, .int x4), (5, .int x5)]) (st' := [.int x3]) (h' := h) 1 rfl trivial ?_
            refine v_pick [0, 1, 2, 4, 5] rfl ?_
            exact n79 x2 x5 x3 hf
    refine v_run C0 tbX4 cokX4_friday (pc' := 28) (lv' := [(0, .ref a0), (1, .int x1), (2, .int x2), (3, .int x3), (4, .int x4)]) (st' := [.int (q_int h (q_ref σ a0 0) 12), .int x4]) (h' := h) 4 rfl ⟨⟨ta0, q_tn k0⟩, k0, trivial⟩ ?_
    refine v_icmp_ge C0 cokX4_friday rfl 95 (by decide) hf (fun _ hf => ?_) (fun _ hf => ?_)
    · obtain rfl := Option.some.inj hf
      refine v_pick [1, 2, 3] rfl ?_
      have hx := kr1 _ rfl
      subst hx
      exact kx1
    · refine v_run C0 tbX4 cokX4_friday (pc' := 37) (lv' := [(5, .int (x4 + (1 : Int32))), (0, .ref a0), (1, .int x1), (2, .int x2), (3, .int x3), (4, .int x4)]) (st' := []) (h' := h) 4 rfl trivial ?_
      obtain ⟨o3, eo3, hf⟩ := q_bd hf
      refine v_pick [1, 2, 3, 4, 5, 0] rfl ?_
      refine n37 x4 o3 (x2, x3, (x4 + (1 : Int32))) eo3 ?_
      refine v_run C0 tbX4 cokX4_friday (pc' := 19) (lv' := [(4, .int (x4 + (1 : Int32))), (0, .ref a0), (1, .int x1), (2, .int o3.1), (3, .int o3.2)]) (st' := []) (h' := h) 2 rfl trivial ?_
      obtain rfl := Option.some.inj hf
      refine v_pick [1, 2, 3, 4, 0] rfl ?_
      exact kb1 _ rfl
  refine v_run C0 tbX4 cokX4_friday (pc' := 3) (lv' := [(0, .ref a0), (1, .int x1)]) (st' := [.int (1 : Int32), .int (0 : Int32), .int x1]) (h' := h) 3 rfl trivial ?_
  obtain ⟨r1, e1, hf⟩ := q_bd hf
  refine v_callS C0 cokX4_friday rfl (rest := []) (ctX4_isIn x1 (0 : Int32) (1 : Int32) e1) calX4_isIn lkX4_148 inX4_isIn dnX4_isIn rfl rfl ⟨by decide, by decide⟩ (Nat.le_of_ble_eq_true rfl) (Nat.le_refl _) (Nat.le_refl _) ?_
  refine v_if_ne C0 cokX4_friday rfl 11 (by decide) hf (fun _ hf => ?_) (fun _ hf => ?_)
  · refine v_run C0 tbX4 cokX4_friday (pc' := 10) (lv' := [(0, .ref a0), (1, .int x1)]) (st' := [.int (-1 : Int32)]) (h' := h) 1 rfl trivial ?_
    obtain rfl := Option.some.inj hf
    exact v_iret C0 cokX4_friday hr hlk rfl
  · refine v_run C0 tbX4 cokX4_friday (pc' := 19) (lv' := [(4, .int (0 : Int32)), (3, .int (-4 : Int32)), (2, .int (0 : Int32)), (0, .ref a0), (1, .int x1)]) (st' := []) (h' := h) 6 rfl trivial ?_
    obtain ⟨o2, eo2, hf⟩ := q_bd hf
    refine v_pick [3, 4, 2, 1, 0] rfl ?_
    refine n19 o2 ((0 : Int32), (-4 : Int32), (0 : Int32)) eo2 ?_
    refine v_run C0 tbX4 cokX4_friday (pc' := 96) (lv' := [(1, .int x1), (2, .int o2.1), (3, .int o2.2)]) (st' := [.int x1]) (h' := h) 1 rfl trivial ?_
    refine v_if_ne C0 cokX4_friday rfl 103 (by decide) hf (fun _ hf => ?_) (fun _ hf => ?_)
    · refine v_run C0 tbX4 cokX4_friday (pc' := 104) (lv' := [(1, .int x1), (2, .int o2.1), (3, .int o2.2)]) (st' := [.int o2.1]) (h' := h) 2 rfl trivial ?_
      obtain rfl := Option.some.inj hf
      exact v_iret C0 cokX4_friday hr hlk rfl
    · refine v_run C0 tbX4 cokX4_friday (pc' := 104) (lv' := [(1, .int x1), (2, .int o2.1), (3, .int o2.2)]) (st' := [.int o2.2]) (h' := h) 1 rfl trivial ?_
      obtain rfl := Option.some.inj hf
      exact v_iret C0 cokX4_friday hr hlk rfl
-- BackByNoonOnMonday.tight()I
noncomputable def fX4_tight_95 (σ : q_St) (h : q_Hp) (a0 : Nat) (x2 : Int32) (s0 : Int32) (s1 : Int32) : Option ((Int32 × Int32) ⊕ Int32) := some (Sum.inl ((s1 ||| s0), (x2 + (1 : Int32))))
noncomputable def fX4_tight_80 (σ : q_St) (h : q_Hp) (a0 : Nat) (x1 : Int32) (x2 : Int32) (s0 : Int32) : Option ((Int32 × Int32) ⊕ Int32) := (if s0 = 0 then fX4_tight_95 σ h a0 x2 (0 : Int32) x1 else fX4_tight_95 σ h a0 x2 ((1 : Int32) <<< (x2 &&& 31)) x1)
noncomputable def fX4_tight_79 (σ : q_St) (h : q_Hp) (a0 : Nat) (x1 : Int32) (x2 : Int32) : Option ((Int32 × Int32) ⊕ Int32) := fX4_tight_80 σ h a0 x1 x2 (0 : Int32)
noncomputable def fX4_tight_4 (σ : q_St) (h : q_Hp) (a0 : Nat) (x1 : Int32) (x2 : Int32) : Option ((Int32 × Int32) ⊕ Int32) := (if (q_int h (q_ref σ a0 0) 12) ≤ x2 then some (Sum.inr x1) else ((fX4_at σ h (q_ref σ (q_ref σ a0 0) 9) x2).bind fun r2 => (if r2 = (9 : Int32) then fX4_tight_79 σ h a0 x1 x2 else ((fX2_kindOf σ h (q_ref σ a0 0) r2).bind fun r3 => ((fX4_at σ h (q_ref σ (q_ref σ a0 0) 1) r2).bind fun r4 => ((fX4_at σ h (q_ref σ (q_ref σ a0 0) 4) x2).bind fun r5 => q_gu ((q_tag σ r3 = 4)) (((fX2_reaches σ h (q_ref σ a0 0) r3 r4 (r5 + (1 : Int32))).bind fun r7 => (if r7 = 0 then fX4_tight_80 σ h a0 x1 x2 (1 : Int32) else fX4_tight_79 σ h a0 x1 x2)))))))))
noncomputable def fX4_tight (σ : q_St) (h : q_Hp) (a0 : Nat) : Option Int32 := q_gu ((q_tag σ (q_ref σ a0 0) = 3) ∧ (q_tag σ (q_ref σ (q_ref σ a0 0) 9) = 7) ∧ (q_tag σ (q_ref σ (q_ref σ a0 0) 1) = 7) ∧ (q_tag σ (q_ref σ (q_ref σ a0 0) 4) = 7)) ((q_loop (fun s => fX4_tight_4 σ h a0 s.1 s.2) q_N ((0 : Int32), (0 : Int32))).bind fun o1 => some o1)
def cdX4_tight : q_Cd := [(0, .iconst 0), (1, .istore_n 1), (2, .iconst 0), (3, .istore_n 2), (4, .iload_n 2), (5, .aload_n 0), (6, .getfield 12), (9, .getfield 181), (12, .if_icmp .ge 91), (15, .aload_n 0), (16, .getfield 12), (19, .getfield 145), (22, .iload_n 2), (23, .invokestatic 105), (26, .istore_n 3), (27, .iload_n 3), (28, .bipush 9), (30, .if_icmp .eq 49), (33, .aload_n 0), (34, .getfield 12), (37, .aload_n 0), (38, .getfield 12), (41, .iload_n 3), (42, .invokevirtual 92), (45, .aload_n 0), (46, .getfield 12), (49, .getfield 102), (52, .iload_n 3), (53, .invokestatic 105), (56, .aload_n 0), (57, .getfield 12), (60, .getfield 130), (63, .iload_n 2), (64, .invokestatic 105), (67, .iconst 1), (68, .iadd), (69, .invokevirtual 278), (72, .ifCond .ne 7), (75, .iconst 1), (76, .goto 4), (79, .iconst 0), (80, .istore 4), (82, .iload_n 1), (83, .iload 4), (85, .ifCond .eq 9), (88, .iconst 1), (89, .iload_n 2), (90, .ishl), (91, .goto 4), (94, .iconst 0), (95, .ior), (96, .istore_n 1), (97, .iinc 2 1), (100, .goto (-96)), (103, .iload_n 1), (104, .ireturn)]
set_option maxRecDepth 100000 in
theorem cokX4_tight : q_cok cX4_tight cdX4_tight := by unfold q_cok; decide +kernel
set_option maxRecDepth 100000 in
set_option maxHeartbeats 4000000 in
theorem ctX4_tight {l : Launch} {D : va_G} {cy : Nat → Nat} {b0 : Nat} {σ : q_St} {h : q_Hp} (a0 : Nat) {r : Int32} (ta0 : q_tag σ a0 = 5) (hf : fX4_tight σ h a0 = some r) : q_M l yX4_tight cX4_tight 5 (some .int) 1 23 0 0 D cy b0 σ h [.ref a0] (some (.int r)) σ h := by
  unfold fX4_tight at hf
  obtain ⟨⟨k0, k1, k2, k3⟩, hf⟩ := q_gu_o hf
  refine q_enter (by decide) (Nat.le_of_ble_eq_true rfl) ?_
  intro p e s m args below meth c C0 hr hlk hnm
  replace C0 : VC p { frames := 1, cells := 0, slots := 0, locals := 23 } s m args meth c D cy b0 5 0 0 RX4 cX4_tight := C0
  have n4 : ∀ (o : Int32) (s1 : (Int32 × Int32)), q_loop (fun s => fX4_tight_4 σ h a0 s.1 s.2) q_N s1 = some o → V p l e { frames := 1, cells := 0, slots := 0, locals := 23 } s m args below meth c (MQ below (q_Qc D cy b0 (some (.int r)) σ h) args s 0 0 (fun q => b0 ≤ q)) D cy b0 5 0 0 0 0 σ h 103 [(1, .int o)] [] → V p l e { frames := 1, cells := 0, slots := 0, locals := 23 } s m args below meth c (MQ below (q_Qc D cy b0 (some (.int r)) σ h) args s 0 0 (fun q => b0 ≤ q)) D cy b0 5 0 0 0 0 σ h 4 [(0, .ref a0), (1, .int s1.1), (2, .int s1.2)] [] := by
    intro o s1 ho kx1
    refine q_loop_V (P := fun s0 => V p l e { frames := 1, cells := 0, slots := 0, locals := 23 } s m args below meth c (MQ below (q_Qc D cy b0 (some (.int r)) σ h) args s 0 0 (fun q => b0 ≤ q)) D cy b0 5 0 0 0 0 σ h 4 [(0, .ref a0), (1, .int s0.1), (2, .int s0.2)] []) (o := o) ?_ q_N s1 ho
    intro s2 z1 hf kb1 kr1
    obtain ⟨x1, x2⟩ := s2
    replace hf : fX4_tight_4 σ h a0 x1 x2 = some z1 := hf
    unfold fX4_tight_4 at hf
    show V p l e { frames := 1, cells := 0, slots := 0, locals := 23 } s m args below meth c (MQ below (q_Qc D cy b0 (some (.int r)) σ h) args s 0 0 (fun q => b0 ≤ q)) D cy b0 5 0 0 0 0 σ h 4 [(0, .ref a0), (1, .int x1), (2, .int x2)] []
    have n95 : ∀ (x2 : Int32) (s0 : Int32) (s1 : Int32), fX4_tight_95 σ h a0 x2 s0 s1 = some z1 → V p l e { frames := 1, cells := 0, slots := 0, locals := 23 } s m args below meth c (MQ below (q_Qc D cy b0 (some (.int r)) σ h) args s 0 0 (fun q => b0 ≤ q)) D cy b0 5 0 0 0 0 σ h 95 [(0, .ref a0), (2, .int x2)] [.int s0, .int s1] := by
      intro x2 s0 s1 hf
      unfold fX4_tight_95 at hf
      refine v_run C0 tbX4 cokX4_tight (pc' := 4) (lv' := [(2, .int (x2 + (1 : Int32))), (1, .int (s1 ||| s0)), (0, .ref a0)]) (st' := []) (h' := h) 4 rfl trivial ?_
      obtain rfl := Option.some.inj hf
      refine v_pick [2, 1, 0] rfl ?_
      exact kb1 _ rfl
    have n80 : ∀ (x1 : Int32) (x2 : Int32) (s0 : Int32), fX4_tight_80 σ h a0 x1 x2 s0 = some z1 → V p l e { frames := 1, cells := 0, slots := 0, locals := 23 } s m args below meth c (MQ below (q_Qc D cy b0 (some (.int r)) σ h) args s 0 0 (fun q => b0 ≤ q)) D cy b0 5 0 0 0 0 σ h 80 [(0, .ref a0), (1, .int x1), (2, .int x2)] [.int s0] := by
      intro x1 x2 s0 hf
      unfold fX4_tight_80 at hf
      refine v_run C0 tbX4 cokX4_tight (pc' := 85) (lv' := [(4, .int s0), (0, .ref a0), (1, .int x1), (2, .int x2)]) (st' := [.int s0, .int x1]) (h' := h) 3 rfl trivial ?_
      refine v_if_eq C0 cokX4_tight rfl 94 (by decide) hf (fun _ hf => ?_) (fun _ hf => ?_)
      · refine v_run C0 tbX4 cokX4_tight (pc' := 95) (lv' := [(4, .int s0), (0, .ref a0), (1, .int x1), (2, .int x2)]) (st' := [.int (0 : Int32), .int x1]) (h' := h) 1 rfl trivial ?_
        refine v_pick [1, 3] rfl ?_
        exact n95 x2 (0 : Int32) x1 hf
      · refine v_run C0 tbX4 cokX4_tight (pc' := 95) (lv' := [(4, .int s0), (0, .ref a0), (1, .int x1), (2, .int x2)]) (st' := [.int ((1 : Int32) <<< (x2 &&& 31)), .int x1]) (h' := h) 4 rfl trivial ?_
        refine v_pick [1, 3] rfl ?_
        exact n95 x2 ((1 : Int32) <<< (x2 &&& 31)) x1 hf
    have n79 : ∀ (x1 : Int32) (x2 : Int32), fX4_tight_79 σ h a0 x1 x2 = some z1 → V p l e { frames := 1, cells := 0, slots := 0, locals := 23 } s m args below meth c (MQ below (q_Qc D cy b0 (some (.int r)) σ h) args s 0 0 (fun q => b0 ≤ q)) D cy b0 5 0 0 0 0 σ h 79 [(0, .ref a0), (1, .int x1), (2, .int x2)] [] := by
      intro x1 x2 hf
      unfold fX4_tight_79 at hf
      refine v_run C0 tbX4 cokX4_tight (pc' := 80) (lv' := [(0, .ref a0), (1, .int x1), (2, .int x2)]) (st' := [.int (0 : Int32)]) (h' := h) 1 rfl trivial ?_
      refine v_pick [0, 1, 2] rfl ?_
      exact n80 x1 x2 (0 : Int32) hf
    refine v_run C0 tbX4 cokX4_tight (pc' := 12) (lv' := [(0, .ref a0), (1, .int x1), (2, .int x2)]) (st' := [.int (q_int h (q_ref σ a0 0) 12), .int x2]) (h' := h) 4 rfl ⟨⟨ta0, q_tn k0⟩, k0, trivial⟩ ?_
    refine v_icmp_ge C0 cokX4_tight rfl 103 (by decide) hf (fun _ hf => ?_) (fun _ hf => ?_)
    · obtain rfl := Option.some.inj hf
      refine v_pick [1] rfl ?_
      have hx := kr1 _ rfl
      subst hx
      exact kx1
    · refine v_run C0 tbX4 cokX4_tight (pc' := 23) (lv' := [(0, .ref a0), (1, .int x1), (2, .int x2)]) (st' := [.int x2, .ref (q_ref σ (q_ref σ a0 0) 9)]) (h' := h) 4 rfl ⟨⟨ta0, q_tn k0⟩, ⟨k0, q_tn k1⟩, trivial⟩ ?_
      obtain ⟨r2, e2, hf⟩ := q_bd hf
      refine v_callS C0 cokX4_tight rfl (rest := []) (ctX4_at (q_ref σ (q_ref σ a0 0) 9) x2 k1 e2) calX4_at lkX4_105 inX4_at dnX4_at rfl rfl ⟨by decide, by decide⟩ (Nat.le_of_ble_eq_true rfl) (Nat.le_refl _) (Nat.le_refl _) ?_
      refine v_run C0 tbX4 cokX4_tight (pc' := 30) (lv' := [(3, .int r2), (0, .ref a0), (1, .int x1), (2, .int x2)]) (st' := [.int (9 : Int32), .int r2]) (h' := h) 3 rfl trivial ?_
      refine v_icmp_eq C0 cokX4_tight rfl 79 (by decide) hf (fun _ hf => ?_) (fun _ hf => ?_)
      · refine v_pick [1, 2, 3] rfl ?_
        exact n79 x1 x2 hf
      · refine v_run C0 tbX4 cokX4_tight (pc' := 42) (lv' := [(3, .int r2), (0, .ref a0), (1, .int x1), (2, .int x2)]) (st' := [.int r2, .ref (q_ref σ a0 0), .ref (q_ref σ a0 0)]) (h' := h) 5 rfl ⟨⟨ta0, q_tn k0⟩, ⟨ta0, q_tn k0⟩, trivial⟩ ?_
        obtain ⟨r3, e3, hf⟩ := q_bd hf
        refine v_callV C0 cokX4_tight rfl (rest := [.ref (q_ref σ a0 0)]) (ctX2_kindOf (q_ref σ a0 0) r2 k0 e3) calX2_kindOf lkX4_92 inX2_kindOf dnX2_kindOf (ci := 2) ⟨rfl, by decide⟩ k0 rfl rfl ⟨by decide, by decide⟩ (Nat.le_of_ble_eq_true rfl) (Nat.le_refl _) (Nat.le_refl _) ?_
        refine v_run C0 tbX4 cokX4_tight (pc' := 53) (lv' := [(3, .int r2), (0, .ref a0), (1, .int x1), (2, .int x2)]) (st' := [.int r2, .ref (q_ref σ (q_ref σ a0 0) 1), .ref r3, .ref (q_ref σ a0 0)]) (h' := h) 4 rfl ⟨⟨ta0, q_tn k0⟩, ⟨k0, q_tn k2⟩, trivial⟩ ?_
        obtain ⟨r4, e4, hf⟩ := q_bd hf
        refine v_callS C0 cokX4_tight rfl (rest := [.ref r3, .ref (q_ref σ a0 0)]) (ctX4_at (q_ref σ (q_ref σ a0 0) 1) r2 k2 e4) calX4_at lkX4_105 inX4_at dnX4_at rfl rfl ⟨by decide, by decide⟩ (Nat.le_of_ble_eq_true rfl) (Nat.le_refl _) (Nat.le_refl _) ?_
        refine v_run C0 tbX4 cokX4_tight (pc' := 64) (lv' := [(3, .int r2), (0, .ref a0), (1, .int x1), (2, .int x2)]) (st' := [.int x2, .ref (q_ref σ (q_ref σ a0 0) 4), .int r4, .ref r3, .ref (q_ref σ a0 0)]) (h' := h) 4 rfl ⟨⟨ta0, q_tn k0⟩, ⟨k0, q_tn k3⟩, trivial⟩ ?_
        obtain ⟨r5, e5, hf⟩ := q_bd hf
        refine v_callS C0 cokX4_tight rfl (rest := [.int r4, .ref r3, .ref (q_ref σ a0 0)]) (ctX4_at (q_ref σ (q_ref σ a0 0) 4) x2 k3 e5) calX4_at lkX4_105 inX4_at dnX4_at rfl rfl ⟨by decide, by decide⟩ (Nat.le_of_ble_eq_true rfl) (Nat.le_refl _) (Nat.le_refl _) ?_
        refine v_run C0 tbX4 cokX4_tight (pc' := 69) (lv' := [(3, .int r2), (0, .ref a0), (1, .int x1), (2, .int x2)]) (st' := [.int (r5 + (1 : Int32)), .int r4, .ref r3, .ref (q_ref σ a0 0)]) (h' := h) 2 rfl trivial ?_
        obtain ⟨g6, hf⟩ := q_gu_o hf
        obtain ⟨r7, e7, hf⟩ := q_bd hf
        refine v_callV C0 cokX4_tight rfl (rest := []) (ctX2_reaches (q_ref σ a0 0) r3 r4 (r5 + (1 : Int32)) k0 g6 e7) calX2_reaches lkX4_278 inX2_reaches dnX2_reaches (ci := 2) ⟨rfl, by decide⟩ k0 rfl rfl ⟨by decide, by decide⟩ (Nat.le_of_ble_eq_true rfl) (Nat.le_refl _) (Nat.le_refl _) ?_
        refine v_if_ne C0 cokX4_tight rfl 79 (by decide) hf (fun _ hf => ?_) (fun _ hf => ?_)
        · refine v_run C0 tbX4 cokX4_tight (pc' := 80) (lv' := [(3, .int r2), (0, .ref a0), (1, .int x1), (2, .int x2)]) (st' := [.int (1 : Int32)]) (h' := h) 2 rfl trivial ?_
          refine v_pick [1, 2, 3] rfl ?_
          exact n80 x1 x2 (1 : Int32) hf
        · refine v_pick [1, 2, 3] rfl ?_
          exact n79 x1 x2 hf
  refine v_run C0 tbX4 cokX4_tight (pc' := 4) (lv' := [(2, .int (0 : Int32)), (1, .int (0 : Int32)), (0, .ref a0)]) (st' := []) (h' := h) 4 rfl trivial ?_
  obtain ⟨o1, eo1, hf⟩ := q_bd hf
  refine v_pick [2, 1, 0] rfl ?_
  refine n4 o1 ((0 : Int32), (0 : Int32)) eo1 ?_
  refine v_run C0 tbX4 cokX4_tight (pc' := 104) (lv' := [(1, .int o1)]) (st' := [.int o1]) (h' := h) 1 rfl trivial ?_
  obtain rfl := Option.some.inj hf
  exact v_iret C0 cokX4_tight hr hlk rfl
-- BackByNoonOnMonday.pairRefusal(LBackByNoonOnMonday$Shelf;)I
noncomputable def fX4_pairRefusal (σ : q_St) (h : q_Hp) (a0 : Nat) : Option Int32 := ((fX1_refusal σ h a0 (2 : Int32)).bind fun r1 => (if r1 = 0 then (if ((q_int h a0 4) - (q_int h a0 4) / (2 : Int32) * (2 : Int32)) = 0 then (if (q_int h a0 4) ≤ (14 : Int32) then some (0 : Int32) else some (-13 : Int32)) else some (-13 : Int32)) else some r1))
def cdX4_pairRefusal : q_Cd := [(0, .aload_n 0), (1, .iconst 2), (2, .invokevirtual 152), (5, .istore_n 1), (6, .iload_n 1), (7, .ifCond .eq 5), (10, .iload_n 1), (11, .ireturn), (12, .aload_n 0), (13, .getfield 292), (16, .iconst 2), (17, .irem), (18, .ifCond .ne 12), (21, .aload_n 0), (22, .getfield 292), (25, .bipush 14), (27, .if_icmp .le 8), (30, .bipush (-13)), (32, .goto 4), (35, .iconst 0), (36, .ireturn)]
set_option maxRecDepth 100000 in
theorem cokX4_pairRefusal : q_cok cX4_pairRefusal cdX4_pairRefusal := by unfold q_cok; decide +kernel
set_option maxRecDepth 100000 in
set_option maxHeartbeats 4000000 in
theorem ctX4_pairRefusal {l : Launch} {D : va_G} {cy : Nat → Nat} {b0 : Nat} {σ : q_St} {h : q_Hp} (a0 : Nat) {r : Int32} (ta0 : q_tag σ a0 = 2) (hf : fX4_pairRefusal σ h a0 = some r) : q_M l yX4_pairRefusal cX4_pairRefusal 2 (some .int) 1 21 0 0 D cy b0 σ h [.ref a0] (some (.int r)) σ h := by
  unfold fX4_pairRefusal at hf
  refine q_enter (by decide) (Nat.le_of_ble_eq_true rfl) ?_
  intro p e s m args below meth c C0 hr hlk hnm
  replace C0 : VC p { frames := 1, cells := 0, slots := 0, locals := 21 } s m args meth c D cy b0 2 0 0 RX4 cX4_pairRefusal := C0
  refine v_run C0 tbX4 cokX4_pairRefusal (pc' := 2) (lv' := [(0, .ref a0)]) (st' := [.int (2 : Int32), .ref a0]) (h' := h) 2 rfl trivial ?_
  obtain ⟨r1, e1, hf⟩ := q_bd hf
  refine v_callV C0 cokX4_pairRefusal rfl (rest := []) (ctX1_refusal a0 (2 : Int32) ta0 e1) calX1_refusal lkX4_152 inX1_refusal dnX1_refusal (ci := 1) ⟨rfl, by decide⟩ ta0 rfl rfl ⟨by decide, by decide⟩ (Nat.le_of_ble_eq_true rfl) (Nat.le_refl _) (Nat.le_refl _) ?_
  refine v_run C0 tbX4 cokX4_pairRefusal (pc' := 7) (lv' := [(1, .int r1), (0, .ref a0)]) (st' := [.int r1]) (h' := h) 2 rfl trivial ?_
  refine v_if_eq C0 cokX4_pairRefusal rfl 12 (by decide) hf (fun _ hf => ?_) (fun _ hf => ?_)
  · refine v_run C0 tbX4 cokX4_pairRefusal (pc' := 18) (lv' := [(1, .int r1), (0, .ref a0)]) (st' := [.int ((q_int h a0 4) - (q_int h a0 4) / (2 : Int32) * (2 : Int32))]) (h' := h) 4 rfl ⟨ta0, (by decide), trivial⟩ ?_
    refine v_if_ne C0 cokX4_pairRefusal rfl 30 (by decide) hf (fun _ hf => ?_) (fun _ hf => ?_)
    · refine v_run C0 tbX4 cokX4_pairRefusal (pc' := 27) (lv' := [(1, .int r1), (0, .ref a0)]) (st' := [.int (14 : Int32), .int (q_int h a0 4)]) (h' := h) 3 rfl ⟨ta0, trivial⟩ ?_
      refine v_icmp_le C0 cokX4_pairRefusal rfl 35 (by decide) hf (fun _ hf => ?_) (fun _ hf => ?_)
      · refine v_run C0 tbX4 cokX4_pairRefusal (pc' := 36) (lv' := [(1, .int r1), (0, .ref a0)]) (st' := [.int (0 : Int32)]) (h' := h) 1 rfl trivial ?_
        obtain rfl := Option.some.inj hf
        exact v_iret C0 cokX4_pairRefusal hr hlk rfl
      · refine v_run C0 tbX4 cokX4_pairRefusal (pc' := 36) (lv' := [(1, .int r1), (0, .ref a0)]) (st' := [.int (-13 : Int32)]) (h' := h) 2 rfl trivial ?_
        obtain rfl := Option.some.inj hf
        exact v_iret C0 cokX4_pairRefusal hr hlk rfl
    · refine v_run C0 tbX4 cokX4_pairRefusal (pc' := 36) (lv' := [(1, .int r1), (0, .ref a0)]) (st' := [.int (-13 : Int32)]) (h' := h) 2 rfl trivial ?_
      obtain rfl := Option.some.inj hf
      exact v_iret C0 cokX4_pairRefusal hr hlk rfl
  · refine v_run C0 tbX4 cokX4_pairRefusal (pc' := 11) (lv' := [(1, .int r1), (0, .ref a0)]) (st' := [.int r1]) (h' := h) 1 rfl trivial ?_
    obtain rfl := Option.some.inj hf
    exact v_iret C0 cokX4_pairRefusal hr hlk rfl
-- BackByNoonOnMonday.firstForged(LBackByNoonOnMonday$Shelf;)I
noncomputable def fX4_firstForged_2 (σ : q_St) (h : q_Hp) (a0 : Nat) (a1 : Nat) (x2 : Int32) : Option (Int32 ⊕ (Unit ⊕ Int32)) := (if (q_int h a1 4) ≤ (x2 + (1 : Int32)) then some (Sum.inr (Sum.inl ())) else ((fX4_at σ h (q_ref σ a1 0) x2).bind fun r3 => ((fX4_at σ h (q_ref σ a1 0) (x2 + (1 : Int32))).bind fun r4 => ((fX2_isSuit σ h (q_ref σ a0 0) r3).bind fun r5 => (if r5 = 0 then some (Sum.inr (Sum.inr (x2 / (2 : Int32)))) else ((fX2_isBooking σ h (q_ref σ a0 0) r4).bind fun r6 => (if r6 = 0 then some (Sum.inr (Sum.inr (x2 / (2 : Int32)))) else ((fX2_isRightFor σ h (q_ref σ a0 0) r3 r4).bind fun r7 => (if r7 = 0 then some (Sum.inr (Sum.inr (x2 / (2 : Int32)))) else some (Sum.inl (x2 + (2 : Int32))))))))))))
noncomputable def fX4_firstForged (σ : q_St) (h : q_Hp) (a0 : Nat) (a1 : Nat) : Option Int32 := q_gu ((q_tag σ (q_ref σ a1 0) = 7) ∧ (q_tag σ (q_ref σ a0 0) = 3)) ((q_loop (fun s => fX4_firstForged_2 σ h a0 a1 s) q_N (0 : Int32)).bind fun o1 => q_el o1 fun w2 => some (-4 : Int32))
def cdX4_firstForged : q_Cd := [(0, .iconst 0), (1, .istore_n 2), (2, .iload_n 2), (3, .iconst 1), (4, .iadd), (5, .aload_n 1), (6, .getfield 292), (9, .if_icmp .ge 70), (12, .aload_n 1), (13, .getfield 295), (16, .iload_n 2), (17, .invokestatic 105), (20, .istore_n 3), (21, .aload_n 1), (22, .getfield 295), (25, .iload_n 2), (26, .iconst 1), (27, .iadd), (28, .invokestatic 105), (31, .istore 4), (33, .aload_n 0), (34, .getfield 12), (37, .iload_n 3), (38, .invokevirtual 89), (41, .ifCond .eq 28), (44, .aload_n 0), (45, .getfield 12), (48, .iload 4), (50, .invokevirtual 127), (53, .ifCond .eq 16), (56, .aload_n 0), (57, .getfield 12), (60, .iload_n 3), (61, .iload 4), (63, .invokevirtual 177), (66, .ifCond .ne 7), (69, .iload_n 2), (70, .iconst 2), (71, .idiv), (72, .ireturn), (73, .iinc 2 2), (76, .goto (-74)), (79, .bipush (-4)), (81, .ireturn)]
set_option maxRecDepth 100000 in
theorem cokX4_firstForged : q_cok cX4_firstForged cdX4_firstForged := by unfold q_cok; decide +kernel
set_option maxRecDepth 100000 in
set_option maxHeartbeats 4000000 in
theorem ctX4_firstForged {l : Launch} {D : va_G} {cy : Nat → Nat} {b0 : Nat} {σ : q_St} {h : q_Hp} (a0 : Nat) (a1 : Nat) {r : Int32} (ta0 : q_tag σ a0 = 5) (ta1 : q_tag σ a1 = 2) (hf : fX4_firstForged σ h a0 a1 = some r) : q_M l yX4_firstForged cX4_firstForged 5 (some .int) 2 45 0 0 D cy b0 σ h [.ref a0, .ref a1] (some (.int r)) σ h := by
  unfold fX4_firstForged at hf
  obtain ⟨⟨k0, k1⟩, hf⟩ := q_gu_o hf
  refine q_enter (by decide) (Nat.le_of_ble_eq_true rfl) ?_
  intro p e s m args below meth c C0 hr hlk hnm
  replace C0 : VC p { frames := 2, cells := 0, slots := 0, locals := 45 } s m args meth c D cy b0 5 0 0 RX4 cX4_firstForged := C0
  have n2 : ∀ (o : (Unit ⊕ Int32)) (s1 : Int32), q_loop (fun s => fX4_firstForged_2 σ h a0 a1 s) q_N s1 = some o → (∀ w0 : Unit, Sum.inl w0 = o → V p l e { frames := 2, cells := 0, slots := 0, locals := 45 } s m args below meth c (MQ below (q_Qc D cy b0 (some (.int r)) σ h) args s 0 0 (fun q => b0 ≤ q)) D cy b0 5 0 0 0 0 σ h 79 [] []) → (∀ r0 : Int32, Sum.inr r0 = o → (some r0 : Option Int32) = some r) → V p l e { frames := 2, cells := 0, slots := 0, locals := 45 } s m args below meth c (MQ below (q_Qc D cy b0 (some (.int r)) σ h) args s 0 0 (fun q => b0 ≤ q)) D cy b0 5 0 0 0 0 σ h 2 [(0, .ref a0), (1, .ref a1), (2, .int s1)] [] := by
    intro o s1 ho kx1 ke1
    refine q_loop_V (P := fun s0 => V p l e { frames := 2, cells := 0, slots := 0, locals := 45 } s m args below meth c (MQ below (q_Qc D cy b0 (some (.int r)) σ h) args s 0 0 (fun q => b0 ≤ q)) D cy b0 5 0 0 0 0 σ h 2 [(0, .ref a0), (1, .ref a1), (2, .int s0)] []) (o := o) ?_ q_N s1 ho
    intro x2 z1 hf kb1 kr1
    replace hf : fX4_firstForged_2 σ h a0 a1 x2 = some z1 := hf
    unfold fX4_firstForged_2 at hf
    show V p l e { frames := 2, cells := 0, slots := 0, locals := 45 } s m args below meth c (MQ below (q_Qc D cy b0 (some (.int r)) σ h) args s 0 0 (fun q => b0 ≤ q)) D cy b0 5 0 0 0 0 σ h 2 [(0, .ref a0), (1, .ref a1), (2, .int x2)] []
    refine v_run C0 tbX4 cokX4_firstForged (pc' := 9) (lv' := [(0, .ref a0), (1, .ref a1), (2, .int x2)]) (st' := [.int (q_int h a1 4), .int (x2 + (1 : Int32))]) (h' := h) 5 rfl ⟨ta1, trivial⟩ ?_
    refine v_icmp_ge C0 cokX4_firstForged rfl 79 (by decide) hf (fun _ hf => ?_) (fun _ hf => ?_)
    · obtain rfl := Option.some.inj hf
      refine v_pick [] rfl ?_
      exact kx1 _ (kr1 _ rfl)
    · refine v_run C0 tbX4 cokX4_firstForged (pc' := 17) (lv' := [(0, .ref a0), (1, .ref a1), (2, .int x2)]) (st' := [.int x2, .ref (q_ref σ a1 0)]) (h' := h) 3 rfl ⟨⟨ta1, q_tn k0⟩, trivial⟩ ?_
      obtain ⟨r3, e3, hf⟩ := q_bd hf
      refine v_callS C0 cokX4_firstForged rfl (rest := []) (ctX4_at (q_ref σ a1 0) x2 k0 e3) calX4_at lkX4_105 inX4_at dnX4_at rfl rfl ⟨by decide, by decide⟩ (Nat.le_of_ble_eq_true rfl) (Nat.le_refl _) (Nat.le_refl _) ?_
      refine v_run C0 tbX4 cokX4_firstForged (pc' := 28) (lv' := [(3, .int r3), (0, .ref a0), (1, .ref a1), (2, .int x2)]) (st' := [.int (x2 + (1 : Int32)), .ref (q_ref σ a1 0)]) (h' := h) 6 rfl ⟨⟨ta1, q_tn k0⟩, trivial⟩ ?_
      obtain ⟨r4, e4, hf⟩ := q_bd hf
      refine v_callS C0 cokX4_firstForged rfl (rest := []) (ctX4_at (q_ref σ a1 0) (x2 + (1 : Int32)) k0 e4) calX4_at lkX4_105 inX4_at dnX4_at rfl rfl ⟨by decide, by decide⟩ (Nat.le_of_ble_eq_true rfl) (Nat.le_refl _) (Nat.le_refl _) ?_
      refine v_run C0 tbX4 cokX4_firstForged (pc' := 38) (lv' := [(4, .int r4), (3, .int r3), (0, .ref a0), (1, .ref a1), (2, .int x2)]) (st' := [.int r3, .ref (q_ref σ a0 0)]) (h' := h) 4 rfl ⟨⟨ta0, q_tn k1⟩, trivial⟩ ?_
      obtain ⟨r5, e5, hf⟩ := q_bd hf
      refine v_callV C0 cokX4_firstForged rfl (rest := []) (ctX2_isSuit (q_ref σ a0 0) r3 k1 e5) calX2_isSuit lkX4_89 inX2_isSuit dnX2_isSuit (ci := 2) ⟨rfl, by decide⟩ k1 rfl rfl ⟨by decide, by decide⟩ (Nat.le_of_ble_eq_true rfl) (Nat.le_refl _) (Nat.le_refl _) ?_
      refine v_if_eq C0 cokX4_firstForged rfl 69 (by decide) hf (fun _ hf => ?_) (fun _ hf => ?_)
      · refine v_run C0 tbX4 cokX4_firstForged (pc' := 72) (lv' := [(4, .int r4), (3, .int r3), (0, .ref a0), (1, .ref a1), (2, .int x2)]) (st' := [.int (x2 / (2 : Int32))]) (h' := h) 3 rfl ⟨(by decide), trivial⟩ ?_
        obtain rfl := Option.some.inj hf
        have hf := ke1 _ (kr1 _ rfl)
        obtain rfl := Option.some.inj hf
        exact v_iret C0 cokX4_firstForged hr hlk rfl
      · refine v_run C0 tbX4 cokX4_firstForged (pc' := 50) (lv' := [(4, .int r4), (3, .int r3), (0, .ref a0), (1, .ref a1), (2, .int x2)]) (st' := [.int r4, .ref (q_ref σ a0 0)]) (h' := h) 3 rfl ⟨⟨ta0, q_tn k1⟩, trivial⟩ ?_
        obtain ⟨r6, e6, hf⟩ := q_bd hf
        refine v_callV C0 cokX4_firstForged rfl (rest := []) (ctX2_isBooking (q_ref σ a0 0) r4 k1 e6) calX2_isBooking lkX4_127 inX2_isBooking dnX2_isBooking (ci := 2) ⟨rfl, by decide⟩ k1 rfl rfl ⟨by decide, by decide⟩ (Nat.le_of_ble_eq_true rfl) (Nat.le_refl _) (Nat.le_refl _) ?_
        refine v_if_eq C0 cokX4_firstForged rfl 69 (by decide) hf (fun _ hf => ?_) (fun _ hf => ?_)
        · refine v_run C0 tbX4 cokX4_firstForged (pc' := 72) (lv' := [(4, .int r4), (3, .int r3), (0, .ref a0), (1, .ref a1), (2, .int x2)]) (st' := [.int (x2 / (2 : Int32))]) (h' := h) 3 rfl ⟨(by decide), trivial⟩ ?_
          obtain rfl := Option.some.inj hf
          have hf := ke1 _ (kr1 _ rfl)
          obtain rfl := Option.some.inj hf
          exact v_iret C0 cokX4_firstForged hr hlk rfl
        · refine v_run C0 tbX4 cokX4_firstForged (pc' := 63) (lv' := [(4, .int r4), (3, .int r3), (0, .ref a0), (1, .ref a1), (2, .int x2)]) (st' := [.int r4, .int r3, .ref (q_ref σ a0 0)]) (h' := h) 4 rfl ⟨⟨ta0, q_tn k1⟩, trivial⟩ ?_
          obtain ⟨r7, e7, hf⟩ := q_bd hf
          refine v_callV C0 cokX4_firstForged rfl (rest := []) (ctX2_isRightFor (q_ref σ a0 0) r3 r4 k1 e7) calX2_isRightFor lkX4_177 inX2_isRightFor dnX2_isRightFor (ci := 2) ⟨rfl, by decide⟩ k1 rfl rfl ⟨by decide, by decide⟩ (Nat.le_of_ble_eq_true rfl) (Nat.le_refl _) (Nat.le_refl _) ?_
          refine v_if_ne C0 cokX4_firstForged rfl 73 (by decide) hf (fun _ hf => ?_) (fun _ hf => ?_)
          · refine v_run C0 tbX4 cokX4_firstForged (pc' := 72) (lv' := [(4, .int r4), (3, .int r3), (0, .ref a0), (1, .ref a1), (2, .int x2)]) (st' := [.int (x2 / (2 : Int32))]) (h' := h) 3 rfl ⟨(by decide), trivial⟩ ?_
            obtain rfl := Option.some.inj hf
            have hf := ke1 _ (kr1 _ rfl)
            obtain rfl := Option.some.inj hf
            exact v_iret C0 cokX4_firstForged hr hlk rfl
          · refine v_run C0 tbX4 cokX4_firstForged (pc' := 2) (lv' := [(2, .int (x2 + (2 : Int32))), (4, .int r4), (3, .int r3), (0, .ref a0), (1, .ref a1)]) (st' := []) (h' := h) 2 rfl trivial ?_
            obtain rfl := Option.some.inj hf
            refine v_pick [3, 4, 0] rfl ?_
            exact kb1 _ rfl
  refine v_run C0 tbX4 cokX4_firstForged (pc' := 2) (lv' := [(2, .int (0 : Int32)), (0, .ref a0), (1, .ref a1)]) (st' := []) (h' := h) 2 rfl trivial ?_
  obtain ⟨o1, eo1, hf⟩ := q_bd hf
  refine v_pick [1, 2, 0] rfl ?_
  refine n2 o1 (0 : Int32) eo1 (fun w2 hx => ?_) (fun r0 hx => ?_)
  · rw [← hx] at hf
    replace hf := q_el_l hf
    refine v_run C0 tbX4 cokX4_firstForged (pc' := 81) (lv' := []) (st' := [.int (-4 : Int32)]) (h' := h) 1 rfl trivial ?_
    obtain rfl := Option.some.inj hf
    exact v_iret C0 cokX4_firstForged hr hlk rfl
  · rw [← hx] at hf
    exact hf
-- BackByNoonOnMonday.suitsHad(LBackByNoonOnMonday$Shelf;I)I
noncomputable def fX4_suitsHad_43 (σ : q_St) (h : q_Hp) (a0 : Nat) (x1 : Int32) (x3 : Int32) (s0 : Int32) (s1 : Int32) : Option ((Int32 × Int32) ⊕ Int32) := some (Sum.inl ((s1 ||| s0), (x3 + (2 : Int32))))
noncomputable def fX4_suitsHad_4 (σ : q_St) (h : q_Hp) (a0 : Nat) (x1 : Int32) (x2 : Int32) (x3 : Int32) : Option ((Int32 × Int32) ⊕ Int32) := (if (q_int h a0 4) ≤ (x3 + (1 : Int32)) then some (Sum.inr x2) else ((fX4_at σ h (q_ref σ a0 0) (x3 + (1 : Int32))).bind fun r2 => (if r2 = x1 then ((fX4_at σ h (q_ref σ a0 0) x3).bind fun r3 => fX4_suitsHad_43 σ h a0 x1 x3 ((1 : Int32) <<< (r3 &&& 31)) x2) else fX4_suitsHad_43 σ h a0 x1 x3 (0 : Int32) x2)))
noncomputable def fX4_suitsHad (σ : q_St) (h : q_Hp) (a0 : Nat) (x1 : Int32) : Option Int32 := q_gu ((q_tag σ (q_ref σ a0 0) = 7)) ((q_loop (fun s => fX4_suitsHad_4 σ h a0 x1 s.1 s.2) q_N ((0 : Int32), (0 : Int32))).bind fun o1 => some o1)
def cdX4_suitsHad : q_Cd := [(0, .iconst 0), (1, .istore_n 2), (2, .iconst 0), (3, .istore_n 3), (4, .iload_n 3), (5, .iconst 1), (6, .iadd), (7, .aload_n 0), (8, .getfield 292), (11, .if_icmp .ge 40), (14, .iload_n 2), (15, .aload_n 0), (16, .getfield 295), (19, .iload_n 3), (20, .iconst 1), (21, .iadd), (22, .invokestatic 105), (25, .iload_n 1), (26, .if_icmp .ne 16), (29, .iconst 1), (30, .aload_n 0), (31, .getfield 295), (34, .iload_n 3), (35, .invokestatic 105), (38, .ishl), (39, .goto 4), (42, .iconst 0), (43, .ior), (44, .istore_n 2), (45, .iinc 3 2), (48, .goto (-44)), (51, .iload_n 2), (52, .ireturn)]
set_option maxRecDepth 100000 in
theorem cokX4_suitsHad : q_cok cX4_suitsHad cdX4_suitsHad := by unfold q_cok; decide +kernel
set_option maxRecDepth 100000 in
set_option maxHeartbeats 4000000 in
theorem ctX4_suitsHad {l : Launch} {D : va_G} {cy : Nat → Nat} {b0 : Nat} {σ : q_St} {h : q_Hp} (a0 : Nat) (x1 : Int32) {r : Int32} (ta0 : q_tag σ a0 = 2) (hf : fX4_suitsHad σ h a0 x1 = some r) : q_M l yX4_suitsHad cX4_suitsHad 4 (some .int) 1 21 0 0 D cy b0 σ h [.ref a0, .int x1] (some (.int r)) σ h := by
  unfold fX4_suitsHad at hf
  obtain ⟨k0, hf⟩ := q_gu_o hf
  refine q_enter (by decide) (Nat.le_of_ble_eq_true rfl) ?_
  intro p e s m args below meth c C0 hr hlk hnm
  replace C0 : VC p { frames := 1, cells := 0, slots := 0, locals := 21 } s m args meth c D cy b0 4 0 0 RX4 cX4_suitsHad := C0
  have n4 : ∀ (o : Int32) (s1 : (Int32 × Int32)), q_loop (fun s => fX4_suitsHad_4 σ h a0 x1 s.1 s.2) q_N s1 = some o → V p l e { frames := 1, cells := 0, slots := 0, locals := 21 } s m args below meth c (MQ below (q_Qc D cy b0 (some (.int r)) σ h) args s 0 0 (fun q => b0 ≤ q)) D cy b0 4 0 0 0 0 σ h 51 [(2, .int o)] [] → V p l e { frames := 1, cells := 0, slots := 0, locals := 21 } s m args below meth c (MQ below (q_Qc D cy b0 (some (.int r)) σ h) args s 0 0 (fun q => b0 ≤ q)) D cy b0 4 0 0 0 0 σ h 4 [(0, .ref a0), (1, .int x1), (2, .int s1.1), (3, .int s1.2)] [] := by
    intro o s1 ho kx1
    refine q_loop_V (P := fun s0 => V p l e { frames := 1, cells := 0, slots := 0, locals := 21 } s m args below meth c (MQ below (q_Qc D cy b0 (some (.int r)) σ h) args s 0 0 (fun q => b0 ≤ q)) D cy b0 4 0 0 0 0 σ h 4 [(0, .ref a0), (1, .int x1), (2, .int s0.1), (3, .int s0.2)] []) (o := o) ?_ q_N s1 ho
    intro s2 z1 hf kb1 kr1
    obtain ⟨x2, x3⟩ := s2
    replace hf : fX4_suitsHad_4 σ h a0 x1 x2 x3 = some z1 := hf
    unfold fX4_suitsHad_4 at hf
    show V p l e { frames := 1, cells := 0, slots := 0, locals := 21 } s m args below meth c (MQ below (q_Qc D cy b0 (some (.int r)) σ h) args s 0 0 (fun q => b0 ≤ q)) D cy b0 4 0 0 0 0 σ h 4 [(0, .ref a0), (1, .int x1), (2, .int x2), (3, .int x3)] []
    have n43 : ∀ (x3 : Int32) (s0 : Int32) (s1 : Int32), fX4_suitsHad_43 σ h a0 x1 x3 s0 s1 = some z1 → V p l e { frames := 1, cells := 0, slots := 0, locals := 21 } s m args below meth c (MQ below (q_Qc D cy b0 (some (.int r)) σ h) args s 0 0 (fun q => b0 ≤ q)) D cy b0 4 0 0 0 0 σ h 43 [(0, .ref a0), (1, .int x1), (3, .int x3)] [.int s0, .int s1] := by
      intro x3 s0 s1 hf
      unfold fX4_suitsHad_43 at hf
      refine v_run C0 tbX4 cokX4_suitsHad (pc' := 4) (lv' := [(3, .int (x3 + (2 : Int32))), (2, .int (s1 ||| s0)), (0, .ref a0), (1, .int x1)]) (st' := []) (h' := h) 4 rfl trivial ?_
      obtain rfl := Option.some.inj hf
      refine v_pick [2, 3, 1, 0] rfl ?_
      exact kb1 _ rfl
    refine v_run C0 tbX4 cokX4_suitsHad (pc' := 11) (lv' := [(0, .ref a0), (1, .int x1), (2, .int x2), (3, .int x3)]) (st' := [.int (q_int h a0 4), .int (x3 + (1 : Int32))]) (h' := h) 5 rfl ⟨ta0, trivial⟩ ?_
    refine v_icmp_ge C0 cokX4_suitsHad rfl 51 (by decide) hf (fun _ hf => ?_) (fun _ hf => ?_)
    · obtain rfl := Option.some.inj hf
      refine v_pick [2] rfl ?_
      have hx := kr1 _ rfl
      subst hx
      exact kx1
    · refine v_run C0 tbX4 cokX4_suitsHad (pc' := 22) (lv' := [(0, .ref a0), (1, .int x1), (2, .int x2), (3, .int x3)]) (st' := [.int (x3 + (1 : Int32)), .ref (q_ref σ a0 0), .int x2]) (h' := h) 6 rfl ⟨⟨ta0, q_tn k0⟩, trivial⟩ ?_
      obtain ⟨r2, e2, hf⟩ := q_bd hf
      refine v_callS C0 cokX4_suitsHad rfl (rest := [.int x2]) (ctX4_at (q_ref σ a0 0) (x3 + (1 : Int32)) k0 e2) calX4_at lkX4_105 inX4_at dnX4_at rfl rfl ⟨by decide, by decide⟩ (Nat.le_of_ble_eq_true rfl) (Nat.le_refl _) (Nat.le_refl _) ?_
      refine v_run C0 tbX4 cokX4_suitsHad (pc' := 26) (lv' := [(0, .ref a0), (1, .int x1), (2, .int x2), (3, .int x3)]) (st' := [.int x1, .int r2, .int x2]) (h' := h) 1 rfl trivial ?_
      refine v_icmp_ne C0 cokX4_suitsHad rfl 42 (by decide) hf (fun _ hf => ?_) (fun _ hf => ?_)
      · refine v_run C0 tbX4 cokX4_suitsHad (pc' := 35) (lv' := [(0, .ref a0), (1, .int x1), (2, .int x2), (3, .int x3)]) (st' := [.int x3, .ref (q_ref σ a0 0), .int (1 : Int32), .int x2]) (h' := h) 4 rfl ⟨⟨ta0, q_tn k0⟩, trivial⟩ ?_
        obtain ⟨r3, e3, hf⟩ := q_bd hf
        refine v_callS C0 cokX4_suitsHad rfl (rest := [.int (1 : Int32), .int x2]) (ctX4_at (q_ref σ a0 0) x3 k0 e3) calX4_at lkX4_105 inX4_at dnX4_at rfl rfl ⟨by decide, by decide⟩ (Nat.le_of_ble_eq_true rfl) (Nat.le_refl _) (Nat.le_refl _) ?_
        refine v_run C0 tbX4 cokX4_suitsHad (pc' := 43) (lv' := [(0, .ref a0), (1, .int x1), (2, .int x2), (3, .int x3)]) (st' := [.int ((1 : Int32) <<< (r3 &&& 31)), .int x2]) (h' := h) 2 rfl trivial ?_
        refine v_pick [0, 1, 3] rfl ?_
        exact n43 x3 ((1 : Int32) <<< (r3 &&& 31)) x2 hf
      · refine v_run C0 tbX4 cokX4_suitsHad (pc' := 43) (lv' := [(0, .ref a0), (1, .int x1), (2, .int x2), (3, .int x3)]) (st' := [.int (0 : Int32), .int x2]) (h' := h) 1 rfl trivial ?_
        refine v_pick [0, 1, 3] rfl ?_
        exact n43 x3 (0 : Int32) x2 hf
  refine v_run C0 tbX4 cokX4_suitsHad (pc' := 4) (lv' := [(3, .int (0 : Int32)), (2, .int (0 : Int32)), (0, .ref a0), (1, .int x1)]) (st' := []) (h' := h) 4 rfl trivial ?_
  obtain ⟨o1, eo1, hf⟩ := q_bd hf
  refine v_pick [2, 3, 1, 0] rfl ?_
  refine n4 o1 ((0 : Int32), (0 : Int32)) eo1 ?_
  refine v_run C0 tbX4 cokX4_suitsHad (pc' := 52) (lv' := [(2, .int o1)]) (st' := [.int o1]) (h' := h) 1 rfl trivial ?_
  obtain rfl := Option.some.inj hf
  exact v_iret C0 cokX4_suitsHad hr hlk rfl
-- BackByNoonOnMonday.stained(III)I
noncomputable def fX4_stained_117 (σ : q_St) (h : q_Hp) (a0 : Nat) (x1 : Int32) (x2 : Int32) (x3 : Int32) (a4 : Nat) (x6 : Int32) (x7 : Int32) (x8 : Int32) : Option ((Int32 × Int32 × Int32) ⊕ (Int32 × Int32)) := some (Sum.inl (x6, x7, (x8 + (1 : Int32))))
noncomputable def fX4_stained_112 (σ : q_St) (h : q_Hp) (a0 : Nat) (x1 : Int32) (x2 : Int32) (x3 : Int32) (a4 : Nat) (x6 : Int32) (x8 : Int32) (s0 : Int32) : Option ((Int32 × Int32 × Int32) ⊕ (Int32 × Int32)) := fX4_stained_117 σ h a0 x1 x2 x3 a4 (x6 + (1 : Int32)) s0 x8
noncomputable def fX4_stained_74 (σ : q_St) (h : q_Hp) (a0 : Nat) (x1 : Int32) (x2 : Int32) (x3 : Int32) (a4 : Nat) (x6 : Int32) (x7 : Int32) (x8 : Int32) : Option ((Int32 × Int32 × Int32) ⊕ (Int32 × Int32)) := (if (q_int h (q_ref σ a0 0) 12) ≤ x8 then some (Sum.inr (x6, x7)) else q_gu ((q_tag σ a4 = 2)) (((fX4_suitsHad σ h a4 x8).bind fun r10 => (if (x2 &&& (r10 ^^^ (-1 : Int32))) = 0 then (if x6 = 0 then fX4_stained_112 σ h a0 x1 x2 x3 a4 x6 x8 x8 else fX4_stained_112 σ h a0 x1 x2 x3 a4 x6 x8 x7) else fX4_stained_117 σ h a0 x1 x2 x3 a4 x6 x7 x8))))
noncomputable def fX4_stained (σ : q_St) (h : q_Hp) (a0 : Nat) (x1 : Int32) (x2 : Int32) (x3 : Int32) : Option Int32 := q_gu ((q_tag σ (q_ref σ a0 0) = 3)) (((fX4_isShelf σ h x1).bind fun r1 => (if r1 = 0 then some (-1 : Int32) else ((fX4_isIn σ h x2 (0 : Int32) (127 : Int32)).bind fun r2 => (if r2 = 0 then some (-1 : Int32) else ((fX4_isIn σ h x3 (0 : Int32) (1 : Int32)).bind fun r3 => (if r3 = 0 then some (-1 : Int32) else ((fX4_shelfAt σ h a0 x1).bind fun r4 => q_gu ((q_tag σ r4 = 2)) (((fX4_pairRefusal σ h r4).bind fun r6 => (if r6 = 0 then ((fX4_firstForged σ h a0 r4).bind fun r7 => (if r7 = (-4 : Int32) then (q_loop (fun s => fX4_stained_74 σ h a0 x1 x2 x3 r4 s.1 s.2.1 s.2.2) q_N ((0 : Int32), (-4 : Int32), (0 : Int32))).bind fun o8 => (if x3 = 0 then some o8.1 else some o8.2) else some (-13 : Int32))) else some r6)))))))))))
def cdX4_stained : q_Cd := [(0, .iload_n 1), (1, .invokestatic 67), (4, .ifCond .eq 22), (7, .iload_n 2), (8, .iconst 0), (9, .bipush 127), (11, .invokestatic 148), (14, .ifCond .eq 12), (17, .iload_n 3), (18, .iconst 0), (19, .iconst 1), (20, .invokestatic 148), (23, .ifCond .ne 5), (26, .iconst (-1)), (27, .ireturn), (28, .aload_n 0), (29, .iload_n 1), (30, .invokevirtual 71), (33, .astore 4), (35, .aload 4), (37, .invokestatic 282), (40, .istore 5), (42, .iload 5), (44, .ifCond .eq 6), (47, .iload 5), (49, .ireturn), (50, .aload_n 0), (51, .aload 4), (53, .invokevirtual 285), (56, .bipush (-4)), (58, .if_icmp .eq 6), (61, .bipush (-13)), (63, .ireturn), (64, .iconst 0), (65, .istore 6), (67, .bipush (-4)), (69, .istore 7), (71, .iconst 0), (72, .istore 8), (74, .iload 8), (76, .aload_n 0), (77, .getfield 12), (80, .getfield 181), (83, .if_icmp .ge 40), (86, .iload_n 2), (87, .aload 4), (89, .iload 8), (91, .invokestatic 288), (94, .iconst (-1)), (95, .ixor), (96, .iand), (97, .ifCond .ne 20), (100, .iload 6), (102, .ifCond .ne 8), (105, .iload 8), (107, .goto 5), (110, .iload 7), (112, .istore 7), (114, .iinc 6 1), (117, .iinc 8 1), (120, .goto (-46)), (123, .iload_n 3), (124, .ifCond .ne 8), (127, .iload 6), (129, .goto 5), (132, .iload 7), (134, .ireturn)]
set_option maxRecDepth 100000 in
theorem cokX4_stained : q_cok cX4_stained cdX4_stained := by unfold q_cok; decide +kernel
set_option maxRecDepth 100000 in
set_option maxHeartbeats 4000000 in
theorem ctX4_stained {l : Launch} {D : va_G} {cy : Nat → Nat} {b0 : Nat} {σ : q_St} {h : q_Hp} (a0 : Nat) (x1 : Int32) (x2 : Int32) (x3 : Int32) {r : Int32} (ta0 : q_tag σ a0 = 5) (hf : fX4_stained σ h a0 x1 x2 x3 = some r) : q_M l yX4_stained cX4_stained 9 (some .int) 3 69 0 0 D cy b0 σ h [.ref a0, .int x1, .int x2, .int x3] (some (.int r)) σ h := by
  unfold fX4_stained at hf
  obtain ⟨k0, hf⟩ := q_gu_o hf
  refine q_enter (by decide) (Nat.le_of_ble_eq_true rfl) ?_
  intro p e s m args below meth c C0 hr hlk hnm
  replace C0 : VC p { frames := 3, cells := 0, slots := 0, locals := 69 } s m args meth c D cy b0 9 0 0 RX4 cX4_stained := C0
  have n74 : ∀ (a4 : Nat) (o : (Int32 × Int32)) (s1 : (Int32 × Int32 × Int32)), q_loop (fun s => fX4_stained_74 σ h a0 x1 x2 x3 a4 s.1 s.2.1 s.2.2) q_N s1 = some o → V p l e { frames := 3, cells := 0, slots := 0, locals := 69 } s m args below meth c (MQ below (q_Qc D cy b0 (some (.int r)) σ h) args s 0 0 (fun q => b0 ≤ q)) D cy b0 9 0 0 0 0 σ h 123 [(3, .int x3), (6, .int o.1), (7, .int o.2)] [] → V p l e { frames := 3, cells := 0, slots := 0, locals := 69 } s m args below meth c (MQ below (q_Qc D cy b0 (some (.int r)) σ h) args s 0 0 (fun q => b0 ≤ q)) D cy b0 9 0 0 0 0 σ h 74 [(0, .ref a0), (2, .int x2), (3, .int x3), (4, .ref a4), (6, .int s1.1), (7, .int s1.2.1), (8, .int s1.2.2)] [] := by
    intro a4 o s1 ho kx1
    refine q_loop_V (P := fun s0 => V p l e { frames := 3, cells := 0, slots := 0, locals := 69 } s m args below meth c (MQ below (q_Qc D cy b0 (some (.int r)) σ h) args s 0 0 (fun q => b0 ≤ q)) D cy b0 9 0 0 0 0 σ h 74 [(0, .ref a0), (2, .int x2), (3, .int x3), (4, .ref a4), (6, .int s0.1), (7, .int s0.2.1), (8, .int s0.2.2)] []) (o := o) ?_ q_N s1 ho
    intro s2 z1 hf kb1 kr1
    obtain ⟨x6, x7, x8⟩ := s2
    replace hf : fX4_stained_74 σ h a0 x1 x2 x3 a4 x6 x7 x8 = some z1 := hf
    unfold fX4_stained_74 at hf
    show V p l e { frames := 3, cells := 0, slots := 0, locals := 69 } s m args below meth c (MQ below (q_Qc D cy b0 (some (.int r)) σ h) args s 0 0 (fun q => b0 ≤ q)) D cy b0 9 0 0 0 0 σ h 74 [(0, .ref a0), (2, .int x2), (3, .int x3), (4, .ref a4), (6, .int x6), (7, .int x7), (8, .int x8)] []
    have n117 : ∀ (x6 : Int32) (x7 : Int32) (x8 : Int32), fX4_stained_117 σ h a0 x1 x2 x3 a4 x6 x7 x8 = some z1 → V p l e { frames := 3, cells := 0, slots := 0, locals := 69 } s m args below meth c (MQ below (q_Qc D cy b0 (some (.int r)) σ h) args s 0 0 (fun q => b0 ≤ q)) D cy b0 9 0 0 0 0 σ h 117 [(0, .ref a0), (2, .int x2), (3, .int x3), (4, .ref a4), (6, .int x6), (7, .int x7), (8, .int x8)] [] := by
      intro x6 x7 x8 hf
      unfold fX4_stained_117 at hf
      refine v_run C0 tbX4 cokX4_stained (pc' := 74) (lv' := [(8, .int (x8 + (1 : Int32))), (0, .ref a0), (2, .int x2), (3, .int x3), (4, .ref a4), (6, .int x6), (7, .int x7)]) (st' := []) (h' := h) 2 rfl trivial ?_
      obtain rfl := Option.some.inj hf
      refine v_pick [1, 2, 3, 4, 5, 6, 0] rfl ?_
      exact kb1 _ rfl
    have n112 : ∀ (x6 : Int32) (x8 : Int32) (s0 : Int32), fX4_stained_112 σ h a0 x1 x2 x3 a4 x6 x8 s0 = some z1 → V p l e { frames := 3, cells := 0, slots := 0, locals := 69 } s m args below meth c (MQ below (q_Qc D cy b0 (some (.int r)) σ h) args s 0 0 (fun q => b0 ≤ q)) D cy b0 9 0 0 0 0 σ h 112 [(0, .ref a0), (2, .int x2), (3, .int x3), (4, .ref a4), (6, .int x6), (8, .int x8)] [.int s0] := by
      intro x6 x8 s0 hf
      unfold fX4_stained_112 at hf
      refine v_run C0 tbX4 cokX4_stained (pc' := 117) (lv' := [(6, .int (x6 + (1 : Int32))), (7, .int s0), (0, .ref a0), (2, .int x2), (3, .int x3), (4, .ref a4), (8, .int x8)]) (st' := []) (h' := h) 2 rfl trivial ?_
      refine v_pick [2, 3, 4, 5, 0, 1, 6] rfl ?_
      exact n117 (x6 + (1 : Int32)) s0 x8 hf
    refine v_run C0 tbX4 cokX4_stained (pc' := 83) (lv' := [(0, .ref a0), (2, .int x2), (3, .int x3), (4, .ref a4), (6, .int x6), (7, .int x7), (8, .int x8)]) (st' := [.int (q_int h (q_ref σ a0 0) 12), .int x8]) (h' := h) 4 rfl ⟨⟨ta0, q_tn k0⟩, k0, trivial⟩ ?_
    refine v_icmp_ge C0 cokX4_stained rfl 123 (by decide) hf (fun _ hf => ?_) (fun _ hf => ?_)
    · obtain rfl := Option.some.inj hf
      refine v_pick [2, 4, 5] rfl ?_
      have hx := kr1 _ rfl
      subst hx
      exact kx1
    · refine v_run C0 tbX4 cokX4_stained (pc' := 91) (lv' := [(0, .ref a0), (2, .int x2), (3, .int x3), (4, .ref a4), (6, .int x6), (7, .int x7), (8, .int x8)]) (st' := [.int x8, .ref a4, .int x2]) (h' := h) 3 rfl trivial ?_
      obtain ⟨g9, hf⟩ := q_gu_o hf
      obtain ⟨r10, e10, hf⟩ := q_bd hf
      refine v_callS C0 cokX4_stained rfl (rest := [.int x2]) (ctX4_suitsHad a4 x8 g9 e10) calX4_suitsHad lkX4_288 inX4_suitsHad dnX4_suitsHad rfl rfl ⟨by decide, by decide⟩ (Nat.le_of_ble_eq_true rfl) (Nat.le_refl _) (Nat.le_refl _) ?_
      refine v_run C0 tbX4 cokX4_stained (pc' := 97) (lv' := [(0, .ref a0), (2, .int x2), (3, .int x3), (4, .ref a4), (6, .int x6), (7, .int x7), (8, .int x8)]) (st' := [.int (x2 &&& (r10 ^^^ (-1 : Int32)))]) (h' := h) 3 rfl trivial ?_
      refine v_if_ne C0 cokX4_stained rfl 117 (by decide) hf (fun _ hf => ?_) (fun _ hf => ?_)
      · refine v_run C0 tbX4 cokX4_stained (pc' := 102) (lv' := [(0, .ref a0), (2, .int x2), (3, .int x3), (4, .ref a4), (6, .int x6), (7, .int x7), (8, .int x8)]) (st' := [.int x6]) (h' := h) 1 rfl trivial ?_
        refine v_if_ne C0 cokX4_stained rfl 110 (by decide) hf (fun _ hf => ?_) (fun _ hf => ?_)
        · refine v_run C0 tbX4 cokX4_stained (pc' := 112) (lv' := [(0, .ref a0), (2, .int x2), (3, .int x3), (4, .ref a4), (6, .int x6), (7, .int x7), (8, .int x8)]) (st' := [.int x8]) (h' := h) 2 rfl trivial ?_
          refine v_pick [0, 1, 2, 3, 4, 6] rfl ?_
          exact n112 x6 x8 x8 hf
        · refine v_run C0 tbX4 cokX4_stained (pc' := 112) (lv' := [(0, .ref a0), (2, .int x2), (3, .int x3), (4, .ref a4), (6, .int x6), (7, .int x7), (8, .int x8)]) (st' := [.int x7]) (h' := h) 1 rfl trivial ?_
          refine v_pick [0, 1, 2, 3, 4, 6] rfl ?_
          exact n112 x6 x8 x7 hf
      · refine v_pick [0, 1, 2, 3, 4, 5, 6] rfl ?_
        exact n117 x6 x7 x8 hf
  refine v_run C0 tbX4 cokX4_stained (pc' := 1) (lv' := [(0, .ref a0), (1, .int x1), (2, .int x2), (3, .int x3)]) (st' := [.int x1]) (h' := h) 1 rfl trivial ?_
  obtain ⟨r1, e1, hf⟩ := q_bd hf
  refine v_callS C0 cokX4_stained rfl (rest := []) (ctX4_isShelf x1 e1) calX4_isShelf lkX4_67 inX4_isShelf dnX4_isShelf rfl rfl ⟨by decide, by decide⟩ (Nat.le_of_ble_eq_true rfl) (Nat.le_refl _) (Nat.le_refl _) ?_
  refine v_if_eq C0 cokX4_stained rfl 26 (by decide) hf (fun _ hf => ?_) (fun _ hf => ?_)
  · refine v_run C0 tbX4 cokX4_stained (pc' := 27) (lv' := [(0, .ref a0), (1, .int x1), (2, .int x2), (3, .int x3)]) (st' := [.int (-1 : Int32)]) (h' := h) 1 rfl trivial ?_
    obtain rfl := Option.some.inj hf
    exact v_iret C0 cokX4_stained hr hlk rfl
  · refine v_run C0 tbX4 cokX4_stained (pc' := 11) (lv' := [(0, .ref a0), (1, .int x1), (2, .int x2), (3, .int x3)]) (st' := [.int (127 : Int32), .int (0 : Int32), .int x2]) (h' := h) 3 rfl trivial ?_
    obtain ⟨r2, e2, hf⟩ := q_bd hf
    refine v_callS C0 cokX4_stained rfl (rest := []) (ctX4_isIn x2 (0 : Int32) (127 : Int32) e2) calX4_isIn lkX4_148 inX4_isIn dnX4_isIn rfl rfl ⟨by decide, by decide⟩ (Nat.le_of_ble_eq_true rfl) (Nat.le_refl _) (Nat.le_refl _) ?_
    refine v_if_eq C0 cokX4_stained rfl 26 (by decide) hf (fun _ hf => ?_) (fun _ hf => ?_)
    · refine v_run C0 tbX4 cokX4_stained (pc' := 27) (lv' := [(0, .ref a0), (1, .int x1), (2, .int x2), (3, .int x3)]) (st' := [.int (-1 : Int32)]) (h' := h) 1 rfl trivial ?_
      obtain rfl := Option.some.inj hf
      exact v_iret C0 cokX4_stained hr hlk rfl
    · refine v_run C0 tbX4 cokX4_stained (pc' := 20) (lv' := [(0, .ref a0), (1, .int x1), (2, .int x2), (3, .int x3)]) (st' := [.int (1 : Int32), .int (0 : Int32), .int x3]) (h' := h) 3 rfl trivial ?_
      obtain ⟨r3, e3, hf⟩ := q_bd hf
      refine v_callS C0 cokX4_stained rfl (rest := []) (ctX4_isIn x3 (0 : Int32) (1 : Int32) e3) calX4_isIn lkX4_148 inX4_isIn dnX4_isIn rfl rfl ⟨by decide, by decide⟩ (Nat.le_of_ble_eq_true rfl) (Nat.le_refl _) (Nat.le_refl _) ?_
      refine v_if_ne C0 cokX4_stained rfl 28 (by decide) hf (fun _ hf => ?_) (fun _ hf => ?_)
      · refine v_run C0 tbX4 cokX4_stained (pc' := 27) (lv' := [(0, .ref a0), (1, .int x1), (2, .int x2), (3, .int x3)]) (st' := [.int (-1 : Int32)]) (h' := h) 1 rfl trivial ?_
        obtain rfl := Option.some.inj hf
        exact v_iret C0 cokX4_stained hr hlk rfl
      · refine v_run C0 tbX4 cokX4_stained (pc' := 30) (lv' := [(0, .ref a0), (1, .int x1), (2, .int x2), (3, .int x3)]) (st' := [.int x1, .ref a0]) (h' := h) 2 rfl trivial ?_
        obtain ⟨r4, e4, hf⟩ := q_bd hf
        refine v_callV C0 cokX4_stained rfl (rest := []) (ctX4_shelfAt a0 x1 ta0 e4) calX4_shelfAt lkX4_71 inX4_shelfAt dnX4_shelfAt (ci := 4) ⟨rfl, by decide⟩ ta0 rfl rfl ⟨by decide, by decide⟩ (Nat.le_of_ble_eq_true rfl) (Nat.le_refl _) (Nat.le_refl _) ?_
        refine v_run C0 tbX4 cokX4_stained (pc' := 37) (lv' := [(4, .ref r4), (0, .ref a0), (1, .int x1), (2, .int x2), (3, .int x3)]) (st' := [.ref r4]) (h' := h) 2 rfl trivial ?_
        obtain ⟨g5, hf⟩ := q_gu_o hf
        obtain ⟨r6, e6, hf⟩ := q_bd hf
        refine v_callS C0 cokX4_stained rfl (rest := []) (ctX4_pairRefusal r4 g5 e6) calX4_pairRefusal lkX4_282 inX4_pairRefusal dnX4_pairRefusal rfl rfl ⟨by decide, by decide⟩ (Nat.le_of_ble_eq_true rfl) (Nat.le_refl _) (Nat.le_refl _) ?_
        refine v_run C0 tbX4 cokX4_stained (pc' := 44) (lv' := [(5, .int r6), (4, .ref r4), (0, .ref a0), (1, .int x1), (2, .int x2), (3, .int x3)]) (st' := [.int r6]) (h' := h) 2 rfl trivial ?_
        refine v_if_eq C0 cokX4_stained rfl 50 (by decide) hf (fun _ hf => ?_) (fun _ hf => ?_)
        · refine v_run C0 tbX4 cokX4_stained (pc' := 53) (lv' := [(5, .int r6), (4, .ref r4), (0, .ref a0), (1, .int x1), (2, .int x2), (3, .int x3)]) (st' := [.ref r4, .ref a0]) (h' := h) 2 rfl trivial ?_
          obtain ⟨r7, e7, hf⟩ := q_bd hf
          refine v_callV C0 cokX4_stained rfl (rest := []) (ctX4_firstForged a0 r4 ta0 g5 e7) calX4_firstForged lkX4_285 inX4_firstForged dnX4_firstForged (ci := 4) ⟨rfl, by decide⟩ ta0 rfl rfl ⟨by decide, by decide⟩ (Nat.le_of_ble_eq_true rfl) (Nat.le_refl _) (Nat.le_refl _) ?_
          refine v_run C0 tbX4 cokX4_stained (pc' := 58) (lv' := [(5, .int r6), (4, .ref r4), (0, .ref a0), (1, .int x1), (2, .int x2), (3, .int x3)]) (st' := [.int (-4 : Int32), .int r7]) (h' := h) 1 rfl trivial ?_
          refine v_icmp_eq C0 cokX4_stained rfl 64 (by decide) hf (fun _ hf => ?_) (fun _ hf => ?_)
          · refine v_run C0 tbX4 cokX4_stained (pc' := 74) (lv' := [(8, .int (0 : Int32)), (7, .int (-4 : Int32)), (6, .int (0 : Int32)), (5, .int r6), (4, .ref r4), (0, .ref a0), (1, .int x1), (2, .int x2), (3, .int x3)]) (st' := []) (h' := h) 6 rfl trivial ?_
            obtain ⟨o8, eo8, hf⟩ := q_bd hf
            refine v_pick [5, 7, 8, 4, 2, 1, 0] rfl ?_
            refine n74 r4 o8 ((0 : Int32), (-4 : Int32), (0 : Int32)) eo8 ?_
            refine v_run C0 tbX4 cokX4_stained (pc' := 124) (lv' := [(3, .int x3), (6, .int o8.1), (7, .int o8.2)]) (st' := [.int x3]) (h' := h) 1 rfl trivial ?_
            refine v_if_ne C0 cokX4_stained rfl 132 (by decide) hf (fun _ hf => ?_) (fun _ hf => ?_)
            · refine v_run C0 tbX4 cokX4_stained (pc' := 134) (lv' := [(3, .int x3), (6, .int o8.1), (7, .int o8.2)]) (st' := [.int o8.1]) (h' := h) 2 rfl trivial ?_
              obtain rfl := Option.some.inj hf
              exact v_iret C0 cokX4_stained hr hlk rfl
            · refine v_run C0 tbX4 cokX4_stained (pc' := 134) (lv' := [(3, .int x3), (6, .int o8.1), (7, .int o8.2)]) (st' := [.int o8.2]) (h' := h) 1 rfl trivial ?_
              obtain rfl := Option.some.inj hf
              exact v_iret C0 cokX4_stained hr hlk rfl
          · refine v_run C0 tbX4 cokX4_stained (pc' := 63) (lv' := [(5, .int r6), (4, .ref r4), (0, .ref a0), (1, .int x1), (2, .int x2), (3, .int x3)]) (st' := [.int (-13 : Int32)]) (h' := h) 1 rfl trivial ?_
            obtain rfl := Option.some.inj hf
            exact v_iret C0 cokX4_stained hr hlk rfl
        · refine v_run C0 tbX4 cokX4_stained (pc' := 49) (lv' := [(5, .int r6), (4, .ref r4), (0, .ref a0), (1, .int x1), (2, .int x2), (3, .int x3)]) (st' := [.int r6]) (h' := h) 1 rfl trivial ?_
          obtain rfl := Option.some.inj hf
          exact v_iret C0 cokX4_stained hr hlk rfl
