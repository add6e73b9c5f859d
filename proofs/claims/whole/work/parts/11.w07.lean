-- BackByNoonOnMonday.forged(I)I
noncomputable def fX4_forged (σ : q_St) (h : q_Hp) (a0 : Nat) (x1 : Int32) : Option Int32 := ((fX4_isShelf σ h x1).bind fun r1 => (if r1 = 0 then some (-1 : Int32) else ((fX4_shelfAt σ h a0 x1).bind fun r2 => q_gu ((q_tag σ r2 = 2)) (((fX4_pairRefusal σ h r2).bind fun r4 => (if r4 = 0 then ((fX4_firstForged σ h a0 r2).bind fun r5 => some r5) else some r4))))))
def cdX4_forged : q_Cd := [(0, .iload_n 1), (1, .invokestatic 67), (4, .ifCond .ne 5), (7, .iconst (-1)), (8, .ireturn), (9, .aload_n 0), (10, .iload_n 1), (11, .invokevirtual 71), (14, .astore_n 2), (15, .aload_n 2), (16, .invokestatic 282), (19, .istore_n 3), (20, .iload_n 3), (21, .ifCond .eq 7), (24, .iload_n 3), (25, .goto 8), (28, .aload_n 0), (29, .aload_n 2), (30, .invokevirtual 285), (33, .ireturn)]
set_option maxRecDepth 100000 in
theorem cokX4_forged : q_cok cX4_forged cdX4_forged := by unfold q_cok; decide +kernel
set_option maxRecDepth 100000 in
set_option maxHeartbeats 4000000 in
theorem ctX4_forged {l : Launch} {D : va_G} {cy : Nat → Nat} {b0 : Nat} {σ : q_St} {h : q_Hp} (a0 : Nat) (x1 : Int32) {r : Int32} (ta0 : q_tag σ a0 = 5) (hf : fX4_forged σ h a0 x1 = some r) : q_M l yX4_forged cX4_forged 4 (some .int) 3 69 0 0 D cy b0 σ h [.ref a0, .int x1] (some (.int r)) σ h := by
  unfold fX4_forged at hf
  refine q_enter (by decide) (Nat.le_of_ble_eq_true rfl) ?_
  intro p e s m args below meth c C0 hr hlk hnm
  replace C0 : VC p { frames := 3, cells := 0, slots := 0, locals := 69 } s m args meth c D cy b0 4 0 0 RX4 cX4_forged := C0
  refine v_run C0 tbX4 cokX4_forged (pc' := 1) (lv' := [(0, .ref a0), (1, .int x1)]) (st' := [.int x1]) (h' := h) 1 rfl trivial ?_
  obtain ⟨r1, e1, hf⟩ := q_bd hf
  refine v_callS C0 cokX4_forged rfl (rest := []) (ctX4_isShelf x1 e1) calX4_isShelf lkX4_67 inX4_isShelf dnX4_isShelf rfl rfl ⟨by decide, by decide⟩ (Nat.le_of_ble_eq_true rfl) (Nat.le_refl _) (Nat.le_refl _) ?_
  refine v_if_ne C0 cokX4_forged rfl 9 (by decide) hf (fun _ hf => ?_) (fun _ hf => ?_)
  · refine v_run C0 tbX4 cokX4_forged (pc' := 8) (lv' := [(0, .ref a0), (1, .int x1)]) (st' := [.int (-1 : Int32)]) (h' := h) 1 rfl trivial ?_
    obtain rfl := Option.some.inj hf
    exact v_iret C0 cokX4_forged hr hlk rfl
  · refine v_run C0 tbX4 cokX4_forged (pc' := 11) (lv' := [(0, .ref a0), (1, .int x1)]) (st' := [.int x1, .ref a0]) (h' := h) 2 rfl trivial ?_
    obtain ⟨r2, e2, hf⟩ := q_bd hf
    refine v_callV C0 cokX4_forged rfl (rest := []) (ctX4_shelfAt a0 x1 ta0 e2) calX4_shelfAt lkX4_71 inX4_shelfAt dnX4_shelfAt (ci := 4) ⟨rfl, by decide⟩ ta0 rfl rfl ⟨by decide, by decide⟩ (Nat.le_of_ble_eq_true rfl) (Nat.le_refl _) (Nat.le_refl _) ?_
    refine v_run C0 tbX4 cokX4_forged (pc' := 16) (lv' := [(2, .ref r2), (0, .ref a0), (1, .int x1)]) (st' := [.ref r2]) (h' := h) 2 rfl trivial ?_
    obtain ⟨g3, hf⟩ := q_gu_o hf
    obtain ⟨r4, e4, hf⟩ := q_bd hf
    refine v_callS C0 cokX4_forged rfl (rest := []) (ctX4_pairRefusal r2 g3 e4) calX4_pairRefusal lkX4_282 inX4_pairRefusal dnX4_pairRefusal rfl rfl ⟨by decide, by decide⟩ (Nat.le_of_ble_eq_true rfl) (Nat.le_refl _) (Nat.le_refl _) ?_
    refine v_run C0 tbX4 cokX4_forged (pc' := 21) (lv' := [(3, .int r4), (2, .ref r2), (0, .ref a0), (1, .int x1)]) (st' := [.int r4]) (h' := h) 2 rfl trivial ?_
    refine v_if_eq C0 cokX4_forged rfl 28 (by decide) hf (fun _ hf => ?_) (fun _ hf => ?_)
    · refine v_run C0 tbX4 cokX4_forged (pc' := 30) (lv' := [(3, .int r4), (2, .ref r2), (0, .ref a0), (1, .int x1)]) (st' := [.ref r2, .ref a0]) (h' := h) 2 rfl trivial ?_
      obtain ⟨r5, e5, hf⟩ := q_bd hf
      refine v_callV C0 cokX4_forged rfl (rest := []) (ctX4_firstForged a0 r2 ta0 g3 e5) calX4_firstForged lkX4_285 inX4_firstForged dnX4_firstForged (ci := 4) ⟨rfl, by decide⟩ ta0 rfl rfl ⟨by decide, by decide⟩ (Nat.le_of_ble_eq_true rfl) (Nat.le_refl _) (Nat.le_refl _) ?_
      obtain rfl := Option.some.inj hf
      exact v_iret C0 cokX4_forged hr hlk rfl
    · refine v_run C0 tbX4 cokX4_forged (pc' := 33) (lv' := [(3, .int r4), (2, .ref r2), (0, .ref a0), (1, .int x1)]) (st' := [.int r4]) (h' := h) 2 rfl trivial ?_
      obtain rfl := Option.some.inj hf
      exact v_iret C0 cokX4_forged hr hlk rfl
-- BackByNoonOnMonday.judge(I)I
noncomputable def fX4_judge_105 (σ : q_St) (h : q_Hp) (a0 : Nat) (x1 : Int32) (a2 : Nat) (x4 : Int32) (x5 : Int32) (x6 : Int32) : Option (Int32 ⊕ (Unit ⊕ Int32)) := some (Sum.inl (x6 + (1 : Int32)))
noncomputable def fX4_judge_56 (σ : q_St) (h : q_Hp) (a0 : Nat) (x1 : Int32) (a2 : Nat) (x4 : Int32) (x5 : Int32) (x6 : Int32) : Option (Int32 ⊕ (Unit ⊕ Int32)) := q_gu ((q_tag σ a2 = 2)) ((if (q_int h a2 4) ≤ x6 then some (Sum.inr (Sum.inl ())) else q_gu ((q_tag σ (q_ref σ a2 0) = 7)) (((fX4_at σ h (q_ref σ a2 0) x6).bind fun r13 => ((fX1_least σ h a2).bind fun r14 => (if r13 = r14 then fX4_judge_105 σ h a0 x1 a2 x4 x5 x6 else (if x5 < x6 then some (Sum.inr (Sum.inr x6)) else (if r13 = (x4 + x6) then fX4_judge_105 σ h a0 x1 a2 x4 x5 x6 else some (Sum.inr (Sum.inr x6))))))))))
noncomputable def fX4_judge (σ : q_St) (h : q_Hp) (a0 : Nat) (x1 : Int32) : Option Int32 := q_gu ((q_tag σ (q_ref σ a0 0) = 3)) (((fX4_isShelf σ h x1).bind fun r1 => (if r1 = 0 then some (-1 : Int32) else ((fX4_shelfAt σ h a0 x1).bind fun r2 => q_gu ((q_tag σ r2 = 2)) (((fX1_refusal σ h r2 (2 : Int32)).bind fun r4 => (if r4 = 0 then ((fX2_suitsThatAre σ h (q_ref σ a0 0) (0 : Int32)).bind fun r5 => ((fJ6_bitCount_0f7a4 σ h r5).bind fun r6 => ((fX2_suitsThatAre σ h (q_ref σ a0 0) (2 : Int32)).bind fun r7 => ((fJ6_bitCount_0f7a4 σ h r7).bind fun r8 => (q_loop (fun s => fX4_judge_56 σ h a0 x1 r2 r6 r8 s) q_N (0 : Int32)).bind fun o9 => q_el o9 fun w10 => some (-4 : Int32))))) else some r4)))))))
def cdX4_judge : q_Cd := [(0, .iload_n 1), (1, .invokestatic 67), (4, .ifCond .ne 5), (7, .iconst (-1)), (8, .ireturn), (9, .aload_n 0), (10, .iload_n 1), (11, .invokevirtual 71), (14, .astore_n 2), (15, .aload_n 2), (16, .iconst 2), (17, .invokevirtual 152), (20, .istore_n 3), (21, .iload_n 3), (22, .ifCond .eq 5), (25, .iload_n 3), (26, .ireturn), (27, .aload_n 0), (28, .getfield 12), (31, .iconst 0), (32, .invokevirtual 251), (35, .invokestatic 217), (38, .istore 4), (40, .aload_n 0), (41, .getfield 12), (44, .iconst 2), (45, .invokevirtual 251), (48, .invokestatic 217), (51, .istore 5), (53, .iconst 0), (54, .istore 6), (56, .iload 6), (58, .aload_n 2), (59, .getfield 292), (62, .if_icmp .ge 49), (65, .aload_n 2), (66, .getfield 295), (69, .iload 6), (71, .invokestatic 105), (74, .istore 7), (76, .iload 7), (78, .aload_n 2), (79, .invokevirtual 298), (82, .if_icmp .eq 23), (85, .iload 6), (87, .iload 5), (89, .if_icmp .gt 13), (92, .iload 7), (94, .iload 4), (96, .iload 6), (98, .iadd), (99, .if_icmp .eq 6), (102, .iload 6), (104, .ireturn), (105, .iinc 6 1), (108, .goto (-52)), (111, .bipush (-4)), (113, .ireturn)]
set_option maxRecDepth 100000 in
theorem cokX4_judge : q_cok cX4_judge cdX4_judge := by unfold q_cok; decide +kernel
set_option maxRecDepth 100000 in
set_option maxHeartbeats 4000000 in
theorem ctX4_judge {l : Launch} {D : va_G} {cy : Nat → Nat} {b0 : Nat} {σ : q_St} {h : q_Hp} (a0 : Nat) (x1 : Int32) {r : Int32} (ta0 : q_tag σ a0 = 5) (hf : fX4_judge σ h a0 x1 = some r) : q_M l yX4_judge cX4_judge 8 (some .int) 2 44 0 0 D cy b0 σ h [.ref a0, .int x1] (some (.int r)) σ h := by
  unfold fX4_judge at hf
  obtain ⟨k0, hf⟩ := q_gu_o hf
  refine q_enter (by decide) (Nat.le_of_ble_eq_true rfl) ?_
  intro p e s m args below meth c C0 hr hlk hnm
  replace C0 : VC p { frames := 2, cells := 0, slots := 0, locals := 44 } s m args meth c D cy b0 8 0 0 RX4 cX4_judge := C0
  have n56 : ∀ (a2 : Nat) (x4 : Int32) (x5 : Int32) (o : (Unit ⊕ Int32)) (s1 : Int32), q_loop (fun s => fX4_judge_56 σ h a0 x1 a2 x4 x5 s) q_N s1 = some o → (∀ w0 : Unit, Sum.inl w0 = o → V p l e { frames := 2, cells := 0, slots := 0, locals := 44 } s m args below meth c (MQ below (q_Qc D cy b0 (some (.int r)) σ h) args s 0 0 (fun q => b0 ≤ q)) D cy b0 8 0 0 0 0 σ h 111 [] []) → (∀ r0 : Int32, Sum.inr r0 = o → (some r0 : Option Int32) = some r) → V p l e { frames := 2, cells := 0, slots := 0, locals := 44 } s m args below meth c (MQ below (q_Qc D cy b0 (some (.int r)) σ h) args s 0 0 (fun q => b0 ≤ q)) D cy b0 8 0 0 0 0 σ h 56 [(2, .ref a2), (4, .int x4), (5, .int x5), (6, .int s1)] [] := by
    intro a2 x4 x5 o s1 ho kx1 ke1
    refine q_loop_V (P := fun s0 => V p l e { frames := 2, cells := 0, slots := 0, locals := 44 } s m args below meth c (MQ below (q_Qc D cy b0 (some (.int r)) σ h) args s 0 0 (fun q => b0 ≤ q)) D cy b0 8 0 0 0 0 σ h 56 [(2, .ref a2), (4, .int x4), (5, .int x5), (6, .int s0)] []) (o := o) ?_ q_N s1 ho
    intro x6 z1 hf kb1 kr1
    replace hf : fX4_judge_56 σ h a0 x1 a2 x4 x5 x6 = some z1 := hf
    unfold fX4_judge_56 at hf
    show V p l e { frames := 2, cells := 0, slots := 0, locals := 44 } s m args below meth c (MQ below (q_Qc D cy b0 (some (.int r)) σ h) args s 0 0 (fun q => b0 ≤ q)) D cy b0 8 0 0 0 0 σ h 56 [(2, .ref a2), (4, .int x4), (5, .int x5), (6, .int x6)] []
    have n105 : ∀ (x6 : Int32), fX4_judge_105 σ h a0 x1 a2 x4 x5 x6 = some z1 → V p l e { frames := 2, cells := 0, slots := 0, locals := 44 } s m args below meth c (MQ below (q_Qc D cy b0 (some (.int r)) σ h) args s 0 0 (fun q => b0 ≤ q)) D cy b0 8 0 0 0 0 σ h 105 [(2, .ref a2), (4, .int x4), (5, .int x5), (6, .int x6)] [] := by
      intro x6 hf
      unfold fX4_judge_105 at hf
      refine v_run C0 tbX4 cokX4_judge (pc' := 56) (lv' := [(6, .int (x6 + (1 : Int32))), (2, .ref a2), (4, .int x4), (5, .int x5)]) (st' := []) (h' := h) 2 rfl trivial ?_
      obtain rfl := Option.some.inj hf
      refine v_pick [1, 2, 3, 0] rfl ?_
      exact kb1 _ rfl
    obtain ⟨g11, hf⟩ := q_gu_o hf
    refine v_run C0 tbX4 cokX4_judge (pc' := 62) (lv' := [(2, .ref a2), (4, .int x4), (5, .int x5), (6, .int x6)]) (st' := [.int (q_int h a2 4), .int x6]) (h' := h) 3 rfl ⟨g11, trivial⟩ ?_
    refine v_icmp_ge C0 cokX4_judge rfl 111 (by decide) hf (fun _ hf => ?_) (fun _ hf => ?_)
    · obtain rfl := Option.some.inj hf
      refine v_pick [] rfl ?_
      exact kx1 _ (kr1 _ rfl)
    · obtain ⟨g12, hf⟩ := q_gu_o hf
      refine v_run C0 tbX4 cokX4_judge (pc' := 71) (lv' := [(2, .ref a2), (4, .int x4), (5, .int x5), (6, .int x6)]) (st' := [.int x6, .ref (q_ref σ a2 0)]) (h' := h) 3 rfl ⟨⟨g11, q_tn g12⟩, trivial⟩ ?_
      obtain ⟨r13, e13, hf⟩ := q_bd hf
      refine v_callS C0 cokX4_judge rfl (rest := []) (ctX4_at (q_ref σ a2 0) x6 g12 e13) calX4_at lkX4_105 inX4_at dnX4_at rfl rfl ⟨by decide, by decide⟩ (Nat.le_of_ble_eq_true rfl) (Nat.le_refl _) (Nat.le_refl _) ?_
      refine v_run C0 tbX4 cokX4_judge (pc' := 79) (lv' := [(7, .int r13), (2, .ref a2), (4, .int x4), (5, .int x5), (6, .int x6)]) (st' := [.ref a2, .int r13]) (h' := h) 3 rfl trivial ?_
      obtain ⟨r14, e14, hf⟩ := q_bd hf
      refine v_callV C0 cokX4_judge rfl (rest := [.int r13]) (ctX1_least a2 g11 e14) calX1_least lkX4_298 inX1_least dnX1_least (ci := 1) ⟨rfl, by decide⟩ g11 rfl rfl ⟨by decide, by decide⟩ (Nat.le_of_ble_eq_true rfl) (Nat.le_refl _) (Nat.le_refl _) ?_
      refine v_icmp_eq C0 cokX4_judge rfl 105 (by decide) hf (fun _ hf => ?_) (fun _ hf => ?_)
      · refine v_pick [1, 2, 3, 4] rfl ?_
        exact n105 x6 hf
      · refine v_run C0 tbX4 cokX4_judge (pc' := 89) (lv' := [(7, .int r13), (2, .ref a2), (4, .int x4), (5, .int x5), (6, .int x6)]) (st' := [.int x5, .int x6]) (h' := h) 2 rfl trivial ?_
        refine v_icmp_gt C0 cokX4_judge rfl 102 (by decide) hf (fun _ hf => ?_) (fun _ hf => ?_)
        · refine v_run C0 tbX4 cokX4_judge (pc' := 104) (lv' := [(7, .int r13), (2, .ref a2), (4, .int x4), (5, .int x5), (6, .int x6)]) (st' := [.int x6]) (h' := h) 1 rfl trivial ?_
          obtain rfl := Option.some.inj hf
          have hf := ke1 _ (kr1 _ rfl)
          obtain rfl := Option.some.inj hf
          exact v_iret C0 cokX4_judge hr hlk rfl
        · refine v_run C0 tbX4 cokX4_judge (pc' := 99) (lv' := [(7, .int r13), (2, .ref a2), (4, .int x4), (5, .int x5), (6, .int x6)]) (st' := [.int (x4 + x6), .int r13]) (h' := h) 4 rfl trivial ?_
          refine v_icmp_eq C0 cokX4_judge rfl 105 (by decide) hf (fun _ hf => ?_) (fun _ hf => ?_)
          · refine v_pick [1, 2, 3, 4] rfl ?_
            exact n105 x6 hf
          · refine v_run C0 tbX4 cokX4_judge (pc' := 104) (lv' := [(7, .int r13), (2, .ref a2), (4, .int x4), (5, .int x5), (6, .int x6)]) (st' := [.int x6]) (h' := h) 1 rfl trivial ?_
            obtain rfl := Option.some.inj hf
            have hf := ke1 _ (kr1 _ rfl)
            obtain rfl := Option.some.inj hf
            exact v_iret C0 cokX4_judge hr hlk rfl
  refine v_run C0 tbX4 cokX4_judge (pc' := 1) (lv' := [(0, .ref a0), (1, .int x1)]) (st' := [.int x1]) (h' := h) 1 rfl trivial ?_
  obtain ⟨r1, e1, hf⟩ := q_bd hf
  refine v_callS C0 cokX4_judge rfl (rest := []) (ctX4_isShelf x1 e1) calX4_isShelf lkX4_67 inX4_isShelf dnX4_isShelf rfl rfl ⟨by decide, by decide⟩ (Nat.le_of_ble_eq_true rfl) (Nat.le_refl _) (Nat.le_refl _) ?_
  refine v_if_ne C0 cokX4_judge rfl 9 (by decide) hf (fun _ hf => ?_) (fun _ hf => ?_)
  · refine v_run C0 tbX4 cokX4_judge (pc' := 8) (lv' := [(0, .ref a0), (1, .int x1)]) (st' := [.int (-1 : Int32)]) (h' := h) 1 rfl trivial ?_
    obtain rfl := Option.some.inj hf
    exact v_iret C0 cokX4_judge hr hlk rfl
  · refine v_run C0 tbX4 cokX4_judge (pc' := 11) (lv' := [(0, .ref a0), (1, .int x1)]) (st' := [.int x1, .ref a0]) (h' := h) 2 rfl trivial ?_
    obtain ⟨r2, e2, hf⟩ := q_bd hf
    refine v_callV C0 cokX4_judge rfl (rest := []) (ctX4_shelfAt a0 x1 ta0 e2) calX4_shelfAt lkX4_71 inX4_shelfAt dnX4_shelfAt (ci := 4) ⟨rfl, by decide⟩ ta0 rfl rfl ⟨by decide, by decide⟩ (Nat.le_of_ble_eq_true rfl) (Nat.le_refl _) (Nat.le_refl _) ?_
    refine v_run C0 tbX4 cokX4_judge (pc' := 17) (lv' := [(2, .ref r2), (0, .ref a0), (1, .int x1)]) (st' := [.int (2 : Int32), .ref r2]) (h' := h) 3 rfl trivial ?_
    obtain ⟨g3, hf⟩ := q_gu_o hf
    obtain ⟨r4, e4, hf⟩ := q_bd hf
    refine v_callV C0 cokX4_judge rfl (rest := []) (ctX1_refusal r2 (2 : Int32) g3 e4) calX1_refusal lkX4_152 inX1_refusal dnX1_refusal (ci := 1) ⟨rfl, by decide⟩ g3 rfl rfl ⟨by decide, by decide⟩ (Nat.le_of_ble_eq_true rfl) (Nat.le_refl _) (Nat.le_refl _) ?_
    refine v_run C0 tbX4 cokX4_judge (pc' := 22) (lv' := [(3, .int r4), (2, .ref r2), (0, .ref a0), (1, .int x1)]) (st' := [.int r4]) (h' := h) 2 rfl trivial ?_
    refine v_if_eq C0 cokX4_judge rfl 27 (by decide) hf (fun _ hf => ?_) (fun _ hf => ?_)
    · refine v_run C0 tbX4 cokX4_judge (pc' := 32) (lv' := [(3, .int r4), (2, .ref r2), (0, .ref a0), (1, .int x1)]) (st' := [.int (0 : Int32), .ref (q_ref σ a0 0)]) (h' := h) 3 rfl ⟨⟨ta0, q_tn k0⟩, trivial⟩ ?_
      obtain ⟨r5, e5, hf⟩ := q_bd hf
      refine v_callV C0 cokX4_judge rfl (rest := []) (ctX2_suitsThatAre (q_ref σ a0 0) (0 : Int32) k0 e5) calX2_suitsThatAre lkX4_251 inX2_suitsThatAre dnX2_suitsThatAre (ci := 2) ⟨rfl, by decide⟩ k0 rfl rfl ⟨by decide, by decide⟩ (Nat.le_of_ble_eq_true rfl) (Nat.le_refl _) (Nat.le_refl _) ?_
      obtain ⟨r6, e6, hf⟩ := q_bd hf
      refine v_callS C0 cokX4_judge rfl (rest := []) (ctJ6_bitCount_0f7a4 r5 e6) calJ6_bitCount_0f7a4 lkX4_217 inJ6_bitCount_0f7a4 dnJ6_bitCount_0f7a4 rfl rfl ⟨by decide, by decide⟩ (Nat.le_of_ble_eq_true rfl) (Nat.le_refl _) (Nat.le_refl _) ?_
      refine v_run C0 tbX4 cokX4_judge (pc' := 45) (lv' := [(4, .int r6), (3, .int r4), (2, .ref r2), (0, .ref a0), (1, .int x1)]) (st' := [.int (2 : Int32), .ref (q_ref σ a0 0)]) (h' := h) 4 rfl ⟨⟨ta0, q_tn k0⟩, trivial⟩ ?_
      obtain ⟨r7, e7, hf⟩ := q_bd hf
      refine v_callV C0 cokX4_judge rfl (rest := []) (ctX2_suitsThatAre (q_ref σ a0 0) (2 : Int32) k0 e7) calX2_suitsThatAre lkX4_251 inX2_suitsThatAre dnX2_suitsThatAre (ci := 2) ⟨rfl, by decide⟩ k0 rfl rfl ⟨by decide, by decide⟩ (Nat.le_of_ble_eq_true rfl) (Nat.le_refl _) (Nat.le_refl _) ?_
      obtain ⟨r8, e8, hf⟩ := q_bd hf
      refine v_callS C0 cokX4_judge rfl (rest := []) (ctJ6_bitCount_0f7a4 r7 e8) calJ6_bitCount_0f7a4 lkX4_217 inJ6_bitCount_0f7a4 dnJ6_bitCount_0f7a4 rfl rfl ⟨by decide, by decide⟩ (Nat.le_of_ble_eq_true rfl) (Nat.le_refl _) (Nat.le_refl _) ?_
      refine v_run C0 tbX4 cokX4_judge (pc' := 56) (lv' := [(6, .int (0 : Int32)), (5, .int r8), (4, .int r6), (3, .int r4), (2, .ref r2), (0, .ref a0), (1, .int x1)]) (st' := []) (h' := h) 3 rfl trivial ?_
      obtain ⟨o9, eo9, hf⟩ := q_bd hf
      refine v_pick [4, 2, 1, 0] rfl ?_
      refine n56 r2 r6 r8 o9 (0 : Int32) eo9 (fun w10 hx => ?_) (fun r0 hx => ?_)
      · rw [← hx] at hf
        replace hf := q_el_l hf
        refine v_run C0 tbX4 cokX4_judge (pc' := 113) (lv' := []) (st' := [.int (-4 : Int32)]) (h' := h) 1 rfl trivial ?_
        obtain rfl := Option.some.inj hf
        exact v_iret C0 cokX4_judge hr hlk rfl
      · rw [← hx] at hf
        exact hf
    · refine v_run C0 tbX4 cokX4_judge (pc' := 26) (lv' := [(3, .int r4), (2, .ref r2), (0, .ref a0), (1, .int x1)]) (st' := [.int r4]) (h' := h) 1 rfl trivial ?_
      obtain rfl := Option.some.inj hf
      exact v_iret C0 cokX4_judge hr hlk rfl
-- BackByNoonOnMonday.nextSeed(I)I
noncomputable def fX4_nextSeed (σ : q_St) (h : q_Hp) (x0 : Int32) : Option Int32 := some ((x0 * (1103515245 : Int32)) + (12345 : Int32))
def cdX4_nextSeed : q_Cd := [(0, .iload_n 0), (1, .ldc_w 393), (4, .imul), (5, .sipush 12345), (8, .iadd), (9, .ireturn)]
set_option maxRecDepth 100000 in
theorem cokX4_nextSeed : q_cok cX4_nextSeed cdX4_nextSeed := by unfold q_cok; decide +kernel
set_option maxRecDepth 100000 in
set_option maxHeartbeats 4000000 in
theorem ctX4_nextSeed {l : Launch} {D : va_G} {cy : Nat → Nat} {b0 : Nat} {σ : q_St} {h : q_Hp} (x0 : Int32) {r : Int32} (hf : fX4_nextSeed σ h x0 = some r) : q_M l yX4_nextSeed cX4_nextSeed 1 (some .int) 0 0 0 0 D cy b0 σ h [.int x0] (some (.int r)) σ h := by
  unfold fX4_nextSeed at hf
  refine q_enter (by decide) (Nat.le_of_ble_eq_true rfl) ?_
  intro p e s m args below meth c C0 hr hlk hnm
  replace C0 : VC p { frames := 0, cells := 0, slots := 0, locals := 0 } s m args meth c D cy b0 1 0 0 RX4 cX4_nextSeed := C0
  refine v_run C0 tbX4 cokX4_nextSeed (pc' := 9) (lv' := [(0, .int x0)]) (st' := [.int ((x0 * (1103515245 : Int32)) + (12345 : Int32))]) (h' := h) 5 rfl trivial ?_
  obtain rfl := Option.some.inj hf
  exact v_iret C0 cokX4_nextSeed hr hlk rfl
-- BackByNoonOnMonday.drawBelow(II)I
noncomputable def fX4_drawBelow (σ : q_St) (h : q_Hp) (x0 : Int32) (x1 : Int32) : Option Int32 := (if x0 ≤ 0 then some (0 : Int32) else q_gu ((¬ x0 = 0)) (some (((x1 &&& (2147483647 : Int32)) / (65536 : Int32)) - ((x1 &&& (2147483647 : Int32)) / (65536 : Int32)) / x0 * x0)))
def cdX4_drawBelow : q_Cd := [(0, .iload_n 0), (1, .ifCond .le 17), (4, .iload_n 1), (5, .ldc_w 394), (8, .iand), (9, .ldc_w 395), (12, .idiv), (13, .iload_n 0), (14, .irem), (15, .goto 4), (18, .iconst 0), (19, .ireturn)]
set_option maxRecDepth 100000 in
theorem cokX4_drawBelow : q_cok cX4_drawBelow cdX4_drawBelow := by unfold q_cok; decide +kernel
set_option maxRecDepth 100000 in
set_option maxHeartbeats 4000000 in
theorem ctX4_drawBelow {l : Launch} {D : va_G} {cy : Nat → Nat} {b0 : Nat} {σ : q_St} {h : q_Hp} (x0 : Int32) (x1 : Int32) {r : Int32} (hf : fX4_drawBelow σ h x0 x1 = some r) : q_M l yX4_drawBelow cX4_drawBelow 2 (some .int) 0 0 0 0 D cy b0 σ h [.int x0, .int x1] (some (.int r)) σ h := by
  unfold fX4_drawBelow at hf
  refine q_enter (by decide) (Nat.le_of_ble_eq_true rfl) ?_
  intro p e s m args below meth c C0 hr hlk hnm
  replace C0 : VC p { frames := 0, cells := 0, slots := 0, locals := 0 } s m args meth c D cy b0 2 0 0 RX4 cX4_drawBelow := C0
  refine v_run C0 tbX4 cokX4_drawBelow (pc' := 1) (lv' := [(0, .int x0), (1, .int x1)]) (st' := [.int x0]) (h' := h) 1 rfl trivial ?_
  refine v_if_le C0 cokX4_drawBelow rfl 18 (by decide) hf (fun _ hf => ?_) (fun _ hf => ?_)
  · refine v_run C0 tbX4 cokX4_drawBelow (pc' := 19) (lv' := [(0, .int x0), (1, .int x1)]) (st' := [.int (0 : Int32)]) (h' := h) 1 rfl trivial ?_
    obtain rfl := Option.some.inj hf
    exact v_iret C0 cokX4_drawBelow hr hlk rfl
  · obtain ⟨g1, hf⟩ := q_gu_o hf
    refine v_run C0 tbX4 cokX4_drawBelow (pc' := 19) (lv' := [(0, .int x0), (1, .int x1)]) (st' := [.int (((x1 &&& (2147483647 : Int32)) / (65536 : Int32)) - ((x1 &&& (2147483647 : Int32)) / (65536 : Int32)) / x0 * x0)]) (h' := h) 8 rfl ⟨(by decide), g1, trivial⟩ ?_
    obtain rfl := Option.some.inj hf
    exact v_iret C0 cokX4_drawBelow hr hlk rfl
-- BackByNoonOnMonday.weeks(III)I
noncomputable def fX4_weeks_178 (σ : q_St) (h : q_Hp) (a0 : Nat) (x1 : Int32) (x2 : Int32) (x3 : Int32) (x4 : Int32) (x5 : Int32) (x6 : Int32) (x7 : Int32) (x8 : Int32) (x9 : Int32) (x10 : Int32) : Option ((Int32 × Int32 × Int32 × Int32 × Int32) ⊕ (Int32 × Int32 × Int32)) := some (Sum.inl (x4, x6, x8, x9, (x10 + (1 : Int32))))
noncomputable def fX4_weeks_61 (σ : q_St) (h : q_Hp) (a0 : Nat) (x1 : Int32) (x2 : Int32) (x3 : Int32) (x5 : Int32) (x7 : Int32) (x4 : Int32) (x6 : Int32) (x8 : Int32) (x9 : Int32) (x10 : Int32) : Option ((Int32 × Int32 × Int32 × Int32 × Int32) ⊕ (Int32 × Int32 × Int32)) := (if (q_int h (q_ref σ a0 0) 12) ≤ x10 then some (Sum.inr (x4, x6, x9)) else ((fX4_nextSeed σ h x4).bind fun r6 => ((fX4_drawBelow σ h (10 : Int32) r6).bind fun r7 => ((fX4_at σ h (q_ref σ (q_ref σ a0 0) 8) x10).bind fun r8 => (if r7 < r8 then fX4_weeks_178 σ h a0 x1 x2 x3 r6 x5 x6 x7 x8 x9 x10 else ((fX4_at σ h (q_ref σ (q_ref σ a0 0) 9) x10).bind fun r9 => (if r9 = (9 : Int32) then ((fX2_leastFor σ h (q_ref σ a0 0) x10 x8 x9).bind fun r10 => (if r10 = (9 : Int32) then fX4_weeks_178 σ h a0 x1 x2 x3 r6 x5 (x6 + (1 : Int32)) x7 x8 x9 x10 else ((fX2_kindOf σ h (q_ref σ a0 0) r10).bind fun r11 => q_gu ((q_tag σ r11 = 4)) (fX4_weeks_178 σ h a0 x1 x2 x3 r6 x5 x6 x7 (x8 &&& (((1 : Int32) <<< (r10 &&& 31)) ^^^ (-1 : Int32))) (x9 + (q_int h r11 2)) x10)))) else fX4_weeks_178 σ h a0 x1 x2 x3 r6 x5 x6 x7 x8 x9 x10)))))))
noncomputable def fX4_weeks_33 (σ : q_St) (h : q_Hp) (a0 : Nat) (x1 : Int32) (x2 : Int32) (x3 : Int32) (x4 : Int32) (x5 : Int32) (x6 : Int32) (x7 : Int32) : Option ((Int32 × Int32 × Int32 × Int32) ⊕ (Int32 × Int32)) := (if x1 ≤ x7 then some (Sum.inr (x5, x6)) else ((fX2_suitsThatAre σ h (q_ref σ a0 0) (0 : Int32)).bind fun r4 => (q_loop (fun s => fX4_weeks_61 σ h a0 x1 x2 x3 x5 x7 s.1 s.2.1 s.2.2.1 s.2.2.2.1 s.2.2.2.2) q_N (x4, x6, r4, (q_int h (q_ref σ a0 0) 13), (0 : Int32))).bind fun o5 => some (Sum.inl (o5.1, (x5 + (o5.2.2 - (q_int h (q_ref σ a0 0) 13))), o5.2.1, (x7 + (1 : Int32))))))
noncomputable def fX4_weeks (σ : q_St) (h : q_Hp) (a0 : Nat) (x1 : Int32) (x2 : Int32) (x3 : Int32) : Option Int32 := q_gu ((q_tag σ (q_ref σ a0 0) = 3) ∧ (q_tag σ (q_ref σ (q_ref σ a0 0) 8) = 7) ∧ (q_tag σ (q_ref σ (q_ref σ a0 0) 9) = 7)) (((fX4_isIn σ h x1 (1 : Int32) (20 : Int32)).bind fun r1 => (if r1 = 0 then some (-1 : Int32) else ((fX4_isIn σ h x3 (0 : Int32) (1 : Int32)).bind fun r2 => (if r2 = 0 then some (-1 : Int32) else (q_loop (fun s => fX4_weeks_33 σ h a0 x1 x2 x3 s.1 s.2.1 s.2.2.1 s.2.2.2) q_N (x2, (0 : Int32), (0 : Int32), (0 : Int32))).bind fun o3 => (if x3 = 0 then some o3.1 else some o3.2))))))
def cdX4_weeks : q_Cd := [(0, .iload_n 1), (1, .iconst 1), (2, .bipush 20), (4, .invokestatic 148), (7, .ifCond .eq 12), (10, .iload_n 3), (11, .iconst 0), (12, .iconst 1), (13, .invokestatic 148), (16, .ifCond .ne 5), (19, .iconst (-1)), (20, .ireturn), (21, .iload_n 2), (22, .istore 4), (24, .iconst 0), (25, .istore 5), (27, .iconst 0), (28, .istore 6), (30, .iconst 0), (31, .istore 7), (33, .iload 7), (35, .iload_n 1), (36, .if_icmp .ge 169), (39, .aload_n 0), (40, .getfield 12), (43, .iconst 0), (44, .invokevirtual 251), (47, .istore 8), (49, .aload_n 0), (50, .getfield 12), (53, .getfield 301), (56, .istore 9), (58, .iconst 0), (59, .istore 10), (61, .iload 10), (63, .aload_n 0), (64, .getfield 12), (67, .getfield 181), (70, .if_icmp .ge 114), (73, .iload 4), (75, .invokestatic 304), (78, .istore 4), (80, .bipush 10), (82, .iload 4), (84, .invokestatic 307), (87, .aload_n 0), (88, .getfield 12), (91, .getfield 142), (94, .iload 10), (96, .invokestatic 105), (99, .if_icmp .lt 79), (102, .aload_n 0), (103, .getfield 12), (106, .getfield 145), (109, .iload 10), (111, .invokestatic 105), (114, .bipush 9), (116, .if_icmp .eq 6), (119, .goto 59), (122, .aload_n 0), (123, .getfield 12), (126, .iload 10), (128, .iload 8), (130, .iload 9), (132, .invokevirtual 310), (135, .istore 11), (137, .iload 11), (139, .bipush 9), (141, .if_icmp .ne 9), (144, .iinc 6 1), (147, .goto 31), (150, .iload 9), (152, .aload_n 0), (153, .getfield 12), (156, .iload 11), (158, .invokevirtual 92), (161, .getfield 115), (164, .iadd), (165, .istore 9), (167, .iload 8), (169, .iconst 1), (170, .iload 11), (172, .ishl), (173, .iconst (-1)), (174, .ixor), (175, .iand), (176, .istore 8), (178, .iinc 10 1), (181, .goto (-120)), (184, .iload 5), (186, .iload 9), (188, .aload_n 0), (189, .getfield 12), (192, .getfield 301), (195, .isub), (196, .iadd), (197, .istore 5), (199, .iinc 7 1), (202, .goto (-169)), (205, .iload_n 3), (206, .ifCond .ne 8), (209, .iload 5), (211, .goto 5), (214, .iload 6), (216, .ireturn)]
set_option maxRecDepth 100000 in
theorem cokX4_weeks : q_cok cX4_weeks cdX4_weeks := by unfold q_cok; decide +kernel
set_option maxRecDepth 100000 in
set_option maxHeartbeats 4000000 in
theorem ctX4_weeks {l : Launch} {D : va_G} {cy : Nat → Nat} {b0 : Nat} {σ : q_St} {h : q_Hp} (a0 : Nat) (x1 : Int32) (x2 : Int32) (x3 : Int32) {r : Int32} (ta0 : q_tag σ a0 = 5) (hf : fX4_weeks σ h a0 x1 x2 x3 = some r) : q_M l yX4_weeks cX4_weeks 12 (some .int) 4 92 0 0 D cy b0 σ h [.ref a0, .int x1, .int x2, .int x3] (some (.int r)) σ h := by
  unfold fX4_weeks at hf
  obtain ⟨⟨k0, k1, k2⟩, hf⟩ := q_gu_o hf
  refine q_enter (by decide) (Nat.le_of_ble_eq_true rfl) ?_
  intro p e s m args below meth c C0 hr hlk hnm
  replace C0 : VC p { frames := 4, cells := 0, slots := 0, locals := 92 } s m args meth c D cy b0 12 0 0 RX4 cX4_weeks := C0
  have n33 : ∀ (o : (Int32 × Int32)) (s1 : (Int32 × Int32 × Int32 × Int32)), q_loop (fun s => fX4_weeks_33 σ h a0 x1 x2 x3 s.1 s.2.1 s.2.2.1 s.2.2.2) q_N s1 = some o → V p l e { frames := 4, cells := 0, slots := 0, locals := 92 } s m args below meth c (MQ below (q_Qc D cy b0 (some (.int r)) σ h) args s 0 0 (fun q => b0 ≤ q)) D cy b0 12 0 0 0 0 σ h 205 [(3, .int x3), (5, .int o.1), (6, .int o.2)] [] → V p l e { frames := 4, cells := 0, slots := 0, locals := 92 } s m args below meth c (MQ below (q_Qc D cy b0 (some (.int r)) σ h) args s 0 0 (fun q => b0 ≤ q)) D cy b0 12 0 0 0 0 σ h 33 [(0, .ref a0), (1, .int x1), (3, .int x3), (4, .int s1.1), (5, .int s1.2.1), (6, .int s1.2.2.1), (7, .int s1.2.2.2)] [] := by
    intro o s1 ho kx1
    refine q_loop_V (P := fun s0 => V p l e { frames := 4, cells := 0, slots := 0, locals := 92 } s m args below meth c (MQ below (q_Qc D cy b0 (some (.int r)) σ h) args s 0 0 (fun q => b0 ≤ q)) D cy b0 12 0 0 0 0 σ h 33 [(0, .ref a0), (1, .int x1), (3, .int x3), (4, .int s0.1), (5, .int s0.2.1), (6, .int s0.2.2.1), (7, .int s0.2.2.2)] []) (o := o) ?_ q_N s1 ho
    intro s2 z1 hf kb1 kr1
    obtain ⟨x4, x5, x6, x7⟩ := s2
    replace hf : fX4_weeks_33 σ h a0 x1 x2 x3 x4 x5 x6 x7 = some z1 := hf
    unfold fX4_weeks_33 at hf
    show V p l e { frames := 4, cells := 0, slots := 0, locals := 92 } s m args below meth c (MQ below (q_Qc D cy b0 (some (.int r)) σ h) args s 0 0 (fun q => b0 ≤ q)) D cy b0 12 0 0 0 0 σ h 33 [(0, .ref a0), (1, .int x1), (3, .int x3), (4, .int x4), (5, .int x5), (6, .int x6), (7, .int x7)] []
    have n61 : ∀ (x5 : Int32) (x7 : Int32) (o : (Int32 × Int32 × Int32)) (s1 : (Int32 × Int32 × Int32 × Int32 × Int32)), q_loop (fun s => fX4_weeks_61 σ h a0 x1 x2 x3 x5 x7 s.1 s.2.1 s.2.2.1 s.2.2.2.1 s.2.2.2.2) q_N s1 = some o → V p l e { frames := 4, cells := 0, slots := 0, locals := 92 } s m args below meth c (MQ below (q_Qc D cy b0 (some (.int r)) σ h) args s 0 0 (fun q => b0 ≤ q)) D cy b0 12 0 0 0 0 σ h 184 [(0, .ref a0), (1, .int x1), (3, .int x3), (4, .int o.1), (5, .int x5), (6, .int o.2.1), (7, .int x7), (9, .int o.2.2)] [] → V p l e { frames := 4, cells := 0, slots := 0, locals := 92 } s m args below meth c (MQ below (q_Qc D cy b0 (some (.int r)) σ h) args s 0 0 (fun q => b0 ≤ q)) D cy b0 12 0 0 0 0 σ h 61 [(0, .ref a0), (1, .int x1), (3, .int x3), (4, .int s1.1), (5, .int x5), (6, .int s1.2.1), (7, .int x7), (8, .int s1.2.2.1), (9, .int s1.2.2.2.1), (10, .int s1.2.2.2.2)] [] := by
      intro x5 x7 o s1 ho kx2
      refine q_loop_V (P := fun s0 => V p l e { frames := 4, cells := 0, slots := 0, locals := 92 } s m args below meth c (MQ below (q_Qc D cy b0 (some (.int r)) σ h) args s 0 0 (fun q => b0 ≤ q)) D cy b0 12 0 0 0 0 σ h 61 [(0, .ref a0), (1, .int x1), (3, .int x3), (4, .int s0.1), (5, .int x5), (6, .int s0.2.1), (7, .int x7), (8, .int s0.2.2.1), (9, .int s0.2.2.2.1), (10, .int s0.2.2.2.2)] []) (o := o) ?_ q_N s1 ho
      intro s2 z2 hf kb2 kr2
      obtain ⟨x4, x6, x8, x9, x10⟩ := s2
      replace hf : fX4_weeks_61 σ h a0 x1 x2 x3 x5 x7 x4 x6 x8 x9 x10 = some z2 := hf
      unfold fX4_weeks_61 at hf
      show V p l e { frames := 4, cells := 0, slots := 0, locals := 92 } s m args below meth c (MQ below (q_Qc D cy b0 (some (.int r)) σ h) args s 0 0 (fun q => b0 ≤ q)) D cy b0 12 0 0 0 0 σ h 61 [(0, .ref a0), (1, .int x1), (3, .int x3), (4, .int x4), (5, .int x5), (6, .int x6), (7, .int x7), (8, .int x8), (9, .int x9), (10, .int x10)] []
      have n178 : ∀ (x4 : Int32) (x6 : Int32) (x8 : Int32) (x9 : Int32) (x10 : Int32), fX4_weeks_178 σ h a0 x1 x2 x3 x4 x5 x6 x7 x8 x9 x10 = some z2 → V p l e { frames := 4, cells := 0, slots := 0, locals := 92 } s m args below meth c (MQ below (q_Qc D cy b0 (some (.int r)) σ h) args s 0 0 (fun q => b0 ≤ q)) D cy b0 12 0 0 0 0 σ h 178 [(0, .ref a0), (1, .int x1), (3, .int x3), (4, .int x4), (5, .int x5), (6, .int x6), (7, .int x7), (8, .int x8), (9, .int x9), (10, .int x10)] [] := by
        intro x4 x6 x8 x9 x10 hf
        unfold fX4_weeks_178 at hf
        refine v_run C0 tbX4 cokX4_weeks (pc' := 61) (lv' := [(10, .int (x10 + (1 : Int32))), (0, .ref a0), (1, .int x1), (3, .int x3), (4, .int x4), (5, .int x5), (6, .int x6), (7, .int x7), (8, .int x8), (9, .int x9)]) (st' := []) (h' := h) 2 rfl trivial ?_
        obtain rfl := Option.some.inj hf
        refine v_pick [1, 2, 3, 4, 5, 6, 7, 8, 9, 0] rfl ?_
        exact kb2 _ rfl
      refine v_run C0 tbX4 cokX4_weeks (pc' := 70) (lv' := [(0, .ref a0), (1, .int x1), (3, .int x3), (4, .int x4), (5, .int x5), (6, .int x6), (7, .int x7), (8, .int x8), (9, .int x9), (10, .int x10)]) (st' := [.int (q_int h (q_ref σ a0 0) 12), .int x10]) (h' := h) 4 rfl ⟨⟨ta0, q_tn k0⟩, k0, trivial⟩ ?_
      refine v_icmp_ge C0 cokX4_weeks rfl 184 (by decide) hf (fun _ hf => ?_) (fun _ hf => ?_)
      · obtain rfl := Option.some.inj hf
        refine v_pick [0, 1, 2, 3, 4, 5, 6, 8] rfl ?_
        have hx := kr2 _ rfl
        subst hx
        exact kx2
      · refine v_run C0 tbX4 cokX4_weeks (pc' := 75) (lv' := [(0, .ref a0), (1, .int x1), (3, .int x3), (4, .int x4), (5, .int x5), (6, .int x6), (7, .int x7), (8, .int x8), (9, .int x9), (10, .int x10)]) (st' := [.int x4]) (h' := h) 1 rfl trivial ?_
        obtain ⟨r6, e6, hf⟩ := q_bd hf
        refine v_callS C0 cokX4_weeks rfl (rest := []) (ctX4_nextSeed x4 e6) calX4_nextSeed lkX4_304 inX4_nextSeed dnX4_nextSeed rfl rfl ⟨by decide, by decide⟩ (Nat.le_of_ble_eq_true rfl) (Nat.le_refl _) (Nat.le_refl _) ?_
        refine v_run C0 tbX4 cokX4_weeks (pc' := 84) (lv' := [(4, .int r6), (0, .ref a0), (1, .int x1), (3, .int x3), (5, .int x5), (6, .int x6), (7, .int x7), (8, .int x8), (9, .int x9), (10, .int x10)]) (st' := [.int r6, .int (10 : Int32)]) (h' := h) 3 rfl trivial ?_
        obtain ⟨r7, e7, hf⟩ := q_bd hf
        refine v_callS C0 cokX4_weeks rfl (rest := []) (ctX4_drawBelow (10 : Int32) r6 e7) calX4_drawBelow lkX4_307 inX4_drawBelow dnX4_drawBelow rfl rfl ⟨by decide, by decide⟩ (Nat.le_of_ble_eq_true rfl) (Nat.le_refl _) (Nat.le_refl _) ?_
        refine v_run C0 tbX4 cokX4_weeks (pc' := 96) (lv' := [(4, .int r6), (0, .ref a0), (1, .int x1), (3, .int x3), (5, .int x5), (6, .int x6), (7, .int x7), (8, .int x8), (9, .int x9), (10, .int x10)]) (st' := [.int x10, .ref (q_ref σ (q_ref σ a0 0) 8), .int r7]) (h' := h) 4 rfl ⟨⟨ta0, q_tn k0⟩, ⟨k0, q_tn k1⟩, trivial⟩ ?_
        obtain ⟨r8, e8, hf⟩ := q_bd hf
        refine v_callS C0 cokX4_weeks rfl (rest := [.int r7]) (ctX4_at (q_ref σ (q_ref σ a0 0) 8) x10 k1 e8) calX4_at lkX4_105 inX4_at dnX4_at rfl rfl ⟨by decide, by decide⟩ (Nat.le_of_ble_eq_true rfl) (Nat.le_refl _) (Nat.le_refl _) ?_
        refine v_icmp_lt C0 cokX4_weeks rfl 178 (by decide) hf (fun _ hf => ?_) (fun _ hf => ?_)
        · refine v_pick [1, 2, 3, 0, 4, 5, 6, 7, 8, 9] rfl ?_
          exact n178 r6 x6 x8 x9 x10 hf
        · refine v_run C0 tbX4 cokX4_weeks (pc' := 111) (lv' := [(4, .int r6), (0, .ref a0), (1, .int x1), (3, .int x3), (5, .int x5), (6, .int x6), (7, .int x7), (8, .int x8), (9, .int x9), (10, .int x10)]) (st' := [.int x10, .ref (q_ref σ (q_ref σ a0 0) 9)]) (h' := h) 4 rfl ⟨⟨ta0, q_tn k0⟩, ⟨k0, q_tn k2⟩, trivial⟩ ?_
          obtain ⟨r9, e9, hf⟩ := q_bd hf
          refine v_callS C0 cokX4_weeks rfl (rest := []) (ctX4_at (q_ref σ (q_ref σ a0 0) 9) x10 k2 e9) calX4_at lkX4_105 inX4_at dnX4_at rfl rfl ⟨by decide, by decide⟩ (Nat.le_of_ble_eq_true rfl) (Nat.le_refl _) (Nat.le_refl _) ?_
          refine v_run C0 tbX4 cokX4_weeks (pc' := 116) (lv' := [(4, .int r6), (0, .ref a0), (1, .int x1), (3, .int x3), (5, .int x5), (6, .int x6), (7, .int x7), (8, .int x8), (9, .int x9), (10, .int x10)]) (st' := [.int (9 : Int32), .int r9]) (h' := h) 1 rfl trivial ?_
          refine v_icmp_eq C0 cokX4_weeks rfl 122 (by decide) hf (fun _ hf => ?_) (fun _ hf => ?_)
          · refine v_run C0 tbX4 cokX4_weeks (pc' := 132) (lv' := [(4, .int r6), (0, .ref a0), (1, .int x1), (3, .int x3), (5, .int x5), (6, .int x6), (7, .int x7), (8, .int x8), (9, .int x9), (10, .int x10)]) (st' := [.int x9, .int x8, .int x10, .ref (q_ref σ a0 0)]) (h' := h) 5 rfl ⟨⟨ta0, q_tn k0⟩, trivial⟩ ?_
            obtain ⟨r10, e10, hf⟩ := q_bd hf
            refine v_callV C0 cokX4_weeks rfl (rest := []) (ctX2_leastFor (q_ref σ a0 0) x10 x8 x9 k0 e10) calX2_leastFor lkX4_310 inX2_leastFor dnX2_leastFor (ci := 2) ⟨rfl, by decide⟩ k0 rfl rfl ⟨by decide, by decide⟩ (Nat.le_of_ble_eq_true rfl) (Nat.le_refl _) (Nat.le_refl _) ?_
            refine v_run C0 tbX4 cokX4_weeks (pc' := 141) (lv' := [(11, .int r10), (4, .int r6), (0, .ref a0), (1, .int x1), (3, .int x3), (5, .int x5), (6, .int x6), (7, .int x7), (8, .int x8), (9, .int x9), (10, .int x10)]) (st' := [.int (9 : Int32), .int r10]) (h' := h) 3 rfl trivial ?_
            refine v_icmp_ne C0 cokX4_weeks rfl 150 (by decide) hf (fun _ hf => ?_) (fun _ hf => ?_)
            · refine v_run C0 tbX4 cokX4_weeks (pc' := 178) (lv' := [(6, .int (x6 + (1 : Int32))), (11, .int r10), (4, .int r6), (0, .ref a0), (1, .int x1), (3, .int x3), (5, .int x5), (7, .int x7), (8, .int x8), (9, .int x9), (10, .int x10)]) (st' := []) (h' := h) 2 rfl trivial ?_
              refine v_pick [3, 4, 5, 2, 6, 0, 7, 8, 9, 10] rfl ?_
              exact n178 r6 (x6 + (1 : Int32)) x8 x9 x10 hf
            · refine v_run C0 tbX4 cokX4_weeks (pc' := 158) (lv' := [(11, .int r10), (4, .int r6), (0, .ref a0), (1, .int x1), (3, .int x3), (5, .int x5), (6, .int x6), (7, .int x7), (8, .int x8), (9, .int x9), (10, .int x10)]) (st' := [.int r10, .ref (q_ref σ a0 0), .int x9]) (h' := h) 4 rfl ⟨⟨ta0, q_tn k0⟩, trivial⟩ ?_
              obtain ⟨r11, e11, hf⟩ := q_bd hf
              refine v_callV C0 cokX4_weeks rfl (rest := [.int x9]) (ctX2_kindOf (q_ref σ a0 0) r10 k0 e11) calX2_kindOf lkX4_92 inX2_kindOf dnX2_kindOf (ci := 2) ⟨rfl, by decide⟩ k0 rfl rfl ⟨by decide, by decide⟩ (Nat.le_of_ble_eq_true rfl) (Nat.le_refl _) (Nat.le_refl _) ?_
              obtain ⟨g12, hf⟩ := q_gu_o hf
              refine v_run C0 tbX4 cokX4_weeks (pc' := 178) (lv' := [(8, .int (x8 &&& (((1 : Int32) <<< (r10 &&& 31)) ^^^ (-1 : Int32)))), (9, .int (x9 + (q_int h r11 2))), (11, .int r10), (4, .int r6), (0, .ref a0), (1, .int x1), (3, .int x3), (5, .int x5), (6, .int x6), (7, .int x7), (10, .int x10)]) (st' := []) (h' := h) 11 rfl ⟨g12, trivial⟩ ?_
              refine v_pick [4, 5, 6, 3, 7, 8, 9, 0, 1, 10] rfl ?_
              exact n178 r6 x6 (x8 &&& (((1 : Int32) <<< (r10 &&& 31)) ^^^ (-1 : Int32))) (x9 + (q_int h r11 2)) x10 hf
          · refine v_run C0 tbX4 cokX4_weeks (pc' := 178) (lv' := [(4, .int r6), (0, .ref a0), (1, .int x1), (3, .int x3), (5, .int x5), (6, .int x6), (7, .int x7), (8, .int x8), (9, .int x9), (10, .int x10)]) (st' := []) (h' := h) 1 rfl trivial ?_
            refine v_pick [1, 2, 3, 0, 4, 5, 6, 7, 8, 9] rfl ?_
            exact n178 r6 x6 x8 x9 x10 hf
    refine v_run C0 tbX4 cokX4_weeks (pc' := 36) (lv' := [(0, .ref a0), (1, .int x1), (3, .int x3), (4, .int x4), (5, .int x5), (6, .int x6), (7, .int x7)]) (st' := [.int x1, .int x7]) (h' := h) 2 rfl trivial ?_
    refine v_icmp_ge C0 cokX4_weeks rfl 205 (by decide) hf (fun _ hf => ?_) (fun _ hf => ?_)
    · obtain rfl := Option.some.inj hf
      refine v_pick [2, 4, 5] rfl ?_
      have hx := kr1 _ rfl
      subst hx
      exact kx1
    · refine v_run C0 tbX4 cokX4_weeks (pc' := 44) (lv' := [(0, .ref a0), (1, .int x1), (3, .int x3), (4, .int x4), (5, .int x5), (6, .int x6), (7, .int x7)]) (st' := [.int (0 : Int32), .ref (q_ref σ a0 0)]) (h' := h) 3 rfl ⟨⟨ta0, q_tn k0⟩, trivial⟩ ?_
      obtain ⟨r4, e4, hf⟩ := q_bd hf
      refine v_callV C0 cokX4_weeks rfl (rest := []) (ctX2_suitsThatAre (q_ref σ a0 0) (0 : Int32) k0 e4) calX2_suitsThatAre lkX4_251 inX2_suitsThatAre dnX2_suitsThatAre (ci := 2) ⟨rfl, by decide⟩ k0 rfl rfl ⟨by decide, by decide⟩ (Nat.le_of_ble_eq_true rfl) (Nat.le_refl _) (Nat.le_refl _) ?_
      refine v_run C0 tbX4 cokX4_weeks (pc' := 61) (lv' := [(10, .int (0 : Int32)), (9, .int (q_int h (q_ref σ a0 0) 13)), (8, .int r4), (0, .ref a0), (1, .int x1), (3, .int x3), (4, .int x4), (5, .int x5), (6, .int x6), (7, .int x7)]) (st' := []) (h' := h) 7 rfl ⟨⟨ta0, q_tn k0⟩, k0, trivial⟩ ?_
      obtain ⟨o5, eo5, hf⟩ := q_bd hf
      refine v_pick [3, 4, 5, 6, 7, 8, 9, 2, 1, 0] rfl ?_
      refine n61 x5 x7 o5 (x4, x6, r4, (q_int h (q_ref σ a0 0) 13), (0 : Int32)) eo5 ?_
      refine v_run C0 tbX4 cokX4_weeks (pc' := 33) (lv' := [(7, .int (x7 + (1 : Int32))), (5, .int (x5 + (o5.2.2 - (q_int h (q_ref σ a0 0) 13)))), (0, .ref a0), (1, .int x1), (3, .int x3), (4, .int o5.1), (6, .int o5.2.1), (9, .int o5.2.2)]) (st' := []) (h' := h) 10 rfl ⟨⟨ta0, q_tn k0⟩, k0, trivial⟩ ?_
      obtain rfl := Option.some.inj hf
      refine v_pick [2, 3, 4, 5, 1, 6, 0] rfl ?_
      exact kb1 _ rfl
  refine v_run C0 tbX4 cokX4_weeks (pc' := 4) (lv' := [(0, .ref a0), (1, .int x1), (2, .int x2), (3, .int x3)]) (st' := [.int (20 : Int32), .int (1 : Int32), .int x1]) (h' := h) 3 rfl trivial ?_
  obtain ⟨r1, e1, hf⟩ := q_bd hf
  refine v_callS C0 cokX4_weeks rfl (rest := []) (ctX4_isIn x1 (1 : Int32) (20 : Int32) e1) calX4_isIn lkX4_148 inX4_isIn dnX4_isIn rfl rfl ⟨by decide, by decide⟩ (Nat.le_of_ble_eq_true rfl) (Nat.le_refl _) (Nat.le_refl _) ?_
  refine v_if_eq C0 cokX4_weeks rfl 19 (by decide) hf (fun _ hf => ?_) (fun _ hf => ?_)
  · refine v_run C0 tbX4 cokX4_weeks (pc' := 20) (lv' := [(0, .ref a0), (1, .int x1), (2, .int x2), (3, .int x3)]) (st' := [.int (-1 : Int32)]) (h' := h) 1 rfl trivial ?_
    obtain rfl := Option.some.inj hf
    exact v_iret C0 cokX4_weeks hr hlk rfl
  · refine v_run C0 tbX4 cokX4_weeks (pc' := 13) (lv' := [(0, .ref a0), (1, .int x1), (2, .int x2), (3, .int x3)]) (st' := [.int (1 : Int32), .int (0 : Int32), .int x3]) (h' := h) 3 rfl trivial ?_
    obtain ⟨r2, e2, hf⟩ := q_bd hf
    refine v_callS C0 cokX4_weeks rfl (rest := []) (ctX4_isIn x3 (0 : Int32) (1 : Int32) e2) calX4_isIn lkX4_148 inX4_isIn dnX4_isIn rfl rfl ⟨by decide, by decide⟩ (Nat.le_of_ble_eq_true rfl) (Nat.le_refl _) (Nat.le_refl _) ?_
    refine v_if_ne C0 cokX4_weeks rfl 21 (by decide) hf (fun _ hf => ?_) (fun _ hf => ?_)
    · refine v_run C0 tbX4 cokX4_weeks (pc' := 20) (lv' := [(0, .ref a0), (1, .int x1), (2, .int x2), (3, .int x3)]) (st' := [.int (-1 : Int32)]) (h' := h) 1 rfl trivial ?_
      obtain rfl := Option.some.inj hf
      exact v_iret C0 cokX4_weeks hr hlk rfl
    · refine v_run C0 tbX4 cokX4_weeks (pc' := 33) (lv' := [(7, .int (0 : Int32)), (6, .int (0 : Int32)), (5, .int (0 : Int32)), (4, .int x2), (0, .ref a0), (1, .int x1), (2, .int x2), (3, .int x3)]) (st' := []) (h' := h) 8 rfl trivial ?_
      obtain ⟨o3, eo3, hf⟩ := q_bd hf
      refine v_pick [4, 5, 7, 3, 2, 1, 0] rfl ?_
      refine n33 o3 (x2, (0 : Int32), (0 : Int32), (0 : Int32)) eo3 ?_
      refine v_run C0 tbX4 cokX4_weeks (pc' := 206) (lv' := [(3, .int x3), (5, .int o3.1), (6, .int o3.2)]) (st' := [.int x3]) (h' := h) 1 rfl trivial ?_
      refine v_if_ne C0 cokX4_weeks rfl 214 (by decide) hf (fun _ hf => ?_) (fun _ hf => ?_)
      · refine v_run C0 tbX4 cokX4_weeks (pc' := 216) (lv' := [(3, .int x3), (5, .int o3.1), (6, .int o3.2)]) (st' := [.int o3.1]) (h' := h) 2 rfl trivial ?_
        obtain rfl := Option.some.inj hf
        exact v_iret C0 cokX4_weeks hr hlk rfl
      · refine v_run C0 tbX4 cokX4_weeks (pc' := 216) (lv' := [(3, .int x3), (5, .int o3.1), (6, .int o3.2)]) (st' := [.int o3.2]) (h' := h) 1 rfl trivial ?_
        obtain rfl := Option.some.inj hf
        exact v_iret C0 cokX4_weeks hr hlk rfl
-- BackByNoonOnMonday.image()I
noncomputable def fX4_image (σ : q_St) (h : q_Hp) (a0 : Nat) : Option (Int32 × q_St × q_Hp) := q_gu ((q_tag σ (q_ref σ a0 2) = 3) ∧ (q_tag σ (q_ref σ a0 0) = 3)) ((q_b2 (fX2_become σ h (q_ref σ a0 2) (q_ref σ a0 0)) fun σ3 h3 => q_gu ((q_tag σ3 a0 = 5) ∧ (q_tag σ3 (q_ref σ3 a0 0) = 3)) (some ((q_int (q_si h3 a0 3 (1 : Int32)) (q_ref σ3 a0 0) 14), σ3, (q_si h3 a0 3 (1 : Int32))))))
def cdX4_image : q_Cd := [(0, .aload_n 0), (1, .getfield 19), (4, .aload_n 0), (5, .getfield 12), (8, .invokevirtual 313), (11, .aload_n 0), (12, .iconst 1), (13, .putfield 22), (16, .aload_n 0), (17, .getfield 12), (20, .getfield 316), (23, .ireturn)]
set_option maxRecDepth 100000 in
theorem cokX4_image : q_cok cX4_image cdX4_image := by unfold q_cok; decide +kernel
set_option maxRecDepth 100000 in
set_option maxHeartbeats 4000000 in
theorem ctX4_image {l : Launch} {D : va_G} {cy : Nat → Nat} {b0 : Nat} {σ : q_St} {h : q_Hp} (a0 : Nat) {r : Int32} {σ' : q_St} {h' : q_Hp} (ta0 : q_tag σ a0 = 5) (hf : fX4_image σ h a0 = some (r, σ', h')) : q_M l yX4_image cX4_image 1 (some .int) 2 44 0 0 D cy b0 σ h [.ref a0] (some (.int r)) σ' h' := by
  unfold fX4_image at hf
  refine q_enter (by decide) (Nat.le_of_ble_eq_true rfl) ?_
  intro p e s m args below meth c C0 hr hlk hnm
  replace C0 : VC p { frames := 2, cells := 0, slots := 0, locals := 44 } s m args meth c D cy b0 1 0 0 RX4 cX4_image := C0
  obtain ⟨⟨g1, g2⟩, hf⟩ := q_gu_o hf
  refine v_run C0 tbX4 cokX4_image (pc' := 8) (lv' := [(0, .ref a0)]) (st' := [.ref (q_ref σ a0 0), .ref (q_ref σ a0 2)]) (h' := h) 4 rfl ⟨⟨ta0, q_tn g1⟩, ⟨ta0, q_tn g2⟩, trivial⟩ ?_
  obtain ⟨σ3, h3, e3, hf⟩ := q_bd2 hf
  refine v_callV C0 cokX4_image rfl (rest := []) (ctX2_become (q_ref σ a0 2) (q_ref σ a0 0) g1 g2 e3) calX2_become lkX4_313 inX2_become dnX2_become (ci := 2) ⟨rfl, by decide⟩ g1 rfl rfl ⟨by decide, by decide⟩ (Nat.le_of_ble_eq_true rfl) (Nat.le_refl _) (Nat.le_refl _) ?_
  obtain ⟨⟨g4, g5⟩, hf⟩ := q_gu_o hf
  refine v_run C0 tbX4 cokX4_image (pc' := 23) (lv' := [(0, .ref a0)]) (st' := [.int (q_int (q_si h3 a0 3 (1 : Int32)) (q_ref σ3 a0 0) 14)]) (h' := (q_si h3 a0 3 (1 : Int32))) 6 rfl ⟨⟨g4, (Or.inr rfl)⟩, ⟨g4, q_tn g5⟩, g5, trivial⟩ ?_
  obtain ⟨hq1, hq2⟩ := Prod.mk.inj (Option.some.inj hf)
  obtain ⟨hq3, hq4⟩ := Prod.mk.inj hq2
  subst hq1
  subst hq3
  subst hq4
  exact v_iret C0 cokX4_image hr hlk rfl
-- BackByNoonOnMonday.restore()I
noncomputable def fX4_restore (σ : q_St) (h : q_Hp) (a0 : Nat) : Option (Int32 × q_St × q_Hp) := (if (q_int h a0 3) = 0 then some ((-3 : Int32), σ, h) else q_gu ((q_tag σ (q_ref σ a0 0) = 3) ∧ (q_tag σ (q_ref σ a0 2) = 3)) ((q_b2 (fX2_become σ h (q_ref σ a0 0) (q_ref σ a0 2)) fun σ3 h3 => q_gu ((q_tag σ3 a0 = 5) ∧ (q_tag σ3 (q_ref σ3 a0 0) = 3)) (some ((q_int h3 (q_ref σ3 a0 0) 14), σ3, h3)))))
def cdX4_restore : q_Cd := [(0, .aload_n 0), (1, .getfield 22), (4, .ifCond .ne 6), (7, .bipush (-3)), (9, .ireturn), (10, .aload_n 0), (11, .getfield 12), (14, .aload_n 0), (15, .getfield 19), (18, .invokevirtual 313), (21, .aload_n 0), (22, .getfield 12), (25, .getfield 316), (28, .ireturn)]
set_option maxRecDepth 100000 in
theorem cokX4_restore : q_cok cX4_restore cdX4_restore := by unfold q_cok; decide +kernel
set_option maxRecDepth 100000 in
set_option maxHeartbeats 4000000 in
theorem ctX4_restore {l : Launch} {D : va_G} {cy : Nat → Nat} {b0 : Nat} {σ : q_St} {h : q_Hp} (a0 : Nat) {r : Int32} {σ' : q_St} {h' : q_Hp} (ta0 : q_tag σ a0 = 5) (hf : fX4_restore σ h a0 = some (r, σ', h')) : q_M l yX4_restore cX4_restore 1 (some .int) 2 44 0 0 D cy b0 σ h [.ref a0] (some (.int r)) σ' h' := by
  unfold fX4_restore at hf
  refine q_enter (by decide) (Nat.le_of_ble_eq_true rfl) ?_
  intro p e s m args below meth c C0 hr hlk hnm
  replace C0 : VC p { frames := 2, cells := 0, slots := 0, locals := 44 } s m args meth c D cy b0 1 0 0 RX4 cX4_restore := C0
  refine v_run C0 tbX4 cokX4_restore (pc' := 4) (lv' := [(0, .ref a0)]) (st' := [.int (q_int h a0 3)]) (h' := h) 2 rfl ⟨ta0, trivial⟩ ?_
  refine v_if_ne C0 cokX4_restore rfl 10 (by decide) hf (fun _ hf => ?_) (fun _ hf => ?_)
  · refine v_run C0 tbX4 cokX4_restore (pc' := 9) (lv' := [(0, .ref a0)]) (st' := [.int (-3 : Int32)]) (h' := h) 1 rfl trivial ?_
    obtain ⟨hq1, hq2⟩ := Prod.mk.inj (Option.some.inj hf)
    obtain ⟨hq3, hq4⟩ := Prod.mk.inj hq2
    subst hq1
    subst hq3
    subst hq4
    exact v_iret C0 cokX4_restore hr hlk rfl
  · obtain ⟨⟨g1, g2⟩, hf⟩ := q_gu_o hf
    refine v_run C0 tbX4 cokX4_restore (pc' := 18) (lv' := [(0, .ref a0)]) (st' := [.ref (q_ref σ a0 2), .ref (q_ref σ a0 0)]) (h' := h) 4 rfl ⟨⟨ta0, q_tn g1⟩, ⟨ta0, q_tn g2⟩, trivial⟩ ?_
    obtain ⟨σ3, h3, e3, hf⟩ := q_bd2 hf
    refine v_callV C0 cokX4_restore rfl (rest := []) (ctX2_become (q_ref σ a0 0) (q_ref σ a0 2) g1 g2 e3) calX2_become lkX4_313 inX2_become dnX2_become (ci := 2) ⟨rfl, by decide⟩ g1 rfl rfl ⟨by decide, by decide⟩ (Nat.le_of_ble_eq_true rfl) (Nat.le_refl _) (Nat.le_refl _) ?_
    obtain ⟨⟨g4, g5⟩, hf⟩ := q_gu_o hf
    refine v_run C0 tbX4 cokX4_restore (pc' := 28) (lv' := [(0, .ref a0)]) (st' := [.int (q_int h3 (q_ref σ3 a0 0) 14)]) (h' := h3) 3 rfl ⟨⟨g4, q_tn g5⟩, g5, trivial⟩ ?_
    obtain ⟨hq1, hq2⟩ := Prod.mk.inj (Option.some.inj hf)
    obtain ⟨hq3, hq4⟩ := Prod.mk.inj hq2
    subst hq1
    subst hq3
    subst hq4
    exact v_iret C0 cokX4_restore hr hlk rfl
-- BackByNoonOnMonday.count(I)I
noncomputable def fX4_count (σ : q_St) (h : q_Hp) (a0 : Nat) (x1 : Int32) : Option Int32 := q_gu ((q_tag σ (q_ref σ a0 0) = 3)) ((if x1 = (0 : Int32) then some (q_int h (q_ref σ a0 0) 11) else (if x1 = (1 : Int32) then some (q_int h (q_ref σ a0 0) 12) else (if x1 = (2 : Int32) then some (q_int h (q_ref σ a0 0) 13) else (if x1 = (3 : Int32) then some (q_int h (q_ref σ a0 0) 14) else (if x1 = (4 : Int32) then ((fX2_suitsThatAre σ h (q_ref σ a0 0) (0 : Int32)).bind fun r5 => some r5) else (if x1 = (5 : Int32) then ((fX2_suitsThatAre σ h (q_ref σ a0 0) (1 : Int32)).bind fun r7 => some r7) else (if x1 = (6 : Int32) then ((fX2_suitsThatAre σ h (q_ref σ a0 0) (2 : Int32)).bind fun r9 => some r9) else (if x1 = (7 : Int32) then ((fX2_allWorn σ h (q_ref σ a0 0)).bind fun r11 => some r11) else some (-1 : Int32))))))))))
def cdX4_count : q_Cd := [(0, .iload_n 1), (48, .aload_n 0), (49, .getfield 12), (52, .getfield 244), (55, .ireturn), (56, .aload_n 0), (57, .getfield 12), (60, .getfield 181), (63, .ireturn), (64, .aload_n 0), (65, .getfield 12), (68, .getfield 301), (71, .ireturn), (72, .aload_n 0), (73, .getfield 12), (76, .getfield 316), (79, .ireturn), (80, .aload_n 0), (81, .getfield 12), (84, .iconst 0), (85, .invokevirtual 251), (88, .ireturn), (89, .aload_n 0), (90, .getfield 12), (93, .iconst 1), (94, .invokevirtual 251), (97, .ireturn), (98, .aload_n 0), (99, .getfield 12), (102, .iconst 2), (103, .invokevirtual 251), (106, .ireturn), (107, .aload_n 0), (108, .getfield 12), (111, .invokevirtual 319), (114, .ireturn), (115, .iconst (-1)), (116, .ireturn)]
set_option maxRecDepth 100000 in
theorem cokX4_count : q_cok cX4_count cdX4_count := by unfold q_cok; decide +kernel
theorem dswX4_count_1 : decode cX4_count 1 = .ok (.tableswitch 114 0 7 #[47, 55, 63, 71, 79, 88, 97, 106], 47) := by decide +kernel
set_option maxRecDepth 100000 in
set_option maxHeartbeats 4000000 in
theorem ctX4_count {l : Launch} {D : va_G} {cy : Nat → Nat} {b0 : Nat} {σ : q_St} {h : q_Hp} (a0 : Nat) (x1 : Int32) {r : Int32} (ta0 : q_tag σ a0 = 5) (hf : fX4_count σ h a0 x1 = some r) : q_M l yX4_count cX4_count 2 (some .int) 2 44 0 0 D cy b0 σ h [.ref a0, .int x1] (some (.int r)) σ h := by
  unfold fX4_count at hf
  obtain ⟨k0, hf⟩ := q_gu_o hf
  refine q_enter (by decide) (Nat.le_of_ble_eq_true rfl) ?_
  intro p e s m args below meth c C0 hr hlk hnm
  replace C0 : VC p { frames := 2, cells := 0, slots := 0, locals := 44 } s m args meth c D cy b0 2 0 0 RX4 cX4_count := C0
  refine v_run C0 tbX4 cokX4_count (pc' := 1) (lv' := [(0, .ref a0), (1, .int x1)]) (st' := [.int x1]) (h' := h) 1 rfl trivial ?_
  rcases q_ite hf with ⟨d1, hf⟩ | ⟨d1, hf⟩
  · refine v_tabI C0 dswX4_count_1 d1 48 (by decide +kernel) (by decide +kernel) ?_
    refine v_run C0 tbX4 cokX4_count (pc' := 55) (lv' := [(0, .ref a0), (1, .int x1)]) (st' := [.int (q_int h (q_ref σ a0 0) 11)]) (h' := h) 3 rfl ⟨⟨ta0, q_tn k0⟩, k0, trivial⟩ ?_
    obtain rfl := Option.some.inj hf
    exact v_iret C0 cokX4_count hr hlk rfl
  · rcases q_ite hf with ⟨d2, hf⟩ | ⟨d2, hf⟩
    · refine v_tabI C0 dswX4_count_1 d2 56 (by decide +kernel) (by decide +kernel) ?_
      refine v_run C0 tbX4 cokX4_count (pc' := 63) (lv' := [(0, .ref a0), (1, .int x1)]) (st' := [.int (q_int h (q_ref σ a0 0) 12)]) (h' := h) 3 rfl ⟨⟨ta0, q_tn k0⟩, k0, trivial⟩ ?_
      obtain rfl := Option.some.inj hf
      exact v_iret C0 cokX4_count hr hlk rfl
    · rcases q_ite hf with ⟨d3, hf⟩ | ⟨d3, hf⟩
      · refine v_tabI C0 dswX4_count_1 d3 64 (by decide +kernel) (by decide +kernel) ?_
        refine v_run C0 tbX4 cokX4_count (pc' := 71) (lv' := [(0, .ref a0), (1, .int x1)]) (st' := [.int (q_int h (q_ref σ a0 0) 13)]) (h' := h) 3 rfl ⟨⟨ta0, q_tn k0⟩, k0, trivial⟩ ?_
        obtain rfl := Option.some.inj hf
        exact v_iret C0 cokX4_count hr hlk rfl
      · rcases q_ite hf with ⟨d4, hf⟩ | ⟨d4, hf⟩
        · refine v_tabI C0 dswX4_count_1 d4 72 (by decide +kernel) (by decide +kernel) ?_
          refine v_run C0 tbX4 cokX4_count (pc' := 79) (lv' := [(0, .ref a0), (1, .int x1)]) (st' := [.int (q_int h (q_ref σ a0 0) 14)]) (h' := h) 3 rfl ⟨⟨ta0, q_tn k0⟩, k0, trivial⟩ ?_
          obtain rfl := Option.some.inj hf
          exact v_iret C0 cokX4_count hr hlk rfl
        · rcases q_ite hf with ⟨d6, hf⟩ | ⟨d6, hf⟩
          · refine v_tabI C0 dswX4_count_1 d6 80 (by decide +kernel) (by decide +kernel) ?_
            refine v_run C0 tbX4 cokX4_count (pc' := 85) (lv' := [(0, .ref a0), (1, .int x1)]) (st' := [.int (0 : Int32), .ref (q_ref σ a0 0)]) (h' := h) 3 rfl ⟨⟨ta0, q_tn k0⟩, trivial⟩ ?_
            obtain ⟨r5, e5, hf⟩ := q_bd hf
            refine v_callV C0 cokX4_count rfl (rest := []) (ctX2_suitsThatAre (q_ref σ a0 0) (0 : Int32) k0 e5) calX2_suitsThatAre lkX4_251 inX2_suitsThatAre dnX2_suitsThatAre (ci := 2) ⟨rfl, by decide⟩ k0 rfl rfl ⟨by decide, by decide⟩ (Nat.le_of_ble_eq_true rfl) (Nat.le_refl _) (Nat.le_refl _) ?_
            obtain rfl := Option.some.inj hf
            exact v_iret C0 cokX4_count hr hlk rfl
          · rcases q_ite hf with ⟨d8, hf⟩ | ⟨d8, hf⟩
            · refine v_tabI C0 dswX4_count_1 d8 89 (by decide +kernel) (by decide +kernel) ?_
              refine v_run C0 tbX4 cokX4_count (pc' := 94) (lv' := [(0, .ref a0), (1, .int x1)]) (st' := [.int (1 : Int32), .ref (q_ref σ a0 0)]) (h' := h) 3 rfl ⟨⟨ta0, q_tn k0⟩, trivial⟩ ?_
              obtain ⟨r7, e7, hf⟩ := q_bd hf
              refine v_callV C0 cokX4_count rfl (rest := []) (ctX2_suitsThatAre (q_ref σ a0 0) (1 : Int32) k0 e7) calX2_suitsThatAre lkX4_251 inX2_suitsThatAre dnX2_suitsThatAre (ci := 2) ⟨rfl, by decide⟩ k0 rfl rfl ⟨by decide, by decide⟩ (Nat.le_of_ble_eq_true rfl) (Nat.le_refl _) (Nat.le_refl _) ?_
              obtain rfl := Option.some.inj hf
              exact v_iret C0 cokX4_count hr hlk rfl
            · rcases q_ite hf with ⟨d10, hf⟩ | ⟨d10, hf⟩
              · refine v_tabI C0 dswX4_count_1 d10 98 (by decide +kernel) (by decide +kernel) ?_
                refine v_run C0 tbX4 cokX4_count (pc' := 103) (lv' := [(0, .ref a0), (1, .int x1)]) (st' := [.int (2 : Int32), .ref (q_ref σ a0 0)]) (h' := h) 3 rfl ⟨⟨ta0, q_tn k0⟩, trivial⟩ ?_
                obtain ⟨r9, e9, hf⟩ := q_bd hf
                refine v_callV C0 cokX4_count rfl (rest := []) (ctX2_suitsThatAre (q_ref σ a0 0) (2 : Int32) k0 e9) calX2_suitsThatAre lkX4_251 inX2_suitsThatAre dnX2_suitsThatAre (ci := 2) ⟨rfl, by decide⟩ k0 rfl rfl ⟨by decide, by decide⟩ (Nat.le_of_ble_eq_true rfl) (Nat.le_refl _) (Nat.le_refl _) ?_
                obtain rfl := Option.some.inj hf
                exact v_iret C0 cokX4_count hr hlk rfl
              · rcases q_ite hf with ⟨d12, hf⟩ | ⟨d12, hf⟩
                · refine v_tabI C0 dswX4_count_1 d12 107 (by decide +kernel) (by decide +kernel) ?_
                  refine v_run C0 tbX4 cokX4_count (pc' := 111) (lv' := [(0, .ref a0), (1, .int x1)]) (st' := [.ref (q_ref σ a0 0)]) (h' := h) 2 rfl ⟨⟨ta0, q_tn k0⟩, trivial⟩ ?_
                  obtain ⟨r11, e11, hf⟩ := q_bd hf
                  refine v_callV C0 cokX4_count rfl (rest := []) (ctX2_allWorn (q_ref σ a0 0) k0 e11) calX2_allWorn lkX4_319 inX2_allWorn dnX2_allWorn (ci := 2) ⟨rfl, by decide⟩ k0 rfl rfl ⟨by decide, by decide⟩ (Nat.le_of_ble_eq_true rfl) (Nat.le_refl _) (Nat.le_refl _) ?_
                  obtain rfl := Option.some.inj hf
                  exact v_iret C0 cokX4_count hr hlk rfl
                · refine v_tabO C0 dswX4_count_1 115 (by decide +kernel) (fun k h1 h2 hk => ?_) ?_
                  · have hk2 : k = 0 ∨ k = 1 ∨ k = 2 ∨ k = 3 ∨ k = 4 ∨ k = 5 ∨ k = 6 ∨ k = 7 := by omega
                    rcases hk2 with rfl | rfl | rfl | rfl | rfl | rfl | rfl | rfl
                    · exact d1 (Int32.toInt_inj.mp hk)
                    · exact d2 (Int32.toInt_inj.mp hk)
                    · exact d3 (Int32.toInt_inj.mp hk)
                    · exact d4 (Int32.toInt_inj.mp hk)
                    · exact d6 (Int32.toInt_inj.mp hk)
                    · exact d8 (Int32.toInt_inj.mp hk)
                    · exact d10 (Int32.toInt_inj.mp hk)
                    · exact d12 (Int32.toInt_inj.mp hk)
                  · refine v_run C0 tbX4 cokX4_count (pc' := 116) (lv' := [(0, .ref a0), (1, .int x1)]) (st' := [.int (-1 : Int32)]) (h' := h) 1 rfl trivial ?_
                    obtain rfl := Option.some.inj hf
                    exact v_iret C0 cokX4_count hr hlk rfl
-- BackByNoonOnMonday.keep(IIII)I
noncomputable def fX4_keep (σ : q_St) (h : q_Hp) (a0 : Nat) (x1 : Int32) (x2 : Int32) (x3 : Int32) (x4 : Int32) : Option (Int32 × q_St × q_Hp) := ((fX4_isShelf σ h x1).bind fun r1 => (if r1 = 0 then some ((-1 : Int32), σ, h) else ((fX4_isIn σ h x2 (0 : Int32) (1 : Int32)).bind fun r2 => (if r2 = 0 then some ((-1 : Int32), σ, h) else (if x2 = 0 then ((fX4_shelfAt σ h a0 x1).bind fun r9 => q_gu ((q_tag σ r9 = 2)) (((fX1_clear σ h r9).bind fun h11 => some ((0 : Int32), σ, h11)))) else ((fX4_isIn σ h x3 (0 : Int32) (7 : Int32)).bind fun r3 => (if r3 = 0 then some ((-1 : Int32), σ, h) else ((fX4_isIn σ h x4 (0 : Int32) (9 : Int32)).bind fun r4 => (if r4 = 0 then some ((-1 : Int32), σ, h) else ((fX4_shelfAt σ h a0 x1).bind fun r5 => ((fX3_init (q_nw σ 4 0) (q_nh h (q_sz σ)) (q_sz σ) x3 x4).bind fun h6 => q_gu ((q_tag (q_nw σ 4 0) r5 = 2)) ((q_b2 (fX1_hang (q_nw σ 4 0) h6 r5 (q_sz σ)) fun σ8 h8 => some ((0 : Int32), σ8, h8))))))))))))))
def cdX4_keep : q_Cd := [(0, .iload_n 1), (1, .invokestatic 67), (4, .ifCond .eq 12), (7, .iload_n 2), (8, .iconst 0), (9, .iconst 1), (10, .invokestatic 148), (13, .ifCond .ne 5), (16, .iconst (-1)), (17, .ireturn), (18, .iload_n 2), (19, .ifCond .ne 13), (22, .aload_n 0), (23, .iload_n 1), (24, .invokevirtual 71), (27, .invokevirtual 322), (30, .iconst 0), (31, .ireturn), (32, .iload_n 3), (33, .iconst 0), (34, .bipush 7), (36, .invokestatic 148), (39, .ifCond .eq 14), (42, .iload 4), (44, .iconst 0), (45, .bipush 9), (47, .invokestatic 148), (50, .ifCond .ne 5), (53, .iconst (-1)), (54, .ireturn), (55, .aload_n 0), (56, .iload_n 1), (57, .invokevirtual 71), (60, .new 37), (63, .dup), (64, .iload_n 3), (65, .iload 4), (67, .invokespecial 43), (70, .invokevirtual 325), (73, .iconst 0), (74, .ireturn)]
set_option maxRecDepth 100000 in
theorem cokX4_keep : q_cok cX4_keep cdX4_keep := by unfold q_cok; decide +kernel
set_option maxRecDepth 100000 in
set_option maxHeartbeats 4000000 in
theorem ctX4_keep {l : Launch} {D : va_G} {cy : Nat → Nat} {b0 : Nat} {σ : q_St} {h : q_Hp} (a0 : Nat) (x1 : Int32) (x2 : Int32) (x3 : Int32) (x4 : Int32) {r : Int32} {σ' : q_St} {h' : q_Hp} (ta0 : q_tag σ a0 = 5) (hf : fX4_keep σ h a0 x1 x2 x3 x4 = some (r, σ', h')) : q_M l yX4_keep cX4_keep 5 (some .int) 2 47 1 7 D cy b0 σ h [.ref a0, .int x1, .int x2, .int x3, .int x4] (some (.int r)) σ' h' := by
  unfold fX4_keep at hf
  refine q_enter (by decide) (Nat.le_of_ble_eq_true rfl) ?_
  intro p e s m args below meth c C0 hr hlk hnm
  replace C0 : VC p { frames := 2, cells := 1, slots := 7, locals := 47 } s m args meth c D cy b0 5 1 7 RX4 cX4_keep := C0
  refine v_run C0 tbX4 cokX4_keep (pc' := 1) (lv' := [(0, .ref a0), (1, .int x1), (2, .int x2), (3, .int x3), (4, .int x4)]) (st' := [.int x1]) (h' := h) 1 rfl trivial ?_
  obtain ⟨r1, e1, hf⟩ := q_bd hf
  refine v_callS C0 cokX4_keep rfl (rest := []) (ctX4_isShelf x1 e1) calX4_isShelf lkX4_67 inX4_isShelf dnX4_isShelf rfl rfl ⟨by decide, by decide⟩ (Nat.le_of_ble_eq_true rfl) (Nat.le_refl _) (Nat.le_refl _) ?_
  refine v_if_eq C0 cokX4_keep rfl 16 (by decide) hf (fun _ hf => ?_) (fun _ hf => ?_)
  · refine v_run C0 tbX4 cokX4_keep (pc' := 17) (lv' := [(0, .ref a0), (1, .int x1), (2, .int x2), (3, .int x3), (4, .int x4)]) (st' := [.int (-1 : Int32)]) (h' := h) 1 rfl trivial ?_
    obtain ⟨hq1, hq2⟩ := Prod.mk.inj (Option.some.inj hf)
    obtain ⟨hq3, hq4⟩ := Prod.mk.inj hq2
    subst hq1
    subst hq3
    subst hq4
    exact v_iret C0 cokX4_keep hr hlk rfl
  · refine v_run C0 tbX4 cokX4_keep (pc' := 10) (lv' := [(0, .ref a0), (1, .int x1), (2, .int x2), (3, .int x3), (4, .int x4)]) (st' := [.int (1 : Int32), .int (0 : Int32), .int x2]) (h' := h) 3 rfl trivial ?_
    obtain ⟨r2, e2, hf⟩ := q_bd hf
    refine v_callS C0 cokX4_keep rfl (rest := []) (ctX4_isIn x2 (0 : Int32) (1 : Int32) e2) calX4_isIn lkX4_148 inX4_isIn dnX4_isIn rfl rfl ⟨by decide, by decide⟩ (Nat.le_of_ble_eq_true rfl) (Nat.le_refl _) (Nat.le_refl _) ?_
    refine v_if_ne C0 cokX4_keep rfl 18 (by decide) hf (fun _ hf => ?_) (fun _ hf => ?_)
    · refine v_run C0 tbX4 cokX4_keep (pc' := 17) (lv' := [(0, .ref a0), (1, .int x1), (2, .int x2), (3, .int x3), (4, .int x4)]) (st' := [.int (-1 : Int32)]) (h' := h) 1 rfl trivial ?_
      obtain ⟨hq1, hq2⟩ := Prod.mk.inj (Option.some.inj hf)
      obtain ⟨hq3, hq4⟩ := Prod.mk.inj hq2
      subst hq1
      subst hq3
      subst hq4
      exact v_iret C0 cokX4_keep hr hlk rfl
    · refine v_run C0 tbX4 cokX4_keep (pc' := 19) (lv' := [(0, .ref a0), (1, .int x1), (2, .int x2), (3, .int x3), (4, .int x4)]) (st' := [.int x2]) (h' := h) 1 rfl trivial ?_
      refine v_if_ne C0 cokX4_keep rfl 32 (by decide) hf (fun _ hf => ?_) (fun _ hf => ?_)
      · refine v_run C0 tbX4 cokX4_keep (pc' := 24) (lv' := [(0, .ref a0), (1, .int x1), (2, .int x2), (3, .int x3), (4, .int x4)]) (st' := [.int x1, .ref a0]) (h' := h) 2 rfl trivial ?_
        obtain ⟨r9, e9, hf⟩ := q_bd hf
        refine v_callV C0 cokX4_keep rfl (rest := []) (ctX4_shelfAt a0 x1 ta0 e9) calX4_shelfAt lkX4_71 inX4_shelfAt dnX4_shelfAt (ci := 4) ⟨rfl, by decide⟩ ta0 rfl rfl ⟨by decide, by decide⟩ (Nat.le_of_ble_eq_true rfl) (Nat.le_refl _) (Nat.le_refl _) ?_
        obtain ⟨g10, hf⟩ := q_gu_o hf
        obtain ⟨h11, e11, hf⟩ := q_bd hf
        refine v_callV C0 cokX4_keep rfl (rest := []) (ctX1_clear r9 g10 e11) calX1_clear lkX4_322 inX1_clear dnX1_clear (ci := 1) ⟨rfl, by decide⟩ g10 rfl rfl ⟨by decide, by decide⟩ (Nat.le_of_ble_eq_true rfl) (Nat.le_refl _) (Nat.le_refl _) ?_
        refine v_run C0 tbX4 cokX4_keep (pc' := 31) (lv' := [(0, .ref a0), (1, .int x1), (2, .int x2), (3, .int x3), (4, .int x4)]) (st' := [.int (0 : Int32)]) (h' := h11) 1 rfl trivial ?_
        obtain ⟨hq1, hq2⟩ := Prod.mk.inj (Option.some.inj hf)
        obtain ⟨hq3, hq4⟩ := Prod.mk.inj hq2
        subst hq1
        subst hq3
        subst hq4
        exact v_iret C0 cokX4_keep hr hlk rfl
      · refine v_run C0 tbX4 cokX4_keep (pc' := 36) (lv' := [(0, .ref a0), (1, .int x1), (2, .int x2), (3, .int x3), (4, .int x4)]) (st' := [.int (7 : Int32), .int (0 : Int32), .int x3]) (h' := h) 3 rfl trivial ?_
        obtain ⟨r3, e3, hf⟩ := q_bd hf
        refine v_callS C0 cokX4_keep rfl (rest := []) (ctX4_isIn x3 (0 : Int32) (7 : Int32) e3) calX4_isIn lkX4_148 inX4_isIn dnX4_isIn rfl rfl ⟨by decide, by decide⟩ (Nat.le_of_ble_eq_true rfl) (Nat.le_refl _) (Nat.le_refl _) ?_
        refine v_if_eq C0 cokX4_keep rfl 53 (by decide) hf (fun _ hf => ?_) (fun _ hf => ?_)
        · refine v_run C0 tbX4 cokX4_keep (pc' := 54) (lv' := [(0, .ref a0), (1, .int x1), (2, .int x2), (3, .int x3), (4, .int x4)]) (st' := [.int (-1 : Int32)]) (h' := h) 1 rfl trivial ?_
          obtain ⟨hq1, hq2⟩ := Prod.mk.inj (Option.some.inj hf)
          obtain ⟨hq3, hq4⟩ := Prod.mk.inj hq2
          subst hq1
          subst hq3
          subst hq4
          exact v_iret C0 cokX4_keep hr hlk rfl
        · refine v_run C0 tbX4 cokX4_keep (pc' := 47) (lv' := [(0, .ref a0), (1, .int x1), (2, .int x2), (3, .int x3), (4, .int x4)]) (st' := [.int (9 : Int32), .int (0 : Int32), .int x4]) (h' := h) 3 rfl trivial ?_
          obtain ⟨r4, e4, hf⟩ := q_bd hf
          refine v_callS C0 cokX4_keep rfl (rest := []) (ctX4_isIn x4 (0 : Int32) (9 : Int32) e4) calX4_isIn lkX4_148 inX4_isIn dnX4_isIn rfl rfl ⟨by decide, by decide⟩ (Nat.le_of_ble_eq_true rfl) (Nat.le_refl _) (Nat.le_refl _) ?_
          refine v_if_ne C0 cokX4_keep rfl 55 (by decide) hf (fun _ hf => ?_) (fun _ hf => ?_)
          · refine v_run C0 tbX4 cokX4_keep (pc' := 54) (lv' := [(0, .ref a0), (1, .int x1), (2, .int x2), (3, .int x3), (4, .int x4)]) (st' := [.int (-1 : Int32)]) (h' := h) 1 rfl trivial ?_
            obtain ⟨hq1, hq2⟩ := Prod.mk.inj (Option.some.inj hf)
            obtain ⟨hq3, hq4⟩ := Prod.mk.inj hq2
            subst hq1
            subst hq3
            subst hq4
            exact v_iret C0 cokX4_keep hr hlk rfl
          · refine v_run C0 tbX4 cokX4_keep (pc' := 57) (lv' := [(0, .ref a0), (1, .int x1), (2, .int x2), (3, .int x3), (4, .int x4)]) (st' := [.int x1, .ref a0]) (h' := h) 2 rfl trivial ?_
            obtain ⟨r5, e5, hf⟩ := q_bd hf
            refine v_callV C0 cokX4_keep rfl (rest := []) (ctX4_shelfAt a0 x1 ta0 e5) calX4_shelfAt lkX4_71 inX4_shelfAt dnX4_shelfAt (ci := 4) ⟨rfl, by decide⟩ ta0 rfl rfl ⟨by decide, by decide⟩ (Nat.le_of_ble_eq_true rfl) (Nat.le_refl _) (Nat.le_refl _) ?_
            refine v_less (kc' := 0 + 1) (ks' := 0 + 7) (by omega) (by omega) ?_
            refine v_new (kc := 0) (ks := 0) (nn := 7) (ci := 3) C0 cokX4_keep rfl (by decide) nwcX4_37 nwiX3 nwnX3 rfl ?_
            refine v_run C0 tbX4 cokX4_keep (pc' := 67) (lv' := [(0, .ref a0), (1, .int x1), (2, .int x2), (3, .int x3), (4, .int x4)]) (st' := [.int x4, .int x3, .ref (q_sz σ), .ref (q_sz σ), .ref r5]) (h' := (q_nh h (q_sz σ))) 3 rfl trivial ?_
            obtain ⟨h6, e6, hf⟩ := q_bd hf
            refine v_callI C0 cokX4_keep rfl (rest := [.ref (q_sz σ), .ref r5]) (ctX3_init (q_sz σ) x3 x4 (q_tnew _ _ _) e6) calX3_init rfl lkX4_43 inX3_init dnX3_init rfl rfl ⟨by decide, by decide⟩ (Nat.le_of_ble_eq_true rfl) (Nat.le_refl _) (Nat.le_refl _) ?_
            obtain ⟨g7, hf⟩ := q_gu_o hf
            obtain ⟨σ8, h8, e8, hf⟩ := q_bd2 hf
            refine v_callV C0 cokX4_keep rfl (rest := []) (ctX1_hang r5 (q_sz σ) g7 (q_tnew _ _ _) e8) calX1_hang lkX4_325 inX1_hang dnX1_hang (ci := 1) ⟨rfl, by decide⟩ g7 rfl rfl ⟨by decide, by decide⟩ (Nat.le_of_ble_eq_true rfl) (Nat.le_refl _) (Nat.le_refl _) ?_
            refine v_run C0 tbX4 cokX4_keep (pc' := 74) (lv' := [(0, .ref a0), (1, .int x1), (2, .int x2), (3, .int x3), (4, .int x4)]) (st' := [.int (0 : Int32)]) (h' := h8) 1 rfl trivial ?_
            obtain ⟨hq1, hq2⟩ := Prod.mk.inj (Option.some.inj hf)
            obtain ⟨hq3, hq4⟩ := Prod.mk.inj hq2
            subst hq1
            subst hq3
            subst hq4
            exact v_iret C0 cokX4_keep hr hlk rfl
-- BackByNoonOnMonday.row(III)I
noncomputable def fX4_row (σ : q_St) (h : q_Hp) (a0 : Nat) (x1 : Int32) (x2 : Int32) (x3 : Int32) : Option (Int32 × q_Hp) := ((fX4_isShelf σ h x1).bind fun r1 => (if r1 = 0 then some ((-1 : Int32), h) else ((fX4_isIn σ h x2 (0 : Int32) (2 : Int32)).bind fun r2 => (if r2 = 0 then some ((-1 : Int32), h) else (if x3 ≤ (100 : Int32) then (if 0 ≤ x3 then ((fX4_shelfAt σ h a0 x1).bind fun r3 => q_gu ((q_tag σ r3 = 2)) (((fX1_lay σ h r3 x2 x3).bind fun h5 => some ((0 : Int32), h5)))) else some ((-14 : Int32), h)) else some ((-1 : Int32), h))))))
def cdX4_row : q_Cd := [(0, .iload_n 1), (1, .invokestatic 67), (4, .ifCond .eq 18), (7, .iload_n 2), (8, .iconst 0), (9, .iconst 2), (10, .invokestatic 148), (13, .ifCond .eq 9), (16, .iload_n 3), (17, .bipush 100), (19, .if_icmp .le 5), (22, .iconst (-1)), (23, .ireturn), (24, .iload_n 3), (25, .ifCond .ge 6), (28, .bipush (-14)), (30, .ireturn), (31, .aload_n 0), (32, .iload_n 1), (33, .invokevirtual 71), (36, .iload_n 2), (37, .iload_n 3), (38, .invokevirtual 329), (41, .iconst 0), (42, .ireturn)]
set_option maxRecDepth 100000 in
theorem cokX4_row : q_cok cX4_row cdX4_row := by unfold q_cok; decide +kernel
set_option maxRecDepth 100000 in
set_option maxHeartbeats 4000000 in
theorem ctX4_row {l : Launch} {D : va_G} {cy : Nat → Nat} {b0 : Nat} {σ : q_St} {h : q_Hp} (a0 : Nat) (x1 : Int32) (x2 : Int32) (x3 : Int32) {r : Int32} {h' : q_Hp} (ta0 : q_tag σ a0 = 5) (hf : fX4_row σ h a0 x1 x2 x3 = some (r, h')) : q_M l yX4_row cX4_row 4 (some .int) 2 42 0 0 D cy b0 σ h [.ref a0, .int x1, .int x2, .int x3] (some (.int r)) σ h' := by
  unfold fX4_row at hf
  refine q_enter (by decide) (Nat.le_of_ble_eq_true rfl) ?_
  intro p e s m args below meth c C0 hr hlk hnm
  replace C0 : VC p { frames := 2, cells := 0, slots := 0, locals := 42 } s m args meth c D cy b0 4 0 0 RX4 cX4_row := C0
  refine v_run C0 tbX4 cokX4_row (pc' := 1) (lv' := [(0, .ref a0), (1, .int x1), (2, .int x2), (3, .int x3)]) (st' := [.int x1]) (h' := h) 1 rfl trivial ?_
  obtain ⟨r1, e1, hf⟩ := q_bd hf
  refine v_callS C0 cokX4_row rfl (rest := []) (ctX4_isShelf x1 e1) calX4_isShelf lkX4_67 inX4_isShelf dnX4_isShelf rfl rfl ⟨by decide, by decide⟩ (Nat.le_of_ble_eq_true rfl) (Nat.le_refl _) (Nat.le_refl _) ?_
  refine v_if_eq C0 cokX4_row rfl 22 (by decide) hf (fun _ hf => ?_) (fun _ hf => ?_)
  · refine v_run C0 tbX4 cokX4_row (pc' := 23) (lv' := [(0, .ref a0), (1, .int x1), (2, .int x2), (3, .int x3)]) (st' := [.int (-1 : Int32)]) (h' := h) 1 rfl trivial ?_
    obtain ⟨rfl, rfl⟩ := Prod.mk.inj (Option.some.inj hf)
    exact v_iret C0 cokX4_row hr hlk rfl
  · refine v_run C0 tbX4 cokX4_row (pc' := 10) (lv' := [(0, .ref a0), (1, .int x1), (2, .int x2), (3, .int x3)]) (st' := [.int (2 : Int32), .int (0 : Int32), .int x2]) (h' := h) 3 rfl trivial ?_
    obtain ⟨r2, e2, hf⟩ := q_bd hf
    refine v_callS C0 cokX4_row rfl (rest := []) (ctX4_isIn x2 (0 : Int32) (2 : Int32) e2) calX4_isIn lkX4_148 inX4_isIn dnX4_isIn rfl rfl ⟨by decide, by decide⟩ (Nat.le_of_ble_eq_true rfl) (Nat.le_refl _) (Nat.le_refl _) ?_
    refine v_if_eq C0 cokX4_row rfl 22 (by decide) hf (fun _ hf => ?_) (fun _ hf => ?_)
    · refine v_run C0 tbX4 cokX4_row (pc' := 23) (lv' := [(0, .ref a0), (1, .int x1), (2, .int x2), (3, .int x3)]) (st' := [.int (-1 : Int32)]) (h' := h) 1 rfl trivial ?_
      obtain ⟨rfl, rfl⟩ := Prod.mk.inj (Option.some.inj hf)
      exact v_iret C0 cokX4_row hr hlk rfl
    · refine v_run C0 tbX4 cokX4_row (pc' := 19) (lv' := [(0, .ref a0), (1, .int x1), (2, .int x2), (3, .int x3)]) (st' := [.int (100 : Int32), .int x3]) (h' := h) 2 rfl trivial ?_
      refine v_icmp_le C0 cokX4_row rfl 24 (by decide) hf (fun _ hf => ?_) (fun _ hf => ?_)
      · refine v_run C0 tbX4 cokX4_row (pc' := 25) (lv' := [(0, .ref a0), (1, .int x1), (2, .int x2), (3, .int x3)]) (st' := [.int x3]) (h' := h) 1 rfl trivial ?_
        refine v_if_ge C0 cokX4_row rfl 31 (by decide) hf (fun _ hf => ?_) (fun _ hf => ?_)
        · refine v_run C0 tbX4 cokX4_row (pc' := 33) (lv' := [(0, .ref a0), (1, .int x1), (2, .int x2), (3, .int x3)]) (st' := [.int x1, .ref a0]) (h' := h) 2 rfl trivial ?_
          obtain ⟨r3, e3, hf⟩ := q_bd hf
          refine v_callV C0 cokX4_row rfl (rest := []) (ctX4_shelfAt a0 x1 ta0 e3) calX4_shelfAt lkX4_71 inX4_shelfAt dnX4_shelfAt (ci := 4) ⟨rfl, by decide⟩ ta0 rfl rfl ⟨by decide, by decide⟩ (Nat.le_of_ble_eq_true rfl) (Nat.le_refl _) (Nat.le_refl _) ?_
          refine v_run C0 tbX4 cokX4_row (pc' := 38) (lv' := [(0, .ref a0), (1, .int x1), (2, .int x2), (3, .int x3)]) (st' := [.int x3, .int x2, .ref r3]) (h' := h) 2 rfl trivial ?_
          obtain ⟨g4, hf⟩ := q_gu_o hf
          obtain ⟨h5, e5, hf⟩ := q_bd hf
          refine v_callV C0 cokX4_row rfl (rest := []) (ctX1_lay r3 x2 x3 g4 e5) calX1_lay lkX4_329 inX1_lay dnX1_lay (ci := 1) ⟨rfl, by decide⟩ g4 rfl rfl ⟨by decide, by decide⟩ (Nat.le_of_ble_eq_true rfl) (Nat.le_refl _) (Nat.le_refl _) ?_
          refine v_run C0 tbX4 cokX4_row (pc' := 42) (lv' := [(0, .ref a0), (1, .int x1), (2, .int x2), (3, .int x3)]) (st' := [.int (0 : Int32)]) (h' := h5) 1 rfl trivial ?_
          obtain ⟨rfl, rfl⟩ := Prod.mk.inj (Option.some.inj hf)
          exact v_iret C0 cokX4_row hr hlk rfl
        · refine v_run C0 tbX4 cokX4_row (pc' := 30) (lv' := [(0, .ref a0), (1, .int x1), (2, .int x2), (3, .int x3)]) (st' := [.int (-14 : Int32)]) (h' := h) 1 rfl trivial ?_
          obtain ⟨rfl, rfl⟩ := Prod.mk.inj (Option.some.inj hf)
          exact v_iret C0 cokX4_row hr hlk rfl
      · refine v_run C0 tbX4 cokX4_row (pc' := 23) (lv' := [(0, .ref a0), (1, .int x1), (2, .int x2), (3, .int x3)]) (st' := [.int (-1 : Int32)]) (h' := h) 1 rfl trivial ?_
        obtain ⟨rfl, rfl⟩ := Prod.mk.inj (Option.some.inj hf)
        exact v_iret C0 cokX4_row hr hlk rfl
-- BackByNoonOnMonday.put(III)I
noncomputable def fX4_put (σ : q_St) (h : q_Hp) (a0 : Nat) (x1 : Int32) (x2 : Int32) (x3 : Int32) : Option (Int32 × q_Hp) := ((fX4_isShelf σ h x1).bind fun r1 => (if r1 = 0 then some ((-1 : Int32), h) else ((fX4_shelfAt σ h a0 x1).bind fun r2 => q_gu ((q_tag σ r2 = 2)) (((fX1_refusal σ h r2 (2 : Int32)).bind fun r4 => (if r4 = 0 then ((fX4_isIn σ h x2 (0 : Int32) ((q_int h r2 4) - (1 : Int32))).bind fun r5 => (if r5 = 0 then some ((-13 : Int32), h) else q_gu ((q_tag σ (q_ref σ r2 0) = 7)) (((fX1_narrowed σ h r2 x3).bind fun r7 => ((fX4_set σ h (q_ref σ r2 0) x2 r7).bind fun h8 => some ((0 : Int32), h8)))))) else some (r4, h)))))))
def cdX4_put : q_Cd := [(0, .iload_n 1), (1, .invokestatic 67), (4, .ifCond .ne 5), (7, .iconst (-1)), (8, .ireturn), (9, .aload_n 0), (10, .iload_n 1), (11, .invokevirtual 71), (14, .astore 4), (16, .aload 4), (18, .iconst 2), (19, .invokevirtual 152), (22, .istore 5), (24, .iload 5), (26, .ifCond .eq 6), (29, .iload 5), (31, .ireturn), (32, .iload_n 2), (33, .iconst 0), (34, .aload 4), (36, .getfield 292), (39, .iconst 1), (40, .isub), (41, .invokestatic 148), (44, .ifCond .ne 6), (47, .bipush (-13)), (49, .ireturn), (50, .aload 4), (52, .getfield 295), (55, .iload_n 2), (56, .aload 4), (58, .iload_n 3), (59, .invokevirtual 332), (62, .invokestatic 335), (65, .iconst 0), (66, .ireturn)]
set_option maxRecDepth 100000 in
theorem cokX4_put : q_cok cX4_put cdX4_put := by unfold q_cok; decide +kernel
set_option maxRecDepth 100000 in
set_option maxHeartbeats 4000000 in
theorem ctX4_put {l : Launch} {D : va_G} {cy : Nat → Nat} {b0 : Nat} {σ : q_St} {h : q_Hp} (a0 : Nat) (x1 : Int32) (x2 : Int32) (x3 : Int32) {r : Int32} {h' : q_Hp} (ta0 : q_tag σ a0 = 5) (hf : fX4_put σ h a0 x1 x2 x3 = some (r, h')) : q_M l yX4_put cX4_put 6 (some .int) 2 42 0 0 D cy b0 σ h [.ref a0, .int x1, .int x2, .int x3] (some (.int r)) σ h' := by
  unfold fX4_put at hf
  refine q_enter (by decide) (Nat.le_of_ble_eq_true rfl) ?_
  intro p e s m args below meth c C0 hr hlk hnm
  replace C0 : VC p { frames := 2, cells := 0, slots := 0, locals := 42 } s m args meth c D cy b0 6 0 0 RX4 cX4_put := C0
  refine v_run C0 tbX4 cokX4_put (pc' := 1) (lv' := [(0, .ref a0), (1, .int x1), (2, .int x2), (3, .int x3)]) (st' := [.int x1]) (h' := h) 1 rfl trivial ?_
  obtain ⟨r1, e1, hf⟩ := q_bd hf
  refine v_callS C0 cokX4_put rfl (rest := []) (ctX4_isShelf x1 e1) calX4_isShelf lkX4_67 inX4_isShelf dnX4_isShelf rfl rfl ⟨by decide, by decide⟩ (Nat.le_of_ble_eq_true rfl) (Nat.le_refl _) (Nat.le_refl _) ?_
  refine v_if_ne C0 cokX4_put rfl 9 (by decide) hf (fun _ hf => ?_) (fun _ hf => ?_)
  · refine v_run C0 tbX4 cokX4_put (pc' := 8) (lv' := [(0, .ref a0), (1, .int x1), (2, .int x2), (3, .int x3)]) (st' := [.int (-1 : Int32)]) (h' := h) 1 rfl trivial ?_
    obtain ⟨rfl, rfl⟩ := Prod.mk.inj (Option.some.inj hf)
    exact v_iret C0 cokX4_put hr hlk rfl
  · refine v_run C0 tbX4 cokX4_put (pc' := 11) (lv' := [(0, .ref a0), (1, .int x1), (2, .int x2), (3, .int x3)]) (st' := [.int x1, .ref a0]) (h' := h) 2 rfl trivial ?_
    obtain ⟨r2, e2, hf⟩ := q_bd hf
    refine v_callV C0 cokX4_put rfl (rest := []) (ctX4_shelfAt a0 x1 ta0 e2) calX4_shelfAt lkX4_71 inX4_shelfAt dnX4_shelfAt (ci := 4) ⟨rfl, by decide⟩ ta0 rfl rfl ⟨by decide, by decide⟩ (Nat.le_of_ble_eq_true rfl) (Nat.le_refl _) (Nat.le_refl _) ?_
    refine v_run C0 tbX4 cokX4_put (pc' := 19) (lv' := [(4, .ref r2), (0, .ref a0), (1, .int x1), (2, .int x2), (3, .int x3)]) (st' := [.int (2 : Int32), .ref r2]) (h' := h) 3 rfl trivial ?_
    obtain ⟨g3, hf⟩ := q_gu_o hf
    obtain ⟨r4, e4, hf⟩ := q_bd hf
    refine v_callV C0 cokX4_put rfl (rest := []) (ctX1_refusal r2 (2 : Int32) g3 e4) calX1_refusal lkX4_152 inX1_refusal dnX1_refusal (ci := 1) ⟨rfl, by decide⟩ g3 rfl rfl ⟨by decide, by decide⟩ (Nat.le_of_ble_eq_true rfl) (Nat.le_refl _) (Nat.le_refl _) ?_
    refine v_run C0 tbX4 cokX4_put (pc' := 26) (lv' := [(5, .int r4), (4, .ref r2), (0, .ref a0), (1, .int x1), (2, .int x2), (3, .int x3)]) (st' := [.int r4]) (h' := h) 2 rfl trivial ?_
    refine v_if_eq C0 cokX4_put rfl 32 (by decide) hf (fun _ hf => ?_) (fun _ hf => ?_)
    · refine v_run C0 tbX4 cokX4_put (pc' := 41) (lv' := [(5, .int r4), (4, .ref r2), (0, .ref a0), (1, .int x1), (2, .int x2), (3, .int x3)]) (st' := [.int ((q_int h r2 4) - (1 : Int32)), .int (0 : Int32), .int x2]) (h' := h) 6 rfl ⟨g3, trivial⟩ ?_
      obtain ⟨r5, e5, hf⟩ := q_bd hf
      refine v_callS C0 cokX4_put rfl (rest := []) (ctX4_isIn x2 (0 : Int32) ((q_int h r2 4) - (1 : Int32)) e5) calX4_isIn lkX4_148 inX4_isIn dnX4_isIn rfl rfl ⟨by decide, by decide⟩ (Nat.le_of_ble_eq_true rfl) (Nat.le_refl _) (Nat.le_refl _) ?_
      refine v_if_ne C0 cokX4_put rfl 50 (by decide) hf (fun _ hf => ?_) (fun _ hf => ?_)
      · refine v_run C0 tbX4 cokX4_put (pc' := 49) (lv' := [(5, .int r4), (4, .ref r2), (0, .ref a0), (1, .int x1), (2, .int x2), (3, .int x3)]) (st' := [.int (-13 : Int32)]) (h' := h) 1 rfl trivial ?_
        obtain ⟨rfl, rfl⟩ := Prod.mk.inj (Option.some.inj hf)
        exact v_iret C0 cokX4_put hr hlk rfl
      · obtain ⟨g6, hf⟩ := q_gu_o hf
        refine v_run C0 tbX4 cokX4_put (pc' := 59) (lv' := [(5, .int r4), (4, .ref r2), (0, .ref a0), (1, .int x1), (2, .int x2), (3, .int x3)]) (st' := [.int x3, .ref r2, .int x2, .ref (q_ref σ r2 0)]) (h' := h) 5 rfl ⟨⟨g3, q_tn g6⟩, trivial⟩ ?_
        obtain ⟨r7, e7, hf⟩ := q_bd hf
        refine v_callV C0 cokX4_put rfl (rest := [.int x2, .ref (q_ref σ r2 0)]) (ctX1_narrowed r2 x3 g3 e7) calX1_narrowed lkX4_332 inX1_narrowed dnX1_narrowed (ci := 1) ⟨rfl, by decide⟩ g3 rfl rfl ⟨by decide, by decide⟩ (Nat.le_of_ble_eq_true rfl) (Nat.le_refl _) (Nat.le_refl _) ?_
        obtain ⟨h8, e8, hf⟩ := q_bd hf
        refine v_callS C0 cokX4_put rfl (rest := []) (ctX4_set (q_ref σ r2 0) x2 r7 g6 e8) calX4_set lkX4_335 inX4_set dnX4_set rfl rfl ⟨by decide, by decide⟩ (Nat.le_of_ble_eq_true rfl) (Nat.le_refl _) (Nat.le_refl _) ?_
        refine v_run C0 tbX4 cokX4_put (pc' := 66) (lv' := [(5, .int r4), (4, .ref r2), (0, .ref a0), (1, .int x1), (2, .int x2), (3, .int x3)]) (st' := [.int (0 : Int32)]) (h' := h8) 1 rfl trivial ?_
        obtain ⟨rfl, rfl⟩ := Prod.mk.inj (Option.some.inj hf)
        exact v_iret C0 cokX4_put hr hlk rfl
    · refine v_run C0 tbX4 cokX4_put (pc' := 31) (lv' := [(5, .int r4), (4, .ref r2), (0, .ref a0), (1, .int x1), (2, .int x2), (3, .int x3)]) (st' := [.int r4]) (h' := h) 1 rfl trivial ?_
      obtain ⟨rfl, rfl⟩ := Prod.mk.inj (Option.some.inj hf)
      exact v_iret C0 cokX4_put hr hlk rfl
-- BackByNoonOnMonday.copy(IIIII)I
noncomputable def fX4_copy (σ : q_St) (h : q_Hp) (a0 : Nat) (x1 : Int32) (x2 : Int32) (x3 : Int32) (x4 : Int32) (x5 : Int32) : Option (Int32 × q_Hp) := ((fX4_isShelf σ h x1).bind fun r1 => (if r1 = 0 then some ((-1 : Int32), h) else ((fX4_isShelf σ h x3).bind fun r2 => (if r2 = 0 then some ((-1 : Int32), h) else ((fX4_shelfAt σ h a0 x1).bind fun r3 => ((fX4_shelfAt σ h a0 x3).bind fun r4 => q_gu ((q_tag σ r3 = 2)) ((if (q_int h r3 1) = 0 then some ((-11 : Int32), h) else q_gu ((q_tag σ r4 = 2)) ((if (q_int h r4 1) = 0 then some ((-11 : Int32), h) else (if (q_int h r3 1) = (2 : Int32) then (if (q_int h r4 1) = (2 : Int32) then (if (q_int h r3 3) = (q_int h r4 3) then ((fX1_hasStretch σ h r3 x2 x5).bind fun r7 => (if r7 = 0 then some ((-13 : Int32), h) else ((fX1_hasStretch σ h r4 x4 x5).bind fun r8 => (if r8 = 0 then some ((-13 : Int32), h) else q_gu ((q_tag σ (q_ref σ r3 0) = 7) ∧ (q_tag σ (q_ref σ r4 0) = 7)) (q_gu ((¬ x2 < 0 ∧ ¬ x4 < 0 ∧ ¬ x5 < 0 ∧ Int32.toNatClampNeg x2 + Int32.toNatClampNeg x5 ≤ q_len σ (q_ref σ r3 0) ∧ Int32.toNatClampNeg x4 + Int32.toNatClampNeg x5 ≤ q_len σ (q_ref σ r4 0))) (some (x5, (q_cp h (q_ref σ r3 0) (q_ref σ r4 0) (Int32.toNatClampNeg x2) (Int32.toNatClampNeg x4) (Int32.toNatClampNeg x5))))))))) else some ((-12 : Int32), h)) else some ((-12 : Int32), h)) else some ((-12 : Int32), h))))))))))))
def cdX4_copy : q_Cd := [(0, .iload_n 1), (1, .invokestatic 67), (4, .ifCond .eq 10), (7, .iload_n 3), (8, .invokestatic 67), (11, .ifCond .ne 5), (14, .iconst (-1)), (15, .ireturn), (16, .aload_n 0), (17, .iload_n 1), (18, .invokevirtual 71), (21, .astore 6), (23, .aload_n 0), (24, .iload_n 3), (25, .invokevirtual 71), (28, .astore 7), (30, .aload 6), (32, .getfield 75), (35, .ifCond .eq 11), (38, .aload 7), (40, .getfield 75), (43, .ifCond .ne 6), (46, .bipush (-11)), (48, .ireturn), (49, .aload 6), (51, .getfield 75), (54, .iconst 2), (55, .if_icmp .ne 25), (58, .aload 7), (60, .getfield 75), (63, .iconst 2), (64, .if_icmp .ne 16), (67, .aload 6), (69, .getfield 79), (72, .aload 7), (74, .getfield 79), (77, .if_icmp .eq 6), (80, .bipush (-12)), (82, .ireturn), (83, .aload 6), (85, .iload_n 2), (86, .iload 5), (88, .invokevirtual 353), (91, .ifCond .eq 15), (94, .aload 7), (96, .iload 4), (98, .iload 5), (100, .invokevirtual 353), (103, .ifCond .ne 6), (106, .bipush (-13)), (108, .ireturn), (109, .aload 6), (111, .getfield 295), (114, .iload_n 2), (115, .aload 7), (117, .getfield 295), (120, .iload 4), (122, .iload 5), (124, .invokestatic 356), (127, .iload 5), (129, .ireturn)]
set_option maxRecDepth 100000 in
theorem cokX4_copy : q_cok cX4_copy cdX4_copy := by unfold q_cok; decide +kernel
set_option maxRecDepth 100000 in
set_option maxHeartbeats 4000000 in
theorem ctX4_copy {l : Launch} {D : va_G} {cy : Nat → Nat} {b0 : Nat} {σ : q_St} {h : q_Hp} (a0 : Nat) (x1 : Int32) (x2 : Int32) (x3 : Int32) (x4 : Int32) (x5 : Int32) {r : Int32} {h' : q_Hp} (ta0 : q_tag σ a0 = 5) (hf : fX4_copy σ h a0 x1 x2 x3 x4 x5 = some (r, h')) : q_M l yX4_copy cX4_copy 8 (some .int) 2 60 0 0 D cy b0 σ h [.ref a0, .int x1, .int x2, .int x3, .int x4, .int x5] (some (.int r)) σ h' := by
  unfold fX4_copy at hf
  refine q_enter (by decide) (Nat.le_of_ble_eq_true rfl) ?_
  intro p e s m args below meth c C0 hr hlk hnm
  replace C0 : VC p { frames := 2, cells := 0, slots := 0, locals := 60 } s m args meth c D cy b0 8 0 0 RX4 cX4_copy := C0
  refine v_run C0 tbX4 cokX4_copy (pc' := 1) (lv' := [(0, .ref a0), (1, .int x1), (2, .int x2), (3, .int x3), (4, .int x4), (5, .int x5)]) (st' := [.int x1]) (h' := h) 1 rfl trivial ?_
  obtain ⟨r1, e1, hf⟩ := q_bd hf
  refine v_callS C0 cokX4_copy rfl (rest := []) (ctX4_isShelf x1 e1) calX4_isShelf lkX4_67 inX4_isShelf dnX4_isShelf rfl rfl ⟨by decide, by decide⟩ (Nat.le_of_ble_eq_true rfl) (Nat.le_refl _) (Nat.le_refl _) ?_
  refine v_if_eq C0 cokX4_copy rfl 14 (by decide) hf (fun _ hf => ?_) (fun _ hf => ?_)
  · refine v_run C0 tbX4 cokX4_copy (pc' := 15) (lv' := [(0, .ref a0), (1, .int x1), (2, .int x2), (3, .int x3), (4, .int x4), (5, .int x5)]) (st' := [.int (-1 : Int32)]) (h' := h) 1 rfl trivial ?_
    obtain ⟨rfl, rfl⟩ := Prod.mk.inj (Option.some.inj hf)
    exact v_iret C0 cokX4_copy hr hlk rfl
  · refine v_run C0 tbX4 cokX4_copy (pc' := 8) (lv' := [(0, .ref a0), (1, .int x1), (2, .int x2), (3, .int x3), (4, .int x4), (5, .int x5)]) (st' := [.int x3]) (h' := h) 1 rfl trivial ?_
    obtain ⟨r2, e2, hf⟩ := q_bd hf
    refine v_callS C0 cokX4_copy rfl (rest := []) (ctX4_isShelf x3 e2) calX4_isShelf lkX4_67 inX4_isShelf dnX4_isShelf rfl rfl ⟨by decide, by decide⟩ (Nat.le_of_ble_eq_true rfl) (Nat.le_refl _) (Nat.le_refl _) ?_
    refine v_if_ne C0 cokX4_copy rfl 16 (by decide) hf (fun _ hf => ?_) (fun _ hf => ?_)
    · refine v_run C0 tbX4 cokX4_copy (pc' := 15) (lv' := [(0, .ref a0), (1, .int x1), (2, .int x2), (3, .int x3), (4, .int x4), (5, .int x5)]) (st' := [.int (-1 : Int32)]) (h' := h) 1 rfl trivial ?_
      obtain ⟨rfl, rfl⟩ := Prod.mk.inj (Option.some.inj hf)
      exact v_iret C0 cokX4_copy hr hlk rfl
    · refine v_run C0 tbX4 cokX4_copy (pc' := 18) (lv' := [(0, .ref a0), (1, .int x1), (2, .int x2), (3, .int x3), (4, .int x4), (5, .int x5)]) (st' := [.int x1, .ref a0]) (h' := h) 2 rfl trivial ?_
      obtain ⟨r3, e3, hf⟩ := q_bd hf
      refine v_callV C0 cokX4_copy rfl (rest := []) (ctX4_shelfAt a0 x1 ta0 e3) calX4_shelfAt lkX4_71 inX4_shelfAt dnX4_shelfAt (ci := 4) ⟨rfl, by decide⟩ ta0 rfl rfl ⟨by decide, by decide⟩ (Nat.le_of_ble_eq_true rfl) (Nat.le_refl _) (Nat.le_refl _) ?_
      refine v_run C0 tbX4 cokX4_copy (pc' := 25) (lv' := [(6, .ref r3), (0, .ref a0), (1, .int x1), (2, .int x2), (3, .int x3), (4, .int x4), (5, .int x5)]) (st' := [.int x3, .ref a0]) (h' := h) 3 rfl trivial ?_
      obtain ⟨r4, e4, hf⟩ := q_bd hf
      refine v_callV C0 cokX4_copy rfl (rest := []) (ctX4_shelfAt a0 x3 ta0 e4) calX4_shelfAt lkX4_71 inX4_shelfAt dnX4_shelfAt (ci := 4) ⟨rfl, by decide⟩ ta0 rfl rfl ⟨by decide, by decide⟩ (Nat.le_of_ble_eq_true rfl) (Nat.le_refl _) (Nat.le_refl _) ?_
      obtain ⟨g5, hf⟩ := q_gu_o hf
      refine v_run C0 tbX4 cokX4_copy (pc' := 35) (lv' := [(7, .ref r4), (6, .ref r3), (0, .ref a0), (1, .int x1), (2, .int x2), (3, .int x3), (4, .int x4), (5, .int x5)]) (st' := [.int (q_int h r3 1)]) (h' := h) 3 rfl ⟨g5, trivial⟩ ?_
      refine v_if_eq C0 cokX4_copy rfl 46 (by decide) hf (fun _ hf => ?_) (fun _ hf => ?_)
      · refine v_run C0 tbX4 cokX4_copy (pc' := 48) (lv' := [(7, .ref r4), (6, .ref r3), (0, .ref a0), (1, .int x1), (2, .int x2), (3, .int x3), (4, .int x4), (5, .int x5)]) (st' := [.int (-11 : Int32)]) (h' := h) 1 rfl trivial ?_
        obtain ⟨rfl, rfl⟩ := Prod.mk.inj (Option.some.inj hf)
        exact v_iret C0 cokX4_copy hr hlk rfl
      · obtain ⟨g6, hf⟩ := q_gu_o hf
        refine v_run C0 tbX4 cokX4_copy (pc' := 43) (lv' := [(7, .ref r4), (6, .ref r3), (0, .ref a0), (1, .int x1), (2, .int x2), (3, .int x3), (4, .int x4), (5, .int x5)]) (st' := [.int (q_int h r4 1)]) (h' := h) 2 rfl ⟨g6, trivial⟩ ?_
        refine v_if_ne C0 cokX4_copy rfl 49 (by decide) hf (fun _ hf => ?_) (fun _ hf => ?_)
        · refine v_run C0 tbX4 cokX4_copy (pc' := 48) (lv' := [(7, .ref r4), (6, .ref r3), (0, .ref a0), (1, .int x1), (2, .int x2), (3, .int x3), (4, .int x4), (5, .int x5)]) (st' := [.int (-11 : Int32)]) (h' := h) 1 rfl trivial ?_
          obtain ⟨rfl, rfl⟩ := Prod.mk.inj (Option.some.inj hf)
          exact v_iret C0 cokX4_copy hr hlk rfl
        · refine v_run C0 tbX4 cokX4_copy (pc' := 55) (lv' := [(7, .ref r4), (6, .ref r3), (0, .ref a0), (1, .int x1), (2, .int x2), (3, .int x3), (4, .int x4), (5, .int x5)]) (st' := [.int (2 : Int32), .int (q_int h r3 1)]) (h' := h) 3 rfl ⟨g5, trivial⟩ ?_
          refine v_icmp_ne C0 cokX4_copy rfl 80 (by decide) hf (fun _ hf => ?_) (fun _ hf => ?_)
          · refine v_run C0 tbX4 cokX4_copy (pc' := 64) (lv' := [(7, .ref r4), (6, .ref r3), (0, .ref a0), (1, .int x1), (2, .int x2), (3, .int x3), (4, .int x4), (5, .int x5)]) (st' := [.int (2 : Int32), .int (q_int h r4 1)]) (h' := h) 3 rfl ⟨g6, trivial⟩ ?_
            refine v_icmp_ne C0 cokX4_copy rfl 80 (by decide) hf (fun _ hf => ?_) (fun _ hf => ?_)
            · refine v_run C0 tbX4 cokX4_copy (pc' := 77) (lv' := [(7, .ref r4), (6, .ref r3), (0, .ref a0), (1, .int x1), (2, .int x2), (3, .int x3), (4, .int x4), (5, .int x5)]) (st' := [.int (q_int h r4 3), .int (q_int h r3 3)]) (h' := h) 4 rfl ⟨g5, g6, trivial⟩ ?_
              refine v_icmp_eq C0 cokX4_copy rfl 83 (by decide) hf (fun _ hf => ?_) (fun _ hf => ?_)
              · refine v_run C0 tbX4 cokX4_copy (pc' := 88) (lv' := [(7, .ref r4), (6, .ref r3), (0, .ref a0), (1, .int x1), (2, .int x2), (3, .int x3), (4, .int x4), (5, .int x5)]) (st' := [.int x5, .int x2, .ref r3]) (h' := h) 3 rfl trivial ?_
                obtain ⟨r7, e7, hf⟩ := q_bd hf
                refine v_callV C0 cokX4_copy rfl (rest := []) (ctX1_hasStretch r3 x2 x5 g5 e7) calX1_hasStretch lkX4_353 inX1_hasStretch dnX1_hasStretch (ci := 1) ⟨rfl, by decide⟩ g5 rfl rfl ⟨by decide, by decide⟩ (Nat.le_of_ble_eq_true rfl) (Nat.le_refl _) (Nat.le_refl _) ?_
                refine v_if_eq C0 cokX4_copy rfl 106 (by decide) hf (fun _ hf => ?_) (fun _ hf => ?_)
                · refine v_run C0 tbX4 cokX4_copy (pc' := 108) (lv' := [(7, .ref r4), (6, .ref r3), (0, .ref a0), (1, .int x1), (2, .int x2), (3, .int x3), (4, .int x4), (5, .int x5)]) (st' := [.int (-13 : Int32)]) (h' := h) 1 rfl trivial ?_
                  obtain ⟨rfl, rfl⟩ := Prod.mk.inj (Option.some.inj hf)
                  exact v_iret C0 cokX4_copy hr hlk rfl
                · refine v_run C0 tbX4 cokX4_copy (pc' := 100) (lv' := [(7, .ref r4), (6, .ref r3), (0, .ref a0), (1, .int x1), (2, .int x2), (3, .int x3), (4, .int x4), (5, .int x5)]) (st' := [.int x5, .int x4, .ref r4]) (h' := h) 3 rfl trivial ?_
                  obtain ⟨r8, e8, hf⟩ := q_bd hf
                  refine v_callV C0 cokX4_copy rfl (rest := []) (ctX1_hasStretch r4 x4 x5 g6 e8) calX1_hasStretch lkX4_353 inX1_hasStretch dnX1_hasStretch (ci := 1) ⟨rfl, by decide⟩ g6 rfl rfl ⟨by decide, by decide⟩ (Nat.le_of_ble_eq_true rfl) (Nat.le_refl _) (Nat.le_refl _) ?_
                  refine v_if_ne C0 cokX4_copy rfl 109 (by decide) hf (fun _ hf => ?_) (fun _ hf => ?_)
                  · refine v_run C0 tbX4 cokX4_copy (pc' := 108) (lv' := [(7, .ref r4), (6, .ref r3), (0, .ref a0), (1, .int x1), (2, .int x2), (3, .int x3), (4, .int x4), (5, .int x5)]) (st' := [.int (-13 : Int32)]) (h' := h) 1 rfl trivial ?_
                    obtain ⟨rfl, rfl⟩ := Prod.mk.inj (Option.some.inj hf)
                    exact v_iret C0 cokX4_copy hr hlk rfl
                  · obtain ⟨⟨g9, g10⟩, hf⟩ := q_gu_o hf
                    refine v_run C0 tbX4 cokX4_copy (pc' := 124) (lv' := [(7, .ref r4), (6, .ref r3), (0, .ref a0), (1, .int x1), (2, .int x2), (3, .int x3), (4, .int x4), (5, .int x5)]) (st' := [.int x5, .int x4, .ref (q_ref σ r4 0), .int x2, .ref (q_ref σ r3 0)]) (h' := h) 7 rfl ⟨⟨g5, q_tn g9⟩, ⟨g6, q_tn g10⟩, trivial⟩ ?_
                    obtain ⟨g11, hf⟩ := q_gu_o hf
                    refine v_copy C0 cokX4_copy rfl cpwX4_356 (by decide) (by decide) g9 g10 g11 (Nat.le_of_ble_eq_true rfl) ?_
                    refine v_run C0 tbX4 cokX4_copy (pc' := 129) (lv' := [(7, .ref r4), (6, .ref r3), (0, .ref a0), (1, .int x1), (2, .int x2), (3, .int x3), (4, .int x4), (5, .int x5)]) (st' := [.int x5]) (h' := (q_cp h (q_ref σ r3 0) (q_ref σ r4 0) (Int32.toNatClampNeg x2) (Int32.toNatClampNeg x4) (Int32.toNatClampNeg x5))) 1 rfl trivial ?_
                    obtain ⟨rfl, rfl⟩ := Prod.mk.inj (Option.some.inj hf)
                    exact v_iret C0 cokX4_copy hr hlk rfl
              · refine v_run C0 tbX4 cokX4_copy (pc' := 82) (lv' := [(7, .ref r4), (6, .ref r3), (0, .ref a0), (1, .int x1), (2, .int x2), (3, .int x3), (4, .int x4), (5, .int x5)]) (st' := [.int (-12 : Int32)]) (h' := h) 1 rfl trivial ?_
                obtain ⟨rfl, rfl⟩ := Prod.mk.inj (Option.some.inj hf)
                exact v_iret C0 cokX4_copy hr hlk rfl
            · refine v_run C0 tbX4 cokX4_copy (pc' := 82) (lv' := [(7, .ref r4), (6, .ref r3), (0, .ref a0), (1, .int x1), (2, .int x2), (3, .int x3), (4, .int x4), (5, .int x5)]) (st' := [.int (-12 : Int32)]) (h' := h) 1 rfl trivial ?_
              obtain ⟨rfl, rfl⟩ := Prod.mk.inj (Option.some.inj hf)
              exact v_iret C0 cokX4_copy hr hlk rfl
          · refine v_run C0 tbX4 cokX4_copy (pc' := 82) (lv' := [(7, .ref r4), (6, .ref r3), (0, .ref a0), (1, .int x1), (2, .int x2), (3, .int x3), (4, .int x4), (5, .int x5)]) (st' := [.int (-12 : Int32)]) (h' := h) 1 rfl trivial ?_
            obtain ⟨rfl, rfl⟩ := Prod.mk.inj (Option.some.inj hf)
            exact v_iret C0 cokX4_copy hr hlk rfl
-- BackByNoonOnMonday.cost(I)I
noncomputable def fX4_cost (σ : q_St) (h : q_Hp) (a0 : Nat) (x1 : Int32) : Option Int32 := ((fX4_isShelf σ h x1).bind fun r1 => (if r1 = 0 then some (-1 : Int32) else ((fX4_shelfAt σ h a0 x1).bind fun r2 => q_gu ((q_tag σ r2 = 2)) (((fX1_refusal σ h r2 (1 : Int32)).bind fun r4 => (if r4 = 0 then q_gu ((q_tag σ (q_ref σ r2 2) = 4)) (some (q_int h (q_ref σ r2 2) 6)) else some r4))))))
def cdX4_cost : q_Cd := [(0, .iload_n 1), (1, .invokestatic 67), (4, .ifCond .ne 5), (7, .iconst (-1)), (8, .ireturn), (9, .aload_n 0), (10, .iload_n 1), (11, .invokevirtual 71), (14, .astore_n 2), (15, .aload_n 2), (16, .iconst 1), (17, .invokevirtual 152), (20, .istore_n 3), (21, .iload_n 3), (22, .ifCond .eq 7), (25, .iload_n 3), (26, .goto 10), (29, .aload_n 2), (30, .getfield 156), (33, .getfield 362), (36, .ireturn)]
set_option maxRecDepth 100000 in
theorem cokX4_cost : q_cok cX4_cost cdX4_cost := by unfold q_cok; decide +kernel
set_option maxRecDepth 100000 in
set_option maxHeartbeats 4000000 in
theorem ctX4_cost {l : Launch} {D : va_G} {cy : Nat → Nat} {b0 : Nat} {σ : q_St} {h : q_Hp} (a0 : Nat) (x1 : Int32) {r : Int32} (ta0 : q_tag σ a0 = 5) (hf : fX4_cost σ h a0 x1 = some r) : q_M l yX4_cost cX4_cost 4 (some .int) 2 42 0 0 D cy b0 σ h [.ref a0, .int x1] (some (.int r)) σ h := by
  unfold fX4_cost at hf
  refine q_enter (by decide) (Nat.le_of_ble_eq_true rfl) ?_
  intro p e s m args below meth c C0 hr hlk hnm
  replace C0 : VC p { frames := 2, cells := 0, slots := 0, locals := 42 } s m args meth c D cy b0 4 0 0 RX4 cX4_cost := C0
  refine v_run C0 tbX4 cokX4_cost (pc' := 1) (lv' := [(0, .ref a0), (1, .int x1)]) (st' := [.int x1]) (h' := h) 1 rfl trivial ?_
  obtain ⟨r1, e1, hf⟩ := q_bd hf
  refine v_callS C0 cokX4_cost rfl (rest := []) (ctX4_isShelf x1 e1) calX4_isShelf lkX4_67 inX4_isShelf dnX4_isShelf rfl rfl ⟨by decide, by decide⟩ (Nat.le_of_ble_eq_true rfl) (Nat.le_refl _) (Nat.le_refl _) ?_
  refine v_if_ne C0 cokX4_cost rfl 9 (by decide) hf (fun _ hf => ?_) (fun _ hf => ?_)
  · refine v_run C0 tbX4 cokX4_cost (pc' := 8) (lv' := [(0, .ref a0), (1, .int x1)]) (st' := [.int (-1 : Int32)]) (h' := h) 1 rfl trivial ?_
    obtain rfl := Option.some.inj hf
    exact v_iret C0 cokX4_cost hr hlk rfl
  · refine v_run C0 tbX4 cokX4_cost (pc' := 11) (lv' := [(0, .ref a0), (1, .int x1)]) (st' := [.int x1, .ref a0]) (h' := h) 2 rfl trivial ?_
    obtain ⟨r2, e2, hf⟩ := q_bd hf
    refine v_callV C0 cokX4_cost rfl (rest := []) (ctX4_shelfAt a0 x1 ta0 e2) calX4_shelfAt lkX4_71 inX4_shelfAt dnX4_shelfAt (ci := 4) ⟨rfl, by decide⟩ ta0 rfl rfl ⟨by decide, by decide⟩ (Nat.le_of_ble_eq_true rfl) (Nat.le_refl _) (Nat.le_refl _) ?_
    refine v_run C0 tbX4 cokX4_cost (pc' := 17) (lv' := [(2, .ref r2), (0, .ref a0), (1, .int x1)]) (st' := [.int (1 : Int32), .ref r2]) (h' := h) 3 rfl trivial ?_
    obtain ⟨g3, hf⟩ := q_gu_o hf
    obtain ⟨r4, e4, hf⟩ := q_bd hf
    refine v_callV C0 cokX4_cost rfl (rest := []) (ctX1_refusal r2 (1 : Int32) g3 e4) calX1_refusal lkX4_152 inX1_refusal dnX1_refusal (ci := 1) ⟨rfl, by decide⟩ g3 rfl rfl ⟨by decide, by decide⟩ (Nat.le_of_ble_eq_true rfl) (Nat.le_refl _) (Nat.le_refl _) ?_
    refine v_run C0 tbX4 cokX4_cost (pc' := 22) (lv' := [(3, .int r4), (2, .ref r2), (0, .ref a0), (1, .int x1)]) (st' := [.int r4]) (h' := h) 2 rfl trivial ?_
    refine v_if_eq C0 cokX4_cost rfl 29 (by decide) hf (fun _ hf => ?_) (fun _ hf => ?_)
    · obtain ⟨g5, hf⟩ := q_gu_o hf
      refine v_run C0 tbX4 cokX4_cost (pc' := 36) (lv' := [(3, .int r4), (2, .ref r2), (0, .ref a0), (1, .int x1)]) (st' := [.int (q_int h (q_ref σ r2 2) 6)]) (h' := h) 3 rfl ⟨⟨g3, q_tn g5⟩, g5, trivial⟩ ?_
      obtain rfl := Option.some.inj hf
      exact v_iret C0 cokX4_cost hr hlk rfl
    · refine v_run C0 tbX4 cokX4_cost (pc' := 36) (lv' := [(3, .int r4), (2, .ref r2), (0, .ref a0), (1, .int x1)]) (st' := [.int r4]) (h' := h) 2 rfl trivial ?_
      obtain rfl := Option.some.inj hf
      exact v_iret C0 cokX4_cost hr hlk rfl
-- BackByNoonOnMondayModel.thrown()I
noncomputable def fX5_thrown (σ : q_St) (h : q_Hp) (a0 : Nat) : Option Int32 := some (q_int h a0 21)
def cdX5_thrown : q_Cd := [(0, .aload_n 0), (1, .getfield 89), (4, .ireturn)]
set_option maxRecDepth 100000 in
theorem cokX5_thrown : q_cok cX5_thrown cdX5_thrown := by unfold q_cok; decide +kernel
set_option maxRecDepth 100000 in
set_option maxHeartbeats 4000000 in
theorem ctX5_thrown {l : Launch} {D : va_G} {cy : Nat → Nat} {b0 : Nat} {σ : q_St} {h : q_Hp} (a0 : Nat) {r : Int32} (ta0 : q_tag σ a0 = 6) (hf : fX5_thrown σ h a0 = some r) : q_M l yX5_thrown cX5_thrown 1 (some .int) 0 0 0 0 D cy b0 σ h [.ref a0] (some (.int r)) σ h := by
  unfold fX5_thrown at hf
  refine q_enter (by decide) (Nat.le_of_ble_eq_true rfl) ?_
  intro p e s m args below meth c C0 hr hlk hnm
  replace C0 : VC p { frames := 0, cells := 0, slots := 0, locals := 0 } s m args meth c D cy b0 1 0 0 RX5 cX5_thrown := C0
  refine v_run C0 tbX5 cokX5_thrown (pc' := 4) (lv' := [(0, .ref a0)]) (st' := [.int (q_int h a0 21)]) (h' := h) 2 rfl ⟨ta0, trivial⟩ ?_
  obtain rfl := Option.some.inj hf
  exact v_iret C0 cokX5_thrown hr hlk rfl
-- BackByNoonOnMondayModel.in(JJJ)Z
noncomputable def fX5_in (σ : q_St) (h : q_Hp) (y0 : Int64) (y2 : Int64) (y4 : Int64) : Option Int32 := (if (lg_cmp y0 y2) < 0 then some (0 : Int32) else (if 0 < (lg_cmp y0 y4) then some (0 : Int32) else some (1 : Int32)))
def cdX5_in : q_Cd := [(0, .lload_n 0), (1, .lload_n 2), (2, .lcmp), (3, .ifCond .lt 14), (6, .lload_n 0), (7, .lload 4), (9, .lcmp), (10, .ifCond .gt 7), (13, .iconst 1), (14, .goto 4), (17, .iconst 0), (18, .ireturn)]
set_option maxRecDepth 100000 in
theorem cokX5_in : q_cok cX5_in cdX5_in := by unfold q_cok; decide +kernel
set_option maxRecDepth 100000 in
set_option maxHeartbeats 4000000 in
theorem ctX5_in {l : Launch} {D : va_G} {cy : Nat → Nat} {b0 : Nat} {σ : q_St} {h : q_Hp} (y0 : Int64) (y2 : Int64) (y4 : Int64) {r : Int32} (hf : fX5_in σ h y0 y2 y4 = some r) : q_M l yX5_in cX5_in 6 (some .boolean) 0 0 0 0 D cy b0 σ h [.long y0, .long y2, .long y4] (some (.int r)) σ h := by
  unfold fX5_in at hf
  refine q_enter (by decide) (Nat.le_of_ble_eq_true rfl) ?_
  intro p e s m args below meth c C0 hr hlk hnm
  replace C0 : VC p { frames := 0, cells := 0, slots := 0, locals := 0 } s m args meth c D cy b0 6 0 0 RX5 cX5_in := C0
  refine v_run C0 tbX5 cokX5_in (pc' := 3) (lv' := [(0, .long y0), (2, .long y2), (4, .long y4)]) (st' := [.int (lg_cmp y0 y2)]) (h' := h) 3 rfl trivial ?_
  refine v_if_lt C0 cokX5_in rfl 17 (by decide) hf (fun _ hf => ?_) (fun _ hf => ?_)
  · refine v_run C0 tbX5 cokX5_in (pc' := 18) (lv' := [(0, .long y0), (2, .long y2), (4, .long y4)]) (st' := [.int (0 : Int32)]) (h' := h) 1 rfl trivial ?_
    obtain rfl := Option.some.inj hf
    exact v_zret C0 cokX5_in hr hlk rfl (Or.inl rfl)
  · refine v_run C0 tbX5 cokX5_in (pc' := 10) (lv' := [(0, .long y0), (2, .long y2), (4, .long y4)]) (st' := [.int (lg_cmp y0 y4)]) (h' := h) 3 rfl trivial ?_
    refine v_if_gt C0 cokX5_in rfl 17 (by decide) hf (fun _ hf => ?_) (fun _ hf => ?_)
    · refine v_run C0 tbX5 cokX5_in (pc' := 18) (lv' := [(0, .long y0), (2, .long y2), (4, .long y4)]) (st' := [.int (0 : Int32)]) (h' := h) 1 rfl trivial ?_
      obtain rfl := Option.some.inj hf
      exact v_zret C0 cokX5_in hr hlk rfl (Or.inl rfl)
    · refine v_run C0 tbX5 cokX5_in (pc' := 18) (lv' := [(0, .long y0), (2, .long y2), (4, .long y4)]) (st' := [.int (1 : Int32)]) (h' := h) 2 rfl trivial ?_
      obtain rfl := Option.some.inj hf
      exact v_zret C0 cokX5_in hr hlk rfl (Or.inr rfl)
-- BackByNoonOnMondayModel.hasBit(II)Z
noncomputable def fX5_hasBit (σ : q_St) (h : q_Hp) (x0 : Int32) (x1 : Int32) : Option Int32 := (if ((x0 >>> (x1 &&& 31)) &&& (1 : Int32)) = (1 : Int32) then some (1 : Int32) else some (0 : Int32))
def cdX5_hasBit : q_Cd := [(0, .iload_n 0), (1, .iload_n 1), (2, .ishr), (3, .iconst 1), (4, .iand), (5, .iconst 1), (6, .if_icmp .ne 7), (9, .iconst 1), (10, .goto 4), (13, .iconst 0), (14, .ireturn)]
set_option maxRecDepth 100000 in
theorem cokX5_hasBit : q_cok cX5_hasBit cdX5_hasBit := by unfold q_cok; decide +kernel
set_option maxRecDepth 100000 in
set_option maxHeartbeats 4000000 in
theorem ctX5_hasBit {l : Launch} {D : va_G} {cy : Nat → Nat} {b0 : Nat} {σ : q_St} {h : q_Hp} (x0 : Int32) (x1 : Int32) {r : Int32} (hf : fX5_hasBit σ h x0 x1 = some r) : q_M l yX5_hasBit cX5_hasBit 2 (some .boolean) 0 0 0 0 D cy b0 σ h [.int x0, .int x1] (some (.int r)) σ h := by
  unfold fX5_hasBit at hf
  refine q_enter (by decide) (Nat.le_of_ble_eq_true rfl) ?_
  intro p e s m args below meth c C0 hr hlk hnm
  replace C0 : VC p { frames := 0, cells := 0, slots := 0, locals := 0 } s m args meth c D cy b0 2 0 0 RX5 cX5_hasBit := C0
  refine v_run C0 tbX5 cokX5_hasBit (pc' := 6) (lv' := [(0, .int x0), (1, .int x1)]) (st' := [.int (1 : Int32), .int ((x0 >>> (x1 &&& 31)) &&& (1 : Int32))]) (h' := h) 6 rfl trivial ?_
  refine v_icmp_ne C0 cokX5_hasBit rfl 13 (by decide) hf (fun _ hf => ?_) (fun _ hf => ?_)
  · refine v_run C0 tbX5 cokX5_hasBit (pc' := 14) (lv' := [(0, .int x0), (1, .int x1)]) (st' := [.int (1 : Int32)]) (h' := h) 2 rfl trivial ?_
    obtain rfl := Option.some.inj hf
    exact v_zret C0 cokX5_hasBit hr hlk rfl (Or.inr rfl)
  · refine v_run C0 tbX5 cokX5_hasBit (pc' := 14) (lv' := [(0, .int x0), (1, .int x1)]) (st' := [.int (0 : Int32)]) (h' := h) 1 rfl trivial ?_
    obtain rfl := Option.some.inj hf
    exact v_zret C0 cokX5_hasBit hr hlk rfl (Or.inl rfl)
-- BackByNoonOnMondayModel.onesOf(I)I
noncomputable def fX5_onesOf_4 (σ : q_St) (h : q_Hp) (x0 : Int32) (x1 : Int32) (x2 : Int32) : Option ((Int32 × Int32) ⊕ Int32) := (if x2 = 0 then some (Sum.inr x1) else some (Sum.inl ((x1 + (1 : Int32)), (x2 &&& (x2 - (1 : Int32))))))
noncomputable def fX5_onesOf (σ : q_St) (h : q_Hp) (x0 : Int32) : Option Int32 := (q_loop (fun s => fX5_onesOf_4 σ h x0 s.1 s.2) q_N ((0 : Int32), x0)).bind fun o1 => some o1
def cdX5_onesOf : q_Cd := [(0, .iconst 0), (1, .istore_n 1), (2, .iload_n 0), (3, .istore_n 2), (4, .iload_n 2), (5, .ifCond .eq 15), (8, .iinc 1 1), (11, .iload_n 2), (12, .iload_n 2), (13, .iconst 1), (14, .isub), (15, .iand), (16, .istore_n 2), (17, .goto (-13)), (20, .iload_n 1), (21, .ireturn)]
set_option maxRecDepth 100000 in
theorem cokX5_onesOf : q_cok cX5_onesOf cdX5_onesOf := by unfold q_cok; decide +kernel
set_option maxRecDepth 100000 in
set_option maxHeartbeats 4000000 in
theorem ctX5_onesOf {l : Launch} {D : va_G} {cy : Nat → Nat} {b0 : Nat} {σ : q_St} {h : q_Hp} (x0 : Int32) {r : Int32} (hf : fX5_onesOf σ h x0 = some r) : q_M l yX5_onesOf cX5_onesOf 3 (some .int) 0 0 0 0 D cy b0 σ h [.int x0] (some (.int r)) σ h := by
  unfold fX5_onesOf at hf
  refine q_enter (by decide) (Nat.le_of_ble_eq_true rfl) ?_
  intro p e s m args below meth c C0 hr hlk hnm
  replace C0 : VC p { frames := 0, cells := 0, slots := 0, locals := 0 } s m args meth c D cy b0 3 0 0 RX5 cX5_onesOf := C0
  have n4 : ∀ (o : Int32) (s1 : (Int32 × Int32)), q_loop (fun s => fX5_onesOf_4 σ h x0 s.1 s.2) q_N s1 = some o → V p l e { frames := 0, cells := 0, slots := 0, locals := 0 } s m args below meth c (MQ below (q_Qc D cy b0 (some (.int r)) σ h) args s 0 0 (fun q => b0 ≤ q)) D cy b0 3 0 0 0 0 σ h 20 [(1, .int o)] [] → V p l e { frames := 0, cells := 0, slots := 0, locals := 0 } s m args below meth c (MQ below (q_Qc D cy b0 (some (.int r)) σ h) args s 0 0 (fun q => b0 ≤ q)) D cy b0 3 0 0 0 0 σ h 4 [(1, .int s1.1), (2, .int s1.2)] [] := by
    intro o s1 ho kx1
    refine q_loop_V (P := fun s0 => V p l e { frames := 0, cells := 0, slots := 0, locals := 0 } s m args below meth c (MQ below (q_Qc D cy b0 (some (.int r)) σ h) args s 0 0 (fun q => b0 ≤ q)) D cy b0 3 0 0 0 0 σ h 4 [(1, .int s0.1), (2, .int s0.2)] []) (o := o) ?_ q_N s1 ho
    intro s2 z1 hf kb1 kr1
    obtain ⟨x1, x2⟩ := s2
    replace hf : fX5_onesOf_4 σ h x0 x1 x2 = some z1 := hf
    unfold fX5_onesOf_4 at hf
    show V p l e { frames := 0, cells := 0, slots := 0, locals := 0 } s m args below meth c (MQ below (q_Qc D cy b0 (some (.int r)) σ h) args s 0 0 (fun q => b0 ≤ q)) D cy b0 3 0 0 0 0 σ h 4 [(1, .int x1), (2, .int x2)] []
    refine v_run C0 tbX5 cokX5_onesOf (pc' := 5) (lv' := [(1, .int x1), (2, .int x2)]) (st' := [.int x2]) (h' := h) 1 rfl trivial ?_
    refine v_if_eq C0 cokX5_onesOf rfl 20 (by decide) hf (fun _ hf => ?_) (fun _ hf => ?_)
    · obtain rfl := Option.some.inj hf
      refine v_pick [0] rfl ?_
      have hx := kr1 _ rfl
      subst hx
      exact kx1
    · refine v_run C0 tbX5 cokX5_onesOf (pc' := 4) (lv' := [(2, .int (x2 &&& (x2 - (1 : Int32)))), (1, .int (x1 + (1 : Int32)))]) (st' := []) (h' := h) 8 rfl trivial ?_
      obtain rfl := Option.some.inj hf
      refine v_pick [1, 0] rfl ?_
      exact kb1 _ rfl
  refine v_run C0 tbX5 cokX5_onesOf (pc' := 4) (lv' := [(2, .int x0), (1, .int (0 : Int32)), (0, .int x0)]) (st' := []) (h' := h) 4 rfl trivial ?_
  obtain ⟨o1, eo1, hf⟩ := q_bd hf
  refine v_pick [1, 0] rfl ?_
  refine n4 o1 ((0 : Int32), x0) eo1 ?_
  refine v_run C0 tbX5 cokX5_onesOf (pc' := 21) (lv' := [(1, .int o1)]) (st' := [.int o1]) (h' := h) 1 rfl trivial ?_
  obtain rfl := Option.some.inj hf
  exact v_iret C0 cokX5_onesOf hr hlk rfl
-- BackByNoonOnMondayModel.greater(II)I
noncomputable def fX5_greater (σ : q_St) (h : q_Hp) (x0 : Int32) (x1 : Int32) : Option Int32 := (if x0 ≤ x1 then some x1 else some x0)
def cdX5_greater : q_Cd := [(0, .iload_n 0), (1, .iload_n 1), (2, .if_icmp .le 7), (5, .iload_n 0), (6, .goto 4), (9, .iload_n 1), (10, .ireturn)]
set_option maxRecDepth 100000 in
theorem cokX5_greater : q_cok cX5_greater cdX5_greater := by unfold q_cok; decide +kernel
set_option maxRecDepth 100000 in
set_option maxHeartbeats 4000000 in
theorem ctX5_greater {l : Launch} {D : va_G} {cy : Nat → Nat} {b0 : Nat} {σ : q_St} {h : q_Hp} (x0 : Int32) (x1 : Int32) {r : Int32} (hf : fX5_greater σ h x0 x1 = some r) : q_M l yX5_greater cX5_greater 2 (some .int) 0 0 0 0 D cy b0 σ h [.int x0, .int x1] (some (.int r)) σ h := by
  unfold fX5_greater at hf
  refine q_enter (by decide) (Nat.le_of_ble_eq_true rfl) ?_
  intro p e s m args below meth c C0 hr hlk hnm
  replace C0 : VC p { frames := 0, cells := 0, slots := 0, locals := 0 } s m args meth c D cy b0 2 0 0 RX5 cX5_greater := C0
  refine v_run C0 tbX5 cokX5_greater (pc' := 2) (lv' := [(0, .int x0), (1, .int x1)]) (st' := [.int x1, .int x0]) (h' := h) 2 rfl trivial ?_
  refine v_icmp_le C0 cokX5_greater rfl 9 (by decide) hf (fun _ hf => ?_) (fun _ hf => ?_)
  · refine v_run C0 tbX5 cokX5_greater (pc' := 10) (lv' := [(0, .int x0), (1, .int x1)]) (st' := [.int x1]) (h' := h) 1 rfl trivial ?_
    obtain rfl := Option.some.inj hf
    exact v_iret C0 cokX5_greater hr hlk rfl
  · refine v_run C0 tbX5 cokX5_greater (pc' := 10) (lv' := [(0, .int x0), (1, .int x1)]) (st' := [.int x0]) (h' := h) 2 rfl trivial ?_
    obtain rfl := Option.some.inj hf
    exact v_iret C0 cokX5_greater hr hlk rfl
-- BackByNoonOnMondayModel.apart(II)I
noncomputable def fX5_apart (σ : q_St) (h : q_Hp) (x0 : Int32) (x1 : Int32) : Option Int32 := (if x0 ≤ x1 then some (x1 - x0) else some (x0 - x1))
def cdX5_apart : q_Cd := [(0, .iload_n 0), (1, .iload_n 1), (2, .if_icmp .le 9), (5, .iload_n 0), (6, .iload_n 1), (7, .isub), (8, .goto 6), (11, .iload_n 1), (12, .iload_n 0), (13, .isub), (14, .ireturn)]
set_option maxRecDepth 100000 in
theorem cokX5_apart : q_cok cX5_apart cdX5_apart := by unfold q_cok; decide +kernel
set_option maxRecDepth 100000 in
set_option maxHeartbeats 4000000 in
theorem ctX5_apart {l : Launch} {D : va_G} {cy : Nat → Nat} {b0 : Nat} {σ : q_St} {h : q_Hp} (x0 : Int32) (x1 : Int32) {r : Int32} (hf : fX5_apart σ h x0 x1 = some r) : q_M l yX5_apart cX5_apart 2 (some .int) 0 0 0 0 D cy b0 σ h [.int x0, .int x1] (some (.int r)) σ h := by
  unfold fX5_apart at hf
  refine q_enter (by decide) (Nat.le_of_ble_eq_true rfl) ?_
  intro p e s m args below meth c C0 hr hlk hnm
  replace C0 : VC p { frames := 0, cells := 0, slots := 0, locals := 0 } s m args meth c D cy b0 2 0 0 RX5 cX5_apart := C0
  refine v_run C0 tbX5 cokX5_apart (pc' := 2) (lv' := [(0, .int x0), (1, .int x1)]) (st' := [.int x1, .int x0]) (h' := h) 2 rfl trivial ?_
  refine v_icmp_le C0 cokX5_apart rfl 11 (by decide) hf (fun _ hf => ?_) (fun _ hf => ?_)
  · refine v_run C0 tbX5 cokX5_apart (pc' := 14) (lv' := [(0, .int x0), (1, .int x1)]) (st' := [.int (x1 - x0)]) (h' := h) 3 rfl trivial ?_
    obtain rfl := Option.some.inj hf
    exact v_iret C0 cokX5_apart hr hlk rfl
  · refine v_run C0 tbX5 cokX5_apart (pc' := 14) (lv' := [(0, .int x0), (1, .int x1)]) (st' := [.int (x0 - x1)]) (h' := h) 4 rfl trivial ?_
    obtain rfl := Option.some.inj hf
    exact v_iret C0 cokX5_apart hr hlk rfl
-- BackByNoonOnMondayModel.isSuit(I)Z
noncomputable def fX5_isSuit (σ : q_St) (h : q_Hp) (a0 : Nat) (x1 : Int32) : Option Int32 := ((fX5_in σ h (Int32.toInt64 x1) (0 : Int64) (Int32.toInt64 ((q_int h a0 0) - (1 : Int32)))).bind fun r1 => q_gu ((r1 = 0 ∨ r1 = 1)) (some r1))
def cdX5_isSuit : q_Cd := [(0, .iload_n 1), (1, .i2l), (2, .lconst 0), (3, .aload_n 0), (4, .getfield 93), (7, .iconst 1), (8, .isub), (9, .i2l), (10, .invokestatic 96), (13, .ireturn)]
set_option maxRecDepth 100000 in
theorem cokX5_isSuit : q_cok cX5_isSuit cdX5_isSuit := by unfold q_cok; decide +kernel
set_option maxRecDepth 100000 in
set_option maxHeartbeats 4000000 in
theorem ctX5_isSuit {l : Launch} {D : va_G} {cy : Nat → Nat} {b0 : Nat} {σ : q_St} {h : q_Hp} (a0 : Nat) (x1 : Int32) {r : Int32} (ta0 : q_tag σ a0 = 6) (hf : fX5_isSuit σ h a0 x1 = some r) : q_M l yX5_isSuit cX5_isSuit 2 (some .boolean) 1 25 0 0 D cy b0 σ h [.ref a0, .int x1] (some (.int r)) σ h := by
  unfold fX5_isSuit at hf
  refine q_enter (by decide) (Nat.le_of_ble_eq_true rfl) ?_
  intro p e s m args below meth c C0 hr hlk hnm
  replace C0 : VC p { frames := 1, cells := 0, slots := 0, locals := 25 } s m args meth c D cy b0 2 0 0 RX5 cX5_isSuit := C0
  refine v_run C0 tbX5 cokX5_isSuit (pc' := 10) (lv' := [(0, .ref a0), (1, .int x1)]) (st' := [.long (Int32.toInt64 ((q_int h a0 0) - (1 : Int32))), .long (0 : Int64), .long (Int32.toInt64 x1)]) (h' := h) 8 rfl ⟨ta0, trivial⟩ ?_
  obtain ⟨r1, e1, hf⟩ := q_bd hf
  refine v_callS C0 cokX5_isSuit rfl (rest := []) (ctX5_in (Int32.toInt64 x1) (0 : Int64) (Int32.toInt64 ((q_int h a0 0) - (1 : Int32))) e1) calX5_in lkX5_96 inX5_in dnX5_in rfl rfl ⟨by decide, by decide⟩ (Nat.le_of_ble_eq_true rfl) (Nat.le_refl _) (Nat.le_refl _) ?_
  obtain ⟨g2, hf⟩ := q_gu_o hf
  obtain rfl := Option.some.inj hf
  exact v_zret C0 cokX5_isSuit hr hlk rfl g2
-- BackByNoonOnMondayModel.isBooking(I)Z
noncomputable def fX5_isBooking (σ : q_St) (h : q_Hp) (a0 : Nat) (x1 : Int32) : Option Int32 := ((fX5_in σ h (Int32.toInt64 x1) (0 : Int64) (Int32.toInt64 ((q_int h a0 6) - (1 : Int32)))).bind fun r1 => q_gu ((r1 = 0 ∨ r1 = 1)) (some r1))
def cdX5_isBooking : q_Cd := [(0, .iload_n 1), (1, .i2l), (2, .lconst 0), (3, .aload_n 0), (4, .getfield 100), (7, .iconst 1), (8, .isub), (9, .i2l), (10, .invokestatic 96), (13, .ireturn)]
set_option maxRecDepth 100000 in
theorem cokX5_isBooking : q_cok cX5_isBooking cdX5_isBooking := by unfold q_cok; decide +kernel
set_option maxRecDepth 100000 in
set_option maxHeartbeats 4000000 in
theorem ctX5_isBooking {l : Launch} {D : va_G} {cy : Nat → Nat} {b0 : Nat} {σ : q_St} {h : q_Hp} (a0 : Nat) (x1 : Int32) {r : Int32} (ta0 : q_tag σ a0 = 6) (hf : fX5_isBooking σ h a0 x1 = some r) : q_M l yX5_isBooking cX5_isBooking 2 (some .boolean) 1 25 0 0 D cy b0 σ h [.ref a0, .int x1] (some (.int r)) σ h := by
  unfold fX5_isBooking at hf
  refine q_enter (by decide) (Nat.le_of_ble_eq_true rfl) ?_
  intro p e s m args below meth c C0 hr hlk hnm
  replace C0 : VC p { frames := 1, cells := 0, slots := 0, locals := 25 } s m args meth c D cy b0 2 0 0 RX5 cX5_isBooking := C0
  refine v_run C0 tbX5 cokX5_isBooking (pc' := 10) (lv' := [(0, .ref a0), (1, .int x1)]) (st' := [.long (Int32.toInt64 ((q_int h a0 6) - (1 : Int32))), .long (0 : Int64), .long (Int32.toInt64 x1)]) (h' := h) 8 rfl ⟨ta0, trivial⟩ ?_
  obtain ⟨r1, e1, hf⟩ := q_bd hf
  refine v_callS C0 cokX5_isBooking rfl (rest := []) (ctX5_in (Int32.toInt64 x1) (0 : Int64) (Int32.toInt64 ((q_int h a0 6) - (1 : Int32))) e1) calX5_in lkX5_96 inX5_in dnX5_in rfl rfl ⟨by decide, by decide⟩ (Nat.le_of_ble_eq_true rfl) (Nat.le_refl _) (Nat.le_refl _) ?_
  obtain ⟨g2, hf⟩ := q_gu_o hf
  obtain rfl := Option.some.inj hf
  exact v_zret C0 cokX5_isBooking hr hlk rfl g2
-- BackByNoonOnMondayModel.priceBy(II)I
noncomputable def fX5_priceBy (σ : q_St) (h : q_Hp) (x0 : Int32) (x1 : Int32) : Option Int32 := (if x0 = (1 : Int32) then some ((15 : Int32) + x1) else (if x0 = (2 : Int32) then some ((8 : Int32) + x1) else (if x0 = (3 : Int32) then some (((10 : Int32) + x1) / (2 : Int32)) else (if x0 = (4 : Int32) then some ((2 : Int32) * ((15 : Int32) + x1)) else (if x0 = (5 : Int32) then some ((8 : Int32) + ((2 : Int32) * x1)) else (if x0 = (6 : Int32) then some ((((10 : Int32) + x1) / (2 : Int32)) - (1 : Int32)) else (if x0 = (7 : Int32) then some ((18 : Int32) + x1) else some ((10 : Int32) + x1))))))))
def cdX5_priceBy : q_Cd := [(0, .iload_n 0), (44, .bipush 15), (46, .iload_n 1), (47, .iadd), (48, .ireturn), (49, .bipush 8), (51, .iload_n 1), (52, .iadd), (53, .ireturn), (54, .bipush 10), (56, .iload_n 1), (57, .iadd), (58, .iconst 2), (59, .idiv), (60, .ireturn), (61, .iconst 2), (62, .bipush 15), (64, .iload_n 1), (65, .iadd), (66, .imul), (67, .ireturn), (68, .bipush 8), (70, .iconst 2), (71, .iload_n 1), (72, .imul), (73, .iadd), (74, .ireturn), (75, .bipush 10), (77, .iload_n 1), (78, .iadd), (79, .iconst 2), (80, .idiv), (81, .iconst 1), (82, .isub), (83, .ireturn), (84, .bipush 18), (86, .iload_n 1), (87, .iadd), (88, .ireturn), (89, .bipush 10), (91, .iload_n 1), (92, .iadd), (93, .ireturn)]
set_option maxRecDepth 100000 in
theorem cokX5_priceBy : q_cok cX5_priceBy cdX5_priceBy := by unfold q_cok; decide +kernel
theorem dswX5_priceBy_1 : decode cX5_priceBy 1 = .ok (.tableswitch 88 1 7 #[43, 48, 53, 60, 67, 74, 83], 43) := by decide +kernel
set_option maxRecDepth 100000 in
set_option maxHeartbeats 4000000 in
theorem ctX5_priceBy {l : Launch} {D : va_G} {cy : Nat → Nat} {b0 : Nat} {σ : q_St} {h : q_Hp} (x0 : Int32) (x1 : Int32) {r : Int32} (hf : fX5_priceBy σ h x0 x1 = some r) : q_M l yX5_priceBy cX5_priceBy 2 (some .int) 0 0 0 0 D cy b0 σ h [.int x0, .int x1] (some (.int r)) σ h := by
  unfold fX5_priceBy at hf
  refine q_enter (by decide) (Nat.le_of_ble_eq_true rfl) ?_
  intro p e s m args below meth c C0 hr hlk hnm
  replace C0 : VC p { frames := 0, cells := 0, slots := 0, locals := 0 } s m args meth c D cy b0 2 0 0 RX5 cX5_priceBy := C0
  refine v_run C0 tbX5 cokX5_priceBy (pc' := 1) (lv' := [(0, .int x0), (1, .int x1)]) (st' := [.int x0]) (h' := h) 1 rfl trivial ?_
  rcases q_ite hf with ⟨d1, hf⟩ | ⟨d1, hf⟩
  · refine v_tabI C0 dswX5_priceBy_1 d1 44 (by decide +kernel) (by decide +kernel) ?_
    refine v_run C0 tbX5 cokX5_priceBy (pc' := 48) (lv' := [(0, .int x0), (1, .int x1)]) (st' := [.int ((15 : Int32) + x1)]) (h' := h) 3 rfl trivial ?_
    obtain rfl := Option.some.inj hf
    exact v_iret C0 cokX5_priceBy hr hlk rfl
  · rcases q_ite hf with ⟨d2, hf⟩ | ⟨d2, hf⟩
    · refine v_tabI C0 dswX5_priceBy_1 d2 49 (by decide +kernel) (by decide +kernel) ?_
      refine v_run C0 tbX5 cokX5_priceBy (pc' := 53) (lv' := [(0, .int x0), (1, .int x1)]) (st' := [.int ((8 : Int32) + x1)]) (h' := h) 3 rfl trivial ?_
      obtain rfl := Option.some.inj hf
      exact v_iret C0 cokX5_priceBy hr hlk rfl
    · rcases q_ite hf with ⟨d3, hf⟩ | ⟨d3, hf⟩
      · refine v_tabI C0 dswX5_priceBy_1 d3 54 (by decide +kernel) (by decide +kernel) ?_
        refine v_run C0 tbX5 cokX5_priceBy (pc' := 60) (lv' := [(0, .int x0), (1, .int x1)]) (st' := [.int (((10 : Int32) + x1) / (2 : Int32))]) (h' := h) 5 rfl ⟨(by decide), trivial⟩ ?_
        obtain rfl := Option.some.inj hf
        exact v_iret C0 cokX5_priceBy hr hlk rfl
      · rcases q_ite hf with ⟨d4, hf⟩ | ⟨d4, hf⟩
        · refine v_tabI C0 dswX5_priceBy_1 d4 61 (by decide +kernel) (by decide +kernel) ?_
          refine v_run C0 tbX5 cokX5_priceBy (pc' := 67) (lv' := [(0, .int x0), (1, .int x1)]) (st' := [.int ((2 : Int32) * ((15 : Int32) + x1))]) (h' := h) 5 rfl trivial ?_
          obtain rfl := Option.some.inj hf
          exact v_iret C0 cokX5_priceBy hr hlk rfl
        · rcases q_ite hf with ⟨d5, hf⟩ | ⟨d5, hf⟩
          · refine v_tabI C0 dswX5_priceBy_1 d5 68 (by decide +kernel) (by decide +kernel) ?_
            refine v_run C0 tbX5 cokX5_priceBy (pc' := 74) (lv' := [(0, .int x0), (1, .int x1)]) (st' := [.int ((8 : Int32) + ((2 : Int32) * x1))]) (h' := h) 5 rfl trivial ?_
            obtain rfl := Option.some.inj hf
            exact v_iret C0 cokX5_priceBy hr hlk rfl
          · rcases q_ite hf with ⟨d6, hf⟩ | ⟨d6, hf⟩
            · refine v_tabI C0 dswX5_priceBy_1 d6 75 (by decide +kernel) (by decide +kernel) ?_
              refine v_run C0 tbX5 cokX5_priceBy (pc' := 83) (lv' := [(0, .int x0), (1, .int x1)]) (st' := [.int ((((10 : Int32) + x1) / (2 : Int32)) - (1 : Int32))]) (h' := h) 7 rfl ⟨(by decide), trivial⟩ ?_
              obtain rfl := Option.some.inj hf
              exact v_iret C0 cokX5_priceBy hr hlk rfl
            · rcases q_ite hf with ⟨d7, hf⟩ | ⟨d7, hf⟩
              · refine v_tabI C0 dswX5_priceBy_1 d7 84 (by decide +kernel) (by decide +kernel) ?_
                refine v_run C0 tbX5 cokX5_priceBy (pc' := 88) (lv' := [(0, .int x0), (1, .int x1)]) (st' := [.int ((18 : Int32) + x1)]) (h' := h) 3 rfl trivial ?_
                obtain rfl := Option.some.inj hf
                exact v_iret C0 cokX5_priceBy hr hlk rfl
              · refine v_tabO C0 dswX5_priceBy_1 89 (by decide +kernel) (fun k h1 h2 hk => ?_) ?_
                · have hk2 : k = 1 ∨ k = 2 ∨ k = 3 ∨ k = 4 ∨ k = 5 ∨ k = 6 ∨ k = 7 := by omega
                  rcases hk2 with rfl | rfl | rfl | rfl | rfl | rfl | rfl
                  · exact d1 (Int32.toInt_inj.mp hk)
                  · exact d2 (Int32.toInt_inj.mp hk)
                  · exact d3 (Int32.toInt_inj.mp hk)
                  · exact d4 (Int32.toInt_inj.mp hk)
                  · exact d5 (Int32.toInt_inj.mp hk)
                  · exact d6 (Int32.toInt_inj.mp hk)
                  · exact d7 (Int32.toInt_inj.mp hk)
                · refine v_run C0 tbX5 cokX5_priceBy (pc' := 93) (lv' := [(0, .int x0), (1, .int x1)]) (st' := [.int ((10 : Int32) + x1)]) (h' := h) 3 rfl trivial ?_
                  obtain rfl := Option.some.inj hf
                  exact v_iret C0 cokX5_priceBy hr hlk rfl
