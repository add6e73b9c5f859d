-- BackByNoonOnMonday.grown(I)J
noncomputable def fX4_grown_116 (σ : q_St) (h : q_Hp) (a0 : Nat) (x1 : Int32) (x2 : Int32) (y3 : Int64) (x5 : Int32) : Option ((Int64 × Int32 × q_Hp) ⊕ (Int64 × q_Hp)) := some (Sum.inl (y3, (x5 + (1 : Int32)), h))
noncomputable def fX4_grown_114 (σ : q_St) (h : q_Hp) (a0 : Nat) (x1 : Int32) (x2 : Int32) (x5 : Int32) (s0 : Int64) (s1 : Int64) : Option ((Int64 × Int32 × q_Hp) ⊕ (Int64 × q_Hp)) := fX4_grown_116 σ h a0 x1 x2 (s1 + s0) x5
noncomputable def fX4_grown_40 (σ : q_St) (a0 : Nat) (x1 : Int32) (x2 : Int32) (y3 : Int64) (x5 : Int32) (h : q_Hp) : Option ((Int64 × Int32 × q_Hp) ⊕ (Int64 × q_Hp)) := (if (128 : Int32) ≤ x5 then some (Sum.inr (y3, h)) else ((fX2_growthWeight σ h (q_ref σ a0 0) x5 (q_int h (q_ref σ a0 8) 9)).bind fun r7 => (if (lg_cmp r7 (0 : Int64)) ≤ 0 then fX4_grown_116 σ h a0 x1 x2 y3 x5 else ((fX0_grow σ h (q_ref σ a0 8) x5).bind fun h8 => (q_b2 (fX0_most σ h8 (q_ref σ a0 8) (q_int h8 (q_ref σ a0 8) 9) (q_int h8 (q_ref σ a0 8) 10)) fun r9 h9 => (if r9 = x2 then fX4_grown_114 σ h9 a0 x1 x2 x5 r7 y3 else fX4_grown_114 σ h9 a0 x1 x2 x5 (0 : Int64) y3))))))
noncomputable def fX4_grown (σ : q_St) (h : q_Hp) (a0 : Nat) (x1 : Int32) : Option (Int64 × q_Hp) := q_gu ((q_tag σ (q_ref σ a0 8) = 1) ∧ (q_tag σ (q_ref σ a0 0) = 3)) (((fX4_isIn σ h x1 (0 : Int32) (1 : Int32)).bind fun r1 => (if r1 = 0 then some ((1000000001 : Int64), h) else ((fX0_load σ h (q_ref σ a0 8) (q_ref σ a0 0)).bind fun h2 => ((fJ6_bitCount_0f7a4 σ h2 (q_int h2 (q_ref σ a0 8) 9)).bind fun r3 => (q_loop (fun s => fX4_grown_40 σ a0 x1 r3 s.1 s.2.1 s.2.2) q_N ((0 : Int64), (0 : Int32), h2)).bind fun o4 => ((fX4_tenTo σ o4.2 r3).bind fun r5 => ((fX4_partOf σ o4.2 o4.1 r5 x1).bind fun r6 => some (r6, o4.2))))))))
def cdX4_grown : q_Cd := [(0, .iload_n 1), (1, .iconst 0), (2, .iconst 1), (3, .invokestatic 148), (6, .ifCond .ne 7), (9, .ldc2_w 215), (12, .lreturn), (13, .aload_n 0), (14, .getfield 53), (17, .aload_n 0), (18, .getfield 12), (21, .invokevirtual 184), (24, .aload_n 0), (25, .getfield 53), (28, .getfield 188), (31, .invokestatic 217), (34, .istore_n 2), (35, .lconst 0), (36, .lstore_n 3), (37, .iconst 0), (38, .istore 5), (40, .iload 5), (42, .sipush 128), (45, .if_icmp .ge 77), (48, .aload_n 0), (49, .getfield 12), (52, .iload 5), (54, .aload_n 0), (55, .getfield 53), (58, .getfield 188), (61, .invokevirtual 222), (64, .lstore 6), (66, .lload 6), (68, .lconst 0), (69, .lcmp), (70, .ifCond .le 46), (73, .aload_n 0), (74, .getfield 53), (77, .iload 5), (79, .invokevirtual 226), (82, .lload_n 3), (83, .aload_n 0), (84, .getfield 53), (87, .aload_n 0), (88, .getfield 53), (91, .getfield 188), (94, .aload_n 0), (95, .getfield 53), (98, .getfield 191), (101, .invokevirtual 194), (104, .iload_n 2), (105, .if_icmp .ne 8), (108, .lload 6), (110, .goto 4), (113, .lconst 0), (114, .ladd), (115, .lstore_n 3), (116, .iinc 5 1), (119, .goto (-79)), (122, .lload_n 3), (123, .iload_n 2), (124, .invokestatic 230), (127, .iload_n 1), (128, .invokestatic 234), (131, .lreturn)]
set_option maxRecDepth 100000 in
theorem cokX4_grown : q_cok cX4_grown cdX4_grown := by unfold q_cok; decide +kernel
set_option maxRecDepth 100000 in
set_option maxHeartbeats 4000000 in
theorem ctX4_grown {l : Launch} {D : va_G} {cy : Nat → Nat} {b0 : Nat} {σ : q_St} {h : q_Hp} (a0 : Nat) (x1 : Int32) {r : Int64} {h' : q_Hp} (ta0 : q_tag σ a0 = 5) (hf : fX4_grown σ h a0 x1 = some (r, h')) : q_M l yX4_grown cX4_grown 8 (some .long) 4 98 0 0 D cy b0 σ h [.ref a0, .int x1] (some (.long r)) σ h' := by
  unfold fX4_grown at hf
  obtain ⟨⟨k0, k1⟩, hf⟩ := q_gu_o hf
  refine q_enter (by decide) (Nat.le_of_ble_eq_true rfl) ?_
  intro p e s m args below meth c C0 hr hlk hnm
  replace C0 : VC p { frames := 4, cells := 0, slots := 0, locals := 98 } s m args meth c D cy b0 8 0 0 RX4 cX4_grown := C0
  have n40 : ∀ (x2 : Int32) (o : (Int64 × q_Hp)) (s1 : (Int64 × Int32 × q_Hp)), q_loop (fun s => fX4_grown_40 σ a0 x1 x2 s.1 s.2.1 s.2.2) q_N s1 = some o → V p l e { frames := 4, cells := 0, slots := 0, locals := 98 } s m args below meth c (MQ below (q_Qc D cy b0 (some (.long r)) σ h') args s 0 0 (fun q => b0 ≤ q)) D cy b0 8 0 0 0 0 σ o.2 122 [(1, .int x1), (2, .int x2), (3, .long o.1)] [] → V p l e { frames := 4, cells := 0, slots := 0, locals := 98 } s m args below meth c (MQ below (q_Qc D cy b0 (some (.long r)) σ h') args s 0 0 (fun q => b0 ≤ q)) D cy b0 8 0 0 0 0 σ s1.2.2 40 [(0, .ref a0), (1, .int x1), (2, .int x2), (3, .long s1.1), (5, .int s1.2.1)] [] := by
    intro x2 o s1 ho kx1
    refine q_loop_V (P := fun s0 => V p l e { frames := 4, cells := 0, slots := 0, locals := 98 } s m args below meth c (MQ below (q_Qc D cy b0 (some (.long r)) σ h') args s 0 0 (fun q => b0 ≤ q)) D cy b0 8 0 0 0 0 σ s0.2.2 40 [(0, .ref a0), (1, .int x1), (2, .int x2), (3, .long s0.1), (5, .int s0.2.1)] []) (o := o) ?_ q_N s1 ho
    intro s2 z1 hf kb1 kr1
    obtain ⟨y3, x5, h⟩ := s2
    replace hf : fX4_grown_40 σ a0 x1 x2 y3 x5 h = some z1 := hf
    unfold fX4_grown_40 at hf
    show V p l e { frames := 4, cells := 0, slots := 0, locals := 98 } s m args below meth c (MQ below (q_Qc D cy b0 (some (.long r)) σ h') args s 0 0 (fun q => b0 ≤ q)) D cy b0 8 0 0 0 0 σ h 40 [(0, .ref a0), (1, .int x1), (2, .int x2), (3, .long y3), (5, .int x5)] []
    have n116 : ∀ (h : q_Hp) (y3 : Int64) (x5 : Int32), fX4_grown_116 σ h a0 x1 x2 y3 x5 = some z1 → V p l e { frames := 4, cells := 0, slots := 0, locals := 98 } s m args below meth c (MQ below (q_Qc D cy b0 (some (.long r)) σ h') args s 0 0 (fun q => b0 ≤ q)) D cy b0 8 0 0 0 0 σ h 116 [(0, .ref a0), (1, .int x1), (2, .int x2), (3, .long y3), (5, .int x5)] [] := by
      intro h y3 x5 hf
      unfold fX4_grown_116 at hf
      refine v_run C0 tbX4 cokX4_grown (pc' := 40) (lv' := [(5, .int (x5 + (1 : Int32))), (0, .ref a0), (1, .int x1), (2, .int x2), (3, .long y3)]) (st' := []) (h' := h) 2 rfl trivial ?_
      obtain rfl := Option.some.inj hf
      refine v_pick [1, 2, 3, 4, 0] rfl ?_
      exact kb1 _ rfl
    have n114 : ∀ (h : q_Hp) (x5 : Int32) (s0 : Int64) (s1 : Int64), fX4_grown_114 σ h a0 x1 x2 x5 s0 s1 = some z1 → V p l e { frames := 4, cells := 0, slots := 0, locals := 98 } s m args below meth c (MQ below (q_Qc D cy b0 (some (.long r)) σ h') args s 0 0 (fun q => b0 ≤ q)) D cy b0 8 0 0 0 0 σ h 114 [(0, .ref a0), (1, .int x1), (2, .int x2), (5, .int x5)] [.long s0, .long s1] := by
      intro h x5 s0 s1 hf
      unfold fX4_grown_114 at hf
      refine v_run C0 tbX4 cokX4_grown (pc' := 116) (lv' := [(3, .long (s1 + s0)), (0, .ref a0), (1, .int x1), (2, .int x2), (5, .int x5)]) (st' := []) (h' := h) 2 rfl trivial ?_
      refine v_pick [1, 2, 3, 0, 4] rfl ?_
      exact n116 h (s1 + s0) x5 hf
    refine v_run C0 tbX4 cokX4_grown (pc' := 45) (lv' := [(0, .ref a0), (1, .int x1), (2, .int x2), (3, .long y3), (5, .int x5)]) (st' := [.int (128 : Int32), .int x5]) (h' := h) 2 rfl trivial ?_
    refine v_icmp_ge C0 cokX4_grown rfl 122 (by decide) hf (fun _ hf => ?_) (fun _ hf => ?_)
    · obtain rfl := Option.some.inj hf
      refine v_pick [1, 2, 3] rfl ?_
      have hx := kr1 _ rfl
      subst hx
      exact kx1
    · refine v_run C0 tbX4 cokX4_grown (pc' := 61) (lv' := [(0, .ref a0), (1, .int x1), (2, .int x2), (3, .long y3), (5, .int x5)]) (st' := [.int (q_int h (q_ref σ a0 8) 9), .int x5, .ref (q_ref σ a0 0)]) (h' := h) 6 rfl ⟨⟨ta0, q_tn k1⟩, ⟨ta0, q_tn k0⟩, k0, trivial⟩ ?_
      obtain ⟨r7, e7, hf⟩ := q_bd hf
      refine v_callV C0 cokX4_grown rfl (rest := []) (ctX2_growthWeight (q_ref σ a0 0) x5 (q_int h (q_ref σ a0 8) 9) k1 e7) calX2_growthWeight lkX4_222 inX2_growthWeight dnX2_growthWeight (ci := 2) ⟨rfl, by decide⟩ k1 rfl rfl ⟨by decide, by decide⟩ (Nat.le_of_ble_eq_true rfl) (Nat.le_refl _) (Nat.le_refl _) ?_
      refine v_run C0 tbX4 cokX4_grown (pc' := 70) (lv' := [(6, .long r7), (0, .ref a0), (1, .int x1), (2, .int x2), (3, .long y3), (5, .int x5)]) (st' := [.int (lg_cmp r7 (0 : Int64))]) (h' := h) 4 rfl trivial ?_
      refine v_if_le C0 cokX4_grown rfl 116 (by decide) hf (fun _ hf => ?_) (fun _ hf => ?_)
      · refine v_pick [1, 2, 3, 4, 5] rfl ?_
        exact n116 h y3 x5 hf
      · refine v_run C0 tbX4 cokX4_grown (pc' := 79) (lv' := [(6, .long r7), (0, .ref a0), (1, .int x1), (2, .int x2), (3, .long y3), (5, .int x5)]) (st' := [.int x5, .ref (q_ref σ a0 8)]) (h' := h) 3 rfl ⟨⟨ta0, q_tn k0⟩, trivial⟩ ?_
        obtain ⟨h8, e8, hf⟩ := q_bd hf
        refine v_callV C0 cokX4_grown rfl (rest := []) (ctX0_grow (q_ref σ a0 8) x5 k0 e8) calX0_grow lkX4_226 inX0_grow dnX0_grow (ci := 0) ⟨rfl, by decide⟩ k0 rfl rfl ⟨by decide, by decide⟩ (Nat.le_of_ble_eq_true rfl) (Nat.le_refl _) (Nat.le_refl _) ?_
        refine v_run C0 tbX4 cokX4_grown (pc' := 101) (lv' := [(6, .long r7), (0, .ref a0), (1, .int x1), (2, .int x2), (3, .long y3), (5, .int x5)]) (st' := [.int (q_int h8 (q_ref σ a0 8) 10), .int (q_int h8 (q_ref σ a0 8) 9), .ref (q_ref σ a0 8), .long y3]) (h' := h8) 9 rfl ⟨⟨ta0, q_tn k0⟩, ⟨ta0, q_tn k0⟩, k0, ⟨ta0, q_tn k0⟩, k0, trivial⟩ ?_
        obtain ⟨r9, h9, e9, hf⟩ := q_bd2 hf
        refine v_callV C0 cokX4_grown rfl (rest := [.long y3]) (ctX0_most (q_ref σ a0 8) (q_int h8 (q_ref σ a0 8) 9) (q_int h8 (q_ref σ a0 8) 10) k0 e9) calX0_most lkX4_194 inX0_most dnX0_most (ci := 0) ⟨rfl, by decide⟩ k0 rfl rfl ⟨by decide, by decide⟩ (Nat.le_of_ble_eq_true rfl) (Nat.le_refl _) (Nat.le_refl _) ?_
        refine v_run C0 tbX4 cokX4_grown (pc' := 105) (lv' := [(6, .long r7), (0, .ref a0), (1, .int x1), (2, .int x2), (3, .long y3), (5, .int x5)]) (st' := [.int x2, .int r9, .long y3]) (h' := h9) 1 rfl trivial ?_
        refine v_icmp_ne C0 cokX4_grown rfl 113 (by decide) hf (fun _ hf => ?_) (fun _ hf => ?_)
        · refine v_run C0 tbX4 cokX4_grown (pc' := 114) (lv' := [(6, .long r7), (0, .ref a0), (1, .int x1), (2, .int x2), (3, .long y3), (5, .int x5)]) (st' := [.long r7, .long y3]) (h' := h9) 2 rfl trivial ?_
          refine v_pick [1, 2, 3, 5] rfl ?_
          exact n114 h9 x5 r7 y3 hf
        · refine v_run C0 tbX4 cokX4_grown (pc' := 114) (lv' := [(6, .long r7), (0, .ref a0), (1, .int x1), (2, .int x2), (3, .long y3), (5, .int x5)]) (st' := [.long (0 : Int64), .long y3]) (h' := h9) 1 rfl trivial ?_
          refine v_pick [1, 2, 3, 5] rfl ?_
          exact n114 h9 x5 (0 : Int64) y3 hf
  refine v_run C0 tbX4 cokX4_grown (pc' := 3) (lv' := [(0, .ref a0), (1, .int x1)]) (st' := [.int (1 : Int32), .int (0 : Int32), .int x1]) (h' := h) 3 rfl trivial ?_
  obtain ⟨r1, e1, hf⟩ := q_bd hf
  refine v_callS C0 cokX4_grown rfl (rest := []) (ctX4_isIn x1 (0 : Int32) (1 : Int32) e1) calX4_isIn lkX4_148 inX4_isIn dnX4_isIn rfl rfl ⟨by decide, by decide⟩ (Nat.le_of_ble_eq_true rfl) (Nat.le_refl _) (Nat.le_refl _) ?_
  refine v_if_ne C0 cokX4_grown rfl 13 (by decide) hf (fun _ hf => ?_) (fun _ hf => ?_)
  · refine v_run C0 tbX4 cokX4_grown (pc' := 12) (lv' := [(0, .ref a0), (1, .int x1)]) (st' := [.long (1000000001 : Int64)]) (h' := h) 1 rfl trivial ?_
    obtain ⟨rfl, rfl⟩ := Prod.mk.inj (Option.some.inj hf)
    exact v_lret C0 cokX4_grown hr hlk rfl
  · refine v_run C0 tbX4 cokX4_grown (pc' := 21) (lv' := [(0, .ref a0), (1, .int x1)]) (st' := [.ref (q_ref σ a0 0), .ref (q_ref σ a0 8)]) (h' := h) 4 rfl ⟨⟨ta0, q_tn k0⟩, ⟨ta0, q_tn k1⟩, trivial⟩ ?_
    obtain ⟨h2, e2, hf⟩ := q_bd hf
    refine v_callV C0 cokX4_grown rfl (rest := []) (ctX0_load (q_ref σ a0 8) (q_ref σ a0 0) k0 k1 e2) calX0_load lkX4_184 inX0_load dnX0_load (ci := 0) ⟨rfl, by decide⟩ k0 rfl rfl ⟨by decide, by decide⟩ (Nat.le_of_ble_eq_true rfl) (Nat.le_refl _) (Nat.le_refl _) ?_
    refine v_run C0 tbX4 cokX4_grown (pc' := 31) (lv' := [(0, .ref a0), (1, .int x1)]) (st' := [.int (q_int h2 (q_ref σ a0 8) 9)]) (h' := h2) 3 rfl ⟨⟨ta0, q_tn k0⟩, k0, trivial⟩ ?_
    obtain ⟨r3, e3, hf⟩ := q_bd hf
    refine v_callS C0 cokX4_grown rfl (rest := []) (ctJ6_bitCount_0f7a4 (q_int h2 (q_ref σ a0 8) 9) e3) calJ6_bitCount_0f7a4 lkX4_217 inJ6_bitCount_0f7a4 dnJ6_bitCount_0f7a4 rfl rfl ⟨by decide, by decide⟩ (Nat.le_of_ble_eq_true rfl) (Nat.le_refl _) (Nat.le_refl _) ?_
    refine v_run C0 tbX4 cokX4_grown (pc' := 40) (lv' := [(5, .int (0 : Int32)), (3, .long (0 : Int64)), (2, .int r3), (0, .ref a0), (1, .int x1)]) (st' := []) (h' := h2) 5 rfl trivial ?_
    obtain ⟨o4, eo4, hf⟩ := q_bd hf
    refine v_pick [3, 4, 2, 1, 0] rfl ?_
    refine n40 r3 o4 ((0 : Int64), (0 : Int32), h2) eo4 ?_
    refine v_run C0 tbX4 cokX4_grown (pc' := 124) (lv' := [(1, .int x1), (2, .int r3), (3, .long o4.1)]) (st' := [.int r3, .long o4.1]) (h' := o4.2) 2 rfl trivial ?_
    obtain ⟨r5, e5, hf⟩ := q_bd hf
    refine v_callS C0 cokX4_grown rfl (rest := [.long o4.1]) (ctX4_tenTo r3 e5) calX4_tenTo lkX4_230 inX4_tenTo dnX4_tenTo rfl rfl ⟨by decide, by decide⟩ (Nat.le_of_ble_eq_true rfl) (Nat.le_refl _) (Nat.le_refl _) ?_
    refine v_run C0 tbX4 cokX4_grown (pc' := 128) (lv' := [(1, .int x1), (2, .int r3), (3, .long o4.1)]) (st' := [.int x1, .long r5, .long o4.1]) (h' := o4.2) 1 rfl trivial ?_
    obtain ⟨r6, e6, hf⟩ := q_bd hf
    refine v_callS C0 cokX4_grown rfl (rest := []) (ctX4_partOf o4.1 r5 x1 e6) calX4_partOf lkX4_234 inX4_partOf dnX4_partOf rfl rfl ⟨by decide, by decide⟩ (Nat.le_of_ble_eq_true rfl) (Nat.le_refl _) (Nat.le_refl _) ?_
    obtain ⟨rfl, rfl⟩ := Prod.mk.inj (Option.some.inj hf)
    exact v_lret C0 cokX4_grown hr hlk rfl
-- BackByNoonOnMonday.fillWays()V
noncomputable def fX4_fillWays_25 (σ : q_St) (h : q_Hp) (a0 : Nat) (x1 : Int32) (s0 : Int32) (s1 : Int32) (s2 : Nat) : Option ((Int32 × q_Hp) ⊕ q_Hp) := q_gu ((q_tag σ s2 = 7) ∧ (vp_in s1 (q_len σ s2))) (some (Sum.inl ((x1 + (1 : Int32)), (q_si h s2 (Int32.toNatClampNeg s1) s0))))
noncomputable def fX4_fillWays_2 (σ : q_St) (a0 : Nat) (x1 : Int32) (h : q_Hp) : Option ((Int32 × q_Hp) ⊕ q_Hp) := (if (Int32.ofNat (q_len σ (q_ref σ a0 9))) ≤ x1 then some (Sum.inr h) else (if x1 = 0 then fX4_fillWays_25 σ h a0 x1 (1 : Int32) x1 (q_ref σ a0 9) else fX4_fillWays_25 σ h a0 x1 (0 : Int32) x1 (q_ref σ a0 9)))
noncomputable def fX4_fillWays_60 (σ : q_St) (a0 : Nat) (x1 : Int32) (x2 : Int32) (x3 : Int32) (h : q_Hp) : Option ((Int32 × q_Hp) ⊕ q_Hp) := (if x3 < 0 then some (Sum.inr h) else ((fX4_at σ h (q_ref σ a0 9) x3).bind fun r5 => ((fX4_at σ h (q_ref σ a0 9) (x3 - (1 : Int32))).bind fun r6 => ((fX4_set σ h (q_ref σ a0 9) x3 ((r5 * x2) + (r6 * ((10 : Int32) - x2)))).bind fun h7 => some (Sum.inl ((x3 + (-1 : Int32)), h7))))))
noncomputable def fX4_fillWays_34 (σ : q_St) (a0 : Nat) (x1 : Int32) (h : q_Hp) : Option ((Int32 × q_Hp) ⊕ q_Hp) := (if (q_int h (q_ref σ a0 0) 12) ≤ x1 then some (Sum.inr h) else ((fX4_at σ h (q_ref σ (q_ref σ a0 0) 8) x1).bind fun r3 => (q_loop (fun s => fX4_fillWays_60 σ a0 x1 r3 s.1 s.2) q_N ((7 : Int32), h)).bind fun o4 => some (Sum.inl ((x1 + (1 : Int32)), o4))))
noncomputable def fX4_fillWays (σ : q_St) (h : q_Hp) (a0 : Nat) : Option q_Hp := q_gu ((q_tag σ (q_ref σ a0 0) = 3) ∧ (q_tag σ (q_ref σ (q_ref σ a0 0) 8) = 7) ∧ (q_tag σ (q_ref σ a0 9) = 7)) ((q_loop (fun s => fX4_fillWays_2 σ a0 s.1 s.2) q_N ((0 : Int32), h)).bind fun o1 => (q_loop (fun s => fX4_fillWays_34 σ a0 s.1 s.2) q_N ((0 : Int32), o1)).bind fun o2 => some o2)
def cdX4_fillWays : q_Cd := [(0, .iconst 0), (1, .istore_n 1), (2, .iload_n 1), (3, .aload_n 0), (4, .getfield 57), (7, .arraylength), (8, .if_icmp .ge 24), (11, .aload_n 0), (12, .getfield 57), (15, .iload_n 1), (16, .iload_n 1), (17, .ifCond .ne 7), (20, .iconst 1), (21, .goto 4), (24, .iconst 0), (25, .iastore), (26, .iinc 1 1), (29, .goto (-27)), (32, .iconst 0), (33, .istore_n 1), (34, .iload_n 1), (35, .aload_n 0), (36, .getfield 12), (39, .getfield 181), (42, .if_icmp .ge 68), (45, .aload_n 0), (46, .getfield 12), (49, .getfield 142), (52, .iload_n 1), (53, .invokestatic 105), (56, .istore_n 2), (57, .bipush 7), (59, .istore_n 3), (60, .iload_n 3), (61, .ifCond .lt 43), (64, .aload_n 0), (65, .getfield 57), (68, .iload_n 3), (69, .aload_n 0), (70, .getfield 57), (73, .iload_n 3), (74, .invokestatic 105), (77, .iload_n 2), (78, .imul), (79, .aload_n 0), (80, .getfield 57), (83, .iload_n 3), (84, .iconst 1), (85, .isub), (86, .invokestatic 105), (89, .bipush 10), (91, .iload_n 2), (92, .isub), (93, .imul), (94, .iadd), (95, .invokestatic 335), (98, .iinc 3 (-1)), (101, .goto (-41)), (104, .iinc 1 1), (107, .goto (-73)), (110, .return_)]
set_option maxRecDepth 100000 in
theorem cokX4_fillWays : q_cok cX4_fillWays cdX4_fillWays := by unfold q_cok; decide +kernel
set_option maxRecDepth 100000 in
set_option maxHeartbeats 4000000 in
theorem ctX4_fillWays {l : Launch} {D : va_G} {cy : Nat → Nat} {b0 : Nat} {σ : q_St} {h : q_Hp} (a0 : Nat) {h' : q_Hp} (ta0 : q_tag σ a0 = 5) (hf : fX4_fillWays σ h a0 = some h') : q_M l yX4_fillWays cX4_fillWays 4 none 1 22 0 0 D cy b0 σ h [.ref a0] none σ h' := by
  unfold fX4_fillWays at hf
  obtain ⟨⟨k0, k1, k2⟩, hf⟩ := q_gu_o hf
  refine q_enter (by decide) (Nat.le_of_ble_eq_true rfl) ?_
  intro p e s m args below meth c C0 hr hlk hnm
  replace C0 : VC p { frames := 1, cells := 0, slots := 0, locals := 22 } s m args meth c D cy b0 4 0 0 RX4 cX4_fillWays := C0
  have n2 : ∀ (o : q_Hp) (s1 : (Int32 × q_Hp)), q_loop (fun s => fX4_fillWays_2 σ a0 s.1 s.2) q_N s1 = some o → V p l e { frames := 1, cells := 0, slots := 0, locals := 22 } s m args below meth c (MQ below (q_Qc D cy b0 none σ h') args s 0 0 (fun q => b0 ≤ q)) D cy b0 4 0 0 0 0 σ o 32 [(0, .ref a0)] [] → V p l e { frames := 1, cells := 0, slots := 0, locals := 22 } s m args below meth c (MQ below (q_Qc D cy b0 none σ h') args s 0 0 (fun q => b0 ≤ q)) D cy b0 4 0 0 0 0 σ s1.2 2 [(0, .ref a0), (1, .int s1.1)] [] := by
    intro o s1 ho kx1
    refine q_loop_V (P := fun s0 => V p l e { frames := 1, cells := 0, slots := 0, locals := 22 } s m args below meth c (MQ below (q_Qc D cy b0 none σ h') args s 0 0 (fun q => b0 ≤ q)) D cy b0 4 0 0 0 0 σ s0.2 2 [(0, .ref a0), (1, .int s0.1)] []) (o := o) ?_ q_N s1 ho
    intro s2 z1 hf kb1 kr1
    obtain ⟨x1, h⟩ := s2
    replace hf : fX4_fillWays_2 σ a0 x1 h = some z1 := hf
    unfold fX4_fillWays_2 at hf
    show V p l e { frames := 1, cells := 0, slots := 0, locals := 22 } s m args below meth c (MQ below (q_Qc D cy b0 none σ h') args s 0 0 (fun q => b0 ≤ q)) D cy b0 4 0 0 0 0 σ h 2 [(0, .ref a0), (1, .int x1)] []
    have n25 : ∀ (h : q_Hp) (x1 : Int32) (s0 : Int32) (s1 : Int32) (s2 : Nat), fX4_fillWays_25 σ h a0 x1 s0 s1 s2 = some z1 → V p l e { frames := 1, cells := 0, slots := 0, locals := 22 } s m args below meth c (MQ below (q_Qc D cy b0 none σ h') args s 0 0 (fun q => b0 ≤ q)) D cy b0 4 0 0 0 0 σ h 25 [(0, .ref a0), (1, .int x1)] [.int s0, .int s1, .ref s2] := by
      intro h x1 s0 s1 s2 hf
      unfold fX4_fillWays_25 at hf
      obtain ⟨⟨g8, g9⟩, hf⟩ := q_gu_o hf
      refine v_run C0 tbX4 cokX4_fillWays (pc' := 2) (lv' := [(1, .int (x1 + (1 : Int32))), (0, .ref a0)]) (st' := []) (h' := (q_si h s2 (Int32.toNatClampNeg s1) s0)) 3 rfl ⟨⟨g8, g9⟩, trivial⟩ ?_
      obtain rfl := Option.some.inj hf
      refine v_pick [1, 0] rfl ?_
      exact kb1 _ rfl
    refine v_run C0 tbX4 cokX4_fillWays (pc' := 8) (lv' := [(0, .ref a0), (1, .int x1)]) (st' := [.int (Int32.ofNat (q_len σ (q_ref σ a0 9))), .int x1]) (h' := h) 4 rfl ⟨⟨ta0, q_tn k2⟩, (Or.inl k2), trivial⟩ ?_
    refine v_icmp_ge C0 cokX4_fillWays rfl 32 (by decide) hf (fun _ hf => ?_) (fun _ hf => ?_)
    · obtain rfl := Option.some.inj hf
      refine v_pick [0] rfl ?_
      have hx := kr1 _ rfl
      subst hx
      exact kx1
    · refine v_run C0 tbX4 cokX4_fillWays (pc' := 17) (lv' := [(0, .ref a0), (1, .int x1)]) (st' := [.int x1, .int x1, .ref (q_ref σ a0 9)]) (h' := h) 4 rfl ⟨⟨ta0, q_tn k2⟩, trivial⟩ ?_
      refine v_if_ne C0 cokX4_fillWays rfl 24 (by decide) hf (fun _ hf => ?_) (fun _ hf => ?_)
      · refine v_run C0 tbX4 cokX4_fillWays (pc' := 25) (lv' := [(0, .ref a0), (1, .int x1)]) (st' := [.int (1 : Int32), .int x1, .ref (q_ref σ a0 9)]) (h' := h) 2 rfl trivial ?_
        refine v_pick [0, 1] rfl ?_
        exact n25 h x1 (1 : Int32) x1 (q_ref σ a0 9) hf
      · refine v_run C0 tbX4 cokX4_fillWays (pc' := 25) (lv' := [(0, .ref a0), (1, .int x1)]) (st' := [.int (0 : Int32), .int x1, .ref (q_ref σ a0 9)]) (h' := h) 1 rfl trivial ?_
        refine v_pick [0, 1] rfl ?_
        exact n25 h x1 (0 : Int32) x1 (q_ref σ a0 9) hf
  have n34 : ∀ (o : q_Hp) (s1 : (Int32 × q_Hp)), q_loop (fun s => fX4_fillWays_34 σ a0 s.1 s.2) q_N s1 = some o → V p l e { frames := 1, cells := 0, slots := 0, locals := 22 } s m args below meth c (MQ below (q_Qc D cy b0 none σ h') args s 0 0 (fun q => b0 ≤ q)) D cy b0 4 0 0 0 0 σ o 110 [] [] → V p l e { frames := 1, cells := 0, slots := 0, locals := 22 } s m args below meth c (MQ below (q_Qc D cy b0 none σ h') args s 0 0 (fun q => b0 ≤ q)) D cy b0 4 0 0 0 0 σ s1.2 34 [(0, .ref a0), (1, .int s1.1)] [] := by
    intro o s1 ho kx1
    refine q_loop_V (P := fun s0 => V p l e { frames := 1, cells := 0, slots := 0, locals := 22 } s m args below meth c (MQ below (q_Qc D cy b0 none σ h') args s 0 0 (fun q => b0 ≤ q)) D cy b0 4 0 0 0 0 σ s0.2 34 [(0, .ref a0), (1, .int s0.1)] []) (o := o) ?_ q_N s1 ho
    intro s2 z1 hf kb1 kr1
    obtain ⟨x1, h⟩ := s2
    replace hf : fX4_fillWays_34 σ a0 x1 h = some z1 := hf
    unfold fX4_fillWays_34 at hf
    show V p l e { frames := 1, cells := 0, slots := 0, locals := 22 } s m args below meth c (MQ below (q_Qc D cy b0 none σ h') args s 0 0 (fun q => b0 ≤ q)) D cy b0 4 0 0 0 0 σ h 34 [(0, .ref a0), (1, .int x1)] []
    have n60 : ∀ (x1 : Int32) (x2 : Int32) (o : q_Hp) (s1 : (Int32 × q_Hp)), q_loop (fun s => fX4_fillWays_60 σ a0 x1 x2 s.1 s.2) q_N s1 = some o → V p l e { frames := 1, cells := 0, slots := 0, locals := 22 } s m args below meth c (MQ below (q_Qc D cy b0 none σ h') args s 0 0 (fun q => b0 ≤ q)) D cy b0 4 0 0 0 0 σ o 104 [(0, .ref a0), (1, .int x1)] [] → V p l e { frames := 1, cells := 0, slots := 0, locals := 22 } s m args below meth c (MQ below (q_Qc D cy b0 none σ h') args s 0 0 (fun q => b0 ≤ q)) D cy b0 4 0 0 0 0 σ s1.2 60 [(0, .ref a0), (1, .int x1), (2, .int x2), (3, .int s1.1)] [] := by
      intro x1 x2 o s1 ho kx2
      refine q_loop_V (P := fun s0 => V p l e { frames := 1, cells := 0, slots := 0, locals := 22 } s m args below meth c (MQ below (q_Qc D cy b0 none σ h') args s 0 0 (fun q => b0 ≤ q)) D cy b0 4 0 0 0 0 σ s0.2 60 [(0, .ref a0), (1, .int x1), (2, .int x2), (3, .int s0.1)] []) (o := o) ?_ q_N s1 ho
      intro s2 z2 hf kb2 kr2
      obtain ⟨x3, h⟩ := s2
      replace hf : fX4_fillWays_60 σ a0 x1 x2 x3 h = some z2 := hf
      unfold fX4_fillWays_60 at hf
      show V p l e { frames := 1, cells := 0, slots := 0, locals := 22 } s m args below meth c (MQ below (q_Qc D cy b0 none σ h') args s 0 0 (fun q => b0 ≤ q)) D cy b0 4 0 0 0 0 σ h 60 [(0, .ref a0), (1, .int x1), (2, .int x2), (3, .int x3)] []
      refine v_run C0 tbX4 cokX4_fillWays (pc' := 61) (lv' := [(0, .ref a0), (1, .int x1), (2, .int x2), (3, .int x3)]) (st' := [.int x3]) (h' := h) 1 rfl trivial ?_
      refine v_if_lt C0 cokX4_fillWays rfl 104 (by decide) hf (fun _ hf => ?_) (fun _ hf => ?_)
      · obtain rfl := Option.some.inj hf
        refine v_pick [0, 1] rfl ?_
        have hx := kr2 _ rfl
        subst hx
        exact kx2
      · refine v_run C0 tbX4 cokX4_fillWays (pc' := 74) (lv' := [(0, .ref a0), (1, .int x1), (2, .int x2), (3, .int x3)]) (st' := [.int x3, .ref (q_ref σ a0 9), .int x3, .ref (q_ref σ a0 9)]) (h' := h) 6 rfl ⟨⟨ta0, q_tn k2⟩, ⟨ta0, q_tn k2⟩, trivial⟩ ?_
        obtain ⟨r5, e5, hf⟩ := q_bd hf
        refine v_callS C0 cokX4_fillWays rfl (rest := [.int x3, .ref (q_ref σ a0 9)]) (ctX4_at (q_ref σ a0 9) x3 k2 e5) calX4_at lkX4_105 inX4_at dnX4_at rfl rfl ⟨by decide, by decide⟩ (Nat.le_of_ble_eq_true rfl) (Nat.le_refl _) (Nat.le_refl _) ?_
        refine v_run C0 tbX4 cokX4_fillWays (pc' := 86) (lv' := [(0, .ref a0), (1, .int x1), (2, .int x2), (3, .int x3)]) (st' := [.int (x3 - (1 : Int32)), .ref (q_ref σ a0 9), .int (r5 * x2), .int x3, .ref (q_ref σ a0 9)]) (h' := h) 7 rfl ⟨⟨ta0, q_tn k2⟩, trivial⟩ ?_
        obtain ⟨r6, e6, hf⟩ := q_bd hf
        refine v_callS C0 cokX4_fillWays rfl (rest := [.int (r5 * x2), .int x3, .ref (q_ref σ a0 9)]) (ctX4_at (q_ref σ a0 9) (x3 - (1 : Int32)) k2 e6) calX4_at lkX4_105 inX4_at dnX4_at rfl rfl ⟨by decide, by decide⟩ (Nat.le_of_ble_eq_true rfl) (Nat.le_refl _) (Nat.le_refl _) ?_
        refine v_run C0 tbX4 cokX4_fillWays (pc' := 95) (lv' := [(0, .ref a0), (1, .int x1), (2, .int x2), (3, .int x3)]) (st' := [.int ((r5 * x2) + (r6 * ((10 : Int32) - x2))), .int x3, .ref (q_ref σ a0 9)]) (h' := h) 5 rfl trivial ?_
        obtain ⟨h7, e7, hf⟩ := q_bd hf
        refine v_callS C0 cokX4_fillWays rfl (rest := []) (ctX4_set (q_ref σ a0 9) x3 ((r5 * x2) + (r6 * ((10 : Int32) - x2))) k2 e7) calX4_set lkX4_335 inX4_set dnX4_set rfl rfl ⟨by decide, by decide⟩ (Nat.le_of_ble_eq_true rfl) (Nat.le_refl _) (Nat.le_refl _) ?_
        refine v_run C0 tbX4 cokX4_fillWays (pc' := 60) (lv' := [(3, .int (x3 + (-1 : Int32))), (0, .ref a0), (1, .int x1), (2, .int x2)]) (st' := []) (h' := h7) 2 rfl trivial ?_
        obtain rfl := Option.some.inj hf
        refine v_pick [1, 2, 3, 0] rfl ?_
        exact kb2 _ rfl
    refine v_run C0 tbX4 cokX4_fillWays (pc' := 42) (lv' := [(0, .ref a0), (1, .int x1)]) (st' := [.int (q_int h (q_ref σ a0 0) 12), .int x1]) (h' := h) 4 rfl ⟨⟨ta0, q_tn k0⟩, k0, trivial⟩ ?_
    refine v_icmp_ge C0 cokX4_fillWays rfl 110 (by decide) hf (fun _ hf => ?_) (fun _ hf => ?_)
    · obtain rfl := Option.some.inj hf
      refine v_pick [] rfl ?_
      have hx := kr1 _ rfl
      subst hx
      exact kx1
    · refine v_run C0 tbX4 cokX4_fillWays (pc' := 53) (lv' := [(0, .ref a0), (1, .int x1)]) (st' := [.int x1, .ref (q_ref σ (q_ref σ a0 0) 8)]) (h' := h) 4 rfl ⟨⟨ta0, q_tn k0⟩, ⟨k0, q_tn k1⟩, trivial⟩ ?_
      obtain ⟨r3, e3, hf⟩ := q_bd hf
      refine v_callS C0 cokX4_fillWays rfl (rest := []) (ctX4_at (q_ref σ (q_ref σ a0 0) 8) x1 k1 e3) calX4_at lkX4_105 inX4_at dnX4_at rfl rfl ⟨by decide, by decide⟩ (Nat.le_of_ble_eq_true rfl) (Nat.le_refl _) (Nat.le_refl _) ?_
      refine v_run C0 tbX4 cokX4_fillWays (pc' := 60) (lv' := [(3, .int (7 : Int32)), (2, .int r3), (0, .ref a0), (1, .int x1)]) (st' := []) (h' := h) 3 rfl trivial ?_
      obtain ⟨o4, eo4, hf⟩ := q_bd hf
      refine v_pick [2, 3, 1, 0] rfl ?_
      refine n60 x1 r3 o4 ((7 : Int32), h) eo4 ?_
      refine v_run C0 tbX4 cokX4_fillWays (pc' := 34) (lv' := [(1, .int (x1 + (1 : Int32))), (0, .ref a0)]) (st' := []) (h' := o4) 2 rfl trivial ?_
      obtain rfl := Option.some.inj hf
      refine v_pick [1, 0] rfl ?_
      exact kb1 _ rfl
  refine v_run C0 tbX4 cokX4_fillWays (pc' := 2) (lv' := [(1, .int (0 : Int32)), (0, .ref a0)]) (st' := []) (h' := h) 2 rfl trivial ?_
  obtain ⟨o1, eo1, hf⟩ := q_bd hf
  refine v_pick [1, 0] rfl ?_
  refine n2 o1 ((0 : Int32), h) eo1 ?_
  refine v_run C0 tbX4 cokX4_fillWays (pc' := 34) (lv' := [(1, .int (0 : Int32)), (0, .ref a0)]) (st' := []) (h' := o1) 2 rfl trivial ?_
  obtain ⟨o2, eo2, hf⟩ := q_bd hf
  refine v_pick [1, 0] rfl ?_
  refine n34 o2 ((0 : Int32), o1) eo2 ?_
  obtain rfl := Option.some.inj hf
  exact v_vret C0 cokX4_fillWays hr hlk rfl
-- BackByNoonOnMonday.come(II)J
noncomputable def fX4_come_32 (σ : q_St) (a0 : Nat) (x1 : Int32) (x2 : Int32) (y3 : Int64) (x5 : Int32) (h : q_Hp) : Option ((Int64 × Int32 × q_Hp) ⊕ (Int64 × q_Hp)) := (if x1 < x5 then some (Sum.inr (y3, h)) else ((fX4_at σ h (q_ref σ a0 9) x5).bind fun r7 => some (Sum.inl ((y3 + (Int32.toInt64 r7)), (x5 + (1 : Int32)), h))))
noncomputable def fX4_come (σ : q_St) (h : q_Hp) (a0 : Nat) (x1 : Int32) (x2 : Int32) : Option (Int64 × q_Hp) := q_gu ((q_tag σ (q_ref σ a0 0) = 3) ∧ (q_tag σ (q_ref σ a0 9) = 7)) (((fX4_isIn σ h x1 (0 : Int32) (7 : Int32)).bind fun r1 => (if r1 = 0 then some ((1000000001 : Int64), h) else ((fX4_isIn σ h x2 (0 : Int32) (1 : Int32)).bind fun r2 => (if r2 = 0 then some ((1000000001 : Int64), h) else ((fX4_fillWays σ h a0).bind fun h3 => (q_loop (fun s => fX4_come_32 σ a0 x1 x2 s.1 s.2.1 s.2.2) q_N ((0 : Int64), (0 : Int32), h3)).bind fun o4 => ((fX4_tenTo σ o4.2 (q_int o4.2 (q_ref σ a0 0) 12)).bind fun r5 => ((fX4_partOf σ o4.2 o4.1 r5 x2).bind fun r6 => some (r6, o4.2)))))))))
def cdX4_come : q_Cd := [(0, .iload_n 1), (1, .iconst 0), (2, .bipush 7), (4, .invokestatic 148), (7, .ifCond .eq 12), (10, .iload_n 2), (11, .iconst 0), (12, .iconst 1), (13, .invokestatic 148), (16, .ifCond .ne 7), (19, .ldc2_w 215), (22, .lreturn), (23, .aload_n 0), (24, .invokevirtual 238), (27, .lconst 0), (28, .lstore_n 3), (29, .iconst 0), (30, .istore 5), (32, .iload 5), (34, .iload_n 1), (35, .if_icmp .gt 22), (38, .lload_n 3), (39, .aload_n 0), (40, .getfield 57), (43, .iload 5), (45, .invokestatic 105), (48, .i2l), (49, .ladd), (50, .lstore_n 3), (51, .iinc 5 1), (54, .goto (-22)), (57, .lload_n 3), (58, .aload_n 0), (59, .getfield 12), (62, .getfield 181), (65, .invokestatic 230), (68, .iload_n 2), (69, .invokestatic 234), (72, .lreturn)]
set_option maxRecDepth 100000 in
theorem cokX4_come : q_cok cX4_come cdX4_come := by unfold q_cok; decide +kernel
set_option maxRecDepth 100000 in
set_option maxHeartbeats 4000000 in
theorem ctX4_come {l : Launch} {D : va_G} {cy : Nat → Nat} {b0 : Nat} {σ : q_St} {h : q_Hp} (a0 : Nat) (x1 : Int32) (x2 : Int32) {r : Int64} {h' : q_Hp} (ta0 : q_tag σ a0 = 5) (hf : fX4_come σ h a0 x1 x2 = some (r, h')) : q_M l yX4_come cX4_come 6 (some .long) 2 58 0 0 D cy b0 σ h [.ref a0, .int x1, .int x2] (some (.long r)) σ h' := by
  unfold fX4_come at hf
  obtain ⟨⟨k0, k1⟩, hf⟩ := q_gu_o hf
  refine q_enter (by decide) (Nat.le_of_ble_eq_true rfl) ?_
  intro p e s m args below meth c C0 hr hlk hnm
  replace C0 : VC p { frames := 2, cells := 0, slots := 0, locals := 58 } s m args meth c D cy b0 6 0 0 RX4 cX4_come := C0
  have n32 : ∀ (o : (Int64 × q_Hp)) (s1 : (Int64 × Int32 × q_Hp)), q_loop (fun s => fX4_come_32 σ a0 x1 x2 s.1 s.2.1 s.2.2) q_N s1 = some o → V p l e { frames := 2, cells := 0, slots := 0, locals := 58 } s m args below meth c (MQ below (q_Qc D cy b0 (some (.long r)) σ h') args s 0 0 (fun q => b0 ≤ q)) D cy b0 6 0 0 0 0 σ o.2 57 [(0, .ref a0), (2, .int x2), (3, .long o.1)] [] → V p l e { frames := 2, cells := 0, slots := 0, locals := 58 } s m args below meth c (MQ below (q_Qc D cy b0 (some (.long r)) σ h') args s 0 0 (fun q => b0 ≤ q)) D cy b0 6 0 0 0 0 σ s1.2.2 32 [(0, .ref a0), (1, .int x1), (2, .int x2), (3, .long s1.1), (5, .int s1.2.1)] [] := by
    intro o s1 ho kx1
    refine q_loop_V (P := fun s0 => V p l e { frames := 2, cells := 0, slots := 0, locals := 58 } s m args below meth c (MQ below (q_Qc D cy b0 (some (.long r)) σ h') args s 0 0 (fun q => b0 ≤ q)) D cy b0 6 0 0 0 0 σ s0.2.2 32 [(0, .ref a0), (1, .int x1), (2, .int x2), (3, .long s0.1), (5, .int s0.2.1)] []) (o := o) ?_ q_N s1 ho
    intro s2 z1 hf kb1 kr1
    obtain ⟨y3, x5, h⟩ := s2
    replace hf : fX4_come_32 σ a0 x1 x2 y3 x5 h = some z1 := hf
    unfold fX4_come_32 at hf
    show V p l e { frames := 2, cells := 0, slots := 0, locals := 58 } s m args below meth c (MQ below (q_Qc D cy b0 (some (.long r)) σ h') args s 0 0 (fun q => b0 ≤ q)) D cy b0 6 0 0 0 0 σ h 32 [(0, .ref a0), (1, .int x1), (2, .int x2), (3, .long y3), (5, .int x5)] []
    refine v_run C0 tbX4 cokX4_come (pc' := 35) (lv' := [(0, .ref a0), (1, .int x1), (2, .int x2), (3, .long y3), (5, .int x5)]) (st' := [.int x1, .int x5]) (h' := h) 2 rfl trivial ?_
    refine v_icmp_gt C0 cokX4_come rfl 57 (by decide) hf (fun _ hf => ?_) (fun _ hf => ?_)
    · obtain rfl := Option.some.inj hf
      refine v_pick [0, 2, 3] rfl ?_
      have hx := kr1 _ rfl
      subst hx
      exact kx1
    · refine v_run C0 tbX4 cokX4_come (pc' := 45) (lv' := [(0, .ref a0), (1, .int x1), (2, .int x2), (3, .long y3), (5, .int x5)]) (st' := [.int x5, .ref (q_ref σ a0 9), .long y3]) (h' := h) 4 rfl ⟨⟨ta0, q_tn k1⟩, trivial⟩ ?_
      obtain ⟨r7, e7, hf⟩ := q_bd hf
      refine v_callS C0 cokX4_come rfl (rest := [.long y3]) (ctX4_at (q_ref σ a0 9) x5 k1 e7) calX4_at lkX4_105 inX4_at dnX4_at rfl rfl ⟨by decide, by decide⟩ (Nat.le_of_ble_eq_true rfl) (Nat.le_refl _) (Nat.le_refl _) ?_
      refine v_run C0 tbX4 cokX4_come (pc' := 32) (lv' := [(5, .int (x5 + (1 : Int32))), (3, .long (y3 + (Int32.toInt64 r7))), (0, .ref a0), (1, .int x1), (2, .int x2)]) (st' := []) (h' := h) 5 rfl trivial ?_
      obtain rfl := Option.some.inj hf
      refine v_pick [2, 3, 4, 1, 0] rfl ?_
      exact kb1 _ rfl
  refine v_run C0 tbX4 cokX4_come (pc' := 4) (lv' := [(0, .ref a0), (1, .int x1), (2, .int x2)]) (st' := [.int (7 : Int32), .int (0 : Int32), .int x1]) (h' := h) 3 rfl trivial ?_
  obtain ⟨r1, e1, hf⟩ := q_bd hf
  refine v_callS C0 cokX4_come rfl (rest := []) (ctX4_isIn x1 (0 : Int32) (7 : Int32) e1) calX4_isIn lkX4_148 inX4_isIn dnX4_isIn rfl rfl ⟨by decide, by decide⟩ (Nat.le_of_ble_eq_true rfl) (Nat.le_refl _) (Nat.le_refl _) ?_
  refine v_if_eq C0 cokX4_come rfl 19 (by decide) hf (fun _ hf => ?_) (fun _ hf => ?_)
  · refine v_run C0 tbX4 cokX4_come (pc' := 22) (lv' := [(0, .ref a0), (1, .int x1), (2, .int x2)]) (st' := [.long (1000000001 : Int64)]) (h' := h) 1 rfl trivial ?_
    obtain ⟨rfl, rfl⟩ := Prod.mk.inj (Option.some.inj hf)
    exact v_lret C0 cokX4_come hr hlk rfl
  · refine v_run C0 tbX4 cokX4_come (pc' := 13) (lv' := [(0, .ref a0), (1, .int x1), (2, .int x2)]) (st' := [.int (1 : Int32), .int (0 : Int32), .int x2]) (h' := h) 3 rfl trivial ?_
    obtain ⟨r2, e2, hf⟩ := q_bd hf
    refine v_callS C0 cokX4_come rfl (rest := []) (ctX4_isIn x2 (0 : Int32) (1 : Int32) e2) calX4_isIn lkX4_148 inX4_isIn dnX4_isIn rfl rfl ⟨by decide, by decide⟩ (Nat.le_of_ble_eq_true rfl) (Nat.le_refl _) (Nat.le_refl _) ?_
    refine v_if_ne C0 cokX4_come rfl 23 (by decide) hf (fun _ hf => ?_) (fun _ hf => ?_)
    · refine v_run C0 tbX4 cokX4_come (pc' := 22) (lv' := [(0, .ref a0), (1, .int x1), (2, .int x2)]) (st' := [.long (1000000001 : Int64)]) (h' := h) 1 rfl trivial ?_
      obtain ⟨rfl, rfl⟩ := Prod.mk.inj (Option.some.inj hf)
      exact v_lret C0 cokX4_come hr hlk rfl
    · refine v_run C0 tbX4 cokX4_come (pc' := 24) (lv' := [(0, .ref a0), (1, .int x1), (2, .int x2)]) (st' := [.ref a0]) (h' := h) 1 rfl trivial ?_
      obtain ⟨h3, e3, hf⟩ := q_bd hf
      refine v_callV C0 cokX4_come rfl (rest := []) (ctX4_fillWays a0 ta0 e3) calX4_fillWays lkX4_238 inX4_fillWays dnX4_fillWays (ci := 4) ⟨rfl, by decide⟩ ta0 rfl rfl ⟨by decide, by decide⟩ (Nat.le_of_ble_eq_true rfl) (Nat.le_refl _) (Nat.le_refl _) ?_
      refine v_run C0 tbX4 cokX4_come (pc' := 32) (lv' := [(5, .int (0 : Int32)), (3, .long (0 : Int64)), (0, .ref a0), (1, .int x1), (2, .int x2)]) (st' := []) (h' := h3) 4 rfl trivial ?_
      obtain ⟨o4, eo4, hf⟩ := q_bd hf
      refine v_pick [2, 3, 4, 1, 0] rfl ?_
      refine n32 o4 ((0 : Int64), (0 : Int32), h3) eo4 ?_
      refine v_run C0 tbX4 cokX4_come (pc' := 65) (lv' := [(0, .ref a0), (2, .int x2), (3, .long o4.1)]) (st' := [.int (q_int o4.2 (q_ref σ a0 0) 12), .long o4.1]) (h' := o4.2) 4 rfl ⟨⟨ta0, q_tn k0⟩, k0, trivial⟩ ?_
      obtain ⟨r5, e5, hf⟩ := q_bd hf
      refine v_callS C0 cokX4_come rfl (rest := [.long o4.1]) (ctX4_tenTo (q_int o4.2 (q_ref σ a0 0) 12) e5) calX4_tenTo lkX4_230 inX4_tenTo dnX4_tenTo rfl rfl ⟨by decide, by decide⟩ (Nat.le_of_ble_eq_true rfl) (Nat.le_refl _) (Nat.le_refl _) ?_
      refine v_run C0 tbX4 cokX4_come (pc' := 69) (lv' := [(0, .ref a0), (2, .int x2), (3, .long o4.1)]) (st' := [.int x2, .long r5, .long o4.1]) (h' := o4.2) 1 rfl trivial ?_
      obtain ⟨r6, e6, hf⟩ := q_bd hf
      refine v_callS C0 cokX4_come rfl (rest := []) (ctX4_partOf o4.1 r5 x2 e6) calX4_partOf lkX4_234 inX4_partOf dnX4_partOf rfl rfl ⟨by decide, by decide⟩ (Nat.le_of_ble_eq_true rfl) (Nat.le_refl _) (Nat.le_refl _) ?_
      obtain ⟨rfl, rfl⟩ := Prod.mk.inj (Option.some.inj hf)
      exact v_lret C0 cokX4_come hr hlk rfl
-- BackByNoonOnMonday.refuse()I
noncomputable def fX4_refuse_93 (σ : q_St) (h : q_Hp) (a0 : Nat) (x1 : Int32) (x2 : Int32) : Option ((Int32 × q_Hp) ⊕ (q_Hp ⊕ (Int32 × q_Hp))) := some (Sum.inl ((x2 + (1 : Int32)), h))
noncomputable def fX4_refuse_35 (σ : q_St) (a0 : Nat) (x1 : Int32) (x2 : Int32) (h : q_Hp) : Option ((Int32 × q_Hp) ⊕ (q_Hp ⊕ (Int32 × q_Hp))) := (if (q_int h (q_ref σ a0 0) 12) ≤ x2 then some (Sum.inr (Sum.inl h)) else ((fX4_hasBit σ h (q_int h (q_ref σ a0 8) 9) x2).bind fun r5 => (if r5 = 0 then fX4_refuse_93 σ h a0 x1 x2 else (q_b2 (fX0_richest σ h (q_ref σ a0 8) ((q_int h (q_ref σ a0 8) 9) &&& (((1 : Int32) <<< (x2 &&& 31)) ^^^ (-1 : Int32))) (q_int h (q_ref σ a0 8) 10)) fun r6 h6 => (if r6 = x1 then some (Sum.inr (Sum.inr (x2, h6))) else fX4_refuse_93 σ h6 a0 x1 x2)))))
noncomputable def fX4_refuse (σ : q_St) (h : q_Hp) (a0 : Nat) : Option (Int32 × q_Hp) := q_gu ((q_tag σ (q_ref σ a0 8) = 1) ∧ (q_tag σ (q_ref σ a0 0) = 3)) (((fX0_load σ h (q_ref σ a0 8) (q_ref σ a0 0)).bind fun h1 => (q_b2 (fX0_richest σ h1 (q_ref σ a0 8) (q_int h1 (q_ref σ a0 8) 9) (q_int h1 (q_ref σ a0 8) 10)) fun r2 h2 => (q_loop (fun s => fX4_refuse_35 σ a0 r2 s.1 s.2) q_N ((0 : Int32), h2)).bind fun o3 => q_el o3 fun w4 => some ((-4 : Int32), w4))))
def cdX4_refuse : q_Cd := [(0, .aload_n 0), (1, .getfield 53), (4, .aload_n 0), (5, .getfield 12), (8, .invokevirtual 184), (11, .aload_n 0), (12, .getfield 53), (15, .aload_n 0), (16, .getfield 53), (19, .getfield 188), (22, .aload_n 0), (23, .getfield 53), (26, .getfield 191), (29, .invokevirtual 204), (32, .istore_n 1), (33, .iconst 0), (34, .istore_n 2), (35, .iload_n 2), (36, .aload_n 0), (37, .getfield 12), (40, .getfield 181), (43, .if_icmp .ge 56), (46, .aload_n 0), (47, .getfield 53), (50, .getfield 188), (53, .iload_n 2), (54, .invokestatic 241), (57, .ifCond .eq 36), (60, .aload_n 0), (61, .getfield 53), (64, .aload_n 0), (65, .getfield 53), (68, .getfield 188), (71, .iconst 1), (72, .iload_n 2), (73, .ishl), (74, .iconst (-1)), (75, .ixor), (76, .iand), (77, .aload_n 0), (78, .getfield 53), (81, .getfield 191), (84, .invokevirtual 204), (87, .iload_n 1), (88, .if_icmp .ne 5), (91, .iload_n 2), (92, .ireturn), (93, .iinc 2 1), (96, .goto (-61)), (99, .bipush (-4)), (101, .ireturn)]
set_option maxRecDepth 100000 in
theorem cokX4_refuse : q_cok cX4_refuse cdX4_refuse := by unfold q_cok; decide +kernel
set_option maxRecDepth 100000 in
set_option maxHeartbeats 4000000 in
theorem ctX4_refuse {l : Launch} {D : va_G} {cy : Nat → Nat} {b0 : Nat} {σ : q_St} {h : q_Hp} (a0 : Nat) {r : Int32} {h' : q_Hp} (ta0 : q_tag σ a0 = 5) (hf : fX4_refuse σ h a0 = some (r, h')) : q_M l yX4_refuse cX4_refuse 3 (some .int) 4 100 0 0 D cy b0 σ h [.ref a0] (some (.int r)) σ h' := by
  unfold fX4_refuse at hf
  obtain ⟨⟨k0, k1⟩, hf⟩ := q_gu_o hf
  refine q_enter (by decide) (Nat.le_of_ble_eq_true rfl) ?_
  intro p e s m args below meth c C0 hr hlk hnm
  replace C0 : VC p { frames := 4, cells := 0, slots := 0, locals := 100 } s m args meth c D cy b0 3 0 0 RX4 cX4_refuse := C0
  have n35 : ∀ (x1 : Int32) (o : (q_Hp ⊕ (Int32 × q_Hp))) (s1 : (Int32 × q_Hp)), q_loop (fun s => fX4_refuse_35 σ a0 x1 s.1 s.2) q_N s1 = some o → (∀ w0 : q_Hp, Sum.inl w0 = o → V p l e { frames := 4, cells := 0, slots := 0, locals := 100 } s m args below meth c (MQ below (q_Qc D cy b0 (some (.int r)) σ h') args s 0 0 (fun q => b0 ≤ q)) D cy b0 3 0 0 0 0 σ w0 99 [] []) → (∀ r0 : (Int32 × q_Hp), Sum.inr r0 = o → (some r0 : Option (Int32 × q_Hp)) = some (r, h')) → V p l e { frames := 4, cells := 0, slots := 0, locals := 100 } s m args below meth c (MQ below (q_Qc D cy b0 (some (.int r)) σ h') args s 0 0 (fun q => b0 ≤ q)) D cy b0 3 0 0 0 0 σ s1.2 35 [(0, .ref a0), (1, .int x1), (2, .int s1.1)] [] := by
    intro x1 o s1 ho kx1 ke1
    refine q_loop_V (P := fun s0 => V p l e { frames := 4, cells := 0, slots := 0, locals := 100 } s m args below meth c (MQ below (q_Qc D cy b0 (some (.int r)) σ h') args s 0 0 (fun q => b0 ≤ q)) D cy b0 3 0 0 0 0 σ s0.2 35 [(0, .ref a0), (1, .int x1), (2, .int s0.1)] []) (o := o) ?_ q_N s1 ho
    intro s2 z1 hf kb1 kr1
    obtain ⟨x2, h⟩ := s2
    replace hf : fX4_refuse_35 σ a0 x1 x2 h = some z1 := hf
    unfold fX4_refuse_35 at hf
    show V p l e { frames := 4, cells := 0, slots := 0, locals := 100 } s m args below meth c (MQ below (q_Qc D cy b0 (some (.int r)) σ h') args s 0 0 (fun q => b0 ≤ q)) D cy b0 3 0 0 0 0 σ h 35 [(0, .ref a0), (1, .int x1), (2, .int x2)] []
    have n93 : ∀ (h : q_Hp) (x2 : Int32), fX4_refuse_93 σ h a0 x1 x2 = some z1 → V p l e { frames := 4, cells := 0, slots := 0, locals := 100 } s m args below meth c (MQ below (q_Qc D cy b0 (some (.int r)) σ h') args s 0 0 (fun q => b0 ≤ q)) D cy b0 3 0 0 0 0 σ h 93 [(0, .ref a0), (1, .int x1), (2, .int x2)] [] := by
      intro h x2 hf
      unfold fX4_refuse_93 at hf
      refine v_run C0 tbX4 cokX4_refuse (pc' := 35) (lv' := [(2, .int (x2 + (1 : Int32))), (0, .ref a0), (1, .int x1)]) (st' := []) (h' := h) 2 rfl trivial ?_
      obtain rfl := Option.some.inj hf
      refine v_pick [1, 2, 0] rfl ?_
      exact kb1 _ rfl
    refine v_run C0 tbX4 cokX4_refuse (pc' := 43) (lv' := [(0, .ref a0), (1, .int x1), (2, .int x2)]) (st' := [.int (q_int h (q_ref σ a0 0) 12), .int x2]) (h' := h) 4 rfl ⟨⟨ta0, q_tn k1⟩, k1, trivial⟩ ?_
    refine v_icmp_ge C0 cokX4_refuse rfl 99 (by decide) hf (fun _ hf => ?_) (fun _ hf => ?_)
    · obtain rfl := Option.some.inj hf
      refine v_pick [] rfl ?_
      exact kx1 _ (kr1 _ rfl)
    · refine v_run C0 tbX4 cokX4_refuse (pc' := 54) (lv' := [(0, .ref a0), (1, .int x1), (2, .int x2)]) (st' := [.int x2, .int (q_int h (q_ref σ a0 8) 9)]) (h' := h) 4 rfl ⟨⟨ta0, q_tn k0⟩, k0, trivial⟩ ?_
      obtain ⟨r5, e5, hf⟩ := q_bd hf
      refine v_callS C0 cokX4_refuse rfl (rest := []) (ctX4_hasBit (q_int h (q_ref σ a0 8) 9) x2 e5) calX4_hasBit lkX4_241 inX4_hasBit dnX4_hasBit rfl rfl ⟨by decide, by decide⟩ (Nat.le_of_ble_eq_true rfl) (Nat.le_refl _) (Nat.le_refl _) ?_
      refine v_if_eq C0 cokX4_refuse rfl 93 (by decide) hf (fun _ hf => ?_) (fun _ hf => ?_)
      · refine v_pick [0, 1, 2] rfl ?_
        exact n93 h x2 hf
      · refine v_run C0 tbX4 cokX4_refuse (pc' := 84) (lv' := [(0, .ref a0), (1, .int x1), (2, .int x2)]) (st' := [.int (q_int h (q_ref σ a0 8) 10), .int ((q_int h (q_ref σ a0 8) 9) &&& (((1 : Int32) <<< (x2 &&& 31)) ^^^ (-1 : Int32))), .ref (q_ref σ a0 8)]) (h' := h) 14 rfl ⟨⟨ta0, q_tn k0⟩, ⟨ta0, q_tn k0⟩, k0, ⟨ta0, q_tn k0⟩, k0, trivial⟩ ?_
        obtain ⟨r6, h6, e6, hf⟩ := q_bd2 hf
        refine v_callV C0 cokX4_refuse rfl (rest := []) (ctX0_richest (q_ref σ a0 8) ((q_int h (q_ref σ a0 8) 9) &&& (((1 : Int32) <<< (x2 &&& 31)) ^^^ (-1 : Int32))) (q_int h (q_ref σ a0 8) 10) k0 e6) calX0_richest lkX4_204 inX0_richest dnX0_richest (ci := 0) ⟨rfl, by decide⟩ k0 rfl rfl ⟨by decide, by decide⟩ (Nat.le_of_ble_eq_true rfl) (Nat.le_refl _) (Nat.le_refl _) ?_
        refine v_run C0 tbX4 cokX4_refuse (pc' := 88) (lv' := [(0, .ref a0), (1, .int x1), (2, .int x2)]) (st' := [.int x1, .int r6]) (h' := h6) 1 rfl trivial ?_
        refine v_icmp_ne C0 cokX4_refuse rfl 93 (by decide) hf (fun _ hf => ?_) (fun _ hf => ?_)
        · refine v_run C0 tbX4 cokX4_refuse (pc' := 92) (lv' := [(0, .ref a0), (1, .int x1), (2, .int x2)]) (st' := [.int x2]) (h' := h6) 1 rfl trivial ?_
          obtain rfl := Option.some.inj hf
          have hf := ke1 _ (kr1 _ rfl)
          obtain ⟨rfl, rfl⟩ := Prod.mk.inj (Option.some.inj hf)
          exact v_iret C0 cokX4_refuse hr hlk rfl
        · refine v_pick [0, 1, 2] rfl ?_
          exact n93 h6 x2 hf
  refine v_run C0 tbX4 cokX4_refuse (pc' := 8) (lv' := [(0, .ref a0)]) (st' := [.ref (q_ref σ a0 0), .ref (q_ref σ a0 8)]) (h' := h) 4 rfl ⟨⟨ta0, q_tn k0⟩, ⟨ta0, q_tn k1⟩, trivial⟩ ?_
  obtain ⟨h1, e1, hf⟩ := q_bd hf
  refine v_callV C0 cokX4_refuse rfl (rest := []) (ctX0_load (q_ref σ a0 8) (q_ref σ a0 0) k0 k1 e1) calX0_load lkX4_184 inX0_load dnX0_load (ci := 0) ⟨rfl, by decide⟩ k0 rfl rfl ⟨by decide, by decide⟩ (Nat.le_of_ble_eq_true rfl) (Nat.le_refl _) (Nat.le_refl _) ?_
  refine v_run C0 tbX4 cokX4_refuse (pc' := 29) (lv' := [(0, .ref a0)]) (st' := [.int (q_int h1 (q_ref σ a0 8) 10), .int (q_int h1 (q_ref σ a0 8) 9), .ref (q_ref σ a0 8)]) (h' := h1) 8 rfl ⟨⟨ta0, q_tn k0⟩, ⟨ta0, q_tn k0⟩, k0, ⟨ta0, q_tn k0⟩, k0, trivial⟩ ?_
  obtain ⟨r2, h2, e2, hf⟩ := q_bd2 hf
  refine v_callV C0 cokX4_refuse rfl (rest := []) (ctX0_richest (q_ref σ a0 8) (q_int h1 (q_ref σ a0 8) 9) (q_int h1 (q_ref σ a0 8) 10) k0 e2) calX0_richest lkX4_204 inX0_richest dnX0_richest (ci := 0) ⟨rfl, by decide⟩ k0 rfl rfl ⟨by decide, by decide⟩ (Nat.le_of_ble_eq_true rfl) (Nat.le_refl _) (Nat.le_refl _) ?_
  refine v_run C0 tbX4 cokX4_refuse (pc' := 35) (lv' := [(2, .int (0 : Int32)), (1, .int r2), (0, .ref a0)]) (st' := []) (h' := h2) 3 rfl trivial ?_
  obtain ⟨o3, eo3, hf⟩ := q_bd hf
  refine v_pick [2, 1, 0] rfl ?_
  refine n35 r2 o3 ((0 : Int32), h2) eo3 (fun w4 hx => ?_) (fun r0 hx => ?_)
  · rw [← hx] at hf
    replace hf := q_el_l hf
    refine v_run C0 tbX4 cokX4_refuse (pc' := 101) (lv' := []) (st' := [.int (-4 : Int32)]) (h' := w4) 1 rfl trivial ?_
    obtain ⟨rfl, rfl⟩ := Prod.mk.inj (Option.some.inj hf)
    exact v_iret C0 cokX4_refuse hr hlk rfl
  · rw [← hx] at hf
    exact hf
-- BackByNoonOnMonday.buy(II)I
noncomputable def fX4_buy_134 (σ : q_St) (h : q_Hp) (a0 : Nat) (x1 : Int32) (x2 : Int32) (x3 : Int32) (x4 : Int32) (x5 : Int32) (x6 : Int32) : Option ((Int32 × Int32 × Int32 × q_Hp) ⊕ (Int32 × Int32 × q_Hp)) := some (Sum.inl (x4, x5, (x6 + (1 : Int32)), h))
noncomputable def fX4_buy_63 (σ : q_St) (a0 : Nat) (x1 : Int32) (x2 : Int32) (x3 : Int32) (x4 : Int32) (x5 : Int32) (x6 : Int32) (h : q_Hp) : Option ((Int32 × Int32 × Int32 × q_Hp) ⊕ (Int32 × Int32 × q_Hp)) := (if (Int32.ofNat (q_len σ (q_ref σ a0 6))) ≤ x6 then some (Sum.inr (x4, x5, h)) else q_gu ((vp_in x6 (q_len σ (q_ref σ a0 6)))) ((if (q_ref σ (q_ref σ a0 6) (Int32.toNatClampNeg x6)) = 0 then none else q_gu ((q_tag σ (q_ref σ (q_ref σ a0 6) (Int32.toNatClampNeg x6)) = 4)) (((fX0_lend σ h (q_ref σ a0 8) (q_ref σ a0 0) (q_ref σ (q_ref σ a0 6) (Int32.toNatClampNeg x6)) x1).bind fun h8 => (q_b2 (fX0_richest σ h8 (q_ref σ a0 8) (q_int h8 (q_ref σ a0 8) 9) ((q_int h8 (q_ref σ a0 8) 10) ||| (128 : Int32))) fun r9 h9 => (if r9 ≤ x4 then fX4_buy_134 σ h9 a0 x1 x2 x3 x4 x5 x6 else fX4_buy_134 σ h9 a0 x1 x2 x3 r9 x6 x6)))))))
noncomputable def fX4_buy (σ : q_St) (h : q_Hp) (a0 : Nat) (x1 : Int32) (x2 : Int32) : Option (Int32 × q_Hp) := q_gu ((q_tag σ (q_ref σ a0 8) = 1) ∧ (q_tag σ (q_ref σ a0 0) = 3) ∧ (q_tag σ (q_ref σ a0 6) = 10)) (((fX4_isIn σ h x1 (0 : Int32) (20 : Int32)).bind fun r1 => (if r1 = 0 then some ((-1 : Int32), h) else ((fX4_isIn σ h x2 (0 : Int32) (1 : Int32)).bind fun r2 => (if r2 = 0 then some ((-1 : Int32), h) else ((fX0_load σ h (q_ref σ a0 8) (q_ref σ a0 0)).bind fun h3 => (q_b2 (fX0_richest σ h3 (q_ref σ a0 8) (q_int h3 (q_ref σ a0 8) 9) (q_int h3 (q_ref σ a0 8) 10)) fun r4 h4 => (q_loop (fun s => fX4_buy_63 σ a0 x1 x2 r4 s.1 s.2.1 s.2.2.1 s.2.2.2) q_N ((-1 : Int32), (0 : Int32), (0 : Int32), h4)).bind fun o5 => (if x2 = 0 then some (o5.2.1, o5.2.2) else some ((o5.1 - r4), o5.2.2)))))))))
def cdX4_buy : q_Cd := [(0, .iload_n 1), (1, .iconst 0), (2, .bipush 20), (4, .invokestatic 148), (7, .ifCond .eq 12), (10, .iload_n 2), (11, .iconst 0), (12, .iconst 1), (13, .invokestatic 148), (16, .ifCond .ne 5), (19, .iconst (-1)), (20, .ireturn), (21, .aload_n 0), (22, .getfield 53), (25, .aload_n 0), (26, .getfield 12), (29, .invokevirtual 184), (32, .aload_n 0), (33, .getfield 53), (36, .aload_n 0), (37, .getfield 53), (40, .getfield 188), (43, .aload_n 0), (44, .getfield 53), (47, .getfield 191), (50, .invokevirtual 204), (53, .istore_n 3), (54, .iconst (-1)), (55, .istore 4), (57, .iconst 0), (58, .istore 5), (60, .iconst 0), (61, .istore 6), (63, .iload 6), (65, .aload_n 0), (66, .getfield 39), (69, .arraylength), (70, .if_icmp .ge 70), (73, .aload_n 0), (74, .getfield 53), (77, .aload_n 0), (78, .getfield 12), (81, .aload_n 0), (82, .getfield 39), (85, .iload 6), (87, .aaload), (88, .iload_n 1), (89, .invokevirtual 211), (92, .aload_n 0), (93, .getfield 53), (96, .aload_n 0), (97, .getfield 53), (100, .getfield 188), (103, .aload_n 0), (104, .getfield 53), (107, .getfield 191), (110, .sipush 128), (113, .ior), (114, .invokevirtual 204), (117, .istore 7), (119, .iload 7), (121, .iload 4), (123, .if_icmp .le 11), (126, .iload 7), (128, .istore 4), (130, .iload 6), (132, .istore 5), (134, .iinc 6 1), (137, .goto (-74)), (140, .iload_n 2), (141, .ifCond .ne 8), (144, .iload 5), (146, .goto 7), (149, .iload 4), (151, .iload_n 3), (152, .isub), (153, .ireturn)]
set_option maxRecDepth 100000 in
theorem cokX4_buy : q_cok cX4_buy cdX4_buy := by unfold q_cok; decide +kernel
set_option maxRecDepth 100000 in
set_option maxHeartbeats 4000000 in
theorem ctX4_buy {l : Launch} {D : va_G} {cy : Nat → Nat} {b0 : Nat} {σ : q_St} {h : q_Hp} (a0 : Nat) (x1 : Int32) (x2 : Int32) {r : Int32} {h' : q_Hp} (ta0 : q_tag σ a0 = 5) (hf : fX4_buy σ h a0 x1 x2 = some (r, h')) : q_M l yX4_buy cX4_buy 8 (some .int) 4 100 0 0 D cy b0 σ h [.ref a0, .int x1, .int x2] (some (.int r)) σ h' := by
  unfold fX4_buy at hf
  obtain ⟨⟨k0, k1, k2⟩, hf⟩ := q_gu_o hf
  refine q_enter (by decide) (Nat.le_of_ble_eq_true rfl) ?_
  intro p e s m args below meth c C0 hr hlk hnm
  replace C0 : VC p { frames := 4, cells := 0, slots := 0, locals := 100 } s m args meth c D cy b0 8 0 0 RX4 cX4_buy := C0
  have n63 : ∀ (x3 : Int32) (o : (Int32 × Int32 × q_Hp)) (s1 : (Int32 × Int32 × Int32 × q_Hp)), q_loop (fun s => fX4_buy_63 σ a0 x1 x2 x3 s.1 s.2.1 s.2.2.1 s.2.2.2) q_N s1 = some o → V p l e { frames := 4, cells := 0, slots := 0, locals := 100 } s m args below meth c (MQ below (q_Qc D cy b0 (some (.int r)) σ h') args s 0 0 (fun q => b0 ≤ q)) D cy b0 8 0 0 0 0 σ o.2.2 140 [(2, .int x2), (3, .int x3), (4, .int o.1), (5, .int o.2.1)] [] → V p l e { frames := 4, cells := 0, slots := 0, locals := 100 } s m args below meth c (MQ below (q_Qc D cy b0 (some (.int r)) σ h') args s 0 0 (fun q => b0 ≤ q)) D cy b0 8 0 0 0 0 σ s1.2.2.2 63 [(0, .ref a0), (1, .int x1), (2, .int x2), (3, .int x3), (4, .int s1.1), (5, .int s1.2.1), (6, .int s1.2.2.1)] [] := by
    intro x3 o s1 ho kx1
    refine q_loop_V (P := fun s0 => V p l e { frames := 4, cells := 0, slots := 0, locals := 100 } s m args below meth c (MQ below (q_Qc D cy b0 (some (.int r)) σ h') args s 0 0 (fun q => b0 ≤ q)) D cy b0 8 0 0 0 0 σ s0.2.2.2 63 [(0, .ref a0), (1, .int x1), (2, .int x2), (3, .int x3), (4, .int s0.1), (5, .int s0.2.1), (6, .int s0.2.2.1)] []) (o := o) ?_ q_N s1 ho
    intro s2 z1 hf kb1 kr1
    obtain ⟨x4, x5, x6, h⟩ := s2
    replace hf : fX4_buy_63 σ a0 x1 x2 x3 x4 x5 x6 h = some z1 := hf
    unfold fX4_buy_63 at hf
    show V p l e { frames := 4, cells := 0, slots := 0, locals := 100 } s m args below meth c (MQ below (q_Qc D cy b0 (some (.int r)) σ h') args s 0 0 (fun q => b0 ≤ q)) D cy b0 8 0 0 0 0 σ h 63 [(0, .ref a0), (1, .int x1), (2, .int x2), (3, .int x3), (4, .int x4), (5, .int x5), (6, .int x6)] []
    have n134 : ∀ (h : q_Hp) (x4 : Int32) (x5 : Int32) (x6 : Int32), fX4_buy_134 σ h a0 x1 x2 x3 x4 x5 x6 = some z1 → V p l e { frames := 4, cells := 0, slots := 0, locals := 100 } s m args below meth c (MQ below (q_Qc D cy b0 (some (.int r)) σ h') args s 0 0 (fun q => b0 ≤ q)) D cy b0 8 0 0 0 0 σ h 134 [(0, .ref a0), (1, .int x1), (2, .int x2), (3, .int x3), (4, .int x4), (5, .int x5), (6, .int x6)] [] := by
      intro h x4 x5 x6 hf
      unfold fX4_buy_134 at hf
      refine v_run C0 tbX4 cokX4_buy (pc' := 63) (lv' := [(6, .int (x6 + (1 : Int32))), (0, .ref a0), (1, .int x1), (2, .int x2), (3, .int x3), (4, .int x4), (5, .int x5)]) (st' := []) (h' := h) 2 rfl trivial ?_
      obtain rfl := Option.some.inj hf
      refine v_pick [1, 2, 3, 4, 5, 6, 0] rfl ?_
      exact kb1 _ rfl
    refine v_run C0 tbX4 cokX4_buy (pc' := 70) (lv' := [(0, .ref a0), (1, .int x1), (2, .int x2), (3, .int x3), (4, .int x4), (5, .int x5), (6, .int x6)]) (st' := [.int (Int32.ofNat (q_len σ (q_ref σ a0 6))), .int x6]) (h' := h) 4 rfl ⟨⟨ta0, q_tn k2⟩, (Or.inr (Or.inr (Or.inr k2))), trivial⟩ ?_
    refine v_icmp_ge C0 cokX4_buy rfl 140 (by decide) hf (fun _ hf => ?_) (fun _ hf => ?_)
    · obtain rfl := Option.some.inj hf
      refine v_pick [2, 3, 4, 5] rfl ?_
      have hx := kr1 _ rfl
      subst hx
      exact kx1
    · refine v_run C0 tbX4 cokX4_buy (pc' := 87) (lv' := [(0, .ref a0), (1, .int x1), (2, .int x2), (3, .int x3), (4, .int x4), (5, .int x5), (6, .int x6)]) (st' := [.int x6, .ref (q_ref σ a0 6), .ref (q_ref σ a0 0), .ref (q_ref σ a0 8)]) (h' := h) 7 rfl ⟨⟨ta0, q_tn k0⟩, ⟨ta0, q_tn k1⟩, ⟨ta0, q_tn k2⟩, trivial⟩ ?_
      obtain ⟨g6, hf⟩ := q_gu_o hf
      refine v_aald C0 cokX4_buy rfl (Or.inr k2) g6 hf (fun _ hf => ?_) (fun _ hf => ?_)
      · refine v_run C0 tbX4 cokX4_buy (pc' := 89) (lv' := [(0, .ref a0), (1, .int x1), (2, .int x2), (3, .int x3), (4, .int x4), (5, .int x5), (6, .int x6)]) (st' := [.int x1, .null, .ref (q_ref σ a0 0), .ref (q_ref σ a0 8)]) (h' := h) 1 rfl trivial ?_
        cases hf
      · refine v_run C0 tbX4 cokX4_buy (pc' := 89) (lv' := [(0, .ref a0), (1, .int x1), (2, .int x2), (3, .int x3), (4, .int x4), (5, .int x5), (6, .int x6)]) (st' := [.int x1, .ref (q_ref σ (q_ref σ a0 6) (Int32.toNatClampNeg x6)), .ref (q_ref σ a0 0), .ref (q_ref σ a0 8)]) (h' := h) 1 rfl trivial ?_
        obtain ⟨g7, hf⟩ := q_gu_o hf
        obtain ⟨h8, e8, hf⟩ := q_bd hf
        refine v_callV C0 cokX4_buy rfl (rest := []) (ctX0_lend (q_ref σ a0 8) (q_ref σ a0 0) (q_ref σ (q_ref σ a0 6) (Int32.toNatClampNeg x6)) x1 k0 k1 g7 e8) calX0_lend lkX4_211 inX0_lend dnX0_lend (ci := 0) ⟨rfl, by decide⟩ k0 rfl rfl ⟨by decide, by decide⟩ (Nat.le_of_ble_eq_true rfl) (Nat.le_refl _) (Nat.le_refl _) ?_
        refine v_run C0 tbX4 cokX4_buy (pc' := 114) (lv' := [(0, .ref a0), (1, .int x1), (2, .int x2), (3, .int x3), (4, .int x4), (5, .int x5), (6, .int x6)]) (st' := [.int ((q_int h8 (q_ref σ a0 8) 10) ||| (128 : Int32)), .int (q_int h8 (q_ref σ a0 8) 9), .ref (q_ref σ a0 8)]) (h' := h8) 10 rfl ⟨⟨ta0, q_tn k0⟩, ⟨ta0, q_tn k0⟩, k0, ⟨ta0, q_tn k0⟩, k0, trivial⟩ ?_
        obtain ⟨r9, h9, e9, hf⟩ := q_bd2 hf
        refine v_callV C0 cokX4_buy rfl (rest := []) (ctX0_richest (q_ref σ a0 8) (q_int h8 (q_ref σ a0 8) 9) ((q_int h8 (q_ref σ a0 8) 10) ||| (128 : Int32)) k0 e9) calX0_richest lkX4_204 inX0_richest dnX0_richest (ci := 0) ⟨rfl, by decide⟩ k0 rfl rfl ⟨by decide, by decide⟩ (Nat.le_of_ble_eq_true rfl) (Nat.le_refl _) (Nat.le_refl _) ?_
        refine v_run C0 tbX4 cokX4_buy (pc' := 123) (lv' := [(7, .int r9), (0, .ref a0), (1, .int x1), (2, .int x2), (3, .int x3), (4, .int x4), (5, .int x5), (6, .int x6)]) (st' := [.int x4, .int r9]) (h' := h9) 3 rfl trivial ?_
        refine v_icmp_le C0 cokX4_buy rfl 134 (by decide) hf (fun _ hf => ?_) (fun _ hf => ?_)
        · refine v_pick [1, 2, 3, 4, 5, 6, 7] rfl ?_
          exact n134 h9 x4 x5 x6 hf
        · refine v_run C0 tbX4 cokX4_buy (pc' := 134) (lv' := [(5, .int x6), (4, .int r9), (7, .int r9), (0, .ref a0), (1, .int x1), (2, .int x2), (3, .int x3), (6, .int x6)]) (st' := []) (h' := h9) 4 rfl trivial ?_
          refine v_pick [3, 4, 5, 6, 1, 0, 7] rfl ?_
          exact n134 h9 r9 x6 x6 hf
  refine v_run C0 tbX4 cokX4_buy (pc' := 4) (lv' := [(0, .ref a0), (1, .int x1), (2, .int x2)]) (st' := [.int (20 : Int32), .int (0 : Int32), .int x1]) (h' := h) 3 rfl trivial ?_
  obtain ⟨r1, e1, hf⟩ := q_bd hf
  refine v_callS C0 cokX4_buy rfl (rest := []) (ctX4_isIn x1 (0 : Int32) (20 : Int32) e1) calX4_isIn lkX4_148 inX4_isIn dnX4_isIn rfl rfl ⟨by decide, by decide⟩ (Nat.le_of_ble_eq_true rfl) (Nat.le_refl _) (Nat.le_refl _) ?_
  refine v_if_eq C0 cokX4_buy rfl 19 (by decide) hf (fun _ hf => ?_) (fun _ hf => ?_)
  · refine v_run C0 tbX4 cokX4_buy (pc' := 20) (lv' := [(0, .ref a0), (1, .int x1), (2, .int x2)]) (st' := [.int (-1 : Int32)]) (h' := h) 1 rfl trivial ?_
    obtain ⟨rfl, rfl⟩ := Prod.mk.inj (Option.some.inj hf)
    exact v_iret C0 cokX4_buy hr hlk rfl
  · refine v_run C0 tbX4 cokX4_buy (pc' := 13) (lv' := [(0, .ref a0), (1, .int x1), (2, .int x2)]) (st' := [.int (1 : Int32), .int (0 : Int32), .int x2]) (h' := h) 3 rfl trivial ?_
    obtain ⟨r2, e2, hf⟩ := q_bd hf
    refine v_callS C0 cokX4_buy rfl (rest := []) (ctX4_isIn x2 (0 : Int32) (1 : Int32) e2) calX4_isIn lkX4_148 inX4_isIn dnX4_isIn rfl rfl ⟨by decide, by decide⟩ (Nat.le_of_ble_eq_true rfl) (Nat.le_refl _) (Nat.le_refl _) ?_
    refine v_if_ne C0 cokX4_buy rfl 21 (by decide) hf (fun _ hf => ?_) (fun _ hf => ?_)
    · refine v_run C0 tbX4 cokX4_buy (pc' := 20) (lv' := [(0, .ref a0), (1, .int x1), (2, .int x2)]) (st' := [.int (-1 : Int32)]) (h' := h) 1 rfl trivial ?_
      obtain ⟨rfl, rfl⟩ := Prod.mk.inj (Option.some.inj hf)
      exact v_iret C0 cokX4_buy hr hlk rfl
    · refine v_run C0 tbX4 cokX4_buy (pc' := 29) (lv' := [(0, .ref a0), (1, .int x1), (2, .int x2)]) (st' := [.ref (q_ref σ a0 0), .ref (q_ref σ a0 8)]) (h' := h) 4 rfl ⟨⟨ta0, q_tn k0⟩, ⟨ta0, q_tn k1⟩, trivial⟩ ?_
      obtain ⟨h3, e3, hf⟩ := q_bd hf
      refine v_callV C0 cokX4_buy rfl (rest := []) (ctX0_load (q_ref σ a0 8) (q_ref σ a0 0) k0 k1 e3) calX0_load lkX4_184 inX0_load dnX0_load (ci := 0) ⟨rfl, by decide⟩ k0 rfl rfl ⟨by decide, by decide⟩ (Nat.le_of_ble_eq_true rfl) (Nat.le_refl _) (Nat.le_refl _) ?_
      refine v_run C0 tbX4 cokX4_buy (pc' := 50) (lv' := [(0, .ref a0), (1, .int x1), (2, .int x2)]) (st' := [.int (q_int h3 (q_ref σ a0 8) 10), .int (q_int h3 (q_ref σ a0 8) 9), .ref (q_ref σ a0 8)]) (h' := h3) 8 rfl ⟨⟨ta0, q_tn k0⟩, ⟨ta0, q_tn k0⟩, k0, ⟨ta0, q_tn k0⟩, k0, trivial⟩ ?_
      obtain ⟨r4, h4, e4, hf⟩ := q_bd2 hf
      refine v_callV C0 cokX4_buy rfl (rest := []) (ctX0_richest (q_ref σ a0 8) (q_int h3 (q_ref σ a0 8) 9) (q_int h3 (q_ref σ a0 8) 10) k0 e4) calX0_richest lkX4_204 inX0_richest dnX0_richest (ci := 0) ⟨rfl, by decide⟩ k0 rfl rfl ⟨by decide, by decide⟩ (Nat.le_of_ble_eq_true rfl) (Nat.le_refl _) (Nat.le_refl _) ?_
      refine v_run C0 tbX4 cokX4_buy (pc' := 63) (lv' := [(6, .int (0 : Int32)), (5, .int (0 : Int32)), (4, .int (-1 : Int32)), (3, .int r4), (0, .ref a0), (1, .int x1), (2, .int x2)]) (st' := []) (h' := h4) 7 rfl trivial ?_
      obtain ⟨o5, eo5, hf⟩ := q_bd hf
      refine v_pick [4, 5, 6, 3, 2, 1, 0] rfl ?_
      refine n63 r4 o5 ((-1 : Int32), (0 : Int32), (0 : Int32), h4) eo5 ?_
      refine v_run C0 tbX4 cokX4_buy (pc' := 141) (lv' := [(2, .int x2), (3, .int r4), (4, .int o5.1), (5, .int o5.2.1)]) (st' := [.int x2]) (h' := o5.2.2) 1 rfl trivial ?_
      refine v_if_ne C0 cokX4_buy rfl 149 (by decide) hf (fun _ hf => ?_) (fun _ hf => ?_)
      · refine v_run C0 tbX4 cokX4_buy (pc' := 153) (lv' := [(2, .int x2), (3, .int r4), (4, .int o5.1), (5, .int o5.2.1)]) (st' := [.int o5.2.1]) (h' := o5.2.2) 2 rfl trivial ?_
        obtain ⟨rfl, rfl⟩ := Prod.mk.inj (Option.some.inj hf)
        exact v_iret C0 cokX4_buy hr hlk rfl
      · refine v_run C0 tbX4 cokX4_buy (pc' := 153) (lv' := [(2, .int x2), (3, .int r4), (4, .int o5.1), (5, .int o5.2.1)]) (st' := [.int (o5.1 - r4)]) (h' := o5.2.2) 3 rfl trivial ?_
        obtain ⟨rfl, rfl⟩ := Prod.mk.inj (Option.some.inj hf)
        exact v_iret C0 cokX4_buy hr hlk rfl
-- BackByNoonOnMonday.sell()I
noncomputable def fX4_sell_114 (σ : q_St) (h : q_Hp) (a0 : Nat) (x1 : Int32) (x2 : Int32) (x3 : Int32) : Option ((Int32 × Int32 × Int32 × q_Hp) ⊕ (Int32 × q_Hp)) := some (Sum.inl (x1, x2, (x3 + (1 : Int32)), h))
noncomputable def fX4_sell_109 (σ : q_St) (h : q_Hp) (a0 : Nat) (x3 : Int32) (x4 : Int32) : Option ((Int32 × Int32 × Int32 × q_Hp) ⊕ (Int32 × q_Hp)) := fX4_sell_114 σ h a0 x4 x3 x3
noncomputable def fX4_sell_18 (σ : q_St) (a0 : Nat) (x1 : Int32) (x2 : Int32) (x3 : Int32) (h : q_Hp) : Option ((Int32 × Int32 × Int32 × q_Hp) ⊕ (Int32 × q_Hp)) := (if (q_int h (q_ref σ a0 0) 11) ≤ x3 then some (Sum.inr (x2, h)) else ((fX4_hasBit σ h (q_int h (q_ref σ a0 8) 10) x3).bind fun r3 => (if r3 = 0 then fX4_sell_114 σ h a0 x1 x2 x3 else (q_b2 (fX0_richest σ h (q_ref σ a0 8) (q_int h (q_ref σ a0 8) 9) ((q_int h (q_ref σ a0 8) 10) &&& (((1 : Int32) <<< (x3 &&& 31)) ^^^ (-1 : Int32)))) fun r4 h4 => (if x1 < r4 then fX4_sell_109 σ h4 a0 x3 r4 else (if r4 = x1 then ((fX4_at σ h4 (q_ref σ (q_ref σ a0 0) 2) x3).bind fun r5 => ((fX4_at σ h4 (q_ref σ (q_ref σ a0 0) 2) x2).bind fun r6 => (if r5 ≤ r6 then fX4_sell_114 σ h4 a0 x1 x2 x3 else fX4_sell_109 σ h4 a0 x3 r4))) else fX4_sell_114 σ h4 a0 x1 x2 x3))))))
noncomputable def fX4_sell (σ : q_St) (h : q_Hp) (a0 : Nat) : Option (Int32 × q_Hp) := q_gu ((q_tag σ (q_ref σ a0 8) = 1) ∧ (q_tag σ (q_ref σ a0 0) = 3) ∧ (q_tag σ (q_ref σ (q_ref σ a0 0) 2) = 7)) (((fX0_load σ h (q_ref σ a0 8) (q_ref σ a0 0)).bind fun h1 => (q_loop (fun s => fX4_sell_18 σ a0 s.1 s.2.1 s.2.2.1 s.2.2.2) q_N ((-1 : Int32), (-4 : Int32), (0 : Int32), h1)).bind fun o2 => some (o2.1, o2.2)))
def cdX4_sell : q_Cd := [(0, .aload_n 0), (1, .getfield 53), (4, .aload_n 0), (5, .getfield 12), (8, .invokevirtual 184), (11, .iconst (-1)), (12, .istore_n 1), (13, .bipush (-4)), (15, .istore_n 2), (16, .iconst 0), (17, .istore_n 3), (18, .iload_n 3), (19, .aload_n 0), (20, .getfield 12), (23, .getfield 244), (26, .if_icmp .ge 94), (29, .aload_n 0), (30, .getfield 53), (33, .getfield 191), (36, .iload_n 3), (37, .invokestatic 241), (40, .ifCond .eq 74), (43, .aload_n 0), (44, .getfield 53), (47, .aload_n 0), (48, .getfield 53), (51, .getfield 188), (54, .aload_n 0), (55, .getfield 53), (58, .getfield 191), (61, .iconst 1), (62, .iload_n 3), (63, .ishl), (64, .iconst (-1)), (65, .ixor), (66, .iand), (67, .invokevirtual 204), (70, .istore 4), (72, .iload 4), (74, .iload_n 1), (75, .if_icmp .gt 34), (78, .iload 4), (80, .iload_n 1), (81, .if_icmp .ne 33), (84, .aload_n 0), (85, .getfield 12), (88, .getfield 109), (91, .iload_n 3), (92, .invokestatic 105), (95, .aload_n 0), (96, .getfield 12), (99, .getfield 109), (102, .iload_n 2), (103, .invokestatic 105), (106, .if_icmp .le 8), (109, .iload 4), (111, .istore_n 1), (112, .iload_n 3), (113, .istore_n 2), (114, .iinc 3 1), (117, .goto (-99)), (120, .iload_n 2), (121, .ireturn)]
set_option maxRecDepth 100000 in
theorem cokX4_sell : q_cok cX4_sell cdX4_sell := by unfold q_cok; decide +kernel
set_option maxRecDepth 100000 in
set_option maxHeartbeats 4000000 in
theorem ctX4_sell {l : Launch} {D : va_G} {cy : Nat → Nat} {b0 : Nat} {σ : q_St} {h : q_Hp} (a0 : Nat) {r : Int32} {h' : q_Hp} (ta0 : q_tag σ a0 = 5) (hf : fX4_sell σ h a0 = some (r, h')) : q_M l yX4_sell cX4_sell 5 (some .int) 4 100 0 0 D cy b0 σ h [.ref a0] (some (.int r)) σ h' := by
  unfold fX4_sell at hf
  obtain ⟨⟨k0, k1, k2⟩, hf⟩ := q_gu_o hf
  refine q_enter (by decide) (Nat.le_of_ble_eq_true rfl) ?_
  intro p e s m args below meth c C0 hr hlk hnm
  replace C0 : VC p { frames := 4, cells := 0, slots := 0, locals := 100 } s m args meth c D cy b0 5 0 0 RX4 cX4_sell := C0
  have n18 : ∀ (o : (Int32 × q_Hp)) (s1 : (Int32 × Int32 × Int32 × q_Hp)), q_loop (fun s => fX4_sell_18 σ a0 s.1 s.2.1 s.2.2.1 s.2.2.2) q_N s1 = some o → V p l e { frames := 4, cells := 0, slots := 0, locals := 100 } s m args below meth c (MQ below (q_Qc D cy b0 (some (.int r)) σ h') args s 0 0 (fun q => b0 ≤ q)) D cy b0 5 0 0 0 0 σ o.2 120 [(2, .int o.1)] [] → V p l e { frames := 4, cells := 0, slots := 0, locals := 100 } s m args below meth c (MQ below (q_Qc D cy b0 (some (.int r)) σ h') args s 0 0 (fun q => b0 ≤ q)) D cy b0 5 0 0 0 0 σ s1.2.2.2 18 [(0, .ref a0), (1, .int s1.1), (2, .int s1.2.1), (3, .int s1.2.2.1)] [] := by
    intro o s1 ho kx1
    refine q_loop_V (P := fun s0 => V p l e { frames := 4, cells := 0, slots := 0, locals := 100 } s m args below meth c (MQ below (q_Qc D cy b0 (some (.int r)) σ h') args s 0 0 (fun q => b0 ≤ q)) D cy b0 5 0 0 0 0 σ s0.2.2.2 18 [(0, .ref a0), (1, .int s0.1), (2, .int s0.2.1), (3, .int s0.2.2.1)] []) (o := o) ?_ q_N s1 ho
    intro s2 z1 hf kb1 kr1
    obtain ⟨x1, x2, x3, h⟩ := s2
    replace hf : fX4_sell_18 σ a0 x1 x2 x3 h = some z1 := hf
    unfold fX4_sell_18 at hf
    show V p l e { frames := 4, cells := 0, slots := 0, locals := 100 } s m args below meth c (MQ below (q_Qc D cy b0 (some (.int r)) σ h') args s 0 0 (fun q => b0 ≤ q)) D cy b0 5 0 0 0 0 σ h 18 [(0, .ref a0), (1, .int x1), (2, .int x2), (3, .int x3)] []
    have n114 : ∀ (h : q_Hp) (x1 : Int32) (x2 : Int32) (x3 : Int32), fX4_sell_114 σ h a0 x1 x2 x3 = some z1 → V p l e { frames := 4, cells := 0, slots := 0, locals := 100 } s m args below meth c (MQ below (q_Qc D cy b0 (some (.int r)) σ h') args s 0 0 (fun q => b0 ≤ q)) D cy b0 5 0 0 0 0 σ h 114 [(0, .ref a0), (1, .int x1), (2, .int x2), (3, .int x3)] [] := by
      intro h x1 x2 x3 hf
      unfold fX4_sell_114 at hf
      refine v_run C0 tbX4 cokX4_sell (pc' := 18) (lv' := [(3, .int (x3 + (1 : Int32))), (0, .ref a0), (1, .int x1), (2, .int x2)]) (st' := []) (h' := h) 2 rfl trivial ?_
      obtain rfl := Option.some.inj hf
      refine v_pick [1, 2, 3, 0] rfl ?_
      exact kb1 _ rfl
    have n109 : ∀ (h : q_Hp) (x3 : Int32) (x4 : Int32), fX4_sell_109 σ h a0 x3 x4 = some z1 → V p l e { frames := 4, cells := 0, slots := 0, locals := 100 } s m args below meth c (MQ below (q_Qc D cy b0 (some (.int r)) σ h') args s 0 0 (fun q => b0 ≤ q)) D cy b0 5 0 0 0 0 σ h 109 [(0, .ref a0), (3, .int x3), (4, .int x4)] [] := by
      intro h x3 x4 hf
      unfold fX4_sell_109 at hf
      refine v_run C0 tbX4 cokX4_sell (pc' := 114) (lv' := [(2, .int x3), (1, .int x4), (0, .ref a0), (3, .int x3), (4, .int x4)]) (st' := []) (h' := h) 4 rfl trivial ?_
      refine v_pick [2, 1, 0, 3] rfl ?_
      exact n114 h x4 x3 x3 hf
    refine v_run C0 tbX4 cokX4_sell (pc' := 26) (lv' := [(0, .ref a0), (1, .int x1), (2, .int x2), (3, .int x3)]) (st' := [.int (q_int h (q_ref σ a0 0) 11), .int x3]) (h' := h) 4 rfl ⟨⟨ta0, q_tn k1⟩, k1, trivial⟩ ?_
    refine v_icmp_ge C0 cokX4_sell rfl 120 (by decide) hf (fun _ hf => ?_) (fun _ hf => ?_)
    · obtain rfl := Option.some.inj hf
      refine v_pick [2] rfl ?_
      have hx := kr1 _ rfl
      subst hx
      exact kx1
    · refine v_run C0 tbX4 cokX4_sell (pc' := 37) (lv' := [(0, .ref a0), (1, .int x1), (2, .int x2), (3, .int x3)]) (st' := [.int x3, .int (q_int h (q_ref σ a0 8) 10)]) (h' := h) 4 rfl ⟨⟨ta0, q_tn k0⟩, k0, trivial⟩ ?_
      obtain ⟨r3, e3, hf⟩ := q_bd hf
      refine v_callS C0 cokX4_sell rfl (rest := []) (ctX4_hasBit (q_int h (q_ref σ a0 8) 10) x3 e3) calX4_hasBit lkX4_241 inX4_hasBit dnX4_hasBit rfl rfl ⟨by decide, by decide⟩ (Nat.le_of_ble_eq_true rfl) (Nat.le_refl _) (Nat.le_refl _) ?_
      refine v_if_eq C0 cokX4_sell rfl 114 (by decide) hf (fun _ hf => ?_) (fun _ hf => ?_)
      · refine v_pick [0, 1, 2, 3] rfl ?_
        exact n114 h x1 x2 x3 hf
      · refine v_run C0 tbX4 cokX4_sell (pc' := 67) (lv' := [(0, .ref a0), (1, .int x1), (2, .int x2), (3, .int x3)]) (st' := [.int ((q_int h (q_ref σ a0 8) 10) &&& (((1 : Int32) <<< (x3 &&& 31)) ^^^ (-1 : Int32))), .int (q_int h (q_ref σ a0 8) 9), .ref (q_ref σ a0 8)]) (h' := h) 14 rfl ⟨⟨ta0, q_tn k0⟩, ⟨ta0, q_tn k0⟩, k0, ⟨ta0, q_tn k0⟩, k0, trivial⟩ ?_
        obtain ⟨r4, h4, e4, hf⟩ := q_bd2 hf
        refine v_callV C0 cokX4_sell rfl (rest := []) (ctX0_richest (q_ref σ a0 8) (q_int h (q_ref σ a0 8) 9) ((q_int h (q_ref σ a0 8) 10) &&& (((1 : Int32) <<< (x3 &&& 31)) ^^^ (-1 : Int32))) k0 e4) calX0_richest lkX4_204 inX0_richest dnX0_richest (ci := 0) ⟨rfl, by decide⟩ k0 rfl rfl ⟨by decide, by decide⟩ (Nat.le_of_ble_eq_true rfl) (Nat.le_refl _) (Nat.le_refl _) ?_
        refine v_run C0 tbX4 cokX4_sell (pc' := 75) (lv' := [(4, .int r4), (0, .ref a0), (1, .int x1), (2, .int x2), (3, .int x3)]) (st' := [.int x1, .int r4]) (h' := h4) 3 rfl trivial ?_
        refine v_icmp_gt C0 cokX4_sell rfl 109 (by decide) hf (fun _ hf => ?_) (fun _ hf => ?_)
        · refine v_pick [1, 4, 0] rfl ?_
          exact n109 h4 x3 r4 hf
        · refine v_run C0 tbX4 cokX4_sell (pc' := 81) (lv' := [(4, .int r4), (0, .ref a0), (1, .int x1), (2, .int x2), (3, .int x3)]) (st' := [.int x1, .int r4]) (h' := h4) 2 rfl trivial ?_
          refine v_icmp_ne C0 cokX4_sell rfl 114 (by decide) hf (fun _ hf => ?_) (fun _ hf => ?_)
          · refine v_run C0 tbX4 cokX4_sell (pc' := 92) (lv' := [(4, .int r4), (0, .ref a0), (1, .int x1), (2, .int x2), (3, .int x3)]) (st' := [.int x3, .ref (q_ref σ (q_ref σ a0 0) 2)]) (h' := h4) 4 rfl ⟨⟨ta0, q_tn k1⟩, ⟨k1, q_tn k2⟩, trivial⟩ ?_
            obtain ⟨r5, e5, hf⟩ := q_bd hf
            refine v_callS C0 cokX4_sell rfl (rest := []) (ctX4_at (q_ref σ (q_ref σ a0 0) 2) x3 k2 e5) calX4_at lkX4_105 inX4_at dnX4_at rfl rfl ⟨by decide, by decide⟩ (Nat.le_of_ble_eq_true rfl) (Nat.le_refl _) (Nat.le_refl _) ?_
            refine v_run C0 tbX4 cokX4_sell (pc' := 103) (lv' := [(4, .int r4), (0, .ref a0), (1, .int x1), (2, .int x2), (3, .int x3)]) (st' := [.int x2, .ref (q_ref σ (q_ref σ a0 0) 2), .int r5]) (h' := h4) 4 rfl ⟨⟨ta0, q_tn k1⟩, ⟨k1, q_tn k2⟩, trivial⟩ ?_
            obtain ⟨r6, e6, hf⟩ := q_bd hf
            refine v_callS C0 cokX4_sell rfl (rest := [.int r5]) (ctX4_at (q_ref σ (q_ref σ a0 0) 2) x2 k2 e6) calX4_at lkX4_105 inX4_at dnX4_at rfl rfl ⟨by decide, by decide⟩ (Nat.le_of_ble_eq_true rfl) (Nat.le_refl _) (Nat.le_refl _) ?_
            refine v_icmp_le C0 cokX4_sell rfl 114 (by decide) hf (fun _ hf => ?_) (fun _ hf => ?_)
            · refine v_pick [1, 2, 3, 4] rfl ?_
              exact n114 h4 x1 x2 x3 hf
            · refine v_pick [1, 4, 0] rfl ?_
              exact n109 h4 x3 r4 hf
          · refine v_pick [1, 2, 3, 4] rfl ?_
            exact n114 h4 x1 x2 x3 hf
  refine v_run C0 tbX4 cokX4_sell (pc' := 8) (lv' := [(0, .ref a0)]) (st' := [.ref (q_ref σ a0 0), .ref (q_ref σ a0 8)]) (h' := h) 4 rfl ⟨⟨ta0, q_tn k0⟩, ⟨ta0, q_tn k1⟩, trivial⟩ ?_
  obtain ⟨h1, e1, hf⟩ := q_bd hf
  refine v_callV C0 cokX4_sell rfl (rest := []) (ctX0_load (q_ref σ a0 8) (q_ref σ a0 0) k0 k1 e1) calX0_load lkX4_184 inX0_load dnX0_load (ci := 0) ⟨rfl, by decide⟩ k0 rfl rfl ⟨by decide, by decide⟩ (Nat.le_of_ble_eq_true rfl) (Nat.le_refl _) (Nat.le_refl _) ?_
  refine v_run C0 tbX4 cokX4_sell (pc' := 18) (lv' := [(3, .int (0 : Int32)), (2, .int (-4 : Int32)), (1, .int (-1 : Int32)), (0, .ref a0)]) (st' := []) (h' := h1) 6 rfl trivial ?_
  obtain ⟨o2, eo2, hf⟩ := q_bd hf
  refine v_pick [3, 2, 1, 0] rfl ?_
  refine n18 o2 ((-1 : Int32), (-4 : Int32), (0 : Int32), h1) eo2 ?_
  refine v_run C0 tbX4 cokX4_sell (pc' := 121) (lv' := [(2, .int o2.1)]) (st' := [.int o2.1]) (h' := o2.2) 1 rfl trivial ?_
  obtain ⟨rfl, rfl⟩ := Prod.mk.inj (Option.some.inj hf)
  exact v_iret C0 cokX4_sell hr hlk rfl
-- BackByNoonOnMonday.shines()I
noncomputable def fX4_shines_48 (σ : q_St) (h : q_Hp) (a0 : Nat) (x2 : Int32) (s0 : Int32) (s1 : Int32) : Option ((Int32 × Int32) ⊕ Int32) := some (Sum.inl ((s1 ||| s0), (x2 + (1 : Int32))))
noncomputable def fX4_shines_4 (σ : q_St) (h : q_Hp) (a0 : Nat) (x1 : Int32) (x2 : Int32) : Option ((Int32 × Int32) ⊕ Int32) := (if (q_int h (q_ref σ a0 0) 11) ≤ x2 then some (Sum.inr x1) else ((fX4_at σ h (q_ref σ (q_ref σ a0 0) 2) x2).bind fun r2 => ((fX2_kindOf σ h (q_ref σ a0 0) x2).bind fun r3 => q_gu ((q_tag σ r3 = 4)) ((if r2 ≤ (q_int h r3 5) then fX4_shines_48 σ h a0 x2 (0 : Int32) x1 else fX4_shines_48 σ h a0 x2 ((1 : Int32) <<< (x2 &&& 31)) x1)))))
noncomputable def fX4_shines (σ : q_St) (h : q_Hp) (a0 : Nat) : Option Int32 := q_gu ((q_tag σ (q_ref σ a0 0) = 3) ∧ (q_tag σ (q_ref σ (q_ref σ a0 0) 2) = 7)) ((q_loop (fun s => fX4_shines_4 σ h a0 s.1 s.2) q_N ((0 : Int32), (0 : Int32))).bind fun o1 => some o1)
def cdX4_shines : q_Cd := [(0, .iconst 0), (1, .istore_n 1), (2, .iconst 0), (3, .istore_n 2), (4, .iload_n 2), (5, .aload_n 0), (6, .getfield 12), (9, .getfield 244), (12, .if_icmp .ge 44), (15, .iload_n 1), (16, .aload_n 0), (17, .getfield 12), (20, .getfield 109), (23, .iload_n 2), (24, .invokestatic 105), (27, .aload_n 0), (28, .getfield 12), (31, .iload_n 2), (32, .invokevirtual 92), (35, .getfield 124), (38, .if_icmp .le 9), (41, .iconst 1), (42, .iload_n 2), (43, .ishl), (44, .goto 4), (47, .iconst 0), (48, .ior), (49, .istore_n 1), (50, .iinc 2 1), (53, .goto (-49)), (56, .iload_n 1), (57, .ireturn)]
set_option maxRecDepth 100000 in
theorem cokX4_shines : q_cok cX4_shines cdX4_shines := by unfold q_cok; decide +kernel
set_option maxRecDepth 100000 in
set_option maxHeartbeats 4000000 in
theorem ctX4_shines {l : Launch} {D : va_G} {cy : Nat → Nat} {b0 : Nat} {σ : q_St} {h : q_Hp} (a0 : Nat) {r : Int32} (ta0 : q_tag σ a0 = 5) (hf : fX4_shines σ h a0 = some r) : q_M l yX4_shines cX4_shines 3 (some .int) 1 22 0 0 D cy b0 σ h [.ref a0] (some (.int r)) σ h := by
  unfold fX4_shines at hf
  obtain ⟨⟨k0, k1⟩, hf⟩ := q_gu_o hf
  refine q_enter (by decide) (Nat.le_of_ble_eq_true rfl) ?_
  intro p e s m args below meth c C0 hr hlk hnm
  replace C0 : VC p { frames := 1, cells := 0, slots := 0, locals := 22 } s m args meth c D cy b0 3 0 0 RX4 cX4_shines := C0
  have n4 : ∀ (o : Int32) (s1 : (Int32 × Int32)), q_loop (fun s => fX4_shines_4 σ h a0 s.1 s.2) q_N s1 = some o → V p l e { frames := 1, cells := 0, slots := 0, locals := 22 } s m args below meth c (MQ below (q_Qc D cy b0 (some (.int r)) σ h) args s 0 0 (fun q => b0 ≤ q)) D cy b0 3 0 0 0 0 σ h 56 [(1, .int o)] [] → V p l e { frames := 1, cells := 0, slots := 0, locals := 22 } s m args below meth c (MQ below (q_Qc D cy b0 (some (.int r)) σ h) args s 0 0 (fun q => b0 ≤ q)) D cy b0 3 0 0 0 0 σ h 4 [(0, .ref a0), (1, .int s1.1), (2, .int s1.2)] [] := by
    intro o s1 ho kx1
    refine q_loop_V (P := fun s0 => V p l e { frames := 1, cells := 0, slots := 0, locals := 22 } s m args below meth c (MQ below (q_Qc D cy b0 (some (.int r)) σ h) args s 0 0 (fun q => b0 ≤ q)) D cy b0 3 0 0 0 0 σ h 4 [(0, .ref a0), (1, .int s0.1), (2, .int s0.2)] []) (o := o) ?_ q_N s1 ho
    intro s2 z1 hf kb1 kr1
    obtain ⟨x1, x2⟩ := s2
    replace hf : fX4_shines_4 σ h a0 x1 x2 = some z1 := hf
    unfold fX4_shines_4 at hf
    show V p l e { frames := 1, cells := 0, slots := 0, locals := 22 } s m args below meth c (MQ below (q_Qc D cy b0 (some (.int r)) σ h) args s 0 0 (fun q => b0 ≤ q)) D cy b0 3 0 0 0 0 σ h 4 [(0, .ref a0), (1, .int x1), (2, .int x2)] []
    have n48 : ∀ (x2 : Int32) (s0 : Int32) (s1 : Int32), fX4_shines_48 σ h a0 x2 s0 s1 = some z1 → V p l e { frames := 1, cells := 0, slots := 0, locals := 22 } s m args below meth c (MQ below (q_Qc D cy b0 (some (.int r)) σ h) args s 0 0 (fun q => b0 ≤ q)) D cy b0 3 0 0 0 0 σ h 48 [(0, .ref a0), (2, .int x2)] [.int s0, .int s1] := by
      intro x2 s0 s1 hf
      unfold fX4_shines_48 at hf
      refine v_run C0 tbX4 cokX4_shines (pc' := 4) (lv' := [(2, .int (x2 + (1 : Int32))), (1, .int (s1 ||| s0)), (0, .ref a0)]) (st' := []) (h' := h) 4 rfl trivial ?_
      obtain rfl := Option.some.inj hf
      refine v_pick [2, 1, 0] rfl ?_
      exact kb1 _ rfl
    refine v_run C0 tbX4 cokX4_shines (pc' := 12) (lv' := [(0, .ref a0), (1, .int x1), (2, .int x2)]) (st' := [.int (q_int h (q_ref σ a0 0) 11), .int x2]) (h' := h) 4 rfl ⟨⟨ta0, q_tn k0⟩, k0, trivial⟩ ?_
    refine v_icmp_ge C0 cokX4_shines rfl 56 (by decide) hf (fun _ hf => ?_) (fun _ hf => ?_)
    · obtain rfl := Option.some.inj hf
      refine v_pick [1] rfl ?_
      have hx := kr1 _ rfl
      subst hx
      exact kx1
    · refine v_run C0 tbX4 cokX4_shines (pc' := 24) (lv' := [(0, .ref a0), (1, .int x1), (2, .int x2)]) (st' := [.int x2, .ref (q_ref σ (q_ref σ a0 0) 2), .int x1]) (h' := h) 5 rfl ⟨⟨ta0, q_tn k0⟩, ⟨k0, q_tn k1⟩, trivial⟩ ?_
      obtain ⟨r2, e2, hf⟩ := q_bd hf
      refine v_callS C0 cokX4_shines rfl (rest := [.int x1]) (ctX4_at (q_ref σ (q_ref σ a0 0) 2) x2 k1 e2) calX4_at lkX4_105 inX4_at dnX4_at rfl rfl ⟨by decide, by decide⟩ (Nat.le_of_ble_eq_true rfl) (Nat.le_refl _) (Nat.le_refl _) ?_
      refine v_run C0 tbX4 cokX4_shines (pc' := 32) (lv' := [(0, .ref a0), (1, .int x1), (2, .int x2)]) (st' := [.int x2, .ref (q_ref σ a0 0), .int r2, .int x1]) (h' := h) 3 rfl ⟨⟨ta0, q_tn k0⟩, trivial⟩ ?_
      obtain ⟨r3, e3, hf⟩ := q_bd hf
      refine v_callV C0 cokX4_shines rfl (rest := [.int r2, .int x1]) (ctX2_kindOf (q_ref σ a0 0) x2 k0 e3) calX2_kindOf lkX4_92 inX2_kindOf dnX2_kindOf (ci := 2) ⟨rfl, by decide⟩ k0 rfl rfl ⟨by decide, by decide⟩ (Nat.le_of_ble_eq_true rfl) (Nat.le_refl _) (Nat.le_refl _) ?_
      obtain ⟨g4, hf⟩ := q_gu_o hf
      refine v_run C0 tbX4 cokX4_shines (pc' := 38) (lv' := [(0, .ref a0), (1, .int x1), (2, .int x2)]) (st' := [.int (q_int h r3 5), .int r2, .int x1]) (h' := h) 1 rfl ⟨g4, trivial⟩ ?_
      refine v_icmp_le C0 cokX4_shines rfl 47 (by decide) hf (fun _ hf => ?_) (fun _ hf => ?_)
      · refine v_run C0 tbX4 cokX4_shines (pc' := 48) (lv' := [(0, .ref a0), (1, .int x1), (2, .int x2)]) (st' := [.int (0 : Int32), .int x1]) (h' := h) 1 rfl trivial ?_
        refine v_pick [0, 2] rfl ?_
        exact n48 x2 (0 : Int32) x1 hf
      · refine v_run C0 tbX4 cokX4_shines (pc' := 48) (lv' := [(0, .ref a0), (1, .int x1), (2, .int x2)]) (st' := [.int ((1 : Int32) <<< (x2 &&& 31)), .int x1]) (h' := h) 4 rfl trivial ?_
        refine v_pick [0, 2] rfl ?_
        exact n48 x2 ((1 : Int32) <<< (x2 &&& 31)) x1 hf
  refine v_run C0 tbX4 cokX4_shines (pc' := 4) (lv' := [(2, .int (0 : Int32)), (1, .int (0 : Int32)), (0, .ref a0)]) (st' := []) (h' := h) 4 rfl trivial ?_
  obtain ⟨o1, eo1, hf⟩ := q_bd hf
  refine v_pick [2, 1, 0] rfl ?_
  refine n4 o1 ((0 : Int32), (0 : Int32)) eo1 ?_
  refine v_run C0 tbX4 cokX4_shines (pc' := 57) (lv' := [(1, .int o1)]) (st' := [.int o1]) (h' := h) 1 rfl trivial ?_
  obtain rfl := Option.some.inj hf
  exact v_iret C0 cokX4_shines hr hlk rfl
-- BackByNoonOnMonday.readHours(LBackByNoonOnMonday$Shelf;)Z
noncomputable def fX4_readHours_91 (σ : q_St) (h : q_Hp) (a0 : Nat) (a1 : Nat) (x2 : Int32) : Option ((Int32 × q_Hp) ⊕ (q_Hp ⊕ (Int32 × q_Hp))) := some (Sum.inl ((x2 + (1 : Int32)), h))
noncomputable def fX4_readHours_50 (σ : q_St) (h : q_Hp) (a0 : Nat) (a1 : Nat) (x2 : Int32) (s0 : Int32) : Option ((Int32 × q_Hp) ⊕ (q_Hp ⊕ (Int32 × q_Hp))) := ((fX1_least σ h a1).bind fun r5 => (if s0 = r5 then q_gu ((vp_in x2 (q_len σ (q_ref σ a0 10)))) (fX4_readHours_91 σ (q_si h (q_ref σ a0 10) (Int32.toNatClampNeg x2) (-1 : Int32)) a0 a1 x2) else ((fX4_isIn σ h s0 (0 : Int32) (99 : Int32)).bind fun r6 => (if r6 = 0 then some (Sum.inr (Sum.inr ((0 : Int32), h))) else q_gu ((vp_in x2 (q_len σ (q_ref σ a0 10)))) (fX4_readHours_91 σ (q_si h (q_ref σ a0 10) (Int32.toNatClampNeg x2) s0) a0 a1 x2)))))
noncomputable def fX4_readHours_18 (σ : q_St) (a0 : Nat) (a1 : Nat) (x2 : Int32) (h : q_Hp) : Option ((Int32 × q_Hp) ⊕ (q_Hp ⊕ (Int32 × q_Hp))) := (if (Int32.ofNat (q_len σ (q_ref σ a0 10))) ≤ x2 then some (Sum.inr (Sum.inl h)) else (if (q_int h a1 4) ≤ x2 then ((fX1_least σ h a1).bind fun r3 => fX4_readHours_50 σ h a0 a1 x2 r3) else ((fX4_at σ h (q_ref σ a1 0) x2).bind fun r4 => fX4_readHours_50 σ h a0 a1 x2 r4)))
noncomputable def fX4_readHours (σ : q_St) (h : q_Hp) (a0 : Nat) (a1 : Nat) : Option (Int32 × q_Hp) := q_gu ((q_tag σ (q_ref σ a0 0) = 3) ∧ (q_tag σ (q_ref σ a0 10) = 7) ∧ (q_tag σ (q_ref σ a1 0) = 7)) ((if (q_int h a1 4) ≤ (q_int h (q_ref σ a0 0) 11) then (q_loop (fun s => fX4_readHours_18 σ a0 a1 s.1 s.2) q_N ((0 : Int32), h)).bind fun o1 => q_el o1 fun w2 => some ((1 : Int32), w2) else some ((0 : Int32), h)))
def cdX4_readHours : q_Cd := [(0, .aload_n 1), (1, .getfield 292), (4, .aload_n 0), (5, .getfield 12), (8, .getfield 244), (11, .if_icmp .le 5), (14, .iconst 0), (15, .ireturn), (16, .iconst 0), (17, .istore_n 2), (18, .iload_n 2), (19, .aload_n 0), (20, .getfield 61), (23, .arraylength), (24, .if_icmp .ge 73), (27, .iload_n 2), (28, .aload_n 1), (29, .getfield 292), (32, .if_icmp .ge 14), (35, .aload_n 1), (36, .getfield 295), (39, .iload_n 2), (40, .invokestatic 105), (43, .goto 7), (46, .aload_n 1), (47, .invokevirtual 298), (50, .istore_n 3), (51, .iload_n 3), (52, .aload_n 1), (53, .invokevirtual 298), (56, .if_icmp .ne 13), (59, .aload_n 0), (60, .getfield 61), (63, .iload_n 2), (64, .iconst (-1)), (65, .iastore), (66, .goto 25), (69, .iload_n 3), (70, .iconst 0), (71, .bipush 99), (73, .invokestatic 148), (76, .ifCond .eq 13), (79, .aload_n 0), (80, .getfield 61), (83, .iload_n 2), (84, .iload_n 3), (85, .iastore), (86, .goto 5), (89, .iconst 0), (90, .ireturn), (91, .iinc 2 1), (94, .goto (-76)), (97, .iconst 1), (98, .ireturn)]
set_option maxRecDepth 100000 in
theorem cokX4_readHours : q_cok cX4_readHours cdX4_readHours := by unfold q_cok; decide +kernel
set_option maxRecDepth 100000 in
set_option maxHeartbeats 4000000 in
theorem ctX4_readHours {l : Launch} {D : va_G} {cy : Nat → Nat} {b0 : Nat} {σ : q_St} {h : q_Hp} (a0 : Nat) (a1 : Nat) {r : Int32} {h' : q_Hp} (ta0 : q_tag σ a0 = 5) (ta1 : q_tag σ a1 = 2) (hf : fX4_readHours σ h a0 a1 = some (r, h')) : q_M l yX4_readHours cX4_readHours 4 (some .boolean) 1 22 0 0 D cy b0 σ h [.ref a0, .ref a1] (some (.int r)) σ h' := by
  unfold fX4_readHours at hf
  obtain ⟨⟨k0, k1, k2⟩, hf⟩ := q_gu_o hf
  refine q_enter (by decide) (Nat.le_of_ble_eq_true rfl) ?_
  intro p e s m args below meth c C0 hr hlk hnm
  replace C0 : VC p { frames := 1, cells := 0, slots := 0, locals := 22 } s m args meth c D cy b0 4 0 0 RX4 cX4_readHours := C0
  have n18 : ∀ (o : (q_Hp ⊕ (Int32 × q_Hp))) (s1 : (Int32 × q_Hp)), q_loop (fun s => fX4_readHours_18 σ a0 a1 s.1 s.2) q_N s1 = some o → (∀ w0 : q_Hp, Sum.inl w0 = o → V p l e { frames := 1, cells := 0, slots := 0, locals := 22 } s m args below meth c (MQ below (q_Qc D cy b0 (some (.int r)) σ h') args s 0 0 (fun q => b0 ≤ q)) D cy b0 4 0 0 0 0 σ w0 97 [] []) → (∀ r0 : (Int32 × q_Hp), Sum.inr r0 = o → (some r0 : Option (Int32 × q_Hp)) = some (r, h')) → V p l e { frames := 1, cells := 0, slots := 0, locals := 22 } s m args below meth c (MQ below (q_Qc D cy b0 (some (.int r)) σ h') args s 0 0 (fun q => b0 ≤ q)) D cy b0 4 0 0 0 0 σ s1.2 18 [(0, .ref a0), (1, .ref a1), (2, .int s1.1)] [] := by
    intro o s1 ho kx1 ke1
    refine q_loop_V (P := fun s0 => V p l e { frames := 1, cells := 0, slots := 0, locals := 22 } s m args below meth c (MQ below (q_Qc D cy b0 (some (.int r)) σ h') args s 0 0 (fun q => b0 ≤ q)) D cy b0 4 0 0 0 0 σ s0.2 18 [(0, .ref a0), (1, .ref a1), (2, .int s0.1)] []) (o := o) ?_ q_N s1 ho
    intro s2 z1 hf kb1 kr1
    obtain ⟨x2, h⟩ := s2
    replace hf : fX4_readHours_18 σ a0 a1 x2 h = some z1 := hf
    unfold fX4_readHours_18 at hf
    show V p l e { frames := 1, cells := 0, slots := 0, locals := 22 } s m args below meth c (MQ below (q_Qc D cy b0 (some (.int r)) σ h') args s 0 0 (fun q => b0 ≤ q)) D cy b0 4 0 0 0 0 σ h 18 [(0, .ref a0), (1, .ref a1), (2, .int x2)] []
    have n91 : ∀ (h : q_Hp) (x2 : Int32), fX4_readHours_91 σ h a0 a1 x2 = some z1 → V p l e { frames := 1, cells := 0, slots := 0, locals := 22 } s m args below meth c (MQ below (q_Qc D cy b0 (some (.int r)) σ h') args s 0 0 (fun q => b0 ≤ q)) D cy b0 4 0 0 0 0 σ h 91 [(0, .ref a0), (1, .ref a1), (2, .int x2)] [] := by
      intro h x2 hf
      unfold fX4_readHours_91 at hf
      refine v_run C0 tbX4 cokX4_readHours (pc' := 18) (lv' := [(2, .int (x2 + (1 : Int32))), (0, .ref a0), (1, .ref a1)]) (st' := []) (h' := h) 2 rfl trivial ?_
      obtain rfl := Option.some.inj hf
      refine v_pick [1, 2, 0] rfl ?_
      exact kb1 _ rfl
    have n50 : ∀ (h : q_Hp) (x2 : Int32) (s0 : Int32), fX4_readHours_50 σ h a0 a1 x2 s0 = some z1 → V p l e { frames := 1, cells := 0, slots := 0, locals := 22 } s m args below meth c (MQ below (q_Qc D cy b0 (some (.int r)) σ h') args s 0 0 (fun q => b0 ≤ q)) D cy b0 4 0 0 0 0 σ h 50 [(0, .ref a0), (1, .ref a1), (2, .int x2)] [.int s0] := by
      intro h x2 s0 hf
      unfold fX4_readHours_50 at hf
      refine v_run C0 tbX4 cokX4_readHours (pc' := 53) (lv' := [(3, .int s0), (0, .ref a0), (1, .ref a1), (2, .int x2)]) (st' := [.ref a1, .int s0]) (h' := h) 3 rfl trivial ?_
      obtain ⟨r5, e5, hf⟩ := q_bd hf
      refine v_callV C0 cokX4_readHours rfl (rest := [.int s0]) (ctX1_least a1 ta1 e5) calX1_least lkX4_298 inX1_least dnX1_least (ci := 1) ⟨rfl, by decide⟩ ta1 rfl rfl ⟨by decide, by decide⟩ (Nat.le_of_ble_eq_true rfl) (Nat.le_refl _) (Nat.le_refl _) ?_
      refine v_icmp_ne C0 cokX4_readHours rfl 69 (by decide) hf (fun _ hf => ?_) (fun _ hf => ?_)
      · obtain ⟨g8, hf⟩ := q_gu_o hf
        refine v_run C0 tbX4 cokX4_readHours (pc' := 91) (lv' := [(3, .int s0), (0, .ref a0), (1, .ref a1), (2, .int x2)]) (st' := []) (h' := (q_si h (q_ref σ a0 10) (Int32.toNatClampNeg x2) (-1 : Int32))) 6 rfl ⟨⟨ta0, q_tn k1⟩, ⟨k1, g8⟩, trivial⟩ ?_
        refine v_pick [1, 2, 3] rfl ?_
        exact n91 (q_si h (q_ref σ a0 10) (Int32.toNatClampNeg x2) (-1 : Int32)) x2 hf
      · refine v_run C0 tbX4 cokX4_readHours (pc' := 73) (lv' := [(3, .int s0), (0, .ref a0), (1, .ref a1), (2, .int x2)]) (st' := [.int (99 : Int32), .int (0 : Int32), .int s0]) (h' := h) 3 rfl trivial ?_
        obtain ⟨r6, e6, hf⟩ := q_bd hf
        refine v_callS C0 cokX4_readHours rfl (rest := []) (ctX4_isIn s0 (0 : Int32) (99 : Int32) e6) calX4_isIn lkX4_148 inX4_isIn dnX4_isIn rfl rfl ⟨by decide, by decide⟩ (Nat.le_of_ble_eq_true rfl) (Nat.le_refl _) (Nat.le_refl _) ?_
        refine v_if_eq C0 cokX4_readHours rfl 89 (by decide) hf (fun _ hf => ?_) (fun _ hf => ?_)
        · refine v_run C0 tbX4 cokX4_readHours (pc' := 90) (lv' := [(3, .int s0), (0, .ref a0), (1, .ref a1), (2, .int x2)]) (st' := [.int (0 : Int32)]) (h' := h) 1 rfl trivial ?_
          obtain rfl := Option.some.inj hf
          have hf := ke1 _ (kr1 _ rfl)
          obtain ⟨rfl, rfl⟩ := Prod.mk.inj (Option.some.inj hf)
          exact v_zret C0 cokX4_readHours hr hlk rfl (Or.inl rfl)
        · obtain ⟨g7, hf⟩ := q_gu_o hf
          refine v_run C0 tbX4 cokX4_readHours (pc' := 91) (lv' := [(3, .int s0), (0, .ref a0), (1, .ref a1), (2, .int x2)]) (st' := []) (h' := (q_si h (q_ref σ a0 10) (Int32.toNatClampNeg x2) s0)) 6 rfl ⟨⟨ta0, q_tn k1⟩, ⟨k1, g7⟩, trivial⟩ ?_
          refine v_pick [1, 2, 3] rfl ?_
          exact n91 (q_si h (q_ref σ a0 10) (Int32.toNatClampNeg x2) s0) x2 hf
    refine v_run C0 tbX4 cokX4_readHours (pc' := 24) (lv' := [(0, .ref a0), (1, .ref a1), (2, .int x2)]) (st' := [.int (Int32.ofNat (q_len σ (q_ref σ a0 10))), .int x2]) (h' := h) 4 rfl ⟨⟨ta0, q_tn k1⟩, (Or.inl k1), trivial⟩ ?_
    refine v_icmp_ge C0 cokX4_readHours rfl 97 (by decide) hf (fun _ hf => ?_) (fun _ hf => ?_)
    · obtain rfl := Option.some.inj hf
      refine v_pick [] rfl ?_
      exact kx1 _ (kr1 _ rfl)
    · refine v_run C0 tbX4 cokX4_readHours (pc' := 32) (lv' := [(0, .ref a0), (1, .ref a1), (2, .int x2)]) (st' := [.int (q_int h a1 4), .int x2]) (h' := h) 3 rfl ⟨ta1, trivial⟩ ?_
      refine v_icmp_ge C0 cokX4_readHours rfl 46 (by decide) hf (fun _ hf => ?_) (fun _ hf => ?_)
      · refine v_run C0 tbX4 cokX4_readHours (pc' := 47) (lv' := [(0, .ref a0), (1, .ref a1), (2, .int x2)]) (st' := [.ref a1]) (h' := h) 1 rfl trivial ?_
        obtain ⟨r3, e3, hf⟩ := q_bd hf
        refine v_callV C0 cokX4_readHours rfl (rest := []) (ctX1_least a1 ta1 e3) calX1_least lkX4_298 inX1_least dnX1_least (ci := 1) ⟨rfl, by decide⟩ ta1 rfl rfl ⟨by decide, by decide⟩ (Nat.le_of_ble_eq_true rfl) (Nat.le_refl _) (Nat.le_refl _) ?_
        refine v_pick [0, 1, 2] rfl ?_
        exact n50 h x2 r3 hf
      · refine v_run C0 tbX4 cokX4_readHours (pc' := 40) (lv' := [(0, .ref a0), (1, .ref a1), (2, .int x2)]) (st' := [.int x2, .ref (q_ref σ a1 0)]) (h' := h) 3 rfl ⟨⟨ta1, q_tn k2⟩, trivial⟩ ?_
        obtain ⟨r4, e4, hf⟩ := q_bd hf
        refine v_callS C0 cokX4_readHours rfl (rest := []) (ctX4_at (q_ref σ a1 0) x2 k2 e4) calX4_at lkX4_105 inX4_at dnX4_at rfl rfl ⟨by decide, by decide⟩ (Nat.le_of_ble_eq_true rfl) (Nat.le_refl _) (Nat.le_refl _) ?_
        refine v_run C0 tbX4 cokX4_readHours (pc' := 50) (lv' := [(0, .ref a0), (1, .ref a1), (2, .int x2)]) (st' := [.int r4]) (h' := h) 1 rfl trivial ?_
        refine v_pick [0, 1, 2] rfl ?_
        exact n50 h x2 r4 hf
  refine v_run C0 tbX4 cokX4_readHours (pc' := 11) (lv' := [(0, .ref a0), (1, .ref a1)]) (st' := [.int (q_int h (q_ref σ a0 0) 11), .int (q_int h a1 4)]) (h' := h) 5 rfl ⟨ta1, ⟨ta0, q_tn k0⟩, k0, trivial⟩ ?_
  refine v_icmp_le C0 cokX4_readHours rfl 16 (by decide) hf (fun _ hf => ?_) (fun _ hf => ?_)
  · refine v_run C0 tbX4 cokX4_readHours (pc' := 18) (lv' := [(2, .int (0 : Int32)), (0, .ref a0), (1, .ref a1)]) (st' := []) (h' := h) 2 rfl trivial ?_
    obtain ⟨o1, eo1, hf⟩ := q_bd hf
    refine v_pick [1, 2, 0] rfl ?_
    refine n18 o1 ((0 : Int32), h) eo1 (fun w2 hx => ?_) (fun r0 hx => ?_)
    · rw [← hx] at hf
      replace hf := q_el_l hf
      refine v_run C0 tbX4 cokX4_readHours (pc' := 98) (lv' := []) (st' := [.int (1 : Int32)]) (h' := w2) 1 rfl trivial ?_
      obtain ⟨rfl, rfl⟩ := Prod.mk.inj (Option.some.inj hf)
      exact v_zret C0 cokX4_readHours hr hlk rfl (Or.inr rfl)
    · rw [← hx] at hf
      exact hf
  · refine v_run C0 tbX4 cokX4_readHours (pc' := 15) (lv' := [(0, .ref a0), (1, .ref a1)]) (st' := [.int (0 : Int32)]) (h' := h) 1 rfl trivial ?_
    obtain ⟨rfl, rfl⟩ := Prod.mk.inj (Option.some.inj hf)
    exact v_zret C0 cokX4_readHours hr hlk rfl (Or.inl rfl)
-- BackByNoonOnMonday.orderCleaning()I
noncomputable def fX4_orderCleaning_62 (σ : q_St) (h : q_Hp) (a0 : Nat) (x1 : Int32) (x2 : Int32) (x3 : Int32) : Option ((Int32 × Int32 × q_Hp) ⊕ (Int32 × q_Hp)) := some (Sum.inl (x1, (x3 + (1 : Int32)), h))
noncomputable def fX4_orderCleaning_12 (σ : q_St) (a0 : Nat) (x2 : Int32) (x1 : Int32) (x3 : Int32) (h : q_Hp) : Option ((Int32 × Int32 × q_Hp) ⊕ (Int32 × q_Hp)) := (if (q_int h (q_ref σ a0 0) 11) ≤ x3 then some (Sum.inr (x1, h)) else ((fX4_at σ h (q_ref σ a0 10) x3).bind fun r3 => (if r3 = x2 then ((fX4_at σ h (q_ref σ (q_ref σ a0 0) 3) x3).bind fun r4 => (if r4 = (2 : Int32) then ((fX4_set σ h (q_ref σ a0 11) x1 x3).bind fun h5 => fX4_orderCleaning_62 σ h5 a0 (x1 + (1 : Int32)) x2 x3) else fX4_orderCleaning_62 σ h a0 x1 x2 x3)) else fX4_orderCleaning_62 σ h a0 x1 x2 x3)))
noncomputable def fX4_orderCleaning_4 (σ : q_St) (a0 : Nat) (x1 : Int32) (x2 : Int32) (h : q_Hp) : Option ((Int32 × Int32 × q_Hp) ⊕ (Int32 × q_Hp)) := (if (99 : Int32) < x2 then some (Sum.inr (x1, h)) else (q_loop (fun s => fX4_orderCleaning_12 σ a0 x2 s.1 s.2.1 s.2.2) q_N (x1, (0 : Int32), h)).bind fun o2 => some (Sum.inl (o2.1, (x2 + (1 : Int32)), o2.2)))
noncomputable def fX4_orderCleaning (σ : q_St) (h : q_Hp) (a0 : Nat) : Option (Int32 × q_Hp) := q_gu ((q_tag σ (q_ref σ a0 0) = 3) ∧ (q_tag σ (q_ref σ a0 10) = 7) ∧ (q_tag σ (q_ref σ (q_ref σ a0 0) 3) = 7) ∧ (q_tag σ (q_ref σ a0 11) = 7)) ((q_loop (fun s => fX4_orderCleaning_4 σ a0 s.1 s.2.1 s.2.2) q_N ((0 : Int32), (0 : Int32), h)).bind fun o1 => some (o1.1, o1.2))
def cdX4_orderCleaning : q_Cd := [(0, .iconst 0), (1, .istore_n 1), (2, .iconst 0), (3, .istore_n 2), (4, .iload_n 2), (5, .bipush 99), (7, .if_icmp .gt 67), (10, .iconst 0), (11, .istore_n 3), (12, .iload_n 3), (13, .aload_n 0), (14, .getfield 12), (17, .getfield 244), (20, .if_icmp .ge 48), (23, .aload_n 0), (24, .getfield 61), (27, .iload_n 3), (28, .invokestatic 105), (31, .iload_n 2), (32, .if_icmp .ne 30), (35, .aload_n 0), (36, .getfield 12), (39, .getfield 112), (42, .iload_n 3), (43, .invokestatic 105), (46, .iconst 2), (47, .if_icmp .ne 15), (50, .aload_n 0), (51, .getfield 64), (54, .iload_n 1), (55, .iload_n 3), (56, .invokestatic 335), (59, .iinc 1 1), (62, .iinc 3 1), (65, .goto (-53)), (68, .iinc 2 1), (71, .goto (-67)), (74, .iload_n 1), (75, .ireturn)]
set_option maxRecDepth 100000 in
theorem cokX4_orderCleaning : q_cok cX4_orderCleaning cdX4_orderCleaning := by unfold q_cok; decide +kernel
set_option maxRecDepth 100000 in
set_option maxHeartbeats 4000000 in
theorem ctX4_orderCleaning {l : Launch} {D : va_G} {cy : Nat → Nat} {b0 : Nat} {σ : q_St} {h : q_Hp} (a0 : Nat) {r : Int32} {h' : q_Hp} (ta0 : q_tag σ a0 = 5) (hf : fX4_orderCleaning σ h a0 = some (r, h')) : q_M l yX4_orderCleaning cX4_orderCleaning 4 (some .int) 1 22 0 0 D cy b0 σ h [.ref a0] (some (.int r)) σ h' := by
  unfold fX4_orderCleaning at hf
  obtain ⟨⟨k0, k1, k2, k3⟩, hf⟩ := q_gu_o hf
  refine q_enter (by decide) (Nat.le_of_ble_eq_true rfl) ?_
  intro p e s m args below meth c C0 hr hlk hnm
  replace C0 : VC p { frames := 1, cells := 0, slots := 0, locals := 22 } s m args meth c D cy b0 4 0 0 RX4 cX4_orderCleaning := C0
  have n4 : ∀ (o : (Int32 × q_Hp)) (s1 : (Int32 × Int32 × q_Hp)), q_loop (fun s => fX4_orderCleaning_4 σ a0 s.1 s.2.1 s.2.2) q_N s1 = some o → V p l e { frames := 1, cells := 0, slots := 0, locals := 22 } s m args below meth c (MQ below (q_Qc D cy b0 (some (.int r)) σ h') args s 0 0 (fun q => b0 ≤ q)) D cy b0 4 0 0 0 0 σ o.2 74 [(1, .int o.1)] [] → V p l e { frames := 1, cells := 0, slots := 0, locals := 22 } s m args below meth c (MQ below (q_Qc D cy b0 (some (.int r)) σ h') args s 0 0 (fun q => b0 ≤ q)) D cy b0 4 0 0 0 0 σ s1.2.2 4 [(0, .ref a0), (1, .int s1.1), (2, .int s1.2.1)] [] := by
    intro o s1 ho kx1
    refine q_loop_V (P := fun s0 => V p l e { frames := 1, cells := 0, slots := 0, locals := 22 } s m args below meth c (MQ below (q_Qc D cy b0 (some (.int r)) σ h') args s 0 0 (fun q => b0 ≤ q)) D cy b0 4 0 0 0 0 σ s0.2.2 4 [(0, .ref a0), (1, .int s0.1), (2, .int s0.2.1)] []) (o := o) ?_ q_N s1 ho
    intro s2 z1 hf kb1 kr1
    obtain ⟨x1, x2, h⟩ := s2
    replace hf : fX4_orderCleaning_4 σ a0 x1 x2 h = some z1 := hf
    unfold fX4_orderCleaning_4 at hf
    show V p l e { frames := 1, cells := 0, slots := 0, locals := 22 } s m args below meth c (MQ below (q_Qc D cy b0 (some (.int r)) σ h') args s 0 0 (fun q => b0 ≤ q)) D cy b0 4 0 0 0 0 σ h 4 [(0, .ref a0), (1, .int x1), (2, .int x2)] []
    have n12 : ∀ (x2 : Int32) (o : (Int32 × q_Hp)) (s1 : (Int32 × Int32 × q_Hp)), q_loop (fun s => fX4_orderCleaning_12 σ a0 x2 s.1 s.2.1 s.2.2) q_N s1 = some o → V p l e { frames := 1, cells := 0, slots := 0, locals := 22 } s m args below meth c (MQ below (q_Qc D cy b0 (some (.int r)) σ h') args s 0 0 (fun q => b0 ≤ q)) D cy b0 4 0 0 0 0 σ o.2 68 [(0, .ref a0), (1, .int o.1), (2, .int x2)] [] → V p l e { frames := 1, cells := 0, slots := 0, locals := 22 } s m args below meth c (MQ below (q_Qc D cy b0 (some (.int r)) σ h') args s 0 0 (fun q => b0 ≤ q)) D cy b0 4 0 0 0 0 σ s1.2.2 12 [(0, .ref a0), (1, .int s1.1), (2, .int x2), (3, .int s1.2.1)] [] := by
      intro x2 o s1 ho kx2
      refine q_loop_V (P := fun s0 => V p l e { frames := 1, cells := 0, slots := 0, locals := 22 } s m args below meth c (MQ below (q_Qc D cy b0 (some (.int r)) σ h') args s 0 0 (fun q => b0 ≤ q)) D cy b0 4 0 0 0 0 σ s0.2.2 12 [(0, .ref a0), (1, .int s0.1), (2, .int x2), (3, .int s0.2.1)] []) (o := o) ?_ q_N s1 ho
      intro s2 z2 hf kb2 kr2
      obtain ⟨x1, x3, h⟩ := s2
      replace hf : fX4_orderCleaning_12 σ a0 x2 x1 x3 h = some z2 := hf
      unfold fX4_orderCleaning_12 at hf
      show V p l e { frames := 1, cells := 0, slots := 0, locals := 22 } s m args below meth c (MQ below (q_Qc D cy b0 (some (.int r)) σ h') args s 0 0 (fun q => b0 ≤ q)) D cy b0 4 0 0 0 0 σ h 12 [(0, .ref a0), (1, .int x1), (2, .int x2), (3, .int x3)] []
      have n62 : ∀ (h : q_Hp) (x1 : Int32) (x3 : Int32), fX4_orderCleaning_62 σ h a0 x1 x2 x3 = some z2 → V p l e { frames := 1, cells := 0, slots := 0, locals := 22 } s m args below meth c (MQ below (q_Qc D cy b0 (some (.int r)) σ h') args s 0 0 (fun q => b0 ≤ q)) D cy b0 4 0 0 0 0 σ h 62 [(0, .ref a0), (1, .int x1), (2, .int x2), (3, .int x3)] [] := by
        intro h x1 x3 hf
        unfold fX4_orderCleaning_62 at hf
        refine v_run C0 tbX4 cokX4_orderCleaning (pc' := 12) (lv' := [(3, .int (x3 + (1 : Int32))), (0, .ref a0), (1, .int x1), (2, .int x2)]) (st' := []) (h' := h) 2 rfl trivial ?_
        obtain rfl := Option.some.inj hf
        refine v_pick [1, 2, 3, 0] rfl ?_
        exact kb2 _ rfl
      refine v_run C0 tbX4 cokX4_orderCleaning (pc' := 20) (lv' := [(0, .ref a0), (1, .int x1), (2, .int x2), (3, .int x3)]) (st' := [.int (q_int h (q_ref σ a0 0) 11), .int x3]) (h' := h) 4 rfl ⟨⟨ta0, q_tn k0⟩, k0, trivial⟩ ?_
      refine v_icmp_ge C0 cokX4_orderCleaning rfl 68 (by decide) hf (fun _ hf => ?_) (fun _ hf => ?_)
      · obtain rfl := Option.some.inj hf
        refine v_pick [0, 1, 2] rfl ?_
        have hx := kr2 _ rfl
        subst hx
        exact kx2
      · refine v_run C0 tbX4 cokX4_orderCleaning (pc' := 28) (lv' := [(0, .ref a0), (1, .int x1), (2, .int x2), (3, .int x3)]) (st' := [.int x3, .ref (q_ref σ a0 10)]) (h' := h) 3 rfl ⟨⟨ta0, q_tn k1⟩, trivial⟩ ?_
        obtain ⟨r3, e3, hf⟩ := q_bd hf
        refine v_callS C0 cokX4_orderCleaning rfl (rest := []) (ctX4_at (q_ref σ a0 10) x3 k1 e3) calX4_at lkX4_105 inX4_at dnX4_at rfl rfl ⟨by decide, by decide⟩ (Nat.le_of_ble_eq_true rfl) (Nat.le_refl _) (Nat.le_refl _) ?_
        refine v_run C0 tbX4 cokX4_orderCleaning (pc' := 32) (lv' := [(0, .ref a0), (1, .int x1), (2, .int x2), (3, .int x3)]) (st' := [.int x2, .int r3]) (h' := h) 1 rfl trivial ?_
        refine v_icmp_ne C0 cokX4_orderCleaning rfl 62 (by decide) hf (fun _ hf => ?_) (fun _ hf => ?_)
        · refine v_run C0 tbX4 cokX4_orderCleaning (pc' := 43) (lv' := [(0, .ref a0), (1, .int x1), (2, .int x2), (3, .int x3)]) (st' := [.int x3, .ref (q_ref σ (q_ref σ a0 0) 3)]) (h' := h) 4 rfl ⟨⟨ta0, q_tn k0⟩, ⟨k0, q_tn k2⟩, trivial⟩ ?_
          obtain ⟨r4, e4, hf⟩ := q_bd hf
          refine v_callS C0 cokX4_orderCleaning rfl (rest := []) (ctX4_at (q_ref σ (q_ref σ a0 0) 3) x3 k2 e4) calX4_at lkX4_105 inX4_at dnX4_at rfl rfl ⟨by decide, by decide⟩ (Nat.le_of_ble_eq_true rfl) (Nat.le_refl _) (Nat.le_refl _) ?_
          refine v_run C0 tbX4 cokX4_orderCleaning (pc' := 47) (lv' := [(0, .ref a0), (1, .int x1), (2, .int x2), (3, .int x3)]) (st' := [.int (2 : Int32), .int r4]) (h' := h) 1 rfl trivial ?_
          refine v_icmp_ne C0 cokX4_orderCleaning rfl 62 (by decide) hf (fun _ hf => ?_) (fun _ hf => ?_)
          · refine v_run C0 tbX4 cokX4_orderCleaning (pc' := 56) (lv' := [(0, .ref a0), (1, .int x1), (2, .int x2), (3, .int x3)]) (st' := [.int x3, .int x1, .ref (q_ref σ a0 11)]) (h' := h) 4 rfl ⟨⟨ta0, q_tn k3⟩, trivial⟩ ?_
            obtain ⟨h5, e5, hf⟩ := q_bd hf
            refine v_callS C0 cokX4_orderCleaning rfl (rest := []) (ctX4_set (q_ref σ a0 11) x1 x3 k3 e5) calX4_set lkX4_335 inX4_set dnX4_set rfl rfl ⟨by decide, by decide⟩ (Nat.le_of_ble_eq_true rfl) (Nat.le_refl _) (Nat.le_refl _) ?_
            refine v_run C0 tbX4 cokX4_orderCleaning (pc' := 62) (lv' := [(1, .int (x1 + (1 : Int32))), (0, .ref a0), (2, .int x2), (3, .int x3)]) (st' := []) (h' := h5) 1 rfl trivial ?_
            refine v_pick [1, 0, 2, 3] rfl ?_
            exact n62 h5 (x1 + (1 : Int32)) x3 hf
          · refine v_pick [0, 1, 2, 3] rfl ?_
            exact n62 h x1 x3 hf
        · refine v_pick [0, 1, 2, 3] rfl ?_
          exact n62 h x1 x3 hf
    refine v_run C0 tbX4 cokX4_orderCleaning (pc' := 7) (lv' := [(0, .ref a0), (1, .int x1), (2, .int x2)]) (st' := [.int (99 : Int32), .int x2]) (h' := h) 2 rfl trivial ?_
    refine v_icmp_gt C0 cokX4_orderCleaning rfl 74 (by decide) hf (fun _ hf => ?_) (fun _ hf => ?_)
    · obtain rfl := Option.some.inj hf
      refine v_pick [1] rfl ?_
      have hx := kr1 _ rfl
      subst hx
      exact kx1
    · refine v_run C0 tbX4 cokX4_orderCleaning (pc' := 12) (lv' := [(3, .int (0 : Int32)), (0, .ref a0), (1, .int x1), (2, .int x2)]) (st' := []) (h' := h) 2 rfl trivial ?_
      obtain ⟨o2, eo2, hf⟩ := q_bd hf
      refine v_pick [1, 2, 3, 0] rfl ?_
      refine n12 x2 o2 (x1, (0 : Int32), h) eo2 ?_
      refine v_run C0 tbX4 cokX4_orderCleaning (pc' := 4) (lv' := [(2, .int (x2 + (1 : Int32))), (0, .ref a0), (1, .int o2.1)]) (st' := []) (h' := o2.2) 2 rfl trivial ?_
      obtain rfl := Option.some.inj hf
      refine v_pick [1, 2, 0] rfl ?_
      exact kb1 _ rfl
  refine v_run C0 tbX4 cokX4_orderCleaning (pc' := 4) (lv' := [(2, .int (0 : Int32)), (1, .int (0 : Int32)), (0, .ref a0)]) (st' := []) (h' := h) 4 rfl trivial ?_
  obtain ⟨o1, eo1, hf⟩ := q_bd hf
  refine v_pick [2, 1, 0] rfl ?_
  refine n4 o1 ((0 : Int32), (0 : Int32), h) eo1 ?_
  refine v_run C0 tbX4 cokX4_orderCleaning (pc' := 75) (lv' := [(1, .int o1.1)]) (st' := [.int o1.1]) (h' := o1.2) 1 rfl trivial ?_
  obtain ⟨rfl, rfl⟩ := Prod.mk.inj (Option.some.inj hf)
  exact v_iret C0 cokX4_orderCleaning hr hlk rfl
-- BackByNoonOnMonday.inTime(II)Z
noncomputable def fX4_inTime_67 (σ : q_St) (h : q_Hp) (a0 : Nat) (x1 : Int32) (x2 : Int32) (x3 : Int32) (x4 : Int32) (x5 : Int32) : Option ((Int32 × Int32 × Int32) ⊕ (Int32 ⊕ Int32)) := some (Sum.inl (x3, x4, (x5 + (1 : Int32))))
noncomputable def fX4_inTime_8 (σ : q_St) (h : q_Hp) (a0 : Nat) (x1 : Int32) (x2 : Int32) (x3 : Int32) (x4 : Int32) (x5 : Int32) : Option ((Int32 × Int32 × Int32) ⊕ (Int32 ⊕ Int32)) := (if x2 ≤ x5 then some (Sum.inr (Sum.inl x4)) else ((fX4_at σ h (q_ref σ a0 11) x5).bind fun r4 => ((fX4_hasBit σ h x1 r4).bind fun r5 => (if r5 = 0 then fX4_inTime_67 σ h a0 x1 x2 x3 x4 x5 else ((fX2_kindOf σ h (q_ref σ a0 0) r4).bind fun r6 => q_gu ((q_tag σ r6 = 4)) (((fX4_at σ h (q_ref σ a0 10) r4).bind fun r8 => (if (x3 + (q_int h r6 4)) ≤ r8 then fX4_inTime_67 σ h a0 x1 x2 (x3 + (q_int h r6 4)) (x4 + (1 : Int32)) x5 else some (Sum.inr (Sum.inr (0 : Int32)))))))))))
noncomputable def fX4_inTime (σ : q_St) (h : q_Hp) (a0 : Nat) (x1 : Int32) (x2 : Int32) : Option Int32 := q_gu ((q_tag σ (q_ref σ a0 11) = 7) ∧ (q_tag σ (q_ref σ a0 0) = 3) ∧ (q_tag σ (q_ref σ a0 10) = 7)) ((q_loop (fun s => fX4_inTime_8 σ h a0 x1 x2 s.1 s.2.1 s.2.2) q_N ((0 : Int32), (0 : Int32), (0 : Int32))).bind fun o1 => q_el o1 fun w2 => ((fJ6_bitCount_0f7a4 σ h x1).bind fun r3 => (if w2 = r3 then some (1 : Int32) else some (0 : Int32))))
def cdX4_inTime : q_Cd := [(0, .iconst 0), (1, .istore_n 3), (2, .iconst 0), (3, .istore 4), (5, .iconst 0), (6, .istore 5), (8, .iload 5), (10, .iload_n 2), (11, .if_icmp .ge 62), (14, .aload_n 0), (15, .getfield 64), (18, .iload 5), (20, .invokestatic 105), (23, .istore 6), (25, .iload_n 1), (26, .iload 6), (28, .invokestatic 241), (31, .ifCond .eq 36), (34, .iinc 4 1), (37, .iload_n 3), (38, .aload_n 0), (39, .getfield 12), (42, .iload 6), (44, .invokevirtual 92), (47, .getfield 121), (50, .iadd), (51, .istore_n 3), (52, .iload_n 3), (53, .aload_n 0), (54, .getfield 61), (57, .iload 6), (59, .invokestatic 105), (62, .if_icmp .le 5), (65, .iconst 0), (66, .ireturn), (67, .iinc 5 1), (70, .goto (-62)), (73, .iload 4), (75, .iload_n 1), (76, .invokestatic 217), (79, .if_icmp .ne 7), (82, .iconst 1), (83, .goto 4), (86, .iconst 0), (87, .ireturn)]
set_option maxRecDepth 100000 in
theorem cokX4_inTime : q_cok cX4_inTime cdX4_inTime := by unfold q_cok; decide +kernel
set_option maxRecDepth 100000 in
set_option maxHeartbeats 4000000 in
theorem ctX4_inTime {l : Launch} {D : va_G} {cy : Nat → Nat} {b0 : Nat} {σ : q_St} {h : q_Hp} (a0 : Nat) (x1 : Int32) (x2 : Int32) {r : Int32} (ta0 : q_tag σ a0 = 5) (hf : fX4_inTime σ h a0 x1 x2 = some r) : q_M l yX4_inTime cX4_inTime 7 (some .boolean) 1 22 0 0 D cy b0 σ h [.ref a0, .int x1, .int x2] (some (.int r)) σ h := by
  unfold fX4_inTime at hf
  obtain ⟨⟨k0, k1, k2⟩, hf⟩ := q_gu_o hf
  refine q_enter (by decide) (Nat.le_of_ble_eq_true rfl) ?_
  intro p e s m args below meth c C0 hr hlk hnm
  replace C0 : VC p { frames := 1, cells := 0, slots := 0, locals := 22 } s m args meth c D cy b0 7 0 0 RX4 cX4_inTime := C0
  have n8 : ∀ (o : (Int32 ⊕ Int32)) (s1 : (Int32 × Int32 × Int32)), q_loop (fun s => fX4_inTime_8 σ h a0 x1 x2 s.1 s.2.1 s.2.2) q_N s1 = some o → (∀ w0 : Int32, Sum.inl w0 = o → V p l e { frames := 1, cells := 0, slots := 0, locals := 22 } s m args below meth c (MQ below (q_Qc D cy b0 (some (.int r)) σ h) args s 0 0 (fun q => b0 ≤ q)) D cy b0 7 0 0 0 0 σ h 73 [(1, .int x1), (4, .int w0)] []) → (∀ r0 : Int32, Sum.inr r0 = o → (some r0 : Option Int32) = some r) → V p l e { frames := 1, cells := 0, slots := 0, locals := 22 } s m args below meth c (MQ below (q_Qc D cy b0 (some (.int r)) σ h) args s 0 0 (fun q => b0 ≤ q)) D cy b0 7 0 0 0 0 σ h 8 [(0, .ref a0), (1, .int x1), (2, .int x2), (3, .int s1.1), (4, .int s1.2.1), (5, .int s1.2.2)] [] := by
    intro o s1 ho kx1 ke1
    refine q_loop_V (P := fun s0 => V p l e { frames := 1, cells := 0, slots := 0, locals := 22 } s m args below meth c (MQ below (q_Qc D cy b0 (some (.int r)) σ h) args s 0 0 (fun q => b0 ≤ q)) D cy b0 7 0 0 0 0 σ h 8 [(0, .ref a0), (1, .int x1), (2, .int x2), (3, .int s0.1), (4, .int s0.2.1), (5, .int s0.2.2)] []) (o := o) ?_ q_N s1 ho
    intro s2 z1 hf kb1 kr1
    obtain ⟨x3, x4, x5⟩ := s2
    replace hf : fX4_inTime_8 σ h a0 x1 x2 x3 x4 x5 = some z1 := hf
    unfold fX4_inTime_8 at hf
    show V p l e { frames := 1, cells := 0, slots := 0, locals := 22 } s m args below meth c (MQ below (q_Qc D cy b0 (some (.int r)) σ h) args s 0 0 (fun q => b0 ≤ q)) D cy b0 7 0 0 0 0 σ h 8 [(0, .ref a0), (1, .int x1), (2, .int x2), (3, .int x3), (4, .int x4), (5, .int x5)] []
    have n67 : ∀ (x3 : Int32) (x4 : Int32) (x5 : Int32), fX4_inTime_67 σ h a0 x1 x2 x3 x4 x5 = some z1 → V p l e { frames := 1, cells := 0, slots := 0, locals := 22 } s m args below meth c (MQ below (q_Qc D cy b0 (some (.int r)) σ h) args s 0 0 (fun q => b0 ≤ q)) D cy b0 7 0 0 0 0 σ h 67 [(0, .ref a0), (1, .int x1), (2, .int x2), (3, .int x3), (4, .int x4), (5, .int x5)] [] := by
      intro x3 x4 x5 hf
      unfold fX4_inTime_67 at hf
      refine v_run C0 tbX4 cokX4_inTime (pc' := 8) (lv' := [(5, .int (x5 + (1 : Int32))), (0, .ref a0), (1, .int x1), (2, .int x2), (3, .int x3), (4, .int x4)]) (st' := []) (h' := h) 2 rfl trivial ?_
      obtain rfl := Option.some.inj hf
      refine v_pick [1, 2, 3, 4, 5, 0] rfl ?_
      exact kb1 _ rfl
    refine v_run C0 tbX4 cokX4_inTime (pc' := 11) (lv' := [(0, .ref a0), (1, .int x1), (2, .int x2), (3, .int x3), (4, .int x4), (5, .int x5)]) (st' := [.int x2, .int x5]) (h' := h) 2 rfl trivial ?_
    refine v_icmp_ge C0 cokX4_inTime rfl 73 (by decide) hf (fun _ hf => ?_) (fun _ hf => ?_)
    · obtain rfl := Option.some.inj hf
      refine v_pick [1, 4] rfl ?_
      exact kx1 _ (kr1 _ rfl)
    · refine v_run C0 tbX4 cokX4_inTime (pc' := 20) (lv' := [(0, .ref a0), (1, .int x1), (2, .int x2), (3, .int x3), (4, .int x4), (5, .int x5)]) (st' := [.int x5, .ref (q_ref σ a0 11)]) (h' := h) 3 rfl ⟨⟨ta0, q_tn k0⟩, trivial⟩ ?_
      obtain ⟨r4, e4, hf⟩ := q_bd hf
      refine v_callS C0 cokX4_inTime rfl (rest := []) (ctX4_at (q_ref σ a0 11) x5 k0 e4) calX4_at lkX4_105 inX4_at dnX4_at rfl rfl ⟨by decide, by decide⟩ (Nat.le_of_ble_eq_true rfl) (Nat.le_refl _) (Nat.le_refl _) ?_
      refine v_run C0 tbX4 cokX4_inTime (pc' := 28) (lv' := [(6, .int r4), (0, .ref a0), (1, .int x1), (2, .int x2), (3, .int x3), (4, .int x4), (5, .int x5)]) (st' := [.int r4, .int x1]) (h' := h) 3 rfl trivial ?_
      obtain ⟨r5, e5, hf⟩ := q_bd hf
      refine v_callS C0 cokX4_inTime rfl (rest := []) (ctX4_hasBit x1 r4 e5) calX4_hasBit lkX4_241 inX4_hasBit dnX4_hasBit rfl rfl ⟨by decide, by decide⟩ (Nat.le_of_ble_eq_true rfl) (Nat.le_refl _) (Nat.le_refl _) ?_
      refine v_if_eq C0 cokX4_inTime rfl 67 (by decide) hf (fun _ hf => ?_) (fun _ hf => ?_)
      · refine v_pick [1, 2, 3, 4, 5, 6] rfl ?_
        exact n67 x3 x4 x5 hf
      · refine v_run C0 tbX4 cokX4_inTime (pc' := 44) (lv' := [(4, .int (x4 + (1 : Int32))), (6, .int r4), (0, .ref a0), (1, .int x1), (2, .int x2), (3, .int x3), (5, .int x5)]) (st' := [.int r4, .ref (q_ref σ a0 0), .int x3]) (h' := h) 5 rfl ⟨⟨ta0, q_tn k1⟩, trivial⟩ ?_
        obtain ⟨r6, e6, hf⟩ := q_bd hf
        refine v_callV C0 cokX4_inTime rfl (rest := [.int x3]) (ctX2_kindOf (q_ref σ a0 0) r4 k1 e6) calX2_kindOf lkX4_92 inX2_kindOf dnX2_kindOf (ci := 2) ⟨rfl, by decide⟩ k1 rfl rfl ⟨by decide, by decide⟩ (Nat.le_of_ble_eq_true rfl) (Nat.le_refl _) (Nat.le_refl _) ?_
        obtain ⟨g7, hf⟩ := q_gu_o hf
        refine v_run C0 tbX4 cokX4_inTime (pc' := 59) (lv' := [(3, .int (x3 + (q_int h r6 4))), (4, .int (x4 + (1 : Int32))), (6, .int r4), (0, .ref a0), (1, .int x1), (2, .int x2), (5, .int x5)]) (st' := [.int r4, .ref (q_ref σ a0 10), .int (x3 + (q_int h r6 4))]) (h' := h) 7 rfl ⟨g7, ⟨ta0, q_tn k2⟩, trivial⟩ ?_
        obtain ⟨r8, e8, hf⟩ := q_bd hf
        refine v_callS C0 cokX4_inTime rfl (rest := [.int (x3 + (q_int h r6 4))]) (ctX4_at (q_ref σ a0 10) r4 k2 e8) calX4_at lkX4_105 inX4_at dnX4_at rfl rfl ⟨by decide, by decide⟩ (Nat.le_of_ble_eq_true rfl) (Nat.le_refl _) (Nat.le_refl _) ?_
        refine v_icmp_le C0 cokX4_inTime rfl 67 (by decide) hf (fun _ hf => ?_) (fun _ hf => ?_)
        · refine v_pick [3, 4, 5, 0, 1, 6] rfl ?_
          exact n67 (x3 + (q_int h r6 4)) (x4 + (1 : Int32)) x5 hf
        · refine v_run C0 tbX4 cokX4_inTime (pc' := 66) (lv' := [(3, .int (x3 + (q_int h r6 4))), (4, .int (x4 + (1 : Int32))), (6, .int r4), (0, .ref a0), (1, .int x1), (2, .int x2), (5, .int x5)]) (st' := [.int (0 : Int32)]) (h' := h) 1 rfl trivial ?_
          obtain rfl := Option.some.inj hf
          have hf := ke1 _ (kr1 _ rfl)
          obtain rfl := Option.some.inj hf
          exact v_zret C0 cokX4_inTime hr hlk rfl (Or.inl rfl)
  refine v_run C0 tbX4 cokX4_inTime (pc' := 8) (lv' := [(5, .int (0 : Int32)), (4, .int (0 : Int32)), (3, .int (0 : Int32)), (0, .ref a0), (1, .int x1), (2, .int x2)]) (st' := []) (h' := h) 6 rfl trivial ?_
  obtain ⟨o1, eo1, hf⟩ := q_bd hf
  refine v_pick [3, 4, 5, 2, 1, 0] rfl ?_
  refine n8 o1 ((0 : Int32), (0 : Int32), (0 : Int32)) eo1 (fun w2 hx => ?_) (fun r0 hx => ?_)
  · rw [← hx] at hf
    replace hf := q_el_l hf
    refine v_run C0 tbX4 cokX4_inTime (pc' := 76) (lv' := [(1, .int x1), (4, .int w2)]) (st' := [.int x1, .int w2]) (h' := h) 2 rfl trivial ?_
    obtain ⟨r3, e3, hf⟩ := q_bd hf
    refine v_callS C0 cokX4_inTime rfl (rest := [.int w2]) (ctJ6_bitCount_0f7a4 x1 e3) calJ6_bitCount_0f7a4 lkX4_217 inJ6_bitCount_0f7a4 dnJ6_bitCount_0f7a4 rfl rfl ⟨by decide, by decide⟩ (Nat.le_of_ble_eq_true rfl) (Nat.le_refl _) (Nat.le_refl _) ?_
    refine v_icmp_ne C0 cokX4_inTime rfl 86 (by decide) hf (fun _ hf => ?_) (fun _ hf => ?_)
    · refine v_run C0 tbX4 cokX4_inTime (pc' := 87) (lv' := [(1, .int x1), (4, .int w2)]) (st' := [.int (1 : Int32)]) (h' := h) 2 rfl trivial ?_
      obtain rfl := Option.some.inj hf
      exact v_zret C0 cokX4_inTime hr hlk rfl (Or.inr rfl)
    · refine v_run C0 tbX4 cokX4_inTime (pc' := 87) (lv' := [(1, .int x1), (4, .int w2)]) (st' := [.int (0 : Int32)]) (h' := h) 1 rfl trivial ?_
      obtain rfl := Option.some.inj hf
      exact v_zret C0 cokX4_inTime hr hlk rfl (Or.inl rfl)
  · rw [← hx] at hf
    exact hf
-- BackByNoonOnMonday.mostReady(I)I
noncomputable def fX4_mostReady_33 (σ : q_St) (h : q_Hp) (a0 : Nat) (x1 : Int32) (x2 : Int32) (x3 : Int32) : Option ((Int32 × Int32) ⊕ Int32) := some (Sum.inl (x2, (x3 + (1 : Int32))))
noncomputable def fX4_mostReady_4 (σ : q_St) (h : q_Hp) (a0 : Nat) (x1 : Int32) (x2 : Int32) (x3 : Int32) : Option ((Int32 × Int32) ⊕ Int32) := (if (128 : Int32) ≤ x3 then some (Sum.inr x2) else ((fJ6_bitCount_0f7a4 σ h x3).bind fun r2 => ((fJ6_bitCount_0f7a4 σ h x2).bind fun r3 => (if r2 ≤ r3 then fX4_mostReady_33 σ h a0 x1 x2 x3 else ((fX4_inTime σ h a0 x3 x1).bind fun r4 => (if r4 = 0 then fX4_mostReady_33 σ h a0 x1 x2 x3 else fX4_mostReady_33 σ h a0 x1 x3 x3))))))
noncomputable def fX4_mostReady (σ : q_St) (h : q_Hp) (a0 : Nat) (x1 : Int32) : Option Int32 := (q_loop (fun s => fX4_mostReady_4 σ h a0 x1 s.1 s.2) q_N ((0 : Int32), (1 : Int32))).bind fun o1 => some o1
def cdX4_mostReady : q_Cd := [(0, .iconst 0), (1, .istore_n 2), (2, .iconst 1), (3, .istore_n 3), (4, .iload_n 3), (5, .sipush 128), (8, .if_icmp .ge 31), (11, .iload_n 3), (12, .invokestatic 217), (15, .iload_n 2), (16, .invokestatic 217), (19, .if_icmp .le 14), (22, .aload_n 0), (23, .iload_n 3), (24, .iload_n 1), (25, .invokevirtual 396), (28, .ifCond .eq 5), (31, .iload_n 3), (32, .istore_n 2), (33, .iinc 3 1), (36, .goto (-32)), (39, .iload_n 2), (40, .ireturn)]
set_option maxRecDepth 100000 in
theorem cokX4_mostReady : q_cok cX4_mostReady cdX4_mostReady := by unfold q_cok; decide +kernel
set_option maxRecDepth 100000 in
set_option maxHeartbeats 4000000 in
theorem ctX4_mostReady {l : Launch} {D : va_G} {cy : Nat → Nat} {b0 : Nat} {σ : q_St} {h : q_Hp} (a0 : Nat) (x1 : Int32) {r : Int32} (ta0 : q_tag σ a0 = 5) (hf : fX4_mostReady σ h a0 x1 = some r) : q_M l yX4_mostReady cX4_mostReady 4 (some .int) 2 48 0 0 D cy b0 σ h [.ref a0, .int x1] (some (.int r)) σ h := by
  unfold fX4_mostReady at hf
  refine q_enter (by decide) (Nat.le_of_ble_eq_true rfl) ?_
  intro p e s m args below meth c C0 hr hlk hnm
  replace C0 : VC p { frames := 2, cells := 0, slots := 0, locals := 48 } s m args meth c D cy b0 4 0 0 RX4 cX4_mostReady := C0
  have n4 : ∀ (o : Int32) (s1 : (Int32 × Int32)), q_loop (fun s => fX4_mostReady_4 σ h a0 x1 s.1 s.2) q_N s1 = some o → V p l e { frames := 2, cells := 0, slots := 0, locals := 48 } s m args below meth c (MQ below (q_Qc D cy b0 (some (.int r)) σ h) args s 0 0 (fun q => b0 ≤ q)) D cy b0 4 0 0 0 0 σ h 39 [(2, .int o)] [] → V p l e { frames := 2, cells := 0, slots := 0, locals := 48 } s m args below meth c (MQ below (q_Qc D cy b0 (some (.int r)) σ h) args s 0 0 (fun q => b0 ≤ q)) D cy b0 4 0 0 0 0 σ h 4 [(0, .ref a0), (1, .int x1), (2, .int s1.1), (3, .int s1.2)] [] := by
    intro o s1 ho kx1
    refine q_loop_V (P := fun s0 => V p l e { frames := 2, cells := 0, slots := 0, locals := 48 } s m args below meth c (MQ below (q_Qc D cy b0 (some (.int r)) σ h) args s 0 0 (fun q => b0 ≤ q)) D cy b0 4 0 0 0 0 σ h 4 [(0, .ref a0), (1, .int x1), (2, .int s0.1), (3, .int s0.2)] []) (o := o) ?_ q_N s1 ho
    intro s2 z1 hf kb1 kr1
    obtain ⟨x2, x3⟩ := s2
    replace hf : fX4_mostReady_4 σ h a0 x1 x2 x3 = some z1 := hf
    unfold fX4_mostReady_4 at hf
    show V p l e { frames := 2, cells := 0, slots := 0, locals := 48 } s m args below meth c (MQ below (q_Qc D cy b0 (some (.int r)) σ h) args s 0 0 (fun q => b0 ≤ q)) D cy b0 4 0 0 0 0 σ h 4 [(0, .ref a0), (1, .int x1), (2, .int x2), (3, .int x3)] []
    have n33 : ∀ (x2 : Int32) (x3 : Int32), fX4_mostReady_33 σ h a0 x1 x2 x3 = some z1 → V p l e { frames := 2, cells := 0, slots := 0, locals := 48 } s m args below meth c (MQ below (q_Qc D cy b0 (some (.int r)) σ h) args s 0 0 (fun q => b0 ≤ q)) D cy b0 4 0 0 0 0 σ h 33 [(0, .ref a0), (1, .int x1), (2, .int x2), (3, .int x3)] [] := by
      intro x2 x3 hf
      unfold fX4_mostReady_33 at hf
      refine v_run C0 tbX4 cokX4_mostReady (pc' := 4) (lv' := [(3, .int (x3 + (1 : Int32))), (0, .ref a0), (1, .int x1), (2, .int x2)]) (st' := []) (h' := h) 2 rfl trivial ?_
      obtain rfl := Option.some.inj hf
      refine v_pick [1, 2, 3, 0] rfl ?_
      exact kb1 _ rfl
    refine v_run C0 tbX4 cokX4_mostReady (pc' := 8) (lv' := [(0, .ref a0), (1, .int x1), (2, .int x2), (3, .int x3)]) (st' := [.int (128 : Int32), .int x3]) (h' := h) 2 rfl trivial ?_
    refine v_icmp_ge C0 cokX4_mostReady rfl 39 (by decide) hf (fun _ hf => ?_) (fun _ hf => ?_)
    · obtain rfl := Option.some.inj hf
      refine v_pick [2] rfl ?_
      have hx := kr1 _ rfl
      subst hx
      exact kx1
    · refine v_run C0 tbX4 cokX4_mostReady (pc' := 12) (lv' := [(0, .ref a0), (1, .int x1), (2, .int x2), (3, .int x3)]) (st' := [.int x3]) (h' := h) 1 rfl trivial ?_
      obtain ⟨r2, e2, hf⟩ := q_bd hf
      refine v_callS C0 cokX4_mostReady rfl (rest := []) (ctJ6_bitCount_0f7a4 x3 e2) calJ6_bitCount_0f7a4 lkX4_217 inJ6_bitCount_0f7a4 dnJ6_bitCount_0f7a4 rfl rfl ⟨by decide, by decide⟩ (Nat.le_of_ble_eq_true rfl) (Nat.le_refl _) (Nat.le_refl _) ?_
      refine v_run C0 tbX4 cokX4_mostReady (pc' := 16) (lv' := [(0, .ref a0), (1, .int x1), (2, .int x2), (3, .int x3)]) (st' := [.int x2, .int r2]) (h' := h) 1 rfl trivial ?_
      obtain ⟨r3, e3, hf⟩ := q_bd hf
      refine v_callS C0 cokX4_mostReady rfl (rest := [.int r2]) (ctJ6_bitCount_0f7a4 x2 e3) calJ6_bitCount_0f7a4 lkX4_217 inJ6_bitCount_0f7a4 dnJ6_bitCount_0f7a4 rfl rfl ⟨by decide, by decide⟩ (Nat.le_of_ble_eq_true rfl) (Nat.le_refl _) (Nat.le_refl _) ?_
      refine v_icmp_le C0 cokX4_mostReady rfl 33 (by decide) hf (fun _ hf => ?_) (fun _ hf => ?_)
      · refine v_pick [0, 1, 2, 3] rfl ?_
        exact n33 x2 x3 hf
      · refine v_run C0 tbX4 cokX4_mostReady (pc' := 25) (lv' := [(0, .ref a0), (1, .int x1), (2, .int x2), (3, .int x3)]) (st' := [.int x1, .int x3, .ref a0]) (h' := h) 3 rfl trivial ?_
        obtain ⟨r4, e4, hf⟩ := q_bd hf
        refine v_callV C0 cokX4_mostReady rfl (rest := []) (ctX4_inTime a0 x3 x1 ta0 e4) calX4_inTime lkX4_396 inX4_inTime dnX4_inTime (ci := 4) ⟨rfl, by decide⟩ ta0 rfl rfl ⟨by decide, by decide⟩ (Nat.le_of_ble_eq_true rfl) (Nat.le_refl _) (Nat.le_refl _) ?_
        refine v_if_eq C0 cokX4_mostReady rfl 33 (by decide) hf (fun _ hf => ?_) (fun _ hf => ?_)
        · refine v_pick [0, 1, 2, 3] rfl ?_
          exact n33 x2 x3 hf
        · refine v_run C0 tbX4 cokX4_mostReady (pc' := 33) (lv' := [(2, .int x3), (0, .ref a0), (1, .int x1), (3, .int x3)]) (st' := []) (h' := h) 2 rfl trivial ?_
          refine v_pick [1, 2, 0, 3] rfl ?_
          exact n33 x3 x3 hf
  refine v_run C0 tbX4 cokX4_mostReady (pc' := 4) (lv' := [(3, .int (1 : Int32)), (2, .int (0 : Int32)), (0, .ref a0), (1, .int x1)]) (st' := []) (h' := h) 4 rfl trivial ?_
  obtain ⟨o1, eo1, hf⟩ := q_bd hf
  refine v_pick [2, 3, 1, 0] rfl ?_
  refine n4 o1 ((0 : Int32), (1 : Int32)) eo1 ?_
  refine v_run C0 tbX4 cokX4_mostReady (pc' := 40) (lv' := [(2, .int o1)]) (st' := [.int o1]) (h' := h) 1 rfl trivial ?_
  obtain rfl := Option.some.inj hf
  exact v_iret C0 cokX4_mostReady hr hlk rfl
