-- BackByNoonOnMondayModel.friday(I)I
noncomputable def fX5_friday_143 (σ : q_St) (h : q_Hp) (a0 : Nat) (x1 : Int32) (x2 : Int32) (x4 : Int32) (x5 : Int32) (s0 : Int32) : Option ((Int32 × Int32 × Int32 × q_Hp) ⊕ (Int32 × Int32 × q_Hp)) := some (Sum.inl (x2, s0, (x5 + (-1 : Int32)), h))
noncomputable def fX5_friday_124 (σ : q_St) (h : q_Hp) (a0 : Nat) (x1 : Int32) (x3 : Int32) (x4 : Int32) (x5 : Int32) (x6 : Int32) (s0 : Int32) (s1 : Int32) : Option ((Int32 × Int32 × Int32 × q_Hp) ⊕ (Int32 × Int32 × q_Hp)) := (if x6 = 0 then fX5_friday_143 σ h a0 x1 (s1 + s0) x4 x5 x3 else fX5_friday_143 σ h a0 x1 (s1 + s0) x4 x5 (((10 : Int32) * x4) + x5))
noncomputable def fX5_friday_111 (σ : q_St) (h : q_Hp) (a0 : Nat) (x1 : Int32) (x2 : Int32) (x3 : Int32) (x4 : Int32) (x5 : Int32) (s0 : Int32) : Option ((Int32 × Int32 × Int32 × q_Hp) ⊕ (Int32 × Int32 × q_Hp)) := (if s0 = 0 then fX5_friday_124 σ h a0 x1 x3 x4 x5 s0 (0 : Int32) x2 else fX5_friday_124 σ h a0 x1 x3 x4 x5 s0 (1 : Int32) x2)
noncomputable def fX5_friday_110 (σ : q_St) (h : q_Hp) (a0 : Nat) (x1 : Int32) (x2 : Int32) (x3 : Int32) (x4 : Int32) (x5 : Int32) : Option ((Int32 × Int32 × Int32 × q_Hp) ⊕ (Int32 × Int32 × q_Hp)) := fX5_friday_111 σ h a0 x1 x2 x3 x4 x5 (0 : Int32)
noncomputable def fX5_friday_43 (σ : q_St) (a0 : Nat) (x1 : Int32) (x4 : Int32) (x2 : Int32) (x3 : Int32) (x5 : Int32) (h : q_Hp) : Option ((Int32 × Int32 × Int32 × q_Hp) ⊕ (Int32 × Int32 × q_Hp)) := (if x5 ≤ x4 then some (Sum.inr (x2, x3, h)) else q_gu ((vp_in x4 (q_len σ (q_ref σ a0 12)))) ((if (q_int h (q_ref σ a0 12) (Int32.toNatClampNeg x4)) = (9 : Int32) then fX5_friday_110 σ h a0 x1 x2 x3 x4 x5 else q_gu ((vp_in x5 (q_len σ (q_ref σ a0 12)))) ((if (q_int h (q_ref σ a0 12) (Int32.toNatClampNeg x5)) = (9 : Int32) then fX5_friday_110 σ h a0 x1 x2 x3 x4 x5 else ((fX5_fitsIn σ h a0 (q_int h (q_ref σ a0 12) (Int32.toNatClampNeg x4)) x5).bind fun r6 => (if r6 = 0 then fX5_friday_110 σ h a0 x1 x2 x3 x4 x5 else ((fX5_fitsIn σ h a0 (q_int h (q_ref σ a0 12) (Int32.toNatClampNeg x5)) x4).bind fun r7 => (if r7 = 0 then fX5_friday_110 σ h a0 x1 x2 x3 x4 x5 else fX5_friday_111 σ h a0 x1 x2 x3 x4 x5 (1 : Int32))))))))))
noncomputable def fX5_friday_30 (σ : q_St) (a0 : Nat) (x1 : Int32) (x2 : Int32) (x3 : Int32) (x4 : Int32) (h : q_Hp) : Option ((Int32 × Int32 × Int32 × q_Hp) ⊕ (Int32 × Int32 × q_Hp)) := (if x4 < 0 then some (Sum.inr (x2, x3, h)) else (q_loop (fun s => fX5_friday_43 σ a0 x1 x4 s.1 s.2.1 s.2.2.1 s.2.2.2) q_N (x2, x3, ((q_int h a0 6) - (1 : Int32)), h)).bind fun o3 => some (Sum.inl (o3.1, o3.2.1, (x4 + (-1 : Int32)), o3.2.2)))
noncomputable def fX5_friday (σ : q_St) (h : q_Hp) (a0 : Nat) (x1 : Int32) : Option (Int32 × q_Hp) := q_gu ((q_tag σ (q_ref σ a0 12) = 7)) (((fX5_in σ (q_si h a0 21 (0 : Int32)) (Int32.toInt64 x1) (0 : Int64) (1 : Int64)).bind fun r1 => (if r1 = 0 then some ((-1 : Int32), (q_si h a0 21 (0 : Int32))) else (q_loop (fun s => fX5_friday_30 σ a0 x1 s.1 s.2.1 s.2.2.1 s.2.2.2) q_N ((0 : Int32), (-4 : Int32), ((q_int (q_si h a0 21 (0 : Int32)) a0 6) - (1 : Int32)), (q_si h a0 21 (0 : Int32)))).bind fun o2 => (if x1 = 0 then some (o2.1, o2.2.2) else some (o2.2.1, o2.2.2)))))
def cdX5_friday : q_Cd := [(0, .aload_n 0), (1, .iconst 0), (2, .putfield 89), (5, .iload_n 1), (6, .i2l), (7, .lconst 0), (8, .lconst 1), (9, .invokestatic 96), (12, .ifCond .ne 5), (15, .iconst (-1)), (16, .ireturn), (17, .iconst 0), (18, .istore_n 2), (19, .bipush (-4)), (21, .istore_n 3), (22, .aload_n 0), (23, .getfield 100), (26, .iconst 1), (27, .isub), (28, .istore 4), (30, .iload 4), (32, .ifCond .lt 124), (35, .aload_n 0), (36, .getfield 100), (39, .iconst 1), (40, .isub), (41, .istore 5), (43, .iload 5), (45, .iload 4), (47, .if_icmp .le 103), (50, .aload_n 0), (51, .getfield 40), (54, .iload 4), (56, .iaload), (57, .bipush 9), (59, .if_icmp .eq 51), (62, .aload_n 0), (63, .getfield 40), (66, .iload 5), (68, .iaload), (69, .bipush 9), (71, .if_icmp .eq 39), (74, .aload_n 0), (75, .aload_n 0), (76, .getfield 40), (79, .iload 4), (81, .iaload), (82, .iload 5), (84, .invokevirtual 114), (87, .ifCond .eq 23), (90, .aload_n 0), (91, .aload_n 0), (92, .getfield 40), (95, .iload 5), (97, .iaload), (98, .iload 4), (100, .invokevirtual 114), (103, .ifCond .eq 7), (106, .iconst 1), (107, .goto 4), (110, .iconst 0), (111, .istore 6), (113, .iload_n 2), (114, .iload 6), (116, .ifCond .eq 7), (119, .iconst 1), (120, .goto 4), (123, .iconst 0), (124, .iadd), (125, .istore_n 2), (126, .iload 6), (128, .ifCond .eq 14), (131, .bipush 10), (133, .iload 4), (135, .imul), (136, .iload 5), (138, .iadd), (139, .goto 4), (142, .iload_n 3), (143, .istore_n 3), (144, .iinc 5 (-1)), (147, .goto (-104)), (150, .iinc 4 (-1)), (153, .goto (-123)), (156, .iload_n 1), (157, .ifCond .ne 7), (160, .iload_n 2), (161, .goto 4), (164, .iload_n 3), (165, .ireturn)]
set_option maxRecDepth 100000 in
theorem cokX5_friday : q_cok cX5_friday cdX5_friday := by unfold q_cok; decide +kernel
set_option maxRecDepth 100000 in
set_option maxHeartbeats 4000000 in
theorem ctX5_friday {l : Launch} {D : va_G} {cy : Nat → Nat} {b0 : Nat} {σ : q_St} {h : q_Hp} (a0 : Nat) (x1 : Int32) {r : Int32} {h' : q_Hp} (ta0 : q_tag σ a0 = 6) (hf : fX5_friday σ h a0 x1 = some (r, h')) : q_M l yX5_friday cX5_friday 7 (some .int) 2 43 0 0 D cy b0 σ h [.ref a0, .int x1] (some (.int r)) σ h' := by
  unfold fX5_friday at hf
  obtain ⟨k0, hf⟩ := q_gu_o hf
  refine q_enter (by decide) (Nat.le_of_ble_eq_true rfl) ?_
  intro p e s m args below meth c C0 hr hlk hnm
  replace C0 : VC p { frames := 2, cells := 0, slots := 0, locals := 43 } s m args meth c D cy b0 7 0 0 RX5 cX5_friday := C0
  have n30 : ∀ (o : (Int32 × Int32 × q_Hp)) (s1 : (Int32 × Int32 × Int32 × q_Hp)), q_loop (fun s => fX5_friday_30 σ a0 x1 s.1 s.2.1 s.2.2.1 s.2.2.2) q_N s1 = some o → V p l e { frames := 2, cells := 0, slots := 0, locals := 43 } s m args below meth c (MQ below (q_Qc D cy b0 (some (.int r)) σ h') args s 0 0 (fun q => b0 ≤ q)) D cy b0 7 0 0 0 0 σ o.2.2 156 [(1, .int x1), (2, .int o.1), (3, .int o.2.1)] [] → V p l e { frames := 2, cells := 0, slots := 0, locals := 43 } s m args below meth c (MQ below (q_Qc D cy b0 (some (.int r)) σ h') args s 0 0 (fun q => b0 ≤ q)) D cy b0 7 0 0 0 0 σ s1.2.2.2 30 [(0, .ref a0), (1, .int x1), (2, .int s1.1), (3, .int s1.2.1), (4, .int s1.2.2.1)] [] := by
    intro o s1 ho kx1
    refine q_loop_V (P := fun s0 => V p l e { frames := 2, cells := 0, slots := 0, locals := 43 } s m args below meth c (MQ below (q_Qc D cy b0 (some (.int r)) σ h') args s 0 0 (fun q => b0 ≤ q)) D cy b0 7 0 0 0 0 σ s0.2.2.2 30 [(0, .ref a0), (1, .int x1), (2, .int s0.1), (3, .int s0.2.1), (4, .int s0.2.2.1)] []) (o := o) ?_ q_N s1 ho
    intro s2 z1 hf kb1 kr1
    obtain ⟨x2, x3, x4, h⟩ := s2
    replace hf : fX5_friday_30 σ a0 x1 x2 x3 x4 h = some z1 := hf
    unfold fX5_friday_30 at hf
    show V p l e { frames := 2, cells := 0, slots := 0, locals := 43 } s m args below meth c (MQ below (q_Qc D cy b0 (some (.int r)) σ h') args s 0 0 (fun q => b0 ≤ q)) D cy b0 7 0 0 0 0 σ h 30 [(0, .ref a0), (1, .int x1), (2, .int x2), (3, .int x3), (4, .int x4)] []
    have n43 : ∀ (x4 : Int32) (o : (Int32 × Int32 × q_Hp)) (s1 : (Int32 × Int32 × Int32 × q_Hp)), q_loop (fun s => fX5_friday_43 σ a0 x1 x4 s.1 s.2.1 s.2.2.1 s.2.2.2) q_N s1 = some o → V p l e { frames := 2, cells := 0, slots := 0, locals := 43 } s m args below meth c (MQ below (q_Qc D cy b0 (some (.int r)) σ h') args s 0 0 (fun q => b0 ≤ q)) D cy b0 7 0 0 0 0 σ o.2.2 150 [(0, .ref a0), (1, .int x1), (2, .int o.1), (3, .int o.2.1), (4, .int x4)] [] → V p l e { frames := 2, cells := 0, slots := 0, locals := 43 } s m args below meth c (MQ below (q_Qc D cy b0 (some (.int r)) σ h') args s 0 0 (fun q => b0 ≤ q)) D cy b0 7 0 0 0 0 σ s1.2.2.2 43 [(0, .ref a0), (1, .int x1), (2, .int s1.1), (3, .int s1.2.1), (4, .int x4), (5, .int s1.2.2.1)] [] := by
      intro x4 o s1 ho kx2
      refine q_loop_V (P := fun s0 => V p l e { frames := 2, cells := 0, slots := 0, locals := 43 } s m args below meth c (MQ below (q_Qc D cy b0 (some (.int r)) σ h') args s 0 0 (fun q => b0 ≤ q)) D cy b0 7 0 0 0 0 σ s0.2.2.2 43 [(0, .ref a0), (1, .int x1), (2, .int s0.1), (3, .int s0.2.1), (4, .int x4), (5, .int s0.2.2.1)] []) (o := o) ?_ q_N s1 ho
      intro s2 z2 hf kb2 kr2
      obtain ⟨x2, x3, x5, h⟩ := s2
      replace hf : fX5_friday_43 σ a0 x1 x4 x2 x3 x5 h = some z2 := hf
      unfold fX5_friday_43 at hf
      show V p l e { frames := 2, cells := 0, slots := 0, locals := 43 } s m args below meth c (MQ below (q_Qc D cy b0 (some (.int r)) σ h') args s 0 0 (fun q => b0 ≤ q)) D cy b0 7 0 0 0 0 σ h 43 [(0, .ref a0), (1, .int x1), (2, .int x2), (3, .int x3), (4, .int x4), (5, .int x5)] []
      have n143 : ∀ (h : q_Hp) (x2 : Int32) (x5 : Int32) (s0 : Int32), fX5_friday_143 σ h a0 x1 x2 x4 x5 s0 = some z2 → V p l e { frames := 2, cells := 0, slots := 0, locals := 43 } s m args below meth c (MQ below (q_Qc D cy b0 (some (.int r)) σ h') args s 0 0 (fun q => b0 ≤ q)) D cy b0 7 0 0 0 0 σ h 143 [(0, .ref a0), (1, .int x1), (2, .int x2), (4, .int x4), (5, .int x5)] [.int s0] := by
        intro h x2 x5 s0 hf
        unfold fX5_friday_143 at hf
        refine v_run C0 tbX5 cokX5_friday (pc' := 43) (lv' := [(5, .int (x5 + (-1 : Int32))), (3, .int s0), (0, .ref a0), (1, .int x1), (2, .int x2), (4, .int x4)]) (st' := []) (h' := h) 3 rfl trivial ?_
        obtain rfl := Option.some.inj hf
        refine v_pick [2, 3, 4, 1, 5, 0] rfl ?_
        exact kb2 _ rfl
      have n124 : ∀ (h : q_Hp) (x3 : Int32) (x5 : Int32) (x6 : Int32) (s0 : Int32) (s1 : Int32), fX5_friday_124 σ h a0 x1 x3 x4 x5 x6 s0 s1 = some z2 → V p l e { frames := 2, cells := 0, slots := 0, locals := 43 } s m args below meth c (MQ below (q_Qc D cy b0 (some (.int r)) σ h') args s 0 0 (fun q => b0 ≤ q)) D cy b0 7 0 0 0 0 σ h 124 [(0, .ref a0), (1, .int x1), (3, .int x3), (4, .int x4), (5, .int x5), (6, .int x6)] [.int s0, .int s1] := by
        intro h x3 x5 x6 s0 s1 hf
        unfold fX5_friday_124 at hf
        refine v_run C0 tbX5 cokX5_friday (pc' := 128) (lv' := [(2, .int (s1 + s0)), (0, .ref a0), (1, .int x1), (3, .int x3), (4, .int x4), (5, .int x5), (6, .int x6)]) (st' := [.int x6]) (h' := h) 3 rfl trivial ?_
        refine v_if_eq C0 cokX5_friday rfl 142 (by decide) hf (fun _ hf => ?_) (fun _ hf => ?_)
        · refine v_run C0 tbX5 cokX5_friday (pc' := 143) (lv' := [(2, .int (s1 + s0)), (0, .ref a0), (1, .int x1), (3, .int x3), (4, .int x4), (5, .int x5), (6, .int x6)]) (st' := [.int x3]) (h' := h) 1 rfl trivial ?_
          refine v_pick [1, 2, 0, 4, 5] rfl ?_
          exact n143 h (s1 + s0) x5 x3 hf
        · refine v_run C0 tbX5 cokX5_friday (pc' := 143) (lv' := [(2, .int (s1 + s0)), (0, .ref a0), (1, .int x1), (3, .int x3), (4, .int x4), (5, .int x5), (6, .int x6)]) (st' := [.int (((10 : Int32) * x4) + x5)]) (h' := h) 6 rfl trivial ?_
          refine v_pick [1, 2, 0, 4, 5] rfl ?_
          exact n143 h (s1 + s0) x5 (((10 : Int32) * x4) + x5) hf
      have n111 : ∀ (h : q_Hp) (x2 : Int32) (x3 : Int32) (x5 : Int32) (s0 : Int32), fX5_friday_111 σ h a0 x1 x2 x3 x4 x5 s0 = some z2 → V p l e { frames := 2, cells := 0, slots := 0, locals := 43 } s m args below meth c (MQ below (q_Qc D cy b0 (some (.int r)) σ h') args s 0 0 (fun q => b0 ≤ q)) D cy b0 7 0 0 0 0 σ h 111 [(0, .ref a0), (1, .int x1), (2, .int x2), (3, .int x3), (4, .int x4), (5, .int x5)] [.int s0] := by
        intro h x2 x3 x5 s0 hf
        unfold fX5_friday_111 at hf
        refine v_run C0 tbX5 cokX5_friday (pc' := 116) (lv' := [(6, .int s0), (0, .ref a0), (1, .int x1), (2, .int x2), (3, .int x3), (4, .int x4), (5, .int x5)]) (st' := [.int s0, .int x2]) (h' := h) 3 rfl trivial ?_
        refine v_if_eq C0 cokX5_friday rfl 123 (by decide) hf (fun _ hf => ?_) (fun _ hf => ?_)
        · refine v_run C0 tbX5 cokX5_friday (pc' := 124) (lv' := [(6, .int s0), (0, .ref a0), (1, .int x1), (2, .int x2), (3, .int x3), (4, .int x4), (5, .int x5)]) (st' := [.int (0 : Int32), .int x2]) (h' := h) 1 rfl trivial ?_
          refine v_pick [1, 2, 4, 5, 6, 0] rfl ?_
          exact n124 h x3 x5 s0 (0 : Int32) x2 hf
        · refine v_run C0 tbX5 cokX5_friday (pc' := 124) (lv' := [(6, .int s0), (0, .ref a0), (1, .int x1), (2, .int x2), (3, .int x3), (4, .int x4), (5, .int x5)]) (st' := [.int (1 : Int32), .int x2]) (h' := h) 2 rfl trivial ?_
          refine v_pick [1, 2, 4, 5, 6, 0] rfl ?_
          exact n124 h x3 x5 s0 (1 : Int32) x2 hf
      have n110 : ∀ (h : q_Hp) (x2 : Int32) (x3 : Int32) (x5 : Int32), fX5_friday_110 σ h a0 x1 x2 x3 x4 x5 = some z2 → V p l e { frames := 2, cells := 0, slots := 0, locals := 43 } s m args below meth c (MQ below (q_Qc D cy b0 (some (.int r)) σ h') args s 0 0 (fun q => b0 ≤ q)) D cy b0 7 0 0 0 0 σ h 110 [(0, .ref a0), (1, .int x1), (2, .int x2), (3, .int x3), (4, .int x4), (5, .int x5)] [] := by
        intro h x2 x3 x5 hf
        unfold fX5_friday_110 at hf
        refine v_run C0 tbX5 cokX5_friday (pc' := 111) (lv' := [(0, .ref a0), (1, .int x1), (2, .int x2), (3, .int x3), (4, .int x4), (5, .int x5)]) (st' := [.int (0 : Int32)]) (h' := h) 1 rfl trivial ?_
        refine v_pick [0, 1, 2, 3, 4, 5] rfl ?_
        exact n111 h x2 x3 x5 (0 : Int32) hf
      refine v_run C0 tbX5 cokX5_friday (pc' := 47) (lv' := [(0, .ref a0), (1, .int x1), (2, .int x2), (3, .int x3), (4, .int x4), (5, .int x5)]) (st' := [.int x4, .int x5]) (h' := h) 2 rfl trivial ?_
      refine v_icmp_le C0 cokX5_friday rfl 150 (by decide) hf (fun _ hf => ?_) (fun _ hf => ?_)
      · obtain rfl := Option.some.inj hf
        refine v_pick [0, 1, 2, 3, 4] rfl ?_
        have hx := kr2 _ rfl
        subst hx
        exact kx2
      · obtain ⟨g4, hf⟩ := q_gu_o hf
        refine v_run C0 tbX5 cokX5_friday (pc' := 59) (lv' := [(0, .ref a0), (1, .int x1), (2, .int x2), (3, .int x3), (4, .int x4), (5, .int x5)]) (st' := [.int (9 : Int32), .int (q_int h (q_ref σ a0 12) (Int32.toNatClampNeg x4))]) (h' := h) 5 rfl ⟨⟨ta0, q_tn k0⟩, ⟨k0, g4⟩, trivial⟩ ?_
        refine v_icmp_eq C0 cokX5_friday rfl 110 (by decide) hf (fun _ hf => ?_) (fun _ hf => ?_)
        · refine v_pick [0, 1, 2, 3, 4, 5] rfl ?_
          exact n110 h x2 x3 x5 hf
        · obtain ⟨g5, hf⟩ := q_gu_o hf
          refine v_run C0 tbX5 cokX5_friday (pc' := 71) (lv' := [(0, .ref a0), (1, .int x1), (2, .int x2), (3, .int x3), (4, .int x4), (5, .int x5)]) (st' := [.int (9 : Int32), .int (q_int h (q_ref σ a0 12) (Int32.toNatClampNeg x5))]) (h' := h) 5 rfl ⟨⟨ta0, q_tn k0⟩, ⟨k0, g5⟩, trivial⟩ ?_
          refine v_icmp_eq C0 cokX5_friday rfl 110 (by decide) hf (fun _ hf => ?_) (fun _ hf => ?_)
          · refine v_pick [0, 1, 2, 3, 4, 5] rfl ?_
            exact n110 h x2 x3 x5 hf
          · refine v_run C0 tbX5 cokX5_friday (pc' := 84) (lv' := [(0, .ref a0), (1, .int x1), (2, .int x2), (3, .int x3), (4, .int x4), (5, .int x5)]) (st' := [.int x5, .int (q_int h (q_ref σ a0 12) (Int32.toNatClampNeg x4)), .ref a0]) (h' := h) 6 rfl ⟨⟨ta0, q_tn k0⟩, ⟨k0, g4⟩, trivial⟩ ?_
            obtain ⟨r6, e6, hf⟩ := q_bd hf
            refine v_callV C0 cokX5_friday rfl (rest := []) (ctX5_fitsIn a0 (q_int h (q_ref σ a0 12) (Int32.toNatClampNeg x4)) x5 ta0 e6) calX5_fitsIn lkX5_114 inX5_fitsIn dnX5_fitsIn (ci := 5) ⟨rfl, by decide⟩ ta0 rfl rfl ⟨by decide, by decide⟩ (Nat.le_of_ble_eq_true rfl) (Nat.le_refl _) (Nat.le_refl _) ?_
            refine v_if_eq C0 cokX5_friday rfl 110 (by decide) hf (fun _ hf => ?_) (fun _ hf => ?_)
            · refine v_pick [0, 1, 2, 3, 4, 5] rfl ?_
              exact n110 h x2 x3 x5 hf
            · refine v_run C0 tbX5 cokX5_friday (pc' := 100) (lv' := [(0, .ref a0), (1, .int x1), (2, .int x2), (3, .int x3), (4, .int x4), (5, .int x5)]) (st' := [.int x4, .int (q_int h (q_ref σ a0 12) (Int32.toNatClampNeg x5)), .ref a0]) (h' := h) 6 rfl ⟨⟨ta0, q_tn k0⟩, ⟨k0, g5⟩, trivial⟩ ?_
              obtain ⟨r7, e7, hf⟩ := q_bd hf
              refine v_callV C0 cokX5_friday rfl (rest := []) (ctX5_fitsIn a0 (q_int h (q_ref σ a0 12) (Int32.toNatClampNeg x5)) x4 ta0 e7) calX5_fitsIn lkX5_114 inX5_fitsIn dnX5_fitsIn (ci := 5) ⟨rfl, by decide⟩ ta0 rfl rfl ⟨by decide, by decide⟩ (Nat.le_of_ble_eq_true rfl) (Nat.le_refl _) (Nat.le_refl _) ?_
              refine v_if_eq C0 cokX5_friday rfl 110 (by decide) hf (fun _ hf => ?_) (fun _ hf => ?_)
              · refine v_pick [0, 1, 2, 3, 4, 5] rfl ?_
                exact n110 h x2 x3 x5 hf
              · refine v_run C0 tbX5 cokX5_friday (pc' := 111) (lv' := [(0, .ref a0), (1, .int x1), (2, .int x2), (3, .int x3), (4, .int x4), (5, .int x5)]) (st' := [.int (1 : Int32)]) (h' := h) 2 rfl trivial ?_
                refine v_pick [0, 1, 2, 3, 4, 5] rfl ?_
                exact n111 h x2 x3 x5 (1 : Int32) hf
    refine v_run C0 tbX5 cokX5_friday (pc' := 32) (lv' := [(0, .ref a0), (1, .int x1), (2, .int x2), (3, .int x3), (4, .int x4)]) (st' := [.int x4]) (h' := h) 1 rfl trivial ?_
    refine v_if_lt C0 cokX5_friday rfl 156 (by decide) hf (fun _ hf => ?_) (fun _ hf => ?_)
    · obtain rfl := Option.some.inj hf
      refine v_pick [1, 2, 3] rfl ?_
      have hx := kr1 _ rfl
      subst hx
      exact kx1
    · refine v_run C0 tbX5 cokX5_friday (pc' := 43) (lv' := [(5, .int ((q_int h a0 6) - (1 : Int32))), (0, .ref a0), (1, .int x1), (2, .int x2), (3, .int x3), (4, .int x4)]) (st' := []) (h' := h) 5 rfl ⟨ta0, trivial⟩ ?_
      obtain ⟨o3, eo3, hf⟩ := q_bd hf
      obtain ⟨o31, o32, o33⟩ := o3
      refine v_pick [1, 2, 3, 4, 5, 0] rfl ?_
      refine n43 x4 (o31, o32, o33) (x2, x3, ((q_int h a0 6) - (1 : Int32)), h) eo3 ?_
      refine v_run C0 tbX5 cokX5_friday (pc' := 30) (lv' := [(4, .int (x4 + (-1 : Int32))), (0, .ref a0), (1, .int x1), (2, .int o31), (3, .int o32)]) (st' := []) (h' := o33) 2 rfl trivial ?_
      obtain rfl := Option.some.inj hf
      refine v_pick [1, 2, 3, 4, 0] rfl ?_
      exact kb1 _ rfl
  refine v_run C0 tbX5 cokX5_friday (pc' := 9) (lv' := [(0, .ref a0), (1, .int x1)]) (st' := [.long (1 : Int64), .long (0 : Int64), .long (Int32.toInt64 x1)]) (h' := (q_si h a0 21 (0 : Int32))) 7 rfl ⟨ta0, trivial⟩ ?_
  obtain ⟨r1, e1, hf⟩ := q_bd hf
  refine v_callS C0 cokX5_friday rfl (rest := []) (ctX5_in (Int32.toInt64 x1) (0 : Int64) (1 : Int64) e1) calX5_in lkX5_96 inX5_in dnX5_in rfl rfl ⟨by decide, by decide⟩ (Nat.le_of_ble_eq_true rfl) (Nat.le_refl _) (Nat.le_refl _) ?_
  refine v_if_ne C0 cokX5_friday rfl 17 (by decide) hf (fun _ hf => ?_) (fun _ hf => ?_)
  · refine v_run C0 tbX5 cokX5_friday (pc' := 16) (lv' := [(0, .ref a0), (1, .int x1)]) (st' := [.int (-1 : Int32)]) (h' := (q_si h a0 21 (0 : Int32))) 1 rfl trivial ?_
    obtain ⟨rfl, rfl⟩ := Prod.mk.inj (Option.some.inj hf)
    exact v_iret C0 cokX5_friday hr hlk rfl
  · refine v_run C0 tbX5 cokX5_friday (pc' := 30) (lv' := [(4, .int ((q_int (q_si h a0 21 (0 : Int32)) a0 6) - (1 : Int32))), (3, .int (-4 : Int32)), (2, .int (0 : Int32)), (0, .ref a0), (1, .int x1)]) (st' := []) (h' := (q_si h a0 21 (0 : Int32))) 9 rfl ⟨ta0, trivial⟩ ?_
    obtain ⟨o2, eo2, hf⟩ := q_bd hf
    refine v_pick [3, 4, 2, 1, 0] rfl ?_
    refine n30 o2 ((0 : Int32), (-4 : Int32), ((q_int (q_si h a0 21 (0 : Int32)) a0 6) - (1 : Int32)), (q_si h a0 21 (0 : Int32))) eo2 ?_
    refine v_run C0 tbX5 cokX5_friday (pc' := 157) (lv' := [(1, .int x1), (2, .int o2.1), (3, .int o2.2.1)]) (st' := [.int x1]) (h' := o2.2.2) 1 rfl trivial ?_
    refine v_if_ne C0 cokX5_friday rfl 164 (by decide) hf (fun _ hf => ?_) (fun _ hf => ?_)
    · refine v_run C0 tbX5 cokX5_friday (pc' := 165) (lv' := [(1, .int x1), (2, .int o2.1), (3, .int o2.2.1)]) (st' := [.int o2.1]) (h' := o2.2.2) 2 rfl trivial ?_
      obtain ⟨rfl, rfl⟩ := Prod.mk.inj (Option.some.inj hf)
      exact v_iret C0 cokX5_friday hr hlk rfl
    · refine v_run C0 tbX5 cokX5_friday (pc' := 165) (lv' := [(1, .int x1), (2, .int o2.1), (3, .int o2.2.1)]) (st' := [.int o2.2.1]) (h' := o2.2.2) 1 rfl trivial ?_
      obtain ⟨rfl, rfl⟩ := Prod.mk.inj (Option.some.inj hf)
      exact v_iret C0 cokX5_friday hr hlk rfl
