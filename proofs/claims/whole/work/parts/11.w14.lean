-- BackByNoonOnMondayModel.weeks(III)I
noncomputable def fX5_weeks_130 (σ : q_St) (h : q_Hp) (a0 : Nat) (x1 : Int32) (x2 : Int32) (x3 : Int32) (x4 : Int32) (x5 : Int32) (x6 : Int32) (x7 : Int32) (x8 : Int32) : Option ((Int32 × Int32 × q_St × q_Hp) ⊕ (Int32 × q_St × q_Hp)) := some (Sum.inl (x5, (x8 + (1 : Int32)), σ, h))
noncomputable def fX5_weeks_127 (σ : q_St) (h : q_Hp) (a0 : Nat) (x1 : Int32) (x2 : Int32) (x3 : Int32) (x4 : Int32) (x6 : Int32) (x7 : Int32) (x8 : Int32) (s0 : Int32) (s1 : Int32) : Option ((Int32 × Int32 × q_St × q_Hp) ⊕ (Int32 × q_St × q_Hp)) := fX5_weeks_130  σ h a0 x1 x2 x3 x4 (s1 + s0) x6 x7 x8
noncomputable def fX5_weeks_92 (σ : q_St) (h : q_Hp) (a0 : Nat) (x1 : Int32) (x2 : Int32) (x3 : Int32) (x4 : Int32) (x5 : Int32) (x6 : Int32) (x7 : Int32) (x8 : Int32) (s0 : Int32) : Option ((Int32 × Int32 × q_St × q_Hp) ⊕ (Int32 × q_St × q_Hp)) := (if s0 = 0 then fX5_weeks_130  σ h a0 x1 x2 x3 x4 x5 x6 x7 x8 else q_gu ((q_tag σ a0 = 6) ∧ (q_tag σ (q_ref σ a0 12) = 7) ∧ (vp_in x8 (q_len σ (q_ref σ a0 12)))) ((if (q_int h (q_ref σ a0 12) (Int32.toNatClampNeg x8)) = (9 : Int32) then (q_b2 (fX5_hiresLeast σ h a0 x8) fun r15 h15 => (if r15 = 0 then fX5_weeks_127  σ h15 a0 x1 x2 x3 x4 x6 x7 x8 (1 : Int32) x5 else fX5_weeks_127  σ h15 a0 x1 x2 x3 x4 x6 x7 x8 (0 : Int32) x5)) else fX5_weeks_130  σ h a0 x1 x2 x3 x4 x5 x6 x7 x8)))
noncomputable def fX5_weeks_62 (a0 : Nat) (x1 : Int32) (x2 : Int32) (x3 : Int32) (x4 : Int32) (x6 : Int32) (x7 : Int32) (x5 : Int32) (x8 : Int32) (σ : q_St) (h : q_Hp) : Option ((Int32 × Int32 × q_St × q_Hp) ⊕ (Int32 × q_St × q_Hp)) := q_gu ((q_tag σ a0 = 6)) ((if (q_int h a0 6) ≤ x8 then some (Sum.inr (x5, σ, h)) else (q_b2 (fX5_drawBelow σ h a0 (10 : Int32)) fun r9 h9 => q_gu ((q_tag σ (q_ref σ a0 11) = 7) ∧ (vp_in x8 (q_len σ (q_ref σ a0 11)))) ((if r9 < (q_int h9 (q_ref σ a0 11) (Int32.toNatClampNeg x8)) then fX5_weeks_92  σ h9 a0 x1 x2 x3 x4 x5 x6 x7 x8 (0 : Int32) else fX5_weeks_92  σ h9 a0 x1 x2 x3 x4 x5 x6 x7 x8 (1 : Int32))))))
noncomputable def fX5_weeks_53 (a0 : Nat) (x1 : Int32) (x2 : Int32) (x3 : Int32) (x6 : Int32) (x4 : Int32) (x5 : Int32) (x7 : Int32) (σ : q_St) (h : q_Hp) : Option ((Int32 × Int32 × Int32 × q_St × q_Hp) ⊕ (Int32 × Int32 × q_St × q_Hp)) := (if x1 ≤ x7 then some (Sum.inr (x4, x5, σ, h)) else (q_loop (fun s => fX5_weeks_62  a0 x1 x2 x3 x4 x6 x7 s.1 s.2.1 s.2.2.1 s.2.2.2) q_N (x5, (0 : Int32), σ, h)).bind fun o5 => q_gu ((q_tag o5.2.1 a0 = 6)) ((q_b2 (fX5_close o5.2.1 o5.2.2 a0) fun σ7 h7 => some (Sum.inl ((x4 + ((q_int o5.2.2 a0 13) - x6)), o5.1, (x7 + (1 : Int32)), σ7, h7)))))
noncomputable def fX5_weeks (σ : q_St) (h : q_Hp) (a0 : Nat) (x1 : Int32) (x2 : Int32) (x3 : Int32) : Option (Int32 × q_St × q_Hp) := ((fX5_in σ (q_si h a0 21 (0 : Int32)) (Int32.toInt64 x1) (1 : Int64) (20 : Int64)).bind fun r1 => (if r1 = 0 then some ((-1 : Int32), σ, (q_si h a0 21 (0 : Int32))) else ((fX5_in σ (q_si h a0 21 (0 : Int32)) (Int32.toInt64 x3) (0 : Int64) (1 : Int64)).bind fun r2 => (if r2 = 0 then some ((-1 : Int32), σ, (q_si h a0 21 (0 : Int32))) else (q_b2 (fX5_open σ (q_si (q_si h a0 21 (0 : Int32)) a0 42 x2) a0) fun σ3 h3 => (q_loop (fun s => fX5_weeks_53  a0 x1 x2 x3 (q_int (q_si (q_si h a0 21 (0 : Int32)) a0 42 x2) a0 13) s.1 s.2.1 s.2.2.1 s.2.2.2.1 s.2.2.2.2) q_N ((0 : Int32), (0 : Int32), (0 : Int32), σ3, h3)).bind fun o4 => (if x3 = 0 then some (o4.1, o4.2.2.1, o4.2.2.2) else some (o4.2.1, o4.2.2.1, o4.2.2.2)))))))
def cdX5_weeks : q_Cd := [(0, .aload_n 0), (1, .iconst 0), (2, .putfield 89), (5, .iload_n 1), (6, .i2l), (7, .lconst 1), (8, .ldc2_w 231), (11, .invokestatic 96), (14, .ifCond .eq 13), (17, .iload_n 3), (18, .i2l), (19, .lconst 0), (20, .lconst 1), (21, .invokestatic 96), (24, .ifCond .ne 5), (27, .iconst (-1)), (28, .ireturn), (29, .aload_n 0), (30, .iload_n 2), (31, .putfield 345), (34, .iconst 0), (35, .istore 4), (37, .iconst 0), (38, .istore 5), (40, .aload_n 0), (41, .getfield 118), (44, .istore 6), (46, .aload_n 0), (47, .invokevirtual 198), (50, .iconst 0), (51, .istore 7), (53, .iload 7), (55, .iload_n 1), (56, .if_icmp .ge 102), (59, .iconst 0), (60, .istore 8), (62, .iload 8), (64, .aload_n 0), (65, .getfield 100), (68, .if_icmp .ge 68), (71, .aload_n 0), (72, .bipush 10), (74, .invokevirtual 351), (77, .aload_n 0), (78, .getfield 37), (81, .iload 8), (83, .iaload), (84, .if_icmp .lt 7), (87, .iconst 1), (88, .goto 4), (91, .iconst 0), (92, .istore 9), (94, .iload 9), (96, .ifCond .eq 34), (99, .aload_n 0), (100, .getfield 40), (103, .iload 8), (105, .iaload), (106, .bipush 9), (108, .if_icmp .ne 22), (111, .iload 5), (113, .aload_n 0), (114, .iload 8), (116, .invokevirtual 354), (119, .ifCond .eq 7), (122, .iconst 0), (123, .goto 4), (126, .iconst 1), (127, .iadd), (128, .istore 5), (130, .iinc 8 1), (133, .goto (-71)), (136, .iload 4), (138, .aload_n 0), (139, .getfield 118), (142, .iload 6), (144, .isub), (145, .iadd), (146, .istore 4), (148, .aload_n 0), (149, .invokevirtual 204), (152, .iinc 7 1), (155, .goto (-102)), (158, .iload_n 3), (159, .ifCond .ne 8), (162, .iload 4), (164, .goto 5), (167, .iload 5), (169, .ireturn)]
set_option maxRecDepth 100000 in
theorem cokX5_weeks : q_cok cX5_weeks cdX5_weeks := by unfold q_cok; decide +kernel
set_option maxRecDepth 100000 in
set_option maxHeartbeats 4000000 in
theorem ctX5_weeks {l : Launch} {D : va_G} {cy : Nat → Nat} {b0 : Nat} {σ : q_St} {h : q_Hp} (a0 : Nat) (x1 : Int32) (x2 : Int32) (x3 : Int32) {r : Int32} {σ' : q_St} {h' : q_Hp} (ta0 : q_tag σ a0 = 6) (hf : fX5_weeks σ h a0 x1 x2 x3 = some (r, σ', h')) : q_M l yX5_weeks cX5_weeks 10 (some .int) 4 87 0 0 D cy b0 σ h [.ref a0, .int x1, .int x2, .int x3] (some (.int r)) σ' h' := by
  unfold fX5_weeks at hf
  refine q_enter (by decide) (Nat.le_of_ble_eq_true rfl) ?_
  intro p e s m args below meth c C0 hr hlk hnm
  replace C0 : VC p { frames := 4, cells := 0, slots := 0, locals := 87 } s m args meth c D cy b0 10 0 0 RX5 cX5_weeks := C0
  have n53 : ∀ (x6 : Int32) (o : (Int32 × Int32 × q_St × q_Hp)) (s1 : (Int32 × Int32 × Int32 × q_St × q_Hp)), q_loop (fun s => fX5_weeks_53  a0 x1 x2 x3 x6 s.1 s.2.1 s.2.2.1 s.2.2.2.1 s.2.2.2.2) q_N s1 = some o → V p l e { frames := 4, cells := 0, slots := 0, locals := 87 } s m args below meth c (MQ below (q_Qc D cy b0 (some (.int r)) σ' h') args s 0 0 (fun q => b0 ≤ q)) D cy b0 10 0 0 0 0 o.2.2.1 o.2.2.2 158 [(3, .int x3), (4, .int o.1), (5, .int o.2.1)] [] → V p l e { frames := 4, cells := 0, slots := 0, locals := 87 } s m args below meth c (MQ below (q_Qc D cy b0 (some (.int r)) σ' h') args s 0 0 (fun q => b0 ≤ q)) D cy b0 10 0 0 0 0 s1.2.2.2.1 s1.2.2.2.2 53 [(0, .ref a0), (1, .int x1), (3, .int x3), (4, .int s1.1), (5, .int s1.2.1), (6, .int x6), (7, .int s1.2.2.1)] [] := by
    intro x6 o s1 ho kx1
    refine q_loop_V (P := fun s0 => V p l e { frames := 4, cells := 0, slots := 0, locals := 87 } s m args below meth c (MQ below (q_Qc D cy b0 (some (.int r)) σ' h') args s 0 0 (fun q => b0 ≤ q)) D cy b0 10 0 0 0 0 s0.2.2.2.1 s0.2.2.2.2 53 [(0, .ref a0), (1, .int x1), (3, .int x3), (4, .int s0.1), (5, .int s0.2.1), (6, .int x6), (7, .int s0.2.2.1)] []) (o := o) ?_ q_N s1 ho
    intro s2 z1 hf kb1 kr1
    obtain ⟨x4, x5, x7, σ, h⟩ := s2
    replace hf : fX5_weeks_53  a0 x1 x2 x3 x6 x4 x5 x7 σ h = some z1 := hf
    unfold fX5_weeks_53 at hf
    show V p l e { frames := 4, cells := 0, slots := 0, locals := 87 } s m args below meth c (MQ below (q_Qc D cy b0 (some (.int r)) σ' h') args s 0 0 (fun q => b0 ≤ q)) D cy b0 10 0 0 0 0 σ h 53 [(0, .ref a0), (1, .int x1), (3, .int x3), (4, .int x4), (5, .int x5), (6, .int x6), (7, .int x7)] []
    have n62 : ∀ (x4 : Int32) (x6 : Int32) (x7 : Int32) (o : (Int32 × q_St × q_Hp)) (s1 : (Int32 × Int32 × q_St × q_Hp)), q_loop (fun s => fX5_weeks_62  a0 x1 x2 x3 x4 x6 x7 s.1 s.2.1 s.2.2.1 s.2.2.2) q_N s1 = some o → V p l e { frames := 4, cells := 0, slots := 0, locals := 87 } s m args below meth c (MQ below (q_Qc D cy b0 (some (.int r)) σ' h') args s 0 0 (fun q => b0 ≤ q)) D cy b0 10 0 0 0 0 o.2.1 o.2.2 136 [(0, .ref a0), (1, .int x1), (3, .int x3), (4, .int x4), (5, .int o.1), (6, .int x6), (7, .int x7)] [] → V p l e { frames := 4, cells := 0, slots := 0, locals := 87 } s m args below meth c (MQ below (q_Qc D cy b0 (some (.int r)) σ' h') args s 0 0 (fun q => b0 ≤ q)) D cy b0 10 0 0 0 0 s1.2.2.1 s1.2.2.2 62 [(0, .ref a0), (1, .int x1), (3, .int x3), (4, .int x4), (5, .int s1.1), (6, .int x6), (7, .int x7), (8, .int s1.2.1)] [] := by
      intro x4 x6 x7 o s1 ho kx2
      refine q_loop_V (P := fun s0 => V p l e { frames := 4, cells := 0, slots := 0, locals := 87 } s m args below meth c (MQ below (q_Qc D cy b0 (some (.int r)) σ' h') args s 0 0 (fun q => b0 ≤ q)) D cy b0 10 0 0 0 0 s0.2.2.1 s0.2.2.2 62 [(0, .ref a0), (1, .int x1), (3, .int x3), (4, .int x4), (5, .int s0.1), (6, .int x6), (7, .int x7), (8, .int s0.2.1)] []) (o := o) ?_ q_N s1 ho
      intro s2 z2 hf kb2 kr2
      obtain ⟨x5, x8, σ, h⟩ := s2
      replace hf : fX5_weeks_62  a0 x1 x2 x3 x4 x6 x7 x5 x8 σ h = some z2 := hf
      unfold fX5_weeks_62 at hf
      show V p l e { frames := 4, cells := 0, slots := 0, locals := 87 } s m args below meth c (MQ below (q_Qc D cy b0 (some (.int r)) σ' h') args s 0 0 (fun q => b0 ≤ q)) D cy b0 10 0 0 0 0 σ h 62 [(0, .ref a0), (1, .int x1), (3, .int x3), (4, .int x4), (5, .int x5), (6, .int x6), (7, .int x7), (8, .int x8)] []
      have n130 : ∀ (σ : q_St) (h : q_Hp) (x5 : Int32) (x8 : Int32), fX5_weeks_130  σ h a0 x1 x2 x3 x4 x5 x6 x7 x8 = some z2 → V p l e { frames := 4, cells := 0, slots := 0, locals := 87 } s m args below meth c (MQ below (q_Qc D cy b0 (some (.int r)) σ' h') args s 0 0 (fun q => b0 ≤ q)) D cy b0 10 0 0 0 0 σ h 130 [(0, .ref a0), (1, .int x1), (3, .int x3), (4, .int x4), (5, .int x5), (6, .int x6), (7, .int x7), (8, .int x8)] [] := by
        intro σ h x5 x8 hf
        unfold fX5_weeks_130 at hf
        refine v_run C0 tbX5 cokX5_weeks (pc' := 62) (lv' := [(8, .int (x8 + (1 : Int32))), (0, .ref a0), (1, .int x1), (3, .int x3), (4, .int x4), (5, .int x5), (6, .int x6), (7, .int x7)]) (st' := []) (h' := h) 2 rfl trivial ?_
        obtain rfl := Option.some.inj hf
        refine v_pick [1, 2, 3, 4, 5, 6, 7, 0] rfl ?_
        exact kb2 _ rfl
      have n127 : ∀ (σ : q_St) (h : q_Hp) (x8 : Int32) (s0 : Int32) (s1 : Int32), fX5_weeks_127  σ h a0 x1 x2 x3 x4 x6 x7 x8 s0 s1 = some z2 → V p l e { frames := 4, cells := 0, slots := 0, locals := 87 } s m args below meth c (MQ below (q_Qc D cy b0 (some (.int r)) σ' h') args s 0 0 (fun q => b0 ≤ q)) D cy b0 10 0 0 0 0 σ h 127 [(0, .ref a0), (1, .int x1), (3, .int x3), (4, .int x4), (6, .int x6), (7, .int x7), (8, .int x8)] [.int s0, .int s1] := by
        intro σ h x8 s0 s1 hf
        unfold fX5_weeks_127 at hf
        refine v_run C0 tbX5 cokX5_weeks (pc' := 130) (lv' := [(5, .int (s1 + s0)), (0, .ref a0), (1, .int x1), (3, .int x3), (4, .int x4), (6, .int x6), (7, .int x7), (8, .int x8)]) (st' := []) (h' := h) 2 rfl trivial ?_
        refine v_pick [1, 2, 3, 4, 0, 5, 6, 7] rfl ?_
        exact n130 σ h (s1 + s0) x8 hf
      have n92 : ∀ (σ : q_St) (h : q_Hp) (x5 : Int32) (x8 : Int32) (s0 : Int32), fX5_weeks_92  σ h a0 x1 x2 x3 x4 x5 x6 x7 x8 s0 = some z2 → V p l e { frames := 4, cells := 0, slots := 0, locals := 87 } s m args below meth c (MQ below (q_Qc D cy b0 (some (.int r)) σ' h') args s 0 0 (fun q => b0 ≤ q)) D cy b0 10 0 0 0 0 σ h 92 [(0, .ref a0), (1, .int x1), (3, .int x3), (4, .int x4), (5, .int x5), (6, .int x6), (7, .int x7), (8, .int x8)] [.int s0] := by
        intro σ h x5 x8 s0 hf
        unfold fX5_weeks_92 at hf
        refine v_run C0 tbX5 cokX5_weeks (pc' := 96) (lv' := [(9, .int s0), (0, .ref a0), (1, .int x1), (3, .int x3), (4, .int x4), (5, .int x5), (6, .int x6), (7, .int x7), (8, .int x8)]) (st' := [.int s0]) (h' := h) 2 rfl trivial ?_
        refine v_if_eq C0 cokX5_weeks rfl 130 (by decide) hf (fun _ hf => ?_) (fun _ hf => ?_)
        · refine v_pick [1, 2, 3, 4, 5, 6, 7, 8] rfl ?_
          exact n130 σ h x5 x8 hf
        · obtain ⟨⟨g12, g13, g14⟩, hf⟩ := q_gu_o hf
          refine v_run C0 tbX5 cokX5_weeks (pc' := 108) (lv' := [(9, .int s0), (0, .ref a0), (1, .int x1), (3, .int x3), (4, .int x4), (5, .int x5), (6, .int x6), (7, .int x7), (8, .int x8)]) (st' := [.int (9 : Int32), .int (q_int h (q_ref σ a0 12) (Int32.toNatClampNeg x8))]) (h' := h) 5 rfl ⟨⟨g12, q_tn g13⟩, ⟨g13, g14⟩, trivial⟩ ?_
          refine v_icmp_ne C0 cokX5_weeks rfl 130 (by decide) hf (fun _ hf => ?_) (fun _ hf => ?_)
          · refine v_run C0 tbX5 cokX5_weeks (pc' := 116) (lv' := [(9, .int s0), (0, .ref a0), (1, .int x1), (3, .int x3), (4, .int x4), (5, .int x5), (6, .int x6), (7, .int x7), (8, .int x8)]) (st' := [.int x8, .ref a0, .int x5]) (h' := h) 3 rfl trivial ?_
            obtain ⟨r15, h15, e15, hf⟩ := q_bd2 hf
            refine v_callV C0 cokX5_weeks rfl (rest := [.int x5]) (ctX5_hiresLeast a0 x8 g12 e15) calX5_hiresLeast lkX5_354 inX5_hiresLeast dnX5_hiresLeast (ci := 5) ⟨rfl, by decide⟩ g12 rfl rfl ⟨by decide, by decide⟩ (Nat.le_of_ble_eq_true rfl) (Nat.le_refl _) (Nat.le_refl _) ?_
            refine v_if_eq C0 cokX5_weeks rfl 126 (by decide) hf (fun _ hf => ?_) (fun _ hf => ?_)
            · refine v_run C0 tbX5 cokX5_weeks (pc' := 127) (lv' := [(9, .int s0), (0, .ref a0), (1, .int x1), (3, .int x3), (4, .int x4), (5, .int x5), (6, .int x6), (7, .int x7), (8, .int x8)]) (st' := [.int (1 : Int32), .int x5]) (h' := h15) 1 rfl trivial ?_
              refine v_pick [1, 2, 3, 4, 6, 7, 8] rfl ?_
              exact n127 σ h15 x8 (1 : Int32) x5 hf
            · refine v_run C0 tbX5 cokX5_weeks (pc' := 127) (lv' := [(9, .int s0), (0, .ref a0), (1, .int x1), (3, .int x3), (4, .int x4), (5, .int x5), (6, .int x6), (7, .int x7), (8, .int x8)]) (st' := [.int (0 : Int32), .int x5]) (h' := h15) 2 rfl trivial ?_
              refine v_pick [1, 2, 3, 4, 6, 7, 8] rfl ?_
              exact n127 σ h15 x8 (0 : Int32) x5 hf
          · refine v_pick [1, 2, 3, 4, 5, 6, 7, 8] rfl ?_
            exact n130 σ h x5 x8 hf
      obtain ⟨g8, hf⟩ := q_gu_o hf
      refine v_run C0 tbX5 cokX5_weeks (pc' := 68) (lv' := [(0, .ref a0), (1, .int x1), (3, .int x3), (4, .int x4), (5, .int x5), (6, .int x6), (7, .int x7), (8, .int x8)]) (st' := [.int (q_int h a0 6), .int x8]) (h' := h) 3 rfl ⟨g8, trivial⟩ ?_
      refine v_icmp_ge C0 cokX5_weeks rfl 136 (by decide) hf (fun _ hf => ?_) (fun _ hf => ?_)
      · obtain rfl := Option.some.inj hf
        refine v_pick [0, 1, 2, 3, 4, 5, 6] rfl ?_
        have hx := kr2 _ rfl
        subst hx
        exact kx2
      · refine v_run C0 tbX5 cokX5_weeks (pc' := 74) (lv' := [(0, .ref a0), (1, .int x1), (3, .int x3), (4, .int x4), (5, .int x5), (6, .int x6), (7, .int x7), (8, .int x8)]) (st' := [.int (10 : Int32), .ref a0]) (h' := h) 2 rfl trivial ?_
        obtain ⟨r9, h9, e9, hf⟩ := q_bd2 hf
        refine v_callV C0 cokX5_weeks rfl (rest := []) (ctX5_drawBelow a0 (10 : Int32) g8 e9) calX5_drawBelow lkX5_351 inX5_drawBelow dnX5_drawBelow (ci := 5) ⟨rfl, by decide⟩ g8 rfl rfl ⟨by decide, by decide⟩ (Nat.le_of_ble_eq_true rfl) (Nat.le_refl _) (Nat.le_refl _) ?_
        obtain ⟨⟨g10, g11⟩, hf⟩ := q_gu_o hf
        refine v_run C0 tbX5 cokX5_weeks (pc' := 84) (lv' := [(0, .ref a0), (1, .int x1), (3, .int x3), (4, .int x4), (5, .int x5), (6, .int x6), (7, .int x7), (8, .int x8)]) (st' := [.int (q_int h9 (q_ref σ a0 11) (Int32.toNatClampNeg x8)), .int r9]) (h' := h9) 4 rfl ⟨⟨g8, q_tn g10⟩, ⟨g10, g11⟩, trivial⟩ ?_
        refine v_icmp_lt C0 cokX5_weeks rfl 91 (by decide) hf (fun _ hf => ?_) (fun _ hf => ?_)
        · refine v_run C0 tbX5 cokX5_weeks (pc' := 92) (lv' := [(0, .ref a0), (1, .int x1), (3, .int x3), (4, .int x4), (5, .int x5), (6, .int x6), (7, .int x7), (8, .int x8)]) (st' := [.int (0 : Int32)]) (h' := h9) 1 rfl trivial ?_
          refine v_pick [0, 1, 2, 3, 4, 5, 6, 7] rfl ?_
          exact n92 σ h9 x5 x8 (0 : Int32) hf
        · refine v_run C0 tbX5 cokX5_weeks (pc' := 92) (lv' := [(0, .ref a0), (1, .int x1), (3, .int x3), (4, .int x4), (5, .int x5), (6, .int x6), (7, .int x7), (8, .int x8)]) (st' := [.int (1 : Int32)]) (h' := h9) 2 rfl trivial ?_
          refine v_pick [0, 1, 2, 3, 4, 5, 6, 7] rfl ?_
          exact n92 σ h9 x5 x8 (1 : Int32) hf
    refine v_run C0 tbX5 cokX5_weeks (pc' := 56) (lv' := [(0, .ref a0), (1, .int x1), (3, .int x3), (4, .int x4), (5, .int x5), (6, .int x6), (7, .int x7)]) (st' := [.int x1, .int x7]) (h' := h) 2 rfl trivial ?_
    refine v_icmp_ge C0 cokX5_weeks rfl 158 (by decide) hf (fun _ hf => ?_) (fun _ hf => ?_)
    · obtain rfl := Option.some.inj hf
      refine v_pick [2, 3, 4] rfl ?_
      have hx := kr1 _ rfl
      subst hx
      exact kx1
    · refine v_run C0 tbX5 cokX5_weeks (pc' := 62) (lv' := [(8, .int (0 : Int32)), (0, .ref a0), (1, .int x1), (3, .int x3), (4, .int x4), (5, .int x5), (6, .int x6), (7, .int x7)]) (st' := []) (h' := h) 2 rfl trivial ?_
      obtain ⟨o5, eo5, hf⟩ := q_bd hf
      refine v_pick [1, 2, 3, 4, 5, 6, 7, 0] rfl ?_
      refine n62 x4 x6 x7 o5 (x5, (0 : Int32), σ, h) eo5 ?_
      obtain ⟨g6, hf⟩ := q_gu_o hf
      refine v_run C0 tbX5 cokX5_weeks (pc' := 149) (lv' := [(4, .int (x4 + ((q_int o5.2.2 a0 13) - x6))), (0, .ref a0), (1, .int x1), (3, .int x3), (5, .int o5.1), (6, .int x6), (7, .int x7)]) (st' := [.ref a0]) (h' := o5.2.2) 8 rfl ⟨g6, trivial⟩ ?_
      obtain ⟨σ7, h7, e7, hf⟩ := q_bd2 hf
      refine v_callV C0 cokX5_weeks rfl (rest := []) (ctX5_close a0 g6 e7) calX5_close lkX5_204 inX5_close dnX5_close (ci := 5) ⟨rfl, by decide⟩ g6 rfl rfl ⟨by decide, by decide⟩ (Nat.le_of_ble_eq_true rfl) (Nat.le_refl _) (Nat.le_refl _) ?_
      refine v_run C0 tbX5 cokX5_weeks (pc' := 53) (lv' := [(7, .int (x7 + (1 : Int32))), (4, .int (x4 + ((q_int o5.2.2 a0 13) - x6))), (0, .ref a0), (1, .int x1), (3, .int x3), (5, .int o5.1), (6, .int x6)]) (st' := []) (h' := h7) 2 rfl trivial ?_
      obtain rfl := Option.some.inj hf
      refine v_pick [2, 3, 4, 1, 5, 6, 0] rfl ?_
      exact kb1 _ rfl
  refine v_run C0 tbX5 cokX5_weeks (pc' := 11) (lv' := [(0, .ref a0), (1, .int x1), (2, .int x2), (3, .int x3)]) (st' := [.long (20 : Int64), .long (1 : Int64), .long (Int32.toInt64 x1)]) (h' := (q_si h a0 21 (0 : Int32))) 7 rfl ⟨ta0, trivial⟩ ?_
  obtain ⟨r1, e1, hf⟩ := q_bd hf
  refine v_callS C0 cokX5_weeks rfl (rest := []) (ctX5_in (Int32.toInt64 x1) (1 : Int64) (20 : Int64) e1) calX5_in lkX5_96 inX5_in dnX5_in rfl rfl ⟨by decide, by decide⟩ (Nat.le_of_ble_eq_true rfl) (Nat.le_refl _) (Nat.le_refl _) ?_
  refine v_if_eq C0 cokX5_weeks rfl 27 (by decide) hf (fun _ hf => ?_) (fun _ hf => ?_)
  · refine v_run C0 tbX5 cokX5_weeks (pc' := 28) (lv' := [(0, .ref a0), (1, .int x1), (2, .int x2), (3, .int x3)]) (st' := [.int (-1 : Int32)]) (h' := (q_si h a0 21 (0 : Int32))) 1 rfl trivial ?_
    obtain ⟨hq1, hq2⟩ := Prod.mk.inj (Option.some.inj hf)
    obtain ⟨hq3, hq4⟩ := Prod.mk.inj hq2
    subst hq1
    subst hq3
    subst hq4
    exact v_iret C0 cokX5_weeks hr hlk rfl
  · refine v_run C0 tbX5 cokX5_weeks (pc' := 21) (lv' := [(0, .ref a0), (1, .int x1), (2, .int x2), (3, .int x3)]) (st' := [.long (1 : Int64), .long (0 : Int64), .long (Int32.toInt64 x3)]) (h' := (q_si h a0 21 (0 : Int32))) 4 rfl trivial ?_
    obtain ⟨r2, e2, hf⟩ := q_bd hf
    refine v_callS C0 cokX5_weeks rfl (rest := []) (ctX5_in (Int32.toInt64 x3) (0 : Int64) (1 : Int64) e2) calX5_in lkX5_96 inX5_in dnX5_in rfl rfl ⟨by decide, by decide⟩ (Nat.le_of_ble_eq_true rfl) (Nat.le_refl _) (Nat.le_refl _) ?_
    refine v_if_ne C0 cokX5_weeks rfl 29 (by decide) hf (fun _ hf => ?_) (fun _ hf => ?_)
    · refine v_run C0 tbX5 cokX5_weeks (pc' := 28) (lv' := [(0, .ref a0), (1, .int x1), (2, .int x2), (3, .int x3)]) (st' := [.int (-1 : Int32)]) (h' := (q_si h a0 21 (0 : Int32))) 1 rfl trivial ?_
      obtain ⟨hq1, hq2⟩ := Prod.mk.inj (Option.some.inj hf)
      obtain ⟨hq3, hq4⟩ := Prod.mk.inj hq2
      subst hq1
      subst hq3
      subst hq4
      exact v_iret C0 cokX5_weeks hr hlk rfl
    · refine v_run C0 tbX5 cokX5_weeks (pc' := 47) (lv' := [(6, .int (q_int (q_si (q_si h a0 21 (0 : Int32)) a0 42 x2) a0 13)), (5, .int (0 : Int32)), (4, .int (0 : Int32)), (0, .ref a0), (1, .int x1), (2, .int x2), (3, .int x3)]) (st' := [.ref a0]) (h' := (q_si (q_si h a0 21 (0 : Int32)) a0 42 x2)) 11 rfl ⟨ta0, ta0, trivial⟩ ?_
      obtain ⟨σ3, h3, e3, hf⟩ := q_bd2 hf
      refine v_callV C0 cokX5_weeks rfl (rest := []) (ctX5_open a0 ta0 e3) calX5_open lkX5_198 inX5_open dnX5_open (ci := 5) ⟨rfl, by decide⟩ ta0 rfl rfl ⟨by decide, by decide⟩ (Nat.le_of_ble_eq_true rfl) (Nat.le_refl _) (Nat.le_refl _) ?_
      refine v_run C0 tbX5 cokX5_weeks (pc' := 53) (lv' := [(7, .int (0 : Int32)), (6, .int (q_int (q_si (q_si h a0 21 (0 : Int32)) a0 42 x2) a0 13)), (5, .int (0 : Int32)), (4, .int (0 : Int32)), (0, .ref a0), (1, .int x1), (2, .int x2), (3, .int x3)]) (st' := []) (h' := h3) 2 rfl trivial ?_
      obtain ⟨o4, eo4, hf⟩ := q_bd hf
      refine v_pick [4, 5, 7, 3, 2, 1, 0] rfl ?_
      refine n53 (q_int (q_si (q_si h a0 21 (0 : Int32)) a0 42 x2) a0 13) o4 ((0 : Int32), (0 : Int32), (0 : Int32), σ3, h3) eo4 ?_
      refine v_run C0 tbX5 cokX5_weeks (pc' := 159) (lv' := [(3, .int x3), (4, .int o4.1), (5, .int o4.2.1)]) (st' := [.int x3]) (h' := o4.2.2.2) 1 rfl trivial ?_
      refine v_if_ne C0 cokX5_weeks rfl 167 (by decide) hf (fun _ hf => ?_) (fun _ hf => ?_)
      · refine v_run C0 tbX5 cokX5_weeks (pc' := 169) (lv' := [(3, .int x3), (4, .int o4.1), (5, .int o4.2.1)]) (st' := [.int o4.1]) (h' := o4.2.2.2) 2 rfl trivial ?_
        obtain ⟨hq1, hq2⟩ := Prod.mk.inj (Option.some.inj hf)
        obtain ⟨hq3, hq4⟩ := Prod.mk.inj hq2
        subst hq1
        subst hq3
        subst hq4
        exact v_iret C0 cokX5_weeks hr hlk rfl
      · refine v_run C0 tbX5 cokX5_weeks (pc' := 169) (lv' := [(3, .int x3), (4, .int o4.1), (5, .int o4.2.1)]) (st' := [.int o4.2.1]) (h' := o4.2.2.2) 1 rfl trivial ?_
        obtain ⟨hq1, hq2⟩ := Prod.mk.inj (Option.some.inj hf)
        obtain ⟨hq3, hq4⟩ := Prod.mk.inj hq2
        subst hq1
        subst hq3
        subst hq4
        exact v_iret C0 cokX5_weeks hr hlk rfl
-- BackByNoonOnMondayModel.count(I)I
noncomputable def fX5_count_86 (σ : q_St) (a0 : Nat) (x1 : Int32) (x2 : Int32) (x3 : Int32) (h : q_Hp) : Option ((Int32 × Int32 × q_Hp) ⊕ (Int32 × q_Hp)) := (if (q_int h a0 0) ≤ x3 then some (Sum.inr (x2, h)) else q_gu ((vp_in x3 (q_len σ (q_ref σ a0 4)))) (some (Sum.inl ((x2 + (q_int h (q_ref σ a0 4) (Int32.toNatClampNeg x3))), (x3 + (1 : Int32)), h))))
noncomputable def fX5_count (σ : q_St) (h : q_Hp) (a0 : Nat) (x1 : Int32) : Option (Int32 × q_Hp) := q_gu ((q_tag σ (q_ref σ a0 4) = 7)) ((if x1 = (0 : Int32) then some ((q_int (q_si h a0 21 (0 : Int32)) a0 0), (q_si h a0 21 (0 : Int32))) else (if x1 = (1 : Int32) then some ((q_int (q_si h a0 21 (0 : Int32)) a0 6), (q_si h a0 21 (0 : Int32))) else (if x1 = (2 : Int32) then some ((q_int (q_si h a0 21 (0 : Int32)) a0 13), (q_si h a0 21 (0 : Int32))) else (if x1 = (3 : Int32) then some ((q_int (q_si h a0 21 (0 : Int32)) a0 14), (q_si h a0 21 (0 : Int32))) else (if x1 = (4 : Int32) then ((fX5_inState σ (q_si h a0 21 (0 : Int32)) a0 (x1 - (4 : Int32))).bind fun r5 => some (r5, (q_si h a0 21 (0 : Int32)))) else (if x1 = (5 : Int32) then ((fX5_inState σ (q_si h a0 21 (0 : Int32)) a0 (x1 - (4 : Int32))).bind fun r7 => some (r7, (q_si h a0 21 (0 : Int32)))) else (if x1 = (6 : Int32) then ((fX5_inState σ (q_si h a0 21 (0 : Int32)) a0 (x1 - (4 : Int32))).bind fun r9 => some (r9, (q_si h a0 21 (0 : Int32)))) else (if x1 = (7 : Int32) then (q_loop (fun s => fX5_count_86 σ a0 x1 s.1 s.2.1 s.2.2) q_N ((0 : Int32), (0 : Int32), (q_si h a0 21 (0 : Int32)))).bind fun o11 => some (o11.1, o11.2) else some ((-1 : Int32), (q_si h a0 21 (0 : Int32))))))))))))
def cdX5_count : q_Cd := [(0, .aload_n 0), (1, .iconst 0), (2, .putfield 89), (5, .iconst 0), (6, .istore_n 2), (7, .iload_n 1), (56, .aload_n 0), (57, .getfield 93), (60, .ireturn), (61, .aload_n 0), (62, .getfield 100), (65, .ireturn), (66, .aload_n 0), (67, .getfield 118), (70, .ireturn), (71, .aload_n 0), (72, .getfield 127), (75, .ireturn), (76, .aload_n 0), (77, .iload_n 1), (78, .iconst 4), (79, .isub), (80, .invokevirtual 275), (83, .ireturn), (84, .iconst 0), (85, .istore_n 3), (86, .iload_n 3), (87, .aload_n 0), (88, .getfield 93), (91, .if_icmp .ge 18), (94, .iload_n 2), (95, .aload_n 0), (96, .getfield 19), (99, .iload_n 3), (100, .iaload), (101, .iadd), (102, .istore_n 2), (103, .iinc 3 1), (106, .goto (-20)), (109, .iload_n 2), (110, .ireturn), (111, .iconst (-1)), (112, .ireturn)]
set_option maxRecDepth 100000 in
theorem cokX5_count : q_cok cX5_count cdX5_count := by unfold q_cok; decide +kernel
theorem dswX5_count_8 : decode cX5_count 8 = .ok (.tableswitch 103 0 7 #[48, 53, 58, 63, 68, 68, 68, 76], 48) := by decide +kernel
set_option maxRecDepth 100000 in
set_option maxHeartbeats 4000000 in
theorem ctX5_count {l : Launch} {D : va_G} {cy : Nat → Nat} {b0 : Nat} {σ : q_St} {h : q_Hp} (a0 : Nat) (x1 : Int32) {r : Int32} {h' : q_Hp} (ta0 : q_tag σ a0 = 6) (hf : fX5_count σ h a0 x1 = some (r, h')) : q_M l yX5_count cX5_count 4 (some .int) 1 23 0 0 D cy b0 σ h [.ref a0, .int x1] (some (.int r)) σ h' := by
  unfold fX5_count at hf
  obtain ⟨k0, hf⟩ := q_gu_o hf
  refine q_enter (by decide) (Nat.le_of_ble_eq_true rfl) ?_
  intro p e s m args below meth c C0 hr hlk hnm
  replace C0 : VC p { frames := 1, cells := 0, slots := 0, locals := 23 } s m args meth c D cy b0 4 0 0 RX5 cX5_count := C0
  have n86 : ∀ (o : (Int32 × q_Hp)) (s1 : (Int32 × Int32 × q_Hp)), q_loop (fun s => fX5_count_86 σ a0 x1 s.1 s.2.1 s.2.2) q_N s1 = some o → V p l e { frames := 1, cells := 0, slots := 0, locals := 23 } s m args below meth c (MQ below (q_Qc D cy b0 (some (.int r)) σ h') args s 0 0 (fun q => b0 ≤ q)) D cy b0 4 0 0 0 0 σ o.2 109 [(2, .int o.1)] [] → V p l e { frames := 1, cells := 0, slots := 0, locals := 23 } s m args below meth c (MQ below (q_Qc D cy b0 (some (.int r)) σ h') args s 0 0 (fun q => b0 ≤ q)) D cy b0 4 0 0 0 0 σ s1.2.2 86 [(0, .ref a0), (2, .int s1.1), (3, .int s1.2.1)] [] := by
    intro o s1 ho kx1
    refine q_loop_V (P := fun s0 => V p l e { frames := 1, cells := 0, slots := 0, locals := 23 } s m args below meth c (MQ below (q_Qc D cy b0 (some (.int r)) σ h') args s 0 0 (fun q => b0 ≤ q)) D cy b0 4 0 0 0 0 σ s0.2.2 86 [(0, .ref a0), (2, .int s0.1), (3, .int s0.2.1)] []) (o := o) ?_ q_N s1 ho
    intro s2 z1 hf kb1 kr1
    obtain ⟨x2, x3, h⟩ := s2
    replace hf : fX5_count_86 σ a0 x1 x2 x3 h = some z1 := hf
    unfold fX5_count_86 at hf
    show V p l e { frames := 1, cells := 0, slots := 0, locals := 23 } s m args below meth c (MQ below (q_Qc D cy b0 (some (.int r)) σ h') args s 0 0 (fun q => b0 ≤ q)) D cy b0 4 0 0 0 0 σ h 86 [(0, .ref a0), (2, .int x2), (3, .int x3)] []
    refine v_run C0 tbX5 cokX5_count (pc' := 91) (lv' := [(0, .ref a0), (2, .int x2), (3, .int x3)]) (st' := [.int (q_int h a0 0), .int x3]) (h' := h) 3 rfl ⟨ta0, trivial⟩ ?_
    refine v_icmp_ge C0 cokX5_count rfl 109 (by decide) hf (fun _ hf => ?_) (fun _ hf => ?_)
    · obtain rfl := Option.some.inj hf
      refine v_pick [1] rfl ?_
      have hx := kr1 _ rfl
      subst hx
      exact kx1
    · obtain ⟨g13, hf⟩ := q_gu_o hf
      refine v_run C0 tbX5 cokX5_count (pc' := 86) (lv' := [(3, .int (x3 + (1 : Int32))), (2, .int (x2 + (q_int h (q_ref σ a0 4) (Int32.toNatClampNeg x3)))), (0, .ref a0)]) (st' := []) (h' := h) 9 rfl ⟨⟨ta0, q_tn k0⟩, ⟨k0, g13⟩, trivial⟩ ?_
      obtain rfl := Option.some.inj hf
      refine v_pick [2, 1, 0] rfl ?_
      exact kb1 _ rfl
  refine v_run C0 tbX5 cokX5_count (pc' := 8) (lv' := [(2, .int (0 : Int32)), (0, .ref a0), (1, .int x1)]) (st' := [.int x1]) (h' := (q_si h a0 21 (0 : Int32))) 6 rfl ⟨ta0, trivial⟩ ?_
  rcases q_ite hf with ⟨d1, hf⟩ | ⟨d1, hf⟩
  · refine v_tabI C0 dswX5_count_8 d1 56 (by decide +kernel) (by decide +kernel) ?_
    refine v_run C0 tbX5 cokX5_count (pc' := 60) (lv' := [(2, .int (0 : Int32)), (0, .ref a0), (1, .int x1)]) (st' := [.int (q_int (q_si h a0 21 (0 : Int32)) a0 0)]) (h' := (q_si h a0 21 (0 : Int32))) 2 rfl ⟨ta0, trivial⟩ ?_
    obtain ⟨rfl, rfl⟩ := Prod.mk.inj (Option.some.inj hf)
    exact v_iret C0 cokX5_count hr hlk rfl
  · rcases q_ite hf with ⟨d2, hf⟩ | ⟨d2, hf⟩
    · refine v_tabI C0 dswX5_count_8 d2 61 (by decide +kernel) (by decide +kernel) ?_
      refine v_run C0 tbX5 cokX5_count (pc' := 65) (lv' := [(2, .int (0 : Int32)), (0, .ref a0), (1, .int x1)]) (st' := [.int (q_int (q_si h a0 21 (0 : Int32)) a0 6)]) (h' := (q_si h a0 21 (0 : Int32))) 2 rfl ⟨ta0, trivial⟩ ?_
      obtain ⟨rfl, rfl⟩ := Prod.mk.inj (Option.some.inj hf)
      exact v_iret C0 cokX5_count hr hlk rfl
    · rcases q_ite hf with ⟨d3, hf⟩ | ⟨d3, hf⟩
      · refine v_tabI C0 dswX5_count_8 d3 66 (by decide +kernel) (by decide +kernel) ?_
        refine v_run C0 tbX5 cokX5_count (pc' := 70) (lv' := [(2, .int (0 : Int32)), (0, .ref a0), (1, .int x1)]) (st' := [.int (q_int (q_si h a0 21 (0 : Int32)) a0 13)]) (h' := (q_si h a0 21 (0 : Int32))) 2 rfl ⟨ta0, trivial⟩ ?_
        obtain ⟨rfl, rfl⟩ := Prod.mk.inj (Option.some.inj hf)
        exact v_iret C0 cokX5_count hr hlk rfl
      · rcases q_ite hf with ⟨d4, hf⟩ | ⟨d4, hf⟩
        · refine v_tabI C0 dswX5_count_8 d4 71 (by decide +kernel) (by decide +kernel) ?_
          refine v_run C0 tbX5 cokX5_count (pc' := 75) (lv' := [(2, .int (0 : Int32)), (0, .ref a0), (1, .int x1)]) (st' := [.int (q_int (q_si h a0 21 (0 : Int32)) a0 14)]) (h' := (q_si h a0 21 (0 : Int32))) 2 rfl ⟨ta0, trivial⟩ ?_
          obtain ⟨rfl, rfl⟩ := Prod.mk.inj (Option.some.inj hf)
          exact v_iret C0 cokX5_count hr hlk rfl
        · rcases q_ite hf with ⟨d6, hf⟩ | ⟨d6, hf⟩
          · refine v_tabI C0 dswX5_count_8 d6 76 (by decide +kernel) (by decide +kernel) ?_
            refine v_run C0 tbX5 cokX5_count (pc' := 80) (lv' := [(2, .int (0 : Int32)), (0, .ref a0), (1, .int x1)]) (st' := [.int (x1 - (4 : Int32)), .ref a0]) (h' := (q_si h a0 21 (0 : Int32))) 4 rfl trivial ?_
            obtain ⟨r5, e5, hf⟩ := q_bd hf
            refine v_callV C0 cokX5_count rfl (rest := []) (ctX5_inState a0 (x1 - (4 : Int32)) ta0 e5) calX5_inState lkX5_275 inX5_inState dnX5_inState (ci := 5) ⟨rfl, by decide⟩ ta0 rfl rfl ⟨by decide, by decide⟩ (Nat.le_of_ble_eq_true rfl) (Nat.le_refl _) (Nat.le_refl _) ?_
            obtain ⟨rfl, rfl⟩ := Prod.mk.inj (Option.some.inj hf)
            exact v_iret C0 cokX5_count hr hlk rfl
          · rcases q_ite hf with ⟨d8, hf⟩ | ⟨d8, hf⟩
            · refine v_tabI C0 dswX5_count_8 d8 76 (by decide +kernel) (by decide +kernel) ?_
              refine v_run C0 tbX5 cokX5_count (pc' := 80) (lv' := [(2, .int (0 : Int32)), (0, .ref a0), (1, .int x1)]) (st' := [.int (x1 - (4 : Int32)), .ref a0]) (h' := (q_si h a0 21 (0 : Int32))) 4 rfl trivial ?_
              obtain ⟨r7, e7, hf⟩ := q_bd hf
              refine v_callV C0 cokX5_count rfl (rest := []) (ctX5_inState a0 (x1 - (4 : Int32)) ta0 e7) calX5_inState lkX5_275 inX5_inState dnX5_inState (ci := 5) ⟨rfl, by decide⟩ ta0 rfl rfl ⟨by decide, by decide⟩ (Nat.le_of_ble_eq_true rfl) (Nat.le_refl _) (Nat.le_refl _) ?_
              obtain ⟨rfl, rfl⟩ := Prod.mk.inj (Option.some.inj hf)
              exact v_iret C0 cokX5_count hr hlk rfl
            · rcases q_ite hf with ⟨d10, hf⟩ | ⟨d10, hf⟩
              · refine v_tabI C0 dswX5_count_8 d10 76 (by decide +kernel) (by decide +kernel) ?_
                refine v_run C0 tbX5 cokX5_count (pc' := 80) (lv' := [(2, .int (0 : Int32)), (0, .ref a0), (1, .int x1)]) (st' := [.int (x1 - (4 : Int32)), .ref a0]) (h' := (q_si h a0 21 (0 : Int32))) 4 rfl trivial ?_
                obtain ⟨r9, e9, hf⟩ := q_bd hf
                refine v_callV C0 cokX5_count rfl (rest := []) (ctX5_inState a0 (x1 - (4 : Int32)) ta0 e9) calX5_inState lkX5_275 inX5_inState dnX5_inState (ci := 5) ⟨rfl, by decide⟩ ta0 rfl rfl ⟨by decide, by decide⟩ (Nat.le_of_ble_eq_true rfl) (Nat.le_refl _) (Nat.le_refl _) ?_
                obtain ⟨rfl, rfl⟩ := Prod.mk.inj (Option.some.inj hf)
                exact v_iret C0 cokX5_count hr hlk rfl
              · rcases q_ite hf with ⟨d12, hf⟩ | ⟨d12, hf⟩
                · refine v_tabI C0 dswX5_count_8 d12 84 (by decide +kernel) (by decide +kernel) ?_
                  refine v_run C0 tbX5 cokX5_count (pc' := 86) (lv' := [(3, .int (0 : Int32)), (2, .int (0 : Int32)), (0, .ref a0), (1, .int x1)]) (st' := []) (h' := (q_si h a0 21 (0 : Int32))) 2 rfl trivial ?_
                  obtain ⟨o11, eo11, hf⟩ := q_bd hf
                  refine v_pick [2, 1, 0] rfl ?_
                  refine n86 o11 ((0 : Int32), (0 : Int32), (q_si h a0 21 (0 : Int32))) eo11 ?_
                  refine v_run C0 tbX5 cokX5_count (pc' := 110) (lv' := [(2, .int o11.1)]) (st' := [.int o11.1]) (h' := o11.2) 1 rfl trivial ?_
                  obtain ⟨rfl, rfl⟩ := Prod.mk.inj (Option.some.inj hf)
                  exact v_iret C0 cokX5_count hr hlk rfl
                · refine v_tabO C0 dswX5_count_8 111 (by decide +kernel) (fun k h1 h2 hk => ?_) ?_
                  · have hk2 : k = 0 ∨ k = 1 ∨ k = 2 ∨ k = 3 ∨ k = 4 ∨ k = 5 ∨ k = 6 ∨ k = 7 := by omega
                    rcases hk2 with rfl | rfl | rfl | rfl | rfl | rfl | rfl | rfl
                    · exact d1 (Int32.toInt_inj.mp hk)
                    · exact d2 (Int32.toInt_inj.mp hk)
                    · exact d3 (Int32.toInt_inj.mp hk)
                    · exact d4 (Int32.toInt_inj.mp hk)
                    · exact d6 (Int32.toInt_inj.mp hk)
                    · exact d8 (Int32.toInt_inj.mp hk)
                    · exact d10 (Int32.toInt_inj.mp hk)
                    · exact d12 (Int32.toInt_inj.mp hk)
                  · refine v_run C0 tbX5 cokX5_count (pc' := 112) (lv' := [(2, .int (0 : Int32)), (0, .ref a0), (1, .int x1)]) (st' := [.int (-1 : Int32)]) (h' := (q_si h a0 21 (0 : Int32))) 1 rfl trivial ?_
                    obtain ⟨rfl, rfl⟩ := Prod.mk.inj (Option.some.inj hf)
                    exact v_iret C0 cokX5_count hr hlk rfl
-- BackByNoonOnMondayModel.keep(IIII)I
noncomputable def fX5_keep_98 (σ : q_St) (h : q_Hp) (a0 : Nat) (x1 : Int32) (x2 : Int32) (x3 : Int32) (x4 : Int32) (s0 : Int32) (s1 : Int32) (s2 : Nat) : Option (Int32 × q_Hp) := q_gu ((q_tag σ s2 = 7) ∧ (vp_in s1 (q_len σ s2))) (some ((0 : Int32), (q_si h s2 (Int32.toNatClampNeg s1) s0)))
noncomputable def fX5_keep_81 (σ : q_St) (h : q_Hp) (a0 : Nat) (x1 : Int32) (x2 : Int32) (x3 : Int32) (x4 : Int32) (s0 : Int32) (s1 : Int32) (s2 : Nat) : Option (Int32 × q_Hp) := q_gu ((q_tag σ s2 = 7) ∧ (vp_in s1 (q_len σ s2))) ((if x2 = (1 : Int32) then fX5_keep_98 σ (q_si h s2 (Int32.toNatClampNeg s1) s0) a0 x1 x2 x3 x4 x4 x1 (q_ref σ a0 17) else fX5_keep_98 σ (q_si h s2 (Int32.toNatClampNeg s1) s0) a0 x1 x2 x3 x4 (0 : Int32) x1 (q_ref σ a0 17)))
noncomputable def fX5_keep_59 (σ : q_St) (h : q_Hp) (a0 : Nat) (x1 : Int32) (x2 : Int32) (x3 : Int32) (x4 : Int32) : Option (Int32 × q_Hp) := q_gu ((vp_in x1 (q_len σ (q_ref σ a0 15)))) ((if x2 = (1 : Int32) then fX5_keep_81 σ (q_si h (q_ref σ a0 15) (Int32.toNatClampNeg x1) x2) a0 x1 x2 x3 x4 x3 x1 (q_ref σ a0 16) else fX5_keep_81 σ (q_si h (q_ref σ a0 15) (Int32.toNatClampNeg x1) x2) a0 x1 x2 x3 x4 (0 : Int32) x1 (q_ref σ a0 16)))
noncomputable def fX5_keep (σ : q_St) (h : q_Hp) (a0 : Nat) (x1 : Int32) (x2 : Int32) (x3 : Int32) (x4 : Int32) : Option (Int32 × q_Hp) := q_gu ((q_tag σ (q_ref σ a0 15) = 7) ∧ (q_tag σ (q_ref σ a0 16) = 7) ∧ (q_tag σ (q_ref σ a0 17) = 7)) (((fX5_in σ (q_si h a0 21 (0 : Int32)) (Int32.toInt64 x1) (0 : Int64) (7 : Int64)).bind fun r1 => (if r1 = 0 then some ((-1 : Int32), (q_si h a0 21 (0 : Int32))) else ((fX5_in σ (q_si h a0 21 (0 : Int32)) (Int32.toInt64 x2) (0 : Int64) (1 : Int64)).bind fun r2 => (if r2 = 0 then some ((-1 : Int32), (q_si h a0 21 (0 : Int32))) else (if x2 = (1 : Int32) then ((fX5_in σ (q_si h a0 21 (0 : Int32)) (Int32.toInt64 x3) (0 : Int64) (7 : Int64)).bind fun r3 => (if r3 = 0 then some ((-1 : Int32), (q_si h a0 21 (0 : Int32))) else ((fX5_in σ (q_si h a0 21 (0 : Int32)) (Int32.toInt64 x4) (0 : Int64) (9 : Int64)).bind fun r4 => (if r4 = 0 then some ((-1 : Int32), (q_si h a0 21 (0 : Int32))) else fX5_keep_59 σ (q_si h a0 21 (0 : Int32)) a0 x1 x2 x3 x4)))) else fX5_keep_59 σ (q_si h a0 21 (0 : Int32)) a0 x1 x2 x3 x4))))))
def cdX5_keep : q_Cd := [(0, .aload_n 0), (1, .iconst 0), (2, .putfield 89), (5, .iload_n 1), (6, .i2l), (7, .lconst 0), (8, .ldc2_w 229), (11, .invokestatic 96), (14, .ifCond .eq 43), (17, .iload_n 2), (18, .i2l), (19, .lconst 0), (20, .lconst 1), (21, .invokestatic 96), (24, .ifCond .eq 33), (27, .iload_n 2), (28, .iconst 1), (29, .if_icmp .ne 30), (32, .iload_n 3), (33, .i2l), (34, .lconst 0), (35, .ldc2_w 229), (38, .invokestatic 96), (41, .ifCond .eq 16), (44, .iload 4), (46, .i2l), (47, .lconst 0), (48, .ldc2_w 357), (51, .invokestatic 96), (54, .ifCond .ne 5), (57, .iconst (-1)), (58, .ireturn), (59, .aload_n 0), (60, .getfield 43), (63, .iload_n 1), (64, .iload_n 2), (65, .iastore), (66, .aload_n 0), (67, .getfield 46), (70, .iload_n 1), (71, .iload_n 2), (72, .iconst 1), (73, .if_icmp .ne 7), (76, .iload_n 3), (77, .goto 4), (80, .iconst 0), (81, .iastore), (82, .aload_n 0), (83, .getfield 49), (86, .iload_n 1), (87, .iload_n 2), (88, .iconst 1), (89, .if_icmp .ne 8), (92, .iload 4), (94, .goto 4), (97, .iconst 0), (98, .iastore), (99, .iconst 0), (100, .ireturn)]
set_option maxRecDepth 100000 in
theorem cokX5_keep : q_cok cX5_keep cdX5_keep := by unfold q_cok; decide +kernel
set_option maxRecDepth 100000 in
set_option maxHeartbeats 4000000 in
theorem ctX5_keep {l : Launch} {D : va_G} {cy : Nat → Nat} {b0 : Nat} {σ : q_St} {h : q_Hp} (a0 : Nat) (x1 : Int32) (x2 : Int32) (x3 : Int32) (x4 : Int32) {r : Int32} {h' : q_Hp} (ta0 : q_tag σ a0 = 6) (hf : fX5_keep σ h a0 x1 x2 x3 x4 = some (r, h')) : q_M l yX5_keep cX5_keep 5 (some .int) 1 25 0 0 D cy b0 σ h [.ref a0, .int x1, .int x2, .int x3, .int x4] (some (.int r)) σ h' := by
  unfold fX5_keep at hf
  obtain ⟨⟨k0, k1, k2⟩, hf⟩ := q_gu_o hf
  refine q_enter (by decide) (Nat.le_of_ble_eq_true rfl) ?_
  intro p e s m args below meth c C0 hr hlk hnm
  replace C0 : VC p { frames := 1, cells := 0, slots := 0, locals := 25 } s m args meth c D cy b0 5 0 0 RX5 cX5_keep := C0
  have n98 : ∀ (h : q_Hp) (s0 : Int32) (s1 : Int32) (s2 : Nat), fX5_keep_98 σ h a0 x1 x2 x3 x4 s0 s1 s2 = some (r, h') → V p l e { frames := 1, cells := 0, slots := 0, locals := 25 } s m args below meth c (MQ below (q_Qc D cy b0 (some (.int r)) σ h') args s 0 0 (fun q => b0 ≤ q)) D cy b0 5 0 0 0 0 σ h 98 [] [.int s0, .int s1, .ref s2] := by
    intro h s0 s1 s2 hf
    unfold fX5_keep_98 at hf
    obtain ⟨⟨g8, g9⟩, hf⟩ := q_gu_o hf
    refine v_run C0 tbX5 cokX5_keep (pc' := 100) (lv' := []) (st' := [.int (0 : Int32)]) (h' := (q_si h s2 (Int32.toNatClampNeg s1) s0)) 2 rfl ⟨⟨g8, g9⟩, trivial⟩ ?_
    obtain ⟨rfl, rfl⟩ := Prod.mk.inj (Option.some.inj hf)
    exact v_iret C0 cokX5_keep hr hlk rfl
  have n81 : ∀ (h : q_Hp) (s0 : Int32) (s1 : Int32) (s2 : Nat), fX5_keep_81 σ h a0 x1 x2 x3 x4 s0 s1 s2 = some (r, h') → V p l e { frames := 1, cells := 0, slots := 0, locals := 25 } s m args below meth c (MQ below (q_Qc D cy b0 (some (.int r)) σ h') args s 0 0 (fun q => b0 ≤ q)) D cy b0 5 0 0 0 0 σ h 81 [(0, .ref a0), (1, .int x1), (2, .int x2), (4, .int x4)] [.int s0, .int s1, .ref s2] := by
    intro h s0 s1 s2 hf
    unfold fX5_keep_81 at hf
    obtain ⟨⟨g6, g7⟩, hf⟩ := q_gu_o hf
    refine v_run C0 tbX5 cokX5_keep (pc' := 89) (lv' := [(0, .ref a0), (1, .int x1), (2, .int x2), (4, .int x4)]) (st' := [.int (1 : Int32), .int x2, .int x1, .ref (q_ref σ a0 17)]) (h' := (q_si h s2 (Int32.toNatClampNeg s1) s0)) 6 rfl ⟨⟨g6, g7⟩, ⟨ta0, q_tn k2⟩, trivial⟩ ?_
    refine v_icmp_ne C0 cokX5_keep rfl 97 (by decide) hf (fun _ hf => ?_) (fun _ hf => ?_)
    · refine v_run C0 tbX5 cokX5_keep (pc' := 98) (lv' := [(0, .ref a0), (1, .int x1), (2, .int x2), (4, .int x4)]) (st' := [.int x4, .int x1, .ref (q_ref σ a0 17)]) (h' := (q_si h s2 (Int32.toNatClampNeg s1) s0)) 2 rfl trivial ?_
      refine v_pick [] rfl ?_
      exact n98 (q_si h s2 (Int32.toNatClampNeg s1) s0) x4 x1 (q_ref σ a0 17) hf
    · refine v_run C0 tbX5 cokX5_keep (pc' := 98) (lv' := [(0, .ref a0), (1, .int x1), (2, .int x2), (4, .int x4)]) (st' := [.int (0 : Int32), .int x1, .ref (q_ref σ a0 17)]) (h' := (q_si h s2 (Int32.toNatClampNeg s1) s0)) 1 rfl trivial ?_
      refine v_pick [] rfl ?_
      exact n98 (q_si h s2 (Int32.toNatClampNeg s1) s0) (0 : Int32) x1 (q_ref σ a0 17) hf
  have n59 : ∀ (h : q_Hp), fX5_keep_59 σ h a0 x1 x2 x3 x4 = some (r, h') → V p l e { frames := 1, cells := 0, slots := 0, locals := 25 } s m args below meth c (MQ below (q_Qc D cy b0 (some (.int r)) σ h') args s 0 0 (fun q => b0 ≤ q)) D cy b0 5 0 0 0 0 σ h 59 [(0, .ref a0), (1, .int x1), (2, .int x2), (3, .int x3), (4, .int x4)] [] := by
    intro h hf
    unfold fX5_keep_59 at hf
    obtain ⟨g5, hf⟩ := q_gu_o hf
    refine v_run C0 tbX5 cokX5_keep (pc' := 73) (lv' := [(0, .ref a0), (1, .int x1), (2, .int x2), (3, .int x3), (4, .int x4)]) (st' := [.int (1 : Int32), .int x2, .int x1, .ref (q_ref σ a0 16)]) (h' := (q_si h (q_ref σ a0 15) (Int32.toNatClampNeg x1) x2)) 10 rfl ⟨⟨ta0, q_tn k0⟩, ⟨k0, g5⟩, ⟨ta0, q_tn k1⟩, trivial⟩ ?_
    refine v_icmp_ne C0 cokX5_keep rfl 80 (by decide) hf (fun _ hf => ?_) (fun _ hf => ?_)
    · refine v_run C0 tbX5 cokX5_keep (pc' := 81) (lv' := [(0, .ref a0), (1, .int x1), (2, .int x2), (3, .int x3), (4, .int x4)]) (st' := [.int x3, .int x1, .ref (q_ref σ a0 16)]) (h' := (q_si h (q_ref σ a0 15) (Int32.toNatClampNeg x1) x2)) 2 rfl trivial ?_
      refine v_pick [0, 1, 2, 4] rfl ?_
      exact n81 (q_si h (q_ref σ a0 15) (Int32.toNatClampNeg x1) x2) x3 x1 (q_ref σ a0 16) hf
    · refine v_run C0 tbX5 cokX5_keep (pc' := 81) (lv' := [(0, .ref a0), (1, .int x1), (2, .int x2), (3, .int x3), (4, .int x4)]) (st' := [.int (0 : Int32), .int x1, .ref (q_ref σ a0 16)]) (h' := (q_si h (q_ref σ a0 15) (Int32.toNatClampNeg x1) x2)) 1 rfl trivial ?_
      refine v_pick [0, 1, 2, 4] rfl ?_
      exact n81 (q_si h (q_ref σ a0 15) (Int32.toNatClampNeg x1) x2) (0 : Int32) x1 (q_ref σ a0 16) hf
  refine v_run C0 tbX5 cokX5_keep (pc' := 11) (lv' := [(0, .ref a0), (1, .int x1), (2, .int x2), (3, .int x3), (4, .int x4)]) (st' := [.long (7 : Int64), .long (0 : Int64), .long (Int32.toInt64 x1)]) (h' := (q_si h a0 21 (0 : Int32))) 7 rfl ⟨ta0, trivial⟩ ?_
  obtain ⟨r1, e1, hf⟩ := q_bd hf
  refine v_callS C0 cokX5_keep rfl (rest := []) (ctX5_in (Int32.toInt64 x1) (0 : Int64) (7 : Int64) e1) calX5_in lkX5_96 inX5_in dnX5_in rfl rfl ⟨by decide, by decide⟩ (Nat.le_of_ble_eq_true rfl) (Nat.le_refl _) (Nat.le_refl _) ?_
  refine v_if_eq C0 cokX5_keep rfl 57 (by decide) hf (fun _ hf => ?_) (fun _ hf => ?_)
  · refine v_run C0 tbX5 cokX5_keep (pc' := 58) (lv' := [(0, .ref a0), (1, .int x1), (2, .int x2), (3, .int x3), (4, .int x4)]) (st' := [.int (-1 : Int32)]) (h' := (q_si h a0 21 (0 : Int32))) 1 rfl trivial ?_
    obtain ⟨rfl, rfl⟩ := Prod.mk.inj (Option.some.inj hf)
    exact v_iret C0 cokX5_keep hr hlk rfl
  · refine v_run C0 tbX5 cokX5_keep (pc' := 21) (lv' := [(0, .ref a0), (1, .int x1), (2, .int x2), (3, .int x3), (4, .int x4)]) (st' := [.long (1 : Int64), .long (0 : Int64), .long (Int32.toInt64 x2)]) (h' := (q_si h a0 21 (0 : Int32))) 4 rfl trivial ?_
    obtain ⟨r2, e2, hf⟩ := q_bd hf
    refine v_callS C0 cokX5_keep rfl (rest := []) (ctX5_in (Int32.toInt64 x2) (0 : Int64) (1 : Int64) e2) calX5_in lkX5_96 inX5_in dnX5_in rfl rfl ⟨by decide, by decide⟩ (Nat.le_of_ble_eq_true rfl) (Nat.le_refl _) (Nat.le_refl _) ?_
    refine v_if_eq C0 cokX5_keep rfl 57 (by decide) hf (fun _ hf => ?_) (fun _ hf => ?_)
    · refine v_run C0 tbX5 cokX5_keep (pc' := 58) (lv' := [(0, .ref a0), (1, .int x1), (2, .int x2), (3, .int x3), (4, .int x4)]) (st' := [.int (-1 : Int32)]) (h' := (q_si h a0 21 (0 : Int32))) 1 rfl trivial ?_
      obtain ⟨rfl, rfl⟩ := Prod.mk.inj (Option.some.inj hf)
      exact v_iret C0 cokX5_keep hr hlk rfl
    · refine v_run C0 tbX5 cokX5_keep (pc' := 29) (lv' := [(0, .ref a0), (1, .int x1), (2, .int x2), (3, .int x3), (4, .int x4)]) (st' := [.int (1 : Int32), .int x2]) (h' := (q_si h a0 21 (0 : Int32))) 2 rfl trivial ?_
      refine v_icmp_ne C0 cokX5_keep rfl 59 (by decide) hf (fun _ hf => ?_) (fun _ hf => ?_)
      · refine v_run C0 tbX5 cokX5_keep (pc' := 38) (lv' := [(0, .ref a0), (1, .int x1), (2, .int x2), (3, .int x3), (4, .int x4)]) (st' := [.long (7 : Int64), .long (0 : Int64), .long (Int32.toInt64 x3)]) (h' := (q_si h a0 21 (0 : Int32))) 4 rfl trivial ?_
        obtain ⟨r3, e3, hf⟩ := q_bd hf
        refine v_callS C0 cokX5_keep rfl (rest := []) (ctX5_in (Int32.toInt64 x3) (0 : Int64) (7 : Int64) e3) calX5_in lkX5_96 inX5_in dnX5_in rfl rfl ⟨by decide, by decide⟩ (Nat.le_of_ble_eq_true rfl) (Nat.le_refl _) (Nat.le_refl _) ?_
        refine v_if_eq C0 cokX5_keep rfl 57 (by decide) hf (fun _ hf => ?_) (fun _ hf => ?_)
        · refine v_run C0 tbX5 cokX5_keep (pc' := 58) (lv' := [(0, .ref a0), (1, .int x1), (2, .int x2), (3, .int x3), (4, .int x4)]) (st' := [.int (-1 : Int32)]) (h' := (q_si h a0 21 (0 : Int32))) 1 rfl trivial ?_
          obtain ⟨rfl, rfl⟩ := Prod.mk.inj (Option.some.inj hf)
          exact v_iret C0 cokX5_keep hr hlk rfl
        · refine v_run C0 tbX5 cokX5_keep (pc' := 51) (lv' := [(0, .ref a0), (1, .int x1), (2, .int x2), (3, .int x3), (4, .int x4)]) (st' := [.long (9 : Int64), .long (0 : Int64), .long (Int32.toInt64 x4)]) (h' := (q_si h a0 21 (0 : Int32))) 4 rfl trivial ?_
          obtain ⟨r4, e4, hf⟩ := q_bd hf
          refine v_callS C0 cokX5_keep rfl (rest := []) (ctX5_in (Int32.toInt64 x4) (0 : Int64) (9 : Int64) e4) calX5_in lkX5_96 inX5_in dnX5_in rfl rfl ⟨by decide, by decide⟩ (Nat.le_of_ble_eq_true rfl) (Nat.le_refl _) (Nat.le_refl _) ?_
          refine v_if_ne C0 cokX5_keep rfl 59 (by decide) hf (fun _ hf => ?_) (fun _ hf => ?_)
          · refine v_run C0 tbX5 cokX5_keep (pc' := 58) (lv' := [(0, .ref a0), (1, .int x1), (2, .int x2), (3, .int x3), (4, .int x4)]) (st' := [.int (-1 : Int32)]) (h' := (q_si h a0 21 (0 : Int32))) 1 rfl trivial ?_
            obtain ⟨rfl, rfl⟩ := Prod.mk.inj (Option.some.inj hf)
            exact v_iret C0 cokX5_keep hr hlk rfl
          · refine v_pick [0, 1, 2, 3, 4] rfl ?_
            exact n59 (q_si h a0 21 (0 : Int32)) hf
      · refine v_pick [0, 1, 2, 3, 4] rfl ?_
        exact n59 (q_si h a0 21 (0 : Int32)) hf
-- BackByNoonOnMondayModel.narrowed(II)J
noncomputable def fX5_narrowed (σ : q_St) (h : q_Hp) (x0 : Int32) (x1 : Int32) : Option Int64 := (if x1 = 0 then some (Int32.toInt64 (Int8.toInt32 (Int32.toInt8 x0))) else (if x1 = (1 : Int32) then some (Int32.toInt64 (Int16.toInt32 (Int32.toInt16 x0))) else some (Int32.toInt64 x0)))
def cdX5_narrowed : q_Cd := [(0, .iload_n 1), (1, .ifCond .ne 9), (4, .iload_n 0), (5, .i2b), (6, .i2l), (7, .goto 16), (10, .iload_n 1), (11, .iconst 1), (12, .if_icmp .ne 9), (15, .iload_n 0), (16, .i2s), (17, .i2l), (18, .goto 5), (21, .iload_n 0), (22, .i2l), (23, .lreturn)]
set_option maxRecDepth 100000 in
theorem cokX5_narrowed : q_cok cX5_narrowed cdX5_narrowed := by unfold q_cok; decide +kernel
set_option maxRecDepth 100000 in
set_option maxHeartbeats 4000000 in
theorem ctX5_narrowed {l : Launch} {D : va_G} {cy : Nat → Nat} {b0 : Nat} {σ : q_St} {h : q_Hp} (x0 : Int32) (x1 : Int32) {r : Int64} (hf : fX5_narrowed σ h x0 x1 = some r) : q_M l yX5_narrowed cX5_narrowed 2 (some .long) 0 0 0 0 D cy b0 σ h [.int x0, .int x1] (some (.long r)) σ h := by
  unfold fX5_narrowed at hf
  refine q_enter (by decide) (Nat.le_of_ble_eq_true rfl) ?_
  intro p e s m args below meth c C0 hr hlk hnm
  replace C0 : VC p { frames := 0, cells := 0, slots := 0, locals := 0 } s m args meth c D cy b0 2 0 0 RX5 cX5_narrowed := C0
  refine v_run C0 tbX5 cokX5_narrowed (pc' := 1) (lv' := [(0, .int x0), (1, .int x1)]) (st' := [.int x1]) (h' := h) 1 rfl trivial ?_
  refine v_if_ne C0 cokX5_narrowed rfl 10 (by decide) hf (fun _ hf => ?_) (fun _ hf => ?_)
  · refine v_run C0 tbX5 cokX5_narrowed (pc' := 23) (lv' := [(0, .int x0), (1, .int x1)]) (st' := [.long (Int32.toInt64 (Int8.toInt32 (Int32.toInt8 x0)))]) (h' := h) 4 rfl trivial ?_
    obtain rfl := Option.some.inj hf
    exact v_lret C0 cokX5_narrowed hr hlk rfl
  · refine v_run C0 tbX5 cokX5_narrowed (pc' := 12) (lv' := [(0, .int x0), (1, .int x1)]) (st' := [.int (1 : Int32), .int x1]) (h' := h) 2 rfl trivial ?_
    refine v_icmp_ne C0 cokX5_narrowed rfl 21 (by decide) hf (fun _ hf => ?_) (fun _ hf => ?_)
    · refine v_run C0 tbX5 cokX5_narrowed (pc' := 23) (lv' := [(0, .int x0), (1, .int x1)]) (st' := [.long (Int32.toInt64 (Int16.toInt32 (Int32.toInt16 x0)))]) (h' := h) 4 rfl trivial ?_
      obtain rfl := Option.some.inj hf
      exact v_lret C0 cokX5_narrowed hr hlk rfl
    · refine v_run C0 tbX5 cokX5_narrowed (pc' := 23) (lv' := [(0, .int x0), (1, .int x1)]) (st' := [.long (Int32.toInt64 x0)]) (h' := h) 2 rfl trivial ?_
      obtain rfl := Option.some.inj hf
      exact v_lret C0 cokX5_narrowed hr hlk rfl
-- BackByNoonOnMondayModel.row(III)I
noncomputable def fX5_row_68 (σ : q_St) (a0 : Nat) (x1 : Int32) (x2 : Int32) (x3 : Int32) (x4 : Int32) (h : q_Hp) : Option ((Int32 × q_Hp) ⊕ q_Hp) := (if (100 : Int32) ≤ x4 then some (Sum.inr h) else q_gu ((vp_in (((100 : Int32) * x1) + x4) (q_len σ (q_ref σ a0 20)))) (some (Sum.inl ((x4 + (1 : Int32)), (q_sj h (q_ref σ a0 20) (Int32.toNatClampNeg (((100 : Int32) * x1) + x4)) (0 : Int64))))))
noncomputable def fX5_row (σ : q_St) (h : q_Hp) (a0 : Nat) (x1 : Int32) (x2 : Int32) (x3 : Int32) : Option (Int32 × q_Hp) := q_gu ((q_tag σ (q_ref σ a0 15) = 7) ∧ (q_tag σ (q_ref σ a0 18) = 7) ∧ (q_tag σ (q_ref σ a0 19) = 7) ∧ (q_tag σ (q_ref σ a0 20) = 8)) (((fX5_in σ (q_si h a0 21 (0 : Int32)) (Int32.toInt64 x1) (0 : Int64) (7 : Int64)).bind fun r1 => (if r1 = 0 then some ((-1 : Int32), (q_si h a0 21 (0 : Int32))) else ((fX5_in σ (q_si h a0 21 (0 : Int32)) (Int32.toInt64 x2) (0 : Int64) (2 : Int64)).bind fun r2 => (if r2 = 0 then some ((-1 : Int32), (q_si h a0 21 (0 : Int32))) else (if x3 ≤ (100 : Int32) then (if 0 ≤ x3 then q_gu ((vp_in x1 (q_len σ (q_ref σ a0 15))) ∧ (vp_in x1 (q_len σ (q_ref σ a0 18))) ∧ (vp_in x1 (q_len σ (q_ref σ a0 19)))) ((q_loop (fun s => fX5_row_68 σ a0 x1 x2 x3 s.1 s.2) q_N ((0 : Int32), (q_si (q_si (q_si (q_si h a0 21 (0 : Int32)) (q_ref σ a0 15) (Int32.toNatClampNeg x1) (2 : Int32)) (q_ref σ a0 18) (Int32.toNatClampNeg x1) x2) (q_ref σ a0 19) (Int32.toNatClampNeg x1) x3))).bind fun o6 => some ((0 : Int32), o6)) else some ((-14 : Int32), (q_si h a0 21 (0 : Int32)))) else some ((-1 : Int32), (q_si h a0 21 (0 : Int32)))))))))
def cdX5_row : q_Cd := [(0, .aload_n 0), (1, .iconst 0), (2, .putfield 89), (5, .iload_n 1), (6, .i2l), (7, .lconst 0), (8, .ldc2_w 229), (11, .invokestatic 96), (14, .ifCond .eq 21), (17, .iload_n 2), (18, .i2l), (19, .lconst 0), (20, .ldc2_w 319), (23, .invokestatic 96), (26, .ifCond .eq 9), (29, .iload_n 3), (30, .bipush 100), (32, .if_icmp .le 5), (35, .iconst (-1)), (36, .ireturn), (37, .iload_n 3), (38, .ifCond .ge 6), (41, .bipush (-14)), (43, .ireturn), (44, .aload_n 0), (45, .getfield 43), (48, .iload_n 1), (49, .iconst 2), (50, .iastore), (51, .aload_n 0), (52, .getfield 52), (55, .iload_n 1), (56, .iload_n 2), (57, .iastore), (58, .aload_n 0), (59, .getfield 55), (62, .iload_n 1), (63, .iload_n 3), (64, .iastore), (65, .iconst 0), (66, .istore 4), (68, .iload 4), (70, .bipush 100), (72, .if_icmp .ge 22), (75, .aload_n 0), (76, .getfield 58), (79, .bipush 100), (81, .iload_n 1), (82, .imul), (83, .iload 4), (85, .iadd), (86, .lconst 0), (87, .lastore), (88, .iinc 4 1), (91, .goto (-23)), (94, .iconst 0), (95, .ireturn)]
set_option maxRecDepth 100000 in
theorem cokX5_row : q_cok cX5_row cdX5_row := by unfold q_cok; decide +kernel
set_option maxRecDepth 100000 in
set_option maxHeartbeats 4000000 in
theorem ctX5_row {l : Launch} {D : va_G} {cy : Nat → Nat} {b0 : Nat} {σ : q_St} {h : q_Hp} (a0 : Nat) (x1 : Int32) (x2 : Int32) (x3 : Int32) {r : Int32} {h' : q_Hp} (ta0 : q_tag σ a0 = 6) (hf : fX5_row σ h a0 x1 x2 x3 = some (r, h')) : q_M l yX5_row cX5_row 5 (some .int) 1 25 0 0 D cy b0 σ h [.ref a0, .int x1, .int x2, .int x3] (some (.int r)) σ h' := by
  unfold fX5_row at hf
  obtain ⟨⟨k0, k1, k2, k3⟩, hf⟩ := q_gu_o hf
  refine q_enter (by decide) (Nat.le_of_ble_eq_true rfl) ?_
  intro p e s m args below meth c C0 hr hlk hnm
  replace C0 : VC p { frames := 1, cells := 0, slots := 0, locals := 25 } s m args meth c D cy b0 5 0 0 RX5 cX5_row := C0
  have n68 : ∀ (o : q_Hp) (s1 : (Int32 × q_Hp)), q_loop (fun s => fX5_row_68 σ a0 x1 x2 x3 s.1 s.2) q_N s1 = some o → V p l e { frames := 1, cells := 0, slots := 0, locals := 25 } s m args below meth c (MQ below (q_Qc D cy b0 (some (.int r)) σ h') args s 0 0 (fun q => b0 ≤ q)) D cy b0 5 0 0 0 0 σ o 94 [] [] → V p l e { frames := 1, cells := 0, slots := 0, locals := 25 } s m args below meth c (MQ below (q_Qc D cy b0 (some (.int r)) σ h') args s 0 0 (fun q => b0 ≤ q)) D cy b0 5 0 0 0 0 σ s1.2 68 [(0, .ref a0), (1, .int x1), (4, .int s1.1)] [] := by
    intro o s1 ho kx1
    refine q_loop_V (P := fun s0 => V p l e { frames := 1, cells := 0, slots := 0, locals := 25 } s m args below meth c (MQ below (q_Qc D cy b0 (some (.int r)) σ h') args s 0 0 (fun q => b0 ≤ q)) D cy b0 5 0 0 0 0 σ s0.2 68 [(0, .ref a0), (1, .int x1), (4, .int s0.1)] []) (o := o) ?_ q_N s1 ho
    intro s2 z1 hf kb1 kr1
    obtain ⟨x4, h⟩ := s2
    replace hf : fX5_row_68 σ a0 x1 x2 x3 x4 h = some z1 := hf
    unfold fX5_row_68 at hf
    show V p l e { frames := 1, cells := 0, slots := 0, locals := 25 } s m args below meth c (MQ below (q_Qc D cy b0 (some (.int r)) σ h') args s 0 0 (fun q => b0 ≤ q)) D cy b0 5 0 0 0 0 σ h 68 [(0, .ref a0), (1, .int x1), (4, .int x4)] []
    refine v_run C0 tbX5 cokX5_row (pc' := 72) (lv' := [(0, .ref a0), (1, .int x1), (4, .int x4)]) (st' := [.int (100 : Int32), .int x4]) (h' := h) 2 rfl trivial ?_
    refine v_icmp_ge C0 cokX5_row rfl 94 (by decide) hf (fun _ hf => ?_) (fun _ hf => ?_)
    · obtain rfl := Option.some.inj hf
      refine v_pick [] rfl ?_
      have hx := kr1 _ rfl
      subst hx
      exact kx1
    · obtain ⟨g7, hf⟩ := q_gu_o hf
      refine v_run C0 tbX5 cokX5_row (pc' := 68) (lv' := [(4, .int (x4 + (1 : Int32))), (0, .ref a0), (1, .int x1)]) (st' := []) (h' := (q_sj h (q_ref σ a0 20) (Int32.toNatClampNeg (((100 : Int32) * x1) + x4)) (0 : Int64))) 11 rfl ⟨⟨ta0, q_tn k3⟩, ⟨k3, g7⟩, trivial⟩ ?_
      obtain rfl := Option.some.inj hf
      refine v_pick [1, 2, 0] rfl ?_
      exact kb1 _ rfl
  refine v_run C0 tbX5 cokX5_row (pc' := 11) (lv' := [(0, .ref a0), (1, .int x1), (2, .int x2), (3, .int x3)]) (st' := [.long (7 : Int64), .long (0 : Int64), .long (Int32.toInt64 x1)]) (h' := (q_si h a0 21 (0 : Int32))) 7 rfl ⟨ta0, trivial⟩ ?_
  obtain ⟨r1, e1, hf⟩ := q_bd hf
  refine v_callS C0 cokX5_row rfl (rest := []) (ctX5_in (Int32.toInt64 x1) (0 : Int64) (7 : Int64) e1) calX5_in lkX5_96 inX5_in dnX5_in rfl rfl ⟨by decide, by decide⟩ (Nat.le_of_ble_eq_true rfl) (Nat.le_refl _) (Nat.le_refl _) ?_
  refine v_if_eq C0 cokX5_row rfl 35 (by decide) hf (fun _ hf => ?_) (fun _ hf => ?_)
  · refine v_run C0 tbX5 cokX5_row (pc' := 36) (lv' := [(0, .ref a0), (1, .int x1), (2, .int x2), (3, .int x3)]) (st' := [.int (-1 : Int32)]) (h' := (q_si h a0 21 (0 : Int32))) 1 rfl trivial ?_
    obtain ⟨rfl, rfl⟩ := Prod.mk.inj (Option.some.inj hf)
    exact v_iret C0 cokX5_row hr hlk rfl
  · refine v_run C0 tbX5 cokX5_row (pc' := 23) (lv' := [(0, .ref a0), (1, .int x1), (2, .int x2), (3, .int x3)]) (st' := [.long (2 : Int64), .long (0 : Int64), .long (Int32.toInt64 x2)]) (h' := (q_si h a0 21 (0 : Int32))) 4 rfl trivial ?_
    obtain ⟨r2, e2, hf⟩ := q_bd hf
    refine v_callS C0 cokX5_row rfl (rest := []) (ctX5_in (Int32.toInt64 x2) (0 : Int64) (2 : Int64) e2) calX5_in lkX5_96 inX5_in dnX5_in rfl rfl ⟨by decide, by decide⟩ (Nat.le_of_ble_eq_true rfl) (Nat.le_refl _) (Nat.le_refl _) ?_
    refine v_if_eq C0 cokX5_row rfl 35 (by decide) hf (fun _ hf => ?_) (fun _ hf => ?_)
    · refine v_run C0 tbX5 cokX5_row (pc' := 36) (lv' := [(0, .ref a0), (1, .int x1), (2, .int x2), (3, .int x3)]) (st' := [.int (-1 : Int32)]) (h' := (q_si h a0 21 (0 : Int32))) 1 rfl trivial ?_
      obtain ⟨rfl, rfl⟩ := Prod.mk.inj (Option.some.inj hf)
      exact v_iret C0 cokX5_row hr hlk rfl
    · refine v_run C0 tbX5 cokX5_row (pc' := 32) (lv' := [(0, .ref a0), (1, .int x1), (2, .int x2), (3, .int x3)]) (st' := [.int (100 : Int32), .int x3]) (h' := (q_si h a0 21 (0 : Int32))) 2 rfl trivial ?_
      refine v_icmp_le C0 cokX5_row rfl 37 (by decide) hf (fun _ hf => ?_) (fun _ hf => ?_)
      · refine v_run C0 tbX5 cokX5_row (pc' := 38) (lv' := [(0, .ref a0), (1, .int x1), (2, .int x2), (3, .int x3)]) (st' := [.int x3]) (h' := (q_si h a0 21 (0 : Int32))) 1 rfl trivial ?_
        refine v_if_ge C0 cokX5_row rfl 44 (by decide) hf (fun _ hf => ?_) (fun _ hf => ?_)
        · obtain ⟨⟨g3, g4, g5⟩, hf⟩ := q_gu_o hf
          refine v_run C0 tbX5 cokX5_row (pc' := 68) (lv' := [(4, .int (0 : Int32)), (0, .ref a0), (1, .int x1), (2, .int x2), (3, .int x3)]) (st' := []) (h' := (q_si (q_si (q_si (q_si h a0 21 (0 : Int32)) (q_ref σ a0 15) (Int32.toNatClampNeg x1) (2 : Int32)) (q_ref σ a0 18) (Int32.toNatClampNeg x1) x2) (q_ref σ a0 19) (Int32.toNatClampNeg x1) x3)) 17 rfl ⟨⟨ta0, q_tn k0⟩, ⟨k0, g3⟩, ⟨ta0, q_tn k1⟩, ⟨k1, g4⟩, ⟨ta0, q_tn k2⟩, ⟨k2, g5⟩, trivial⟩ ?_
          obtain ⟨o6, eo6, hf⟩ := q_bd hf
          refine v_pick [1, 2, 0] rfl ?_
          refine n68 o6 ((0 : Int32), (q_si (q_si (q_si (q_si h a0 21 (0 : Int32)) (q_ref σ a0 15) (Int32.toNatClampNeg x1) (2 : Int32)) (q_ref σ a0 18) (Int32.toNatClampNeg x1) x2) (q_ref σ a0 19) (Int32.toNatClampNeg x1) x3)) eo6 ?_
          refine v_run C0 tbX5 cokX5_row (pc' := 95) (lv' := []) (st' := [.int (0 : Int32)]) (h' := o6) 1 rfl trivial ?_
          obtain ⟨rfl, rfl⟩ := Prod.mk.inj (Option.some.inj hf)
          exact v_iret C0 cokX5_row hr hlk rfl
        · refine v_run C0 tbX5 cokX5_row (pc' := 43) (lv' := [(0, .ref a0), (1, .int x1), (2, .int x2), (3, .int x3)]) (st' := [.int (-14 : Int32)]) (h' := (q_si h a0 21 (0 : Int32))) 1 rfl trivial ?_
          obtain ⟨rfl, rfl⟩ := Prod.mk.inj (Option.some.inj hf)
          exact v_iret C0 cokX5_row hr hlk rfl
      · refine v_run C0 tbX5 cokX5_row (pc' := 36) (lv' := [(0, .ref a0), (1, .int x1), (2, .int x2), (3, .int x3)]) (st' := [.int (-1 : Int32)]) (h' := (q_si h a0 21 (0 : Int32))) 1 rfl trivial ?_
        obtain ⟨rfl, rfl⟩ := Prod.mk.inj (Option.some.inj hf)
        exact v_iret C0 cokX5_row hr hlk rfl
-- BackByNoonOnMondayModel.put(III)I
noncomputable def fX5_put (σ : q_St) (h : q_Hp) (a0 : Nat) (x1 : Int32) (x2 : Int32) (x3 : Int32) : Option (Int32 × q_Hp) := q_gu ((q_tag σ (q_ref σ a0 19) = 7) ∧ (q_tag σ (q_ref σ a0 20) = 8) ∧ (q_tag σ (q_ref σ a0 18) = 7)) (((fX5_wrongRow σ (q_si h a0 21 (0 : Int32)) a0 x1).bind fun r1 => (if 0 ≤ r1 then q_gu ((vp_in x1 (q_len σ (q_ref σ a0 19)))) (((fX5_in σ (q_si h a0 21 (0 : Int32)) (Int32.toInt64 x2) (0 : Int64) (Int32.toInt64 ((q_int (q_si h a0 21 (0 : Int32)) (q_ref σ a0 19) (Int32.toNatClampNeg x1)) - (1 : Int32)))).bind fun r3 => (if r3 = 0 then some ((-13 : Int32), (q_si h a0 21 (0 : Int32))) else q_gu ((vp_in x1 (q_len σ (q_ref σ a0 18)))) (((fX5_narrowed σ (q_si h a0 21 (0 : Int32)) x3 (q_int (q_si h a0 21 (0 : Int32)) (q_ref σ a0 18) (Int32.toNatClampNeg x1))).bind fun r5 => q_gu ((vp_in (((100 : Int32) * x1) + x2) (q_len σ (q_ref σ a0 20)))) (some ((0 : Int32), (q_sj (q_si h a0 21 (0 : Int32)) (q_ref σ a0 20) (Int32.toNatClampNeg (((100 : Int32) * x1) + x2)) r5)))))))) else some (r1, (q_si h a0 21 (0 : Int32))))))
def cdX5_put : q_Cd := [(0, .aload_n 0), (1, .iconst 0), (2, .putfield 89), (5, .aload_n 0), (6, .iload_n 1), (7, .invokevirtual 192), (10, .istore 4), (12, .iload 4), (14, .ifCond .ge 6), (17, .iload 4), (19, .ireturn), (20, .iload_n 2), (21, .i2l), (22, .lconst 0), (23, .aload_n 0), (24, .getfield 55), (27, .iload_n 1), (28, .iaload), (29, .iconst 1), (30, .isub), (31, .i2l), (32, .invokestatic 96), (35, .ifCond .ne 6), (38, .bipush (-13)), (40, .ireturn), (41, .aload_n 0), (42, .getfield 58), (45, .bipush 100), (47, .iload_n 1), (48, .imul), (49, .iload_n 2), (50, .iadd), (51, .iload_n 3), (52, .aload_n 0), (53, .getfield 52), (56, .iload_n 1), (57, .iaload), (58, .invokestatic 359), (61, .lastore), (62, .iconst 0), (63, .ireturn)]
set_option maxRecDepth 100000 in
theorem cokX5_put : q_cok cX5_put cdX5_put := by unfold q_cok; decide +kernel
set_option maxRecDepth 100000 in
set_option maxHeartbeats 4000000 in
theorem ctX5_put {l : Launch} {D : va_G} {cy : Nat → Nat} {b0 : Nat} {σ : q_St} {h : q_Hp} (a0 : Nat) (x1 : Int32) (x2 : Int32) (x3 : Int32) {r : Int32} {h' : q_Hp} (ta0 : q_tag σ a0 = 6) (hf : fX5_put σ h a0 x1 x2 x3 = some (r, h')) : q_M l yX5_put cX5_put 5 (some .int) 2 46 0 0 D cy b0 σ h [.ref a0, .int x1, .int x2, .int x3] (some (.int r)) σ h' := by
  unfold fX5_put at hf
  obtain ⟨⟨k0, k1, k2⟩, hf⟩ := q_gu_o hf
  refine q_enter (by decide) (Nat.le_of_ble_eq_true rfl) ?_
  intro p e s m args below meth c C0 hr hlk hnm
  replace C0 : VC p { frames := 2, cells := 0, slots := 0, locals := 46 } s m args meth c D cy b0 5 0 0 RX5 cX5_put := C0
  refine v_run C0 tbX5 cokX5_put (pc' := 7) (lv' := [(0, .ref a0), (1, .int x1), (2, .int x2), (3, .int x3)]) (st' := [.int x1, .ref a0]) (h' := (q_si h a0 21 (0 : Int32))) 5 rfl ⟨ta0, trivial⟩ ?_
  obtain ⟨r1, e1, hf⟩ := q_bd hf
  refine v_callV C0 cokX5_put rfl (rest := []) (ctX5_wrongRow a0 x1 ta0 e1) calX5_wrongRow lkX5_192 inX5_wrongRow dnX5_wrongRow (ci := 5) ⟨rfl, by decide⟩ ta0 rfl rfl ⟨by decide, by decide⟩ (Nat.le_of_ble_eq_true rfl) (Nat.le_refl _) (Nat.le_refl _) ?_
  refine v_run C0 tbX5 cokX5_put (pc' := 14) (lv' := [(4, .int r1), (0, .ref a0), (1, .int x1), (2, .int x2), (3, .int x3)]) (st' := [.int r1]) (h' := (q_si h a0 21 (0 : Int32))) 2 rfl trivial ?_
  refine v_if_ge C0 cokX5_put rfl 20 (by decide) hf (fun _ hf => ?_) (fun _ hf => ?_)
  · obtain ⟨g2, hf⟩ := q_gu_o hf
    refine v_run C0 tbX5 cokX5_put (pc' := 32) (lv' := [(4, .int r1), (0, .ref a0), (1, .int x1), (2, .int x2), (3, .int x3)]) (st' := [.long (Int32.toInt64 ((q_int (q_si h a0 21 (0 : Int32)) (q_ref σ a0 19) (Int32.toNatClampNeg x1)) - (1 : Int32))), .long (0 : Int64), .long (Int32.toInt64 x2)]) (h' := (q_si h a0 21 (0 : Int32))) 10 rfl ⟨⟨ta0, q_tn k0⟩, ⟨k0, g2⟩, trivial⟩ ?_
    obtain ⟨r3, e3, hf⟩ := q_bd hf
    refine v_callS C0 cokX5_put rfl (rest := []) (ctX5_in (Int32.toInt64 x2) (0 : Int64) (Int32.toInt64 ((q_int (q_si h a0 21 (0 : Int32)) (q_ref σ a0 19) (Int32.toNatClampNeg x1)) - (1 : Int32))) e3) calX5_in lkX5_96 inX5_in dnX5_in rfl rfl ⟨by decide, by decide⟩ (Nat.le_of_ble_eq_true rfl) (Nat.le_refl _) (Nat.le_refl _) ?_
    refine v_if_ne C0 cokX5_put rfl 41 (by decide) hf (fun _ hf => ?_) (fun _ hf => ?_)
    · refine v_run C0 tbX5 cokX5_put (pc' := 40) (lv' := [(4, .int r1), (0, .ref a0), (1, .int x1), (2, .int x2), (3, .int x3)]) (st' := [.int (-13 : Int32)]) (h' := (q_si h a0 21 (0 : Int32))) 1 rfl trivial ?_
      obtain ⟨rfl, rfl⟩ := Prod.mk.inj (Option.some.inj hf)
      exact v_iret C0 cokX5_put hr hlk rfl
    · obtain ⟨g4, hf⟩ := q_gu_o hf
      refine v_run C0 tbX5 cokX5_put (pc' := 58) (lv' := [(4, .int r1), (0, .ref a0), (1, .int x1), (2, .int x2), (3, .int x3)]) (st' := [.int (q_int (q_si h a0 21 (0 : Int32)) (q_ref σ a0 18) (Int32.toNatClampNeg x1)), .int x3, .int (((100 : Int32) * x1) + x2), .ref (q_ref σ a0 20)]) (h' := (q_si h a0 21 (0 : Int32))) 12 rfl ⟨⟨ta0, q_tn k1⟩, ⟨ta0, q_tn k2⟩, ⟨k2, g4⟩, trivial⟩ ?_
      obtain ⟨r5, e5, hf⟩ := q_bd hf
      refine v_callS C0 cokX5_put rfl (rest := [.int (((100 : Int32) * x1) + x2), .ref (q_ref σ a0 20)]) (ctX5_narrowed x3 (q_int (q_si h a0 21 (0 : Int32)) (q_ref σ a0 18) (Int32.toNatClampNeg x1)) e5) calX5_narrowed lkX5_359 inX5_narrowed dnX5_narrowed rfl rfl ⟨by decide, by decide⟩ (Nat.le_of_ble_eq_true rfl) (Nat.le_refl _) (Nat.le_refl _) ?_
      obtain ⟨g6, hf⟩ := q_gu_o hf
      refine v_run C0 tbX5 cokX5_put (pc' := 63) (lv' := [(4, .int r1), (0, .ref a0), (1, .int x1), (2, .int x2), (3, .int x3)]) (st' := [.int (0 : Int32)]) (h' := (q_sj (q_si h a0 21 (0 : Int32)) (q_ref σ a0 20) (Int32.toNatClampNeg (((100 : Int32) * x1) + x2)) r5)) 2 rfl ⟨⟨k1, g6⟩, trivial⟩ ?_
      obtain ⟨rfl, rfl⟩ := Prod.mk.inj (Option.some.inj hf)
      exact v_iret C0 cokX5_put hr hlk rfl
  · refine v_run C0 tbX5 cokX5_put (pc' := 19) (lv' := [(4, .int r1), (0, .ref a0), (1, .int x1), (2, .int x2), (3, .int x3)]) (st' := [.int r1]) (h' := (q_si h a0 21 (0 : Int32))) 1 rfl trivial ?_
    obtain ⟨rfl, rfl⟩ := Prod.mk.inj (Option.some.inj hf)
    exact v_iret C0 cokX5_put hr hlk rfl
-- BackByNoonOnMondayModel.element(II)J
noncomputable def fX5_element_43 (σ : q_St) (h : q_Hp) (a0 : Nat) (x1 : Int32) (x2 : Int32) (s0 : Int32) (s1 : Nat) : Option (Int64 × q_Hp) := q_gu ((q_tag σ s1 = 6)) ((if (q_int (q_si h s1 21 s0) a0 21) ≤ 0 then q_gu ((vp_in (((100 : Int32) * x1) + x2) (q_len σ (q_ref σ a0 20)))) (some ((q_lng (q_si h s1 21 s0) (q_ref σ a0 20) (Int32.toNatClampNeg (((100 : Int32) * x1) + x2))), (q_si h s1 21 s0))) else some ((0 : Int64), (q_si h s1 21 s0))))
noncomputable def fX5_element_38 (σ : q_St) (h : q_Hp) (a0 : Nat) (x1 : Int32) (x2 : Int32) (s0 : Nat) : Option (Int64 × q_Hp) := fX5_element_43 σ h a0 x1 x2 (2 : Int32) s0
noncomputable def fX5_element (σ : q_St) (h : q_Hp) (a0 : Nat) (x1 : Int32) (x2 : Int32) : Option (Int64 × q_Hp) := q_gu ((q_tag σ (q_ref σ a0 19) = 7) ∧ (q_tag σ (q_ref σ a0 20) = 8)) (((fX5_wrongRow σ h a0 x1).bind fun r1 => (if r1 = (-1 : Int32) then fX5_element_43 σ h a0 x1 x2 (1 : Int32) a0 else (if r1 < 0 then fX5_element_38 σ h a0 x1 x2 a0 else q_gu ((vp_in x1 (q_len σ (q_ref σ a0 19)))) (((fX5_in σ h (Int32.toInt64 x2) (0 : Int64) (Int32.toInt64 ((q_int h (q_ref σ a0 19) (Int32.toNatClampNeg x1)) - (1 : Int32)))).bind fun r3 => (if r3 = 0 then fX5_element_38 σ h a0 x1 x2 a0 else fX5_element_43 σ h a0 x1 x2 (0 : Int32) a0)))))))
def cdX5_element : q_Cd := [(0, .aload_n 0), (1, .iload_n 1), (2, .invokevirtual 192), (5, .istore_n 3), (6, .aload_n 0), (7, .iload_n 3), (8, .iconst (-1)), (9, .if_icmp .ne 7), (12, .iconst 1), (13, .goto 30), (16, .iload_n 3), (17, .ifCond .lt 21), (20, .iload_n 2), (21, .i2l), (22, .lconst 0), (23, .aload_n 0), (24, .getfield 55), (27, .iload_n 1), (28, .iaload), (29, .iconst 1), (30, .isub), (31, .i2l), (32, .invokestatic 96), (35, .ifCond .ne 7), (38, .iconst 2), (39, .goto 4), (42, .iconst 0), (43, .putfield 89), (46, .aload_n 0), (47, .getfield 89), (50, .ifCond .le 7), (53, .lconst 0), (54, .goto 14), (57, .aload_n 0), (58, .getfield 58), (61, .bipush 100), (63, .iload_n 1), (64, .imul), (65, .iload_n 2), (66, .iadd), (67, .laload), (68, .lreturn)]
set_option maxRecDepth 100000 in
theorem cokX5_element : q_cok cX5_element cdX5_element := by unfold q_cok; decide +kernel
set_option maxRecDepth 100000 in
set_option maxHeartbeats 4000000 in
theorem ctX5_element {l : Launch} {D : va_G} {cy : Nat → Nat} {b0 : Nat} {σ : q_St} {h : q_Hp} (a0 : Nat) (x1 : Int32) (x2 : Int32) {r : Int64} {h' : q_Hp} (ta0 : q_tag σ a0 = 6) (hf : fX5_element σ h a0 x1 x2 = some (r, h')) : q_M l yX5_element cX5_element 4 (some .long) 2 46 0 0 D cy b0 σ h [.ref a0, .int x1, .int x2] (some (.long r)) σ h' := by
  unfold fX5_element at hf
  obtain ⟨⟨k0, k1⟩, hf⟩ := q_gu_o hf
  refine q_enter (by decide) (Nat.le_of_ble_eq_true rfl) ?_
  intro p e s m args below meth c C0 hr hlk hnm
  replace C0 : VC p { frames := 2, cells := 0, slots := 0, locals := 46 } s m args meth c D cy b0 4 0 0 RX5 cX5_element := C0
  have n43 : ∀ (h : q_Hp) (s0 : Int32) (s1 : Nat), fX5_element_43 σ h a0 x1 x2 s0 s1 = some (r, h') → V p l e { frames := 2, cells := 0, slots := 0, locals := 46 } s m args below meth c (MQ below (q_Qc D cy b0 (some (.long r)) σ h') args s 0 0 (fun q => b0 ≤ q)) D cy b0 4 0 0 0 0 σ h 43 [(0, .ref a0), (1, .int x1), (2, .int x2)] [.int s0, .ref s1] := by
    intro h s0 s1 hf
    unfold fX5_element_43 at hf
    obtain ⟨g4, hf⟩ := q_gu_o hf
    refine v_run C0 tbX5 cokX5_element (pc' := 50) (lv' := [(0, .ref a0), (1, .int x1), (2, .int x2)]) (st' := [.int (q_int (q_si h s1 21 s0) a0 21)]) (h' := (q_si h s1 21 s0)) 3 rfl ⟨g4, ta0, trivial⟩ ?_
    refine v_if_le C0 cokX5_element rfl 57 (by decide) hf (fun _ hf => ?_) (fun _ hf => ?_)
    · obtain ⟨g5, hf⟩ := q_gu_o hf
      refine v_run C0 tbX5 cokX5_element (pc' := 68) (lv' := [(0, .ref a0), (1, .int x1), (2, .int x2)]) (st' := [.long (q_lng (q_si h s1 21 s0) (q_ref σ a0 20) (Int32.toNatClampNeg (((100 : Int32) * x1) + x2)))]) (h' := (q_si h s1 21 s0)) 8 rfl ⟨⟨ta0, q_tn k1⟩, ⟨k1, g5⟩, trivial⟩ ?_
      obtain ⟨rfl, rfl⟩ := Prod.mk.inj (Option.some.inj hf)
      exact v_lret C0 cokX5_element hr hlk rfl
    · refine v_run C0 tbX5 cokX5_element (pc' := 68) (lv' := [(0, .ref a0), (1, .int x1), (2, .int x2)]) (st' := [.long (0 : Int64)]) (h' := (q_si h s1 21 s0)) 2 rfl trivial ?_
      obtain ⟨rfl, rfl⟩ := Prod.mk.inj (Option.some.inj hf)
      exact v_lret C0 cokX5_element hr hlk rfl
  have n38 : ∀ (h : q_Hp) (s0 : Nat), fX5_element_38 σ h a0 x1 x2 s0 = some (r, h') → V p l e { frames := 2, cells := 0, slots := 0, locals := 46 } s m args below meth c (MQ below (q_Qc D cy b0 (some (.long r)) σ h') args s 0 0 (fun q => b0 ≤ q)) D cy b0 4 0 0 0 0 σ h 38 [(0, .ref a0), (1, .int x1), (2, .int x2)] [.ref s0] := by
    intro h s0 hf
    unfold fX5_element_38 at hf
    refine v_run C0 tbX5 cokX5_element (pc' := 43) (lv' := [(0, .ref a0), (1, .int x1), (2, .int x2)]) (st' := [.int (2 : Int32), .ref s0]) (h' := h) 2 rfl trivial ?_
    refine v_pick [0, 1, 2] rfl ?_
    exact n43 h (2 : Int32) s0 hf
  refine v_run C0 tbX5 cokX5_element (pc' := 2) (lv' := [(0, .ref a0), (1, .int x1), (2, .int x2)]) (st' := [.int x1, .ref a0]) (h' := h) 2 rfl trivial ?_
  obtain ⟨r1, e1, hf⟩ := q_bd hf
  refine v_callV C0 cokX5_element rfl (rest := []) (ctX5_wrongRow a0 x1 ta0 e1) calX5_wrongRow lkX5_192 inX5_wrongRow dnX5_wrongRow (ci := 5) ⟨rfl, by decide⟩ ta0 rfl rfl ⟨by decide, by decide⟩ (Nat.le_of_ble_eq_true rfl) (Nat.le_refl _) (Nat.le_refl _) ?_
  refine v_run C0 tbX5 cokX5_element (pc' := 9) (lv' := [(3, .int r1), (0, .ref a0), (1, .int x1), (2, .int x2)]) (st' := [.int (-1 : Int32), .int r1, .ref a0]) (h' := h) 4 rfl trivial ?_
  refine v_icmp_ne C0 cokX5_element rfl 16 (by decide) hf (fun _ hf => ?_) (fun _ hf => ?_)
  · refine v_run C0 tbX5 cokX5_element (pc' := 43) (lv' := [(3, .int r1), (0, .ref a0), (1, .int x1), (2, .int x2)]) (st' := [.int (1 : Int32), .ref a0]) (h' := h) 2 rfl trivial ?_
    refine v_pick [1, 2, 3] rfl ?_
    exact n43 h (1 : Int32) a0 hf
  · refine v_run C0 tbX5 cokX5_element (pc' := 17) (lv' := [(3, .int r1), (0, .ref a0), (1, .int x1), (2, .int x2)]) (st' := [.int r1, .ref a0]) (h' := h) 1 rfl trivial ?_
    refine v_if_lt C0 cokX5_element rfl 38 (by decide) hf (fun _ hf => ?_) (fun _ hf => ?_)
    · refine v_pick [1, 2, 3] rfl ?_
      exact n38 h a0 hf
    · obtain ⟨g2, hf⟩ := q_gu_o hf
      refine v_run C0 tbX5 cokX5_element (pc' := 32) (lv' := [(3, .int r1), (0, .ref a0), (1, .int x1), (2, .int x2)]) (st' := [.long (Int32.toInt64 ((q_int h (q_ref σ a0 19) (Int32.toNatClampNeg x1)) - (1 : Int32))), .long (0 : Int64), .long (Int32.toInt64 x2), .ref a0]) (h' := h) 10 rfl ⟨⟨ta0, q_tn k0⟩, ⟨k0, g2⟩, trivial⟩ ?_
      obtain ⟨r3, e3, hf⟩ := q_bd hf
      refine v_callS C0 cokX5_element rfl (rest := [.ref a0]) (ctX5_in (Int32.toInt64 x2) (0 : Int64) (Int32.toInt64 ((q_int h (q_ref σ a0 19) (Int32.toNatClampNeg x1)) - (1 : Int32))) e3) calX5_in lkX5_96 inX5_in dnX5_in rfl rfl ⟨by decide, by decide⟩ (Nat.le_of_ble_eq_true rfl) (Nat.le_refl _) (Nat.le_refl _) ?_
      refine v_if_ne C0 cokX5_element rfl 42 (by decide) hf (fun _ hf => ?_) (fun _ hf => ?_)
      · refine v_pick [1, 2, 3] rfl ?_
        exact n38 h a0 hf
      · refine v_run C0 tbX5 cokX5_element (pc' := 43) (lv' := [(3, .int r1), (0, .ref a0), (1, .int x1), (2, .int x2)]) (st' := [.int (0 : Int32), .ref a0]) (h' := h) 1 rfl trivial ?_
        refine v_pick [1, 2, 3] rfl ?_
        exact n43 h (0 : Int32) a0 hf
-- BackByNoonOnMondayModel.copy(IIIII)I
noncomputable def fX5_copy_137 (σ : q_St) (a0 : Nat) (x1 : Int32) (x2 : Int32) (x3 : Int32) (x4 : Int32) (x5 : Int32) (x6 : Int32) (h : q_Hp) : Option ((Int32 × q_Hp) ⊕ q_Hp) := (if x5 ≤ x6 then some (Sum.inr h) else q_gu ((vp_in ((((100 : Int32) * x1) + x2) + x6) (q_len σ (q_ref σ a0 20))) ∧ (vp_in x6 (q_len σ (q_ref σ a0 43)))) (some (Sum.inl ((x6 + (1 : Int32)), (q_sj h (q_ref σ a0 43) (Int32.toNatClampNeg x6) (q_lng h (q_ref σ a0 20) (Int32.toNatClampNeg ((((100 : Int32) * x1) + x2) + x6))))))))
noncomputable def fX5_copy_174 (σ : q_St) (a0 : Nat) (x1 : Int32) (x2 : Int32) (x3 : Int32) (x4 : Int32) (x5 : Int32) (x6 : Int32) (h : q_Hp) : Option ((Int32 × q_Hp) ⊕ q_Hp) := (if x5 ≤ x6 then some (Sum.inr h) else q_gu ((vp_in x6 (q_len σ (q_ref σ a0 43))) ∧ (vp_in ((((100 : Int32) * x3) + x4) + x6) (q_len σ (q_ref σ a0 20)))) (some (Sum.inl ((x6 + (1 : Int32)), (q_sj h (q_ref σ a0 20) (Int32.toNatClampNeg ((((100 : Int32) * x3) + x4) + x6)) (q_lng h (q_ref σ a0 43) (Int32.toNatClampNeg x6)))))))
noncomputable def fX5_copy (σ : q_St) (h : q_Hp) (a0 : Nat) (x1 : Int32) (x2 : Int32) (x3 : Int32) (x4 : Int32) (x5 : Int32) : Option (Int32 × q_Hp) := q_gu ((q_tag σ (q_ref σ a0 15) = 7) ∧ (q_tag σ (q_ref σ a0 18) = 7) ∧ (q_tag σ (q_ref σ a0 19) = 7) ∧ (q_tag σ (q_ref σ a0 20) = 8) ∧ (q_tag σ (q_ref σ a0 43) = 8)) (((fX5_in σ (q_si h a0 21 (0 : Int32)) (Int32.toInt64 x1) (0 : Int64) (7 : Int64)).bind fun r1 => (if r1 = 0 then some ((-1 : Int32), (q_si h a0 21 (0 : Int32))) else ((fX5_in σ (q_si h a0 21 (0 : Int32)) (Int32.toInt64 x3) (0 : Int64) (7 : Int64)).bind fun r2 => (if r2 = 0 then some ((-1 : Int32), (q_si h a0 21 (0 : Int32))) else q_gu ((vp_in x1 (q_len σ (q_ref σ a0 15)))) ((if (q_int (q_si h a0 21 (0 : Int32)) (q_ref σ a0 15) (Int32.toNatClampNeg x1)) = 0 then some ((-11 : Int32), (q_si h a0 21 (0 : Int32))) else q_gu ((vp_in x3 (q_len σ (q_ref σ a0 15)))) ((if (q_int (q_si h a0 21 (0 : Int32)) (q_ref σ a0 15) (Int32.toNatClampNeg x3)) = 0 then some ((-11 : Int32), (q_si h a0 21 (0 : Int32))) else (if (q_int (q_si h a0 21 (0 : Int32)) (q_ref σ a0 15) (Int32.toNatClampNeg x1)) = (2 : Int32) then (if (q_int (q_si h a0 21 (0 : Int32)) (q_ref σ a0 15) (Int32.toNatClampNeg x3)) = (2 : Int32) then q_gu ((vp_in x1 (q_len σ (q_ref σ a0 18))) ∧ (vp_in x3 (q_len σ (q_ref σ a0 18)))) ((if (q_int (q_si h a0 21 (0 : Int32)) (q_ref σ a0 18) (Int32.toNatClampNeg x1)) = (q_int (q_si h a0 21 (0 : Int32)) (q_ref σ a0 18) (Int32.toNatClampNeg x3)) then (if x5 < 0 then some ((-13 : Int32), (q_si h a0 21 (0 : Int32))) else (if x2 < 0 then some ((-13 : Int32), (q_si h a0 21 (0 : Int32))) else (if x4 < 0 then some ((-13 : Int32), (q_si h a0 21 (0 : Int32))) else q_gu ((vp_in x1 (q_len σ (q_ref σ a0 19)))) ((if ((q_int (q_si h a0 21 (0 : Int32)) (q_ref σ a0 19) (Int32.toNatClampNeg x1)) - x5) < x2 then some ((-13 : Int32), (q_si h a0 21 (0 : Int32))) else q_gu ((vp_in x3 (q_len σ (q_ref σ a0 19)))) ((if x4 ≤ ((q_int (q_si h a0 21 (0 : Int32)) (q_ref σ a0 19) (Int32.toNatClampNeg x3)) - x5) then (q_loop (fun s => fX5_copy_137 σ a0 x1 x2 x3 x4 x5 s.1 s.2) q_N ((0 : Int32), (q_si h a0 21 (0 : Int32)))).bind fun o9 => (q_loop (fun s => fX5_copy_174 σ a0 x1 x2 x3 x4 x5 s.1 s.2) q_N ((0 : Int32), o9)).bind fun o10 => some (x5, o10) else some ((-13 : Int32), (q_si h a0 21 (0 : Int32)))))))))) else some ((-12 : Int32), (q_si h a0 21 (0 : Int32))))) else some ((-12 : Int32), (q_si h a0 21 (0 : Int32)))) else some ((-12 : Int32), (q_si h a0 21 (0 : Int32)))))))))))))
def cdX5_copy : q_Cd := [(0, .aload_n 0), (1, .iconst 0), (2, .putfield 89), (5, .iload_n 1), (6, .i2l), (7, .lconst 0), (8, .ldc2_w 229), (11, .invokestatic 96), (14, .ifCond .eq 15), (17, .iload_n 3), (18, .i2l), (19, .lconst 0), (20, .ldc2_w 229), (23, .invokestatic 96), (26, .ifCond .ne 5), (29, .iconst (-1)), (30, .ireturn), (31, .aload_n 0), (32, .getfield 43), (35, .iload_n 1), (36, .iaload), (37, .ifCond .eq 12), (40, .aload_n 0), (41, .getfield 43), (44, .iload_n 3), (45, .iaload), (46, .ifCond .ne 6), (49, .bipush (-11)), (51, .ireturn), (52, .aload_n 0), (53, .getfield 43), (56, .iload_n 1), (57, .iaload), (58, .iconst 2), (59, .if_icmp .ne 28), (62, .aload_n 0), (63, .getfield 43), (66, .iload_n 3), (67, .iaload), (68, .iconst 2), (69, .if_icmp .ne 18), (72, .aload_n 0), (73, .getfield 52), (76, .iload_n 1), (77, .iaload), (78, .aload_n 0), (79, .getfield 52), (82, .iload_n 3), (83, .iaload), (84, .if_icmp .eq 6), (87, .bipush (-12)), (89, .ireturn), (90, .iload 5), (92, .ifCond .lt 39), (95, .iload_n 2), (96, .ifCond .lt 35), (99, .iload 4), (101, .ifCond .lt 30), (104, .iload_n 2), (105, .aload_n 0), (106, .getfield 55), (109, .iload_n 1), (110, .iaload), (111, .iload 5), (113, .isub), (114, .if_icmp .gt 17), (117, .iload 4), (119, .aload_n 0), (120, .getfield 55), (123, .iload_n 3), (124, .iaload), (125, .iload 5), (127, .isub), (128, .if_icmp .le 6), (131, .bipush (-13)), (133, .ireturn), (134, .iconst 0), (135, .istore 6), (137, .iload 6), (139, .iload 5), (141, .if_icmp .ge 30), (144, .aload_n 0), (145, .getfield 86), (148, .iload 6), (150, .aload_n 0), (151, .getfield 58), (154, .bipush 100), (156, .iload_n 1), (157, .imul), (158, .iload_n 2), (159, .iadd), (160, .iload 6), (162, .iadd), (163, .laload), (164, .lastore), (165, .iinc 6 1), (168, .goto (-31)), (171, .iconst 0), (172, .istore 6), (174, .iload 6), (176, .iload 5), (178, .if_icmp .ge 31), (181, .aload_n 0), (182, .getfield 58), (185, .bipush 100), (187, .iload_n 3), (188, .imul), (189, .iload 4), (191, .iadd), (192, .iload 6), (194, .iadd), (195, .aload_n 0), (196, .getfield 86), (199, .iload 6), (201, .laload), (202, .lastore), (203, .iinc 6 1), (206, .goto (-32)), (209, .iload 5), (211, .ireturn)]
set_option maxRecDepth 100000 in
theorem cokX5_copy : q_cok cX5_copy cdX5_copy := by unfold q_cok; decide +kernel
set_option maxRecDepth 100000 in
set_option maxHeartbeats 4000000 in
theorem ctX5_copy {l : Launch} {D : va_G} {cy : Nat → Nat} {b0 : Nat} {σ : q_St} {h : q_Hp} (a0 : Nat) (x1 : Int32) (x2 : Int32) (x3 : Int32) (x4 : Int32) (x5 : Int32) {r : Int32} {h' : q_Hp} (ta0 : q_tag σ a0 = 6) (hf : fX5_copy σ h a0 x1 x2 x3 x4 x5 = some (r, h')) : q_M l yX5_copy cX5_copy 7 (some .int) 1 25 0 0 D cy b0 σ h [.ref a0, .int x1, .int x2, .int x3, .int x4, .int x5] (some (.int r)) σ h' := by
  unfold fX5_copy at hf
  obtain ⟨⟨k0, k1, k2, k3, k4⟩, hf⟩ := q_gu_o hf
  refine q_enter (by decide) (Nat.le_of_ble_eq_true rfl) ?_
  intro p e s m args below meth c C0 hr hlk hnm
  replace C0 : VC p { frames := 1, cells := 0, slots := 0, locals := 25 } s m args meth c D cy b0 7 0 0 RX5 cX5_copy := C0
  have n137 : ∀ (o : q_Hp) (s1 : (Int32 × q_Hp)), q_loop (fun s => fX5_copy_137 σ a0 x1 x2 x3 x4 x5 s.1 s.2) q_N s1 = some o → V p l e { frames := 1, cells := 0, slots := 0, locals := 25 } s m args below meth c (MQ below (q_Qc D cy b0 (some (.int r)) σ h') args s 0 0 (fun q => b0 ≤ q)) D cy b0 7 0 0 0 0 σ o 171 [(0, .ref a0), (3, .int x3), (4, .int x4), (5, .int x5)] [] → V p l e { frames := 1, cells := 0, slots := 0, locals := 25 } s m args below meth c (MQ below (q_Qc D cy b0 (some (.int r)) σ h') args s 0 0 (fun q => b0 ≤ q)) D cy b0 7 0 0 0 0 σ s1.2 137 [(0, .ref a0), (1, .int x1), (2, .int x2), (3, .int x3), (4, .int x4), (5, .int x5), (6, .int s1.1)] [] := by
    intro o s1 ho kx1
    refine q_loop_V (P := fun s0 => V p l e { frames := 1, cells := 0, slots := 0, locals := 25 } s m args below meth c (MQ below (q_Qc D cy b0 (some (.int r)) σ h') args s 0 0 (fun q => b0 ≤ q)) D cy b0 7 0 0 0 0 σ s0.2 137 [(0, .ref a0), (1, .int x1), (2, .int x2), (3, .int x3), (4, .int x4), (5, .int x5), (6, .int s0.1)] []) (o := o) ?_ q_N s1 ho
    intro s2 z1 hf kb1 kr1
    obtain ⟨x6, h⟩ := s2
    replace hf : fX5_copy_137 σ a0 x1 x2 x3 x4 x5 x6 h = some z1 := hf
    unfold fX5_copy_137 at hf
    show V p l e { frames := 1, cells := 0, slots := 0, locals := 25 } s m args below meth c (MQ below (q_Qc D cy b0 (some (.int r)) σ h') args s 0 0 (fun q => b0 ≤ q)) D cy b0 7 0 0 0 0 σ h 137 [(0, .ref a0), (1, .int x1), (2, .int x2), (3, .int x3), (4, .int x4), (5, .int x5), (6, .int x6)] []
    refine v_run C0 tbX5 cokX5_copy (pc' := 141) (lv' := [(0, .ref a0), (1, .int x1), (2, .int x2), (3, .int x3), (4, .int x4), (5, .int x5), (6, .int x6)]) (st' := [.int x5, .int x6]) (h' := h) 2 rfl trivial ?_
    refine v_icmp_ge C0 cokX5_copy rfl 171 (by decide) hf (fun _ hf => ?_) (fun _ hf => ?_)
    · obtain rfl := Option.some.inj hf
      refine v_pick [0, 3, 4, 5] rfl ?_
      have hx := kr1 _ rfl
      subst hx
      exact kx1
    · obtain ⟨⟨g13, g14⟩, hf⟩ := q_gu_o hf
      refine v_run C0 tbX5 cokX5_copy (pc' := 137) (lv' := [(6, .int (x6 + (1 : Int32))), (0, .ref a0), (1, .int x1), (2, .int x2), (3, .int x3), (4, .int x4), (5, .int x5)]) (st' := []) (h' := (q_sj h (q_ref σ a0 43) (Int32.toNatClampNeg x6) (q_lng h (q_ref σ a0 20) (Int32.toNatClampNeg ((((100 : Int32) * x1) + x2) + x6))))) 16 rfl ⟨⟨ta0, q_tn k4⟩, ⟨ta0, q_tn k3⟩, ⟨k3, g13⟩, ⟨k4, g14⟩, trivial⟩ ?_
      obtain rfl := Option.some.inj hf
      refine v_pick [1, 2, 3, 4, 5, 6, 0] rfl ?_
      exact kb1 _ rfl
  have n174 : ∀ (o : q_Hp) (s1 : (Int32 × q_Hp)), q_loop (fun s => fX5_copy_174 σ a0 x1 x2 x3 x4 x5 s.1 s.2) q_N s1 = some o → V p l e { frames := 1, cells := 0, slots := 0, locals := 25 } s m args below meth c (MQ below (q_Qc D cy b0 (some (.int r)) σ h') args s 0 0 (fun q => b0 ≤ q)) D cy b0 7 0 0 0 0 σ o 209 [(5, .int x5)] [] → V p l e { frames := 1, cells := 0, slots := 0, locals := 25 } s m args below meth c (MQ below (q_Qc D cy b0 (some (.int r)) σ h') args s 0 0 (fun q => b0 ≤ q)) D cy b0 7 0 0 0 0 σ s1.2 174 [(0, .ref a0), (3, .int x3), (4, .int x4), (5, .int x5), (6, .int s1.1)] [] := by
    intro o s1 ho kx1
    refine q_loop_V (P := fun s0 => V p l e { frames := 1, cells := 0, slots := 0, locals := 25 } s m args below meth c (MQ below (q_Qc D cy b0 (some (.int r)) σ h') args s 0 0 (fun q => b0 ≤ q)) D cy b0 7 0 0 0 0 σ s0.2 174 [(0, .ref a0), (3, .int x3), (4, .int x4), (5, .int x5), (6, .int s0.1)] []) (o := o) ?_ q_N s1 ho
    intro s2 z1 hf kb1 kr1
    obtain ⟨x6, h⟩ := s2
    replace hf : fX5_copy_174 σ a0 x1 x2 x3 x4 x5 x6 h = some z1 := hf
    unfold fX5_copy_174 at hf
    show V p l e { frames := 1, cells := 0, slots := 0, locals := 25 } s m args below meth c (MQ below (q_Qc D cy b0 (some (.int r)) σ h') args s 0 0 (fun q => b0 ≤ q)) D cy b0 7 0 0 0 0 σ h 174 [(0, .ref a0), (3, .int x3), (4, .int x4), (5, .int x5), (6, .int x6)] []
    refine v_run C0 tbX5 cokX5_copy (pc' := 178) (lv' := [(0, .ref a0), (3, .int x3), (4, .int x4), (5, .int x5), (6, .int x6)]) (st' := [.int x5, .int x6]) (h' := h) 2 rfl trivial ?_
    refine v_icmp_ge C0 cokX5_copy rfl 209 (by decide) hf (fun _ hf => ?_) (fun _ hf => ?_)
    · obtain rfl := Option.some.inj hf
      refine v_pick [3] rfl ?_
      have hx := kr1 _ rfl
      subst hx
      exact kx1
    · obtain ⟨⟨g11, g12⟩, hf⟩ := q_gu_o hf
      refine v_run C0 tbX5 cokX5_copy (pc' := 174) (lv' := [(6, .int (x6 + (1 : Int32))), (0, .ref a0), (3, .int x3), (4, .int x4), (5, .int x5)]) (st' := []) (h' := (q_sj h (q_ref σ a0 20) (Int32.toNatClampNeg ((((100 : Int32) * x3) + x4) + x6)) (q_lng h (q_ref σ a0 43) (Int32.toNatClampNeg x6)))) 16 rfl ⟨⟨ta0, q_tn k3⟩, ⟨ta0, q_tn k4⟩, ⟨k4, g11⟩, ⟨k3, g12⟩, trivial⟩ ?_
      obtain rfl := Option.some.inj hf
      refine v_pick [1, 2, 3, 4, 0] rfl ?_
      exact kb1 _ rfl
  refine v_run C0 tbX5 cokX5_copy (pc' := 11) (lv' := [(0, .ref a0), (1, .int x1), (2, .int x2), (3, .int x3), (4, .int x4), (5, .int x5)]) (st' := [.long (7 : Int64), .long (0 : Int64), .long (Int32.toInt64 x1)]) (h' := (q_si h a0 21 (0 : Int32))) 7 rfl ⟨ta0, trivial⟩ ?_
  obtain ⟨r1, e1, hf⟩ := q_bd hf
  refine v_callS C0 cokX5_copy rfl (rest := []) (ctX5_in (Int32.toInt64 x1) (0 : Int64) (7 : Int64) e1) calX5_in lkX5_96 inX5_in dnX5_in rfl rfl ⟨by decide, by decide⟩ (Nat.le_of_ble_eq_true rfl) (Nat.le_refl _) (Nat.le_refl _) ?_
  refine v_if_eq C0 cokX5_copy rfl 29 (by decide) hf (fun _ hf => ?_) (fun _ hf => ?_)
  · refine v_run C0 tbX5 cokX5_copy (pc' := 30) (lv' := [(0, .ref a0), (1, .int x1), (2, .int x2), (3, .int x3), (4, .int x4), (5, .int x5)]) (st' := [.int (-1 : Int32)]) (h' := (q_si h a0 21 (0 : Int32))) 1 rfl trivial ?_
    obtain ⟨rfl, rfl⟩ := Prod.mk.inj (Option.some.inj hf)
    exact v_iret C0 cokX5_copy hr hlk rfl
  · refine v_run C0 tbX5 cokX5_copy (pc' := 23) (lv' := [(0, .ref a0), (1, .int x1), (2, .int x2), (3, .int x3), (4, .int x4), (5, .int x5)]) (st' := [.long (7 : Int64), .long (0 : Int64), .long (Int32.toInt64 x3)]) (h' := (q_si h a0 21 (0 : Int32))) 4 rfl trivial ?_
    obtain ⟨r2, e2, hf⟩ := q_bd hf
    refine v_callS C0 cokX5_copy rfl (rest := []) (ctX5_in (Int32.toInt64 x3) (0 : Int64) (7 : Int64) e2) calX5_in lkX5_96 inX5_in dnX5_in rfl rfl ⟨by decide, by decide⟩ (Nat.le_of_ble_eq_true rfl) (Nat.le_refl _) (Nat.le_refl _) ?_
    refine v_if_ne C0 cokX5_copy rfl 31 (by decide) hf (fun _ hf => ?_) (fun _ hf => ?_)
    · refine v_run C0 tbX5 cokX5_copy (pc' := 30) (lv' := [(0, .ref a0), (1, .int x1), (2, .int x2), (3, .int x3), (4, .int x4), (5, .int x5)]) (st' := [.int (-1 : Int32)]) (h' := (q_si h a0 21 (0 : Int32))) 1 rfl trivial ?_
      obtain ⟨rfl, rfl⟩ := Prod.mk.inj (Option.some.inj hf)
      exact v_iret C0 cokX5_copy hr hlk rfl
    · obtain ⟨g3, hf⟩ := q_gu_o hf
      refine v_run C0 tbX5 cokX5_copy (pc' := 37) (lv' := [(0, .ref a0), (1, .int x1), (2, .int x2), (3, .int x3), (4, .int x4), (5, .int x5)]) (st' := [.int (q_int (q_si h a0 21 (0 : Int32)) (q_ref σ a0 15) (Int32.toNatClampNeg x1))]) (h' := (q_si h a0 21 (0 : Int32))) 4 rfl ⟨⟨ta0, q_tn k0⟩, ⟨k0, g3⟩, trivial⟩ ?_
      refine v_if_eq C0 cokX5_copy rfl 49 (by decide) hf (fun _ hf => ?_) (fun _ hf => ?_)
      · refine v_run C0 tbX5 cokX5_copy (pc' := 51) (lv' := [(0, .ref a0), (1, .int x1), (2, .int x2), (3, .int x3), (4, .int x4), (5, .int x5)]) (st' := [.int (-11 : Int32)]) (h' := (q_si h a0 21 (0 : Int32))) 1 rfl trivial ?_
        obtain ⟨rfl, rfl⟩ := Prod.mk.inj (Option.some.inj hf)
        exact v_iret C0 cokX5_copy hr hlk rfl
      · obtain ⟨g4, hf⟩ := q_gu_o hf
        refine v_run C0 tbX5 cokX5_copy (pc' := 46) (lv' := [(0, .ref a0), (1, .int x1), (2, .int x2), (3, .int x3), (4, .int x4), (5, .int x5)]) (st' := [.int (q_int (q_si h a0 21 (0 : Int32)) (q_ref σ a0 15) (Int32.toNatClampNeg x3))]) (h' := (q_si h a0 21 (0 : Int32))) 4 rfl ⟨⟨ta0, q_tn k0⟩, ⟨k0, g4⟩, trivial⟩ ?_
        refine v_if_ne C0 cokX5_copy rfl 52 (by decide) hf (fun _ hf => ?_) (fun _ hf => ?_)
        · refine v_run C0 tbX5 cokX5_copy (pc' := 51) (lv' := [(0, .ref a0), (1, .int x1), (2, .int x2), (3, .int x3), (4, .int x4), (5, .int x5)]) (st' := [.int (-11 : Int32)]) (h' := (q_si h a0 21 (0 : Int32))) 1 rfl trivial ?_
          obtain ⟨rfl, rfl⟩ := Prod.mk.inj (Option.some.inj hf)
          exact v_iret C0 cokX5_copy hr hlk rfl
        · refine v_run C0 tbX5 cokX5_copy (pc' := 59) (lv' := [(0, .ref a0), (1, .int x1), (2, .int x2), (3, .int x3), (4, .int x4), (5, .int x5)]) (st' := [.int (2 : Int32), .int (q_int (q_si h a0 21 (0 : Int32)) (q_ref σ a0 15) (Int32.toNatClampNeg x1))]) (h' := (q_si h a0 21 (0 : Int32))) 5 rfl ⟨⟨ta0, q_tn k0⟩, ⟨k0, g3⟩, trivial⟩ ?_
          refine v_icmp_ne C0 cokX5_copy rfl 87 (by decide) hf (fun _ hf => ?_) (fun _ hf => ?_)
          · refine v_run C0 tbX5 cokX5_copy (pc' := 69) (lv' := [(0, .ref a0), (1, .int x1), (2, .int x2), (3, .int x3), (4, .int x4), (5, .int x5)]) (st' := [.int (2 : Int32), .int (q_int (q_si h a0 21 (0 : Int32)) (q_ref σ a0 15) (Int32.toNatClampNeg x3))]) (h' := (q_si h a0 21 (0 : Int32))) 5 rfl ⟨⟨ta0, q_tn k0⟩, ⟨k0, g4⟩, trivial⟩ ?_
            refine v_icmp_ne C0 cokX5_copy rfl 87 (by decide) hf (fun _ hf => ?_) (fun _ hf => ?_)
            · obtain ⟨⟨g5, g6⟩, hf⟩ := q_gu_o hf
              refine v_run C0 tbX5 cokX5_copy (pc' := 84) (lv' := [(0, .ref a0), (1, .int x1), (2, .int x2), (3, .int x3), (4, .int x4), (5, .int x5)]) (st' := [.int (q_int (q_si h a0 21 (0 : Int32)) (q_ref σ a0 18) (Int32.toNatClampNeg x3)), .int (q_int (q_si h a0 21 (0 : Int32)) (q_ref σ a0 18) (Int32.toNatClampNeg x1))]) (h' := (q_si h a0 21 (0 : Int32))) 8 rfl ⟨⟨ta0, q_tn k1⟩, ⟨k1, g5⟩, ⟨ta0, q_tn k1⟩, ⟨k1, g6⟩, trivial⟩ ?_
              refine v_icmp_eq C0 cokX5_copy rfl 90 (by decide) hf (fun _ hf => ?_) (fun _ hf => ?_)
              · refine v_run C0 tbX5 cokX5_copy (pc' := 92) (lv' := [(0, .ref a0), (1, .int x1), (2, .int x2), (3, .int x3), (4, .int x4), (5, .int x5)]) (st' := [.int x5]) (h' := (q_si h a0 21 (0 : Int32))) 1 rfl trivial ?_
                refine v_if_lt C0 cokX5_copy rfl 131 (by decide) hf (fun _ hf => ?_) (fun _ hf => ?_)
                · refine v_run C0 tbX5 cokX5_copy (pc' := 133) (lv' := [(0, .ref a0), (1, .int x1), (2, .int x2), (3, .int x3), (4, .int x4), (5, .int x5)]) (st' := [.int (-13 : Int32)]) (h' := (q_si h a0 21 (0 : Int32))) 1 rfl trivial ?_
                  obtain ⟨rfl, rfl⟩ := Prod.mk.inj (Option.some.inj hf)
                  exact v_iret C0 cokX5_copy hr hlk rfl
                · refine v_run C0 tbX5 cokX5_copy (pc' := 96) (lv' := [(0, .ref a0), (1, .int x1), (2, .int x2), (3, .int x3), (4, .int x4), (5, .int x5)]) (st' := [.int x2]) (h' := (q_si h a0 21 (0 : Int32))) 1 rfl trivial ?_
                  refine v_if_lt C0 cokX5_copy rfl 131 (by decide) hf (fun _ hf => ?_) (fun _ hf => ?_)
                  · refine v_run C0 tbX5 cokX5_copy (pc' := 133) (lv' := [(0, .ref a0), (1, .int x1), (2, .int x2), (3, .int x3), (4, .int x4), (5, .int x5)]) (st' := [.int (-13 : Int32)]) (h' := (q_si h a0 21 (0 : Int32))) 1 rfl trivial ?_
                    obtain ⟨rfl, rfl⟩ := Prod.mk.inj (Option.some.inj hf)
                    exact v_iret C0 cokX5_copy hr hlk rfl
                  · refine v_run C0 tbX5 cokX5_copy (pc' := 101) (lv' := [(0, .ref a0), (1, .int x1), (2, .int x2), (3, .int x3), (4, .int x4), (5, .int x5)]) (st' := [.int x4]) (h' := (q_si h a0 21 (0 : Int32))) 1 rfl trivial ?_
                    refine v_if_lt C0 cokX5_copy rfl 131 (by decide) hf (fun _ hf => ?_) (fun _ hf => ?_)
                    · refine v_run C0 tbX5 cokX5_copy (pc' := 133) (lv' := [(0, .ref a0), (1, .int x1), (2, .int x2), (3, .int x3), (4, .int x4), (5, .int x5)]) (st' := [.int (-13 : Int32)]) (h' := (q_si h a0 21 (0 : Int32))) 1 rfl trivial ?_
                      obtain ⟨rfl, rfl⟩ := Prod.mk.inj (Option.some.inj hf)
                      exact v_iret C0 cokX5_copy hr hlk rfl
                    · obtain ⟨g7, hf⟩ := q_gu_o hf
                      refine v_run C0 tbX5 cokX5_copy (pc' := 114) (lv' := [(0, .ref a0), (1, .int x1), (2, .int x2), (3, .int x3), (4, .int x4), (5, .int x5)]) (st' := [.int ((q_int (q_si h a0 21 (0 : Int32)) (q_ref σ a0 19) (Int32.toNatClampNeg x1)) - x5), .int x2]) (h' := (q_si h a0 21 (0 : Int32))) 7 rfl ⟨⟨ta0, q_tn k2⟩, ⟨k2, g7⟩, trivial⟩ ?_
                      refine v_icmp_gt C0 cokX5_copy rfl 131 (by decide) hf (fun _ hf => ?_) (fun _ hf => ?_)
                      · refine v_run C0 tbX5 cokX5_copy (pc' := 133) (lv' := [(0, .ref a0), (1, .int x1), (2, .int x2), (3, .int x3), (4, .int x4), (5, .int x5)]) (st' := [.int (-13 : Int32)]) (h' := (q_si h a0 21 (0 : Int32))) 1 rfl trivial ?_
                        obtain ⟨rfl, rfl⟩ := Prod.mk.inj (Option.some.inj hf)
                        exact v_iret C0 cokX5_copy hr hlk rfl
                      · obtain ⟨g8, hf⟩ := q_gu_o hf
                        refine v_run C0 tbX5 cokX5_copy (pc' := 128) (lv' := [(0, .ref a0), (1, .int x1), (2, .int x2), (3, .int x3), (4, .int x4), (5, .int x5)]) (st' := [.int ((q_int (q_si h a0 21 (0 : Int32)) (q_ref σ a0 19) (Int32.toNatClampNeg x3)) - x5), .int x4]) (h' := (q_si h a0 21 (0 : Int32))) 7 rfl ⟨⟨ta0, q_tn k2⟩, ⟨k2, g8⟩, trivial⟩ ?_
                        refine v_icmp_le C0 cokX5_copy rfl 134 (by decide) hf (fun _ hf => ?_) (fun _ hf => ?_)
                        · refine v_run C0 tbX5 cokX5_copy (pc' := 137) (lv' := [(6, .int (0 : Int32)), (0, .ref a0), (1, .int x1), (2, .int x2), (3, .int x3), (4, .int x4), (5, .int x5)]) (st' := []) (h' := (q_si h a0 21 (0 : Int32))) 2 rfl trivial ?_
                          obtain ⟨o9, eo9, hf⟩ := q_bd hf
                          refine v_pick [1, 2, 3, 4, 5, 6, 0] rfl ?_
                          refine n137 o9 ((0 : Int32), (q_si h a0 21 (0 : Int32))) eo9 ?_
                          refine v_run C0 tbX5 cokX5_copy (pc' := 174) (lv' := [(6, .int (0 : Int32)), (0, .ref a0), (3, .int x3), (4, .int x4), (5, .int x5)]) (st' := []) (h' := o9) 2 rfl trivial ?_
                          obtain ⟨o10, eo10, hf⟩ := q_bd hf
                          refine v_pick [1, 2, 3, 4, 0] rfl ?_
                          refine n174 o10 ((0 : Int32), o9) eo10 ?_
                          refine v_run C0 tbX5 cokX5_copy (pc' := 211) (lv' := [(5, .int x5)]) (st' := [.int x5]) (h' := o10) 1 rfl trivial ?_
                          obtain ⟨rfl, rfl⟩ := Prod.mk.inj (Option.some.inj hf)
                          exact v_iret C0 cokX5_copy hr hlk rfl
                        · refine v_run C0 tbX5 cokX5_copy (pc' := 133) (lv' := [(0, .ref a0), (1, .int x1), (2, .int x2), (3, .int x3), (4, .int x4), (5, .int x5)]) (st' := [.int (-13 : Int32)]) (h' := (q_si h a0 21 (0 : Int32))) 1 rfl trivial ?_
                          obtain ⟨rfl, rfl⟩ := Prod.mk.inj (Option.some.inj hf)
                          exact v_iret C0 cokX5_copy hr hlk rfl
              · refine v_run C0 tbX5 cokX5_copy (pc' := 89) (lv' := [(0, .ref a0), (1, .int x1), (2, .int x2), (3, .int x3), (4, .int x4), (5, .int x5)]) (st' := [.int (-12 : Int32)]) (h' := (q_si h a0 21 (0 : Int32))) 1 rfl trivial ?_
                obtain ⟨rfl, rfl⟩ := Prod.mk.inj (Option.some.inj hf)
                exact v_iret C0 cokX5_copy hr hlk rfl
            · refine v_run C0 tbX5 cokX5_copy (pc' := 89) (lv' := [(0, .ref a0), (1, .int x1), (2, .int x2), (3, .int x3), (4, .int x4), (5, .int x5)]) (st' := [.int (-12 : Int32)]) (h' := (q_si h a0 21 (0 : Int32))) 1 rfl trivial ?_
              obtain ⟨rfl, rfl⟩ := Prod.mk.inj (Option.some.inj hf)
              exact v_iret C0 cokX5_copy hr hlk rfl
          · refine v_run C0 tbX5 cokX5_copy (pc' := 89) (lv' := [(0, .ref a0), (1, .int x1), (2, .int x2), (3, .int x3), (4, .int x4), (5, .int x5)]) (st' := [.int (-12 : Int32)]) (h' := (q_si h a0 21 (0 : Int32))) 1 rfl trivial ?_
            obtain ⟨rfl, rfl⟩ := Prod.mk.inj (Option.some.inj hf)
            exact v_iret C0 cokX5_copy hr hlk rfl
-- BackByNoonOnMondayModel.costOf(II)I
noncomputable def fX5_costOf (σ : q_St) (h : q_Hp) (x0 : Int32) (x1 : Int32) : Option Int32 := (if x0 = (0 : Int32) then some (4 : Int32) else (if x0 = (1 : Int32) then some ((4 : Int32) + x1) else (if x0 = (2 : Int32) then some (2 : Int32) else (if x0 = (3 : Int32) then some (5 : Int32) else (if x0 = (4 : Int32) then some ((2 : Int32) * ((4 : Int32) + x1)) else (if x0 = (5 : Int32) then some ((2 : Int32) + x1) else (if x0 = (6 : Int32) then some (2 : Int32) else some (((4 : Int32) + x1) + (3 : Int32)))))))))
def cdX5_costOf : q_Cd := [(0, .iconst 4), (1, .iload_n 1), (2, .iadd), (3, .istore_n 2), (4, .iload_n 0), (48, .iconst 4), (49, .ireturn), (50, .iload_n 2), (51, .ireturn), (52, .iconst 2), (53, .ireturn), (54, .iconst 5), (55, .ireturn), (56, .iconst 2), (57, .iload_n 2), (58, .imul), (59, .ireturn), (60, .iconst 2), (61, .iload_n 1), (62, .iadd), (63, .ireturn), (64, .iconst 2), (65, .ireturn), (66, .iload_n 2), (67, .iconst 3), (68, .iadd), (69, .ireturn)]
set_option maxRecDepth 100000 in
theorem cokX5_costOf : q_cok cX5_costOf cdX5_costOf := by unfold q_cok; decide +kernel
theorem dswX5_costOf_5 : decode cX5_costOf 5 = .ok (.tableswitch 61 0 6 #[43, 45, 47, 49, 51, 55, 59], 43) := by decide +kernel
set_option maxRecDepth 100000 in
set_option maxHeartbeats 4000000 in
theorem ctX5_costOf {l : Launch} {D : va_G} {cy : Nat → Nat} {b0 : Nat} {σ : q_St} {h : q_Hp} (x0 : Int32) (x1 : Int32) {r : Int32} (hf : fX5_costOf σ h x0 x1 = some r) : q_M l yX5_costOf cX5_costOf 3 (some .int) 0 0 0 0 D cy b0 σ h [.int x0, .int x1] (some (.int r)) σ h := by
  unfold fX5_costOf at hf
  refine q_enter (by decide) (Nat.le_of_ble_eq_true rfl) ?_
  intro p e s m args below meth c C0 hr hlk hnm
  replace C0 : VC p { frames := 0, cells := 0, slots := 0, locals := 0 } s m args meth c D cy b0 3 0 0 RX5 cX5_costOf := C0
  refine v_run C0 tbX5 cokX5_costOf (pc' := 5) (lv' := [(2, .int ((4 : Int32) + x1)), (0, .int x0), (1, .int x1)]) (st' := [.int x0]) (h' := h) 5 rfl trivial ?_
  rcases q_ite hf with ⟨d1, hf⟩ | ⟨d1, hf⟩
  · refine v_tabI C0 dswX5_costOf_5 d1 48 (by decide +kernel) (by decide +kernel) ?_
    refine v_run C0 tbX5 cokX5_costOf (pc' := 49) (lv' := [(2, .int ((4 : Int32) + x1)), (0, .int x0), (1, .int x1)]) (st' := [.int (4 : Int32)]) (h' := h) 1 rfl trivial ?_
    obtain rfl := Option.some.inj hf
    exact v_iret C0 cokX5_costOf hr hlk rfl
  · rcases q_ite hf with ⟨d2, hf⟩ | ⟨d2, hf⟩
    · refine v_tabI C0 dswX5_costOf_5 d2 50 (by decide +kernel) (by decide +kernel) ?_
      refine v_run C0 tbX5 cokX5_costOf (pc' := 51) (lv' := [(2, .int ((4 : Int32) + x1)), (0, .int x0), (1, .int x1)]) (st' := [.int ((4 : Int32) + x1)]) (h' := h) 1 rfl trivial ?_
      obtain rfl := Option.some.inj hf
      exact v_iret C0 cokX5_costOf hr hlk rfl
    · rcases q_ite hf with ⟨d3, hf⟩ | ⟨d3, hf⟩
      · refine v_tabI C0 dswX5_costOf_5 d3 52 (by decide +kernel) (by decide +kernel) ?_
        refine v_run C0 tbX5 cokX5_costOf (pc' := 53) (lv' := [(2, .int ((4 : Int32) + x1)), (0, .int x0), (1, .int x1)]) (st' := [.int (2 : Int32)]) (h' := h) 1 rfl trivial ?_
        obtain rfl := Option.some.inj hf
        exact v_iret C0 cokX5_costOf hr hlk rfl
      · rcases q_ite hf with ⟨d4, hf⟩ | ⟨d4, hf⟩
        · refine v_tabI C0 dswX5_costOf_5 d4 54 (by decide +kernel) (by decide +kernel) ?_
          refine v_run C0 tbX5 cokX5_costOf (pc' := 55) (lv' := [(2, .int ((4 : Int32) + x1)), (0, .int x0), (1, .int x1)]) (st' := [.int (5 : Int32)]) (h' := h) 1 rfl trivial ?_
          obtain rfl := Option.some.inj hf
          exact v_iret C0 cokX5_costOf hr hlk rfl
        · rcases q_ite hf with ⟨d5, hf⟩ | ⟨d5, hf⟩
          · refine v_tabI C0 dswX5_costOf_5 d5 56 (by decide +kernel) (by decide +kernel) ?_
            refine v_run C0 tbX5 cokX5_costOf (pc' := 59) (lv' := [(2, .int ((4 : Int32) + x1)), (0, .int x0), (1, .int x1)]) (st' := [.int ((2 : Int32) * ((4 : Int32) + x1))]) (h' := h) 3 rfl trivial ?_
            obtain rfl := Option.some.inj hf
            exact v_iret C0 cokX5_costOf hr hlk rfl
          · rcases q_ite hf with ⟨d6, hf⟩ | ⟨d6, hf⟩
            · refine v_tabI C0 dswX5_costOf_5 d6 60 (by decide +kernel) (by decide +kernel) ?_
              refine v_run C0 tbX5 cokX5_costOf (pc' := 63) (lv' := [(2, .int ((4 : Int32) + x1)), (0, .int x0), (1, .int x1)]) (st' := [.int ((2 : Int32) + x1)]) (h' := h) 3 rfl trivial ?_
              obtain rfl := Option.some.inj hf
              exact v_iret C0 cokX5_costOf hr hlk rfl
            · rcases q_ite hf with ⟨d7, hf⟩ | ⟨d7, hf⟩
              · refine v_tabI C0 dswX5_costOf_5 d7 64 (by decide +kernel) (by decide +kernel) ?_
                refine v_run C0 tbX5 cokX5_costOf (pc' := 65) (lv' := [(2, .int ((4 : Int32) + x1)), (0, .int x0), (1, .int x1)]) (st' := [.int (2 : Int32)]) (h' := h) 1 rfl trivial ?_
                obtain rfl := Option.some.inj hf
                exact v_iret C0 cokX5_costOf hr hlk rfl
              · refine v_tabO C0 dswX5_costOf_5 66 (by decide +kernel) (fun k h1 h2 hk => ?_) ?_
                · have hk2 : k = 0 ∨ k = 1 ∨ k = 2 ∨ k = 3 ∨ k = 4 ∨ k = 5 ∨ k = 6 := by omega
                  rcases hk2 with rfl | rfl | rfl | rfl | rfl | rfl | rfl
                  · exact d1 (Int32.toInt_inj.mp hk)
                  · exact d2 (Int32.toInt_inj.mp hk)
                  · exact d3 (Int32.toInt_inj.mp hk)
                  · exact d4 (Int32.toInt_inj.mp hk)
                  · exact d5 (Int32.toInt_inj.mp hk)
                  · exact d6 (Int32.toInt_inj.mp hk)
                  · exact d7 (Int32.toInt_inj.mp hk)
                · refine v_run C0 tbX5 cokX5_costOf (pc' := 69) (lv' := [(2, .int ((4 : Int32) + x1)), (0, .int x0), (1, .int x1)]) (st' := [.int (((4 : Int32) + x1) + (3 : Int32))]) (h' := h) 3 rfl trivial ?_
                  obtain rfl := Option.some.inj hf
                  exact v_iret C0 cokX5_costOf hr hlk rfl
-- BackByNoonOnMondayModel.cost(I)I
noncomputable def fX5_cost (σ : q_St) (h : q_Hp) (a0 : Nat) (x1 : Int32) : Option (Int32 × q_Hp) := q_gu ((q_tag σ (q_ref σ a0 16) = 7) ∧ (q_tag σ (q_ref σ a0 17) = 7)) (((fX5_wrongKept σ (q_si h a0 21 (0 : Int32)) a0 x1).bind fun r1 => (if 0 ≤ r1 then q_gu ((vp_in x1 (q_len σ (q_ref σ a0 16))) ∧ (vp_in x1 (q_len σ (q_ref σ a0 17)))) (((fX5_costOf σ (q_si h a0 21 (0 : Int32)) (q_int (q_si h a0 21 (0 : Int32)) (q_ref σ a0 16) (Int32.toNatClampNeg x1)) (q_int (q_si h a0 21 (0 : Int32)) (q_ref σ a0 17) (Int32.toNatClampNeg x1))).bind fun r4 => some (r4, (q_si h a0 21 (0 : Int32))))) else ((fX5_wrongKept σ (q_si h a0 21 (0 : Int32)) a0 x1).bind fun r5 => some (r5, (q_si h a0 21 (0 : Int32)))))))
def cdX5_cost : q_Cd := [(0, .aload_n 0), (1, .iconst 0), (2, .putfield 89), (5, .aload_n 0), (6, .iload_n 1), (7, .invokevirtual 233), (10, .ifCond .ge 11), (13, .aload_n 0), (14, .iload_n 1), (15, .invokevirtual 233), (18, .goto 18), (21, .aload_n 0), (22, .getfield 46), (25, .iload_n 1), (26, .iaload), (27, .aload_n 0), (28, .getfield 49), (31, .iload_n 1), (32, .iaload), (33, .invokestatic 362), (36, .ireturn)]
set_option maxRecDepth 100000 in
theorem cokX5_cost : q_cok cX5_cost cdX5_cost := by unfold q_cok; decide +kernel
set_option maxRecDepth 100000 in
set_option maxHeartbeats 4000000 in
theorem ctX5_cost {l : Launch} {D : va_G} {cy : Nat → Nat} {b0 : Nat} {σ : q_St} {h : q_Hp} (a0 : Nat) (x1 : Int32) {r : Int32} {h' : q_Hp} (ta0 : q_tag σ a0 = 6) (hf : fX5_cost σ h a0 x1 = some (r, h')) : q_M l yX5_cost cX5_cost 2 (some .int) 2 46 0 0 D cy b0 σ h [.ref a0, .int x1] (some (.int r)) σ h' := by
  unfold fX5_cost at hf
  obtain ⟨⟨k0, k1⟩, hf⟩ := q_gu_o hf
  refine q_enter (by decide) (Nat.le_of_ble_eq_true rfl) ?_
  intro p e s m args below meth c C0 hr hlk hnm
  replace C0 : VC p { frames := 2, cells := 0, slots := 0, locals := 46 } s m args meth c D cy b0 2 0 0 RX5 cX5_cost := C0
  refine v_run C0 tbX5 cokX5_cost (pc' := 7) (lv' := [(0, .ref a0), (1, .int x1)]) (st' := [.int x1, .ref a0]) (h' := (q_si h a0 21 (0 : Int32))) 5 rfl ⟨ta0, trivial⟩ ?_
  obtain ⟨r1, e1, hf⟩ := q_bd hf
  refine v_callV C0 cokX5_cost rfl (rest := []) (ctX5_wrongKept a0 x1 ta0 e1) calX5_wrongKept lkX5_233 inX5_wrongKept dnX5_wrongKept (ci := 5) ⟨rfl, by decide⟩ ta0 rfl rfl ⟨by decide, by decide⟩ (Nat.le_of_ble_eq_true rfl) (Nat.le_refl _) (Nat.le_refl _) ?_
  refine v_if_ge C0 cokX5_cost rfl 21 (by decide) hf (fun _ hf => ?_) (fun _ hf => ?_)
  · obtain ⟨⟨g2, g3⟩, hf⟩ := q_gu_o hf
    refine v_run C0 tbX5 cokX5_cost (pc' := 33) (lv' := [(0, .ref a0), (1, .int x1)]) (st' := [.int (q_int (q_si h a0 21 (0 : Int32)) (q_ref σ a0 17) (Int32.toNatClampNeg x1)), .int (q_int (q_si h a0 21 (0 : Int32)) (q_ref σ a0 16) (Int32.toNatClampNeg x1))]) (h' := (q_si h a0 21 (0 : Int32))) 8 rfl ⟨⟨ta0, q_tn k0⟩, ⟨k0, g2⟩, ⟨ta0, q_tn k1⟩, ⟨k1, g3⟩, trivial⟩ ?_
    obtain ⟨r4, e4, hf⟩ := q_bd hf
    refine v_callS C0 cokX5_cost rfl (rest := []) (ctX5_costOf (q_int (q_si h a0 21 (0 : Int32)) (q_ref σ a0 16) (Int32.toNatClampNeg x1)) (q_int (q_si h a0 21 (0 : Int32)) (q_ref σ a0 17) (Int32.toNatClampNeg x1)) e4) calX5_costOf lkX5_362 inX5_costOf dnX5_costOf rfl rfl ⟨by decide, by decide⟩ (Nat.le_of_ble_eq_true rfl) (Nat.le_refl _) (Nat.le_refl _) ?_
    obtain ⟨rfl, rfl⟩ := Prod.mk.inj (Option.some.inj hf)
    exact v_iret C0 cokX5_cost hr hlk rfl
  · refine v_run C0 tbX5 cokX5_cost (pc' := 15) (lv' := [(0, .ref a0), (1, .int x1)]) (st' := [.int x1, .ref a0]) (h' := (q_si h a0 21 (0 : Int32))) 2 rfl trivial ?_
    obtain ⟨r5, e5, hf⟩ := q_bd hf
    refine v_callV C0 cokX5_cost rfl (rest := []) (ctX5_wrongKept a0 x1 ta0 e5) calX5_wrongKept lkX5_233 inX5_wrongKept dnX5_wrongKept (ci := 5) ⟨rfl, by decide⟩ ta0 rfl rfl ⟨by decide, by decide⟩ (Nat.le_of_ble_eq_true rfl) (Nat.le_refl _) (Nat.le_refl _) ?_
    refine v_run C0 tbX5 cokX5_cost (pc' := 36) (lv' := [(0, .ref a0), (1, .int x1)]) (st' := [.int r5]) (h' := (q_si h a0 21 (0 : Int32))) 1 rfl trivial ?_
    obtain ⟨rfl, rfl⟩ := Prod.mk.inj (Option.some.inj hf)
    exact v_iret C0 cokX5_cost hr hlk rfl
-- BackByNoonOnMondayModel.toss(I)I
noncomputable def fX5_toss (σ : q_St) (h : q_Hp) (a0 : Nat) (x1 : Int32) : Option (Int32 × q_Hp) := q_gu ((q_tag σ (q_ref σ a0 16) = 7) ∧ (q_tag σ (q_ref σ a0 17) = 7)) (((fX5_wrongKept σ (q_si h a0 21 (0 : Int32)) a0 x1).bind fun r1 => (if 0 ≤ r1 then q_gu ((vp_in x1 (q_len σ (q_ref σ a0 16))) ∧ (vp_in x1 (q_len σ (q_ref σ a0 17)))) ((if (q_int (q_si h a0 21 (0 : Int32)) (q_ref σ a0 16) (Int32.toNatClampNeg x1)) = (3 : Int32) then some ((-15 : Int32), (q_si h a0 21 (0 : Int32))) else (if (q_int (q_si h a0 21 (0 : Int32)) (q_ref σ a0 16) (Int32.toNatClampNeg x1)) = (6 : Int32) then some ((-15 : Int32), (q_si h a0 21 (0 : Int32))) else (if (q_int (q_si h a0 21 (0 : Int32)) (q_ref σ a0 17) (Int32.toNatClampNeg x1)) = 0 then some ((-15 : Int32), (q_si h a0 21 (0 : Int32))) else (if (q_int (q_si h a0 21 (0 : Int32)) (q_ref σ a0 16) (Int32.toNatClampNeg x1)) = (4 : Int32) then ((fX5_costOf σ (q_si h a0 21 (0 : Int32)) (q_int (q_si h a0 21 (0 : Int32)) (q_ref σ a0 16) (Int32.toNatClampNeg x1)) (q_int (q_si h a0 21 (0 : Int32)) (q_ref σ a0 17) (Int32.toNatClampNeg x1))).bind fun r4 => some (((200 : Int32) + r4), (q_si h a0 21 (0 : Int32)))) else (if (q_int (q_si h a0 21 (0 : Int32)) (q_ref σ a0 16) (Int32.toNatClampNeg x1)) = (1 : Int32) then some (((100 : Int32) + (q_int (q_si h a0 21 (0 : Int32)) (q_ref σ a0 17) (Int32.toNatClampNeg x1))), (q_si h a0 21 (0 : Int32))) else (if (q_int (q_si h a0 21 (0 : Int32)) (q_ref σ a0 16) (Int32.toNatClampNeg x1)) = (7 : Int32) then some (((100 : Int32) + (q_int (q_si h a0 21 (0 : Int32)) (q_ref σ a0 17) (Int32.toNatClampNeg x1))), (q_si h a0 21 (0 : Int32))) else some ((q_int (q_si h a0 21 (0 : Int32)) (q_ref σ a0 17) (Int32.toNatClampNeg x1)), (q_si h a0 21 (0 : Int32)))))))))) else ((fX5_wrongKept σ (q_si h a0 21 (0 : Int32)) a0 x1).bind fun r5 => some (r5, (q_si h a0 21 (0 : Int32)))))))
def cdX5_toss : q_Cd := [(0, .aload_n 0), (1, .iconst 0), (2, .putfield 89), (5, .aload_n 0), (6, .iload_n 1), (7, .invokevirtual 233), (10, .ifCond .ge 9), (13, .aload_n 0), (14, .iload_n 1), (15, .invokevirtual 233), (18, .ireturn), (19, .aload_n 0), (20, .getfield 46), (23, .iload_n 1), (24, .iaload), (25, .istore_n 2), (26, .aload_n 0), (27, .getfield 49), (30, .iload_n 1), (31, .iaload), (32, .istore_n 3), (33, .iload_n 2), (34, .iconst 3), (35, .if_icmp .eq 13), (38, .iload_n 2), (39, .bipush 6), (41, .if_icmp .eq 7), (44, .iload_n 3), (45, .ifCond .ne 6), (48, .bipush (-15)), (50, .ireturn), (51, .iload_n 2), (52, .iconst 4), (53, .if_icmp .ne 15), (56, .sipush 200), (59, .iload_n 2), (60, .iload_n 3), (61, .invokestatic 362), (64, .iadd), (65, .goto 22), (68, .iload_n 2), (69, .iconst 1), (70, .if_icmp .eq 9), (73, .iload_n 2), (74, .bipush 7), (76, .if_icmp .ne 10), (79, .bipush 100), (81, .iload_n 3), (82, .iadd), (83, .goto 4), (86, .iload_n 3), (87, .ireturn)]
set_option maxRecDepth 100000 in
theorem cokX5_toss : q_cok cX5_toss cdX5_toss := by unfold q_cok; decide +kernel
set_option maxRecDepth 100000 in
set_option maxHeartbeats 4000000 in
theorem ctX5_toss {l : Launch} {D : va_G} {cy : Nat → Nat} {b0 : Nat} {σ : q_St} {h : q_Hp} (a0 : Nat) (x1 : Int32) {r : Int32} {h' : q_Hp} (ta0 : q_tag σ a0 = 6) (hf : fX5_toss σ h a0 x1 = some (r, h')) : q_M l yX5_toss cX5_toss 4 (some .int) 2 46 0 0 D cy b0 σ h [.ref a0, .int x1] (some (.int r)) σ h' := by
  unfold fX5_toss at hf
  obtain ⟨⟨k0, k1⟩, hf⟩ := q_gu_o hf
  refine q_enter (by decide) (Nat.le_of_ble_eq_true rfl) ?_
  intro p e s m args below meth c C0 hr hlk hnm
  replace C0 : VC p { frames := 2, cells := 0, slots := 0, locals := 46 } s m args meth c D cy b0 4 0 0 RX5 cX5_toss := C0
  refine v_run C0 tbX5 cokX5_toss (pc' := 7) (lv' := [(0, .ref a0), (1, .int x1)]) (st' := [.int x1, .ref a0]) (h' := (q_si h a0 21 (0 : Int32))) 5 rfl ⟨ta0, trivial⟩ ?_
  obtain ⟨r1, e1, hf⟩ := q_bd hf
  refine v_callV C0 cokX5_toss rfl (rest := []) (ctX5_wrongKept a0 x1 ta0 e1) calX5_wrongKept lkX5_233 inX5_wrongKept dnX5_wrongKept (ci := 5) ⟨rfl, by decide⟩ ta0 rfl rfl ⟨by decide, by decide⟩ (Nat.le_of_ble_eq_true rfl) (Nat.le_refl _) (Nat.le_refl _) ?_
  refine v_if_ge C0 cokX5_toss rfl 19 (by decide) hf (fun _ hf => ?_) (fun _ hf => ?_)
  · obtain ⟨⟨g2, g3⟩, hf⟩ := q_gu_o hf
    refine v_run C0 tbX5 cokX5_toss (pc' := 35) (lv' := [(3, .int (q_int (q_si h a0 21 (0 : Int32)) (q_ref σ a0 17) (Int32.toNatClampNeg x1))), (2, .int (q_int (q_si h a0 21 (0 : Int32)) (q_ref σ a0 16) (Int32.toNatClampNeg x1))), (0, .ref a0), (1, .int x1)]) (st' := [.int (3 : Int32), .int (q_int (q_si h a0 21 (0 : Int32)) (q_ref σ a0 16) (Int32.toNatClampNeg x1))]) (h' := (q_si h a0 21 (0 : Int32))) 12 rfl ⟨⟨ta0, q_tn k0⟩, ⟨k0, g2⟩, ⟨ta0, q_tn k1⟩, ⟨k1, g3⟩, trivial⟩ ?_
    refine v_icmp_eq C0 cokX5_toss rfl 48 (by decide) hf (fun _ hf => ?_) (fun _ hf => ?_)
    · refine v_run C0 tbX5 cokX5_toss (pc' := 50) (lv' := [(3, .int (q_int (q_si h a0 21 (0 : Int32)) (q_ref σ a0 17) (Int32.toNatClampNeg x1))), (2, .int (q_int (q_si h a0 21 (0 : Int32)) (q_ref σ a0 16) (Int32.toNatClampNeg x1))), (0, .ref a0), (1, .int x1)]) (st' := [.int (-15 : Int32)]) (h' := (q_si h a0 21 (0 : Int32))) 1 rfl trivial ?_
      obtain ⟨rfl, rfl⟩ := Prod.mk.inj (Option.some.inj hf)
      exact v_iret C0 cokX5_toss hr hlk rfl
    · refine v_run C0 tbX5 cokX5_toss (pc' := 41) (lv' := [(3, .int (q_int (q_si h a0 21 (0 : Int32)) (q_ref σ a0 17) (Int32.toNatClampNeg x1))), (2, .int (q_int (q_si h a0 21 (0 : Int32)) (q_ref σ a0 16) (Int32.toNatClampNeg x1))), (0, .ref a0), (1, .int x1)]) (st' := [.int (6 : Int32), .int (q_int (q_si h a0 21 (0 : Int32)) (q_ref σ a0 16) (Int32.toNatClampNeg x1))]) (h' := (q_si h a0 21 (0 : Int32))) 2 rfl trivial ?_
      refine v_icmp_eq C0 cokX5_toss rfl 48 (by decide) hf (fun _ hf => ?_) (fun _ hf => ?_)
      · refine v_run C0 tbX5 cokX5_toss (pc' := 50) (lv' := [(3, .int (q_int (q_si h a0 21 (0 : Int32)) (q_ref σ a0 17) (Int32.toNatClampNeg x1))), (2, .int (q_int (q_si h a0 21 (0 : Int32)) (q_ref σ a0 16) (Int32.toNatClampNeg x1))), (0, .ref a0), (1, .int x1)]) (st' := [.int (-15 : Int32)]) (h' := (q_si h a0 21 (0 : Int32))) 1 rfl trivial ?_
        obtain ⟨rfl, rfl⟩ := Prod.mk.inj (Option.some.inj hf)
        exact v_iret C0 cokX5_toss hr hlk rfl
      · refine v_run C0 tbX5 cokX5_toss (pc' := 45) (lv' := [(3, .int (q_int (q_si h a0 21 (0 : Int32)) (q_ref σ a0 17) (Int32.toNatClampNeg x1))), (2, .int (q_int (q_si h a0 21 (0 : Int32)) (q_ref σ a0 16) (Int32.toNatClampNeg x1))), (0, .ref a0), (1, .int x1)]) (st' := [.int (q_int (q_si h a0 21 (0 : Int32)) (q_ref σ a0 17) (Int32.toNatClampNeg x1))]) (h' := (q_si h a0 21 (0 : Int32))) 1 rfl trivial ?_
        refine v_if_ne C0 cokX5_toss rfl 51 (by decide) hf (fun _ hf => ?_) (fun _ hf => ?_)
        · refine v_run C0 tbX5 cokX5_toss (pc' := 50) (lv' := [(3, .int (q_int (q_si h a0 21 (0 : Int32)) (q_ref σ a0 17) (Int32.toNatClampNeg x1))), (2, .int (q_int (q_si h a0 21 (0 : Int32)) (q_ref σ a0 16) (Int32.toNatClampNeg x1))), (0, .ref a0), (1, .int x1)]) (st' := [.int (-15 : Int32)]) (h' := (q_si h a0 21 (0 : Int32))) 1 rfl trivial ?_
          obtain ⟨rfl, rfl⟩ := Prod.mk.inj (Option.some.inj hf)
          exact v_iret C0 cokX5_toss hr hlk rfl
        · refine v_run C0 tbX5 cokX5_toss (pc' := 53) (lv' := [(3, .int (q_int (q_si h a0 21 (0 : Int32)) (q_ref σ a0 17) (Int32.toNatClampNeg x1))), (2, .int (q_int (q_si h a0 21 (0 : Int32)) (q_ref σ a0 16) (Int32.toNatClampNeg x1))), (0, .ref a0), (1, .int x1)]) (st' := [.int (4 : Int32), .int (q_int (q_si h a0 21 (0 : Int32)) (q_ref σ a0 16) (Int32.toNatClampNeg x1))]) (h' := (q_si h a0 21 (0 : Int32))) 2 rfl trivial ?_
          refine v_icmp_ne C0 cokX5_toss rfl 68 (by decide) hf (fun _ hf => ?_) (fun _ hf => ?_)
          · refine v_run C0 tbX5 cokX5_toss (pc' := 61) (lv' := [(3, .int (q_int (q_si h a0 21 (0 : Int32)) (q_ref σ a0 17) (Int32.toNatClampNeg x1))), (2, .int (q_int (q_si h a0 21 (0 : Int32)) (q_ref σ a0 16) (Int32.toNatClampNeg x1))), (0, .ref a0), (1, .int x1)]) (st' := [.int (q_int (q_si h a0 21 (0 : Int32)) (q_ref σ a0 17) (Int32.toNatClampNeg x1)), .int (q_int (q_si h a0 21 (0 : Int32)) (q_ref σ a0 16) (Int32.toNatClampNeg x1)), .int (200 : Int32)]) (h' := (q_si h a0 21 (0 : Int32))) 3 rfl trivial ?_
            obtain ⟨r4, e4, hf⟩ := q_bd hf
            refine v_callS C0 cokX5_toss rfl (rest := [.int (200 : Int32)]) (ctX5_costOf (q_int (q_si h a0 21 (0 : Int32)) (q_ref σ a0 16) (Int32.toNatClampNeg x1)) (q_int (q_si h a0 21 (0 : Int32)) (q_ref σ a0 17) (Int32.toNatClampNeg x1)) e4) calX5_costOf lkX5_362 inX5_costOf dnX5_costOf rfl rfl ⟨by decide, by decide⟩ (Nat.le_of_ble_eq_true rfl) (Nat.le_refl _) (Nat.le_refl _) ?_
            refine v_run C0 tbX5 cokX5_toss (pc' := 87) (lv' := [(3, .int (q_int (q_si h a0 21 (0 : Int32)) (q_ref σ a0 17) (Int32.toNatClampNeg x1))), (2, .int (q_int (q_si h a0 21 (0 : Int32)) (q_ref σ a0 16) (Int32.toNatClampNeg x1))), (0, .ref a0), (1, .int x1)]) (st' := [.int ((200 : Int32) + r4)]) (h' := (q_si h a0 21 (0 : Int32))) 2 rfl trivial ?_
            obtain ⟨rfl, rfl⟩ := Prod.mk.inj (Option.some.inj hf)
            exact v_iret C0 cokX5_toss hr hlk rfl
          · refine v_run C0 tbX5 cokX5_toss (pc' := 70) (lv' := [(3, .int (q_int (q_si h a0 21 (0 : Int32)) (q_ref σ a0 17) (Int32.toNatClampNeg x1))), (2, .int (q_int (q_si h a0 21 (0 : Int32)) (q_ref σ a0 16) (Int32.toNatClampNeg x1))), (0, .ref a0), (1, .int x1)]) (st' := [.int (1 : Int32), .int (q_int (q_si h a0 21 (0 : Int32)) (q_ref σ a0 16) (Int32.toNatClampNeg x1))]) (h' := (q_si h a0 21 (0 : Int32))) 2 rfl trivial ?_
            refine v_icmp_eq C0 cokX5_toss rfl 79 (by decide) hf (fun _ hf => ?_) (fun _ hf => ?_)
            · refine v_run C0 tbX5 cokX5_toss (pc' := 87) (lv' := [(3, .int (q_int (q_si h a0 21 (0 : Int32)) (q_ref σ a0 17) (Int32.toNatClampNeg x1))), (2, .int (q_int (q_si h a0 21 (0 : Int32)) (q_ref σ a0 16) (Int32.toNatClampNeg x1))), (0, .ref a0), (1, .int x1)]) (st' := [.int ((100 : Int32) + (q_int (q_si h a0 21 (0 : Int32)) (q_ref σ a0 17) (Int32.toNatClampNeg x1)))]) (h' := (q_si h a0 21 (0 : Int32))) 4 rfl trivial ?_
              obtain ⟨rfl, rfl⟩ := Prod.mk.inj (Option.some.inj hf)
              exact v_iret C0 cokX5_toss hr hlk rfl
            · refine v_run C0 tbX5 cokX5_toss (pc' := 76) (lv' := [(3, .int (q_int (q_si h a0 21 (0 : Int32)) (q_ref σ a0 17) (Int32.toNatClampNeg x1))), (2, .int (q_int (q_si h a0 21 (0 : Int32)) (q_ref σ a0 16) (Int32.toNatClampNeg x1))), (0, .ref a0), (1, .int x1)]) (st' := [.int (7 : Int32), .int (q_int (q_si h a0 21 (0 : Int32)) (q_ref σ a0 16) (Int32.toNatClampNeg x1))]) (h' := (q_si h a0 21 (0 : Int32))) 2 rfl trivial ?_
              refine v_icmp_ne C0 cokX5_toss rfl 86 (by decide) hf (fun _ hf => ?_) (fun _ hf => ?_)
              · refine v_run C0 tbX5 cokX5_toss (pc' := 87) (lv' := [(3, .int (q_int (q_si h a0 21 (0 : Int32)) (q_ref σ a0 17) (Int32.toNatClampNeg x1))), (2, .int (q_int (q_si h a0 21 (0 : Int32)) (q_ref σ a0 16) (Int32.toNatClampNeg x1))), (0, .ref a0), (1, .int x1)]) (st' := [.int ((100 : Int32) + (q_int (q_si h a0 21 (0 : Int32)) (q_ref σ a0 17) (Int32.toNatClampNeg x1)))]) (h' := (q_si h a0 21 (0 : Int32))) 4 rfl trivial ?_
                obtain ⟨rfl, rfl⟩ := Prod.mk.inj (Option.some.inj hf)
                exact v_iret C0 cokX5_toss hr hlk rfl
              · refine v_run C0 tbX5 cokX5_toss (pc' := 87) (lv' := [(3, .int (q_int (q_si h a0 21 (0 : Int32)) (q_ref σ a0 17) (Int32.toNatClampNeg x1))), (2, .int (q_int (q_si h a0 21 (0 : Int32)) (q_ref σ a0 16) (Int32.toNatClampNeg x1))), (0, .ref a0), (1, .int x1)]) (st' := [.int (q_int (q_si h a0 21 (0 : Int32)) (q_ref σ a0 17) (Int32.toNatClampNeg x1))]) (h' := (q_si h a0 21 (0 : Int32))) 1 rfl trivial ?_
                obtain ⟨rfl, rfl⟩ := Prod.mk.inj (Option.some.inj hf)
                exact v_iret C0 cokX5_toss hr hlk rfl
  · refine v_run C0 tbX5 cokX5_toss (pc' := 15) (lv' := [(0, .ref a0), (1, .int x1)]) (st' := [.int x1, .ref a0]) (h' := (q_si h a0 21 (0 : Int32))) 2 rfl trivial ?_
    obtain ⟨r5, e5, hf⟩ := q_bd hf
    refine v_callV C0 cokX5_toss rfl (rest := []) (ctX5_wrongKept a0 x1 ta0 e5) calX5_wrongKept lkX5_233 inX5_wrongKept dnX5_wrongKept (ci := 5) ⟨rfl, by decide⟩ ta0 rfl rfl ⟨by decide, by decide⟩ (Nat.le_of_ble_eq_true rfl) (Nat.le_refl _) (Nat.le_refl _) ?_
    obtain ⟨rfl, rfl⟩ := Prod.mk.inj (Option.some.inj hf)
    exact v_iret C0 cokX5_toss hr hlk rfl
