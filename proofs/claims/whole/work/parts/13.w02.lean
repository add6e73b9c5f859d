-- BackByNoonOnMonday.tellShop(LBackByNoonOnMonday$Shelf;)I
noncomputable def fX4_tellShop_18 (a0 : Nat) (a1 : Nat) (x2 : Int32) (x3 : Int32) (x4 : Int32) (σ : q_St) (h : q_Hp) : Option ((Int32 × Int32 × Int32 × q_St × q_Hp) ⊕ ((Int32 × q_St × q_Hp) ⊕ (Int32 × q_St × q_Hp))) := (if (100 : Int32) ≤ x4 then some (Sum.inr (Sum.inl (x3, σ, h))) else q_gu ((q_tag σ a1 = 2)) ((if (q_int h a1 4) ≤ x2 then some (Sum.inr (Sum.inl (x3, σ, h))) else q_gu ((q_tag σ a0 = 5) ∧ (q_tag σ (q_ref σ a0 1) = 3)) (q_gu ((vp_in x4 100)) ((q_b3 (fX4_tellStatement σ h (q_ref σ a0 1) a1 x2) fun r9 σ9 h9 => (if 0 ≤ r9 then q_gu ((q_tag σ9 a1 = 2)) (((fX1_byteAt σ9 h9 a1 x2).bind fun r12 => ((fX4_digitsBehind σ9 h9 r12).bind fun r13 => some (Sum.inl ((x2 + (r13 + (2 : Int32))), (x3 + (1 : Int32)), (x4 + (1 : Int32)), σ9, h9))))) else some (Sum.inr (Sum.inr (((-2000 : Int32) - x2), σ9, h9))))))))))
noncomputable def fX4_tellShop_73 (σ : q_St) (h : q_Hp) (a0 : Nat) (a1 : Nat) (x3 : Int32) : Option (Int32 × q_St × q_Hp) := q_gu ((q_tag σ a0 = 5) ∧ (q_tag σ (q_ref σ a0 0) = 3) ∧ (q_tag σ (q_ref σ a0 1) = 3)) ((q_lr σ a0 0 (q_ref σ a0 1) fun σ17 => (q_lr σ17 a0 1 (q_ref σ a0 0) fun σ18 => some (x3, σ18, h))))
noncomputable def fX4_tellShop (σ : q_St) (h : q_Hp) (a0 : Nat) (a1 : Nat) : Option (Int32 × q_St × q_Hp) := q_gu ((q_tag σ (q_ref σ a0 1) = 3) ∧ (q_tag σ (q_ref σ a0 0) = 3)) ((q_b2 (fX2_become σ h (q_ref σ a0 1) (q_ref σ a0 0)) fun σ3 h3 => (q_loop (fun s => fX4_tellShop_18  a0 a1 s.1 s.2.1 s.2.2.1 s.2.2.2.1 s.2.2.2.2) q_N ((0 : Int32), (0 : Int32), (0 : Int32), σ3, h3)).bind fun o4 => q_el o4 fun w5 => fX4_tellShop_73  w5.2.1 w5.2.2 a0 a1 w5.1))
def cdX4_tellShop : q_Cd := [(0, .aload_n 0), (1, .getfield 16), (4, .aload_n 0), (5, .getfield 12), (8, .invokevirtual 313), (11, .iconst 0), (12, .istore_n 2), (13, .iconst 0), (14, .istore_n 3), (15, .iconst 0), (16, .istore 4), (18, .iload 4), (20, .bipush 100), (22, .if_icmp .ge 51), (25, .iload_n 2), (26, .aload_n 1), (27, .getfield 292), (30, .if_icmp .ge 43), (33, .aload_n 0), (34, .getfield 16), (37, .aload_n 1), (38, .iload_n 2), (39, .invokestatic 375), (42, .ifCond .ge 9), (45, .sipush (-2000)), (48, .iload_n 2), (49, .isub), (50, .ireturn), (51, .iinc 3 1), (54, .iload_n 2), (55, .aload_n 1), (56, .iload_n 2), (57, .invokevirtual 369), (60, .invokestatic 372), (63, .iconst 2), (64, .iadd), (65, .iadd), (66, .istore_n 2), (67, .iinc 4 1), (70, .goto (-52)), (73, .aload_n 0), (74, .getfield 12), (77, .astore 4), (79, .aload_n 0), (80, .aload_n 0), (81, .getfield 16), (84, .putfield 12), (87, .aload_n 0), (88, .aload 4), (90, .putfield 16), (93, .iload_n 3), (94, .ireturn)]
set_option maxRecDepth 100000 in
theorem cokX4_tellShop : q_cok cX4_tellShop cdX4_tellShop := by unfold q_cok; decide +kernel
set_option maxRecDepth 100000 in
set_option maxHeartbeats 4000000 in
theorem ctX4_tellShop {l : Launch} {D : va_G} {cy : Nat → Nat} {b0 : Nat} {σ : q_St} {h : q_Hp} (a0 : Nat) (a1 : Nat) {r : Int32} {σ' : q_St} {h' : q_Hp} (ta0 : q_tag σ a0 = 5) (ta1 : q_tag σ a1 = 2) (hf : fX4_tellShop σ h a0 a1 = some (r, σ', h')) : q_M l yX4_tellShop cX4_tellShop 5 (some .int) 5 113 100 700 D cy b0 σ h [.ref a0, .ref a1] (some (.int r)) σ' h' := by
  unfold fX4_tellShop at hf
  refine q_enter (by decide) (Nat.le_of_ble_eq_true rfl) ?_
  intro p e s m args below meth c C0 hr hlk hnm
  replace C0 : VC p { frames := 5, cells := 100, slots := 700, locals := 113 } s m args meth c D cy b0 5 100 700 RX4 cX4_tellShop := C0
  have n18 : ∀ (o : ((Int32 × q_St × q_Hp) ⊕ (Int32 × q_St × q_Hp))) (s1 : (Int32 × Int32 × Int32 × q_St × q_Hp)), q_loop (fun s => fX4_tellShop_18  a0 a1 s.1 s.2.1 s.2.2.1 s.2.2.2.1 s.2.2.2.2) q_N s1 = some o → (∀ w0 : (Int32 × q_St × q_Hp), Sum.inl w0 = o → V p l e { frames := 5, cells := 100, slots := 700, locals := 113 } s m args below meth c (MQ below (q_Qc D cy b0 (some (.int r)) σ' h') args s 100 700 (fun q => b0 ≤ q)) D cy b0 5 100 700 0 0 w0.2.1 w0.2.2 73 [(0, .ref a0), (3, .int w0.1)] []) → (∀ r0 : (Int32 × q_St × q_Hp), Sum.inr r0 = o → (some r0 : Option (Int32 × q_St × q_Hp)) = some (r, σ', h')) → V p l e { frames := 5, cells := 100, slots := 700, locals := 113 } s m args below meth c (MQ below (q_Qc D cy b0 (some (.int r)) σ' h') args s 100 700 (fun q => b0 ≤ q)) D cy b0 5 100 700 (q_sh 0 1 100 s1.2.2.1) (q_sh 0 7 100 s1.2.2.1) s1.2.2.2.1 s1.2.2.2.2 18 [(0, .ref a0), (1, .ref a1), (2, .int s1.1), (3, .int s1.2.1), (4, .int s1.2.2.1)] [] := by
    intro o s1 ho kx1 ke1
    refine q_loop_V (P := fun s0 => V p l e { frames := 5, cells := 100, slots := 700, locals := 113 } s m args below meth c (MQ below (q_Qc D cy b0 (some (.int r)) σ' h') args s 100 700 (fun q => b0 ≤ q)) D cy b0 5 100 700 (q_sh 0 1 100 s0.2.2.1) (q_sh 0 7 100 s0.2.2.1) s0.2.2.2.1 s0.2.2.2.2 18 [(0, .ref a0), (1, .ref a1), (2, .int s0.1), (3, .int s0.2.1), (4, .int s0.2.2.1)] []) (o := o) ?_ q_N s1 ho
    intro s2 z1 hf kb1 kr1
    obtain ⟨x2, x3, x4, σ, h⟩ := s2
    replace hf : fX4_tellShop_18  a0 a1 x2 x3 x4 σ h = some z1 := hf
    unfold fX4_tellShop_18 at hf
    show V p l e { frames := 5, cells := 100, slots := 700, locals := 113 } s m args below meth c (MQ below (q_Qc D cy b0 (some (.int r)) σ' h') args s 100 700 (fun q => b0 ≤ q)) D cy b0 5 100 700 (q_sh 0 1 100 x4) (q_sh 0 7 100 x4) σ h 18 [(0, .ref a0), (1, .ref a1), (2, .int x2), (3, .int x3), (4, .int x4)] []
    refine v_run C0 tbX4 cokX4_tellShop (pc' := 22) (lv' := [(0, .ref a0), (1, .ref a1), (2, .int x2), (3, .int x3), (4, .int x4)]) (st' := [.int (100 : Int32), .int x4]) (h' := h) 2 rfl trivial ?_
    refine v_icmp_ge C0 cokX4_tellShop rfl 73 (by decide) hf (fun _ hf => ?_) (fun _ hf => ?_)
    · obtain rfl := Option.some.inj hf
      refine v_less (kc' := 0) (ks' := 0) (q_shx _ _ _ _) (q_shx _ _ _ _) ?_
      refine v_pick [0, 3] rfl ?_
      exact kx1 _ (kr1 _ rfl)
    · obtain ⟨g6, hf⟩ := q_gu_o hf
      refine v_run C0 tbX4 cokX4_tellShop (pc' := 30) (lv' := [(0, .ref a0), (1, .ref a1), (2, .int x2), (3, .int x3), (4, .int x4)]) (st' := [.int (q_int h a1 4), .int x2]) (h' := h) 3 rfl ⟨g6, trivial⟩ ?_
      refine v_icmp_ge C0 cokX4_tellShop rfl 73 (by decide) hf (fun _ hf => ?_) (fun _ hf => ?_)
      · obtain rfl := Option.some.inj hf
        refine v_less (kc' := 0) (ks' := 0) (q_shx _ _ _ _) (q_shx _ _ _ _) ?_
        refine v_pick [0, 3] rfl ?_
        exact kx1 _ (kr1 _ rfl)
      · obtain ⟨⟨g7, g8⟩, hf⟩ := q_gu_o hf
        refine v_run C0 tbX4 cokX4_tellShop (pc' := 39) (lv' := [(0, .ref a0), (1, .ref a1), (2, .int x2), (3, .int x3), (4, .int x4)]) (st' := [.int x2, .ref a1, .ref (q_ref σ a0 1)]) (h' := h) 4 rfl ⟨⟨g7, q_tn g8⟩, trivial⟩ ?_
        obtain ⟨g10, hf⟩ := q_gu_o hf
        refine v_less (kc' := (q_sh 0 1 100 (x4 + (1 : Int32))) + 1) (ks' := (q_sh 0 7 100 (x4 + (1 : Int32))) + 7) (q_sho g10 (by decide)) (q_sho g10 (by decide)) ?_
        obtain ⟨r9, σ9, h9, e9, hf⟩ := q_bd3 hf
        refine v_callS C0 cokX4_tellShop rfl (rest := []) (ctX4_tellStatement (q_ref σ a0 1) a1 x2 g8 g6 e9) calX4_tellStatement lkX4_375 inX4_tellStatement dnX4_tellStatement rfl rfl ⟨by decide, by decide⟩ (Nat.le_of_ble_eq_true rfl) (kc' := (q_sh 0 1 100 (x4 + (1 : Int32)))) (ks' := (q_sh 0 7 100 (x4 + (1 : Int32)))) (by omega) (by omega) ?_
        refine v_if_ge C0 cokX4_tellShop rfl 51 (by decide) hf (fun _ hf => ?_) (fun _ hf => ?_)
        · refine v_run C0 tbX4 cokX4_tellShop (pc' := 57) (lv' := [(3, .int (x3 + (1 : Int32))), (0, .ref a0), (1, .ref a1), (2, .int x2), (4, .int x4)]) (st' := [.int x2, .ref a1, .int x2]) (h' := h9) 4 rfl trivial ?_
          obtain ⟨g11, hf⟩ := q_gu_o hf
          obtain ⟨r12, e12, hf⟩ := q_bd hf
          refine v_callV C0 cokX4_tellShop rfl (rest := [.int x2]) (ctX1_byteAt a1 x2 g11 e12) calX1_byteAt lkX4_369 inX1_byteAt dnX1_byteAt (ci := 1) ⟨rfl, by decide⟩ g11 rfl rfl ⟨by decide, by decide⟩ (Nat.le_of_ble_eq_true rfl) (kc' := (q_sh 0 1 100 (x4 + (1 : Int32)))) (ks' := (q_sh 0 7 100 (x4 + (1 : Int32)))) (Nat.le_refl _) (Nat.le_refl _) ?_
          obtain ⟨r13, e13, hf⟩ := q_bd hf
          refine v_callS C0 cokX4_tellShop rfl (rest := [.int x2]) (ctX4_digitsBehind r12 e13) calX4_digitsBehind lkX4_372 inX4_digitsBehind dnX4_digitsBehind rfl rfl ⟨by decide, by decide⟩ (Nat.le_of_ble_eq_true rfl) (kc' := (q_sh 0 1 100 (x4 + (1 : Int32)))) (ks' := (q_sh 0 7 100 (x4 + (1 : Int32)))) (Nat.le_refl _) (Nat.le_refl _) ?_
          refine v_run C0 tbX4 cokX4_tellShop (pc' := 18) (lv' := [(4, .int (x4 + (1 : Int32))), (2, .int (x2 + (r13 + (2 : Int32)))), (3, .int (x3 + (1 : Int32))), (0, .ref a0), (1, .ref a1)]) (st' := []) (h' := h9) 6 rfl trivial ?_
          obtain rfl := Option.some.inj hf
          refine v_less (kc' := q_sh 0 1 100 (x4 + (1 : Int32))) (ks' := q_sh 0 7 100 (x4 + (1 : Int32))) (by omega) (by omega) ?_
          refine v_pick [3, 4, 1, 2, 0] rfl ?_
          exact kb1 ((x2 + (r13 + (2 : Int32))), (x3 + (1 : Int32)), (x4 + (1 : Int32)), σ9, h9) rfl
        · refine v_run C0 tbX4 cokX4_tellShop (pc' := 50) (lv' := [(0, .ref a0), (1, .ref a1), (2, .int x2), (3, .int x3), (4, .int x4)]) (st' := [.int ((-2000 : Int32) - x2)]) (h' := h9) 3 rfl trivial ?_
          obtain rfl := Option.some.inj hf
          have hf := ke1 _ (kr1 _ rfl)
          obtain ⟨hq1, hq2⟩ := Prod.mk.inj (Option.some.inj hf)
          obtain ⟨hq3, hq4⟩ := Prod.mk.inj hq2
          subst hq1
          subst hq3
          subst hq4
          exact v_iret C0 cokX4_tellShop hr hlk rfl
  have n73 : ∀ (σ : q_St) (h : q_Hp) (x3 : Int32), fX4_tellShop_73  σ h a0 a1 x3 = some (r, σ', h') → V p l e { frames := 5, cells := 100, slots := 700, locals := 113 } s m args below meth c (MQ below (q_Qc D cy b0 (some (.int r)) σ' h') args s 100 700 (fun q => b0 ≤ q)) D cy b0 5 100 700 0 0 σ h 73 [(0, .ref a0), (3, .int x3)] [] := by
    intro σ h x3 hf
    unfold fX4_tellShop_73 at hf
    obtain ⟨⟨g14, g15, g16⟩, hf⟩ := q_gu_o hf
    refine v_run C0 tbX4 cokX4_tellShop (pc' := 84) (lv' := [(4, .ref (q_ref σ a0 0)), (0, .ref a0), (3, .int x3)]) (st' := [.ref (q_ref σ a0 1), .ref a0]) (h' := h) 6 rfl ⟨⟨g14, q_tn g15⟩, ⟨g14, q_tn g16⟩, trivial⟩ ?_
    refine v_putrN C0 tbX4 cokX4_tellShop rfl (ci := 4) (k := 0) rfl rfl (Or.inl rfl) g14 (q_tn g16) hf (fun σ17 u17 hf => ?_)
    refine v_run C0 tbX4 cokX4_tellShop (pc' := 90) (lv' := [(4, .ref (q_ref σ a0 0)), (0, .ref a0), (3, .int x3)]) (st' := [.ref (q_ref σ a0 0), .ref a0]) (h' := h) 2 rfl trivial ?_
    refine v_putrN C0 tbX4 cokX4_tellShop rfl (ci := 4) (k := 1) rfl rfl (Or.inl rfl) (q_ks u17 g14) (q_tn (q_ks u17 g15)) hf (fun σ18 u18 hf => ?_)
    refine v_run C0 tbX4 cokX4_tellShop (pc' := 94) (lv' := [(4, .ref (q_ref σ a0 0)), (0, .ref a0), (3, .int x3)]) (st' := [.int x3]) (h' := h) 1 rfl trivial ?_
    obtain ⟨hq1, hq2⟩ := Prod.mk.inj (Option.some.inj hf)
    obtain ⟨hq3, hq4⟩ := Prod.mk.inj hq2
    subst hq1
    subst hq3
    subst hq4
    exact v_iret C0 cokX4_tellShop hr hlk rfl
  obtain ⟨⟨g1, g2⟩, hf⟩ := q_gu_o hf
  refine v_run C0 tbX4 cokX4_tellShop (pc' := 8) (lv' := [(0, .ref a0), (1, .ref a1)]) (st' := [.ref (q_ref σ a0 0), .ref (q_ref σ a0 1)]) (h' := h) 4 rfl ⟨⟨ta0, q_tn g1⟩, ⟨ta0, q_tn g2⟩, trivial⟩ ?_
  obtain ⟨σ3, h3, e3, hf⟩ := q_bd2 hf
  refine v_callV C0 cokX4_tellShop rfl (rest := []) (ctX2_become (q_ref σ a0 1) (q_ref σ a0 0) g1 g2 e3) calX2_become lkX4_313 inX2_become dnX2_become (ci := 2) ⟨rfl, by decide⟩ g1 rfl rfl ⟨by decide, by decide⟩ (Nat.le_of_ble_eq_true rfl) (Nat.le_refl _) (Nat.le_refl _) ?_
  refine v_run C0 tbX4 cokX4_tellShop (pc' := 18) (lv' := [(4, .int (0 : Int32)), (3, .int (0 : Int32)), (2, .int (0 : Int32)), (0, .ref a0), (1, .ref a1)]) (st' := []) (h' := h3) 6 rfl trivial ?_
  obtain ⟨o4, eo4, hf⟩ := q_bd hf
  refine v_less (kc' := q_sh 0 1 100 (0 : Int32)) (ks' := q_sh 0 7 100 (0 : Int32)) (q_shl (by decide)) (q_shl (by decide)) ?_
  refine v_pick [3, 4, 2, 1, 0] rfl ?_
  refine n18 o4 ((0 : Int32), (0 : Int32), (0 : Int32), σ3, h3) eo4 (fun w5 hx => ?_) (fun r0 hx => ?_)
  · rw [← hx] at hf
    replace hf := q_el_l hf
    refine v_pick [0, 1] rfl ?_
    exact n73 w5.2.1 w5.2.2 w5.1 hf
  · rw [← hx] at hf
    exact hf
-- BackByNoonOnMonday.shop(I)I
noncomputable def fX4_shop (σ : q_St) (h : q_Hp) (a0 : Nat) (x1 : Int32) : Option (Int32 × q_St × q_Hp) := ((fX4_isShelf σ h x1).bind fun r1 => (if r1 = 0 then some ((-1 : Int32), σ, h) else ((fX4_shelfAt σ h a0 x1).bind fun r2 => q_gu ((q_tag σ r2 = 2)) ((if (q_int h r2 1) = 0 then some ((-11 : Int32), σ, h) else (if (q_int h r2 1) = (2 : Int32) then (if (q_int h r2 3) = 0 then ((fX4_firstBadByte σ h r2).bind fun r4 => (if r4 < 0 then (q_b3 (fX4_tellShop σ h a0 r2) fun r5 σ5 h5 => some (r5, σ5, h5)) else some (((-1000 : Int32) - r4), σ, h))) else some ((-12 : Int32), σ, h)) else some ((-12 : Int32), σ, h)))))))
def cdX4_shop : q_Cd := [(0, .iload_n 1), (1, .invokestatic 67), (4, .ifCond .ne 5), (7, .iconst (-1)), (8, .ireturn), (9, .aload_n 0), (10, .iload_n 1), (11, .invokevirtual 71), (14, .astore_n 2), (15, .aload_n 2), (16, .getfield 75), (19, .ifCond .ne 6), (22, .bipush (-11)), (24, .ireturn), (25, .aload_n 2), (26, .getfield 75), (29, .iconst 2), (30, .if_icmp .ne 10), (33, .aload_n 2), (34, .getfield 79), (37, .ifCond .eq 6), (40, .bipush (-12)), (42, .ireturn), (43, .aload_n 2), (44, .invokestatic 82), (47, .istore_n 3), (48, .iload_n 3), (49, .ifCond .lt 11), (52, .sipush (-1000)), (55, .iload_n 3), (56, .isub), (57, .goto 8), (60, .aload_n 0), (61, .aload_n 2), (62, .invokevirtual 86), (65, .ireturn)]
set_option maxRecDepth 100000 in
theorem cokX4_shop : q_cok cX4_shop cdX4_shop := by unfold q_cok; decide +kernel
set_option maxRecDepth 100000 in
set_option maxHeartbeats 4000000 in
theorem ctX4_shop {l : Launch} {D : va_G} {cy : Nat → Nat} {b0 : Nat} {σ : q_St} {h : q_Hp} (a0 : Nat) (x1 : Int32) {r : Int32} {σ' : q_St} {h' : q_Hp} (ta0 : q_tag σ a0 = 5) (hf : fX4_shop σ h a0 x1 = some (r, σ', h')) : q_M l yX4_shop cX4_shop 4 (some .int) 6 137 100 700 D cy b0 σ h [.ref a0, .int x1] (some (.int r)) σ' h' := by
  unfold fX4_shop at hf
  refine q_enter (by decide) (Nat.le_of_ble_eq_true rfl) ?_
  intro p e s m args below meth c C0 hr hlk hnm
  replace C0 : VC p { frames := 6, cells := 100, slots := 700, locals := 137 } s m args meth c D cy b0 4 100 700 RX4 cX4_shop := C0
  refine v_run C0 tbX4 cokX4_shop (pc' := 1) (lv' := [(0, .ref a0), (1, .int x1)]) (st' := [.int x1]) (h' := h) 1 rfl trivial ?_
  obtain ⟨r1, e1, hf⟩ := q_bd hf
  refine v_callS C0 cokX4_shop rfl (rest := []) (ctX4_isShelf x1 e1) calX4_isShelf lkX4_67 inX4_isShelf dnX4_isShelf rfl rfl ⟨by decide, by decide⟩ (Nat.le_of_ble_eq_true rfl) (Nat.le_refl _) (Nat.le_refl _) ?_
  refine v_if_ne C0 cokX4_shop rfl 9 (by decide) hf (fun _ hf => ?_) (fun _ hf => ?_)
  · refine v_run C0 tbX4 cokX4_shop (pc' := 8) (lv' := [(0, .ref a0), (1, .int x1)]) (st' := [.int (-1 : Int32)]) (h' := h) 1 rfl trivial ?_
    obtain ⟨hq1, hq2⟩ := Prod.mk.inj (Option.some.inj hf)
    obtain ⟨hq3, hq4⟩ := Prod.mk.inj hq2
    subst hq1
    subst hq3
    subst hq4
    exact v_iret C0 cokX4_shop hr hlk rfl
  · refine v_run C0 tbX4 cokX4_shop (pc' := 11) (lv' := [(0, .ref a0), (1, .int x1)]) (st' := [.int x1, .ref a0]) (h' := h) 2 rfl trivial ?_
    obtain ⟨r2, e2, hf⟩ := q_bd hf
    refine v_callV C0 cokX4_shop rfl (rest := []) (ctX4_shelfAt a0 x1 ta0 e2) calX4_shelfAt lkX4_71 inX4_shelfAt dnX4_shelfAt (ci := 4) ⟨rfl, by decide⟩ ta0 rfl rfl ⟨by decide, by decide⟩ (Nat.le_of_ble_eq_true rfl) (Nat.le_refl _) (Nat.le_refl _) ?_
    obtain ⟨g3, hf⟩ := q_gu_o hf
    refine v_run C0 tbX4 cokX4_shop (pc' := 19) (lv' := [(2, .ref r2), (0, .ref a0), (1, .int x1)]) (st' := [.int (q_int h r2 1)]) (h' := h) 3 rfl ⟨g3, trivial⟩ ?_
    refine v_if_ne C0 cokX4_shop rfl 25 (by decide) hf (fun _ hf => ?_) (fun _ hf => ?_)
    · refine v_run C0 tbX4 cokX4_shop (pc' := 24) (lv' := [(2, .ref r2), (0, .ref a0), (1, .int x1)]) (st' := [.int (-11 : Int32)]) (h' := h) 1 rfl trivial ?_
      obtain ⟨hq1, hq2⟩ := Prod.mk.inj (Option.some.inj hf)
      obtain ⟨hq3, hq4⟩ := Prod.mk.inj hq2
      subst hq1
      subst hq3
      subst hq4
      exact v_iret C0 cokX4_shop hr hlk rfl
    · refine v_run C0 tbX4 cokX4_shop (pc' := 30) (lv' := [(2, .ref r2), (0, .ref a0), (1, .int x1)]) (st' := [.int (2 : Int32), .int (q_int h r2 1)]) (h' := h) 3 rfl ⟨g3, trivial⟩ ?_
      refine v_icmp_ne C0 cokX4_shop rfl 40 (by decide) hf (fun _ hf => ?_) (fun _ hf => ?_)
      · refine v_run C0 tbX4 cokX4_shop (pc' := 37) (lv' := [(2, .ref r2), (0, .ref a0), (1, .int x1)]) (st' := [.int (q_int h r2 3)]) (h' := h) 2 rfl ⟨g3, trivial⟩ ?_
        refine v_if_eq C0 cokX4_shop rfl 43 (by decide) hf (fun _ hf => ?_) (fun _ hf => ?_)
        · refine v_run C0 tbX4 cokX4_shop (pc' := 44) (lv' := [(2, .ref r2), (0, .ref a0), (1, .int x1)]) (st' := [.ref r2]) (h' := h) 1 rfl trivial ?_
          obtain ⟨r4, e4, hf⟩ := q_bd hf
          refine v_callS C0 cokX4_shop rfl (rest := []) (ctX4_firstBadByte r2 g3 e4) calX4_firstBadByte lkX4_82 inX4_firstBadByte dnX4_firstBadByte rfl rfl ⟨by decide, by decide⟩ (Nat.le_of_ble_eq_true rfl) (Nat.le_refl _) (Nat.le_refl _) ?_
          refine v_run C0 tbX4 cokX4_shop (pc' := 49) (lv' := [(3, .int r4), (2, .ref r2), (0, .ref a0), (1, .int x1)]) (st' := [.int r4]) (h' := h) 2 rfl trivial ?_
          refine v_if_lt C0 cokX4_shop rfl 60 (by decide) hf (fun _ hf => ?_) (fun _ hf => ?_)
          · refine v_run C0 tbX4 cokX4_shop (pc' := 62) (lv' := [(3, .int r4), (2, .ref r2), (0, .ref a0), (1, .int x1)]) (st' := [.ref r2, .ref a0]) (h' := h) 2 rfl trivial ?_
            obtain ⟨r5, σ5, h5, e5, hf⟩ := q_bd3 hf
            refine v_callV C0 cokX4_shop rfl (rest := []) (ctX4_tellShop a0 r2 ta0 g3 e5) calX4_tellShop lkX4_86 inX4_tellShop dnX4_tellShop (ci := 4) ⟨rfl, by decide⟩ ta0 rfl rfl ⟨by decide, by decide⟩ (Nat.le_of_ble_eq_true rfl) (kc' := 0) (ks' := 0) (by omega) (by omega) ?_
            obtain ⟨hq1, hq2⟩ := Prod.mk.inj (Option.some.inj hf)
            obtain ⟨hq3, hq4⟩ := Prod.mk.inj hq2
            subst hq1
            subst hq3
            subst hq4
            exact v_iret C0 cokX4_shop hr hlk rfl
          · refine v_run C0 tbX4 cokX4_shop (pc' := 65) (lv' := [(3, .int r4), (2, .ref r2), (0, .ref a0), (1, .int x1)]) (st' := [.int ((-1000 : Int32) - r4)]) (h' := h) 4 rfl trivial ?_
            obtain ⟨hq1, hq2⟩ := Prod.mk.inj (Option.some.inj hf)
            obtain ⟨hq3, hq4⟩ := Prod.mk.inj hq2
            subst hq1
            subst hq3
            subst hq4
            exact v_iret C0 cokX4_shop hr hlk rfl
        · refine v_run C0 tbX4 cokX4_shop (pc' := 42) (lv' := [(2, .ref r2), (0, .ref a0), (1, .int x1)]) (st' := [.int (-12 : Int32)]) (h' := h) 1 rfl trivial ?_
          obtain ⟨hq1, hq2⟩ := Prod.mk.inj (Option.some.inj hf)
          obtain ⟨hq3, hq4⟩ := Prod.mk.inj hq2
          subst hq1
          subst hq3
          subst hq4
          exact v_iret C0 cokX4_shop hr hlk rfl
      · refine v_run C0 tbX4 cokX4_shop (pc' := 42) (lv' := [(2, .ref r2), (0, .ref a0), (1, .int x1)]) (st' := [.int (-12 : Int32)]) (h' := h) 1 rfl trivial ?_
        obtain ⟨hq1, hq2⟩ := Prod.mk.inj (Option.some.inj hf)
        obtain ⟨hq3, hq4⟩ := Prod.mk.inj hq2
        subst hq1
        subst hq3
        subst hq4
        exact v_iret C0 cokX4_shop hr hlk rfl
