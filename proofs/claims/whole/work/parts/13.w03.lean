-- BackByNoonOnMonday.<init>()V
noncomputable def fX4_init_121 (a0 : Nat) (x1 : Int32) (σ : q_St) (h : q_Hp) : Option ((Int32 × q_St × q_Hp) ⊕ (q_St × q_Hp)) := q_gu ((q_tag σ a0 = 5) ∧ (q_tag σ (q_ref σ a0 4) = 9)) ((if (Int32.ofNat (q_len σ (q_ref σ a0 4))) ≤ x1 then some (Sum.inr (σ, h)) else q_gu ((vp_in x1 8)) ((q_al σ h 2 0 fun σ52 h52 a_52 => (q_b2 (fX1_init σ52 h52 a_52) fun σ53 h53 => q_gu ((q_tag σ53 (q_ref σ a0 4) = 9) ∧ (q_tag σ53 a_52 = 2) ∧ (vp_in x1 (q_len σ53 (q_ref σ a0 4)))) ((q_lr σ53 (q_ref σ a0 4) (Int32.toNatClampNeg x1) a_52 fun σ57 => some (Sum.inl ((x1 + (1 : Int32)), σ57, h53)))))))))
noncomputable def fX4_init_151 (a0 : Nat) (x1 : Int32) (σ : q_St) (h : q_Hp) : Option ((Int32 × q_St × q_Hp) ⊕ (q_St × q_Hp)) := q_gu ((q_tag σ a0 = 5) ∧ (q_tag σ (q_ref σ a0 6) = 10)) ((if (Int32.ofNat (q_len σ (q_ref σ a0 6))) ≤ x1 then some (Sum.inr (σ, h)) else q_gu ((vp_in x1 8)) ((q_al σ h 4 0 fun σ45 h45 a_45 => ((fX3_init σ45 h45 a_45 x1 (5 : Int32)).bind fun h46 => q_gu ((vp_in x1 (q_len σ45 (q_ref σ a0 6)))) ((q_lr σ45 (q_ref σ a0 6) (Int32.toNatClampNeg x1) a_45 fun σ48 => some (Sum.inl ((x1 + (1 : Int32)), σ48, h46)))))))))
noncomputable def fX4_init (σ : q_St) (h : q_Hp) (a0 : Nat) : Option (q_St × q_Hp) := (q_al σ h 3 0 fun σ1 h1 a_1 => (q_b2 (fX2_init σ1 h1 a_1) fun σ2 h2 => q_gu ((q_tag σ2 a0 = 5) ∧ (q_tag σ2 a_1 = 3)) ((q_lr σ2 a0 0 a_1 fun σ5 => (q_al σ5 h2 3 0 fun σ6 h6 a_6 => (q_b2 (fX2_init σ6 h6 a_6) fun σ7 h7 => q_gu ((q_tag σ7 a0 = 5) ∧ (q_tag σ7 a_6 = 3)) ((q_lr σ7 a0 1 a_6 fun σ10 => (q_al σ10 h7 3 0 fun σ11 h11 a_11 => (q_b2 (fX2_init σ11 h11 a_11) fun σ12 h12 => q_gu ((q_tag σ12 a0 = 5) ∧ (q_tag σ12 a_11 = 3)) ((q_lr σ12 a0 2 a_11 fun σ15 => (q_al σ15 (q_si h12 a0 3 (0 : Int32)) 9 8 fun σ16 h16 a_16 => (q_lr σ16 a0 4 a_16 fun σ17 => (q_al σ17 h16 2 0 fun σ18 h18 a_18 => (q_b2 (fX1_init σ18 h18 a_18) fun σ19 h19 => q_gu ((q_tag σ19 a0 = 5) ∧ (q_tag σ19 a_18 = 2)) ((q_lr σ19 a0 5 a_18 fun σ22 => (q_al σ22 h19 10 8 fun σ23 h23 a_23 => (q_lr σ23 a0 6 a_23 fun σ24 => (q_al σ24 h23 4 0 fun σ25 h25 a_25 => ((fX3_init σ25 h25 a_25 (0 : Int32) (0 : Int32)).bind fun h26 => (q_lr σ25 a0 7 a_25 fun σ27 => (q_al σ27 h26 1 0 fun σ28 h28 a_28 => (q_b2 (fX0_init σ28 h28 a_28) fun σ29 h29 => q_gu ((q_tag σ29 a0 = 5) ∧ (q_tag σ29 a_28 = 1)) ((q_lr σ29 a0 8 a_28 fun σ32 => (q_al σ32 h29 7 8 fun σ33 h33 a_33 => (q_lr σ33 a0 9 a_33 fun σ34 => (q_al σ34 h33 7 7 fun σ35 h35 a_35 => (q_lr σ35 a0 10 a_35 fun σ36 => (q_al σ36 h35 7 7 fun σ37 h37 a_37 => (q_lr σ37 a0 11 a_37 fun σ38 => (q_loop (fun s => fX4_init_121  a0 s.1 s.2.1 s.2.2) q_N ((0 : Int32), σ38, h37)).bind fun o39 => (q_loop (fun s => fX4_init_151  a0 s.1 s.2.1 s.2.2) q_N ((0 : Int32), o39.1, o39.2)).bind fun o41 => some (o41.1, o41.2))))))))))))))))))))))))))))))))))
def cdX4_init : q_Cd := [(0, .aload_n 0), (1, .invokespecial 3), (4, .aload_n 0), (5, .new 9), (8, .dup), (9, .invokespecial 11), (12, .putfield 12), (15, .aload_n 0), (16, .new 9), (19, .dup), (20, .invokespecial 11), (23, .putfield 16), (26, .aload_n 0), (27, .new 9), (30, .dup), (31, .invokespecial 11), (34, .putfield 19), (37, .aload_n 0), (38, .iconst 0), (39, .putfield 22), (42, .aload_n 0), (43, .bipush 8), (45, .anewarray 26), (48, .putfield 28), (51, .aload_n 0), (52, .new 26), (55, .dup), (56, .invokespecial 32), (59, .putfield 33), (62, .aload_n 0), (63, .bipush 8), (65, .anewarray 37), (68, .putfield 39), (71, .aload_n 0), (72, .new 37), (75, .dup), (76, .iconst 0), (77, .iconst 0), (78, .invokespecial 43), (81, .putfield 46), (84, .aload_n 0), (85, .new 50), (88, .dup), (89, .invokespecial 52), (92, .putfield 53), (95, .aload_n 0), (96, .bipush 8), (98, .newarray .int), (100, .putfield 57), (103, .aload_n 0), (104, .bipush 7), (106, .newarray .int), (108, .putfield 61), (111, .aload_n 0), (112, .bipush 7), (114, .newarray .int), (116, .putfield 64), (119, .iconst 0), (120, .istore_n 1), (121, .iload_n 1), (122, .aload_n 0), (123, .getfield 28), (126, .arraylength), (127, .if_icmp .ge 22), (130, .aload_n 0), (131, .getfield 28), (134, .iload_n 1), (135, .new 26), (138, .dup), (139, .invokespecial 32), (142, .aastore), (143, .iinc 1 1), (146, .goto (-25)), (149, .iconst 0), (150, .istore_n 1), (151, .iload_n 1), (152, .aload_n 0), (153, .getfield 39), (156, .arraylength), (157, .if_icmp .ge 24), (160, .aload_n 0), (161, .getfield 39), (164, .iload_n 1), (165, .new 37), (168, .dup), (169, .iload_n 1), (170, .iconst 5), (171, .invokespecial 43), (174, .aastore), (175, .iinc 1 1), (178, .goto (-27)), (181, .return_)]
set_option maxRecDepth 100000 in
theorem cokX4_init : q_cok cX4_init cdX4_init := by unfold q_cok; decide +kernel
set_option maxRecDepth 100000 in
set_option maxHeartbeats 4000000 in
theorem ctX4_init {l : Launch} {D : va_G} {cy : Nat → Nat} {b0 : Nat} {σ : q_St} {h : q_Hp} (a0 : Nat) {σ' : q_St} {h' : q_Hp} (ta0 : q_tag σ a0 = 5) (hf : fX4_init σ h a0 = some (σ', h')) : q_M l yX4_init cX4_init 2 none 3 67 87 1465 D cy b0 σ h [.ref a0] none σ' h' := by
  unfold fX4_init at hf
  refine q_enter (by decide) (Nat.le_of_ble_eq_true rfl) ?_
  intro p e s m args below meth c C0 hr hlk hnm
  replace C0 : VC p { frames := 3, cells := 87, slots := 1465, locals := 67 } s m args meth c D cy b0 2 87 1465 RX4 cX4_init := C0
  have n121 : ∀ (o : (q_St × q_Hp)) (s1 : (Int32 × q_St × q_Hp)), q_loop (fun s => fX4_init_121  a0 s.1 s.2.1 s.2.2) q_N s1 = some o → V p l e { frames := 3, cells := 87, slots := 1465, locals := 67 } s m args below meth c (MQ below (q_Qc D cy b0 none σ' h') args s 87 1465 (fun q => b0 ≤ q)) D cy b0 2 87 1465 8 56 o.1 o.2 149 [(0, .ref a0)] [] → V p l e { frames := 3, cells := 87, slots := 1465, locals := 67 } s m args below meth c (MQ below (q_Qc D cy b0 none σ' h') args s 87 1465 (fun q => b0 ≤ q)) D cy b0 2 87 1465 (q_sh 8 3 8 s1.1) (q_sh 56 112 8 s1.1) s1.2.1 s1.2.2 121 [(0, .ref a0), (1, .int s1.1)] [] := by
    intro o s1 ho kx1
    refine q_loop_V (P := fun s0 => V p l e { frames := 3, cells := 87, slots := 1465, locals := 67 } s m args below meth c (MQ below (q_Qc D cy b0 none σ' h') args s 87 1465 (fun q => b0 ≤ q)) D cy b0 2 87 1465 (q_sh 8 3 8 s0.1) (q_sh 56 112 8 s0.1) s0.2.1 s0.2.2 121 [(0, .ref a0), (1, .int s0.1)] []) (o := o) ?_ q_N s1 ho
    intro s2 z1 hf kb1 kr1
    obtain ⟨x1, σ, h⟩ := s2
    replace hf : fX4_init_121  a0 x1 σ h = some z1 := hf
    unfold fX4_init_121 at hf
    show V p l e { frames := 3, cells := 87, slots := 1465, locals := 67 } s m args below meth c (MQ below (q_Qc D cy b0 none σ' h') args s 87 1465 (fun q => b0 ≤ q)) D cy b0 2 87 1465 (q_sh 8 3 8 x1) (q_sh 56 112 8 x1) σ h 121 [(0, .ref a0), (1, .int x1)] []
    obtain ⟨⟨g49, g50⟩, hf⟩ := q_gu_o hf
    refine v_run C0 tbX4 cokX4_init (pc' := 127) (lv' := [(0, .ref a0), (1, .int x1)]) (st' := [.int (Int32.ofNat (q_len σ (q_ref σ a0 4))), .int x1]) (h' := h) 4 rfl ⟨⟨g49, q_tn g50⟩, (Or.inr (Or.inr (Or.inl g50))), trivial⟩ ?_
    refine v_icmp_ge C0 cokX4_init rfl 149 (by decide) hf (fun _ hf => ?_) (fun _ hf => ?_)
    · obtain rfl := Option.some.inj hf
      refine v_less (kc' := 8) (ks' := 56) (q_shx _ _ _ _) (q_shx _ _ _ _) ?_
      refine v_pick [0] rfl ?_
      have hx := kr1 _ rfl
      subst hx
      exact kx1
    · refine v_run C0 tbX4 cokX4_init (pc' := 135) (lv' := [(0, .ref a0), (1, .int x1)]) (st' := [.int x1, .ref (q_ref σ a0 4)]) (h' := h) 3 rfl ⟨⟨g49, q_tn g50⟩, trivial⟩ ?_
      obtain ⟨g51, hf⟩ := q_gu_o hf
      refine v_less (kc' := (q_sh 8 3 8 (x1 + (1 : Int32))) + 3) (ks' := (q_sh 56 112 8 (x1 + (1 : Int32))) + 112) (q_sho g51 (by decide)) (q_sho g51 (by decide)) ?_
      refine v_less (kc' := ((q_sh 8 3 8 (x1 + (1 : Int32))) + 2) + 1) (ks' := ((q_sh 56 112 8 (x1 + (1 : Int32))) + 107) + 5) (by omega) (by omega) ?_
      refine v_newN (kc := ((q_sh 8 3 8 (x1 + (1 : Int32))) + 2)) (ks := ((q_sh 56 112 8 (x1 + (1 : Int32))) + 107)) (nn := 5) (ci := 1) C0 cokX4_init rfl (by decide) nwcX4_26 nwiX1 nwnX1 rfl hf (fun σ52 h52 a_52 t52 u52 hf => ?_)
      refine v_run C0 tbX4 cokX4_init (pc' := 139) (lv' := [(0, .ref a0), (1, .int x1)]) (st' := [.ref a_52, .ref a_52, .int x1, .ref (q_ref σ a0 4)]) (h' := h52) 1 rfl trivial ?_
      obtain ⟨σ53, h53, e53, hf⟩ := q_bd2 hf
      refine v_callIN C0 cokX4_init rfl (rest := [.ref a_52, .int x1, .ref (q_ref σ a0 4)]) (ctX1_init a_52 t52 e53) calX1_init rfl lkX4_32 inX1_init dnX1_init rfl rfl ⟨by decide, by decide⟩ (Nat.le_of_ble_eq_true rfl) (kc' := (q_sh 8 3 8 (x1 + (1 : Int32)))) (ks' := (q_sh 56 112 8 (x1 + (1 : Int32)))) (by omega) (by omega) ?_
      obtain ⟨⟨g54, g55, g56⟩, hf⟩ := q_gu_o hf
      refine v_aastN C0 cokX4_init rfl (Or.inl ⟨g54, g55⟩) g56 hf (fun σ57 u57 hf => ?_)
      refine v_run C0 tbX4 cokX4_init (pc' := 121) (lv' := [(1, .int (x1 + (1 : Int32))), (0, .ref a0)]) (st' := []) (h' := h53) 2 rfl trivial ?_
      obtain rfl := Option.some.inj hf
      refine v_less (kc' := q_sh 8 3 8 (x1 + (1 : Int32))) (ks' := q_sh 56 112 8 (x1 + (1 : Int32))) (by omega) (by omega) ?_
      refine v_pick [1, 0] rfl ?_
      exact kb1 ((x1 + (1 : Int32)), σ57, h53) rfl
  have n151 : ∀ (o : (q_St × q_Hp)) (s1 : (Int32 × q_St × q_Hp)), q_loop (fun s => fX4_init_151  a0 s.1 s.2.1 s.2.2) q_N s1 = some o → V p l e { frames := 3, cells := 87, slots := 1465, locals := 67 } s m args below meth c (MQ below (q_Qc D cy b0 none σ' h') args s 87 1465 (fun q => b0 ≤ q)) D cy b0 2 87 1465 0 0 o.1 o.2 181 [] [] → V p l e { frames := 3, cells := 87, slots := 1465, locals := 67 } s m args below meth c (MQ below (q_Qc D cy b0 none σ' h') args s 87 1465 (fun q => b0 ≤ q)) D cy b0 2 87 1465 (q_sh 0 1 8 s1.1) (q_sh 0 7 8 s1.1) s1.2.1 s1.2.2 151 [(0, .ref a0), (1, .int s1.1)] [] := by
    intro o s1 ho kx1
    refine q_loop_V (P := fun s0 => V p l e { frames := 3, cells := 87, slots := 1465, locals := 67 } s m args below meth c (MQ below (q_Qc D cy b0 none σ' h') args s 87 1465 (fun q => b0 ≤ q)) D cy b0 2 87 1465 (q_sh 0 1 8 s0.1) (q_sh 0 7 8 s0.1) s0.2.1 s0.2.2 151 [(0, .ref a0), (1, .int s0.1)] []) (o := o) ?_ q_N s1 ho
    intro s2 z1 hf kb1 kr1
    obtain ⟨x1, σ, h⟩ := s2
    replace hf : fX4_init_151  a0 x1 σ h = some z1 := hf
    unfold fX4_init_151 at hf
    show V p l e { frames := 3, cells := 87, slots := 1465, locals := 67 } s m args below meth c (MQ below (q_Qc D cy b0 none σ' h') args s 87 1465 (fun q => b0 ≤ q)) D cy b0 2 87 1465 (q_sh 0 1 8 x1) (q_sh 0 7 8 x1) σ h 151 [(0, .ref a0), (1, .int x1)] []
    obtain ⟨⟨g42, g43⟩, hf⟩ := q_gu_o hf
    refine v_run C0 tbX4 cokX4_init (pc' := 157) (lv' := [(0, .ref a0), (1, .int x1)]) (st' := [.int (Int32.ofNat (q_len σ (q_ref σ a0 6))), .int x1]) (h' := h) 4 rfl ⟨⟨g42, q_tn g43⟩, (Or.inr (Or.inr (Or.inr g43))), trivial⟩ ?_
    refine v_icmp_ge C0 cokX4_init rfl 181 (by decide) hf (fun _ hf => ?_) (fun _ hf => ?_)
    · obtain rfl := Option.some.inj hf
      refine v_less (kc' := 0) (ks' := 0) (q_shx _ _ _ _) (q_shx _ _ _ _) ?_
      refine v_pick [] rfl ?_
      have hx := kr1 _ rfl
      subst hx
      exact kx1
    · refine v_run C0 tbX4 cokX4_init (pc' := 165) (lv' := [(0, .ref a0), (1, .int x1)]) (st' := [.int x1, .ref (q_ref σ a0 6)]) (h' := h) 3 rfl ⟨⟨g42, q_tn g43⟩, trivial⟩ ?_
      obtain ⟨g44, hf⟩ := q_gu_o hf
      refine v_less (kc' := (q_sh 0 1 8 (x1 + (1 : Int32))) + 1) (ks' := (q_sh 0 7 8 (x1 + (1 : Int32))) + 7) (q_sho g44 (by decide)) (q_sho g44 (by decide)) ?_
      refine v_less (kc' := (q_sh 0 1 8 (x1 + (1 : Int32))) + 1) (ks' := (q_sh 0 7 8 (x1 + (1 : Int32))) + 7) (by omega) (by omega) ?_
      refine v_newN (kc := (q_sh 0 1 8 (x1 + (1 : Int32)))) (ks := (q_sh 0 7 8 (x1 + (1 : Int32)))) (nn := 7) (ci := 3) C0 cokX4_init rfl (by decide) nwcX4_37 nwiX3 nwnX3 rfl hf (fun σ45 h45 a_45 t45 u45 hf => ?_)
      refine v_run C0 tbX4 cokX4_init (pc' := 171) (lv' := [(0, .ref a0), (1, .int x1)]) (st' := [.int (5 : Int32), .int x1, .ref a_45, .ref a_45, .int x1, .ref (q_ref σ a0 6)]) (h' := h45) 3 rfl trivial ?_
      obtain ⟨h46, e46, hf⟩ := q_bd hf
      refine v_callI C0 cokX4_init rfl (rest := [.ref a_45, .int x1, .ref (q_ref σ a0 6)]) (ctX3_init a_45 x1 (5 : Int32) t45 e46) calX3_init rfl lkX4_43 inX3_init dnX3_init rfl rfl ⟨by decide, by decide⟩ (Nat.le_of_ble_eq_true rfl) (kc' := (q_sh 0 1 8 (x1 + (1 : Int32)))) (ks' := (q_sh 0 7 8 (x1 + (1 : Int32)))) (Nat.le_refl _) (Nat.le_refl _) ?_
      obtain ⟨g47, hf⟩ := q_gu_o hf
      refine v_aastN C0 cokX4_init rfl (Or.inr ⟨(q_kp u45 g43), t45⟩) g47 hf (fun σ48 u48 hf => ?_)
      refine v_run C0 tbX4 cokX4_init (pc' := 151) (lv' := [(1, .int (x1 + (1 : Int32))), (0, .ref a0)]) (st' := []) (h' := h46) 2 rfl trivial ?_
      obtain rfl := Option.some.inj hf
      refine v_less (kc' := q_sh 0 1 8 (x1 + (1 : Int32))) (ks' := q_sh 0 7 8 (x1 + (1 : Int32))) (by omega) (by omega) ?_
      refine v_pick [1, 0] rfl ?_
      exact kb1 ((x1 + (1 : Int32)), σ48, h46) rfl
  refine v_run C0 tbX4 cokX4_init (pc' := 1) (lv' := [(0, .ref a0)]) (st' := [.ref a0]) (h' := h) 1 rfl trivial ?_
  refine v_obj C0 cokX4_init rfl objX4 (by decide) (by decide) (Nat.le_of_ble_eq_true rfl) ?_
  refine v_run C0 tbX4 cokX4_init (pc' := 5) (lv' := [(0, .ref a0)]) (st' := [.ref a0]) (h' := h) 1 rfl trivial ?_
  refine v_less (kc' := 86 + 1) (ks' := 1450 + 15) (by omega) (by omega) ?_
  refine v_newN (kc := 86) (ks := 1450) (nn := 15) (ci := 2) C0 cokX4_init rfl (by decide) nwcX4_9 nwiX2 nwnX2 rfl hf (fun σ1 h1 a_1 t1 u1 hf => ?_)
  refine v_run C0 tbX4 cokX4_init (pc' := 9) (lv' := [(0, .ref a0)]) (st' := [.ref a_1, .ref a_1, .ref a0]) (h' := h1) 1 rfl trivial ?_
  obtain ⟨σ2, h2, e2, hf⟩ := q_bd2 hf
  refine v_callIN C0 cokX4_init rfl (rest := [.ref a_1, .ref a0]) (ctX2_init a_1 t1 e2) calX2_init rfl lkX4_11 inX2_init dnX2_init rfl rfl ⟨by decide, by decide⟩ (Nat.le_of_ble_eq_true rfl) (kc' := 75) (ks' := 1373) (by omega) (by omega) ?_
  obtain ⟨⟨g3, g4⟩, hf⟩ := q_gu_o hf
  refine v_putrN C0 tbX4 cokX4_init rfl (ci := 4) (k := 0) rfl rfl (Or.inl rfl) g3 (q_tn g4) hf (fun σ5 u5 hf => ?_)
  refine v_run C0 tbX4 cokX4_init (pc' := 16) (lv' := [(0, .ref a0)]) (st' := [.ref a0]) (h' := h2) 1 rfl trivial ?_
  refine v_less (kc' := 74 + 1) (ks' := 1358 + 15) (by omega) (by omega) ?_
  refine v_newN (kc := 74) (ks := 1358) (nn := 15) (ci := 2) C0 cokX4_init rfl (by decide) nwcX4_9 nwiX2 nwnX2 rfl hf (fun σ6 h6 a_6 t6 u6 hf => ?_)
  refine v_run C0 tbX4 cokX4_init (pc' := 20) (lv' := [(0, .ref a0)]) (st' := [.ref a_6, .ref a_6, .ref a0]) (h' := h6) 1 rfl trivial ?_
  obtain ⟨σ7, h7, e7, hf⟩ := q_bd2 hf
  refine v_callIN C0 cokX4_init rfl (rest := [.ref a_6, .ref a0]) (ctX2_init a_6 t6 e7) calX2_init rfl lkX4_11 inX2_init dnX2_init rfl rfl ⟨by decide, by decide⟩ (Nat.le_of_ble_eq_true rfl) (kc' := 63) (ks' := 1281) (by omega) (by omega) ?_
  obtain ⟨⟨g8, g9⟩, hf⟩ := q_gu_o hf
  refine v_putrN C0 tbX4 cokX4_init rfl (ci := 4) (k := 1) rfl rfl (Or.inl rfl) g8 (q_tn g9) hf (fun σ10 u10 hf => ?_)
  refine v_run C0 tbX4 cokX4_init (pc' := 27) (lv' := [(0, .ref a0)]) (st' := [.ref a0]) (h' := h7) 1 rfl trivial ?_
  refine v_less (kc' := 62 + 1) (ks' := 1266 + 15) (by omega) (by omega) ?_
  refine v_newN (kc := 62) (ks := 1266) (nn := 15) (ci := 2) C0 cokX4_init rfl (by decide) nwcX4_9 nwiX2 nwnX2 rfl hf (fun σ11 h11 a_11 t11 u11 hf => ?_)
  refine v_run C0 tbX4 cokX4_init (pc' := 31) (lv' := [(0, .ref a0)]) (st' := [.ref a_11, .ref a_11, .ref a0]) (h' := h11) 1 rfl trivial ?_
  obtain ⟨σ12, h12, e12, hf⟩ := q_bd2 hf
  refine v_callIN C0 cokX4_init rfl (rest := [.ref a_11, .ref a0]) (ctX2_init a_11 t11 e12) calX2_init rfl lkX4_11 inX2_init dnX2_init rfl rfl ⟨by decide, by decide⟩ (Nat.le_of_ble_eq_true rfl) (kc' := 51) (ks' := 1189) (by omega) (by omega) ?_
  obtain ⟨⟨g13, g14⟩, hf⟩ := q_gu_o hf
  refine v_putrN C0 tbX4 cokX4_init rfl (ci := 4) (k := 2) rfl rfl (Or.inr ⟨rfl, hnm, rfl⟩) g13 (q_tn g14) hf (fun σ15 u15 hf => ?_)
  refine v_run C0 tbX4 cokX4_init (pc' := 45) (lv' := [(0, .ref a0)]) (st' := [.int (8 : Int32), .ref a0]) (h' := (q_si h12 a0 3 (0 : Int32))) 5 rfl ⟨⟨(q_ks u15 g13), (Or.inl rfl)⟩, trivial⟩ ?_
  refine v_less (kc' := 50 + 1) (ks' := 1181 + 8) (by omega) (by omega) ?_
  refine v_newqN (kc := 50) (ks := 1181) (nn := 8) C0 cokX4_init rfl (k := 0) (by decide) rfl awcX4_26 (n := (8 : Int32)) rfl (by decide) (by decide) hf (fun σ16 h16 a_16 t16 u16 hf => ?_)
  refine v_putrN C0 tbX4 cokX4_init rfl (ci := 4) (k := 4) rfl rfl (Or.inr ⟨rfl, hnm, rfl⟩) (q_kp u16 (q_ks u15 g13)) (q_tn t16) hf (fun σ17 u17 hf => ?_)
  refine v_run C0 tbX4 cokX4_init (pc' := 52) (lv' := [(0, .ref a0)]) (st' := [.ref a0]) (h' := h16) 1 rfl trivial ?_
  refine v_less (kc' := 49 + 1) (ks' := 1176 + 5) (by omega) (by omega) ?_
  refine v_newN (kc := 49) (ks := 1176) (nn := 5) (ci := 1) C0 cokX4_init rfl (by decide) nwcX4_26 nwiX1 nwnX1 rfl hf (fun σ18 h18 a_18 t18 u18 hf => ?_)
  refine v_run C0 tbX4 cokX4_init (pc' := 56) (lv' := [(0, .ref a0)]) (st' := [.ref a_18, .ref a_18, .ref a0]) (h' := h18) 1 rfl trivial ?_
  obtain ⟨σ19, h19, e19, hf⟩ := q_bd2 hf
  refine v_callIN C0 cokX4_init rfl (rest := [.ref a_18, .ref a0]) (ctX1_init a_18 t18 e19) calX1_init rfl lkX4_32 inX1_init dnX1_init rfl rfl ⟨by decide, by decide⟩ (Nat.le_of_ble_eq_true rfl) (kc' := 47) (ks' := 1069) (by omega) (by omega) ?_
  obtain ⟨⟨g20, g21⟩, hf⟩ := q_gu_o hf
  refine v_putrN C0 tbX4 cokX4_init rfl (ci := 4) (k := 5) rfl rfl (Or.inr ⟨rfl, hnm, rfl⟩) g20 (q_tn g21) hf (fun σ22 u22 hf => ?_)
  refine v_run C0 tbX4 cokX4_init (pc' := 65) (lv' := [(0, .ref a0)]) (st' := [.int (8 : Int32), .ref a0]) (h' := h19) 2 rfl trivial ?_
  refine v_less (kc' := 46 + 1) (ks' := 1061 + 8) (by omega) (by omega) ?_
  refine v_newqN (kc := 46) (ks := 1061) (nn := 8) C0 cokX4_init rfl (k := 1) (by decide) rfl awcX4_37 (n := (8 : Int32)) rfl (by decide) (by decide) hf (fun σ23 h23 a_23 t23 u23 hf => ?_)
  refine v_putrN C0 tbX4 cokX4_init rfl (ci := 4) (k := 6) rfl rfl (Or.inr ⟨rfl, hnm, rfl⟩) (q_kp u23 (q_ks u22 g20)) (q_tn t23) hf (fun σ24 u24 hf => ?_)
  refine v_run C0 tbX4 cokX4_init (pc' := 72) (lv' := [(0, .ref a0)]) (st' := [.ref a0]) (h' := h23) 1 rfl trivial ?_
  refine v_less (kc' := 45 + 1) (ks' := 1054 + 7) (by omega) (by omega) ?_
  refine v_newN (kc := 45) (ks := 1054) (nn := 7) (ci := 3) C0 cokX4_init rfl (by decide) nwcX4_37 nwiX3 nwnX3 rfl hf (fun σ25 h25 a_25 t25 u25 hf => ?_)
  refine v_run C0 tbX4 cokX4_init (pc' := 78) (lv' := [(0, .ref a0)]) (st' := [.int (0 : Int32), .int (0 : Int32), .ref a_25, .ref a_25, .ref a0]) (h' := h25) 3 rfl trivial ?_
  obtain ⟨h26, e26, hf⟩ := q_bd hf
  refine v_callI C0 cokX4_init rfl (rest := [.ref a_25, .ref a0]) (ctX3_init a_25 (0 : Int32) (0 : Int32) t25 e26) calX3_init rfl lkX4_43 inX3_init dnX3_init rfl rfl ⟨by decide, by decide⟩ (Nat.le_of_ble_eq_true rfl) (Nat.le_refl _) (Nat.le_refl _) ?_
  refine v_putrN C0 tbX4 cokX4_init rfl (ci := 4) (k := 7) rfl rfl (Or.inr ⟨rfl, hnm, rfl⟩) (q_kp u25 (q_ks u24 (q_kp u23 (q_ks u22 g20)))) (q_tn t25) hf (fun σ27 u27 hf => ?_)
  refine v_run C0 tbX4 cokX4_init (pc' := 85) (lv' := [(0, .ref a0)]) (st' := [.ref a0]) (h' := h26) 1 rfl trivial ?_
  refine v_less (kc' := 44 + 1) (ks' := 1043 + 11) (by omega) (by omega) ?_
  refine v_newN (kc := 44) (ks := 1043) (nn := 11) (ci := 0) C0 cokX4_init rfl (by decide) nwcX4_50 nwiX0 nwnX0 rfl hf (fun σ28 h28 a_28 t28 u28 hf => ?_)
  refine v_run C0 tbX4 cokX4_init (pc' := 89) (lv' := [(0, .ref a0)]) (st' := [.ref a_28, .ref a_28, .ref a0]) (h' := h28) 1 rfl trivial ?_
  obtain ⟨σ29, h29, e29, hf⟩ := q_bd2 hf
  refine v_callIN C0 cokX4_init rfl (rest := [.ref a_28, .ref a0]) (ctX0_init a_28 t28 e29) calX0_init rfl lkX4_52 inX0_init dnX0_init rfl rfl ⟨by decide, by decide⟩ (Nat.le_of_ble_eq_true rfl) (kc' := 35) (ks' := 974) (by omega) (by omega) ?_
  obtain ⟨⟨g30, g31⟩, hf⟩ := q_gu_o hf
  refine v_putrN C0 tbX4 cokX4_init rfl (ci := 4) (k := 8) rfl rfl (Or.inr ⟨rfl, hnm, rfl⟩) g30 (q_tn g31) hf (fun σ32 u32 hf => ?_)
  refine v_run C0 tbX4 cokX4_init (pc' := 98) (lv' := [(0, .ref a0)]) (st' := [.int (8 : Int32), .ref a0]) (h' := h29) 2 rfl trivial ?_
  refine v_less (kc' := 34 + 1) (ks' := 966 + 8) (by omega) (by omega) ?_
  refine v_newaN (kc := 34) (ks := 966) (nn := 8) C0 cokX4_init rfl ac_int (n := (8 : Int32)) rfl (by decide) (by decide) hf (fun σ33 h33 a_33 t33 u33 hf => ?_)
  refine v_putrN C0 tbX4 cokX4_init rfl (ci := 4) (k := 9) rfl rfl (Or.inr ⟨rfl, hnm, rfl⟩) (q_kp u33 (q_ks u32 g30)) (q_tn t33) hf (fun σ34 u34 hf => ?_)
  refine v_run C0 tbX4 cokX4_init (pc' := 106) (lv' := [(0, .ref a0)]) (st' := [.int (7 : Int32), .ref a0]) (h' := h33) 2 rfl trivial ?_
  refine v_less (kc' := 33 + 1) (ks' := 959 + 7) (by omega) (by omega) ?_
  refine v_newaN (kc := 33) (ks := 959) (nn := 7) C0 cokX4_init rfl ac_int (n := (7 : Int32)) rfl (by decide) (by decide) hf (fun σ35 h35 a_35 t35 u35 hf => ?_)
  refine v_putrN C0 tbX4 cokX4_init rfl (ci := 4) (k := 10) rfl rfl (Or.inr ⟨rfl, hnm, rfl⟩) (q_kp u35 (q_ks u34 (q_kp u33 (q_ks u32 g30)))) (q_tn t35) hf (fun σ36 u36 hf => ?_)
  refine v_run C0 tbX4 cokX4_init (pc' := 114) (lv' := [(0, .ref a0)]) (st' := [.int (7 : Int32), .ref a0]) (h' := h35) 2 rfl trivial ?_
  refine v_less (kc' := 32 + 1) (ks' := 952 + 7) (by omega) (by omega) ?_
  refine v_newaN (kc := 32) (ks := 952) (nn := 7) C0 cokX4_init rfl ac_int (n := (7 : Int32)) rfl (by decide) (by decide) hf (fun σ37 h37 a_37 t37 u37 hf => ?_)
  refine v_putrN C0 tbX4 cokX4_init rfl (ci := 4) (k := 11) rfl rfl (Or.inr ⟨rfl, hnm, rfl⟩) (q_kp u37 (q_ks u36 (q_kp u35 (q_ks u34 (q_kp u33 (q_ks u32 g30)))))) (q_tn t37) hf (fun σ38 u38 hf => ?_)
  refine v_run C0 tbX4 cokX4_init (pc' := 121) (lv' := [(1, .int (0 : Int32)), (0, .ref a0)]) (st' := []) (h' := h37) 2 rfl trivial ?_
  obtain ⟨o39, eo39, hf⟩ := q_bd hf
  refine v_less (kc' := q_sh 8 3 8 (0 : Int32)) (ks' := q_sh 56 112 8 (0 : Int32)) (q_shl (by decide)) (q_shl (by decide)) ?_
  refine v_pick [1, 0] rfl ?_
  refine n121 o39 ((0 : Int32), σ38, h37) eo39 ?_
  refine v_run C0 tbX4 cokX4_init (pc' := 151) (lv' := [(1, .int (0 : Int32)), (0, .ref a0)]) (st' := []) (h' := o39.2) 2 rfl trivial ?_
  obtain ⟨o41, eo41, hf⟩ := q_bd hf
  refine v_less (kc' := q_sh 0 1 8 (0 : Int32)) (ks' := q_sh 0 7 8 (0 : Int32)) (q_shl (by decide)) (q_shl (by decide)) ?_
  refine v_pick [1, 0] rfl ?_
  refine n151 o41 ((0 : Int32), o39.1, o39.2) eo41 ?_
  obtain ⟨rfl, rfl⟩ := Prod.mk.inj (Option.some.inj hf)
  exact v_vret C0 cokX4_init hr hlk rfl
