-- BackByNoonOnMonday$Fitting.<init>()V
noncomputable def fX0_init (σ : q_St) (h : q_Hp) (a0 : Nat) : Option (q_St × q_Hp) := (q_al σ h 7 8 fun σ1 h1 a_1 => (q_lr σ1 a0 0 a_1 fun σ2 => (q_al σ2 h1 7 8 fun σ3 h3 a_3 => (q_lr σ3 a0 1 a_3 fun σ4 => (q_al σ4 h3 7 8 fun σ5 h5 a_5 => (q_lr σ5 a0 2 a_5 fun σ6 => (q_al σ6 h5 7 8 fun σ7 h7 a_7 => (q_lr σ7 a0 3 a_7 fun σ8 => (q_al σ8 h7 7 8 fun σ9 h9 a_9 => (q_lr σ9 a0 4 a_9 fun σ10 => (q_al σ10 h9 7 8 fun σ11 h11 a_11 => (q_lr σ11 a0 5 a_11 fun σ12 => (q_al σ12 h11 7 7 fun σ13 h13 a_13 => (q_lr σ13 a0 6 a_13 fun σ14 => (q_al σ14 h13 7 7 fun σ15 h15 a_15 => (q_lr σ15 a0 7 a_15 fun σ16 => (q_al σ16 h15 7 7 fun σ17 h17 a_17 => (q_lr σ17 a0 8 a_17 fun σ18 => some (σ18, (q_si (q_si h17 a0 9 (0 : Int32)) a0 10 (0 : Int32)))))))))))))))))))))
def cdX0_init : q_Cd := [(0, .aload_n 0), (1, .invokespecial 3), (4, .aload_n 0), (5, .bipush 8), (7, .newarray .int), (9, .putfield 9), (12, .aload_n 0), (13, .bipush 8), (15, .newarray .int), (17, .putfield 15), (20, .aload_n 0), (21, .bipush 8), (23, .newarray .int), (25, .putfield 18), (28, .aload_n 0), (29, .bipush 8), (31, .newarray .int), (33, .putfield 21), (36, .aload_n 0), (37, .bipush 8), (39, .newarray .int), (41, .putfield 24), (44, .aload_n 0), (45, .bipush 8), (47, .newarray .int), (49, .putfield 27), (52, .aload_n 0), (53, .bipush 7), (55, .newarray .int), (57, .putfield 30), (60, .aload_n 0), (61, .bipush 7), (63, .newarray .int), (65, .putfield 33), (68, .aload_n 0), (69, .bipush 7), (71, .newarray .int), (73, .putfield 36), (76, .aload_n 0), (77, .iconst 0), (78, .putfield 39), (81, .aload_n 0), (82, .iconst 0), (83, .putfield 43), (86, .return_)]
set_option maxRecDepth 100000 in
theorem cokX0_init : q_cok cX0_init cdX0_init := by unfold q_cok; decide +kernel
set_option maxRecDepth 100000 in
set_option maxHeartbeats 4000000 in
theorem ctX0_init {l : Launch} {D : va_G} {cy : Nat → Nat} {b0 : Nat} {σ : q_St} {h : q_Hp} (a0 : Nat) {σ' : q_St} {h' : q_Hp} (ta0 : q_tag σ a0 = 1) (hf : fX0_init σ h a0 = some (σ', h')) : q_M l yX0_init cX0_init 1 none 1 20 9 69 D cy b0 σ h [.ref a0] none σ' h' := by
  unfold fX0_init at hf
  refine q_enter (by decide) (Nat.le_of_ble_eq_true rfl) ?_
  intro p e s m args below meth c C0 hr hlk hnm
  replace C0 : VC p { frames := 1, cells := 9, slots := 69, locals := 20 } s m args meth c D cy b0 1 9 69 RX0 cX0_init := C0
  refine v_run C0 tbX0 cokX0_init (pc' := 1) (lv' := [(0, .ref a0)]) (st' := [.ref a0]) (h' := h) 1 rfl trivial ?_
  refine v_obj C0 cokX0_init rfl objX0 (by decide) (by decide) (Nat.le_of_ble_eq_true rfl) ?_
  refine v_run C0 tbX0 cokX0_init (pc' := 7) (lv' := [(0, .ref a0)]) (st' := [.int (8 : Int32), .ref a0]) (h' := h) 2 rfl trivial ?_
  refine v_less (kc' := 8 + 1) (ks' := 61 + 8) (by omega) (by omega) ?_
  refine v_newaN (kc := 8) (ks := 61) (nn := 8) C0 cokX0_init rfl ac_int (n := (8 : Int32)) rfl (by decide) (by decide) hf (fun σ1 h1 a_1 t1 u1 hf => ?_)
  refine v_putrN C0 tbX0 cokX0_init rfl (ci := 0) (k := 0) rfl rfl (Or.inr ⟨rfl, hnm, rfl⟩) (q_kp u1 ta0) (q_tn t1) hf (fun σ2 u2 hf => ?_)
  refine v_run C0 tbX0 cokX0_init (pc' := 15) (lv' := [(0, .ref a0)]) (st' := [.int (8 : Int32), .ref a0]) (h' := h1) 2 rfl trivial ?_
  refine v_less (kc' := 7 + 1) (ks' := 53 + 8) (by omega) (by omega) ?_
  refine v_newaN (kc := 7) (ks := 53) (nn := 8) C0 cokX0_init rfl ac_int (n := (8 : Int32)) rfl (by decide) (by decide) hf (fun σ3 h3 a_3 t3 u3 hf => ?_)
  refine v_putrN C0 tbX0 cokX0_init rfl (ci := 0) (k := 1) rfl rfl (Or.inr ⟨rfl, hnm, rfl⟩) (q_kp u3 (q_ks u2 (q_kp u1 ta0))) (q_tn t3) hf (fun σ4 u4 hf => ?_)
  refine v_run C0 tbX0 cokX0_init (pc' := 23) (lv' := [(0, .ref a0)]) (st' := [.int (8 : Int32), .ref a0]) (h' := h3) 2 rfl trivial ?_
  refine v_less (kc' := 6 + 1) (ks' := 45 + 8) (by omega) (by omega) ?_
  refine v_newaN (kc := 6) (ks := 45) (nn := 8) C0 cokX0_init rfl ac_int (n := (8 : Int32)) rfl (by decide) (by decide) hf (fun σ5 h5 a_5 t5 u5 hf => ?_)
  refine v_putrN C0 tbX0 cokX0_init rfl (ci := 0) (k := 2) rfl rfl (Or.inr ⟨rfl, hnm, rfl⟩) (q_kp u5 (q_ks u4 (q_kp u3 (q_ks u2 (q_kp u1 ta0))))) (q_tn t5) hf (fun σ6 u6 hf => ?_)
  refine v_run C0 tbX0 cokX0_init (pc' := 31) (lv' := [(0, .ref a0)]) (st' := [.int (8 : Int32), .ref a0]) (h' := h5) 2 rfl trivial ?_
  refine v_less (kc' := 5 + 1) (ks' := 37 + 8) (by omega) (by omega) ?_
  refine v_newaN (kc := 5) (ks := 37) (nn := 8) C0 cokX0_init rfl ac_int (n := (8 : Int32)) rfl (by decide) (by decide) hf (fun σ7 h7 a_7 t7 u7 hf => ?_)
  refine v_putrN C0 tbX0 cokX0_init rfl (ci := 0) (k := 3) rfl rfl (Or.inr ⟨rfl, hnm, rfl⟩) (q_kp u7 (q_ks u6 (q_kp u5 (q_ks u4 (q_kp u3 (q_ks u2 (q_kp u1 ta0))))))) (q_tn t7) hf (fun σ8 u8 hf => ?_)
  refine v_run C0 tbX0 cokX0_init (pc' := 39) (lv' := [(0, .ref a0)]) (st' := [.int (8 : Int32), .ref a0]) (h' := h7) 2 rfl trivial ?_
  refine v_less (kc' := 4 + 1) (ks' := 29 + 8) (by omega) (by omega) ?_
  refine v_newaN (kc := 4) (ks := 29) (nn := 8) C0 cokX0_init rfl ac_int (n := (8 : Int32)) rfl (by decide) (by decide) hf (fun σ9 h9 a_9 t9 u9 hf => ?_)
  refine v_putrN C0 tbX0 cokX0_init rfl (ci := 0) (k := 4) rfl rfl (Or.inr ⟨rfl, hnm, rfl⟩) (q_kp u9 (q_ks u8 (q_kp u7 (q_ks u6 (q_kp u5 (q_ks u4 (q_kp u3 (q_ks u2 (q_kp u1 ta0))))))))) (q_tn t9) hf (fun σ10 u10 hf => ?_)
  refine v_run C0 tbX0 cokX0_init (pc' := 47) (lv' := [(0, .ref a0)]) (st' := [.int (8 : Int32), .ref a0]) (h' := h9) 2 rfl trivial ?_
  refine v_less (kc' := 3 + 1) (ks' := 21 + 8) (by omega) (by omega) ?_
  refine v_newaN (kc := 3) (ks := 21) (nn := 8) C0 cokX0_init rfl ac_int (n := (8 : Int32)) rfl (by decide) (by decide) hf (fun σ11 h11 a_11 t11 u11 hf => ?_)
  refine v_putrN C0 tbX0 cokX0_init rfl (ci := 0) (k := 5) rfl rfl (Or.inr ⟨rfl, hnm, rfl⟩) (q_kp u11 (q_ks u10 (q_kp u9 (q_ks u8 (q_kp u7 (q_ks u6 (q_kp u5 (q_ks u4 (q_kp u3 (q_ks u2 (q_kp u1 ta0))))))))))) (q_tn t11) hf (fun σ12 u12 hf => ?_)
  refine v_run C0 tbX0 cokX0_init (pc' := 55) (lv' := [(0, .ref a0)]) (st' := [.int (7 : Int32), .ref a0]) (h' := h11) 2 rfl trivial ?_
  refine v_less (kc' := 2 + 1) (ks' := 14 + 7) (by omega) (by omega) ?_
  refine v_newaN (kc := 2) (ks := 14) (nn := 7) C0 cokX0_init rfl ac_int (n := (7 : Int32)) rfl (by decide) (by decide) hf (fun σ13 h13 a_13 t13 u13 hf => ?_)
  refine v_putrN C0 tbX0 cokX0_init rfl (ci := 0) (k := 6) rfl rfl (Or.inr ⟨rfl, hnm, rfl⟩) (q_kp u13 (q_ks u12 (q_kp u11 (q_ks u10 (q_kp u9 (q_ks u8 (q_kp u7 (q_ks u6 (q_kp u5 (q_ks u4 (q_kp u3 (q_ks u2 (q_kp u1 ta0))))))))))))) (q_tn t13) hf (fun σ14 u14 hf => ?_)
  refine v_run C0 tbX0 cokX0_init (pc' := 63) (lv' := [(0, .ref a0)]) (st' := [.int (7 : Int32), .ref a0]) (h' := h13) 2 rfl trivial ?_
  refine v_less (kc' := 1 + 1) (ks' := 7 + 7) (by omega) (by omega) ?_
  refine v_newaN (kc := 1) (ks := 7) (nn := 7) C0 cokX0_init rfl ac_int (n := (7 : Int32)) rfl (by decide) (by decide) hf (fun σ15 h15 a_15 t15 u15 hf => ?_)
  refine v_putrN C0 tbX0 cokX0_init rfl (ci := 0) (k := 7) rfl rfl (Or.inr ⟨rfl, hnm, rfl⟩) (q_kp u15 (q_ks u14 (q_kp u13 (q_ks u12 (q_kp u11 (q_ks u10 (q_kp u9 (q_ks u8 (q_kp u7 (q_ks u6 (q_kp u5 (q_ks u4 (q_kp u3 (q_ks u2 (q_kp u1 ta0))))))))))))))) (q_tn t15) hf (fun σ16 u16 hf => ?_)
  refine v_run C0 tbX0 cokX0_init (pc' := 71) (lv' := [(0, .ref a0)]) (st' := [.int (7 : Int32), .ref a0]) (h' := h15) 2 rfl trivial ?_
  refine v_less (kc' := 0 + 1) (ks' := 0 + 7) (by omega) (by omega) ?_
  refine v_newaN (kc := 0) (ks := 0) (nn := 7) C0 cokX0_init rfl ac_int (n := (7 : Int32)) rfl (by decide) (by decide) hf (fun σ17 h17 a_17 t17 u17 hf => ?_)
  refine v_putrN C0 tbX0 cokX0_init rfl (ci := 0) (k := 8) rfl rfl (Or.inr ⟨rfl, hnm, rfl⟩) (q_kp u17 (q_ks u16 (q_kp u15 (q_ks u14 (q_kp u13 (q_ks u12 (q_kp u11 (q_ks u10 (q_kp u9 (q_ks u8 (q_kp u7 (q_ks u6 (q_kp u5 (q_ks u4 (q_kp u3 (q_ks u2 (q_kp u1 ta0))))))))))))))))) (q_tn t17) hf (fun σ18 u18 hf => ?_)
  refine v_run C0 tbX0 cokX0_init (pc' := 86) (lv' := [(0, .ref a0)]) (st' := []) (h' := (q_si (q_si h17 a0 9 (0 : Int32)) a0 10 (0 : Int32))) 6 rfl ⟨(q_ks u18 (q_kp u17 (q_ks u16 (q_kp u15 (q_ks u14 (q_kp u13 (q_ks u12 (q_kp u11 (q_ks u10 (q_kp u9 (q_ks u8 (q_kp u7 (q_ks u6 (q_kp u5 (q_ks u4 (q_kp u3 (q_ks u2 (q_kp u1 ta0)))))))))))))))))), (q_ks u18 (q_kp u17 (q_ks u16 (q_kp u15 (q_ks u14 (q_kp u13 (q_ks u12 (q_kp u11 (q_ks u10 (q_kp u9 (q_ks u8 (q_kp u7 (q_ks u6 (q_kp u5 (q_ks u4 (q_kp u3 (q_ks u2 (q_kp u1 ta0)))))))))))))))))), trivial⟩ ?_
  obtain ⟨rfl, rfl⟩ := Prod.mk.inj (Option.some.inj hf)
  exact v_vret C0 cokX0_init hr hlk rfl
-- BackByNoonOnMonday$Shelf.<init>()V
noncomputable def fX1_init (σ : q_St) (h : q_Hp) (a0 : Nat) : Option (q_St × q_Hp) := (q_al σ h 7 100 fun σ1 h1 a_1 => (q_lr σ1 a0 0 a_1 fun σ2 => (q_al σ2 (q_si h1 a0 1 (0 : Int32)) 4 0 fun σ3 h3 a_3 => ((fX3_init σ3 h3 a_3 (0 : Int32) (0 : Int32)).bind fun h4 => (q_lr σ3 a0 2 a_3 fun σ5 => some (σ5, (q_si (q_si h4 a0 3 (0 : Int32)) a0 4 (0 : Int32))))))))
def cdX1_init : q_Cd := [(0, .aload_n 0), (1, .invokespecial 3), (4, .aload_n 0), (5, .bipush 100), (7, .newarray .int), (9, .putfield 9), (12, .aload_n 0), (13, .iconst 0), (14, .putfield 15), (17, .aload_n 0), (18, .new 19), (21, .dup), (22, .iconst 0), (23, .iconst 0), (24, .invokespecial 21), (27, .putfield 24), (30, .aload_n 0), (31, .iconst 0), (32, .putfield 28), (35, .aload_n 0), (36, .iconst 0), (37, .putfield 31), (40, .return_)]
set_option maxRecDepth 100000 in
theorem cokX1_init : q_cok cX1_init cdX1_init := by unfold q_cok; decide +kernel
set_option maxRecDepth 100000 in
set_option maxHeartbeats 4000000 in
theorem ctX1_init {l : Launch} {D : va_G} {cy : Nat → Nat} {b0 : Nat} {σ : q_St} {h : q_Hp} (a0 : Nat) {σ' : q_St} {h' : q_Hp} (ta0 : q_tag σ a0 = 2) (hf : fX1_init σ h a0 = some (σ', h')) : q_M l yX1_init cX1_init 1 none 2 47 2 107 D cy b0 σ h [.ref a0] none σ' h' := by
  unfold fX1_init at hf
  refine q_enter (by decide) (Nat.le_of_ble_eq_true rfl) ?_
  intro p e s m args below meth c C0 hr hlk hnm
  replace C0 : VC p { frames := 2, cells := 2, slots := 107, locals := 47 } s m args meth c D cy b0 1 2 107 RX1 cX1_init := C0
  refine v_run C0 tbX1 cokX1_init (pc' := 1) (lv' := [(0, .ref a0)]) (st' := [.ref a0]) (h' := h) 1 rfl trivial ?_
  refine v_obj C0 cokX1_init rfl objX1 (by decide) (by decide) (Nat.le_of_ble_eq_true rfl) ?_
  refine v_run C0 tbX1 cokX1_init (pc' := 7) (lv' := [(0, .ref a0)]) (st' := [.int (100 : Int32), .ref a0]) (h' := h) 2 rfl trivial ?_
  refine v_less (kc' := 1 + 1) (ks' := 7 + 100) (by omega) (by omega) ?_
  refine v_newaN (kc := 1) (ks := 7) (nn := 100) C0 cokX1_init rfl ac_int (n := (100 : Int32)) rfl (by decide) (by decide) hf (fun σ1 h1 a_1 t1 u1 hf => ?_)
  refine v_putrN C0 tbX1 cokX1_init rfl (ci := 1) (k := 0) rfl rfl (Or.inr ⟨rfl, hnm, rfl⟩) (q_kp u1 ta0) (q_tn t1) hf (fun σ2 u2 hf => ?_)
  refine v_run C0 tbX1 cokX1_init (pc' := 18) (lv' := [(0, .ref a0)]) (st' := [.ref a0]) (h' := (q_si h1 a0 1 (0 : Int32))) 4 rfl ⟨(q_ks u2 (q_kp u1 ta0)), trivial⟩ ?_
  refine v_less (kc' := 0 + 1) (ks' := 0 + 7) (by omega) (by omega) ?_
  refine v_newN (kc := 0) (ks := 0) (nn := 7) (ci := 3) C0 cokX1_init rfl (by decide) nwcX1_19 nwiX3 nwnX3 rfl hf (fun σ3 h3 a_3 t3 u3 hf => ?_)
  refine v_run C0 tbX1 cokX1_init (pc' := 24) (lv' := [(0, .ref a0)]) (st' := [.int (0 : Int32), .int (0 : Int32), .ref a_3, .ref a_3, .ref a0]) (h' := h3) 3 rfl trivial ?_
  obtain ⟨h4, e4, hf⟩ := q_bd hf
  refine v_callI C0 cokX1_init rfl (rest := [.ref a_3, .ref a0]) (ctX3_init a_3 (0 : Int32) (0 : Int32) t3 e4) calX3_init rfl lkX1_21 inX3_init dnX3_init rfl rfl ⟨by decide, by decide⟩ (Nat.le_of_ble_eq_true rfl) (Nat.le_refl _) (Nat.le_refl _) ?_
  refine v_putrN C0 tbX1 cokX1_init rfl (ci := 1) (k := 2) rfl rfl (Or.inl rfl) (q_kp u3 (q_ks u2 (q_kp u1 ta0))) (q_tn t3) hf (fun σ5 u5 hf => ?_)
  refine v_run C0 tbX1 cokX1_init (pc' := 40) (lv' := [(0, .ref a0)]) (st' := []) (h' := (q_si (q_si h4 a0 3 (0 : Int32)) a0 4 (0 : Int32))) 6 rfl ⟨(q_ks u5 (q_kp u3 (q_ks u2 (q_kp u1 ta0)))), (q_ks u5 (q_kp u3 (q_ks u2 (q_kp u1 ta0)))), trivial⟩ ?_
  obtain ⟨rfl, rfl⟩ := Prod.mk.inj (Option.some.inj hf)
  exact v_vret C0 cokX1_init hr hlk rfl
-- BackByNoonOnMonday$Shop.<init>()V
noncomputable def fX2_init (σ : q_St) (h : q_Hp) (a0 : Nat) : Option (q_St × q_Hp) := (q_al σ h 10 7 fun σ1 h1 a_1 => (q_lr σ1 a0 0 a_1 fun σ2 => (q_al σ2 h1 7 7 fun σ3 h3 a_3 => (q_lr σ3 a0 1 a_3 fun σ4 => (q_al σ4 h3 7 7 fun σ5 h5 a_5 => (q_lr σ5 a0 2 a_5 fun σ6 => (q_al σ6 h5 7 7 fun σ7 h7 a_7 => (q_lr σ7 a0 3 a_7 fun σ8 => (q_al σ8 h7 7 7 fun σ9 h9 a_9 => (q_lr σ9 a0 4 a_9 fun σ10 => (q_al σ10 h9 7 7 fun σ11 h11 a_11 => (q_lr σ11 a0 5 a_11 fun σ12 => (q_al σ12 h11 7 7 fun σ13 h13 a_13 => (q_lr σ13 a0 6 a_13 fun σ14 => (q_al σ14 h13 7 7 fun σ15 h15 a_15 => (q_lr σ15 a0 7 a_15 fun σ16 => (q_al σ16 h15 7 7 fun σ17 h17 a_17 => (q_lr σ17 a0 8 a_17 fun σ18 => (q_al σ18 h17 7 7 fun σ19 h19 a_19 => (q_lr σ19 a0 9 a_19 fun σ20 => (q_al σ20 h19 4 0 fun σ21 h21 a_21 => ((fX3_init σ21 h21 a_21 (0 : Int32) (0 : Int32)).bind fun h22 => (q_lr σ21 a0 10 a_21 fun σ23 => some (σ23, (q_si (q_si (q_si (q_si h22 a0 11 (0 : Int32)) a0 12 (0 : Int32)) a0 13 (0 : Int32)) a0 14 (0 : Int32))))))))))))))))))))))))))
def cdX2_init : q_Cd := [(0, .aload_n 0), (1, .invokespecial 3), (4, .aload_n 0), (5, .bipush 7), (7, .anewarray 9), (10, .putfield 11), (13, .aload_n 0), (14, .bipush 7), (16, .newarray .int), (18, .putfield 17), (21, .aload_n 0), (22, .bipush 7), (24, .newarray .int), (26, .putfield 21), (29, .aload_n 0), (30, .bipush 7), (32, .newarray .int), (34, .putfield 24), (37, .aload_n 0), (38, .bipush 7), (40, .newarray .int), (42, .putfield 27), (45, .aload_n 0), (46, .bipush 7), (48, .newarray .int), (50, .putfield 30), (53, .aload_n 0), (54, .bipush 7), (56, .newarray .int), (58, .putfield 33), (61, .aload_n 0), (62, .bipush 7), (64, .newarray .int), (66, .putfield 36), (69, .aload_n 0), (70, .bipush 7), (72, .newarray .int), (74, .putfield 39), (77, .aload_n 0), (78, .bipush 7), (80, .newarray .int), (82, .putfield 42), (85, .aload_n 0), (86, .new 9), (89, .dup), (90, .iconst 0), (91, .iconst 0), (92, .invokespecial 45), (95, .putfield 48), (98, .aload_n 0), (99, .iconst 0), (100, .putfield 52), (103, .aload_n 0), (104, .iconst 0), (105, .putfield 56), (108, .aload_n 0), (109, .iconst 0), (110, .putfield 59), (113, .aload_n 0), (114, .iconst 0), (115, .putfield 62), (118, .return_)]
set_option maxRecDepth 100000 in
theorem cokX2_init : q_cok cX2_init cdX2_init := by unfold q_cok; decide +kernel
set_option maxRecDepth 100000 in
set_option maxHeartbeats 4000000 in
theorem ctX2_init {l : Launch} {D : va_G} {cy : Nat → Nat} {b0 : Nat} {σ : q_St} {h : q_Hp} (a0 : Nat) {σ' : q_St} {h' : q_Hp} (ta0 : q_tag σ a0 = 3) (hf : fX2_init σ h a0 = some (σ', h')) : q_M l yX2_init cX2_init 1 none 2 47 11 77 D cy b0 σ h [.ref a0] none σ' h' := by
  unfold fX2_init at hf
  refine q_enter (by decide) (Nat.le_of_ble_eq_true rfl) ?_
  intro p e s m args below meth c C0 hr hlk hnm
  replace C0 : VC p { frames := 2, cells := 11, slots := 77, locals := 47 } s m args meth c D cy b0 1 11 77 RX2 cX2_init := C0
  refine v_run C0 tbX2 cokX2_init (pc' := 1) (lv' := [(0, .ref a0)]) (st' := [.ref a0]) (h' := h) 1 rfl trivial ?_
  refine v_obj C0 cokX2_init rfl objX2 (by decide) (by decide) (Nat.le_of_ble_eq_true rfl) ?_
  refine v_run C0 tbX2 cokX2_init (pc' := 7) (lv' := [(0, .ref a0)]) (st' := [.int (7 : Int32), .ref a0]) (h' := h) 2 rfl trivial ?_
  refine v_less (kc' := 10 + 1) (ks' := 70 + 7) (by omega) (by omega) ?_
  refine v_newqN (kc := 10) (ks := 70) (nn := 7) C0 cokX2_init rfl (k := 1) (by decide) rfl awcX2_9 (n := (7 : Int32)) rfl (by decide) (by decide) hf (fun σ1 h1 a_1 t1 u1 hf => ?_)
  refine v_putrN C0 tbX2 cokX2_init rfl (ci := 2) (k := 0) rfl rfl (Or.inr ⟨rfl, hnm, rfl⟩) (q_kp u1 ta0) (q_tn t1) hf (fun σ2 u2 hf => ?_)
  refine v_run C0 tbX2 cokX2_init (pc' := 16) (lv' := [(0, .ref a0)]) (st' := [.int (7 : Int32), .ref a0]) (h' := h1) 2 rfl trivial ?_
  refine v_less (kc' := 9 + 1) (ks' := 63 + 7) (by omega) (by omega) ?_
  refine v_newaN (kc := 9) (ks := 63) (nn := 7) C0 cokX2_init rfl ac_int (n := (7 : Int32)) rfl (by decide) (by decide) hf (fun σ3 h3 a_3 t3 u3 hf => ?_)
  refine v_putrN C0 tbX2 cokX2_init rfl (ci := 2) (k := 1) rfl rfl (Or.inr ⟨rfl, hnm, rfl⟩) (q_kp u3 (q_ks u2 (q_kp u1 ta0))) (q_tn t3) hf (fun σ4 u4 hf => ?_)
  refine v_run C0 tbX2 cokX2_init (pc' := 24) (lv' := [(0, .ref a0)]) (st' := [.int (7 : Int32), .ref a0]) (h' := h3) 2 rfl trivial ?_
  refine v_less (kc' := 8 + 1) (ks' := 56 + 7) (by omega) (by omega) ?_
  refine v_newaN (kc := 8) (ks := 56) (nn := 7) C0 cokX2_init rfl ac_int (n := (7 : Int32)) rfl (by decide) (by decide) hf (fun σ5 h5 a_5 t5 u5 hf => ?_)
  refine v_putrN C0 tbX2 cokX2_init rfl (ci := 2) (k := 2) rfl rfl (Or.inr ⟨rfl, hnm, rfl⟩) (q_kp u5 (q_ks u4 (q_kp u3 (q_ks u2 (q_kp u1 ta0))))) (q_tn t5) hf (fun σ6 u6 hf => ?_)
  refine v_run C0 tbX2 cokX2_init (pc' := 32) (lv' := [(0, .ref a0)]) (st' := [.int (7 : Int32), .ref a0]) (h' := h5) 2 rfl trivial ?_
  refine v_less (kc' := 7 + 1) (ks' := 49 + 7) (by omega) (by omega) ?_
  refine v_newaN (kc := 7) (ks := 49) (nn := 7) C0 cokX2_init rfl ac_int (n := (7 : Int32)) rfl (by decide) (by decide) hf (fun σ7 h7 a_7 t7 u7 hf => ?_)
  refine v_putrN C0 tbX2 cokX2_init rfl (ci := 2) (k := 3) rfl rfl (Or.inr ⟨rfl, hnm, rfl⟩) (q_kp u7 (q_ks u6 (q_kp u5 (q_ks u4 (q_kp u3 (q_ks u2 (q_kp u1 ta0))))))) (q_tn t7) hf (fun σ8 u8 hf => ?_)
  refine v_run C0 tbX2 cokX2_init (pc' := 40) (lv' := [(0, .ref a0)]) (st' := [.int (7 : Int32), .ref a0]) (h' := h7) 2 rfl trivial ?_
  refine v_less (kc' := 6 + 1) (ks' := 42 + 7) (by omega) (by omega) ?_
  refine v_newaN (kc := 6) (ks := 42) (nn := 7) C0 cokX2_init rfl ac_int (n := (7 : Int32)) rfl (by decide) (by decide) hf (fun σ9 h9 a_9 t9 u9 hf => ?_)
  refine v_putrN C0 tbX2 cokX2_init rfl (ci := 2) (k := 4) rfl rfl (Or.inr ⟨rfl, hnm, rfl⟩) (q_kp u9 (q_ks u8 (q_kp u7 (q_ks u6 (q_kp u5 (q_ks u4 (q_kp u3 (q_ks u2 (q_kp u1 ta0))))))))) (q_tn t9) hf (fun σ10 u10 hf => ?_)
  refine v_run C0 tbX2 cokX2_init (pc' := 48) (lv' := [(0, .ref a0)]) (st' := [.int (7 : Int32), .ref a0]) (h' := h9) 2 rfl trivial ?_
  refine v_less (kc' := 5 + 1) (ks' := 35 + 7) (by omega) (by omega) ?_
  refine v_newaN (kc := 5) (ks := 35) (nn := 7) C0 cokX2_init rfl ac_int (n := (7 : Int32)) rfl (by decide) (by decide) hf (fun σ11 h11 a_11 t11 u11 hf => ?_)
  refine v_putrN C0 tbX2 cokX2_init rfl (ci := 2) (k := 5) rfl rfl (Or.inr ⟨rfl, hnm, rfl⟩) (q_kp u11 (q_ks u10 (q_kp u9 (q_ks u8 (q_kp u7 (q_ks u6 (q_kp u5 (q_ks u4 (q_kp u3 (q_ks u2 (q_kp u1 ta0))))))))))) (q_tn t11) hf (fun σ12 u12 hf => ?_)
  refine v_run C0 tbX2 cokX2_init (pc' := 56) (lv' := [(0, .ref a0)]) (st' := [.int (7 : Int32), .ref a0]) (h' := h11) 2 rfl trivial ?_
  refine v_less (kc' := 4 + 1) (ks' := 28 + 7) (by omega) (by omega) ?_
  refine v_newaN (kc := 4) (ks := 28) (nn := 7) C0 cokX2_init rfl ac_int (n := (7 : Int32)) rfl (by decide) (by decide) hf (fun σ13 h13 a_13 t13 u13 hf => ?_)
  refine v_putrN C0 tbX2 cokX2_init rfl (ci := 2) (k := 6) rfl rfl (Or.inr ⟨rfl, hnm, rfl⟩) (q_kp u13 (q_ks u12 (q_kp u11 (q_ks u10 (q_kp u9 (q_ks u8 (q_kp u7 (q_ks u6 (q_kp u5 (q_ks u4 (q_kp u3 (q_ks u2 (q_kp u1 ta0))))))))))))) (q_tn t13) hf (fun σ14 u14 hf => ?_)
  refine v_run C0 tbX2 cokX2_init (pc' := 64) (lv' := [(0, .ref a0)]) (st' := [.int (7 : Int32), .ref a0]) (h' := h13) 2 rfl trivial ?_
  refine v_less (kc' := 3 + 1) (ks' := 21 + 7) (by omega) (by omega) ?_
  refine v_newaN (kc := 3) (ks := 21) (nn := 7) C0 cokX2_init rfl ac_int (n := (7 : Int32)) rfl (by decide) (by decide) hf (fun σ15 h15 a_15 t15 u15 hf => ?_)
  refine v_putrN C0 tbX2 cokX2_init rfl (ci := 2) (k := 7) rfl rfl (Or.inr ⟨rfl, hnm, rfl⟩) (q_kp u15 (q_ks u14 (q_kp u13 (q_ks u12 (q_kp u11 (q_ks u10 (q_kp u9 (q_ks u8 (q_kp u7 (q_ks u6 (q_kp u5 (q_ks u4 (q_kp u3 (q_ks u2 (q_kp u1 ta0))))))))))))))) (q_tn t15) hf (fun σ16 u16 hf => ?_)
  refine v_run C0 tbX2 cokX2_init (pc' := 72) (lv' := [(0, .ref a0)]) (st' := [.int (7 : Int32), .ref a0]) (h' := h15) 2 rfl trivial ?_
  refine v_less (kc' := 2 + 1) (ks' := 14 + 7) (by omega) (by omega) ?_
  refine v_newaN (kc := 2) (ks := 14) (nn := 7) C0 cokX2_init rfl ac_int (n := (7 : Int32)) rfl (by decide) (by decide) hf (fun σ17 h17 a_17 t17 u17 hf => ?_)
  refine v_putrN C0 tbX2 cokX2_init rfl (ci := 2) (k := 8) rfl rfl (Or.inr ⟨rfl, hnm, rfl⟩) (q_kp u17 (q_ks u16 (q_kp u15 (q_ks u14 (q_kp u13 (q_ks u12 (q_kp u11 (q_ks u10 (q_kp u9 (q_ks u8 (q_kp u7 (q_ks u6 (q_kp u5 (q_ks u4 (q_kp u3 (q_ks u2 (q_kp u1 ta0))))))))))))))))) (q_tn t17) hf (fun σ18 u18 hf => ?_)
  refine v_run C0 tbX2 cokX2_init (pc' := 80) (lv' := [(0, .ref a0)]) (st' := [.int (7 : Int32), .ref a0]) (h' := h17) 2 rfl trivial ?_
  refine v_less (kc' := 1 + 1) (ks' := 7 + 7) (by omega) (by omega) ?_
  refine v_newaN (kc := 1) (ks := 7) (nn := 7) C0 cokX2_init rfl ac_int (n := (7 : Int32)) rfl (by decide) (by decide) hf (fun σ19 h19 a_19 t19 u19 hf => ?_)
  refine v_putrN C0 tbX2 cokX2_init rfl (ci := 2) (k := 9) rfl rfl (Or.inr ⟨rfl, hnm, rfl⟩) (q_kp u19 (q_ks u18 (q_kp u17 (q_ks u16 (q_kp u15 (q_ks u14 (q_kp u13 (q_ks u12 (q_kp u11 (q_ks u10 (q_kp u9 (q_ks u8 (q_kp u7 (q_ks u6 (q_kp u5 (q_ks u4 (q_kp u3 (q_ks u2 (q_kp u1 ta0))))))))))))))))))) (q_tn t19) hf (fun σ20 u20 hf => ?_)
  refine v_run C0 tbX2 cokX2_init (pc' := 86) (lv' := [(0, .ref a0)]) (st' := [.ref a0]) (h' := h19) 1 rfl trivial ?_
  refine v_less (kc' := 0 + 1) (ks' := 0 + 7) (by omega) (by omega) ?_
  refine v_newN (kc := 0) (ks := 0) (nn := 7) (ci := 3) C0 cokX2_init rfl (by decide) nwcX2_9 nwiX3 nwnX3 rfl hf (fun σ21 h21 a_21 t21 u21 hf => ?_)
  refine v_run C0 tbX2 cokX2_init (pc' := 92) (lv' := [(0, .ref a0)]) (st' := [.int (0 : Int32), .int (0 : Int32), .ref a_21, .ref a_21, .ref a0]) (h' := h21) 3 rfl trivial ?_
  obtain ⟨h22, e22, hf⟩ := q_bd hf
  refine v_callI C0 cokX2_init rfl (rest := [.ref a_21, .ref a0]) (ctX3_init a_21 (0 : Int32) (0 : Int32) t21 e22) calX3_init rfl lkX2_45 inX3_init dnX3_init rfl rfl ⟨by decide, by decide⟩ (Nat.le_of_ble_eq_true rfl) (Nat.le_refl _) (Nat.le_refl _) ?_
  refine v_putrN C0 tbX2 cokX2_init rfl (ci := 2) (k := 10) rfl rfl (Or.inr ⟨rfl, hnm, rfl⟩) (q_kp u21 (q_ks u20 (q_kp u19 (q_ks u18 (q_kp u17 (q_ks u16 (q_kp u15 (q_ks u14 (q_kp u13 (q_ks u12 (q_kp u11 (q_ks u10 (q_kp u9 (q_ks u8 (q_kp u7 (q_ks u6 (q_kp u5 (q_ks u4 (q_kp u3 (q_ks u2 (q_kp u1 ta0))))))))))))))))))))) (q_tn t21) hf (fun σ23 u23 hf => ?_)
  refine v_run C0 tbX2 cokX2_init (pc' := 118) (lv' := [(0, .ref a0)]) (st' := []) (h' := (q_si (q_si (q_si (q_si h22 a0 11 (0 : Int32)) a0 12 (0 : Int32)) a0 13 (0 : Int32)) a0 14 (0 : Int32))) 12 rfl ⟨(q_ks u23 (q_kp u21 (q_ks u20 (q_kp u19 (q_ks u18 (q_kp u17 (q_ks u16 (q_kp u15 (q_ks u14 (q_kp u13 (q_ks u12 (q_kp u11 (q_ks u10 (q_kp u9 (q_ks u8 (q_kp u7 (q_ks u6 (q_kp u5 (q_ks u4 (q_kp u3 (q_ks u2 (q_kp u1 ta0)))))))))))))))))))))), (q_ks u23 (q_kp u21 (q_ks u20 (q_kp u19 (q_ks u18 (q_kp u17 (q_ks u16 (q_kp u15 (q_ks u14 (q_kp u13 (q_ks u12 (q_kp u11 (q_ks u10 (q_kp u9 (q_ks u8 (q_kp u7 (q_ks u6 (q_kp u5 (q_ks u4 (q_kp u3 (q_ks u2 (q_kp u1 ta0)))))))))))))))))))))), (q_ks u23 (q_kp u21 (q_ks u20 (q_kp u19 (q_ks u18 (q_kp u17 (q_ks u16 (q_kp u15 (q_ks u14 (q_kp u13 (q_ks u12 (q_kp u11 (q_ks u10 (q_kp u9 (q_ks u8 (q_kp u7 (q_ks u6 (q_kp u5 (q_ks u4 (q_kp u3 (q_ks u2 (q_kp u1 ta0)))))))))))))))))))))), (q_ks u23 (q_kp u21 (q_ks u20 (q_kp u19 (q_ks u18 (q_kp u17 (q_ks u16 (q_kp u15 (q_ks u14 (q_kp u13 (q_ks u12 (q_kp u11 (q_ks u10 (q_kp u9 (q_ks u8 (q_kp u7 (q_ks u6 (q_kp u5 (q_ks u4 (q_kp u3 (q_ks u2 (q_kp u1 ta0)))))))))))))))))))))), trivial⟩ ?_
  obtain ⟨rfl, rfl⟩ := Prod.mk.inj (Option.some.inj hf)
  exact v_vret C0 cokX2_init hr hlk rfl
