-- BackByNoonOnMonday$Fitting.<init>()V
noncomputable def fX0_init (σ : q_St) (h : q_Hp) (a0 : Nat) : Option (q_St × q_Hp) := (q_al σ h 7 8 fun σ1 h1 a_1 => (q_lr σ1 a0 0 a_1 fun σ2 => (q_al σ2 h1 7 8 fun σ3 h3 a_3 => (q_lr σ3 a0 1 a_3 fun σ4 => (q_al σ4 h3 7 8 fun σ5 h5 a_5 => (q_lr σ5 a0 2 a_5 fun σ6 => (q_al σ6 h5 7 8 fun σ7 h7 a_7 => (q_lr σ7 a0 3 a_7 fun σ8 => (q_al σ8 h7 7 8 fun σ9 h9 a_9 => (q_lr σ9 a0 4 a_9 fun σ10 => (q_al σ10 h9 7 8 fun σ11 h11 a_11 => (q_lr σ11 a0 5 a_11 fun σ12 => (q_al σ12 h11 7 7 fun σ13 h13 a_13 => (q_lr σ13 a0 6 a_13 fun σ14 => (q_al σ14 h13 7 7 fun σ15 h15 a_15 => (q_lr σ15 a0 7 a_15 fun σ16 => (q_al σ16 h15 7 7 fun σ17 h17 a_17 => (q_lr σ17 a0 8 a_17 fun σ18 => some (σ18, (q_si (q_si h17 a0 9 (0 : Int32)) a0 10 (0 : Int32)))))))))))))))))))))
def cdX0_init : q_Cd := [(0, .aload_n 0), (1, .invokespecial 3), (4, .aload_n 0), (5, .bipush 8), (7, .newarray .int), (9, .putfield 9), (12, .aload_n 0), (13, .bipush 8), (15, .newarray .int), (17, .putfield 15), (20, .aload_n 0), (21, .bipush 8), (23, .newarray .int), (25, .putfield 18), (28, .aload_n 0), (29, .bipush 8), (31, .newarray .int), (33, .putfield 21), (36, .aload_n 0), (37, .bipush 8), (39, .newarray .int), (41, .putfield 24), (44, .aload_n 0), (45, .bipush 8), (47, .newarray .int), (49, .putfield 27), (52, .aload_n 0), (53, .bipush 7), (55, .newarray .int), (57, .putfield 30), (60, .aload_n 0), (61, .bipush 7), (63, .newarray .int), (65, .putfield 33), (68, .aload_n 0), (69, .bipush 7), (71, .newarray .int), (73, .putfield 36), (76, .aload_n 0), (77, .iconst 0), (78, .putfield 39), (81, .aload_n 0), (82, .iconst 0), (83, .putfield 43), (86, .return_)]
set_option maxRecDepth 100000 in
theorem cokX0_init : q_cok cX0_init cdX0_init := by unfold q_cok; decide +kernel
set_option maxRecDepth 100000 in
set_option maxHeartbeats 4000000 in
theorem ctX0_init {l : Launch} {D : va_G} {cy : Nat → Nat} {b0 : Nat} {σ : q_St} {h : q_Hp} (a0 : Nat) {σ' : q_St} {h' : q_Hp} (ta0 : q_tag σ a0 = 1) (hf : fX0_init σ h a0 = some (σ', h')) : q_M l yX0_init cX0_init 1 none 1 20 9 69 D cy b0 σ h [.ref a0] none σ' h' := by
  unfold fX0_init at hf
  refine q_enter (by decide) (Nat.le_of_ble_eq_true rfl) ?_
  intro p e s m args below meth c C0 hr hlk hnm
  replace C0 : VC p { frames := 1, cells := 9, slots := 69, locals := 20 } s m args meth c D cy b0 1 9 69 RX0 cX0_init := C0
  refine v_run C0 tbX0 cokX0_init (pc' := 1) (lv' := [(0, .ref a0)]) (st' := [.ref a0]) (h' := h) 1 rfl trivial ?_
  refine v_obj C0 cokX0_init rfl objX0 (by decide) (by decide) (Nat.le_of_ble_eq_true rfl) ?_
  refine v_run C0 tbX0 cokX0_init (pc' := 7) (lv' := [(0, .ref a0)]) (st' := [.int (8 : Int32), .ref a0]) (h' := h) 2 rfl trivial ?_
  refine v_less (kc' := 8 + 1) (ks' := 61 + 8) (by omega) (by omega) ?_
  refine v_newaN (kc := 8) (ks := 61) (nn := 8) C0 cokX0_init rfl ac_int (n := (8 : Int32)) rfl (by decide) (by decide) hf (fun σ1 h1 a_1 t1 u1 hf => ?_)
  refine v_putrN C0 tbX0 cokX0_init rfl (ci := 0) (k := 0) rfl rfl (Or.inr ⟨rfl, hnm, rfl⟩) (q_kp u1 ta0) (q_tn t1) hf (fun σ2 u2 hf => ?_)
  refine v_run C0 tbX0 cokX0_init (pc' := 15) (lv' := [(0, .ref a0)]) (st' := [.int (8 : Int32), .ref a0]) (h' := h1) 2 rfl trivial ?_
  refine v_less (kc' := 7 + 1) (ks' := 53 + 8) (by omega) (by omega) ?_
  refine v_newaN (kc := 7) (ks := 53) (nn := 8) C0 cokX0_init rfl ac_int (n := (8 : Int32)) rfl (by decide) (by decide) hf (fun σ3 h3 a_3 t3 u3 hf => ?_)
  refine v_putrN C0 tbX0 cokX0_init rfl (ci := 0) (k := 1) rfl rfl (Or.inr ⟨rfl, hnm, rfl⟩) (q_kp u3 (q_ks u2 (q_kp u1 ta0))) (q_tn t3) hf (fun σ4 u4 hf => ?_)
  refine v_run C0 tbX0 cokX0_init (pc' := 23) (lv' := [(0, .ref a0)]) (st' := [.int (8 : Int32), .ref a0]) (h' := h3) 2 rfl trivial ?_
  refine v_less (kc' := 6 + 1) (ks' := 45 + 8) (by omega) (by omega) ?_
  refine v_newaN (kc := 6) (ks := 45) (nn := 8) C0 cokX0_init rfl ac_int (n := (8 : Int32)) rfl (by decide) (by decide) hf (fun σ5 h5 a_5 t5 u5 hf => ?_)
  refine v_putrN C0 tbX0 cokX0_init rfl (ci := 0) (k := 2) rfl rfl (Or.inr ⟨rfl, hnm, rfl⟩) (q_kp u5 (q_ks u4 (q_kp u3 (q_ks u2 (q_kp u1 ta0))))) (q_tn t5) hf (fun σ6 u6 hf => ?_)
  refine v_run C0 tbX0 cokX0_init (pc' := 31) (lv' := [(0, .ref a0)]) (st' := [.int (8 : Int32), .ref a0]) (h' := h5) 2 rfl trivial ?_
  refine v_less (kc' := 5 + 1) (ks' := 37 + 8) (by omega) (by omega) ?_
  refine v_newaN (kc := 5) (ks := 37) (nn := 8) C0 cokX0_init rfl ac_int (n := (8 : Int32)) rfl (by decide) (by decide) hf (fun σ7 h7 a_7 t7 u7 hf => ?_)
  refine v_putrN C0 tbX0 cokX0_init rfl (ci := 0) (k := 3) rfl rfl (Or.inr ⟨rfl, hnm, rfl⟩) (q_kp u7 (q_ks u6 (q_kp u5 (q_ks u4 (q_kp u3 (q_ks u2 (q_kp u1 ta0))))))) (q_tn t7) hf (fun σ8 u8 hf => ?_)
  refine v_run C0 tbX0 cokX0_init (pc' := 39) (lv' := [(0, .ref a0)]) (st' := [.int (8 : Int32), .ref a0]) (h' := h7) 2 rfl trivial ?_
  refine v_less (kc' := 4 + 1) (ks' := 29 + 8) (by omega) (by omega) ?_
  refine v_newaN (kc := 4) (ks := 29) (nn := 8) C0 cokX0_init rfl ac_int (n := (8 : Int32)) rfl (by decide) (by decide) hf (fun σ9 h9 a_9 t9 u9 hf => ?_)
  refine v_putrN C0 tbX0 cokX0_init rfl (ci := 0) (k := 4) rfl rfl (Or.inr ⟨rfl, hnm, rfl⟩) (q_kp u9 (q_ks u8 (q_kp u7 (q_ks u6 (q_kp u5 (q_ks u4 (q_kp u3 (q_ks u2 (q_kp u1 ta0))))))))) (q_tn t9) hf (fun σ10 u10 hf => ?_)
  refine v_run C0 tbX0 cokX0_init (pc' := 47) (lv' := [(0, .ref a0)]) (st' := [.int (8 : Int32), .ref a0]) (h' := h9) 2 rfl trivial ?_
  refine v_less (kc' := 3 + 1) (ks' := 21 + 8) (by omega) (by omega) ?_
  refine v_newaN (kc := 3) (ks := 21) (nn := 8) C0 cokX0_init rfl ac_int (n := (8 : Int32)) rfl (by decide) (by decide) hf (fun σ11 h11 a_11 t11 u11 hf => ?_)
  refine v_putrN C0 tbX0 cokX0_init rfl (ci := 0) (k := 5) rfl rfl (Or.inr ⟨rfl, hnm, rfl⟩) (q_kp u11 (q_ks u10 (q_kp u9 (q_ks u8 (q_kp u7 (q_ks u6 (q_kp u5 (q_ks u4 (q_kp u3 (q_ks u2 (q_kp u1 ta0))))))))))) (q_tn t11) hf (fun σ12 u12 hf => ?_)
  refine v_run C0 tbX0 cokX0_init (pc' := 55) (lv' := [(0, .ref a0)]) (st' := [.int (7 : Int32), .ref a0]) (h' := h11) 2 rfl trivial ?_
  refine v_less (kc' := 2 + 1) (ks' := 14 + 7) (by omega) (by omega) ?_
  refine v_newaN (kc := 2) (ks := 14) (nn := 7) C0 cokX0_init rfl ac_int (n := (7 : Int32)) rfl (by decide) (by decide) hf (fun σ13 h13 a_13 t13 u13 hf => ?_)
  refine v_putrN C0 tbX0 cokX0_init rfl (ci := 0) (k := 6) rfl rfl (Or.inr ⟨rfl, hnm, rfl⟩) (q_kp u13 (q_ks u12 (q_kp u11 (q_ks u10 (q_kp u9 (q_ks u8 (q_kp u7 (q_ks u6 (q_kp u5 (q_ks u4 (q_kp u3 (q_ks u2 (q_kp u1 ta0))))))))))))) (q_tn t13) hf (fun σ14 u14 hf => ?_)
  refine v_run C0 tbX0 cokX0_init (pc' := 63) (lv' := [(0, .ref a0)]) (st' := [.int (7 : Int32), .ref a0]) (h' := h13) 2 rfl trivial ?_
  refine v_less (kc' := 1 + 1) (ks' := 7 + 7) (by omega) (by omega) ?_
  refine v_newaN (kc := 1) (ks := 7) (nn := 7) C0 cokX0_init rfl ac_int (n := (7 : Int32)) rfl (by decide) (by decide) hf (fun σ15 h15 a_15 t15 u15 hf => ?_)
  refine v_putrN C0 tbX0 cokX0_init rfl (ci := 0) (k := 7) rfl rfl (Or.inr ⟨rfl, hnm, rfl⟩) (q_kp u15 (q_ks u14 (q_kp u13 (q_ks u12 (q_kp u11 (q_ks u10 (q_kp u9 (q_ks u8 (q_kp u7 (q_ks u6 (q_kp u5 (q_ks u4 (q_kp u3 (q_ks u2 (q_kp u1 ta0))))))))))))))) (q_tn t15) hf (fun σ16 u16 hf => ?_)
  refine v_run C0 tbX0 cokX0_init (pc' := 71) (lv' := [(0, .ref a0)]) (st' := [.int (7 : Int32), .ref a0]) (h' := h15) 2 rfl trivial ?_
  refine v_less (kc' := 0 + 1) (ks' := 0 + 7) (by omega) (by omega) ?_
  refine v_newaN (kc := 0) (ks := 0) (nn := 7) C0 cokX0_init rfl ac_int (n := (7 : Int32)) rfl (by decide) (by decide) hf (fun σ17 h17 a_17 t17 u17 hf => ?_)
  refine v_putrN C0 tbX0 cokX0_init rfl (ci := 0) (k := 8) rfl rfl (Or.inr ⟨rfl, hnm, rfl⟩) (q_kp u17 (q_ks u16 (q_kp u15 (q_ks u14 (q_kp u13 (q_ks u12 (q_kp u11 (q_ks u10 (q_kp u9 (q_ks u8 (q_kp u7 (q_ks u6 (q_kp u5 (q_ks u4 (q_kp u3 (q_ks u2 (q_kp u1 ta0))))))))))))))))) (q_tn t17) hf (fun σ18 u18 hf => ?_)
  refine v_run C0 tbX0 cokX0_init (pc' := 86) (lv' := [(0, .ref a0)]) (st' := []) (h' := (q_si (q_si h17 a0 9 (0 : Int32)) a0 10 (0 : Int32))) 6 rfl ⟨(q_ks u18 (q_kp u17 (q_ks u16 (q_kp u15 (q_ks u14 (q_kp u13 (q_ks u12 (q_kp u11 (q_ks u10 (q_kp u9 (q_ks u8 (q_kp u7 (q_ks u6 (q_kp u5 (q_ks u4 (q_kp u3 (q_ks u2 (q_kp u1 ta0)))))))))))))))))), (q_ks u18 (q_kp u17 (q_ks u16 (q_kp u15 (q_ks u14 (q_kp u13 (q_ks u12 (q_kp u11 (q_ks u10 (q_kp u9 (q_ks u8 (q_kp u7 (q_ks u6 (q_kp u5 (q_ks u4 (q_kp u3 (q_ks u2 (q_kp u1 ta0)))))))))))))))))), trivial⟩ ?_
  obtain ⟨rfl, rfl⟩ := Prod.mk.inj (Option.some.inj hf)
  exact v_vret C0 cokX0_init hr hlk rfl
-- BackByNoonOnMonday$Shelf.<init>()V
noncomputable def fX1_init (σ : q_St) (h : q_Hp) (a0 : Nat) : Option (q_St × q_Hp) := (q_al σ h 7 100 fun σ1 h1 a_1 => (q_lr σ1 a0 0 a_1 fun σ2 => (q_al σ2 (q_si h1 a0 1 (0 : Int32)) 4 0 fun σ3 h3 a_3 => ((fX3_init σ3 h3 a_3 (0 : Int32) (0 : Int32)).bind fun h4 => (q_lr σ3 a0 2 a_3 fun σ5 => some (σ5, (q_si (q_si h4 a0 3 (0 : Int32)) a0 4 (0 : Int32))))))))
def cdX1_init : q_Cd := [(0, .aload_n 0), (1, .invokespecial 3), (4, .aload_n 0), (5, .bipush 100), (7, .newarray .int), (9, .putfield 9), (12, .aload_n 0), (13, .iconst 0), (14, .putfield 15), (17, .aload_n 0), (18, .new 19), (21, .dup), (22, .iconst 0), (23, .iconst 0), (24, .invokespecial 21), (27, .putfield 24), (30, .aload_n 0), (31, .iconst 0), (32, .putfield 28), (35, .aload_n 0), (36, .iconst 0), (37, .putfield 31), (40, .return_)]
set_option maxRecDepth 100000 in
theorem cokX1_init : q_cok cX1_init cdX1_init := by unfold q_cok; decide +kernel
set_option maxRecDepth 100000 in
set_option maxHeartbeats 4000000 in
theorem ctX1_init {l : Launch} {D : va_G} {cy : Nat → Nat} {b0 : Nat} {σ : q_St} {h : q_Hp} (a0 : Nat) {σ' : q_St} {h' : q_Hp} (ta0 : q_tag σ a0 = 2) (hf : fX1_init σ h a0 = some (σ', h')) : q_M l yX1_init cX1_init 1 none 2 47 2 107 D cy b0 σ h [.ref a0] none σ' h' := by
  unfold fX1_init at hf
  refine q_enter (by decide) (Nat.le_of_ble_eq_true rfl) ?_
  intro p e s m args below meth c C0 hr hlk hnm
  replace C0 : VC p { frames := 2, cells := 2, slots := 107, locals := 47 } s m args meth c D cy b0 1 2 107 RX1 cX1_init := C0
  refine v_run C0 tbX1 cokX1_init (pc' := 1) (lv' := [(0, .ref a0)]) (st' := [.ref a0]) (h' := h) 1 rfl trivial ?_
  refine v_obj C0 cokX1_init rfl objX1 (by decide) (by decide) (Nat.le_of_ble_eq_true rfl) ?_
  refine v_run C0 tbX1 cokX1_init (pc' := 7) (lv' := [(0, .ref a0)]) (st' := [.int (100 : Int32), .ref a0]) (h' := h) 2 rfl trivial ?_
  refine v_less (kc' := 1 + 1) (ks' := 7 + 100) (by omega) (by omega) ?_
  refine v_newaN (kc := 1) (ks := 7) (nn := 100) C0 cokX1_init rfl ac_int (n := (100 : Int32)) rfl (by decide) (by decide) hf (fun σ1 h1 a_1 t1 u1 hf => ?_)
  refine v_putrN C0 tbX1 cokX1_init rfl (ci := 1) (k := 0) rfl rfl (Or.inr ⟨rfl, hnm, rfl⟩) (q_kp u1 ta0) (q_tn t1) hf (fun σ2 u2 hf => ?_)
  refine v_run C0 tbX1 cokX1_init (pc' := 18) (lv' := [(0, .ref a0)]) (st' := [.ref a0]) (h' := (q_si h1 a0 1 (0 : Int32))) 4 rfl ⟨(q_ks u2 (q_kp u1 ta0)), trivial⟩ ?_
  refine v_less (kc' := 0 + 1) (ks' := 0 + 7) (by omega) (by omega) ?_
  refine v_newN (kc := 0) (ks := 0) (nn := 7) (ci := 3) C0 cokX1_init rfl (by decide) nwcX1_19 nwiX3 nwnX3 rfl hf (fun σ3 h3 a_3 t3 u3 hf => ?_)
  refine v_run C0 tbX1 cokX1_init (pc' := 24) (lv' := [(0, .ref a0)]) (st' := [.int (0 : Int32), .int (0 : Int32), .ref a_3, .ref a_3, .ref a0]) (h' := h3) 3 rfl trivial ?_
  obtain ⟨h4, e4, hf⟩ := q_bd hf
  refine v_callI C0 cokX1_init rfl (rest := [.ref a_3, .ref a0]) (ctX3_init a_3 (0 : Int32) (0 : Int32) t3 e4) calX3_init rfl lkX1_21 inX3_init dnX3_init rfl rfl ⟨by decide, by decide⟩ (Nat.le_of_ble_eq_true rfl) (Nat.le_refl _) (Nat.le_refl _) ?_
  refine v_putrN C0 tbX1 cokX1_init rfl (ci := 1) (k := 2) rfl rfl (Or.inl rfl) (q_kp u3 (q_ks u2 (q_kp u1 ta0))) (q_tn t3) hf (fun σ5 u5 hf => ?_)
  refine v_run C0 tbX1 cokX1_init (pc' := 40) (lv' := [(0, .ref a0)]) (st' := []) (h' := (q_si (q_si h4 a0 3 (0 : Int32)) a0 4 (0 : Int32))) 6 rfl ⟨(q_ks u5 (q_kp u3 (q_ks u2 (q_kp u1 ta0)))), (q_ks u5 (q_kp u3 (q_ks u2 (q_kp u1 ta0)))), trivial⟩ ?_
  obtain ⟨rfl, rfl⟩ := Prod.mk.inj (Option.some.inj hf)
  exact v_vret C0 cokX1_init hr hlk rfl
-- BackByNoonOnMonday$Shop.<init>()V
noncomputable def fX2_init (σ : q_St) (h : q_Hp) (a0 : Nat) : Option (q_St × q_Hp) := (q_al σ h 10 7 fun σ1 h1 a_1 => (q_lr σ1 a0 0 a_1 fun σ2 => (q_al σ2 h1 7 7 fun σ3 h3 a_3 => (q_lr σ3 a0 1 a_3 fun σ4 => (q_al σ4 h3 7 7 fun σ5 h5 a_5 => (q_lr σ5 a0 2 a_5 fun σ6 => (q_al σ6 h5 7 7 fun σ7 h7 a_7 => (q_lr σ7 a0 3 a_7 fun σ8 => (q_al σ8 h7 7 7 fun σ9 h9 a_9 => (q_lr σ9 a0 4 a_9 fun σ10 => (q_al σ10 h9 7 7 fun σ11 h11 a_11 => (q_lr σ11 a0 5 a_11 fun σ12 => (q_al σ12 h11 7 7 fun σ13 h13 a_13 => (q_lr σ13 a0 6 a_13 fun σ14 => (q_al σ14 h13 7 7 fun σ15 h15 a_15 => (q_lr σ15 a0 7 a_15 fun σ16 => (q_al σ16 h15 7 7 fun σ17 h17 a_17 => (q_lr σ17 a0 8 a_17 fun σ18 => (q_al σ18 h17 7 7 fun σ19 h19 a_19 => (q_lr σ19 a0 9 a_19 fun σ20 => (q_al σ20 h19 4 0 fun σ21 h21 a_21 => ((fX3_init σ21 h21 a_21 (0 : Int32) (0 : Int32)).bind fun h22 => (q_lr σ21 a0 10 a_21 fun σ23 => some (σ23, (q_si (q_si (q_si (q_si h22 a0 11 (0 : Int32)) a0 12 (0 : Int32)) a0 13 (0 : Int32)) a0 14 (0 : Int32))))))))))))))))))))))))))
def cdX2_init : q_Cd := [(0, .aload_n 0), (1, .invokespecial 3), (4, .aload_n 0), (5, .bipush 7), (7, .anewarray 9), (10, .putfield 11), (13, .aload_n 0), (14, .bipush 7), (16, .newarray .int), (18, .putfield 17), (21, .aload_n 0), (22, .bipush 7), (24, .newarray .int), (26, .putfield 21), (29, .aload_n 0), (30, .bipush 7), (32, .newarray .int), (34, .putfield 24), (37, .aload_n 0), (38, .bipush 7), (40, .newarray .int), (42, .putfield 27), (45, .aload_n 0), (46, .bipush 7), (48, .newarray .int), (50, .putfield 30), (53, .aload_n 0), (54, .bipush 7), (56, .newarray .int), (58, .putfield 33), (61, .aload_n 0), (62, .bipush 7), (64, .newarray .int), (66, .putfield 36), (69, .aload_n 0), (70, .bipush 7), (72, .newarray .int), (74, .putfield 39), (77, .aload_n 0), (78, .bipush 7), (80, .newarray .int), (82, .putfield 42), (85, .aload_n 0), (86, .new 9), (89, .dup), (90, .iconst 0), (91, .iconst 0), (92, .invokespecial 45), (95, .putfield 48), (98, .aload_n 0), (99, .iconst 0), (100, .putfield 52), (103, .aload_n 0), (104, .iconst 0), (105, .putfield 56), (108, .aload_n 0), (109, .iconst 0), (110, .putfield 59), (113, .aload_n 0), (114, .iconst 0), (115, .putfield 62), (118, .return_)]
set_option maxRecDepth 100000 in
theorem cokX2_init : q_cok cX2_init cdX2_init := by unfold q_cok; decide +kernel
set_option maxRecDepth 100000 in
set_option maxHeartbeats 4000000 in
theorem ctX2_init {l : Launch} {D : va_G} {cy : Nat → Nat} {b0 : Nat} {σ : q_St} {h : q_Hp} (a0 : Nat) {σ' : q_St} {h' : q_Hp} (ta0 : q_tag σ a0 = 3) (hf : fX2_init σ h a0 = some (σ', h')) : q_M l yX2_init cX2_init 1 none 2 47 11 77 D cy b0 σ h [.ref a0] none σ' h' := by
  unfold fX2_init at hf
  refine q_enter (by decide) (Nat.le_of_ble_eq_true rfl) ?_
  intro p e s m args below meth c C0 hr hlk hnm
  replace C0 : VC p { frames := 2, cells := 11, slots := 77, locals := 47 } s m args meth c D cy b0 1 11 77 RX2 cX2_init := C0
  refine v_run C0 tbX2 cokX2_init (pc' := 1) (lv' := [(0, .ref a0)]) (st' := [.ref a0]) (h' := h) 1 rfl trivial ?_
  refine v_obj C0 cokX2_init rfl objX2 (by decide) (by decide) (Nat.le_of_ble_eq_true rfl) ?_
  refine v_run C0 tbX2 cokX2_init (pc' := 7) (lv' := [(0, .ref a0)]) (st' := [.int (7 : Int32), .ref a0]) (h' := h) 2 rfl trivial ?_
  refine v_less (kc' := 10 + 1) (ks' := 70 + 7) (by omega) (by omega) ?_
  refine v_newqN (kc := 10) (ks := 70) (nn := 7) C0 cokX2_init rfl (k := 1) (by decide) rfl awcX2_9 (n := (7 : Int32)) rfl (by decide) (by decide) hf (fun σ1 h1 a_1 t1 u1 hf => ?_)
  refine v_putrN C0 tbX2 cokX2_init rfl (ci := 2) (k := 0) rfl rfl (Or.inr ⟨rfl, hnm, rfl⟩) (q_kp u1 ta0) (q_tn t1) hf (fun σ2 u2 hf => ?_)
  refine v_run C0 tbX2 cokX2_init (pc' := 16) (lv' := [(0, .ref a0)]) (st' := [.int (7 : Int32), .ref a0]) (h' := h1) 2 rfl trivial ?_
  refine v_less (kc' := 9 + 1) (ks' := 63 + 7) (by omega) (by omega) ?_
  refine v_newaN (kc := 9) (ks := 63) (nn := 7) C0 cokX2_init rfl ac_int (n := (7 : Int32)) rfl (by decide) (by decide) hf (fun σ3 h3 a_3 t3 u3 hf => ?_)
  refine v_putrN C0 tbX2 cokX2_init rfl (ci := 2) (k := 1) rfl rfl (Or.inr ⟨rfl, hnm, rfl⟩) (q_kp u3 (q_ks u2 (q_kp u1 ta0))) (q_tn t3) hf (fun σ4 u4 hf => ?_)
  refine v_run C0 tbX2 cokX2_init (pc' := 24) (lv' := [(0, .ref a0)]) (st' := [.int (7 : Int32), .ref a0]) (h' := h3) 2 rfl trivial ?_
  refine v_less (kc' := 8 + 1) (ks' := 56 + 7) (by omega) (by omega) ?_
  refine v_newaN (kc := 8) (ks := 56) (nn := 7) C0 cokX2_init rfl ac_int (n := (7 : Int32)) rfl (by decide) (by decide) hf (fun σ5 h5 a_5 t5 u5 hf => ?_)
  refine v_putrN C0 tbX2 cokX2_init rfl (ci := 2) (k := 2) rfl rfl (Or.inr ⟨rfl, hnm, rfl⟩) (q_kp u5 (q_ks u4 (q_kp u3 (q_ks u2 (q_kp u1 ta0))))) (q_tn t5) hf (fun σ6 u6 hf => ?_)
  refine v_run C0 tbX2 cokX2_init (pc' := 32) (lv' := [(0, .ref a0)]) (st' := [.int (7 : Int32), .ref a0]) (h' := h5) 2 rfl trivial ?_
  refine v_less (kc' := 7 + 1) (ks' := 49 + 7) (by omega) (by omega) ?_
  refine v_newaN (kc := 7) (ks := 49) (nn := 7) C0 cokX2_init rfl ac_int (n := (7 : Int32)) rfl (by decide) (by decide) hf (fun σ7 h7 a_7 t7 u7 hf => ?_)
  refine v_putrN C0 tbX2 cokX2_init rfl (ci := 2) (k := 3) rfl rfl (Or.inr ⟨rfl, hnm, rfl⟩) (q_kp u7 (q_ks u6 (q_kp u5 (q_ks u4 (q_kp u3 (q_ks u2 (q_kp u1 ta0))))))) (q_tn t7) hf (fun σ8 u8 hf => ?_)
  refine v_run C0 tbX2 cokX2_init (pc' := 40) (lv' := [(0, .ref a0)]) (st' := [.int (7 : Int32), .ref a0]) (h' := h7) 2 rfl trivial ?_
  refine v_less (kc' := 6 + 1) (ks' := 42 + 7) (by omega) (by omega) ?_
  refine v_newaN (kc := 6) (ks := 42) (nn := 7) C0 cokX2_init rfl ac_int (n := (7 : Int32)) rfl (by decide) (by decide) hf (fun σ9 h9 a_9 t9 u9 hf => ?_)
  refine v_putrN C0 tbX2 cokX2_init rfl (ci := 2) (k := 4) rfl rfl (Or.inr ⟨rfl, hnm, rfl⟩) (q_kp u9 (q_ks u8 (q_kp u7 (q_ks u6 (q_kp u5 (q_ks u4 (q_kp u3 (q_ks u2 (q_kp u1 ta0))))))))) (q_tn t9) hf (fun σ10 u10 hf => ?_)
  refine v_run C0 tbX2 cokX2_init (pc' := 48) (lv' := [(0, .ref a0)]) (st' := [.int (7 : Int32), .ref a0]) (h' := h9) 2 rfl trivial ?_
  refine v_less (kc' := 5 + 1) (ks' := 35 + 7) (by omega) (by omega) ?_
  refine v_newaN (kc := 5) (ks := 35) (nn := 7) C0 cokX2_init rfl ac_int (n := (7 : Int32)) rfl (by decide) (by decide) hf (fun σ11 h11 a_11 t11 u11 hf => ?_)
  refine v_putrN C0 tbX2 cokX2_init rfl (ci := 2) (k := 5) rfl rfl (Or.inr ⟨rfl, hnm, rfl⟩) (q_kp u11 (q_ks u10 (q_kp u9 (q_ks u8 (q_kp u7 (q_ks u6 (q_kp u5 (q_ks u4 (q_kp u3 (q_ks u2 (q_kp u1 ta0))))))))))) (q_tn t11) hf (fun σ12 u12 hf => ?_)
  refine v_run C0 tbX2 cokX2_init (pc' := 56) (lv' := [(0, .ref a0)]) (st' := [.int (7 : Int32), .ref a0]) (h' := h11) 2 rfl trivial ?_
  refine v_less (kc' := 4 + 1) (ks' := 28 + 7) (by omega) (by omega) ?_
  refine v_newaN (kc := 4) (ks := 28) (nn := 7) C0 cokX2_init rfl ac_int (n := (7 : Int32)) rfl (by decide) (by decide) hf (fun σ13 h13 a_13 t13 u13 hf => ?_)
  refine v_putrN C0 tbX2 cokX2_init rfl (ci := 2) (k := 6) rfl rfl (Or.inr ⟨rfl, hnm, rfl⟩) (q_kp u13 (q_ks u12 (q_kp u11 (q_ks u10 (q_kp u9 (q_ks u8 (q_kp u7 (q_ks u6 (q_kp u5 (q_ks u4 (q_kp u3 (q_ks u2 (q_kp u1 ta0))))))))))))) (q_tn t13) hf (fun σ14 u14 hf => ?_)
  refine v_run C0 tbX2 cokX2_init (pc' := 64) (lv' := [(0, .ref a0)]) (st' := [.int (7 : Int32), .ref a0]) (h' := h13) 2 rfl trivial ?_
  refine v_less (kc' := 3 + 1) (ks' := 21 + 7) (by omega) (by omega) ?_
  refine v_newaN (kc := 3) (ks := 21) (nn := 7) C0 cokX2_init rfl ac_int (n := (7 : Int32)) rfl (by decide) (by decide) hf (fun σ15 h15 a_15 t15 u15 hf => ?_)
  refine v_putrN C0 tbX2 cokX2_init rfl (ci := 2) (k := 7) rfl rfl (Or.inr ⟨rfl, hnm, rfl⟩) (q_kp u15 (q_ks u14 (q_kp u13 (q_ks u12 (q_kp u11 (q_ks u10 (q_kp u9 (q_ks u8 (q_kp u7 (q_ks u6 (q_kp u5 (q_ks u4 (q_kp u3 (q_ks u2 (q_kp u1 ta0))))))))))))))) (q_tn t15) hf (fun σ16 u16 hf => ?_)
  refine v_run C0 tbX2 cokX2_init (pc' := 72) (lv' := [(0, .ref a0)]) (st' := [.int (7 : Int32), .ref a0]) (h' := h15) 2 rfl trivial ?_
  refine v_less (kc' := 2 + 1) (ks' := 14 + 7) (by omega) (by omega) ?_
  refine v_newaN (kc := 2) (ks := 14) (nn := 7) C0 cokX2_init rfl ac_int (n := (7 : Int32)) rfl (by decide) (by decide) hf (fun σ17 h17 a_17 t17 u17 hf => ?_)
  refine v_putrN C0 tbX2 cokX2_init rfl (ci := 2) (k := 8) rfl rfl (Or.inr ⟨rfl, hnm, rfl⟩) (q_kp u17 (q_ks u16 (q_kp u15 (q_ks u14 (q_kp u13 (q_ks u12 (q_kp u11 (q_ks u10 (q_kp u9 (q_ks u8 (q_kp u7 (q_ks u6 (q_kp u5 (q_ks u4 (q_kp u3 (q_ks u2 (q_kp u1 ta0))))))))))))))))) (q_tn t17) hf (fun σ18 u18 hf => ?_)
  refine v_run C0 tbX2 cokX2_init (pc' := 80) (lv' := [(0, .ref a0)]) (st' := [.int (7 : Int32), .ref a0]) (h' := h17) 2 rfl trivial ?_
  refine v_less (kc' := 1 + 1) (ks' := 7 + 7) (by omega) (by omega) ?_
  refine v_newaN (kc := 1) (ks := 7) (nn := 7) C0 cokX2_init rfl ac_int (n := (7 : Int32)) rfl (by decide) (by decide) hf (fun σ19 h19 a_19 t19 u19 hf => ?_)
  refine v_putrN C0 tbX2 cokX2_init rfl (ci := 2) (k := 9) rfl rfl (Or.inr ⟨rfl, hnm, rfl⟩) (q_kp u19 (q_ks u18 (q_kp u17 (q_ks u16 (q_kp u15 (q_ks u14 (q_kp u13 (q_ks u12 (q_kp u11 (q_ks u10 (q_kp u9 (q_ks u8 (q_kp u7 (q_ks u6 (q_kp u5 (q_ks u4 (q_kp u3 (q_ks u2 (q_kp u1 ta0))))))))))))))))))) (q_tn t19) hf (fun σ20 u20 hf => ?_)
  refine v_run C0 tbX2 cokX2_init (pc' := 86) (lv' := [(0, .ref a0)]) (st' := [.ref a0]) (h' := h19) 1 rfl trivial ?_
  refine v_less (kc' := 0 + 1) (ks' := 0 + 7) (by omega) (by omega) ?_
  refine v_newN (kc := 0) (ks := 0) (nn := 7) (ci := 3) C0 cokX2_init rfl (by decide) nwcX2_9 nwiX3 nwnX3 rfl hf (fun σ21 h21 a_21 t21 u21 hf => ?_)
  refine v_run C0 tbX2 cokX2_init (pc' := 92) (lv' := [(0, .ref a0)]) (st' := [.int (0 : Int32), .int (0 : Int32), .ref a_21, .ref a_21, .ref a0]) (h' := h21) 3 rfl trivial ?_
  obtain ⟨h22, e22, hf⟩ := q_bd hf
  refine v_callI C0 cokX2_init rfl (rest := [.ref a_21, .ref a0]) (ctX3_init a_21 (0 : Int32) (0 : Int32) t21 e22) calX3_init rfl lkX2_45 inX3_init dnX3_init rfl rfl ⟨by decide, by decide⟩ (Nat.le_of_ble_eq_true rfl) (Nat.le_refl _) (Nat.le_refl _) ?_
  refine v_putrN C0 tbX2 cokX2_init rfl (ci := 2) (k := 10) rfl rfl (Or.inr ⟨rfl, hnm, rfl⟩) (q_kp u21 (q_ks u20 (q_kp u19 (q_ks u18 (q_kp u17 (q_ks u16 (q_kp u15 (q_ks u14 (q_kp u13 (q_ks u12 (q_kp u11 (q_ks u10 (q_kp u9 (q_ks u8 (q_kp u7 (q_ks u6 (q_kp u5 (q_ks u4 (q_kp u3 (q_ks u2 (q_kp u1 ta0))))))))))))))))))))) (q_tn t21) hf (fun σ23 u23 hf => ?_)
  refine v_run C0 tbX2 cokX2_init (pc' := 118) (lv' := [(0, .ref a0)]) (st' := []) (h' := (q_si (q_si (q_si (q_si h22 a0 11 (0 : Int32)) a0 12 (0 : Int32)) a0 13 (0 : Int32)) a0 14 (0 : Int32))) 12 rfl ⟨(q_ks u23 (q_kp u21 (q_ks u20 (q_kp u19 (q_ks u18 (q_kp u17 (q_ks u16 (q_kp u15 (q_ks u14 (q_kp u13 (q_ks u12 (q_kp u11 (q_ks u10 (q_kp u9 (q_ks u8 (q_kp u7 (q_ks u6 (q_kp u5 (q_ks u4 (q_kp u3 (q_ks u2 (q_kp u1 ta0)))))))))))))))))))))), (q_ks u23 (q_kp u21 (q_ks u20 (q_kp u19 (q_ks u18 (q_kp u17 (q_ks u16 (q_kp u15 (q_ks u14 (q_kp u13 (q_ks u12 (q_kp u11 (q_ks u10 (q_kp u9 (q_ks u8 (q_kp u7 (q_ks u6 (q_kp u5 (q_ks u4 (q_kp u3 (q_ks u2 (q_kp u1 ta0)))))))))))))))))))))), (q_ks u23 (q_kp u21 (q_ks u20 (q_kp u19 (q_ks u18 (q_kp u17 (q_ks u16 (q_kp u15 (q_ks u14 (q_kp u13 (q_ks u12 (q_kp u11 (q_ks u10 (q_kp u9 (q_ks u8 (q_kp u7 (q_ks u6 (q_kp u5 (q_ks u4 (q_kp u3 (q_ks u2 (q_kp u1 ta0)))))))))))))))))))))), (q_ks u23 (q_kp u21 (q_ks u20 (q_kp u19 (q_ks u18 (q_kp u17 (q_ks u16 (q_kp u15 (q_ks u14 (q_kp u13 (q_ks u12 (q_kp u11 (q_ks u10 (q_kp u9 (q_ks u8 (q_kp u7 (q_ks u6 (q_kp u5 (q_ks u4 (q_kp u3 (q_ks u2 (q_kp u1 ta0)))))))))))))))))))))), trivial⟩ ?_
  obtain ⟨rfl, rfl⟩ := Prod.mk.inj (Option.some.inj hf)
  exact v_vret C0 cokX2_init hr hlk rfl
-- BackByNoonOnMonday.<init>()V
noncomputable def fX4_init_121 (a0 : Nat) (x1 : Int32) (σ : q_St) (h : q_Hp) : Option ((Int32 × q_St × q_Hp) ⊕ (q_St × q_Hp)) := q_gu ((q_tag σ a0 = 5) ∧ (q_tag σ (q_ref σ a0 4) = 9)) ((if (Int32.ofNat (q_len σ (q_ref σ a0 4))) ≤ x1 then some (Sum.inr (σ, h)) else (q_al σ h 2 0 fun σ50 h50 a_50 => (q_b2 (fX1_init σ50 h50 a_50) fun σ51 h51 => q_gu ((q_tag σ51 (q_ref σ a0 4) = 9) ∧ (q_tag σ51 a_50 = 2) ∧ (vp_in x1 (q_len σ51 (q_ref σ a0 4)))) ((q_lr σ51 (q_ref σ a0 4) (Int32.toNatClampNeg x1) a_50 fun σ55 => some (Sum.inl ((x1 + (1 : Int32)), σ55, h51))))))))
noncomputable def fX4_init_151 (a0 : Nat) (x1 : Int32) (σ : q_St) (h : q_Hp) : Option ((Int32 × q_St × q_Hp) ⊕ (q_St × q_Hp)) := q_gu ((q_tag σ a0 = 5) ∧ (q_tag σ (q_ref σ a0 6) = 10)) ((if (Int32.ofNat (q_len σ (q_ref σ a0 6))) ≤ x1 then some (Sum.inr (σ, h)) else (q_al σ h 4 0 fun σ44 h44 a_44 => ((fX3_init σ44 h44 a_44 x1 (5 : Int32)).bind fun h45 => q_gu ((vp_in x1 (q_len σ44 (q_ref σ a0 6)))) ((q_lr σ44 (q_ref σ a0 6) (Int32.toNatClampNeg x1) a_44 fun σ47 => some (Sum.inl ((x1 + (1 : Int32)), σ47, h45))))))))
noncomputable def fX4_init (σ : q_St) (h : q_Hp) (a0 : Nat) : Option (q_St × q_Hp) := (q_al σ h 3 0 fun σ1 h1 a_1 => (q_b2 (fX2_init σ1 h1 a_1) fun σ2 h2 => q_gu ((q_tag σ2 a0 = 5) ∧ (q_tag σ2 a_1 = 3)) ((q_lr σ2 a0 0 a_1 fun σ5 => (q_al σ5 h2 3 0 fun σ6 h6 a_6 => (q_b2 (fX2_init σ6 h6 a_6) fun σ7 h7 => q_gu ((q_tag σ7 a0 = 5) ∧ (q_tag σ7 a_6 = 3)) ((q_lr σ7 a0 1 a_6 fun σ10 => (q_al σ10 h7 3 0 fun σ11 h11 a_11 => (q_b2 (fX2_init σ11 h11 a_11) fun σ12 h12 => q_gu ((q_tag σ12 a0 = 5) ∧ (q_tag σ12 a_11 = 3)) ((q_lr σ12 a0 2 a_11 fun σ15 => (q_al σ15 (q_si h12 a0 3 (0 : Int32)) 9 8 fun σ16 h16 a_16 => (q_lr σ16 a0 4 a_16 fun σ17 => (q_al σ17 h16 2 0 fun σ18 h18 a_18 => (q_b2 (fX1_init σ18 h18 a_18) fun σ19 h19 => q_gu ((q_tag σ19 a0 = 5) ∧ (q_tag σ19 a_18 = 2)) ((q_lr σ19 a0 5 a_18 fun σ22 => (q_al σ22 h19 10 8 fun σ23 h23 a_23 => (q_lr σ23 a0 6 a_23 fun σ24 => (q_al σ24 h23 4 0 fun σ25 h25 a_25 => ((fX3_init σ25 h25 a_25 (0 : Int32) (0 : Int32)).bind fun h26 => (q_lr σ25 a0 7 a_25 fun σ27 => (q_al σ27 h26 1 0 fun σ28 h28 a_28 => (q_b2 (fX0_init σ28 h28 a_28) fun σ29 h29 => q_gu ((q_tag σ29 a0 = 5) ∧ (q_tag σ29 a_28 = 1)) ((q_lr σ29 a0 8 a_28 fun σ32 => (q_al σ32 h29 7 8 fun σ33 h33 a_33 => (q_lr σ33 a0 9 a_33 fun σ34 => (q_al σ34 h33 7 7 fun σ35 h35 a_35 => (q_lr σ35 a0 10 a_35 fun σ36 => (q_al σ36 h35 7 7 fun σ37 h37 a_37 => (q_lr σ37 a0 11 a_37 fun σ38 => (q_loop (fun s => fX4_init_121  a0 s.1 s.2.1 s.2.2) q_N ((0 : Int32), σ38, h37)).bind fun o39 => (q_loop (fun s => fX4_init_151  a0 s.1 s.2.1 s.2.2) q_N ((0 : Int32), o39.1, o39.2)).bind fun o41 => some (o41.1, o41.2))))))))))))))))))))))))))))))))))
def cdX4_init : q_Cd := [(0, .aload_n 0), (1, .invokespecial 3), (4, .aload_n 0), (5, .new 9), (8, .dup), (9, .invokespecial 11), (12, .putfield 12), (15, .aload_n 0), (16, .new 9), (19, .dup), (20, .invokespecial 11), (23, .putfield 16), (26, .aload_n 0), (27, .new 9), (30, .dup), (31, .invokespecial 11), (34, .putfield 19), (37, .aload_n 0), (38, .iconst 0), (39, .putfield 22), (42, .aload_n 0), (43, .bipush 8), (45, .anewarray 26), (48, .putfield 28), (51, .aload_n 0), (52, .new 26), (55, .dup), (56, .invokespecial 32), (59, .putfield 33), (62, .aload_n 0), (63, .bipush 8), (65, .anewarray 37), (68, .putfield 39), (71, .aload_n 0), (72, .new 37), (75, .dup), (76, .iconst 0), (77, .iconst 0), (78, .invokespecial 43), (81, .putfield 46), (84, .aload_n 0), (85, .new 50), (88, .dup), (89, .invokespecial 52), (92, .putfield 53), (95, .aload_n 0), (96, .bipush 8), (98, .newarray .int), (100, .putfield 57), (103, .aload_n 0), (104, .bipush 7), (106, .newarray .int), (108, .putfield 61), (111, .aload_n 0), (112, .bipush 7), (114, .newarray .int), (116, .putfield 64), (119, .iconst 0), (120, .istore_n 1), (121, .iload_n 1), (122, .aload_n 0), (123, .getfield 28), (126, .arraylength), (127, .if_icmp .ge 22), (130, .aload_n 0), (131, .getfield 28), (134, .iload_n 1), (135, .new 26), (138, .dup), (139, .invokespecial 32), (142, .aastore), (143, .iinc 1 1), (146, .goto (-25)), (149, .iconst 0), (150, .istore_n 1), (151, .iload_n 1), (152, .aload_n 0), (153, .getfield 39), (156, .arraylength), (157, .if_icmp .ge 24), (160, .aload_n 0), (161, .getfield 39), (164, .iload_n 1), (165, .new 37), (168, .dup), (169, .iload_n 1), (170, .iconst 5), (171, .invokespecial 43), (174, .aastore), (175, .iinc 1 1), (178, .goto (-27)), (181, .return_)]
set_option maxRecDepth 100000 in
theorem cokX4_init : q_cok cX4_init cdX4_init := by unfold q_cok; decide +kernel
set_option maxRecDepth 100000 in
set_option maxHeartbeats 4000000 in
theorem ctX4_init {l : Launch} {D : va_G} {cy : Nat → Nat} {b0 : Nat} {σ : q_St} {h : q_Hp} (a0 : Nat) {σ' : q_St} {h' : q_Hp} (ta0 : q_tag σ a0 = 5) (hf : fX4_init σ h a0 = some (σ', h')) : q_M l yX4_init cX4_init 2 none 3 67 87 1465 D cy b0 σ h [.ref a0] none σ' h' := by
  unfold fX4_init at hf
  refine q_enter (by decide) (Nat.le_of_ble_eq_true rfl) ?_
  intro p e s m args below meth c C0 hr hlk hnm
  replace C0 : VC p { frames := 3, cells := 87, slots := 1465, locals := 67 } s m args meth c D cy b0 2 87 1465 RX4 cX4_init := C0
  have n121 : ∀ (o : (q_St × q_Hp)) (s1 : (Int32 × q_St × q_Hp)), q_loop (fun s => fX4_init_121  a0 s.1 s.2.1 s.2.2) q_N s1 = some o → V p l e { frames := 3, cells := 87, slots := 1465, locals := 67 } s m args below meth c (MQ below (q_Qc D cy b0 none σ' h') args s 87 1465 (fun q => b0 ≤ q)) D cy b0 2 87 1465 8 56 o.1 o.2 149 [(0, .ref a0)] [] → V p l e { frames := 3, cells := 87, slots := 1465, locals := 67 } s m args below meth c (MQ below (q_Qc D cy b0 none σ' h') args s 87 1465 (fun q => b0 ≤ q)) D cy b0 2 87 1465 (8 + 3 * (8 - Int32.toNatClampNeg s1.1)) (56 + 112 * (8 - Int32.toNatClampNeg s1.1)) s1.2.1 s1.2.2 121 [(0, .ref a0), (1, .int s1.1)] [] := by
    intro o s1 ho kx1
    refine q_loop_V (P := fun s0 => V p l e { frames := 3, cells := 87, slots := 1465, locals := 67 } s m args below meth c (MQ below (q_Qc D cy b0 none σ' h') args s 87 1465 (fun q => b0 ≤ q)) D cy b0 2 87 1465 (8 + 3 * (8 - Int32.toNatClampNeg s0.1)) (56 + 112 * (8 - Int32.toNatClampNeg s0.1)) s0.2.1 s0.2.2 121 [(0, .ref a0), (1, .int s0.1)] []) (o := o) ?_ q_N s1 ho
    intro s2 z1 hf kb1 kr1
    obtain ⟨x1, σ, h⟩ := s2
    replace hf : fX4_init_121  a0 x1 σ h = some z1 := hf
    unfold fX4_init_121 at hf
    show V p l e { frames := 3, cells := 87, slots := 1465, locals := 67 } s m args below meth c (MQ below (q_Qc D cy b0 none σ' h') args s 87 1465 (fun q => b0 ≤ q)) D cy b0 2 87 1465 (8 + 3 * (8 - Int32.toNatClampNeg x1)) (56 + 112 * (8 - Int32.toNatClampNeg x1)) σ h 121 [(0, .ref a0), (1, .int x1)] []
    obtain ⟨⟨g48, g49⟩, hf⟩ := q_gu_o hf
    refine v_run C0 tbX4 cokX4_init (pc' := 127) (lv' := [(0, .ref a0), (1, .int x1)]) (st' := [.int (Int32.ofNat (q_len σ (q_ref σ a0 4))), .int x1]) (h' := h) 4 rfl ⟨⟨g48, q_tn g49⟩, (Or.inr (Or.inr (Or.inl g49))), trivial⟩ ?_
    refine v_icmp_ge C0 cokX4_init rfl 149 (by decide) hf (fun _ hf => ?_) (fun _ hf => ?_)
    · obtain rfl := Option.some.inj hf
      refine v_less (kc' := 8) (ks' := 56) (by omega) (by omega) ?_
      refine v_pick [0] rfl ?_
      have hx := kr1 _ rfl
      subst hx
      exact kx1
    · refine v_run C0 tbX4 cokX4_init (pc' := 135) (lv' := [(0, .ref a0), (1, .int x1)]) (st' := [.int x1, .ref (q_ref σ a0 4)]) (h' := h) 3 rfl ⟨⟨g48, q_tn g49⟩, trivial⟩ ?_
      refine v_less (kc' := 86 + 1) (ks' := 1460 + 5) (by omega) (by omega) ?_
      refine v_newN (kc := 86) (ks := 1460) (nn := 5) (ci := 1) C0 cokX4_init rfl (by decide) nwcX4_26 nwiX1 nwnX1 rfl hf (fun σ50 h50 a_50 t50 u50 hf => ?_)
      refine v_run C0 tbX4 cokX4_init (pc' := 139) (lv' := [(0, .ref a0), (1, .int x1)]) (st' := [.ref a_50, .ref a_50, .int x1, .ref (q_ref σ a0 4)]) (h' := h50) 1 rfl trivial ?_
      obtain ⟨σ51, h51, e51, hf⟩ := q_bd2 hf
      refine v_callIN C0 cokX4_init rfl (rest := [.ref a_50, .int x1, .ref (q_ref σ a0 4)]) (ctX1_init a_50 t50 e51) calX1_init rfl lkX4_32 inX1_init dnX1_init rfl rfl ⟨by decide, by decide⟩ (Nat.le_of_ble_eq_true rfl) (kc' := 84) (ks' := 1353) (by omega) (by omega) ?_
      obtain ⟨⟨g52, g53, g54⟩, hf⟩ := q_gu_o hf
      refine v_aastN C0 cokX4_init rfl (Or.inl ⟨g52, g53⟩) g54 hf (fun σ55 u55 hf => ?_)
      refine v_run C0 tbX4 cokX4_init (pc' := 121) (lv' := [(1, .int (x1 + (1 : Int32))), (0, .ref a0)]) (st' := []) (h' := h51) 2 rfl trivial ?_
      obtain rfl := Option.some.inj hf
      refine v_less (kc' := 8 + 3 * (8 - Int32.toNatClampNeg (x1 + (1 : Int32)))) (ks' := 56 + 112 * (8 - Int32.toNatClampNeg (x1 + (1 : Int32)))) (by omega) (by omega) ?_
      refine v_pick [1, 0] rfl ?_
      exact kb1 _ rfl
  have n151 : ∀ (o : (q_St × q_Hp)) (s1 : (Int32 × q_St × q_Hp)), q_loop (fun s => fX4_init_151  a0 s.1 s.2.1 s.2.2) q_N s1 = some o → V p l e { frames := 3, cells := 87, slots := 1465, locals := 67 } s m args below meth c (MQ below (q_Qc D cy b0 none σ' h') args s 87 1465 (fun q => b0 ≤ q)) D cy b0 2 87 1465 0 0 o.1 o.2 181 [] [] → V p l e { frames := 3, cells := 87, slots := 1465, locals := 67 } s m args below meth c (MQ below (q_Qc D cy b0 none σ' h') args s 87 1465 (fun q => b0 ≤ q)) D cy b0 2 87 1465 (0 + 1 * (8 - Int32.toNatClampNeg s1.1)) (0 + 7 * (8 - Int32.toNatClampNeg s1.1)) s1.2.1 s1.2.2 151 [(0, .ref a0), (1, .int s1.1)] [] := by
    intro o s1 ho kx1
    refine q_loop_V (P := fun s0 => V p l e { frames := 3, cells := 87, slots := 1465, locals := 67 } s m args below meth c (MQ below (q_Qc D cy b0 none σ' h') args s 87 1465 (fun q => b0 ≤ q)) D cy b0 2 87 1465 (0 + 1 * (8 - Int32.toNatClampNeg s0.1)) (0 + 7 * (8 - Int32.toNatClampNeg s0.1)) s0.2.1 s0.2.2 151 [(0, .ref a0), (1, .int s0.1)] []) (o := o) ?_ q_N s1 ho
    intro s2 z1 hf kb1 kr1
    obtain ⟨x1, σ, h⟩ := s2
    replace hf : fX4_init_151  a0 x1 σ h = some z1 := hf
    unfold fX4_init_151 at hf
    show V p l e { frames := 3, cells := 87, slots := 1465, locals := 67 } s m args below meth c (MQ below (q_Qc D cy b0 none σ' h') args s 87 1465 (fun q => b0 ≤ q)) D cy b0 2 87 1465 (0 + 1 * (8 - Int32.toNatClampNeg x1)) (0 + 7 * (8 - Int32.toNatClampNeg x1)) σ h 151 [(0, .ref a0), (1, .int x1)] []
    obtain ⟨⟨g42, g43⟩, hf⟩ := q_gu_o hf
    refine v_run C0 tbX4 cokX4_init (pc' := 157) (lv' := [(0, .ref a0), (1, .int x1)]) (st' := [.int (Int32.ofNat (q_len σ (q_ref σ a0 6))), .int x1]) (h' := h) 4 rfl ⟨⟨g42, q_tn g43⟩, (Or.inr (Or.inr (Or.inr g43))), trivial⟩ ?_
    refine v_icmp_ge C0 cokX4_init rfl 181 (by decide) hf (fun _ hf => ?_) (fun _ hf => ?_)
    · obtain rfl := Option.some.inj hf
      refine v_less (kc' := 0) (ks' := 0) (by omega) (by omega) ?_
      refine v_pick [] rfl ?_
      have hx := kr1 _ rfl
      subst hx
      exact kx1
    · refine v_run C0 tbX4 cokX4_init (pc' := 165) (lv' := [(0, .ref a0), (1, .int x1)]) (st' := [.int x1, .ref (q_ref σ a0 6)]) (h' := h) 3 rfl ⟨⟨g42, q_tn g43⟩, trivial⟩ ?_
      refine v_less (kc' := 86 + 1) (ks' := 1458 + 7) (by omega) (by omega) ?_
      refine v_newN (kc := 86) (ks := 1458) (nn := 7) (ci := 3) C0 cokX4_init rfl (by decide) nwcX4_37 nwiX3 nwnX3 rfl hf (fun σ44 h44 a_44 t44 u44 hf => ?_)
      refine v_run C0 tbX4 cokX4_init (pc' := 171) (lv' := [(0, .ref a0), (1, .int x1)]) (st' := [.int (5 : Int32), .int x1, .ref a_44, .ref a_44, .int x1, .ref (q_ref σ a0 6)]) (h' := h44) 3 rfl trivial ?_
      obtain ⟨h45, e45, hf⟩ := q_bd hf
      refine v_callI C0 cokX4_init rfl (rest := [.ref a_44, .int x1, .ref (q_ref σ a0 6)]) (ctX3_init a_44 x1 (5 : Int32) t44 e45) calX3_init rfl lkX4_43 inX3_init dnX3_init rfl rfl ⟨by decide, by decide⟩ (Nat.le_of_ble_eq_true rfl) (Nat.le_refl _) (Nat.le_refl _) ?_
      obtain ⟨g46, hf⟩ := q_gu_o hf
      refine v_aastN C0 cokX4_init rfl (Or.inr ⟨(q_kp u44 g43), t44⟩) g46 hf (fun σ47 u47 hf => ?_)
      refine v_run C0 tbX4 cokX4_init (pc' := 151) (lv' := [(1, .int (x1 + (1 : Int32))), (0, .ref a0)]) (st' := []) (h' := h45) 2 rfl trivial ?_
      obtain rfl := Option.some.inj hf
      refine v_less (kc' := 0 + 1 * (8 - Int32.toNatClampNeg (x1 + (1 : Int32)))) (ks' := 0 + 7 * (8 - Int32.toNatClampNeg (x1 + (1 : Int32)))) (by omega) (by omega) ?_
      refine v_pick [1, 0] rfl ?_
      exact kb1 _ rfl
  refine v_run C0 tbX4 cokX4_init (pc' := 1) (lv' := [(0, .ref a0)]) (st' := [.ref a0]) (h' := h) 1 rfl trivial ?_
  refine v_obj C0 cokX4_init rfl objX4 (by decide) (by decide) (Nat.le_of_ble_eq_true rfl) ?_
  refine v_run C0 tbX4 cokX4_init (pc' := 5) (lv' := [(0, .ref a0)]) (st' := [.ref a0]) (h' := h) 1 rfl trivial ?_
  refine v_less (kc' := 86 + 1) (ks' := 1450 + 15) (by omega) (by omega) ?_
  refine v_newN (kc := 86) (ks := 1450) (nn := 15) (ci := 2) C0 cokX4_init rfl (by decide) nwcX4_9 nwiX2 nwnX2 rfl hf (fun σ1 h1 a_1 t1 u1 hf => ?_)
  refine v_run C0 tbX4 cokX4_init (pc' := 9) (lv' := [(0, .ref a0)]) (st' := [.ref a_1, .ref a_1, .ref a0]) (h' := h1) 1 rfl trivial ?_
  obtain ⟨σ2, h2, e2, hf⟩ := q_bd2 hf
  refine v_callIN C0 cokX4_init rfl (rest := [.ref a_1, .ref a0]) (ctX2_init a_1 t1 e2) calX2_init rfl lkX4_11 inX2_init dnX2_init rfl rfl ⟨by decide, by decide⟩ (Nat.le_of_ble_eq_true rfl) (kc' := 75) (ks' := 1373) (by omega) (by omega) ?_
  obtain ⟨⟨g3, g4⟩, hf⟩ := q_gu_o hf
  refine v_putrN C0 tbX4 cokX4_init rfl (ci := 4) (k := 0) rfl rfl (Or.inl rfl) g3 (q_tn g4) hf (fun σ5 u5 hf => ?_)
  refine v_run C0 tbX4 cokX4_init (pc' := 16) (lv' := [(0, .ref a0)]) (st' := [.ref a0]) (h' := h2) 1 rfl trivial ?_
  refine v_less (kc' := 74 + 1) (ks' := 1358 + 15) (by omega) (by omega) ?_
  refine v_newN (kc := 74) (ks := 1358) (nn := 15) (ci := 2) C0 cokX4_init rfl (by decide) nwcX4_9 nwiX2 nwnX2 rfl hf (fun σ6 h6 a_6 t6 u6 hf => ?_)
  refine v_run C0 tbX4 cokX4_init (pc' := 20) (lv' := [(0, .ref a0)]) (st' := [.ref a_6, .ref a_6, .ref a0]) (h' := h6) 1 rfl trivial ?_
  obtain ⟨σ7, h7, e7, hf⟩ := q_bd2 hf
  refine v_callIN C0 cokX4_init rfl (rest := [.ref a_6, .ref a0]) (ctX2_init a_6 t6 e7) calX2_init rfl lkX4_11 inX2_init dnX2_init rfl rfl ⟨by decide, by decide⟩ (Nat.le_of_ble_eq_true rfl) (kc' := 63) (ks' := 1281) (by omega) (by omega) ?_
  obtain ⟨⟨g8, g9⟩, hf⟩ := q_gu_o hf
  refine v_putrN C0 tbX4 cokX4_init rfl (ci := 4) (k := 1) rfl rfl (Or.inl rfl) g8 (q_tn g9) hf (fun σ10 u10 hf => ?_)
  refine v_run C0 tbX4 cokX4_init (pc' := 27) (lv' := [(0, .ref a0)]) (st' := [.ref a0]) (h' := h7) 1 rfl trivial ?_
  refine v_less (kc' := 62 + 1) (ks' := 1266 + 15) (by omega) (by omega) ?_
  refine v_newN (kc := 62) (ks := 1266) (nn := 15) (ci := 2) C0 cokX4_init rfl (by decide) nwcX4_9 nwiX2 nwnX2 rfl hf (fun σ11 h11 a_11 t11 u11 hf => ?_)
  refine v_run C0 tbX4 cokX4_init (pc' := 31) (lv' := [(0, .ref a0)]) (st' := [.ref a_11, .ref a_11, .ref a0]) (h' := h11) 1 rfl trivial ?_
  obtain ⟨σ12, h12, e12, hf⟩ := q_bd2 hf
  refine v_callIN C0 cokX4_init rfl (rest := [.ref a_11, .ref a0]) (ctX2_init a_11 t11 e12) calX2_init rfl lkX4_11 inX2_init dnX2_init rfl rfl ⟨by decide, by decide⟩ (Nat.le_of_ble_eq_true rfl) (kc' := 51) (ks' := 1189) (by omega) (by omega) ?_
  obtain ⟨⟨g13, g14⟩, hf⟩ := q_gu_o hf
  refine v_putrN C0 tbX4 cokX4_init rfl (ci := 4) (k := 2) rfl rfl (Or.inr ⟨rfl, hnm, rfl⟩) g13 (q_tn g14) hf (fun σ15 u15 hf => ?_)
  refine v_run C0 tbX4 cokX4_init (pc' := 45) (lv' := [(0, .ref a0)]) (st' := [.int (8 : Int32), .ref a0]) (h' := (q_si h12 a0 3 (0 : Int32))) 5 rfl ⟨⟨(q_ks u15 g13), (Or.inl rfl)⟩, trivial⟩ ?_
  refine v_less (kc' := 50 + 1) (ks' := 1181 + 8) (by omega) (by omega) ?_
  refine v_newqN (kc := 50) (ks := 1181) (nn := 8) C0 cokX4_init rfl (k := 0) (by decide) rfl awcX4_26 (n := (8 : Int32)) rfl (by decide) (by decide) hf (fun σ16 h16 a_16 t16 u16 hf => ?_)
  refine v_putrN C0 tbX4 cokX4_init rfl (ci := 4) (k := 4) rfl rfl (Or.inr ⟨rfl, hnm, rfl⟩) (q_kp u16 (q_ks u15 g13)) (q_tn t16) hf (fun σ17 u17 hf => ?_)
  refine v_run C0 tbX4 cokX4_init (pc' := 52) (lv' := [(0, .ref a0)]) (st' := [.ref a0]) (h' := h16) 1 rfl trivial ?_
  refine v_less (kc' := 49 + 1) (ks' := 1176 + 5) (by omega) (by omega) ?_
  refine v_newN (kc := 49) (ks := 1176) (nn := 5) (ci := 1) C0 cokX4_init rfl (by decide) nwcX4_26 nwiX1 nwnX1 rfl hf (fun σ18 h18 a_18 t18 u18 hf => ?_)
  refine v_run C0 tbX4 cokX4_init (pc' := 56) (lv' := [(0, .ref a0)]) (st' := [.ref a_18, .ref a_18, .ref a0]) (h' := h18) 1 rfl trivial ?_
  obtain ⟨σ19, h19, e19, hf⟩ := q_bd2 hf
  refine v_callIN C0 cokX4_init rfl (rest := [.ref a_18, .ref a0]) (ctX1_init a_18 t18 e19) calX1_init rfl lkX4_32 inX1_init dnX1_init rfl rfl ⟨by decide, by decide⟩ (Nat.le_of_ble_eq_true rfl) (kc' := 47) (ks' := 1069) (by omega) (by omega) ?_
  obtain ⟨⟨g20, g21⟩, hf⟩ := q_gu_o hf
  refine v_putrN C0 tbX4 cokX4_init rfl (ci := 4) (k := 5) rfl rfl (Or.inr ⟨rfl, hnm, rfl⟩) g20 (q_tn g21) hf (fun σ22 u22 hf => ?_)
  refine v_run C0 tbX4 cokX4_init (pc' := 65) (lv' := [(0, .ref a0)]) (st' := [.int (8 : Int32), .ref a0]) (h' := h19) 2 rfl trivial ?_
  refine v_less (kc' := 46 + 1) (ks' := 1061 + 8) (by omega) (by omega) ?_
  refine v_newqN (kc := 46) (ks := 1061) (nn := 8) C0 cokX4_init rfl (k := 1) (by decide) rfl awcX4_37 (n := (8 : Int32)) rfl (by decide) (by decide) hf (fun σ23 h23 a_23 t23 u23 hf => ?_)
  refine v_putrN C0 tbX4 cokX4_init rfl (ci := 4) (k := 6) rfl rfl (Or.inr ⟨rfl, hnm, rfl⟩) (q_kp u23 (q_ks u22 g20)) (q_tn t23) hf (fun σ24 u24 hf => ?_)
  refine v_run C0 tbX4 cokX4_init (pc' := 72) (lv' := [(0, .ref a0)]) (st' := [.ref a0]) (h' := h23) 1 rfl trivial ?_
  refine v_less (kc' := 45 + 1) (ks' := 1054 + 7) (by omega) (by omega) ?_
  refine v_newN (kc := 45) (ks := 1054) (nn := 7) (ci := 3) C0 cokX4_init rfl (by decide) nwcX4_37 nwiX3 nwnX3 rfl hf (fun σ25 h25 a_25 t25 u25 hf => ?_)
  refine v_run C0 tbX4 cokX4_init (pc' := 78) (lv' := [(0, .ref a0)]) (st' := [.int (0 : Int32), .int (0 : Int32), .ref a_25, .ref a_25, .ref a0]) (h' := h25) 3 rfl trivial ?_
  obtain ⟨h26, e26, hf⟩ := q_bd hf
  refine v_callI C0 cokX4_init rfl (rest := [.ref a_25, .ref a0]) (ctX3_init a_25 (0 : Int32) (0 : Int32) t25 e26) calX3_init rfl lkX4_43 inX3_init dnX3_init rfl rfl ⟨by decide, by decide⟩ (Nat.le_of_ble_eq_true rfl) (Nat.le_refl _) (Nat.le_refl _) ?_
  refine v_putrN C0 tbX4 cokX4_init rfl (ci := 4) (k := 7) rfl rfl (Or.inr ⟨rfl, hnm, rfl⟩) (q_kp u25 (q_ks u24 (q_kp u23 (q_ks u22 g20)))) (q_tn t25) hf (fun σ27 u27 hf => ?_)
  refine v_run C0 tbX4 cokX4_init (pc' := 85) (lv' := [(0, .ref a0)]) (st' := [.ref a0]) (h' := h26) 1 rfl trivial ?_
  refine v_less (kc' := 44 + 1) (ks' := 1043 + 11) (by omega) (by omega) ?_
  refine v_newN (kc := 44) (ks := 1043) (nn := 11) (ci := 0) C0 cokX4_init rfl (by decide) nwcX4_50 nwiX0 nwnX0 rfl hf (fun σ28 h28 a_28 t28 u28 hf => ?_)
  refine v_run C0 tbX4 cokX4_init (pc' := 89) (lv' := [(0, .ref a0)]) (st' := [.ref a_28, .ref a_28, .ref a0]) (h' := h28) 1 rfl trivial ?_
  obtain ⟨σ29, h29, e29, hf⟩ := q_bd2 hf
  refine v_callIN C0 cokX4_init rfl (rest := [.ref a_28, .ref a0]) (ctX0_init a_28 t28 e29) calX0_init rfl lkX4_52 inX0_init dnX0_init rfl rfl ⟨by decide, by decide⟩ (Nat.le_of_ble_eq_true rfl) (kc' := 35) (ks' := 974) (by omega) (by omega) ?_
  obtain ⟨⟨g30, g31⟩, hf⟩ := q_gu_o hf
  refine v_putrN C0 tbX4 cokX4_init rfl (ci := 4) (k := 8) rfl rfl (Or.inr ⟨rfl, hnm, rfl⟩) g30 (q_tn g31) hf (fun σ32 u32 hf => ?_)
  refine v_run C0 tbX4 cokX4_init (pc' := 98) (lv' := [(0, .ref a0)]) (st' := [.int (8 : Int32), .ref a0]) (h' := h29) 2 rfl trivial ?_
  refine v_less (kc' := 34 + 1) (ks' := 966 + 8) (by omega) (by omega) ?_
  refine v_newaN (kc := 34) (ks := 966) (nn := 8) C0 cokX4_init rfl ac_int (n := (8 : Int32)) rfl (by decide) (by decide) hf (fun σ33 h33 a_33 t33 u33 hf => ?_)
  refine v_putrN C0 tbX4 cokX4_init rfl (ci := 4) (k := 9) rfl rfl (Or.inr ⟨rfl, hnm, rfl⟩) (q_kp u33 (q_ks u32 g30)) (q_tn t33) hf (fun σ34 u34 hf => ?_)
  refine v_run C0 tbX4 cokX4_init (pc' := 106) (lv' := [(0, .ref a0)]) (st' := [.int (7 : Int32), .ref a0]) (h' := h33) 2 rfl trivial ?_
  refine v_less (kc' := 33 + 1) (ks' := 959 + 7) (by omega) (by omega) ?_
  refine v_newaN (kc := 33) (ks := 959) (nn := 7) C0 cokX4_init rfl ac_int (n := (7 : Int32)) rfl (by decide) (by decide) hf (fun σ35 h35 a_35 t35 u35 hf => ?_)
  refine v_putrN C0 tbX4 cokX4_init rfl (ci := 4) (k := 10) rfl rfl (Or.inr ⟨rfl, hnm, rfl⟩) (q_kp u35 (q_ks u34 (q_kp u33 (q_ks u32 g30)))) (q_tn t35) hf (fun σ36 u36 hf => ?_)
  refine v_run C0 tbX4 cokX4_init (pc' := 114) (lv' := [(0, .ref a0)]) (st' := [.int (7 : Int32), .ref a0]) (h' := h35) 2 rfl trivial ?_
  refine v_less (kc' := 32 + 1) (ks' := 952 + 7) (by omega) (by omega) ?_
  refine v_newaN (kc := 32) (ks := 952) (nn := 7) C0 cokX4_init rfl ac_int (n := (7 : Int32)) rfl (by decide) (by decide) hf (fun σ37 h37 a_37 t37 u37 hf => ?_)
  refine v_putrN C0 tbX4 cokX4_init rfl (ci := 4) (k := 11) rfl rfl (Or.inr ⟨rfl, hnm, rfl⟩) (q_kp u37 (q_ks u36 (q_kp u35 (q_ks u34 (q_kp u33 (q_ks u32 g30)))))) (q_tn t37) hf (fun σ38 u38 hf => ?_)
  refine v_run C0 tbX4 cokX4_init (pc' := 121) (lv' := [(1, .int (0 : Int32)), (0, .ref a0)]) (st' := []) (h' := h37) 2 rfl trivial ?_
  obtain ⟨o39, eo39, hf⟩ := q_bd hf
  refine v_less (kc' := 8 + 3 * (8 - Int32.toNatClampNeg (0 : Int32))) (ks' := 56 + 112 * (8 - Int32.toNatClampNeg (0 : Int32))) (by decide) (by decide) ?_
  refine v_pick [1, 0] rfl ?_
  refine n121 o39 ((0 : Int32), σ38, h37) eo39 ?_
  refine v_run C0 tbX4 cokX4_init (pc' := 151) (lv' := [(1, .int (0 : Int32)), (0, .ref a0)]) (st' := []) (h' := o39.2) 2 rfl trivial ?_
  obtain ⟨o41, eo41, hf⟩ := q_bd hf
  refine v_less (kc' := 0 + 1 * (8 - Int32.toNatClampNeg (0 : Int32))) (ks' := 0 + 7 * (8 - Int32.toNatClampNeg (0 : Int32))) (by decide) (by decide) ?_
  refine v_pick [1, 0] rfl ?_
  refine n151 o41 ((0 : Int32), o39.1, o39.2) eo41 ?_
  obtain ⟨rfl, rfl⟩ := Prod.mk.inj (Option.some.inj hf)
  exact v_vret C0 cokX4_init hr hlk rfl
-- BackByNoonOnMondayModel.<init>()V
noncomputable def fX5_init (σ : q_St) (h : q_Hp) (a0 : Nat) : Option (q_St × q_Hp) := (q_al σ h 7 8 fun σ1 h1 a_1 => (q_lr σ1 a0 1 a_1 fun σ2 => (q_al σ2 h1 7 8 fun σ3 h3 a_3 => (q_lr σ3 a0 2 a_3 fun σ4 => (q_al σ4 h3 7 8 fun σ5 h5 a_5 => (q_lr σ5 a0 3 a_5 fun σ6 => (q_al σ6 h5 7 8 fun σ7 h7 a_7 => (q_lr σ7 a0 4 a_7 fun σ8 => (q_al σ8 h7 7 8 fun σ9 h9 a_9 => (q_lr σ9 a0 5 a_9 fun σ10 => (q_al σ10 h9 7 7 fun σ11 h11 a_11 => (q_lr σ11 a0 7 a_11 fun σ12 => (q_al σ12 h11 7 7 fun σ13 h13 a_13 => (q_lr σ13 a0 8 a_13 fun σ14 => (q_al σ14 h13 7 7 fun σ15 h15 a_15 => (q_lr σ15 a0 9 a_15 fun σ16 => (q_al σ16 h15 7 7 fun σ17 h17 a_17 => (q_lr σ17 a0 10 a_17 fun σ18 => (q_al σ18 h17 7 7 fun σ19 h19 a_19 => (q_lr σ19 a0 11 a_19 fun σ20 => (q_al σ20 h19 7 7 fun σ21 h21 a_21 => (q_lr σ21 a0 12 a_21 fun σ22 => (q_al σ22 h21 7 8 fun σ23 h23 a_23 => (q_lr σ23 a0 15 a_23 fun σ24 => (q_al σ24 h23 7 8 fun σ25 h25 a_25 => (q_lr σ25 a0 16 a_25 fun σ26 => (q_al σ26 h25 7 8 fun σ27 h27 a_27 => (q_lr σ27 a0 17 a_27 fun σ28 => (q_al σ28 h27 7 8 fun σ29 h29 a_29 => (q_lr σ29 a0 18 a_29 fun σ30 => (q_al σ30 h29 7 8 fun σ31 h31 a_31 => (q_lr σ31 a0 19 a_31 fun σ32 => (q_al σ32 h31 8 800 fun σ33 h33 a_33 => (q_lr σ33 a0 20 a_33 fun σ34 => (q_al σ34 h33 7 51 fun σ35 h35 a_35 => (q_lr σ35 a0 26 a_35 fun σ36 => (q_al σ36 h35 7 51 fun σ37 h37 a_37 => (q_lr σ37 a0 27 a_37 fun σ38 => (q_al σ38 h37 7 255 fun σ39 h39 a_39 => (q_lr σ39 a0 28 a_39 fun σ40 => (q_al σ40 h39 7 90 fun σ41 h41 a_41 => (q_lr σ41 a0 29 a_41 fun σ42 => (q_al σ42 h41 7 90 fun σ43 h43 a_43 => (q_lr σ43 a0 30 a_43 fun σ44 => (q_al σ44 h43 7 4 fun σ45 h45 a_45 => q_gu ((vp_in (0 : Int32) (q_len σ45 a_45)) ∧ (vp_in (1 : Int32) (q_len σ45 a_45)) ∧ (vp_in (2 : Int32) (q_len σ45 a_45)) ∧ (vp_in (3 : Int32) (q_len σ45 a_45))) ((q_lr σ45 a0 36 a_45 fun σ50 => (q_al σ50 (q_si (q_si (q_si (q_si h45 a_45 (Int32.toNatClampNeg (0 : Int32)) (-1 : Int32)) a_45 (Int32.toNatClampNeg (1 : Int32)) (-1 : Int32)) a_45 (Int32.toNatClampNeg (2 : Int32)) (-1 : Int32)) a_45 (Int32.toNatClampNeg (3 : Int32)) (-1 : Int32)) 7 2048 fun σ51 h51 a_51 => (q_lr σ51 a0 39 a_51 fun σ52 => (q_al σ52 h51 7 7 fun σ53 h53 a_53 => (q_lr σ53 a0 40 a_53 fun σ54 => (q_al σ54 h53 8 100 fun σ55 h55 a_55 => (q_lr σ55 a0 43 a_55 fun σ56 => some (σ56, (q_si h55 a0 21 (0 : Int32))))))))))))))))))))))))))))))))))))))))))))))))))))))))
def cdX5_init : q_Cd := [(0, .aload_n 0), (1, .invokespecial 1), (4, .aload_n 0), (5, .bipush 8), (7, .newarray .int), (9, .putfield 7), (12, .aload_n 0), (13, .bipush 8), (15, .newarray .int), (17, .putfield 13), (20, .aload_n 0), (21, .bipush 8), (23, .newarray .int), (25, .putfield 16), (28, .aload_n 0), (29, .bipush 8), (31, .newarray .int), (33, .putfield 19), (36, .aload_n 0), (37, .bipush 8), (39, .newarray .int), (41, .putfield 22), (44, .aload_n 0), (45, .bipush 7), (47, .newarray .int), (49, .putfield 25), (52, .aload_n 0), (53, .bipush 7), (55, .newarray .int), (57, .putfield 28), (60, .aload_n 0), (61, .bipush 7), (63, .newarray .int), (65, .putfield 31), (68, .aload_n 0), (69, .bipush 7), (71, .newarray .int), (73, .putfield 34), (76, .aload_n 0), (77, .bipush 7), (79, .newarray .int), (81, .putfield 37), (84, .aload_n 0), (85, .bipush 7), (87, .newarray .int), (89, .putfield 40), (92, .aload_n 0), (93, .bipush 8), (95, .newarray .int), (97, .putfield 43), (100, .aload_n 0), (101, .bipush 8), (103, .newarray .int), (105, .putfield 46), (108, .aload_n 0), (109, .bipush 8), (111, .newarray .int), (113, .putfield 49), (116, .aload_n 0), (117, .bipush 8), (119, .newarray .int), (121, .putfield 52), (124, .aload_n 0), (125, .bipush 8), (127, .newarray .int), (129, .putfield 55), (132, .aload_n 0), (133, .sipush 800), (136, .newarray .long), (138, .putfield 58), (141, .aload_n 0), (142, .bipush 51), (144, .newarray .int), (146, .putfield 62), (149, .aload_n 0), (150, .bipush 51), (152, .newarray .int), (154, .putfield 65), (157, .aload_n 0), (158, .sipush 255), (161, .newarray .int), (163, .putfield 68), (166, .aload_n 0), (167, .bipush 90), (169, .newarray .int), (171, .putfield 71), (174, .aload_n 0), (175, .bipush 90), (177, .newarray .int), (179, .putfield 74), (182, .aload_n 0), (183, .iconst 4), (184, .newarray .int), (186, .dup), (187, .iconst 0), (188, .iconst (-1)), (189, .iastore), (190, .dup), (191, .iconst 1), (192, .iconst (-1)), (193, .iastore), (194, .dup), (195, .iconst 2), (196, .iconst (-1)), (197, .iastore), (198, .dup), (199, .iconst 3), (200, .iconst (-1)), (201, .iastore), (202, .putfield 77), (205, .aload_n 0), (206, .sipush 2048), (209, .newarray .int), (211, .putfield 80), (214, .aload_n 0), (215, .bipush 7), (217, .newarray .int), (219, .putfield 83), (222, .aload_n 0), (223, .bipush 100), (225, .newarray .long), (227, .putfield 86), (230, .aload_n 0), (231, .iconst 0), (232, .putfield 89), (235, .return_)]
set_option maxRecDepth 100000 in
theorem cokX5_init : q_cok cX5_init cdX5_init := by unfold q_cok; decide +kernel
set_option maxRecDepth 100000 in
set_option maxHeartbeats 4000000 in
theorem ctX5_init {l : Launch} {D : va_G} {cy : Nat → Nat} {b0 : Nat} {σ : q_St} {h : q_Hp} (a0 : Nat) {σ' : q_St} {h' : q_Hp} (ta0 : q_tag σ a0 = 6) (hf : fX5_init σ h a0 = some (σ', h')) : q_M l yX5_init cX5_init 1 none 1 20 26 3618 D cy b0 σ h [.ref a0] none σ' h' := by
  unfold fX5_init at hf
  refine q_enter (by decide) (Nat.le_of_ble_eq_true rfl) ?_
  intro p e s m args below meth c C0 hr hlk hnm
  replace C0 : VC p { frames := 1, cells := 26, slots := 3618, locals := 20 } s m args meth c D cy b0 1 26 3618 RX5 cX5_init := C0
  refine v_run C0 tbX5 cokX5_init (pc' := 1) (lv' := [(0, .ref a0)]) (st' := [.ref a0]) (h' := h) 1 rfl trivial ?_
  refine v_obj C0 cokX5_init rfl objX5 (by decide) (by decide) (Nat.le_of_ble_eq_true rfl) ?_
  refine v_run C0 tbX5 cokX5_init (pc' := 7) (lv' := [(0, .ref a0)]) (st' := [.int (8 : Int32), .ref a0]) (h' := h) 2 rfl trivial ?_
  refine v_less (kc' := 25 + 1) (ks' := 3610 + 8) (by omega) (by omega) ?_
  refine v_newaN (kc := 25) (ks := 3610) (nn := 8) C0 cokX5_init rfl ac_int (n := (8 : Int32)) rfl (by decide) (by decide) hf (fun σ1 h1 a_1 t1 u1 hf => ?_)
  refine v_putrN C0 tbX5 cokX5_init rfl (ci := 5) (k := 1) rfl rfl (Or.inr ⟨rfl, hnm, rfl⟩) (q_kp u1 ta0) (q_tn t1) hf (fun σ2 u2 hf => ?_)
  refine v_run C0 tbX5 cokX5_init (pc' := 15) (lv' := [(0, .ref a0)]) (st' := [.int (8 : Int32), .ref a0]) (h' := h1) 2 rfl trivial ?_
  refine v_less (kc' := 24 + 1) (ks' := 3602 + 8) (by omega) (by omega) ?_
  refine v_newaN (kc := 24) (ks := 3602) (nn := 8) C0 cokX5_init rfl ac_int (n := (8 : Int32)) rfl (by decide) (by decide) hf (fun σ3 h3 a_3 t3 u3 hf => ?_)
  refine v_putrN C0 tbX5 cokX5_init rfl (ci := 5) (k := 2) rfl rfl (Or.inr ⟨rfl, hnm, rfl⟩) (q_kp u3 (q_ks u2 (q_kp u1 ta0))) (q_tn t3) hf (fun σ4 u4 hf => ?_)
  refine v_run C0 tbX5 cokX5_init (pc' := 23) (lv' := [(0, .ref a0)]) (st' := [.int (8 : Int32), .ref a0]) (h' := h3) 2 rfl trivial ?_
  refine v_less (kc' := 23 + 1) (ks' := 3594 + 8) (by omega) (by omega) ?_
  refine v_newaN (kc := 23) (ks := 3594) (nn := 8) C0 cokX5_init rfl ac_int (n := (8 : Int32)) rfl (by decide) (by decide) hf (fun σ5 h5 a_5 t5 u5 hf => ?_)
  refine v_putrN C0 tbX5 cokX5_init rfl (ci := 5) (k := 3) rfl rfl (Or.inr ⟨rfl, hnm, rfl⟩) (q_kp u5 (q_ks u4 (q_kp u3 (q_ks u2 (q_kp u1 ta0))))) (q_tn t5) hf (fun σ6 u6 hf => ?_)
  refine v_run C0 tbX5 cokX5_init (pc' := 31) (lv' := [(0, .ref a0)]) (st' := [.int (8 : Int32), .ref a0]) (h' := h5) 2 rfl trivial ?_
  refine v_less (kc' := 22 + 1) (ks' := 3586 + 8) (by omega) (by omega) ?_
  refine v_newaN (kc := 22) (ks := 3586) (nn := 8) C0 cokX5_init rfl ac_int (n := (8 : Int32)) rfl (by decide) (by decide) hf (fun σ7 h7 a_7 t7 u7 hf => ?_)
  refine v_putrN C0 tbX5 cokX5_init rfl (ci := 5) (k := 4) rfl rfl (Or.inr ⟨rfl, hnm, rfl⟩) (q_kp u7 (q_ks u6 (q_kp u5 (q_ks u4 (q_kp u3 (q_ks u2 (q_kp u1 ta0))))))) (q_tn t7) hf (fun σ8 u8 hf => ?_)
  refine v_run C0 tbX5 cokX5_init (pc' := 39) (lv' := [(0, .ref a0)]) (st' := [.int (8 : Int32), .ref a0]) (h' := h7) 2 rfl trivial ?_
  refine v_less (kc' := 21 + 1) (ks' := 3578 + 8) (by omega) (by omega) ?_
  refine v_newaN (kc := 21) (ks := 3578) (nn := 8) C0 cokX5_init rfl ac_int (n := (8 : Int32)) rfl (by decide) (by decide) hf (fun σ9 h9 a_9 t9 u9 hf => ?_)
  refine v_putrN C0 tbX5 cokX5_init rfl (ci := 5) (k := 5) rfl rfl (Or.inr ⟨rfl, hnm, rfl⟩) (q_kp u9 (q_ks u8 (q_kp u7 (q_ks u6 (q_kp u5 (q_ks u4 (q_kp u3 (q_ks u2 (q_kp u1 ta0))))))))) (q_tn t9) hf (fun σ10 u10 hf => ?_)
  refine v_run C0 tbX5 cokX5_init (pc' := 47) (lv' := [(0, .ref a0)]) (st' := [.int (7 : Int32), .ref a0]) (h' := h9) 2 rfl trivial ?_
  refine v_less (kc' := 20 + 1) (ks' := 3571 + 7) (by omega) (by omega) ?_
  refine v_newaN (kc := 20) (ks := 3571) (nn := 7) C0 cokX5_init rfl ac_int (n := (7 : Int32)) rfl (by decide) (by decide) hf (fun σ11 h11 a_11 t11 u11 hf => ?_)
  refine v_putrN C0 tbX5 cokX5_init rfl (ci := 5) (k := 7) rfl rfl (Or.inr ⟨rfl, hnm, rfl⟩) (q_kp u11 (q_ks u10 (q_kp u9 (q_ks u8 (q_kp u7 (q_ks u6 (q_kp u5 (q_ks u4 (q_kp u3 (q_ks u2 (q_kp u1 ta0))))))))))) (q_tn t11) hf (fun σ12 u12 hf => ?_)
  refine v_run C0 tbX5 cokX5_init (pc' := 55) (lv' := [(0, .ref a0)]) (st' := [.int (7 : Int32), .ref a0]) (h' := h11) 2 rfl trivial ?_
  refine v_less (kc' := 19 + 1) (ks' := 3564 + 7) (by omega) (by omega) ?_
  refine v_newaN (kc := 19) (ks := 3564) (nn := 7) C0 cokX5_init rfl ac_int (n := (7 : Int32)) rfl (by decide) (by decide) hf (fun σ13 h13 a_13 t13 u13 hf => ?_)
  refine v_putrN C0 tbX5 cokX5_init rfl (ci := 5) (k := 8) rfl rfl (Or.inr ⟨rfl, hnm, rfl⟩) (q_kp u13 (q_ks u12 (q_kp u11 (q_ks u10 (q_kp u9 (q_ks u8 (q_kp u7 (q_ks u6 (q_kp u5 (q_ks u4 (q_kp u3 (q_ks u2 (q_kp u1 ta0))))))))))))) (q_tn t13) hf (fun σ14 u14 hf => ?_)
  refine v_run C0 tbX5 cokX5_init (pc' := 63) (lv' := [(0, .ref a0)]) (st' := [.int (7 : Int32), .ref a0]) (h' := h13) 2 rfl trivial ?_
  refine v_less (kc' := 18 + 1) (ks' := 3557 + 7) (by omega) (by omega) ?_
  refine v_newaN (kc := 18) (ks := 3557) (nn := 7) C0 cokX5_init rfl ac_int (n := (7 : Int32)) rfl (by decide) (by decide) hf (fun σ15 h15 a_15 t15 u15 hf => ?_)
  refine v_putrN C0 tbX5 cokX5_init rfl (ci := 5) (k := 9) rfl rfl (Or.inr ⟨rfl, hnm, rfl⟩) (q_kp u15 (q_ks u14 (q_kp u13 (q_ks u12 (q_kp u11 (q_ks u10 (q_kp u9 (q_ks u8 (q_kp u7 (q_ks u6 (q_kp u5 (q_ks u4 (q_kp u3 (q_ks u2 (q_kp u1 ta0))))))))))))))) (q_tn t15) hf (fun σ16 u16 hf => ?_)
  refine v_run C0 tbX5 cokX5_init (pc' := 71) (lv' := [(0, .ref a0)]) (st' := [.int (7 : Int32), .ref a0]) (h' := h15) 2 rfl trivial ?_
  refine v_less (kc' := 17 + 1) (ks' := 3550 + 7) (by omega) (by omega) ?_
  refine v_newaN (kc := 17) (ks := 3550) (nn := 7) C0 cokX5_init rfl ac_int (n := (7 : Int32)) rfl (by decide) (by decide) hf (fun σ17 h17 a_17 t17 u17 hf => ?_)
  refine v_putrN C0 tbX5 cokX5_init rfl (ci := 5) (k := 10) rfl rfl (Or.inr ⟨rfl, hnm, rfl⟩) (q_kp u17 (q_ks u16 (q_kp u15 (q_ks u14 (q_kp u13 (q_ks u12 (q_kp u11 (q_ks u10 (q_kp u9 (q_ks u8 (q_kp u7 (q_ks u6 (q_kp u5 (q_ks u4 (q_kp u3 (q_ks u2 (q_kp u1 ta0))))))))))))))))) (q_tn t17) hf (fun σ18 u18 hf => ?_)
  refine v_run C0 tbX5 cokX5_init (pc' := 79) (lv' := [(0, .ref a0)]) (st' := [.int (7 : Int32), .ref a0]) (h' := h17) 2 rfl trivial ?_
  refine v_less (kc' := 16 + 1) (ks' := 3543 + 7) (by omega) (by omega) ?_
  refine v_newaN (kc := 16) (ks := 3543) (nn := 7) C0 cokX5_init rfl ac_int (n := (7 : Int32)) rfl (by decide) (by decide) hf (fun σ19 h19 a_19 t19 u19 hf => ?_)
  refine v_putrN C0 tbX5 cokX5_init rfl (ci := 5) (k := 11) rfl rfl (Or.inr ⟨rfl, hnm, rfl⟩) (q_kp u19 (q_ks u18 (q_kp u17 (q_ks u16 (q_kp u15 (q_ks u14 (q_kp u13 (q_ks u12 (q_kp u11 (q_ks u10 (q_kp u9 (q_ks u8 (q_kp u7 (q_ks u6 (q_kp u5 (q_ks u4 (q_kp u3 (q_ks u2 (q_kp u1 ta0))))))))))))))))))) (q_tn t19) hf (fun σ20 u20 hf => ?_)
  refine v_run C0 tbX5 cokX5_init (pc' := 87) (lv' := [(0, .ref a0)]) (st' := [.int (7 : Int32), .ref a0]) (h' := h19) 2 rfl trivial ?_
  refine v_less (kc' := 15 + 1) (ks' := 3536 + 7) (by omega) (by omega) ?_
  refine v_newaN (kc := 15) (ks := 3536) (nn := 7) C0 cokX5_init rfl ac_int (n := (7 : Int32)) rfl (by decide) (by decide) hf (fun σ21 h21 a_21 t21 u21 hf => ?_)
  refine v_putrN C0 tbX5 cokX5_init rfl (ci := 5) (k := 12) rfl rfl (Or.inr ⟨rfl, hnm, rfl⟩) (q_kp u21 (q_ks u20 (q_kp u19 (q_ks u18 (q_kp u17 (q_ks u16 (q_kp u15 (q_ks u14 (q_kp u13 (q_ks u12 (q_kp u11 (q_ks u10 (q_kp u9 (q_ks u8 (q_kp u7 (q_ks u6 (q_kp u5 (q_ks u4 (q_kp u3 (q_ks u2 (q_kp u1 ta0))))))))))))))))))))) (q_tn t21) hf (fun σ22 u22 hf => ?_)
  refine v_run C0 tbX5 cokX5_init (pc' := 95) (lv' := [(0, .ref a0)]) (st' := [.int (8 : Int32), .ref a0]) (h' := h21) 2 rfl trivial ?_
  refine v_less (kc' := 14 + 1) (ks' := 3528 + 8) (by omega) (by omega) ?_
  refine v_newaN (kc := 14) (ks := 3528) (nn := 8) C0 cokX5_init rfl ac_int (n := (8 : Int32)) rfl (by decide) (by decide) hf (fun σ23 h23 a_23 t23 u23 hf => ?_)
  refine v_putrN C0 tbX5 cokX5_init rfl (ci := 5) (k := 15) rfl rfl (Or.inr ⟨rfl, hnm, rfl⟩) (q_kp u23 (q_ks u22 (q_kp u21 (q_ks u20 (q_kp u19 (q_ks u18 (q_kp u17 (q_ks u16 (q_kp u15 (q_ks u14 (q_kp u13 (q_ks u12 (q_kp u11 (q_ks u10 (q_kp u9 (q_ks u8 (q_kp u7 (q_ks u6 (q_kp u5 (q_ks u4 (q_kp u3 (q_ks u2 (q_kp u1 ta0))))))))))))))))))))))) (q_tn t23) hf (fun σ24 u24 hf => ?_)
  refine v_run C0 tbX5 cokX5_init (pc' := 103) (lv' := [(0, .ref a0)]) (st' := [.int (8 : Int32), .ref a0]) (h' := h23) 2 rfl trivial ?_
  refine v_less (kc' := 13 + 1) (ks' := 3520 + 8) (by omega) (by omega) ?_
  refine v_newaN (kc := 13) (ks := 3520) (nn := 8) C0 cokX5_init rfl ac_int (n := (8 : Int32)) rfl (by decide) (by decide) hf (fun σ25 h25 a_25 t25 u25 hf => ?_)
  refine v_putrN C0 tbX5 cokX5_init rfl (ci := 5) (k := 16) rfl rfl (Or.inr ⟨rfl, hnm, rfl⟩) (q_kp u25 (q_ks u24 (q_kp u23 (q_ks u22 (q_kp u21 (q_ks u20 (q_kp u19 (q_ks u18 (q_kp u17 (q_ks u16 (q_kp u15 (q_ks u14 (q_kp u13 (q_ks u12 (q_kp u11 (q_ks u10 (q_kp u9 (q_ks u8 (q_kp u7 (q_ks u6 (q_kp u5 (q_ks u4 (q_kp u3 (q_ks u2 (q_kp u1 ta0))))))))))))))))))))))))) (q_tn t25) hf (fun σ26 u26 hf => ?_)
  refine v_run C0 tbX5 cokX5_init (pc' := 111) (lv' := [(0, .ref a0)]) (st' := [.int (8 : Int32), .ref a0]) (h' := h25) 2 rfl trivial ?_
  refine v_less (kc' := 12 + 1) (ks' := 3512 + 8) (by omega) (by omega) ?_
  refine v_newaN (kc := 12) (ks := 3512) (nn := 8) C0 cokX5_init rfl ac_int (n := (8 : Int32)) rfl (by decide) (by decide) hf (fun σ27 h27 a_27 t27 u27 hf => ?_)
  refine v_putrN C0 tbX5 cokX5_init rfl (ci := 5) (k := 17) rfl rfl (Or.inr ⟨rfl, hnm, rfl⟩) (q_kp u27 (q_ks u26 (q_kp u25 (q_ks u24 (q_kp u23 (q_ks u22 (q_kp u21 (q_ks u20 (q_kp u19 (q_ks u18 (q_kp u17 (q_ks u16 (q_kp u15 (q_ks u14 (q_kp u13 (q_ks u12 (q_kp u11 (q_ks u10 (q_kp u9 (q_ks u8 (q_kp u7 (q_ks u6 (q_kp u5 (q_ks u4 (q_kp u3 (q_ks u2 (q_kp u1 ta0))))))))))))))))))))))))))) (q_tn t27) hf (fun σ28 u28 hf => ?_)
  refine v_run C0 tbX5 cokX5_init (pc' := 119) (lv' := [(0, .ref a0)]) (st' := [.int (8 : Int32), .ref a0]) (h' := h27) 2 rfl trivial ?_
  refine v_less (kc' := 11 + 1) (ks' := 3504 + 8) (by omega) (by omega) ?_
  refine v_newaN (kc := 11) (ks := 3504) (nn := 8) C0 cokX5_init rfl ac_int (n := (8 : Int32)) rfl (by decide) (by decide) hf (fun σ29 h29 a_29 t29 u29 hf => ?_)
  refine v_putrN C0 tbX5 cokX5_init rfl (ci := 5) (k := 18) rfl rfl (Or.inr ⟨rfl, hnm, rfl⟩) (q_kp u29 (q_ks u28 (q_kp u27 (q_ks u26 (q_kp u25 (q_ks u24 (q_kp u23 (q_ks u22 (q_kp u21 (q_ks u20 (q_kp u19 (q_ks u18 (q_kp u17 (q_ks u16 (q_kp u15 (q_ks u14 (q_kp u13 (q_ks u12 (q_kp u11 (q_ks u10 (q_kp u9 (q_ks u8 (q_kp u7 (q_ks u6 (q_kp u5 (q_ks u4 (q_kp u3 (q_ks u2 (q_kp u1 ta0))))))))))))))))))))))))))))) (q_tn t29) hf (fun σ30 u30 hf => ?_)
  refine v_run C0 tbX5 cokX5_init (pc' := 127) (lv' := [(0, .ref a0)]) (st' := [.int (8 : Int32), .ref a0]) (h' := h29) 2 rfl trivial ?_
  refine v_less (kc' := 10 + 1) (ks' := 3496 + 8) (by omega) (by omega) ?_
  refine v_newaN (kc := 10) (ks := 3496) (nn := 8) C0 cokX5_init rfl ac_int (n := (8 : Int32)) rfl (by decide) (by decide) hf (fun σ31 h31 a_31 t31 u31 hf => ?_)
  refine v_putrN C0 tbX5 cokX5_init rfl (ci := 5) (k := 19) rfl rfl (Or.inr ⟨rfl, hnm, rfl⟩) (q_kp u31 (q_ks u30 (q_kp u29 (q_ks u28 (q_kp u27 (q_ks u26 (q_kp u25 (q_ks u24 (q_kp u23 (q_ks u22 (q_kp u21 (q_ks u20 (q_kp u19 (q_ks u18 (q_kp u17 (q_ks u16 (q_kp u15 (q_ks u14 (q_kp u13 (q_ks u12 (q_kp u11 (q_ks u10 (q_kp u9 (q_ks u8 (q_kp u7 (q_ks u6 (q_kp u5 (q_ks u4 (q_kp u3 (q_ks u2 (q_kp u1 ta0))))))))))))))))))))))))))))))) (q_tn t31) hf (fun σ32 u32 hf => ?_)
  refine v_run C0 tbX5 cokX5_init (pc' := 136) (lv' := [(0, .ref a0)]) (st' := [.int (800 : Int32), .ref a0]) (h' := h31) 2 rfl trivial ?_
  refine v_less (kc' := 9 + 1) (ks' := 2696 + 800) (by omega) (by omega) ?_
  refine v_newlN (kc := 9) (ks := 2696) (nn := 800) C0 cokX5_init rfl ac_long (n := (800 : Int32)) rfl (by decide) (by decide) hf (fun σ33 h33 a_33 t33 u33 hf => ?_)
  refine v_putrN C0 tbX5 cokX5_init rfl (ci := 5) (k := 20) rfl rfl (Or.inr ⟨rfl, hnm, rfl⟩) (q_kp u33 (q_ks u32 (q_kp u31 (q_ks u30 (q_kp u29 (q_ks u28 (q_kp u27 (q_ks u26 (q_kp u25 (q_ks u24 (q_kp u23 (q_ks u22 (q_kp u21 (q_ks u20 (q_kp u19 (q_ks u18 (q_kp u17 (q_ks u16 (q_kp u15 (q_ks u14 (q_kp u13 (q_ks u12 (q_kp u11 (q_ks u10 (q_kp u9 (q_ks u8 (q_kp u7 (q_ks u6 (q_kp u5 (q_ks u4 (q_kp u3 (q_ks u2 (q_kp u1 ta0))))))))))))))))))))))))))))))))) (q_tn t33) hf (fun σ34 u34 hf => ?_)
  refine v_run C0 tbX5 cokX5_init (pc' := 144) (lv' := [(0, .ref a0)]) (st' := [.int (51 : Int32), .ref a0]) (h' := h33) 2 rfl trivial ?_
  refine v_less (kc' := 8 + 1) (ks' := 2645 + 51) (by omega) (by omega) ?_
  refine v_newaN (kc := 8) (ks := 2645) (nn := 51) C0 cokX5_init rfl ac_int (n := (51 : Int32)) rfl (by decide) (by decide) hf (fun σ35 h35 a_35 t35 u35 hf => ?_)
  refine v_putrN C0 tbX5 cokX5_init rfl (ci := 5) (k := 26) rfl rfl (Or.inr ⟨rfl, hnm, rfl⟩) (q_kp u35 (q_ks u34 (q_kp u33 (q_ks u32 (q_kp u31 (q_ks u30 (q_kp u29 (q_ks u28 (q_kp u27 (q_ks u26 (q_kp u25 (q_ks u24 (q_kp u23 (q_ks u22 (q_kp u21 (q_ks u20 (q_kp u19 (q_ks u18 (q_kp u17 (q_ks u16 (q_kp u15 (q_ks u14 (q_kp u13 (q_ks u12 (q_kp u11 (q_ks u10 (q_kp u9 (q_ks u8 (q_kp u7 (q_ks u6 (q_kp u5 (q_ks u4 (q_kp u3 (q_ks u2 (q_kp u1 ta0))))))))))))))))))))))))))))))))))) (q_tn t35) hf (fun σ36 u36 hf => ?_)
  refine v_run C0 tbX5 cokX5_init (pc' := 152) (lv' := [(0, .ref a0)]) (st' := [.int (51 : Int32), .ref a0]) (h' := h35) 2 rfl trivial ?_
  refine v_less (kc' := 7 + 1) (ks' := 2594 + 51) (by omega) (by omega) ?_
  refine v_newaN (kc := 7) (ks := 2594) (nn := 51) C0 cokX5_init rfl ac_int (n := (51 : Int32)) rfl (by decide) (by decide) hf (fun σ37 h37 a_37 t37 u37 hf => ?_)
  refine v_putrN C0 tbX5 cokX5_init rfl (ci := 5) (k := 27) rfl rfl (Or.inr ⟨rfl, hnm, rfl⟩) (q_kp u37 (q_ks u36 (q_kp u35 (q_ks u34 (q_kp u33 (q_ks u32 (q_kp u31 (q_ks u30 (q_kp u29 (q_ks u28 (q_kp u27 (q_ks u26 (q_kp u25 (q_ks u24 (q_kp u23 (q_ks u22 (q_kp u21 (q_ks u20 (q_kp u19 (q_ks u18 (q_kp u17 (q_ks u16 (q_kp u15 (q_ks u14 (q_kp u13 (q_ks u12 (q_kp u11 (q_ks u10 (q_kp u9 (q_ks u8 (q_kp u7 (q_ks u6 (q_kp u5 (q_ks u4 (q_kp u3 (q_ks u2 (q_kp u1 ta0))))))))))))))))))))))))))))))))))))) (q_tn t37) hf (fun σ38 u38 hf => ?_)
  refine v_run C0 tbX5 cokX5_init (pc' := 161) (lv' := [(0, .ref a0)]) (st' := [.int (255 : Int32), .ref a0]) (h' := h37) 2 rfl trivial ?_
  refine v_less (kc' := 6 + 1) (ks' := 2339 + 255) (by omega) (by omega) ?_
  refine v_newaN (kc := 6) (ks := 2339) (nn := 255) C0 cokX5_init rfl ac_int (n := (255 : Int32)) rfl (by decide) (by decide) hf (fun σ39 h39 a_39 t39 u39 hf => ?_)
  refine v_putrN C0 tbX5 cokX5_init rfl (ci := 5) (k := 28) rfl rfl (Or.inr ⟨rfl, hnm, rfl⟩) (q_kp u39 (q_ks u38 (q_kp u37 (q_ks u36 (q_kp u35 (q_ks u34 (q_kp u33 (q_ks u32 (q_kp u31 (q_ks u30 (q_kp u29 (q_ks u28 (q_kp u27 (q_ks u26 (q_kp u25 (q_ks u24 (q_kp u23 (q_ks u22 (q_kp u21 (q_ks u20 (q_kp u19 (q_ks u18 (q_kp u17 (q_ks u16 (q_kp u15 (q_ks u14 (q_kp u13 (q_ks u12 (q_kp u11 (q_ks u10 (q_kp u9 (q_ks u8 (q_kp u7 (q_ks u6 (q_kp u5 (q_ks u4 (q_kp u3 (q_ks u2 (q_kp u1 ta0))))))))))))))))))))))))))))))))))))))) (q_tn t39) hf (fun σ40 u40 hf => ?_)
  refine v_run C0 tbX5 cokX5_init (pc' := 169) (lv' := [(0, .ref a0)]) (st' := [.int (90 : Int32), .ref a0]) (h' := h39) 2 rfl trivial ?_
  refine v_less (kc' := 5 + 1) (ks' := 2249 + 90) (by omega) (by omega) ?_
  refine v_newaN (kc := 5) (ks := 2249) (nn := 90) C0 cokX5_init rfl ac_int (n := (90 : Int32)) rfl (by decide) (by decide) hf (fun σ41 h41 a_41 t41 u41 hf => ?_)
  refine v_putrN C0 tbX5 cokX5_init rfl (ci := 5) (k := 29) rfl rfl (Or.inr ⟨rfl, hnm, rfl⟩) (q_kp u41 (q_ks u40 (q_kp u39 (q_ks u38 (q_kp u37 (q_ks u36 (q_kp u35 (q_ks u34 (q_kp u33 (q_ks u32 (q_kp u31 (q_ks u30 (q_kp u29 (q_ks u28 (q_kp u27 (q_ks u26 (q_kp u25 (q_ks u24 (q_kp u23 (q_ks u22 (q_kp u21 (q_ks u20 (q_kp u19 (q_ks u18 (q_kp u17 (q_ks u16 (q_kp u15 (q_ks u14 (q_kp u13 (q_ks u12 (q_kp u11 (q_ks u10 (q_kp u9 (q_ks u8 (q_kp u7 (q_ks u6 (q_kp u5 (q_ks u4 (q_kp u3 (q_ks u2 (q_kp u1 ta0))))))))))))))))))))))))))))))))))))))))) (q_tn t41) hf (fun σ42 u42 hf => ?_)
  refine v_run C0 tbX5 cokX5_init (pc' := 177) (lv' := [(0, .ref a0)]) (st' := [.int (90 : Int32), .ref a0]) (h' := h41) 2 rfl trivial ?_
  refine v_less (kc' := 4 + 1) (ks' := 2159 + 90) (by omega) (by omega) ?_
  refine v_newaN (kc := 4) (ks := 2159) (nn := 90) C0 cokX5_init rfl ac_int (n := (90 : Int32)) rfl (by decide) (by decide) hf (fun σ43 h43 a_43 t43 u43 hf => ?_)
  refine v_putrN C0 tbX5 cokX5_init rfl (ci := 5) (k := 30) rfl rfl (Or.inr ⟨rfl, hnm, rfl⟩) (q_kp u43 (q_ks u42 (q_kp u41 (q_ks u40 (q_kp u39 (q_ks u38 (q_kp u37 (q_ks u36 (q_kp u35 (q_ks u34 (q_kp u33 (q_ks u32 (q_kp u31 (q_ks u30 (q_kp u29 (q_ks u28 (q_kp u27 (q_ks u26 (q_kp u25 (q_ks u24 (q_kp u23 (q_ks u22 (q_kp u21 (q_ks u20 (q_kp u19 (q_ks u18 (q_kp u17 (q_ks u16 (q_kp u15 (q_ks u14 (q_kp u13 (q_ks u12 (q_kp u11 (q_ks u10 (q_kp u9 (q_ks u8 (q_kp u7 (q_ks u6 (q_kp u5 (q_ks u4 (q_kp u3 (q_ks u2 (q_kp u1 ta0))))))))))))))))))))))))))))))))))))))))))) (q_tn t43) hf (fun σ44 u44 hf => ?_)
  refine v_run C0 tbX5 cokX5_init (pc' := 184) (lv' := [(0, .ref a0)]) (st' := [.int (4 : Int32), .ref a0]) (h' := h43) 2 rfl trivial ?_
  refine v_less (kc' := 3 + 1) (ks' := 2155 + 4) (by omega) (by omega) ?_
  refine v_newaN (kc := 3) (ks := 2155) (nn := 4) C0 cokX5_init rfl ac_int (n := (4 : Int32)) rfl (by decide) (by decide) hf (fun σ45 h45 a_45 t45 u45 hf => ?_)
  obtain ⟨⟨g46, g47, g48, g49⟩, hf⟩ := q_gu_o hf
  refine v_run C0 tbX5 cokX5_init (pc' := 202) (lv' := [(0, .ref a0)]) (st' := [.ref a_45, .ref a0]) (h' := (q_si (q_si (q_si (q_si h45 a_45 (Int32.toNatClampNeg (0 : Int32)) (-1 : Int32)) a_45 (Int32.toNatClampNeg (1 : Int32)) (-1 : Int32)) a_45 (Int32.toNatClampNeg (2 : Int32)) (-1 : Int32)) a_45 (Int32.toNatClampNeg (3 : Int32)) (-1 : Int32))) 16 rfl ⟨⟨t45, g46⟩, ⟨t45, g47⟩, ⟨t45, g48⟩, ⟨t45, g49⟩, trivial⟩ ?_
  refine v_putrN C0 tbX5 cokX5_init rfl (ci := 5) (k := 36) rfl rfl (Or.inr ⟨rfl, hnm, rfl⟩) (q_kp u45 (q_ks u44 (q_kp u43 (q_ks u42 (q_kp u41 (q_ks u40 (q_kp u39 (q_ks u38 (q_kp u37 (q_ks u36 (q_kp u35 (q_ks u34 (q_kp u33 (q_ks u32 (q_kp u31 (q_ks u30 (q_kp u29 (q_ks u28 (q_kp u27 (q_ks u26 (q_kp u25 (q_ks u24 (q_kp u23 (q_ks u22 (q_kp u21 (q_ks u20 (q_kp u19 (q_ks u18 (q_kp u17 (q_ks u16 (q_kp u15 (q_ks u14 (q_kp u13 (q_ks u12 (q_kp u11 (q_ks u10 (q_kp u9 (q_ks u8 (q_kp u7 (q_ks u6 (q_kp u5 (q_ks u4 (q_kp u3 (q_ks u2 (q_kp u1 ta0))))))))))))))))))))))))))))))))))))))))))))) (q_tn t45) hf (fun σ50 u50 hf => ?_)
  refine v_run C0 tbX5 cokX5_init (pc' := 209) (lv' := [(0, .ref a0)]) (st' := [.int (2048 : Int32), .ref a0]) (h' := (q_si (q_si (q_si (q_si h45 a_45 (Int32.toNatClampNeg (0 : Int32)) (-1 : Int32)) a_45 (Int32.toNatClampNeg (1 : Int32)) (-1 : Int32)) a_45 (Int32.toNatClampNeg (2 : Int32)) (-1 : Int32)) a_45 (Int32.toNatClampNeg (3 : Int32)) (-1 : Int32))) 2 rfl trivial ?_
  refine v_less (kc' := 2 + 1) (ks' := 107 + 2048) (by omega) (by omega) ?_
  refine v_newaN (kc := 2) (ks := 107) (nn := 2048) C0 cokX5_init rfl ac_int (n := (2048 : Int32)) rfl (by decide) (by decide) hf (fun σ51 h51 a_51 t51 u51 hf => ?_)
  refine v_putrN C0 tbX5 cokX5_init rfl (ci := 5) (k := 39) rfl rfl (Or.inr ⟨rfl, hnm, rfl⟩) (q_kp u51 (q_ks u50 (q_kp u45 (q_ks u44 (q_kp u43 (q_ks u42 (q_kp u41 (q_ks u40 (q_kp u39 (q_ks u38 (q_kp u37 (q_ks u36 (q_kp u35 (q_ks u34 (q_kp u33 (q_ks u32 (q_kp u31 (q_ks u30 (q_kp u29 (q_ks u28 (q_kp u27 (q_ks u26 (q_kp u25 (q_ks u24 (q_kp u23 (q_ks u22 (q_kp u21 (q_ks u20 (q_kp u19 (q_ks u18 (q_kp u17 (q_ks u16 (q_kp u15 (q_ks u14 (q_kp u13 (q_ks u12 (q_kp u11 (q_ks u10 (q_kp u9 (q_ks u8 (q_kp u7 (q_ks u6 (q_kp u5 (q_ks u4 (q_kp u3 (q_ks u2 (q_kp u1 ta0))))))))))))))))))))))))))))))))))))))))))))))) (q_tn t51) hf (fun σ52 u52 hf => ?_)
  refine v_run C0 tbX5 cokX5_init (pc' := 217) (lv' := [(0, .ref a0)]) (st' := [.int (7 : Int32), .ref a0]) (h' := h51) 2 rfl trivial ?_
  refine v_less (kc' := 1 + 1) (ks' := 100 + 7) (by omega) (by omega) ?_
  refine v_newaN (kc := 1) (ks := 100) (nn := 7) C0 cokX5_init rfl ac_int (n := (7 : Int32)) rfl (by decide) (by decide) hf (fun σ53 h53 a_53 t53 u53 hf => ?_)
  refine v_putrN C0 tbX5 cokX5_init rfl (ci := 5) (k := 40) rfl rfl (Or.inr ⟨rfl, hnm, rfl⟩) (q_kp u53 (q_ks u52 (q_kp u51 (q_ks u50 (q_kp u45 (q_ks u44 (q_kp u43 (q_ks u42 (q_kp u41 (q_ks u40 (q_kp u39 (q_ks u38 (q_kp u37 (q_ks u36 (q_kp u35 (q_ks u34 (q_kp u33 (q_ks u32 (q_kp u31 (q_ks u30 (q_kp u29 (q_ks u28 (q_kp u27 (q_ks u26 (q_kp u25 (q_ks u24 (q_kp u23 (q_ks u22 (q_kp u21 (q_ks u20 (q_kp u19 (q_ks u18 (q_kp u17 (q_ks u16 (q_kp u15 (q_ks u14 (q_kp u13 (q_ks u12 (q_kp u11 (q_ks u10 (q_kp u9 (q_ks u8 (q_kp u7 (q_ks u6 (q_kp u5 (q_ks u4 (q_kp u3 (q_ks u2 (q_kp u1 ta0))))))))))))))))))))))))))))))))))))))))))))))))) (q_tn t53) hf (fun σ54 u54 hf => ?_)
  refine v_run C0 tbX5 cokX5_init (pc' := 225) (lv' := [(0, .ref a0)]) (st' := [.int (100 : Int32), .ref a0]) (h' := h53) 2 rfl trivial ?_
  refine v_less (kc' := 0 + 1) (ks' := 0 + 100) (by omega) (by omega) ?_
  refine v_newlN (kc := 0) (ks := 0) (nn := 100) C0 cokX5_init rfl ac_long (n := (100 : Int32)) rfl (by decide) (by decide) hf (fun σ55 h55 a_55 t55 u55 hf => ?_)
  refine v_putrN C0 tbX5 cokX5_init rfl (ci := 5) (k := 43) rfl rfl (Or.inr ⟨rfl, hnm, rfl⟩) (q_kp u55 (q_ks u54 (q_kp u53 (q_ks u52 (q_kp u51 (q_ks u50 (q_kp u45 (q_ks u44 (q_kp u43 (q_ks u42 (q_kp u41 (q_ks u40 (q_kp u39 (q_ks u38 (q_kp u37 (q_ks u36 (q_kp u35 (q_ks u34 (q_kp u33 (q_ks u32 (q_kp u31 (q_ks u30 (q_kp u29 (q_ks u28 (q_kp u27 (q_ks u26 (q_kp u25 (q_ks u24 (q_kp u23 (q_ks u22 (q_kp u21 (q_ks u20 (q_kp u19 (q_ks u18 (q_kp u17 (q_ks u16 (q_kp u15 (q_ks u14 (q_kp u13 (q_ks u12 (q_kp u11 (q_ks u10 (q_kp u9 (q_ks u8 (q_kp u7 (q_ks u6 (q_kp u5 (q_ks u4 (q_kp u3 (q_ks u2 (q_kp u1 ta0))))))))))))))))))))))))))))))))))))))))))))))))))) (q_tn t55) hf (fun σ56 u56 hf => ?_)
  refine v_run C0 tbX5 cokX5_init (pc' := 235) (lv' := [(0, .ref a0)]) (st' := []) (h' := (q_si h55 a0 21 (0 : Int32))) 3 rfl ⟨(q_ks u56 (q_kp u55 (q_ks u54 (q_kp u53 (q_ks u52 (q_kp u51 (q_ks u50 (q_kp u45 (q_ks u44 (q_kp u43 (q_ks u42 (q_kp u41 (q_ks u40 (q_kp u39 (q_ks u38 (q_kp u37 (q_ks u36 (q_kp u35 (q_ks u34 (q_kp u33 (q_ks u32 (q_kp u31 (q_ks u30 (q_kp u29 (q_ks u28 (q_kp u27 (q_ks u26 (q_kp u25 (q_ks u24 (q_kp u23 (q_ks u22 (q_kp u21 (q_ks u20 (q_kp u19 (q_ks u18 (q_kp u17 (q_ks u16 (q_kp u15 (q_ks u14 (q_kp u13 (q_ks u12 (q_kp u11 (q_ks u10 (q_kp u9 (q_ks u8 (q_kp u7 (q_ks u6 (q_kp u5 (q_ks u4 (q_kp u3 (q_ks u2 (q_kp u1 ta0)))))))))))))))))))))))))))))))))))))))))))))))))))), trivial⟩ ?_
  obtain ⟨rfl, rfl⟩ := Prod.mk.inj (Option.some.inj hf)
  exact v_vret C0 cokX5_init hr hlk rfl
