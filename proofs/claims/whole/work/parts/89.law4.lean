/-! the law's cases 28 to 34 -/
def cdL28 : q_Cd := [(1018, .aload_n 1), (1019, .aload_n 0), (1020, .iload 4), (1022, .iconst 1), (1023, .iadd), (1024, .iaload), (1025, .invokevirtual 138), (1028, .aload_n 2), (1029, .aload_n 0), (1030, .iload 4), (1032, .iconst 1), (1033, .iadd), (1034, .iaload), (1035, .invokevirtual 141), (1038, .if_icmp .eq 479), (1041, .iconst 0), (1042, .ireturn)]
set_option maxRecDepth 100000 in
theorem cokL28 : q_cok cL_law cdL28 := by unfold q_cok; decide +kernel
set_option maxRecDepth 100000 in
set_option maxHeartbeats 4000000 in
theorem lw_c28 {p : Program} {l : Launch} {e : Env} {s : State} {m : MethodId} {args : Array Value} {below : List Frame} {meth : Method} {c : Code} {Q : State → Prop} {D : va_G} {cy : Nat → Nat} {b0 kc ks : Nat} {σ : q_St} {h : q_Hp} {b L x : Nat} {xs : Nat → Int32} {i : Int32} {A : Int → Int32} (C0 : VC p room_1 s m args meth c D cy b0 8 60000 400000 RL cL_law) (S : lc_S s b0 b L xs i A) (I : k_Inv σ h x) (kk : ∀ σ h, k_Inv σ h x → V p l e room_1 s m args below meth c Q D cy b0 8 60000 400000 kc ks σ h 1517 (lc_lv b x i) []) : V p l e room_1 s m args below meth c Q D cy b0 8 60000 400000 (kc + 100) (ks + 700) σ h 1018 (lc_lv b x i) [] := by
  obtain ⟨r, h2, e1, e2, I2⟩ := e_forged I (A 1)
  refine v_run C0 tbL cokL28 (pc' := 1019) (lv' := lc_lv b x i) (st' := [.ref x]) (h' := h) 1 rfl trivial ?_
  refine v_arg C0 S cokL28 (pc' := 1025) rfl rfl rfl rfl rfl rfl rfl rfl (k := 1) ⟨by decide, by decide⟩ ?_
  refine v_callV C0 cokL28 rfl (rest := []) (as := [.int (A 1)]) (kc' := kc + 100) (ks' := ks + 700) (ctX4_forged x (A 1) (I_t4 I) e1) calX4_forged lkL_138 inX4_forged dnX4_forged (ci := 4) ⟨rfl, by decide⟩ (I_t4 I) rfl rfl ⟨Nat.le_of_ble_eq_true rfl, Nat.le_of_ble_eq_true rfl⟩ (Nat.le_of_ble_eq_true rfl) (by omega) (by omega) ?_
  refine v_run C0 tbL cokL28 (pc' := 1029) (lv' := lc_lv b x i) (st' := [.ref (x + 88), .int r]) (h' := h) 1 rfl trivial ?_
  refine v_arg C0 S cokL28 (pc' := 1035) rfl rfl rfl rfl rfl rfl rfl rfl (k := 1) ⟨by decide, by decide⟩ ?_
  refine v_callV C0 cokL28 rfl (rest := [.int r]) (as := [.int (A 1)]) (kc' := kc) (ks' := ks) (ctX5_forged (x + 88) (A 1) (I_t5 I) e2) calX5_forged lkL_141 inX5_forged dnX5_forged (ci := 5) ⟨rfl, by decide⟩ (I_t5 I) rfl rfl ⟨Nat.le_of_ble_eq_true rfl, Nat.le_of_ble_eq_true rfl⟩ (Nat.le_of_ble_eq_true rfl) (by omega) (by omega) ?_
  refine v_same C0 cokL28 rfl 1517 (by decide) ?_
  exact kk _ _ I2
def cdL29 : q_Cd := [(1043, .aload_n 1), (1044, .aload_n 0), (1045, .iload 4), (1047, .iconst 1), (1048, .iadd), (1049, .iaload), (1050, .invokevirtual 142), (1053, .aload_n 2), (1054, .aload_n 0), (1055, .iload 4), (1057, .iconst 1), (1058, .iadd), (1059, .iaload), (1060, .invokevirtual 145), (1063, .if_icmp .eq 454), (1066, .iconst 0), (1067, .ireturn)]
set_option maxRecDepth 100000 in
theorem cokL29 : q_cok cL_law cdL29 := by unfold q_cok; decide +kernel
set_option maxRecDepth 100000 in
set_option maxHeartbeats 4000000 in
theorem lw_c29 {p : Program} {l : Launch} {e : Env} {s : State} {m : MethodId} {args : Array Value} {below : List Frame} {meth : Method} {c : Code} {Q : State → Prop} {D : va_G} {cy : Nat → Nat} {b0 kc ks : Nat} {σ : q_St} {h : q_Hp} {b L x : Nat} {xs : Nat → Int32} {i : Int32} {A : Int → Int32} (C0 : VC p room_1 s m args meth c D cy b0 8 60000 400000 RL cL_law) (S : lc_S s b0 b L xs i A) (I : k_Inv σ h x) (kk : ∀ σ h, k_Inv σ h x → V p l e room_1 s m args below meth c Q D cy b0 8 60000 400000 kc ks σ h 1517 (lc_lv b x i) []) : V p l e room_1 s m args below meth c Q D cy b0 8 60000 400000 (kc + 100) (ks + 700) σ h 1043 (lc_lv b x i) [] := by
  obtain ⟨r, h2, e1, e2, I2⟩ := e_judge I (A 1)
  refine v_run C0 tbL cokL29 (pc' := 1044) (lv' := lc_lv b x i) (st' := [.ref x]) (h' := h) 1 rfl trivial ?_
  refine v_arg C0 S cokL29 (pc' := 1050) rfl rfl rfl rfl rfl rfl rfl rfl (k := 1) ⟨by decide, by decide⟩ ?_
  refine v_callV C0 cokL29 rfl (rest := []) (as := [.int (A 1)]) (kc' := kc + 100) (ks' := ks + 700) (ctX4_judge x (A 1) (I_t4 I) e1) calX4_judge lkL_142 inX4_judge dnX4_judge (ci := 4) ⟨rfl, by decide⟩ (I_t4 I) rfl rfl ⟨Nat.le_of_ble_eq_true rfl, Nat.le_of_ble_eq_true rfl⟩ (Nat.le_of_ble_eq_true rfl) (by omega) (by omega) ?_
  refine v_run C0 tbL cokL29 (pc' := 1054) (lv' := lc_lv b x i) (st' := [.ref (x + 88), .int r]) (h' := h) 1 rfl trivial ?_
  refine v_arg C0 S cokL29 (pc' := 1060) rfl rfl rfl rfl rfl rfl rfl rfl (k := 1) ⟨by decide, by decide⟩ ?_
  refine v_callV C0 cokL29 rfl (rest := [.int r]) (as := [.int (A 1)]) (kc' := kc) (ks' := ks) (ctX5_judge (x + 88) (A 1) (I_t5 I) e2) calX5_judge lkL_145 inX5_judge dnX5_judge (ci := 5) ⟨rfl, by decide⟩ (I_t5 I) rfl rfl ⟨Nat.le_of_ble_eq_true rfl, Nat.le_of_ble_eq_true rfl⟩ (Nat.le_of_ble_eq_true rfl) (by omega) (by omega) ?_
  refine v_same C0 cokL29 rfl 1517 (by decide) ?_
  exact kk _ _ I2
def cdL30 : q_Cd := [(1068, .aload_n 1), (1069, .aload_n 0), (1070, .iload 4), (1072, .iconst 1), (1073, .iadd), (1074, .iaload), (1075, .aload_n 0), (1076, .iload 4), (1078, .iconst 2), (1079, .iadd), (1080, .iaload), (1081, .aload_n 0), (1082, .iload 4), (1084, .iconst 3), (1085, .iadd), (1086, .iaload), (1087, .invokevirtual 146), (1090, .aload_n 2), (1091, .aload_n 0), (1092, .iload 4), (1094, .iconst 1), (1095, .iadd), (1096, .iaload), (1097, .aload_n 0), (1098, .iload 4), (1100, .iconst 2), (1101, .iadd), (1102, .iaload), (1103, .aload_n 0), (1104, .iload 4), (1106, .iconst 3), (1107, .iadd), (1108, .iaload), (1109, .invokevirtual 149), (1112, .if_icmp .eq 405), (1115, .iconst 0), (1116, .ireturn)]
set_option maxRecDepth 100000 in
theorem cokL30 : q_cok cL_law cdL30 := by unfold q_cok; decide +kernel
set_option maxRecDepth 100000 in
set_option maxHeartbeats 4000000 in
theorem lw_c30 {p : Program} {l : Launch} {e : Env} {s : State} {m : MethodId} {args : Array Value} {below : List Frame} {meth : Method} {c : Code} {Q : State → Prop} {D : va_G} {cy : Nat → Nat} {b0 kc ks : Nat} {σ : q_St} {h : q_Hp} {b L x : Nat} {xs : Nat → Int32} {i : Int32} {A : Int → Int32} (C0 : VC p room_1 s m args meth c D cy b0 8 60000 400000 RL cL_law) (S : lc_S s b0 b L xs i A) (I : k_Inv σ h x) (kk : ∀ σ h, k_Inv σ h x → V p l e room_1 s m args below meth c Q D cy b0 8 60000 400000 kc ks σ h 1517 (lc_lv b x i) []) : V p l e room_1 s m args below meth c Q D cy b0 8 60000 400000 (kc + 100) (ks + 700) σ h 1068 (lc_lv b x i) [] := by
  obtain ⟨r, σ2, h2, e1, e2, I2⟩ := e_weeks I (A 1) (A 2) (A 3)
  refine v_run C0 tbL cokL30 (pc' := 1069) (lv' := lc_lv b x i) (st' := [.ref x]) (h' := h) 1 rfl trivial ?_
  refine v_arg C0 S cokL30 (pc' := 1075) rfl rfl rfl rfl rfl rfl rfl rfl (k := 1) ⟨by decide, by decide⟩ ?_
  refine v_arg C0 S cokL30 (pc' := 1081) rfl rfl rfl rfl rfl rfl rfl rfl (k := 2) ⟨by decide, by decide⟩ ?_
  refine v_arg C0 S cokL30 (pc' := 1087) rfl rfl rfl rfl rfl rfl rfl rfl (k := 3) ⟨by decide, by decide⟩ ?_
  refine v_callV C0 cokL30 rfl (rest := []) (as := [.int (A 1), .int (A 2), .int (A 3)]) (kc' := kc + 100) (ks' := ks + 700) (ctX4_weeks x (A 1) (A 2) (A 3) (I_t4 I) e1) calX4_weeks lkL_146 inX4_weeks dnX4_weeks (ci := 4) ⟨rfl, by decide⟩ (I_t4 I) rfl rfl ⟨Nat.le_of_ble_eq_true rfl, Nat.le_of_ble_eq_true rfl⟩ (Nat.le_of_ble_eq_true rfl) (by omega) (by omega) ?_
  refine v_run C0 tbL cokL30 (pc' := 1091) (lv' := lc_lv b x i) (st' := [.ref (x + 88), .int r]) (h' := h) 1 rfl trivial ?_
  refine v_arg C0 S cokL30 (pc' := 1097) rfl rfl rfl rfl rfl rfl rfl rfl (k := 1) ⟨by decide, by decide⟩ ?_
  refine v_arg C0 S cokL30 (pc' := 1103) rfl rfl rfl rfl rfl rfl rfl rfl (k := 2) ⟨by decide, by decide⟩ ?_
  refine v_arg C0 S cokL30 (pc' := 1109) rfl rfl rfl rfl rfl rfl rfl rfl (k := 3) ⟨by decide, by decide⟩ ?_
  refine v_callV C0 cokL30 rfl (rest := [.int r]) (as := [.int (A 1), .int (A 2), .int (A 3)]) (kc' := kc) (ks' := ks) (ctX5_weeks (x + 88) (A 1) (A 2) (A 3) (I_t5 I) e2) calX5_weeks lkL_149 inX5_weeks dnX5_weeks (ci := 5) ⟨rfl, by decide⟩ (I_t5 I) rfl rfl ⟨Nat.le_of_ble_eq_true rfl, Nat.le_of_ble_eq_true rfl⟩ (Nat.le_of_ble_eq_true rfl) (by omega) (by omega) ?_
  refine v_same C0 cokL30 rfl 1517 (by decide) ?_
  exact kk _ _ I2
def cdL31 : q_Cd := [(1117, .aload_n 1), (1118, .invokevirtual 150), (1121, .aload_n 2), (1122, .invokevirtual 153), (1125, .if_icmp .eq 392), (1128, .iconst 0), (1129, .ireturn)]
set_option maxRecDepth 100000 in
theorem cokL31 : q_cok cL_law cdL31 := by unfold q_cok; decide +kernel
set_option maxRecDepth 100000 in
set_option maxHeartbeats 4000000 in
theorem lw_c31 {p : Program} {l : Launch} {e : Env} {s : State} {m : MethodId} {args : Array Value} {below : List Frame} {meth : Method} {c : Code} {Q : State → Prop} {D : va_G} {cy : Nat → Nat} {b0 kc ks : Nat} {σ : q_St} {h : q_Hp} {b L x : Nat} {xs : Nat → Int32} {i : Int32} {A : Int → Int32} (C0 : VC p room_1 s m args meth c D cy b0 8 60000 400000 RL cL_law) (S : lc_S s b0 b L xs i A) (I : k_Inv σ h x) (kk : ∀ σ h, k_Inv σ h x → V p l e room_1 s m args below meth c Q D cy b0 8 60000 400000 kc ks σ h 1517 (lc_lv b x i) []) : V p l e room_1 s m args below meth c Q D cy b0 8 60000 400000 (kc + 100) (ks + 700) σ h 1117 (lc_lv b x i) [] := by
  obtain ⟨r, σ1, h1, σ2, h2, t5, e1, e2, I2⟩ := e_image I
  refine v_run C0 tbL cokL31 (pc' := 1118) (lv' := lc_lv b x i) (st' := [.ref x]) (h' := h) 1 rfl trivial ?_
  refine v_callV C0 cokL31 rfl (rest := []) (as := []) (kc' := kc + 100) (ks' := ks + 700) (ctX4_image x  (I_t4 I) e1) calX4_image lkL_150 inX4_image dnX4_image (ci := 4) ⟨rfl, by decide⟩ (I_t4 I) rfl rfl ⟨Nat.le_of_ble_eq_true rfl, Nat.le_of_ble_eq_true rfl⟩ (Nat.le_of_ble_eq_true rfl) (by omega) (by omega) ?_
  refine v_run C0 tbL cokL31 (pc' := 1122) (lv' := lc_lv b x i) (st' := [.ref (x + 88), .int r]) (h' := h1) 1 rfl trivial ?_
  refine v_callV C0 cokL31 rfl (rest := [.int r]) (as := []) (kc' := kc) (ks' := ks) (ctX5_image (x + 88)  t5 e2) calX5_image lkL_153 inX5_image dnX5_image (ci := 5) ⟨rfl, by decide⟩ t5 rfl rfl ⟨Nat.le_of_ble_eq_true rfl, Nat.le_of_ble_eq_true rfl⟩ (Nat.le_of_ble_eq_true rfl) (by omega) (by omega) ?_
  refine v_same C0 cokL31 rfl 1517 (by decide) ?_
  exact kk _ _ I2
def cdL32 : q_Cd := [(1130, .aload_n 1), (1131, .invokevirtual 154), (1134, .aload_n 2), (1135, .invokevirtual 157), (1138, .if_icmp .eq 379), (1141, .iconst 0), (1142, .ireturn)]
set_option maxRecDepth 100000 in
theorem cokL32 : q_cok cL_law cdL32 := by unfold q_cok; decide +kernel
set_option maxRecDepth 100000 in
set_option maxHeartbeats 4000000 in
theorem lw_c32 {p : Program} {l : Launch} {e : Env} {s : State} {m : MethodId} {args : Array Value} {below : List Frame} {meth : Method} {c : Code} {Q : State → Prop} {D : va_G} {cy : Nat → Nat} {b0 kc ks : Nat} {σ : q_St} {h : q_Hp} {b L x : Nat} {xs : Nat → Int32} {i : Int32} {A : Int → Int32} (C0 : VC p room_1 s m args meth c D cy b0 8 60000 400000 RL cL_law) (S : lc_S s b0 b L xs i A) (I : k_Inv σ h x) (kk : ∀ σ h, k_Inv σ h x → V p l e room_1 s m args below meth c Q D cy b0 8 60000 400000 kc ks σ h 1517 (lc_lv b x i) []) : V p l e room_1 s m args below meth c Q D cy b0 8 60000 400000 (kc + 100) (ks + 700) σ h 1130 (lc_lv b x i) [] := by
  obtain ⟨r, σ1, h1, σ2, h2, t5, e1, e2, I2⟩ := e_restore I
  refine v_run C0 tbL cokL32 (pc' := 1131) (lv' := lc_lv b x i) (st' := [.ref x]) (h' := h) 1 rfl trivial ?_
  refine v_callV C0 cokL32 rfl (rest := []) (as := []) (kc' := kc + 100) (ks' := ks + 700) (ctX4_restore x  (I_t4 I) e1) calX4_restore lkL_154 inX4_restore dnX4_restore (ci := 4) ⟨rfl, by decide⟩ (I_t4 I) rfl rfl ⟨Nat.le_of_ble_eq_true rfl, Nat.le_of_ble_eq_true rfl⟩ (Nat.le_of_ble_eq_true rfl) (by omega) (by omega) ?_
  refine v_run C0 tbL cokL32 (pc' := 1135) (lv' := lc_lv b x i) (st' := [.ref (x + 88), .int r]) (h' := h1) 1 rfl trivial ?_
  refine v_callV C0 cokL32 rfl (rest := [.int r]) (as := []) (kc' := kc) (ks' := ks) (ctX5_restore (x + 88)  t5 e2) calX5_restore lkL_157 inX5_restore dnX5_restore (ci := 5) ⟨rfl, by decide⟩ t5 rfl rfl ⟨Nat.le_of_ble_eq_true rfl, Nat.le_of_ble_eq_true rfl⟩ (Nat.le_of_ble_eq_true rfl) (by omega) (by omega) ?_
  refine v_same C0 cokL32 rfl 1517 (by decide) ?_
  exact kk _ _ I2
def cdL33 : q_Cd := [(1143, .aload_n 1), (1144, .aload_n 0), (1145, .iload 4), (1147, .iconst 1), (1148, .iadd), (1149, .iaload), (1150, .invokevirtual 158), (1153, .aload_n 2), (1154, .aload_n 0), (1155, .iload 4), (1157, .iconst 1), (1158, .iadd), (1159, .iaload), (1160, .invokevirtual 161), (1163, .if_icmp .eq 354), (1166, .iconst 0), (1167, .ireturn)]
set_option maxRecDepth 100000 in
theorem cokL33 : q_cok cL_law cdL33 := by unfold q_cok; decide +kernel
set_option maxRecDepth 100000 in
set_option maxHeartbeats 4000000 in
theorem lw_c33 {p : Program} {l : Launch} {e : Env} {s : State} {m : MethodId} {args : Array Value} {below : List Frame} {meth : Method} {c : Code} {Q : State → Prop} {D : va_G} {cy : Nat → Nat} {b0 kc ks : Nat} {σ : q_St} {h : q_Hp} {b L x : Nat} {xs : Nat → Int32} {i : Int32} {A : Int → Int32} (C0 : VC p room_1 s m args meth c D cy b0 8 60000 400000 RL cL_law) (S : lc_S s b0 b L xs i A) (I : k_Inv σ h x) (kk : ∀ σ h, k_Inv σ h x → V p l e room_1 s m args below meth c Q D cy b0 8 60000 400000 kc ks σ h 1517 (lc_lv b x i) []) : V p l e room_1 s m args below meth c Q D cy b0 8 60000 400000 (kc + 100) (ks + 700) σ h 1143 (lc_lv b x i) [] := by
  obtain ⟨r, h2, e1, e2, I2⟩ := e_count I (A 1)
  refine v_run C0 tbL cokL33 (pc' := 1144) (lv' := lc_lv b x i) (st' := [.ref x]) (h' := h) 1 rfl trivial ?_
  refine v_arg C0 S cokL33 (pc' := 1150) rfl rfl rfl rfl rfl rfl rfl rfl (k := 1) ⟨by decide, by decide⟩ ?_
  refine v_callV C0 cokL33 rfl (rest := []) (as := [.int (A 1)]) (kc' := kc + 100) (ks' := ks + 700) (ctX4_count x (A 1) (I_t4 I) e1) calX4_count lkL_158 inX4_count dnX4_count (ci := 4) ⟨rfl, by decide⟩ (I_t4 I) rfl rfl ⟨Nat.le_of_ble_eq_true rfl, Nat.le_of_ble_eq_true rfl⟩ (Nat.le_of_ble_eq_true rfl) (by omega) (by omega) ?_
  refine v_run C0 tbL cokL33 (pc' := 1154) (lv' := lc_lv b x i) (st' := [.ref (x + 88), .int r]) (h' := h) 1 rfl trivial ?_
  refine v_arg C0 S cokL33 (pc' := 1160) rfl rfl rfl rfl rfl rfl rfl rfl (k := 1) ⟨by decide, by decide⟩ ?_
  refine v_callV C0 cokL33 rfl (rest := [.int r]) (as := [.int (A 1)]) (kc' := kc) (ks' := ks) (ctX5_count (x + 88) (A 1) (I_t5 I) e2) calX5_count lkL_161 inX5_count dnX5_count (ci := 5) ⟨rfl, by decide⟩ (I_t5 I) rfl rfl ⟨Nat.le_of_ble_eq_true rfl, Nat.le_of_ble_eq_true rfl⟩ (Nat.le_of_ble_eq_true rfl) (by omega) (by omega) ?_
  refine v_same C0 cokL33 rfl 1517 (by decide) ?_
  exact kk _ _ I2
def cdL34 : q_Cd := [(1168, .aload_n 1), (1169, .aload_n 0), (1170, .iload 4), (1172, .iconst 1), (1173, .iadd), (1174, .iaload), (1175, .aload_n 0), (1176, .iload 4), (1178, .iconst 2), (1179, .iadd), (1180, .iaload), (1181, .aload_n 0), (1182, .iload 4), (1184, .iconst 3), (1185, .iadd), (1186, .iaload), (1187, .aload_n 0), (1188, .iload 4), (1190, .iconst 4), (1191, .iadd), (1192, .iaload), (1193, .invokevirtual 162), (1196, .aload_n 2), (1197, .aload_n 0), (1198, .iload 4), (1200, .iconst 1), (1201, .iadd), (1202, .iaload), (1203, .aload_n 0), (1204, .iload 4), (1206, .iconst 2), (1207, .iadd), (1208, .iaload), (1209, .aload_n 0), (1210, .iload 4), (1212, .iconst 3), (1213, .iadd), (1214, .iaload), (1215, .aload_n 0), (1216, .iload 4), (1218, .iconst 4), (1219, .iadd), (1220, .iaload), (1221, .invokevirtual 166), (1224, .if_icmp .eq 293), (1227, .iconst 0), (1228, .ireturn)]
set_option maxRecDepth 100000 in
theorem cokL34 : q_cok cL_law cdL34 := by unfold q_cok; decide +kernel
set_option maxRecDepth 100000 in
set_option maxHeartbeats 4000000 in
theorem lw_c34 {p : Program} {l : Launch} {e : Env} {s : State} {m : MethodId} {args : Array Value} {below : List Frame} {meth : Method} {c : Code} {Q : State → Prop} {D : va_G} {cy : Nat → Nat} {b0 kc ks : Nat} {σ : q_St} {h : q_Hp} {b L x : Nat} {xs : Nat → Int32} {i : Int32} {A : Int → Int32} (C0 : VC p room_1 s m args meth c D cy b0 8 60000 400000 RL cL_law) (S : lc_S s b0 b L xs i A) (I : k_Inv σ h x) (kk : ∀ σ h, k_Inv σ h x → V p l e room_1 s m args below meth c Q D cy b0 8 60000 400000 kc ks σ h 1517 (lc_lv b x i) []) : V p l e room_1 s m args below meth c Q D cy b0 8 60000 400000 (kc + 100) (ks + 700) σ h 1168 (lc_lv b x i) [] := by
  obtain ⟨r, σ1, h1, h2, e1, e2, I2⟩ := e_keep I (A 1) (A 2) (A 3) (A 4)
  refine v_run C0 tbL cokL34 (pc' := 1169) (lv' := lc_lv b x i) (st' := [.ref x]) (h' := h) 1 rfl trivial ?_
  refine v_arg C0 S cokL34 (pc' := 1175) rfl rfl rfl rfl rfl rfl rfl rfl (k := 1) ⟨by decide, by decide⟩ ?_
  refine v_arg C0 S cokL34 (pc' := 1181) rfl rfl rfl rfl rfl rfl rfl rfl (k := 2) ⟨by decide, by decide⟩ ?_
  refine v_arg C0 S cokL34 (pc' := 1187) rfl rfl rfl rfl rfl rfl rfl rfl (k := 3) ⟨by decide, by decide⟩ ?_
  refine v_arg C0 S cokL34 (pc' := 1193) rfl rfl rfl rfl rfl rfl rfl rfl (k := 4) ⟨by decide, by decide⟩ ?_
  refine v_callV C0 cokL34 rfl (rest := []) (as := [.int (A 1), .int (A 2), .int (A 3), .int (A 4)]) (kc' := kc + 99) (ks' := ks + 693) (ctX4_keep x (A 1) (A 2) (A 3) (A 4) (I_t4 I) e1) calX4_keep lkL_162 inX4_keep dnX4_keep (ci := 4) ⟨rfl, by decide⟩ (I_t4 I) rfl rfl ⟨Nat.le_of_ble_eq_true rfl, Nat.le_of_ble_eq_true rfl⟩ (Nat.le_of_ble_eq_true rfl) (by omega) (by omega) ?_
  refine v_run C0 tbL cokL34 (pc' := 1197) (lv' := lc_lv b x i) (st' := [.ref (x + 88), .int r]) (h' := h1) 1 rfl trivial ?_
  refine v_arg C0 S cokL34 (pc' := 1203) rfl rfl rfl rfl rfl rfl rfl rfl (k := 1) ⟨by decide, by decide⟩ ?_
  refine v_arg C0 S cokL34 (pc' := 1209) rfl rfl rfl rfl rfl rfl rfl rfl (k := 2) ⟨by decide, by decide⟩ ?_
  refine v_arg C0 S cokL34 (pc' := 1215) rfl rfl rfl rfl rfl rfl rfl rfl (k := 3) ⟨by decide, by decide⟩ ?_
  refine v_arg C0 S cokL34 (pc' := 1221) rfl rfl rfl rfl rfl rfl rfl rfl (k := 4) ⟨by decide, by decide⟩ ?_
  refine v_callV C0 cokL34 rfl (rest := [.int r]) (as := [.int (A 1), .int (A 2), .int (A 3), .int (A 4)]) (kc' := kc) (ks' := ks) (ctX5_keep (x + 88) (A 1) (A 2) (A 3) (A 4) (I_t5 I2) e2) calX5_keep lkL_166 inX5_keep dnX5_keep (ci := 5) ⟨rfl, by decide⟩ (I_t5 I2) rfl rfl ⟨Nat.le_of_ble_eq_true rfl, Nat.le_of_ble_eq_true rfl⟩ (Nat.le_of_ble_eq_true rfl) (by omega) (by omega) ?_
  refine v_same C0 cokL34 rfl 1517 (by decide) ?_
  exact kk _ _ I2
