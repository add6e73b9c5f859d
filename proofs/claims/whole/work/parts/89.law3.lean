/-! the law's cases 21 to 27 -/
def cdL21 : q_Cd := [(783, .aload_n 1), (784, .aload_n 0), (785, .iload 4), (787, .iconst 1), (788, .iadd), (789, .iaload), (790, .aload_n 0), (791, .iload 4), (793, .iconst 2), (794, .iadd), (795, .iaload), (796, .invokevirtual 110), (799, .aload_n 2), (800, .aload_n 0), (801, .iload 4), (803, .iconst 1), (804, .iadd), (805, .iaload), (806, .aload_n 0), (807, .iload 4), (809, .iconst 2), (810, .iadd), (811, .iaload), (812, .invokevirtual 113), (815, .if_icmp .eq 702), (818, .iconst 0), (819, .ireturn)]
set_option maxRecDepth 100000 in
theorem cokL21 : q_cok cL_law cdL21 := by unfold q_cok; decide +kernel
set_option maxRecDepth 100000 in
set_option maxHeartbeats 4000000 in
theorem lw_c21 {p : Program} {l : Launch} {e : Env} {s : State} {m : MethodId} {args : Array Value} {below : List Frame} {meth : Method} {c : Code} {Q : State → Prop} {D : va_G} {cy : Nat → Nat} {b0 kc ks : Nat} {σ : q_St} {h : q_Hp} {b L x : Nat} {xs : Nat → Int32} {i : Int32} {A : Int → Int32} (C0 : VC p room_1 s m args meth c D cy b0 8 60000 400000 RL cL_law) (S : lc_S s b0 b L xs i A) (I : k_Inv σ h x) (kk : ∀ σ h, k_Inv σ h x → V p l e room_1 s m args below meth c Q D cy b0 8 60000 400000 kc ks σ h 1517 (lc_lv b x i) []) : V p l e room_1 s m args below meth c Q D cy b0 8 60000 400000 (kc + 100) (ks + 700) σ h 783 (lc_lv b x i) [] := by
  obtain ⟨r, h2, e1, e2, I2⟩ := e_fee I (A 1) (A 2)
  refine v_run C0 tbL cokL21 (pc' := 784) (lv' := lc_lv b x i) (st' := [.ref x]) (h' := h) 1 rfl trivial ?_
  refine v_arg C0 S cokL21 (pc' := 790) rfl rfl rfl rfl rfl rfl rfl rfl (k := 1) ⟨by decide, by decide⟩ ?_
  refine v_arg C0 S cokL21 (pc' := 796) rfl rfl rfl rfl rfl rfl rfl rfl (k := 2) ⟨by decide, by decide⟩ ?_
  refine v_callV C0 cokL21 rfl (rest := []) (as := [.int (A 1), .int (A 2)]) (kc' := kc + 100) (ks' := ks + 700) (ctX4_fee x (A 1) (A 2) (I_t4 I) e1) calX4_fee lkL_110 inX4_fee dnX4_fee (ci := 4) ⟨rfl, by decide⟩ (I_t4 I) rfl rfl ⟨Nat.le_of_ble_eq_true rfl, Nat.le_of_ble_eq_true rfl⟩ (Nat.le_of_ble_eq_true rfl) (by omega) (by omega) ?_
  refine v_run C0 tbL cokL21 (pc' := 800) (lv' := lc_lv b x i) (st' := [.ref (x + 88), .int r]) (h' := h) 1 rfl trivial ?_
  refine v_arg C0 S cokL21 (pc' := 806) rfl rfl rfl rfl rfl rfl rfl rfl (k := 1) ⟨by decide, by decide⟩ ?_
  refine v_arg C0 S cokL21 (pc' := 812) rfl rfl rfl rfl rfl rfl rfl rfl (k := 2) ⟨by decide, by decide⟩ ?_
  refine v_callV C0 cokL21 rfl (rest := [.int r]) (as := [.int (A 1), .int (A 2)]) (kc' := kc) (ks' := ks) (ctX5_fee (x + 88) (A 1) (A 2) (I_t5 I) e2) calX5_fee lkL_113 inX5_fee dnX5_fee (ci := 5) ⟨rfl, by decide⟩ (I_t5 I) rfl rfl ⟨Nat.le_of_ble_eq_true rfl, Nat.le_of_ble_eq_true rfl⟩ (Nat.le_of_ble_eq_true rfl) (by omega) (by omega) ?_
  refine v_same C0 cokL21 rfl 1517 (by decide) ?_
  exact kk _ _ I2
def cdL22 : q_Cd := [(820, .aload_n 1), (821, .invokevirtual 114), (824, .aload_n 2), (825, .invokevirtual 117), (828, .if_icmp .eq 689), (831, .iconst 0), (832, .ireturn)]
set_option maxRecDepth 100000 in
theorem cokL22 : q_cok cL_law cdL22 := by unfold q_cok; decide +kernel
set_option maxRecDepth 100000 in
set_option maxHeartbeats 4000000 in
theorem lw_c22 {p : Program} {l : Launch} {e : Env} {s : State} {m : MethodId} {args : Array Value} {below : List Frame} {meth : Method} {c : Code} {Q : State → Prop} {D : va_G} {cy : Nat → Nat} {b0 kc ks : Nat} {σ : q_St} {h : q_Hp} {b L x : Nat} {xs : Nat → Int32} {i : Int32} {A : Int → Int32} (C0 : VC p room_1 s m args meth c D cy b0 8 60000 400000 RL cL_law) (S : lc_S s b0 b L xs i A) (I : k_Inv σ h x) (kk : ∀ σ h, k_Inv σ h x → V p l e room_1 s m args below meth c Q D cy b0 8 60000 400000 kc ks σ h 1517 (lc_lv b x i) []) : V p l e room_1 s m args below meth c Q D cy b0 8 60000 400000 (kc + 100) (ks + 700) σ h 820 (lc_lv b x i) [] := by
  obtain ⟨r, h2, e1, e2, I2⟩ := e_bestFee I
  refine v_run C0 tbL cokL22 (pc' := 821) (lv' := lc_lv b x i) (st' := [.ref x]) (h' := h) 1 rfl trivial ?_
  refine v_callV C0 cokL22 rfl (rest := []) (as := []) (kc' := kc + 100) (ks' := ks + 700) (ctX4_bestFee x  (I_t4 I) e1) calX4_bestFee lkL_114 inX4_bestFee dnX4_bestFee (ci := 4) ⟨rfl, by decide⟩ (I_t4 I) rfl rfl ⟨Nat.le_of_ble_eq_true rfl, Nat.le_of_ble_eq_true rfl⟩ (Nat.le_of_ble_eq_true rfl) (by omega) (by omega) ?_
  refine v_run C0 tbL cokL22 (pc' := 825) (lv' := lc_lv b x i) (st' := [.ref (x + 88), .int r]) (h' := h) 1 rfl trivial ?_
  refine v_callV C0 cokL22 rfl (rest := [.int r]) (as := []) (kc' := kc) (ks' := ks) (ctX5_bestFee (x + 88)  (I_t5 I) e2) calX5_bestFee lkL_117 inX5_bestFee dnX5_bestFee (ci := 5) ⟨rfl, by decide⟩ (I_t5 I) rfl rfl ⟨Nat.le_of_ble_eq_true rfl, Nat.le_of_ble_eq_true rfl⟩ (Nat.le_of_ble_eq_true rfl) (by omega) (by omega) ?_
  refine v_same C0 cokL22 rfl 1517 (by decide) ?_
  exact kk _ _ I2
def cdL23 : q_Cd := [(833, .aload_n 1), (834, .aload_n 0), (835, .iload 4), (837, .iconst 1), (838, .iadd), (839, .iaload), (840, .aload_n 0), (841, .iload 4), (843, .iconst 2), (844, .iadd), (845, .iaload), (846, .aload_n 0), (847, .iload 4), (849, .iconst 3), (850, .iadd), (851, .iaload), (852, .invokevirtual 118), (855, .aload_n 2), (856, .aload_n 0), (857, .iload 4), (859, .iconst 1), (860, .iadd), (861, .iaload), (862, .aload_n 0), (863, .iload 4), (865, .iconst 2), (866, .iadd), (867, .iaload), (868, .aload_n 0), (869, .iload 4), (871, .iconst 3), (872, .iadd), (873, .iaload), (874, .invokevirtual 121), (877, .if_icmp .eq 640), (880, .iconst 0), (881, .ireturn)]
set_option maxRecDepth 100000 in
theorem cokL23 : q_cok cL_law cdL23 := by unfold q_cok; decide +kernel
set_option maxRecDepth 100000 in
set_option maxHeartbeats 4000000 in
theorem lw_c23 {p : Program} {l : Launch} {e : Env} {s : State} {m : MethodId} {args : Array Value} {below : List Frame} {meth : Method} {c : Code} {Q : State → Prop} {D : va_G} {cy : Nat → Nat} {b0 kc ks : Nat} {σ : q_St} {h : q_Hp} {b L x : Nat} {xs : Nat → Int32} {i : Int32} {A : Int → Int32} (C0 : VC p room_1 s m args meth c D cy b0 8 60000 400000 RL cL_law) (S : lc_S s b0 b L xs i A) (I : k_Inv σ h x) (kk : ∀ σ h, k_Inv σ h x → V p l e room_1 s m args below meth c Q D cy b0 8 60000 400000 kc ks σ h 1517 (lc_lv b x i) []) : V p l e room_1 s m args below meth c Q D cy b0 8 60000 400000 (kc + 100) (ks + 700) σ h 833 (lc_lv b x i) [] := by
  obtain ⟨r, h2, e1, e2, I2⟩ := e_atFive I (A 1) (A 2) (A 3)
  refine v_run C0 tbL cokL23 (pc' := 834) (lv' := lc_lv b x i) (st' := [.ref x]) (h' := h) 1 rfl trivial ?_
  refine v_arg C0 S cokL23 (pc' := 840) rfl rfl rfl rfl rfl rfl rfl rfl (k := 1) ⟨by decide, by decide⟩ ?_
  refine v_arg C0 S cokL23 (pc' := 846) rfl rfl rfl rfl rfl rfl rfl rfl (k := 2) ⟨by decide, by decide⟩ ?_
  refine v_arg C0 S cokL23 (pc' := 852) rfl rfl rfl rfl rfl rfl rfl rfl (k := 3) ⟨by decide, by decide⟩ ?_
  refine v_callV C0 cokL23 rfl (rest := []) (as := [.int (A 1), .int (A 2), .int (A 3)]) (kc' := kc + 100) (ks' := ks + 700) (ctX4_atFive x (A 1) (A 2) (A 3) (I_t4 I) e1) calX4_atFive lkL_118 inX4_atFive dnX4_atFive (ci := 4) ⟨rfl, by decide⟩ (I_t4 I) rfl rfl ⟨Nat.le_of_ble_eq_true rfl, Nat.le_of_ble_eq_true rfl⟩ (Nat.le_of_ble_eq_true rfl) (by omega) (by omega) ?_
  refine v_run C0 tbL cokL23 (pc' := 856) (lv' := lc_lv b x i) (st' := [.ref (x + 88), .int r]) (h' := h) 1 rfl trivial ?_
  refine v_arg C0 S cokL23 (pc' := 862) rfl rfl rfl rfl rfl rfl rfl rfl (k := 1) ⟨by decide, by decide⟩ ?_
  refine v_arg C0 S cokL23 (pc' := 868) rfl rfl rfl rfl rfl rfl rfl rfl (k := 2) ⟨by decide, by decide⟩ ?_
  refine v_arg C0 S cokL23 (pc' := 874) rfl rfl rfl rfl rfl rfl rfl rfl (k := 3) ⟨by decide, by decide⟩ ?_
  refine v_callV C0 cokL23 rfl (rest := [.int r]) (as := [.int (A 1), .int (A 2), .int (A 3)]) (kc' := kc) (ks' := ks) (ctX5_atFive (x + 88) (A 1) (A 2) (A 3) (I_t5 I) e2) calX5_atFive lkL_121 inX5_atFive dnX5_atFive (ci := 5) ⟨rfl, by decide⟩ (I_t5 I) rfl rfl ⟨Nat.le_of_ble_eq_true rfl, Nat.le_of_ble_eq_true rfl⟩ (Nat.le_of_ble_eq_true rfl) (by omega) (by omega) ?_
  refine v_same C0 cokL23 rfl 1517 (by decide) ?_
  exact kk _ _ I2
def cdL24 : q_Cd := [(882, .aload_n 1), (883, .aload_n 0), (884, .iload 4), (886, .iconst 1), (887, .iadd), (888, .iaload), (889, .aload_n 0), (890, .iload 4), (892, .iconst 2), (893, .iadd), (894, .iaload), (895, .aload_n 0), (896, .iload 4), (898, .iconst 3), (899, .iadd), (900, .iaload), (901, .invokevirtual 122), (904, .aload_n 2), (905, .aload_n 0), (906, .iload 4), (908, .iconst 1), (909, .iadd), (910, .iaload), (911, .aload_n 0), (912, .iload 4), (914, .iconst 2), (915, .iadd), (916, .iaload), (917, .aload_n 0), (918, .iload 4), (920, .iconst 3), (921, .iadd), (922, .iaload), (923, .invokevirtual 125), (926, .if_icmp .eq 591), (929, .iconst 0), (930, .ireturn)]
set_option maxRecDepth 100000 in
theorem cokL24 : q_cok cL_law cdL24 := by unfold q_cok; decide +kernel
set_option maxRecDepth 100000 in
set_option maxHeartbeats 4000000 in
theorem lw_c24 {p : Program} {l : Launch} {e : Env} {s : State} {m : MethodId} {args : Array Value} {below : List Frame} {meth : Method} {c : Code} {Q : State → Prop} {D : va_G} {cy : Nat → Nat} {b0 kc ks : Nat} {σ : q_St} {h : q_Hp} {b L x : Nat} {xs : Nat → Int32} {i : Int32} {A : Int → Int32} (C0 : VC p room_1 s m args meth c D cy b0 8 60000 400000 RL cL_law) (S : lc_S s b0 b L xs i A) (I : k_Inv σ h x) (kk : ∀ σ h, k_Inv σ h x → V p l e room_1 s m args below meth c Q D cy b0 8 60000 400000 kc ks σ h 1517 (lc_lv b x i) []) : V p l e room_1 s m args below meth c Q D cy b0 8 60000 400000 (kc + 100) (ks + 700) σ h 882 (lc_lv b x i) [] := by
  obtain ⟨r, h2, e1, e2, I2⟩ := e_taxi I (A 1) (A 2) (A 3)
  refine v_run C0 tbL cokL24 (pc' := 883) (lv' := lc_lv b x i) (st' := [.ref x]) (h' := h) 1 rfl trivial ?_
  refine v_arg C0 S cokL24 (pc' := 889) rfl rfl rfl rfl rfl rfl rfl rfl (k := 1) ⟨by decide, by decide⟩ ?_
  refine v_arg C0 S cokL24 (pc' := 895) rfl rfl rfl rfl rfl rfl rfl rfl (k := 2) ⟨by decide, by decide⟩ ?_
  refine v_arg C0 S cokL24 (pc' := 901) rfl rfl rfl rfl rfl rfl rfl rfl (k := 3) ⟨by decide, by decide⟩ ?_
  refine v_callV C0 cokL24 rfl (rest := []) (as := [.int (A 1), .int (A 2), .int (A 3)]) (kc' := kc + 100) (ks' := ks + 700) (ctX4_taxi x (A 1) (A 2) (A 3) (I_t4 I) e1) calX4_taxi lkL_122 inX4_taxi dnX4_taxi (ci := 4) ⟨rfl, by decide⟩ (I_t4 I) rfl rfl ⟨Nat.le_of_ble_eq_true rfl, Nat.le_of_ble_eq_true rfl⟩ (Nat.le_of_ble_eq_true rfl) (by omega) (by omega) ?_
  refine v_run C0 tbL cokL24 (pc' := 905) (lv' := lc_lv b x i) (st' := [.ref (x + 88), .int r]) (h' := h) 1 rfl trivial ?_
  refine v_arg C0 S cokL24 (pc' := 911) rfl rfl rfl rfl rfl rfl rfl rfl (k := 1) ⟨by decide, by decide⟩ ?_
  refine v_arg C0 S cokL24 (pc' := 917) rfl rfl rfl rfl rfl rfl rfl rfl (k := 2) ⟨by decide, by decide⟩ ?_
  refine v_arg C0 S cokL24 (pc' := 923) rfl rfl rfl rfl rfl rfl rfl rfl (k := 3) ⟨by decide, by decide⟩ ?_
  refine v_callV C0 cokL24 rfl (rest := [.int r]) (as := [.int (A 1), .int (A 2), .int (A 3)]) (kc' := kc) (ks' := ks) (ctX5_taxi (x + 88) (A 1) (A 2) (A 3) (I_t5 I) e2) calX5_taxi lkL_125 inX5_taxi dnX5_taxi (ci := 5) ⟨rfl, by decide⟩ (I_t5 I) rfl rfl ⟨Nat.le_of_ble_eq_true rfl, Nat.le_of_ble_eq_true rfl⟩ (Nat.le_of_ble_eq_true rfl) (by omega) (by omega) ?_
  refine v_same C0 cokL24 rfl 1517 (by decide) ?_
  exact kk _ _ I2
def cdL25 : q_Cd := [(931, .aload_n 1), (932, .aload_n 0), (933, .iload 4), (935, .iconst 1), (936, .iadd), (937, .iaload), (938, .invokevirtual 126), (941, .aload_n 2), (942, .aload_n 0), (943, .iload 4), (945, .iconst 1), (946, .iadd), (947, .iaload), (948, .invokevirtual 129), (951, .if_icmp .eq 566), (954, .iconst 0), (955, .ireturn)]
set_option maxRecDepth 100000 in
theorem cokL25 : q_cok cL_law cdL25 := by unfold q_cok; decide +kernel
set_option maxRecDepth 100000 in
set_option maxHeartbeats 4000000 in
theorem lw_c25 {p : Program} {l : Launch} {e : Env} {s : State} {m : MethodId} {args : Array Value} {below : List Frame} {meth : Method} {c : Code} {Q : State → Prop} {D : va_G} {cy : Nat → Nat} {b0 kc ks : Nat} {σ : q_St} {h : q_Hp} {b L x : Nat} {xs : Nat → Int32} {i : Int32} {A : Int → Int32} (C0 : VC p room_1 s m args meth c D cy b0 8 60000 400000 RL cL_law) (S : lc_S s b0 b L xs i A) (I : k_Inv σ h x) (kk : ∀ σ h, k_Inv σ h x → V p l e room_1 s m args below meth c Q D cy b0 8 60000 400000 kc ks σ h 1517 (lc_lv b x i) []) : V p l e room_1 s m args below meth c Q D cy b0 8 60000 400000 (kc + 100) (ks + 700) σ h 931 (lc_lv b x i) [] := by
  obtain ⟨r, h2, e1, e2, I2⟩ := e_friday I (A 1)
  refine v_run C0 tbL cokL25 (pc' := 932) (lv' := lc_lv b x i) (st' := [.ref x]) (h' := h) 1 rfl trivial ?_
  refine v_arg C0 S cokL25 (pc' := 938) rfl rfl rfl rfl rfl rfl rfl rfl (k := 1) ⟨by decide, by decide⟩ ?_
  refine v_callV C0 cokL25 rfl (rest := []) (as := [.int (A 1)]) (kc' := kc + 100) (ks' := ks + 700) (ctX4_friday x (A 1) (I_t4 I) e1) calX4_friday lkL_126 inX4_friday dnX4_friday (ci := 4) ⟨rfl, by decide⟩ (I_t4 I) rfl rfl ⟨Nat.le_of_ble_eq_true rfl, Nat.le_of_ble_eq_true rfl⟩ (Nat.le_of_ble_eq_true rfl) (by omega) (by omega) ?_
  refine v_run C0 tbL cokL25 (pc' := 942) (lv' := lc_lv b x i) (st' := [.ref (x + 88), .int r]) (h' := h) 1 rfl trivial ?_
  refine v_arg C0 S cokL25 (pc' := 948) rfl rfl rfl rfl rfl rfl rfl rfl (k := 1) ⟨by decide, by decide⟩ ?_
  refine v_callV C0 cokL25 rfl (rest := [.int r]) (as := [.int (A 1)]) (kc' := kc) (ks' := ks) (ctX5_friday (x + 88) (A 1) (I_t5 I) e2) calX5_friday lkL_129 inX5_friday dnX5_friday (ci := 5) ⟨rfl, by decide⟩ (I_t5 I) rfl rfl ⟨Nat.le_of_ble_eq_true rfl, Nat.le_of_ble_eq_true rfl⟩ (Nat.le_of_ble_eq_true rfl) (by omega) (by omega) ?_
  refine v_same C0 cokL25 rfl 1517 (by decide) ?_
  exact kk _ _ I2
def cdL26 : q_Cd := [(956, .aload_n 1), (957, .invokevirtual 130), (960, .aload_n 2), (961, .invokevirtual 133), (964, .if_icmp .eq 553), (967, .iconst 0), (968, .ireturn)]
set_option maxRecDepth 100000 in
theorem cokL26 : q_cok cL_law cdL26 := by unfold q_cok; decide +kernel
set_option maxRecDepth 100000 in
set_option maxHeartbeats 4000000 in
theorem lw_c26 {p : Program} {l : Launch} {e : Env} {s : State} {m : MethodId} {args : Array Value} {below : List Frame} {meth : Method} {c : Code} {Q : State → Prop} {D : va_G} {cy : Nat → Nat} {b0 kc ks : Nat} {σ : q_St} {h : q_Hp} {b L x : Nat} {xs : Nat → Int32} {i : Int32} {A : Int → Int32} (C0 : VC p room_1 s m args meth c D cy b0 8 60000 400000 RL cL_law) (S : lc_S s b0 b L xs i A) (I : k_Inv σ h x) (kk : ∀ σ h, k_Inv σ h x → V p l e room_1 s m args below meth c Q D cy b0 8 60000 400000 kc ks σ h 1517 (lc_lv b x i) []) : V p l e room_1 s m args below meth c Q D cy b0 8 60000 400000 (kc + 100) (ks + 700) σ h 956 (lc_lv b x i) [] := by
  obtain ⟨r, h2, e1, e2, I2⟩ := e_tight I
  refine v_run C0 tbL cokL26 (pc' := 957) (lv' := lc_lv b x i) (st' := [.ref x]) (h' := h) 1 rfl trivial ?_
  refine v_callV C0 cokL26 rfl (rest := []) (as := []) (kc' := kc + 100) (ks' := ks + 700) (ctX4_tight x  (I_t4 I) e1) calX4_tight lkL_130 inX4_tight dnX4_tight (ci := 4) ⟨rfl, by decide⟩ (I_t4 I) rfl rfl ⟨Nat.le_of_ble_eq_true rfl, Nat.le_of_ble_eq_true rfl⟩ (Nat.le_of_ble_eq_true rfl) (by omega) (by omega) ?_
  refine v_run C0 tbL cokL26 (pc' := 961) (lv' := lc_lv b x i) (st' := [.ref (x + 88), .int r]) (h' := h) 1 rfl trivial ?_
  refine v_callV C0 cokL26 rfl (rest := [.int r]) (as := []) (kc' := kc) (ks' := ks) (ctX5_tight (x + 88)  (I_t5 I) e2) calX5_tight lkL_133 inX5_tight dnX5_tight (ci := 5) ⟨rfl, by decide⟩ (I_t5 I) rfl rfl ⟨Nat.le_of_ble_eq_true rfl, Nat.le_of_ble_eq_true rfl⟩ (Nat.le_of_ble_eq_true rfl) (by omega) (by omega) ?_
  refine v_same C0 cokL26 rfl 1517 (by decide) ?_
  exact kk _ _ I2
def cdL27 : q_Cd := [(969, .aload_n 1), (970, .aload_n 0), (971, .iload 4), (973, .iconst 1), (974, .iadd), (975, .iaload), (976, .aload_n 0), (977, .iload 4), (979, .iconst 2), (980, .iadd), (981, .iaload), (982, .aload_n 0), (983, .iload 4), (985, .iconst 3), (986, .iadd), (987, .iaload), (988, .invokevirtual 134), (991, .aload_n 2), (992, .aload_n 0), (993, .iload 4), (995, .iconst 1), (996, .iadd), (997, .iaload), (998, .aload_n 0), (999, .iload 4), (1001, .iconst 2), (1002, .iadd), (1003, .iaload), (1004, .aload_n 0), (1005, .iload 4), (1007, .iconst 3), (1008, .iadd), (1009, .iaload), (1010, .invokevirtual 137), (1013, .if_icmp .eq 504), (1016, .iconst 0), (1017, .ireturn)]
set_option maxRecDepth 100000 in
theorem cokL27 : q_cok cL_law cdL27 := by unfold q_cok; decide +kernel
set_option maxRecDepth 100000 in
set_option maxHeartbeats 4000000 in
theorem lw_c27 {p : Program} {l : Launch} {e : Env} {s : State} {m : MethodId} {args : Array Value} {below : List Frame} {meth : Method} {c : Code} {Q : State → Prop} {D : va_G} {cy : Nat → Nat} {b0 kc ks : Nat} {σ : q_St} {h : q_Hp} {b L x : Nat} {xs : Nat → Int32} {i : Int32} {A : Int → Int32} (C0 : VC p room_1 s m args meth c D cy b0 8 60000 400000 RL cL_law) (S : lc_S s b0 b L xs i A) (I : k_Inv σ h x) (kk : ∀ σ h, k_Inv σ h x → V p l e room_1 s m args below meth c Q D cy b0 8 60000 400000 kc ks σ h 1517 (lc_lv b x i) []) : V p l e room_1 s m args below meth c Q D cy b0 8 60000 400000 (kc + 100) (ks + 700) σ h 969 (lc_lv b x i) [] := by
  obtain ⟨r, h2, e1, e2, I2⟩ := e_stained I (A 1) (A 2) (A 3)
  refine v_run C0 tbL cokL27 (pc' := 970) (lv' := lc_lv b x i) (st' := [.ref x]) (h' := h) 1 rfl trivial ?_
  refine v_arg C0 S cokL27 (pc' := 976) rfl rfl rfl rfl rfl rfl rfl rfl (k := 1) ⟨by decide, by decide⟩ ?_
  refine v_arg C0 S cokL27 (pc' := 982) rfl rfl rfl rfl rfl rfl rfl rfl (k := 2) ⟨by decide, by decide⟩ ?_
  refine v_arg C0 S cokL27 (pc' := 988) rfl rfl rfl rfl rfl rfl rfl rfl (k := 3) ⟨by decide, by decide⟩ ?_
  refine v_callV C0 cokL27 rfl (rest := []) (as := [.int (A 1), .int (A 2), .int (A 3)]) (kc' := kc + 100) (ks' := ks + 700) (ctX4_stained x (A 1) (A 2) (A 3) (I_t4 I) e1) calX4_stained lkL_134 inX4_stained dnX4_stained (ci := 4) ⟨rfl, by decide⟩ (I_t4 I) rfl rfl ⟨Nat.le_of_ble_eq_true rfl, Nat.le_of_ble_eq_true rfl⟩ (Nat.le_of_ble_eq_true rfl) (by omega) (by omega) ?_
  refine v_run C0 tbL cokL27 (pc' := 992) (lv' := lc_lv b x i) (st' := [.ref (x + 88), .int r]) (h' := h) 1 rfl trivial ?_
  refine v_arg C0 S cokL27 (pc' := 998) rfl rfl rfl rfl rfl rfl rfl rfl (k := 1) ⟨by decide, by decide⟩ ?_
  refine v_arg C0 S cokL27 (pc' := 1004) rfl rfl rfl rfl rfl rfl rfl rfl (k := 2) ⟨by decide, by decide⟩ ?_
  refine v_arg C0 S cokL27 (pc' := 1010) rfl rfl rfl rfl rfl rfl rfl rfl (k := 3) ⟨by decide, by decide⟩ ?_
  refine v_callV C0 cokL27 rfl (rest := [.int r]) (as := [.int (A 1), .int (A 2), .int (A 3)]) (kc' := kc) (ks' := ks) (ctX5_stained (x + 88) (A 1) (A 2) (A 3) (I_t5 I) e2) calX5_stained lkL_137 inX5_stained dnX5_stained (ci := 5) ⟨rfl, by decide⟩ (I_t5 I) rfl rfl ⟨Nat.le_of_ble_eq_true rfl, Nat.le_of_ble_eq_true rfl⟩ (Nat.le_of_ble_eq_true rfl) (by omega) (by omega) ?_
  refine v_same C0 cokL27 rfl 1517 (by decide) ?_
  exact kk _ _ I2
