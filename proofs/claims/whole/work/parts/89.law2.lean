/-! the law's cases 14 to 20 -/
def cdL14 : q_Cd := [(606, .aload_n 1), (607, .aload_n 0), (608, .iload 4), (610, .iconst 1), (611, .iadd), (612, .iaload), (613, .invokevirtual 81), (616, .aload_n 2), (617, .aload_n 0), (618, .iload 4), (620, .iconst 1), (621, .iadd), (622, .iaload), (623, .invokevirtual 85), (626, .lcmp), (627, .ifCond .eq 890), (630, .iconst 0), (631, .ireturn)]
set_option maxRecDepth 100000 in
theorem cokL14 : q_cok cL_law cdL14 := by unfold q_cok; decide +kernel
set_option maxRecDepth 100000 in
set_option maxHeartbeats 4000000 in
theorem lw_c14 {p : Program} {l : Launch} {e : Env} {s : State} {m : MethodId} {args : Array Value} {below : List Frame} {meth : Method} {c : Code} {Q : State → Prop} {D : va_G} {cy : Nat → Nat} {b0 kc ks : Nat} {σ : q_St} {h : q_Hp} {b L x : Nat} {xs : Nat → Int32} {i : Int32} {A : Int → Int32} (C0 : VC p room_1 s m args meth c D cy b0 8 60000 400000 RL cL_law) (S : lc_S s b0 b L xs i A) (I : k_Inv σ h x) (kk : ∀ σ h, k_Inv σ h x → V p l e room_1 s m args below meth c Q D cy b0 8 60000 400000 kc ks σ h 1517 (lc_lv b x i) []) : V p l e room_1 s m args below meth c Q D cy b0 8 60000 400000 (kc + 100) (ks + 700) σ h 606 (lc_lv b x i) [] := by
  obtain ⟨r, h1, σ2, h2, e1, e2, I2⟩ := e_grown I (A 1)
  refine v_run C0 tbL cokL14 (pc' := 607) (lv' := lc_lv b x i) (st' := [.ref x]) (h' := h) 1 rfl trivial ?_
  refine v_arg C0 S cokL14 (pc' := 613) rfl rfl rfl rfl rfl rfl rfl rfl (k := 1) ⟨by decide, by decide⟩ ?_
  refine v_callV C0 cokL14 rfl (rest := []) (as := [.int (A 1)]) (kc' := kc + 100) (ks' := ks + 700) (ctX4_grown x (A 1) (I_t4 I) e1) calX4_grown lkL_81 inX4_grown dnX4_grown (ci := 4) ⟨rfl, by decide⟩ (I_t4 I) rfl rfl ⟨Nat.le_of_ble_eq_true rfl, Nat.le_of_ble_eq_true rfl⟩ (Nat.le_of_ble_eq_true rfl) (by omega) (by omega) ?_
  refine v_run C0 tbL cokL14 (pc' := 617) (lv' := lc_lv b x i) (st' := [.ref (x + 88), .long r]) (h' := h1) 1 rfl trivial ?_
  refine v_arg C0 S cokL14 (pc' := 623) rfl rfl rfl rfl rfl rfl rfl rfl (k := 1) ⟨by decide, by decide⟩ ?_
  refine v_callV C0 cokL14 rfl (rest := [.long r]) (as := [.int (A 1)]) (kc' := kc) (ks' := ks) (ctX5_grown (x + 88) (A 1) (I_t5 I) e2) calX5_grown lkL_85 inX5_grown dnX5_grown (ci := 5) ⟨rfl, by decide⟩ (I_t5 I) rfl rfl ⟨Nat.le_of_ble_eq_true rfl, Nat.le_of_ble_eq_true rfl⟩ (Nat.le_of_ble_eq_true rfl) (by omega) (by omega) ?_
  refine v_sameL C0 cokL14 rfl rfl 1517 (by decide) ?_
  exact kk _ _ I2
def cdL15 : q_Cd := [(632, .aload_n 1), (633, .aload_n 0), (634, .iload 4), (636, .iconst 1), (637, .iadd), (638, .iaload), (639, .aload_n 0), (640, .iload 4), (642, .iconst 2), (643, .iadd), (644, .iaload), (645, .invokevirtual 86), (648, .aload_n 2), (649, .aload_n 0), (650, .iload 4), (652, .iconst 1), (653, .iadd), (654, .iaload), (655, .aload_n 0), (656, .iload 4), (658, .iconst 2), (659, .iadd), (660, .iaload), (661, .invokevirtual 89), (664, .lcmp), (665, .ifCond .eq 852), (668, .iconst 0), (669, .ireturn)]
set_option maxRecDepth 100000 in
theorem cokL15 : q_cok cL_law cdL15 := by unfold q_cok; decide +kernel
set_option maxRecDepth 100000 in
set_option maxHeartbeats 4000000 in
theorem lw_c15 {p : Program} {l : Launch} {e : Env} {s : State} {m : MethodId} {args : Array Value} {below : List Frame} {meth : Method} {c : Code} {Q : State → Prop} {D : va_G} {cy : Nat → Nat} {b0 kc ks : Nat} {σ : q_St} {h : q_Hp} {b L x : Nat} {xs : Nat → Int32} {i : Int32} {A : Int → Int32} (C0 : VC p room_1 s m args meth c D cy b0 8 60000 400000 RL cL_law) (S : lc_S s b0 b L xs i A) (I : k_Inv σ h x) (kk : ∀ σ h, k_Inv σ h x → V p l e room_1 s m args below meth c Q D cy b0 8 60000 400000 kc ks σ h 1517 (lc_lv b x i) []) : V p l e room_1 s m args below meth c Q D cy b0 8 60000 400000 (kc + 100) (ks + 700) σ h 632 (lc_lv b x i) [] := by
  obtain ⟨r, h1, h2, e1, e2, I2⟩ := e_come I (A 1) (A 2)
  refine v_run C0 tbL cokL15 (pc' := 633) (lv' := lc_lv b x i) (st' := [.ref x]) (h' := h) 1 rfl trivial ?_
  refine v_arg C0 S cokL15 (pc' := 639) rfl rfl rfl rfl rfl rfl rfl rfl (k := 1) ⟨by decide, by decide⟩ ?_
  refine v_arg C0 S cokL15 (pc' := 645) rfl rfl rfl rfl rfl rfl rfl rfl (k := 2) ⟨by decide, by decide⟩ ?_
  refine v_callV C0 cokL15 rfl (rest := []) (as := [.int (A 1), .int (A 2)]) (kc' := kc + 100) (ks' := ks + 700) (ctX4_come x (A 1) (A 2) (I_t4 I) e1) calX4_come lkL_86 inX4_come dnX4_come (ci := 4) ⟨rfl, by decide⟩ (I_t4 I) rfl rfl ⟨Nat.le_of_ble_eq_true rfl, Nat.le_of_ble_eq_true rfl⟩ (Nat.le_of_ble_eq_true rfl) (by omega) (by omega) ?_
  refine v_run C0 tbL cokL15 (pc' := 649) (lv' := lc_lv b x i) (st' := [.ref (x + 88), .long r]) (h' := h1) 1 rfl trivial ?_
  refine v_arg C0 S cokL15 (pc' := 655) rfl rfl rfl rfl rfl rfl rfl rfl (k := 1) ⟨by decide, by decide⟩ ?_
  refine v_arg C0 S cokL15 (pc' := 661) rfl rfl rfl rfl rfl rfl rfl rfl (k := 2) ⟨by decide, by decide⟩ ?_
  refine v_callV C0 cokL15 rfl (rest := [.long r]) (as := [.int (A 1), .int (A 2)]) (kc' := kc) (ks' := ks) (ctX5_come (x + 88) (A 1) (A 2) (I_t5 I) e2) calX5_come lkL_89 inX5_come dnX5_come (ci := 5) ⟨rfl, by decide⟩ (I_t5 I) rfl rfl ⟨Nat.le_of_ble_eq_true rfl, Nat.le_of_ble_eq_true rfl⟩ (Nat.le_of_ble_eq_true rfl) (by omega) (by omega) ?_
  refine v_sameL C0 cokL15 rfl rfl 1517 (by decide) ?_
  exact kk _ _ I2
def cdL16 : q_Cd := [(670, .aload_n 1), (671, .invokevirtual 90), (674, .aload_n 2), (675, .invokevirtual 93), (678, .if_icmp .eq 839), (681, .iconst 0), (682, .ireturn)]
set_option maxRecDepth 100000 in
theorem cokL16 : q_cok cL_law cdL16 := by unfold q_cok; decide +kernel
set_option maxRecDepth 100000 in
set_option maxHeartbeats 4000000 in
theorem lw_c16 {p : Program} {l : Launch} {e : Env} {s : State} {m : MethodId} {args : Array Value} {below : List Frame} {meth : Method} {c : Code} {Q : State → Prop} {D : va_G} {cy : Nat → Nat} {b0 kc ks : Nat} {σ : q_St} {h : q_Hp} {b L x : Nat} {xs : Nat → Int32} {i : Int32} {A : Int → Int32} (C0 : VC p room_1 s m args meth c D cy b0 8 60000 400000 RL cL_law) (S : lc_S s b0 b L xs i A) (I : k_Inv σ h x) (kk : ∀ σ h, k_Inv σ h x → V p l e room_1 s m args below meth c Q D cy b0 8 60000 400000 kc ks σ h 1517 (lc_lv b x i) []) : V p l e room_1 s m args below meth c Q D cy b0 8 60000 400000 (kc + 100) (ks + 700) σ h 670 (lc_lv b x i) [] := by
  obtain ⟨r, h1, h2, e1, e2, I2⟩ := e_refuse I
  refine v_run C0 tbL cokL16 (pc' := 671) (lv' := lc_lv b x i) (st' := [.ref x]) (h' := h) 1 rfl trivial ?_
  refine v_callV C0 cokL16 rfl (rest := []) (as := []) (kc' := kc + 100) (ks' := ks + 700) (ctX4_refuse x  (I_t4 I) e1) calX4_refuse lkL_90 inX4_refuse dnX4_refuse (ci := 4) ⟨rfl, by decide⟩ (I_t4 I) rfl rfl ⟨Nat.le_of_ble_eq_true rfl, Nat.le_of_ble_eq_true rfl⟩ (Nat.le_of_ble_eq_true rfl) (by omega) (by omega) ?_
  refine v_run C0 tbL cokL16 (pc' := 675) (lv' := lc_lv b x i) (st' := [.ref (x + 88), .int r]) (h' := h1) 1 rfl trivial ?_
  refine v_callV C0 cokL16 rfl (rest := [.int r]) (as := []) (kc' := kc) (ks' := ks) (ctX5_refuse (x + 88)  (I_t5 I) e2) calX5_refuse lkL_93 inX5_refuse dnX5_refuse (ci := 5) ⟨rfl, by decide⟩ (I_t5 I) rfl rfl ⟨Nat.le_of_ble_eq_true rfl, Nat.le_of_ble_eq_true rfl⟩ (Nat.le_of_ble_eq_true rfl) (by omega) (by omega) ?_
  refine v_same C0 cokL16 rfl 1517 (by decide) ?_
  exact kk _ _ I2
def cdL17 : q_Cd := [(683, .aload_n 1), (684, .aload_n 0), (685, .iload 4), (687, .iconst 1), (688, .iadd), (689, .iaload), (690, .aload_n 0), (691, .iload 4), (693, .iconst 2), (694, .iadd), (695, .iaload), (696, .invokevirtual 94), (699, .aload_n 2), (700, .aload_n 0), (701, .iload 4), (703, .iconst 1), (704, .iadd), (705, .iaload), (706, .aload_n 0), (707, .iload 4), (709, .iconst 2), (710, .iadd), (711, .iaload), (712, .invokevirtual 97), (715, .if_icmp .eq 802), (718, .iconst 0), (719, .ireturn)]
set_option maxRecDepth 100000 in
theorem cokL17 : q_cok cL_law cdL17 := by unfold q_cok; decide +kernel
set_option maxRecDepth 100000 in
set_option maxHeartbeats 4000000 in
theorem lw_c17 {p : Program} {l : Launch} {e : Env} {s : State} {m : MethodId} {args : Array Value} {below : List Frame} {meth : Method} {c : Code} {Q : State → Prop} {D : va_G} {cy : Nat → Nat} {b0 kc ks : Nat} {σ : q_St} {h : q_Hp} {b L x : Nat} {xs : Nat → Int32} {i : Int32} {A : Int → Int32} (C0 : VC p room_1 s m args meth c D cy b0 8 60000 400000 RL cL_law) (S : lc_S s b0 b L xs i A) (I : k_Inv σ h x) (kk : ∀ σ h, k_Inv σ h x → V p l e room_1 s m args below meth c Q D cy b0 8 60000 400000 kc ks σ h 1517 (lc_lv b x i) []) : V p l e room_1 s m args below meth c Q D cy b0 8 60000 400000 (kc + 100) (ks + 700) σ h 683 (lc_lv b x i) [] := by
  obtain ⟨r, h1, σ2, h2, e1, e2, I2⟩ := e_buy I (A 1) (A 2)
  refine v_run C0 tbL cokL17 (pc' := 684) (lv' := lc_lv b x i) (st' := [.ref x]) (h' := h) 1 rfl trivial ?_
  refine v_arg C0 S cokL17 (pc' := 690) rfl rfl rfl rfl rfl rfl rfl rfl (k := 1) ⟨by decide, by decide⟩ ?_
  refine v_arg C0 S cokL17 (pc' := 696) rfl rfl rfl rfl rfl rfl rfl rfl (k := 2) ⟨by decide, by decide⟩ ?_
  refine v_callV C0 cokL17 rfl (rest := []) (as := [.int (A 1), .int (A 2)]) (kc' := kc + 100) (ks' := ks + 700) (ctX4_buy x (A 1) (A 2) (I_t4 I) e1) calX4_buy lkL_94 inX4_buy dnX4_buy (ci := 4) ⟨rfl, by decide⟩ (I_t4 I) rfl rfl ⟨Nat.le_of_ble_eq_true rfl, Nat.le_of_ble_eq_true rfl⟩ (Nat.le_of_ble_eq_true rfl) (by omega) (by omega) ?_
  refine v_run C0 tbL cokL17 (pc' := 700) (lv' := lc_lv b x i) (st' := [.ref (x + 88), .int r]) (h' := h1) 1 rfl trivial ?_
  refine v_arg C0 S cokL17 (pc' := 706) rfl rfl rfl rfl rfl rfl rfl rfl (k := 1) ⟨by decide, by decide⟩ ?_
  refine v_arg C0 S cokL17 (pc' := 712) rfl rfl rfl rfl rfl rfl rfl rfl (k := 2) ⟨by decide, by decide⟩ ?_
  refine v_callV C0 cokL17 rfl (rest := [.int r]) (as := [.int (A 1), .int (A 2)]) (kc' := kc) (ks' := ks) (ctX5_buy (x + 88) (A 1) (A 2) (I_t5 I) e2) calX5_buy lkL_97 inX5_buy dnX5_buy (ci := 5) ⟨rfl, by decide⟩ (I_t5 I) rfl rfl ⟨Nat.le_of_ble_eq_true rfl, Nat.le_of_ble_eq_true rfl⟩ (Nat.le_of_ble_eq_true rfl) (by omega) (by omega) ?_
  refine v_same C0 cokL17 rfl 1517 (by decide) ?_
  exact kk _ _ I2
def cdL18 : q_Cd := [(720, .aload_n 1), (721, .invokevirtual 98), (724, .aload_n 2), (725, .invokevirtual 101), (728, .if_icmp .eq 789), (731, .iconst 0), (732, .ireturn)]
set_option maxRecDepth 100000 in
theorem cokL18 : q_cok cL_law cdL18 := by unfold q_cok; decide +kernel
set_option maxRecDepth 100000 in
set_option maxHeartbeats 4000000 in
theorem lw_c18 {p : Program} {l : Launch} {e : Env} {s : State} {m : MethodId} {args : Array Value} {below : List Frame} {meth : Method} {c : Code} {Q : State → Prop} {D : va_G} {cy : Nat → Nat} {b0 kc ks : Nat} {σ : q_St} {h : q_Hp} {b L x : Nat} {xs : Nat → Int32} {i : Int32} {A : Int → Int32} (C0 : VC p room_1 s m args meth c D cy b0 8 60000 400000 RL cL_law) (S : lc_S s b0 b L xs i A) (I : k_Inv σ h x) (kk : ∀ σ h, k_Inv σ h x → V p l e room_1 s m args below meth c Q D cy b0 8 60000 400000 kc ks σ h 1517 (lc_lv b x i) []) : V p l e room_1 s m args below meth c Q D cy b0 8 60000 400000 (kc + 100) (ks + 700) σ h 720 (lc_lv b x i) [] := by
  obtain ⟨r, h1, h2, e1, e2, I2⟩ := e_sell I
  refine v_run C0 tbL cokL18 (pc' := 721) (lv' := lc_lv b x i) (st' := [.ref x]) (h' := h) 1 rfl trivial ?_
  refine v_callV C0 cokL18 rfl (rest := []) (as := []) (kc' := kc + 100) (ks' := ks + 700) (ctX4_sell x  (I_t4 I) e1) calX4_sell lkL_98 inX4_sell dnX4_sell (ci := 4) ⟨rfl, by decide⟩ (I_t4 I) rfl rfl ⟨Nat.le_of_ble_eq_true rfl, Nat.le_of_ble_eq_true rfl⟩ (Nat.le_of_ble_eq_true rfl) (by omega) (by omega) ?_
  refine v_run C0 tbL cokL18 (pc' := 725) (lv' := lc_lv b x i) (st' := [.ref (x + 88), .int r]) (h' := h1) 1 rfl trivial ?_
  refine v_callV C0 cokL18 rfl (rest := [.int r]) (as := []) (kc' := kc) (ks' := ks) (ctX5_sell (x + 88)  (I_t5 I) e2) calX5_sell lkL_101 inX5_sell dnX5_sell (ci := 5) ⟨rfl, by decide⟩ (I_t5 I) rfl rfl ⟨Nat.le_of_ble_eq_true rfl, Nat.le_of_ble_eq_true rfl⟩ (Nat.le_of_ble_eq_true rfl) (by omega) (by omega) ?_
  refine v_same C0 cokL18 rfl 1517 (by decide) ?_
  exact kk _ _ I2
def cdL19 : q_Cd := [(733, .aload_n 1), (734, .invokevirtual 102), (737, .aload_n 2), (738, .invokevirtual 105), (741, .if_icmp .eq 776), (744, .iconst 0), (745, .ireturn)]
set_option maxRecDepth 100000 in
theorem cokL19 : q_cok cL_law cdL19 := by unfold q_cok; decide +kernel
set_option maxRecDepth 100000 in
set_option maxHeartbeats 4000000 in
theorem lw_c19 {p : Program} {l : Launch} {e : Env} {s : State} {m : MethodId} {args : Array Value} {below : List Frame} {meth : Method} {c : Code} {Q : State → Prop} {D : va_G} {cy : Nat → Nat} {b0 kc ks : Nat} {σ : q_St} {h : q_Hp} {b L x : Nat} {xs : Nat → Int32} {i : Int32} {A : Int → Int32} (C0 : VC p room_1 s m args meth c D cy b0 8 60000 400000 RL cL_law) (S : lc_S s b0 b L xs i A) (I : k_Inv σ h x) (kk : ∀ σ h, k_Inv σ h x → V p l e room_1 s m args below meth c Q D cy b0 8 60000 400000 kc ks σ h 1517 (lc_lv b x i) []) : V p l e room_1 s m args below meth c Q D cy b0 8 60000 400000 (kc + 100) (ks + 700) σ h 733 (lc_lv b x i) [] := by
  obtain ⟨r, h2, e1, e2, I2⟩ := e_shines I
  refine v_run C0 tbL cokL19 (pc' := 734) (lv' := lc_lv b x i) (st' := [.ref x]) (h' := h) 1 rfl trivial ?_
  refine v_callV C0 cokL19 rfl (rest := []) (as := []) (kc' := kc + 100) (ks' := ks + 700) (ctX4_shines x  (I_t4 I) e1) calX4_shines lkL_102 inX4_shines dnX4_shines (ci := 4) ⟨rfl, by decide⟩ (I_t4 I) rfl rfl ⟨Nat.le_of_ble_eq_true rfl, Nat.le_of_ble_eq_true rfl⟩ (Nat.le_of_ble_eq_true rfl) (by omega) (by omega) ?_
  refine v_run C0 tbL cokL19 (pc' := 738) (lv' := lc_lv b x i) (st' := [.ref (x + 88), .int r]) (h' := h) 1 rfl trivial ?_
  refine v_callV C0 cokL19 rfl (rest := [.int r]) (as := []) (kc' := kc) (ks' := ks) (ctX5_shines (x + 88)  (I_t5 I) e2) calX5_shines lkL_105 inX5_shines dnX5_shines (ci := 5) ⟨rfl, by decide⟩ (I_t5 I) rfl rfl ⟨Nat.le_of_ble_eq_true rfl, Nat.le_of_ble_eq_true rfl⟩ (Nat.le_of_ble_eq_true rfl) (by omega) (by omega) ?_
  refine v_same C0 cokL19 rfl 1517 (by decide) ?_
  exact kk _ _ I2
def cdL20 : q_Cd := [(746, .aload_n 1), (747, .aload_n 0), (748, .iload 4), (750, .iconst 1), (751, .iadd), (752, .iaload), (753, .aload_n 0), (754, .iload 4), (756, .iconst 2), (757, .iadd), (758, .iaload), (759, .invokevirtual 106), (762, .aload_n 2), (763, .aload_n 0), (764, .iload 4), (766, .iconst 1), (767, .iadd), (768, .iaload), (769, .aload_n 0), (770, .iload 4), (772, .iconst 2), (773, .iadd), (774, .iaload), (775, .invokevirtual 109), (778, .if_icmp .eq 739), (781, .iconst 0), (782, .ireturn)]
set_option maxRecDepth 100000 in
theorem cokL20 : q_cok cL_law cdL20 := by unfold q_cok; decide +kernel
set_option maxRecDepth 100000 in
set_option maxHeartbeats 4000000 in
theorem lw_c20 {p : Program} {l : Launch} {e : Env} {s : State} {m : MethodId} {args : Array Value} {below : List Frame} {meth : Method} {c : Code} {Q : State → Prop} {D : va_G} {cy : Nat → Nat} {b0 kc ks : Nat} {σ : q_St} {h : q_Hp} {b L x : Nat} {xs : Nat → Int32} {i : Int32} {A : Int → Int32} (C0 : VC p room_1 s m args meth c D cy b0 8 60000 400000 RL cL_law) (S : lc_S s b0 b L xs i A) (I : k_Inv σ h x) (kk : ∀ σ h, k_Inv σ h x → V p l e room_1 s m args below meth c Q D cy b0 8 60000 400000 kc ks σ h 1517 (lc_lv b x i) []) : V p l e room_1 s m args below meth c Q D cy b0 8 60000 400000 (kc + 100) (ks + 700) σ h 746 (lc_lv b x i) [] := by
  obtain ⟨r, h1, h2, e1, e2, I2⟩ := e_ready I (A 1) (A 2)
  refine v_run C0 tbL cokL20 (pc' := 747) (lv' := lc_lv b x i) (st' := [.ref x]) (h' := h) 1 rfl trivial ?_
  refine v_arg C0 S cokL20 (pc' := 753) rfl rfl rfl rfl rfl rfl rfl rfl (k := 1) ⟨by decide, by decide⟩ ?_
  refine v_arg C0 S cokL20 (pc' := 759) rfl rfl rfl rfl rfl rfl rfl rfl (k := 2) ⟨by decide, by decide⟩ ?_
  refine v_callV C0 cokL20 rfl (rest := []) (as := [.int (A 1), .int (A 2)]) (kc' := kc + 100) (ks' := ks + 700) (ctX4_ready x (A 1) (A 2) (I_t4 I) e1) calX4_ready lkL_106 inX4_ready dnX4_ready (ci := 4) ⟨rfl, by decide⟩ (I_t4 I) rfl rfl ⟨Nat.le_of_ble_eq_true rfl, Nat.le_of_ble_eq_true rfl⟩ (Nat.le_of_ble_eq_true rfl) (by omega) (by omega) ?_
  refine v_run C0 tbL cokL20 (pc' := 763) (lv' := lc_lv b x i) (st' := [.ref (x + 88), .int r]) (h' := h1) 1 rfl trivial ?_
  refine v_arg C0 S cokL20 (pc' := 769) rfl rfl rfl rfl rfl rfl rfl rfl (k := 1) ⟨by decide, by decide⟩ ?_
  refine v_arg C0 S cokL20 (pc' := 775) rfl rfl rfl rfl rfl rfl rfl rfl (k := 2) ⟨by decide, by decide⟩ ?_
  refine v_callV C0 cokL20 rfl (rest := [.int r]) (as := [.int (A 1), .int (A 2)]) (kc' := kc) (ks' := ks) (ctX5_ready (x + 88) (A 1) (A 2) (I_t5 I) e2) calX5_ready lkL_109 inX5_ready dnX5_ready (ci := 5) ⟨rfl, by decide⟩ (I_t5 I) rfl rfl ⟨Nat.le_of_ble_eq_true rfl, Nat.le_of_ble_eq_true rfl⟩ (Nat.le_of_ble_eq_true rfl) (by omega) (by omega) ?_
  refine v_same C0 cokL20 rfl 1517 (by decide) ?_
  exact kk _ _ I2
