/-! the law's cases 7 to 13 -/
def cdL7 : q_Cd := [(467, .aload_n 1), (468, .aload_n 0), (469, .iload 4), (471, .iconst 1), (472, .iadd), (473, .iaload), (474, .invokevirtual 52), (477, .aload_n 2), (478, .aload_n 0), (479, .iload 4), (481, .iconst 1), (482, .iadd), (483, .iaload), (484, .invokevirtual 55), (487, .if_icmp .eq 1030), (490, .iconst 0), (491, .ireturn)]
set_option maxRecDepth 100000 in
theorem cokL7 : q_cok cL_law cdL7 := by unfold q_cok; decide +kernel
set_option maxRecDepth 100000 in
set_option maxHeartbeats 4000000 in
theorem lw_c7 {p : Program} {l : Launch} {e : Env} {s : State} {m : MethodId} {args : Array Value} {below : List Frame} {meth : Method} {c : Code} {Q : State → Prop} {D : va_G} {cy : Nat → Nat} {b0 kc ks : Nat} {σ : q_St} {h : q_Hp} {b L x : Nat} {xs : Nat → Int32} {i : Int32} {A : Int → Int32} (C0 : VC p room_1 s m args meth c D cy b0 8 60000 400000 RL cL_law) (S : lc_S s b0 b L xs i A) (I : k_Inv σ h x) (kk : ∀ σ h, k_Inv σ h x → V p l e room_1 s m args below meth c Q D cy b0 8 60000 400000 kc ks σ h 1517 (lc_lv b x i) []) : V p l e room_1 s m args below meth c Q D cy b0 8 60000 400000 (kc + 100) (ks + 700) σ h 467 (lc_lv b x i) [] := by
  obtain ⟨r, h1, h2, e1, e2, I2⟩ := e_cleans I (A 1)
  refine v_run C0 tbL cokL7 (pc' := 468) (lv' := lc_lv b x i) (st' := [.ref x]) (h' := h) 1 rfl trivial ?_
  refine v_arg C0 S cokL7 (pc' := 474) rfl rfl rfl rfl rfl rfl rfl rfl (k := 1) ⟨by decide, by decide⟩ ?_
  refine v_callV C0 cokL7 rfl (rest := []) (as := [.int (A 1)]) (kc' := kc + 100) (ks' := ks + 700) (ctX4_cleans x (A 1) (I_t4 I) e1) calX4_cleans lkL_52 inX4_cleans dnX4_cleans (ci := 4) ⟨rfl, by decide⟩ (I_t4 I) rfl rfl ⟨Nat.le_of_ble_eq_true rfl, Nat.le_of_ble_eq_true rfl⟩ (Nat.le_of_ble_eq_true rfl) (by omega) (by omega) ?_
  refine v_run C0 tbL cokL7 (pc' := 478) (lv' := lc_lv b x i) (st' := [.ref (x + 88), .int r]) (h' := h1) 1 rfl trivial ?_
  refine v_arg C0 S cokL7 (pc' := 484) rfl rfl rfl rfl rfl rfl rfl rfl (k := 1) ⟨by decide, by decide⟩ ?_
  refine v_callV C0 cokL7 rfl (rest := [.int r]) (as := [.int (A 1)]) (kc' := kc) (ks' := ks) (ctX5_cleans (x + 88) (A 1) (I_t5 I) e2) calX5_cleans lkL_55 inX5_cleans dnX5_cleans (ci := 5) ⟨rfl, by decide⟩ (I_t5 I) rfl rfl ⟨Nat.le_of_ble_eq_true rfl, Nat.le_of_ble_eq_true rfl⟩ (Nat.le_of_ble_eq_true rfl) (by omega) (by omega) ?_
  refine v_same C0 cokL7 rfl 1517 (by decide) ?_
  exact kk _ _ I2
def cdL8 : q_Cd := [(492, .aload_n 1), (493, .aload_n 0), (494, .iload 4), (496, .iconst 1), (497, .iadd), (498, .iaload), (499, .aload_n 0), (500, .iload 4), (502, .iconst 2), (503, .iadd), (504, .iaload), (505, .invokevirtual 56), (508, .aload_n 2), (509, .aload_n 0), (510, .iload 4), (512, .iconst 1), (513, .iadd), (514, .iaload), (515, .aload_n 0), (516, .iload 4), (518, .iconst 2), (519, .iadd), (520, .iaload), (521, .invokevirtual 59), (524, .if_icmp .eq 993), (527, .iconst 0), (528, .ireturn)]
set_option maxRecDepth 100000 in
theorem cokL8 : q_cok cL_law cdL8 := by unfold q_cok; decide +kernel
set_option maxRecDepth 100000 in
set_option maxHeartbeats 4000000 in
theorem lw_c8 {p : Program} {l : Launch} {e : Env} {s : State} {m : MethodId} {args : Array Value} {below : List Frame} {meth : Method} {c : Code} {Q : State → Prop} {D : va_G} {cy : Nat → Nat} {b0 kc ks : Nat} {σ : q_St} {h : q_Hp} {b L x : Nat} {xs : Nat → Int32} {i : Int32} {A : Int → Int32} (C0 : VC p room_1 s m args meth c D cy b0 8 60000 400000 RL cL_law) (S : lc_S s b0 b L xs i A) (I : k_Inv σ h x) (kk : ∀ σ h, k_Inv σ h x → V p l e room_1 s m args below meth c Q D cy b0 8 60000 400000 kc ks σ h 1517 (lc_lv b x i) []) : V p l e room_1 s m args below meth c Q D cy b0 8 60000 400000 (kc + 100) (ks + 700) σ h 492 (lc_lv b x i) [] := by
  obtain ⟨r, h2, e1, e2, I2⟩ := e_fits I (A 1) (A 2)
  refine v_run C0 tbL cokL8 (pc' := 493) (lv' := lc_lv b x i) (st' := [.ref x]) (h' := h) 1 rfl trivial ?_
  refine v_arg C0 S cokL8 (pc' := 499) rfl rfl rfl rfl rfl rfl rfl rfl (k := 1) ⟨by decide, by decide⟩ ?_
  refine v_arg C0 S cokL8 (pc' := 505) rfl rfl rfl rfl rfl rfl rfl rfl (k := 2) ⟨by decide, by decide⟩ ?_
  refine v_callV C0 cokL8 rfl (rest := []) (as := [.int (A 1), .int (A 2)]) (kc' := kc + 100) (ks' := ks + 700) (ctX4_fits x (A 1) (A 2) (I_t4 I) e1) calX4_fits lkL_56 inX4_fits dnX4_fits (ci := 4) ⟨rfl, by decide⟩ (I_t4 I) rfl rfl ⟨Nat.le_of_ble_eq_true rfl, Nat.le_of_ble_eq_true rfl⟩ (Nat.le_of_ble_eq_true rfl) (by omega) (by omega) ?_
  refine v_run C0 tbL cokL8 (pc' := 509) (lv' := lc_lv b x i) (st' := [.ref (x + 88), .int r]) (h' := h) 1 rfl trivial ?_
  refine v_arg C0 S cokL8 (pc' := 515) rfl rfl rfl rfl rfl rfl rfl rfl (k := 1) ⟨by decide, by decide⟩ ?_
  refine v_arg C0 S cokL8 (pc' := 521) rfl rfl rfl rfl rfl rfl rfl rfl (k := 2) ⟨by decide, by decide⟩ ?_
  refine v_callV C0 cokL8 rfl (rest := [.int r]) (as := [.int (A 1), .int (A 2)]) (kc' := kc) (ks' := ks) (ctX5_fits (x + 88) (A 1) (A 2) (I_t5 I) e2) calX5_fits lkL_59 inX5_fits dnX5_fits (ci := 5) ⟨rfl, by decide⟩ (I_t5 I) rfl rfl ⟨Nat.le_of_ble_eq_true rfl, Nat.le_of_ble_eq_true rfl⟩ (Nat.le_of_ble_eq_true rfl) (by omega) (by omega) ?_
  refine v_same C0 cokL8 rfl 1517 (by decide) ?_
  exact kk _ _ I2
def cdL9 : q_Cd := [(529, .aload_n 1), (530, .aload_n 0), (531, .iload 4), (533, .iconst 1), (534, .iadd), (535, .iaload), (536, .invokevirtual 60), (539, .aload_n 2), (540, .aload_n 0), (541, .iload 4), (543, .iconst 1), (544, .iadd), (545, .iaload), (546, .invokevirtual 63), (549, .if_icmp .eq 968), (552, .iconst 0), (553, .ireturn)]
set_option maxRecDepth 100000 in
theorem cokL9 : q_cok cL_law cdL9 := by unfold q_cok; decide +kernel
set_option maxRecDepth 100000 in
set_option maxHeartbeats 4000000 in
theorem lw_c9 {p : Program} {l : Launch} {e : Env} {s : State} {m : MethodId} {args : Array Value} {below : List Frame} {meth : Method} {c : Code} {Q : State → Prop} {D : va_G} {cy : Nat → Nat} {b0 kc ks : Nat} {σ : q_St} {h : q_Hp} {b L x : Nat} {xs : Nat → Int32} {i : Int32} {A : Int → Int32} (C0 : VC p room_1 s m args meth c D cy b0 8 60000 400000 RL cL_law) (S : lc_S s b0 b L xs i A) (I : k_Inv σ h x) (kk : ∀ σ h, k_Inv σ h x → V p l e room_1 s m args below meth c Q D cy b0 8 60000 400000 kc ks σ h 1517 (lc_lv b x i) []) : V p l e room_1 s m args below meth c Q D cy b0 8 60000 400000 (kc + 100) (ks + 700) σ h 529 (lc_lv b x i) [] := by
  obtain ⟨r, h1, h2, e1, e2, I2⟩ := e_served I (A 1)
  refine v_run C0 tbL cokL9 (pc' := 530) (lv' := lc_lv b x i) (st' := [.ref x]) (h' := h) 1 rfl trivial ?_
  refine v_arg C0 S cokL9 (pc' := 536) rfl rfl rfl rfl rfl rfl rfl rfl (k := 1) ⟨by decide, by decide⟩ ?_
  refine v_callV C0 cokL9 rfl (rest := []) (as := [.int (A 1)]) (kc' := kc + 100) (ks' := ks + 700) (ctX4_served x (A 1) (I_t4 I) e1) calX4_served lkL_60 inX4_served dnX4_served (ci := 4) ⟨rfl, by decide⟩ (I_t4 I) rfl rfl ⟨Nat.le_of_ble_eq_true rfl, Nat.le_of_ble_eq_true rfl⟩ (Nat.le_of_ble_eq_true rfl) (by omega) (by omega) ?_
  refine v_run C0 tbL cokL9 (pc' := 540) (lv' := lc_lv b x i) (st' := [.ref (x + 88), .int r]) (h' := h1) 1 rfl trivial ?_
  refine v_arg C0 S cokL9 (pc' := 546) rfl rfl rfl rfl rfl rfl rfl rfl (k := 1) ⟨by decide, by decide⟩ ?_
  refine v_callV C0 cokL9 rfl (rest := [.int r]) (as := [.int (A 1)]) (kc' := kc) (ks' := ks) (ctX5_served (x + 88) (A 1) (I_t5 I) e2) calX5_served lkL_63 inX5_served dnX5_served (ci := 5) ⟨rfl, by decide⟩ (I_t5 I) rfl rfl ⟨Nat.le_of_ble_eq_true rfl, Nat.le_of_ble_eq_true rfl⟩ (Nat.le_of_ble_eq_true rfl) (by omega) (by omega) ?_
  refine v_same C0 cokL9 rfl 1517 (by decide) ?_
  exact kk _ _ I2
def cdL10 : q_Cd := [(554, .aload_n 1), (555, .invokevirtual 64), (558, .aload_n 2), (559, .invokevirtual 68), (562, .if_icmp .eq 955), (565, .iconst 0), (566, .ireturn)]
set_option maxRecDepth 100000 in
theorem cokL10 : q_cok cL_law cdL10 := by unfold q_cok; decide +kernel
set_option maxRecDepth 100000 in
set_option maxHeartbeats 4000000 in
theorem lw_c10 {p : Program} {l : Launch} {e : Env} {s : State} {m : MethodId} {args : Array Value} {below : List Frame} {meth : Method} {c : Code} {Q : State → Prop} {D : va_G} {cy : Nat → Nat} {b0 kc ks : Nat} {σ : q_St} {h : q_Hp} {b L x : Nat} {xs : Nat → Int32} {i : Int32} {A : Int → Int32} (C0 : VC p room_1 s m args meth c D cy b0 8 60000 400000 RL cL_law) (S : lc_S s b0 b L xs i A) (I : k_Inv σ h x) (kk : ∀ σ h, k_Inv σ h x → V p l e room_1 s m args below meth c Q D cy b0 8 60000 400000 kc ks σ h 1517 (lc_lv b x i) []) : V p l e room_1 s m args below meth c Q D cy b0 8 60000 400000 (kc + 100) (ks + 700) σ h 554 (lc_lv b x i) [] := by
  obtain ⟨r, h1, h2, e1, e2, I2⟩ := e_leftOver I
  refine v_run C0 tbL cokL10 (pc' := 555) (lv' := lc_lv b x i) (st' := [.ref x]) (h' := h) 1 rfl trivial ?_
  refine v_callV C0 cokL10 rfl (rest := []) (as := []) (kc' := kc + 100) (ks' := ks + 700) (ctX4_leftOver x  (I_t4 I) e1) calX4_leftOver lkL_64 inX4_leftOver dnX4_leftOver (ci := 4) ⟨rfl, by decide⟩ (I_t4 I) rfl rfl ⟨Nat.le_of_ble_eq_true rfl, Nat.le_of_ble_eq_true rfl⟩ (Nat.le_of_ble_eq_true rfl) (by omega) (by omega) ?_
  refine v_run C0 tbL cokL10 (pc' := 559) (lv' := lc_lv b x i) (st' := [.ref (x + 88), .int r]) (h' := h1) 1 rfl trivial ?_
  refine v_callV C0 cokL10 rfl (rest := [.int r]) (as := []) (kc' := kc) (ks' := ks) (ctX5_leftOver (x + 88)  (I_t5 I) e2) calX5_leftOver lkL_68 inX5_leftOver dnX5_leftOver (ci := 5) ⟨rfl, by decide⟩ (I_t5 I) rfl rfl ⟨Nat.le_of_ble_eq_true rfl, Nat.le_of_ble_eq_true rfl⟩ (Nat.le_of_ble_eq_true rfl) (by omega) (by omega) ?_
  refine v_same C0 cokL10 rfl 1517 (by decide) ?_
  exact kk _ _ I2
def cdL11 : q_Cd := [(567, .aload_n 1), (568, .invokevirtual 69), (571, .aload_n 2), (572, .invokevirtual 72), (575, .if_icmp .eq 942), (578, .iconst 0), (579, .ireturn)]
set_option maxRecDepth 100000 in
theorem cokL11 : q_cok cL_law cdL11 := by unfold q_cok; decide +kernel
set_option maxRecDepth 100000 in
set_option maxHeartbeats 4000000 in
theorem lw_c11 {p : Program} {l : Launch} {e : Env} {s : State} {m : MethodId} {args : Array Value} {below : List Frame} {meth : Method} {c : Code} {Q : State → Prop} {D : va_G} {cy : Nat → Nat} {b0 kc ks : Nat} {σ : q_St} {h : q_Hp} {b L x : Nat} {xs : Nat → Int32} {i : Int32} {A : Int → Int32} (C0 : VC p room_1 s m args meth c D cy b0 8 60000 400000 RL cL_law) (S : lc_S s b0 b L xs i A) (I : k_Inv σ h x) (kk : ∀ σ h, k_Inv σ h x → V p l e room_1 s m args below meth c Q D cy b0 8 60000 400000 kc ks σ h 1517 (lc_lv b x i) []) : V p l e room_1 s m args below meth c Q D cy b0 8 60000 400000 (kc + 100) (ks + 700) σ h 567 (lc_lv b x i) [] := by
  obtain ⟨r, h1, h2, e1, e2, I2⟩ := e_earned I
  refine v_run C0 tbL cokL11 (pc' := 568) (lv' := lc_lv b x i) (st' := [.ref x]) (h' := h) 1 rfl trivial ?_
  refine v_callV C0 cokL11 rfl (rest := []) (as := []) (kc' := kc + 100) (ks' := ks + 700) (ctX4_earned x  (I_t4 I) e1) calX4_earned lkL_69 inX4_earned dnX4_earned (ci := 4) ⟨rfl, by decide⟩ (I_t4 I) rfl rfl ⟨Nat.le_of_ble_eq_true rfl, Nat.le_of_ble_eq_true rfl⟩ (Nat.le_of_ble_eq_true rfl) (by omega) (by omega) ?_
  refine v_run C0 tbL cokL11 (pc' := 572) (lv' := lc_lv b x i) (st' := [.ref (x + 88), .int r]) (h' := h1) 1 rfl trivial ?_
  refine v_callV C0 cokL11 rfl (rest := [.int r]) (as := []) (kc' := kc) (ks' := ks) (ctX5_earned (x + 88)  (I_t5 I) e2) calX5_earned lkL_72 inX5_earned dnX5_earned (ci := 5) ⟨rfl, by decide⟩ (I_t5 I) rfl rfl ⟨Nat.le_of_ble_eq_true rfl, Nat.le_of_ble_eq_true rfl⟩ (Nat.le_of_ble_eq_true rfl) (by omega) (by omega) ?_
  refine v_same C0 cokL11 rfl 1517 (by decide) ?_
  exact kk _ _ I2
def cdL12 : q_Cd := [(580, .aload_n 1), (581, .invokevirtual 73), (584, .aload_n 2), (585, .invokevirtual 76), (588, .if_icmp .eq 929), (591, .iconst 0), (592, .ireturn)]
set_option maxRecDepth 100000 in
theorem cokL12 : q_cok cL_law cdL12 := by unfold q_cok; decide +kernel
set_option maxRecDepth 100000 in
set_option maxHeartbeats 4000000 in
theorem lw_c12 {p : Program} {l : Launch} {e : Env} {s : State} {m : MethodId} {args : Array Value} {below : List Frame} {meth : Method} {c : Code} {Q : State → Prop} {D : va_G} {cy : Nat → Nat} {b0 kc ks : Nat} {σ : q_St} {h : q_Hp} {b L x : Nat} {xs : Nat → Int32} {i : Int32} {A : Int → Int32} (C0 : VC p room_1 s m args meth c D cy b0 8 60000 400000 RL cL_law) (S : lc_S s b0 b L xs i A) (I : k_Inv σ h x) (kk : ∀ σ h, k_Inv σ h x → V p l e room_1 s m args below meth c Q D cy b0 8 60000 400000 kc ks σ h 1517 (lc_lv b x i) []) : V p l e room_1 s m args below meth c Q D cy b0 8 60000 400000 (kc + 100) (ks + 700) σ h 580 (lc_lv b x i) [] := by
  obtain ⟨r, h1, h2, e1, e2, I2⟩ := e_alike I
  refine v_run C0 tbL cokL12 (pc' := 581) (lv' := lc_lv b x i) (st' := [.ref x]) (h' := h) 1 rfl trivial ?_
  refine v_callV C0 cokL12 rfl (rest := []) (as := []) (kc' := kc + 100) (ks' := ks + 700) (ctX4_alike x  (I_t4 I) e1) calX4_alike lkL_73 inX4_alike dnX4_alike (ci := 4) ⟨rfl, by decide⟩ (I_t4 I) rfl rfl ⟨Nat.le_of_ble_eq_true rfl, Nat.le_of_ble_eq_true rfl⟩ (Nat.le_of_ble_eq_true rfl) (by omega) (by omega) ?_
  refine v_run C0 tbL cokL12 (pc' := 585) (lv' := lc_lv b x i) (st' := [.ref (x + 88), .int r]) (h' := h1) 1 rfl trivial ?_
  refine v_callV C0 cokL12 rfl (rest := [.int r]) (as := []) (kc' := kc) (ks' := ks) (ctX5_alike (x + 88)  (I_t5 I) e2) calX5_alike lkL_76 inX5_alike dnX5_alike (ci := 5) ⟨rfl, by decide⟩ (I_t5 I) rfl rfl ⟨Nat.le_of_ble_eq_true rfl, Nat.le_of_ble_eq_true rfl⟩ (Nat.le_of_ble_eq_true rfl) (by omega) (by omega) ?_
  refine v_same C0 cokL12 rfl 1517 (by decide) ?_
  exact kk _ _ I2
def cdL13 : q_Cd := [(593, .aload_n 1), (594, .invokevirtual 77), (597, .aload_n 2), (598, .invokevirtual 80), (601, .if_icmp .eq 916), (604, .iconst 0), (605, .ireturn)]
set_option maxRecDepth 100000 in
theorem cokL13 : q_cok cL_law cdL13 := by unfold q_cok; decide +kernel
set_option maxRecDepth 100000 in
set_option maxHeartbeats 4000000 in
theorem lw_c13 {p : Program} {l : Launch} {e : Env} {s : State} {m : MethodId} {args : Array Value} {below : List Frame} {meth : Method} {c : Code} {Q : State → Prop} {D : va_G} {cy : Nat → Nat} {b0 kc ks : Nat} {σ : q_St} {h : q_Hp} {b L x : Nat} {xs : Nat → Int32} {i : Int32} {A : Int → Int32} (C0 : VC p room_1 s m args meth c D cy b0 8 60000 400000 RL cL_law) (S : lc_S s b0 b L xs i A) (I : k_Inv σ h x) (kk : ∀ σ h, k_Inv σ h x → V p l e room_1 s m args below meth c Q D cy b0 8 60000 400000 kc ks σ h 1517 (lc_lv b x i) []) : V p l e room_1 s m args below meth c Q D cy b0 8 60000 400000 (kc + 100) (ks + 700) σ h 593 (lc_lv b x i) [] := by
  obtain ⟨r, h1, σ2, h2, e1, e2, I2⟩ := e_oneMore I
  refine v_run C0 tbL cokL13 (pc' := 594) (lv' := lc_lv b x i) (st' := [.ref x]) (h' := h) 1 rfl trivial ?_
  refine v_callV C0 cokL13 rfl (rest := []) (as := []) (kc' := kc + 100) (ks' := ks + 700) (ctX4_oneMore x  (I_t4 I) e1) calX4_oneMore lkL_77 inX4_oneMore dnX4_oneMore (ci := 4) ⟨rfl, by decide⟩ (I_t4 I) rfl rfl ⟨Nat.le_of_ble_eq_true rfl, Nat.le_of_ble_eq_true rfl⟩ (Nat.le_of_ble_eq_true rfl) (by omega) (by omega) ?_
  refine v_run C0 tbL cokL13 (pc' := 598) (lv' := lc_lv b x i) (st' := [.ref (x + 88), .int r]) (h' := h1) 1 rfl trivial ?_
  refine v_callV C0 cokL13 rfl (rest := [.int r]) (as := []) (kc' := kc) (ks' := ks) (ctX5_oneMore (x + 88)  (I_t5 I) e2) calX5_oneMore lkL_80 inX5_oneMore dnX5_oneMore (ci := 5) ⟨rfl, by decide⟩ (I_t5 I) rfl rfl ⟨Nat.le_of_ble_eq_true rfl, Nat.le_of_ble_eq_true rfl⟩ (Nat.le_of_ble_eq_true rfl) (by omega) (by omega) ?_
  refine v_same C0 cokL13 rfl 1517 (by decide) ?_
  exact kk _ _ I2
