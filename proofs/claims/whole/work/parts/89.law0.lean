/-! the law's cases 0 to 6 -/
theorem lkL_21 : Cond.methodLink RL 21 yX4_shop ∈ q_tbl := (q_tb2 11 rfl rfl)
theorem lkL_25 : Cond.methodLink RL 25 yX5_shop ∈ q_tbl := (q_tb5 26 rfl rfl)
theorem lkL_26 : Cond.methodLink RL 26 yX4_suit ∈ q_tbl := (q_tb2 116 rfl rfl)
theorem lkL_30 : Cond.methodLink RL 30 yX5_suit ∈ q_tbl := (q_tb5 146 rfl rfl)
theorem lkL_31 : Cond.methodLink RL 31 yX4_booking ∈ q_tbl := (q_tb2 123 rfl rfl)
theorem lkL_34 : Cond.methodLink RL 34 yX5_booking ∈ q_tbl := (q_tb5 154 rfl rfl)
theorem lkL_35 : Cond.methodLink RL 35 yX4_buys ∈ q_tbl := (q_tb2 128 rfl rfl)
theorem lkL_38 : Cond.methodLink RL 38 yX5_buys ∈ q_tbl := (q_tb5 158 rfl rfl)
theorem lkL_39 : Cond.methodLink RL 39 yX4_books ∈ q_tbl := (q_tb2 136 rfl rfl)
theorem lkL_43 : Cond.methodLink RL 43 yX5_books ∈ q_tbl := (q_tb5 167 rfl rfl)
theorem lkL_44 : Cond.methodLink RL 44 yX4_hires ∈ q_tbl := (q_tb2 140 rfl rfl)
theorem lkL_47 : Cond.methodLink RL 47 yX5_hires ∈ q_tbl := (q_tb5 173 rfl rfl)
theorem lkL_48 : Cond.methodLink RL 48 yX4_returns ∈ q_tbl := (q_tb2 144 rfl rfl)
theorem lkL_51 : Cond.methodLink RL 51 yX5_returns ∈ q_tbl := (q_tb5 177 rfl rfl)
theorem lkL_52 : Cond.methodLink RL 52 yX4_cleans ∈ q_tbl := (q_tb2 148 rfl rfl)
theorem lkL_55 : Cond.methodLink RL 55 yX5_cleans ∈ q_tbl := (q_tb5 181 rfl rfl)
theorem lkL_56 : Cond.methodLink RL 56 yX4_fits ∈ q_tbl := (q_tb2 152 rfl rfl)
theorem lkL_59 : Cond.methodLink RL 59 yX5_fits ∈ q_tbl := (q_tb5 185 rfl rfl)
theorem lkL_60 : Cond.methodLink RL 60 yX4_served ∈ q_tbl := (q_tb2 157 rfl rfl)
theorem lkL_63 : Cond.methodLink RL 63 yX5_served ∈ q_tbl := (q_tb5 189 rfl rfl)
theorem lkL_64 : Cond.methodLink RL 64 yX4_leftOver ∈ q_tbl := (q_tb2 212 rfl rfl)
theorem lkL_68 : Cond.methodLink RL 68 yX5_leftOver ∈ q_tbl := (q_tb5 224 rfl rfl)
theorem lkL_69 : Cond.methodLink RL 69 yX4_earned ∈ q_tbl := (q_tb2 216 rfl rfl)
theorem lkL_72 : Cond.methodLink RL 72 yX5_earned ∈ q_tbl := (q_tb5 232 rfl rfl)
theorem lkL_73 : Cond.methodLink RL 73 yX4_alike ∈ q_tbl := (q_tb2 228 rfl rfl)
theorem lkL_76 : Cond.methodLink RL 76 yX5_alike ∈ q_tbl := (q_tb6 0 rfl rfl)
theorem lkL_77 : Cond.methodLink RL 77 yX4_oneMore ∈ q_tbl := (q_tb3 0 rfl rfl)
theorem lkL_80 : Cond.methodLink RL 80 yX5_oneMore ∈ q_tbl := (q_tb6 4 rfl rfl)
theorem lkL_81 : Cond.methodLink RL 81 yX4_grown ∈ q_tbl := (q_tb3 8 rfl rfl)
theorem lkL_85 : Cond.methodLink RL 85 yX5_grown ∈ q_tbl := (q_tb6 12 rfl rfl)
theorem lkL_86 : Cond.methodLink RL 86 yX4_come ∈ q_tbl := (q_tb3 38 rfl rfl)
theorem lkL_89 : Cond.methodLink RL 89 yX5_come ∈ q_tbl := (q_tb6 27 rfl rfl)
theorem lkL_90 : Cond.methodLink RL 90 yX4_refuse ∈ q_tbl := (q_tb3 47 rfl rfl)
theorem lkL_93 : Cond.methodLink RL 93 yX5_refuse ∈ q_tbl := (q_tb6 31 rfl rfl)
theorem lkL_94 : Cond.methodLink RL 94 yX4_buy ∈ q_tbl := (q_tb3 52 rfl rfl)
theorem lkL_97 : Cond.methodLink RL 97 yX5_buy ∈ q_tbl := (q_tb6 35 rfl rfl)
theorem lkL_98 : Cond.methodLink RL 98 yX4_sell ∈ q_tbl := (q_tb3 56 rfl rfl)
theorem lkL_101 : Cond.methodLink RL 101 yX5_sell ∈ q_tbl := (q_tb6 39 rfl rfl)
theorem lkL_102 : Cond.methodLink RL 102 yX4_shines ∈ q_tbl := (q_tb3 60 rfl rfl)
theorem lkL_105 : Cond.methodLink RL 105 yX5_shines ∈ q_tbl := (q_tb6 43 rfl rfl)
theorem lkL_106 : Cond.methodLink RL 106 yX4_ready ∈ q_tbl := (q_tb3 64 rfl rfl)
theorem lkL_109 : Cond.methodLink RL 109 yX5_ready ∈ q_tbl := (q_tb6 47 rfl rfl)
theorem lkL_110 : Cond.methodLink RL 110 yX4_fee ∈ q_tbl := (q_tb3 98 rfl rfl)
theorem lkL_113 : Cond.methodLink RL 113 yX5_fee ∈ q_tbl := (q_tb6 72 rfl rfl)
theorem lkL_114 : Cond.methodLink RL 114 yX4_bestFee ∈ q_tbl := (q_tb3 110 rfl rfl)
theorem lkL_117 : Cond.methodLink RL 117 yX5_bestFee ∈ q_tbl := (q_tb6 84 rfl rfl)
theorem lkL_118 : Cond.methodLink RL 118 yX4_atFive ∈ q_tbl := (q_tb3 114 rfl rfl)
theorem lkL_121 : Cond.methodLink RL 121 yX5_atFive ∈ q_tbl := (q_tb6 88 rfl rfl)
theorem lkL_122 : Cond.methodLink RL 122 yX4_taxi ∈ q_tbl := (q_tb3 118 rfl rfl)
theorem lkL_125 : Cond.methodLink RL 125 yX5_taxi ∈ q_tbl := (q_tb6 92 rfl rfl)
theorem lkL_126 : Cond.methodLink RL 126 yX4_friday ∈ q_tbl := (q_tb3 123 rfl rfl)
theorem lkL_129 : Cond.methodLink RL 129 yX5_friday ∈ q_tbl := (q_tb6 96 rfl rfl)
theorem lkL_130 : Cond.methodLink RL 130 yX4_tight ∈ q_tbl := (q_tb3 131 rfl rfl)
theorem lkL_133 : Cond.methodLink RL 133 yX5_tight ∈ q_tbl := (q_tb6 100 rfl rfl)
theorem lkL_134 : Cond.methodLink RL 134 yX4_stained ∈ q_tbl := (q_tb3 136 rfl rfl)
theorem lkL_137 : Cond.methodLink RL 137 yX5_stained ∈ q_tbl := (q_tb6 116 rfl rfl)
theorem lkL_138 : Cond.methodLink RL 138 yX4_forged ∈ q_tbl := (q_tb3 150 rfl rfl)
theorem lkL_141 : Cond.methodLink RL 141 yX5_forged ∈ q_tbl := (q_tb6 104 rfl rfl)
theorem lkL_142 : Cond.methodLink RL 142 yX4_judge ∈ q_tbl := (q_tb3 154 rfl rfl)
theorem lkL_145 : Cond.methodLink RL 145 yX5_judge ∈ q_tbl := (q_tb6 125 rfl rfl)
theorem lkL_146 : Cond.methodLink RL 146 yX4_weeks ∈ q_tbl := (q_tb3 158 rfl rfl)
theorem lkL_149 : Cond.methodLink RL 149 yX5_weeks ∈ q_tbl := (q_tb6 129 rfl rfl)
theorem lkL_150 : Cond.methodLink RL 150 yX4_image ∈ q_tbl := (q_tb3 175 rfl rfl)
theorem lkL_153 : Cond.methodLink RL 153 yX5_image ∈ q_tbl := (q_tb5 138 rfl rfl)
theorem lkL_154 : Cond.methodLink RL 154 yX4_restore ∈ q_tbl := (q_tb3 179 rfl rfl)
theorem lkL_157 : Cond.methodLink RL 157 yX5_restore ∈ q_tbl := (q_tb5 142 rfl rfl)
theorem lkL_158 : Cond.methodLink RL 158 yX4_count ∈ q_tbl := (q_tb3 183 rfl rfl)
theorem lkL_161 : Cond.methodLink RL 161 yX5_count ∈ q_tbl := (q_tb6 144 rfl rfl)
theorem lkL_162 : Cond.methodLink RL 162 yX4_keep ∈ q_tbl := (q_tb3 191 rfl rfl)
theorem lkL_166 : Cond.methodLink RL 166 yX5_keep ∈ q_tbl := (q_tb6 148 rfl rfl)
theorem lkL_167 : Cond.methodLink RL 167 yX4_row ∈ q_tbl := (q_tb3 203 rfl rfl)
theorem lkL_170 : Cond.methodLink RL 170 yX5_row ∈ q_tbl := (q_tb6 153 rfl rfl)
theorem lkL_171 : Cond.methodLink RL 171 yX4_put ∈ q_tbl := (q_tb3 211 rfl rfl)
theorem lkL_174 : Cond.methodLink RL 174 yX5_put ∈ q_tbl := (q_tb6 157 rfl rfl)
theorem lkL_184 : Cond.methodLink RL 184 yX4_copy ∈ q_tbl := (q_tb3 219 rfl rfl)
theorem lkL_188 : Cond.methodLink RL 188 yX5_copy ∈ q_tbl := (q_tb6 168 rfl rfl)
theorem lkL_189 : Cond.methodLink RL 189 yX4_cost ∈ q_tbl := (q_tb3 230 rfl rfl)
theorem lkL_192 : Cond.methodLink RL 192 yX5_cost ∈ q_tbl := (q_tb6 172 rfl rfl)
theorem lkL_193 : Cond.methodLink RL 193 yX4_toss ∈ q_tbl := (q_tb3 234 rfl rfl)
theorem lkL_196 : Cond.methodLink RL 196 yX5_toss ∈ q_tbl := (q_tb6 179 rfl rfl)
def cdL0 : q_Cd := [(220, .aload_n 1), (221, .aload_n 0), (222, .iload 4), (224, .iconst 1), (225, .iadd), (226, .iaload), (227, .invokevirtual 21), (230, .aload_n 2), (231, .aload_n 0), (232, .iload 4), (234, .iconst 1), (235, .iadd), (236, .iaload), (237, .invokevirtual 25), (240, .if_icmp .eq 1277), (243, .iconst 0), (244, .ireturn)]
set_option maxRecDepth 100000 in
theorem cokL0 : q_cok cL_law cdL0 := by unfold q_cok; decide +kernel
set_option maxRecDepth 100000 in
set_option maxHeartbeats 4000000 in
theorem lw_c0 {p : Program} {l : Launch} {e : Env} {s : State} {m : MethodId} {args : Array Value} {below : List Frame} {meth : Method} {c : Code} {Q : State → Prop} {D : va_G} {cy : Nat → Nat} {b0 kc ks : Nat} {σ : q_St} {h : q_Hp} {b L x : Nat} {xs : Nat → Int32} {i : Int32} {A : Int → Int32} (C0 : VC p room_1 s m args meth c D cy b0 8 60000 400000 RL cL_law) (S : lc_S s b0 b L xs i A) (I : k_Inv σ h x) (kk : ∀ σ h, k_Inv σ h x → V p l e room_1 s m args below meth c Q D cy b0 8 60000 400000 kc ks σ h 1517 (lc_lv b x i) []) : V p l e room_1 s m args below meth c Q D cy b0 8 60000 400000 (kc + 100) (ks + 700) σ h 220 (lc_lv b x i) [] := by
  obtain ⟨r, σ1, h1, σ2, h2, t5, e1, e2, I2⟩ := e_shop I (A 1)
  refine v_run C0 tbL cokL0 (pc' := 221) (lv' := lc_lv b x i) (st' := [.ref x]) (h' := h) 1 rfl trivial ?_
  refine v_arg C0 S cokL0 (pc' := 227) rfl rfl rfl rfl rfl rfl rfl rfl (k := 1) ⟨by decide, by decide⟩ ?_
  refine v_callV C0 cokL0 rfl (rest := []) (as := [.int (A 1)]) (kc' := kc + 0) (ks' := ks + 0) (ctX4_shop x (A 1) (I_t4 I) e1) calX4_shop lkL_21 inX4_shop dnX4_shop (ci := 4) ⟨rfl, by decide⟩ (I_t4 I) rfl rfl ⟨Nat.le_of_ble_eq_true rfl, Nat.le_of_ble_eq_true rfl⟩ (Nat.le_of_ble_eq_true rfl) (by omega) (by omega) ?_
  refine v_run C0 tbL cokL0 (pc' := 231) (lv' := lc_lv b x i) (st' := [.ref (x + 88), .int r]) (h' := h1) 1 rfl trivial ?_
  refine v_arg C0 S cokL0 (pc' := 237) rfl rfl rfl rfl rfl rfl rfl rfl (k := 1) ⟨by decide, by decide⟩ ?_
  refine v_callV C0 cokL0 rfl (rest := [.int r]) (as := [.int (A 1)]) (kc' := kc) (ks' := ks) (ctX5_shop (x + 88) (A 1) t5 e2) calX5_shop lkL_25 inX5_shop dnX5_shop (ci := 5) ⟨rfl, by decide⟩ t5 rfl rfl ⟨Nat.le_of_ble_eq_true rfl, Nat.le_of_ble_eq_true rfl⟩ (Nat.le_of_ble_eq_true rfl) (by omega) (by omega) ?_
  refine v_same C0 cokL0 rfl 1517 (by decide) ?_
  exact kk _ _ I2
def cdL1 : q_Cd := [(245, .aload_n 1), (246, .aload_n 0), (247, .iload 4), (249, .iconst 1), (250, .iadd), (251, .iaload), (252, .aload_n 0), (253, .iload 4), (255, .iconst 2), (256, .iadd), (257, .iaload), (258, .invokevirtual 26), (261, .aload_n 2), (262, .aload_n 0), (263, .iload 4), (265, .iconst 1), (266, .iadd), (267, .iaload), (268, .aload_n 0), (269, .iload 4), (271, .iconst 2), (272, .iadd), (273, .iaload), (274, .invokevirtual 30), (277, .if_icmp .eq 1240), (280, .iconst 0), (281, .ireturn)]
set_option maxRecDepth 100000 in
theorem cokL1 : q_cok cL_law cdL1 := by unfold q_cok; decide +kernel
set_option maxRecDepth 100000 in
set_option maxHeartbeats 4000000 in
theorem lw_c1 {p : Program} {l : Launch} {e : Env} {s : State} {m : MethodId} {args : Array Value} {below : List Frame} {meth : Method} {c : Code} {Q : State → Prop} {D : va_G} {cy : Nat → Nat} {b0 kc ks : Nat} {σ : q_St} {h : q_Hp} {b L x : Nat} {xs : Nat → Int32} {i : Int32} {A : Int → Int32} (C0 : VC p room_1 s m args meth c D cy b0 8 60000 400000 RL cL_law) (S : lc_S s b0 b L xs i A) (I : k_Inv σ h x) (kk : ∀ σ h, k_Inv σ h x → V p l e room_1 s m args below meth c Q D cy b0 8 60000 400000 kc ks σ h 1517 (lc_lv b x i) []) : V p l e room_1 s m args below meth c Q D cy b0 8 60000 400000 (kc + 100) (ks + 700) σ h 245 (lc_lv b x i) [] := by
  obtain ⟨r, h2, e1, e2, I2⟩ := e_suit I (A 1) (A 2)
  refine v_run C0 tbL cokL1 (pc' := 246) (lv' := lc_lv b x i) (st' := [.ref x]) (h' := h) 1 rfl trivial ?_
  refine v_arg C0 S cokL1 (pc' := 252) rfl rfl rfl rfl rfl rfl rfl rfl (k := 1) ⟨by decide, by decide⟩ ?_
  refine v_arg C0 S cokL1 (pc' := 258) rfl rfl rfl rfl rfl rfl rfl rfl (k := 2) ⟨by decide, by decide⟩ ?_
  refine v_callV C0 cokL1 rfl (rest := []) (as := [.int (A 1), .int (A 2)]) (kc' := kc + 100) (ks' := ks + 700) (ctX4_suit x (A 1) (A 2) (I_t4 I) e1) calX4_suit lkL_26 inX4_suit dnX4_suit (ci := 4) ⟨rfl, by decide⟩ (I_t4 I) rfl rfl ⟨Nat.le_of_ble_eq_true rfl, Nat.le_of_ble_eq_true rfl⟩ (Nat.le_of_ble_eq_true rfl) (by omega) (by omega) ?_
  refine v_run C0 tbL cokL1 (pc' := 262) (lv' := lc_lv b x i) (st' := [.ref (x + 88), .int r]) (h' := h) 1 rfl trivial ?_
  refine v_arg C0 S cokL1 (pc' := 268) rfl rfl rfl rfl rfl rfl rfl rfl (k := 1) ⟨by decide, by decide⟩ ?_
  refine v_arg C0 S cokL1 (pc' := 274) rfl rfl rfl rfl rfl rfl rfl rfl (k := 2) ⟨by decide, by decide⟩ ?_
  refine v_callV C0 cokL1 rfl (rest := [.int r]) (as := [.int (A 1), .int (A 2)]) (kc' := kc) (ks' := ks) (ctX5_suit (x + 88) (A 1) (A 2) (I_t5 I) e2) calX5_suit lkL_30 inX5_suit dnX5_suit (ci := 5) ⟨rfl, by decide⟩ (I_t5 I) rfl rfl ⟨Nat.le_of_ble_eq_true rfl, Nat.le_of_ble_eq_true rfl⟩ (Nat.le_of_ble_eq_true rfl) (by omega) (by omega) ?_
  refine v_same C0 cokL1 rfl 1517 (by decide) ?_
  exact kk _ _ I2
def cdL2 : q_Cd := [(282, .aload_n 1), (283, .aload_n 0), (284, .iload 4), (286, .iconst 1), (287, .iadd), (288, .iaload), (289, .aload_n 0), (290, .iload 4), (292, .iconst 2), (293, .iadd), (294, .iaload), (295, .invokevirtual 31), (298, .aload_n 2), (299, .aload_n 0), (300, .iload 4), (302, .iconst 1), (303, .iadd), (304, .iaload), (305, .aload_n 0), (306, .iload 4), (308, .iconst 2), (309, .iadd), (310, .iaload), (311, .invokevirtual 34), (314, .if_icmp .eq 1203), (317, .iconst 0), (318, .ireturn)]
set_option maxRecDepth 100000 in
theorem cokL2 : q_cok cL_law cdL2 := by unfold q_cok; decide +kernel
set_option maxRecDepth 100000 in
set_option maxHeartbeats 4000000 in
theorem lw_c2 {p : Program} {l : Launch} {e : Env} {s : State} {m : MethodId} {args : Array Value} {below : List Frame} {meth : Method} {c : Code} {Q : State → Prop} {D : va_G} {cy : Nat → Nat} {b0 kc ks : Nat} {σ : q_St} {h : q_Hp} {b L x : Nat} {xs : Nat → Int32} {i : Int32} {A : Int → Int32} (C0 : VC p room_1 s m args meth c D cy b0 8 60000 400000 RL cL_law) (S : lc_S s b0 b L xs i A) (I : k_Inv σ h x) (kk : ∀ σ h, k_Inv σ h x → V p l e room_1 s m args below meth c Q D cy b0 8 60000 400000 kc ks σ h 1517 (lc_lv b x i) []) : V p l e room_1 s m args below meth c Q D cy b0 8 60000 400000 (kc + 100) (ks + 700) σ h 282 (lc_lv b x i) [] := by
  obtain ⟨r, h2, e1, e2, I2⟩ := e_booking I (A 1) (A 2)
  refine v_run C0 tbL cokL2 (pc' := 283) (lv' := lc_lv b x i) (st' := [.ref x]) (h' := h) 1 rfl trivial ?_
  refine v_arg C0 S cokL2 (pc' := 289) rfl rfl rfl rfl rfl rfl rfl rfl (k := 1) ⟨by decide, by decide⟩ ?_
  refine v_arg C0 S cokL2 (pc' := 295) rfl rfl rfl rfl rfl rfl rfl rfl (k := 2) ⟨by decide, by decide⟩ ?_
  refine v_callV C0 cokL2 rfl (rest := []) (as := [.int (A 1), .int (A 2)]) (kc' := kc + 100) (ks' := ks + 700) (ctX4_booking x (A 1) (A 2) (I_t4 I) e1) calX4_booking lkL_31 inX4_booking dnX4_booking (ci := 4) ⟨rfl, by decide⟩ (I_t4 I) rfl rfl ⟨Nat.le_of_ble_eq_true rfl, Nat.le_of_ble_eq_true rfl⟩ (Nat.le_of_ble_eq_true rfl) (by omega) (by omega) ?_
  refine v_run C0 tbL cokL2 (pc' := 299) (lv' := lc_lv b x i) (st' := [.ref (x + 88), .int r]) (h' := h) 1 rfl trivial ?_
  refine v_arg C0 S cokL2 (pc' := 305) rfl rfl rfl rfl rfl rfl rfl rfl (k := 1) ⟨by decide, by decide⟩ ?_
  refine v_arg C0 S cokL2 (pc' := 311) rfl rfl rfl rfl rfl rfl rfl rfl (k := 2) ⟨by decide, by decide⟩ ?_
  refine v_callV C0 cokL2 rfl (rest := [.int r]) (as := [.int (A 1), .int (A 2)]) (kc' := kc) (ks' := ks) (ctX5_booking (x + 88) (A 1) (A 2) (I_t5 I) e2) calX5_booking lkL_34 inX5_booking dnX5_booking (ci := 5) ⟨rfl, by decide⟩ (I_t5 I) rfl rfl ⟨Nat.le_of_ble_eq_true rfl, Nat.le_of_ble_eq_true rfl⟩ (Nat.le_of_ble_eq_true rfl) (by omega) (by omega) ?_
  refine v_same C0 cokL2 rfl 1517 (by decide) ?_
  exact kk _ _ I2
def cdL3 : q_Cd := [(319, .aload_n 1), (320, .aload_n 0), (321, .iload 4), (323, .iconst 1), (324, .iadd), (325, .iaload), (326, .aload_n 0), (327, .iload 4), (329, .iconst 2), (330, .iadd), (331, .iaload), (332, .invokevirtual 35), (335, .aload_n 2), (336, .aload_n 0), (337, .iload 4), (339, .iconst 1), (340, .iadd), (341, .iaload), (342, .aload_n 0), (343, .iload 4), (345, .iconst 2), (346, .iadd), (347, .iaload), (348, .invokevirtual 38), (351, .if_icmp .eq 1166), (354, .iconst 0), (355, .ireturn)]
set_option maxRecDepth 100000 in
theorem cokL3 : q_cok cL_law cdL3 := by unfold q_cok; decide +kernel
set_option maxRecDepth 100000 in
set_option maxHeartbeats 4000000 in
theorem lw_c3 {p : Program} {l : Launch} {e : Env} {s : State} {m : MethodId} {args : Array Value} {below : List Frame} {meth : Method} {c : Code} {Q : State → Prop} {D : va_G} {cy : Nat → Nat} {b0 kc ks : Nat} {σ : q_St} {h : q_Hp} {b L x : Nat} {xs : Nat → Int32} {i : Int32} {A : Int → Int32} (C0 : VC p room_1 s m args meth c D cy b0 8 60000 400000 RL cL_law) (S : lc_S s b0 b L xs i A) (I : k_Inv σ h x) (kk : ∀ σ h, k_Inv σ h x → V p l e room_1 s m args below meth c Q D cy b0 8 60000 400000 kc ks σ h 1517 (lc_lv b x i) []) : V p l e room_1 s m args below meth c Q D cy b0 8 60000 400000 (kc + 100) (ks + 700) σ h 319 (lc_lv b x i) [] := by
  obtain ⟨r, σ1, h1, h2, e1, e2, I2⟩ := e_buys I (A 1) (A 2)
  refine v_run C0 tbL cokL3 (pc' := 320) (lv' := lc_lv b x i) (st' := [.ref x]) (h' := h) 1 rfl trivial ?_
  refine v_arg C0 S cokL3 (pc' := 326) rfl rfl rfl rfl rfl rfl rfl rfl (k := 1) ⟨by decide, by decide⟩ ?_
  refine v_arg C0 S cokL3 (pc' := 332) rfl rfl rfl rfl rfl rfl rfl rfl (k := 2) ⟨by decide, by decide⟩ ?_
  refine v_callV C0 cokL3 rfl (rest := []) (as := [.int (A 1), .int (A 2)]) (kc' := kc + 100) (ks' := ks + 700) (ctX4_buys x (A 1) (A 2) (I_t4 I) e1) calX4_buys lkL_35 inX4_buys dnX4_buys (ci := 4) ⟨rfl, by decide⟩ (I_t4 I) rfl rfl ⟨Nat.le_of_ble_eq_true rfl, Nat.le_of_ble_eq_true rfl⟩ (Nat.le_of_ble_eq_true rfl) (by omega) (by omega) ?_
  refine v_run C0 tbL cokL3 (pc' := 336) (lv' := lc_lv b x i) (st' := [.ref (x + 88), .int r]) (h' := h1) 1 rfl trivial ?_
  refine v_arg C0 S cokL3 (pc' := 342) rfl rfl rfl rfl rfl rfl rfl rfl (k := 1) ⟨by decide, by decide⟩ ?_
  refine v_arg C0 S cokL3 (pc' := 348) rfl rfl rfl rfl rfl rfl rfl rfl (k := 2) ⟨by decide, by decide⟩ ?_
  refine v_callV C0 cokL3 rfl (rest := [.int r]) (as := [.int (A 1), .int (A 2)]) (kc' := kc) (ks' := ks) (ctX5_buys (x + 88) (A 1) (A 2) (I_t5 I2) e2) calX5_buys lkL_38 inX5_buys dnX5_buys (ci := 5) ⟨rfl, by decide⟩ (I_t5 I2) rfl rfl ⟨Nat.le_of_ble_eq_true rfl, Nat.le_of_ble_eq_true rfl⟩ (Nat.le_of_ble_eq_true rfl) (by omega) (by omega) ?_
  refine v_same C0 cokL3 rfl 1517 (by decide) ?_
  exact kk _ _ I2
def cdL4 : q_Cd := [(356, .aload_n 1), (357, .aload_n 0), (358, .iload 4), (360, .iconst 1), (361, .iadd), (362, .iaload), (363, .aload_n 0), (364, .iload 4), (366, .iconst 2), (367, .iadd), (368, .iaload), (369, .aload_n 0), (370, .iload 4), (372, .iconst 3), (373, .iadd), (374, .iaload), (375, .invokevirtual 39), (378, .aload_n 2), (379, .aload_n 0), (380, .iload 4), (382, .iconst 1), (383, .iadd), (384, .iaload), (385, .aload_n 0), (386, .iload 4), (388, .iconst 2), (389, .iadd), (390, .iaload), (391, .aload_n 0), (392, .iload 4), (394, .iconst 3), (395, .iadd), (396, .iaload), (397, .invokevirtual 43), (400, .if_icmp .eq 1117), (403, .iconst 0), (404, .ireturn)]
set_option maxRecDepth 100000 in
theorem cokL4 : q_cok cL_law cdL4 := by unfold q_cok; decide +kernel
set_option maxRecDepth 100000 in
set_option maxHeartbeats 4000000 in
theorem lw_c4 {p : Program} {l : Launch} {e : Env} {s : State} {m : MethodId} {args : Array Value} {below : List Frame} {meth : Method} {c : Code} {Q : State → Prop} {D : va_G} {cy : Nat → Nat} {b0 kc ks : Nat} {σ : q_St} {h : q_Hp} {b L x : Nat} {xs : Nat → Int32} {i : Int32} {A : Int → Int32} (C0 : VC p room_1 s m args meth c D cy b0 8 60000 400000 RL cL_law) (S : lc_S s b0 b L xs i A) (I : k_Inv σ h x) (kk : ∀ σ h, k_Inv σ h x → V p l e room_1 s m args below meth c Q D cy b0 8 60000 400000 kc ks σ h 1517 (lc_lv b x i) []) : V p l e room_1 s m args below meth c Q D cy b0 8 60000 400000 (kc + 100) (ks + 700) σ h 356 (lc_lv b x i) [] := by
  obtain ⟨r, h1, h2, e1, e2, I2⟩ := e_books I (A 1) (A 2) (A 3)
  refine v_run C0 tbL cokL4 (pc' := 357) (lv' := lc_lv b x i) (st' := [.ref x]) (h' := h) 1 rfl trivial ?_
  refine v_arg C0 S cokL4 (pc' := 363) rfl rfl rfl rfl rfl rfl rfl rfl (k := 1) ⟨by decide, by decide⟩ ?_
  refine v_arg C0 S cokL4 (pc' := 369) rfl rfl rfl rfl rfl rfl rfl rfl (k := 2) ⟨by decide, by decide⟩ ?_
  refine v_arg C0 S cokL4 (pc' := 375) rfl rfl rfl rfl rfl rfl rfl rfl (k := 3) ⟨by decide, by decide⟩ ?_
  refine v_callV C0 cokL4 rfl (rest := []) (as := [.int (A 1), .int (A 2), .int (A 3)]) (kc' := kc + 100) (ks' := ks + 700) (ctX4_books x (A 1) (A 2) (A 3) (I_t4 I) e1) calX4_books lkL_39 inX4_books dnX4_books (ci := 4) ⟨rfl, by decide⟩ (I_t4 I) rfl rfl ⟨Nat.le_of_ble_eq_true rfl, Nat.le_of_ble_eq_true rfl⟩ (Nat.le_of_ble_eq_true rfl) (by omega) (by omega) ?_
  refine v_run C0 tbL cokL4 (pc' := 379) (lv' := lc_lv b x i) (st' := [.ref (x + 88), .int r]) (h' := h1) 1 rfl trivial ?_
  refine v_arg C0 S cokL4 (pc' := 385) rfl rfl rfl rfl rfl rfl rfl rfl (k := 1) ⟨by decide, by decide⟩ ?_
  refine v_arg C0 S cokL4 (pc' := 391) rfl rfl rfl rfl rfl rfl rfl rfl (k := 2) ⟨by decide, by decide⟩ ?_
  refine v_arg C0 S cokL4 (pc' := 397) rfl rfl rfl rfl rfl rfl rfl rfl (k := 3) ⟨by decide, by decide⟩ ?_
  refine v_callV C0 cokL4 rfl (rest := [.int r]) (as := [.int (A 1), .int (A 2), .int (A 3)]) (kc' := kc) (ks' := ks) (ctX5_books (x + 88) (A 1) (A 2) (A 3) (I_t5 I) e2) calX5_books lkL_43 inX5_books dnX5_books (ci := 5) ⟨rfl, by decide⟩ (I_t5 I) rfl rfl ⟨Nat.le_of_ble_eq_true rfl, Nat.le_of_ble_eq_true rfl⟩ (Nat.le_of_ble_eq_true rfl) (by omega) (by omega) ?_
  refine v_same C0 cokL4 rfl 1517 (by decide) ?_
  exact kk _ _ I2
def cdL5 : q_Cd := [(405, .aload_n 1), (406, .aload_n 0), (407, .iload 4), (409, .iconst 1), (410, .iadd), (411, .iaload), (412, .aload_n 0), (413, .iload 4), (415, .iconst 2), (416, .iadd), (417, .iaload), (418, .invokevirtual 44), (421, .aload_n 2), (422, .aload_n 0), (423, .iload 4), (425, .iconst 1), (426, .iadd), (427, .iaload), (428, .aload_n 0), (429, .iload 4), (431, .iconst 2), (432, .iadd), (433, .iaload), (434, .invokevirtual 47), (437, .if_icmp .eq 1080), (440, .iconst 0), (441, .ireturn)]
set_option maxRecDepth 100000 in
theorem cokL5 : q_cok cL_law cdL5 := by unfold q_cok; decide +kernel
set_option maxRecDepth 100000 in
set_option maxHeartbeats 4000000 in
theorem lw_c5 {p : Program} {l : Launch} {e : Env} {s : State} {m : MethodId} {args : Array Value} {below : List Frame} {meth : Method} {c : Code} {Q : State → Prop} {D : va_G} {cy : Nat → Nat} {b0 kc ks : Nat} {σ : q_St} {h : q_Hp} {b L x : Nat} {xs : Nat → Int32} {i : Int32} {A : Int → Int32} (C0 : VC p room_1 s m args meth c D cy b0 8 60000 400000 RL cL_law) (S : lc_S s b0 b L xs i A) (I : k_Inv σ h x) (kk : ∀ σ h, k_Inv σ h x → V p l e room_1 s m args below meth c Q D cy b0 8 60000 400000 kc ks σ h 1517 (lc_lv b x i) []) : V p l e room_1 s m args below meth c Q D cy b0 8 60000 400000 (kc + 100) (ks + 700) σ h 405 (lc_lv b x i) [] := by
  obtain ⟨r, h1, h2, e1, e2, I2⟩ := e_hires I (A 1) (A 2)
  refine v_run C0 tbL cokL5 (pc' := 406) (lv' := lc_lv b x i) (st' := [.ref x]) (h' := h) 1 rfl trivial ?_
  refine v_arg C0 S cokL5 (pc' := 412) rfl rfl rfl rfl rfl rfl rfl rfl (k := 1) ⟨by decide, by decide⟩ ?_
  refine v_arg C0 S cokL5 (pc' := 418) rfl rfl rfl rfl rfl rfl rfl rfl (k := 2) ⟨by decide, by decide⟩ ?_
  refine v_callV C0 cokL5 rfl (rest := []) (as := [.int (A 1), .int (A 2)]) (kc' := kc + 100) (ks' := ks + 700) (ctX4_hires x (A 1) (A 2) (I_t4 I) e1) calX4_hires lkL_44 inX4_hires dnX4_hires (ci := 4) ⟨rfl, by decide⟩ (I_t4 I) rfl rfl ⟨Nat.le_of_ble_eq_true rfl, Nat.le_of_ble_eq_true rfl⟩ (Nat.le_of_ble_eq_true rfl) (by omega) (by omega) ?_
  refine v_run C0 tbL cokL5 (pc' := 422) (lv' := lc_lv b x i) (st' := [.ref (x + 88), .int r]) (h' := h1) 1 rfl trivial ?_
  refine v_arg C0 S cokL5 (pc' := 428) rfl rfl rfl rfl rfl rfl rfl rfl (k := 1) ⟨by decide, by decide⟩ ?_
  refine v_arg C0 S cokL5 (pc' := 434) rfl rfl rfl rfl rfl rfl rfl rfl (k := 2) ⟨by decide, by decide⟩ ?_
  refine v_callV C0 cokL5 rfl (rest := [.int r]) (as := [.int (A 1), .int (A 2)]) (kc' := kc) (ks' := ks) (ctX5_hires (x + 88) (A 1) (A 2) (I_t5 I) e2) calX5_hires lkL_47 inX5_hires dnX5_hires (ci := 5) ⟨rfl, by decide⟩ (I_t5 I) rfl rfl ⟨Nat.le_of_ble_eq_true rfl, Nat.le_of_ble_eq_true rfl⟩ (Nat.le_of_ble_eq_true rfl) (by omega) (by omega) ?_
  refine v_same C0 cokL5 rfl 1517 (by decide) ?_
  exact kk _ _ I2
def cdL6 : q_Cd := [(442, .aload_n 1), (443, .aload_n 0), (444, .iload 4), (446, .iconst 1), (447, .iadd), (448, .iaload), (449, .invokevirtual 48), (452, .aload_n 2), (453, .aload_n 0), (454, .iload 4), (456, .iconst 1), (457, .iadd), (458, .iaload), (459, .invokevirtual 51), (462, .if_icmp .eq 1055), (465, .iconst 0), (466, .ireturn)]
set_option maxRecDepth 100000 in
theorem cokL6 : q_cok cL_law cdL6 := by unfold q_cok; decide +kernel
set_option maxRecDepth 100000 in
set_option maxHeartbeats 4000000 in
theorem lw_c6 {p : Program} {l : Launch} {e : Env} {s : State} {m : MethodId} {args : Array Value} {below : List Frame} {meth : Method} {c : Code} {Q : State → Prop} {D : va_G} {cy : Nat → Nat} {b0 kc ks : Nat} {σ : q_St} {h : q_Hp} {b L x : Nat} {xs : Nat → Int32} {i : Int32} {A : Int → Int32} (C0 : VC p room_1 s m args meth c D cy b0 8 60000 400000 RL cL_law) (S : lc_S s b0 b L xs i A) (I : k_Inv σ h x) (kk : ∀ σ h, k_Inv σ h x → V p l e room_1 s m args below meth c Q D cy b0 8 60000 400000 kc ks σ h 1517 (lc_lv b x i) []) : V p l e room_1 s m args below meth c Q D cy b0 8 60000 400000 (kc + 100) (ks + 700) σ h 442 (lc_lv b x i) [] := by
  obtain ⟨r, h1, h2, e1, e2, I2⟩ := e_returns I (A 1)
  refine v_run C0 tbL cokL6 (pc' := 443) (lv' := lc_lv b x i) (st' := [.ref x]) (h' := h) 1 rfl trivial ?_
  refine v_arg C0 S cokL6 (pc' := 449) rfl rfl rfl rfl rfl rfl rfl rfl (k := 1) ⟨by decide, by decide⟩ ?_
  refine v_callV C0 cokL6 rfl (rest := []) (as := [.int (A 1)]) (kc' := kc + 100) (ks' := ks + 700) (ctX4_returns x (A 1) (I_t4 I) e1) calX4_returns lkL_48 inX4_returns dnX4_returns (ci := 4) ⟨rfl, by decide⟩ (I_t4 I) rfl rfl ⟨Nat.le_of_ble_eq_true rfl, Nat.le_of_ble_eq_true rfl⟩ (Nat.le_of_ble_eq_true rfl) (by omega) (by omega) ?_
  refine v_run C0 tbL cokL6 (pc' := 453) (lv' := lc_lv b x i) (st' := [.ref (x + 88), .int r]) (h' := h1) 1 rfl trivial ?_
  refine v_arg C0 S cokL6 (pc' := 459) rfl rfl rfl rfl rfl rfl rfl rfl (k := 1) ⟨by decide, by decide⟩ ?_
  refine v_callV C0 cokL6 rfl (rest := [.int r]) (as := [.int (A 1)]) (kc' := kc) (ks' := ks) (ctX5_returns (x + 88) (A 1) (I_t5 I) e2) calX5_returns lkL_51 inX5_returns dnX5_returns (ci := 5) ⟨rfl, by decide⟩ (I_t5 I) rfl rfl ⟨Nat.le_of_ble_eq_true rfl, Nat.le_of_ble_eq_true rfl⟩ (Nat.le_of_ble_eq_true rfl) (by omega) (by omega) ?_
  refine v_same C0 cokL6 rfl 1517 (by decide) ?_
  exact kk _ _ I2
