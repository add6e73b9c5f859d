/-! the law's element case, its loop, its entry -/
theorem lkL_175 : Cond.methodLink RL 175 yL_element ∈ q_tbl := (q_tb4 108 rfl rfl)
theorem lkL_180 : Cond.methodLink RL 180 yX5_element ∈ q_tbl := (q_tb6 164 rfl rfl)
theorem lkL_181 : Cond.methodLink RL 181 yX5_thrown ∈ q_tbl := (q_tb5 22 rfl rfl)
set_option maxRecDepth 100000 in
set_option maxHeartbeats 4000000 in
theorem lw_c37 {p : Program} {l : Launch} {e : Env} {s : State} {m : MethodId} {args : Array Value} {below : List Frame} {meth : Method} {c : Code} {Q : State → Prop} {D : va_G} {cy : Nat → Nat} {b0 kc ks : Nat} {σ : q_St} {h : q_Hp} {b L x : Nat} {xs : Nat → Int32} {i : Int32} {A : Int → Int32} (C0 : VC p room_1 s m args meth c D cy b0 8 60000 400000 RL cL_law) (hl : l.stackTraces = false) (hX : q_TX b0 s) (S : lc_S s b0 b L xs i A) (I : k_Inv σ h x) (kk : ∀ σ h, k_Inv σ h x → V p l e room_1 s m args below meth c Q D cy b0 8 60000 400000 kc ks σ h 1517 (lc_lv b x i) []) : V p l e room_1 s m args below meth c Q D cy b0 8 60000 400000 (kc + 100) (ks + 700) σ h 1327 (lc_lv b x i) [] := by
  obtain ⟨r, h1, e1, F⟩ := e_element I (A 1) (A 2)
  refine v_run C0 tbL cokL37 (pc' := 1328) (lv' := lc_lv b x i) (st' := [.ref x]) (h' := h) 1 rfl trivial ?_
  refine v_arg C0 S cokL37 (pc' := 1334) rfl rfl rfl rfl rfl rfl rfl rfl (k := 1) ⟨by decide, by decide⟩ ?_
  refine v_arg C0 S cokL37 (pc' := 1340) rfl rfl rfl rfl rfl rfl rfl rfl (k := 2) ⟨by decide, by decide⟩ ?_
  refine v_run C0 tbL cokL37 (pc' := 1341) (lv' := lc_lv b x i) (st' := [.ref (x + 115), .int (A 2), .int (A 1), .ref x]) (h' := h) 1 rfl trivial ?_
  refine v_callSX C0 hX cokL37 rfl (rest := []) (as := [.ref x, .int (A 1), .int (A 2), .ref (x + 115)]) (kc' := kc + 99) (ks' := ks + 694) (ctL_element hl x (A 1) (A 2) (x + 115) (I_t4 I) e1) calL_element lkL_175 inL_element dnL_element rfl rfl ⟨Nat.le_of_ble_eq_true rfl, Nat.le_of_ble_eq_true rfl⟩ (Nat.le_of_ble_eq_true rfl) (by omega) (by omega) (fun v st₀ t hq => ?_) (fun E st₀ t hq => hq.elim)
  obtain ⟨hv, ⟨n, hn, hW⟩, hF⟩ := hq
  cases hv
  refine ⟨q_gp σ n, h1, hW, hF, ?_⟩
  obtain ⟨w, h2, e2, er, el, I2⟩ := F n hn
  refine v_run C0 tbL cokL37 (pc' := 1347) (lv' := [(5, .int r), (4, .int i), (3, .ref (x + 115)), (2, .ref (x + 88)), (1, .ref x), (0, .ref b)]) (st' := [.ref (x + 88)]) (h' := h1) 2 rfl trivial ?_
  refine v_arg C0 S cokL37 (pc' := 1353) rfl rfl rfl rfl rfl rfl rfl rfl (k := 1) ⟨by decide, by decide⟩ ?_
  refine v_arg C0 S cokL37 (pc' := 1359) rfl rfl rfl rfl rfl rfl rfl rfl (k := 2) ⟨by decide, by decide⟩ ?_
  refine v_callV C0 cokL37 rfl (rest := []) (as := [.int (A 1), .int (A 2)]) (kc' := kc) (ks' := ks) (ctX5_element (x + 88) (A 1) (A 2) (I_t5 I2) e2) calX5_element lkL_180 inX5_element dnX5_element (ci := 5) ⟨rfl, by decide⟩ (I_t5 I2) rfl rfl ⟨Nat.le_of_ble_eq_true rfl, Nat.le_of_ble_eq_true rfl⟩ (Nat.le_of_ble_eq_true rfl) (by omega) (by omega) ?_
  refine v_run C0 tbL cokL37 (pc' := 1365) (lv' := [(6, .long w), (5, .int r), (4, .int i), (3, .ref (x + 115)), (2, .ref (x + 88)), (1, .ref x), (0, .ref b)]) (st' := [.ref (x + 88)]) (h' := h2) 2 rfl trivial ?_
  have e3 : fX5_thrown (q_gp σ n) h2 (x + 88) = some r := by rw [er]; rfl
  refine v_callV C0 cokL37 rfl (rest := []) (as := []) (kc' := kc) (ks' := ks) (ctX5_thrown (x + 88) (I_t5 I2) e3) calX5_thrown lkL_181 inX5_thrown dnX5_thrown (ci := 5) ⟨rfl, by decide⟩ (I_t5 I2) rfl rfl ⟨Nat.le_of_ble_eq_true rfl, Nat.le_of_ble_eq_true rfl⟩ (Nat.le_of_ble_eq_true rfl) (by omega) (by omega) ?_
  refine v_run C0 tbL cokL37 (pc' := 1370) (lv' := [(6, .long w), (5, .int r), (4, .int i), (3, .ref (x + 115)), (2, .ref (x + 88)), (1, .ref x), (0, .ref b)]) (st' := [.int r, .int r]) (h' := h2) 1 rfl trivial ?_
  refine v_same C0 cokL37 rfl 1375 (by decide) ?_
  refine v_run C0 tbL cokL37 (pc' := 1377) (lv' := [(6, .long w), (5, .int r), (4, .int i), (3, .ref (x + 115)), (2, .ref (x + 88)), (1, .ref x), (0, .ref b)]) (st' := [.int r]) (h' := h2) 1 rfl trivial ?_
  have fin : V p l e room_1 s m args below meth c Q D cy b0 8 60000 400000 kc ks (q_gp σ n) h2 1391 [(6, .long w), (5, .int r), (4, .int i), (3, .ref (x + 115)), (2, .ref (x + 88)), (1, .ref x), (0, .ref b)] [] := by
    refine v_run C0 tbL cokL37 (pc' := 1517) (lv' := [(6, .long w), (5, .int r), (4, .int i), (3, .ref (x + 115)), (2, .ref (x + 88)), (1, .ref x), (0, .ref b)]) (st' := []) (h' := h2) 1 rfl trivial ?_
    exact v_sub (lc_lv b x i) (fun q hq => List.mem_cons_of_mem _ (List.mem_cons_of_mem _ hq)) (kk _ _ I2)
  refine v_if_ne C0 cokL37 rfl 1391 (by decide) (A := some ()) (B := some ()) (o := ()) (by split <;> rfl) (fun r0 _ => ?_) (fun _ _ => fin)
  refine v_run C0 tbL cokL37 (pc' := 1385) (lv' := [(6, .long w), (5, .int r), (4, .int i), (3, .ref (x + 115)), (2, .ref (x + 88)), (1, .ref x), (0, .ref b)]) (st' := [.long w, .long (q_lng h2 (x + 115) (Int32.toNatClampNeg 0))]) (h' := h2) 4 rfl ⟨⟨(I_t8 I2).1, by rw [(I_t8 I2).2]; exact vp_in_nI (show 0 < 1 by decide) (by decide)⟩, trivial⟩ ?_
  rw [show q_lng h2 (x + 115) (Int32.toNatClampNeg 0) = w from el r0]
  exact v_sameL C0 cokL37 rfl rfl 1391 (by decide) fin
-- BEGIN LOOP
def cdLh : q_Cd := [(23, .iload 4), (25, .aload_n 0), (26, .arraylength), (27, .bipush 6), (29, .isub), (30, .if_icmp .gt 1493), (33, .aload_n 0), (34, .iload 4), (36, .iaload), (37, .bipush 63), (39, .iand), (1517, .iinc 4 6), (1520, .goto (-1497)), (1523, .iconst 1), (1524, .ireturn)]
set_option maxRecDepth 100000 in
theorem cokLh : q_cok cL_law cdLh := by unfold q_cok; decide +kernel
def cdLs : q_Cd := [(0, .new 8), (3, .dup), (4, .invokespecial 17), (7, .astore_n 1), (8, .new 18), (11, .dup), (12, .invokespecial 20), (15, .astore_n 2), (16, .iconst 1), (17, .newarray .long), (19, .astore_n 3), (20, .iconst 0), (21, .istore 4)]
set_option maxRecDepth 100000 in
theorem cokLs : q_cok cL_law cdLs := by unfold q_cok; decide +kernel
set_option maxRecDepth 100000 in
theorem swL : decode cL_law 40 = .ok (.tableswitch 1477 0 40 #[180, 205, 242, 279, 316, 365, 402, 427, 452, 489, 514, 527, 540, 553, 566, 592, 630, 643, 680, 693, 706, 743, 780, 793, 842, 891, 916, 929, 978, 1003, 1028, 1077, 1090, 1103, 1128, 1189, 1238, 1287, 1354, 1427, 1452], 180) := by decide +kernel
theorem l_gap {L j : Nat} (hL : L ≤ 3072) (hj : j ≤ 512) (h : ¬ Int32.ofNat L - 6 < nI (6 * j)) : 6 * j + 6 ≤ L := by
  rcases Nat.lt_or_ge L 6 with q | q
  · have d : ∀ L, L < 6 → Int32.ofNat L - 6 < 0 := by decide +kernel
    exact absurd (Int32.lt_of_lt_of_le (d L q) (nI_pos' (n := 6 * j) (by omega))) h
  · have e : Int32.ofNat L - 6 = nI (L - 6) := pk_sub (a := L) (b := 6) q
    rw [e] at h
    rcases Nat.lt_or_ge (L - 6) (6 * j) with q2 | q2
    · exact absurd (nI_lt q2 (by omega)) h
    · omega
theorem l_in {L j : Nat} (hL : L ≤ 3072) (hj : 6 * j + 6 ≤ L) {xs : Nat → Int32} : ∀ k : Int, 0 ≤ k → k ≤ 5 → vp_in (nI (6 * j) + q_c k) L ∧ xs (nI (6 * j) + q_c k).toNatClampNeg = xs (6 * j + k.toNat) := by
  intro k h0 h5
  obtain ⟨n, rfl⟩ := Int.eq_ofNat_of_zero_le h0
  have e : nI (6 * j) + q_c (n : Int) = nI (6 * j + n) := nI_add (6 * j) n
  rw [e, k_cl (by omega)]
  exact ⟨vp_in_nI (by omega) (by omega), rfl⟩
section LL
variable {p : Program} {l : Launch} {e : Env} {s : State} {m : MethodId} {below : List Frame} {meth : Method} {c : Code} {D : va_G} {cy : Nat → Nat} {σ : q_St} {h : q_Hp} {b L x : Nat} {xs : Nat → Int32}
theorem v_lawEnd {kc ks : Nat} {lv : List (Nat × Value)} (C0 : VC p room_1 s m #[Value.ref b] meth c D cy s.heap.size 8 60000 400000 RL cL_law) (hr : meth.sig.returnType = ret) (hlk : meth.locks = false) : V p l e room_1 s m #[Value.ref b] below meth c (lw_Z below #[Value.ref b] s) D cy s.heap.size 8 60000 400000 kc ks σ h 1524 lv [.int 1] := by
  intro H locs cells slots ls hW hS hl h1 h2
  refine va_forget (fun q hq => hS.2.2 q hq) ?_
  have r1 : 60000 ≤ room_1.cells := C0.2.2.2.2.2.2.1
  have r2 : 400000 ≤ room_1.slots := C0.2.2.2.2.2.2.2.1
  refine W.widen (k := room_1.cells) (n := room_1.slots) (by omega) (by omega) ?_
  exact lw_ret C0.1 C0.2.1 hr hlk (q_dec cokLh (show q_lk cdLh 1524 = some .ireturn from rfl))
set_option maxRecDepth 100000 in
set_option maxHeartbeats 4000000 in
theorem lw_loop (C0 : VC p room_1 s m #[Value.ref b] meth c D cy s.heap.size 8 60000 400000 RL cL_law) (hr : meth.sig.returnType = ret) (hlk : meth.locks = false) (hl : l.stackTraces = false) (hX : q_TX s.heap.size s) (hxs : va_X b L xs s s.heap) (hbl : b < s.heap.size) (hL : L ≤ 3072) : ∀ (n j : Nat), j + n = 512 → ∀ (σ : q_St) (h : q_Hp), k_Inv σ h x → V p l e room_1 s m #[Value.ref b] below meth c (lw_Z below #[Value.ref b] s) D cy s.heap.size 8 60000 400000 (100 * n) (700 * n) σ h 23 (lc_lv b x (nI (6 * j))) [] := by
  intro n
  induction n with
  | zero =>
    intro j hj σ h I
    refine v_run C0 tbL cokLh (pc' := 26) (lv' := lc_lv b x (nI (6 * j))) (st' := [.ref b, .int (nI (6 * j))]) (h' := h) 2 rfl trivial ?_
    refine v_slen C0 hxs hbl hbl cokLh rfl ?_
    refine v_run C0 tbL cokLh (pc' := 30) (lv' := lc_lv b x (nI (6 * j))) (st' := [.int (Int32.ofNat L - 6), .int (nI (6 * j))]) (h' := h) 2 rfl trivial ?_
    refine v_icmp_gt C0 cokLh rfl 1523 (by decide) (A := some ()) (B := some ()) (o := ()) (by split <;> rfl) (fun _ _ => ?_) (fun q _ => ?_)
    · refine v_run C0 tbL cokLh (pc' := 1524) (lv' := lc_lv b x (nI (6 * j))) (st' := [.int 1]) (h' := h) 1 rfl trivial ?_
      exact v_lawEnd C0 hr hlk
    · have := l_gap hL (by omega) q
      omega
  | succ n ih =>
    intro j hj σ h I
    refine v_run C0 tbL cokLh (pc' := 26) (lv' := lc_lv b x (nI (6 * j))) (st' := [.ref b, .int (nI (6 * j))]) (h' := h) 2 rfl trivial ?_
    refine v_slen C0 hxs hbl hbl cokLh rfl ?_
    refine v_run C0 tbL cokLh (pc' := 30) (lv' := lc_lv b x (nI (6 * j))) (st' := [.int (Int32.ofNat L - 6), .int (nI (6 * j))]) (h' := h) 2 rfl trivial ?_
    refine v_icmp_gt C0 cokLh rfl 1523 (by decide) (A := some ()) (B := some ()) (o := ()) (by split <;> rfl) (fun _ _ => ?_) (fun q _ => ?_)
    · refine v_run C0 tbL cokLh (pc' := 1524) (lv' := lc_lv b x (nI (6 * j))) (st' := [.int 1]) (h' := h) 1 rfl trivial ?_
      exact v_lawEnd C0 hr hlk
    · have gap := l_gap hL (by omega) q
      obtain ⟨A, S⟩ : ∃ A : Int → Int32, lc_S s s.heap.size b L xs (nI (6 * j)) A := ⟨fun k => xs (6 * j + k.toNat), hxs, hbl, hbl, l_in hL gap⟩
      have kk : ∀ σ h, k_Inv σ h x → V p l e room_1 s m #[Value.ref b] below meth c (lw_Z below #[Value.ref b] s) D cy s.heap.size 8 60000 400000 (100 * n) (700 * n) σ h 1517 (lc_lv b x (nI (6 * j))) [] := fun σ h I => by
        refine v_run C0 tbL cokLh (pc' := 23) (lv' := lc_lv b x (nI (6 * j) + 6)) (st' := []) (h' := h) 2 rfl trivial ?_
        have e6 : nI (6 * j) + 6 = nI (6 * (j + 1)) := (nI_add (6 * j) 6).trans (by rw [Nat.mul_add])
        rw [e6]
        exact ih (j + 1) (by omega) σ h I
      rw [show 100 * (n + 1) = 100 * n + 100 by omega, show 700 * (n + 1) = 700 * n + 700 by omega]
      have out : V p l e room_1 s m #[Value.ref b] below meth c (lw_Z below #[Value.ref b] s) D cy s.heap.size 8 60000 400000 (100 * n + 100) (700 * n + 700) σ h 1517 (lc_lv b x (nI (6 * j))) [] := v_less (by omega) (by omega) (kk σ h I)
      refine v_run C0 tbL cokLh (pc' := 36) (lv' := lc_lv b x (nI (6 * j))) (st' := [.int (nI (6 * j)), .ref b]) (h' := h) 2 rfl trivial ?_
      refine v_arg0 C0 S cokLh rfl ?_
      refine v_run C0 tbL cokLh (pc' := 40) (lv' := lc_lv b x (nI (6 * j))) (st' := [.int (A 0 &&& 63)]) (h' := h) 2 rfl trivial ?_
      generalize A 0 &&& 63 = w
      by_cases hw : 0 ≤ w.toInt ∧ w.toInt ≤ 40
      · obtain ⟨k, hk, rfl⟩ := nI_of (x := w) (fun q => by have := Int32.lt_iff_toInt_lt.mp q; simp at this; omega)
        rw [nI_toInt hk] at hw
        have hk41 : k < 41 := by omega
        match k, hk41 with
        | 0, _ => exact v_tabI C0 swL rfl 220 (by decide) (by decide) (lw_c0 C0 S I kk)
        | 1, _ => exact v_tabI C0 swL rfl 245 (by decide) (by decide) (lw_c1 C0 S I kk)
        | 2, _ => exact v_tabI C0 swL rfl 282 (by decide) (by decide) (lw_c2 C0 S I kk)
        | 3, _ => exact v_tabI C0 swL rfl 319 (by decide) (by decide) (lw_c3 C0 S I kk)
        | 4, _ => exact v_tabI C0 swL rfl 356 (by decide) (by decide) (lw_c4 C0 S I kk)
        | 5, _ => exact v_tabI C0 swL rfl 405 (by decide) (by decide) (lw_c5 C0 S I kk)
        | 6, _ => exact v_tabI C0 swL rfl 442 (by decide) (by decide) (lw_c6 C0 S I kk)
        | 7, _ => exact v_tabI C0 swL rfl 467 (by decide) (by decide) (lw_c7 C0 S I kk)
        | 8, _ => exact v_tabI C0 swL rfl 492 (by decide) (by decide) (lw_c8 C0 S I kk)
        | 9, _ => exact v_tabI C0 swL rfl 529 (by decide) (by decide) (lw_c9 C0 S I kk)
        | 10, _ => exact v_tabI C0 swL rfl 554 (by decide) (by decide) (lw_c10 C0 S I kk)
        | 11, _ => exact v_tabI C0 swL rfl 567 (by decide) (by decide) (lw_c11 C0 S I kk)
        | 12, _ => exact v_tabI C0 swL rfl 580 (by decide) (by decide) (lw_c12 C0 S I kk)
        | 13, _ => exact v_tabI C0 swL rfl 593 (by decide) (by decide) (lw_c13 C0 S I kk)
        | 14, _ => exact v_tabI C0 swL rfl 606 (by decide) (by decide) (lw_c14 C0 S I kk)
        | 15, _ => exact v_tabI C0 swL rfl 632 (by decide) (by decide) (lw_c15 C0 S I kk)
        | 16, _ => exact v_tabI C0 swL rfl 670 (by decide) (by decide) (lw_c16 C0 S I kk)
        | 17, _ => exact v_tabI C0 swL rfl 683 (by decide) (by decide) (lw_c17 C0 S I kk)
        | 18, _ => exact v_tabI C0 swL rfl 720 (by decide) (by decide) (lw_c18 C0 S I kk)
        | 19, _ => exact v_tabI C0 swL rfl 733 (by decide) (by decide) (lw_c19 C0 S I kk)
        | 20, _ => exact v_tabI C0 swL rfl 746 (by decide) (by decide) (lw_c20 C0 S I kk)
        | 21, _ => exact v_tabI C0 swL rfl 783 (by decide) (by decide) (lw_c21 C0 S I kk)
        | 22, _ => exact v_tabI C0 swL rfl 820 (by decide) (by decide) (lw_c22 C0 S I kk)
        | 23, _ => exact v_tabI C0 swL rfl 833 (by decide) (by decide) (lw_c23 C0 S I kk)
        | 24, _ => exact v_tabI C0 swL rfl 882 (by decide) (by decide) (lw_c24 C0 S I kk)
        | 25, _ => exact v_tabI C0 swL rfl 931 (by decide) (by decide) (lw_c25 C0 S I kk)
        | 26, _ => exact v_tabI C0 swL rfl 956 (by decide) (by decide) (lw_c26 C0 S I kk)
        | 27, _ => exact v_tabI C0 swL rfl 969 (by decide) (by decide) (lw_c27 C0 S I kk)
        | 28, _ => exact v_tabI C0 swL rfl 1018 (by decide) (by decide) (lw_c28 C0 S I kk)
        | 29, _ => exact v_tabI C0 swL rfl 1043 (by decide) (by decide) (lw_c29 C0 S I kk)
        | 30, _ => exact v_tabI C0 swL rfl 1068 (by decide) (by decide) (lw_c30 C0 S I kk)
        | 31, _ => exact v_tabI C0 swL rfl 1117 (by decide) (by decide) (lw_c31 C0 S I kk)
        | 32, _ => exact v_tabI C0 swL rfl 1130 (by decide) (by decide) (lw_c32 C0 S I kk)
        | 33, _ => exact v_tabI C0 swL rfl 1143 (by decide) (by decide) (lw_c33 C0 S I kk)
        | 34, _ => exact v_tabI C0 swL rfl 1168 (by decide) (by decide) (lw_c34 C0 S I kk)
        | 35, _ => exact v_tabI C0 swL rfl 1229 (by decide) (by decide) (lw_c35 C0 S I kk)
        | 36, _ => exact v_tabI C0 swL rfl 1278 (by decide) (by decide) (lw_c36 C0 S I kk)
        | 37, _ => exact v_tabI C0 swL rfl 1327 (by decide) (by decide) (lw_c37 C0 hl hX S I kk)
        | 38, _ => exact v_tabI C0 swL rfl 1394 (by decide) (by decide) (lw_c38 C0 S I kk)
        | 39, _ => exact v_tabI C0 swL rfl 1467 (by decide) (by decide) (lw_c39 C0 S I kk)
        | 40, _ => exact v_tabI C0 swL rfl 1492 (by decide) (by decide) (lw_c40 C0 hl hX S I kk)
      · exact v_tabO C0 swL 1517 (by decide) (fun k h0 h1 e => hw (by omega)) out
end LL
