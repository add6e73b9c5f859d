/-! the law's cases 35 to 40 -/
def cdL35 : q_Cd := [(1229, .aload_n 1), (1230, .aload_n 0), (1231, .iload 4), (1233, .iconst 1), (1234, .iadd), (1235, .iaload), (1236, .aload_n 0), (1237, .iload 4), (1239, .iconst 2), (1240, .iadd), (1241, .iaload), (1242, .aload_n 0), (1243, .iload 4), (1245, .iconst 3), (1246, .iadd), (1247, .iaload), (1248, .invokevirtual 167), (1251, .aload_n 2), (1252, .aload_n 0), (1253, .iload 4), (1255, .iconst 1), (1256, .iadd), (1257, .iaload), (1258, .aload_n 0), (1259, .iload 4), (1261, .iconst 2), (1262, .iadd), (1263, .iaload), (1264, .aload_n 0), (1265, .iload 4), (1267, .iconst 3), (1268, .iadd), (1269, .iaload), (1270, .invokevirtual 170), (1273, .if_icmp .eq 244), (1276, .iconst 0), (1277, .ireturn)]
set_option maxRecDepth 100000 in
theorem cokL35 : q_cok cL_law cdL35 := by unfold q_cok; decide +kernel
set_option maxRecDepth 100000 in
set_option maxHeartbeats 4000000 in
theorem lw_c35 {p : Program} {l : Launch} {e : Env} {s : State} {m : MethodId} {args : Array Value} {below : List Frame} {meth : Method} {c : Code} {Q : State → Prop} {D : va_G} {cy : Nat → Nat} {b0 kc ks : Nat} {σ : q_St} {h : q_Hp} {b L x : Nat} {xs : Nat → Int32} {i : Int32} {A : Int → Int32} (C0 : VC p room_1 s m args meth c D cy b0 8 60000 400000 RL cL_law) (S : lc_S s b0 b L xs i A) (I : k_Inv σ h x) (kk : ∀ σ h, k_Inv σ h x → V p l e room_1 s m args below meth c Q D cy b0 8 60000 400000 kc ks σ h 1517 (lc_lv b x i) []) : V p l e room_1 s m args below meth c Q D cy b0 8 60000 400000 (kc + 100) (ks + 700) σ h 1229 (lc_lv b x i) [] := by
  obtain ⟨r, h1, h2, e1, e2, I2⟩ := e_row I (A 1) (A 2) (A 3)
  refine v_run C0 tbL cokL35 (pc' := 1230) (lv' := lc_lv b x i) (st' := [.ref x]) (h' := h) 1 rfl trivial ?_
  refine v_arg C0 S cokL35 (pc' := 1236) rfl rfl rfl rfl rfl rfl rfl rfl (k := 1) ⟨by decide, by decide⟩ ?_
  refine v_arg C0 S cokL35 (pc' := 1242) rfl rfl rfl rfl rfl rfl rfl rfl (k := 2) ⟨by decide, by decide⟩ ?_
  refine v_arg C0 S cokL35 (pc' := 1248) rfl rfl rfl rfl rfl rfl rfl rfl (k := 3) ⟨by decide, by decide⟩ ?_
  refine v_callV C0 cokL35 rfl (rest := []) (as := [.int (A 1), .int (A 2), .int (A 3)]) (kc' := kc + 100) (ks' := ks + 700) (ctX4_row x (A 1) (A 2) (A 3) (I_t4 I) e1) calX4_row lkL_167 inX4_row dnX4_row (ci := 4) ⟨rfl, by decide⟩ (I_t4 I) rfl rfl ⟨Nat.le_of_ble_eq_true rfl, Nat.le_of_ble_eq_true rfl⟩ (Nat.le_of_ble_eq_true rfl) (by omega) (by omega) ?_
  refine v_run C0 tbL cokL35 (pc' := 1252) (lv' := lc_lv b x i) (st' := [.ref (x + 88), .int r]) (h' := h1) 1 rfl trivial ?_
  refine v_arg C0 S cokL35 (pc' := 1258) rfl rfl rfl rfl rfl rfl rfl rfl (k := 1) ⟨by decide, by decide⟩ ?_
  refine v_arg C0 S cokL35 (pc' := 1264) rfl rfl rfl rfl rfl rfl rfl rfl (k := 2) ⟨by decide, by decide⟩ ?_
  refine v_arg C0 S cokL35 (pc' := 1270) rfl rfl rfl rfl rfl rfl rfl rfl (k := 3) ⟨by decide, by decide⟩ ?_
  refine v_callV C0 cokL35 rfl (rest := [.int r]) (as := [.int (A 1), .int (A 2), .int (A 3)]) (kc' := kc) (ks' := ks) (ctX5_row (x + 88) (A 1) (A 2) (A 3) (I_t5 I) e2) calX5_row lkL_170 inX5_row dnX5_row (ci := 5) ⟨rfl, by decide⟩ (I_t5 I) rfl rfl ⟨Nat.le_of_ble_eq_true rfl, Nat.le_of_ble_eq_true rfl⟩ (Nat.le_of_ble_eq_true rfl) (by omega) (by omega) ?_
  refine v_same C0 cokL35 rfl 1517 (by decide) ?_
  exact kk _ _ I2
def cdL36 : q_Cd := [(1278, .aload_n 1), (1279, .aload_n 0), (1280, .iload 4), (1282, .iconst 1), (1283, .iadd), (1284, .iaload), (1285, .aload_n 0), (1286, .iload 4), (1288, .iconst 2), (1289, .iadd), (1290, .iaload), (1291, .aload_n 0), (1292, .iload 4), (1294, .iconst 3), (1295, .iadd), (1296, .iaload), (1297, .invokevirtual 171), (1300, .aload_n 2), (1301, .aload_n 0), (1302, .iload 4), (1304, .iconst 1), (1305, .iadd), (1306, .iaload), (1307, .aload_n 0), (1308, .iload 4), (1310, .iconst 2), (1311, .iadd), (1312, .iaload), (1313, .aload_n 0), (1314, .iload 4), (1316, .iconst 3), (1317, .iadd), (1318, .iaload), (1319, .invokevirtual 174), (1322, .if_icmp .eq 195), (1325, .iconst 0), (1326, .ireturn)]
set_option maxRecDepth 100000 in
theorem cokL36 : q_cok cL_law cdL36 := by unfold q_cok; decide +kernel
set_option maxRecDepth 100000 in
set_option maxHeartbeats 4000000 in
theorem lw_c36 {p : Program} {l : Launch} {e : Env} {s : State} {m : MethodId} {args : Array Value} {below : List Frame} {meth : Method} {c : Code} {Q : State → Prop} {D : va_G} {cy : Nat → Nat} {b0 kc ks : Nat} {σ : q_St} {h : q_Hp} {b L x : Nat} {xs : Nat → Int32} {i : Int32} {A : Int → Int32} (C0 : VC p room_1 s m args meth c D cy b0 8 60000 400000 RL cL_law) (S : lc_S s b0 b L xs i A) (I : k_Inv σ h x) (kk : ∀ σ h, k_Inv σ h x → V p l e room_1 s m args below meth c Q D cy b0 8 60000 400000 kc ks σ h 1517 (lc_lv b x i) []) : V p l e room_1 s m args below meth c Q D cy b0 8 60000 400000 (kc + 100) (ks + 700) σ h 1278 (lc_lv b x i) [] := by
  obtain ⟨r, h1, h2, e1, e2, I2⟩ := e_put I (A 1) (A 2) (A 3)
  refine v_run C0 tbL cokL36 (pc' := 1279) (lv' := lc_lv b x i) (st' := [.ref x]) (h' := h) 1 rfl trivial ?_
  refine v_arg C0 S cokL36 (pc' := 1285) rfl rfl rfl rfl rfl rfl rfl rfl (k := 1) ⟨by decide, by decide⟩ ?_
  refine v_arg C0 S cokL36 (pc' := 1291) rfl rfl rfl rfl rfl rfl rfl rfl (k := 2) ⟨by decide, by decide⟩ ?_
  refine v_arg C0 S cokL36 (pc' := 1297) rfl rfl rfl rfl rfl rfl rfl rfl (k := 3) ⟨by decide, by decide⟩ ?_
  refine v_callV C0 cokL36 rfl (rest := []) (as := [.int (A 1), .int (A 2), .int (A 3)]) (kc' := kc + 100) (ks' := ks + 700) (ctX4_put x (A 1) (A 2) (A 3) (I_t4 I) e1) calX4_put lkL_171 inX4_put dnX4_put (ci := 4) ⟨rfl, by decide⟩ (I_t4 I) rfl rfl ⟨Nat.le_of_ble_eq_true rfl, Nat.le_of_ble_eq_true rfl⟩ (Nat.le_of_ble_eq_true rfl) (by omega) (by omega) ?_
  refine v_run C0 tbL cokL36 (pc' := 1301) (lv' := lc_lv b x i) (st' := [.ref (x + 88), .int r]) (h' := h1) 1 rfl trivial ?_
  refine v_arg C0 S cokL36 (pc' := 1307) rfl rfl rfl rfl rfl rfl rfl rfl (k := 1) ⟨by decide, by decide⟩ ?_
  refine v_arg C0 S cokL36 (pc' := 1313) rfl rfl rfl rfl rfl rfl rfl rfl (k := 2) ⟨by decide, by decide⟩ ?_
  refine v_arg C0 S cokL36 (pc' := 1319) rfl rfl rfl rfl rfl rfl rfl rfl (k := 3) ⟨by decide, by decide⟩ ?_
  refine v_callV C0 cokL36 rfl (rest := [.int r]) (as := [.int (A 1), .int (A 2), .int (A 3)]) (kc' := kc) (ks' := ks) (ctX5_put (x + 88) (A 1) (A 2) (A 3) (I_t5 I) e2) calX5_put lkL_174 inX5_put dnX5_put (ci := 5) ⟨rfl, by decide⟩ (I_t5 I) rfl rfl ⟨Nat.le_of_ble_eq_true rfl, Nat.le_of_ble_eq_true rfl⟩ (Nat.le_of_ble_eq_true rfl) (by omega) (by omega) ?_
  refine v_same C0 cokL36 rfl 1517 (by decide) ?_
  exact kk _ _ I2
def cdL37 : q_Cd := [(1327, .aload_n 1), (1328, .aload_n 0), (1329, .iload 4), (1331, .iconst 1), (1332, .iadd), (1333, .iaload), (1334, .aload_n 0), (1335, .iload 4), (1337, .iconst 2), (1338, .iadd), (1339, .iaload), (1340, .aload_n 3), (1341, .invokestatic 175), (1344, .istore 5), (1346, .aload_n 2), (1347, .aload_n 0), (1348, .iload 4), (1350, .iconst 1), (1351, .iadd), (1352, .iaload), (1353, .aload_n 0), (1354, .iload 4), (1356, .iconst 2), (1357, .iadd), (1358, .iaload), (1359, .invokevirtual 180), (1362, .lstore 6), (1364, .aload_n 2), (1365, .invokevirtual 181), (1368, .iload 5), (1370, .if_icmp .eq 5), (1373, .iconst 0), (1374, .ireturn), (1375, .iload 5), (1377, .ifCond .ne 14), (1380, .aload_n 3), (1381, .iconst 0), (1382, .laload), (1383, .lload 6), (1385, .lcmp), (1386, .ifCond .eq 5), (1389, .iconst 0), (1390, .ireturn), (1391, .goto 126)]
set_option maxRecDepth 100000 in
theorem cokL37 : q_cok cL_law cdL37 := by unfold q_cok; decide +kernel
def cdL38 : q_Cd := [(1394, .aload_n 1), (1395, .aload_n 0), (1396, .iload 4), (1398, .iconst 1), (1399, .iadd), (1400, .iaload), (1401, .aload_n 0), (1402, .iload 4), (1404, .iconst 2), (1405, .iadd), (1406, .iaload), (1407, .aload_n 0), (1408, .iload 4), (1410, .iconst 3), (1411, .iadd), (1412, .iaload), (1413, .aload_n 0), (1414, .iload 4), (1416, .iconst 4), (1417, .iadd), (1418, .iaload), (1419, .aload_n 0), (1420, .iload 4), (1422, .iconst 5), (1423, .iadd), (1424, .iaload), (1425, .invokevirtual 184), (1428, .aload_n 2), (1429, .aload_n 0), (1430, .iload 4), (1432, .iconst 1), (1433, .iadd), (1434, .iaload), (1435, .aload_n 0), (1436, .iload 4), (1438, .iconst 2), (1439, .iadd), (1440, .iaload), (1441, .aload_n 0), (1442, .iload 4), (1444, .iconst 3), (1445, .iadd), (1446, .iaload), (1447, .aload_n 0), (1448, .iload 4), (1450, .iconst 4), (1451, .iadd), (1452, .iaload), (1453, .aload_n 0), (1454, .iload 4), (1456, .iconst 5), (1457, .iadd), (1458, .iaload), (1459, .invokevirtual 188), (1462, .if_icmp .eq 55), (1465, .iconst 0), (1466, .ireturn)]
set_option maxRecDepth 100000 in
theorem cokL38 : q_cok cL_law cdL38 := by unfold q_cok; decide +kernel
set_option maxRecDepth 100000 in
set_option maxHeartbeats 4000000 in
theorem lw_c38 {p : Program} {l : Launch} {e : Env} {s : State} {m : MethodId} {args : Array Value} {below : List Frame} {meth : Method} {c : Code} {Q : State → Prop} {D : va_G} {cy : Nat → Nat} {b0 kc ks : Nat} {σ : q_St} {h : q_Hp} {b L x : Nat} {xs : Nat → Int32} {i : Int32} {A : Int → Int32} (C0 : VC p room_1 s m args meth c D cy b0 8 60000 400000 RL cL_law) (S : lc_S s b0 b L xs i A) (I : k_Inv σ h x) (kk : ∀ σ h, k_Inv σ h x → V p l e room_1 s m args below meth c Q D cy b0 8 60000 400000 kc ks σ h 1517 (lc_lv b x i) []) : V p l e room_1 s m args below meth c Q D cy b0 8 60000 400000 (kc + 100) (ks + 700) σ h 1394 (lc_lv b x i) [] := by
  obtain ⟨r, h1, h2, e1, e2, I2⟩ := e_copy I (A 1) (A 2) (A 3) (A 4) (A 5)
  refine v_run C0 tbL cokL38 (pc' := 1395) (lv' := lc_lv b x i) (st' := [.ref x]) (h' := h) 1 rfl trivial ?_
  refine v_arg C0 S cokL38 (pc' := 1401) rfl rfl rfl rfl rfl rfl rfl rfl (k := 1) ⟨by decide, by decide⟩ ?_
  refine v_arg C0 S cokL38 (pc' := 1407) rfl rfl rfl rfl rfl rfl rfl rfl (k := 2) ⟨by decide, by decide⟩ ?_
  refine v_arg C0 S cokL38 (pc' := 1413) rfl rfl rfl rfl rfl rfl rfl rfl (k := 3) ⟨by decide, by decide⟩ ?_
  refine v_arg C0 S cokL38 (pc' := 1419) rfl rfl rfl rfl rfl rfl rfl rfl (k := 4) ⟨by decide, by decide⟩ ?_
  refine v_arg C0 S cokL38 (pc' := 1425) rfl rfl rfl rfl rfl rfl rfl rfl (k := 5) ⟨by decide, by decide⟩ ?_
  refine v_callV C0 cokL38 rfl (rest := []) (as := [.int (A 1), .int (A 2), .int (A 3), .int (A 4), .int (A 5)]) (kc' := kc + 100) (ks' := ks + 700) (ctX4_copy x (A 1) (A 2) (A 3) (A 4) (A 5) (I_t4 I) e1) calX4_copy lkL_184 inX4_copy dnX4_copy (ci := 4) ⟨rfl, by decide⟩ (I_t4 I) rfl rfl ⟨Nat.le_of_ble_eq_true rfl, Nat.le_of_ble_eq_true rfl⟩ (Nat.le_of_ble_eq_true rfl) (by omega) (by omega) ?_
  refine v_run C0 tbL cokL38 (pc' := 1429) (lv' := lc_lv b x i) (st' := [.ref (x + 88), .int r]) (h' := h1) 1 rfl trivial ?_
  refine v_arg C0 S cokL38 (pc' := 1435) rfl rfl rfl rfl rfl rfl rfl rfl (k := 1) ⟨by decide, by decide⟩ ?_
  refine v_arg C0 S cokL38 (pc' := 1441) rfl rfl rfl rfl rfl rfl rfl rfl (k := 2) ⟨by decide, by decide⟩ ?_
  refine v_arg C0 S cokL38 (pc' := 1447) rfl rfl rfl rfl rfl rfl rfl rfl (k := 3) ⟨by decide, by decide⟩ ?_
  refine v_arg C0 S cokL38 (pc' := 1453) rfl rfl rfl rfl rfl rfl rfl rfl (k := 4) ⟨by decide, by decide⟩ ?_
  refine v_arg C0 S cokL38 (pc' := 1459) rfl rfl rfl rfl rfl rfl rfl rfl (k := 5) ⟨by decide, by decide⟩ ?_
  refine v_callV C0 cokL38 rfl (rest := [.int r]) (as := [.int (A 1), .int (A 2), .int (A 3), .int (A 4), .int (A 5)]) (kc' := kc) (ks' := ks) (ctX5_copy (x + 88) (A 1) (A 2) (A 3) (A 4) (A 5) (I_t5 I) e2) calX5_copy lkL_188 inX5_copy dnX5_copy (ci := 5) ⟨rfl, by decide⟩ (I_t5 I) rfl rfl ⟨Nat.le_of_ble_eq_true rfl, Nat.le_of_ble_eq_true rfl⟩ (Nat.le_of_ble_eq_true rfl) (by omega) (by omega) ?_
  refine v_same C0 cokL38 rfl 1517 (by decide) ?_
  exact kk _ _ I2
def cdL39 : q_Cd := [(1467, .aload_n 1), (1468, .aload_n 0), (1469, .iload 4), (1471, .iconst 1), (1472, .iadd), (1473, .iaload), (1474, .invokevirtual 189), (1477, .aload_n 2), (1478, .aload_n 0), (1479, .iload 4), (1481, .iconst 1), (1482, .iadd), (1483, .iaload), (1484, .invokevirtual 192), (1487, .if_icmp .eq 30), (1490, .iconst 0), (1491, .ireturn)]
set_option maxRecDepth 100000 in
theorem cokL39 : q_cok cL_law cdL39 := by unfold q_cok; decide +kernel
set_option maxRecDepth 100000 in
set_option maxHeartbeats 4000000 in
theorem lw_c39 {p : Program} {l : Launch} {e : Env} {s : State} {m : MethodId} {args : Array Value} {below : List Frame} {meth : Method} {c : Code} {Q : State → Prop} {D : va_G} {cy : Nat → Nat} {b0 kc ks : Nat} {σ : q_St} {h : q_Hp} {b L x : Nat} {xs : Nat → Int32} {i : Int32} {A : Int → Int32} (C0 : VC p room_1 s m args meth c D cy b0 8 60000 400000 RL cL_law) (S : lc_S s b0 b L xs i A) (I : k_Inv σ h x) (kk : ∀ σ h, k_Inv σ h x → V p l e room_1 s m args below meth c Q D cy b0 8 60000 400000 kc ks σ h 1517 (lc_lv b x i) []) : V p l e room_1 s m args below meth c Q D cy b0 8 60000 400000 (kc + 100) (ks + 700) σ h 1467 (lc_lv b x i) [] := by
  obtain ⟨r, h2, e1, e2, I2⟩ := e_cost I (A 1)
  refine v_run C0 tbL cokL39 (pc' := 1468) (lv' := lc_lv b x i) (st' := [.ref x]) (h' := h) 1 rfl trivial ?_
  refine v_arg C0 S cokL39 (pc' := 1474) rfl rfl rfl rfl rfl rfl rfl rfl (k := 1) ⟨by decide, by decide⟩ ?_
  refine v_callV C0 cokL39 rfl (rest := []) (as := [.int (A 1)]) (kc' := kc + 100) (ks' := ks + 700) (ctX4_cost x (A 1) (I_t4 I) e1) calX4_cost lkL_189 inX4_cost dnX4_cost (ci := 4) ⟨rfl, by decide⟩ (I_t4 I) rfl rfl ⟨Nat.le_of_ble_eq_true rfl, Nat.le_of_ble_eq_true rfl⟩ (Nat.le_of_ble_eq_true rfl) (by omega) (by omega) ?_
  refine v_run C0 tbL cokL39 (pc' := 1478) (lv' := lc_lv b x i) (st' := [.ref (x + 88), .int r]) (h' := h) 1 rfl trivial ?_
  refine v_arg C0 S cokL39 (pc' := 1484) rfl rfl rfl rfl rfl rfl rfl rfl (k := 1) ⟨by decide, by decide⟩ ?_
  refine v_callV C0 cokL39 rfl (rest := [.int r]) (as := [.int (A 1)]) (kc' := kc) (ks' := ks) (ctX5_cost (x + 88) (A 1) (I_t5 I) e2) calX5_cost lkL_192 inX5_cost dnX5_cost (ci := 5) ⟨rfl, by decide⟩ (I_t5 I) rfl rfl ⟨Nat.le_of_ble_eq_true rfl, Nat.le_of_ble_eq_true rfl⟩ (Nat.le_of_ble_eq_true rfl) (by omega) (by omega) ?_
  refine v_same C0 cokL39 rfl 1517 (by decide) ?_
  exact kk _ _ I2
def cdL40 : q_Cd := [(1492, .aload_n 1), (1493, .aload_n 0), (1494, .iload 4), (1496, .iconst 1), (1497, .iadd), (1498, .iaload), (1499, .invokevirtual 193), (1502, .aload_n 2), (1503, .aload_n 0), (1504, .iload 4), (1506, .iconst 1), (1507, .iadd), (1508, .iaload), (1509, .invokevirtual 196), (1512, .if_icmp .eq 5), (1515, .iconst 0), (1516, .ireturn)]
set_option maxRecDepth 100000 in
theorem cokL40 : q_cok cL_law cdL40 := by unfold q_cok; decide +kernel
set_option maxRecDepth 100000 in
set_option maxHeartbeats 4000000 in
theorem lw_c40 {p : Program} {l : Launch} {e : Env} {s : State} {m : MethodId} {args : Array Value} {below : List Frame} {meth : Method} {c : Code} {Q : State → Prop} {D : va_G} {cy : Nat → Nat} {b0 kc ks : Nat} {σ : q_St} {h : q_Hp} {b L x : Nat} {xs : Nat → Int32} {i : Int32} {A : Int → Int32} (C0 : VC p room_1 s m args meth c D cy b0 8 60000 400000 RL cL_law) (hl : l.stackTraces = false) (hX : q_TX b0 s) (S : lc_S s b0 b L xs i A) (I : k_Inv σ h x) (kk : ∀ σ h, k_Inv σ h x → V p l e room_1 s m args below meth c Q D cy b0 8 60000 400000 kc ks σ h 1517 (lc_lv b x i) []) : V p l e room_1 s m args below meth c Q D cy b0 8 60000 400000 (kc + 100) (ks + 700) σ h 1492 (lc_lv b x i) [] := by
  obtain ⟨r, e1, F⟩ := e_toss I (A 1)
  refine v_run C0 tbL cokL40 (pc' := 1493) (lv' := lc_lv b x i) (st' := [.ref x]) (h' := h) 1 rfl trivial ?_
  refine v_arg C0 S cokL40 (pc' := 1499) rfl rfl rfl rfl rfl rfl rfl rfl (k := 1) ⟨by decide, by decide⟩ ?_
  refine v_callVX C0 hX cokL40 rfl (rest := []) (as := [.int (A 1)]) (kc' := kc + 99) (ks' := ks + 694) (ctX4_toss hl x (A 1) (I_t4 I) e1) calX4_toss lkL_193 inX4_toss dnX4_toss (ci := 4) ⟨rfl, by decide⟩ (I_t4 I) rfl rfl ⟨Nat.le_of_ble_eq_true rfl, Nat.le_of_ble_eq_true rfl⟩ (Nat.le_of_ble_eq_true rfl) (by omega) (by omega) (fun v st₀ t hq => ?_) (fun E st₀ t hq => hq.elim)
  obtain ⟨hv, ⟨n, hn, hW⟩, hF⟩ := hq
  cases hv
  refine ⟨q_gp σ n, h, hW, hF, ?_⟩
  obtain ⟨h2, e2, I2⟩ := F n hn
  refine v_run C0 tbL cokL40 (pc' := 1503) (lv' := lc_lv b x i) (st' := [.ref (x + 88), .int r]) (h' := h) 1 rfl trivial ?_
  refine v_arg C0 S cokL40 (pc' := 1509) rfl rfl rfl rfl rfl rfl rfl rfl (k := 1) ⟨by decide, by decide⟩ ?_
  refine v_callV C0 cokL40 rfl (rest := [.int r]) (as := [.int (A 1)]) (kc' := kc) (ks' := ks) (ctX5_toss (x + 88) (A 1) (I_t5 I2) e2) calX5_toss lkL_196 inX5_toss dnX5_toss (ci := 5) ⟨rfl, by decide⟩ (I_t5 I2) rfl rfl ⟨Nat.le_of_ble_eq_true rfl, Nat.le_of_ble_eq_true rfl⟩ (Nat.le_of_ble_eq_true rfl) (by omega) (by omega) ?_
  refine v_same C0 cokL40 rfl 1517 (by decide) ?_
  exact kk _ _ I2
