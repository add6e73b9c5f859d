/-! tables: fields, constants, links, as the class files have them -/
def TbX0 : q_Tb := ([(9, 0, 0), (15, 0, 1), (18, 0, 2), (21, 0, 3), (24, 0, 4), (27, 0, 5), (30, 0, 6), (33, 0, 7), (36, 0, 8), (39, 0, 9), (43, 0, 10), (60, 2, 1), (78, 3, 2), (87, 2, 10), (94, 3, 0)], [], [])
set_option maxRecDepth 100000 in
theorem tbX0 : q_tok RX0 TbX0 := q_tok_of [177, 178, 179, 180, 181, 182, 183, 184, 185, 187, 189, 80, 49, 99, 45] [] [] (by decide +kernel) (by decide +kernel) (by decide +kernel) (by decide +kernel)
def TbX1 : q_Tb := ([(9, 1, 0), (15, 1, 1), (24, 1, 2), (28, 1, 3), (31, 1, 4)], [(34, (-2147483648 : Int32))], [])
set_option maxRecDepth 100000 in
theorem tbX1 : q_tok RX1 TbX1 := q_tok_of [148, 150, 152, 154, 156] [556] [] (by decide +kernel) (by decide +kernel) (by decide +kernel) (by decide +kernel)
def TbX2 : q_Tb := ([(11, 2, 0), (17, 2, 1), (21, 2, 2), (24, 2, 3), (27, 2, 4), (30, 2, 5), (33, 2, 6), (36, 2, 7), (39, 2, 8), (42, 2, 9), (48, 2, 10), (52, 2, 11), (56, 2, 12), (59, 2, 13), (62, 2, 14), (95, 3, 2), (106, 3, 4), (113, 3, 3)], [], [])
set_option maxRecDepth 100000 in
theorem tbX2 : q_tok RX2 TbX2 := q_tok_of [78, 79, 82, 84, 86, 88, 90, 92, 94, 96, 98, 100, 102, 104, 106, 51, 57, 54] [] [] (by decide +kernel) (by decide +kernel) (by decide +kernel) (by decide +kernel)
def TbX3 : q_Tb := ([(18, 3, 0), (22, 3, 1), (25, 3, 2), (28, 3, 3), (31, 3, 4), (34, 3, 5), (37, 3, 6)], [], [])
set_option maxRecDepth 100000 in
theorem tbX3 : q_tok RX3 TbX3 := q_tok_of [43, 46, 48, 52, 55, 58, 60] [] [] (by decide +kernel) (by decide +kernel) (by decide +kernel) (by decide +kernel)
def TbX4 : q_Tb := ([(12, 4, 0), (16, 4, 1), (19, 4, 2), (22, 4, 3), (28, 4, 4), (33, 4, 5), (39, 4, 6), (46, 4, 7), (53, 4, 8), (57, 4, 9), (61, 4, 10), (64, 4, 11), (75, 1, 1), (79, 1, 3), (96, 3, 0), (99, 3, 1), (102, 2, 1), (109, 2, 2), (112, 2, 3), (115, 3, 2), (118, 3, 3), (121, 3, 4), (124, 3, 5), (130, 2, 4), (133, 2, 5), (136, 2, 6), (139, 2, 7), (142, 2, 8), (145, 2, 9), (156, 1, 2), (181, 2, 12), (188, 0, 9), (191, 0, 10), (201, 0, 8), (244, 2, 11), (292, 1, 4), (295, 1, 0), (301, 2, 13), (316, 2, 14), (362, 3, 6)], [(393, (1103515245 : Int32)), (394, (2147483647 : Int32)), (395, (65536 : Int32))], [(215, (1000000001 : Int64)), (391, (10 : Int64))])
set_option maxRecDepth 100000 in
theorem tbX4 : q_tok RX4 TbX4 := q_tok_of [214, 215, 216, 217, 218, 219, 220, 221, 222, 223, 224, 225, 151, 155, 44, 47, 81, 83, 85, 50, 53, 56, 59, 87, 89, 91, 93, 95, 97, 153, 103, 188, 190, 186, 101, 157, 149, 105, 107, 61] [645, 649, 650] [492, 511] (by decide +kernel) (by decide +kernel) (by decide +kernel) (by decide +kernel)
def TbX5 : q_Tb := ([(7, 5, 1), (13, 5, 2), (16, 5, 3), (19, 5, 4), (22, 5, 5), (25, 5, 7), (28, 5, 8), (31, 5, 9), (34, 5, 10), (37, 5, 11), (40, 5, 12), (43, 5, 15), (46, 5, 16), (49, 5, 17), (52, 5, 18), (55, 5, 19), (58, 5, 20), (62, 5, 26), (65, 5, 27), (68, 5, 28), (71, 5, 29), (74, 5, 30), (77, 5, 36), (80, 5, 39), (83, 5, 40), (86, 5, 43), (89, 5, 21), (93, 5, 0), (100, 5, 6), (118, 5, 13), (127, 5, 14), (133, 5, 23), (136, 5, 22), (139, 5, 24), (154, 5, 25), (207, 5, 33), (210, 5, 34), (213, 5, 32), (223, 5, 31), (240, 5, 37), (246, 5, 38), (255, 5, 35), (312, 5, 41), (345, 5, 42)], [(348, (1103515245 : Int32)), (349, (2147483647 : Int32)), (350, (65536 : Int32))], [(147, (48 : Int64)), (149, (57 : Int64)), (229, (7 : Int64)), (231, (20 : Int64)), (236, (3 : Int64)), (238, (999 : Int64)), (270, (-1 : Int64)), (289, (1000000001 : Int64)), (294, (10 : Int64)), (300, (-128 : Int64)), (302, (-32768 : Int64)), (304, (-2147483648 : Int64)), (310, (99 : Int64)), (319, (2 : Int64)), (339, (127 : Int64)), (357, (9 : Int64))])
set_option maxRecDepth 100000 in
theorem tbX5 : q_tok RX5 TbX5 := q_tok_of [849, 850, 851, 852, 853, 855, 856, 857, 858, 859, 860, 863, 864, 865, 866, 867, 868, 874, 875, 876, 877, 878, 884, 887, 888, 891, 869, 848, 854, 861, 862, 871, 870, 872, 873, 881, 882, 880, 879, 885, 886, 883, 889, 890] [1337, 1338, 1339] [1014, 1015, 994, 1122, 1131, 1132, 1153, 1216, 1220, 1260, 1261, 1262, 1263, 1251, 1320, 1352] (by decide +kernel) (by decide +kernel) (by decide +kernel) (by decide +kernel)
def TbJ6 : q_Tb := ([], [(265, (1431655765 : Int32)), (266, (858993459 : Int32)), (267, (252645135 : Int32))], [])
set_option maxRecDepth 100000 in
theorem tbJ6 : q_tok RJ6 TbJ6 := q_tok_of [] [496, 497, 498] [] (by decide +kernel) (by decide +kernel) (by decide +kernel) (by decide +kernel)
theorem calX2_kindOf : q_cal yX2_kindOf cX2_kindOf 3 (some (.object "BackByNoonOnMonday$Suit")) := ⟨(q_tb 2 (by decide +kernel) (by decide +kernel)), (q_tb 289 (by decide +kernel) (by decide +kernel)), by decide +kernel, by decide +kernel⟩
theorem dnX2_kindOf : (parseMethodDescriptor yX2_kindOf.desc).map (fun d => d.parameters.length) = some 1 := by decide +kernel
theorem inX2_kindOf : Cond.instanceMethod yX2_kindOf ∈ q_tbl ∧ Cond.selects yX2_kindOf.cls yX2_kindOf yX2_kindOf ∈ q_tbl := ⟨(q_tb 287 (by decide +kernel) (by decide +kernel)), (q_tb 288 (by decide +kernel) (by decide +kernel))⟩
theorem calX2_openBookings : q_cal yX2_openBookings cX2_openBookings 3 (some .int) := ⟨(q_tb 2 (by decide +kernel) (by decide +kernel)), (q_tb 408 (by decide +kernel) (by decide +kernel)), by decide +kernel, by decide +kernel⟩
theorem dnX2_openBookings : (parseMethodDescriptor yX2_openBookings.desc).map (fun d => d.parameters.length) = some 0 := by decide +kernel
theorem inX2_openBookings : Cond.instanceMethod yX2_openBookings ∈ q_tbl ∧ Cond.selects yX2_openBookings.cls yX2_openBookings yX2_openBookings ∈ q_tbl := ⟨(q_tb 406 (by decide +kernel) (by decide +kernel)), (q_tb 407 (by decide +kernel) (by decide +kernel))⟩
theorem calX2_reaches : q_cal yX2_reaches cX2_reaches 4 (some .boolean) := ⟨(q_tb 2 (by decide +kernel) (by decide +kernel)), (q_tb 343 (by decide +kernel) (by decide +kernel)), by decide +kernel, by decide +kernel⟩
theorem dnX2_reaches : (parseMethodDescriptor yX2_reaches.desc).map (fun d => d.parameters.length) = some 3 := by decide +kernel
theorem inX2_reaches : Cond.instanceMethod yX2_reaches ∈ q_tbl ∧ Cond.selects yX2_reaches.cls yX2_reaches yX2_reaches ∈ q_tbl := ⟨(q_tb 341 (by decide +kernel) (by decide +kernel)), (q_tb 342 (by decide +kernel) (by decide +kernel))⟩
theorem calX2_suitsThatAre : q_cal yX2_suitsThatAre cX2_suitsThatAre 4 (some .int) := ⟨(q_tb 2 (by decide +kernel) (by decide +kernel)), (q_tb 412 (by decide +kernel) (by decide +kernel)), by decide +kernel, by decide +kernel⟩
theorem dnX2_suitsThatAre : (parseMethodDescriptor yX2_suitsThatAre.desc).map (fun d => d.parameters.length) = some 1 := by decide +kernel
theorem inX2_suitsThatAre : Cond.instanceMethod yX2_suitsThatAre ∈ q_tbl ∧ Cond.selects yX2_suitsThatAre.cls yX2_suitsThatAre yX2_suitsThatAre ∈ q_tbl := ⟨(q_tb 410 (by decide +kernel) (by decide +kernel)), (q_tb 411 (by decide +kernel) (by decide +kernel))⟩
theorem calX2_takers : q_cal yX2_takers cX2_takers 6 (some .int) := ⟨(q_tb 2 (by decide +kernel) (by decide +kernel)), (q_tb 421 (by decide +kernel) (by decide +kernel)), by decide +kernel, by decide +kernel⟩
theorem dnX2_takers : (parseMethodDescriptor yX2_takers.desc).map (fun d => d.parameters.length) = some 3 := by decide +kernel
theorem inX2_takers : Cond.instanceMethod yX2_takers ∈ q_tbl ∧ Cond.selects yX2_takers.cls yX2_takers yX2_takers ∈ q_tbl := ⟨(q_tb 419 (by decide +kernel) (by decide +kernel)), (q_tb 420 (by decide +kernel) (by decide +kernel))⟩
theorem calX4_at : q_cal yX4_at cX4_at 2 (some .int) := ⟨(q_tb 1 (by decide +kernel) (by decide +kernel)), (q_tb 274 (by decide +kernel) (by decide +kernel)), by decide +kernel, by decide +kernel⟩
theorem dnX4_at : (parseMethodDescriptor yX4_at.desc).map (fun d => d.parameters.length) = some 2 := by decide +kernel
theorem inX4_at : Cond.static yX4_at ∈ q_tbl := (q_tb 273 (by decide +kernel) (by decide +kernel))
theorem calX4_fill : q_cal yX4_fill cX4_fill 3 none := ⟨(q_tb 1 (by decide +kernel) (by decide +kernel)), (q_tb 292 (by decide +kernel) (by decide +kernel)), by decide +kernel, by decide +kernel⟩
theorem dnX4_fill : (parseMethodDescriptor yX4_fill.desc).map (fun d => d.parameters.length) = some 2 := by decide +kernel
theorem inX4_fill : Cond.static yX4_fill ∈ q_tbl := (q_tb 291 (by decide +kernel) (by decide +kernel))
theorem calX4_hasBit : q_cal yX4_hasBit cX4_hasBit 2 (some .boolean) := ⟨(q_tb 1 (by decide +kernel) (by decide +kernel)), (q_tb 417 (by decide +kernel) (by decide +kernel)), by decide +kernel, by decide +kernel⟩
theorem dnX4_hasBit : (parseMethodDescriptor yX4_hasBit.desc).map (fun d => d.parameters.length) = some 2 := by decide +kernel
theorem inX4_hasBit : Cond.static yX4_hasBit ∈ q_tbl := (q_tb 416 (by decide +kernel) (by decide +kernel))
theorem calX4_set : q_cal yX4_set cX4_set 3 none := ⟨(q_tb 1 (by decide +kernel) (by decide +kernel)), (q_tb 310 (by decide +kernel) (by decide +kernel)), by decide +kernel, by decide +kernel⟩
theorem dnX4_set : (parseMethodDescriptor yX4_set.desc).map (fun d => d.parameters.length) = some 3 := by decide +kernel
theorem inX4_set : Cond.static yX4_set ∈ q_tbl := (q_tb 309 (by decide +kernel) (by decide +kernel))
theorem lkX0_46 : Cond.methodLink RX0 46 yX2_openBookings ∈ q_tbl := (q_tb 405 (by decide +kernel) (by decide +kernel))
theorem lkX0_52 : Cond.methodLink RX0 52 yX2_suitsThatAre ∈ q_tbl := (q_tb 409 (by decide +kernel) (by decide +kernel))
theorem lkX0_56 : Cond.methodLink RX0 56 yX2_kindOf ∈ q_tbl := (q_tb 413 (by decide +kernel) (by decide +kernel))
theorem lkX0_63 : Cond.methodLinkNest RX0 63 yX4_at "BackByNoonOnMonday" ∈ lw_tbl := q_nst 414 (by decide +kernel)
theorem lkX0_67 : Cond.methodLinkNest RX0 67 yX4_hasBit "BackByNoonOnMonday" ∈ lw_tbl := q_nst 415 (by decide +kernel)
theorem lkX0_71 : Cond.methodLink RX0 71 yX2_takers ∈ q_tbl := (q_tb 418 (by decide +kernel) (by decide +kernel))
theorem lkX0_74 : Cond.methodLinkNest RX0 74 yX4_set "BackByNoonOnMonday" ∈ lw_tbl := q_nst 425 (by decide +kernel)
theorem lkX0_83 : Cond.methodLinkNest RX0 83 yX4_fill "BackByNoonOnMonday" ∈ lw_tbl := q_nst 426 (by decide +kernel)
theorem lkX2_88 : Cond.methodLinkNest RX2 88 yX4_at "BackByNoonOnMonday" ∈ lw_tbl := q_nst 331 (by decide +kernel)
theorem lkX2_109 : Cond.methodLink RX2 109 yX2_reaches ∈ q_tbl := (q_tb 340 (by decide +kernel) (by decide +kernel))
