/-! tables: fields, constants, links, as the class files have them -/
def TbX0 : q_Tb := ([(9, 0, 0), (15, 0, 1), (18, 0, 2), (21, 0, 3), (24, 0, 4), (27, 0, 5), (30, 0, 6), (33, 0, 7), (36, 0, 8), (39, 0, 9), (43, 0, 10), (60, 2, 1), (78, 3, 2), (87, 2, 10), (94, 3, 0)], [], [])
set_option maxRecDepth 100000 in
theorem tbX0 : q_tok RX0 TbX0 := q_tok_of [(1, 177), (1, 178), (1, 179), (1, 180), (1, 181), (1, 182), (1, 183), (1, 184), (1, 185), (1, 187), (1, 189), (1, 80), (1, 49), (1, 99), (1, 45)] [] [] (by decide +kernel) (by decide +kernel) (by decide +kernel) (by decide +kernel)
def TbX1 : q_Tb := ([(9, 1, 0), (15, 1, 1), (24, 1, 2), (28, 1, 3), (31, 1, 4)], [(34, (-2147483648 : Int32))], [])
set_option maxRecDepth 100000 in
theorem tbX1 : q_tok RX1 TbX1 := q_tok_of [(1, 148), (1, 150), (1, 152), (1, 154), (1, 156)] [(3, 76)] [] (by decide +kernel) (by decide +kernel) (by decide +kernel) (by decide +kernel)
def TbX2 : q_Tb := ([(11, 2, 0), (17, 2, 1), (21, 2, 2), (24, 2, 3), (27, 2, 4), (30, 2, 5), (33, 2, 6), (36, 2, 7), (39, 2, 8), (42, 2, 9), (48, 2, 10), (52, 2, 11), (56, 2, 12), (59, 2, 13), (62, 2, 14), (95, 3, 2), (106, 3, 4), (113, 3, 3)], [], [])
set_option maxRecDepth 100000 in
theorem tbX2 : q_tok RX2 TbX2 := q_tok_of [(1, 78), (1, 79), (1, 82), (1, 84), (1, 86), (1, 88), (1, 90), (1, 92), (1, 94), (1, 96), (1, 98), (1, 100), (1, 102), (1, 104), (1, 106), (1, 51), (1, 57), (1, 54)] [] [] (by decide +kernel) (by decide +kernel) (by decide +kernel) (by decide +kernel)
def TbX3 : q_Tb := ([(18, 3, 0), (22, 3, 1), (25, 3, 2), (28, 3, 3), (31, 3, 4), (34, 3, 5), (37, 3, 6)], [], [])
set_option maxRecDepth 100000 in
theorem tbX3 : q_tok RX3 TbX3 := q_tok_of [(1, 43), (1, 46), (1, 48), (1, 52), (1, 55), (1, 58), (1, 60)] [] [] (by decide +kernel) (by decide +kernel) (by decide +kernel) (by decide +kernel)
def TbX4 : q_Tb := ([(12, 4, 0), (16, 4, 1), (19, 4, 2), (22, 4, 3), (28, 4, 4), (33, 4, 5), (39, 4, 6), (46, 4, 7), (53, 4, 8), (57, 4, 9), (61, 4, 10), (64, 4, 11), (75, 1, 1), (79, 1, 3), (96, 3, 0), (99, 3, 1), (102, 2, 1), (109, 2, 2), (112, 2, 3), (115, 3, 2), (118, 3, 3), (121, 3, 4), (124, 3, 5), (130, 2, 4), (133, 2, 5), (136, 2, 6), (139, 2, 7), (142, 2, 8), (145, 2, 9), (156, 1, 2), (181, 2, 12), (188, 0, 9), (191, 0, 10), (201, 0, 8), (244, 2, 11), (292, 1, 4), (295, 1, 0), (301, 2, 13), (316, 2, 14), (362, 3, 6)], [(393, (1103515245 : Int32)), (394, (2147483647 : Int32)), (395, (65536 : Int32))], [(215, (1000000001 : Int64)), (391, (10 : Int64))])
set_option maxRecDepth 100000 in
theorem tbX4 : q_tok RX4 TbX4 := q_tok_of [(1, 214), (1, 215), (1, 216), (1, 217), (1, 218), (1, 219), (1, 220), (1, 221), (1, 222), (1, 223), (1, 224), (1, 225), (1, 151), (1, 155), (1, 44), (1, 47), (1, 81), (1, 83), (1, 85), (1, 50), (1, 53), (1, 56), (1, 59), (1, 87), (1, 89), (1, 91), (1, 93), (1, 95), (1, 97), (1, 153), (1, 103), (1, 188), (1, 190), (1, 186), (1, 101), (1, 157), (1, 149), (1, 105), (1, 107), (1, 61)] [(3, 165), (3, 169), (3, 170)] [(3, 12), (3, 31)] (by decide +kernel) (by decide +kernel) (by decide +kernel) (by decide +kernel)
def TbX5 : q_Tb := ([(7, 5, 1), (13, 5, 2), (16, 5, 3), (19, 5, 4), (22, 5, 5), (25, 5, 7), (28, 5, 8), (31, 5, 9), (34, 5, 10), (37, 5, 11), (40, 5, 12), (43, 5, 15), (46, 5, 16), (49, 5, 17), (52, 5, 18), (55, 5, 19), (58, 5, 20), (62, 5, 26), (65, 5, 27), (68, 5, 28), (71, 5, 29), (74, 5, 30), (77, 5, 36), (80, 5, 39), (83, 5, 40), (86, 5, 43), (89, 5, 21), (93, 5, 0), (100, 5, 6), (118, 5, 13), (127, 5, 14), (133, 5, 23), (136, 5, 22), (139, 5, 24), (154, 5, 25), (207, 5, 33), (210, 5, 34), (213, 5, 32), (223, 5, 31), (240, 5, 37), (246, 5, 38), (255, 5, 35), (312, 5, 41), (345, 5, 42)], [(348, (1103515245 : Int32)), (349, (2147483647 : Int32)), (350, (65536 : Int32))], [(147, (48 : Int64)), (149, (57 : Int64)), (229, (7 : Int64)), (231, (20 : Int64)), (236, (3 : Int64)), (238, (999 : Int64)), (270, (-1 : Int64)), (289, (1000000001 : Int64)), (294, (10 : Int64)), (300, (-128 : Int64)), (302, (-32768 : Int64)), (304, (-2147483648 : Int64)), (310, (99 : Int64)), (319, (2 : Int64)), (339, (127 : Int64)), (357, (9 : Int64))])
set_option maxRecDepth 100000 in
theorem tbX5 : q_tok RX5 TbX5 := q_tok_of [(4, 129), (4, 130), (4, 131), (4, 132), (4, 133), (4, 135), (4, 136), (4, 137), (4, 138), (4, 139), (4, 140), (4, 143), (4, 144), (4, 145), (4, 146), (4, 147), (4, 148), (4, 154), (4, 155), (4, 156), (4, 157), (4, 158), (4, 164), (4, 167), (4, 168), (4, 171), (4, 149), (4, 128), (4, 134), (4, 141), (4, 142), (4, 151), (4, 150), (4, 152), (4, 153), (4, 161), (4, 162), (4, 160), (4, 159), (4, 165), (4, 166), (4, 163), (4, 169), (4, 170)] [(6, 137), (6, 138), (6, 139)] [(5, 54), (5, 55), (5, 34), (5, 162), (5, 171), (5, 172), (5, 193), (6, 16), (6, 20), (6, 60), (6, 61), (6, 62), (6, 63), (6, 51), (6, 120), (6, 152)] (by decide +kernel) (by decide +kernel) (by decide +kernel) (by decide +kernel)
def TbJ6 : q_Tb := ([], [(265, (1431655765 : Int32)), (266, (858993459 : Int32)), (267, (252645135 : Int32))], [])
set_option maxRecDepth 100000 in
theorem tbJ6 : q_tok RJ6 TbJ6 := q_tok_of [] [(3, 16), (3, 17), (3, 18)] [] (by decide +kernel) (by decide +kernel) (by decide +kernel) (by decide +kernel)
theorem calJ6_bitCount_0f7a4 : q_cal yJ6_bitCount_0f7a4 cJ6_bitCount_0f7a4 1 (some .int) := ⟨(q_tb1 8 rfl rfl), (q_tb3 15 rfl rfl), by decide +kernel, by decide +kernel⟩
theorem dnJ6_bitCount_0f7a4 : (parseMethodDescriptor yJ6_bitCount_0f7a4.desc).map (fun d => d.parameters.length) = some 1 := by decide +kernel
theorem inJ6_bitCount_0f7a4 : Cond.static yJ6_bitCount_0f7a4 ∈ q_tbl := (q_tb3 14 rfl rfl)
theorem calX0_chooseFirst : q_cal yX0_chooseFirst cX0_chooseFirst 6 (some .int) := ⟨(q_tb1 5 rfl rfl), (q_tb2 206 rfl rfl), by decide +kernel, by decide +kernel⟩
theorem dnX0_chooseFirst : (parseMethodDescriptor yX0_chooseFirst.desc).map (fun d => d.parameters.length) = some 0 := by decide +kernel
theorem inX0_chooseFirst : Cond.instanceMethod yX0_chooseFirst ∈ q_tbl ∧ Cond.selects yX0_chooseFirst.cls yX0_chooseFirst yX0_chooseFirst ∈ q_tbl := ⟨(q_tb2 204 rfl rfl), (q_tb2 205 rfl rfl)⟩
theorem calX0_clear : q_cal yX0_clear cX0_clear 2 none := ⟨(q_tb1 5 rfl rfl), (q_tb2 194 rfl rfl), by decide +kernel, by decide +kernel⟩
theorem dnX0_clear : (parseMethodDescriptor yX0_clear.desc).map (fun d => d.parameters.length) = some 0 := by decide +kernel
theorem inX0_clear : Cond.instanceMethod yX0_clear ∈ q_tbl ∧ Cond.selects yX0_clear.cls yX0_clear yX0_clear ∈ q_tbl := ⟨(q_tb2 193 rfl rfl), (q_sl 2 rfl rfl)⟩
theorem calX0_dearest : q_cal yX0_dearest cX0_dearest 5 (some .int) := ⟨(q_tb1 5 rfl rfl), (q_tb2 227 rfl rfl), by decide +kernel, by decide +kernel⟩
theorem dnX0_dearest : (parseMethodDescriptor yX0_dearest.desc).map (fun d => d.parameters.length) = some 1 := by decide +kernel
theorem inX0_dearest : Cond.instanceMethod yX0_dearest ∈ q_tbl ∧ Cond.selects yX0_dearest.cls yX0_dearest yX0_dearest ∈ q_tbl := ⟨(q_tb2 226 rfl rfl), (q_sl 6 rfl rfl)⟩
theorem calX0_dress : q_cal yX0_dress cX0_dress 8 (some .boolean) := ⟨(q_tb1 5 rfl rfl), (q_tb2 235 rfl rfl), by decide +kernel, by decide +kernel⟩
theorem dnX0_dress : (parseMethodDescriptor yX0_dress.desc).map (fun d => d.parameters.length) = some 2 := by decide +kernel
theorem inX0_dress : Cond.instanceMethod yX0_dress ∈ q_tbl ∧ Cond.selects yX0_dress.cls yX0_dress yX0_dress ∈ q_tbl := ⟨(q_tb2 233 rfl rfl), (q_tb2 234 rfl rfl)⟩
theorem calX0_grow : q_cal yX0_grow cX0_grow 3 none := ⟨(q_tb1 5 rfl rfl), (q_tb3 27 rfl rfl), by decide +kernel, by decide +kernel⟩
theorem dnX0_grow : (parseMethodDescriptor yX0_grow.desc).map (fun d => d.parameters.length) = some 1 := by decide +kernel
theorem inX0_grow : Cond.instanceMethod yX0_grow ∈ q_tbl ∧ Cond.selects yX0_grow.cls yX0_grow yX0_grow ∈ q_tbl := ⟨(q_tb3 25 rfl rfl), (q_tb3 26 rfl rfl)⟩
theorem calX0_init : q_cal yX0_init cX0_init 1 none := ⟨(q_tb1 5 rfl rfl), (q_tb1 175 rfl rfl), by decide +kernel, by decide +kernel⟩
theorem dnX0_init : (parseMethodDescriptor yX0_init.desc).map (fun d => d.parameters.length) = some 0 := by decide +kernel
theorem inX0_init : Cond.instanceMethod yX0_init ∈ q_tbl := (q_tb1 174 rfl rfl)
theorem calX0_leastKeeping : q_cal yX0_leastKeeping cX0_leastKeeping 7 (some .int) := ⟨(q_tb1 5 rfl rfl), (q_tb2 211 rfl rfl), by decide +kernel, by decide +kernel⟩
theorem dnX0_leastKeeping : (parseMethodDescriptor yX0_leastKeeping.desc).map (fun d => d.parameters.length) = some 4 := by decide +kernel
theorem inX0_leastKeeping : Cond.instanceMethod yX0_leastKeeping ∈ q_tbl ∧ Cond.selects yX0_leastKeeping.cls yX0_leastKeeping yX0_leastKeeping ∈ q_tbl := ⟨(q_tb2 210 rfl rfl), (q_sl 5 rfl rfl)⟩
theorem calX0_lend : q_cal yX0_lend cX0_lend 5 none := ⟨(q_tb1 5 rfl rfl), (q_tb3 7 rfl rfl), by decide +kernel, by decide +kernel⟩
theorem dnX0_lend : (parseMethodDescriptor yX0_lend.desc).map (fun d => d.parameters.length) = some 3 := by decide +kernel
theorem inX0_lend : Cond.instanceMethod yX0_lend ∈ q_tbl ∧ Cond.selects yX0_lend.cls yX0_lend yX0_lend ∈ q_tbl := ⟨(q_tb3 5 rfl rfl), (q_tb3 6 rfl rfl)⟩
theorem calX0_load : q_cal yX0_load cX0_load 5 none := ⟨(q_tb1 5 rfl rfl), (q_tb2 164 rfl rfl), by decide +kernel, by decide +kernel⟩
theorem dnX0_load : (parseMethodDescriptor yX0_load.desc).map (fun d => d.parameters.length) = some 1 := by decide +kernel
theorem inX0_load : Cond.instanceMethod yX0_load ∈ q_tbl ∧ Cond.selects yX0_load.cls yX0_load yX0_load ∈ q_tbl := ⟨(q_tb2 162 rfl rfl), (q_tb2 163 rfl rfl)⟩
theorem calX0_most : q_cal yX0_most cX0_most 5 (some .int) := ⟨(q_tb1 5 rfl rfl), (q_tb2 190 rfl rfl), by decide +kernel, by decide +kernel⟩
theorem dnX0_most : (parseMethodDescriptor yX0_most.desc).map (fun d => d.parameters.length) = some 2 := by decide +kernel
theorem inX0_most : Cond.instanceMethod yX0_most ∈ q_tbl ∧ Cond.selects yX0_most.cls yX0_most yX0_most ∈ q_tbl := ⟨(q_tb2 188 rfl rfl), (q_tb2 189 rfl rfl)⟩
theorem calX0_moveOn : q_cal yX0_moveOn cX0_moveOn 6 none := ⟨(q_tb1 5 rfl rfl), (q_tb2 202 rfl rfl), by decide +kernel, by decide +kernel⟩
theorem dnX0_moveOn : (parseMethodDescriptor yX0_moveOn.desc).map (fun d => d.parameters.length) = some 1 := by decide +kernel
theorem inX0_moveOn : Cond.instanceMethod yX0_moveOn ∈ q_tbl ∧ Cond.selects yX0_moveOn.cls yX0_moveOn yX0_moveOn ∈ q_tbl := ⟨(q_tb2 201 rfl rfl), (q_sl 4 rfl rfl)⟩
theorem calX0_richest : q_cal yX0_richest cX0_richest 7 (some .int) := ⟨(q_tb1 5 rfl rfl), (q_tb2 223 rfl rfl), by decide +kernel, by decide +kernel⟩
theorem dnX0_richest : (parseMethodDescriptor yX0_richest.desc).map (fun d => d.parameters.length) = some 2 := by decide +kernel
theorem inX0_richest : Cond.instanceMethod yX0_richest ∈ q_tbl ∧ Cond.selects yX0_richest.cls yX0_richest yX0_richest ∈ q_tbl := ⟨(q_tb2 221 rfl rfl), (q_tb2 222 rfl rfl)⟩
theorem calX0_seat : q_cal yX0_seat cX0_seat 8 (some .boolean) := ⟨(q_tb1 5 rfl rfl), (q_tb2 198 rfl rfl), by decide +kernel, by decide +kernel⟩
theorem dnX0_seat : (parseMethodDescriptor yX0_seat.desc).map (fun d => d.parameters.length) = some 2 := by decide +kernel
theorem inX0_seat : Cond.instanceMethod yX0_seat ∈ q_tbl ∧ Cond.selects yX0_seat.cls yX0_seat yX0_seat ∈ q_tbl := ⟨(q_tb2 197 rfl rfl), (q_sl 3 rfl rfl)⟩
theorem calX1_byteAt : q_cal yX1_byteAt cX1_byteAt 2 (some .int) := ⟨(q_tb1 4 rfl rfl), (q_tb2 31 rfl rfl), by decide +kernel, by decide +kernel⟩
theorem dnX1_byteAt : (parseMethodDescriptor yX1_byteAt.desc).map (fun d => d.parameters.length) = some 1 := by decide +kernel
theorem inX1_byteAt : Cond.instanceMethod yX1_byteAt ∈ q_tbl ∧ Cond.selects yX1_byteAt.cls yX1_byteAt yX1_byteAt ∈ q_tbl := ⟨(q_tb2 29 rfl rfl), (q_tb2 30 rfl rfl)⟩
theorem calX1_clear : q_cal yX1_clear cX1_clear 1 none := ⟨(q_tb1 4 rfl rfl), (q_tb3 198 rfl rfl), by decide +kernel, by decide +kernel⟩
theorem dnX1_clear : (parseMethodDescriptor yX1_clear.desc).map (fun d => d.parameters.length) = some 0 := by decide +kernel
theorem inX1_clear : Cond.instanceMethod yX1_clear ∈ q_tbl ∧ Cond.selects yX1_clear.cls yX1_clear yX1_clear ∈ q_tbl := ⟨(q_tb3 196 rfl rfl), (q_tb3 197 rfl rfl)⟩
theorem calX1_hang : q_cal yX1_hang cX1_hang 2 none := ⟨(q_tb1 4 rfl rfl), (q_tb3 202 rfl rfl), by decide +kernel, by decide +kernel⟩
theorem dnX1_hang : (parseMethodDescriptor yX1_hang.desc).map (fun d => d.parameters.length) = some 1 := by decide +kernel
theorem inX1_hang : Cond.instanceMethod yX1_hang ∈ q_tbl ∧ Cond.selects yX1_hang.cls yX1_hang yX1_hang ∈ q_tbl := ⟨(q_tb3 200 rfl rfl), (q_tb3 201 rfl rfl)⟩
theorem calX1_hasStretch : q_cal yX1_hasStretch cX1_hasStretch 3 (some .boolean) := ⟨(q_tb1 4 rfl rfl), (q_tb3 226 rfl rfl), by decide +kernel, by decide +kernel⟩
theorem dnX1_hasStretch : (parseMethodDescriptor yX1_hasStretch.desc).map (fun d => d.parameters.length) = some 2 := by decide +kernel
theorem inX1_hasStretch : Cond.instanceMethod yX1_hasStretch ∈ q_tbl ∧ Cond.selects yX1_hasStretch.cls yX1_hasStretch yX1_hasStretch ∈ q_tbl := ⟨(q_tb3 224 rfl rfl), (q_tb3 225 rfl rfl)⟩
theorem calX1_init : q_cal yX1_init cX1_init 1 none := ⟨(q_tb1 4 rfl rfl), (q_tb1 144 rfl rfl), by decide +kernel, by decide +kernel⟩
theorem dnX1_init : (parseMethodDescriptor yX1_init.desc).map (fun d => d.parameters.length) = some 0 := by decide +kernel
theorem inX1_init : Cond.instanceMethod yX1_init ∈ q_tbl := (q_tb1 143 rfl rfl)
theorem calX1_lay : q_cal yX1_lay cX1_lay 4 none := ⟨(q_tb1 4 rfl rfl), (q_tb3 210 rfl rfl), by decide +kernel, by decide +kernel⟩
theorem dnX1_lay : (parseMethodDescriptor yX1_lay.desc).map (fun d => d.parameters.length) = some 2 := by decide +kernel
theorem inX1_lay : Cond.instanceMethod yX1_lay ∈ q_tbl ∧ Cond.selects yX1_lay.cls yX1_lay yX1_lay ∈ q_tbl := ⟨(q_tb3 208 rfl rfl), (q_tb3 209 rfl rfl)⟩
theorem calX1_least : q_cal yX1_least cX1_least 1 (some .int) := ⟨(q_tb1 4 rfl rfl), (q_tb3 75 rfl rfl), by decide +kernel, by decide +kernel⟩
theorem dnX1_least : (parseMethodDescriptor yX1_least.desc).map (fun d => d.parameters.length) = some 0 := by decide +kernel
theorem inX1_least : Cond.instanceMethod yX1_least ∈ q_tbl ∧ Cond.selects yX1_least.cls yX1_least yX1_least ∈ q_tbl := ⟨(q_tb3 73 rfl rfl), (q_tb3 74 rfl rfl)⟩
theorem calX1_narrowed : q_cal yX1_narrowed cX1_narrowed 2 (some .int) := ⟨(q_tb1 4 rfl rfl), (q_tb3 218 rfl rfl), by decide +kernel, by decide +kernel⟩
theorem dnX1_narrowed : (parseMethodDescriptor yX1_narrowed.desc).map (fun d => d.parameters.length) = some 1 := by decide +kernel
theorem inX1_narrowed : Cond.instanceMethod yX1_narrowed ∈ q_tbl ∧ Cond.selects yX1_narrowed.cls yX1_narrowed yX1_narrowed ∈ q_tbl := ⟨(q_tb3 216 rfl rfl), (q_tb3 217 rfl rfl)⟩
theorem calX1_number : q_cal yX1_number cX1_number 5 (some .int) := ⟨(q_tb1 4 rfl rfl), (q_tb2 59 rfl rfl), by decide +kernel, by decide +kernel⟩
theorem dnX1_number : (parseMethodDescriptor yX1_number.desc).map (fun d => d.parameters.length) = some 2 := by decide +kernel
theorem inX1_number : Cond.instanceMethod yX1_number ∈ q_tbl ∧ Cond.selects yX1_number.cls yX1_number yX1_number ∈ q_tbl := ⟨(q_tb2 57 rfl rfl), (q_tb2 58 rfl rfl)⟩
theorem calX1_refusal : q_cal yX1_refusal cX1_refusal 2 (some .int) := ⟨(q_tb1 4 rfl rfl), (q_tb2 135 rfl rfl), by decide +kernel, by decide +kernel⟩
theorem dnX1_refusal : (parseMethodDescriptor yX1_refusal.desc).map (fun d => d.parameters.length) = some 1 := by decide +kernel
theorem inX1_refusal : Cond.instanceMethod yX1_refusal ∈ q_tbl ∧ Cond.selects yX1_refusal.cls yX1_refusal yX1_refusal ∈ q_tbl := ⟨(q_tb2 133 rfl rfl), (q_tb2 134 rfl rfl)⟩
theorem calX2_addBooking : q_cal yX2_addBooking cX2_addBooking 5 (some .int) := ⟨(q_tb1 2 rfl rfl), (q_tb2 77 rfl rfl), by decide +kernel, by decide +kernel⟩
theorem dnX2_addBooking : (parseMethodDescriptor yX2_addBooking.desc).map (fun d => d.parameters.length) = some 3 := by decide +kernel
theorem inX2_addBooking : Cond.instanceMethod yX2_addBooking ∈ q_tbl ∧ Cond.selects yX2_addBooking.cls yX2_addBooking yX2_addBooking ∈ q_tbl := ⟨(q_tb2 75 rfl rfl), (q_tb2 76 rfl rfl)⟩
theorem calX2_addSuit : q_cal yX2_addSuit cX2_addSuit 5 (some .int) := ⟨(q_tb1 2 rfl rfl), (q_tb2 67 rfl rfl), by decide +kernel, by decide +kernel⟩
theorem dnX2_addSuit : (parseMethodDescriptor yX2_addSuit.desc).map (fun d => d.parameters.length) = some 3 := by decide +kernel
theorem inX2_addSuit : Cond.instanceMethod yX2_addSuit ∈ q_tbl ∧ Cond.selects yX2_addSuit.cls yX2_addSuit yX2_addSuit ∈ q_tbl := ⟨(q_tb2 65 rfl rfl), (q_tb2 66 rfl rfl)⟩
theorem calX2_allWorn : q_cal yX2_allWorn cX2_allWorn 3 (some .int) := ⟨(q_tb1 2 rfl rfl), (q_tb3 190 rfl rfl), by decide +kernel, by decide +kernel⟩
theorem dnX2_allWorn : (parseMethodDescriptor yX2_allWorn.desc).map (fun d => d.parameters.length) = some 0 := by decide +kernel
theorem inX2_allWorn : Cond.instanceMethod yX2_allWorn ∈ q_tbl ∧ Cond.selects yX2_allWorn.cls yX2_allWorn yX2_allWorn ∈ q_tbl := ⟨(q_tb3 188 rfl rfl), (q_tb3 189 rfl rfl)⟩
theorem calX2_become : q_cal yX2_become cX2_become 3 none := ⟨(q_tb1 2 rfl rfl), (q_tb2 45 rfl rfl), by decide +kernel, by decide +kernel⟩
theorem dnX2_become : (parseMethodDescriptor yX2_become.desc).map (fun d => d.parameters.length) = some 1 := by decide +kernel
theorem inX2_become : Cond.instanceMethod yX2_become ∈ q_tbl ∧ Cond.selects yX2_become.cls yX2_become yX2_become ∈ q_tbl := ⟨(q_tb2 43 rfl rfl), (q_tb2 44 rfl rfl)⟩
theorem calX2_canHire : q_cal yX2_canHire cX2_canHire 4 (some .boolean) := ⟨(q_tb1 2 rfl rfl), (q_tb2 95 rfl rfl), by decide +kernel, by decide +kernel⟩
theorem dnX2_canHire : (parseMethodDescriptor yX2_canHire.desc).map (fun d => d.parameters.length) = some 3 := by decide +kernel
theorem inX2_canHire : Cond.instanceMethod yX2_canHire ∈ q_tbl ∧ Cond.selects yX2_canHire.cls yX2_canHire yX2_canHire ∈ q_tbl := ⟨(q_tb2 93 rfl rfl), (q_tb2 94 rfl rfl)⟩
theorem calX2_clean : q_cal yX2_clean cX2_clean 3 (some .int) := ⟨(q_tb1 2 rfl rfl), (q_tb2 115 rfl rfl), by decide +kernel, by decide +kernel⟩
theorem dnX2_clean : (parseMethodDescriptor yX2_clean.desc).map (fun d => d.parameters.length) = some 1 := by decide +kernel
theorem inX2_clean : Cond.instanceMethod yX2_clean ∈ q_tbl ∧ Cond.selects yX2_clean.cls yX2_clean yX2_clean ∈ q_tbl := ⟨(q_tb2 113 rfl rfl), (q_tb2 114 rfl rfl)⟩
theorem calX2_couldChange : q_cal yX2_couldChange cX2_couldChange 5 (some .boolean) := ⟨(q_tb1 2 rfl rfl), (q_tb3 130 rfl rfl), by decide +kernel, by decide +kernel⟩
theorem dnX2_couldChange : (parseMethodDescriptor yX2_couldChange.desc).map (fun d => d.parameters.length) = some 2 := by decide +kernel
theorem inX2_couldChange : Cond.instanceMethod yX2_couldChange ∈ q_tbl ∧ Cond.selects yX2_couldChange.cls yX2_couldChange yX2_couldChange ∈ q_tbl := ⟨(q_tb3 128 rfl rfl), (q_tb3 129 rfl rfl)⟩
theorem calX2_giveBack : q_cal yX2_giveBack cX2_giveBack 3 (some .int) := ⟨(q_tb1 2 rfl rfl), (q_tb2 107 rfl rfl), by decide +kernel, by decide +kernel⟩
theorem dnX2_giveBack : (parseMethodDescriptor yX2_giveBack.desc).map (fun d => d.parameters.length) = some 1 := by decide +kernel
theorem inX2_giveBack : Cond.instanceMethod yX2_giveBack ∈ q_tbl ∧ Cond.selects yX2_giveBack.cls yX2_giveBack yX2_giveBack ∈ q_tbl := ⟨(q_tb2 105 rfl rfl), (q_tb2 106 rfl rfl)⟩
theorem calX2_groupBits : q_cal yX2_groupBits cX2_groupBits 4 (some .int) := ⟨(q_tb1 2 rfl rfl), (q_tb2 239 rfl rfl), by decide +kernel, by decide +kernel⟩
theorem dnX2_groupBits : (parseMethodDescriptor yX2_groupBits.desc).map (fun d => d.parameters.length) = some 1 := by decide +kernel
theorem inX2_groupBits : Cond.instanceMethod yX2_groupBits ∈ q_tbl ∧ Cond.selects yX2_groupBits.cls yX2_groupBits yX2_groupBits ∈ q_tbl := ⟨(q_tb2 237 rfl rfl), (q_tb2 238 rfl rfl)⟩
theorem calX2_growthWeight : q_cal yX2_growthWeight cX2_growthWeight 6 (some .long) := ⟨(q_tb1 2 rfl rfl), (q_tb3 22 rfl rfl), by decide +kernel, by decide +kernel⟩
theorem dnX2_growthWeight : (parseMethodDescriptor yX2_growthWeight.desc).map (fun d => d.parameters.length) = some 2 := by decide +kernel
theorem inX2_growthWeight : Cond.instanceMethod yX2_growthWeight ∈ q_tbl ∧ Cond.selects yX2_growthWeight.cls yX2_growthWeight yX2_growthWeight ∈ q_tbl := ⟨(q_tb3 20 rfl rfl), (q_tb3 21 rfl rfl)⟩
theorem calX2_hire : q_cal yX2_hire cX2_hire 3 (some .int) := ⟨(q_tb1 2 rfl rfl), (q_tb2 81 rfl rfl), by decide +kernel, by decide +kernel⟩
theorem dnX2_hire : (parseMethodDescriptor yX2_hire.desc).map (fun d => d.parameters.length) = some 2 := by decide +kernel
theorem inX2_hire : Cond.instanceMethod yX2_hire ∈ q_tbl ∧ Cond.selects yX2_hire.cls yX2_hire yX2_hire ∈ q_tbl := ⟨(q_tb2 79 rfl rfl), (q_tb2 80 rfl rfl)⟩
theorem calX2_holderOf : q_cal yX2_holderOf cX2_holderOf 3 (some .int) := ⟨(q_tb1 2 rfl rfl), (q_tb2 111 rfl rfl), by decide +kernel, by decide +kernel⟩
theorem dnX2_holderOf : (parseMethodDescriptor yX2_holderOf.desc).map (fun d => d.parameters.length) = some 1 := by decide +kernel
theorem inX2_holderOf : Cond.instanceMethod yX2_holderOf ∈ q_tbl ∧ Cond.selects yX2_holderOf.cls yX2_holderOf yX2_holderOf ∈ q_tbl := ⟨(q_tb2 109 rfl rfl), (q_tb2 110 rfl rfl)⟩
theorem calX2_hoursOf : q_cal yX2_hoursOf cX2_hoursOf 4 (some .int) := ⟨(q_tb1 2 rfl rfl), (q_tb3 81 rfl rfl), by decide +kernel, by decide +kernel⟩
theorem dnX2_hoursOf : (parseMethodDescriptor yX2_hoursOf.desc).map (fun d => d.parameters.length) = some 1 := by decide +kernel
theorem inX2_hoursOf : Cond.instanceMethod yX2_hoursOf ∈ q_tbl ∧ Cond.selects yX2_hoursOf.cls yX2_hoursOf yX2_hoursOf ∈ q_tbl := ⟨(q_tb3 79 rfl rfl), (q_tb3 80 rfl rfl)⟩
theorem calX2_init : q_cal yX2_init cX2_init 1 none := ⟨(q_tb1 2 rfl rfl), (q_tb1 28 rfl rfl), by decide +kernel, by decide +kernel⟩
theorem dnX2_init : (parseMethodDescriptor yX2_init.desc).map (fun d => d.parameters.length) = some 0 := by decide +kernel
theorem inX2_init : Cond.instanceMethod yX2_init ∈ q_tbl := (q_tb1 27 rfl rfl)
theorem calX2_isBooking : q_cal yX2_isBooking cX2_isBooking 2 (some .boolean) := ⟨(q_tb1 2 rfl rfl), (q_tb2 90 rfl rfl), by decide +kernel, by decide +kernel⟩
theorem dnX2_isBooking : (parseMethodDescriptor yX2_isBooking.desc).map (fun d => d.parameters.length) = some 1 := by decide +kernel
theorem inX2_isBooking : Cond.instanceMethod yX2_isBooking ∈ q_tbl ∧ Cond.selects yX2_isBooking.cls yX2_isBooking yX2_isBooking ∈ q_tbl := ⟨(q_tb2 88 rfl rfl), (q_tb2 89 rfl rfl)⟩
theorem calX2_isRightFor : q_cal yX2_isRightFor cX2_isRightFor 3 (some .boolean) := ⟨(q_tb1 2 rfl rfl), (q_tb2 99 rfl rfl), by decide +kernel, by decide +kernel⟩
theorem dnX2_isRightFor : (parseMethodDescriptor yX2_isRightFor.desc).map (fun d => d.parameters.length) = some 2 := by decide +kernel
theorem inX2_isRightFor : Cond.instanceMethod yX2_isRightFor ∈ q_tbl ∧ Cond.selects yX2_isRightFor.cls yX2_isRightFor yX2_isRightFor ∈ q_tbl := ⟨(q_tb2 97 rfl rfl), (q_tb2 98 rfl rfl)⟩
theorem calX2_isSuit : q_cal yX2_isSuit cX2_isSuit 2 (some .boolean) := ⟨(q_tb1 2 rfl rfl), (q_tb2 85 rfl rfl), by decide +kernel, by decide +kernel⟩
theorem dnX2_isSuit : (parseMethodDescriptor yX2_isSuit.desc).map (fun d => d.parameters.length) = some 1 := by decide +kernel
theorem inX2_isSuit : Cond.instanceMethod yX2_isSuit ∈ q_tbl ∧ Cond.selects yX2_isSuit.cls yX2_isSuit yX2_isSuit ∈ q_tbl := ⟨(q_tb2 83 rfl rfl), (q_tb2 84 rfl rfl)⟩
theorem calX2_kindOf : q_cal yX2_kindOf cX2_kindOf 3 (some (.object "BackByNoonOnMonday$Suit")) := ⟨(q_tb1 2 rfl rfl), (q_tb2 49 rfl rfl), by decide +kernel, by decide +kernel⟩
theorem dnX2_kindOf : (parseMethodDescriptor yX2_kindOf.desc).map (fun d => d.parameters.length) = some 1 := by decide +kernel
theorem inX2_kindOf : Cond.instanceMethod yX2_kindOf ∈ q_tbl ∧ Cond.selects yX2_kindOf.cls yX2_kindOf yX2_kindOf ∈ q_tbl := ⟨(q_tb2 47 rfl rfl), (q_tb2 48 rfl rfl)⟩
theorem calX2_leastFor : q_cal yX2_leastFor cX2_leastFor 5 (some .int) := ⟨(q_tb1 2 rfl rfl), (q_tb3 174 rfl rfl), by decide +kernel, by decide +kernel⟩
theorem dnX2_leastFor : (parseMethodDescriptor yX2_leastFor.desc).map (fun d => d.parameters.length) = some 3 := by decide +kernel
theorem inX2_leastFor : Cond.instanceMethod yX2_leastFor ∈ q_tbl ∧ Cond.selects yX2_leastFor.cls yX2_leastFor yX2_leastFor ∈ q_tbl := ⟨(q_tb3 172 rfl rfl), (q_tb3 173 rfl rfl)⟩
theorem calX2_openBookings : q_cal yX2_openBookings cX2_openBookings 3 (some .int) := ⟨(q_tb1 2 rfl rfl), (q_tb2 168 rfl rfl), by decide +kernel, by decide +kernel⟩
theorem dnX2_openBookings : (parseMethodDescriptor yX2_openBookings.desc).map (fun d => d.parameters.length) = some 0 := by decide +kernel
theorem inX2_openBookings : Cond.instanceMethod yX2_openBookings ∈ q_tbl ∧ Cond.selects yX2_openBookings.cls yX2_openBookings yX2_openBookings ∈ q_tbl := ⟨(q_tb2 166 rfl rfl), (q_tb2 167 rfl rfl)⟩
theorem calX2_reaches : q_cal yX2_reaches cX2_reaches 4 (some .boolean) := ⟨(q_tb1 2 rfl rfl), (q_tb2 103 rfl rfl), by decide +kernel, by decide +kernel⟩
theorem dnX2_reaches : (parseMethodDescriptor yX2_reaches.desc).map (fun d => d.parameters.length) = some 3 := by decide +kernel
theorem inX2_reaches : Cond.instanceMethod yX2_reaches ∈ q_tbl ∧ Cond.selects yX2_reaches.cls yX2_reaches yX2_reaches ∈ q_tbl := ⟨(q_tb2 101 rfl rfl), (q_tb2 102 rfl rfl)⟩
theorem calX2_suitsThatAre : q_cal yX2_suitsThatAre cX2_suitsThatAre 4 (some .int) := ⟨(q_tb1 2 rfl rfl), (q_tb2 172 rfl rfl), by decide +kernel, by decide +kernel⟩
theorem dnX2_suitsThatAre : (parseMethodDescriptor yX2_suitsThatAre.desc).map (fun d => d.parameters.length) = some 1 := by decide +kernel
theorem inX2_suitsThatAre : Cond.instanceMethod yX2_suitsThatAre ∈ q_tbl ∧ Cond.selects yX2_suitsThatAre.cls yX2_suitsThatAre yX2_suitsThatAre ∈ q_tbl := ⟨(q_tb2 170 rfl rfl), (q_tb2 171 rfl rfl)⟩
theorem calX2_takers : q_cal yX2_takers cX2_takers 6 (some .int) := ⟨(q_tb1 2 rfl rfl), (q_tb2 181 rfl rfl), by decide +kernel, by decide +kernel⟩
theorem dnX2_takers : (parseMethodDescriptor yX2_takers.desc).map (fun d => d.parameters.length) = some 3 := by decide +kernel
theorem inX2_takers : Cond.instanceMethod yX2_takers ∈ q_tbl ∧ Cond.selects yX2_takers.cls yX2_takers yX2_takers ∈ q_tbl := ⟨(q_tb2 179 rfl rfl), (q_tb2 180 rfl rfl)⟩
theorem calX3_init : q_cal yX3_init cX3_init 8 none := ⟨(q_tb1 3 rfl rfl), (q_tb1 35 rfl rfl), by decide +kernel, by decide +kernel⟩
theorem dnX3_init : (parseMethodDescriptor yX3_init.desc).map (fun d => d.parameters.length) = some 2 := by decide +kernel
theorem inX3_init : Cond.instanceMethod yX3_init ∈ q_tbl := (q_tb1 34 rfl rfl)
theorem calX3_isBlack : q_cal yX3_isBlack cX3_isBlack 1 (some .boolean) := ⟨(q_tb1 3 rfl rfl), (q_tb1 39 rfl rfl), by decide +kernel, by decide +kernel⟩
theorem dnX3_isBlack : (parseMethodDescriptor yX3_isBlack.desc).map (fun d => d.parameters.length) = some 1 := by decide +kernel
theorem inX3_isBlack : Cond.static yX3_isBlack ∈ q_tbl := (q_tb1 38 rfl rfl)
theorem calX3_isMixed : q_cal yX3_isMixed cX3_isMixed 1 (some .boolean) := ⟨(q_tb1 3 rfl rfl), (q_tb1 42 rfl rfl), by decide +kernel, by decide +kernel⟩
theorem dnX3_isMixed : (parseMethodDescriptor yX3_isMixed.desc).map (fun d => d.parameters.length) = some 1 := by decide +kernel
theorem inX3_isMixed : Cond.static yX3_isMixed ∈ q_tbl := (q_tb1 41 rfl rfl)
theorem calX4_alike : q_cal yX4_alike cX4_alike 4 (some .int) := ⟨(q_tb1 1 rfl rfl), (q_tb2 231 rfl rfl), by decide +kernel, by decide +kernel⟩
theorem dnX4_alike : (parseMethodDescriptor yX4_alike.desc).map (fun d => d.parameters.length) = some 0 := by decide +kernel
theorem inX4_alike : Cond.instanceMethod yX4_alike ∈ q_tbl ∧ Cond.selects yX4_alike.cls yX4_alike yX4_alike ∈ q_tbl := ⟨(q_tb2 229 rfl rfl), (q_tb2 230 rfl rfl)⟩
theorem calX4_at : q_cal yX4_at cX4_at 2 (some .int) := ⟨(q_tb1 1 rfl rfl), (q_tb2 34 rfl rfl), by decide +kernel, by decide +kernel⟩
theorem dnX4_at : (parseMethodDescriptor yX4_at.desc).map (fun d => d.parameters.length) = some 2 := by decide +kernel
theorem inX4_at : Cond.static yX4_at ∈ q_tbl := (q_tb2 33 rfl rfl)
theorem calX4_atFive : q_cal yX4_atFive cX4_atFive 4 (some .int) := ⟨(q_tb1 1 rfl rfl), (q_tb3 117 rfl rfl), by decide +kernel, by decide +kernel⟩
theorem dnX4_atFive : (parseMethodDescriptor yX4_atFive.desc).map (fun d => d.parameters.length) = some 3 := by decide +kernel
theorem inX4_atFive : Cond.instanceMethod yX4_atFive ∈ q_tbl ∧ Cond.selects yX4_atFive.cls yX4_atFive yX4_atFive ∈ q_tbl := ⟨(q_tb3 115 rfl rfl), (q_tb3 116 rfl rfl)⟩
theorem calX4_bestFee : q_cal yX4_bestFee cX4_bestFee 3 (some .int) := ⟨(q_tb1 1 rfl rfl), (q_tb3 113 rfl rfl), by decide +kernel, by decide +kernel⟩
theorem dnX4_bestFee : (parseMethodDescriptor yX4_bestFee.desc).map (fun d => d.parameters.length) = some 0 := by decide +kernel
theorem inX4_bestFee : Cond.instanceMethod yX4_bestFee ∈ q_tbl ∧ Cond.selects yX4_bestFee.cls yX4_bestFee yX4_bestFee ∈ q_tbl := ⟨(q_tb3 111 rfl rfl), (q_tb3 112 rfl rfl)⟩
theorem calX4_booking : q_cal yX4_booking cX4_booking 3 (some .int) := ⟨(q_tb1 1 rfl rfl), (q_tb2 126 rfl rfl), by decide +kernel, by decide +kernel⟩
theorem dnX4_booking : (parseMethodDescriptor yX4_booking.desc).map (fun d => d.parameters.length) = some 2 := by decide +kernel
theorem inX4_booking : Cond.instanceMethod yX4_booking ∈ q_tbl ∧ Cond.selects yX4_booking.cls yX4_booking yX4_booking ∈ q_tbl := ⟨(q_tb2 124 rfl rfl), (q_tb2 125 rfl rfl)⟩
theorem calX4_books : q_cal yX4_books cX4_books 4 (some .int) := ⟨(q_tb1 1 rfl rfl), (q_tb2 139 rfl rfl), by decide +kernel, by decide +kernel⟩
theorem dnX4_books : (parseMethodDescriptor yX4_books.desc).map (fun d => d.parameters.length) = some 3 := by decide +kernel
theorem inX4_books : Cond.instanceMethod yX4_books ∈ q_tbl ∧ Cond.selects yX4_books.cls yX4_books yX4_books ∈ q_tbl := ⟨(q_tb2 137 rfl rfl), (q_tb2 138 rfl rfl)⟩
theorem calX4_buy : q_cal yX4_buy cX4_buy 8 (some .int) := ⟨(q_tb1 1 rfl rfl), (q_tb3 55 rfl rfl), by decide +kernel, by decide +kernel⟩
theorem dnX4_buy : (parseMethodDescriptor yX4_buy.desc).map (fun d => d.parameters.length) = some 2 := by decide +kernel
theorem inX4_buy : Cond.instanceMethod yX4_buy ∈ q_tbl ∧ Cond.selects yX4_buy.cls yX4_buy yX4_buy ∈ q_tbl := ⟨(q_tb3 53 rfl rfl), (q_tb3 54 rfl rfl)⟩
theorem calX4_buys : q_cal yX4_buys cX4_buys 5 (some .int) := ⟨(q_tb1 1 rfl rfl), (q_tb2 131 rfl rfl), by decide +kernel, by decide +kernel⟩
theorem dnX4_buys : (parseMethodDescriptor yX4_buys.desc).map (fun d => d.parameters.length) = some 2 := by decide +kernel
theorem inX4_buys : Cond.instanceMethod yX4_buys ∈ q_tbl ∧ Cond.selects yX4_buys.cls yX4_buys yX4_buys ∈ q_tbl := ⟨(q_tb2 129 rfl rfl), (q_tb2 130 rfl rfl)⟩
theorem calX4_cleans : q_cal yX4_cleans cX4_cleans 2 (some .int) := ⟨(q_tb1 1 rfl rfl), (q_tb2 151 rfl rfl), by decide +kernel, by decide +kernel⟩
theorem dnX4_cleans : (parseMethodDescriptor yX4_cleans.desc).map (fun d => d.parameters.length) = some 1 := by decide +kernel
theorem inX4_cleans : Cond.instanceMethod yX4_cleans ∈ q_tbl ∧ Cond.selects yX4_cleans.cls yX4_cleans yX4_cleans ∈ q_tbl := ⟨(q_tb2 149 rfl rfl), (q_tb2 150 rfl rfl)⟩
theorem calX4_come : q_cal yX4_come cX4_come 6 (some .long) := ⟨(q_tb1 1 rfl rfl), (q_tb3 41 rfl rfl), by decide +kernel, by decide +kernel⟩
theorem dnX4_come : (parseMethodDescriptor yX4_come.desc).map (fun d => d.parameters.length) = some 2 := by decide +kernel
theorem inX4_come : Cond.instanceMethod yX4_come ∈ q_tbl ∧ Cond.selects yX4_come.cls yX4_come yX4_come ∈ q_tbl := ⟨(q_tb3 39 rfl rfl), (q_tb3 40 rfl rfl)⟩
theorem calX4_comersFor : q_cal yX4_comersFor cX4_comersFor 4 (some .int) := ⟨(q_tb1 1 rfl rfl), (q_tb3 109 rfl rfl), by decide +kernel, by decide +kernel⟩
theorem dnX4_comersFor : (parseMethodDescriptor yX4_comersFor.desc).map (fun d => d.parameters.length) = some 1 := by decide +kernel
theorem inX4_comersFor : Cond.instanceMethod yX4_comersFor ∈ q_tbl ∧ Cond.selects yX4_comersFor.cls yX4_comersFor yX4_comersFor ∈ q_tbl := ⟨(q_tb3 108 rfl rfl), (q_sl 14 rfl rfl)⟩
theorem calX4_commonDivisor : q_cal yX4_commonDivisor cX4_commonDivisor 11 (some .long) := ⟨(q_tb1 1 rfl rfl), (q_tb3 37 rfl rfl), by decide +kernel, by decide +kernel⟩
theorem dnX4_commonDivisor : (parseMethodDescriptor yX4_commonDivisor.desc).map (fun d => d.parameters.length) = some 2 := by decide +kernel
theorem inX4_commonDivisor : Cond.static yX4_commonDivisor ∈ q_tbl := (q_tb3 36 rfl rfl)
theorem calX4_copy : q_cal yX4_copy cX4_copy 8 (some .int) := ⟨(q_tb1 1 rfl rfl), (q_tb3 222 rfl rfl), by decide +kernel, by decide +kernel⟩
theorem dnX4_copy : (parseMethodDescriptor yX4_copy.desc).map (fun d => d.parameters.length) = some 5 := by decide +kernel
theorem inX4_copy : Cond.instanceMethod yX4_copy ∈ q_tbl ∧ Cond.selects yX4_copy.cls yX4_copy yX4_copy ∈ q_tbl := ⟨(q_tb3 220 rfl rfl), (q_tb3 221 rfl rfl)⟩
theorem calX4_cost : q_cal yX4_cost cX4_cost 4 (some .int) := ⟨(q_tb1 1 rfl rfl), (q_tb3 233 rfl rfl), by decide +kernel, by decide +kernel⟩
theorem dnX4_cost : (parseMethodDescriptor yX4_cost.desc).map (fun d => d.parameters.length) = some 1 := by decide +kernel
theorem inX4_cost : Cond.instanceMethod yX4_cost ∈ q_tbl ∧ Cond.selects yX4_cost.cls yX4_cost yX4_cost ∈ q_tbl := ⟨(q_tb3 231 rfl rfl), (q_tb3 232 rfl rfl)⟩
theorem calX4_count : q_cal yX4_count cX4_count 2 (some .int) := ⟨(q_tb1 1 rfl rfl), (q_tb3 186 rfl rfl), by decide +kernel, by decide +kernel⟩
theorem dnX4_count : (parseMethodDescriptor yX4_count.desc).map (fun d => d.parameters.length) = some 1 := by decide +kernel
theorem inX4_count : Cond.instanceMethod yX4_count ∈ q_tbl ∧ Cond.selects yX4_count.cls yX4_count yX4_count ∈ q_tbl := ⟨(q_tb3 184 rfl rfl), (q_tb3 185 rfl rfl)⟩
theorem calX4_digitsBehind : q_cal yX4_digitsBehind cX4_digitsBehind 1 (some .int) := ⟨(q_tb1 1 rfl rfl), (q_tb2 37 rfl rfl), by decide +kernel, by decide +kernel⟩
theorem dnX4_digitsBehind : (parseMethodDescriptor yX4_digitsBehind.desc).map (fun d => d.parameters.length) = some 1 := by decide +kernel
theorem inX4_digitsBehind : Cond.static yX4_digitsBehind ∈ q_tbl := (q_tb2 36 rfl rfl)
theorem calX4_drawBelow : q_cal yX4_drawBelow cX4_drawBelow 2 (some .int) := ⟨(q_tb1 1 rfl rfl), (q_tb3 168 rfl rfl), by decide +kernel, by decide +kernel⟩
theorem dnX4_drawBelow : (parseMethodDescriptor yX4_drawBelow.desc).map (fun d => d.parameters.length) = some 2 := by decide +kernel
theorem inX4_drawBelow : Cond.static yX4_drawBelow ∈ q_tbl := (q_tb3 167 rfl rfl)
theorem calX4_earned : q_cal yX4_earned cX4_earned 1 (some .int) := ⟨(q_tb1 1 rfl rfl), (q_tb2 219 rfl rfl), by decide +kernel, by decide +kernel⟩
theorem dnX4_earned : (parseMethodDescriptor yX4_earned.desc).map (fun d => d.parameters.length) = some 0 := by decide +kernel
theorem inX4_earned : Cond.instanceMethod yX4_earned ∈ q_tbl ∧ Cond.selects yX4_earned.cls yX4_earned yX4_earned ∈ q_tbl := ⟨(q_tb2 217 rfl rfl), (q_tb2 218 rfl rfl)⟩
theorem calX4_fee : q_cal yX4_fee cX4_fee 3 (some .int) := ⟨(q_tb1 1 rfl rfl), (q_tb3 101 rfl rfl), by decide +kernel, by decide +kernel⟩
theorem dnX4_fee : (parseMethodDescriptor yX4_fee.desc).map (fun d => d.parameters.length) = some 2 := by decide +kernel
theorem inX4_fee : Cond.instanceMethod yX4_fee ∈ q_tbl ∧ Cond.selects yX4_fee.cls yX4_fee yX4_fee ∈ q_tbl := ⟨(q_tb3 99 rfl rfl), (q_tb3 100 rfl rfl)⟩
theorem calX4_feeTenths : q_cal yX4_feeTenths cX4_feeTenths 6 (some .int) := ⟨(q_tb1 1 rfl rfl), (q_tb3 105 rfl rfl), by decide +kernel, by decide +kernel⟩
theorem dnX4_feeTenths : (parseMethodDescriptor yX4_feeTenths.desc).map (fun d => d.parameters.length) = some 1 := by decide +kernel
theorem inX4_feeTenths : Cond.instanceMethod yX4_feeTenths ∈ q_tbl ∧ Cond.selects yX4_feeTenths.cls yX4_feeTenths yX4_feeTenths ∈ q_tbl := ⟨(q_tb3 104 rfl rfl), (q_sl 13 rfl rfl)⟩
theorem calX4_fill : q_cal yX4_fill cX4_fill 3 none := ⟨(q_tb1 1 rfl rfl), (q_tb2 52 rfl rfl), by decide +kernel, by decide +kernel⟩
theorem dnX4_fill : (parseMethodDescriptor yX4_fill.desc).map (fun d => d.parameters.length) = some 2 := by decide +kernel
theorem inX4_fill : Cond.static yX4_fill ∈ q_tbl := (q_tb2 51 rfl rfl)
theorem calX4_fillWays : q_cal yX4_fillWays cX4_fillWays 4 none := ⟨(q_tb1 1 rfl rfl), (q_tb3 45 rfl rfl), by decide +kernel, by decide +kernel⟩
theorem dnX4_fillWays : (parseMethodDescriptor yX4_fillWays.desc).map (fun d => d.parameters.length) = some 0 := by decide +kernel
theorem inX4_fillWays : Cond.instanceMethod yX4_fillWays ∈ q_tbl ∧ Cond.selects yX4_fillWays.cls yX4_fillWays yX4_fillWays ∈ q_tbl := ⟨(q_tb3 44 rfl rfl), (q_sl 7 rfl rfl)⟩
theorem calX4_firstBadByte : q_cal yX4_firstBadByte cX4_firstBadByte 5 (some .int) := ⟨(q_tb1 1 rfl rfl), (q_tb2 27 rfl rfl), by decide +kernel, by decide +kernel⟩
theorem dnX4_firstBadByte : (parseMethodDescriptor yX4_firstBadByte.desc).map (fun d => d.parameters.length) = some 1 := by decide +kernel
theorem inX4_firstBadByte : Cond.static yX4_firstBadByte ∈ q_tbl := (q_tb2 26 rfl rfl)
theorem calX4_firstCleaned : q_cal yX4_firstCleaned cX4_firstCleaned 4 (some .int) := ⟨(q_tb1 1 rfl rfl), (q_tb3 97 rfl rfl), by decide +kernel, by decide +kernel⟩
theorem dnX4_firstCleaned : (parseMethodDescriptor yX4_firstCleaned.desc).map (fun d => d.parameters.length) = some 2 := by decide +kernel
theorem inX4_firstCleaned : Cond.instanceMethod yX4_firstCleaned ∈ q_tbl ∧ Cond.selects yX4_firstCleaned.cls yX4_firstCleaned yX4_firstCleaned ∈ q_tbl := ⟨(q_tb3 96 rfl rfl), (q_sl 12 rfl rfl)⟩
theorem calX4_firstForged : q_cal yX4_firstForged cX4_firstForged 5 (some .int) := ⟨(q_tb1 1 rfl rfl), (q_tb3 146 rfl rfl), by decide +kernel, by decide +kernel⟩
theorem dnX4_firstForged : (parseMethodDescriptor yX4_firstForged.desc).map (fun d => d.parameters.length) = some 1 := by decide +kernel
theorem inX4_firstForged : Cond.instanceMethod yX4_firstForged ∈ q_tbl ∧ Cond.selects yX4_firstForged.cls yX4_firstForged yX4_firstForged ∈ q_tbl := ⟨(q_tb3 145 rfl rfl), (q_sl 15 rfl rfl)⟩
theorem calX4_fits : q_cal yX4_fits cX4_fits 3 (some .int) := ⟨(q_tb1 1 rfl rfl), (q_tb2 155 rfl rfl), by decide +kernel, by decide +kernel⟩
theorem dnX4_fits : (parseMethodDescriptor yX4_fits.desc).map (fun d => d.parameters.length) = some 2 := by decide +kernel
theorem inX4_fits : Cond.instanceMethod yX4_fits ∈ q_tbl ∧ Cond.selects yX4_fits.cls yX4_fits yX4_fits ∈ q_tbl := ⟨(q_tb2 153 rfl rfl), (q_tb2 154 rfl rfl)⟩
theorem calX4_forged : q_cal yX4_forged cX4_forged 4 (some .int) := ⟨(q_tb1 1 rfl rfl), (q_tb3 153 rfl rfl), by decide +kernel, by decide +kernel⟩
theorem dnX4_forged : (parseMethodDescriptor yX4_forged.desc).map (fun d => d.parameters.length) = some 1 := by decide +kernel
theorem inX4_forged : Cond.instanceMethod yX4_forged ∈ q_tbl ∧ Cond.selects yX4_forged.cls yX4_forged yX4_forged ∈ q_tbl := ⟨(q_tb3 151 rfl rfl), (q_tb3 152 rfl rfl)⟩
theorem calX4_friday : q_cal yX4_friday cX4_friday 6 (some .int) := ⟨(q_tb1 1 rfl rfl), (q_tb3 126 rfl rfl), by decide +kernel, by decide +kernel⟩
theorem dnX4_friday : (parseMethodDescriptor yX4_friday.desc).map (fun d => d.parameters.length) = some 1 := by decide +kernel
theorem inX4_friday : Cond.instanceMethod yX4_friday ∈ q_tbl ∧ Cond.selects yX4_friday.cls yX4_friday yX4_friday ∈ q_tbl := ⟨(q_tb3 124 rfl rfl), (q_tb3 125 rfl rfl)⟩
theorem calX4_grown : q_cal yX4_grown cX4_grown 8 (some .long) := ⟨(q_tb1 1 rfl rfl), (q_tb3 11 rfl rfl), by decide +kernel, by decide +kernel⟩
theorem dnX4_grown : (parseMethodDescriptor yX4_grown.desc).map (fun d => d.parameters.length) = some 1 := by decide +kernel
theorem inX4_grown : Cond.instanceMethod yX4_grown ∈ q_tbl ∧ Cond.selects yX4_grown.cls yX4_grown yX4_grown ∈ q_tbl := ⟨(q_tb3 9 rfl rfl), (q_tb3 10 rfl rfl)⟩
theorem calX4_hasBit : q_cal yX4_hasBit cX4_hasBit 2 (some .boolean) := ⟨(q_tb1 1 rfl rfl), (q_tb2 177 rfl rfl), by decide +kernel, by decide +kernel⟩
theorem dnX4_hasBit : (parseMethodDescriptor yX4_hasBit.desc).map (fun d => d.parameters.length) = some 2 := by decide +kernel
theorem inX4_hasBit : Cond.static yX4_hasBit ∈ q_tbl := (q_tb2 176 rfl rfl)
theorem calX4_hires : q_cal yX4_hires cX4_hires 3 (some .int) := ⟨(q_tb1 1 rfl rfl), (q_tb2 143 rfl rfl), by decide +kernel, by decide +kernel⟩
theorem dnX4_hires : (parseMethodDescriptor yX4_hires.desc).map (fun d => d.parameters.length) = some 2 := by decide +kernel
theorem inX4_hires : Cond.instanceMethod yX4_hires ∈ q_tbl ∧ Cond.selects yX4_hires.cls yX4_hires yX4_hires ∈ q_tbl := ⟨(q_tb2 141 rfl rfl), (q_tb2 142 rfl rfl)⟩
theorem calX4_image : q_cal yX4_image cX4_image 1 (some .int) := ⟨(q_tb1 1 rfl rfl), (q_tb3 178 rfl rfl), by decide +kernel, by decide +kernel⟩
theorem dnX4_image : (parseMethodDescriptor yX4_image.desc).map (fun d => d.parameters.length) = some 0 := by decide +kernel
theorem inX4_image : Cond.instanceMethod yX4_image ∈ q_tbl ∧ Cond.selects yX4_image.cls yX4_image yX4_image ∈ q_tbl := ⟨(q_tb3 176 rfl rfl), (q_tb3 177 rfl rfl)⟩
theorem calX4_inTime : q_cal yX4_inTime cX4_inTime 7 (some .boolean) := ⟨(q_tb1 1 rfl rfl), (q_tb3 93 rfl rfl), by decide +kernel, by decide +kernel⟩
theorem dnX4_inTime : (parseMethodDescriptor yX4_inTime.desc).map (fun d => d.parameters.length) = some 2 := by decide +kernel
theorem inX4_inTime : Cond.instanceMethod yX4_inTime ∈ q_tbl ∧ Cond.selects yX4_inTime.cls yX4_inTime yX4_inTime ∈ q_tbl := ⟨(q_tb3 92 rfl rfl), (q_sl 11 rfl rfl)⟩
theorem calX4_init : q_cal yX4_init cX4_init 2 none := ⟨(q_tb1 1 rfl rfl), (q_tb1 20 rfl rfl), by decide +kernel, by decide +kernel⟩
theorem dnX4_init : (parseMethodDescriptor yX4_init.desc).map (fun d => d.parameters.length) = some 0 := by decide +kernel
theorem inX4_init : Cond.instanceMethod yX4_init ∈ q_tbl := (q_tb1 19 rfl rfl)
theorem calX4_isIn : q_cal yX4_isIn cX4_isIn 3 (some .boolean) := ⟨(q_tb1 1 rfl rfl), (q_tb2 20 rfl rfl), by decide +kernel, by decide +kernel⟩
theorem dnX4_isIn : (parseMethodDescriptor yX4_isIn.desc).map (fun d => d.parameters.length) = some 3 := by decide +kernel
theorem inX4_isIn : Cond.static yX4_isIn ∈ q_tbl := (q_tb2 19 rfl rfl)
theorem calX4_isShelf : q_cal yX4_isShelf cX4_isShelf 1 (some .boolean) := ⟨(q_tb1 1 rfl rfl), (q_tb2 17 rfl rfl), by decide +kernel, by decide +kernel⟩
theorem dnX4_isShelf : (parseMethodDescriptor yX4_isShelf.desc).map (fun d => d.parameters.length) = some 1 := by decide +kernel
theorem inX4_isShelf : Cond.static yX4_isShelf ∈ q_tbl := (q_tb2 16 rfl rfl)
theorem calX4_judge : q_cal yX4_judge cX4_judge 8 (some .int) := ⟨(q_tb1 1 rfl rfl), (q_tb3 157 rfl rfl), by decide +kernel, by decide +kernel⟩
theorem dnX4_judge : (parseMethodDescriptor yX4_judge.desc).map (fun d => d.parameters.length) = some 1 := by decide +kernel
theorem inX4_judge : Cond.instanceMethod yX4_judge ∈ q_tbl ∧ Cond.selects yX4_judge.cls yX4_judge yX4_judge ∈ q_tbl := ⟨(q_tb3 155 rfl rfl), (q_tb3 156 rfl rfl)⟩
theorem calX4_keep : q_cal yX4_keep cX4_keep 5 (some .int) := ⟨(q_tb1 1 rfl rfl), (q_tb3 194 rfl rfl), by decide +kernel, by decide +kernel⟩
theorem dnX4_keep : (parseMethodDescriptor yX4_keep.desc).map (fun d => d.parameters.length) = some 4 := by decide +kernel
theorem inX4_keep : Cond.instanceMethod yX4_keep ∈ q_tbl ∧ Cond.selects yX4_keep.cls yX4_keep yX4_keep ∈ q_tbl := ⟨(q_tb3 192 rfl rfl), (q_tb3 193 rfl rfl)⟩
theorem calX4_leftOver : q_cal yX4_leftOver cX4_leftOver 1 (some .int) := ⟨(q_tb1 1 rfl rfl), (q_tb2 215 rfl rfl), by decide +kernel, by decide +kernel⟩
theorem dnX4_leftOver : (parseMethodDescriptor yX4_leftOver.desc).map (fun d => d.parameters.length) = some 0 := by decide +kernel
theorem inX4_leftOver : Cond.instanceMethod yX4_leftOver ∈ q_tbl ∧ Cond.selects yX4_leftOver.cls yX4_leftOver yX4_leftOver ∈ q_tbl := ⟨(q_tb2 213 rfl rfl), (q_tb2 214 rfl rfl)⟩
theorem calX4_mostReady : q_cal yX4_mostReady cX4_mostReady 4 (some .int) := ⟨(q_tb1 1 rfl rfl), (q_tb3 89 rfl rfl), by decide +kernel, by decide +kernel⟩
theorem dnX4_mostReady : (parseMethodDescriptor yX4_mostReady.desc).map (fun d => d.parameters.length) = some 1 := by decide +kernel
theorem inX4_mostReady : Cond.instanceMethod yX4_mostReady ∈ q_tbl ∧ Cond.selects yX4_mostReady.cls yX4_mostReady yX4_mostReady ∈ q_tbl := ⟨(q_tb3 88 rfl rfl), (q_sl 10 rfl rfl)⟩
theorem calX4_nextSeed : q_cal yX4_nextSeed cX4_nextSeed 1 (some .int) := ⟨(q_tb1 1 rfl rfl), (q_tb3 164 rfl rfl), by decide +kernel, by decide +kernel⟩
theorem dnX4_nextSeed : (parseMethodDescriptor yX4_nextSeed.desc).map (fun d => d.parameters.length) = some 1 := by decide +kernel
theorem inX4_nextSeed : Cond.static yX4_nextSeed ∈ q_tbl := (q_tb3 163 rfl rfl)
theorem calX4_oneMore : q_cal yX4_oneMore cX4_oneMore 3 (some .int) := ⟨(q_tb1 1 rfl rfl), (q_tb3 3 rfl rfl), by decide +kernel, by decide +kernel⟩
theorem dnX4_oneMore : (parseMethodDescriptor yX4_oneMore.desc).map (fun d => d.parameters.length) = some 0 := by decide +kernel
theorem inX4_oneMore : Cond.instanceMethod yX4_oneMore ∈ q_tbl ∧ Cond.selects yX4_oneMore.cls yX4_oneMore yX4_oneMore ∈ q_tbl := ⟨(q_tb3 1 rfl rfl), (q_tb3 2 rfl rfl)⟩
theorem calX4_orderCleaning : q_cal yX4_orderCleaning cX4_orderCleaning 4 (some .int) := ⟨(q_tb1 1 rfl rfl), (q_tb3 85 rfl rfl), by decide +kernel, by decide +kernel⟩
theorem dnX4_orderCleaning : (parseMethodDescriptor yX4_orderCleaning.desc).map (fun d => d.parameters.length) = some 0 := by decide +kernel
theorem inX4_orderCleaning : Cond.instanceMethod yX4_orderCleaning ∈ q_tbl ∧ Cond.selects yX4_orderCleaning.cls yX4_orderCleaning yX4_orderCleaning ∈ q_tbl := ⟨(q_tb3 84 rfl rfl), (q_sl 9 rfl rfl)⟩
theorem calX4_pairRefusal : q_cal yX4_pairRefusal cX4_pairRefusal 2 (some .int) := ⟨(q_tb1 1 rfl rfl), (q_tb3 142 rfl rfl), by decide +kernel, by decide +kernel⟩
theorem dnX4_pairRefusal : (parseMethodDescriptor yX4_pairRefusal.desc).map (fun d => d.parameters.length) = some 1 := by decide +kernel
theorem inX4_pairRefusal : Cond.static yX4_pairRefusal ∈ q_tbl := (q_tb3 141 rfl rfl)
theorem calX4_partOf : q_cal yX4_partOf cX4_partOf 9 (some .long) := ⟨(q_tb1 1 rfl rfl), (q_tb3 34 rfl rfl), by decide +kernel, by decide +kernel⟩
theorem dnX4_partOf : (parseMethodDescriptor yX4_partOf.desc).map (fun d => d.parameters.length) = some 3 := by decide +kernel
theorem inX4_partOf : Cond.static yX4_partOf ∈ q_tbl := (q_tb3 33 rfl rfl)
theorem calX4_put : q_cal yX4_put cX4_put 6 (some .int) := ⟨(q_tb1 1 rfl rfl), (q_tb3 214 rfl rfl), by decide +kernel, by decide +kernel⟩
theorem dnX4_put : (parseMethodDescriptor yX4_put.desc).map (fun d => d.parameters.length) = some 3 := by decide +kernel
theorem inX4_put : Cond.instanceMethod yX4_put ∈ q_tbl ∧ Cond.selects yX4_put.cls yX4_put yX4_put ∈ q_tbl := ⟨(q_tb3 212 rfl rfl), (q_tb3 213 rfl rfl)⟩
theorem calX4_readHours : q_cal yX4_readHours cX4_readHours 4 (some .boolean) := ⟨(q_tb1 1 rfl rfl), (q_tb3 71 rfl rfl), by decide +kernel, by decide +kernel⟩
theorem dnX4_readHours : (parseMethodDescriptor yX4_readHours.desc).map (fun d => d.parameters.length) = some 1 := by decide +kernel
theorem inX4_readHours : Cond.instanceMethod yX4_readHours ∈ q_tbl ∧ Cond.selects yX4_readHours.cls yX4_readHours yX4_readHours ∈ q_tbl := ⟨(q_tb3 70 rfl rfl), (q_sl 8 rfl rfl)⟩
theorem calX4_ready : q_cal yX4_ready cX4_ready 7 (some .int) := ⟨(q_tb1 1 rfl rfl), (q_tb3 67 rfl rfl), by decide +kernel, by decide +kernel⟩
theorem dnX4_ready : (parseMethodDescriptor yX4_ready.desc).map (fun d => d.parameters.length) = some 2 := by decide +kernel
theorem inX4_ready : Cond.instanceMethod yX4_ready ∈ q_tbl ∧ Cond.selects yX4_ready.cls yX4_ready yX4_ready ∈ q_tbl := ⟨(q_tb3 65 rfl rfl), (q_tb3 66 rfl rfl)⟩
theorem calX4_refuse : q_cal yX4_refuse cX4_refuse 3 (some .int) := ⟨(q_tb1 1 rfl rfl), (q_tb3 50 rfl rfl), by decide +kernel, by decide +kernel⟩
theorem dnX4_refuse : (parseMethodDescriptor yX4_refuse.desc).map (fun d => d.parameters.length) = some 0 := by decide +kernel
theorem inX4_refuse : Cond.instanceMethod yX4_refuse ∈ q_tbl ∧ Cond.selects yX4_refuse.cls yX4_refuse yX4_refuse ∈ q_tbl := ⟨(q_tb3 48 rfl rfl), (q_tb3 49 rfl rfl)⟩
theorem calX4_restore : q_cal yX4_restore cX4_restore 1 (some .int) := ⟨(q_tb1 1 rfl rfl), (q_tb3 182 rfl rfl), by decide +kernel, by decide +kernel⟩
theorem dnX4_restore : (parseMethodDescriptor yX4_restore.desc).map (fun d => d.parameters.length) = some 0 := by decide +kernel
theorem inX4_restore : Cond.instanceMethod yX4_restore ∈ q_tbl ∧ Cond.selects yX4_restore.cls yX4_restore yX4_restore ∈ q_tbl := ⟨(q_tb3 180 rfl rfl), (q_tb3 181 rfl rfl)⟩
theorem calX4_returns : q_cal yX4_returns cX4_returns 2 (some .int) := ⟨(q_tb1 1 rfl rfl), (q_tb2 147 rfl rfl), by decide +kernel, by decide +kernel⟩
theorem dnX4_returns : (parseMethodDescriptor yX4_returns.desc).map (fun d => d.parameters.length) = some 1 := by decide +kernel
theorem inX4_returns : Cond.instanceMethod yX4_returns ∈ q_tbl ∧ Cond.selects yX4_returns.cls yX4_returns yX4_returns ∈ q_tbl := ⟨(q_tb2 145 rfl rfl), (q_tb2 146 rfl rfl)⟩
theorem calX4_row : q_cal yX4_row cX4_row 4 (some .int) := ⟨(q_tb1 1 rfl rfl), (q_tb3 206 rfl rfl), by decide +kernel, by decide +kernel⟩
theorem dnX4_row : (parseMethodDescriptor yX4_row.desc).map (fun d => d.parameters.length) = some 3 := by decide +kernel
theorem inX4_row : Cond.instanceMethod yX4_row ∈ q_tbl ∧ Cond.selects yX4_row.cls yX4_row yX4_row ∈ q_tbl := ⟨(q_tb3 204 rfl rfl), (q_tb3 205 rfl rfl)⟩
theorem calX4_sell : q_cal yX4_sell cX4_sell 5 (some .int) := ⟨(q_tb1 1 rfl rfl), (q_tb3 59 rfl rfl), by decide +kernel, by decide +kernel⟩
theorem dnX4_sell : (parseMethodDescriptor yX4_sell.desc).map (fun d => d.parameters.length) = some 0 := by decide +kernel
theorem inX4_sell : Cond.instanceMethod yX4_sell ∈ q_tbl ∧ Cond.selects yX4_sell.cls yX4_sell yX4_sell ∈ q_tbl := ⟨(q_tb3 57 rfl rfl), (q_tb3 58 rfl rfl)⟩
theorem calX4_served : q_cal yX4_served cX4_served 2 (some .int) := ⟨(q_tb1 1 rfl rfl), (q_tb2 160 rfl rfl), by decide +kernel, by decide +kernel⟩
theorem dnX4_served : (parseMethodDescriptor yX4_served.desc).map (fun d => d.parameters.length) = some 1 := by decide +kernel
theorem inX4_served : Cond.instanceMethod yX4_served ∈ q_tbl ∧ Cond.selects yX4_served.cls yX4_served yX4_served ∈ q_tbl := ⟨(q_tb2 158 rfl rfl), (q_tb2 159 rfl rfl)⟩
theorem calX4_set : q_cal yX4_set cX4_set 3 none := ⟨(q_tb1 1 rfl rfl), (q_tb2 70 rfl rfl), by decide +kernel, by decide +kernel⟩
theorem dnX4_set : (parseMethodDescriptor yX4_set.desc).map (fun d => d.parameters.length) = some 3 := by decide +kernel
theorem inX4_set : Cond.static yX4_set ∈ q_tbl := (q_tb2 69 rfl rfl)
theorem calX4_shelfAt : q_cal yX4_shelfAt cX4_shelfAt 3 (some (.object "BackByNoonOnMonday$Shelf")) := ⟨(q_tb1 1 rfl rfl), (q_tb2 24 rfl rfl), by decide +kernel, by decide +kernel⟩
theorem dnX4_shelfAt : (parseMethodDescriptor yX4_shelfAt.desc).map (fun d => d.parameters.length) = some 1 := by decide +kernel
theorem inX4_shelfAt : Cond.instanceMethod yX4_shelfAt ∈ q_tbl ∧ Cond.selects yX4_shelfAt.cls yX4_shelfAt yX4_shelfAt ∈ q_tbl := ⟨(q_tb2 23 rfl rfl), (q_sl 0 rfl rfl)⟩
theorem calX4_shines : q_cal yX4_shines cX4_shines 3 (some .int) := ⟨(q_tb1 1 rfl rfl), (q_tb3 63 rfl rfl), by decide +kernel, by decide +kernel⟩
theorem dnX4_shines : (parseMethodDescriptor yX4_shines.desc).map (fun d => d.parameters.length) = some 0 := by decide +kernel
theorem inX4_shines : Cond.instanceMethod yX4_shines ∈ q_tbl ∧ Cond.selects yX4_shines.cls yX4_shines yX4_shines ∈ q_tbl := ⟨(q_tb3 61 rfl rfl), (q_tb3 62 rfl rfl)⟩
theorem calX4_shop : q_cal yX4_shop cX4_shop 4 (some .int) := ⟨(q_tb1 1 rfl rfl), (q_tb2 14 rfl rfl), by decide +kernel, by decide +kernel⟩
theorem dnX4_shop : (parseMethodDescriptor yX4_shop.desc).map (fun d => d.parameters.length) = some 1 := by decide +kernel
theorem inX4_shop : Cond.instanceMethod yX4_shop ∈ q_tbl ∧ Cond.selects yX4_shop.cls yX4_shop yX4_shop ∈ q_tbl := ⟨(q_tb2 12 rfl rfl), (q_tb2 13 rfl rfl)⟩
theorem calX4_stained : q_cal yX4_stained cX4_stained 9 (some .int) := ⟨(q_tb1 1 rfl rfl), (q_tb3 139 rfl rfl), by decide +kernel, by decide +kernel⟩
theorem dnX4_stained : (parseMethodDescriptor yX4_stained.desc).map (fun d => d.parameters.length) = some 3 := by decide +kernel
theorem inX4_stained : Cond.instanceMethod yX4_stained ∈ q_tbl ∧ Cond.selects yX4_stained.cls yX4_stained yX4_stained ∈ q_tbl := ⟨(q_tb3 137 rfl rfl), (q_tb3 138 rfl rfl)⟩
theorem calX4_suit : q_cal yX4_suit cX4_suit 4 (some .int) := ⟨(q_tb1 1 rfl rfl), (q_tb2 119 rfl rfl), by decide +kernel, by decide +kernel⟩
theorem dnX4_suit : (parseMethodDescriptor yX4_suit.desc).map (fun d => d.parameters.length) = some 2 := by decide +kernel
theorem inX4_suit : Cond.instanceMethod yX4_suit ∈ q_tbl ∧ Cond.selects yX4_suit.cls yX4_suit yX4_suit ∈ q_tbl := ⟨(q_tb2 117 rfl rfl), (q_tb2 118 rfl rfl)⟩
theorem calX4_suitsHad : q_cal yX4_suitsHad cX4_suitsHad 4 (some .int) := ⟨(q_tb1 1 rfl rfl), (q_tb3 149 rfl rfl), by decide +kernel, by decide +kernel⟩
theorem dnX4_suitsHad : (parseMethodDescriptor yX4_suitsHad.desc).map (fun d => d.parameters.length) = some 2 := by decide +kernel
theorem inX4_suitsHad : Cond.static yX4_suitsHad ∈ q_tbl := (q_tb3 148 rfl rfl)
theorem calX4_taxi : q_cal yX4_taxi cX4_taxi 4 (some .int) := ⟨(q_tb1 1 rfl rfl), (q_tb3 121 rfl rfl), by decide +kernel, by decide +kernel⟩
theorem dnX4_taxi : (parseMethodDescriptor yX4_taxi.desc).map (fun d => d.parameters.length) = some 3 := by decide +kernel
theorem inX4_taxi : Cond.instanceMethod yX4_taxi ∈ q_tbl ∧ Cond.selects yX4_taxi.cls yX4_taxi yX4_taxi ∈ q_tbl := ⟨(q_tb3 119 rfl rfl), (q_tb3 120 rfl rfl)⟩
theorem calX4_tellBooking : q_cal yX4_tellBooking cX4_tellBooking 5 (some .int) := ⟨(q_tb1 1 rfl rfl), (q_tb2 73 rfl rfl), by decide +kernel, by decide +kernel⟩
theorem dnX4_tellBooking : (parseMethodDescriptor yX4_tellBooking.desc).map (fun d => d.parameters.length) = some 3 := by decide +kernel
theorem inX4_tellBooking : Cond.static yX4_tellBooking ∈ q_tbl := (q_tb2 72 rfl rfl)
theorem calX4_tellShop : q_cal yX4_tellShop cX4_tellShop 5 (some .int) := ⟨(q_tb1 1 rfl rfl), (q_tb2 41 rfl rfl), by decide +kernel, by decide +kernel⟩
theorem dnX4_tellShop : (parseMethodDescriptor yX4_tellShop.desc).map (fun d => d.parameters.length) = some 1 := by decide +kernel
theorem inX4_tellShop : Cond.instanceMethod yX4_tellShop ∈ q_tbl ∧ Cond.selects yX4_tellShop.cls yX4_tellShop yX4_tellShop ∈ q_tbl := ⟨(q_tb2 40 rfl rfl), (q_sl 1 rfl rfl)⟩
theorem calX4_tellStatement : q_cal yX4_tellStatement cX4_tellStatement 4 (some .int) := ⟨(q_tb1 1 rfl rfl), (q_tb2 55 rfl rfl), by decide +kernel, by decide +kernel⟩
theorem dnX4_tellStatement : (parseMethodDescriptor yX4_tellStatement.desc).map (fun d => d.parameters.length) = some 3 := by decide +kernel
theorem inX4_tellStatement : Cond.static yX4_tellStatement ∈ q_tbl := (q_tb2 54 rfl rfl)
theorem calX4_tellSuit : q_cal yX4_tellSuit cX4_tellSuit 5 (some .int) := ⟨(q_tb1 1 rfl rfl), (q_tb2 63 rfl rfl), by decide +kernel, by decide +kernel⟩
theorem dnX4_tellSuit : (parseMethodDescriptor yX4_tellSuit.desc).map (fun d => d.parameters.length) = some 3 := by decide +kernel
theorem inX4_tellSuit : Cond.static yX4_tellSuit ∈ q_tbl := (q_tb2 62 rfl rfl)
theorem calX4_tenTo : q_cal yX4_tenTo cX4_tenTo 4 (some .long) := ⟨(q_tb1 1 rfl rfl), (q_tb3 30 rfl rfl), by decide +kernel, by decide +kernel⟩
theorem dnX4_tenTo : (parseMethodDescriptor yX4_tenTo.desc).map (fun d => d.parameters.length) = some 1 := by decide +kernel
theorem inX4_tenTo : Cond.static yX4_tenTo ∈ q_tbl := (q_tb3 29 rfl rfl)
theorem calX4_tight : q_cal yX4_tight cX4_tight 5 (some .int) := ⟨(q_tb1 1 rfl rfl), (q_tb3 134 rfl rfl), by decide +kernel, by decide +kernel⟩
theorem dnX4_tight : (parseMethodDescriptor yX4_tight.desc).map (fun d => d.parameters.length) = some 0 := by decide +kernel
theorem inX4_tight : Cond.instanceMethod yX4_tight ∈ q_tbl ∧ Cond.selects yX4_tight.cls yX4_tight yX4_tight ∈ q_tbl := ⟨(q_tb3 132 rfl rfl), (q_tb3 133 rfl rfl)⟩
theorem calX4_weeks : q_cal yX4_weeks cX4_weeks 12 (some .int) := ⟨(q_tb1 1 rfl rfl), (q_tb3 161 rfl rfl), by decide +kernel, by decide +kernel⟩
theorem dnX4_weeks : (parseMethodDescriptor yX4_weeks.desc).map (fun d => d.parameters.length) = some 3 := by decide +kernel
theorem inX4_weeks : Cond.instanceMethod yX4_weeks ∈ q_tbl ∧ Cond.selects yX4_weeks.cls yX4_weeks yX4_weeks ∈ q_tbl := ⟨(q_tb3 159 rfl rfl), (q_tb3 160 rfl rfl)⟩
theorem calX5_add : q_cal yX5_add cX5_add 4 none := ⟨(q_tb1 6 rfl rfl), (q_tb6 11 rfl rfl), by decide +kernel, by decide +kernel⟩
theorem dnX5_add : (parseMethodDescriptor yX5_add.desc).map (fun d => d.parameters.length) = some 3 := by decide +kernel
theorem inX5_add : Cond.instanceMethod yX5_add ∈ q_tbl ∧ Cond.selects yX5_add.cls yX5_add yX5_add ∈ q_tbl := ⟨(q_tb6 10 rfl rfl), (q_sl 51 rfl rfl)⟩
theorem calX5_alike : q_cal yX5_alike cX5_alike 3 (some .int) := ⟨(q_tb1 6 rfl rfl), (q_tb6 3 rfl rfl), by decide +kernel, by decide +kernel⟩
theorem dnX5_alike : (parseMethodDescriptor yX5_alike.desc).map (fun d => d.parameters.length) = some 0 := by decide +kernel
theorem inX5_alike : Cond.instanceMethod yX5_alike ∈ q_tbl ∧ Cond.selects yX5_alike.cls yX5_alike yX5_alike ∈ q_tbl := ⟨(q_tb6 1 rfl rfl), (q_tb6 2 rfl rfl)⟩
theorem calX5_apart : q_cal yX5_apart cX5_apart 2 (some .int) := ⟨(q_tb1 6 rfl rfl), (q_tb5 98 rfl rfl), by decide +kernel, by decide +kernel⟩
theorem dnX5_apart : (parseMethodDescriptor yX5_apart.desc).map (fun d => d.parameters.length) = some 2 := by decide +kernel
theorem inX5_apart : Cond.static yX5_apart ∈ q_tbl := (q_tb5 97 rfl rfl)
theorem calX5_atFive : q_cal yX5_atFive cX5_atFive 4 (some .int) := ⟨(q_tb1 6 rfl rfl), (q_tb6 91 rfl rfl), by decide +kernel, by decide +kernel⟩
theorem dnX5_atFive : (parseMethodDescriptor yX5_atFive.desc).map (fun d => d.parameters.length) = some 3 := by decide +kernel
theorem inX5_atFive : Cond.instanceMethod yX5_atFive ∈ q_tbl ∧ Cond.selects yX5_atFive.cls yX5_atFive yX5_atFive ∈ q_tbl := ⟨(q_tb6 89 rfl rfl), (q_tb6 90 rfl rfl)⟩
theorem calX5_bestFee : q_cal yX5_bestFee cX5_bestFee 3 (some .int) := ⟨(q_tb1 6 rfl rfl), (q_tb6 87 rfl rfl), by decide +kernel, by decide +kernel⟩
theorem dnX5_bestFee : (parseMethodDescriptor yX5_bestFee.desc).map (fun d => d.parameters.length) = some 0 := by decide +kernel
theorem inX5_bestFee : Cond.instanceMethod yX5_bestFee ∈ q_tbl ∧ Cond.selects yX5_bestFee.cls yX5_bestFee yX5_bestFee ∈ q_tbl := ⟨(q_tb6 85 rfl rfl), (q_tb6 86 rfl rfl)⟩
theorem calX5_booking : q_cal yX5_booking cX5_booking 3 (some .int) := ⟨(q_tb1 6 rfl rfl), (q_tb5 157 rfl rfl), by decide +kernel, by decide +kernel⟩
theorem dnX5_booking : (parseMethodDescriptor yX5_booking.desc).map (fun d => d.parameters.length) = some 2 := by decide +kernel
theorem inX5_booking : Cond.instanceMethod yX5_booking ∈ q_tbl ∧ Cond.selects yX5_booking.cls yX5_booking yX5_booking ∈ q_tbl := ⟨(q_tb5 155 rfl rfl), (q_tb5 156 rfl rfl)⟩
theorem calX5_bookingComes : q_cal yX5_bookingComes cX5_bookingComes 7 (some .boolean) := ⟨(q_tb1 6 rfl rfl), (q_tb5 79 rfl rfl), by decide +kernel, by decide +kernel⟩
theorem dnX5_bookingComes : (parseMethodDescriptor yX5_bookingComes.desc).map (fun d => d.parameters.length) = some 5 := by decide +kernel
theorem inX5_bookingComes : Cond.instanceMethod yX5_bookingComes ∈ q_tbl ∧ Cond.selects yX5_bookingComes.cls yX5_bookingComes yX5_bookingComes ∈ q_tbl := ⟨(q_tb5 78 rfl rfl), (q_sl 27 rfl rfl)⟩
theorem calX5_bookingOf : q_cal yX5_bookingOf cX5_bookingOf 4 (some .int) := ⟨(q_tb1 6 rfl rfl), (q_tb5 121 rfl rfl), by decide +kernel, by decide +kernel⟩
theorem dnX5_bookingOf : (parseMethodDescriptor yX5_bookingOf.desc).map (fun d => d.parameters.length) = some 1 := by decide +kernel
theorem inX5_bookingOf : Cond.instanceMethod yX5_bookingOf ∈ q_tbl ∧ Cond.selects yX5_bookingOf.cls yX5_bookingOf yX5_bookingOf ∈ q_tbl := ⟨(q_tb5 120 rfl rfl), (q_sl 36 rfl rfl)⟩
theorem calX5_books : q_cal yX5_books cX5_books 4 (some .int) := ⟨(q_tb1 6 rfl rfl), (q_tb5 170 rfl rfl), by decide +kernel, by decide +kernel⟩
theorem dnX5_books : (parseMethodDescriptor yX5_books.desc).map (fun d => d.parameters.length) = some 3 := by decide +kernel
theorem inX5_books : Cond.instanceMethod yX5_books ∈ q_tbl ∧ Cond.selects yX5_books.cls yX5_books yX5_books ∈ q_tbl := ⟨(q_tb5 168 rfl rfl), (q_tb5 169 rfl rfl)⟩
theorem calX5_buy : q_cal yX5_buy cX5_buy 8 (some .int) := ⟨(q_tb1 6 rfl rfl), (q_tb6 38 rfl rfl), by decide +kernel, by decide +kernel⟩
theorem dnX5_buy : (parseMethodDescriptor yX5_buy.desc).map (fun d => d.parameters.length) = some 2 := by decide +kernel
theorem inX5_buy : Cond.instanceMethod yX5_buy ∈ q_tbl ∧ Cond.selects yX5_buy.cls yX5_buy yX5_buy ∈ q_tbl := ⟨(q_tb6 36 rfl rfl), (q_tb6 37 rfl rfl)⟩
theorem calX5_buys : q_cal yX5_buys cX5_buys 4 (some .int) := ⟨(q_tb1 6 rfl rfl), (q_tb5 161 rfl rfl), by decide +kernel, by decide +kernel⟩
theorem dnX5_buys : (parseMethodDescriptor yX5_buys.desc).map (fun d => d.parameters.length) = some 2 := by decide +kernel
theorem inX5_buys : Cond.instanceMethod yX5_buys ∈ q_tbl ∧ Cond.selects yX5_buys.cls yX5_buys yX5_buys ∈ q_tbl := ⟨(q_tb5 159 rfl rfl), (q_tb5 160 rfl rfl)⟩
theorem calX5_canClean : q_cal yX5_canClean cX5_canClean 2 (some .boolean) := ⟨(q_tb1 6 rfl rfl), (q_tb5 125 rfl rfl), by decide +kernel, by decide +kernel⟩
theorem dnX5_canClean : (parseMethodDescriptor yX5_canClean.desc).map (fun d => d.parameters.length) = some 1 := by decide +kernel
theorem inX5_canClean : Cond.instanceMethod yX5_canClean ∈ q_tbl ∧ Cond.selects yX5_canClean.cls yX5_canClean yX5_canClean ∈ q_tbl := ⟨(q_tb5 124 rfl rfl), (q_sl 37 rfl rfl)⟩
theorem calX5_canHire : q_cal yX5_canHire cX5_canHire 3 (some .boolean) := ⟨(q_tb1 6 rfl rfl), (q_tb5 91 rfl rfl), by decide +kernel, by decide +kernel⟩
theorem dnX5_canHire : (parseMethodDescriptor yX5_canHire.desc).map (fun d => d.parameters.length) = some 2 := by decide +kernel
theorem inX5_canHire : Cond.instanceMethod yX5_canHire ∈ q_tbl ∧ Cond.selects yX5_canHire.cls yX5_canHire yX5_canHire ∈ q_tbl := ⟨(q_tb5 90 rfl rfl), (q_sl 30 rfl rfl)⟩
theorem calX5_carry : q_cal yX5_carry cX5_carry 2 (some .int) := ⟨(q_tb1 6 rfl rfl), (q_tb5 67 rfl rfl), by decide +kernel, by decide +kernel⟩
theorem dnX5_carry : (parseMethodDescriptor yX5_carry.desc).map (fun d => d.parameters.length) = some 1 := by decide +kernel
theorem inX5_carry : Cond.instanceMethod yX5_carry ∈ q_tbl ∧ Cond.selects yX5_carry.cls yX5_carry yX5_carry ∈ q_tbl := ⟨(q_tb5 66 rfl rfl), (q_sl 24 rfl rfl)⟩
theorem calX5_carryAll : q_cal yX5_carryAll cX5_carryAll 4 none := ⟨(q_tb1 6 rfl rfl), (q_tb5 63 rfl rfl), by decide +kernel, by decide +kernel⟩
theorem dnX5_carryAll : (parseMethodDescriptor yX5_carryAll.desc).map (fun d => d.parameters.length) = some 2 := by decide +kernel
theorem inX5_carryAll : Cond.instanceMethod yX5_carryAll ∈ q_tbl ∧ Cond.selects yX5_carryAll.cls yX5_carryAll yX5_carryAll ∈ q_tbl := ⟨(q_tb5 62 rfl rfl), (q_sl 23 rfl rfl)⟩
theorem calX5_clean : q_cal yX5_clean cX5_clean 2 none := ⟨(q_tb1 6 rfl rfl), (q_tb5 133 rfl rfl), by decide +kernel, by decide +kernel⟩
theorem dnX5_clean : (parseMethodDescriptor yX5_clean.desc).map (fun d => d.parameters.length) = some 1 := by decide +kernel
theorem inX5_clean : Cond.instanceMethod yX5_clean ∈ q_tbl ∧ Cond.selects yX5_clean.cls yX5_clean yX5_clean ∈ q_tbl := ⟨(q_tb5 132 rfl rfl), (q_sl 39 rfl rfl)⟩
theorem calX5_cleans : q_cal yX5_cleans cX5_cleans 2 (some .int) := ⟨(q_tb1 6 rfl rfl), (q_tb5 184 rfl rfl), by decide +kernel, by decide +kernel⟩
theorem dnX5_cleans : (parseMethodDescriptor yX5_cleans.desc).map (fun d => d.parameters.length) = some 1 := by decide +kernel
theorem inX5_cleans : Cond.instanceMethod yX5_cleans ∈ q_tbl ∧ Cond.selects yX5_cleans.cls yX5_cleans yX5_cleans ∈ q_tbl := ⟨(q_tb5 182 rfl rfl), (q_tb5 183 rfl rfl)⟩
theorem calX5_cleansOf : q_cal yX5_cleansOf cX5_cleansOf 2 (some .int) := ⟨(q_tb1 6 rfl rfl), (q_tb5 129 rfl rfl), by decide +kernel, by decide +kernel⟩
theorem dnX5_cleansOf : (parseMethodDescriptor yX5_cleansOf.desc).map (fun d => d.parameters.length) = some 1 := by decide +kernel
theorem inX5_cleansOf : Cond.instanceMethod yX5_cleansOf ∈ q_tbl ∧ Cond.selects yX5_cleansOf.cls yX5_cleansOf yX5_cleansOf ∈ q_tbl := ⟨(q_tb5 128 rfl rfl), (q_sl 38 rfl rfl)⟩
theorem calX5_close : q_cal yX5_close cX5_close 1 none := ⟨(q_tb1 6 rfl rfl), (q_tb5 137 rfl rfl), by decide +kernel, by decide +kernel⟩
theorem dnX5_close : (parseMethodDescriptor yX5_close.desc).map (fun d => d.parameters.length) = some 0 := by decide +kernel
theorem inX5_close : Cond.instanceMethod yX5_close ∈ q_tbl ∧ Cond.selects yX5_close.cls yX5_close yX5_close ∈ q_tbl := ⟨(q_tb5 136 rfl rfl), (q_sl 40 rfl rfl)⟩
theorem calX5_come : q_cal yX5_come cX5_come 11 (some .long) := ⟨(q_tb1 6 rfl rfl), (q_tb6 30 rfl rfl), by decide +kernel, by decide +kernel⟩
theorem dnX5_come : (parseMethodDescriptor yX5_come.desc).map (fun d => d.parameters.length) = some 2 := by decide +kernel
theorem inX5_come : Cond.instanceMethod yX5_come ∈ q_tbl ∧ Cond.selects yX5_come.cls yX5_come yX5_come ∈ q_tbl := ⟨(q_tb6 28 rfl rfl), (q_tb6 29 rfl rfl)⟩
theorem calX5_comeBack : q_cal yX5_comeBack cX5_comeBack 2 none := ⟨(q_tb1 6 rfl rfl), (q_tb5 117 rfl rfl), by decide +kernel, by decide +kernel⟩
theorem dnX5_comeBack : (parseMethodDescriptor yX5_comeBack.desc).map (fun d => d.parameters.length) = some 1 := by decide +kernel
theorem inX5_comeBack : Cond.instanceMethod yX5_comeBack ∈ q_tbl ∧ Cond.selects yX5_comeBack.cls yX5_comeBack yX5_comeBack ∈ q_tbl := ⟨(q_tb5 116 rfl rfl), (q_sl 35 rfl rfl)⟩
theorem calX5_comesBy : q_cal yX5_comesBy cX5_comesBy 4 (some .int) := ⟨(q_tb1 6 rfl rfl), (q_tb6 83 rfl rfl), by decide +kernel, by decide +kernel⟩
theorem dnX5_comesBy : (parseMethodDescriptor yX5_comesBy.desc).map (fun d => d.parameters.length) = some 1 := by decide +kernel
theorem inX5_comesBy : Cond.instanceMethod yX5_comesBy ∈ q_tbl ∧ Cond.selects yX5_comesBy.cls yX5_comesBy yX5_comesBy ∈ q_tbl := ⟨(q_tb6 82 rfl rfl), (q_sl 57 rfl rfl)⟩
theorem calX5_comesTold : q_cal yX5_comesTold cX5_comesTold 6 (some .boolean) := ⟨(q_tb1 6 rfl rfl), (q_tb5 71 rfl rfl), by decide +kernel, by decide +kernel⟩
theorem dnX5_comesTold : (parseMethodDescriptor yX5_comesTold.desc).map (fun d => d.parameters.length) = some 1 := by decide +kernel
theorem inX5_comesTold : Cond.instanceMethod yX5_comesTold ∈ q_tbl ∧ Cond.selects yX5_comesTold.cls yX5_comesTold yX5_comesTold ∈ q_tbl := ⟨(q_tb5 70 rfl rfl), (q_sl 25 rfl rfl)⟩
theorem calX5_copy : q_cal yX5_copy cX5_copy 7 (some .int) := ⟨(q_tb1 6 rfl rfl), (q_tb6 171 rfl rfl), by decide +kernel, by decide +kernel⟩
theorem dnX5_copy : (parseMethodDescriptor yX5_copy.desc).map (fun d => d.parameters.length) = some 5 := by decide +kernel
theorem inX5_copy : Cond.instanceMethod yX5_copy ∈ q_tbl ∧ Cond.selects yX5_copy.cls yX5_copy yX5_copy ∈ q_tbl := ⟨(q_tb6 169 rfl rfl), (q_tb6 170 rfl rfl)⟩
theorem calX5_cost : q_cal yX5_cost cX5_cost 2 (some .int) := ⟨(q_tb1 6 rfl rfl), (q_tb6 175 rfl rfl), by decide +kernel, by decide +kernel⟩
theorem dnX5_cost : (parseMethodDescriptor yX5_cost.desc).map (fun d => d.parameters.length) = some 1 := by decide +kernel
theorem inX5_cost : Cond.instanceMethod yX5_cost ∈ q_tbl ∧ Cond.selects yX5_cost.cls yX5_cost yX5_cost ∈ q_tbl := ⟨(q_tb6 173 rfl rfl), (q_tb6 174 rfl rfl)⟩
theorem calX5_costOf : q_cal yX5_costOf cX5_costOf 3 (some .int) := ⟨(q_tb1 6 rfl rfl), (q_tb6 178 rfl rfl), by decide +kernel, by decide +kernel⟩
theorem dnX5_costOf : (parseMethodDescriptor yX5_costOf.desc).map (fun d => d.parameters.length) = some 2 := by decide +kernel
theorem inX5_costOf : Cond.static yX5_costOf ∈ q_tbl := (q_tb6 177 rfl rfl)
theorem calX5_count : q_cal yX5_count cX5_count 4 (some .int) := ⟨(q_tb1 6 rfl rfl), (q_tb6 147 rfl rfl), by decide +kernel, by decide +kernel⟩
theorem dnX5_count : (parseMethodDescriptor yX5_count.desc).map (fun d => d.parameters.length) = some 1 := by decide +kernel
theorem inX5_count : Cond.instanceMethod yX5_count ∈ q_tbl ∧ Cond.selects yX5_count.cls yX5_count yX5_count ∈ q_tbl := ⟨(q_tb6 145 rfl rfl), (q_tb6 146 rfl rfl)⟩
theorem calX5_divisor : q_cal yX5_divisor cX5_divisor 10 (some .long) := ⟨(q_tb1 6 rfl rfl), (q_tb6 26 rfl rfl), by decide +kernel, by decide +kernel⟩
theorem dnX5_divisor : (parseMethodDescriptor yX5_divisor.desc).map (fun d => d.parameters.length) = some 2 := by decide +kernel
theorem inX5_divisor : Cond.static yX5_divisor ∈ q_tbl := (q_tb6 25 rfl rfl)
theorem calX5_drawBelow : q_cal yX5_drawBelow cX5_drawBelow 2 (some .int) := ⟨(q_tb1 6 rfl rfl), (q_tb6 136 rfl rfl), by decide +kernel, by decide +kernel⟩
theorem dnX5_drawBelow : (parseMethodDescriptor yX5_drawBelow.desc).map (fun d => d.parameters.length) = some 1 := by decide +kernel
theorem inX5_drawBelow : Cond.instanceMethod yX5_drawBelow ∈ q_tbl ∧ Cond.selects yX5_drawBelow.cls yX5_drawBelow yX5_drawBelow ∈ q_tbl := ⟨(q_tb6 135 rfl rfl), (q_sl 61 rfl rfl)⟩
theorem calX5_earned : q_cal yX5_earned cX5_earned 1 (some .int) := ⟨(q_tb1 6 rfl rfl), (q_tb5 235 rfl rfl), by decide +kernel, by decide +kernel⟩
theorem dnX5_earned : (parseMethodDescriptor yX5_earned.desc).map (fun d => d.parameters.length) = some 0 := by decide +kernel
theorem inX5_earned : Cond.instanceMethod yX5_earned ∈ q_tbl ∧ Cond.selects yX5_earned.cls yX5_earned yX5_earned ∈ q_tbl := ⟨(q_tb5 233 rfl rfl), (q_tb5 234 rfl rfl)⟩
theorem calX5_earnedNow : q_cal yX5_earnedNow cX5_earnedNow 1 (some .int) := ⟨(q_tb1 6 rfl rfl), (q_tb5 239 rfl rfl), by decide +kernel, by decide +kernel⟩
theorem dnX5_earnedNow : (parseMethodDescriptor yX5_earnedNow.desc).map (fun d => d.parameters.length) = some 0 := by decide +kernel
theorem inX5_earnedNow : Cond.instanceMethod yX5_earnedNow ∈ q_tbl ∧ Cond.selects yX5_earnedNow.cls yX5_earnedNow yX5_earnedNow ∈ q_tbl := ⟨(q_tb5 238 rfl rfl), (q_sl 50 rfl rfl)⟩
theorem calX5_element : q_cal yX5_element cX5_element 4 (some .long) := ⟨(q_tb1 6 rfl rfl), (q_tb6 167 rfl rfl), by decide +kernel, by decide +kernel⟩
theorem dnX5_element : (parseMethodDescriptor yX5_element.desc).map (fun d => d.parameters.length) = some 2 := by decide +kernel
theorem inX5_element : Cond.instanceMethod yX5_element ∈ q_tbl ∧ Cond.selects yX5_element.cls yX5_element yX5_element ∈ q_tbl := ⟨(q_tb6 165 rfl rfl), (q_tb6 166 rfl rfl)⟩
theorem calX5_fee : q_cal yX5_fee cX5_fee 3 (some .int) := ⟨(q_tb1 6 rfl rfl), (q_tb6 75 rfl rfl), by decide +kernel, by decide +kernel⟩
theorem dnX5_fee : (parseMethodDescriptor yX5_fee.desc).map (fun d => d.parameters.length) = some 2 := by decide +kernel
theorem inX5_fee : Cond.instanceMethod yX5_fee ∈ q_tbl ∧ Cond.selects yX5_fee.cls yX5_fee yX5_fee ∈ q_tbl := ⟨(q_tb6 73 rfl rfl), (q_tb6 74 rfl rfl)⟩
theorem calX5_fits : q_cal yX5_fits cX5_fits 3 (some .int) := ⟨(q_tb1 6 rfl rfl), (q_tb5 188 rfl rfl), by decide +kernel, by decide +kernel⟩
theorem dnX5_fits : (parseMethodDescriptor yX5_fits.desc).map (fun d => d.parameters.length) = some 2 := by decide +kernel
theorem inX5_fits : Cond.instanceMethod yX5_fits ∈ q_tbl ∧ Cond.selects yX5_fits.cls yX5_fits yX5_fits ∈ q_tbl := ⟨(q_tb5 186 rfl rfl), (q_tb5 187 rfl rfl)⟩
theorem calX5_fitsIn : q_cal yX5_fitsIn cX5_fitsIn 3 (some .boolean) := ⟨(q_tb1 6 rfl rfl), (q_tb5 95 rfl rfl), by decide +kernel, by decide +kernel⟩
theorem dnX5_fitsIn : (parseMethodDescriptor yX5_fitsIn.desc).map (fun d => d.parameters.length) = some 2 := by decide +kernel
theorem inX5_fitsIn : Cond.instanceMethod yX5_fitsIn ∈ q_tbl ∧ Cond.selects yX5_fitsIn.cls yX5_fitsIn yX5_fitsIn ∈ q_tbl := ⟨(q_tb5 94 rfl rfl), (q_sl 31 rfl rfl)⟩
theorem calX5_forged : q_cal yX5_forged cX5_forged 2 (some .int) := ⟨(q_tb1 6 rfl rfl), (q_tb6 107 rfl rfl), by decide +kernel, by decide +kernel⟩
theorem dnX5_forged : (parseMethodDescriptor yX5_forged.desc).map (fun d => d.parameters.length) = some 1 := by decide +kernel
theorem inX5_forged : Cond.instanceMethod yX5_forged ∈ q_tbl ∧ Cond.selects yX5_forged.cls yX5_forged yX5_forged ∈ q_tbl := ⟨(q_tb6 105 rfl rfl), (q_tb6 106 rfl rfl)⟩
theorem calX5_forgedIn : q_cal yX5_forgedIn cX5_forgedIn 8 (some .int) := ⟨(q_tb1 6 rfl rfl), (q_tb6 115 rfl rfl), by decide +kernel, by decide +kernel⟩
theorem dnX5_forgedIn : (parseMethodDescriptor yX5_forgedIn.desc).map (fun d => d.parameters.length) = some 1 := by decide +kernel
theorem inX5_forgedIn : Cond.instanceMethod yX5_forgedIn ∈ q_tbl ∧ Cond.selects yX5_forgedIn.cls yX5_forgedIn yX5_forgedIn ∈ q_tbl := ⟨(q_tb6 114 rfl rfl), (q_sl 59 rfl rfl)⟩
theorem calX5_friday : q_cal yX5_friday cX5_friday 7 (some .int) := ⟨(q_tb1 6 rfl rfl), (q_tb6 99 rfl rfl), by decide +kernel, by decide +kernel⟩
theorem dnX5_friday : (parseMethodDescriptor yX5_friday.desc).map (fun d => d.parameters.length) = some 1 := by decide +kernel
theorem inX5_friday : Cond.instanceMethod yX5_friday ∈ q_tbl ∧ Cond.selects yX5_friday.cls yX5_friday yX5_friday ∈ q_tbl := ⟨(q_tb6 97 rfl rfl), (q_tb6 98 rfl rfl)⟩
theorem calX5_givesOf : q_cal yX5_givesOf cX5_givesOf 2 (some .int) := ⟨(q_tb1 6 rfl rfl), (q_tb5 102 rfl rfl), by decide +kernel, by decide +kernel⟩
theorem dnX5_givesOf : (parseMethodDescriptor yX5_givesOf.desc).map (fun d => d.parameters.length) = some 1 := by decide +kernel
theorem inX5_givesOf : Cond.instanceMethod yX5_givesOf ∈ q_tbl ∧ Cond.selects yX5_givesOf.cls yX5_givesOf yX5_givesOf ∈ q_tbl := ⟨(q_tb5 101 rfl rfl), (q_sl 32 rfl rfl)⟩
theorem calX5_greater : q_cal yX5_greater cX5_greater 2 (some .int) := ⟨(q_tb1 6 rfl rfl), (q_tb5 219 rfl rfl), by decide +kernel, by decide +kernel⟩
theorem dnX5_greater : (parseMethodDescriptor yX5_greater.desc).map (fun d => d.parameters.length) = some 2 := by decide +kernel
theorem inX5_greater : Cond.static yX5_greater ∈ q_tbl := (q_tb5 218 rfl rfl)
theorem calX5_grown : q_cal yX5_grown cX5_grown 12 (some .long) := ⟨(q_tb1 6 rfl rfl), (q_tb6 15 rfl rfl), by decide +kernel, by decide +kernel⟩
theorem dnX5_grown : (parseMethodDescriptor yX5_grown.desc).map (fun d => d.parameters.length) = some 1 := by decide +kernel
theorem inX5_grown : Cond.instanceMethod yX5_grown ∈ q_tbl ∧ Cond.selects yX5_grown.cls yX5_grown yX5_grown ∈ q_tbl := ⟨(q_tb6 13 rfl rfl), (q_tb6 14 rfl rfl)⟩
theorem calX5_hadAll : q_cal yX5_hadAll cX5_hadAll 6 (some .boolean) := ⟨(q_tb1 6 rfl rfl), (q_tb6 124 rfl rfl), by decide +kernel, by decide +kernel⟩
theorem dnX5_hadAll : (parseMethodDescriptor yX5_hadAll.desc).map (fun d => d.parameters.length) = some 3 := by decide +kernel
theorem inX5_hadAll : Cond.instanceMethod yX5_hadAll ∈ q_tbl ∧ Cond.selects yX5_hadAll.cls yX5_hadAll yX5_hadAll ∈ q_tbl := ⟨(q_tb6 123 rfl rfl), (q_sl 60 rfl rfl)⟩
theorem calX5_hasBit : q_cal yX5_hasBit cX5_hasBit 2 (some .boolean) := ⟨(q_tb1 6 rfl rfl), (q_tb5 212 rfl rfl), by decide +kernel, by decide +kernel⟩
theorem dnX5_hasBit : (parseMethodDescriptor yX5_hasBit.desc).map (fun d => d.parameters.length) = some 2 := by decide +kernel
theorem inX5_hasBit : Cond.static yX5_hasBit ∈ q_tbl := (q_tb5 211 rfl rfl)
theorem calX5_here : q_cal yX5_here cX5_here 1 (some .int) := ⟨(q_tb1 6 rfl rfl), (q_tb5 45 rfl rfl), by decide +kernel, by decide +kernel⟩
theorem dnX5_here : (parseMethodDescriptor yX5_here.desc).map (fun d => d.parameters.length) = some 0 := by decide +kernel
theorem inX5_here : Cond.instanceMethod yX5_here ∈ q_tbl ∧ Cond.selects yX5_here.cls yX5_here yX5_here ∈ q_tbl := ⟨(q_tb5 44 rfl rfl), (q_sl 19 rfl rfl)⟩
theorem calX5_hire : q_cal yX5_hire cX5_hire 3 none := ⟨(q_tb1 6 rfl rfl), (q_tb5 113 rfl rfl), by decide +kernel, by decide +kernel⟩
theorem dnX5_hire : (parseMethodDescriptor yX5_hire.desc).map (fun d => d.parameters.length) = some 2 := by decide +kernel
theorem inX5_hire : Cond.instanceMethod yX5_hire ∈ q_tbl ∧ Cond.selects yX5_hire.cls yX5_hire yX5_hire ∈ q_tbl := ⟨(q_tb5 112 rfl rfl), (q_sl 34 rfl rfl)⟩
theorem calX5_hires : q_cal yX5_hires cX5_hires 3 (some .int) := ⟨(q_tb1 6 rfl rfl), (q_tb5 176 rfl rfl), by decide +kernel, by decide +kernel⟩
theorem dnX5_hires : (parseMethodDescriptor yX5_hires.desc).map (fun d => d.parameters.length) = some 2 := by decide +kernel
theorem inX5_hires : Cond.instanceMethod yX5_hires ∈ q_tbl ∧ Cond.selects yX5_hires.cls yX5_hires yX5_hires ∈ q_tbl := ⟨(q_tb5 174 rfl rfl), (q_tb5 175 rfl rfl)⟩
theorem calX5_hiresLeast : q_cal yX5_hiresLeast cX5_hiresLeast 3 (some .boolean) := ⟨(q_tb1 6 rfl rfl), (q_tb6 143 rfl rfl), by decide +kernel, by decide +kernel⟩
theorem dnX5_hiresLeast : (parseMethodDescriptor yX5_hiresLeast.desc).map (fun d => d.parameters.length) = some 1 := by decide +kernel
theorem inX5_hiresLeast : Cond.instanceMethod yX5_hiresLeast ∈ q_tbl ∧ Cond.selects yX5_hiresLeast.cls yX5_hiresLeast yX5_hiresLeast ∈ q_tbl := ⟨(q_tb6 142 rfl rfl), (q_sl 62 rfl rfl)⟩
theorem calX5_image : q_cal yX5_image cX5_image 1 (some .int) := ⟨(q_tb1 6 rfl rfl), (q_tb5 141 rfl rfl), by decide +kernel, by decide +kernel⟩
theorem dnX5_image : (parseMethodDescriptor yX5_image.desc).map (fun d => d.parameters.length) = some 0 := by decide +kernel
theorem inX5_image : Cond.instanceMethod yX5_image ∈ q_tbl ∧ Cond.selects yX5_image.cls yX5_image yX5_image ∈ q_tbl := ⟨(q_tb5 139 rfl rfl), (q_tb5 140 rfl rfl)⟩
theorem calX5_in : q_cal yX5_in cX5_in 6 (some .boolean) := ⟨(q_tb1 6 rfl rfl), (q_tb5 37 rfl rfl), by decide +kernel, by decide +kernel⟩
theorem dnX5_in : (parseMethodDescriptor yX5_in.desc).map (fun d => d.parameters.length) = some 3 := by decide +kernel
theorem inX5_in : Cond.static yX5_in ∈ q_tbl := (q_tb5 36 rfl rfl)
theorem calX5_inState : q_cal yX5_inState cX5_inState 4 (some .int) := ⟨(q_tb1 6 rfl rfl), (q_tb5 231 rfl rfl), by decide +kernel, by decide +kernel⟩
theorem dnX5_inState : (parseMethodDescriptor yX5_inState.desc).map (fun d => d.parameters.length) = some 1 := by decide +kernel
theorem inX5_inState : Cond.instanceMethod yX5_inState ∈ q_tbl ∧ Cond.selects yX5_inState.cls yX5_inState yX5_inState ∈ q_tbl := ⟨(q_tb5 230 rfl rfl), (q_sl 49 rfl rfl)⟩
theorem calX5_init : q_cal yX5_init cX5_init 1 none := ⟨(q_tb1 6 rfl rfl), (q_tb4 126 rfl rfl), by decide +kernel, by decide +kernel⟩
theorem dnX5_init : (parseMethodDescriptor yX5_init.desc).map (fun d => d.parameters.length) = some 0 := by decide +kernel
theorem inX5_init : Cond.instanceMethod yX5_init ∈ q_tbl := (q_tb4 125 rfl rfl)
theorem calX5_isBooking : q_cal yX5_isBooking cX5_isBooking 2 (some .boolean) := ⟨(q_tb1 6 rfl rfl), (q_tb5 87 rfl rfl), by decide +kernel, by decide +kernel⟩
theorem dnX5_isBooking : (parseMethodDescriptor yX5_isBooking.desc).map (fun d => d.parameters.length) = some 1 := by decide +kernel
theorem inX5_isBooking : Cond.instanceMethod yX5_isBooking ∈ q_tbl ∧ Cond.selects yX5_isBooking.cls yX5_isBooking yX5_isBooking ∈ q_tbl := ⟨(q_tb5 86 rfl rfl), (q_sl 29 rfl rfl)⟩
theorem calX5_isOpen : q_cal yX5_isOpen cX5_isOpen 2 (some .boolean) := ⟨(q_tb1 6 rfl rfl), (q_tb5 209 rfl rfl), by decide +kernel, by decide +kernel⟩
theorem dnX5_isOpen : (parseMethodDescriptor yX5_isOpen.desc).map (fun d => d.parameters.length) = some 1 := by decide +kernel
theorem inX5_isOpen : Cond.instanceMethod yX5_isOpen ∈ q_tbl ∧ Cond.selects yX5_isOpen.cls yX5_isOpen yX5_isOpen ∈ q_tbl := ⟨(q_tb5 208 rfl rfl), (q_sl 46 rfl rfl)⟩
theorem calX5_isReady : q_cal yX5_isReady cX5_isReady 9 (some .boolean) := ⟨(q_tb1 6 rfl rfl), (q_tb6 71 rfl rfl), by decide +kernel, by decide +kernel⟩
theorem dnX5_isReady : (parseMethodDescriptor yX5_isReady.desc).map (fun d => d.parameters.length) = some 2 := by decide +kernel
theorem inX5_isReady : Cond.instanceMethod yX5_isReady ∈ q_tbl ∧ Cond.selects yX5_isReady.cls yX5_isReady yX5_isReady ∈ q_tbl := ⟨(q_tb6 70 rfl rfl), (q_sl 55 rfl rfl)⟩
theorem calX5_isSuit : q_cal yX5_isSuit cX5_isSuit 2 (some .boolean) := ⟨(q_tb1 6 rfl rfl), (q_tb5 83 rfl rfl), by decide +kernel, by decide +kernel⟩
theorem dnX5_isSuit : (parseMethodDescriptor yX5_isSuit.desc).map (fun d => d.parameters.length) = some 1 := by decide +kernel
theorem inX5_isSuit : Cond.instanceMethod yX5_isSuit ∈ q_tbl ∧ Cond.selects yX5_isSuit.cls yX5_isSuit yX5_isSuit ∈ q_tbl := ⟨(q_tb5 82 rfl rfl), (q_sl 28 rfl rfl)⟩
theorem calX5_judge : q_cal yX5_judge cX5_judge 8 (some .int) := ⟨(q_tb1 6 rfl rfl), (q_tb6 128 rfl rfl), by decide +kernel, by decide +kernel⟩
theorem dnX5_judge : (parseMethodDescriptor yX5_judge.desc).map (fun d => d.parameters.length) = some 1 := by decide +kernel
theorem inX5_judge : Cond.instanceMethod yX5_judge ∈ q_tbl ∧ Cond.selects yX5_judge.cls yX5_judge yX5_judge ∈ q_tbl := ⟨(q_tb6 126 rfl rfl), (q_tb6 127 rfl rfl)⟩
theorem calX5_keep : q_cal yX5_keep cX5_keep 5 (some .int) := ⟨(q_tb1 6 rfl rfl), (q_tb6 151 rfl rfl), by decide +kernel, by decide +kernel⟩
theorem dnX5_keep : (parseMethodDescriptor yX5_keep.desc).map (fun d => d.parameters.length) = some 4 := by decide +kernel
theorem inX5_keep : Cond.instanceMethod yX5_keep ∈ q_tbl ∧ Cond.selects yX5_keep.cls yX5_keep yX5_keep ∈ q_tbl := ⟨(q_tb6 149 rfl rfl), (q_tb6 150 rfl rfl)⟩
theorem calX5_lastsOf : q_cal yX5_lastsOf cX5_lastsOf 2 (some .int) := ⟨(q_tb1 6 rfl rfl), (q_tb5 153 rfl rfl), by decide +kernel, by decide +kernel⟩
theorem dnX5_lastsOf : (parseMethodDescriptor yX5_lastsOf.desc).map (fun d => d.parameters.length) = some 1 := by decide +kernel
theorem inX5_lastsOf : Cond.instanceMethod yX5_lastsOf ∈ q_tbl ∧ Cond.selects yX5_lastsOf.cls yX5_lastsOf yX5_lastsOf ∈ q_tbl := ⟨(q_tb5 152 rfl rfl), (q_sl 41 rfl rfl)⟩
theorem calX5_layFirst : q_cal yX5_layFirst cX5_layFirst 6 (some .int) := ⟨(q_tb1 6 rfl rfl), (q_tb5 223 rfl rfl), by decide +kernel, by decide +kernel⟩
theorem dnX5_layFirst : (parseMethodDescriptor yX5_layFirst.desc).map (fun d => d.parameters.length) = some 0 := by decide +kernel
theorem inX5_layFirst : Cond.instanceMethod yX5_layFirst ∈ q_tbl ∧ Cond.selects yX5_layFirst.cls yX5_layFirst yX5_layFirst ∈ q_tbl := ⟨(q_tb5 222 rfl rfl), (q_sl 48 rfl rfl)⟩
theorem calX5_layMost : q_cal yX5_layMost cX5_layMost 3 (some .int) := ⟨(q_tb1 6 rfl rfl), (q_tb5 201 rfl rfl), by decide +kernel, by decide +kernel⟩
theorem dnX5_layMost : (parseMethodDescriptor yX5_layMost.desc).map (fun d => d.parameters.length) = some 0 := by decide +kernel
theorem inX5_layMost : Cond.instanceMethod yX5_layMost ∈ q_tbl ∧ Cond.selects yX5_layMost.cls yX5_layMost yX5_layMost ∈ q_tbl := ⟨(q_tb5 200 rfl rfl), (q_sl 44 rfl rfl)⟩
theorem calX5_leftOver : q_cal yX5_leftOver cX5_leftOver 1 (some .int) := ⟨(q_tb1 6 rfl rfl), (q_tb5 227 rfl rfl), by decide +kernel, by decide +kernel⟩
theorem dnX5_leftOver : (parseMethodDescriptor yX5_leftOver.desc).map (fun d => d.parameters.length) = some 0 := by decide +kernel
theorem inX5_leftOver : Cond.instanceMethod yX5_leftOver ∈ q_tbl ∧ Cond.selects yX5_leftOver.cls yX5_leftOver yX5_leftOver ∈ q_tbl := ⟨(q_tb5 225 rfl rfl), (q_tb5 226 rfl rfl)⟩
theorem calX5_mayHave : q_cal yX5_mayHave cX5_mayHave 4 (some .boolean) := ⟨(q_tb1 6 rfl rfl), (q_tb5 216 rfl rfl), by decide +kernel, by decide +kernel⟩
theorem dnX5_mayHave : (parseMethodDescriptor yX5_mayHave.desc).map (fun d => d.parameters.length) = some 2 := by decide +kernel
theorem inX5_mayHave : Cond.instanceMethod yX5_mayHave ∈ q_tbl ∧ Cond.selects yX5_mayHave.cls yX5_mayHave yX5_mayHave ∈ q_tbl := ⟨(q_tb5 215 rfl rfl), (q_sl 47 rfl rfl)⟩
theorem calX5_mostBy : q_cal yX5_mostBy cX5_mostBy 5 (some .int) := ⟨(q_tb1 6 rfl rfl), (q_tb5 205 rfl rfl), by decide +kernel, by decide +kernel⟩
theorem dnX5_mostBy : (parseMethodDescriptor yX5_mostBy.desc).map (fun d => d.parameters.length) = some 2 := by decide +kernel
theorem inX5_mostBy : Cond.instanceMethod yX5_mostBy ∈ q_tbl ∧ Cond.selects yX5_mostBy.cls yX5_mostBy yX5_mostBy ∈ q_tbl := ⟨(q_tb5 204 rfl rfl), (q_sl 45 rfl rfl)⟩
theorem calX5_narrowed : q_cal yX5_narrowed cX5_narrowed 2 (some .long) := ⟨(q_tb1 6 rfl rfl), (q_tb6 163 rfl rfl), by decide +kernel, by decide +kernel⟩
theorem dnX5_narrowed : (parseMethodDescriptor yX5_narrowed.desc).map (fun d => d.parameters.length) = some 2 := by decide +kernel
theorem inX5_narrowed : Cond.static yX5_narrowed ∈ q_tbl := (q_tb6 162 rfl rfl)
theorem calX5_oneMore : q_cal yX5_oneMore cX5_oneMore 5 (some .int) := ⟨(q_tb1 6 rfl rfl), (q_tb6 7 rfl rfl), by decide +kernel, by decide +kernel⟩
theorem dnX5_oneMore : (parseMethodDescriptor yX5_oneMore.desc).map (fun d => d.parameters.length) = some 0 := by decide +kernel
theorem inX5_oneMore : Cond.instanceMethod yX5_oneMore ∈ q_tbl ∧ Cond.selects yX5_oneMore.cls yX5_oneMore yX5_oneMore ∈ q_tbl := ⟨(q_tb6 5 rfl rfl), (q_tb6 6 rfl rfl)⟩
theorem calX5_onesOf : q_cal yX5_onesOf cX5_onesOf 3 (some .int) := ⟨(q_tb1 6 rfl rfl), (q_tb6 19 rfl rfl), by decide +kernel, by decide +kernel⟩
theorem dnX5_onesOf : (parseMethodDescriptor yX5_onesOf.desc).map (fun d => d.parameters.length) = some 1 := by decide +kernel
theorem inX5_onesOf : Cond.static yX5_onesOf ∈ q_tbl := (q_tb6 18 rfl rfl)
theorem calX5_open : q_cal yX5_open cX5_open 1 none := ⟨(q_tb1 6 rfl rfl), (q_tb5 59 rfl rfl), by decide +kernel, by decide +kernel⟩
theorem dnX5_open : (parseMethodDescriptor yX5_open.desc).map (fun d => d.parameters.length) = some 0 := by decide +kernel
theorem inX5_open : Cond.instanceMethod yX5_open ∈ q_tbl ∧ Cond.selects yX5_open.cls yX5_open yX5_open ∈ q_tbl := ⟨(q_tb5 58 rfl rfl), (q_sl 22 rfl rfl)⟩
theorem calX5_paidBy : q_cal yX5_paidBy cX5_paidBy 4 (some .int) := ⟨(q_tb1 6 rfl rfl), (q_tb6 79 rfl rfl), by decide +kernel, by decide +kernel⟩
theorem dnX5_paidBy : (parseMethodDescriptor yX5_paidBy.desc).map (fun d => d.parameters.length) = some 1 := by decide +kernel
theorem inX5_paidBy : Cond.instanceMethod yX5_paidBy ∈ q_tbl ∧ Cond.selects yX5_paidBy.cls yX5_paidBy yX5_paidBy ∈ q_tbl := ⟨(q_tb6 78 rfl rfl), (q_sl 56 rfl rfl)⟩
theorem calX5_partOf : q_cal yX5_partOf cX5_partOf 7 (some .long) := ⟨(q_tb1 6 rfl rfl), (q_tb6 23 rfl rfl), by decide +kernel, by decide +kernel⟩
theorem dnX5_partOf : (parseMethodDescriptor yX5_partOf.desc).map (fun d => d.parameters.length) = some 3 := by decide +kernel
theorem inX5_partOf : Cond.static yX5_partOf ∈ q_tbl := (q_tb6 22 rfl rfl)
theorem calX5_priceBy : q_cal yX5_priceBy cX5_priceBy 2 (some .int) := ⟨(q_tb1 6 rfl rfl), (q_tb5 109 rfl rfl), by decide +kernel, by decide +kernel⟩
theorem dnX5_priceBy : (parseMethodDescriptor yX5_priceBy.desc).map (fun d => d.parameters.length) = some 2 := by decide +kernel
theorem inX5_priceBy : Cond.static yX5_priceBy ∈ q_tbl := (q_tb5 108 rfl rfl)
theorem calX5_priceOf : q_cal yX5_priceOf cX5_priceOf 2 (some .int) := ⟨(q_tb1 6 rfl rfl), (q_tb5 106 rfl rfl), by decide +kernel, by decide +kernel⟩
theorem dnX5_priceOf : (parseMethodDescriptor yX5_priceOf.desc).map (fun d => d.parameters.length) = some 1 := by decide +kernel
theorem inX5_priceOf : Cond.instanceMethod yX5_priceOf ∈ q_tbl ∧ Cond.selects yX5_priceOf.cls yX5_priceOf yX5_priceOf ∈ q_tbl := ⟨(q_tb5 105 rfl rfl), (q_sl 33 rfl rfl)⟩
theorem calX5_put : q_cal yX5_put cX5_put 5 (some .int) := ⟨(q_tb1 6 rfl rfl), (q_tb6 160 rfl rfl), by decide +kernel, by decide +kernel⟩
theorem dnX5_put : (parseMethodDescriptor yX5_put.desc).map (fun d => d.parameters.length) = some 3 := by decide +kernel
theorem inX5_put : Cond.instanceMethod yX5_put ∈ q_tbl ∧ Cond.selects yX5_put.cls yX5_put yX5_put ∈ q_tbl := ⟨(q_tb6 158 rfl rfl), (q_tb6 159 rfl rfl)⟩
theorem calX5_readDigits : q_cal yX5_readDigits cX5_readDigits 4 (some .int) := ⟨(q_tb1 6 rfl rfl), (q_tb5 53 rfl rfl), by decide +kernel, by decide +kernel⟩
theorem dnX5_readDigits : (parseMethodDescriptor yX5_readDigits.desc).map (fun d => d.parameters.length) = some 1 := by decide +kernel
theorem inX5_readDigits : Cond.instanceMethod yX5_readDigits ∈ q_tbl ∧ Cond.selects yX5_readDigits.cls yX5_readDigits yX5_readDigits ∈ q_tbl := ⟨(q_tb5 52 rfl rfl), (q_sl 21 rfl rfl)⟩
theorem calX5_readNumbers : q_cal yX5_readNumbers cX5_readNumbers 4 none := ⟨(q_tb1 6 rfl rfl), (q_tb5 49 rfl rfl), by decide +kernel, by decide +kernel⟩
theorem dnX5_readNumbers : (parseMethodDescriptor yX5_readNumbers.desc).map (fun d => d.parameters.length) = some 2 := by decide +kernel
theorem inX5_readNumbers : Cond.instanceMethod yX5_readNumbers ∈ q_tbl ∧ Cond.selects yX5_readNumbers.cls yX5_readNumbers yX5_readNumbers ∈ q_tbl := ⟨(q_tb5 48 rfl rfl), (q_sl 20 rfl rfl)⟩
theorem calX5_readStatement : q_cal yX5_readStatement cX5_readStatement 3 none := ⟨(q_tb1 6 rfl rfl), (q_tb5 41 rfl rfl), by decide +kernel, by decide +kernel⟩
theorem dnX5_readStatement : (parseMethodDescriptor yX5_readStatement.desc).map (fun d => d.parameters.length) = some 0 := by decide +kernel
theorem inX5_readStatement : Cond.instanceMethod yX5_readStatement ∈ q_tbl ∧ Cond.selects yX5_readStatement.cls yX5_readStatement yX5_readStatement ∈ q_tbl := ⟨(q_tb5 40 rfl rfl), (q_sl 18 rfl rfl)⟩
theorem calX5_ready : q_cal yX5_ready cX5_ready 8 (some .int) := ⟨(q_tb1 6 rfl rfl), (q_tb6 50 rfl rfl), by decide +kernel, by decide +kernel⟩
theorem dnX5_ready : (parseMethodDescriptor yX5_ready.desc).map (fun d => d.parameters.length) = some 2 := by decide +kernel
theorem inX5_ready : Cond.instanceMethod yX5_ready ∈ q_tbl ∧ Cond.selects yX5_ready.cls yX5_ready yX5_ready ∈ q_tbl := ⟨(q_tb6 48 rfl rfl), (q_tb6 49 rfl rfl)⟩
theorem calX5_refuse : q_cal yX5_refuse cX5_refuse 4 (some .int) := ⟨(q_tb1 6 rfl rfl), (q_tb6 34 rfl rfl), by decide +kernel, by decide +kernel⟩
theorem dnX5_refuse : (parseMethodDescriptor yX5_refuse.desc).map (fun d => d.parameters.length) = some 0 := by decide +kernel
theorem inX5_refuse : Cond.instanceMethod yX5_refuse ∈ q_tbl ∧ Cond.selects yX5_refuse.cls yX5_refuse yX5_refuse ∈ q_tbl := ⟨(q_tb6 32 rfl rfl), (q_tb6 33 rfl rfl)⟩
theorem calX5_restore : q_cal yX5_restore cX5_restore 1 (some .int) := ⟨(q_tb1 6 rfl rfl), (q_tb5 145 rfl rfl), by decide +kernel, by decide +kernel⟩
theorem dnX5_restore : (parseMethodDescriptor yX5_restore.desc).map (fun d => d.parameters.length) = some 0 := by decide +kernel
theorem inX5_restore : Cond.instanceMethod yX5_restore ∈ q_tbl ∧ Cond.selects yX5_restore.cls yX5_restore yX5_restore ∈ q_tbl := ⟨(q_tb5 143 rfl rfl), (q_tb5 144 rfl rfl)⟩
theorem calX5_returns : q_cal yX5_returns cX5_returns 3 (some .int) := ⟨(q_tb1 6 rfl rfl), (q_tb5 180 rfl rfl), by decide +kernel, by decide +kernel⟩
theorem dnX5_returns : (parseMethodDescriptor yX5_returns.desc).map (fun d => d.parameters.length) = some 1 := by decide +kernel
theorem inX5_returns : Cond.instanceMethod yX5_returns ∈ q_tbl ∧ Cond.selects yX5_returns.cls yX5_returns yX5_returns ∈ q_tbl := ⟨(q_tb5 178 rfl rfl), (q_tb5 179 rfl rfl)⟩
theorem calX5_row : q_cal yX5_row cX5_row 5 (some .int) := ⟨(q_tb1 6 rfl rfl), (q_tb6 156 rfl rfl), by decide +kernel, by decide +kernel⟩
theorem dnX5_row : (parseMethodDescriptor yX5_row.desc).map (fun d => d.parameters.length) = some 3 := by decide +kernel
theorem inX5_row : Cond.instanceMethod yX5_row ∈ q_tbl ∧ Cond.selects yX5_row.cls yX5_row yX5_row ∈ q_tbl := ⟨(q_tb6 154 rfl rfl), (q_tb6 155 rfl rfl)⟩
theorem calX5_sell : q_cal yX5_sell cX5_sell 6 (some .int) := ⟨(q_tb1 6 rfl rfl), (q_tb6 42 rfl rfl), by decide +kernel, by decide +kernel⟩
theorem dnX5_sell : (parseMethodDescriptor yX5_sell.desc).map (fun d => d.parameters.length) = some 0 := by decide +kernel
theorem inX5_sell : Cond.instanceMethod yX5_sell ∈ q_tbl ∧ Cond.selects yX5_sell.cls yX5_sell yX5_sell ∈ q_tbl := ⟨(q_tb6 40 rfl rfl), (q_tb6 41 rfl rfl)⟩
theorem calX5_served : q_cal yX5_served cX5_served 2 (some .int) := ⟨(q_tb1 6 rfl rfl), (q_tb5 192 rfl rfl), by decide +kernel, by decide +kernel⟩
theorem dnX5_served : (parseMethodDescriptor yX5_served.desc).map (fun d => d.parameters.length) = some 1 := by decide +kernel
theorem inX5_served : Cond.instanceMethod yX5_served ∈ q_tbl ∧ Cond.selects yX5_served.cls yX5_served yX5_served ∈ q_tbl := ⟨(q_tb5 190 rfl rfl), (q_tb5 191 rfl rfl)⟩
theorem calX5_servedNow : q_cal yX5_servedNow cX5_servedNow 1 (some .int) := ⟨(q_tb1 6 rfl rfl), (q_tb5 197 rfl rfl), by decide +kernel, by decide +kernel⟩
theorem dnX5_servedNow : (parseMethodDescriptor yX5_servedNow.desc).map (fun d => d.parameters.length) = some 0 := by decide +kernel
theorem inX5_servedNow : Cond.instanceMethod yX5_servedNow ∈ q_tbl ∧ Cond.selects yX5_servedNow.cls yX5_servedNow yX5_servedNow ∈ q_tbl := ⟨(q_tb5 196 rfl rfl), (q_sl 43 rfl rfl)⟩
theorem calX5_shines : q_cal yX5_shines cX5_shines 3 (some .int) := ⟨(q_tb1 6 rfl rfl), (q_tb6 46 rfl rfl), by decide +kernel, by decide +kernel⟩
theorem dnX5_shines : (parseMethodDescriptor yX5_shines.desc).map (fun d => d.parameters.length) = some 0 := by decide +kernel
theorem inX5_shines : Cond.instanceMethod yX5_shines ∈ q_tbl ∧ Cond.selects yX5_shines.cls yX5_shines yX5_shines ∈ q_tbl := ⟨(q_tb6 44 rfl rfl), (q_tb6 45 rfl rfl)⟩
theorem calX5_shop : q_cal yX5_shop cX5_shop 4 (some .int) := ⟨(q_tb1 6 rfl rfl), (q_tb5 29 rfl rfl), by decide +kernel, by decide +kernel⟩
theorem dnX5_shop : (parseMethodDescriptor yX5_shop.desc).map (fun d => d.parameters.length) = some 1 := by decide +kernel
theorem inX5_shop : Cond.instanceMethod yX5_shop ∈ q_tbl ∧ Cond.selects yX5_shop.cls yX5_shop yX5_shop ∈ q_tbl := ⟨(q_tb5 27 rfl rfl), (q_tb5 28 rfl rfl)⟩
theorem calX5_skipped : q_cal yX5_skipped cX5_skipped 2 (some .long) := ⟨(q_tb1 6 rfl rfl), (q_tb6 59 rfl rfl), by decide +kernel, by decide +kernel⟩
theorem dnX5_skipped : (parseMethodDescriptor yX5_skipped.desc).map (fun d => d.parameters.length) = some 1 := by decide +kernel
theorem inX5_skipped : Cond.instanceMethod yX5_skipped ∈ q_tbl ∧ Cond.selects yX5_skipped.cls yX5_skipped yX5_skipped ∈ q_tbl := ⟨(q_tb6 58 rfl rfl), (q_sl 53 rfl rfl)⟩
theorem calX5_stained : q_cal yX5_stained cX5_stained 8 (some .int) := ⟨(q_tb1 6 rfl rfl), (q_tb6 119 rfl rfl), by decide +kernel, by decide +kernel⟩
theorem dnX5_stained : (parseMethodDescriptor yX5_stained.desc).map (fun d => d.parameters.length) = some 3 := by decide +kernel
theorem inX5_stained : Cond.instanceMethod yX5_stained ∈ q_tbl ∧ Cond.selects yX5_stained.cls yX5_stained yX5_stained ∈ q_tbl := ⟨(q_tb6 117 rfl rfl), (q_tb6 118 rfl rfl)⟩
theorem calX5_suit : q_cal yX5_suit cX5_suit 3 (some .int) := ⟨(q_tb1 6 rfl rfl), (q_tb5 149 rfl rfl), by decide +kernel, by decide +kernel⟩
theorem dnX5_suit : (parseMethodDescriptor yX5_suit.desc).map (fun d => d.parameters.length) = some 2 := by decide +kernel
theorem inX5_suit : Cond.instanceMethod yX5_suit ∈ q_tbl ∧ Cond.selects yX5_suit.cls yX5_suit yX5_suit ∈ q_tbl := ⟨(q_tb5 147 rfl rfl), (q_tb5 148 rfl rfl)⟩
theorem calX5_suitComes : q_cal yX5_suitComes cX5_suitComes 6 (some .boolean) := ⟨(q_tb1 6 rfl rfl), (q_tb5 75 rfl rfl), by decide +kernel, by decide +kernel⟩
theorem dnX5_suitComes : (parseMethodDescriptor yX5_suitComes.desc).map (fun d => d.parameters.length) = some 4 := by decide +kernel
theorem inX5_suitComes : Cond.instanceMethod yX5_suitComes ∈ q_tbl ∧ Cond.selects yX5_suitComes.cls yX5_suitComes yX5_suitComes ∈ q_tbl := ⟨(q_tb5 74 rfl rfl), (q_sl 26 rfl rfl)⟩
theorem calX5_taxi : q_cal yX5_taxi cX5_taxi 4 (some .int) := ⟨(q_tb1 6 rfl rfl), (q_tb6 95 rfl rfl), by decide +kernel, by decide +kernel⟩
theorem dnX5_taxi : (parseMethodDescriptor yX5_taxi.desc).map (fun d => d.parameters.length) = some 3 := by decide +kernel
theorem inX5_taxi : Cond.instanceMethod yX5_taxi ∈ q_tbl ∧ Cond.selects yX5_taxi.cls yX5_taxi yX5_taxi ∈ q_tbl := ⟨(q_tb6 93 rfl rfl), (q_tb6 94 rfl rfl)⟩
theorem calX5_thrown : q_cal yX5_thrown cX5_thrown 1 (some .int) := ⟨(q_tb1 6 rfl rfl), (q_tb5 25 rfl rfl), by decide +kernel, by decide +kernel⟩
theorem dnX5_thrown : (parseMethodDescriptor yX5_thrown.desc).map (fun d => d.parameters.length) = some 0 := by decide +kernel
theorem inX5_thrown : Cond.instanceMethod yX5_thrown ∈ q_tbl ∧ Cond.selects yX5_thrown.cls yX5_thrown yX5_thrown ∈ q_tbl := ⟨(q_tb5 23 rfl rfl), (q_tb5 24 rfl rfl)⟩
theorem calX5_tight : q_cal yX5_tight cX5_tight 4 (some .int) := ⟨(q_tb1 6 rfl rfl), (q_tb6 103 rfl rfl), by decide +kernel, by decide +kernel⟩
theorem dnX5_tight : (parseMethodDescriptor yX5_tight.desc).map (fun d => d.parameters.length) = some 0 := by decide +kernel
theorem inX5_tight : Cond.instanceMethod yX5_tight ∈ q_tbl ∧ Cond.selects yX5_tight.cls yX5_tight yX5_tight ∈ q_tbl := ⟨(q_tb6 101 rfl rfl), (q_tb6 102 rfl rfl)⟩
theorem calX5_toldHour : q_cal yX5_toldHour cX5_toldHour 3 (some .long) := ⟨(q_tb1 6 rfl rfl), (q_tb6 67 rfl rfl), by decide +kernel, by decide +kernel⟩
theorem dnX5_toldHour : (parseMethodDescriptor yX5_toldHour.desc).map (fun d => d.parameters.length) = some 2 := by decide +kernel
theorem inX5_toldHour : Cond.instanceMethod yX5_toldHour ∈ q_tbl ∧ Cond.selects yX5_toldHour.cls yX5_toldHour yX5_toldHour ∈ q_tbl := ⟨(q_tb6 66 rfl rfl), (q_sl 54 rfl rfl)⟩
theorem calX5_toss : q_cal yX5_toss cX5_toss 4 (some .int) := ⟨(q_tb1 6 rfl rfl), (q_tb6 182 rfl rfl), by decide +kernel, by decide +kernel⟩
theorem dnX5_toss : (parseMethodDescriptor yX5_toss.desc).map (fun d => d.parameters.length) = some 1 := by decide +kernel
theorem inX5_toss : Cond.instanceMethod yX5_toss ∈ q_tbl ∧ Cond.selects yX5_toss.cls yX5_toss yX5_toss ∈ q_tbl := ⟨(q_tb6 180 rfl rfl), (q_tb6 181 rfl rfl)⟩
theorem calX5_weeks : q_cal yX5_weeks cX5_weeks 10 (some .int) := ⟨(q_tb1 6 rfl rfl), (q_tb6 132 rfl rfl), by decide +kernel, by decide +kernel⟩
theorem dnX5_weeks : (parseMethodDescriptor yX5_weeks.desc).map (fun d => d.parameters.length) = some 3 := by decide +kernel
theorem inX5_weeks : Cond.instanceMethod yX5_weeks ∈ q_tbl ∧ Cond.selects yX5_weeks.cls yX5_weeks yX5_weeks ∈ q_tbl := ⟨(q_tb6 130 rfl rfl), (q_tb6 131 rfl rfl)⟩
theorem calX5_wrongHours : q_cal yX5_wrongHours cX5_wrongHours 6 (some .int) := ⟨(q_tb1 6 rfl rfl), (q_tb6 55 rfl rfl), by decide +kernel, by decide +kernel⟩
theorem dnX5_wrongHours : (parseMethodDescriptor yX5_wrongHours.desc).map (fun d => d.parameters.length) = some 1 := by decide +kernel
theorem inX5_wrongHours : Cond.instanceMethod yX5_wrongHours ∈ q_tbl ∧ Cond.selects yX5_wrongHours.cls yX5_wrongHours yX5_wrongHours ∈ q_tbl := ⟨(q_tb6 54 rfl rfl), (q_sl 52 rfl rfl)⟩
theorem calX5_wrongKept : q_cal yX5_wrongKept cX5_wrongKept 2 (some .int) := ⟨(q_tb1 6 rfl rfl), (q_tb5 166 rfl rfl), by decide +kernel, by decide +kernel⟩
theorem dnX5_wrongKept : (parseMethodDescriptor yX5_wrongKept.desc).map (fun d => d.parameters.length) = some 1 := by decide +kernel
theorem inX5_wrongKept : Cond.instanceMethod yX5_wrongKept ∈ q_tbl ∧ Cond.selects yX5_wrongKept.cls yX5_wrongKept yX5_wrongKept ∈ q_tbl := ⟨(q_tb5 165 rfl rfl), (q_sl 42 rfl rfl)⟩
theorem calX5_wrongPairs : q_cal yX5_wrongPairs cX5_wrongPairs 3 (some .int) := ⟨(q_tb1 6 rfl rfl), (q_tb6 111 rfl rfl), by decide +kernel, by decide +kernel⟩
theorem dnX5_wrongPairs : (parseMethodDescriptor yX5_wrongPairs.desc).map (fun d => d.parameters.length) = some 1 := by decide +kernel
theorem inX5_wrongPairs : Cond.instanceMethod yX5_wrongPairs ∈ q_tbl ∧ Cond.selects yX5_wrongPairs.cls yX5_wrongPairs yX5_wrongPairs ∈ q_tbl := ⟨(q_tb6 110 rfl rfl), (q_sl 58 rfl rfl)⟩
theorem calX5_wrongRow : q_cal yX5_wrongRow cX5_wrongRow 2 (some .int) := ⟨(q_tb1 6 rfl rfl), (q_tb5 33 rfl rfl), by decide +kernel, by decide +kernel⟩
theorem dnX5_wrongRow : (parseMethodDescriptor yX5_wrongRow.desc).map (fun d => d.parameters.length) = some 1 := by decide +kernel
theorem inX5_wrongRow : Cond.instanceMethod yX5_wrongRow ∈ q_tbl ∧ Cond.selects yX5_wrongRow.cls yX5_wrongRow yX5_wrongRow ∈ q_tbl := ⟨(q_tb5 32 rfl rfl), (q_sl 17 rfl rfl)⟩
theorem objX0 : Cond.methodLink RX0 3 Lib.objectInit ∈ q_tbl ∧ Cond.instanceMethod Lib.objectInit ∈ q_tbl ∧ Cond.code Lib.objectInit ⟨#[0xb1]⟩ 1 none ∈ q_tbl := ⟨(q_tb1 176 rfl rfl), (q_tb1 22 rfl rfl), (q_tb1 23 rfl rfl)⟩
theorem objX1 : Cond.methodLink RX1 3 Lib.objectInit ∈ q_tbl ∧ Cond.instanceMethod Lib.objectInit ∈ q_tbl ∧ Cond.code Lib.objectInit ⟨#[0xb1]⟩ 1 none ∈ q_tbl := ⟨(q_tb1 145 rfl rfl), (q_tb1 22 rfl rfl), (q_tb1 23 rfl rfl)⟩
theorem objX2 : Cond.methodLink RX2 3 Lib.objectInit ∈ q_tbl ∧ Cond.instanceMethod Lib.objectInit ∈ q_tbl ∧ Cond.code Lib.objectInit ⟨#[0xb1]⟩ 1 none ∈ q_tbl := ⟨(q_tb1 29 rfl rfl), (q_tb1 22 rfl rfl), (q_tb1 23 rfl rfl)⟩
theorem objX3 : Cond.methodLink RX3 3 Lib.objectInit ∈ q_tbl ∧ Cond.instanceMethod Lib.objectInit ∈ q_tbl ∧ Cond.code Lib.objectInit ⟨#[0xb1]⟩ 1 none ∈ q_tbl := ⟨(q_tb1 36 rfl rfl), (q_tb1 22 rfl rfl), (q_tb1 23 rfl rfl)⟩
theorem objX4 : Cond.methodLink RX4 3 Lib.objectInit ∈ q_tbl ∧ Cond.instanceMethod Lib.objectInit ∈ q_tbl ∧ Cond.code Lib.objectInit ⟨#[0xb1]⟩ 1 none ∈ q_tbl := ⟨(q_tb1 21 rfl rfl), (q_tb1 22 rfl rfl), (q_tb1 23 rfl rfl)⟩
theorem objX5 : Cond.methodLink RX5 1 Lib.objectInit ∈ q_tbl ∧ Cond.instanceMethod Lib.objectInit ∈ q_tbl ∧ Cond.code Lib.objectInit ⟨#[0xb1]⟩ 1 none ∈ q_tbl := ⟨(q_tb4 127 rfl rfl), (q_tb1 22 rfl rfl), (q_tb1 23 rfl rfl)⟩
theorem awcX2_9 : Cond.classLink RX2 9 RX3 ∈ q_tbl := (q_tb1 30 rfl rfl)
theorem awcX4_26 : Cond.classLink RX4 26 RX1 ∈ q_tbl := (q_tb1 139 rfl rfl)
theorem awcX4_37 : Cond.classLink RX4 37 RX3 ∈ q_tbl := (q_tb1 169 rfl rfl)
theorem ac_int : Cond.arrayClass .int ∈ q_tbl := (q_tb1 77 rfl rfl)
theorem ac_long : Cond.arrayClass .long ∈ q_tbl := (q_tb5 21 rfl rfl)
theorem nwcX1_19 : Cond.classLink RX1 19 (q_cl 3).1 ∈ q_tbl := (q_tb1 146 rfl rfl)
theorem nwcX2_9 : Cond.classLink RX2 9 (q_cl 3).1 ∈ q_tbl := (q_tb1 30 rfl rfl)
theorem nwcX4_9 : Cond.classLink RX4 9 (q_cl 2).1 ∈ q_tbl := (q_tb1 24 rfl rfl)
theorem nwcX4_26 : Cond.classLink RX4 26 (q_cl 1).1 ∈ q_tbl := (q_tb1 139 rfl rfl)
theorem nwcX4_37 : Cond.classLink RX4 37 (q_cl 3).1 ∈ q_tbl := (q_tb1 169 rfl rfl)
theorem nwcX4_50 : Cond.classLink RX4 50 (q_cl 0).1 ∈ q_tbl := (q_tb1 171 rfl rfl)
theorem nwiX0 : Cond.instantiable (q_cl 0).1 (q_cl 0).2.2 ∈ q_tbl := (q_tb1 172 rfl rfl)
theorem nwnX0 : Cond.initialized (q_cl 0).1 ∈ q_tbl := (q_tb1 5 rfl rfl)
theorem nwiX1 : Cond.instantiable (q_cl 1).1 (q_cl 1).2.2 ∈ q_tbl := (q_tb1 141 rfl rfl)
theorem nwnX1 : Cond.initialized (q_cl 1).1 ∈ q_tbl := (q_tb1 4 rfl rfl)
theorem nwiX2 : Cond.instantiable (q_cl 2).1 (q_cl 2).2.2 ∈ q_tbl := (q_tb1 25 rfl rfl)
theorem nwnX2 : Cond.initialized (q_cl 2).1 ∈ q_tbl := (q_tb1 2 rfl rfl)
theorem nwiX3 : Cond.instantiable (q_cl 3).1 (q_cl 3).2.2 ∈ q_tbl := (q_tb1 32 rfl rfl)
theorem nwnX3 : Cond.initialized (q_cl 3).1 ∈ q_tbl := (q_tb1 3 rfl rfl)
theorem cpwX4_356 : Cond.methodLink RX4 356 arraycopyName ∈ q_tbl ∧ Cond.native arraycopyName ∈ q_tbl ∧ Cond.static arraycopyName ∈ q_tbl ∧ Cond.initialized "java/lang/System" ∈ q_tbl := ⟨(q_tb3 227 rfl rfl), (q_tb3 229 rfl rfl), (q_tb3 228 rfl rfl), (q_tb1 14 rfl rfl)⟩
theorem lkX0_46 : Cond.methodLink RX0 46 yX2_openBookings ∈ q_tbl := (q_tb2 165 rfl rfl)
theorem lkX0_52 : Cond.methodLink RX0 52 yX2_suitsThatAre ∈ q_tbl := (q_tb2 169 rfl rfl)
theorem lkX0_56 : Cond.methodLink RX0 56 yX2_kindOf ∈ q_tbl := (q_tb2 173 rfl rfl)
theorem lkX0_63 : Cond.methodLinkNest RX0 63 yX4_at "BackByNoonOnMonday" ∈ lw_tbl := q_in2 174 rfl
theorem lkX0_67 : Cond.methodLinkNest RX0 67 yX4_hasBit "BackByNoonOnMonday" ∈ lw_tbl := q_in2 175 rfl
theorem lkX0_71 : Cond.methodLink RX0 71 yX2_takers ∈ q_tbl := (q_tb2 178 rfl rfl)
theorem lkX0_74 : Cond.methodLinkNest RX0 74 yX4_set "BackByNoonOnMonday" ∈ lw_tbl := q_in2 185 rfl
theorem lkX0_83 : Cond.methodLinkNest RX0 83 yX4_fill "BackByNoonOnMonday" ∈ lw_tbl := q_in2 186 rfl
theorem lkX0_91 : Cond.methodLink RX0 91 yX2_groupBits ∈ q_tbl := (q_tb2 236 rfl rfl)
theorem lkX0_97 : Cond.methodLink RX0 97 yX0_clear ∈ q_tbl := (q_tb2 191 rfl rfl)
theorem lkX0_100 : Cond.methodLink RX0 100 yX0_seat ∈ q_tbl := (q_tb2 195 rfl rfl)
theorem lkX0_103 : Cond.methodLink RX0 103 yX0_dearest ∈ q_tbl := (q_tb2 224 rfl rfl)
theorem lkX0_106 : Cond.methodLink RX0 106 yX0_most ∈ q_tbl := (q_tb2 207 rfl rfl)
theorem lkX0_110 : Cond.methodLink RX0 110 yX0_leastKeeping ∈ q_tbl := (q_tb2 208 rfl rfl)
theorem lkX0_114 : Cond.methodLink RX0 114 yX0_moveOn ∈ q_tbl := (q_tb2 199 rfl rfl)
theorem lkX1_21 : Cond.methodLink RX1 21 yX3_init ∈ q_tbl := (q_tb1 147 rfl rfl)
theorem lkX1_35 : Cond.methodLinkNest RX1 35 yX4_at "BackByNoonOnMonday" ∈ lw_tbl := q_in2 32 rfl
theorem lkX1_39 : Cond.methodLink RX1 39 yX1_byteAt ∈ q_tbl := (q_tb2 60 rfl rfl)
theorem lkX2_45 : Cond.methodLink RX2 45 yX3_init ∈ q_tbl := (q_tb1 33 rfl rfl)
theorem lkX2_65 : Cond.methodLink RX2 65 yX2_kindOf ∈ q_tbl := (q_tb2 46 rfl rfl)
theorem lkX2_69 : Cond.methodLinkNest RX2 69 yX4_fill "BackByNoonOnMonday" ∈ lw_tbl := q_in2 50 rfl
theorem lkX2_73 : Cond.methodLinkNest RX2 73 yX4_isIn "BackByNoonOnMonday" ∈ lw_tbl := q_in2 86 rfl
theorem lkX2_77 : Cond.methodLinkNest RX2 77 yX4_set "BackByNoonOnMonday" ∈ lw_tbl := q_in2 68 rfl
theorem lkX2_81 : Cond.methodLink RX2 81 yX2_isSuit ∈ q_tbl := (q_tb2 82 rfl rfl)
theorem lkX2_85 : Cond.methodLink RX2 85 yX2_isBooking ∈ q_tbl := (q_tb2 87 rfl rfl)
theorem lkX2_88 : Cond.methodLinkNest RX2 88 yX4_at "BackByNoonOnMonday" ∈ lw_tbl := q_in2 91 rfl
theorem lkX2_92 : Cond.methodLink RX2 92 yX2_canHire ∈ q_tbl := (q_tb2 92 rfl rfl)
theorem lkX2_98 : Cond.methodLink RX2 98 yX2_isRightFor ∈ q_tbl := (q_tb2 96 rfl rfl)
theorem lkX2_102 : Cond.methodLink RX2 102 yX2_holderOf ∈ q_tbl := (q_tb2 108 rfl rfl)
theorem lkX2_109 : Cond.methodLink RX2 109 yX2_reaches ∈ q_tbl := (q_tb2 100 rfl rfl)
theorem lkX2_122 : Cond.methodLinkNest RX2 122 yX4_hasBit "BackByNoonOnMonday" ∈ lw_tbl := q_in3 23 rfl
theorem lkX3_9 : Cond.methodLink RX3 9 yX3_isBlack ∈ q_tbl := (q_tb1 37 rfl rfl)
theorem lkX3_15 : Cond.methodLink RX3 15 yX3_isMixed ∈ q_tbl := (q_tb1 40 rfl rfl)
theorem lkX4_11 : Cond.methodLinkNest RX4 11 yX2_init "BackByNoonOnMonday" ∈ lw_tbl := q_in1 26 rfl
theorem lkX4_32 : Cond.methodLinkNest RX4 32 yX1_init "BackByNoonOnMonday" ∈ lw_tbl := q_in1 142 rfl
theorem lkX4_43 : Cond.methodLink RX4 43 yX3_init ∈ q_tbl := (q_tb1 170 rfl rfl)
theorem lkX4_52 : Cond.methodLinkNest RX4 52 yX0_init "BackByNoonOnMonday" ∈ lw_tbl := q_in1 173 rfl
theorem lkX4_67 : Cond.methodLink RX4 67 yX4_isShelf ∈ q_tbl := (q_tb2 15 rfl rfl)
theorem lkX4_71 : Cond.methodLink RX4 71 yX4_shelfAt ∈ q_tbl := (q_tb2 21 rfl rfl)
theorem lkX4_82 : Cond.methodLink RX4 82 yX4_firstBadByte ∈ q_tbl := (q_tb2 25 rfl rfl)
theorem lkX4_86 : Cond.methodLink RX4 86 yX4_tellShop ∈ q_tbl := (q_tb2 38 rfl rfl)
theorem lkX4_89 : Cond.methodLink RX4 89 yX2_isSuit ∈ q_tbl := (q_tb2 120 rfl rfl)
theorem lkX4_92 : Cond.methodLink RX4 92 yX2_kindOf ∈ q_tbl := (q_tb2 121 rfl rfl)
theorem lkX4_105 : Cond.methodLink RX4 105 yX4_at ∈ q_tbl := (q_tb2 122 rfl rfl)
theorem lkX4_127 : Cond.methodLink RX4 127 yX2_isBooking ∈ q_tbl := (q_tb2 127 rfl rfl)
theorem lkX4_148 : Cond.methodLink RX4 148 yX4_isIn ∈ q_tbl := (q_tb2 18 rfl rfl)
theorem lkX4_152 : Cond.methodLink RX4 152 yX1_refusal ∈ q_tbl := (q_tb2 132 rfl rfl)
theorem lkX4_159 : Cond.methodLink RX4 159 yX2_addSuit ∈ q_tbl := (q_tb2 64 rfl rfl)
theorem lkX4_163 : Cond.methodLink RX4 163 yX2_addBooking ∈ q_tbl := (q_tb2 74 rfl rfl)
theorem lkX4_167 : Cond.methodLink RX4 167 yX2_hire ∈ q_tbl := (q_tb2 78 rfl rfl)
theorem lkX4_171 : Cond.methodLink RX4 171 yX2_giveBack ∈ q_tbl := (q_tb2 104 rfl rfl)
theorem lkX4_174 : Cond.methodLink RX4 174 yX2_clean ∈ q_tbl := (q_tb2 112 rfl rfl)
theorem lkX4_177 : Cond.methodLink RX4 177 yX2_isRightFor ∈ q_tbl := (q_tb2 156 rfl rfl)
theorem lkX4_184 : Cond.methodLink RX4 184 yX0_load ∈ q_tbl := (q_tb2 161 rfl rfl)
theorem lkX4_194 : Cond.methodLink RX4 194 yX0_most ∈ q_tbl := (q_tb2 187 rfl rfl)
theorem lkX4_197 : Cond.methodLink RX4 197 yX0_chooseFirst ∈ q_tbl := (q_tb2 203 rfl rfl)
theorem lkX4_204 : Cond.methodLink RX4 204 yX0_richest ∈ q_tbl := (q_tb2 220 rfl rfl)
theorem lkX4_207 : Cond.methodLink RX4 207 yX0_dress ∈ q_tbl := (q_tb2 232 rfl rfl)
theorem lkX4_211 : Cond.methodLink RX4 211 yX0_lend ∈ q_tbl := (q_tb3 4 rfl rfl)
theorem lkX4_217 : Cond.methodLink RX4 217 yJ6_bitCount_0f7a4 ∈ q_tbl := (q_tb3 13 rfl rfl)
theorem lkX4_222 : Cond.methodLink RX4 222 yX2_growthWeight ∈ q_tbl := (q_tb3 19 rfl rfl)
theorem lkX4_226 : Cond.methodLink RX4 226 yX0_grow ∈ q_tbl := (q_tb3 24 rfl rfl)
theorem lkX4_230 : Cond.methodLink RX4 230 yX4_tenTo ∈ q_tbl := (q_tb3 28 rfl rfl)
theorem lkX4_234 : Cond.methodLink RX4 234 yX4_partOf ∈ q_tbl := (q_tb3 32 rfl rfl)
theorem lkX4_238 : Cond.methodLink RX4 238 yX4_fillWays ∈ q_tbl := (q_tb3 42 rfl rfl)
theorem lkX4_241 : Cond.methodLink RX4 241 yX4_hasBit ∈ q_tbl := (q_tb3 51 rfl rfl)
theorem lkX4_247 : Cond.methodLink RX4 247 yX4_readHours ∈ q_tbl := (q_tb3 68 rfl rfl)
theorem lkX4_251 : Cond.methodLink RX4 251 yX2_suitsThatAre ∈ q_tbl := (q_tb3 77 rfl rfl)
theorem lkX4_254 : Cond.methodLink RX4 254 yX2_hoursOf ∈ q_tbl := (q_tb3 78 rfl rfl)
theorem lkX4_257 : Cond.methodLink RX4 257 yX4_orderCleaning ∈ q_tbl := (q_tb3 82 rfl rfl)
theorem lkX4_260 : Cond.methodLink RX4 260 yX4_mostReady ∈ q_tbl := (q_tb3 86 rfl rfl)
theorem lkX4_263 : Cond.methodLink RX4 263 yX4_firstCleaned ∈ q_tbl := (q_tb3 94 rfl rfl)
theorem lkX4_266 : Cond.methodLink RX4 266 yX4_feeTenths ∈ q_tbl := (q_tb3 102 rfl rfl)
theorem lkX4_269 : Cond.methodLink RX4 269 yX4_comersFor ∈ q_tbl := (q_tb3 106 rfl rfl)
theorem lkX4_272 : Cond.methodLink RX4 272 yX2_holderOf ∈ q_tbl := (q_tb3 122 rfl rfl)
theorem lkX4_275 : Cond.methodLink RX4 275 yX2_couldChange ∈ q_tbl := (q_tb3 127 rfl rfl)
theorem lkX4_278 : Cond.methodLink RX4 278 yX2_reaches ∈ q_tbl := (q_tb3 135 rfl rfl)
theorem lkX4_282 : Cond.methodLink RX4 282 yX4_pairRefusal ∈ q_tbl := (q_tb3 140 rfl rfl)
theorem lkX4_285 : Cond.methodLink RX4 285 yX4_firstForged ∈ q_tbl := (q_tb3 143 rfl rfl)
theorem lkX4_288 : Cond.methodLink RX4 288 yX4_suitsHad ∈ q_tbl := (q_tb3 147 rfl rfl)
theorem lkX4_298 : Cond.methodLink RX4 298 yX1_least ∈ q_tbl := (q_tb3 72 rfl rfl)
theorem lkX4_304 : Cond.methodLink RX4 304 yX4_nextSeed ∈ q_tbl := (q_tb3 162 rfl rfl)
theorem lkX4_307 : Cond.methodLink RX4 307 yX4_drawBelow ∈ q_tbl := (q_tb3 166 rfl rfl)
theorem lkX4_310 : Cond.methodLink RX4 310 yX2_leastFor ∈ q_tbl := (q_tb3 171 rfl rfl)
theorem lkX4_313 : Cond.methodLink RX4 313 yX2_become ∈ q_tbl := (q_tb2 42 rfl rfl)
theorem lkX4_319 : Cond.methodLink RX4 319 yX2_allWorn ∈ q_tbl := (q_tb3 187 rfl rfl)
theorem lkX4_322 : Cond.methodLink RX4 322 yX1_clear ∈ q_tbl := (q_tb3 195 rfl rfl)
theorem lkX4_325 : Cond.methodLink RX4 325 yX1_hang ∈ q_tbl := (q_tb3 199 rfl rfl)
theorem lkX4_329 : Cond.methodLink RX4 329 yX1_lay ∈ q_tbl := (q_tb3 207 rfl rfl)
theorem lkX4_332 : Cond.methodLink RX4 332 yX1_narrowed ∈ q_tbl := (q_tb3 215 rfl rfl)
theorem lkX4_335 : Cond.methodLink RX4 335 yX4_set ∈ q_tbl := (q_tb3 46 rfl rfl)
theorem lkX4_353 : Cond.methodLink RX4 353 yX1_hasStretch ∈ q_tbl := (q_tb3 223 rfl rfl)
theorem lkX4_369 : Cond.methodLink RX4 369 yX1_byteAt ∈ q_tbl := (q_tb2 28 rfl rfl)
theorem lkX4_372 : Cond.methodLink RX4 372 yX4_digitsBehind ∈ q_tbl := (q_tb2 35 rfl rfl)
theorem lkX4_375 : Cond.methodLink RX4 375 yX4_tellStatement ∈ q_tbl := (q_tb2 53 rfl rfl)
theorem lkX4_379 : Cond.methodLink RX4 379 yX1_number ∈ q_tbl := (q_tb2 56 rfl rfl)
theorem lkX4_381 : Cond.methodLink RX4 381 yX4_tellSuit ∈ q_tbl := (q_tb2 61 rfl rfl)
theorem lkX4_384 : Cond.methodLink RX4 384 yX4_tellBooking ∈ q_tbl := (q_tb2 71 rfl rfl)
theorem lkX4_387 : Cond.methodLink RX4 387 yX4_commonDivisor ∈ q_tbl := (q_tb3 35 rfl rfl)
theorem lkX4_396 : Cond.methodLink RX4 396 yX4_inTime ∈ q_tbl := (q_tb3 90 rfl rfl)
theorem lkX5_96 : Cond.methodLink RX5 96 yX5_in ∈ q_tbl := (q_tb5 35 rfl rfl)
theorem lkX5_103 : Cond.methodLink RX5 103 yX5_priceBy ∈ q_tbl := (q_tb5 107 rfl rfl)
theorem lkX5_107 : Cond.methodLink RX5 107 yX5_apart ∈ q_tbl := (q_tb5 96 rfl rfl)
theorem lkX5_110 : Cond.methodLink RX5 110 yX5_givesOf ∈ q_tbl := (q_tb5 99 rfl rfl)
theorem lkX5_114 : Cond.methodLink RX5 114 yX5_fitsIn ∈ q_tbl := (q_tb5 92 rfl rfl)
theorem lkX5_121 : Cond.methodLink RX5 121 yX5_priceOf ∈ q_tbl := (q_tb5 103 rfl rfl)
theorem lkX5_124 : Cond.methodLink RX5 124 yX5_bookingOf ∈ q_tbl := (q_tb5 118 rfl rfl)
theorem lkX5_130 : Cond.methodLink RX5 130 yX5_cleansOf ∈ q_tbl := (q_tb5 126 rfl rfl)
theorem lkX5_143 : Cond.methodLink RX5 143 yX5_here ∈ q_tbl := (q_tb5 42 rfl rfl)
theorem lkX5_151 : Cond.methodLink RX5 151 yX5_readDigits ∈ q_tbl := (q_tb5 50 rfl rfl)
theorem lkX5_157 : Cond.methodLink RX5 157 yX5_readNumbers ∈ q_tbl := (q_tb5 46 rfl rfl)
theorem lkX5_161 : Cond.methodLink RX5 161 yX5_suitComes ∈ q_tbl := (q_tb5 72 rfl rfl)
theorem lkX5_165 : Cond.methodLink RX5 165 yX5_bookingComes ∈ q_tbl := (q_tb5 76 rfl rfl)
theorem lkX5_169 : Cond.methodLink RX5 169 yX5_isSuit ∈ q_tbl := (q_tb5 80 rfl rfl)
theorem lkX5_173 : Cond.methodLink RX5 173 yX5_isBooking ∈ q_tbl := (q_tb5 84 rfl rfl)
theorem lkX5_176 : Cond.methodLink RX5 176 yX5_canHire ∈ q_tbl := (q_tb5 88 rfl rfl)
theorem lkX5_179 : Cond.methodLink RX5 179 yX5_hire ∈ q_tbl := (q_tb5 110 rfl rfl)
theorem lkX5_182 : Cond.methodLink RX5 182 yX5_comeBack ∈ q_tbl := (q_tb5 114 rfl rfl)
theorem lkX5_186 : Cond.methodLink RX5 186 yX5_canClean ∈ q_tbl := (q_tb5 122 rfl rfl)
theorem lkX5_189 : Cond.methodLink RX5 189 yX5_clean ∈ q_tbl := (q_tb5 130 rfl rfl)
theorem lkX5_192 : Cond.methodLink RX5 192 yX5_wrongRow ∈ q_tbl := (q_tb5 30 rfl rfl)
theorem lkX5_195 : Cond.methodLink RX5 195 yX5_readStatement ∈ q_tbl := (q_tb5 38 rfl rfl)
theorem lkX5_198 : Cond.methodLink RX5 198 yX5_open ∈ q_tbl := (q_tb5 56 rfl rfl)
theorem lkX5_201 : Cond.methodLink RX5 201 yX5_comesTold ∈ q_tbl := (q_tb5 68 rfl rfl)
theorem lkX5_204 : Cond.methodLink RX5 204 yX5_close ∈ q_tbl := (q_tb5 134 rfl rfl)
theorem lkX5_216 : Cond.methodLink RX5 216 yX5_carry ∈ q_tbl := (q_tb5 64 rfl rfl)
theorem lkX5_219 : Cond.methodLink RX5 219 yX5_carryAll ∈ q_tbl := (q_tb5 60 rfl rfl)
theorem lkX5_226 : Cond.methodLink RX5 226 yX5_lastsOf ∈ q_tbl := (q_tb5 150 rfl rfl)
theorem lkX5_233 : Cond.methodLink RX5 233 yX5_wrongKept ∈ q_tbl := (q_tb5 163 rfl rfl)
theorem lkX5_243 : Cond.methodLink RX5 243 yX5_hasBit ∈ q_tbl := (q_tb5 210 rfl rfl)
theorem lkX5_249 : Cond.methodLink RX5 249 yX5_isOpen ∈ q_tbl := (q_tb5 206 rfl rfl)
theorem lkX5_252 : Cond.methodLink RX5 252 yX5_mayHave ∈ q_tbl := (q_tb5 213 rfl rfl)
theorem lkX5_258 : Cond.methodLink RX5 258 yX5_greater ∈ q_tbl := (q_tb5 217 rfl rfl)
theorem lkX5_261 : Cond.methodLink RX5 261 yX5_mostBy ∈ q_tbl := (q_tb5 202 rfl rfl)
theorem lkX5_264 : Cond.methodLink RX5 264 yX5_layMost ∈ q_tbl := (q_tb5 198 rfl rfl)
theorem lkX5_267 : Cond.methodLink RX5 267 yX5_servedNow ∈ q_tbl := (q_tb5 194 rfl rfl)
theorem lkX5_272 : Cond.methodLink RX5 272 yX5_layFirst ∈ q_tbl := (q_tb5 220 rfl rfl)
theorem lkX5_275 : Cond.methodLink RX5 275 yX5_inState ∈ q_tbl := (q_tb5 228 rfl rfl)
theorem lkX5_278 : Cond.methodLink RX5 278 yX5_earnedNow ∈ q_tbl := (q_tb5 236 rfl rfl)
theorem lkX5_281 : Cond.methodLink RX5 281 yX5_add ∈ q_tbl := (q_tb6 8 rfl rfl)
theorem lkX5_285 : Cond.methodLink RX5 285 yX5_divisor ∈ q_tbl := (q_tb6 24 rfl rfl)
theorem lkX5_291 : Cond.methodLink RX5 291 yX5_onesOf ∈ q_tbl := (q_tb6 17 rfl rfl)
theorem lkX5_296 : Cond.methodLink RX5 296 yX5_partOf ∈ q_tbl := (q_tb6 21 rfl rfl)
theorem lkX5_306 : Cond.methodLink RX5 306 yX5_skipped ∈ q_tbl := (q_tb6 56 rfl rfl)
theorem lkX5_315 : Cond.methodLink RX5 315 yX5_toldHour ∈ q_tbl := (q_tb6 64 rfl rfl)
theorem lkX5_321 : Cond.methodLink RX5 321 yX5_wrongHours ∈ q_tbl := (q_tb6 52 rfl rfl)
theorem lkX5_324 : Cond.methodLink RX5 324 yX5_isReady ∈ q_tbl := (q_tb6 68 rfl rfl)
theorem lkX5_327 : Cond.methodLink RX5 327 yX5_comesBy ∈ q_tbl := (q_tb6 80 rfl rfl)
theorem lkX5_330 : Cond.methodLink RX5 330 yX5_paidBy ∈ q_tbl := (q_tb6 76 rfl rfl)
theorem lkX5_333 : Cond.methodLink RX5 333 yX5_wrongPairs ∈ q_tbl := (q_tb6 108 rfl rfl)
theorem lkX5_336 : Cond.methodLink RX5 336 yX5_forgedIn ∈ q_tbl := (q_tb6 112 rfl rfl)
theorem lkX5_341 : Cond.methodLink RX5 341 yX5_hadAll ∈ q_tbl := (q_tb6 121 rfl rfl)
theorem lkX5_351 : Cond.methodLink RX5 351 yX5_drawBelow ∈ q_tbl := (q_tb6 133 rfl rfl)
theorem lkX5_354 : Cond.methodLink RX5 354 yX5_hiresLeast ∈ q_tbl := (q_tb6 140 rfl rfl)
theorem lkX5_359 : Cond.methodLink RX5 359 yX5_narrowed ∈ q_tbl := (q_tb6 161 rfl rfl)
theorem lkX5_362 : Cond.methodLink RX5 362 yX5_costOf ∈ q_tbl := (q_tb6 176 rfl rfl)
