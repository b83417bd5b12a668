/-! texts, nest mates, calls, catches -/
def mt_ns : Nat := 53
def mt_sl : List Nat := [35, 39, 17, 192, 51, 22, 19, 14, 20, 16, 35, 24, 43, 16, 21, 17, 5, 3, 2, 4, 2, 4, 3, 6, 7, 6, 6, 7, 3, 6, 3, 5, 3, 4, 4, 5, 3, 2, 3, 4, 1, 1, 1, 1, 1, 1, 2, 1, 2, 1, 1, 1, 1]
def mt_sb : List (List Int32) := [[109, 111, 114, 101, 32, 116, 104, 97, 110, 32, 56, 44, 50, 48, 48, 32, 111, 99, 116, 101, 116, 115, 32, 119, 111, 117, 108, 100, 32, 98, 101, 32, 102, 101, 100], [116, 104, 101, 114, 101, 32, 97, 114, 101, 32, 110, 111, 116, 32, 115, 111, 32, 109, 97, 110, 121, 32, 111, 99, 116, 101, 116, 115, 32, 102, 111, 114, 32, 97, 32, 116, 101, 120, 116], [116, 104, 101, 32, 116, 101, 120, 116, 32, 105, 115, 32, 119, 114, 111, 110, 103], [99, 108, 111, 115, 101, 32, 32, 32, 112, 97, 121, 32, 32, 32, 32, 32, 116, 111, 32, 32, 32, 32, 32, 32, 105, 110, 116, 111, 32, 32, 32, 32, 105, 102, 32, 32, 32, 32, 32, 32, 119, 104, 101, 110, 32, 32, 32, 32, 108, 101, 116, 32, 32, 32, 32, 32, 97, 115, 115, 101, 114, 116, 32, 32, 100, 101, 112, 111, 115, 105, 116, 32, 99, 104, 111, 105, 99, 101, 32, 32, 110, 111, 116, 105, 102, 121, 32, 32, 98, 97, 108, 97, 110, 99, 101, 32, 110, 101, 103, 32, 32, 32, 32, 32, 99, 104, 111, 115, 101, 110, 32, 32, 117, 115, 101, 32, 32, 32, 32, 32, 115, 116, 97, 114, 116, 32, 32, 32, 101, 110, 100, 32, 32, 32, 32, 32, 99, 111, 110, 100, 32, 32, 32, 32, 116, 114, 117, 101, 32, 32, 32, 32, 102, 97, 108, 115, 101, 32, 32, 32, 97, 110, 100, 32, 32, 32, 32, 32, 111, 114, 32, 32, 32, 32, 32, 32, 110, 111, 116, 32, 32, 32, 32, 32, 109, 97, 100, 101, 32, 32, 32, 32], [110, 111, 32, 115, 117, 99, 104, 32, 119, 97, 108, 108, 101, 116, 44, 32, 111, 114, 32, 97, 110, 32, 97, 109, 111, 117, 110, 116, 32, 116, 104, 97, 116, 32, 105, 115, 32, 110, 111, 116, 32, 48, 46, 46, 50, 32, 42, 42, 32, 54, 49], [110, 111, 32, 115, 117, 99, 104, 32, 112, 97, 114, 116, 121, 32, 111, 114, 32, 116, 111, 107, 101, 110], [116, 104, 101, 114, 101, 32, 97, 114, 101, 32, 49, 54, 32, 105, 110, 112, 117, 116, 115], [110, 111, 32, 115, 117, 99, 104, 32, 99, 104, 111, 105, 99, 101], [116, 104, 101, 114, 101, 32, 105, 115, 32, 110, 111, 32, 99, 111, 110, 116, 114, 97, 99, 116], [119, 104, 97, 116, 32, 105, 115, 32, 110, 111, 116, 32, 48, 46, 46, 52], [116, 104, 101, 114, 101, 32, 105, 115, 32, 110, 111, 32, 115, 117, 99, 104, 32, 119, 97, 114, 110, 105, 110, 103, 32, 111, 114, 32, 112, 97, 121, 109, 101, 110, 116], [116, 104, 101, 114, 101, 32, 105, 115, 32, 110, 111, 32, 115, 117, 99, 104, 32, 112, 97, 121, 109, 101, 110, 116], [119, 104, 97, 116, 32, 105, 115, 32, 110, 111, 116, 32, 48, 46, 46, 52, 44, 32, 97, 32, 110, 111, 116, 32, 48, 46, 46, 55, 44, 32, 111, 114, 32, 98, 32, 110, 111, 116, 32, 48, 46, 46, 51], [119, 104, 97, 116, 32, 105, 115, 32, 110, 111, 116, 32, 48, 46, 46, 50], [116, 104, 101, 114, 101, 32, 105, 115, 32, 110, 111, 32, 115, 117, 99, 104, 32, 115, 116, 101, 112], [119, 104, 97, 116, 32, 105, 115, 32, 110, 111, 116, 32, 48, 46, 46, 49, 48], [99, 108, 111, 115, 101], [112, 97, 121], [116, 111], [105, 110, 116, 111], [105, 102], [119, 104, 101, 110], [108, 101, 116], [97, 115, 115, 101, 114, 116], [100, 101, 112, 111, 115, 105, 116], [99, 104, 111, 105, 99, 101], [110, 111, 116, 105, 102, 121], [98, 97, 108, 97, 110, 99, 101], [110, 101, 103], [99, 104, 111, 115, 101, 110], [117, 115, 101], [115, 116, 97, 114, 116], [101, 110, 100], [99, 111, 110, 100], [116, 114, 117, 101], [102, 97, 108, 115, 101], [97, 110, 100], [111, 114], [110, 111, 116], [109, 97, 100, 101], [40], [41], [43], [45], [42], [47], [62, 61], [62], [60, 61], [60], [61], [91], [93]]
def mt_sr : List (Nat × Nat × Nat × String) := [(0, 80, 0, "more than 8,200 octets would be fed"), (0, 89, 1, "there are not so many octets for a text"), (3, 79, 2, "the text is wrong"), (1, 61, 3, "close   pay     to      into    if      when    let     assert  deposit choice  notify  balance neg     chosen  use     start   end     cond    true    false   and     or      not     made    "), (0, 125, 4, "no such wallet, or an amount that is not 0..2 ** 61"), (0, 132, 5, "no such party or token"), (0, 258, 6, "there are 16 inputs"), (0, 141, 7, "no such choice"), (0, 255, 8, "there is no contract"), (0, 154, 9, "what is not 0..4"), (0, 168, 10, "there is no such warning or payment"), (0, 186, 11, "there is no such payment"), (0, 191, 12, "what is not 0..4, a not 0..7, or b not 0..3"), (0, 210, 13, "what is not 0..2"), (0, 215, 14, "there is no such step"), (0, 226, 15, "what is not 0..10"), (12, 25, 16, "close"), (12, 27, 17, "pay"), (12, 29, 18, "to"), (12, 31, 19, "into"), (12, 33, 20, "if"), (12, 35, 21, "when"), (12, 37, 22, "let"), (12, 39, 23, "assert"), (12, 41, 24, "deposit"), (12, 43, 25, "choice"), (12, 45, 26, "notify"), (12, 47, 27, "balance"), (12, 49, 28, "neg"), (12, 51, 29, "chosen"), (12, 53, 30, "use"), (12, 55, 31, "start"), (12, 57, 32, "end"), (12, 59, 33, "cond"), (12, 61, 34, "true"), (12, 63, 35, "false"), (12, 65, 36, "and"), (12, 67, 37, "or"), (12, 69, 38, "not"), (12, 71, 39, "made"), (12, 373, 40, "("), (12, 381, 41, ")"), (12, 419, 42, "+"), (12, 421, 43, "-"), (12, 423, 44, "*"), (12, 425, 45, "/"), (12, 427, 46, ">="), (12, 429, 47, ">"), (12, 431, 48, "<="), (12, 433, 49, "<"), (12, 435, 50, "="), (12, 409, 51, "["), (12, 411, 52, "]")]
def mt_s (oc idx : Nat) : Option Nat := (mt_sr.find? (fun q => q.1 == oc && q.2.1 == idx)).map (fun q => q.2.2.1)
def mt_nest : List (String × Nat × MethodName × String) := [("MarloweHost", 11, ⟨"MarloweHost$Scanner", "<init>", "()V"⟩, "MarloweHost"), ("MarloweHost", 18, ⟨"MarloweHost$Tree", "<init>", "()V"⟩, "MarloweHost"), ("MarloweHost", 34, ⟨"MarloweHost$Wallets", "<init>", "()V"⟩, "MarloweHost"), ("MarloweHost", 41, ⟨"MarloweHost$Inputs", "<init>", "()V"⟩, "MarloweHost"), ("MarloweHost$Machine", 11, ⟨"MarloweHost$Events", "<init>", "()V"⟩, "MarloweHost"), ("MarloweHost$Machine", 28, ⟨"MarloweHost$Situation", "<init>", "()V"⟩, "MarloweHost"), ("MarloweHost$Analyser", 11, ⟨"MarloweHost$Inputs", "<init>", "()V"⟩, "MarloweHost"), ("MarloweHost$Analyser", 54, ⟨"MarloweHost$Situation", "<init>", "()V"⟩, "MarloweHost"), ("MarloweHost", 66, ⟨"MarloweHost$Situation", "<init>", "()V"⟩, "MarloweHost"), ("MarloweHostModel", 146, ⟨"MarloweHostModel$State", "<init>", "()V"⟩, "MarloweHostModel")]
def mt_nc : List (String × String) := [("java/lang/IndexOutOfBoundsException", "java/lang/IllegalArgumentException"), ("java/lang/IndexOutOfBoundsException", "java/lang/IllegalStateException"), ("java/lang/IllegalArgumentException", "java/lang/IndexOutOfBoundsException"), ("java/lang/IllegalArgumentException", "java/lang/IllegalStateException"), ("java/lang/IllegalStateException", "java/lang/IndexOutOfBoundsException"), ("java/lang/IllegalStateException", "java/lang/IllegalArgumentException")]
def mt_m_0 : List (Nat × Nat × Nat) := [(11, 1, 3), (18, 2, 3), (25, 3, 2), (34, 5, 3), (41, 6, 3), (48, 7, 2), (57, 11, 2), (66, 9, 3), (85, 15, 0), (98, 18, 0), (101, 37, 0), (105, 55, 0), (108, 56, 0), (114, 60, 4), (118, 61, 4), (134, 64, 0), (137, 65, 0), (143, 72, 0), (146, 73, 0), (150, 74, 0), (206, 121, 0), (234, 135, 0)]
def mt_m_1 : List (Nat × Nat × Nat) := [(19, 23, 4), (34, 24, 0), (40, 25, 4), (44, 26, 0), (51, 27, 0), (47, 28, 0), (63, 29, 0), (55, 34, 0), (58, 35, 0), (75, 36, 4)]
def mt_m_2 : List (Nat × Nat × Nat) := [(54, 23, 4), (60, 82, 0), (66, 123, 0)]
def mt_m_3 : List (Nat × Nat × Nat) := [(31, 4, 2), (47, 19, 0), (55, 20, 0), (59, 21, 0), (63, 22, 0), (70, 38, 0), (84, 24, 0), (96, 37, 0), (99, 39, 0), (102, 40, 0), (92, 41, 0), (106, 42, 0), (131, 43, 0), (173, 44, 0), (176, 46, 0), (180, 47, 0), (113, 48, 0), (157, 49, 0), (135, 50, 0), (116, 51, 0), (160, 52, 0), (124, 53, 0), (166, 54, 0)]
def mt_m_4 : List (Nat × Nat × Nat) := [(29, 45, 0), (33, 46, 0)]
def mt_m_5 : List (Nat × Nat × Nat) := []
def mt_m_6 : List (Nat × Nat × Nat) := []
def mt_m_7 : List (Nat × Nat × Nat) := [(11, 8, 3), (28, 9, 3), (35, 10, 2), (42, 75, 0), (53, 76, 4), (59, 77, 0), (88, 78, 0), (91, 79, 0), (63, 80, 0), (97, 81, 0), (111, 83, 0), (103, 84, 0), (150, 85, 0), (114, 86, 0), (153, 87, 0), (139, 98, 0), (166, 88, 0), (169, 99, 4), (172, 100, 0), (122, 92, 0), (132, 101, 0), (136, 102, 0), (180, 103, 0), (183, 104, 0), (72, 105, 0), (187, 82, 0), (190, 106, 0), (205, 107, 0), (197, 108, 0), (211, 109, 0), (214, 110, 0), (217, 111, 0), (76, 112, 0)]
def mt_m_8 : List (Nat × Nat × Nat) := []
def mt_m_9 : List (Nat × Nat × Nat) := [(29, 57, 4)]
def mt_m_10 : List (Nat × Nat × Nat) := [(30, 82, 0), (56, 88, 0), (62, 89, 0), (66, 90, 0), (69, 91, 0), (73, 87, 0), (76, 92, 0), (90, 93, 0), (93, 94, 4), (83, 95, 0), (97, 96, 4), (87, 97, 4)]
def mt_m_11 : List (Nat × Nat × Nat) := [(11, 6, 3), (47, 7, 2), (54, 9, 3), (57, 10, 2), (74, 122, 0), (80, 73, 0), (84, 124, 0), (99, 125, 0), (103, 126, 0), (107, 81, 0), (114, 82, 0), (117, 127, 0), (128, 78, 0), (135, 123, 0), (138, 128, 0), (145, 87, 0), (148, 92, 0), (87, 129, 0), (155, 130, 0), (175, 65, 0), (159, 74, 0)]
def mt_m_12 : List (Nat × Nat × Nat) := [(146, 137, 3), (254, 140, 0), (268, 142, 4), (272, 143, 0), (276, 144, 0), (333, 145, 0), (313, 146, 0), (317, 147, 4), (320, 148, 4), (323, 149, 0), (302, 150, 0), (306, 29, 0), (355, 152, 0), (375, 153, 0), (378, 154, 0), (383, 155, 0), (387, 156, 0), (390, 157, 0), (393, 158, 0), (370, 159, 0), (362, 160, 0), (358, 161, 0), (396, 162, 0), (399, 163, 0), (416, 164, 0), (366, 165, 0), (406, 166, 0), (401, 167, 0), (404, 168, 0), (413, 169, 0), (279, 170, 0), (525, 173, 0), (529, 174, 0), (519, 175, 0), (499, 176, 0), (451, 177, 0), (455, 178, 0), (477, 179, 0), (480, 180, 0), (484, 181, 4), (502, 182, 0), (522, 183, 0), (509, 184, 0), (533, 185, 0), (548, 188, 0), (557, 195, 0), (554, 196, 0), (571, 197, 0), (575, 198, 0), (579, 199, 0), (586, 200, 0), (583, 201, 0)]
def mt_m_13 : List (Nat × Nat × Nat) := []
def mt_m_14 : List (Nat × Nat × Nat) := []
def mt_m_15 : List (Nat × Nat × Nat) := []
def mt_m_16 : List (Nat × Nat × Nat) := []
def mt_m_17 : List (Nat × Nat × Nat) := [(492, 30, 0), (495, 31, 4), (1059, 33, 4), (335, 151, 0)]
def mt_m_18 : List (Nat × Nat × Nat) := [(65, 0, 2), (82, 12, 0), (69, 13, 4), (7, 14, 0), (78, 16, 4), (15, 17, 0), (88, 58, 4), (21, 59, 0), (92, 62, 4), (25, 63, 0), (96, 66, 4), (29, 67, 0), (100, 68, 4), (33, 69, 0), (104, 70, 4), (37, 71, 0), (108, 113, 4), (43, 114, 0), (112, 115, 4), (47, 116, 0), (115, 117, 4), (51, 118, 0), (119, 119, 4), (55, 120, 0), (122, 131, 4), (58, 132, 0), (125, 133, 4), (62, 134, 0), (68, 136, 2), (75, 138, 0), (74, 139, 0), (81, 141, 0), (85, 171, 0), (107, 172, 0), (91, 186, 0), (95, 187, 0), (99, 189, 0), (103, 190, 0), (111, 191, 0), (114, 192, 0), (118, 193, 0), (121, 194, 0), (124, 202, 0), (127, 203, 0)]
def mt_m_19 : List (Nat × Nat × Nat) := []
def mt_m_20 : List (Nat × Nat × Nat) := []
def mt_m_21 : List (Nat × Nat × Nat) := [(9, 32, 4)]
def mt_m_22 : List (Nat × Nat × Nat) := []
def mt_ms : List (List (Nat × Nat × Nat)) := [mt_m_0, mt_m_1, mt_m_2, mt_m_3, mt_m_4, mt_m_5, mt_m_6, mt_m_7, mt_m_8, mt_m_9, mt_m_10, mt_m_11, mt_m_12, mt_m_13, mt_m_14, mt_m_15, mt_m_16, mt_m_17, mt_m_18, mt_m_19, mt_m_20, mt_m_21, mt_m_22]
def mt_m (oc idx : Nat) : Option (Nat × Nat) := ((mt_ms.getD oc []).find? (fun q => q.1 == idx)).map (fun q => q.2)
def mt_mok (oc : Nat) (q : Nat × Nat × Nat) : Prop := q.2.1 < mt_ny ∧ match q.2.2 with
  | 0 => mt_B (Cond.methodLink (mt_cn oc) q.1 (mt_nm q.2.1)) ∧ mt_B (Cond.instanceMethod (mt_nm q.2.1)) ∧ mt_B (Cond.selects (mt_cn (mt_oc q.2.1)) (mt_nm q.2.1) (mt_nm q.2.1))
  | 2 => mt_B (Cond.methodLink (mt_cn oc) q.1 (mt_nm q.2.1)) ∧ mt_B (Cond.instanceMethod (mt_nm q.2.1)) ∧ (mt_nm q.2.1).name = "<init>" ∧ mt_B (Cond.code (mt_nm q.2.1) (mt_by q.2.1) (mt_ml q.2.1) none)
  | 3 => (∃ host, (mt_cn oc, q.1, mt_nm q.2.1, host) ∈ mt_nest) ∧ mt_B (Cond.instanceMethod (mt_nm q.2.1)) ∧ (mt_nm q.2.1).name = "<init>" ∧ mt_B (Cond.code (mt_nm q.2.1) (mt_by q.2.1) (mt_ml q.2.1) none)
  | 4 => mt_B (Cond.methodLink (mt_cn oc) q.1 (mt_nm q.2.1)) ∧ mt_B (Cond.static (mt_nm q.2.1)) ∧ mt_B (Cond.initialized (mt_nm q.2.1).cls)
  | _ => False
set_option maxRecDepth 100000 in
theorem mt_mk_0_0 : mt_mok 0 (11, 1, 3) := ⟨by decide, ⟨_, List.mem_of_getElem? (i := 0) rfl⟩, ⟨(lw_in1 (List.mem_of_getElem? (i := 39) rfl)), rfl⟩, rfl, ⟨(lw_in1 (List.mem_of_getElem? (i := 40) rfl)), rfl⟩⟩
set_option maxRecDepth 100000 in
theorem mt_mk_0_1 : mt_mok 0 (18, 2, 3) := ⟨by decide, ⟨_, List.mem_of_getElem? (i := 1) rfl⟩, ⟨(lw_in1 (List.mem_of_getElem? (i := 74) rfl)), rfl⟩, rfl, ⟨(lw_in1 (List.mem_of_getElem? (i := 75) rfl)), rfl⟩⟩
set_option maxRecDepth 100000 in
theorem mt_mk_0_2 : mt_mok 0 (25, 3, 2) := ⟨by decide, ⟨(lw_in1 (List.mem_of_getElem? (i := 157) rfl)), rfl⟩, ⟨(lw_in1 (List.mem_of_getElem? (i := 158) rfl)), rfl⟩, rfl, ⟨(lw_in1 (List.mem_of_getElem? (i := 159) rfl)), rfl⟩⟩
set_option maxRecDepth 100000 in
theorem mt_mk_0_3 : mt_mok 0 (34, 5, 3) := ⟨by decide, ⟨_, List.mem_of_getElem? (i := 2) rfl⟩, ⟨(lw_in1 (List.mem_of_getElem? (i := 215) rfl)), rfl⟩, rfl, ⟨(lw_in1 (List.mem_of_getElem? (i := 216) rfl)), rfl⟩⟩
set_option maxRecDepth 100000 in
theorem mt_mk_0_4 : mt_mok 0 (41, 6, 3) := ⟨by decide, ⟨_, List.mem_of_getElem? (i := 3) rfl⟩, ⟨(lw_in1 (List.mem_of_getElem? (i := 229) rfl)), rfl⟩, rfl, ⟨(lw_in1 (List.mem_of_getElem? (i := 230) rfl)), rfl⟩⟩
set_option maxRecDepth 100000 in
theorem mt_mk_0_5 : mt_mok 0 (48, 7, 2) := ⟨by decide, ⟨(lw_in2 (List.mem_of_getElem? (i := 21) rfl)), rfl⟩, ⟨(lw_in2 (List.mem_of_getElem? (i := 22) rfl)), rfl⟩, rfl, ⟨(lw_in2 (List.mem_of_getElem? (i := 23) rfl)), rfl⟩⟩
set_option maxRecDepth 100000 in
theorem mt_mk_0_6 : mt_mok 0 (57, 11, 2) := ⟨by decide, ⟨(lw_in2 (List.mem_of_getElem? (i := 160) rfl)), rfl⟩, ⟨(lw_in2 (List.mem_of_getElem? (i := 161) rfl)), rfl⟩, rfl, ⟨(lw_in2 (List.mem_of_getElem? (i := 162) rfl)), rfl⟩⟩
set_option maxRecDepth 100000 in
theorem mt_mk_0_7 : mt_mok 0 (66, 9, 3) := ⟨by decide, ⟨_, List.mem_of_getElem? (i := 8) rfl⟩, ⟨(lw_in2 (List.mem_of_getElem? (i := 72) rfl)), rfl⟩, rfl, ⟨(lw_in2 (List.mem_of_getElem? (i := 73) rfl)), rfl⟩⟩
set_option maxRecDepth 100000 in
theorem mt_mk_0_8 : mt_mok 0 (85, 15, 0) := ⟨by decide, ⟨(lw_in3 (List.mem_of_getElem? (i := 87) rfl)), rfl⟩, ⟨(lw_in3 (List.mem_of_getElem? (i := 88) rfl)), rfl⟩, ⟨(lw_in3 (List.mem_of_getElem? (i := 89) rfl)), rfl⟩⟩
set_option maxRecDepth 100000 in
theorem mt_mk_0_9 : mt_mok 0 (98, 18, 0) := ⟨by decide, ⟨(lw_in3 (List.mem_of_getElem? (i := 100) rfl)), rfl⟩, ⟨(lw_in3 (List.mem_of_getElem? (i := 101) rfl)), rfl⟩, ⟨(lw_in3 (List.mem_of_getElem? (i := 102) rfl)), rfl⟩⟩
set_option maxRecDepth 100000 in
theorem mt_mk_0_10 : mt_mok 0 (101, 37, 0) := ⟨by decide, ⟨(lw_in3 (List.mem_of_getElem? (i := 211) rfl)), rfl⟩, ⟨(lw_in3 (List.mem_of_getElem? (i := 212) rfl)), rfl⟩, ⟨(lw_in3 (List.mem_of_getElem? (i := 213) rfl)), rfl⟩⟩
set_option maxRecDepth 100000 in
theorem mt_mk_0_11 : mt_mok 0 (105, 55, 0) := ⟨by decide, ⟨(lw_in4 (List.mem_of_getElem? (i := 47) rfl)), rfl⟩, ⟨(lw_in4 (List.mem_of_getElem? (i := 48) rfl)), rfl⟩, ⟨(lw_in4 (List.mem_of_getElem? (i := 49) rfl)), rfl⟩⟩
set_option maxRecDepth 100000 in
theorem mt_mk_0_12 : mt_mok 0 (108, 56, 0) := ⟨by decide, ⟨(lw_in4 (List.mem_of_getElem? (i := 51) rfl)), rfl⟩, ⟨(lw_in4 (List.mem_of_getElem? (i := 52) rfl)), rfl⟩, ⟨(lw_in4 (List.mem_of_getElem? (i := 53) rfl)), rfl⟩⟩
set_option maxRecDepth 100000 in
theorem mt_mk_0_13 : mt_mok 0 (114, 60, 4) := ⟨by decide, ⟨(lw_in4 (List.mem_of_getElem? (i := 65) rfl)), rfl⟩, ⟨(lw_in4 (List.mem_of_getElem? (i := 66) rfl)), rfl⟩, ⟨(lw_in1 (List.mem_of_getElem? (i := 1) rfl)), rfl⟩⟩
set_option maxRecDepth 100000 in
theorem mt_mk_0_14 : mt_mok 0 (118, 61, 4) := ⟨by decide, ⟨(lw_in4 (List.mem_of_getElem? (i := 68) rfl)), rfl⟩, ⟨(lw_in4 (List.mem_of_getElem? (i := 69) rfl)), rfl⟩, ⟨(lw_in1 (List.mem_of_getElem? (i := 1) rfl)), rfl⟩⟩
set_option maxRecDepth 100000 in
theorem mt_mk_0_15 : mt_mok 0 (134, 64, 0) := ⟨by decide, ⟨(lw_in4 (List.mem_of_getElem? (i := 83) rfl)), rfl⟩, ⟨(lw_in4 (List.mem_of_getElem? (i := 85) rfl)), rfl⟩, ⟨List.mem_append_left _ (List.mem_of_getElem? (i := 19) rfl), rfl⟩⟩
set_option maxRecDepth 100000 in
theorem mt_mk_0_16 : mt_mok 0 (137, 65, 0) := ⟨by decide, ⟨(lw_in4 (List.mem_of_getElem? (i := 88) rfl)), rfl⟩, ⟨(lw_in4 (List.mem_of_getElem? (i := 89) rfl)), rfl⟩, ⟨(lw_in4 (List.mem_of_getElem? (i := 90) rfl)), rfl⟩⟩
set_option maxRecDepth 100000 in
theorem mt_mk_0_17 : mt_mok 0 (143, 72, 0) := ⟨by decide, ⟨(lw_in4 (List.mem_of_getElem? (i := 115) rfl)), rfl⟩, ⟨(lw_in4 (List.mem_of_getElem? (i := 117) rfl)), rfl⟩, ⟨List.mem_append_left _ (List.mem_of_getElem? (i := 20) rfl), rfl⟩⟩
set_option maxRecDepth 100000 in
theorem mt_mk_0_18 : mt_mok 0 (146, 73, 0) := ⟨by decide, ⟨(lw_in4 (List.mem_of_getElem? (i := 135) rfl)), rfl⟩, ⟨(lw_in4 (List.mem_of_getElem? (i := 136) rfl)), rfl⟩, ⟨(lw_in4 (List.mem_of_getElem? (i := 137) rfl)), rfl⟩⟩
set_option maxRecDepth 100000 in
theorem mt_mk_0_19 : mt_mok 0 (150, 74, 0) := ⟨by decide, ⟨(lw_in4 (List.mem_of_getElem? (i := 142) rfl)), rfl⟩, ⟨(lw_in4 (List.mem_of_getElem? (i := 143) rfl)), rfl⟩, ⟨(lw_in4 (List.mem_of_getElem? (i := 144) rfl)), rfl⟩⟩
set_option maxRecDepth 100000 in
theorem mt_mk_0_20 : mt_mok 0 (206, 121, 0) := ⟨by decide, ⟨(lw_in5 (List.mem_of_getElem? (i := 95) rfl)), rfl⟩, ⟨(lw_in5 (List.mem_of_getElem? (i := 96) rfl)), rfl⟩, ⟨(lw_in5 (List.mem_of_getElem? (i := 97) rfl)), rfl⟩⟩
set_option maxRecDepth 100000 in
theorem mt_mk_0_21 : mt_mok 0 (234, 135, 0) := ⟨by decide, ⟨(lw_in5 (List.mem_of_getElem? (i := 162) rfl)), rfl⟩, ⟨(lw_in5 (List.mem_of_getElem? (i := 164) rfl)), rfl⟩, ⟨List.mem_append_left _ (List.mem_of_getElem? (i := 38) rfl), rfl⟩⟩
theorem mt_mok_0 : ∀ q ∈ mt_m_0, mt_mok 0 q := List.forall_mem_cons.mpr ⟨mt_mk_0_0, List.forall_mem_cons.mpr ⟨mt_mk_0_1, List.forall_mem_cons.mpr ⟨mt_mk_0_2, List.forall_mem_cons.mpr ⟨mt_mk_0_3, List.forall_mem_cons.mpr ⟨mt_mk_0_4, List.forall_mem_cons.mpr ⟨mt_mk_0_5, List.forall_mem_cons.mpr ⟨mt_mk_0_6, List.forall_mem_cons.mpr ⟨mt_mk_0_7, List.forall_mem_cons.mpr ⟨mt_mk_0_8, List.forall_mem_cons.mpr ⟨mt_mk_0_9, List.forall_mem_cons.mpr ⟨mt_mk_0_10, List.forall_mem_cons.mpr ⟨mt_mk_0_11, List.forall_mem_cons.mpr ⟨mt_mk_0_12, List.forall_mem_cons.mpr ⟨mt_mk_0_13, List.forall_mem_cons.mpr ⟨mt_mk_0_14, List.forall_mem_cons.mpr ⟨mt_mk_0_15, List.forall_mem_cons.mpr ⟨mt_mk_0_16, List.forall_mem_cons.mpr ⟨mt_mk_0_17, List.forall_mem_cons.mpr ⟨mt_mk_0_18, List.forall_mem_cons.mpr ⟨mt_mk_0_19, List.forall_mem_cons.mpr ⟨mt_mk_0_20, List.forall_mem_cons.mpr ⟨mt_mk_0_21, fun _ h => absurd h List.not_mem_nil⟩⟩⟩⟩⟩⟩⟩⟩⟩⟩⟩⟩⟩⟩⟩⟩⟩⟩⟩⟩⟩⟩
set_option maxRecDepth 100000 in
theorem mt_mk_1_0 : mt_mok 1 (19, 23, 4) := ⟨by decide, ⟨(lw_in3 (List.mem_of_getElem? (i := 136) rfl)), rfl⟩, ⟨(lw_in3 (List.mem_of_getElem? (i := 137) rfl)), rfl⟩, ⟨(lw_in1 (List.mem_of_getElem? (i := 20) rfl)), rfl⟩⟩
set_option maxRecDepth 100000 in
theorem mt_mk_1_1 : mt_mok 1 (34, 24, 0) := ⟨by decide, ⟨(lw_in3 (List.mem_of_getElem? (i := 139) rfl)), rfl⟩, ⟨(lw_in3 (List.mem_of_getElem? (i := 140) rfl)), rfl⟩, ⟨(lw_in3 (List.mem_of_getElem? (i := 141) rfl)), rfl⟩⟩
set_option maxRecDepth 100000 in
theorem mt_mk_1_2 : mt_mok 1 (40, 25, 4) := ⟨by decide, ⟨(lw_in3 (List.mem_of_getElem? (i := 143) rfl)), rfl⟩, ⟨(lw_in3 (List.mem_of_getElem? (i := 144) rfl)), rfl⟩, ⟨(lw_in1 (List.mem_of_getElem? (i := 2) rfl)), rfl⟩⟩
set_option maxRecDepth 100000 in
theorem mt_mk_1_3 : mt_mok 1 (44, 26, 0) := ⟨by decide, ⟨(lw_in3 (List.mem_of_getElem? (i := 146) rfl)), rfl⟩, ⟨(lw_in3 (List.mem_of_getElem? (i := 148) rfl)), rfl⟩, ⟨List.mem_append_left _ (List.mem_of_getElem? (i := 2) rfl), rfl⟩⟩
set_option maxRecDepth 100000 in
theorem mt_mk_1_4 : mt_mok 1 (51, 27, 0) := ⟨by decide, ⟨(lw_in3 (List.mem_of_getElem? (i := 150) rfl)), rfl⟩, ⟨(lw_in3 (List.mem_of_getElem? (i := 152) rfl)), rfl⟩, ⟨List.mem_append_left _ (List.mem_of_getElem? (i := 3) rfl), rfl⟩⟩
set_option maxRecDepth 100000 in
theorem mt_mk_1_5 : mt_mok 1 (47, 28, 0) := ⟨by decide, ⟨(lw_in3 (List.mem_of_getElem? (i := 154) rfl)), rfl⟩, ⟨(lw_in3 (List.mem_of_getElem? (i := 156) rfl)), rfl⟩, ⟨List.mem_append_left _ (List.mem_of_getElem? (i := 4) rfl), rfl⟩⟩
set_option maxRecDepth 100000 in
theorem mt_mk_1_6 : mt_mok 1 (63, 29, 0) := ⟨by decide, ⟨(lw_in3 (List.mem_of_getElem? (i := 159) rfl)), rfl⟩, ⟨(lw_in3 (List.mem_of_getElem? (i := 160) rfl)), rfl⟩, ⟨(lw_in3 (List.mem_of_getElem? (i := 161) rfl)), rfl⟩⟩
set_option maxRecDepth 100000 in
theorem mt_mk_1_7 : mt_mok 1 (55, 34, 0) := ⟨by decide, ⟨(lw_in3 (List.mem_of_getElem? (i := 199) rfl)), rfl⟩, ⟨(lw_in3 (List.mem_of_getElem? (i := 201) rfl)), rfl⟩, ⟨List.mem_append_left _ (List.mem_of_getElem? (i := 5) rfl), rfl⟩⟩
set_option maxRecDepth 100000 in
theorem mt_mk_1_8 : mt_mok 1 (58, 35, 0) := ⟨by decide, ⟨(lw_in3 (List.mem_of_getElem? (i := 204) rfl)), rfl⟩, ⟨(lw_in3 (List.mem_of_getElem? (i := 206) rfl)), rfl⟩, ⟨List.mem_append_left _ (List.mem_of_getElem? (i := 6) rfl), rfl⟩⟩
set_option maxRecDepth 100000 in
theorem mt_mk_1_9 : mt_mok 1 (75, 36, 4) := ⟨by decide, ⟨(lw_in3 (List.mem_of_getElem? (i := 208) rfl)), rfl⟩, ⟨(lw_in3 (List.mem_of_getElem? (i := 209) rfl)), rfl⟩, ⟨(lw_in1 (List.mem_of_getElem? (i := 2) rfl)), rfl⟩⟩
theorem mt_mok_1 : ∀ q ∈ mt_m_1, mt_mok 1 q := List.forall_mem_cons.mpr ⟨mt_mk_1_0, List.forall_mem_cons.mpr ⟨mt_mk_1_1, List.forall_mem_cons.mpr ⟨mt_mk_1_2, List.forall_mem_cons.mpr ⟨mt_mk_1_3, List.forall_mem_cons.mpr ⟨mt_mk_1_4, List.forall_mem_cons.mpr ⟨mt_mk_1_5, List.forall_mem_cons.mpr ⟨mt_mk_1_6, List.forall_mem_cons.mpr ⟨mt_mk_1_7, List.forall_mem_cons.mpr ⟨mt_mk_1_8, List.forall_mem_cons.mpr ⟨mt_mk_1_9, fun _ h => absurd h List.not_mem_nil⟩⟩⟩⟩⟩⟩⟩⟩⟩⟩
set_option maxRecDepth 100000 in
theorem mt_mk_2_0 : mt_mok 2 (54, 23, 4) := ⟨by decide, ⟨(lw_in3 (List.mem_of_getElem? (i := 233) rfl)), rfl⟩, ⟨(lw_in3 (List.mem_of_getElem? (i := 137) rfl)), rfl⟩, ⟨(lw_in1 (List.mem_of_getElem? (i := 20) rfl)), rfl⟩⟩
set_option maxRecDepth 100000 in
theorem mt_mk_2_1 : mt_mok 2 (60, 82, 0) := ⟨by decide, ⟨(lw_in4 (List.mem_of_getElem? (i := 174) rfl)), rfl⟩, ⟨(lw_in4 (List.mem_of_getElem? (i := 175) rfl)), rfl⟩, ⟨(lw_in4 (List.mem_of_getElem? (i := 176) rfl)), rfl⟩⟩
set_option maxRecDepth 100000 in
theorem mt_mk_2_2 : mt_mok 2 (66, 123, 0) := ⟨by decide, ⟨(lw_in5 (List.mem_of_getElem? (i := 103) rfl)), rfl⟩, ⟨(lw_in5 (List.mem_of_getElem? (i := 104) rfl)), rfl⟩, ⟨(lw_in5 (List.mem_of_getElem? (i := 105) rfl)), rfl⟩⟩
theorem mt_mok_2 : ∀ q ∈ mt_m_2, mt_mok 2 q := List.forall_mem_cons.mpr ⟨mt_mk_2_0, List.forall_mem_cons.mpr ⟨mt_mk_2_1, List.forall_mem_cons.mpr ⟨mt_mk_2_2, fun _ h => absurd h List.not_mem_nil⟩⟩⟩
set_option maxRecDepth 100000 in
theorem mt_mk_3_0 : mt_mok 3 (31, 4, 2) := ⟨by decide, ⟨(lw_in1 (List.mem_of_getElem? (i := 163) rfl)), rfl⟩, ⟨(lw_in1 (List.mem_of_getElem? (i := 164) rfl)), rfl⟩, rfl, ⟨(lw_in1 (List.mem_of_getElem? (i := 165) rfl)), rfl⟩⟩
set_option maxRecDepth 100000 in
theorem mt_mk_3_1 : mt_mok 3 (47, 19, 0) := ⟨by decide, ⟨(lw_in3 (List.mem_of_getElem? (i := 104) rfl)), rfl⟩, ⟨(lw_in3 (List.mem_of_getElem? (i := 105) rfl)), rfl⟩, ⟨(lw_in3 (List.mem_of_getElem? (i := 106) rfl)), rfl⟩⟩
set_option maxRecDepth 100000 in
theorem mt_mk_3_2 : mt_mok 3 (55, 20, 0) := ⟨by decide, ⟨(lw_in3 (List.mem_of_getElem? (i := 108) rfl)), rfl⟩, ⟨(lw_in3 (List.mem_of_getElem? (i := 109) rfl)), rfl⟩, ⟨(lw_in3 (List.mem_of_getElem? (i := 110) rfl)), rfl⟩⟩
set_option maxRecDepth 100000 in
theorem mt_mk_3_3 : mt_mok 3 (59, 21, 0) := ⟨by decide, ⟨(lw_in3 (List.mem_of_getElem? (i := 112) rfl)), rfl⟩, ⟨(lw_in3 (List.mem_of_getElem? (i := 114) rfl)), rfl⟩, ⟨List.mem_append_left _ (List.mem_of_getElem? (i := 1) rfl), rfl⟩⟩
set_option maxRecDepth 100000 in
theorem mt_mk_3_4 : mt_mok 3 (63, 22, 0) := ⟨by decide, ⟨(lw_in3 (List.mem_of_getElem? (i := 132) rfl)), rfl⟩, ⟨(lw_in3 (List.mem_of_getElem? (i := 133) rfl)), rfl⟩, ⟨(lw_in3 (List.mem_of_getElem? (i := 134) rfl)), rfl⟩⟩
set_option maxRecDepth 100000 in
theorem mt_mk_3_5 : mt_mok 3 (70, 38, 0) := ⟨by decide, ⟨(lw_in3 (List.mem_of_getElem? (i := 215) rfl)), rfl⟩, ⟨(lw_in3 (List.mem_of_getElem? (i := 217) rfl)), rfl⟩, ⟨List.mem_append_left _ (List.mem_of_getElem? (i := 7) rfl), rfl⟩⟩
set_option maxRecDepth 100000 in
theorem mt_mk_3_6 : mt_mok 3 (84, 24, 0) := ⟨by decide, ⟨(lw_in3 (List.mem_of_getElem? (i := 219) rfl)), rfl⟩, ⟨(lw_in3 (List.mem_of_getElem? (i := 140) rfl)), rfl⟩, ⟨(lw_in3 (List.mem_of_getElem? (i := 141) rfl)), rfl⟩⟩
set_option maxRecDepth 100000 in
theorem mt_mk_3_7 : mt_mok 3 (96, 37, 0) := ⟨by decide, ⟨(lw_in3 (List.mem_of_getElem? (i := 220) rfl)), rfl⟩, ⟨(lw_in3 (List.mem_of_getElem? (i := 212) rfl)), rfl⟩, ⟨(lw_in3 (List.mem_of_getElem? (i := 213) rfl)), rfl⟩⟩
set_option maxRecDepth 100000 in
theorem mt_mk_3_8 : mt_mok 3 (99, 39, 0) := ⟨by decide, ⟨(lw_in3 (List.mem_of_getElem? (i := 221) rfl)), rfl⟩, ⟨(lw_in3 (List.mem_of_getElem? (i := 223) rfl)), rfl⟩, ⟨List.mem_append_left _ (List.mem_of_getElem? (i := 8) rfl), rfl⟩⟩
set_option maxRecDepth 100000 in
theorem mt_mk_3_9 : mt_mok 3 (102, 40, 0) := ⟨by decide, ⟨(lw_in3 (List.mem_of_getElem? (i := 225) rfl)), rfl⟩, ⟨(lw_in3 (List.mem_of_getElem? (i := 227) rfl)), rfl⟩, ⟨List.mem_append_left _ (List.mem_of_getElem? (i := 9) rfl), rfl⟩⟩
set_option maxRecDepth 100000 in
theorem mt_mk_3_10 : mt_mok 3 (92, 41, 0) := ⟨by decide, ⟨(lw_in3 (List.mem_of_getElem? (i := 229) rfl)), rfl⟩, ⟨(lw_in3 (List.mem_of_getElem? (i := 230) rfl)), rfl⟩, ⟨(lw_in3 (List.mem_of_getElem? (i := 231) rfl)), rfl⟩⟩
set_option maxRecDepth 100000 in
theorem mt_mk_3_11 : mt_mok 3 (106, 42, 0) := ⟨by decide, ⟨(lw_in3 (List.mem_of_getElem? (i := 234) rfl)), rfl⟩, ⟨(lw_in3 (List.mem_of_getElem? (i := 236) rfl)), rfl⟩, ⟨List.mem_append_left _ (List.mem_of_getElem? (i := 10) rfl), rfl⟩⟩
set_option maxRecDepth 100000 in
theorem mt_mk_3_12 : mt_mok 3 (131, 43, 0) := ⟨by decide, ⟨(lw_in3 (List.mem_of_getElem? (i := 238) rfl)), rfl⟩, ⟨(lw_in4 (List.mem_of_getElem? (i := 0) rfl)), rfl⟩, ⟨List.mem_append_left _ (List.mem_of_getElem? (i := 11) rfl), rfl⟩⟩
set_option maxRecDepth 100000 in
theorem mt_mk_3_13 : mt_mok 3 (173, 44, 0) := ⟨by decide, ⟨(lw_in4 (List.mem_of_getElem? (i := 2) rfl)), rfl⟩, ⟨(lw_in4 (List.mem_of_getElem? (i := 3) rfl)), rfl⟩, ⟨(lw_in4 (List.mem_of_getElem? (i := 4) rfl)), rfl⟩⟩
set_option maxRecDepth 100000 in
theorem mt_mk_3_14 : mt_mok 3 (176, 46, 0) := ⟨by decide, ⟨(lw_in4 (List.mem_of_getElem? (i := 10) rfl)), rfl⟩, ⟨(lw_in4 (List.mem_of_getElem? (i := 11) rfl)), rfl⟩, ⟨(lw_in4 (List.mem_of_getElem? (i := 12) rfl)), rfl⟩⟩
set_option maxRecDepth 100000 in
theorem mt_mk_3_15 : mt_mok 3 (180, 47, 0) := ⟨by decide, ⟨(lw_in4 (List.mem_of_getElem? (i := 14) rfl)), rfl⟩, ⟨(lw_in4 (List.mem_of_getElem? (i := 15) rfl)), rfl⟩, ⟨(lw_in4 (List.mem_of_getElem? (i := 16) rfl)), rfl⟩⟩
set_option maxRecDepth 100000 in
theorem mt_mk_3_16 : mt_mok 3 (113, 48, 0) := ⟨by decide, ⟨(lw_in4 (List.mem_of_getElem? (i := 19) rfl)), rfl⟩, ⟨(lw_in4 (List.mem_of_getElem? (i := 21) rfl)), rfl⟩, ⟨List.mem_append_left _ (List.mem_of_getElem? (i := 13) rfl), rfl⟩⟩
set_option maxRecDepth 100000 in
theorem mt_mk_3_17 : mt_mok 3 (157, 49, 0) := ⟨by decide, ⟨(lw_in4 (List.mem_of_getElem? (i := 23) rfl)), rfl⟩, ⟨(lw_in4 (List.mem_of_getElem? (i := 25) rfl)), rfl⟩, ⟨List.mem_append_left _ (List.mem_of_getElem? (i := 14) rfl), rfl⟩⟩
set_option maxRecDepth 100000 in
theorem mt_mk_3_18 : mt_mok 3 (135, 50, 0) := ⟨by decide, ⟨(lw_in4 (List.mem_of_getElem? (i := 27) rfl)), rfl⟩, ⟨(lw_in4 (List.mem_of_getElem? (i := 29) rfl)), rfl⟩, ⟨List.mem_append_left _ (List.mem_of_getElem? (i := 15) rfl), rfl⟩⟩
set_option maxRecDepth 100000 in
theorem mt_mk_3_19 : mt_mok 3 (116, 51, 0) := ⟨by decide, ⟨(lw_in4 (List.mem_of_getElem? (i := 31) rfl)), rfl⟩, ⟨(lw_in4 (List.mem_of_getElem? (i := 33) rfl)), rfl⟩, ⟨List.mem_append_left _ (List.mem_of_getElem? (i := 16) rfl), rfl⟩⟩
set_option maxRecDepth 100000 in
theorem mt_mk_3_20 : mt_mok 3 (160, 52, 0) := ⟨by decide, ⟨(lw_in4 (List.mem_of_getElem? (i := 35) rfl)), rfl⟩, ⟨(lw_in4 (List.mem_of_getElem? (i := 37) rfl)), rfl⟩, ⟨List.mem_append_left _ (List.mem_of_getElem? (i := 17) rfl), rfl⟩⟩
set_option maxRecDepth 100000 in
theorem mt_mk_3_21 : mt_mok 3 (124, 53, 0) := ⟨by decide, ⟨(lw_in4 (List.mem_of_getElem? (i := 39) rfl)), rfl⟩, ⟨(lw_in4 (List.mem_of_getElem? (i := 41) rfl)), rfl⟩, ⟨List.mem_append_left _ (List.mem_of_getElem? (i := 18) rfl), rfl⟩⟩
set_option maxRecDepth 100000 in
theorem mt_mk_3_22 : mt_mok 3 (166, 54, 0) := ⟨by decide, ⟨(lw_in4 (List.mem_of_getElem? (i := 43) rfl)), rfl⟩, ⟨(lw_in4 (List.mem_of_getElem? (i := 44) rfl)), rfl⟩, ⟨(lw_in4 (List.mem_of_getElem? (i := 45) rfl)), rfl⟩⟩
theorem mt_mok_3 : ∀ q ∈ mt_m_3, mt_mok 3 q := List.forall_mem_cons.mpr ⟨mt_mk_3_0, List.forall_mem_cons.mpr ⟨mt_mk_3_1, List.forall_mem_cons.mpr ⟨mt_mk_3_2, List.forall_mem_cons.mpr ⟨mt_mk_3_3, List.forall_mem_cons.mpr ⟨mt_mk_3_4, List.forall_mem_cons.mpr ⟨mt_mk_3_5, List.forall_mem_cons.mpr ⟨mt_mk_3_6, List.forall_mem_cons.mpr ⟨mt_mk_3_7, List.forall_mem_cons.mpr ⟨mt_mk_3_8, List.forall_mem_cons.mpr ⟨mt_mk_3_9, List.forall_mem_cons.mpr ⟨mt_mk_3_10, List.forall_mem_cons.mpr ⟨mt_mk_3_11, List.forall_mem_cons.mpr ⟨mt_mk_3_12, List.forall_mem_cons.mpr ⟨mt_mk_3_13, List.forall_mem_cons.mpr ⟨mt_mk_3_14, List.forall_mem_cons.mpr ⟨mt_mk_3_15, List.forall_mem_cons.mpr ⟨mt_mk_3_16, List.forall_mem_cons.mpr ⟨mt_mk_3_17, List.forall_mem_cons.mpr ⟨mt_mk_3_18, List.forall_mem_cons.mpr ⟨mt_mk_3_19, List.forall_mem_cons.mpr ⟨mt_mk_3_20, List.forall_mem_cons.mpr ⟨mt_mk_3_21, List.forall_mem_cons.mpr ⟨mt_mk_3_22, fun _ h => absurd h List.not_mem_nil⟩⟩⟩⟩⟩⟩⟩⟩⟩⟩⟩⟩⟩⟩⟩⟩⟩⟩⟩⟩⟩⟩⟩
set_option maxRecDepth 100000 in
theorem mt_mk_4_0 : mt_mok 4 (29, 45, 0) := ⟨by decide, ⟨(lw_in4 (List.mem_of_getElem? (i := 6) rfl)), rfl⟩, ⟨(lw_in4 (List.mem_of_getElem? (i := 8) rfl)), rfl⟩, ⟨List.mem_append_left _ (List.mem_of_getElem? (i := 12) rfl), rfl⟩⟩
set_option maxRecDepth 100000 in
theorem mt_mk_4_1 : mt_mok 4 (33, 46, 0) := ⟨by decide, ⟨(lw_in4 (List.mem_of_getElem? (i := 18) rfl)), rfl⟩, ⟨(lw_in4 (List.mem_of_getElem? (i := 11) rfl)), rfl⟩, ⟨(lw_in4 (List.mem_of_getElem? (i := 12) rfl)), rfl⟩⟩
theorem mt_mok_4 : ∀ q ∈ mt_m_4, mt_mok 4 q := List.forall_mem_cons.mpr ⟨mt_mk_4_0, List.forall_mem_cons.mpr ⟨mt_mk_4_1, fun _ h => absurd h List.not_mem_nil⟩⟩
theorem mt_mok_5 : ∀ q ∈ mt_m_5, mt_mok 5 q := fun _ h => absurd h List.not_mem_nil
theorem mt_mok_6 : ∀ q ∈ mt_m_6, mt_mok 6 q := fun _ h => absurd h List.not_mem_nil
set_option maxRecDepth 100000 in
theorem mt_mk_7_0 : mt_mok 7 (11, 8, 3) := ⟨by decide, ⟨_, List.mem_of_getElem? (i := 4) rfl⟩, ⟨(lw_in2 (List.mem_of_getElem? (i := 28) rfl)), rfl⟩, rfl, ⟨(lw_in2 (List.mem_of_getElem? (i := 29) rfl)), rfl⟩⟩
set_option maxRecDepth 100000 in
theorem mt_mk_7_1 : mt_mok 7 (28, 9, 3) := ⟨by decide, ⟨_, List.mem_of_getElem? (i := 5) rfl⟩, ⟨(lw_in2 (List.mem_of_getElem? (i := 72) rfl)), rfl⟩, rfl, ⟨(lw_in2 (List.mem_of_getElem? (i := 73) rfl)), rfl⟩⟩
set_option maxRecDepth 100000 in
theorem mt_mk_7_2 : mt_mok 7 (35, 10, 2) := ⟨by decide, ⟨(lw_in2 (List.mem_of_getElem? (i := 109) rfl)), rfl⟩, ⟨(lw_in2 (List.mem_of_getElem? (i := 110) rfl)), rfl⟩, rfl, ⟨(lw_in2 (List.mem_of_getElem? (i := 111) rfl)), rfl⟩⟩
set_option maxRecDepth 100000 in
theorem mt_mk_7_3 : mt_mok 7 (42, 75, 0) := ⟨by decide, ⟨(lw_in4 (List.mem_of_getElem? (i := 146) rfl)), rfl⟩, ⟨(lw_in4 (List.mem_of_getElem? (i := 147) rfl)), rfl⟩, ⟨(lw_in4 (List.mem_of_getElem? (i := 148) rfl)), rfl⟩⟩
set_option maxRecDepth 100000 in
theorem mt_mk_7_4 : mt_mok 7 (53, 76, 4) := ⟨by decide, ⟨(lw_in4 (List.mem_of_getElem? (i := 150) rfl)), rfl⟩, ⟨(lw_in4 (List.mem_of_getElem? (i := 151) rfl)), rfl⟩, ⟨(lw_in1 (List.mem_of_getElem? (i := 20) rfl)), rfl⟩⟩
set_option maxRecDepth 100000 in
theorem mt_mk_7_5 : mt_mok 7 (59, 77, 0) := ⟨by decide, ⟨(lw_in4 (List.mem_of_getElem? (i := 153) rfl)), rfl⟩, ⟨(lw_in4 (List.mem_of_getElem? (i := 155) rfl)), rfl⟩, ⟨List.mem_append_left _ (List.mem_of_getElem? (i := 21) rfl), rfl⟩⟩
set_option maxRecDepth 100000 in
theorem mt_mk_7_6 : mt_mok 7 (88, 78, 0) := ⟨by decide, ⟨(lw_in4 (List.mem_of_getElem? (i := 157) rfl)), rfl⟩, ⟨(lw_in4 (List.mem_of_getElem? (i := 158) rfl)), rfl⟩, ⟨(lw_in4 (List.mem_of_getElem? (i := 159) rfl)), rfl⟩⟩
set_option maxRecDepth 100000 in
theorem mt_mk_7_7 : mt_mok 7 (91, 79, 0) := ⟨by decide, ⟨(lw_in4 (List.mem_of_getElem? (i := 161) rfl)), rfl⟩, ⟨(lw_in4 (List.mem_of_getElem? (i := 162) rfl)), rfl⟩, ⟨(lw_in4 (List.mem_of_getElem? (i := 163) rfl)), rfl⟩⟩
set_option maxRecDepth 100000 in
theorem mt_mk_7_8 : mt_mok 7 (63, 80, 0) := ⟨by decide, ⟨(lw_in4 (List.mem_of_getElem? (i := 166) rfl)), rfl⟩, ⟨(lw_in4 (List.mem_of_getElem? (i := 168) rfl)), rfl⟩, ⟨List.mem_append_left _ (List.mem_of_getElem? (i := 22) rfl), rfl⟩⟩
set_option maxRecDepth 100000 in
theorem mt_mk_7_9 : mt_mok 7 (97, 81, 0) := ⟨by decide, ⟨(lw_in4 (List.mem_of_getElem? (i := 170) rfl)), rfl⟩, ⟨(lw_in4 (List.mem_of_getElem? (i := 171) rfl)), rfl⟩, ⟨(lw_in4 (List.mem_of_getElem? (i := 172) rfl)), rfl⟩⟩
set_option maxRecDepth 100000 in
theorem mt_mk_7_10 : mt_mok 7 (111, 83, 0) := ⟨by decide, ⟨(lw_in4 (List.mem_of_getElem? (i := 178) rfl)), rfl⟩, ⟨(lw_in4 (List.mem_of_getElem? (i := 180) rfl)), rfl⟩, ⟨List.mem_append_left _ (List.mem_of_getElem? (i := 23) rfl), rfl⟩⟩
set_option maxRecDepth 100000 in
theorem mt_mk_7_11 : mt_mok 7 (103, 84, 0) := ⟨by decide, ⟨(lw_in4 (List.mem_of_getElem? (i := 182) rfl)), rfl⟩, ⟨(lw_in4 (List.mem_of_getElem? (i := 183) rfl)), rfl⟩, ⟨(lw_in4 (List.mem_of_getElem? (i := 184) rfl)), rfl⟩⟩
set_option maxRecDepth 100000 in
theorem mt_mk_7_12 : mt_mok 7 (150, 85, 0) := ⟨by decide, ⟨(lw_in4 (List.mem_of_getElem? (i := 186) rfl)), rfl⟩, ⟨(lw_in4 (List.mem_of_getElem? (i := 187) rfl)), rfl⟩, ⟨(lw_in4 (List.mem_of_getElem? (i := 188) rfl)), rfl⟩⟩
set_option maxRecDepth 100000 in
theorem mt_mk_7_13 : mt_mok 7 (114, 86, 0) := ⟨by decide, ⟨(lw_in4 (List.mem_of_getElem? (i := 190) rfl)), rfl⟩, ⟨(lw_in4 (List.mem_of_getElem? (i := 192) rfl)), rfl⟩, ⟨List.mem_append_left _ (List.mem_of_getElem? (i := 24) rfl), rfl⟩⟩
set_option maxRecDepth 100000 in
theorem mt_mk_7_14 : mt_mok 7 (153, 87, 0) := ⟨by decide, ⟨(lw_in4 (List.mem_of_getElem? (i := 194) rfl)), rfl⟩, ⟨(lw_in4 (List.mem_of_getElem? (i := 195) rfl)), rfl⟩, ⟨(lw_in4 (List.mem_of_getElem? (i := 196) rfl)), rfl⟩⟩
set_option maxRecDepth 100000 in
theorem mt_mk_7_15 : mt_mok 7 (139, 98, 0) := ⟨by decide, ⟨(lw_in4 (List.mem_of_getElem? (i := 239) rfl)), rfl⟩, ⟨(lw_in5 (List.mem_of_getElem? (i := 0) rfl)), rfl⟩, ⟨(lw_in5 (List.mem_of_getElem? (i := 1) rfl)), rfl⟩⟩
set_option maxRecDepth 100000 in
theorem mt_mk_7_16 : mt_mok 7 (166, 88, 0) := ⟨by decide, ⟨(lw_in5 (List.mem_of_getElem? (i := 3) rfl)), rfl⟩, ⟨(lw_in4 (List.mem_of_getElem? (i := 200) rfl)), rfl⟩, ⟨(lw_in4 (List.mem_of_getElem? (i := 201) rfl)), rfl⟩⟩
set_option maxRecDepth 100000 in
theorem mt_mk_7_17 : mt_mok 7 (169, 99, 4) := ⟨by decide, ⟨(lw_in5 (List.mem_of_getElem? (i := 4) rfl)), rfl⟩, ⟨(lw_in5 (List.mem_of_getElem? (i := 5) rfl)), rfl⟩, ⟨(lw_in1 (List.mem_of_getElem? (i := 20) rfl)), rfl⟩⟩
set_option maxRecDepth 100000 in
theorem mt_mk_7_18 : mt_mok 7 (172, 100, 0) := ⟨by decide, ⟨(lw_in5 (List.mem_of_getElem? (i := 7) rfl)), rfl⟩, ⟨(lw_in5 (List.mem_of_getElem? (i := 8) rfl)), rfl⟩, ⟨(lw_in5 (List.mem_of_getElem? (i := 9) rfl)), rfl⟩⟩
set_option maxRecDepth 100000 in
theorem mt_mk_7_19 : mt_mok 7 (122, 92, 0) := ⟨by decide, ⟨(lw_in5 (List.mem_of_getElem? (i := 12) rfl)), rfl⟩, ⟨(lw_in4 (List.mem_of_getElem? (i := 219) rfl)), rfl⟩, ⟨(lw_in4 (List.mem_of_getElem? (i := 220) rfl)), rfl⟩⟩
set_option maxRecDepth 100000 in
theorem mt_mk_7_20 : mt_mok 7 (132, 101, 0) := ⟨by decide, ⟨(lw_in5 (List.mem_of_getElem? (i := 13) rfl)), rfl⟩, ⟨(lw_in5 (List.mem_of_getElem? (i := 15) rfl)), rfl⟩, ⟨List.mem_append_left _ (List.mem_of_getElem? (i := 27) rfl), rfl⟩⟩
set_option maxRecDepth 100000 in
theorem mt_mk_7_21 : mt_mok 7 (136, 102, 0) := ⟨by decide, ⟨(lw_in5 (List.mem_of_getElem? (i := 17) rfl)), rfl⟩, ⟨(lw_in5 (List.mem_of_getElem? (i := 19) rfl)), rfl⟩, ⟨List.mem_append_left _ (List.mem_of_getElem? (i := 28) rfl), rfl⟩⟩
set_option maxRecDepth 100000 in
theorem mt_mk_7_22 : mt_mok 7 (180, 103, 0) := ⟨by decide, ⟨(lw_in5 (List.mem_of_getElem? (i := 21) rfl)), rfl⟩, ⟨(lw_in5 (List.mem_of_getElem? (i := 22) rfl)), rfl⟩, ⟨(lw_in5 (List.mem_of_getElem? (i := 23) rfl)), rfl⟩⟩
set_option maxRecDepth 100000 in
theorem mt_mk_7_23 : mt_mok 7 (183, 104, 0) := ⟨by decide, ⟨(lw_in5 (List.mem_of_getElem? (i := 25) rfl)), rfl⟩, ⟨(lw_in5 (List.mem_of_getElem? (i := 26) rfl)), rfl⟩, ⟨(lw_in5 (List.mem_of_getElem? (i := 27) rfl)), rfl⟩⟩
set_option maxRecDepth 100000 in
theorem mt_mk_7_24 : mt_mok 7 (72, 105, 0) := ⟨by decide, ⟨(lw_in5 (List.mem_of_getElem? (i := 29) rfl)), rfl⟩, ⟨(lw_in5 (List.mem_of_getElem? (i := 31) rfl)), rfl⟩, ⟨List.mem_append_left _ (List.mem_of_getElem? (i := 29) rfl), rfl⟩⟩
set_option maxRecDepth 100000 in
theorem mt_mk_7_25 : mt_mok 7 (187, 82, 0) := ⟨by decide, ⟨(lw_in5 (List.mem_of_getElem? (i := 33) rfl)), rfl⟩, ⟨(lw_in4 (List.mem_of_getElem? (i := 175) rfl)), rfl⟩, ⟨(lw_in4 (List.mem_of_getElem? (i := 176) rfl)), rfl⟩⟩
set_option maxRecDepth 100000 in
theorem mt_mk_7_26 : mt_mok 7 (190, 106, 0) := ⟨by decide, ⟨(lw_in5 (List.mem_of_getElem? (i := 34) rfl)), rfl⟩, ⟨(lw_in5 (List.mem_of_getElem? (i := 36) rfl)), rfl⟩, ⟨List.mem_append_left _ (List.mem_of_getElem? (i := 30) rfl), rfl⟩⟩
set_option maxRecDepth 100000 in
theorem mt_mk_7_27 : mt_mok 7 (205, 107, 0) := ⟨by decide, ⟨(lw_in5 (List.mem_of_getElem? (i := 38) rfl)), rfl⟩, ⟨(lw_in5 (List.mem_of_getElem? (i := 39) rfl)), rfl⟩, ⟨(lw_in5 (List.mem_of_getElem? (i := 40) rfl)), rfl⟩⟩
set_option maxRecDepth 100000 in
theorem mt_mk_7_28 : mt_mok 7 (197, 108, 0) := ⟨by decide, ⟨(lw_in5 (List.mem_of_getElem? (i := 42) rfl)), rfl⟩, ⟨(lw_in5 (List.mem_of_getElem? (i := 44) rfl)), rfl⟩, ⟨List.mem_append_left _ (List.mem_of_getElem? (i := 31) rfl), rfl⟩⟩
set_option maxRecDepth 100000 in
theorem mt_mk_7_29 : mt_mok 7 (211, 109, 0) := ⟨by decide, ⟨(lw_in5 (List.mem_of_getElem? (i := 46) rfl)), rfl⟩, ⟨(lw_in5 (List.mem_of_getElem? (i := 47) rfl)), rfl⟩, ⟨(lw_in5 (List.mem_of_getElem? (i := 48) rfl)), rfl⟩⟩
set_option maxRecDepth 100000 in
theorem mt_mk_7_30 : mt_mok 7 (214, 110, 0) := ⟨by decide, ⟨(lw_in5 (List.mem_of_getElem? (i := 50) rfl)), rfl⟩, ⟨(lw_in5 (List.mem_of_getElem? (i := 52) rfl)), rfl⟩, ⟨List.mem_append_left _ (List.mem_of_getElem? (i := 32) rfl), rfl⟩⟩
set_option maxRecDepth 100000 in
theorem mt_mk_7_31 : mt_mok 7 (217, 111, 0) := ⟨by decide, ⟨(lw_in5 (List.mem_of_getElem? (i := 54) rfl)), rfl⟩, ⟨(lw_in5 (List.mem_of_getElem? (i := 55) rfl)), rfl⟩, ⟨(lw_in5 (List.mem_of_getElem? (i := 56) rfl)), rfl⟩⟩
set_option maxRecDepth 100000 in
theorem mt_mk_7_32 : mt_mok 7 (76, 112, 0) := ⟨by decide, ⟨(lw_in5 (List.mem_of_getElem? (i := 58) rfl)), rfl⟩, ⟨(lw_in5 (List.mem_of_getElem? (i := 59) rfl)), rfl⟩, ⟨(lw_in5 (List.mem_of_getElem? (i := 60) rfl)), rfl⟩⟩
theorem mt_mok_7 : ∀ q ∈ mt_m_7, mt_mok 7 q := List.forall_mem_cons.mpr ⟨mt_mk_7_0, List.forall_mem_cons.mpr ⟨mt_mk_7_1, List.forall_mem_cons.mpr ⟨mt_mk_7_2, List.forall_mem_cons.mpr ⟨mt_mk_7_3, List.forall_mem_cons.mpr ⟨mt_mk_7_4, List.forall_mem_cons.mpr ⟨mt_mk_7_5, List.forall_mem_cons.mpr ⟨mt_mk_7_6, List.forall_mem_cons.mpr ⟨mt_mk_7_7, List.forall_mem_cons.mpr ⟨mt_mk_7_8, List.forall_mem_cons.mpr ⟨mt_mk_7_9, List.forall_mem_cons.mpr ⟨mt_mk_7_10, List.forall_mem_cons.mpr ⟨mt_mk_7_11, List.forall_mem_cons.mpr ⟨mt_mk_7_12, List.forall_mem_cons.mpr ⟨mt_mk_7_13, List.forall_mem_cons.mpr ⟨mt_mk_7_14, List.forall_mem_cons.mpr ⟨mt_mk_7_15, List.forall_mem_cons.mpr ⟨mt_mk_7_16, List.forall_mem_cons.mpr ⟨mt_mk_7_17, List.forall_mem_cons.mpr ⟨mt_mk_7_18, List.forall_mem_cons.mpr ⟨mt_mk_7_19, List.forall_mem_cons.mpr ⟨mt_mk_7_20, List.forall_mem_cons.mpr ⟨mt_mk_7_21, List.forall_mem_cons.mpr ⟨mt_mk_7_22, List.forall_mem_cons.mpr ⟨mt_mk_7_23, List.forall_mem_cons.mpr ⟨mt_mk_7_24, List.forall_mem_cons.mpr ⟨mt_mk_7_25, List.forall_mem_cons.mpr ⟨mt_mk_7_26, List.forall_mem_cons.mpr ⟨mt_mk_7_27, List.forall_mem_cons.mpr ⟨mt_mk_7_28, List.forall_mem_cons.mpr ⟨mt_mk_7_29, List.forall_mem_cons.mpr ⟨mt_mk_7_30, List.forall_mem_cons.mpr ⟨mt_mk_7_31, List.forall_mem_cons.mpr ⟨mt_mk_7_32, fun _ h => absurd h List.not_mem_nil⟩⟩⟩⟩⟩⟩⟩⟩⟩⟩⟩⟩⟩⟩⟩⟩⟩⟩⟩⟩⟩⟩⟩⟩⟩⟩⟩⟩⟩⟩⟩⟩⟩
theorem mt_mok_8 : ∀ q ∈ mt_m_8, mt_mok 8 q := fun _ h => absurd h List.not_mem_nil
set_option maxRecDepth 100000 in
theorem mt_mk_9_0 : mt_mok 9 (29, 57, 4) := ⟨by decide, ⟨(lw_in4 (List.mem_of_getElem? (i := 55) rfl)), rfl⟩, ⟨(lw_in4 (List.mem_of_getElem? (i := 56) rfl)), rfl⟩, ⟨(lw_in1 (List.mem_of_getElem? (i := 25) rfl)), rfl⟩⟩
theorem mt_mok_9 : ∀ q ∈ mt_m_9, mt_mok 9 q := List.forall_mem_cons.mpr ⟨mt_mk_9_0, fun _ h => absurd h List.not_mem_nil⟩
set_option maxRecDepth 100000 in
theorem mt_mk_10_0 : mt_mok 10 (30, 82, 0) := ⟨by decide, ⟨(lw_in4 (List.mem_of_getElem? (i := 198) rfl)), rfl⟩, ⟨(lw_in4 (List.mem_of_getElem? (i := 175) rfl)), rfl⟩, ⟨(lw_in4 (List.mem_of_getElem? (i := 176) rfl)), rfl⟩⟩
set_option maxRecDepth 100000 in
theorem mt_mk_10_1 : mt_mok 10 (56, 88, 0) := ⟨by decide, ⟨(lw_in4 (List.mem_of_getElem? (i := 199) rfl)), rfl⟩, ⟨(lw_in4 (List.mem_of_getElem? (i := 200) rfl)), rfl⟩, ⟨(lw_in4 (List.mem_of_getElem? (i := 201) rfl)), rfl⟩⟩
set_option maxRecDepth 100000 in
theorem mt_mk_10_2 : mt_mok 10 (62, 89, 0) := ⟨by decide, ⟨(lw_in4 (List.mem_of_getElem? (i := 203) rfl)), rfl⟩, ⟨(lw_in4 (List.mem_of_getElem? (i := 204) rfl)), rfl⟩, ⟨(lw_in4 (List.mem_of_getElem? (i := 205) rfl)), rfl⟩⟩
set_option maxRecDepth 100000 in
theorem mt_mk_10_3 : mt_mok 10 (66, 90, 0) := ⟨by decide, ⟨(lw_in4 (List.mem_of_getElem? (i := 207) rfl)), rfl⟩, ⟨(lw_in4 (List.mem_of_getElem? (i := 208) rfl)), rfl⟩, ⟨(lw_in4 (List.mem_of_getElem? (i := 209) rfl)), rfl⟩⟩
set_option maxRecDepth 100000 in
theorem mt_mk_10_4 : mt_mok 10 (69, 91, 0) := ⟨by decide, ⟨(lw_in4 (List.mem_of_getElem? (i := 211) rfl)), rfl⟩, ⟨(lw_in4 (List.mem_of_getElem? (i := 213) rfl)), rfl⟩, ⟨List.mem_append_left _ (List.mem_of_getElem? (i := 25) rfl), rfl⟩⟩
set_option maxRecDepth 100000 in
theorem mt_mk_10_5 : mt_mok 10 (73, 87, 0) := ⟨by decide, ⟨(lw_in4 (List.mem_of_getElem? (i := 217) rfl)), rfl⟩, ⟨(lw_in4 (List.mem_of_getElem? (i := 195) rfl)), rfl⟩, ⟨(lw_in4 (List.mem_of_getElem? (i := 196) rfl)), rfl⟩⟩
set_option maxRecDepth 100000 in
theorem mt_mk_10_6 : mt_mok 10 (76, 92, 0) := ⟨by decide, ⟨(lw_in4 (List.mem_of_getElem? (i := 218) rfl)), rfl⟩, ⟨(lw_in4 (List.mem_of_getElem? (i := 219) rfl)), rfl⟩, ⟨(lw_in4 (List.mem_of_getElem? (i := 220) rfl)), rfl⟩⟩
set_option maxRecDepth 100000 in
theorem mt_mk_10_7 : mt_mok 10 (90, 93, 0) := ⟨by decide, ⟨(lw_in4 (List.mem_of_getElem? (i := 222) rfl)), rfl⟩, ⟨(lw_in4 (List.mem_of_getElem? (i := 223) rfl)), rfl⟩, ⟨(lw_in4 (List.mem_of_getElem? (i := 224) rfl)), rfl⟩⟩
set_option maxRecDepth 100000 in
theorem mt_mk_10_8 : mt_mok 10 (93, 94, 4) := ⟨by decide, ⟨(lw_in4 (List.mem_of_getElem? (i := 226) rfl)), rfl⟩, ⟨(lw_in4 (List.mem_of_getElem? (i := 227) rfl)), rfl⟩, ⟨(lw_in1 (List.mem_of_getElem? (i := 11) rfl)), rfl⟩⟩
set_option maxRecDepth 100000 in
theorem mt_mk_10_9 : mt_mok 10 (83, 95, 0) := ⟨by decide, ⟨(lw_in4 (List.mem_of_getElem? (i := 229) rfl)), rfl⟩, ⟨(lw_in4 (List.mem_of_getElem? (i := 231) rfl)), rfl⟩, ⟨List.mem_append_left _ (List.mem_of_getElem? (i := 26) rfl), rfl⟩⟩
set_option maxRecDepth 100000 in
theorem mt_mk_10_10 : mt_mok 10 (97, 96, 4) := ⟨by decide, ⟨(lw_in4 (List.mem_of_getElem? (i := 233) rfl)), rfl⟩, ⟨(lw_in4 (List.mem_of_getElem? (i := 234) rfl)), rfl⟩, ⟨(lw_in1 (List.mem_of_getElem? (i := 20) rfl)), rfl⟩⟩
set_option maxRecDepth 100000 in
theorem mt_mk_10_11 : mt_mok 10 (87, 97, 4) := ⟨by decide, ⟨(lw_in4 (List.mem_of_getElem? (i := 236) rfl)), rfl⟩, ⟨(lw_in4 (List.mem_of_getElem? (i := 237) rfl)), rfl⟩, ⟨(lw_in1 (List.mem_of_getElem? (i := 11) rfl)), rfl⟩⟩
theorem mt_mok_10 : ∀ q ∈ mt_m_10, mt_mok 10 q := List.forall_mem_cons.mpr ⟨mt_mk_10_0, List.forall_mem_cons.mpr ⟨mt_mk_10_1, List.forall_mem_cons.mpr ⟨mt_mk_10_2, List.forall_mem_cons.mpr ⟨mt_mk_10_3, List.forall_mem_cons.mpr ⟨mt_mk_10_4, List.forall_mem_cons.mpr ⟨mt_mk_10_5, List.forall_mem_cons.mpr ⟨mt_mk_10_6, List.forall_mem_cons.mpr ⟨mt_mk_10_7, List.forall_mem_cons.mpr ⟨mt_mk_10_8, List.forall_mem_cons.mpr ⟨mt_mk_10_9, List.forall_mem_cons.mpr ⟨mt_mk_10_10, List.forall_mem_cons.mpr ⟨mt_mk_10_11, fun _ h => absurd h List.not_mem_nil⟩⟩⟩⟩⟩⟩⟩⟩⟩⟩⟩⟩
set_option maxRecDepth 100000 in
theorem mt_mk_11_0 : mt_mok 11 (11, 6, 3) := ⟨by decide, ⟨_, List.mem_of_getElem? (i := 6) rfl⟩, ⟨(lw_in1 (List.mem_of_getElem? (i := 229) rfl)), rfl⟩, rfl, ⟨(lw_in1 (List.mem_of_getElem? (i := 230) rfl)), rfl⟩⟩
set_option maxRecDepth 100000 in
theorem mt_mk_11_1 : mt_mok 11 (47, 7, 2) := ⟨by decide, ⟨(lw_in2 (List.mem_of_getElem? (i := 169) rfl)), rfl⟩, ⟨(lw_in2 (List.mem_of_getElem? (i := 22) rfl)), rfl⟩, rfl, ⟨(lw_in2 (List.mem_of_getElem? (i := 23) rfl)), rfl⟩⟩
set_option maxRecDepth 100000 in
theorem mt_mk_11_2 : mt_mok 11 (54, 9, 3) := ⟨by decide, ⟨_, List.mem_of_getElem? (i := 7) rfl⟩, ⟨(lw_in2 (List.mem_of_getElem? (i := 72) rfl)), rfl⟩, rfl, ⟨(lw_in2 (List.mem_of_getElem? (i := 73) rfl)), rfl⟩⟩
set_option maxRecDepth 100000 in
theorem mt_mk_11_3 : mt_mok 11 (57, 10, 2) := ⟨by decide, ⟨(lw_in2 (List.mem_of_getElem? (i := 172) rfl)), rfl⟩, ⟨(lw_in2 (List.mem_of_getElem? (i := 110) rfl)), rfl⟩, rfl, ⟨(lw_in2 (List.mem_of_getElem? (i := 111) rfl)), rfl⟩⟩
set_option maxRecDepth 100000 in
theorem mt_mk_11_4 : mt_mok 11 (74, 122, 0) := ⟨by decide, ⟨(lw_in5 (List.mem_of_getElem? (i := 99) rfl)), rfl⟩, ⟨(lw_in5 (List.mem_of_getElem? (i := 100) rfl)), rfl⟩, ⟨(lw_in5 (List.mem_of_getElem? (i := 101) rfl)), rfl⟩⟩
set_option maxRecDepth 100000 in
theorem mt_mk_11_5 : mt_mok 11 (80, 73, 0) := ⟨by decide, ⟨(lw_in5 (List.mem_of_getElem? (i := 108) rfl)), rfl⟩, ⟨(lw_in4 (List.mem_of_getElem? (i := 136) rfl)), rfl⟩, ⟨(lw_in4 (List.mem_of_getElem? (i := 137) rfl)), rfl⟩⟩
set_option maxRecDepth 100000 in
theorem mt_mk_11_6 : mt_mok 11 (84, 124, 0) := ⟨by decide, ⟨(lw_in5 (List.mem_of_getElem? (i := 109) rfl)), rfl⟩, ⟨(lw_in5 (List.mem_of_getElem? (i := 111) rfl)), rfl⟩, ⟨List.mem_append_left _ (List.mem_of_getElem? (i := 33) rfl), rfl⟩⟩
set_option maxRecDepth 100000 in
theorem mt_mk_11_7 : mt_mok 11 (99, 125, 0) := ⟨by decide, ⟨(lw_in5 (List.mem_of_getElem? (i := 113) rfl)), rfl⟩, ⟨(lw_in5 (List.mem_of_getElem? (i := 114) rfl)), rfl⟩, ⟨(lw_in5 (List.mem_of_getElem? (i := 115) rfl)), rfl⟩⟩
set_option maxRecDepth 100000 in
theorem mt_mk_11_8 : mt_mok 11 (103, 126, 0) := ⟨by decide, ⟨(lw_in5 (List.mem_of_getElem? (i := 117) rfl)), rfl⟩, ⟨(lw_in5 (List.mem_of_getElem? (i := 119) rfl)), rfl⟩, ⟨List.mem_append_left _ (List.mem_of_getElem? (i := 34) rfl), rfl⟩⟩
set_option maxRecDepth 100000 in
theorem mt_mk_11_9 : mt_mok 11 (107, 81, 0) := ⟨by decide, ⟨(lw_in5 (List.mem_of_getElem? (i := 121) rfl)), rfl⟩, ⟨(lw_in4 (List.mem_of_getElem? (i := 171) rfl)), rfl⟩, ⟨(lw_in4 (List.mem_of_getElem? (i := 172) rfl)), rfl⟩⟩
set_option maxRecDepth 100000 in
theorem mt_mk_11_10 : mt_mok 11 (114, 82, 0) := ⟨by decide, ⟨(lw_in5 (List.mem_of_getElem? (i := 122) rfl)), rfl⟩, ⟨(lw_in4 (List.mem_of_getElem? (i := 175) rfl)), rfl⟩, ⟨(lw_in4 (List.mem_of_getElem? (i := 176) rfl)), rfl⟩⟩
set_option maxRecDepth 100000 in
theorem mt_mk_11_11 : mt_mok 11 (117, 127, 0) := ⟨by decide, ⟨(lw_in5 (List.mem_of_getElem? (i := 123) rfl)), rfl⟩, ⟨(lw_in5 (List.mem_of_getElem? (i := 125) rfl)), rfl⟩, ⟨List.mem_append_left _ (List.mem_of_getElem? (i := 35) rfl), rfl⟩⟩
set_option maxRecDepth 100000 in
theorem mt_mk_11_12 : mt_mok 11 (128, 78, 0) := ⟨by decide, ⟨(lw_in5 (List.mem_of_getElem? (i := 127) rfl)), rfl⟩, ⟨(lw_in4 (List.mem_of_getElem? (i := 158) rfl)), rfl⟩, ⟨(lw_in4 (List.mem_of_getElem? (i := 159) rfl)), rfl⟩⟩
set_option maxRecDepth 100000 in
theorem mt_mk_11_13 : mt_mok 11 (135, 123, 0) := ⟨by decide, ⟨(lw_in5 (List.mem_of_getElem? (i := 128) rfl)), rfl⟩, ⟨(lw_in5 (List.mem_of_getElem? (i := 104) rfl)), rfl⟩, ⟨(lw_in5 (List.mem_of_getElem? (i := 105) rfl)), rfl⟩⟩
set_option maxRecDepth 100000 in
theorem mt_mk_11_14 : mt_mok 11 (138, 128, 0) := ⟨by decide, ⟨(lw_in5 (List.mem_of_getElem? (i := 129) rfl)), rfl⟩, ⟨(lw_in5 (List.mem_of_getElem? (i := 130) rfl)), rfl⟩, ⟨(lw_in5 (List.mem_of_getElem? (i := 131) rfl)), rfl⟩⟩
set_option maxRecDepth 100000 in
theorem mt_mk_11_15 : mt_mok 11 (145, 87, 0) := ⟨by decide, ⟨(lw_in5 (List.mem_of_getElem? (i := 133) rfl)), rfl⟩, ⟨(lw_in4 (List.mem_of_getElem? (i := 195) rfl)), rfl⟩, ⟨(lw_in4 (List.mem_of_getElem? (i := 196) rfl)), rfl⟩⟩
set_option maxRecDepth 100000 in
theorem mt_mk_11_16 : mt_mok 11 (148, 92, 0) := ⟨by decide, ⟨(lw_in5 (List.mem_of_getElem? (i := 134) rfl)), rfl⟩, ⟨(lw_in4 (List.mem_of_getElem? (i := 219) rfl)), rfl⟩, ⟨(lw_in4 (List.mem_of_getElem? (i := 220) rfl)), rfl⟩⟩
set_option maxRecDepth 100000 in
theorem mt_mk_11_17 : mt_mok 11 (87, 129, 0) := ⟨by decide, ⟨(lw_in5 (List.mem_of_getElem? (i := 135) rfl)), rfl⟩, ⟨(lw_in5 (List.mem_of_getElem? (i := 137) rfl)), rfl⟩, ⟨List.mem_append_left _ (List.mem_of_getElem? (i := 36) rfl), rfl⟩⟩
set_option maxRecDepth 100000 in
theorem mt_mk_11_18 : mt_mok 11 (155, 130, 0) := ⟨by decide, ⟨(lw_in5 (List.mem_of_getElem? (i := 139) rfl)), rfl⟩, ⟨(lw_in5 (List.mem_of_getElem? (i := 141) rfl)), rfl⟩, ⟨List.mem_append_left _ (List.mem_of_getElem? (i := 37) rfl), rfl⟩⟩
set_option maxRecDepth 100000 in
theorem mt_mk_11_19 : mt_mok 11 (175, 65, 0) := ⟨by decide, ⟨(lw_in5 (List.mem_of_getElem? (i := 143) rfl)), rfl⟩, ⟨(lw_in4 (List.mem_of_getElem? (i := 89) rfl)), rfl⟩, ⟨(lw_in4 (List.mem_of_getElem? (i := 90) rfl)), rfl⟩⟩
set_option maxRecDepth 100000 in
theorem mt_mk_11_20 : mt_mok 11 (159, 74, 0) := ⟨by decide, ⟨(lw_in5 (List.mem_of_getElem? (i := 144) rfl)), rfl⟩, ⟨(lw_in4 (List.mem_of_getElem? (i := 143) rfl)), rfl⟩, ⟨(lw_in4 (List.mem_of_getElem? (i := 144) rfl)), rfl⟩⟩
theorem mt_mok_11 : ∀ q ∈ mt_m_11, mt_mok 11 q := List.forall_mem_cons.mpr ⟨mt_mk_11_0, List.forall_mem_cons.mpr ⟨mt_mk_11_1, List.forall_mem_cons.mpr ⟨mt_mk_11_2, List.forall_mem_cons.mpr ⟨mt_mk_11_3, List.forall_mem_cons.mpr ⟨mt_mk_11_4, List.forall_mem_cons.mpr ⟨mt_mk_11_5, List.forall_mem_cons.mpr ⟨mt_mk_11_6, List.forall_mem_cons.mpr ⟨mt_mk_11_7, List.forall_mem_cons.mpr ⟨mt_mk_11_8, List.forall_mem_cons.mpr ⟨mt_mk_11_9, List.forall_mem_cons.mpr ⟨mt_mk_11_10, List.forall_mem_cons.mpr ⟨mt_mk_11_11, List.forall_mem_cons.mpr ⟨mt_mk_11_12, List.forall_mem_cons.mpr ⟨mt_mk_11_13, List.forall_mem_cons.mpr ⟨mt_mk_11_14, List.forall_mem_cons.mpr ⟨mt_mk_11_15, List.forall_mem_cons.mpr ⟨mt_mk_11_16, List.forall_mem_cons.mpr ⟨mt_mk_11_17, List.forall_mem_cons.mpr ⟨mt_mk_11_18, List.forall_mem_cons.mpr ⟨mt_mk_11_19, List.forall_mem_cons.mpr ⟨mt_mk_11_20, fun _ h => absurd h List.not_mem_nil⟩⟩⟩⟩⟩⟩⟩⟩⟩⟩⟩⟩⟩⟩⟩⟩⟩⟩⟩⟩⟩
set_option maxRecDepth 100000 in
theorem mt_mk_12_0 : mt_mok 12 (146, 137, 3) := ⟨by decide, ⟨_, List.mem_of_getElem? (i := 9) rfl⟩, ⟨(lw_in5 (List.mem_of_getElem? (i := 201) rfl)), rfl⟩, rfl, ⟨(lw_in5 (List.mem_of_getElem? (i := 202) rfl)), rfl⟩⟩
set_option maxRecDepth 100000 in
theorem mt_mk_12_1 : mt_mok 12 (254, 140, 0) := ⟨by decide, ⟨(lw_in7 (List.mem_of_getElem? (i := 27) rfl)), rfl⟩, ⟨(lw_in7 (List.mem_of_getElem? (i := 29) rfl)), rfl⟩, ⟨List.mem_append_left _ (List.mem_of_getElem? (i := 39) rfl), rfl⟩⟩
set_option maxRecDepth 100000 in
theorem mt_mk_12_2 : mt_mok 12 (268, 142, 4) := ⟨by decide, ⟨(lw_in7 (List.mem_of_getElem? (i := 37) rfl)), rfl⟩, ⟨(lw_in7 (List.mem_of_getElem? (i := 38) rfl)), rfl⟩, ⟨(lw_in1 (List.mem_of_getElem? (i := 13) rfl)), rfl⟩⟩
set_option maxRecDepth 100000 in
theorem mt_mk_12_3 : mt_mok 12 (272, 143, 0) := ⟨by decide, ⟨(lw_in7 (List.mem_of_getElem? (i := 40) rfl)), rfl⟩, ⟨(lw_in7 (List.mem_of_getElem? (i := 42) rfl)), rfl⟩, ⟨List.mem_append_left _ (List.mem_of_getElem? (i := 40) rfl), rfl⟩⟩
set_option maxRecDepth 100000 in
theorem mt_mk_12_4 : mt_mok 12 (276, 144, 0) := ⟨by decide, ⟨(lw_in7 (List.mem_of_getElem? (i := 44) rfl)), rfl⟩, ⟨(lw_in7 (List.mem_of_getElem? (i := 46) rfl)), rfl⟩, ⟨List.mem_append_left _ (List.mem_of_getElem? (i := 41) rfl), rfl⟩⟩
set_option maxRecDepth 100000 in
theorem mt_mk_12_5 : mt_mok 12 (333, 145, 0) := ⟨by decide, ⟨(lw_in7 (List.mem_of_getElem? (i := 48) rfl)), rfl⟩, ⟨(lw_in7 (List.mem_of_getElem? (i := 50) rfl)), rfl⟩, ⟨List.mem_append_left _ (List.mem_of_getElem? (i := 42) rfl), rfl⟩⟩
set_option maxRecDepth 100000 in
theorem mt_mk_12_6 : mt_mok 12 (313, 146, 0) := ⟨by decide, ⟨(lw_in7 (List.mem_of_getElem? (i := 52) rfl)), rfl⟩, ⟨(lw_in7 (List.mem_of_getElem? (i := 54) rfl)), rfl⟩, ⟨List.mem_append_left _ (List.mem_of_getElem? (i := 43) rfl), rfl⟩⟩
set_option maxRecDepth 100000 in
theorem mt_mk_12_7 : mt_mok 12 (317, 147, 4) := ⟨by decide, ⟨(lw_in7 (List.mem_of_getElem? (i := 56) rfl)), rfl⟩, ⟨(lw_in7 (List.mem_of_getElem? (i := 57) rfl)), rfl⟩, ⟨(lw_in1 (List.mem_of_getElem? (i := 13) rfl)), rfl⟩⟩
set_option maxRecDepth 100000 in
theorem mt_mk_12_8 : mt_mok 12 (320, 148, 4) := ⟨by decide, ⟨(lw_in7 (List.mem_of_getElem? (i := 63) rfl)), rfl⟩, ⟨(lw_in7 (List.mem_of_getElem? (i := 64) rfl)), rfl⟩, ⟨(lw_in1 (List.mem_of_getElem? (i := 13) rfl)), rfl⟩⟩
set_option maxRecDepth 100000 in
theorem mt_mk_12_9 : mt_mok 12 (323, 149, 0) := ⟨by decide, ⟨(lw_in7 (List.mem_of_getElem? (i := 68) rfl)), rfl⟩, ⟨(lw_in7 (List.mem_of_getElem? (i := 70) rfl)), rfl⟩, ⟨List.mem_append_left _ (List.mem_of_getElem? (i := 44) rfl), rfl⟩⟩
set_option maxRecDepth 100000 in
theorem mt_mk_12_10 : mt_mok 12 (302, 150, 0) := ⟨by decide, ⟨(lw_in7 (List.mem_of_getElem? (i := 72) rfl)), rfl⟩, ⟨(lw_in7 (List.mem_of_getElem? (i := 73) rfl)), rfl⟩, ⟨(lw_in7 (List.mem_of_getElem? (i := 74) rfl)), rfl⟩⟩
set_option maxRecDepth 100000 in
theorem mt_mk_12_11 : mt_mok 12 (306, 29, 0) := ⟨by decide, ⟨(lw_in7 (List.mem_of_getElem? (i := 80) rfl)), rfl⟩, ⟨(lw_in3 (List.mem_of_getElem? (i := 160) rfl)), rfl⟩, ⟨(lw_in3 (List.mem_of_getElem? (i := 161) rfl)), rfl⟩⟩
set_option maxRecDepth 100000 in
theorem mt_mk_12_12 : mt_mok 12 (355, 152, 0) := ⟨by decide, ⟨(lw_in7 (List.mem_of_getElem? (i := 82) rfl)), rfl⟩, ⟨(lw_in7 (List.mem_of_getElem? (i := 84) rfl)), rfl⟩, ⟨List.mem_append_left _ (List.mem_of_getElem? (i := 45) rfl), rfl⟩⟩
set_option maxRecDepth 100000 in
theorem mt_mk_12_13 : mt_mok 12 (375, 153, 0) := ⟨by decide, ⟨(lw_in7 (List.mem_of_getElem? (i := 87) rfl)), rfl⟩, ⟨(lw_in7 (List.mem_of_getElem? (i := 89) rfl)), rfl⟩, ⟨List.mem_append_left _ (List.mem_of_getElem? (i := 46) rfl), rfl⟩⟩
set_option maxRecDepth 100000 in
theorem mt_mk_12_14 : mt_mok 12 (378, 154, 0) := ⟨by decide, ⟨(lw_in7 (List.mem_of_getElem? (i := 91) rfl)), rfl⟩, ⟨(lw_in7 (List.mem_of_getElem? (i := 93) rfl)), rfl⟩, ⟨List.mem_append_left _ (List.mem_of_getElem? (i := 47) rfl), rfl⟩⟩
set_option maxRecDepth 100000 in
theorem mt_mk_12_15 : mt_mok 12 (383, 155, 0) := ⟨by decide, ⟨(lw_in7 (List.mem_of_getElem? (i := 96) rfl)), rfl⟩, ⟨(lw_in7 (List.mem_of_getElem? (i := 98) rfl)), rfl⟩, ⟨List.mem_append_left _ (List.mem_of_getElem? (i := 48) rfl), rfl⟩⟩
set_option maxRecDepth 100000 in
theorem mt_mk_12_16 : mt_mok 12 (387, 156, 0) := ⟨by decide, ⟨(lw_in7 (List.mem_of_getElem? (i := 100) rfl)), rfl⟩, ⟨(lw_in7 (List.mem_of_getElem? (i := 102) rfl)), rfl⟩, ⟨List.mem_append_left _ (List.mem_of_getElem? (i := 49) rfl), rfl⟩⟩
set_option maxRecDepth 100000 in
theorem mt_mk_12_17 : mt_mok 12 (390, 157, 0) := ⟨by decide, ⟨(lw_in7 (List.mem_of_getElem? (i := 104) rfl)), rfl⟩, ⟨(lw_in7 (List.mem_of_getElem? (i := 106) rfl)), rfl⟩, ⟨List.mem_append_left _ (List.mem_of_getElem? (i := 50) rfl), rfl⟩⟩
set_option maxRecDepth 100000 in
theorem mt_mk_12_18 : mt_mok 12 (393, 158, 0) := ⟨by decide, ⟨(lw_in7 (List.mem_of_getElem? (i := 108) rfl)), rfl⟩, ⟨(lw_in7 (List.mem_of_getElem? (i := 110) rfl)), rfl⟩, ⟨List.mem_append_left _ (List.mem_of_getElem? (i := 51) rfl), rfl⟩⟩
set_option maxRecDepth 100000 in
theorem mt_mk_12_19 : mt_mok 12 (370, 159, 0) := ⟨by decide, ⟨(lw_in7 (List.mem_of_getElem? (i := 112) rfl)), rfl⟩, ⟨(lw_in7 (List.mem_of_getElem? (i := 114) rfl)), rfl⟩, ⟨List.mem_append_left _ (List.mem_of_getElem? (i := 52) rfl), rfl⟩⟩
set_option maxRecDepth 100000 in
theorem mt_mk_12_20 : mt_mok 12 (362, 160, 0) := ⟨by decide, ⟨(lw_in7 (List.mem_of_getElem? (i := 116) rfl)), rfl⟩, ⟨(lw_in7 (List.mem_of_getElem? (i := 118) rfl)), rfl⟩, ⟨List.mem_append_left _ (List.mem_of_getElem? (i := 53) rfl), rfl⟩⟩
set_option maxRecDepth 100000 in
theorem mt_mk_12_21 : mt_mok 12 (358, 161, 0) := ⟨by decide, ⟨(lw_in7 (List.mem_of_getElem? (i := 120) rfl)), rfl⟩, ⟨(lw_in7 (List.mem_of_getElem? (i := 122) rfl)), rfl⟩, ⟨List.mem_append_left _ (List.mem_of_getElem? (i := 54) rfl), rfl⟩⟩
set_option maxRecDepth 100000 in
theorem mt_mk_12_22 : mt_mok 12 (396, 162, 0) := ⟨by decide, ⟨(lw_in7 (List.mem_of_getElem? (i := 124) rfl)), rfl⟩, ⟨(lw_in7 (List.mem_of_getElem? (i := 126) rfl)), rfl⟩, ⟨List.mem_append_left _ (List.mem_of_getElem? (i := 55) rfl), rfl⟩⟩
set_option maxRecDepth 100000 in
theorem mt_mk_12_23 : mt_mok 12 (399, 163, 0) := ⟨by decide, ⟨(lw_in7 (List.mem_of_getElem? (i := 128) rfl)), rfl⟩, ⟨(lw_in7 (List.mem_of_getElem? (i := 130) rfl)), rfl⟩, ⟨List.mem_append_left _ (List.mem_of_getElem? (i := 56) rfl), rfl⟩⟩
set_option maxRecDepth 100000 in
theorem mt_mk_12_24 : mt_mok 12 (416, 164, 0) := ⟨by decide, ⟨(lw_in7 (List.mem_of_getElem? (i := 136) rfl)), rfl⟩, ⟨(lw_in7 (List.mem_of_getElem? (i := 138) rfl)), rfl⟩, ⟨List.mem_append_left _ (List.mem_of_getElem? (i := 57) rfl), rfl⟩⟩
set_option maxRecDepth 100000 in
theorem mt_mk_12_25 : mt_mok 12 (366, 165, 0) := ⟨by decide, ⟨(lw_in7 (List.mem_of_getElem? (i := 140) rfl)), rfl⟩, ⟨(lw_in7 (List.mem_of_getElem? (i := 142) rfl)), rfl⟩, ⟨List.mem_append_left _ (List.mem_of_getElem? (i := 58) rfl), rfl⟩⟩
set_option maxRecDepth 100000 in
theorem mt_mk_12_26 : mt_mok 12 (406, 166, 0) := ⟨by decide, ⟨(lw_in7 (List.mem_of_getElem? (i := 144) rfl)), rfl⟩, ⟨(lw_in7 (List.mem_of_getElem? (i := 146) rfl)), rfl⟩, ⟨List.mem_append_left _ (List.mem_of_getElem? (i := 59) rfl), rfl⟩⟩
set_option maxRecDepth 100000 in
theorem mt_mk_12_27 : mt_mok 12 (401, 167, 0) := ⟨by decide, ⟨(lw_in7 (List.mem_of_getElem? (i := 148) rfl)), rfl⟩, ⟨(lw_in7 (List.mem_of_getElem? (i := 150) rfl)), rfl⟩, ⟨List.mem_append_left _ (List.mem_of_getElem? (i := 60) rfl), rfl⟩⟩
set_option maxRecDepth 100000 in
theorem mt_mk_12_28 : mt_mok 12 (404, 168, 0) := ⟨by decide, ⟨(lw_in7 (List.mem_of_getElem? (i := 157) rfl)), rfl⟩, ⟨(lw_in7 (List.mem_of_getElem? (i := 159) rfl)), rfl⟩, ⟨List.mem_append_left _ (List.mem_of_getElem? (i := 61) rfl), rfl⟩⟩
set_option maxRecDepth 100000 in
theorem mt_mk_12_29 : mt_mok 12 (413, 169, 0) := ⟨by decide, ⟨(lw_in7 (List.mem_of_getElem? (i := 163) rfl)), rfl⟩, ⟨(lw_in7 (List.mem_of_getElem? (i := 165) rfl)), rfl⟩, ⟨List.mem_append_left _ (List.mem_of_getElem? (i := 62) rfl), rfl⟩⟩
set_option maxRecDepth 100000 in
theorem mt_mk_12_30 : mt_mok 12 (279, 170, 0) := ⟨by decide, ⟨(lw_in7 (List.mem_of_getElem? (i := 167) rfl)), rfl⟩, ⟨(lw_in7 (List.mem_of_getElem? (i := 168) rfl)), rfl⟩, ⟨(lw_in7 (List.mem_of_getElem? (i := 169) rfl)), rfl⟩⟩
set_option maxRecDepth 100000 in
theorem mt_mk_12_31 : mt_mok 12 (525, 173, 0) := ⟨by decide, ⟨(lw_in7 (List.mem_of_getElem? (i := 179) rfl)), rfl⟩, ⟨(lw_in7 (List.mem_of_getElem? (i := 180) rfl)), rfl⟩, ⟨(lw_in7 (List.mem_of_getElem? (i := 181) rfl)), rfl⟩⟩
set_option maxRecDepth 100000 in
theorem mt_mk_12_32 : mt_mok 12 (529, 174, 0) := ⟨by decide, ⟨(lw_in7 (List.mem_of_getElem? (i := 183) rfl)), rfl⟩, ⟨(lw_in7 (List.mem_of_getElem? (i := 185) rfl)), rfl⟩, ⟨List.mem_append_left _ (List.mem_of_getElem? (i := 63) rfl), rfl⟩⟩
set_option maxRecDepth 100000 in
theorem mt_mk_12_33 : mt_mok 12 (519, 175, 0) := ⟨by decide, ⟨(lw_in7 (List.mem_of_getElem? (i := 187) rfl)), rfl⟩, ⟨(lw_in7 (List.mem_of_getElem? (i := 189) rfl)), rfl⟩, ⟨List.mem_append_left _ (List.mem_of_getElem? (i := 64) rfl), rfl⟩⟩
set_option maxRecDepth 100000 in
theorem mt_mk_12_34 : mt_mok 12 (499, 176, 0) := ⟨by decide, ⟨(lw_in7 (List.mem_of_getElem? (i := 191) rfl)), rfl⟩, ⟨(lw_in7 (List.mem_of_getElem? (i := 193) rfl)), rfl⟩, ⟨List.mem_append_left _ (List.mem_of_getElem? (i := 65) rfl), rfl⟩⟩
set_option maxRecDepth 100000 in
theorem mt_mk_12_35 : mt_mok 12 (451, 177, 0) := ⟨by decide, ⟨(lw_in7 (List.mem_of_getElem? (i := 195) rfl)), rfl⟩, ⟨(lw_in7 (List.mem_of_getElem? (i := 197) rfl)), rfl⟩, ⟨List.mem_append_left _ (List.mem_of_getElem? (i := 66) rfl), rfl⟩⟩
set_option maxRecDepth 100000 in
theorem mt_mk_12_36 : mt_mok 12 (455, 178, 0) := ⟨by decide, ⟨(lw_in7 (List.mem_of_getElem? (i := 199) rfl)), rfl⟩, ⟨(lw_in7 (List.mem_of_getElem? (i := 201) rfl)), rfl⟩, ⟨List.mem_append_left _ (List.mem_of_getElem? (i := 67) rfl), rfl⟩⟩
set_option maxRecDepth 100000 in
theorem mt_mk_12_37 : mt_mok 12 (477, 179, 0) := ⟨by decide, ⟨(lw_in7 (List.mem_of_getElem? (i := 205) rfl)), rfl⟩, ⟨(lw_in7 (List.mem_of_getElem? (i := 207) rfl)), rfl⟩, ⟨List.mem_append_left _ (List.mem_of_getElem? (i := 68) rfl), rfl⟩⟩
set_option maxRecDepth 100000 in
theorem mt_mk_12_38 : mt_mok 12 (480, 180, 0) := ⟨by decide, ⟨(lw_in7 (List.mem_of_getElem? (i := 209) rfl)), rfl⟩, ⟨(lw_in7 (List.mem_of_getElem? (i := 211) rfl)), rfl⟩, ⟨List.mem_append_left _ (List.mem_of_getElem? (i := 69) rfl), rfl⟩⟩
set_option maxRecDepth 100000 in
theorem mt_mk_12_39 : mt_mok 12 (484, 181, 4) := ⟨by decide, ⟨(lw_in7 (List.mem_of_getElem? (i := 213) rfl)), rfl⟩, ⟨(lw_in7 (List.mem_of_getElem? (i := 214) rfl)), rfl⟩, ⟨(lw_in1 (List.mem_of_getElem? (i := 20) rfl)), rfl⟩⟩
set_option maxRecDepth 100000 in
theorem mt_mk_12_40 : mt_mok 12 (502, 182, 0) := ⟨by decide, ⟨(lw_in7 (List.mem_of_getElem? (i := 217) rfl)), rfl⟩, ⟨(lw_in7 (List.mem_of_getElem? (i := 219) rfl)), rfl⟩, ⟨List.mem_append_left _ (List.mem_of_getElem? (i := 70) rfl), rfl⟩⟩
set_option maxRecDepth 100000 in
theorem mt_mk_12_41 : mt_mok 12 (522, 183, 0) := ⟨by decide, ⟨(lw_in7 (List.mem_of_getElem? (i := 221) rfl)), rfl⟩, ⟨(lw_in7 (List.mem_of_getElem? (i := 223) rfl)), rfl⟩, ⟨List.mem_append_left _ (List.mem_of_getElem? (i := 71) rfl), rfl⟩⟩
set_option maxRecDepth 100000 in
theorem mt_mk_12_42 : mt_mok 12 (509, 184, 0) := ⟨by decide, ⟨(lw_in7 (List.mem_of_getElem? (i := 225) rfl)), rfl⟩, ⟨(lw_in7 (List.mem_of_getElem? (i := 227) rfl)), rfl⟩, ⟨List.mem_append_left _ (List.mem_of_getElem? (i := 72) rfl), rfl⟩⟩
set_option maxRecDepth 100000 in
theorem mt_mk_12_43 : mt_mok 12 (533, 185, 0) := ⟨by decide, ⟨(lw_in7 (List.mem_of_getElem? (i := 229) rfl)), rfl⟩, ⟨(lw_in7 (List.mem_of_getElem? (i := 231) rfl)), rfl⟩, ⟨List.mem_append_left _ (List.mem_of_getElem? (i := 73) rfl), rfl⟩⟩
set_option maxRecDepth 100000 in
theorem mt_mk_12_44 : mt_mok 12 (548, 188, 0) := ⟨by decide, ⟨(lw_in8 (List.mem_of_getElem? (i := 4) rfl)), rfl⟩, ⟨(lw_in8 (List.mem_of_getElem? (i := 6) rfl)), rfl⟩, ⟨List.mem_append_left _ (List.mem_of_getElem? (i := 74) rfl), rfl⟩⟩
set_option maxRecDepth 100000 in
theorem mt_mk_12_45 : mt_mok 12 (557, 195, 0) := ⟨by decide, ⟨(lw_in8 (List.mem_of_getElem? (i := 33) rfl)), rfl⟩, ⟨(lw_in8 (List.mem_of_getElem? (i := 35) rfl)), rfl⟩, ⟨List.mem_append_left _ (List.mem_of_getElem? (i := 75) rfl), rfl⟩⟩
set_option maxRecDepth 100000 in
theorem mt_mk_12_46 : mt_mok 12 (554, 196, 0) := ⟨by decide, ⟨(lw_in8 (List.mem_of_getElem? (i := 37) rfl)), rfl⟩, ⟨(lw_in8 (List.mem_of_getElem? (i := 39) rfl)), rfl⟩, ⟨List.mem_append_left _ (List.mem_of_getElem? (i := 76) rfl), rfl⟩⟩
set_option maxRecDepth 100000 in
theorem mt_mk_12_47 : mt_mok 12 (571, 197, 0) := ⟨by decide, ⟨(lw_in8 (List.mem_of_getElem? (i := 42) rfl)), rfl⟩, ⟨(lw_in8 (List.mem_of_getElem? (i := 44) rfl)), rfl⟩, ⟨List.mem_append_left _ (List.mem_of_getElem? (i := 77) rfl), rfl⟩⟩
set_option maxRecDepth 100000 in
theorem mt_mk_12_48 : mt_mok 12 (575, 198, 0) := ⟨by decide, ⟨(lw_in8 (List.mem_of_getElem? (i := 46) rfl)), rfl⟩, ⟨(lw_in8 (List.mem_of_getElem? (i := 48) rfl)), rfl⟩, ⟨List.mem_append_left _ (List.mem_of_getElem? (i := 78) rfl), rfl⟩⟩
set_option maxRecDepth 100000 in
theorem mt_mk_12_49 : mt_mok 12 (579, 199, 0) := ⟨by decide, ⟨(lw_in8 (List.mem_of_getElem? (i := 50) rfl)), rfl⟩, ⟨(lw_in8 (List.mem_of_getElem? (i := 52) rfl)), rfl⟩, ⟨List.mem_append_left _ (List.mem_of_getElem? (i := 79) rfl), rfl⟩⟩
set_option maxRecDepth 100000 in
theorem mt_mk_12_50 : mt_mok 12 (586, 200, 0) := ⟨by decide, ⟨(lw_in8 (List.mem_of_getElem? (i := 54) rfl)), rfl⟩, ⟨(lw_in8 (List.mem_of_getElem? (i := 56) rfl)), rfl⟩, ⟨List.mem_append_left _ (List.mem_of_getElem? (i := 80) rfl), rfl⟩⟩
set_option maxRecDepth 100000 in
theorem mt_mk_12_51 : mt_mok 12 (583, 201, 0) := ⟨by decide, ⟨(lw_in8 (List.mem_of_getElem? (i := 58) rfl)), rfl⟩, ⟨(lw_in8 (List.mem_of_getElem? (i := 60) rfl)), rfl⟩, ⟨List.mem_append_left _ (List.mem_of_getElem? (i := 81) rfl), rfl⟩⟩
theorem mt_mok_12 : ∀ q ∈ mt_m_12, mt_mok 12 q := List.forall_mem_cons.mpr ⟨mt_mk_12_0, List.forall_mem_cons.mpr ⟨mt_mk_12_1, List.forall_mem_cons.mpr ⟨mt_mk_12_2, List.forall_mem_cons.mpr ⟨mt_mk_12_3, List.forall_mem_cons.mpr ⟨mt_mk_12_4, List.forall_mem_cons.mpr ⟨mt_mk_12_5, List.forall_mem_cons.mpr ⟨mt_mk_12_6, List.forall_mem_cons.mpr ⟨mt_mk_12_7, List.forall_mem_cons.mpr ⟨mt_mk_12_8, List.forall_mem_cons.mpr ⟨mt_mk_12_9, List.forall_mem_cons.mpr ⟨mt_mk_12_10, List.forall_mem_cons.mpr ⟨mt_mk_12_11, List.forall_mem_cons.mpr ⟨mt_mk_12_12, List.forall_mem_cons.mpr ⟨mt_mk_12_13, List.forall_mem_cons.mpr ⟨mt_mk_12_14, List.forall_mem_cons.mpr ⟨mt_mk_12_15, List.forall_mem_cons.mpr ⟨mt_mk_12_16, List.forall_mem_cons.mpr ⟨mt_mk_12_17, List.forall_mem_cons.mpr ⟨mt_mk_12_18, List.forall_mem_cons.mpr ⟨mt_mk_12_19, List.forall_mem_cons.mpr ⟨mt_mk_12_20, List.forall_mem_cons.mpr ⟨mt_mk_12_21, List.forall_mem_cons.mpr ⟨mt_mk_12_22, List.forall_mem_cons.mpr ⟨mt_mk_12_23, List.forall_mem_cons.mpr ⟨mt_mk_12_24, List.forall_mem_cons.mpr ⟨mt_mk_12_25, List.forall_mem_cons.mpr ⟨mt_mk_12_26, List.forall_mem_cons.mpr ⟨mt_mk_12_27, List.forall_mem_cons.mpr ⟨mt_mk_12_28, List.forall_mem_cons.mpr ⟨mt_mk_12_29, List.forall_mem_cons.mpr ⟨mt_mk_12_30, List.forall_mem_cons.mpr ⟨mt_mk_12_31, List.forall_mem_cons.mpr ⟨mt_mk_12_32, List.forall_mem_cons.mpr ⟨mt_mk_12_33, List.forall_mem_cons.mpr ⟨mt_mk_12_34, List.forall_mem_cons.mpr ⟨mt_mk_12_35, List.forall_mem_cons.mpr ⟨mt_mk_12_36, List.forall_mem_cons.mpr ⟨mt_mk_12_37, List.forall_mem_cons.mpr ⟨mt_mk_12_38, List.forall_mem_cons.mpr ⟨mt_mk_12_39, List.forall_mem_cons.mpr ⟨mt_mk_12_40, List.forall_mem_cons.mpr ⟨mt_mk_12_41, List.forall_mem_cons.mpr ⟨mt_mk_12_42, List.forall_mem_cons.mpr ⟨mt_mk_12_43, List.forall_mem_cons.mpr ⟨mt_mk_12_44, List.forall_mem_cons.mpr ⟨mt_mk_12_45, List.forall_mem_cons.mpr ⟨mt_mk_12_46, List.forall_mem_cons.mpr ⟨mt_mk_12_47, List.forall_mem_cons.mpr ⟨mt_mk_12_48, List.forall_mem_cons.mpr ⟨mt_mk_12_49, List.forall_mem_cons.mpr ⟨mt_mk_12_50, List.forall_mem_cons.mpr ⟨mt_mk_12_51, fun _ h => absurd h List.not_mem_nil⟩⟩⟩⟩⟩⟩⟩⟩⟩⟩⟩⟩⟩⟩⟩⟩⟩⟩⟩⟩⟩⟩⟩⟩⟩⟩⟩⟩⟩⟩⟩⟩⟩⟩⟩⟩⟩⟩⟩⟩⟩⟩⟩⟩⟩⟩⟩⟩⟩⟩⟩⟩
theorem mt_mok_13 : ∀ q ∈ mt_m_13, mt_mok 13 q := fun _ h => absurd h List.not_mem_nil
theorem mt_mok_14 : ∀ q ∈ mt_m_14, mt_mok 14 q := fun _ h => absurd h List.not_mem_nil
theorem mt_mok_15 : ∀ q ∈ mt_m_15, mt_mok 15 q := fun _ h => absurd h List.not_mem_nil
theorem mt_mok_16 : ∀ q ∈ mt_m_16, mt_mok 16 q := fun _ h => absurd h List.not_mem_nil
set_option maxRecDepth 100000 in
theorem mt_mk_17_0 : mt_mok 17 (492, 30, 0) := ⟨by decide, ⟨(lw_in3 (List.mem_of_getElem? (i := 163) rfl)), rfl⟩, ⟨(lw_in3 (List.mem_of_getElem? (i := 164) rfl)), rfl⟩, ⟨(lw_in3 (List.mem_of_getElem? (i := 165) rfl)), rfl⟩⟩
set_option maxRecDepth 100000 in
theorem mt_mk_17_1 : mt_mok 17 (495, 31, 4) := ⟨by decide, ⟨(lw_in3 (List.mem_of_getElem? (i := 169) rfl)), rfl⟩, ⟨(lw_in3 (List.mem_of_getElem? (i := 170) rfl)), rfl⟩, ⟨(lw_in1 (List.mem_of_getElem? (i := 22) rfl)), rfl⟩⟩
set_option maxRecDepth 100000 in
theorem mt_mk_17_2 : mt_mok 17 (1059, 33, 4) := ⟨by decide, ⟨(lw_in3 (List.mem_of_getElem? (i := 177) rfl)), rfl⟩, ⟨(lw_in3 (List.mem_of_getElem? (i := 178) rfl)), rfl⟩, ⟨(lw_in1 (List.mem_of_getElem? (i := 23) rfl)), rfl⟩⟩
set_option maxRecDepth 100000 in
theorem mt_mk_17_3 : mt_mok 17 (335, 151, 0) := ⟨by decide, ⟨(lw_in7 (List.mem_of_getElem? (i := 76) rfl)), rfl⟩, ⟨(lw_in7 (List.mem_of_getElem? (i := 77) rfl)), rfl⟩, ⟨(lw_in7 (List.mem_of_getElem? (i := 78) rfl)), rfl⟩⟩
theorem mt_mok_17 : ∀ q ∈ mt_m_17, mt_mok 17 q := List.forall_mem_cons.mpr ⟨mt_mk_17_0, List.forall_mem_cons.mpr ⟨mt_mk_17_1, List.forall_mem_cons.mpr ⟨mt_mk_17_2, List.forall_mem_cons.mpr ⟨mt_mk_17_3, fun _ h => absurd h List.not_mem_nil⟩⟩⟩⟩
set_option maxRecDepth 100000 in
theorem mt_mk_18_0 : mt_mok 18 (65, 0, 2) := ⟨by decide, ⟨(lw_in1 (List.mem_of_getElem? (i := 30) rfl)), rfl⟩, ⟨(lw_in1 (List.mem_of_getElem? (i := 31) rfl)), rfl⟩, rfl, ⟨(lw_in1 (List.mem_of_getElem? (i := 32) rfl)), rfl⟩⟩
set_option maxRecDepth 100000 in
theorem mt_mk_18_1 : mt_mok 18 (82, 12, 0) := ⟨by decide, ⟨(lw_in3 (List.mem_of_getElem? (i := 8) rfl)), rfl⟩, ⟨(lw_in3 (List.mem_of_getElem? (i := 9) rfl)), rfl⟩, ⟨(lw_in3 (List.mem_of_getElem? (i := 10) rfl)), rfl⟩⟩
set_option maxRecDepth 100000 in
theorem mt_mk_18_2 : mt_mok 18 (69, 13, 4) := ⟨by decide, ⟨(lw_in3 (List.mem_of_getElem? (i := 12) rfl)), rfl⟩, ⟨(lw_in3 (List.mem_of_getElem? (i := 13) rfl)), rfl⟩, ⟨(lw_in1 (List.mem_of_getElem? (i := 0) rfl)), rfl⟩⟩
set_option maxRecDepth 100000 in
theorem mt_mk_18_3 : mt_mok 18 (7, 14, 0) := ⟨by decide, ⟨(lw_in3 (List.mem_of_getElem? (i := 16) rfl)), rfl⟩, ⟨(lw_in3 (List.mem_of_getElem? (i := 17) rfl)), rfl⟩, ⟨(lw_in3 (List.mem_of_getElem? (i := 18) rfl)), rfl⟩⟩
set_option maxRecDepth 100000 in
theorem mt_mk_18_4 : mt_mok 18 (78, 16, 4) := ⟨by decide, ⟨(lw_in3 (List.mem_of_getElem? (i := 91) rfl)), rfl⟩, ⟨(lw_in3 (List.mem_of_getElem? (i := 92) rfl)), rfl⟩, ⟨(lw_in1 (List.mem_of_getElem? (i := 0) rfl)), rfl⟩⟩
set_option maxRecDepth 100000 in
theorem mt_mk_18_5 : mt_mok 18 (15, 17, 0) := ⟨by decide, ⟨(lw_in3 (List.mem_of_getElem? (i := 95) rfl)), rfl⟩, ⟨(lw_in3 (List.mem_of_getElem? (i := 96) rfl)), rfl⟩, ⟨(lw_in3 (List.mem_of_getElem? (i := 97) rfl)), rfl⟩⟩
set_option maxRecDepth 100000 in
theorem mt_mk_18_6 : mt_mok 18 (88, 58, 4) := ⟨by decide, ⟨(lw_in4 (List.mem_of_getElem? (i := 58) rfl)), rfl⟩, ⟨(lw_in4 (List.mem_of_getElem? (i := 59) rfl)), rfl⟩, ⟨(lw_in1 (List.mem_of_getElem? (i := 0) rfl)), rfl⟩⟩
set_option maxRecDepth 100000 in
theorem mt_mk_18_7 : mt_mok 18 (21, 59, 0) := ⟨by decide, ⟨(lw_in4 (List.mem_of_getElem? (i := 61) rfl)), rfl⟩, ⟨(lw_in4 (List.mem_of_getElem? (i := 62) rfl)), rfl⟩, ⟨(lw_in4 (List.mem_of_getElem? (i := 63) rfl)), rfl⟩⟩
set_option maxRecDepth 100000 in
theorem mt_mk_18_8 : mt_mok 18 (92, 62, 4) := ⟨by decide, ⟨(lw_in4 (List.mem_of_getElem? (i := 75) rfl)), rfl⟩, ⟨(lw_in4 (List.mem_of_getElem? (i := 76) rfl)), rfl⟩, ⟨(lw_in1 (List.mem_of_getElem? (i := 0) rfl)), rfl⟩⟩
set_option maxRecDepth 100000 in
theorem mt_mk_18_9 : mt_mok 18 (25, 63, 0) := ⟨by decide, ⟨(lw_in4 (List.mem_of_getElem? (i := 78) rfl)), rfl⟩, ⟨(lw_in4 (List.mem_of_getElem? (i := 79) rfl)), rfl⟩, ⟨(lw_in4 (List.mem_of_getElem? (i := 80) rfl)), rfl⟩⟩
set_option maxRecDepth 100000 in
theorem mt_mk_18_10 : mt_mok 18 (96, 66, 4) := ⟨by decide, ⟨(lw_in4 (List.mem_of_getElem? (i := 92) rfl)), rfl⟩, ⟨(lw_in4 (List.mem_of_getElem? (i := 93) rfl)), rfl⟩, ⟨(lw_in1 (List.mem_of_getElem? (i := 0) rfl)), rfl⟩⟩
set_option maxRecDepth 100000 in
theorem mt_mk_18_11 : mt_mok 18 (29, 67, 0) := ⟨by decide, ⟨(lw_in4 (List.mem_of_getElem? (i := 95) rfl)), rfl⟩, ⟨(lw_in4 (List.mem_of_getElem? (i := 96) rfl)), rfl⟩, ⟨(lw_in4 (List.mem_of_getElem? (i := 97) rfl)), rfl⟩⟩
set_option maxRecDepth 100000 in
theorem mt_mk_18_12 : mt_mok 18 (100, 68, 4) := ⟨by decide, ⟨(lw_in4 (List.mem_of_getElem? (i := 100) rfl)), rfl⟩, ⟨(lw_in4 (List.mem_of_getElem? (i := 101) rfl)), rfl⟩, ⟨(lw_in1 (List.mem_of_getElem? (i := 0) rfl)), rfl⟩⟩
set_option maxRecDepth 100000 in
theorem mt_mk_18_13 : mt_mok 18 (33, 69, 0) := ⟨by decide, ⟨(lw_in4 (List.mem_of_getElem? (i := 103) rfl)), rfl⟩, ⟨(lw_in4 (List.mem_of_getElem? (i := 104) rfl)), rfl⟩, ⟨(lw_in4 (List.mem_of_getElem? (i := 105) rfl)), rfl⟩⟩
set_option maxRecDepth 100000 in
theorem mt_mk_18_14 : mt_mok 18 (104, 70, 4) := ⟨by decide, ⟨(lw_in4 (List.mem_of_getElem? (i := 107) rfl)), rfl⟩, ⟨(lw_in4 (List.mem_of_getElem? (i := 108) rfl)), rfl⟩, ⟨(lw_in1 (List.mem_of_getElem? (i := 0) rfl)), rfl⟩⟩
set_option maxRecDepth 100000 in
theorem mt_mk_18_15 : mt_mok 18 (37, 71, 0) := ⟨by decide, ⟨(lw_in4 (List.mem_of_getElem? (i := 111) rfl)), rfl⟩, ⟨(lw_in4 (List.mem_of_getElem? (i := 112) rfl)), rfl⟩, ⟨(lw_in4 (List.mem_of_getElem? (i := 113) rfl)), rfl⟩⟩
set_option maxRecDepth 100000 in
theorem mt_mk_18_16 : mt_mok 18 (108, 113, 4) := ⟨by decide, ⟨(lw_in5 (List.mem_of_getElem? (i := 63) rfl)), rfl⟩, ⟨(lw_in5 (List.mem_of_getElem? (i := 64) rfl)), rfl⟩, ⟨(lw_in1 (List.mem_of_getElem? (i := 0) rfl)), rfl⟩⟩
set_option maxRecDepth 100000 in
theorem mt_mk_18_17 : mt_mok 18 (43, 114, 0) := ⟨by decide, ⟨(lw_in5 (List.mem_of_getElem? (i := 66) rfl)), rfl⟩, ⟨(lw_in5 (List.mem_of_getElem? (i := 67) rfl)), rfl⟩, ⟨(lw_in5 (List.mem_of_getElem? (i := 68) rfl)), rfl⟩⟩
set_option maxRecDepth 100000 in
theorem mt_mk_18_18 : mt_mok 18 (112, 115, 4) := ⟨by decide, ⟨(lw_in5 (List.mem_of_getElem? (i := 72) rfl)), rfl⟩, ⟨(lw_in5 (List.mem_of_getElem? (i := 73) rfl)), rfl⟩, ⟨(lw_in1 (List.mem_of_getElem? (i := 0) rfl)), rfl⟩⟩
set_option maxRecDepth 100000 in
theorem mt_mk_18_19 : mt_mok 18 (47, 116, 0) := ⟨by decide, ⟨(lw_in5 (List.mem_of_getElem? (i := 75) rfl)), rfl⟩, ⟨(lw_in5 (List.mem_of_getElem? (i := 76) rfl)), rfl⟩, ⟨(lw_in5 (List.mem_of_getElem? (i := 77) rfl)), rfl⟩⟩
set_option maxRecDepth 100000 in
theorem mt_mk_18_20 : mt_mok 18 (115, 117, 4) := ⟨by decide, ⟨(lw_in5 (List.mem_of_getElem? (i := 80) rfl)), rfl⟩, ⟨(lw_in5 (List.mem_of_getElem? (i := 81) rfl)), rfl⟩, ⟨(lw_in1 (List.mem_of_getElem? (i := 0) rfl)), rfl⟩⟩
set_option maxRecDepth 100000 in
theorem mt_mk_18_21 : mt_mok 18 (51, 118, 0) := ⟨by decide, ⟨(lw_in5 (List.mem_of_getElem? (i := 83) rfl)), rfl⟩, ⟨(lw_in5 (List.mem_of_getElem? (i := 84) rfl)), rfl⟩, ⟨(lw_in5 (List.mem_of_getElem? (i := 85) rfl)), rfl⟩⟩
set_option maxRecDepth 100000 in
theorem mt_mk_18_22 : mt_mok 18 (119, 119, 4) := ⟨by decide, ⟨(lw_in5 (List.mem_of_getElem? (i := 88) rfl)), rfl⟩, ⟨(lw_in5 (List.mem_of_getElem? (i := 89) rfl)), rfl⟩, ⟨(lw_in1 (List.mem_of_getElem? (i := 0) rfl)), rfl⟩⟩
set_option maxRecDepth 100000 in
theorem mt_mk_18_23 : mt_mok 18 (55, 120, 0) := ⟨by decide, ⟨(lw_in5 (List.mem_of_getElem? (i := 91) rfl)), rfl⟩, ⟨(lw_in5 (List.mem_of_getElem? (i := 92) rfl)), rfl⟩, ⟨(lw_in5 (List.mem_of_getElem? (i := 93) rfl)), rfl⟩⟩
set_option maxRecDepth 100000 in
theorem mt_mk_18_24 : mt_mok 18 (122, 131, 4) := ⟨by decide, ⟨(lw_in5 (List.mem_of_getElem? (i := 145) rfl)), rfl⟩, ⟨(lw_in5 (List.mem_of_getElem? (i := 146) rfl)), rfl⟩, ⟨(lw_in1 (List.mem_of_getElem? (i := 0) rfl)), rfl⟩⟩
set_option maxRecDepth 100000 in
theorem mt_mk_18_25 : mt_mok 18 (58, 132, 0) := ⟨by decide, ⟨(lw_in5 (List.mem_of_getElem? (i := 148) rfl)), rfl⟩, ⟨(lw_in5 (List.mem_of_getElem? (i := 149) rfl)), rfl⟩, ⟨(lw_in5 (List.mem_of_getElem? (i := 150) rfl)), rfl⟩⟩
set_option maxRecDepth 100000 in
theorem mt_mk_18_26 : mt_mok 18 (125, 133, 4) := ⟨by decide, ⟨(lw_in5 (List.mem_of_getElem? (i := 154) rfl)), rfl⟩, ⟨(lw_in5 (List.mem_of_getElem? (i := 155) rfl)), rfl⟩, ⟨(lw_in1 (List.mem_of_getElem? (i := 0) rfl)), rfl⟩⟩
set_option maxRecDepth 100000 in
theorem mt_mk_18_27 : mt_mok 18 (62, 134, 0) := ⟨by decide, ⟨(lw_in5 (List.mem_of_getElem? (i := 157) rfl)), rfl⟩, ⟨(lw_in5 (List.mem_of_getElem? (i := 158) rfl)), rfl⟩, ⟨(lw_in5 (List.mem_of_getElem? (i := 159) rfl)), rfl⟩⟩
set_option maxRecDepth 100000 in
theorem mt_mk_18_28 : mt_mok 18 (68, 136, 2) := ⟨by decide, ⟨(lw_in5 (List.mem_of_getElem? (i := 168) rfl)), rfl⟩, ⟨(lw_in5 (List.mem_of_getElem? (i := 169) rfl)), rfl⟩, rfl, ⟨(lw_in5 (List.mem_of_getElem? (i := 170) rfl)), rfl⟩⟩
set_option maxRecDepth 100000 in
theorem mt_mk_18_29 : mt_mok 18 (75, 138, 0) := ⟨by decide, ⟨(lw_in7 (List.mem_of_getElem? (i := 19) rfl)), rfl⟩, ⟨(lw_in7 (List.mem_of_getElem? (i := 20) rfl)), rfl⟩, ⟨(lw_in7 (List.mem_of_getElem? (i := 21) rfl)), rfl⟩⟩
set_option maxRecDepth 100000 in
theorem mt_mk_18_30 : mt_mok 18 (74, 139, 0) := ⟨by decide, ⟨(lw_in7 (List.mem_of_getElem? (i := 23) rfl)), rfl⟩, ⟨(lw_in7 (List.mem_of_getElem? (i := 24) rfl)), rfl⟩, ⟨(lw_in7 (List.mem_of_getElem? (i := 25) rfl)), rfl⟩⟩
set_option maxRecDepth 100000 in
theorem mt_mk_18_31 : mt_mok 18 (81, 141, 0) := ⟨by decide, ⟨(lw_in7 (List.mem_of_getElem? (i := 31) rfl)), rfl⟩, ⟨(lw_in7 (List.mem_of_getElem? (i := 32) rfl)), rfl⟩, ⟨(lw_in7 (List.mem_of_getElem? (i := 33) rfl)), rfl⟩⟩
set_option maxRecDepth 100000 in
theorem mt_mk_18_32 : mt_mok 18 (85, 171, 0) := ⟨by decide, ⟨(lw_in7 (List.mem_of_getElem? (i := 171) rfl)), rfl⟩, ⟨(lw_in7 (List.mem_of_getElem? (i := 172) rfl)), rfl⟩, ⟨(lw_in7 (List.mem_of_getElem? (i := 173) rfl)), rfl⟩⟩
set_option maxRecDepth 100000 in
theorem mt_mk_18_33 : mt_mok 18 (107, 172, 0) := ⟨by decide, ⟨(lw_in7 (List.mem_of_getElem? (i := 175) rfl)), rfl⟩, ⟨(lw_in7 (List.mem_of_getElem? (i := 176) rfl)), rfl⟩, ⟨(lw_in7 (List.mem_of_getElem? (i := 177) rfl)), rfl⟩⟩
set_option maxRecDepth 100000 in
theorem mt_mk_18_34 : mt_mok 18 (91, 186, 0) := ⟨by decide, ⟨(lw_in7 (List.mem_of_getElem? (i := 233) rfl)), rfl⟩, ⟨(lw_in7 (List.mem_of_getElem? (i := 234) rfl)), rfl⟩, ⟨(lw_in7 (List.mem_of_getElem? (i := 235) rfl)), rfl⟩⟩
set_option maxRecDepth 100000 in
theorem mt_mk_18_35 : mt_mok 18 (95, 187, 0) := ⟨by decide, ⟨(lw_in8 (List.mem_of_getElem? (i := 0) rfl)), rfl⟩, ⟨(lw_in8 (List.mem_of_getElem? (i := 1) rfl)), rfl⟩, ⟨(lw_in8 (List.mem_of_getElem? (i := 2) rfl)), rfl⟩⟩
set_option maxRecDepth 100000 in
theorem mt_mk_18_36 : mt_mok 18 (99, 189, 0) := ⟨by decide, ⟨(lw_in8 (List.mem_of_getElem? (i := 8) rfl)), rfl⟩, ⟨(lw_in8 (List.mem_of_getElem? (i := 9) rfl)), rfl⟩, ⟨(lw_in8 (List.mem_of_getElem? (i := 10) rfl)), rfl⟩⟩
set_option maxRecDepth 100000 in
theorem mt_mk_18_37 : mt_mok 18 (103, 190, 0) := ⟨by decide, ⟨(lw_in8 (List.mem_of_getElem? (i := 12) rfl)), rfl⟩, ⟨(lw_in8 (List.mem_of_getElem? (i := 13) rfl)), rfl⟩, ⟨(lw_in8 (List.mem_of_getElem? (i := 14) rfl)), rfl⟩⟩
set_option maxRecDepth 100000 in
theorem mt_mk_18_38 : mt_mok 18 (111, 191, 0) := ⟨by decide, ⟨(lw_in8 (List.mem_of_getElem? (i := 16) rfl)), rfl⟩, ⟨(lw_in8 (List.mem_of_getElem? (i := 17) rfl)), rfl⟩, ⟨(lw_in8 (List.mem_of_getElem? (i := 18) rfl)), rfl⟩⟩
set_option maxRecDepth 100000 in
theorem mt_mk_18_39 : mt_mok 18 (114, 192, 0) := ⟨by decide, ⟨(lw_in8 (List.mem_of_getElem? (i := 21) rfl)), rfl⟩, ⟨(lw_in8 (List.mem_of_getElem? (i := 22) rfl)), rfl⟩, ⟨(lw_in8 (List.mem_of_getElem? (i := 23) rfl)), rfl⟩⟩
set_option maxRecDepth 100000 in
theorem mt_mk_18_40 : mt_mok 18 (118, 193, 0) := ⟨by decide, ⟨(lw_in8 (List.mem_of_getElem? (i := 25) rfl)), rfl⟩, ⟨(lw_in8 (List.mem_of_getElem? (i := 26) rfl)), rfl⟩, ⟨(lw_in8 (List.mem_of_getElem? (i := 27) rfl)), rfl⟩⟩
set_option maxRecDepth 100000 in
theorem mt_mk_18_41 : mt_mok 18 (121, 194, 0) := ⟨by decide, ⟨(lw_in8 (List.mem_of_getElem? (i := 29) rfl)), rfl⟩, ⟨(lw_in8 (List.mem_of_getElem? (i := 30) rfl)), rfl⟩, ⟨(lw_in8 (List.mem_of_getElem? (i := 31) rfl)), rfl⟩⟩
set_option maxRecDepth 100000 in
theorem mt_mk_18_42 : mt_mok 18 (124, 202, 0) := ⟨by decide, ⟨(lw_in8 (List.mem_of_getElem? (i := 62) rfl)), rfl⟩, ⟨(lw_in8 (List.mem_of_getElem? (i := 63) rfl)), rfl⟩, ⟨(lw_in8 (List.mem_of_getElem? (i := 64) rfl)), rfl⟩⟩
set_option maxRecDepth 100000 in
theorem mt_mk_18_43 : mt_mok 18 (127, 203, 0) := ⟨by decide, ⟨(lw_in8 (List.mem_of_getElem? (i := 67) rfl)), rfl⟩, ⟨(lw_in8 (List.mem_of_getElem? (i := 68) rfl)), rfl⟩, ⟨(lw_in8 (List.mem_of_getElem? (i := 69) rfl)), rfl⟩⟩
theorem mt_mok_18 : ∀ q ∈ mt_m_18, mt_mok 18 q := List.forall_mem_cons.mpr ⟨mt_mk_18_0, List.forall_mem_cons.mpr ⟨mt_mk_18_1, List.forall_mem_cons.mpr ⟨mt_mk_18_2, List.forall_mem_cons.mpr ⟨mt_mk_18_3, List.forall_mem_cons.mpr ⟨mt_mk_18_4, List.forall_mem_cons.mpr ⟨mt_mk_18_5, List.forall_mem_cons.mpr ⟨mt_mk_18_6, List.forall_mem_cons.mpr ⟨mt_mk_18_7, List.forall_mem_cons.mpr ⟨mt_mk_18_8, List.forall_mem_cons.mpr ⟨mt_mk_18_9, List.forall_mem_cons.mpr ⟨mt_mk_18_10, List.forall_mem_cons.mpr ⟨mt_mk_18_11, List.forall_mem_cons.mpr ⟨mt_mk_18_12, List.forall_mem_cons.mpr ⟨mt_mk_18_13, List.forall_mem_cons.mpr ⟨mt_mk_18_14, List.forall_mem_cons.mpr ⟨mt_mk_18_15, List.forall_mem_cons.mpr ⟨mt_mk_18_16, List.forall_mem_cons.mpr ⟨mt_mk_18_17, List.forall_mem_cons.mpr ⟨mt_mk_18_18, List.forall_mem_cons.mpr ⟨mt_mk_18_19, List.forall_mem_cons.mpr ⟨mt_mk_18_20, List.forall_mem_cons.mpr ⟨mt_mk_18_21, List.forall_mem_cons.mpr ⟨mt_mk_18_22, List.forall_mem_cons.mpr ⟨mt_mk_18_23, List.forall_mem_cons.mpr ⟨mt_mk_18_24, List.forall_mem_cons.mpr ⟨mt_mk_18_25, List.forall_mem_cons.mpr ⟨mt_mk_18_26, List.forall_mem_cons.mpr ⟨mt_mk_18_27, List.forall_mem_cons.mpr ⟨mt_mk_18_28, List.forall_mem_cons.mpr ⟨mt_mk_18_29, List.forall_mem_cons.mpr ⟨mt_mk_18_30, List.forall_mem_cons.mpr ⟨mt_mk_18_31, List.forall_mem_cons.mpr ⟨mt_mk_18_32, List.forall_mem_cons.mpr ⟨mt_mk_18_33, List.forall_mem_cons.mpr ⟨mt_mk_18_34, List.forall_mem_cons.mpr ⟨mt_mk_18_35, List.forall_mem_cons.mpr ⟨mt_mk_18_36, List.forall_mem_cons.mpr ⟨mt_mk_18_37, List.forall_mem_cons.mpr ⟨mt_mk_18_38, List.forall_mem_cons.mpr ⟨mt_mk_18_39, List.forall_mem_cons.mpr ⟨mt_mk_18_40, List.forall_mem_cons.mpr ⟨mt_mk_18_41, List.forall_mem_cons.mpr ⟨mt_mk_18_42, List.forall_mem_cons.mpr ⟨mt_mk_18_43, fun _ h => absurd h List.not_mem_nil⟩⟩⟩⟩⟩⟩⟩⟩⟩⟩⟩⟩⟩⟩⟩⟩⟩⟩⟩⟩⟩⟩⟩⟩⟩⟩⟩⟩⟩⟩⟩⟩⟩⟩⟩⟩⟩⟩⟩⟩⟩⟩⟩⟩
theorem mt_mok_19 : ∀ q ∈ mt_m_19, mt_mok 19 q := fun _ h => absurd h List.not_mem_nil
theorem mt_mok_20 : ∀ q ∈ mt_m_20, mt_mok 20 q := fun _ h => absurd h List.not_mem_nil
set_option maxRecDepth 100000 in
theorem mt_mk_21_0 : mt_mok 21 (9, 32, 4) := ⟨by decide, ⟨(lw_in3 (List.mem_of_getElem? (i := 172) rfl)), rfl⟩, ⟨(lw_in3 (List.mem_of_getElem? (i := 173) rfl)), rfl⟩, ⟨(lw_in1 (List.mem_of_getElem? (i := 21) rfl)), rfl⟩⟩
theorem mt_mok_21 : ∀ q ∈ mt_m_21, mt_mok 21 q := List.forall_mem_cons.mpr ⟨mt_mk_21_0, fun _ h => absurd h List.not_mem_nil⟩
theorem mt_mok_22 : ∀ q ∈ mt_m_22, mt_mok 22 q := fun _ h => absurd h List.not_mem_nil
theorem mt_ms_ok : ∀ (oc : Nat), ∀ q ∈ mt_ms.getD oc [], mt_mok oc q
  | 0 => mt_mok_0
  | 1 => mt_mok_1
  | 2 => mt_mok_2
  | 3 => mt_mok_3
  | 4 => mt_mok_4
  | 5 => mt_mok_5
  | 6 => mt_mok_6
  | 7 => mt_mok_7
  | 8 => mt_mok_8
  | 9 => mt_mok_9
  | 10 => mt_mok_10
  | 11 => mt_mok_11
  | 12 => mt_mok_12
  | 13 => mt_mok_13
  | 14 => mt_mok_14
  | 15 => mt_mok_15
  | 16 => mt_mok_16
  | 17 => mt_mok_17
  | 18 => mt_mok_18
  | 19 => mt_mok_19
  | 20 => mt_mok_20
  | 21 => mt_mok_21
  | 22 => mt_mok_22
  | n + 23 => fun _ h => absurd h List.not_mem_nil
theorem mt_m_at {oc idx : Nat} {z : Nat × Nat} (h : mt_m oc idx = some z) : mt_mok oc (idx, z) := by
  unfold mt_m at h
  obtain ⟨q, hq, rfl⟩ := Option.map_eq_some_iff.mp h
  have h1 := mt_ms_ok oc q (List.mem_of_find?_eq_some hq)
  have hi : q.1 = idx := by have := List.find?_some hq; simpa using this
  rw [← hi]
  exact h1
theorem mt_m0 {oc idx y2 : Nat} (h : mt_m oc idx = some (y2, 0)) : y2 < mt_ny ∧ mt_B (Cond.methodLink (mt_cn oc) idx (mt_nm y2)) ∧ mt_B (Cond.instanceMethod (mt_nm y2)) ∧ mt_B (Cond.selects (mt_cn (mt_oc y2)) (mt_nm y2) (mt_nm y2)) := mt_m_at h
theorem mt_m2 {oc idx y2 : Nat} (h : mt_m oc idx = some (y2, 2)) : y2 < mt_ny ∧ mt_B (Cond.methodLink (mt_cn oc) idx (mt_nm y2)) ∧ mt_B (Cond.instanceMethod (mt_nm y2)) ∧ (mt_nm y2).name = "<init>" ∧ mt_B (Cond.code (mt_nm y2) (mt_by y2) (mt_ml y2) none) := mt_m_at h
theorem mt_m3 {oc idx y2 : Nat} (h : mt_m oc idx = some (y2, 3)) : y2 < mt_ny ∧ (∃ host, (mt_cn oc, idx, mt_nm y2, host) ∈ mt_nest) ∧ mt_B (Cond.instanceMethod (mt_nm y2)) ∧ (mt_nm y2).name = "<init>" ∧ mt_B (Cond.code (mt_nm y2) (mt_by y2) (mt_ml y2) none) := mt_m_at h
theorem mt_m4 {oc idx y2 : Nat} (h : mt_m oc idx = some (y2, 4)) : y2 < mt_ny ∧ mt_B (Cond.methodLink (mt_cn oc) idx (mt_nm y2)) ∧ mt_B (Cond.static (mt_nm y2)) ∧ mt_B (Cond.initialized (mt_nm y2).cls) := mt_m_at h
def mt_oi : List (Nat × Nat) := [(0, 3), (1, 3), (2, 3), (3, 3), (4, 3), (5, 3), (6, 3), (7, 3), (8, 3), (9, 3), (10, 3), (11, 3), (12, 1), (13, 3)]
set_option maxRecDepth 100000 in
theorem mt_oi_ok : ∀ q ∈ mt_oi, mt_B (Cond.methodLink (mt_cn q.1) q.2 objectInit) := List.forall_mem_cons.mpr ⟨⟨(lw_in1 (List.mem_of_getElem? (i := 33) rfl)), rfl⟩, List.forall_mem_cons.mpr ⟨⟨(lw_in1 (List.mem_of_getElem? (i := 41) rfl)), rfl⟩, List.forall_mem_cons.mpr ⟨⟨(lw_in1 (List.mem_of_getElem? (i := 76) rfl)), rfl⟩, List.forall_mem_cons.mpr ⟨⟨(lw_in1 (List.mem_of_getElem? (i := 160) rfl)), rfl⟩, List.forall_mem_cons.mpr ⟨⟨(lw_in1 (List.mem_of_getElem? (i := 166) rfl)), rfl⟩, List.forall_mem_cons.mpr ⟨⟨(lw_in1 (List.mem_of_getElem? (i := 217) rfl)), rfl⟩, List.forall_mem_cons.mpr ⟨⟨(lw_in1 (List.mem_of_getElem? (i := 231) rfl)), rfl⟩, List.forall_mem_cons.mpr ⟨⟨(lw_in2 (List.mem_of_getElem? (i := 24) rfl)), rfl⟩, List.forall_mem_cons.mpr ⟨⟨(lw_in2 (List.mem_of_getElem? (i := 30) rfl)), rfl⟩, List.forall_mem_cons.mpr ⟨⟨(lw_in2 (List.mem_of_getElem? (i := 74) rfl)), rfl⟩, List.forall_mem_cons.mpr ⟨⟨(lw_in2 (List.mem_of_getElem? (i := 112) rfl)), rfl⟩, List.forall_mem_cons.mpr ⟨⟨(lw_in2 (List.mem_of_getElem? (i := 163) rfl)), rfl⟩, List.forall_mem_cons.mpr ⟨⟨(lw_in5 (List.mem_of_getElem? (i := 171) rfl)), rfl⟩, List.forall_mem_cons.mpr ⟨⟨(lw_in5 (List.mem_of_getElem? (i := 203) rfl)), rfl⟩, fun _ h => absurd h List.not_mem_nil⟩⟩⟩⟩⟩⟩⟩⟩⟩⟩⟩⟩⟩⟩
def mt_ay : List (Nat × Nat) := [(9, 41), (5, 18)]
set_option maxRecDepth 100000 in
theorem mt_ay_ok : ∀ q ∈ mt_ay, mt_B (Cond.methodLink (mt_cn q.1) q.2 arraycopyName) := List.forall_mem_cons.mpr ⟨⟨(lw_in4 (List.mem_of_getElem? (i := 139) rfl)), rfl⟩, List.forall_mem_cons.mpr ⟨⟨(lw_in4 (List.mem_of_getElem? (i := 165) rfl)), rfl⟩, fun _ h => absurd h List.not_mem_nil⟩⟩
theorem mt_oi1 : mt_B (Cond.instanceMethod objectInit) := ⟨(lw_in1 (List.mem_of_getElem? (i := 34) rfl)), rfl⟩
theorem mt_oi2 : mt_B (Cond.code objectInit ⟨#[0xb1]⟩ 1 none) := ⟨(lw_in1 (List.mem_of_getElem? (i := 35) rfl)), rfl⟩
theorem mt_ay1 : mt_B (Cond.native arraycopyName) := ⟨(lw_in4 (List.mem_of_getElem? (i := 141) rfl)), rfl⟩
theorem mt_ay2 : mt_B (Cond.static arraycopyName) := ⟨(lw_in4 (List.mem_of_getElem? (i := 140) rfl)), rfl⟩
theorem mt_ay3 : mt_B (Cond.initialized "java/lang/System") := ⟨(lw_in1 (List.mem_of_getElem? (i := 27) rfl)), rfl⟩
def mt_lg : List (Nat × Nat × Int64) := [(1, 69, 10), (0, 121, 2305843009213693952), (10, 102, 4611686018427387904), (10, 104, (-4611686018427387904)), (9, 47, 4611686018427387904), (5, 37, 4611686018427387904), (2, 64, 16), (12, 264, 32), (12, 266, 126), (12, 285, 97), (12, 287, 122), (12, 289, 65), (12, 291, 90), (12, 293, 48), (12, 295, 57), (12, 331, 10), (12, 437, 4611686018427387904), (12, 439, (-4611686018427387904)), (19, 138, 4294967295), (12, 542, 7), (12, 544, 3), (12, 546, 2305843009213693952), (12, 552, 4), (12, 560, 16), (12, 590, 2), (18, 86, 4294967295)]
set_option maxRecDepth 100000 in
theorem mt_lg_ok : ∀ q ∈ mt_lg, mt_B (Cond.constantLong (mt_cn q.1) q.2.1 q.2.2) := List.forall_mem_cons.mpr ⟨⟨(lw_in3 (List.mem_of_getElem? (i := 203) rfl)), rfl⟩, List.forall_mem_cons.mpr ⟨⟨(lw_in4 (List.mem_of_getElem? (i := 71) rfl)), rfl⟩, List.forall_mem_cons.mpr ⟨⟨(lw_in4 (List.mem_of_getElem? (i := 215) rfl)), rfl⟩, List.forall_mem_cons.mpr ⟨⟨(lw_in4 (List.mem_of_getElem? (i := 216) rfl)), rfl⟩, List.forall_mem_cons.mpr ⟨⟨(lw_in5 (List.mem_of_getElem? (i := 11) rfl)), rfl⟩, List.forall_mem_cons.mpr ⟨⟨(lw_in5 (List.mem_of_getElem? (i := 62) rfl)), rfl⟩, List.forall_mem_cons.mpr ⟨⟨(lw_in5 (List.mem_of_getElem? (i := 107) rfl)), rfl⟩, List.forall_mem_cons.mpr ⟨⟨(lw_in7 (List.mem_of_getElem? (i := 35) rfl)), rfl⟩, List.forall_mem_cons.mpr ⟨⟨(lw_in7 (List.mem_of_getElem? (i := 36) rfl)), rfl⟩, List.forall_mem_cons.mpr ⟨⟨(lw_in7 (List.mem_of_getElem? (i := 59) rfl)), rfl⟩, List.forall_mem_cons.mpr ⟨⟨(lw_in7 (List.mem_of_getElem? (i := 60) rfl)), rfl⟩, List.forall_mem_cons.mpr ⟨⟨(lw_in7 (List.mem_of_getElem? (i := 61) rfl)), rfl⟩, List.forall_mem_cons.mpr ⟨⟨(lw_in7 (List.mem_of_getElem? (i := 62) rfl)), rfl⟩, List.forall_mem_cons.mpr ⟨⟨(lw_in7 (List.mem_of_getElem? (i := 66) rfl)), rfl⟩, List.forall_mem_cons.mpr ⟨⟨(lw_in7 (List.mem_of_getElem? (i := 67) rfl)), rfl⟩, List.forall_mem_cons.mpr ⟨⟨(lw_in7 (List.mem_of_getElem? (i := 81) rfl)), rfl⟩, List.forall_mem_cons.mpr ⟨⟨(lw_in7 (List.mem_of_getElem? (i := 203) rfl)), rfl⟩, List.forall_mem_cons.mpr ⟨⟨(lw_in7 (List.mem_of_getElem? (i := 204) rfl)), rfl⟩, List.forall_mem_cons.mpr ⟨⟨(lw_in7 (List.mem_of_getElem? (i := 216) rfl)), rfl⟩, List.forall_mem_cons.mpr ⟨⟨(lw_in7 (List.mem_of_getElem? (i := 237) rfl)), rfl⟩, List.forall_mem_cons.mpr ⟨⟨(lw_in7 (List.mem_of_getElem? (i := 238) rfl)), rfl⟩, List.forall_mem_cons.mpr ⟨⟨(lw_in7 (List.mem_of_getElem? (i := 239) rfl)), rfl⟩, List.forall_mem_cons.mpr ⟨⟨(lw_in8 (List.mem_of_getElem? (i := 20) rfl)), rfl⟩, List.forall_mem_cons.mpr ⟨⟨(lw_in8 (List.mem_of_getElem? (i := 41) rfl)), rfl⟩, List.forall_mem_cons.mpr ⟨⟨(lw_in8 (List.mem_of_getElem? (i := 66) rfl)), rfl⟩, List.forall_mem_cons.mpr ⟨⟨(lw_in8 (List.mem_of_getElem? (i := 71) rfl)), rfl⟩, fun _ h => absurd h List.not_mem_nil⟩⟩⟩⟩⟩⟩⟩⟩⟩⟩⟩⟩⟩⟩⟩⟩⟩⟩⟩⟩⟩⟩⟩⟩⟩⟩
def mt_l (oc idx : Nat) : Option Int64 := (mt_lg.find? (fun q => q.1 == oc && q.2.1 == idx)).map (fun q => q.2.2)
theorem mt_l_ok {oc idx : Nat} {v : Int64} (h : mt_l oc idx = some v) : mt_B (Cond.constantLong (mt_cn oc) idx v) := by
  unfold mt_l at h
  obtain ⟨q, hq, rfl⟩ := Option.map_eq_some_iff.mp h
  have h1 := mt_lg_ok q (List.mem_of_find?_eq_some hq)
  have hi : q.1 = oc ∧ q.2.1 = idx := by have := List.find?_some hq; simpa using this
  rw [← hi.1, ← hi.2]
  exact h1
theorem mt_s_ok {oc idx n : Nat} (h : mt_s oc idx = some n) : ∃ tx, (oc, idx, n, tx) ∈ mt_sr := by
  unfold mt_s at h
  obtain ⟨q, hq, rfl⟩ := Option.map_eq_some_iff.mp h
  have hm := List.mem_of_find?_eq_some hq
  have hi : q.1 = oc ∧ q.2.1 = idx := by have := List.find?_some hq; simpa using this
  obtain ⟨a, b, c, d⟩ := q
  obtain ⟨rfl, rfl⟩ := hi
  exact ⟨d, hm⟩
theorem mt_sr_lt : ∀ q ∈ mt_sr, q.2.2.1 < mt_ns := by decide +kernel
theorem mt_s_lt {oc idx n : Nat} (h : mt_s oc idx = some n) : n < mt_ns := by
  obtain ⟨tx, h1⟩ := mt_s_ok h
  exact mt_sr_lt _ h1
def mt_si_value : Nat := 9
theorem mt_sf_value : mt_B (Cond.fieldLink "java/lang/String" 9 "java/lang/String" "value" "[B") := ⟨(lw_in8 (List.mem_of_getElem? (i := 74) rfl)), rfl⟩
def mt_si_coder : Nat := 15
theorem mt_sf_coder : mt_B (Cond.fieldLink "java/lang/String" 15 "java/lang/String" "coder" "B") := ⟨(lw_in8 (List.mem_of_getElem? (i := 73) rfl)), rfl⟩
def mt_si_COMPACT_STRINGS : Nat := 38
theorem mt_sf_COMPACT_STRINGS : mt_B (Cond.fieldLink "java/lang/String" 38 "java/lang/String" "COMPACT_STRINGS" "Z") := ⟨(lw_in3 (List.mem_of_getElem? (i := 167) rfl)), rfl⟩
def mt_si_fm : Nat := 1053
theorem mt_sf_fm : mt_B (Cond.fieldLink "java/lang/String" 1053 "jdk/internal/util/Preconditions" "SIOOBE_FORMATTER" "Ljava/util/function/BiFunction;") := ⟨(lw_in3 (List.mem_of_getElem? (i := 175) rfl)), rfl⟩
def mt_ovs : List String := ["MarloweHost$Situation", "java/lang/String", "MarloweHostModel$State"]
theorem mt_inst_14 : mt_B (Cond.instantiable "java/lang/IndexOutOfBoundsException" 6) := ⟨(lw_in3 (List.mem_of_getElem? (i := 21) rfl)), rfl⟩
theorem mt_init_14 : mt_B (Cond.initialized "java/lang/IndexOutOfBoundsException") := ⟨(lw_in1 (List.mem_of_getElem? (i := 18) rfl)), rfl⟩
theorem mt_inst_15 : mt_B (Cond.instantiable "java/lang/IllegalArgumentException" 6) := ⟨(lw_in3 (List.mem_of_getElem? (i := 117) rfl)), rfl⟩
theorem mt_init_15 : mt_B (Cond.initialized "java/lang/IllegalArgumentException") := ⟨(lw_in1 (List.mem_of_getElem? (i := 19) rfl)), rfl⟩
theorem mt_inst_16 : mt_B (Cond.instantiable "java/lang/IllegalStateException" 6) := ⟨(lw_in4 (List.mem_of_getElem? (i := 120) rfl)), rfl⟩
theorem mt_init_16 : mt_B (Cond.initialized "java/lang/IllegalStateException") := ⟨(lw_in1 (List.mem_of_getElem? (i := 26) rfl)), rfl⟩
def mt_k (oc ct ce : Nat) : Option Bool := match mt_c oc ct with
  | some cT => if (14 ≤ ce ∧ ce ≤ 16) ∧ (14 ≤ cT ∧ cT ≤ 16) ∧ ct ≠ 0 then some (cT == ce) else none
  | none => none
