section
/-! MarloweHostModel.apply(JJ)I -/
set_option maxRecDepth 100000 in
theorem mq_172 : mt_q 172 = my_172 := rfl
set_option maxRecDepth 100000 in
theorem ci_172 : mt_inc 0 my_172.cd = true := by decide +kernel
theorem cd_172_0 : mt_cd 172 0 = some (.aload_n 0) := mt_cd_of (q := (0, .aload_n 0, 1)) mq_172 ci_172 (List.mem_append_left _ (show _ ∈ my_172_0 from List.mem_of_getElem? (i := 0) rfl))
theorem cd_172_1 : mt_cd 172 1 = some (.iconst 0) := mt_cd_of (q := (1, .iconst 0, 1)) mq_172 ci_172 (List.mem_append_left _ (show _ ∈ my_172_0 from List.mem_of_getElem? (i := 1) rfl))
theorem cd_172_2 : mt_cd 172 2 = some (.putfield 248) := mt_cd_of (q := (2, .putfield 248, 3)) mq_172 ci_172 (List.mem_append_left _ (show _ ∈ my_172_0 from List.mem_of_getElem? (i := 2) rfl))
theorem cd_172_5 : mt_cd 172 5 = some (.aload_n 0) := mt_cd_of (q := (5, .aload_n 0, 1)) mq_172 ci_172 (List.mem_append_left _ (show _ ∈ my_172_0 from List.mem_of_getElem? (i := 3) rfl))
theorem cd_172_6 : mt_cd 172 6 = some (.aload_n 0) := mt_cd_of (q := (6, .aload_n 0, 1)) mq_172 ci_172 (List.mem_append_left _ (show _ ∈ my_172_0 from List.mem_of_getElem? (i := 4) rfl))
theorem cd_172_7 : mt_cd 172 7 = some (.getfield 13) := mt_cd_of (q := (7, .getfield 13, 3)) mq_172 ci_172 (List.mem_append_left _ (show _ ∈ my_172_0 from List.mem_of_getElem? (i := 5) rfl))
theorem cd_172_10 : mt_cd 172 10 = some (.ifCond .ge 7) := mt_cd_of (q := (10, .ifCond .ge 7, 3)) mq_172 ci_172 (List.mem_append_left _ (show _ ∈ my_172_0 from List.mem_of_getElem? (i := 6) rfl))
theorem cd_172_13 : mt_cd 172 13 = some (.iconst 1) := mt_cd_of (q := (13, .iconst 1, 1)) mq_172 ci_172 (List.mem_append_left _ (show _ ∈ my_172_0 from List.mem_of_getElem? (i := 7) rfl))
theorem cd_172_14 : mt_cd 172 14 = some (.goto 4) := mt_cd_of (q := (14, .goto 4, 3)) mq_172 ci_172 (List.mem_append_left _ (show _ ∈ my_172_0 from List.mem_of_getElem? (i := 8) rfl))
theorem cd_172_17 : mt_cd 172 17 = some (.iconst 0) := mt_cd_of (q := (17, .iconst 0, 1)) mq_172 ci_172 (List.mem_append_left _ (show _ ∈ my_172_0 from List.mem_of_getElem? (i := 9) rfl))
theorem cd_172_18 : mt_cd 172 18 = some (.iconst 1) := mt_cd_of (q := (18, .iconst 1, 1)) mq_172 ci_172 (List.mem_append_left _ (show _ ∈ my_172_0 from List.mem_of_getElem? (i := 10) rfl))
theorem cd_172_19 : mt_cd 172 19 = some (.invokevirtual 254) := mt_cd_of (q := (19, .invokevirtual 254, 3)) mq_172 ci_172 (List.mem_append_left _ (show _ ∈ my_172_0 from List.mem_of_getElem? (i := 11) rfl))
theorem cd_172_22 : mt_cd 172 22 = some (.ifCond .eq 5) := mt_cd_of (q := (22, .ifCond .eq 5, 3)) mq_172 ci_172 (List.mem_append_left _ (show _ ∈ my_172_0 from List.mem_of_getElem? (i := 12) rfl))
theorem cd_172_25 : mt_cd 172 25 = some (.iconst 0) := mt_cd_of (q := (25, .iconst 0, 1)) mq_172 ci_172 (List.mem_append_left _ (show _ ∈ my_172_0 from List.mem_of_getElem? (i := 13) rfl))
theorem cd_172_26 : mt_cd 172 26 = some (.ireturn) := mt_cd_of (q := (26, .ireturn, 1)) mq_172 ci_172 (List.mem_append_left _ (show _ ∈ my_172_0 from List.mem_of_getElem? (i := 14) rfl))
theorem cd_172_27 : mt_cd 172 27 = some (.aload_n 0) := mt_cd_of (q := (27, .aload_n 0, 1)) mq_172 ci_172 (List.mem_append_left _ (show _ ∈ my_172_0 from List.mem_of_getElem? (i := 15) rfl))
theorem cd_172_28 : mt_cd 172 28 = some (.aload_n 0) := mt_cd_of (q := (28, .aload_n 0, 1)) mq_172 ci_172 (List.mem_append_left _ (show _ ∈ my_172_0 from List.mem_of_getElem? (i := 16) rfl))
theorem cd_172_29 : mt_cd 172 29 = some (.getfield 151) := mt_cd_of (q := (29, .getfield 151, 3)) mq_172 ci_172 (List.mem_append_left _ (show _ ∈ my_172_0 from List.mem_of_getElem? (i := 17) rfl))
theorem cd_172_32 : mt_cd 172 32 = some (.putfield 445) := mt_cd_of (q := (32, .putfield 445, 3)) mq_172 ci_172 (List.mem_append_left _ (show _ ∈ my_172_0 from List.mem_of_getElem? (i := 18) rfl))
theorem cd_172_35 : mt_cd 172 35 = some (.aload_n 0) := mt_cd_of (q := (35, .aload_n 0, 1)) mq_172 ci_172 (List.mem_append_left _ (show _ ∈ my_172_0 from List.mem_of_getElem? (i := 19) rfl))
theorem cd_172_36 : mt_cd 172 36 = some (.getfield 445) := mt_cd_of (q := (36, .getfield 445, 3)) mq_172 ci_172 (List.mem_append_left _ (show _ ∈ my_172_0 from List.mem_of_getElem? (i := 20) rfl))
theorem cd_172_39 : mt_cd 172 39 = some (.aload_n 0) := mt_cd_of (q := (39, .aload_n 0, 1)) mq_172 ci_172 (List.mem_append_left _ (show _ ∈ my_172_0 from List.mem_of_getElem? (i := 21) rfl))
theorem cd_172_40 : mt_cd 172 40 = some (.getfield 147) := mt_cd_of (q := (40, .getfield 147, 3)) mq_172 ci_172 (List.mem_append_left _ (show _ ∈ my_172_0 from List.mem_of_getElem? (i := 22) rfl))
theorem cd_172_43 : mt_cd 172 43 = some (.invokevirtual 525) := mt_cd_of (q := (43, .invokevirtual 525, 3)) mq_172 ci_172 (List.mem_append_left _ (show _ ∈ my_172_0 from List.mem_of_getElem? (i := 23) rfl))
theorem cd_172_46 : mt_cd 172 46 = some (.aload_n 0) := mt_cd_of (q := (46, .aload_n 0, 1)) mq_172 ci_172 (List.mem_append_left _ (show _ ∈ my_172_0 from List.mem_of_getElem? (i := 24) rfl))
theorem cd_172_47 : mt_cd 172 47 = some (.iconst 1) := mt_cd_of (q := (47, .iconst 1, 1)) mq_172 ci_172 (List.mem_append_left _ (show _ ∈ my_172_0 from List.mem_of_getElem? (i := 25) rfl))
theorem cd_172_48 : mt_cd 172 48 = some (.putfield 513) := mt_cd_of (q := (48, .putfield 513, 3)) mq_172 ci_172 (List.mem_append_left _ (show _ ∈ my_172_0 from List.mem_of_getElem? (i := 26) rfl))
theorem cd_172_51 : mt_cd 172 51 = some (.aload_n 0) := mt_cd_of (q := (51, .aload_n 0, 1)) mq_172 ci_172 (List.mem_append_left _ (show _ ∈ my_172_0 from List.mem_of_getElem? (i := 27) rfl))
theorem cd_172_52 : mt_cd 172 52 = some (.lload_n 1) := mt_cd_of (q := (52, .lload_n 1, 1)) mq_172 ci_172 (List.mem_append_left _ (show _ ∈ my_172_0 from List.mem_of_getElem? (i := 28) rfl))
theorem cd_172_53 : mt_cd 172 53 = some (.lload_n 3) := mt_cd_of (q := (53, .lload_n 3, 1)) mq_172 ci_172 (List.mem_append_left _ (show _ ∈ my_172_0 from List.mem_of_getElem? (i := 29) rfl))
theorem cd_172_54 : mt_cd 172 54 = some (.aload_n 0) := mt_cd_of (q := (54, .aload_n 0, 1)) mq_172 ci_172 (List.mem_append_left _ (show _ ∈ my_172_0 from List.mem_of_getElem? (i := 30) rfl))
theorem cd_172_55 : mt_cd 172 55 = some (.getfield 258) := mt_cd_of (q := (55, .getfield 258, 3)) mq_172 ci_172 (List.mem_append_left _ (show _ ∈ my_172_0 from List.mem_of_getElem? (i := 31) rfl))
theorem cd_172_58 : mt_cd 172 58 = some (.invokevirtual 529) := mt_cd_of (q := (58, .invokevirtual 529, 3)) mq_172 ci_172 (List.mem_append_left _ (show _ ∈ my_172_0 from List.mem_of_getElem? (i := 32) rfl))
theorem cd_172_61 : mt_cd 172 61 = some (.istore 5) := mt_cd_of (q := (61, .istore 5, 2)) mq_172 ci_172 (List.mem_append_left _ (show _ ∈ my_172_0 from List.mem_of_getElem? (i := 33) rfl))
theorem cd_172_63 : mt_cd 172 63 = some (.aload_n 0) := mt_cd_of (q := (63, .aload_n 0, 1)) mq_172 ci_172 (List.mem_append_left _ (show _ ∈ my_172_0 from List.mem_of_getElem? (i := 34) rfl))
theorem cd_172_64 : mt_cd 172 64 = some (.iconst 0) := mt_cd_of (q := (64, .iconst 0, 1)) mq_172 ci_172 (List.mem_append_left _ (show _ ∈ my_172_0 from List.mem_of_getElem? (i := 35) rfl))
theorem cd_172_65 : mt_cd 172 65 = some (.putfield 258) := mt_cd_of (q := (65, .putfield 258, 3)) mq_172 ci_172 (List.mem_append_left _ (show _ ∈ my_172_0 from List.mem_of_getElem? (i := 36) rfl))
theorem cd_172_68 : mt_cd 172 68 = some (.iload 5) := mt_cd_of (q := (68, .iload 5, 2)) mq_172 ci_172 (List.mem_append_left _ (show _ ∈ my_172_0 from List.mem_of_getElem? (i := 37) rfl))
theorem cd_172_70 : mt_cd 172 70 = some (.ifCond .ne 9) := mt_cd_of (q := (70, .ifCond .ne 9, 3)) mq_172 ci_172 (List.mem_append_left _ (show _ ∈ my_172_0 from List.mem_of_getElem? (i := 38) rfl))
theorem cd_172_73 : mt_cd 172 73 = some (.aload_n 0) := mt_cd_of (q := (73, .aload_n 0, 1)) mq_172 ci_172 (List.mem_append_left _ (show _ ∈ my_172_0 from List.mem_of_getElem? (i := 39) rfl))
theorem cd_172_74 : mt_cd 172 74 = some (.invokevirtual 533) := mt_cd_of (q := (74, .invokevirtual 533, 3)) mq_172 ci_172 (List.mem_append_left _ (show _ ∈ my_172_0 from List.mem_of_getElem? (i := 40) rfl))
theorem cd_172_77 : mt_cd 172 77 = some (.istore 5) := mt_cd_of (q := (77, .istore 5, 2)) mq_172 ci_172 (List.mem_append_left _ (show _ ∈ my_172_0 from List.mem_of_getElem? (i := 41) rfl))
theorem cd_172_79 : mt_cd 172 79 = some (.iload 5) := mt_cd_of (q := (79, .iload 5, 2)) mq_172 ci_172 (List.mem_append_left _ (show _ ∈ my_172_0 from List.mem_of_getElem? (i := 42) rfl))
theorem cd_172_81 : mt_cd 172 81 = some (.ifCond .ne 17) := mt_cd_of (q := (81, .ifCond .ne 17, 3)) mq_172 ci_172 (List.mem_append_left _ (show _ ∈ my_172_0 from List.mem_of_getElem? (i := 43) rfl))
theorem cd_172_84 : mt_cd 172 84 = some (.aload_n 0) := mt_cd_of (q := (84, .aload_n 0, 1)) mq_172 ci_172 (List.mem_append_left _ (show _ ∈ my_172_0 from List.mem_of_getElem? (i := 44) rfl))
theorem cd_172_85 : mt_cd 172 85 = some (.getfield 147) := mt_cd_of (q := (85, .getfield 147, 3)) mq_172 ci_172 (List.mem_append_left _ (show _ ∈ my_172_0 from List.mem_of_getElem? (i := 45) rfl))
theorem cd_172_88 : mt_cd 172 88 = some (.aload_n 0) := mt_cd_of (q := (88, .aload_n 0, 1)) mq_172 ci_172 (List.mem_append_left _ (show _ ∈ my_172_0 from List.mem_of_getElem? (i := 46) rfl))
theorem cd_172_89 : mt_cd 172 89 = some (.getfield 151) := mt_cd_of (q := (89, .getfield 151, 3)) mq_172 ci_172 (List.mem_append_left _ (show _ ∈ my_172_0 from List.mem_of_getElem? (i := 47) rfl))
theorem cd_172_92 : mt_cd 172 92 = some (.invokevirtual 525) := mt_cd_of (q := (92, .invokevirtual 525, 3)) mq_172 ci_172 (List.mem_append_left _ (show _ ∈ my_172_0 from List.mem_of_getElem? (i := 48) rfl))
theorem cd_172_95 : mt_cd 172 95 = some (.goto 13) := mt_cd_of (q := (95, .goto 13, 3)) mq_172 ci_172 (List.mem_append_left _ (show _ ∈ my_172_0 from List.mem_of_getElem? (i := 49) rfl))
theorem cd_172_98 : mt_cd 172 98 = some (.aload_n 0) := mt_cd_of (q := (98, .aload_n 0, 1)) mq_172 ci_172 (List.mem_append_left _ (show _ ∈ my_172_0 from List.mem_of_getElem? (i := 50) rfl))
theorem cd_172_99 : mt_cd 172 99 = some (.iconst 0) := mt_cd_of (q := (99, .iconst 0, 1)) mq_172 ci_172 (List.mem_append_left _ (show _ ∈ my_172_0 from List.mem_of_getElem? (i := 51) rfl))
theorem cd_172_100 : mt_cd 172 100 = some (.putfield 490) := mt_cd_of (q := (100, .putfield 490, 3)) mq_172 ci_172 (List.mem_append_left _ (show _ ∈ my_172_0 from List.mem_of_getElem? (i := 52) rfl))
theorem cd_172_103 : mt_cd 172 103 = some (.aload_n 0) := mt_cd_of (q := (103, .aload_n 0, 1)) mq_172 ci_172 (List.mem_append_left _ (show _ ∈ my_172_0 from List.mem_of_getElem? (i := 53) rfl))
theorem cd_172_104 : mt_cd 172 104 = some (.iconst 0) := mt_cd_of (q := (104, .iconst 0, 1)) mq_172 ci_172 (List.mem_append_left _ (show _ ∈ my_172_0 from List.mem_of_getElem? (i := 54) rfl))
theorem cd_172_105 : mt_cd 172 105 = some (.putfield 493) := mt_cd_of (q := (105, .putfield 493, 3)) mq_172 ci_172 (List.mem_append_left _ (show _ ∈ my_172_0 from List.mem_of_getElem? (i := 55) rfl))
theorem cd_172_108 : mt_cd 172 108 = some (.aload_n 0) := mt_cd_of (q := (108, .aload_n 0, 1)) mq_172 ci_172 (List.mem_append_left _ (show _ ∈ my_172_0 from List.mem_of_getElem? (i := 56) rfl))
theorem cd_172_109 : mt_cd 172 109 = some (.aload_n 0) := mt_cd_of (q := (109, .aload_n 0, 1)) mq_172 ci_172 (List.mem_append_left _ (show _ ∈ my_172_0 from List.mem_of_getElem? (i := 57) rfl))
theorem cd_172_110 : mt_cd 172 110 = some (.getfield 490) := mt_cd_of (q := (110, .getfield 490, 3)) mq_172 ci_172 (List.mem_append_left _ (show _ ∈ my_172_0 from List.mem_of_getElem? (i := 58) rfl))
theorem cd_172_113 : mt_cd 172 113 = some (.putfield 536) := mt_cd_of (q := (113, .putfield 536, 3)) mq_172 ci_172 (List.mem_append_left _ (show _ ∈ my_172_0 from List.mem_of_getElem? (i := 59) rfl))
theorem cd_172_116 : mt_cd 172 116 = some (.aload_n 0) := mt_cd_of (q := (116, .aload_n 0, 1)) mq_172 ci_172 (List.mem_append_right _ (List.mem_append_left _ (show _ ∈ my_172_1 from List.mem_of_getElem? (i := 0) rfl)))
theorem cd_172_117 : mt_cd 172 117 = some (.aload_n 0) := mt_cd_of (q := (117, .aload_n 0, 1)) mq_172 ci_172 (List.mem_append_right _ (List.mem_append_left _ (show _ ∈ my_172_1 from List.mem_of_getElem? (i := 1) rfl)))
theorem cd_172_118 : mt_cd 172 118 = some (.getfield 493) := mt_cd_of (q := (118, .getfield 493, 3)) mq_172 ci_172 (List.mem_append_right _ (List.mem_append_left _ (show _ ∈ my_172_1 from List.mem_of_getElem? (i := 2) rfl)))
theorem cd_172_121 : mt_cd 172 121 = some (.putfield 539) := mt_cd_of (q := (121, .putfield 539, 3)) mq_172 ci_172 (List.mem_append_right _ (List.mem_append_left _ (show _ ∈ my_172_1 from List.mem_of_getElem? (i := 3) rfl)))
theorem cd_172_124 : mt_cd 172 124 = some (.iconst 0) := mt_cd_of (q := (124, .iconst 0, 1)) mq_172 ci_172 (List.mem_append_right _ (List.mem_append_left _ (show _ ∈ my_172_1 from List.mem_of_getElem? (i := 4) rfl)))
theorem cd_172_125 : mt_cd 172 125 = some (.istore 6) := mt_cd_of (q := (125, .istore 6, 2)) mq_172 ci_172 (List.mem_append_right _ (List.mem_append_left _ (show _ ∈ my_172_1 from List.mem_of_getElem? (i := 5) rfl)))
theorem cd_172_127 : mt_cd 172 127 = some (.iload 6) := mt_cd_of (q := (127, .iload 6, 2)) mq_172 ci_172 (List.mem_append_right _ (List.mem_append_left _ (show _ ∈ my_172_1 from List.mem_of_getElem? (i := 6) rfl)))
theorem cd_172_129 : mt_cd 172 129 = some (.aload_n 0) := mt_cd_of (q := (129, .aload_n 0, 1)) mq_172 ci_172 (List.mem_append_right _ (List.mem_append_left _ (show _ ∈ my_172_1 from List.mem_of_getElem? (i := 7) rfl)))
theorem cd_172_130 : mt_cd 172 130 = some (.getfield 490) := mt_cd_of (q := (130, .getfield 490, 3)) mq_172 ci_172 (List.mem_append_right _ (List.mem_append_left _ (show _ ∈ my_172_1 from List.mem_of_getElem? (i := 8) rfl)))
theorem cd_172_133 : mt_cd 172 133 = some (.if_icmp .ge 37) := mt_cd_of (q := (133, .if_icmp .ge 37, 3)) mq_172 ci_172 (List.mem_append_right _ (List.mem_append_left _ (show _ ∈ my_172_1 from List.mem_of_getElem? (i := 9) rfl)))
theorem cd_172_136 : mt_cd 172 136 = some (.aload_n 0) := mt_cd_of (q := (136, .aload_n 0, 1)) mq_172 ci_172 (List.mem_append_right _ (List.mem_append_left _ (show _ ∈ my_172_1 from List.mem_of_getElem? (i := 10) rfl)))
theorem cd_172_137 : mt_cd 172 137 = some (.getfield 193) := mt_cd_of (q := (137, .getfield 193, 3)) mq_172 ci_172 (List.mem_append_right _ (List.mem_append_left _ (show _ ∈ my_172_1 from List.mem_of_getElem? (i := 11) rfl)))
theorem cd_172_140 : mt_cd 172 140 = some (.iload 6) := mt_cd_of (q := (140, .iload 6, 2)) mq_172 ci_172 (List.mem_append_right _ (List.mem_append_left _ (show _ ∈ my_172_1 from List.mem_of_getElem? (i := 12) rfl)))
theorem cd_172_142 : mt_cd 172 142 = some (.aload_n 0) := mt_cd_of (q := (142, .aload_n 0, 1)) mq_172 ci_172 (List.mem_append_right _ (List.mem_append_left _ (show _ ∈ my_172_1 from List.mem_of_getElem? (i := 13) rfl)))
theorem cd_172_143 : mt_cd 172 143 = some (.getfield 154) := mt_cd_of (q := (143, .getfield 154, 3)) mq_172 ci_172 (List.mem_append_right _ (List.mem_append_left _ (show _ ∈ my_172_1 from List.mem_of_getElem? (i := 14) rfl)))
theorem cd_172_146 : mt_cd 172 146 = some (.iload 6) := mt_cd_of (q := (146, .iload 6, 2)) mq_172 ci_172 (List.mem_append_right _ (List.mem_append_left _ (show _ ∈ my_172_1 from List.mem_of_getElem? (i := 15) rfl)))
theorem cd_172_148 : mt_cd 172 148 = some (.iaload) := mt_cd_of (q := (148, .iaload, 1)) mq_172 ci_172 (List.mem_append_right _ (List.mem_append_left _ (show _ ∈ my_172_1 from List.mem_of_getElem? (i := 16) rfl)))
theorem cd_172_149 : mt_cd 172 149 = some (.iastore) := mt_cd_of (q := (149, .iastore, 1)) mq_172 ci_172 (List.mem_append_right _ (List.mem_append_left _ (show _ ∈ my_172_1 from List.mem_of_getElem? (i := 17) rfl)))
theorem cd_172_150 : mt_cd 172 150 = some (.aload_n 0) := mt_cd_of (q := (150, .aload_n 0, 1)) mq_172 ci_172 (List.mem_append_right _ (List.mem_append_left _ (show _ ∈ my_172_1 from List.mem_of_getElem? (i := 18) rfl)))
theorem cd_172_151 : mt_cd 172 151 = some (.getfield 196) := mt_cd_of (q := (151, .getfield 196, 3)) mq_172 ci_172 (List.mem_append_right _ (List.mem_append_left _ (show _ ∈ my_172_1 from List.mem_of_getElem? (i := 19) rfl)))
theorem cd_172_154 : mt_cd 172 154 = some (.iload 6) := mt_cd_of (q := (154, .iload 6, 2)) mq_172 ci_172 (List.mem_append_right _ (List.mem_append_left _ (show _ ∈ my_172_1 from List.mem_of_getElem? (i := 20) rfl)))
theorem cd_172_156 : mt_cd 172 156 = some (.aload_n 0) := mt_cd_of (q := (156, .aload_n 0, 1)) mq_172 ci_172 (List.mem_append_right _ (List.mem_append_left _ (show _ ∈ my_172_1 from List.mem_of_getElem? (i := 21) rfl)))
theorem cd_172_157 : mt_cd 172 157 = some (.getfield 157) := mt_cd_of (q := (157, .getfield 157, 3)) mq_172 ci_172 (List.mem_append_right _ (List.mem_append_left _ (show _ ∈ my_172_1 from List.mem_of_getElem? (i := 22) rfl)))
theorem cd_172_160 : mt_cd 172 160 = some (.iload 6) := mt_cd_of (q := (160, .iload 6, 2)) mq_172 ci_172 (List.mem_append_right _ (List.mem_append_left _ (show _ ∈ my_172_1 from List.mem_of_getElem? (i := 23) rfl)))
theorem cd_172_162 : mt_cd 172 162 = some (.iaload) := mt_cd_of (q := (162, .iaload, 1)) mq_172 ci_172 (List.mem_append_right _ (List.mem_append_left _ (show _ ∈ my_172_1 from List.mem_of_getElem? (i := 24) rfl)))
theorem cd_172_163 : mt_cd 172 163 = some (.iastore) := mt_cd_of (q := (163, .iastore, 1)) mq_172 ci_172 (List.mem_append_right _ (List.mem_append_left _ (show _ ∈ my_172_1 from List.mem_of_getElem? (i := 25) rfl)))
theorem cd_172_164 : mt_cd 172 164 = some (.iinc 6 1) := mt_cd_of (q := (164, .iinc 6 1, 3)) mq_172 ci_172 (List.mem_append_right _ (List.mem_append_left _ (show _ ∈ my_172_1 from List.mem_of_getElem? (i := 26) rfl)))
theorem cd_172_167 : mt_cd 172 167 = some (.goto (-40)) := mt_cd_of (q := (167, .goto (-40), 3)) mq_172 ci_172 (List.mem_append_right _ (List.mem_append_left _ (show _ ∈ my_172_1 from List.mem_of_getElem? (i := 27) rfl)))
theorem cd_172_170 : mt_cd 172 170 = some (.iconst 0) := mt_cd_of (q := (170, .iconst 0, 1)) mq_172 ci_172 (List.mem_append_right _ (List.mem_append_left _ (show _ ∈ my_172_1 from List.mem_of_getElem? (i := 28) rfl)))
theorem cd_172_171 : mt_cd 172 171 = some (.istore 6) := mt_cd_of (q := (171, .istore 6, 2)) mq_172 ci_172 (List.mem_append_right _ (List.mem_append_left _ (show _ ∈ my_172_1 from List.mem_of_getElem? (i := 29) rfl)))
theorem cd_172_173 : mt_cd 172 173 = some (.iload 6) := mt_cd_of (q := (173, .iload 6, 2)) mq_172 ci_172 (List.mem_append_right _ (List.mem_append_left _ (show _ ∈ my_172_1 from List.mem_of_getElem? (i := 30) rfl)))
theorem cd_172_175 : mt_cd 172 175 = some (.aload_n 0) := mt_cd_of (q := (175, .aload_n 0, 1)) mq_172 ci_172 (List.mem_append_right _ (List.mem_append_left _ (show _ ∈ my_172_1 from List.mem_of_getElem? (i := 31) rfl)))
theorem cd_172_176 : mt_cd 172 176 = some (.getfield 493) := mt_cd_of (q := (176, .getfield 493, 3)) mq_172 ci_172 (List.mem_append_right _ (List.mem_append_left _ (show _ ∈ my_172_1 from List.mem_of_getElem? (i := 32) rfl)))
theorem cd_172_179 : mt_cd 172 179 = some (.if_icmp .ge 65) := mt_cd_of (q := (179, .if_icmp .ge 65, 3)) mq_172 ci_172 (List.mem_append_right _ (List.mem_append_left _ (show _ ∈ my_172_1 from List.mem_of_getElem? (i := 33) rfl)))
theorem cd_172_182 : mt_cd 172 182 = some (.aload_n 0) := mt_cd_of (q := (182, .aload_n 0, 1)) mq_172 ci_172 (List.mem_append_right _ (List.mem_append_left _ (show _ ∈ my_172_1 from List.mem_of_getElem? (i := 34) rfl)))
theorem cd_172_183 : mt_cd 172 183 = some (.getfield 199) := mt_cd_of (q := (183, .getfield 199, 3)) mq_172 ci_172 (List.mem_append_right _ (List.mem_append_left _ (show _ ∈ my_172_1 from List.mem_of_getElem? (i := 35) rfl)))
theorem cd_172_186 : mt_cd 172 186 = some (.iload 6) := mt_cd_of (q := (186, .iload 6, 2)) mq_172 ci_172 (List.mem_append_right _ (List.mem_append_left _ (show _ ∈ my_172_1 from List.mem_of_getElem? (i := 36) rfl)))
theorem cd_172_188 : mt_cd 172 188 = some (.aload_n 0) := mt_cd_of (q := (188, .aload_n 0, 1)) mq_172 ci_172 (List.mem_append_right _ (List.mem_append_left _ (show _ ∈ my_172_1 from List.mem_of_getElem? (i := 37) rfl)))
theorem cd_172_189 : mt_cd 172 189 = some (.getfield 160) := mt_cd_of (q := (189, .getfield 160, 3)) mq_172 ci_172 (List.mem_append_right _ (List.mem_append_left _ (show _ ∈ my_172_1 from List.mem_of_getElem? (i := 38) rfl)))
theorem cd_172_192 : mt_cd 172 192 = some (.iload 6) := mt_cd_of (q := (192, .iload 6, 2)) mq_172 ci_172 (List.mem_append_right _ (List.mem_append_left _ (show _ ∈ my_172_1 from List.mem_of_getElem? (i := 39) rfl)))
theorem cd_172_194 : mt_cd 172 194 = some (.iaload) := mt_cd_of (q := (194, .iaload, 1)) mq_172 ci_172 (List.mem_append_right _ (List.mem_append_left _ (show _ ∈ my_172_1 from List.mem_of_getElem? (i := 40) rfl)))
theorem cd_172_195 : mt_cd 172 195 = some (.iastore) := mt_cd_of (q := (195, .iastore, 1)) mq_172 ci_172 (List.mem_append_right _ (List.mem_append_left _ (show _ ∈ my_172_1 from List.mem_of_getElem? (i := 41) rfl)))
theorem cd_172_196 : mt_cd 172 196 = some (.aload_n 0) := mt_cd_of (q := (196, .aload_n 0, 1)) mq_172 ci_172 (List.mem_append_right _ (List.mem_append_left _ (show _ ∈ my_172_1 from List.mem_of_getElem? (i := 42) rfl)))
theorem cd_172_197 : mt_cd 172 197 = some (.getfield 202) := mt_cd_of (q := (197, .getfield 202, 3)) mq_172 ci_172 (List.mem_append_right _ (List.mem_append_left _ (show _ ∈ my_172_1 from List.mem_of_getElem? (i := 43) rfl)))
theorem cd_172_200 : mt_cd 172 200 = some (.iload 6) := mt_cd_of (q := (200, .iload 6, 2)) mq_172 ci_172 (List.mem_append_right _ (List.mem_append_left _ (show _ ∈ my_172_1 from List.mem_of_getElem? (i := 44) rfl)))
theorem cd_172_202 : mt_cd 172 202 = some (.aload_n 0) := mt_cd_of (q := (202, .aload_n 0, 1)) mq_172 ci_172 (List.mem_append_right _ (List.mem_append_left _ (show _ ∈ my_172_1 from List.mem_of_getElem? (i := 45) rfl)))
theorem cd_172_203 : mt_cd 172 203 = some (.getfield 163) := mt_cd_of (q := (203, .getfield 163, 3)) mq_172 ci_172 (List.mem_append_right _ (List.mem_append_left _ (show _ ∈ my_172_1 from List.mem_of_getElem? (i := 46) rfl)))
theorem cd_172_206 : mt_cd 172 206 = some (.iload 6) := mt_cd_of (q := (206, .iload 6, 2)) mq_172 ci_172 (List.mem_append_right _ (List.mem_append_left _ (show _ ∈ my_172_1 from List.mem_of_getElem? (i := 47) rfl)))
theorem cd_172_208 : mt_cd 172 208 = some (.iaload) := mt_cd_of (q := (208, .iaload, 1)) mq_172 ci_172 (List.mem_append_right _ (List.mem_append_left _ (show _ ∈ my_172_1 from List.mem_of_getElem? (i := 48) rfl)))
theorem cd_172_209 : mt_cd 172 209 = some (.iastore) := mt_cd_of (q := (209, .iastore, 1)) mq_172 ci_172 (List.mem_append_right _ (List.mem_append_left _ (show _ ∈ my_172_1 from List.mem_of_getElem? (i := 49) rfl)))
theorem cd_172_210 : mt_cd 172 210 = some (.aload_n 0) := mt_cd_of (q := (210, .aload_n 0, 1)) mq_172 ci_172 (List.mem_append_right _ (List.mem_append_left _ (show _ ∈ my_172_1 from List.mem_of_getElem? (i := 50) rfl)))
theorem cd_172_211 : mt_cd 172 211 = some (.getfield 205) := mt_cd_of (q := (211, .getfield 205, 3)) mq_172 ci_172 (List.mem_append_right _ (List.mem_append_left _ (show _ ∈ my_172_1 from List.mem_of_getElem? (i := 51) rfl)))
theorem cd_172_214 : mt_cd 172 214 = some (.iload 6) := mt_cd_of (q := (214, .iload 6, 2)) mq_172 ci_172 (List.mem_append_right _ (List.mem_append_left _ (show _ ∈ my_172_1 from List.mem_of_getElem? (i := 52) rfl)))
theorem cd_172_216 : mt_cd 172 216 = some (.aload_n 0) := mt_cd_of (q := (216, .aload_n 0, 1)) mq_172 ci_172 (List.mem_append_right _ (List.mem_append_left _ (show _ ∈ my_172_1 from List.mem_of_getElem? (i := 53) rfl)))
theorem cd_172_217 : mt_cd 172 217 = some (.getfield 166) := mt_cd_of (q := (217, .getfield 166, 3)) mq_172 ci_172 (List.mem_append_right _ (List.mem_append_left _ (show _ ∈ my_172_1 from List.mem_of_getElem? (i := 54) rfl)))
theorem cd_172_220 : mt_cd 172 220 = some (.iload 6) := mt_cd_of (q := (220, .iload 6, 2)) mq_172 ci_172 (List.mem_append_right _ (List.mem_append_left _ (show _ ∈ my_172_1 from List.mem_of_getElem? (i := 55) rfl)))
theorem cd_172_222 : mt_cd 172 222 = some (.iaload) := mt_cd_of (q := (222, .iaload, 1)) mq_172 ci_172 (List.mem_append_right _ (List.mem_append_left _ (show _ ∈ my_172_1 from List.mem_of_getElem? (i := 56) rfl)))
theorem cd_172_223 : mt_cd 172 223 = some (.iastore) := mt_cd_of (q := (223, .iastore, 1)) mq_172 ci_172 (List.mem_append_right _ (List.mem_append_left _ (show _ ∈ my_172_1 from List.mem_of_getElem? (i := 57) rfl)))
theorem cd_172_224 : mt_cd 172 224 = some (.aload_n 0) := mt_cd_of (q := (224, .aload_n 0, 1)) mq_172 ci_172 (List.mem_append_right _ (List.mem_append_left _ (show _ ∈ my_172_1 from List.mem_of_getElem? (i := 58) rfl)))
theorem cd_172_225 : mt_cd 172 225 = some (.getfield 208) := mt_cd_of (q := (225, .getfield 208, 3)) mq_172 ci_172 (List.mem_append_right _ (List.mem_append_left _ (show _ ∈ my_172_1 from List.mem_of_getElem? (i := 59) rfl)))
theorem cd_172_228 : mt_cd 172 228 = some (.iload 6) := mt_cd_of (q := (228, .iload 6, 2)) mq_172 ci_172 (List.mem_append_right _ (List.mem_append_right _ ((show _ ∈ my_172_2 from List.mem_of_getElem? (i := 0) rfl))))
theorem cd_172_230 : mt_cd 172 230 = some (.aload_n 0) := mt_cd_of (q := (230, .aload_n 0, 1)) mq_172 ci_172 (List.mem_append_right _ (List.mem_append_right _ ((show _ ∈ my_172_2 from List.mem_of_getElem? (i := 1) rfl))))
theorem cd_172_231 : mt_cd 172 231 = some (.getfield 169) := mt_cd_of (q := (231, .getfield 169, 3)) mq_172 ci_172 (List.mem_append_right _ (List.mem_append_right _ ((show _ ∈ my_172_2 from List.mem_of_getElem? (i := 2) rfl))))
theorem cd_172_234 : mt_cd 172 234 = some (.iload 6) := mt_cd_of (q := (234, .iload 6, 2)) mq_172 ci_172 (List.mem_append_right _ (List.mem_append_right _ ((show _ ∈ my_172_2 from List.mem_of_getElem? (i := 3) rfl))))
theorem cd_172_236 : mt_cd 172 236 = some (.laload) := mt_cd_of (q := (236, .laload, 1)) mq_172 ci_172 (List.mem_append_right _ (List.mem_append_right _ ((show _ ∈ my_172_2 from List.mem_of_getElem? (i := 4) rfl))))
theorem cd_172_237 : mt_cd 172 237 = some (.lastore) := mt_cd_of (q := (237, .lastore, 1)) mq_172 ci_172 (List.mem_append_right _ (List.mem_append_right _ ((show _ ∈ my_172_2 from List.mem_of_getElem? (i := 5) rfl))))
theorem cd_172_238 : mt_cd 172 238 = some (.iinc 6 1) := mt_cd_of (q := (238, .iinc 6 1, 3)) mq_172 ci_172 (List.mem_append_right _ (List.mem_append_right _ ((show _ ∈ my_172_2 from List.mem_of_getElem? (i := 6) rfl))))
theorem cd_172_241 : mt_cd 172 241 = some (.goto (-68)) := mt_cd_of (q := (241, .goto (-68), 3)) mq_172 ci_172 (List.mem_append_right _ (List.mem_append_right _ ((show _ ∈ my_172_2 from List.mem_of_getElem? (i := 7) rfl))))
theorem cd_172_244 : mt_cd 172 244 = some (.iload 5) := mt_cd_of (q := (244, .iload 5, 2)) mq_172 ci_172 (List.mem_append_right _ (List.mem_append_right _ ((show _ ∈ my_172_2 from List.mem_of_getElem? (i := 8) rfl))))
theorem cd_172_246 : mt_cd 172 246 = some (.ireturn) := mt_cd_of (q := (246, .ireturn, 1)) mq_172 ci_172 (List.mem_append_right _ (List.mem_append_right _ ((show _ ∈ my_172_2 from List.mem_of_getElem? (i := 9) rfl))))
theorem b_172_0 {d : Nat} {Q : (Option Value ⊕ Nat) → mi_H → Prop} (n sl : Nat) (f : Nat → mi_C) {l1 : Nat} {l2 : Int64} {l3 : Int64} {o4 : Option Value} {o5 : Option Value} {fs6 : List Value} {fs10 : List Value} {x13 : Int32} (h7 : f l1 = .inr (12, fs6)) (h8 : l1 < n) (h9 : 0 < fs6.length) (h11 : (va_up f l1 (.inr (12, fs6.set 0 (.int 0)))) l1 = .inr (12, fs10)) (h12 : l1 < n) (h14 : fs10[4]? = some (.int x13)) (h15 : (0 : Int32) ≤ x13 → mi_W d 172 17 [some (.ref l1), some (.long l2), none, some (.long l3), none, o4, o5] [.ref l1] (n, sl, (va_up f l1 (.inr (12, fs6.set 0 (.int 0))))) Q) (h16 : ¬ ((0 : Int32) ≤ x13) → mi_W d 172 13 [some (.ref l1), some (.long l2), none, some (.long l3), none, o4, o5] [.ref l1] (n, sl, (va_up f l1 (.inr (12, fs6.set 0 (.int 0))))) Q) : mi_W d 172 0 [some (.ref l1), some (.long l2), none, some (.long l3), none, o4, o5] [] (n, sl, f) Q := by
  refine w_aload_n cd_172_0 rfl ?_
  refine w_iconst (v := 0) cd_172_1 (by decide) ?_
  refine w_putfield (w := .int 0) cd_172_2 (show mt_f 12 248 = some (12, 0) by decide +kernel) h7 h8 ⟨h9, rfl, Or.inl (by decide)⟩ ?_
  refine w_aload_n cd_172_5 rfl ?_
  refine w_aload_n cd_172_6 rfl ?_
  refine w_getfield cd_172_7 (show mt_f 12 13 = some (12, 4) by decide +kernel) h11 h12 h14 ?_
  exact w_ifge cd_172_10 (by decide) h15 h16
theorem b_172_13 {d : Nat} {Q : (Option Value ⊕ Nat) → mi_H → Prop} (n sl : Nat) (f : Nat → mi_C) {l1 : Nat} {l2 : Int64} {l3 : Int64} {o4 : Option Value} {o5 : Option Value} {s6 : Nat} (h7 : mi_W d 172 18 [some (.ref l1), some (.long l2), none, some (.long l3), none, o4, o5] [.int 1, .ref s6] (n, sl, f) Q) : mi_W d 172 13 [some (.ref l1), some (.long l2), none, some (.long l3), none, o4, o5] [.ref s6] (n, sl, f) Q := by
  refine w_iconst (v := 1) cd_172_13 (by decide) ?_
  exact w_goto cd_172_14 (by decide) h7
theorem b_172_17 {d : Nat} {Q : (Option Value ⊕ Nat) → mi_H → Prop} (n sl : Nat) (f : Nat → mi_C) {l1 : Nat} {l2 : Int64} {l3 : Int64} {o4 : Option Value} {o5 : Option Value} {s6 : Nat} (h7 : mi_W d 172 18 [some (.ref l1), some (.long l2), none, some (.long l3), none, o4, o5] [.int 0, .ref s6] (n, sl, f) Q) : mi_W d 172 17 [some (.ref l1), some (.long l2), none, some (.long l3), none, o4, o5] [.ref s6] (n, sl, f) Q := by
  refine w_iconst (v := 0) cd_172_17 (by decide) ?_
  exact h7
theorem b_172_18 {d : Nat} {Q : (Option Value ⊕ Nat) → mi_H → Prop} (n sl : Nat) (f : Nat → mi_C) {l1 : Nat} {l2 : Int64} {l3 : Int64} {o4 : Option Value} {o5 : Option Value} {s6 : Int32} {s7 : Nat} {fs8 : List Value} (h9 : f s7 = .inr (12, fs8)) (h10 : s7 < n) (h11 : mi_W d 140 0 (mi_en 3 [.ref s7, .int s6, .int 1]) [] (n, sl, f) (mi_Kc d 172 19 [some (.ref l1), some (.long l2), none, some (.long l3), none, o4, o5] [] Q)) : mi_W (d + 1) 172 18 [some (.ref l1), some (.long l2), none, some (.long l3), none, o4, o5] [.int s6, .ref s7] (n, sl, f) Q := by
  refine w_iconst (v := 1) cd_172_18 (by decide) ?_
  exact w_invokevirtual cd_172_19 (show mt_m 12 254 = some (140, 0) by decide +kernel) (rest := []) rfl (as := [.ref s7, .int s6, .int 1]) rfl h9 (Or.inl h10) ⟨Nat.le_of_ble_eq_true rfl, Nat.le_of_ble_eq_true rfl, Nat.le_of_ble_eq_true rfl⟩ h11
theorem b_172_22 {d : Nat} {Q : (Option Value ⊕ Nat) → mi_H → Prop} (n sl : Nat) (f : Nat → mi_C) {l1 : Nat} {l2 : Int64} {l3 : Int64} {o4 : Option Value} {o5 : Option Value} {s6 : Int32} (h7 : s6 = (0 : Int32) → mi_W d 172 27 [some (.ref l1), some (.long l2), none, some (.long l3), none, o4, o5] [] (n, sl, f) Q) (h8 : ¬ (s6 = (0 : Int32)) → mi_W d 172 25 [some (.ref l1), some (.long l2), none, some (.long l3), none, o4, o5] [] (n, sl, f) Q) : mi_W d 172 22 [some (.ref l1), some (.long l2), none, some (.long l3), none, o4, o5] [.int s6] (n, sl, f) Q := by
  exact w_ifeq cd_172_22 (by decide) h7 h8
theorem b_172_25 {d : Nat} {Q : (Option Value ⊕ Nat) → mi_H → Prop} (n sl : Nat) (f : Nat → mi_C) {l1 : Nat} {l2 : Int64} {l3 : Int64} {o4 : Option Value} {o5 : Option Value} (h6 : Q (.inl (some (.int 0))) (n, sl, f)) : mi_W d 172 25 [some (.ref l1), some (.long l2), none, some (.long l3), none, o4, o5] [] (n, sl, f) Q := by
  refine w_iconst (v := 0) cd_172_25 (by decide) ?_
  exact w_ireturn_i cd_172_26 (by decide +kernel) h6
theorem b_172_27 {d : Nat} {Q : (Option Value ⊕ Nat) → mi_H → Prop} (n sl : Nat) (f : Nat → mi_C) {l1 : Nat} {l2 : Int64} {l3 : Int64} {o4 : Option Value} {o5 : Option Value} {fs6 : List Value} {x9 : Nat} {fs11 : List Value} {fs15 : List Value} {x18 : Nat} {fs20 : List Value} {x23 : Nat} {fs25 : List Value} (h7 : f l1 = .inr (12, fs6)) (h8 : l1 < n) (h10 : fs6[42]? = some (.ref x9)) (h12 : f l1 = .inr (12, fs11)) (h13 : l1 < n) (h14 : 43 < fs11.length) (h16 : (va_up f l1 (.inr (12, fs11.set 43 (.ref x9)))) l1 = .inr (12, fs15)) (h17 : l1 < n) (h19 : fs15[43]? = some (.ref x18)) (h21 : (va_up f l1 (.inr (12, fs11.set 43 (.ref x9)))) l1 = .inr (12, fs20)) (h22 : l1 < n) (h24 : fs20[41]? = some (.ref x23)) (h26 : (va_up f l1 (.inr (12, fs11.set 43 (.ref x9)))) x18 = .inr (13, fs25)) (h27 : x18 < n) (h28 : mi_W d 173 0 (mi_en 3 [.ref x18, .ref x23]) [] (n, sl, (va_up f l1 (.inr (12, fs11.set 43 (.ref x9))))) (mi_Kc d 172 43 [some (.ref l1), some (.long l2), none, some (.long l3), none, o4, o5] [] Q)) : mi_W (d + 1) 172 27 [some (.ref l1), some (.long l2), none, some (.long l3), none, o4, o5] [] (n, sl, f) Q := by
  refine w_aload_n cd_172_27 rfl ?_
  refine w_aload_n cd_172_28 rfl ?_
  refine w_getfield cd_172_29 (show mt_f 12 151 = some (12, 42) by decide +kernel) h7 h8 h10 ?_
  refine w_putfield (w := .ref x9) cd_172_32 (show mt_f 12 445 = some (12, 43) by decide +kernel) h12 h13 ⟨h14, rfl, Or.inl (by decide)⟩ ?_
  refine w_aload_n cd_172_35 rfl ?_
  refine w_getfield cd_172_36 (show mt_f 12 445 = some (12, 43) by decide +kernel) h16 h17 h19 ?_
  refine w_aload_n cd_172_39 rfl ?_
  refine w_getfield cd_172_40 (show mt_f 12 147 = some (12, 41) by decide +kernel) h21 h22 h24 ?_
  exact w_invokevirtual cd_172_43 (show mt_m 12 525 = some (173, 0) by decide +kernel) (rest := []) rfl (as := [.ref x18, .ref x23]) rfl h26 (Or.inl h27) ⟨Nat.le_of_ble_eq_true rfl, Nat.le_of_ble_eq_true rfl, Nat.le_of_ble_eq_true rfl⟩ h28
theorem b_172_46 {d : Nat} {Q : (Option Value ⊕ Nat) → mi_H → Prop} (n sl : Nat) (f : Nat → mi_C) {l1 : Nat} {l2 : Int64} {l3 : Int64} {o4 : Option Value} {o5 : Option Value} {fs6 : List Value} {fs11 : List Value} {x14 : Int32} {fs16 : List Value} (h7 : f l1 = .inr (12, fs6)) (h8 : l1 < n) (h9 : 57 < fs6.length) (h10 : mi_fk .boolean (.int 1) = true) (h12 : (va_up f l1 (.inr (12, fs6.set 57 (.int 1)))) l1 = .inr (12, fs11)) (h13 : l1 < n) (h15 : fs11[59]? = some (.int x14)) (h17 : (va_up f l1 (.inr (12, fs6.set 57 (.int 1)))) l1 = .inr (12, fs16)) (h18 : l1 < n) (h19 : mi_W d 174 0 (mi_en 8 [.ref l1, .long l2, .long l3, .int x14]) [] (n, sl, (va_up f l1 (.inr (12, fs6.set 57 (.int 1))))) (mi_Kc d 172 58 [some (.ref l1), some (.long l2), none, some (.long l3), none, o4, o5] [] Q)) : mi_W (d + 1) 172 46 [some (.ref l1), some (.long l2), none, some (.long l3), none, o4, o5] [] (n, sl, f) Q := by
  refine w_aload_n cd_172_46 rfl ?_
  refine w_iconst (v := 1) cd_172_47 (by decide) ?_
  refine w_putfield (w := .int 1) cd_172_48 (show mt_f 12 513 = some (12, 57) by decide +kernel) h7 h8 ⟨h9, h10, Or.inl (by decide)⟩ ?_
  refine w_aload_n cd_172_51 rfl ?_
  refine w_lload_n cd_172_52 rfl ?_
  refine w_lload_n cd_172_53 rfl ?_
  refine w_aload_n cd_172_54 rfl ?_
  refine w_getfield cd_172_55 (show mt_f 12 258 = some (12, 59) by decide +kernel) h12 h13 h15 ?_
  exact w_invokevirtual cd_172_58 (show mt_m 12 529 = some (174, 0) by decide +kernel) (rest := []) rfl (as := [.ref l1, .long l2, .long l3, .int x14]) rfl h17 (Or.inl h18) ⟨Nat.le_of_ble_eq_true rfl, Nat.le_of_ble_eq_true rfl, Nat.le_of_ble_eq_true rfl⟩ h19
theorem b_172_61 {d : Nat} {Q : (Option Value ⊕ Nat) → mi_H → Prop} (n sl : Nat) (f : Nat → mi_C) {l1 : Nat} {l2 : Int64} {l3 : Int64} {o4 : Option Value} {o5 : Option Value} {s6 : Int32} {fs7 : List Value} (h8 : f l1 = .inr (12, fs7)) (h9 : l1 < n) (h10 : 59 < fs7.length) (h11 : ¬ s6 = (0 : Int32) → mi_W d 172 79 [some (.ref l1), some (.long l2), none, some (.long l3), none, some (.int s6), o5] [] (n, sl, (va_up f l1 (.inr (12, fs7.set 59 (.int 0))))) Q) (h12 : ¬ (¬ s6 = (0 : Int32)) → mi_W d 172 73 [some (.ref l1), some (.long l2), none, some (.long l3), none, some (.int s6), o5] [] (n, sl, (va_up f l1 (.inr (12, fs7.set 59 (.int 0))))) Q) : mi_W d 172 61 [some (.ref l1), some (.long l2), none, some (.long l3), none, o4, o5] [.int s6] (n, sl, f) Q := by
  refine w_istore (ls' := [some (.ref l1), some (.long l2), none, some (.long l3), none, some (.int s6), o5]) cd_172_61 (Nat.le_of_ble_eq_true rfl) rfl ?_
  refine w_aload_n cd_172_63 rfl ?_
  refine w_iconst (v := 0) cd_172_64 (by decide) ?_
  refine w_putfield (w := .int 0) cd_172_65 (show mt_f 12 258 = some (12, 59) by decide +kernel) h8 h9 ⟨h10, rfl, Or.inl (by decide)⟩ ?_
  refine w_iload cd_172_68 rfl ?_
  exact w_ifne cd_172_70 (by decide) h11 h12
theorem b_172_73 {d : Nat} {Q : (Option Value ⊕ Nat) → mi_H → Prop} (n sl : Nat) (f : Nat → mi_C) {l1 : Nat} {l2 : Int64} {l3 : Int64} {l4 : Int32} {o5 : Option Value} {fs6 : List Value} (h7 : f l1 = .inr (12, fs6)) (h8 : l1 < n) (h9 : mi_W d 185 0 (mi_en 6 [.ref l1]) [] (n, sl, f) (mi_Kc d 172 74 [some (.ref l1), some (.long l2), none, some (.long l3), none, some (.int l4), o5] [] Q)) : mi_W (d + 1) 172 73 [some (.ref l1), some (.long l2), none, some (.long l3), none, some (.int l4), o5] [] (n, sl, f) Q := by
  refine w_aload_n cd_172_73 rfl ?_
  exact w_invokevirtual cd_172_74 (show mt_m 12 533 = some (185, 0) by decide +kernel) (rest := []) rfl (as := [.ref l1]) rfl h7 (Or.inl h8) ⟨Nat.le_of_ble_eq_true rfl, Nat.le_of_ble_eq_true rfl, Nat.le_of_ble_eq_true rfl⟩ h9
theorem b_172_77 {d : Nat} {Q : (Option Value ⊕ Nat) → mi_H → Prop} (n sl : Nat) (f : Nat → mi_C) {l1 : Nat} {l2 : Int64} {l3 : Int64} {l4 : Int32} {o5 : Option Value} {s6 : Int32} (h7 : mi_W d 172 79 [some (.ref l1), some (.long l2), none, some (.long l3), none, some (.int s6), o5] [] (n, sl, f) Q) : mi_W d 172 77 [some (.ref l1), some (.long l2), none, some (.long l3), none, some (.int l4), o5] [.int s6] (n, sl, f) Q := by
  refine w_istore (ls' := [some (.ref l1), some (.long l2), none, some (.long l3), none, some (.int s6), o5]) cd_172_77 (Nat.le_of_ble_eq_true rfl) rfl ?_
  exact h7
theorem b_172_79 {d : Nat} {Q : (Option Value ⊕ Nat) → mi_H → Prop} (n sl : Nat) (f : Nat → mi_C) {l1 : Nat} {l2 : Int64} {l3 : Int64} {l4 : Int32} {o5 : Option Value} (h6 : ¬ l4 = (0 : Int32) → mi_W d 172 98 [some (.ref l1), some (.long l2), none, some (.long l3), none, some (.int l4), o5] [] (n, sl, f) Q) (h7 : ¬ (¬ l4 = (0 : Int32)) → mi_W d 172 84 [some (.ref l1), some (.long l2), none, some (.long l3), none, some (.int l4), o5] [] (n, sl, f) Q) : mi_W d 172 79 [some (.ref l1), some (.long l2), none, some (.long l3), none, some (.int l4), o5] [] (n, sl, f) Q := by
  refine w_iload cd_172_79 rfl ?_
  exact w_ifne cd_172_81 (by decide) h6 h7
theorem b_172_84 {d : Nat} {Q : (Option Value ⊕ Nat) → mi_H → Prop} (n sl : Nat) (f : Nat → mi_C) {l1 : Nat} {l2 : Int64} {l3 : Int64} {l4 : Int32} {o5 : Option Value} {fs6 : List Value} {x9 : Nat} {fs11 : List Value} {x14 : Nat} {fs16 : List Value} (h7 : f l1 = .inr (12, fs6)) (h8 : l1 < n) (h10 : fs6[41]? = some (.ref x9)) (h12 : f l1 = .inr (12, fs11)) (h13 : l1 < n) (h15 : fs11[42]? = some (.ref x14)) (h17 : f x9 = .inr (13, fs16)) (h18 : x9 < n) (h19 : mi_W d 173 0 (mi_en 3 [.ref x9, .ref x14]) [] (n, sl, f) (mi_Kc d 172 92 [some (.ref l1), some (.long l2), none, some (.long l3), none, some (.int l4), o5] [] Q)) : mi_W (d + 1) 172 84 [some (.ref l1), some (.long l2), none, some (.long l3), none, some (.int l4), o5] [] (n, sl, f) Q := by
  refine w_aload_n cd_172_84 rfl ?_
  refine w_getfield cd_172_85 (show mt_f 12 147 = some (12, 41) by decide +kernel) h7 h8 h10 ?_
  refine w_aload_n cd_172_88 rfl ?_
  refine w_getfield cd_172_89 (show mt_f 12 151 = some (12, 42) by decide +kernel) h12 h13 h15 ?_
  exact w_invokevirtual cd_172_92 (show mt_m 12 525 = some (173, 0) by decide +kernel) (rest := []) rfl (as := [.ref x9, .ref x14]) rfl h17 (Or.inl h18) ⟨Nat.le_of_ble_eq_true rfl, Nat.le_of_ble_eq_true rfl, Nat.le_of_ble_eq_true rfl⟩ h19
theorem b_172_95 {d : Nat} {Q : (Option Value ⊕ Nat) → mi_H → Prop} (n sl : Nat) (f : Nat → mi_C) {l1 : Nat} {l2 : Int64} {l3 : Int64} {l4 : Int32} {o5 : Option Value} (h6 : mi_W d 172 108 [some (.ref l1), some (.long l2), none, some (.long l3), none, some (.int l4), o5] [] (n, sl, f) Q) : mi_W d 172 95 [some (.ref l1), some (.long l2), none, some (.long l3), none, some (.int l4), o5] [] (n, sl, f) Q := by
  exact w_goto cd_172_95 (by decide) h6
theorem b_172_98 {d : Nat} {Q : (Option Value ⊕ Nat) → mi_H → Prop} (n sl : Nat) (f : Nat → mi_C) {l1 : Nat} {l2 : Int64} {l3 : Int64} {l4 : Int32} {o5 : Option Value} {fs6 : List Value} {fs10 : List Value} (h7 : f l1 = .inr (12, fs6)) (h8 : l1 < n) (h9 : 47 < fs6.length) (h11 : (va_up f l1 (.inr (12, fs6.set 47 (.int 0)))) l1 = .inr (12, fs10)) (h12 : l1 < n) (h13 : 48 < fs10.length) (h14 : mi_W d 172 108 [some (.ref l1), some (.long l2), none, some (.long l3), none, some (.int l4), o5] [] (n, sl, (va_up (va_up f l1 (.inr (12, fs6.set 47 (.int 0)))) l1 (.inr (12, fs10.set 48 (.int 0))))) Q) : mi_W d 172 98 [some (.ref l1), some (.long l2), none, some (.long l3), none, some (.int l4), o5] [] (n, sl, f) Q := by
  refine w_aload_n cd_172_98 rfl ?_
  refine w_iconst (v := 0) cd_172_99 (by decide) ?_
  refine w_putfield (w := .int 0) cd_172_100 (show mt_f 12 490 = some (12, 47) by decide +kernel) h7 h8 ⟨h9, rfl, Or.inl (by decide)⟩ ?_
  refine w_aload_n cd_172_103 rfl ?_
  refine w_iconst (v := 0) cd_172_104 (by decide) ?_
  refine w_putfield (w := .int 0) cd_172_105 (show mt_f 12 493 = some (12, 48) by decide +kernel) h11 h12 ⟨h13, rfl, Or.inl (by decide)⟩ ?_
  exact h14
theorem b_172_108 {d : Nat} {Q : (Option Value ⊕ Nat) → mi_H → Prop} (n sl : Nat) (f : Nat → mi_C) {l1 : Nat} {l2 : Int64} {l3 : Int64} {l4 : Int32} {o5 : Option Value} {fs6 : List Value} {x9 : Int32} {fs11 : List Value} {fs15 : List Value} {x18 : Int32} {fs20 : List Value} (h7 : f l1 = .inr (12, fs6)) (h8 : l1 < n) (h10 : fs6[47]? = some (.int x9)) (h12 : f l1 = .inr (12, fs11)) (h13 : l1 < n) (h14 : 65 < fs11.length) (h16 : (va_up f l1 (.inr (12, fs11.set 65 (.int x9)))) l1 = .inr (12, fs15)) (h17 : l1 < n) (h19 : fs15[48]? = some (.int x18)) (h21 : (va_up f l1 (.inr (12, fs11.set 65 (.int x9)))) l1 = .inr (12, fs20)) (h22 : l1 < n) (h23 : 66 < fs20.length) (h24 : mi_W d 172 127 [some (.ref l1), some (.long l2), none, some (.long l3), none, some (.int l4), some (.int 0)] [] (n, sl, (va_up (va_up f l1 (.inr (12, fs11.set 65 (.int x9)))) l1 (.inr (12, fs20.set 66 (.int x18))))) Q) : mi_W d 172 108 [some (.ref l1), some (.long l2), none, some (.long l3), none, some (.int l4), o5] [] (n, sl, f) Q := by
  refine w_aload_n cd_172_108 rfl ?_
  refine w_aload_n cd_172_109 rfl ?_
  refine w_getfield cd_172_110 (show mt_f 12 490 = some (12, 47) by decide +kernel) h7 h8 h10 ?_
  refine w_putfield (w := .int x9) cd_172_113 (show mt_f 12 536 = some (12, 65) by decide +kernel) h12 h13 ⟨h14, rfl, Or.inl (by decide)⟩ ?_
  refine w_aload_n cd_172_116 rfl ?_
  refine w_aload_n cd_172_117 rfl ?_
  refine w_getfield cd_172_118 (show mt_f 12 493 = some (12, 48) by decide +kernel) h16 h17 h19 ?_
  refine w_putfield (w := .int x18) cd_172_121 (show mt_f 12 539 = some (12, 66) by decide +kernel) h21 h22 ⟨h23, rfl, Or.inl (by decide)⟩ ?_
  refine w_iconst (v := 0) cd_172_124 (by decide) ?_
  refine w_istore (ls' := [some (.ref l1), some (.long l2), none, some (.long l3), none, some (.int l4), some (.int 0)]) cd_172_125 (Nat.le_of_ble_eq_true rfl) rfl ?_
  exact h24
theorem b_172_127 {d : Nat} {Q : (Option Value ⊕ Nat) → mi_H → Prop} (n sl : Nat) (f : Nat → mi_C) {l1 : Nat} {l2 : Int64} {l3 : Int64} {l4 : Int32} {l5 : Int32} {fs6 : List Value} {x9 : Int32} (h7 : f l1 = .inr (12, fs6)) (h8 : l1 < n) (h10 : fs6[47]? = some (.int x9)) (h11 : x9 ≤ l5 → mi_W d 172 170 [some (.ref l1), some (.long l2), none, some (.long l3), none, some (.int l4), some (.int l5)] [] (n, sl, f) Q) (h12 : ¬ (x9 ≤ l5) → mi_W d 172 136 [some (.ref l1), some (.long l2), none, some (.long l3), none, some (.int l4), some (.int l5)] [] (n, sl, f) Q) : mi_W d 172 127 [some (.ref l1), some (.long l2), none, some (.long l3), none, some (.int l4), some (.int l5)] [] (n, sl, f) Q := by
  refine w_iload cd_172_127 rfl ?_
  refine w_aload_n cd_172_129 rfl ?_
  refine w_getfield cd_172_130 (show mt_f 12 490 = some (12, 47) by decide +kernel) h7 h8 h10 ?_
  exact w_if_icmpge cd_172_133 (by decide) h11 h12
theorem b_172_136 {d : Nat} {Q : (Option Value ⊕ Nat) → mi_H → Prop} (n sl : Nat) (f : Nat → mi_C) {l1 : Nat} {l2 : Int64} {l3 : Int64} {l4 : Int32} {l5 : Int32} {fs6 : List Value} {x9 : Nat} {fs11 : List Value} {x14 : Nat} (m16 i16 : Nat) (g16 : Nat → Int32) (m20 i20 : Nat) (g20 : Nat → Int32) {fs24 : List Value} {x27 : Nat} {fs29 : List Value} {x32 : Nat} (m34 i34 : Nat) (g34 : Nat → Int32) (m38 i38 : Nat) (g38 : Nat → Int32) (h7 : f l1 = .inr (12, fs6)) (h8 : l1 < n) (h10 : fs6[67]? = some (.ref x9)) (h12 : f l1 = .inr (12, fs11)) (h13 : l1 < n) (h15 : fs11[49]? = some (.ref x14)) (h17 : f x14 = .inl (0, m16, .inl g16)) (h18 : x14 < n ∨ x14 = mi_SC) (h19 : mi_ix l5 m16 i16) (h21 : f x9 = .inl (0, m20, .inl g20)) (h22 : x9 < n) (h23 : mi_ix l5 m20 i20) (h25 : (va_up f x9 (.inl (0, m20, .inl (upd g20 i20 (g16 i16))))) l1 = .inr (12, fs24)) (h26 : l1 < n) (h28 : fs24[68]? = some (.ref x27)) (h30 : (va_up f x9 (.inl (0, m20, .inl (upd g20 i20 (g16 i16))))) l1 = .inr (12, fs29)) (h31 : l1 < n) (h33 : fs29[50]? = some (.ref x32)) (h35 : (va_up f x9 (.inl (0, m20, .inl (upd g20 i20 (g16 i16))))) x32 = .inl (0, m34, .inl g34)) (h36 : x32 < n ∨ x32 = mi_SC) (h37 : mi_ix l5 m34 i34) (h39 : (va_up f x9 (.inl (0, m20, .inl (upd g20 i20 (g16 i16))))) x27 = .inl (0, m38, .inl g38)) (h40 : x27 < n) (h41 : mi_ix l5 m38 i38) (h42 : mi_W d 172 127 [some (.ref l1), some (.long l2), none, some (.long l3), none, some (.int l4), some (.int (l5 + 1))] [] (n, sl, (va_up (va_up f x9 (.inl (0, m20, .inl (upd g20 i20 (g16 i16))))) x27 (.inl (0, m38, .inl (upd g38 i38 (g34 i34)))))) Q) : mi_W d 172 136 [some (.ref l1), some (.long l2), none, some (.long l3), none, some (.int l4), some (.int l5)] [] (n, sl, f) Q := by
  refine w_aload_n cd_172_136 rfl ?_
  refine w_getfield cd_172_137 (show mt_f 12 193 = some (12, 67) by decide +kernel) h7 h8 h10 ?_
  refine w_iload cd_172_140 rfl ?_
  refine w_aload_n cd_172_142 rfl ?_
  refine w_getfield cd_172_143 (show mt_f 12 154 = some (12, 49) by decide +kernel) h12 h13 h15 ?_
  refine w_iload cd_172_146 rfl ?_
  refine w_iaload cd_172_148 h17 h18 h19 ?_
  refine w_iastore cd_172_149 h21 h22 h23 ?_
  refine w_aload_n cd_172_150 rfl ?_
  refine w_getfield cd_172_151 (show mt_f 12 196 = some (12, 68) by decide +kernel) h25 h26 h28 ?_
  refine w_iload cd_172_154 rfl ?_
  refine w_aload_n cd_172_156 rfl ?_
  refine w_getfield cd_172_157 (show mt_f 12 157 = some (12, 50) by decide +kernel) h30 h31 h33 ?_
  refine w_iload cd_172_160 rfl ?_
  refine w_iaload cd_172_162 h35 h36 h37 ?_
  refine w_iastore cd_172_163 h39 h40 h41 ?_
  refine w_iinc (v := 1) (ls' := [some (.ref l1), some (.long l2), none, some (.long l3), none, some (.int l4), some (.int (l5 + 1))]) cd_172_164 rfl (by decide) rfl ?_
  exact w_goto cd_172_167 (by decide) h42
theorem b_172_170 {d : Nat} {Q : (Option Value ⊕ Nat) → mi_H → Prop} (n sl : Nat) (f : Nat → mi_C) {l1 : Nat} {l2 : Int64} {l3 : Int64} {l4 : Int32} {l5 : Int32} (h6 : mi_W d 172 173 [some (.ref l1), some (.long l2), none, some (.long l3), none, some (.int l4), some (.int 0)] [] (n, sl, f) Q) : mi_W d 172 170 [some (.ref l1), some (.long l2), none, some (.long l3), none, some (.int l4), some (.int l5)] [] (n, sl, f) Q := by
  refine w_iconst (v := 0) cd_172_170 (by decide) ?_
  refine w_istore (ls' := [some (.ref l1), some (.long l2), none, some (.long l3), none, some (.int l4), some (.int 0)]) cd_172_171 (Nat.le_of_ble_eq_true rfl) rfl ?_
  exact h6
theorem b_172_173 {d : Nat} {Q : (Option Value ⊕ Nat) → mi_H → Prop} (n sl : Nat) (f : Nat → mi_C) {l1 : Nat} {l2 : Int64} {l3 : Int64} {l4 : Int32} {l5 : Int32} {fs6 : List Value} {x9 : Int32} (h7 : f l1 = .inr (12, fs6)) (h8 : l1 < n) (h10 : fs6[48]? = some (.int x9)) (h11 : x9 ≤ l5 → mi_W d 172 244 [some (.ref l1), some (.long l2), none, some (.long l3), none, some (.int l4), some (.int l5)] [] (n, sl, f) Q) (h12 : ¬ (x9 ≤ l5) → mi_W d 172 182 [some (.ref l1), some (.long l2), none, some (.long l3), none, some (.int l4), some (.int l5)] [] (n, sl, f) Q) : mi_W d 172 173 [some (.ref l1), some (.long l2), none, some (.long l3), none, some (.int l4), some (.int l5)] [] (n, sl, f) Q := by
  refine w_iload cd_172_173 rfl ?_
  refine w_aload_n cd_172_175 rfl ?_
  refine w_getfield cd_172_176 (show mt_f 12 493 = some (12, 48) by decide +kernel) h7 h8 h10 ?_
  exact w_if_icmpge cd_172_179 (by decide) h11 h12
theorem b_172_182 {d : Nat} {Q : (Option Value ⊕ Nat) → mi_H → Prop} (n sl : Nat) (f : Nat → mi_C) {l1 : Nat} {l2 : Int64} {l3 : Int64} {l4 : Int32} {l5 : Int32} {fs6 : List Value} {x9 : Nat} {fs11 : List Value} {x14 : Nat} (m16 i16 : Nat) (g16 : Nat → Int32) (m20 i20 : Nat) (g20 : Nat → Int32) {fs24 : List Value} {x27 : Nat} {fs29 : List Value} {x32 : Nat} (m34 i34 : Nat) (g34 : Nat → Int32) (m38 i38 : Nat) (g38 : Nat → Int32) {fs42 : List Value} {x45 : Nat} {fs47 : List Value} {x50 : Nat} (m52 i52 : Nat) (g52 : Nat → Int32) (m56 i56 : Nat) (g56 : Nat → Int32) {fs60 : List Value} {x63 : Nat} {fs65 : List Value} {x68 : Nat} (m70 i70 : Nat) (g70 : Nat → Int64) (m74 i74 : Nat) (g74 : Nat → Int64) (h7 : f l1 = .inr (12, fs6)) (h8 : l1 < n) (h10 : fs6[69]? = some (.ref x9)) (h12 : f l1 = .inr (12, fs11)) (h13 : l1 < n) (h15 : fs11[51]? = some (.ref x14)) (h17 : f x14 = .inl (0, m16, .inl g16)) (h18 : x14 < n ∨ x14 = mi_SC) (h19 : mi_ix l5 m16 i16) (h21 : f x9 = .inl (0, m20, .inl g20)) (h22 : x9 < n) (h23 : mi_ix l5 m20 i20) (h25 : (va_up f x9 (.inl (0, m20, .inl (upd g20 i20 (g16 i16))))) l1 = .inr (12, fs24)) (h26 : l1 < n) (h28 : fs24[70]? = some (.ref x27)) (h30 : (va_up f x9 (.inl (0, m20, .inl (upd g20 i20 (g16 i16))))) l1 = .inr (12, fs29)) (h31 : l1 < n) (h33 : fs29[52]? = some (.ref x32)) (h35 : (va_up f x9 (.inl (0, m20, .inl (upd g20 i20 (g16 i16))))) x32 = .inl (0, m34, .inl g34)) (h36 : x32 < n ∨ x32 = mi_SC) (h37 : mi_ix l5 m34 i34) (h39 : (va_up f x9 (.inl (0, m20, .inl (upd g20 i20 (g16 i16))))) x27 = .inl (0, m38, .inl g38)) (h40 : x27 < n) (h41 : mi_ix l5 m38 i38) (h43 : (va_up (va_up f x9 (.inl (0, m20, .inl (upd g20 i20 (g16 i16))))) x27 (.inl (0, m38, .inl (upd g38 i38 (g34 i34))))) l1 = .inr (12, fs42)) (h44 : l1 < n) (h46 : fs42[71]? = some (.ref x45)) (h48 : (va_up (va_up f x9 (.inl (0, m20, .inl (upd g20 i20 (g16 i16))))) x27 (.inl (0, m38, .inl (upd g38 i38 (g34 i34))))) l1 = .inr (12, fs47)) (h49 : l1 < n) (h51 : fs47[53]? = some (.ref x50)) (h53 : (va_up (va_up f x9 (.inl (0, m20, .inl (upd g20 i20 (g16 i16))))) x27 (.inl (0, m38, .inl (upd g38 i38 (g34 i34))))) x50 = .inl (0, m52, .inl g52)) (h54 : x50 < n ∨ x50 = mi_SC) (h55 : mi_ix l5 m52 i52) (h57 : (va_up (va_up f x9 (.inl (0, m20, .inl (upd g20 i20 (g16 i16))))) x27 (.inl (0, m38, .inl (upd g38 i38 (g34 i34))))) x45 = .inl (0, m56, .inl g56)) (h58 : x45 < n) (h59 : mi_ix l5 m56 i56) (h61 : (va_up (va_up (va_up f x9 (.inl (0, m20, .inl (upd g20 i20 (g16 i16))))) x27 (.inl (0, m38, .inl (upd g38 i38 (g34 i34))))) x45 (.inl (0, m56, .inl (upd g56 i56 (g52 i52))))) l1 = .inr (12, fs60)) (h62 : l1 < n) (h64 : fs60[72]? = some (.ref x63)) (h66 : (va_up (va_up (va_up f x9 (.inl (0, m20, .inl (upd g20 i20 (g16 i16))))) x27 (.inl (0, m38, .inl (upd g38 i38 (g34 i34))))) x45 (.inl (0, m56, .inl (upd g56 i56 (g52 i52))))) l1 = .inr (12, fs65)) (h67 : l1 < n) (h69 : fs65[54]? = some (.ref x68)) (h71 : (va_up (va_up (va_up f x9 (.inl (0, m20, .inl (upd g20 i20 (g16 i16))))) x27 (.inl (0, m38, .inl (upd g38 i38 (g34 i34))))) x45 (.inl (0, m56, .inl (upd g56 i56 (g52 i52))))) x68 = .inl (3, m70, .inr (.inl g70))) (h72 : x68 < n) (h73 : mi_ix l5 m70 i70) (h75 : (va_up (va_up (va_up f x9 (.inl (0, m20, .inl (upd g20 i20 (g16 i16))))) x27 (.inl (0, m38, .inl (upd g38 i38 (g34 i34))))) x45 (.inl (0, m56, .inl (upd g56 i56 (g52 i52))))) x63 = .inl (3, m74, .inr (.inl g74))) (h76 : x63 < n) (h77 : mi_ix l5 m74 i74) (h78 : mi_W d 172 173 [some (.ref l1), some (.long l2), none, some (.long l3), none, some (.int l4), some (.int (l5 + 1))] [] (n, sl, (va_up (va_up (va_up (va_up f x9 (.inl (0, m20, .inl (upd g20 i20 (g16 i16))))) x27 (.inl (0, m38, .inl (upd g38 i38 (g34 i34))))) x45 (.inl (0, m56, .inl (upd g56 i56 (g52 i52))))) x63 (.inl (3, m74, .inr (.inl (vp_updL g74 i74 (g70 i70))))))) Q) : mi_W d 172 182 [some (.ref l1), some (.long l2), none, some (.long l3), none, some (.int l4), some (.int l5)] [] (n, sl, f) Q := by
  refine w_aload_n cd_172_182 rfl ?_
  refine w_getfield cd_172_183 (show mt_f 12 199 = some (12, 69) by decide +kernel) h7 h8 h10 ?_
  refine w_iload cd_172_186 rfl ?_
  refine w_aload_n cd_172_188 rfl ?_
  refine w_getfield cd_172_189 (show mt_f 12 160 = some (12, 51) by decide +kernel) h12 h13 h15 ?_
  refine w_iload cd_172_192 rfl ?_
  refine w_iaload cd_172_194 h17 h18 h19 ?_
  refine w_iastore cd_172_195 h21 h22 h23 ?_
  refine w_aload_n cd_172_196 rfl ?_
  refine w_getfield cd_172_197 (show mt_f 12 202 = some (12, 70) by decide +kernel) h25 h26 h28 ?_
  refine w_iload cd_172_200 rfl ?_
  refine w_aload_n cd_172_202 rfl ?_
  refine w_getfield cd_172_203 (show mt_f 12 163 = some (12, 52) by decide +kernel) h30 h31 h33 ?_
  refine w_iload cd_172_206 rfl ?_
  refine w_iaload cd_172_208 h35 h36 h37 ?_
  refine w_iastore cd_172_209 h39 h40 h41 ?_
  refine w_aload_n cd_172_210 rfl ?_
  refine w_getfield cd_172_211 (show mt_f 12 205 = some (12, 71) by decide +kernel) h43 h44 h46 ?_
  refine w_iload cd_172_214 rfl ?_
  refine w_aload_n cd_172_216 rfl ?_
  refine w_getfield cd_172_217 (show mt_f 12 166 = some (12, 53) by decide +kernel) h48 h49 h51 ?_
  refine w_iload cd_172_220 rfl ?_
  refine w_iaload cd_172_222 h53 h54 h55 ?_
  refine w_iastore cd_172_223 h57 h58 h59 ?_
  refine w_aload_n cd_172_224 rfl ?_
  refine w_getfield cd_172_225 (show mt_f 12 208 = some (12, 72) by decide +kernel) h61 h62 h64 ?_
  refine w_iload cd_172_228 rfl ?_
  refine w_aload_n cd_172_230 rfl ?_
  refine w_getfield cd_172_231 (show mt_f 12 169 = some (12, 54) by decide +kernel) h66 h67 h69 ?_
  refine w_iload cd_172_234 rfl ?_
  refine w_laload cd_172_236 h71 h72 h73 ?_
  refine w_lastore cd_172_237 h75 h76 h77 ?_
  refine w_iinc (v := 1) (ls' := [some (.ref l1), some (.long l2), none, some (.long l3), none, some (.int l4), some (.int (l5 + 1))]) cd_172_238 rfl (by decide) rfl ?_
  exact w_goto cd_172_241 (by decide) h78
theorem b_172_244 {d : Nat} {Q : (Option Value ⊕ Nat) → mi_H → Prop} (n sl : Nat) (f : Nat → mi_C) {l1 : Nat} {l2 : Int64} {l3 : Int64} {l4 : Int32} {l5 : Int32} (h6 : Q (.inl (some (.int l4))) (n, sl, f)) : mi_W d 172 244 [some (.ref l1), some (.long l2), none, some (.long l3), none, some (.int l4), some (.int l5)] [] (n, sl, f) Q := by
  refine w_iload cd_172_244 rfl ?_
  exact w_ireturn_i cd_172_246 (by decide +kernel) h6
/-! MarloweHostModel.told(II)I -/
set_option maxRecDepth 100000 in
theorem mq_191 : mt_q 191 = my_191 := rfl
set_option maxRecDepth 100000 in
theorem ci_191 : mt_inc 0 my_191.cd = true := by decide +kernel
theorem cd_191_0 : mt_cd 191 0 = some (.aload_n 0) := mt_cd_of (q := (0, .aload_n 0, 1)) mq_191 ci_191 (List.mem_of_getElem? (i := 0) rfl)
theorem cd_191_1 : mt_cd 191 1 = some (.iconst 0) := mt_cd_of (q := (1, .iconst 0, 1)) mq_191 ci_191 (List.mem_of_getElem? (i := 1) rfl)
theorem cd_191_2 : mt_cd 191 2 = some (.putfield 248) := mt_cd_of (q := (2, .putfield 248, 3)) mq_191 ci_191 (List.mem_of_getElem? (i := 2) rfl)
theorem cd_191_5 : mt_cd 191 5 = some (.aload_n 0) := mt_cd_of (q := (5, .aload_n 0, 1)) mq_191 ci_191 (List.mem_of_getElem? (i := 3) rfl)
theorem cd_191_6 : mt_cd 191 6 = some (.iload_n 1) := mt_cd_of (q := (6, .iload_n 1, 1)) mq_191 ci_191 (List.mem_of_getElem? (i := 4) rfl)
theorem cd_191_7 : mt_cd 191 7 = some (.i2l) := mt_cd_of (q := (7, .i2l, 1)) mq_191 ci_191 (List.mem_of_getElem? (i := 5) rfl)
theorem cd_191_8 : mt_cd 191 8 = some (.lconst 0) := mt_cd_of (q := (8, .lconst 0, 1)) mq_191 ci_191 (List.mem_of_getElem? (i := 6) rfl)
theorem cd_191_9 : mt_cd 191 9 = some (.ldc2_w 552) := mt_cd_of (q := (9, .ldc2_w 552, 3)) mq_191 ci_191 (List.mem_of_getElem? (i := 7) rfl)
theorem cd_191_12 : mt_cd 191 12 = some (.invokestatic 268) := mt_cd_of (q := (12, .invokestatic 268, 3)) mq_191 ci_191 (List.mem_of_getElem? (i := 8) rfl)
theorem cd_191_15 : mt_cd 191 15 = some (.ifCond .ne 7) := mt_cd_of (q := (15, .ifCond .ne 7, 3)) mq_191 ci_191 (List.mem_of_getElem? (i := 9) rfl)
theorem cd_191_18 : mt_cd 191 18 = some (.iconst 1) := mt_cd_of (q := (18, .iconst 1, 1)) mq_191 ci_191 (List.mem_of_getElem? (i := 10) rfl)
theorem cd_191_19 : mt_cd 191 19 = some (.goto 4) := mt_cd_of (q := (19, .goto 4, 3)) mq_191 ci_191 (List.mem_of_getElem? (i := 11) rfl)
theorem cd_191_22 : mt_cd 191 22 = some (.iconst 0) := mt_cd_of (q := (22, .iconst 0, 1)) mq_191 ci_191 (List.mem_of_getElem? (i := 12) rfl)
theorem cd_191_23 : mt_cd 191 23 = some (.iconst 1) := mt_cd_of (q := (23, .iconst 1, 1)) mq_191 ci_191 (List.mem_of_getElem? (i := 13) rfl)
theorem cd_191_24 : mt_cd 191 24 = some (.invokevirtual 254) := mt_cd_of (q := (24, .invokevirtual 254, 3)) mq_191 ci_191 (List.mem_of_getElem? (i := 14) rfl)
theorem cd_191_27 : mt_cd 191 27 = some (.ifCond .ne 44) := mt_cd_of (q := (27, .ifCond .ne 44, 3)) mq_191 ci_191 (List.mem_of_getElem? (i := 15) rfl)
theorem cd_191_30 : mt_cd 191 30 = some (.aload_n 0) := mt_cd_of (q := (30, .aload_n 0, 1)) mq_191 ci_191 (List.mem_of_getElem? (i := 16) rfl)
theorem cd_191_31 : mt_cd 191 31 = some (.iload_n 2) := mt_cd_of (q := (31, .iload_n 2, 1)) mq_191 ci_191 (List.mem_of_getElem? (i := 17) rfl)
theorem cd_191_32 : mt_cd 191 32 = some (.i2l) := mt_cd_of (q := (32, .i2l, 1)) mq_191 ci_191 (List.mem_of_getElem? (i := 18) rfl)
theorem cd_191_33 : mt_cd 191 33 = some (.lconst 0) := mt_cd_of (q := (33, .lconst 0, 1)) mq_191 ci_191 (List.mem_of_getElem? (i := 19) rfl)
theorem cd_191_34 : mt_cd 191 34 = some (.iload_n 1) := mt_cd_of (q := (34, .iload_n 1, 1)) mq_191 ci_191 (List.mem_of_getElem? (i := 20) rfl)
theorem cd_191_35 : mt_cd 191 35 = some (.iconst 2) := mt_cd_of (q := (35, .iconst 2, 1)) mq_191 ci_191 (List.mem_of_getElem? (i := 21) rfl)
theorem cd_191_36 : mt_cd 191 36 = some (.if_icmp .ge 10) := mt_cd_of (q := (36, .if_icmp .ge 10, 3)) mq_191 ci_191 (List.mem_of_getElem? (i := 22) rfl)
theorem cd_191_39 : mt_cd 191 39 = some (.aload_n 0) := mt_cd_of (q := (39, .aload_n 0, 1)) mq_191 ci_191 (List.mem_of_getElem? (i := 23) rfl)
theorem cd_191_40 : mt_cd 191 40 = some (.getfield 536) := mt_cd_of (q := (40, .getfield 536, 3)) mq_191 ci_191 (List.mem_of_getElem? (i := 24) rfl)
theorem cd_191_43 : mt_cd 191 43 = some (.goto 7) := mt_cd_of (q := (43, .goto 7, 3)) mq_191 ci_191 (List.mem_of_getElem? (i := 25) rfl)
theorem cd_191_46 : mt_cd 191 46 = some (.aload_n 0) := mt_cd_of (q := (46, .aload_n 0, 1)) mq_191 ci_191 (List.mem_of_getElem? (i := 26) rfl)
theorem cd_191_47 : mt_cd 191 47 = some (.getfield 539) := mt_cd_of (q := (47, .getfield 539, 3)) mq_191 ci_191 (List.mem_of_getElem? (i := 27) rfl)
theorem cd_191_50 : mt_cd 191 50 = some (.iconst 1) := mt_cd_of (q := (50, .iconst 1, 1)) mq_191 ci_191 (List.mem_of_getElem? (i := 28) rfl)
theorem cd_191_51 : mt_cd 191 51 = some (.isub) := mt_cd_of (q := (51, .isub, 1)) mq_191 ci_191 (List.mem_of_getElem? (i := 29) rfl)
theorem cd_191_52 : mt_cd 191 52 = some (.i2l) := mt_cd_of (q := (52, .i2l, 1)) mq_191 ci_191 (List.mem_of_getElem? (i := 30) rfl)
theorem cd_191_53 : mt_cd 191 53 = some (.invokestatic 268) := mt_cd_of (q := (53, .invokestatic 268, 3)) mq_191 ci_191 (List.mem_of_getElem? (i := 31) rfl)
theorem cd_191_56 : mt_cd 191 56 = some (.ifCond .ne 7) := mt_cd_of (q := (56, .ifCond .ne 7, 3)) mq_191 ci_191 (List.mem_of_getElem? (i := 32) rfl)
theorem cd_191_59 : mt_cd 191 59 = some (.iconst 1) := mt_cd_of (q := (59, .iconst 1, 1)) mq_191 ci_191 (List.mem_of_getElem? (i := 33) rfl)
theorem cd_191_60 : mt_cd 191 60 = some (.goto 4) := mt_cd_of (q := (60, .goto 4, 3)) mq_191 ci_191 (List.mem_of_getElem? (i := 34) rfl)
theorem cd_191_63 : mt_cd 191 63 = some (.iconst 0) := mt_cd_of (q := (63, .iconst 0, 1)) mq_191 ci_191 (List.mem_of_getElem? (i := 35) rfl)
theorem cd_191_64 : mt_cd 191 64 = some (.iconst 2) := mt_cd_of (q := (64, .iconst 2, 1)) mq_191 ci_191 (List.mem_of_getElem? (i := 36) rfl)
theorem cd_191_65 : mt_cd 191 65 = some (.invokevirtual 254) := mt_cd_of (q := (65, .invokevirtual 254, 3)) mq_191 ci_191 (List.mem_of_getElem? (i := 37) rfl)
theorem cd_191_68 : mt_cd 191 68 = some (.ifCond .eq 5) := mt_cd_of (q := (68, .ifCond .eq 5, 3)) mq_191 ci_191 (List.mem_of_getElem? (i := 38) rfl)
theorem cd_191_71 : mt_cd 191 71 = some (.iconst 0) := mt_cd_of (q := (71, .iconst 0, 1)) mq_191 ci_191 (List.mem_of_getElem? (i := 39) rfl)
theorem cd_191_72 : mt_cd 191 72 = some (.ireturn) := mt_cd_of (q := (72, .ireturn, 1)) mq_191 ci_191 (List.mem_of_getElem? (i := 40) rfl)
theorem cd_191_73 : mt_cd 191 73 = some (.iload_n 1) := mt_cd_of (q := (73, .iload_n 1, 1)) mq_191 ci_191 (List.mem_of_getElem? (i := 41) rfl)
theorem cd_191_74 : mt_cd 191 74 = some (.ifCond .ne 12) := mt_cd_of (q := (74, .ifCond .ne 12, 3)) mq_191 ci_191 (List.mem_of_getElem? (i := 42) rfl)
theorem cd_191_77 : mt_cd 191 77 = some (.aload_n 0) := mt_cd_of (q := (77, .aload_n 0, 1)) mq_191 ci_191 (List.mem_of_getElem? (i := 43) rfl)
theorem cd_191_78 : mt_cd 191 78 = some (.getfield 193) := mt_cd_of (q := (78, .getfield 193, 3)) mq_191 ci_191 (List.mem_of_getElem? (i := 44) rfl)
theorem cd_191_81 : mt_cd 191 81 = some (.iload_n 2) := mt_cd_of (q := (81, .iload_n 2, 1)) mq_191 ci_191 (List.mem_of_getElem? (i := 45) rfl)
theorem cd_191_82 : mt_cd 191 82 = some (.iaload) := mt_cd_of (q := (82, .iaload, 1)) mq_191 ci_191 (List.mem_of_getElem? (i := 46) rfl)
theorem cd_191_83 : mt_cd 191 83 = some (.goto 51) := mt_cd_of (q := (83, .goto 51, 3)) mq_191 ci_191 (List.mem_of_getElem? (i := 47) rfl)
theorem cd_191_86 : mt_cd 191 86 = some (.iload_n 1) := mt_cd_of (q := (86, .iload_n 1, 1)) mq_191 ci_191 (List.mem_of_getElem? (i := 48) rfl)
theorem cd_191_87 : mt_cd 191 87 = some (.iconst 1) := mt_cd_of (q := (87, .iconst 1, 1)) mq_191 ci_191 (List.mem_of_getElem? (i := 49) rfl)
theorem cd_191_88 : mt_cd 191 88 = some (.if_icmp .ne 12) := mt_cd_of (q := (88, .if_icmp .ne 12, 3)) mq_191 ci_191 (List.mem_of_getElem? (i := 50) rfl)
theorem cd_191_91 : mt_cd 191 91 = some (.aload_n 0) := mt_cd_of (q := (91, .aload_n 0, 1)) mq_191 ci_191 (List.mem_of_getElem? (i := 51) rfl)
theorem cd_191_92 : mt_cd 191 92 = some (.getfield 196) := mt_cd_of (q := (92, .getfield 196, 3)) mq_191 ci_191 (List.mem_of_getElem? (i := 52) rfl)
theorem cd_191_95 : mt_cd 191 95 = some (.iload_n 2) := mt_cd_of (q := (95, .iload_n 2, 1)) mq_191 ci_191 (List.mem_of_getElem? (i := 53) rfl)
theorem cd_191_96 : mt_cd 191 96 = some (.iaload) := mt_cd_of (q := (96, .iaload, 1)) mq_191 ci_191 (List.mem_of_getElem? (i := 54) rfl)
theorem cd_191_97 : mt_cd 191 97 = some (.goto 37) := mt_cd_of (q := (97, .goto 37, 3)) mq_191 ci_191 (List.mem_of_getElem? (i := 55) rfl)
theorem cd_191_100 : mt_cd 191 100 = some (.iload_n 1) := mt_cd_of (q := (100, .iload_n 1, 1)) mq_191 ci_191 (List.mem_of_getElem? (i := 56) rfl)
theorem cd_191_101 : mt_cd 191 101 = some (.iconst 2) := mt_cd_of (q := (101, .iconst 2, 1)) mq_191 ci_191 (List.mem_of_getElem? (i := 57) rfl)
theorem cd_191_102 : mt_cd 191 102 = some (.if_icmp .ne 12) := mt_cd_of (q := (102, .if_icmp .ne 12, 3)) mq_191 ci_191 (List.mem_of_getElem? (i := 58) rfl)
theorem cd_191_105 : mt_cd 191 105 = some (.aload_n 0) := mt_cd_of (q := (105, .aload_n 0, 1)) mq_191 ci_191 (List.mem_of_getElem? (i := 59) rfl)
theorem cd_191_106 : mt_cd 191 106 = some (.getfield 199) := mt_cd_of (q := (106, .getfield 199, 3)) mq_191 ci_191 (List.mem_of_getElem? (i := 60) rfl)
theorem cd_191_109 : mt_cd 191 109 = some (.iload_n 2) := mt_cd_of (q := (109, .iload_n 2, 1)) mq_191 ci_191 (List.mem_of_getElem? (i := 61) rfl)
theorem cd_191_110 : mt_cd 191 110 = some (.iaload) := mt_cd_of (q := (110, .iaload, 1)) mq_191 ci_191 (List.mem_of_getElem? (i := 62) rfl)
theorem cd_191_111 : mt_cd 191 111 = some (.goto 23) := mt_cd_of (q := (111, .goto 23, 3)) mq_191 ci_191 (List.mem_of_getElem? (i := 63) rfl)
theorem cd_191_114 : mt_cd 191 114 = some (.iload_n 1) := mt_cd_of (q := (114, .iload_n 1, 1)) mq_191 ci_191 (List.mem_of_getElem? (i := 64) rfl)
theorem cd_191_115 : mt_cd 191 115 = some (.iconst 3) := mt_cd_of (q := (115, .iconst 3, 1)) mq_191 ci_191 (List.mem_of_getElem? (i := 65) rfl)
theorem cd_191_116 : mt_cd 191 116 = some (.if_icmp .ne 12) := mt_cd_of (q := (116, .if_icmp .ne 12, 3)) mq_191 ci_191 (List.mem_of_getElem? (i := 66) rfl)
theorem cd_191_119 : mt_cd 191 119 = some (.aload_n 0) := mt_cd_of (q := (119, .aload_n 0, 1)) mq_191 ci_191 (List.mem_of_getElem? (i := 67) rfl)
theorem cd_191_120 : mt_cd 191 120 = some (.getfield 202) := mt_cd_of (q := (120, .getfield 202, 3)) mq_191 ci_191 (List.mem_of_getElem? (i := 68) rfl)
theorem cd_191_123 : mt_cd 191 123 = some (.iload_n 2) := mt_cd_of (q := (123, .iload_n 2, 1)) mq_191 ci_191 (List.mem_of_getElem? (i := 69) rfl)
theorem cd_191_124 : mt_cd 191 124 = some (.iaload) := mt_cd_of (q := (124, .iaload, 1)) mq_191 ci_191 (List.mem_of_getElem? (i := 70) rfl)
theorem cd_191_125 : mt_cd 191 125 = some (.goto 9) := mt_cd_of (q := (125, .goto 9, 3)) mq_191 ci_191 (List.mem_of_getElem? (i := 71) rfl)
theorem cd_191_128 : mt_cd 191 128 = some (.aload_n 0) := mt_cd_of (q := (128, .aload_n 0, 1)) mq_191 ci_191 (List.mem_of_getElem? (i := 72) rfl)
theorem cd_191_129 : mt_cd 191 129 = some (.getfield 205) := mt_cd_of (q := (129, .getfield 205, 3)) mq_191 ci_191 (List.mem_of_getElem? (i := 73) rfl)
theorem cd_191_132 : mt_cd 191 132 = some (.iload_n 2) := mt_cd_of (q := (132, .iload_n 2, 1)) mq_191 ci_191 (List.mem_of_getElem? (i := 74) rfl)
theorem cd_191_133 : mt_cd 191 133 = some (.iaload) := mt_cd_of (q := (133, .iaload, 1)) mq_191 ci_191 (List.mem_of_getElem? (i := 75) rfl)
theorem cd_191_134 : mt_cd 191 134 = some (.ireturn) := mt_cd_of (q := (134, .ireturn, 1)) mq_191 ci_191 (List.mem_of_getElem? (i := 76) rfl)
theorem b_191_0 {d : Nat} {Q : (Option Value ⊕ Nat) → mi_H → Prop} (n sl : Nat) (f : Nat → mi_C) {l1 : Nat} {l2 : Int32} {l3 : Int32} {fs4 : List Value} (h5 : f l1 = .inr (12, fs4)) (h6 : l1 < n) (h7 : 0 < fs4.length) (h8 : mi_W d 142 0 (mi_en 6 [.long ((l2 : Int32).toInt64), .long 0, .long 4]) [] (n, sl, (va_up f l1 (.inr (12, fs4.set 0 (.int 0))))) (mi_Kc d 191 12 [some (.ref l1), some (.int l2), some (.int l3)] [.ref l1] Q)) : mi_W (d + 1) 191 0 [some (.ref l1), some (.int l2), some (.int l3)] [] (n, sl, f) Q := by
  refine w_aload_n cd_191_0 rfl ?_
  refine w_iconst (v := 0) cd_191_1 (by decide) ?_
  refine w_putfield (w := .int 0) cd_191_2 (show mt_f 12 248 = some (12, 0) by decide +kernel) h5 h6 ⟨h7, rfl, Or.inl (by decide)⟩ ?_
  refine w_aload_n cd_191_5 rfl ?_
  refine w_iload_n cd_191_6 rfl ?_
  refine w_i2l cd_191_7 ?_
  refine w_lconst (lv := 0) cd_191_8 (by decide) ?_
  refine w_ldc2_w (lv := 4) cd_191_9 (by decide +kernel) ?_
  exact w_invokestatic cd_191_12 (show mt_m 12 268 = some (142, 4) by decide +kernel) (by decide) (rest := [.ref l1]) rfl (as := [.long ((l2 : Int32).toInt64), .long 0, .long 4]) rfl ⟨Nat.le_of_ble_eq_true rfl, Nat.le_of_ble_eq_true rfl, Nat.le_of_ble_eq_true rfl⟩ h8
theorem b_191_15 {d : Nat} {Q : (Option Value ⊕ Nat) → mi_H → Prop} (n sl : Nat) (f : Nat → mi_C) {l1 : Nat} {l2 : Int32} {l3 : Int32} {s4 : Int32} {s5 : Nat} (h6 : ¬ s4 = (0 : Int32) → mi_W d 191 22 [some (.ref l1), some (.int l2), some (.int l3)] [.ref s5] (n, sl, f) Q) (h7 : ¬ (¬ s4 = (0 : Int32)) → mi_W d 191 18 [some (.ref l1), some (.int l2), some (.int l3)] [.ref s5] (n, sl, f) Q) : mi_W d 191 15 [some (.ref l1), some (.int l2), some (.int l3)] [.int s4, .ref s5] (n, sl, f) Q := by
  exact w_ifne cd_191_15 (by decide) h6 h7
theorem b_191_18 {d : Nat} {Q : (Option Value ⊕ Nat) → mi_H → Prop} (n sl : Nat) (f : Nat → mi_C) {l1 : Nat} {l2 : Int32} {l3 : Int32} {s4 : Nat} (h5 : mi_W d 191 23 [some (.ref l1), some (.int l2), some (.int l3)] [.int 1, .ref s4] (n, sl, f) Q) : mi_W d 191 18 [some (.ref l1), some (.int l2), some (.int l3)] [.ref s4] (n, sl, f) Q := by
  refine w_iconst (v := 1) cd_191_18 (by decide) ?_
  exact w_goto cd_191_19 (by decide) h5
theorem b_191_22 {d : Nat} {Q : (Option Value ⊕ Nat) → mi_H → Prop} (n sl : Nat) (f : Nat → mi_C) {l1 : Nat} {l2 : Int32} {l3 : Int32} {s4 : Nat} (h5 : mi_W d 191 23 [some (.ref l1), some (.int l2), some (.int l3)] [.int 0, .ref s4] (n, sl, f) Q) : mi_W d 191 22 [some (.ref l1), some (.int l2), some (.int l3)] [.ref s4] (n, sl, f) Q := by
  refine w_iconst (v := 0) cd_191_22 (by decide) ?_
  exact h5
theorem b_191_23 {d : Nat} {Q : (Option Value ⊕ Nat) → mi_H → Prop} (n sl : Nat) (f : Nat → mi_C) {l1 : Nat} {l2 : Int32} {l3 : Int32} {s4 : Int32} {s5 : Nat} {fs6 : List Value} (h7 : f s5 = .inr (12, fs6)) (h8 : s5 < n) (h9 : mi_W d 140 0 (mi_en 3 [.ref s5, .int s4, .int 1]) [] (n, sl, f) (mi_Kc d 191 24 [some (.ref l1), some (.int l2), some (.int l3)] [] Q)) : mi_W (d + 1) 191 23 [some (.ref l1), some (.int l2), some (.int l3)] [.int s4, .ref s5] (n, sl, f) Q := by
  refine w_iconst (v := 1) cd_191_23 (by decide) ?_
  exact w_invokevirtual cd_191_24 (show mt_m 12 254 = some (140, 0) by decide +kernel) (rest := []) rfl (as := [.ref s5, .int s4, .int 1]) rfl h7 (Or.inl h8) ⟨Nat.le_of_ble_eq_true rfl, Nat.le_of_ble_eq_true rfl, Nat.le_of_ble_eq_true rfl⟩ h9
theorem b_191_27 {d : Nat} {Q : (Option Value ⊕ Nat) → mi_H → Prop} (n sl : Nat) (f : Nat → mi_C) {l1 : Nat} {l2 : Int32} {l3 : Int32} {s4 : Int32} (h5 : ¬ s4 = (0 : Int32) → mi_W d 191 71 [some (.ref l1), some (.int l2), some (.int l3)] [] (n, sl, f) Q) (h6 : ¬ (¬ s4 = (0 : Int32)) → mi_W d 191 30 [some (.ref l1), some (.int l2), some (.int l3)] [] (n, sl, f) Q) : mi_W d 191 27 [some (.ref l1), some (.int l2), some (.int l3)] [.int s4] (n, sl, f) Q := by
  exact w_ifne cd_191_27 (by decide) h5 h6
theorem b_191_30 {d : Nat} {Q : (Option Value ⊕ Nat) → mi_H → Prop} (n sl : Nat) (f : Nat → mi_C) {l1 : Nat} {l2 : Int32} {l3 : Int32} (h4 : 2 ≤ l2 → mi_W d 191 46 [some (.ref l1), some (.int l2), some (.int l3)] [.long 0, .long ((l3 : Int32).toInt64), .ref l1] (n, sl, f) Q) (h5 : ¬ (2 ≤ l2) → mi_W d 191 39 [some (.ref l1), some (.int l2), some (.int l3)] [.long 0, .long ((l3 : Int32).toInt64), .ref l1] (n, sl, f) Q) : mi_W d 191 30 [some (.ref l1), some (.int l2), some (.int l3)] [] (n, sl, f) Q := by
  refine w_aload_n cd_191_30 rfl ?_
  refine w_iload_n cd_191_31 rfl ?_
  refine w_i2l cd_191_32 ?_
  refine w_lconst (lv := 0) cd_191_33 (by decide) ?_
  refine w_iload_n cd_191_34 rfl ?_
  refine w_iconst (v := 2) cd_191_35 (by decide) ?_
  exact w_if_icmpge cd_191_36 (by decide) h4 h5
theorem b_191_39 {d : Nat} {Q : (Option Value ⊕ Nat) → mi_H → Prop} (n sl : Nat) (f : Nat → mi_C) {l1 : Nat} {l2 : Int32} {l3 : Int32} {s4 : Int64} {s5 : Int64} {s6 : Nat} {fs7 : List Value} {x10 : Int32} (h8 : f l1 = .inr (12, fs7)) (h9 : l1 < n) (h11 : fs7[65]? = some (.int x10)) (h12 : mi_W d 191 50 [some (.ref l1), some (.int l2), some (.int l3)] [.int x10, .long s4, .long s5, .ref s6] (n, sl, f) Q) : mi_W d 191 39 [some (.ref l1), some (.int l2), some (.int l3)] [.long s4, .long s5, .ref s6] (n, sl, f) Q := by
  refine w_aload_n cd_191_39 rfl ?_
  refine w_getfield cd_191_40 (show mt_f 12 536 = some (12, 65) by decide +kernel) h8 h9 h11 ?_
  exact w_goto cd_191_43 (by decide) h12
theorem b_191_46 {d : Nat} {Q : (Option Value ⊕ Nat) → mi_H → Prop} (n sl : Nat) (f : Nat → mi_C) {l1 : Nat} {l2 : Int32} {l3 : Int32} {s4 : Int64} {s5 : Int64} {s6 : Nat} {fs7 : List Value} {x10 : Int32} (h8 : f l1 = .inr (12, fs7)) (h9 : l1 < n) (h11 : fs7[66]? = some (.int x10)) (h12 : mi_W d 191 50 [some (.ref l1), some (.int l2), some (.int l3)] [.int x10, .long s4, .long s5, .ref s6] (n, sl, f) Q) : mi_W d 191 46 [some (.ref l1), some (.int l2), some (.int l3)] [.long s4, .long s5, .ref s6] (n, sl, f) Q := by
  refine w_aload_n cd_191_46 rfl ?_
  refine w_getfield cd_191_47 (show mt_f 12 539 = some (12, 66) by decide +kernel) h8 h9 h11 ?_
  exact h12
theorem b_191_50 {d : Nat} {Q : (Option Value ⊕ Nat) → mi_H → Prop} (n sl : Nat) (f : Nat → mi_C) {l1 : Nat} {l2 : Int32} {l3 : Int32} {s4 : Int32} {s5 : Int64} {s6 : Int64} {s7 : Nat} (h8 : mi_W d 142 0 (mi_en 6 [.long s6, .long s5, .long (((s4 - 1) : Int32).toInt64)]) [] (n, sl, f) (mi_Kc d 191 53 [some (.ref l1), some (.int l2), some (.int l3)] [.ref s7] Q)) : mi_W (d + 1) 191 50 [some (.ref l1), some (.int l2), some (.int l3)] [.int s4, .long s5, .long s6, .ref s7] (n, sl, f) Q := by
  refine w_iconst (v := 1) cd_191_50 (by decide) ?_
  refine w_isub cd_191_51 ?_
  refine w_i2l cd_191_52 ?_
  exact w_invokestatic cd_191_53 (show mt_m 12 268 = some (142, 4) by decide +kernel) (by decide) (rest := [.ref s7]) rfl (as := [.long s6, .long s5, .long (((s4 - 1) : Int32).toInt64)]) rfl ⟨Nat.le_of_ble_eq_true rfl, Nat.le_of_ble_eq_true rfl, Nat.le_of_ble_eq_true rfl⟩ h8
theorem b_191_56 {d : Nat} {Q : (Option Value ⊕ Nat) → mi_H → Prop} (n sl : Nat) (f : Nat → mi_C) {l1 : Nat} {l2 : Int32} {l3 : Int32} {s4 : Int32} {s5 : Nat} (h6 : ¬ s4 = (0 : Int32) → mi_W d 191 63 [some (.ref l1), some (.int l2), some (.int l3)] [.ref s5] (n, sl, f) Q) (h7 : ¬ (¬ s4 = (0 : Int32)) → mi_W d 191 59 [some (.ref l1), some (.int l2), some (.int l3)] [.ref s5] (n, sl, f) Q) : mi_W d 191 56 [some (.ref l1), some (.int l2), some (.int l3)] [.int s4, .ref s5] (n, sl, f) Q := by
  exact w_ifne cd_191_56 (by decide) h6 h7
theorem b_191_59 {d : Nat} {Q : (Option Value ⊕ Nat) → mi_H → Prop} (n sl : Nat) (f : Nat → mi_C) {l1 : Nat} {l2 : Int32} {l3 : Int32} {s4 : Nat} (h5 : mi_W d 191 64 [some (.ref l1), some (.int l2), some (.int l3)] [.int 1, .ref s4] (n, sl, f) Q) : mi_W d 191 59 [some (.ref l1), some (.int l2), some (.int l3)] [.ref s4] (n, sl, f) Q := by
  refine w_iconst (v := 1) cd_191_59 (by decide) ?_
  exact w_goto cd_191_60 (by decide) h5
theorem b_191_63 {d : Nat} {Q : (Option Value ⊕ Nat) → mi_H → Prop} (n sl : Nat) (f : Nat → mi_C) {l1 : Nat} {l2 : Int32} {l3 : Int32} {s4 : Nat} (h5 : mi_W d 191 64 [some (.ref l1), some (.int l2), some (.int l3)] [.int 0, .ref s4] (n, sl, f) Q) : mi_W d 191 63 [some (.ref l1), some (.int l2), some (.int l3)] [.ref s4] (n, sl, f) Q := by
  refine w_iconst (v := 0) cd_191_63 (by decide) ?_
  exact h5
theorem b_191_64 {d : Nat} {Q : (Option Value ⊕ Nat) → mi_H → Prop} (n sl : Nat) (f : Nat → mi_C) {l1 : Nat} {l2 : Int32} {l3 : Int32} {s4 : Int32} {s5 : Nat} {fs6 : List Value} (h7 : f s5 = .inr (12, fs6)) (h8 : s5 < n) (h9 : mi_W d 140 0 (mi_en 3 [.ref s5, .int s4, .int 2]) [] (n, sl, f) (mi_Kc d 191 65 [some (.ref l1), some (.int l2), some (.int l3)] [] Q)) : mi_W (d + 1) 191 64 [some (.ref l1), some (.int l2), some (.int l3)] [.int s4, .ref s5] (n, sl, f) Q := by
  refine w_iconst (v := 2) cd_191_64 (by decide) ?_
  exact w_invokevirtual cd_191_65 (show mt_m 12 254 = some (140, 0) by decide +kernel) (rest := []) rfl (as := [.ref s5, .int s4, .int 2]) rfl h7 (Or.inl h8) ⟨Nat.le_of_ble_eq_true rfl, Nat.le_of_ble_eq_true rfl, Nat.le_of_ble_eq_true rfl⟩ h9
theorem b_191_68 {d : Nat} {Q : (Option Value ⊕ Nat) → mi_H → Prop} (n sl : Nat) (f : Nat → mi_C) {l1 : Nat} {l2 : Int32} {l3 : Int32} {s4 : Int32} (h5 : s4 = (0 : Int32) → mi_W d 191 73 [some (.ref l1), some (.int l2), some (.int l3)] [] (n, sl, f) Q) (h6 : ¬ (s4 = (0 : Int32)) → mi_W d 191 71 [some (.ref l1), some (.int l2), some (.int l3)] [] (n, sl, f) Q) : mi_W d 191 68 [some (.ref l1), some (.int l2), some (.int l3)] [.int s4] (n, sl, f) Q := by
  exact w_ifeq cd_191_68 (by decide) h5 h6
theorem b_191_71 {d : Nat} {Q : (Option Value ⊕ Nat) → mi_H → Prop} (n sl : Nat) (f : Nat → mi_C) {l1 : Nat} {l2 : Int32} {l3 : Int32} (h4 : Q (.inl (some (.int 0))) (n, sl, f)) : mi_W d 191 71 [some (.ref l1), some (.int l2), some (.int l3)] [] (n, sl, f) Q := by
  refine w_iconst (v := 0) cd_191_71 (by decide) ?_
  exact w_ireturn_i cd_191_72 (by decide +kernel) h4
theorem b_191_73 {d : Nat} {Q : (Option Value ⊕ Nat) → mi_H → Prop} (n sl : Nat) (f : Nat → mi_C) {l1 : Nat} {l2 : Int32} {l3 : Int32} (h4 : ¬ l2 = (0 : Int32) → mi_W d 191 86 [some (.ref l1), some (.int l2), some (.int l3)] [] (n, sl, f) Q) (h5 : ¬ (¬ l2 = (0 : Int32)) → mi_W d 191 77 [some (.ref l1), some (.int l2), some (.int l3)] [] (n, sl, f) Q) : mi_W d 191 73 [some (.ref l1), some (.int l2), some (.int l3)] [] (n, sl, f) Q := by
  refine w_iload_n cd_191_73 rfl ?_
  exact w_ifne cd_191_74 (by decide) h4 h5
theorem b_191_77 {d : Nat} {Q : (Option Value ⊕ Nat) → mi_H → Prop} (n sl : Nat) (f : Nat → mi_C) {l1 : Nat} {l2 : Int32} {l3 : Int32} {fs4 : List Value} {x7 : Nat} (m9 i9 : Nat) (g9 : Nat → Int32) (h5 : f l1 = .inr (12, fs4)) (h6 : l1 < n) (h8 : fs4[67]? = some (.ref x7)) (h10 : f x7 = .inl (0, m9, .inl g9)) (h11 : x7 < n ∨ x7 = mi_SC) (h12 : mi_ix l3 m9 i9) (h13 : mi_W d 191 134 [some (.ref l1), some (.int l2), some (.int l3)] [.int (g9 i9)] (n, sl, f) Q) : mi_W d 191 77 [some (.ref l1), some (.int l2), some (.int l3)] [] (n, sl, f) Q := by
  refine w_aload_n cd_191_77 rfl ?_
  refine w_getfield cd_191_78 (show mt_f 12 193 = some (12, 67) by decide +kernel) h5 h6 h8 ?_
  refine w_iload_n cd_191_81 rfl ?_
  refine w_iaload cd_191_82 h10 h11 h12 ?_
  exact w_goto cd_191_83 (by decide) h13
theorem b_191_86 {d : Nat} {Q : (Option Value ⊕ Nat) → mi_H → Prop} (n sl : Nat) (f : Nat → mi_C) {l1 : Nat} {l2 : Int32} {l3 : Int32} (h4 : ¬ l2 = 1 → mi_W d 191 100 [some (.ref l1), some (.int l2), some (.int l3)] [] (n, sl, f) Q) (h5 : ¬ (¬ l2 = 1) → mi_W d 191 91 [some (.ref l1), some (.int l2), some (.int l3)] [] (n, sl, f) Q) : mi_W d 191 86 [some (.ref l1), some (.int l2), some (.int l3)] [] (n, sl, f) Q := by
  refine w_iload_n cd_191_86 rfl ?_
  refine w_iconst (v := 1) cd_191_87 (by decide) ?_
  exact w_if_icmpne cd_191_88 (by decide) h4 h5
theorem b_191_91 {d : Nat} {Q : (Option Value ⊕ Nat) → mi_H → Prop} (n sl : Nat) (f : Nat → mi_C) {l1 : Nat} {l2 : Int32} {l3 : Int32} {fs4 : List Value} {x7 : Nat} (m9 i9 : Nat) (g9 : Nat → Int32) (h5 : f l1 = .inr (12, fs4)) (h6 : l1 < n) (h8 : fs4[68]? = some (.ref x7)) (h10 : f x7 = .inl (0, m9, .inl g9)) (h11 : x7 < n ∨ x7 = mi_SC) (h12 : mi_ix l3 m9 i9) (h13 : mi_W d 191 134 [some (.ref l1), some (.int l2), some (.int l3)] [.int (g9 i9)] (n, sl, f) Q) : mi_W d 191 91 [some (.ref l1), some (.int l2), some (.int l3)] [] (n, sl, f) Q := by
  refine w_aload_n cd_191_91 rfl ?_
  refine w_getfield cd_191_92 (show mt_f 12 196 = some (12, 68) by decide +kernel) h5 h6 h8 ?_
  refine w_iload_n cd_191_95 rfl ?_
  refine w_iaload cd_191_96 h10 h11 h12 ?_
  exact w_goto cd_191_97 (by decide) h13
theorem b_191_100 {d : Nat} {Q : (Option Value ⊕ Nat) → mi_H → Prop} (n sl : Nat) (f : Nat → mi_C) {l1 : Nat} {l2 : Int32} {l3 : Int32} (h4 : ¬ l2 = 2 → mi_W d 191 114 [some (.ref l1), some (.int l2), some (.int l3)] [] (n, sl, f) Q) (h5 : ¬ (¬ l2 = 2) → mi_W d 191 105 [some (.ref l1), some (.int l2), some (.int l3)] [] (n, sl, f) Q) : mi_W d 191 100 [some (.ref l1), some (.int l2), some (.int l3)] [] (n, sl, f) Q := by
  refine w_iload_n cd_191_100 rfl ?_
  refine w_iconst (v := 2) cd_191_101 (by decide) ?_
  exact w_if_icmpne cd_191_102 (by decide) h4 h5
theorem b_191_105 {d : Nat} {Q : (Option Value ⊕ Nat) → mi_H → Prop} (n sl : Nat) (f : Nat → mi_C) {l1 : Nat} {l2 : Int32} {l3 : Int32} {fs4 : List Value} {x7 : Nat} (m9 i9 : Nat) (g9 : Nat → Int32) (h5 : f l1 = .inr (12, fs4)) (h6 : l1 < n) (h8 : fs4[69]? = some (.ref x7)) (h10 : f x7 = .inl (0, m9, .inl g9)) (h11 : x7 < n ∨ x7 = mi_SC) (h12 : mi_ix l3 m9 i9) (h13 : mi_W d 191 134 [some (.ref l1), some (.int l2), some (.int l3)] [.int (g9 i9)] (n, sl, f) Q) : mi_W d 191 105 [some (.ref l1), some (.int l2), some (.int l3)] [] (n, sl, f) Q := by
  refine w_aload_n cd_191_105 rfl ?_
  refine w_getfield cd_191_106 (show mt_f 12 199 = some (12, 69) by decide +kernel) h5 h6 h8 ?_
  refine w_iload_n cd_191_109 rfl ?_
  refine w_iaload cd_191_110 h10 h11 h12 ?_
  exact w_goto cd_191_111 (by decide) h13
theorem b_191_114 {d : Nat} {Q : (Option Value ⊕ Nat) → mi_H → Prop} (n sl : Nat) (f : Nat → mi_C) {l1 : Nat} {l2 : Int32} {l3 : Int32} (h4 : ¬ l2 = 3 → mi_W d 191 128 [some (.ref l1), some (.int l2), some (.int l3)] [] (n, sl, f) Q) (h5 : ¬ (¬ l2 = 3) → mi_W d 191 119 [some (.ref l1), some (.int l2), some (.int l3)] [] (n, sl, f) Q) : mi_W d 191 114 [some (.ref l1), some (.int l2), some (.int l3)] [] (n, sl, f) Q := by
  refine w_iload_n cd_191_114 rfl ?_
  refine w_iconst (v := 3) cd_191_115 (by decide) ?_
  exact w_if_icmpne cd_191_116 (by decide) h4 h5
theorem b_191_119 {d : Nat} {Q : (Option Value ⊕ Nat) → mi_H → Prop} (n sl : Nat) (f : Nat → mi_C) {l1 : Nat} {l2 : Int32} {l3 : Int32} {fs4 : List Value} {x7 : Nat} (m9 i9 : Nat) (g9 : Nat → Int32) (h5 : f l1 = .inr (12, fs4)) (h6 : l1 < n) (h8 : fs4[70]? = some (.ref x7)) (h10 : f x7 = .inl (0, m9, .inl g9)) (h11 : x7 < n ∨ x7 = mi_SC) (h12 : mi_ix l3 m9 i9) (h13 : mi_W d 191 134 [some (.ref l1), some (.int l2), some (.int l3)] [.int (g9 i9)] (n, sl, f) Q) : mi_W d 191 119 [some (.ref l1), some (.int l2), some (.int l3)] [] (n, sl, f) Q := by
  refine w_aload_n cd_191_119 rfl ?_
  refine w_getfield cd_191_120 (show mt_f 12 202 = some (12, 70) by decide +kernel) h5 h6 h8 ?_
  refine w_iload_n cd_191_123 rfl ?_
  refine w_iaload cd_191_124 h10 h11 h12 ?_
  exact w_goto cd_191_125 (by decide) h13
theorem b_191_128 {d : Nat} {Q : (Option Value ⊕ Nat) → mi_H → Prop} (n sl : Nat) (f : Nat → mi_C) {l1 : Nat} {l2 : Int32} {l3 : Int32} {fs4 : List Value} {x7 : Nat} (m9 i9 : Nat) (g9 : Nat → Int32) (h5 : f l1 = .inr (12, fs4)) (h6 : l1 < n) (h8 : fs4[71]? = some (.ref x7)) (h10 : f x7 = .inl (0, m9, .inl g9)) (h11 : x7 < n ∨ x7 = mi_SC) (h12 : mi_ix l3 m9 i9) (h13 : mi_W d 191 134 [some (.ref l1), some (.int l2), some (.int l3)] [.int (g9 i9)] (n, sl, f) Q) : mi_W d 191 128 [some (.ref l1), some (.int l2), some (.int l3)] [] (n, sl, f) Q := by
  refine w_aload_n cd_191_128 rfl ?_
  refine w_getfield cd_191_129 (show mt_f 12 205 = some (12, 71) by decide +kernel) h5 h6 h8 ?_
  refine w_iload_n cd_191_132 rfl ?_
  refine w_iaload cd_191_133 h10 h11 h12 ?_
  exact h13
theorem b_191_134 {d : Nat} {Q : (Option Value ⊕ Nat) → mi_H → Prop} (n sl : Nat) (f : Nat → mi_C) {l1 : Nat} {l2 : Int32} {l3 : Int32} {s4 : Int32} (h5 : Q (.inl (some (.int s4))) (n, sl, f)) : mi_W d 191 134 [some (.ref l1), some (.int l2), some (.int l3)] [.int s4] (n, sl, f) Q := by
  exact w_ireturn_i cd_191_134 (by decide +kernel) h5
/-! MarloweHostModel.deposit(IIIJ)I -/
set_option maxRecDepth 100000 in
theorem mq_187 : mt_q 187 = my_187 := rfl
set_option maxRecDepth 100000 in
theorem ci_187 : mt_inc 0 my_187.cd = true := by decide +kernel
theorem cd_187_0 : mt_cd 187 0 = some (.aload_n 0) := mt_cd_of (q := (0, .aload_n 0, 1)) mq_187 ci_187 (List.mem_of_getElem? (i := 0) rfl)
theorem cd_187_1 : mt_cd 187 1 = some (.iconst 0) := mt_cd_of (q := (1, .iconst 0, 1)) mq_187 ci_187 (List.mem_of_getElem? (i := 1) rfl)
theorem cd_187_2 : mt_cd 187 2 = some (.putfield 248) := mt_cd_of (q := (2, .putfield 248, 3)) mq_187 ci_187 (List.mem_of_getElem? (i := 2) rfl)
theorem cd_187_5 : mt_cd 187 5 = some (.aload_n 0) := mt_cd_of (q := (5, .aload_n 0, 1)) mq_187 ci_187 (List.mem_of_getElem? (i := 3) rfl)
theorem cd_187_6 : mt_cd 187 6 = some (.iload_n 1) := mt_cd_of (q := (6, .iload_n 1, 1)) mq_187 ci_187 (List.mem_of_getElem? (i := 4) rfl)
theorem cd_187_7 : mt_cd 187 7 = some (.i2l) := mt_cd_of (q := (7, .i2l, 1)) mq_187 ci_187 (List.mem_of_getElem? (i := 5) rfl)
theorem cd_187_8 : mt_cd 187 8 = some (.lconst 0) := mt_cd_of (q := (8, .lconst 0, 1)) mq_187 ci_187 (List.mem_of_getElem? (i := 6) rfl)
theorem cd_187_9 : mt_cd 187 9 = some (.ldc2_w 542) := mt_cd_of (q := (9, .ldc2_w 542, 3)) mq_187 ci_187 (List.mem_of_getElem? (i := 7) rfl)
theorem cd_187_12 : mt_cd 187 12 = some (.invokestatic 268) := mt_cd_of (q := (12, .invokestatic 268, 3)) mq_187 ci_187 (List.mem_of_getElem? (i := 8) rfl)
theorem cd_187_15 : mt_cd 187 15 = some (.ifCond .eq 27) := mt_cd_of (q := (15, .ifCond .eq 27, 3)) mq_187 ci_187 (List.mem_of_getElem? (i := 9) rfl)
theorem cd_187_18 : mt_cd 187 18 = some (.iload_n 2) := mt_cd_of (q := (18, .iload_n 2, 1)) mq_187 ci_187 (List.mem_of_getElem? (i := 10) rfl)
theorem cd_187_19 : mt_cd 187 19 = some (.i2l) := mt_cd_of (q := (19, .i2l, 1)) mq_187 ci_187 (List.mem_of_getElem? (i := 11) rfl)
theorem cd_187_20 : mt_cd 187 20 = some (.lconst 0) := mt_cd_of (q := (20, .lconst 0, 1)) mq_187 ci_187 (List.mem_of_getElem? (i := 12) rfl)
theorem cd_187_21 : mt_cd 187 21 = some (.ldc2_w 542) := mt_cd_of (q := (21, .ldc2_w 542, 3)) mq_187 ci_187 (List.mem_of_getElem? (i := 13) rfl)
theorem cd_187_24 : mt_cd 187 24 = some (.invokestatic 268) := mt_cd_of (q := (24, .invokestatic 268, 3)) mq_187 ci_187 (List.mem_of_getElem? (i := 14) rfl)
theorem cd_187_27 : mt_cd 187 27 = some (.ifCond .eq 15) := mt_cd_of (q := (27, .ifCond .eq 15, 3)) mq_187 ci_187 (List.mem_of_getElem? (i := 15) rfl)
theorem cd_187_30 : mt_cd 187 30 = some (.iload_n 3) := mt_cd_of (q := (30, .iload_n 3, 1)) mq_187 ci_187 (List.mem_of_getElem? (i := 16) rfl)
theorem cd_187_31 : mt_cd 187 31 = some (.i2l) := mt_cd_of (q := (31, .i2l, 1)) mq_187 ci_187 (List.mem_of_getElem? (i := 17) rfl)
theorem cd_187_32 : mt_cd 187 32 = some (.lconst 0) := mt_cd_of (q := (32, .lconst 0, 1)) mq_187 ci_187 (List.mem_of_getElem? (i := 18) rfl)
theorem cd_187_33 : mt_cd 187 33 = some (.ldc2_w 544) := mt_cd_of (q := (33, .ldc2_w 544, 3)) mq_187 ci_187 (List.mem_of_getElem? (i := 19) rfl)
theorem cd_187_36 : mt_cd 187 36 = some (.invokestatic 268) := mt_cd_of (q := (36, .invokestatic 268, 3)) mq_187 ci_187 (List.mem_of_getElem? (i := 20) rfl)
theorem cd_187_39 : mt_cd 187 39 = some (.ifCond .ne 7) := mt_cd_of (q := (39, .ifCond .ne 7, 3)) mq_187 ci_187 (List.mem_of_getElem? (i := 21) rfl)
theorem cd_187_42 : mt_cd 187 42 = some (.iconst 1) := mt_cd_of (q := (42, .iconst 1, 1)) mq_187 ci_187 (List.mem_of_getElem? (i := 22) rfl)
theorem cd_187_43 : mt_cd 187 43 = some (.goto 4) := mt_cd_of (q := (43, .goto 4, 3)) mq_187 ci_187 (List.mem_of_getElem? (i := 23) rfl)
theorem cd_187_46 : mt_cd 187 46 = some (.iconst 0) := mt_cd_of (q := (46, .iconst 0, 1)) mq_187 ci_187 (List.mem_of_getElem? (i := 24) rfl)
theorem cd_187_47 : mt_cd 187 47 = some (.iconst 1) := mt_cd_of (q := (47, .iconst 1, 1)) mq_187 ci_187 (List.mem_of_getElem? (i := 25) rfl)
theorem cd_187_48 : mt_cd 187 48 = some (.invokevirtual 254) := mt_cd_of (q := (48, .invokevirtual 254, 3)) mq_187 ci_187 (List.mem_of_getElem? (i := 26) rfl)
theorem cd_187_51 : mt_cd 187 51 = some (.ifCond .ne 25) := mt_cd_of (q := (51, .ifCond .ne 25, 3)) mq_187 ci_187 (List.mem_of_getElem? (i := 27) rfl)
theorem cd_187_54 : mt_cd 187 54 = some (.aload_n 0) := mt_cd_of (q := (54, .aload_n 0, 1)) mq_187 ci_187 (List.mem_of_getElem? (i := 28) rfl)
theorem cd_187_55 : mt_cd 187 55 = some (.aload_n 0) := mt_cd_of (q := (55, .aload_n 0, 1)) mq_187 ci_187 (List.mem_of_getElem? (i := 29) rfl)
theorem cd_187_56 : mt_cd 187 56 = some (.getfield 258) := mt_cd_of (q := (56, .getfield 258, 3)) mq_187 ci_187 (List.mem_of_getElem? (i := 30) rfl)
theorem cd_187_59 : mt_cd 187 59 = some (.bipush 16) := mt_cd_of (q := (59, .bipush 16, 2)) mq_187 ci_187 (List.mem_of_getElem? (i := 31) rfl)
theorem cd_187_61 : mt_cd 187 61 = some (.if_icmp .ne 7) := mt_cd_of (q := (61, .if_icmp .ne 7, 3)) mq_187 ci_187 (List.mem_of_getElem? (i := 32) rfl)
theorem cd_187_64 : mt_cd 187 64 = some (.iconst 1) := mt_cd_of (q := (64, .iconst 1, 1)) mq_187 ci_187 (List.mem_of_getElem? (i := 33) rfl)
theorem cd_187_65 : mt_cd 187 65 = some (.goto 4) := mt_cd_of (q := (65, .goto 4, 3)) mq_187 ci_187 (List.mem_of_getElem? (i := 34) rfl)
theorem cd_187_68 : mt_cd 187 68 = some (.iconst 0) := mt_cd_of (q := (68, .iconst 0, 1)) mq_187 ci_187 (List.mem_of_getElem? (i := 35) rfl)
theorem cd_187_69 : mt_cd 187 69 = some (.iconst 2) := mt_cd_of (q := (69, .iconst 2, 1)) mq_187 ci_187 (List.mem_of_getElem? (i := 36) rfl)
theorem cd_187_70 : mt_cd 187 70 = some (.invokevirtual 254) := mt_cd_of (q := (70, .invokevirtual 254, 3)) mq_187 ci_187 (List.mem_of_getElem? (i := 37) rfl)
theorem cd_187_73 : mt_cd 187 73 = some (.ifCond .eq 5) := mt_cd_of (q := (73, .ifCond .eq 5, 3)) mq_187 ci_187 (List.mem_of_getElem? (i := 38) rfl)
theorem cd_187_76 : mt_cd 187 76 = some (.iconst 0) := mt_cd_of (q := (76, .iconst 0, 1)) mq_187 ci_187 (List.mem_of_getElem? (i := 39) rfl)
theorem cd_187_77 : mt_cd 187 77 = some (.ireturn) := mt_cd_of (q := (77, .ireturn, 1)) mq_187 ci_187 (List.mem_of_getElem? (i := 40) rfl)
theorem cd_187_78 : mt_cd 187 78 = some (.aload_n 0) := mt_cd_of (q := (78, .aload_n 0, 1)) mq_187 ci_187 (List.mem_of_getElem? (i := 41) rfl)
theorem cd_187_79 : mt_cd 187 79 = some (.bipush 7) := mt_cd_of (q := (79, .bipush 7, 2)) mq_187 ci_187 (List.mem_of_getElem? (i := 42) rfl)
theorem cd_187_81 : mt_cd 187 81 = some (.iload_n 1) := mt_cd_of (q := (81, .iload_n 1, 1)) mq_187 ci_187 (List.mem_of_getElem? (i := 43) rfl)
theorem cd_187_82 : mt_cd 187 82 = some (.iload_n 2) := mt_cd_of (q := (82, .iload_n 2, 1)) mq_187 ci_187 (List.mem_of_getElem? (i := 44) rfl)
theorem cd_187_83 : mt_cd 187 83 = some (.iload_n 3) := mt_cd_of (q := (83, .iload_n 3, 1)) mq_187 ci_187 (List.mem_of_getElem? (i := 45) rfl)
theorem cd_187_84 : mt_cd 187 84 = some (.lload 4) := mt_cd_of (q := (84, .lload 4, 2)) mq_187 ci_187 (List.mem_of_getElem? (i := 46) rfl)
theorem cd_187_86 : mt_cd 187 86 = some (.invokevirtual 548) := mt_cd_of (q := (86, .invokevirtual 548, 3)) mq_187 ci_187 (List.mem_of_getElem? (i := 47) rfl)
theorem cd_187_89 : mt_cd 187 89 = some (.ireturn) := mt_cd_of (q := (89, .ireturn, 1)) mq_187 ci_187 (List.mem_of_getElem? (i := 48) rfl)
theorem b_187_0 {d : Nat} {Q : (Option Value ⊕ Nat) → mi_H → Prop} (n sl : Nat) (f : Nat → mi_C) {l1 : Nat} {l2 : Int32} {l3 : Int32} {l4 : Int32} {l5 : Int64} {fs6 : List Value} (h7 : f l1 = .inr (12, fs6)) (h8 : l1 < n) (h9 : 0 < fs6.length) (h10 : mi_W d 142 0 (mi_en 6 [.long ((l2 : Int32).toInt64), .long 0, .long 7]) [] (n, sl, (va_up f l1 (.inr (12, fs6.set 0 (.int 0))))) (mi_Kc d 187 12 [some (.ref l1), some (.int l2), some (.int l3), some (.int l4), some (.long l5), none] [.ref l1] Q)) : mi_W (d + 1) 187 0 [some (.ref l1), some (.int l2), some (.int l3), some (.int l4), some (.long l5), none] [] (n, sl, f) Q := by
  refine w_aload_n cd_187_0 rfl ?_
  refine w_iconst (v := 0) cd_187_1 (by decide) ?_
  refine w_putfield (w := .int 0) cd_187_2 (show mt_f 12 248 = some (12, 0) by decide +kernel) h7 h8 ⟨h9, rfl, Or.inl (by decide)⟩ ?_
  refine w_aload_n cd_187_5 rfl ?_
  refine w_iload_n cd_187_6 rfl ?_
  refine w_i2l cd_187_7 ?_
  refine w_lconst (lv := 0) cd_187_8 (by decide) ?_
  refine w_ldc2_w (lv := 7) cd_187_9 (by decide +kernel) ?_
  exact w_invokestatic cd_187_12 (show mt_m 12 268 = some (142, 4) by decide +kernel) (by decide) (rest := [.ref l1]) rfl (as := [.long ((l2 : Int32).toInt64), .long 0, .long 7]) rfl ⟨Nat.le_of_ble_eq_true rfl, Nat.le_of_ble_eq_true rfl, Nat.le_of_ble_eq_true rfl⟩ h10
theorem b_187_15 {d : Nat} {Q : (Option Value ⊕ Nat) → mi_H → Prop} (n sl : Nat) (f : Nat → mi_C) {l1 : Nat} {l2 : Int32} {l3 : Int32} {l4 : Int32} {l5 : Int64} {s6 : Int32} {s7 : Nat} (h8 : s6 = (0 : Int32) → mi_W d 187 42 [some (.ref l1), some (.int l2), some (.int l3), some (.int l4), some (.long l5), none] [.ref s7] (n, sl, f) Q) (h9 : ¬ (s6 = (0 : Int32)) → mi_W d 187 18 [some (.ref l1), some (.int l2), some (.int l3), some (.int l4), some (.long l5), none] [.ref s7] (n, sl, f) Q) : mi_W d 187 15 [some (.ref l1), some (.int l2), some (.int l3), some (.int l4), some (.long l5), none] [.int s6, .ref s7] (n, sl, f) Q := by
  exact w_ifeq cd_187_15 (by decide) h8 h9
theorem b_187_18 {d : Nat} {Q : (Option Value ⊕ Nat) → mi_H → Prop} (n sl : Nat) (f : Nat → mi_C) {l1 : Nat} {l2 : Int32} {l3 : Int32} {l4 : Int32} {l5 : Int64} {s6 : Nat} (h7 : mi_W d 142 0 (mi_en 6 [.long ((l3 : Int32).toInt64), .long 0, .long 7]) [] (n, sl, f) (mi_Kc d 187 24 [some (.ref l1), some (.int l2), some (.int l3), some (.int l4), some (.long l5), none] [.ref s6] Q)) : mi_W (d + 1) 187 18 [some (.ref l1), some (.int l2), some (.int l3), some (.int l4), some (.long l5), none] [.ref s6] (n, sl, f) Q := by
  refine w_iload_n cd_187_18 rfl ?_
  refine w_i2l cd_187_19 ?_
  refine w_lconst (lv := 0) cd_187_20 (by decide) ?_
  refine w_ldc2_w (lv := 7) cd_187_21 (by decide +kernel) ?_
  exact w_invokestatic cd_187_24 (show mt_m 12 268 = some (142, 4) by decide +kernel) (by decide) (rest := [.ref s6]) rfl (as := [.long ((l3 : Int32).toInt64), .long 0, .long 7]) rfl ⟨Nat.le_of_ble_eq_true rfl, Nat.le_of_ble_eq_true rfl, Nat.le_of_ble_eq_true rfl⟩ h7
theorem b_187_27 {d : Nat} {Q : (Option Value ⊕ Nat) → mi_H → Prop} (n sl : Nat) (f : Nat → mi_C) {l1 : Nat} {l2 : Int32} {l3 : Int32} {l4 : Int32} {l5 : Int64} {s6 : Int32} {s7 : Nat} (h8 : s6 = (0 : Int32) → mi_W d 187 42 [some (.ref l1), some (.int l2), some (.int l3), some (.int l4), some (.long l5), none] [.ref s7] (n, sl, f) Q) (h9 : ¬ (s6 = (0 : Int32)) → mi_W d 187 30 [some (.ref l1), some (.int l2), some (.int l3), some (.int l4), some (.long l5), none] [.ref s7] (n, sl, f) Q) : mi_W d 187 27 [some (.ref l1), some (.int l2), some (.int l3), some (.int l4), some (.long l5), none] [.int s6, .ref s7] (n, sl, f) Q := by
  exact w_ifeq cd_187_27 (by decide) h8 h9
theorem b_187_30 {d : Nat} {Q : (Option Value ⊕ Nat) → mi_H → Prop} (n sl : Nat) (f : Nat → mi_C) {l1 : Nat} {l2 : Int32} {l3 : Int32} {l4 : Int32} {l5 : Int64} {s6 : Nat} (h7 : mi_W d 142 0 (mi_en 6 [.long ((l4 : Int32).toInt64), .long 0, .long 3]) [] (n, sl, f) (mi_Kc d 187 36 [some (.ref l1), some (.int l2), some (.int l3), some (.int l4), some (.long l5), none] [.ref s6] Q)) : mi_W (d + 1) 187 30 [some (.ref l1), some (.int l2), some (.int l3), some (.int l4), some (.long l5), none] [.ref s6] (n, sl, f) Q := by
  refine w_iload_n cd_187_30 rfl ?_
  refine w_i2l cd_187_31 ?_
  refine w_lconst (lv := 0) cd_187_32 (by decide) ?_
  refine w_ldc2_w (lv := 3) cd_187_33 (by decide +kernel) ?_
  exact w_invokestatic cd_187_36 (show mt_m 12 268 = some (142, 4) by decide +kernel) (by decide) (rest := [.ref s6]) rfl (as := [.long ((l4 : Int32).toInt64), .long 0, .long 3]) rfl ⟨Nat.le_of_ble_eq_true rfl, Nat.le_of_ble_eq_true rfl, Nat.le_of_ble_eq_true rfl⟩ h7
theorem b_187_39 {d : Nat} {Q : (Option Value ⊕ Nat) → mi_H → Prop} (n sl : Nat) (f : Nat → mi_C) {l1 : Nat} {l2 : Int32} {l3 : Int32} {l4 : Int32} {l5 : Int64} {s6 : Int32} {s7 : Nat} (h8 : ¬ s6 = (0 : Int32) → mi_W d 187 46 [some (.ref l1), some (.int l2), some (.int l3), some (.int l4), some (.long l5), none] [.ref s7] (n, sl, f) Q) (h9 : ¬ (¬ s6 = (0 : Int32)) → mi_W d 187 42 [some (.ref l1), some (.int l2), some (.int l3), some (.int l4), some (.long l5), none] [.ref s7] (n, sl, f) Q) : mi_W d 187 39 [some (.ref l1), some (.int l2), some (.int l3), some (.int l4), some (.long l5), none] [.int s6, .ref s7] (n, sl, f) Q := by
  exact w_ifne cd_187_39 (by decide) h8 h9
theorem b_187_42 {d : Nat} {Q : (Option Value ⊕ Nat) → mi_H → Prop} (n sl : Nat) (f : Nat → mi_C) {l1 : Nat} {l2 : Int32} {l3 : Int32} {l4 : Int32} {l5 : Int64} {s6 : Nat} (h7 : mi_W d 187 47 [some (.ref l1), some (.int l2), some (.int l3), some (.int l4), some (.long l5), none] [.int 1, .ref s6] (n, sl, f) Q) : mi_W d 187 42 [some (.ref l1), some (.int l2), some (.int l3), some (.int l4), some (.long l5), none] [.ref s6] (n, sl, f) Q := by
  refine w_iconst (v := 1) cd_187_42 (by decide) ?_
  exact w_goto cd_187_43 (by decide) h7
theorem b_187_46 {d : Nat} {Q : (Option Value ⊕ Nat) → mi_H → Prop} (n sl : Nat) (f : Nat → mi_C) {l1 : Nat} {l2 : Int32} {l3 : Int32} {l4 : Int32} {l5 : Int64} {s6 : Nat} (h7 : mi_W d 187 47 [some (.ref l1), some (.int l2), some (.int l3), some (.int l4), some (.long l5), none] [.int 0, .ref s6] (n, sl, f) Q) : mi_W d 187 46 [some (.ref l1), some (.int l2), some (.int l3), some (.int l4), some (.long l5), none] [.ref s6] (n, sl, f) Q := by
  refine w_iconst (v := 0) cd_187_46 (by decide) ?_
  exact h7
theorem b_187_47 {d : Nat} {Q : (Option Value ⊕ Nat) → mi_H → Prop} (n sl : Nat) (f : Nat → mi_C) {l1 : Nat} {l2 : Int32} {l3 : Int32} {l4 : Int32} {l5 : Int64} {s6 : Int32} {s7 : Nat} {fs8 : List Value} (h9 : f s7 = .inr (12, fs8)) (h10 : s7 < n) (h11 : mi_W d 140 0 (mi_en 3 [.ref s7, .int s6, .int 1]) [] (n, sl, f) (mi_Kc d 187 48 [some (.ref l1), some (.int l2), some (.int l3), some (.int l4), some (.long l5), none] [] Q)) : mi_W (d + 1) 187 47 [some (.ref l1), some (.int l2), some (.int l3), some (.int l4), some (.long l5), none] [.int s6, .ref s7] (n, sl, f) Q := by
  refine w_iconst (v := 1) cd_187_47 (by decide) ?_
  exact w_invokevirtual cd_187_48 (show mt_m 12 254 = some (140, 0) by decide +kernel) (rest := []) rfl (as := [.ref s7, .int s6, .int 1]) rfl h9 (Or.inl h10) ⟨Nat.le_of_ble_eq_true rfl, Nat.le_of_ble_eq_true rfl, Nat.le_of_ble_eq_true rfl⟩ h11
theorem b_187_51 {d : Nat} {Q : (Option Value ⊕ Nat) → mi_H → Prop} (n sl : Nat) (f : Nat → mi_C) {l1 : Nat} {l2 : Int32} {l3 : Int32} {l4 : Int32} {l5 : Int64} {s6 : Int32} (h7 : ¬ s6 = (0 : Int32) → mi_W d 187 76 [some (.ref l1), some (.int l2), some (.int l3), some (.int l4), some (.long l5), none] [] (n, sl, f) Q) (h8 : ¬ (¬ s6 = (0 : Int32)) → mi_W d 187 54 [some (.ref l1), some (.int l2), some (.int l3), some (.int l4), some (.long l5), none] [] (n, sl, f) Q) : mi_W d 187 51 [some (.ref l1), some (.int l2), some (.int l3), some (.int l4), some (.long l5), none] [.int s6] (n, sl, f) Q := by
  exact w_ifne cd_187_51 (by decide) h7 h8
theorem b_187_54 {d : Nat} {Q : (Option Value ⊕ Nat) → mi_H → Prop} (n sl : Nat) (f : Nat → mi_C) {l1 : Nat} {l2 : Int32} {l3 : Int32} {l4 : Int32} {l5 : Int64} {fs6 : List Value} {x9 : Int32} (h7 : f l1 = .inr (12, fs6)) (h8 : l1 < n) (h10 : fs6[59]? = some (.int x9)) (h11 : ¬ x9 = 16 → mi_W d 187 68 [some (.ref l1), some (.int l2), some (.int l3), some (.int l4), some (.long l5), none] [.ref l1] (n, sl, f) Q) (h12 : ¬ (¬ x9 = 16) → mi_W d 187 64 [some (.ref l1), some (.int l2), some (.int l3), some (.int l4), some (.long l5), none] [.ref l1] (n, sl, f) Q) : mi_W d 187 54 [some (.ref l1), some (.int l2), some (.int l3), some (.int l4), some (.long l5), none] [] (n, sl, f) Q := by
  refine w_aload_n cd_187_54 rfl ?_
  refine w_aload_n cd_187_55 rfl ?_
  refine w_getfield cd_187_56 (show mt_f 12 258 = some (12, 59) by decide +kernel) h7 h8 h10 ?_
  refine w_bipush (v := 16) cd_187_59 (by decide) ?_
  exact w_if_icmpne cd_187_61 (by decide) h11 h12
theorem b_187_64 {d : Nat} {Q : (Option Value ⊕ Nat) → mi_H → Prop} (n sl : Nat) (f : Nat → mi_C) {l1 : Nat} {l2 : Int32} {l3 : Int32} {l4 : Int32} {l5 : Int64} {s6 : Nat} (h7 : mi_W d 187 69 [some (.ref l1), some (.int l2), some (.int l3), some (.int l4), some (.long l5), none] [.int 1, .ref s6] (n, sl, f) Q) : mi_W d 187 64 [some (.ref l1), some (.int l2), some (.int l3), some (.int l4), some (.long l5), none] [.ref s6] (n, sl, f) Q := by
  refine w_iconst (v := 1) cd_187_64 (by decide) ?_
  exact w_goto cd_187_65 (by decide) h7
theorem b_187_68 {d : Nat} {Q : (Option Value ⊕ Nat) → mi_H → Prop} (n sl : Nat) (f : Nat → mi_C) {l1 : Nat} {l2 : Int32} {l3 : Int32} {l4 : Int32} {l5 : Int64} {s6 : Nat} (h7 : mi_W d 187 69 [some (.ref l1), some (.int l2), some (.int l3), some (.int l4), some (.long l5), none] [.int 0, .ref s6] (n, sl, f) Q) : mi_W d 187 68 [some (.ref l1), some (.int l2), some (.int l3), some (.int l4), some (.long l5), none] [.ref s6] (n, sl, f) Q := by
  refine w_iconst (v := 0) cd_187_68 (by decide) ?_
  exact h7
theorem b_187_69 {d : Nat} {Q : (Option Value ⊕ Nat) → mi_H → Prop} (n sl : Nat) (f : Nat → mi_C) {l1 : Nat} {l2 : Int32} {l3 : Int32} {l4 : Int32} {l5 : Int64} {s6 : Int32} {s7 : Nat} {fs8 : List Value} (h9 : f s7 = .inr (12, fs8)) (h10 : s7 < n) (h11 : mi_W d 140 0 (mi_en 3 [.ref s7, .int s6, .int 2]) [] (n, sl, f) (mi_Kc d 187 70 [some (.ref l1), some (.int l2), some (.int l3), some (.int l4), some (.long l5), none] [] Q)) : mi_W (d + 1) 187 69 [some (.ref l1), some (.int l2), some (.int l3), some (.int l4), some (.long l5), none] [.int s6, .ref s7] (n, sl, f) Q := by
  refine w_iconst (v := 2) cd_187_69 (by decide) ?_
  exact w_invokevirtual cd_187_70 (show mt_m 12 254 = some (140, 0) by decide +kernel) (rest := []) rfl (as := [.ref s7, .int s6, .int 2]) rfl h9 (Or.inl h10) ⟨Nat.le_of_ble_eq_true rfl, Nat.le_of_ble_eq_true rfl, Nat.le_of_ble_eq_true rfl⟩ h11
theorem b_187_73 {d : Nat} {Q : (Option Value ⊕ Nat) → mi_H → Prop} (n sl : Nat) (f : Nat → mi_C) {l1 : Nat} {l2 : Int32} {l3 : Int32} {l4 : Int32} {l5 : Int64} {s6 : Int32} (h7 : s6 = (0 : Int32) → mi_W d 187 78 [some (.ref l1), some (.int l2), some (.int l3), some (.int l4), some (.long l5), none] [] (n, sl, f) Q) (h8 : ¬ (s6 = (0 : Int32)) → mi_W d 187 76 [some (.ref l1), some (.int l2), some (.int l3), some (.int l4), some (.long l5), none] [] (n, sl, f) Q) : mi_W d 187 73 [some (.ref l1), some (.int l2), some (.int l3), some (.int l4), some (.long l5), none] [.int s6] (n, sl, f) Q := by
  exact w_ifeq cd_187_73 (by decide) h7 h8
theorem b_187_76 {d : Nat} {Q : (Option Value ⊕ Nat) → mi_H → Prop} (n sl : Nat) (f : Nat → mi_C) {l1 : Nat} {l2 : Int32} {l3 : Int32} {l4 : Int32} {l5 : Int64} (h6 : Q (.inl (some (.int 0))) (n, sl, f)) : mi_W d 187 76 [some (.ref l1), some (.int l2), some (.int l3), some (.int l4), some (.long l5), none] [] (n, sl, f) Q := by
  refine w_iconst (v := 0) cd_187_76 (by decide) ?_
  exact w_ireturn_i cd_187_77 (by decide +kernel) h6
theorem b_187_78 {d : Nat} {Q : (Option Value ⊕ Nat) → mi_H → Prop} (n sl : Nat) (f : Nat → mi_C) {l1 : Nat} {l2 : Int32} {l3 : Int32} {l4 : Int32} {l5 : Int64} {fs6 : List Value} (h7 : f l1 = .inr (12, fs6)) (h8 : l1 < n) (h9 : mi_W d 188 0 (mi_en 7 [.ref l1, .int 7, .int l2, .int l3, .int l4, .long l5]) [] (n, sl, f) (mi_Kc d 187 86 [some (.ref l1), some (.int l2), some (.int l3), some (.int l4), some (.long l5), none] [] Q)) : mi_W (d + 1) 187 78 [some (.ref l1), some (.int l2), some (.int l3), some (.int l4), some (.long l5), none] [] (n, sl, f) Q := by
  refine w_aload_n cd_187_78 rfl ?_
  refine w_bipush (v := 7) cd_187_79 (by decide) ?_
  refine w_iload_n cd_187_81 rfl ?_
  refine w_iload_n cd_187_82 rfl ?_
  refine w_iload_n cd_187_83 rfl ?_
  refine w_lload cd_187_84 rfl ?_
  exact w_invokevirtual cd_187_86 (show mt_m 12 548 = some (188, 0) by decide +kernel) (rest := []) rfl (as := [.ref l1, .int 7, .int l2, .int l3, .int l4, .long l5]) rfl h7 (Or.inl h8) ⟨Nat.le_of_ble_eq_true rfl, Nat.le_of_ble_eq_true rfl, Nat.le_of_ble_eq_true rfl⟩ h9
theorem b_187_89 {d : Nat} {Q : (Option Value ⊕ Nat) → mi_H → Prop} (n sl : Nat) (f : Nat → mi_C) {l1 : Nat} {l2 : Int32} {l3 : Int32} {l4 : Int32} {l5 : Int64} {s6 : Int32} (h7 : Q (.inl (some (.int s6))) (n, sl, f)) : mi_W d 187 89 [some (.ref l1), some (.int l2), some (.int l3), some (.int l4), some (.long l5), none] [.int s6] (n, sl, f) Q := by
  exact w_ireturn_i cd_187_89 (by decide +kernel) h7
/-! MarloweHost.told(II)I -/
set_option maxRecDepth 100000 in
theorem mq_114 : mt_q 114 = my_114 := rfl
set_option maxRecDepth 100000 in
theorem ci_114 : mt_inc 0 my_114.cd = true := by decide +kernel
theorem cd_114_0 : mt_cd 114 0 = some (.iload_n 1) := mt_cd_of (q := (0, .iload_n 1, 1)) mq_114 ci_114 (List.mem_of_getElem? (i := 0) rfl)
theorem cd_114_1 : mt_cd 114 1 = some (.ifCond .lt 8) := mt_cd_of (q := (1, .ifCond .lt 8, 3)) mq_114 ci_114 (List.mem_of_getElem? (i := 1) rfl)
theorem cd_114_4 : mt_cd 114 4 = some (.iload_n 1) := mt_cd_of (q := (4, .iload_n 1, 1)) mq_114 ci_114 (List.mem_of_getElem? (i := 2) rfl)
theorem cd_114_5 : mt_cd 114 5 = some (.iconst 4) := mt_cd_of (q := (5, .iconst 4, 1)) mq_114 ci_114 (List.mem_of_getElem? (i := 3) rfl)
theorem cd_114_6 : mt_cd 114 6 = some (.if_icmp .le 13) := mt_cd_of (q := (6, .if_icmp .le 13, 3)) mq_114 ci_114 (List.mem_of_getElem? (i := 4) rfl)
theorem cd_114_9 : mt_cd 114 9 = some (.new 123) := mt_cd_of (q := (9, .new 123, 3)) mq_114 ci_114 (List.mem_of_getElem? (i := 5) rfl)
theorem cd_114_12 : mt_cd 114 12 = some (.dup) := mt_cd_of (q := (12, .dup, 1)) mq_114 ci_114 (List.mem_of_getElem? (i := 6) rfl)
theorem cd_114_13 : mt_cd 114 13 = some (.ldc 154) := mt_cd_of (q := (13, .ldc 154, 2)) mq_114 ci_114 (List.mem_of_getElem? (i := 7) rfl)
theorem cd_114_15 : mt_cd 114 15 = some (.invokespecial 127) := mt_cd_of (q := (15, .invokespecial 127, 3)) mq_114 ci_114 (List.mem_of_getElem? (i := 8) rfl)
theorem cd_114_18 : mt_cd 114 18 = some (.athrow) := mt_cd_of (q := (18, .athrow, 1)) mq_114 ci_114 (List.mem_of_getElem? (i := 9) rfl)
theorem cd_114_19 : mt_cd 114 19 = some (.aload_n 0) := mt_cd_of (q := (19, .aload_n 0, 1)) mq_114 ci_114 (List.mem_of_getElem? (i := 10) rfl)
theorem cd_114_20 : mt_cd 114 20 = some (.getfield 51) := mt_cd_of (q := (20, .getfield 51, 3)) mq_114 ci_114 (List.mem_of_getElem? (i := 11) rfl)
theorem cd_114_23 : mt_cd 114 23 = some (.getfield 156) := mt_cd_of (q := (23, .getfield 156, 3)) mq_114 ci_114 (List.mem_of_getElem? (i := 12) rfl)
theorem cd_114_26 : mt_cd 114 26 = some (.astore_n 3) := mt_cd_of (q := (26, .astore_n 3, 1)) mq_114 ci_114 (List.mem_of_getElem? (i := 13) rfl)
theorem cd_114_27 : mt_cd 114 27 = some (.iload_n 2) := mt_cd_of (q := (27, .iload_n 2, 1)) mq_114 ci_114 (List.mem_of_getElem? (i := 14) rfl)
theorem cd_114_28 : mt_cd 114 28 = some (.ifCond .lt 23) := mt_cd_of (q := (28, .ifCond .lt 23, 3)) mq_114 ci_114 (List.mem_of_getElem? (i := 15) rfl)
theorem cd_114_31 : mt_cd 114 31 = some (.iload_n 2) := mt_cd_of (q := (31, .iload_n 2, 1)) mq_114 ci_114 (List.mem_of_getElem? (i := 16) rfl)
theorem cd_114_32 : mt_cd 114 32 = some (.iload_n 1) := mt_cd_of (q := (32, .iload_n 1, 1)) mq_114 ci_114 (List.mem_of_getElem? (i := 17) rfl)
theorem cd_114_33 : mt_cd 114 33 = some (.iconst 1) := mt_cd_of (q := (33, .iconst 1, 1)) mq_114 ci_114 (List.mem_of_getElem? (i := 18) rfl)
theorem cd_114_34 : mt_cd 114 34 = some (.if_icmp .gt 10) := mt_cd_of (q := (34, .if_icmp .gt 10, 3)) mq_114 ci_114 (List.mem_of_getElem? (i := 19) rfl)
theorem cd_114_37 : mt_cd 114 37 = some (.aload_n 3) := mt_cd_of (q := (37, .aload_n 3, 1)) mq_114 ci_114 (List.mem_of_getElem? (i := 20) rfl)
theorem cd_114_38 : mt_cd 114 38 = some (.getfield 160) := mt_cd_of (q := (38, .getfield 160, 3)) mq_114 ci_114 (List.mem_of_getElem? (i := 21) rfl)
theorem cd_114_41 : mt_cd 114 41 = some (.goto 7) := mt_cd_of (q := (41, .goto 7, 3)) mq_114 ci_114 (List.mem_of_getElem? (i := 22) rfl)
theorem cd_114_44 : mt_cd 114 44 = some (.aload_n 3) := mt_cd_of (q := (44, .aload_n 3, 1)) mq_114 ci_114 (List.mem_of_getElem? (i := 23) rfl)
theorem cd_114_45 : mt_cd 114 45 = some (.getfield 165) := mt_cd_of (q := (45, .getfield 165, 3)) mq_114 ci_114 (List.mem_of_getElem? (i := 24) rfl)
theorem cd_114_48 : mt_cd 114 48 = some (.if_icmp .lt 13) := mt_cd_of (q := (48, .if_icmp .lt 13, 3)) mq_114 ci_114 (List.mem_of_getElem? (i := 25) rfl)
theorem cd_114_51 : mt_cd 114 51 = some (.new 78) := mt_cd_of (q := (51, .new 78, 3)) mq_114 ci_114 (List.mem_of_getElem? (i := 26) rfl)
theorem cd_114_54 : mt_cd 114 54 = some (.dup) := mt_cd_of (q := (54, .dup, 1)) mq_114 ci_114 (List.mem_of_getElem? (i := 27) rfl)
theorem cd_114_55 : mt_cd 114 55 = some (.ldc 168) := mt_cd_of (q := (55, .ldc 168, 2)) mq_114 ci_114 (List.mem_of_getElem? (i := 28) rfl)
theorem cd_114_57 : mt_cd 114 57 = some (.invokespecial 82) := mt_cd_of (q := (57, .invokespecial 82, 3)) mq_114 ci_114 (List.mem_of_getElem? (i := 29) rfl)
theorem cd_114_60 : mt_cd 114 60 = some (.athrow) := mt_cd_of (q := (60, .athrow, 1)) mq_114 ci_114 (List.mem_of_getElem? (i := 30) rfl)
theorem cd_114_61 : mt_cd 114 61 = some (.iload_n 1) := mt_cd_of (q := (61, .iload_n 1, 1)) mq_114 ci_114 (List.mem_of_getElem? (i := 31) rfl)
theorem cd_114_62 : mt_cd 114 62 = some (.tableswitch 58 0 3 #[30, 37, 44, 51]) := mt_cd_of (q := (62, .tableswitch 58 0 3 #[30, 37, 44, 51], 30)) mq_114 ci_114 (List.mem_of_getElem? (i := 32) rfl)
theorem cd_114_92 : mt_cd 114 92 = some (.aload_n 3) := mt_cd_of (q := (92, .aload_n 3, 1)) mq_114 ci_114 (List.mem_of_getElem? (i := 33) rfl)
theorem cd_114_93 : mt_cd 114 93 = some (.getfield 170) := mt_cd_of (q := (93, .getfield 170, 3)) mq_114 ci_114 (List.mem_of_getElem? (i := 34) rfl)
theorem cd_114_96 : mt_cd 114 96 = some (.iload_n 2) := mt_cd_of (q := (96, .iload_n 2, 1)) mq_114 ci_114 (List.mem_of_getElem? (i := 35) rfl)
theorem cd_114_97 : mt_cd 114 97 = some (.iaload) := mt_cd_of (q := (97, .iaload, 1)) mq_114 ci_114 (List.mem_of_getElem? (i := 36) rfl)
theorem cd_114_98 : mt_cd 114 98 = some (.ireturn) := mt_cd_of (q := (98, .ireturn, 1)) mq_114 ci_114 (List.mem_of_getElem? (i := 37) rfl)
theorem cd_114_99 : mt_cd 114 99 = some (.aload_n 3) := mt_cd_of (q := (99, .aload_n 3, 1)) mq_114 ci_114 (List.mem_of_getElem? (i := 38) rfl)
theorem cd_114_100 : mt_cd 114 100 = some (.getfield 174) := mt_cd_of (q := (100, .getfield 174, 3)) mq_114 ci_114 (List.mem_of_getElem? (i := 39) rfl)
theorem cd_114_103 : mt_cd 114 103 = some (.iload_n 2) := mt_cd_of (q := (103, .iload_n 2, 1)) mq_114 ci_114 (List.mem_of_getElem? (i := 40) rfl)
theorem cd_114_104 : mt_cd 114 104 = some (.iaload) := mt_cd_of (q := (104, .iaload, 1)) mq_114 ci_114 (List.mem_of_getElem? (i := 41) rfl)
theorem cd_114_105 : mt_cd 114 105 = some (.ireturn) := mt_cd_of (q := (105, .ireturn, 1)) mq_114 ci_114 (List.mem_of_getElem? (i := 42) rfl)
theorem cd_114_106 : mt_cd 114 106 = some (.aload_n 3) := mt_cd_of (q := (106, .aload_n 3, 1)) mq_114 ci_114 (List.mem_of_getElem? (i := 43) rfl)
theorem cd_114_107 : mt_cd 114 107 = some (.getfield 177) := mt_cd_of (q := (107, .getfield 177, 3)) mq_114 ci_114 (List.mem_of_getElem? (i := 44) rfl)
theorem cd_114_110 : mt_cd 114 110 = some (.iload_n 2) := mt_cd_of (q := (110, .iload_n 2, 1)) mq_114 ci_114 (List.mem_of_getElem? (i := 45) rfl)
theorem cd_114_111 : mt_cd 114 111 = some (.iaload) := mt_cd_of (q := (111, .iaload, 1)) mq_114 ci_114 (List.mem_of_getElem? (i := 46) rfl)
theorem cd_114_112 : mt_cd 114 112 = some (.ireturn) := mt_cd_of (q := (112, .ireturn, 1)) mq_114 ci_114 (List.mem_of_getElem? (i := 47) rfl)
theorem cd_114_113 : mt_cd 114 113 = some (.aload_n 3) := mt_cd_of (q := (113, .aload_n 3, 1)) mq_114 ci_114 (List.mem_of_getElem? (i := 48) rfl)
theorem cd_114_114 : mt_cd 114 114 = some (.getfield 180) := mt_cd_of (q := (114, .getfield 180, 3)) mq_114 ci_114 (List.mem_of_getElem? (i := 49) rfl)
theorem cd_114_117 : mt_cd 114 117 = some (.iload_n 2) := mt_cd_of (q := (117, .iload_n 2, 1)) mq_114 ci_114 (List.mem_of_getElem? (i := 50) rfl)
theorem cd_114_118 : mt_cd 114 118 = some (.iaload) := mt_cd_of (q := (118, .iaload, 1)) mq_114 ci_114 (List.mem_of_getElem? (i := 51) rfl)
theorem cd_114_119 : mt_cd 114 119 = some (.ireturn) := mt_cd_of (q := (119, .ireturn, 1)) mq_114 ci_114 (List.mem_of_getElem? (i := 52) rfl)
theorem cd_114_120 : mt_cd 114 120 = some (.aload_n 3) := mt_cd_of (q := (120, .aload_n 3, 1)) mq_114 ci_114 (List.mem_of_getElem? (i := 53) rfl)
theorem cd_114_121 : mt_cd 114 121 = some (.getfield 183) := mt_cd_of (q := (121, .getfield 183, 3)) mq_114 ci_114 (List.mem_of_getElem? (i := 54) rfl)
theorem cd_114_124 : mt_cd 114 124 = some (.iload_n 2) := mt_cd_of (q := (124, .iload_n 2, 1)) mq_114 ci_114 (List.mem_of_getElem? (i := 55) rfl)
theorem cd_114_125 : mt_cd 114 125 = some (.iaload) := mt_cd_of (q := (125, .iaload, 1)) mq_114 ci_114 (List.mem_of_getElem? (i := 56) rfl)
theorem cd_114_126 : mt_cd 114 126 = some (.ireturn) := mt_cd_of (q := (126, .ireturn, 1)) mq_114 ci_114 (List.mem_of_getElem? (i := 57) rfl)
theorem b_114_0 {d : Nat} {Q : (Option Value ⊕ Nat) → mi_H → Prop} (n sl : Nat) (f : Nat → mi_C) {l1 : Nat} {l2 : Int32} {l3 : Int32} {o4 : Option Value} (h5 : l2 < (0 : Int32) → mi_W d 114 9 [some (.ref l1), some (.int l2), some (.int l3), o4] [] (n, sl, f) Q) (h6 : ¬ (l2 < (0 : Int32)) → mi_W d 114 4 [some (.ref l1), some (.int l2), some (.int l3), o4] [] (n, sl, f) Q) : mi_W d 114 0 [some (.ref l1), some (.int l2), some (.int l3), o4] [] (n, sl, f) Q := by
  refine w_iload_n cd_114_0 rfl ?_
  exact w_iflt cd_114_1 (by decide) h5 h6
theorem b_114_4 {d : Nat} {Q : (Option Value ⊕ Nat) → mi_H → Prop} (n sl : Nat) (f : Nat → mi_C) {l1 : Nat} {l2 : Int32} {l3 : Int32} {o4 : Option Value} (h5 : l2 ≤ 4 → mi_W d 114 19 [some (.ref l1), some (.int l2), some (.int l3), o4] [] (n, sl, f) Q) (h6 : ¬ (l2 ≤ 4) → mi_W d 114 9 [some (.ref l1), some (.int l2), some (.int l3), o4] [] (n, sl, f) Q) : mi_W d 114 4 [some (.ref l1), some (.int l2), some (.int l3), o4] [] (n, sl, f) Q := by
  refine w_iload_n cd_114_4 rfl ?_
  refine w_iconst (v := 4) cd_114_5 (by decide) ?_
  exact w_if_icmple cd_114_6 (by decide) h5 h6
theorem b_114_9 {d : Nat} {Q : (Option Value ⊕ Nat) → mi_H → Prop} (n sl : Nat) (f : Nat → mi_C) {l1 : Nat} {l2 : Int32} {l3 : Int32} {o4 : Option Value} {h' : mi_H} (h5 : mi_t 114 9 (.new 123) [] (n, sl, f) = some h') (h6 : Q (.inr n) h') : mi_W d 114 9 [some (.ref l1), some (.int l2), some (.int l3), o4] [] (n, sl, f) Q := by
  exact w_throw cd_114_9 (show mt_c 0 123 = some 15 by decide +kernel) (by decide) h5 h6
theorem b_114_19 {d : Nat} {Q : (Option Value ⊕ Nat) → mi_H → Prop} (n sl : Nat) (f : Nat → mi_C) {l1 : Nat} {l2 : Int32} {l3 : Int32} {o4 : Option Value} {fs5 : List Value} {x8 : Nat} {fs10 : List Value} {x13 : Nat} (h6 : f l1 = .inr (0, fs5)) (h7 : l1 < n) (h9 : fs5[5]? = some (.ref x8)) (h11 : f x8 = .inr (7, fs10)) (h12 : x8 < n) (h14 : fs10[7]? = some (.ref x13)) (h15 : l3 < (0 : Int32) → mi_W d 114 51 [some (.ref l1), some (.int l2), some (.int l3), some (.ref x13)] [] (n, sl, f) Q) (h16 : ¬ (l3 < (0 : Int32)) → mi_W d 114 31 [some (.ref l1), some (.int l2), some (.int l3), some (.ref x13)] [] (n, sl, f) Q) : mi_W d 114 19 [some (.ref l1), some (.int l2), some (.int l3), o4] [] (n, sl, f) Q := by
  refine w_aload_n cd_114_19 rfl ?_
  refine w_getfield cd_114_20 (show mt_f 0 51 = some (0, 5) by decide +kernel) h6 h7 h9 ?_
  refine w_getfield cd_114_23 (show mt_f 0 156 = some (7, 7) by decide +kernel) h11 h12 h14 ?_
  refine w_astore_n (ls' := [some (.ref l1), some (.int l2), some (.int l3), some (.ref x13)]) cd_114_26 (Nat.le_of_ble_eq_true rfl) rfl ?_
  refine w_iload_n cd_114_27 rfl ?_
  exact w_iflt cd_114_28 (by decide) h15 h16
theorem b_114_31 {d : Nat} {Q : (Option Value ⊕ Nat) → mi_H → Prop} (n sl : Nat) (f : Nat → mi_C) {l1 : Nat} {l2 : Int32} {l3 : Int32} {l4 : Nat} (h5 : 1 < l2 → mi_W d 114 44 [some (.ref l1), some (.int l2), some (.int l3), some (.ref l4)] [.int l3] (n, sl, f) Q) (h6 : ¬ (1 < l2) → mi_W d 114 37 [some (.ref l1), some (.int l2), some (.int l3), some (.ref l4)] [.int l3] (n, sl, f) Q) : mi_W d 114 31 [some (.ref l1), some (.int l2), some (.int l3), some (.ref l4)] [] (n, sl, f) Q := by
  refine w_iload_n cd_114_31 rfl ?_
  refine w_iload_n cd_114_32 rfl ?_
  refine w_iconst (v := 1) cd_114_33 (by decide) ?_
  exact w_if_icmpgt cd_114_34 (by decide) h5 h6
theorem b_114_37 {d : Nat} {Q : (Option Value ⊕ Nat) → mi_H → Prop} (n sl : Nat) (f : Nat → mi_C) {l1 : Nat} {l2 : Int32} {l3 : Int32} {l4 : Nat} {s5 : Int32} {fs6 : List Value} {x9 : Int32} (h7 : f l4 = .inr (8, fs6)) (h8 : l4 < n) (h10 : fs6[6]? = some (.int x9)) (h11 : mi_W d 114 48 [some (.ref l1), some (.int l2), some (.int l3), some (.ref l4)] [.int x9, .int s5] (n, sl, f) Q) : mi_W d 114 37 [some (.ref l1), some (.int l2), some (.int l3), some (.ref l4)] [.int s5] (n, sl, f) Q := by
  refine w_aload_n cd_114_37 rfl ?_
  refine w_getfield cd_114_38 (show mt_f 0 160 = some (8, 6) by decide +kernel) h7 h8 h10 ?_
  exact w_goto cd_114_41 (by decide) h11
theorem b_114_44 {d : Nat} {Q : (Option Value ⊕ Nat) → mi_H → Prop} (n sl : Nat) (f : Nat → mi_C) {l1 : Nat} {l2 : Int32} {l3 : Int32} {l4 : Nat} {s5 : Int32} {fs6 : List Value} {x9 : Int32} (h7 : f l4 = .inr (8, fs6)) (h8 : l4 < n) (h10 : fs6[7]? = some (.int x9)) (h11 : mi_W d 114 48 [some (.ref l1), some (.int l2), some (.int l3), some (.ref l4)] [.int x9, .int s5] (n, sl, f) Q) : mi_W d 114 44 [some (.ref l1), some (.int l2), some (.int l3), some (.ref l4)] [.int s5] (n, sl, f) Q := by
  refine w_aload_n cd_114_44 rfl ?_
  refine w_getfield cd_114_45 (show mt_f 0 165 = some (8, 7) by decide +kernel) h7 h8 h10 ?_
  exact h11
theorem b_114_48 {d : Nat} {Q : (Option Value ⊕ Nat) → mi_H → Prop} (n sl : Nat) (f : Nat → mi_C) {l1 : Nat} {l2 : Int32} {l3 : Int32} {l4 : Nat} {s5 : Int32} {s6 : Int32} (h7 : s6 < s5 → mi_W d 114 61 [some (.ref l1), some (.int l2), some (.int l3), some (.ref l4)] [] (n, sl, f) Q) (h8 : ¬ (s6 < s5) → mi_W d 114 51 [some (.ref l1), some (.int l2), some (.int l3), some (.ref l4)] [] (n, sl, f) Q) : mi_W d 114 48 [some (.ref l1), some (.int l2), some (.int l3), some (.ref l4)] [.int s5, .int s6] (n, sl, f) Q := by
  exact w_if_icmplt cd_114_48 (by decide) h7 h8
theorem b_114_51 {d : Nat} {Q : (Option Value ⊕ Nat) → mi_H → Prop} (n sl : Nat) (f : Nat → mi_C) {l1 : Nat} {l2 : Int32} {l3 : Int32} {l4 : Nat} {h' : mi_H} (h5 : mi_t 114 51 (.new 78) [] (n, sl, f) = some h') (h6 : Q (.inr n) h') : mi_W d 114 51 [some (.ref l1), some (.int l2), some (.int l3), some (.ref l4)] [] (n, sl, f) Q := by
  exact w_throw cd_114_51 (show mt_c 0 78 = some 14 by decide +kernel) (by decide) h5 h6
theorem b_114_61 {d : Nat} {Q : (Option Value ⊕ Nat) → mi_H → Prop} (n sl : Nat) (f : Nat → mi_C) {l1 : Nat} {l2 : Int32} {l3 : Int32} {l4 : Nat} {t5 : Nat} (h6 : mi_ts 62 58 0 3 #[30, 37, 44, 51] (l2 : Int32).toInt = some t5) (h7 : mi_W d 114 t5 [some (.ref l1), some (.int l2), some (.int l3), some (.ref l4)] [] (n, sl, f) Q) : mi_W d 114 61 [some (.ref l1), some (.int l2), some (.int l3), some (.ref l4)] [] (n, sl, f) Q := by
  refine w_iload_n cd_114_61 rfl ?_
  exact w_tableswitch cd_114_62 h6 h7
theorem b_114_92 {d : Nat} {Q : (Option Value ⊕ Nat) → mi_H → Prop} (n sl : Nat) (f : Nat → mi_C) {l1 : Nat} {l2 : Int32} {l3 : Int32} {l4 : Nat} {fs5 : List Value} {x8 : Nat} (m10 i10 : Nat) (g10 : Nat → Int32) (h6 : f l4 = .inr (8, fs5)) (h7 : l4 < n) (h9 : fs5[0]? = some (.ref x8)) (h11 : f x8 = .inl (0, m10, .inl g10)) (h12 : x8 < n ∨ x8 = mi_SC) (h13 : mi_ix l3 m10 i10) (h14 : Q (.inl (some (.int (g10 i10)))) (n, sl, f)) : mi_W d 114 92 [some (.ref l1), some (.int l2), some (.int l3), some (.ref l4)] [] (n, sl, f) Q := by
  refine w_aload_n cd_114_92 rfl ?_
  refine w_getfield cd_114_93 (show mt_f 0 170 = some (8, 0) by decide +kernel) h6 h7 h9 ?_
  refine w_iload_n cd_114_96 rfl ?_
  refine w_iaload cd_114_97 h11 h12 h13 ?_
  exact w_ireturn_i cd_114_98 (by decide +kernel) h14
theorem b_114_99 {d : Nat} {Q : (Option Value ⊕ Nat) → mi_H → Prop} (n sl : Nat) (f : Nat → mi_C) {l1 : Nat} {l2 : Int32} {l3 : Int32} {l4 : Nat} {fs5 : List Value} {x8 : Nat} (m10 i10 : Nat) (g10 : Nat → Int32) (h6 : f l4 = .inr (8, fs5)) (h7 : l4 < n) (h9 : fs5[1]? = some (.ref x8)) (h11 : f x8 = .inl (0, m10, .inl g10)) (h12 : x8 < n ∨ x8 = mi_SC) (h13 : mi_ix l3 m10 i10) (h14 : Q (.inl (some (.int (g10 i10)))) (n, sl, f)) : mi_W d 114 99 [some (.ref l1), some (.int l2), some (.int l3), some (.ref l4)] [] (n, sl, f) Q := by
  refine w_aload_n cd_114_99 rfl ?_
  refine w_getfield cd_114_100 (show mt_f 0 174 = some (8, 1) by decide +kernel) h6 h7 h9 ?_
  refine w_iload_n cd_114_103 rfl ?_
  refine w_iaload cd_114_104 h11 h12 h13 ?_
  exact w_ireturn_i cd_114_105 (by decide +kernel) h14
theorem b_114_106 {d : Nat} {Q : (Option Value ⊕ Nat) → mi_H → Prop} (n sl : Nat) (f : Nat → mi_C) {l1 : Nat} {l2 : Int32} {l3 : Int32} {l4 : Nat} {fs5 : List Value} {x8 : Nat} (m10 i10 : Nat) (g10 : Nat → Int32) (h6 : f l4 = .inr (8, fs5)) (h7 : l4 < n) (h9 : fs5[2]? = some (.ref x8)) (h11 : f x8 = .inl (0, m10, .inl g10)) (h12 : x8 < n ∨ x8 = mi_SC) (h13 : mi_ix l3 m10 i10) (h14 : Q (.inl (some (.int (g10 i10)))) (n, sl, f)) : mi_W d 114 106 [some (.ref l1), some (.int l2), some (.int l3), some (.ref l4)] [] (n, sl, f) Q := by
  refine w_aload_n cd_114_106 rfl ?_
  refine w_getfield cd_114_107 (show mt_f 0 177 = some (8, 2) by decide +kernel) h6 h7 h9 ?_
  refine w_iload_n cd_114_110 rfl ?_
  refine w_iaload cd_114_111 h11 h12 h13 ?_
  exact w_ireturn_i cd_114_112 (by decide +kernel) h14
theorem b_114_113 {d : Nat} {Q : (Option Value ⊕ Nat) → mi_H → Prop} (n sl : Nat) (f : Nat → mi_C) {l1 : Nat} {l2 : Int32} {l3 : Int32} {l4 : Nat} {fs5 : List Value} {x8 : Nat} (m10 i10 : Nat) (g10 : Nat → Int32) (h6 : f l4 = .inr (8, fs5)) (h7 : l4 < n) (h9 : fs5[3]? = some (.ref x8)) (h11 : f x8 = .inl (0, m10, .inl g10)) (h12 : x8 < n ∨ x8 = mi_SC) (h13 : mi_ix l3 m10 i10) (h14 : Q (.inl (some (.int (g10 i10)))) (n, sl, f)) : mi_W d 114 113 [some (.ref l1), some (.int l2), some (.int l3), some (.ref l4)] [] (n, sl, f) Q := by
  refine w_aload_n cd_114_113 rfl ?_
  refine w_getfield cd_114_114 (show mt_f 0 180 = some (8, 3) by decide +kernel) h6 h7 h9 ?_
  refine w_iload_n cd_114_117 rfl ?_
  refine w_iaload cd_114_118 h11 h12 h13 ?_
  exact w_ireturn_i cd_114_119 (by decide +kernel) h14
theorem b_114_120 {d : Nat} {Q : (Option Value ⊕ Nat) → mi_H → Prop} (n sl : Nat) (f : Nat → mi_C) {l1 : Nat} {l2 : Int32} {l3 : Int32} {l4 : Nat} {fs5 : List Value} {x8 : Nat} (m10 i10 : Nat) (g10 : Nat → Int32) (h6 : f l4 = .inr (8, fs5)) (h7 : l4 < n) (h9 : fs5[4]? = some (.ref x8)) (h11 : f x8 = .inl (0, m10, .inl g10)) (h12 : x8 < n ∨ x8 = mi_SC) (h13 : mi_ix l3 m10 i10) (h14 : Q (.inl (some (.int (g10 i10)))) (n, sl, f)) : mi_W d 114 120 [some (.ref l1), some (.int l2), some (.int l3), some (.ref l4)] [] (n, sl, f) Q := by
  refine w_aload_n cd_114_120 rfl ?_
  refine w_getfield cd_114_121 (show mt_f 0 183 = some (8, 4) by decide +kernel) h6 h7 h9 ?_
  refine w_iload_n cd_114_124 rfl ?_
  refine w_iaload cd_114_125 h11 h12 h13 ?_
  exact w_ireturn_i cd_114_126 (by decide +kernel) h14
/-! MarloweHost$Inputs.add(IIIIJ)I -/
set_option maxRecDepth 100000 in
theorem mq_65 : mt_q 65 = my_65 := rfl
set_option maxRecDepth 100000 in
theorem ci_65 : mt_inc 0 my_65.cd = true := by decide +kernel
theorem cd_65_0 : mt_cd 65 0 = some (.aload_n 0) := mt_cd_of (q := (0, .aload_n 0, 1)) mq_65 ci_65 (List.mem_of_getElem? (i := 0) rfl)
theorem cd_65_1 : mt_cd 65 1 = some (.getfield 28) := mt_cd_of (q := (1, .getfield 28, 3)) mq_65 ci_65 (List.mem_of_getElem? (i := 1) rfl)
theorem cd_65_4 : mt_cd 65 4 = some (.ifCond .lt 74) := mt_cd_of (q := (4, .ifCond .lt 74, 3)) mq_65 ci_65 (List.mem_of_getElem? (i := 2) rfl)
theorem cd_65_7 : mt_cd 65 7 = some (.aload_n 0) := mt_cd_of (q := (7, .aload_n 0, 1)) mq_65 ci_65 (List.mem_of_getElem? (i := 3) rfl)
theorem cd_65_8 : mt_cd 65 8 = some (.getfield 28) := mt_cd_of (q := (8, .getfield 28, 3)) mq_65 ci_65 (List.mem_of_getElem? (i := 4) rfl)
theorem cd_65_11 : mt_cd 65 11 = some (.bipush 16) := mt_cd_of (q := (11, .bipush 16, 2)) mq_65 ci_65 (List.mem_of_getElem? (i := 5) rfl)
theorem cd_65_13 : mt_cd 65 13 = some (.if_icmp .ge 65) := mt_cd_of (q := (13, .if_icmp .ge 65, 3)) mq_65 ci_65 (List.mem_of_getElem? (i := 6) rfl)
theorem cd_65_16 : mt_cd 65 16 = some (.aload_n 0) := mt_cd_of (q := (16, .aload_n 0, 1)) mq_65 ci_65 (List.mem_of_getElem? (i := 7) rfl)
theorem cd_65_17 : mt_cd 65 17 = some (.getfield 9) := mt_cd_of (q := (17, .getfield 9, 3)) mq_65 ci_65 (List.mem_of_getElem? (i := 8) rfl)
theorem cd_65_20 : mt_cd 65 20 = some (.aload_n 0) := mt_cd_of (q := (20, .aload_n 0, 1)) mq_65 ci_65 (List.mem_of_getElem? (i := 9) rfl)
theorem cd_65_21 : mt_cd 65 21 = some (.getfield 28) := mt_cd_of (q := (21, .getfield 28, 3)) mq_65 ci_65 (List.mem_of_getElem? (i := 10) rfl)
theorem cd_65_24 : mt_cd 65 24 = some (.iload_n 1) := mt_cd_of (q := (24, .iload_n 1, 1)) mq_65 ci_65 (List.mem_of_getElem? (i := 11) rfl)
theorem cd_65_25 : mt_cd 65 25 = some (.iastore) := mt_cd_of (q := (25, .iastore, 1)) mq_65 ci_65 (List.mem_of_getElem? (i := 12) rfl)
theorem cd_65_26 : mt_cd 65 26 = some (.aload_n 0) := mt_cd_of (q := (26, .aload_n 0, 1)) mq_65 ci_65 (List.mem_of_getElem? (i := 13) rfl)
theorem cd_65_27 : mt_cd 65 27 = some (.getfield 15) := mt_cd_of (q := (27, .getfield 15, 3)) mq_65 ci_65 (List.mem_of_getElem? (i := 14) rfl)
theorem cd_65_30 : mt_cd 65 30 = some (.aload_n 0) := mt_cd_of (q := (30, .aload_n 0, 1)) mq_65 ci_65 (List.mem_of_getElem? (i := 15) rfl)
theorem cd_65_31 : mt_cd 65 31 = some (.getfield 28) := mt_cd_of (q := (31, .getfield 28, 3)) mq_65 ci_65 (List.mem_of_getElem? (i := 16) rfl)
theorem cd_65_34 : mt_cd 65 34 = some (.iload_n 2) := mt_cd_of (q := (34, .iload_n 2, 1)) mq_65 ci_65 (List.mem_of_getElem? (i := 17) rfl)
theorem cd_65_35 : mt_cd 65 35 = some (.iastore) := mt_cd_of (q := (35, .iastore, 1)) mq_65 ci_65 (List.mem_of_getElem? (i := 18) rfl)
theorem cd_65_36 : mt_cd 65 36 = some (.aload_n 0) := mt_cd_of (q := (36, .aload_n 0, 1)) mq_65 ci_65 (List.mem_of_getElem? (i := 19) rfl)
theorem cd_65_37 : mt_cd 65 37 = some (.getfield 18) := mt_cd_of (q := (37, .getfield 18, 3)) mq_65 ci_65 (List.mem_of_getElem? (i := 20) rfl)
theorem cd_65_40 : mt_cd 65 40 = some (.aload_n 0) := mt_cd_of (q := (40, .aload_n 0, 1)) mq_65 ci_65 (List.mem_of_getElem? (i := 21) rfl)
theorem cd_65_41 : mt_cd 65 41 = some (.getfield 28) := mt_cd_of (q := (41, .getfield 28, 3)) mq_65 ci_65 (List.mem_of_getElem? (i := 22) rfl)
theorem cd_65_44 : mt_cd 65 44 = some (.iload_n 3) := mt_cd_of (q := (44, .iload_n 3, 1)) mq_65 ci_65 (List.mem_of_getElem? (i := 23) rfl)
theorem cd_65_45 : mt_cd 65 45 = some (.iastore) := mt_cd_of (q := (45, .iastore, 1)) mq_65 ci_65 (List.mem_of_getElem? (i := 24) rfl)
theorem cd_65_46 : mt_cd 65 46 = some (.aload_n 0) := mt_cd_of (q := (46, .aload_n 0, 1)) mq_65 ci_65 (List.mem_of_getElem? (i := 25) rfl)
theorem cd_65_47 : mt_cd 65 47 = some (.getfield 21) := mt_cd_of (q := (47, .getfield 21, 3)) mq_65 ci_65 (List.mem_of_getElem? (i := 26) rfl)
theorem cd_65_50 : mt_cd 65 50 = some (.aload_n 0) := mt_cd_of (q := (50, .aload_n 0, 1)) mq_65 ci_65 (List.mem_of_getElem? (i := 27) rfl)
theorem cd_65_51 : mt_cd 65 51 = some (.getfield 28) := mt_cd_of (q := (51, .getfield 28, 3)) mq_65 ci_65 (List.mem_of_getElem? (i := 28) rfl)
theorem cd_65_54 : mt_cd 65 54 = some (.iload 4) := mt_cd_of (q := (54, .iload 4, 2)) mq_65 ci_65 (List.mem_of_getElem? (i := 29) rfl)
theorem cd_65_56 : mt_cd 65 56 = some (.iastore) := mt_cd_of (q := (56, .iastore, 1)) mq_65 ci_65 (List.mem_of_getElem? (i := 30) rfl)
theorem cd_65_57 : mt_cd 65 57 = some (.aload_n 0) := mt_cd_of (q := (57, .aload_n 0, 1)) mq_65 ci_65 (List.mem_of_getElem? (i := 31) rfl)
theorem cd_65_58 : mt_cd 65 58 = some (.getfield 24) := mt_cd_of (q := (58, .getfield 24, 3)) mq_65 ci_65 (List.mem_of_getElem? (i := 32) rfl)
theorem cd_65_61 : mt_cd 65 61 = some (.aload_n 0) := mt_cd_of (q := (61, .aload_n 0, 1)) mq_65 ci_65 (List.mem_of_getElem? (i := 33) rfl)
theorem cd_65_62 : mt_cd 65 62 = some (.getfield 28) := mt_cd_of (q := (62, .getfield 28, 3)) mq_65 ci_65 (List.mem_of_getElem? (i := 34) rfl)
theorem cd_65_65 : mt_cd 65 65 = some (.lload 5) := mt_cd_of (q := (65, .lload 5, 2)) mq_65 ci_65 (List.mem_of_getElem? (i := 35) rfl)
theorem cd_65_67 : mt_cd 65 67 = some (.lastore) := mt_cd_of (q := (67, .lastore, 1)) mq_65 ci_65 (List.mem_of_getElem? (i := 36) rfl)
theorem cd_65_68 : mt_cd 65 68 = some (.aload_n 0) := mt_cd_of (q := (68, .aload_n 0, 1)) mq_65 ci_65 (List.mem_of_getElem? (i := 37) rfl)
theorem cd_65_69 : mt_cd 65 69 = some (.dup) := mt_cd_of (q := (69, .dup, 1)) mq_65 ci_65 (List.mem_of_getElem? (i := 38) rfl)
theorem cd_65_70 : mt_cd 65 70 = some (.getfield 28) := mt_cd_of (q := (70, .getfield 28, 3)) mq_65 ci_65 (List.mem_of_getElem? (i := 39) rfl)
theorem cd_65_73 : mt_cd 65 73 = some (.iconst 1) := mt_cd_of (q := (73, .iconst 1, 1)) mq_65 ci_65 (List.mem_of_getElem? (i := 40) rfl)
theorem cd_65_74 : mt_cd 65 74 = some (.iadd) := mt_cd_of (q := (74, .iadd, 1)) mq_65 ci_65 (List.mem_of_getElem? (i := 41) rfl)
theorem cd_65_75 : mt_cd 65 75 = some (.putfield 28) := mt_cd_of (q := (75, .putfield 28, 3)) mq_65 ci_65 (List.mem_of_getElem? (i := 42) rfl)
theorem cd_65_78 : mt_cd 65 78 = some (.aload_n 0) := mt_cd_of (q := (78, .aload_n 0, 1)) mq_65 ci_65 (List.mem_of_getElem? (i := 43) rfl)
theorem cd_65_79 : mt_cd 65 79 = some (.getfield 28) := mt_cd_of (q := (79, .getfield 28, 3)) mq_65 ci_65 (List.mem_of_getElem? (i := 44) rfl)
theorem cd_65_82 : mt_cd 65 82 = some (.ireturn) := mt_cd_of (q := (82, .ireturn, 1)) mq_65 ci_65 (List.mem_of_getElem? (i := 45) rfl)
theorem b_65_0 {d : Nat} {Q : (Option Value ⊕ Nat) → mi_H → Prop} (n sl : Nat) (f : Nat → mi_C) {l1 : Nat} {l2 : Int32} {l3 : Int32} {l4 : Int32} {l5 : Int32} {l6 : Int64} {fs7 : List Value} {x10 : Int32} (h8 : f l1 = .inr (6, fs7)) (h9 : l1 < n) (h11 : fs7[5]? = some (.int x10)) (h12 : x10 < (0 : Int32) → mi_W d 65 78 [some (.ref l1), some (.int l2), some (.int l3), some (.int l4), some (.int l5), some (.long l6), none] [] (n, sl, f) Q) (h13 : ¬ (x10 < (0 : Int32)) → mi_W d 65 7 [some (.ref l1), some (.int l2), some (.int l3), some (.int l4), some (.int l5), some (.long l6), none] [] (n, sl, f) Q) : mi_W d 65 0 [some (.ref l1), some (.int l2), some (.int l3), some (.int l4), some (.int l5), some (.long l6), none] [] (n, sl, f) Q := by
  refine w_aload_n cd_65_0 rfl ?_
  refine w_getfield cd_65_1 (show mt_f 6 28 = some (6, 5) by decide +kernel) h8 h9 h11 ?_
  exact w_iflt cd_65_4 (by decide) h12 h13
theorem b_65_7 {d : Nat} {Q : (Option Value ⊕ Nat) → mi_H → Prop} (n sl : Nat) (f : Nat → mi_C) {l1 : Nat} {l2 : Int32} {l3 : Int32} {l4 : Int32} {l5 : Int32} {l6 : Int64} {fs7 : List Value} {x10 : Int32} (h8 : f l1 = .inr (6, fs7)) (h9 : l1 < n) (h11 : fs7[5]? = some (.int x10)) (h12 : 16 ≤ x10 → mi_W d 65 78 [some (.ref l1), some (.int l2), some (.int l3), some (.int l4), some (.int l5), some (.long l6), none] [] (n, sl, f) Q) (h13 : ¬ (16 ≤ x10) → mi_W d 65 16 [some (.ref l1), some (.int l2), some (.int l3), some (.int l4), some (.int l5), some (.long l6), none] [] (n, sl, f) Q) : mi_W d 65 7 [some (.ref l1), some (.int l2), some (.int l3), some (.int l4), some (.int l5), some (.long l6), none] [] (n, sl, f) Q := by
  refine w_aload_n cd_65_7 rfl ?_
  refine w_getfield cd_65_8 (show mt_f 6 28 = some (6, 5) by decide +kernel) h8 h9 h11 ?_
  refine w_bipush (v := 16) cd_65_11 (by decide) ?_
  exact w_if_icmpge cd_65_13 (by decide) h12 h13
theorem b_65_16 {d : Nat} {Q : (Option Value ⊕ Nat) → mi_H → Prop} (n sl : Nat) (f : Nat → mi_C) {l1 : Nat} {l2 : Int32} {l3 : Int32} {l4 : Int32} {l5 : Int32} {l6 : Int64} {fs7 : List Value} {x10 : Nat} {fs12 : List Value} {x15 : Int32} (m17 i17 : Nat) (g17 : Nat → Int32) {fs21 : List Value} {x24 : Nat} {fs26 : List Value} {x29 : Int32} (m31 i31 : Nat) (g31 : Nat → Int32) {fs35 : List Value} {x38 : Nat} {fs40 : List Value} {x43 : Int32} (m45 i45 : Nat) (g45 : Nat → Int32) {fs49 : List Value} {x52 : Nat} {fs54 : List Value} {x57 : Int32} (m59 i59 : Nat) (g59 : Nat → Int32) {fs63 : List Value} {x66 : Nat} {fs68 : List Value} {x71 : Int32} (m73 i73 : Nat) (g73 : Nat → Int64) {fs77 : List Value} {x80 : Int32} {fs82 : List Value} (h8 : f l1 = .inr (6, fs7)) (h9 : l1 < n) (h11 : fs7[0]? = some (.ref x10)) (h13 : f l1 = .inr (6, fs12)) (h14 : l1 < n) (h16 : fs12[5]? = some (.int x15)) (h18 : f x10 = .inl (0, m17, .inl g17)) (h19 : x10 < n) (h20 : mi_ix x15 m17 i17) (h22 : (va_up f x10 (.inl (0, m17, .inl (upd g17 i17 l2)))) l1 = .inr (6, fs21)) (h23 : l1 < n) (h25 : fs21[1]? = some (.ref x24)) (h27 : (va_up f x10 (.inl (0, m17, .inl (upd g17 i17 l2)))) l1 = .inr (6, fs26)) (h28 : l1 < n) (h30 : fs26[5]? = some (.int x29)) (h32 : (va_up f x10 (.inl (0, m17, .inl (upd g17 i17 l2)))) x24 = .inl (0, m31, .inl g31)) (h33 : x24 < n) (h34 : mi_ix x29 m31 i31) (h36 : (va_up (va_up f x10 (.inl (0, m17, .inl (upd g17 i17 l2)))) x24 (.inl (0, m31, .inl (upd g31 i31 l3)))) l1 = .inr (6, fs35)) (h37 : l1 < n) (h39 : fs35[2]? = some (.ref x38)) (h41 : (va_up (va_up f x10 (.inl (0, m17, .inl (upd g17 i17 l2)))) x24 (.inl (0, m31, .inl (upd g31 i31 l3)))) l1 = .inr (6, fs40)) (h42 : l1 < n) (h44 : fs40[5]? = some (.int x43)) (h46 : (va_up (va_up f x10 (.inl (0, m17, .inl (upd g17 i17 l2)))) x24 (.inl (0, m31, .inl (upd g31 i31 l3)))) x38 = .inl (0, m45, .inl g45)) (h47 : x38 < n) (h48 : mi_ix x43 m45 i45) (h50 : (va_up (va_up (va_up f x10 (.inl (0, m17, .inl (upd g17 i17 l2)))) x24 (.inl (0, m31, .inl (upd g31 i31 l3)))) x38 (.inl (0, m45, .inl (upd g45 i45 l4)))) l1 = .inr (6, fs49)) (h51 : l1 < n) (h53 : fs49[3]? = some (.ref x52)) (h55 : (va_up (va_up (va_up f x10 (.inl (0, m17, .inl (upd g17 i17 l2)))) x24 (.inl (0, m31, .inl (upd g31 i31 l3)))) x38 (.inl (0, m45, .inl (upd g45 i45 l4)))) l1 = .inr (6, fs54)) (h56 : l1 < n) (h58 : fs54[5]? = some (.int x57)) (h60 : (va_up (va_up (va_up f x10 (.inl (0, m17, .inl (upd g17 i17 l2)))) x24 (.inl (0, m31, .inl (upd g31 i31 l3)))) x38 (.inl (0, m45, .inl (upd g45 i45 l4)))) x52 = .inl (0, m59, .inl g59)) (h61 : x52 < n) (h62 : mi_ix x57 m59 i59) (h64 : (va_up (va_up (va_up (va_up f x10 (.inl (0, m17, .inl (upd g17 i17 l2)))) x24 (.inl (0, m31, .inl (upd g31 i31 l3)))) x38 (.inl (0, m45, .inl (upd g45 i45 l4)))) x52 (.inl (0, m59, .inl (upd g59 i59 l5)))) l1 = .inr (6, fs63)) (h65 : l1 < n) (h67 : fs63[4]? = some (.ref x66)) (h69 : (va_up (va_up (va_up (va_up f x10 (.inl (0, m17, .inl (upd g17 i17 l2)))) x24 (.inl (0, m31, .inl (upd g31 i31 l3)))) x38 (.inl (0, m45, .inl (upd g45 i45 l4)))) x52 (.inl (0, m59, .inl (upd g59 i59 l5)))) l1 = .inr (6, fs68)) (h70 : l1 < n) (h72 : fs68[5]? = some (.int x71)) (h74 : (va_up (va_up (va_up (va_up f x10 (.inl (0, m17, .inl (upd g17 i17 l2)))) x24 (.inl (0, m31, .inl (upd g31 i31 l3)))) x38 (.inl (0, m45, .inl (upd g45 i45 l4)))) x52 (.inl (0, m59, .inl (upd g59 i59 l5)))) x66 = .inl (3, m73, .inr (.inl g73))) (h75 : x66 < n) (h76 : mi_ix x71 m73 i73) (h78 : (va_up (va_up (va_up (va_up (va_up f x10 (.inl (0, m17, .inl (upd g17 i17 l2)))) x24 (.inl (0, m31, .inl (upd g31 i31 l3)))) x38 (.inl (0, m45, .inl (upd g45 i45 l4)))) x52 (.inl (0, m59, .inl (upd g59 i59 l5)))) x66 (.inl (3, m73, .inr (.inl (vp_updL g73 i73 l6))))) l1 = .inr (6, fs77)) (h79 : l1 < n) (h81 : fs77[5]? = some (.int x80)) (h83 : (va_up (va_up (va_up (va_up (va_up f x10 (.inl (0, m17, .inl (upd g17 i17 l2)))) x24 (.inl (0, m31, .inl (upd g31 i31 l3)))) x38 (.inl (0, m45, .inl (upd g45 i45 l4)))) x52 (.inl (0, m59, .inl (upd g59 i59 l5)))) x66 (.inl (3, m73, .inr (.inl (vp_updL g73 i73 l6))))) l1 = .inr (6, fs82)) (h84 : l1 < n) (h85 : 5 < fs82.length) (h86 : mi_W d 65 78 [some (.ref l1), some (.int l2), some (.int l3), some (.int l4), some (.int l5), some (.long l6), none] [] (n, sl, (va_up (va_up (va_up (va_up (va_up (va_up f x10 (.inl (0, m17, .inl (upd g17 i17 l2)))) x24 (.inl (0, m31, .inl (upd g31 i31 l3)))) x38 (.inl (0, m45, .inl (upd g45 i45 l4)))) x52 (.inl (0, m59, .inl (upd g59 i59 l5)))) x66 (.inl (3, m73, .inr (.inl (vp_updL g73 i73 l6))))) l1 (.inr (6, fs82.set 5 (.int (x80 + 1)))))) Q) : mi_W d 65 16 [some (.ref l1), some (.int l2), some (.int l3), some (.int l4), some (.int l5), some (.long l6), none] [] (n, sl, f) Q := by
  refine w_aload_n cd_65_16 rfl ?_
  refine w_getfield cd_65_17 (show mt_f 6 9 = some (6, 0) by decide +kernel) h8 h9 h11 ?_
  refine w_aload_n cd_65_20 rfl ?_
  refine w_getfield cd_65_21 (show mt_f 6 28 = some (6, 5) by decide +kernel) h13 h14 h16 ?_
  refine w_iload_n cd_65_24 rfl ?_
  refine w_iastore cd_65_25 h18 h19 h20 ?_
  refine w_aload_n cd_65_26 rfl ?_
  refine w_getfield cd_65_27 (show mt_f 6 15 = some (6, 1) by decide +kernel) h22 h23 h25 ?_
  refine w_aload_n cd_65_30 rfl ?_
  refine w_getfield cd_65_31 (show mt_f 6 28 = some (6, 5) by decide +kernel) h27 h28 h30 ?_
  refine w_iload_n cd_65_34 rfl ?_
  refine w_iastore cd_65_35 h32 h33 h34 ?_
  refine w_aload_n cd_65_36 rfl ?_
  refine w_getfield cd_65_37 (show mt_f 6 18 = some (6, 2) by decide +kernel) h36 h37 h39 ?_
  refine w_aload_n cd_65_40 rfl ?_
  refine w_getfield cd_65_41 (show mt_f 6 28 = some (6, 5) by decide +kernel) h41 h42 h44 ?_
  refine w_iload_n cd_65_44 rfl ?_
  refine w_iastore cd_65_45 h46 h47 h48 ?_
  refine w_aload_n cd_65_46 rfl ?_
  refine w_getfield cd_65_47 (show mt_f 6 21 = some (6, 3) by decide +kernel) h50 h51 h53 ?_
  refine w_aload_n cd_65_50 rfl ?_
  refine w_getfield cd_65_51 (show mt_f 6 28 = some (6, 5) by decide +kernel) h55 h56 h58 ?_
  refine w_iload cd_65_54 rfl ?_
  refine w_iastore cd_65_56 h60 h61 h62 ?_
  refine w_aload_n cd_65_57 rfl ?_
  refine w_getfield cd_65_58 (show mt_f 6 24 = some (6, 4) by decide +kernel) h64 h65 h67 ?_
  refine w_aload_n cd_65_61 rfl ?_
  refine w_getfield cd_65_62 (show mt_f 6 28 = some (6, 5) by decide +kernel) h69 h70 h72 ?_
  refine w_lload cd_65_65 rfl ?_
  refine w_lastore cd_65_67 h74 h75 h76 ?_
  refine w_aload_n cd_65_68 rfl ?_
  refine w_dup_r cd_65_69 ?_
  refine w_getfield cd_65_70 (show mt_f 6 28 = some (6, 5) by decide +kernel) h78 h79 h81 ?_
  refine w_iconst (v := 1) cd_65_73 (by decide) ?_
  refine w_iadd cd_65_74 ?_
  refine w_putfield (w := .int (x80 + 1)) cd_65_75 (show mt_f 6 28 = some (6, 5) by decide +kernel) h83 h84 ⟨h85, rfl, Or.inl (by decide)⟩ ?_
  exact h86
theorem b_65_78 {d : Nat} {Q : (Option Value ⊕ Nat) → mi_H → Prop} (n sl : Nat) (f : Nat → mi_C) {l1 : Nat} {l2 : Int32} {l3 : Int32} {l4 : Int32} {l5 : Int32} {l6 : Int64} {fs7 : List Value} {x10 : Int32} (h8 : f l1 = .inr (6, fs7)) (h9 : l1 < n) (h11 : fs7[5]? = some (.int x10)) (h12 : Q (.inl (some (.int x10))) (n, sl, f)) : mi_W d 65 78 [some (.ref l1), some (.int l2), some (.int l3), some (.int l4), some (.int l5), some (.long l6), none] [] (n, sl, f) Q := by
  refine w_aload_n cd_65_78 rfl ?_
  refine w_getfield cd_65_79 (show mt_f 6 28 = some (6, 5) by decide +kernel) h8 h9 h11 ?_
  exact w_ireturn_i cd_65_82 (by decide +kernel) h12
/-! MarloweHost.step(II)J -/
set_option maxRecDepth 100000 in
theorem mq_132 : mt_q 132 = my_132 := rfl
set_option maxRecDepth 100000 in
theorem ci_132 : mt_inc 0 my_132.cd = true := by decide +kernel
theorem cd_132_0 : mt_cd 132 0 = some (.iload_n 2) := mt_cd_of (q := (0, .iload_n 2, 1)) mq_132 ci_132 (List.mem_of_getElem? (i := 0) rfl)
theorem cd_132_1 : mt_cd 132 1 = some (.ifCond .lt 8) := mt_cd_of (q := (1, .ifCond .lt 8, 3)) mq_132 ci_132 (List.mem_of_getElem? (i := 1) rfl)
theorem cd_132_4 : mt_cd 132 4 = some (.iload_n 2) := mt_cd_of (q := (4, .iload_n 2, 1)) mq_132 ci_132 (List.mem_of_getElem? (i := 2) rfl)
theorem cd_132_5 : mt_cd 132 5 = some (.iconst 2) := mt_cd_of (q := (5, .iconst 2, 1)) mq_132 ci_132 (List.mem_of_getElem? (i := 3) rfl)
theorem cd_132_6 : mt_cd 132 6 = some (.if_icmp .le 13) := mt_cd_of (q := (6, .if_icmp .le 13, 3)) mq_132 ci_132 (List.mem_of_getElem? (i := 4) rfl)
theorem cd_132_9 : mt_cd 132 9 = some (.new 123) := mt_cd_of (q := (9, .new 123, 3)) mq_132 ci_132 (List.mem_of_getElem? (i := 5) rfl)
theorem cd_132_12 : mt_cd 132 12 = some (.dup) := mt_cd_of (q := (12, .dup, 1)) mq_132 ci_132 (List.mem_of_getElem? (i := 6) rfl)
theorem cd_132_13 : mt_cd 132 13 = some (.ldc 210) := mt_cd_of (q := (13, .ldc 210, 2)) mq_132 ci_132 (List.mem_of_getElem? (i := 7) rfl)
theorem cd_132_15 : mt_cd 132 15 = some (.invokespecial 127) := mt_cd_of (q := (15, .invokespecial 127, 3)) mq_132 ci_132 (List.mem_of_getElem? (i := 8) rfl)
theorem cd_132_18 : mt_cd 132 18 = some (.athrow) := mt_cd_of (q := (18, .athrow, 1)) mq_132 ci_132 (List.mem_of_getElem? (i := 9) rfl)
theorem cd_132_19 : mt_cd 132 19 = some (.iload_n 1) := mt_cd_of (q := (19, .iload_n 1, 1)) mq_132 ci_132 (List.mem_of_getElem? (i := 10) rfl)
theorem cd_132_20 : mt_cd 132 20 = some (.ifCond .lt 14) := mt_cd_of (q := (20, .ifCond .lt 14, 3)) mq_132 ci_132 (List.mem_of_getElem? (i := 11) rfl)
theorem cd_132_23 : mt_cd 132 23 = some (.iload_n 1) := mt_cd_of (q := (23, .iload_n 1, 1)) mq_132 ci_132 (List.mem_of_getElem? (i := 12) rfl)
theorem cd_132_24 : mt_cd 132 24 = some (.aload_n 0) := mt_cd_of (q := (24, .aload_n 0, 1)) mq_132 ci_132 (List.mem_of_getElem? (i := 13) rfl)
theorem cd_132_25 : mt_cd 132 25 = some (.getfield 60) := mt_cd_of (q := (25, .getfield 60, 3)) mq_132 ci_132 (List.mem_of_getElem? (i := 14) rfl)
theorem cd_132_28 : mt_cd 132 28 = some (.getfield 212) := mt_cd_of (q := (28, .getfield 212, 3)) mq_132 ci_132 (List.mem_of_getElem? (i := 15) rfl)
theorem cd_132_31 : mt_cd 132 31 = some (.if_icmp .lt 13) := mt_cd_of (q := (31, .if_icmp .lt 13, 3)) mq_132 ci_132 (List.mem_of_getElem? (i := 16) rfl)
theorem cd_132_34 : mt_cd 132 34 = some (.new 78) := mt_cd_of (q := (34, .new 78, 3)) mq_132 ci_132 (List.mem_of_getElem? (i := 17) rfl)
theorem cd_132_37 : mt_cd 132 37 = some (.dup) := mt_cd_of (q := (37, .dup, 1)) mq_132 ci_132 (List.mem_of_getElem? (i := 18) rfl)
theorem cd_132_38 : mt_cd 132 38 = some (.ldc 215) := mt_cd_of (q := (38, .ldc 215, 2)) mq_132 ci_132 (List.mem_of_getElem? (i := 19) rfl)
theorem cd_132_40 : mt_cd 132 40 = some (.invokespecial 82) := mt_cd_of (q := (40, .invokespecial 82, 3)) mq_132 ci_132 (List.mem_of_getElem? (i := 20) rfl)
theorem cd_132_43 : mt_cd 132 43 = some (.athrow) := mt_cd_of (q := (43, .athrow, 1)) mq_132 ci_132 (List.mem_of_getElem? (i := 21) rfl)
theorem cd_132_44 : mt_cd 132 44 = some (.iload_n 2) := mt_cd_of (q := (44, .iload_n 2, 1)) mq_132 ci_132 (List.mem_of_getElem? (i := 22) rfl)
theorem cd_132_45 : mt_cd 132 45 = some (.lookupswitch 48 #[(0, 27), (1, 38)]) := mt_cd_of (q := (45, .lookupswitch 48 #[(0, 27), (1, 38)], 27)) mq_132 ci_132 (List.mem_of_getElem? (i := 23) rfl)
theorem cd_132_72 : mt_cd 132 72 = some (.aload_n 0) := mt_cd_of (q := (72, .aload_n 0, 1)) mq_132 ci_132 (List.mem_of_getElem? (i := 24) rfl)
theorem cd_132_73 : mt_cd 132 73 = some (.getfield 60) := mt_cd_of (q := (73, .getfield 60, 3)) mq_132 ci_132 (List.mem_of_getElem? (i := 25) rfl)
theorem cd_132_76 : mt_cd 132 76 = some (.getfield 217) := mt_cd_of (q := (76, .getfield 217, 3)) mq_132 ci_132 (List.mem_of_getElem? (i := 26) rfl)
theorem cd_132_79 : mt_cd 132 79 = some (.iload_n 1) := mt_cd_of (q := (79, .iload_n 1, 1)) mq_132 ci_132 (List.mem_of_getElem? (i := 27) rfl)
theorem cd_132_80 : mt_cd 132 80 = some (.iaload) := mt_cd_of (q := (80, .iaload, 1)) mq_132 ci_132 (List.mem_of_getElem? (i := 28) rfl)
theorem cd_132_81 : mt_cd 132 81 = some (.i2l) := mt_cd_of (q := (81, .i2l, 1)) mq_132 ci_132 (List.mem_of_getElem? (i := 29) rfl)
theorem cd_132_82 : mt_cd 132 82 = some (.lreturn) := mt_cd_of (q := (82, .lreturn, 1)) mq_132 ci_132 (List.mem_of_getElem? (i := 30) rfl)
theorem cd_132_83 : mt_cd 132 83 = some (.aload_n 0) := mt_cd_of (q := (83, .aload_n 0, 1)) mq_132 ci_132 (List.mem_of_getElem? (i := 31) rfl)
theorem cd_132_84 : mt_cd 132 84 = some (.getfield 60) := mt_cd_of (q := (84, .getfield 60, 3)) mq_132 ci_132 (List.mem_of_getElem? (i := 32) rfl)
theorem cd_132_87 : mt_cd 132 87 = some (.getfield 220) := mt_cd_of (q := (87, .getfield 220, 3)) mq_132 ci_132 (List.mem_of_getElem? (i := 33) rfl)
theorem cd_132_90 : mt_cd 132 90 = some (.iload_n 1) := mt_cd_of (q := (90, .iload_n 1, 1)) mq_132 ci_132 (List.mem_of_getElem? (i := 34) rfl)
theorem cd_132_91 : mt_cd 132 91 = some (.laload) := mt_cd_of (q := (91, .laload, 1)) mq_132 ci_132 (List.mem_of_getElem? (i := 35) rfl)
theorem cd_132_92 : mt_cd 132 92 = some (.lreturn) := mt_cd_of (q := (92, .lreturn, 1)) mq_132 ci_132 (List.mem_of_getElem? (i := 36) rfl)
theorem cd_132_93 : mt_cd 132 93 = some (.aload_n 0) := mt_cd_of (q := (93, .aload_n 0, 1)) mq_132 ci_132 (List.mem_of_getElem? (i := 37) rfl)
theorem cd_132_94 : mt_cd 132 94 = some (.getfield 60) := mt_cd_of (q := (94, .getfield 60, 3)) mq_132 ci_132 (List.mem_of_getElem? (i := 38) rfl)
theorem cd_132_97 : mt_cd 132 97 = some (.getfield 223) := mt_cd_of (q := (97, .getfield 223, 3)) mq_132 ci_132 (List.mem_of_getElem? (i := 39) rfl)
theorem cd_132_100 : mt_cd 132 100 = some (.iload_n 1) := mt_cd_of (q := (100, .iload_n 1, 1)) mq_132 ci_132 (List.mem_of_getElem? (i := 40) rfl)
theorem cd_132_101 : mt_cd 132 101 = some (.iaload) := mt_cd_of (q := (101, .iaload, 1)) mq_132 ci_132 (List.mem_of_getElem? (i := 41) rfl)
theorem cd_132_102 : mt_cd 132 102 = some (.i2l) := mt_cd_of (q := (102, .i2l, 1)) mq_132 ci_132 (List.mem_of_getElem? (i := 42) rfl)
theorem cd_132_103 : mt_cd 132 103 = some (.lreturn) := mt_cd_of (q := (103, .lreturn, 1)) mq_132 ci_132 (List.mem_of_getElem? (i := 43) rfl)
theorem b_132_0 {d : Nat} {Q : (Option Value ⊕ Nat) → mi_H → Prop} (n sl : Nat) (f : Nat → mi_C) {l1 : Nat} {l2 : Int32} {l3 : Int32} (h4 : l3 < (0 : Int32) → mi_W d 132 9 [some (.ref l1), some (.int l2), some (.int l3)] [] (n, sl, f) Q) (h5 : ¬ (l3 < (0 : Int32)) → mi_W d 132 4 [some (.ref l1), some (.int l2), some (.int l3)] [] (n, sl, f) Q) : mi_W d 132 0 [some (.ref l1), some (.int l2), some (.int l3)] [] (n, sl, f) Q := by
  refine w_iload_n cd_132_0 rfl ?_
  exact w_iflt cd_132_1 (by decide) h4 h5
theorem b_132_4 {d : Nat} {Q : (Option Value ⊕ Nat) → mi_H → Prop} (n sl : Nat) (f : Nat → mi_C) {l1 : Nat} {l2 : Int32} {l3 : Int32} (h4 : l3 ≤ 2 → mi_W d 132 19 [some (.ref l1), some (.int l2), some (.int l3)] [] (n, sl, f) Q) (h5 : ¬ (l3 ≤ 2) → mi_W d 132 9 [some (.ref l1), some (.int l2), some (.int l3)] [] (n, sl, f) Q) : mi_W d 132 4 [some (.ref l1), some (.int l2), some (.int l3)] [] (n, sl, f) Q := by
  refine w_iload_n cd_132_4 rfl ?_
  refine w_iconst (v := 2) cd_132_5 (by decide) ?_
  exact w_if_icmple cd_132_6 (by decide) h4 h5
theorem b_132_9 {d : Nat} {Q : (Option Value ⊕ Nat) → mi_H → Prop} (n sl : Nat) (f : Nat → mi_C) {l1 : Nat} {l2 : Int32} {l3 : Int32} {h' : mi_H} (h4 : mi_t 132 9 (.new 123) [] (n, sl, f) = some h') (h5 : Q (.inr n) h') : mi_W d 132 9 [some (.ref l1), some (.int l2), some (.int l3)] [] (n, sl, f) Q := by
  exact w_throw cd_132_9 (show mt_c 0 123 = some 15 by decide +kernel) (by decide) h4 h5
theorem b_132_19 {d : Nat} {Q : (Option Value ⊕ Nat) → mi_H → Prop} (n sl : Nat) (f : Nat → mi_C) {l1 : Nat} {l2 : Int32} {l3 : Int32} (h4 : l2 < (0 : Int32) → mi_W d 132 34 [some (.ref l1), some (.int l2), some (.int l3)] [] (n, sl, f) Q) (h5 : ¬ (l2 < (0 : Int32)) → mi_W d 132 23 [some (.ref l1), some (.int l2), some (.int l3)] [] (n, sl, f) Q) : mi_W d 132 19 [some (.ref l1), some (.int l2), some (.int l3)] [] (n, sl, f) Q := by
  refine w_iload_n cd_132_19 rfl ?_
  exact w_iflt cd_132_20 (by decide) h4 h5
theorem b_132_23 {d : Nat} {Q : (Option Value ⊕ Nat) → mi_H → Prop} (n sl : Nat) (f : Nat → mi_C) {l1 : Nat} {l2 : Int32} {l3 : Int32} {fs4 : List Value} {x7 : Nat} {fs9 : List Value} {x12 : Int32} (h5 : f l1 = .inr (0, fs4)) (h6 : l1 < n) (h8 : fs4[6]? = some (.ref x7)) (h10 : f x7 = .inr (11, fs9)) (h11 : x7 < n) (h13 : fs9[11]? = some (.int x12)) (h14 : l2 < x12 → mi_W d 132 44 [some (.ref l1), some (.int l2), some (.int l3)] [] (n, sl, f) Q) (h15 : ¬ (l2 < x12) → mi_W d 132 34 [some (.ref l1), some (.int l2), some (.int l3)] [] (n, sl, f) Q) : mi_W d 132 23 [some (.ref l1), some (.int l2), some (.int l3)] [] (n, sl, f) Q := by
  refine w_iload_n cd_132_23 rfl ?_
  refine w_aload_n cd_132_24 rfl ?_
  refine w_getfield cd_132_25 (show mt_f 0 60 = some (0, 6) by decide +kernel) h5 h6 h8 ?_
  refine w_getfield cd_132_28 (show mt_f 0 212 = some (11, 11) by decide +kernel) h10 h11 h13 ?_
  exact w_if_icmplt cd_132_31 (by decide) h14 h15
theorem b_132_34 {d : Nat} {Q : (Option Value ⊕ Nat) → mi_H → Prop} (n sl : Nat) (f : Nat → mi_C) {l1 : Nat} {l2 : Int32} {l3 : Int32} {h' : mi_H} (h4 : mi_t 132 34 (.new 78) [] (n, sl, f) = some h') (h5 : Q (.inr n) h') : mi_W d 132 34 [some (.ref l1), some (.int l2), some (.int l3)] [] (n, sl, f) Q := by
  exact w_throw cd_132_34 (show mt_c 0 78 = some 14 by decide +kernel) (by decide) h4 h5
theorem b_132_44 {d : Nat} {Q : (Option Value ⊕ Nat) → mi_H → Prop} (n sl : Nat) (f : Nat → mi_C) {l1 : Nat} {l2 : Int32} {l3 : Int32} {t4 : Nat} (h5 : mi_j 45 (Op.lookupswitch.offset (#[(0, 27), (1, 38)] : Array (Int × Int)).toList 48 (l3 : Int32).toInt) = some t4) (h6 : mi_W d 132 t4 [some (.ref l1), some (.int l2), some (.int l3)] [] (n, sl, f) Q) : mi_W d 132 44 [some (.ref l1), some (.int l2), some (.int l3)] [] (n, sl, f) Q := by
  refine w_iload_n cd_132_44 rfl ?_
  exact w_lookupswitch cd_132_45 (by decide) h5 h6
theorem b_132_72 {d : Nat} {Q : (Option Value ⊕ Nat) → mi_H → Prop} (n sl : Nat) (f : Nat → mi_C) {l1 : Nat} {l2 : Int32} {l3 : Int32} {fs4 : List Value} {x7 : Nat} {fs9 : List Value} {x12 : Nat} (m14 i14 : Nat) (g14 : Nat → Int32) (h5 : f l1 = .inr (0, fs4)) (h6 : l1 < n) (h8 : fs4[6]? = some (.ref x7)) (h10 : f x7 = .inr (11, fs9)) (h11 : x7 < n) (h13 : fs9[7]? = some (.ref x12)) (h15 : f x12 = .inl (0, m14, .inl g14)) (h16 : x12 < n ∨ x12 = mi_SC) (h17 : mi_ix l2 m14 i14) (h18 : Q (.inl (some (.long (((g14 i14) : Int32).toInt64)))) (n, sl, f)) : mi_W d 132 72 [some (.ref l1), some (.int l2), some (.int l3)] [] (n, sl, f) Q := by
  refine w_aload_n cd_132_72 rfl ?_
  refine w_getfield cd_132_73 (show mt_f 0 60 = some (0, 6) by decide +kernel) h5 h6 h8 ?_
  refine w_getfield cd_132_76 (show mt_f 0 217 = some (11, 7) by decide +kernel) h10 h11 h13 ?_
  refine w_iload_n cd_132_79 rfl ?_
  refine w_iaload cd_132_80 h15 h16 h17 ?_
  refine w_i2l cd_132_81 ?_
  exact w_lreturn cd_132_82 (by decide +kernel) h18
theorem b_132_83 {d : Nat} {Q : (Option Value ⊕ Nat) → mi_H → Prop} (n sl : Nat) (f : Nat → mi_C) {l1 : Nat} {l2 : Int32} {l3 : Int32} {fs4 : List Value} {x7 : Nat} {fs9 : List Value} {x12 : Nat} (m14 i14 : Nat) (g14 : Nat → Int64) (h5 : f l1 = .inr (0, fs4)) (h6 : l1 < n) (h8 : fs4[6]? = some (.ref x7)) (h10 : f x7 = .inr (11, fs9)) (h11 : x7 < n) (h13 : fs9[8]? = some (.ref x12)) (h15 : f x12 = .inl (3, m14, .inr (.inl g14))) (h16 : x12 < n) (h17 : mi_ix l2 m14 i14) (h18 : Q (.inl (some (.long (g14 i14)))) (n, sl, f)) : mi_W d 132 83 [some (.ref l1), some (.int l2), some (.int l3)] [] (n, sl, f) Q := by
  refine w_aload_n cd_132_83 rfl ?_
  refine w_getfield cd_132_84 (show mt_f 0 60 = some (0, 6) by decide +kernel) h5 h6 h8 ?_
  refine w_getfield cd_132_87 (show mt_f 0 220 = some (11, 8) by decide +kernel) h10 h11 h13 ?_
  refine w_iload_n cd_132_90 rfl ?_
  refine w_laload cd_132_91 h15 h16 h17 ?_
  exact w_lreturn cd_132_92 (by decide +kernel) h18
theorem b_132_93 {d : Nat} {Q : (Option Value ⊕ Nat) → mi_H → Prop} (n sl : Nat) (f : Nat → mi_C) {l1 : Nat} {l2 : Int32} {l3 : Int32} {fs4 : List Value} {x7 : Nat} {fs9 : List Value} {x12 : Nat} (m14 i14 : Nat) (g14 : Nat → Int32) (h5 : f l1 = .inr (0, fs4)) (h6 : l1 < n) (h8 : fs4[6]? = some (.ref x7)) (h10 : f x7 = .inr (11, fs9)) (h11 : x7 < n) (h13 : fs9[9]? = some (.ref x12)) (h15 : f x12 = .inl (0, m14, .inl g14)) (h16 : x12 < n ∨ x12 = mi_SC) (h17 : mi_ix l2 m14 i14) (h18 : Q (.inl (some (.long (((g14 i14) : Int32).toInt64)))) (n, sl, f)) : mi_W d 132 93 [some (.ref l1), some (.int l2), some (.int l3)] [] (n, sl, f) Q := by
  refine w_aload_n cd_132_93 rfl ?_
  refine w_getfield cd_132_94 (show mt_f 0 60 = some (0, 6) by decide +kernel) h5 h6 h8 ?_
  refine w_getfield cd_132_97 (show mt_f 0 223 = some (11, 9) by decide +kernel) h10 h11 h13 ?_
  refine w_iload_n cd_132_100 rfl ?_
  refine w_iaload cd_132_101 h15 h16 h17 ?_
  refine w_i2l cd_132_102 ?_
  exact w_lreturn cd_132_103 (by decide +kernel) h18
/-! MarloweHostModel.input(IIIIJ)I -/
set_option maxRecDepth 100000 in
theorem mq_188 : mt_q 188 = my_188 := rfl
set_option maxRecDepth 100000 in
theorem ci_188 : mt_inc 0 my_188.cd = true := by decide +kernel
theorem cd_188_0 : mt_cd 188 0 = some (.aload_n 0) := mt_cd_of (q := (0, .aload_n 0, 1)) mq_188 ci_188 (List.mem_of_getElem? (i := 0) rfl)
theorem cd_188_1 : mt_cd 188 1 = some (.getfield 178) := mt_cd_of (q := (1, .getfield 178, 3)) mq_188 ci_188 (List.mem_of_getElem? (i := 1) rfl)
theorem cd_188_4 : mt_cd 188 4 = some (.aload_n 0) := mt_cd_of (q := (4, .aload_n 0, 1)) mq_188 ci_188 (List.mem_of_getElem? (i := 2) rfl)
theorem cd_188_5 : mt_cd 188 5 = some (.getfield 258) := mt_cd_of (q := (5, .getfield 258, 3)) mq_188 ci_188 (List.mem_of_getElem? (i := 3) rfl)
theorem cd_188_8 : mt_cd 188 8 = some (.iload_n 1) := mt_cd_of (q := (8, .iload_n 1, 1)) mq_188 ci_188 (List.mem_of_getElem? (i := 4) rfl)
theorem cd_188_9 : mt_cd 188 9 = some (.iastore) := mt_cd_of (q := (9, .iastore, 1)) mq_188 ci_188 (List.mem_of_getElem? (i := 5) rfl)
theorem cd_188_10 : mt_cd 188 10 = some (.aload_n 0) := mt_cd_of (q := (10, .aload_n 0, 1)) mq_188 ci_188 (List.mem_of_getElem? (i := 6) rfl)
theorem cd_188_11 : mt_cd 188 11 = some (.getfield 181) := mt_cd_of (q := (11, .getfield 181, 3)) mq_188 ci_188 (List.mem_of_getElem? (i := 7) rfl)
theorem cd_188_14 : mt_cd 188 14 = some (.aload_n 0) := mt_cd_of (q := (14, .aload_n 0, 1)) mq_188 ci_188 (List.mem_of_getElem? (i := 8) rfl)
theorem cd_188_15 : mt_cd 188 15 = some (.getfield 258) := mt_cd_of (q := (15, .getfield 258, 3)) mq_188 ci_188 (List.mem_of_getElem? (i := 9) rfl)
theorem cd_188_18 : mt_cd 188 18 = some (.iload_n 2) := mt_cd_of (q := (18, .iload_n 2, 1)) mq_188 ci_188 (List.mem_of_getElem? (i := 10) rfl)
theorem cd_188_19 : mt_cd 188 19 = some (.iastore) := mt_cd_of (q := (19, .iastore, 1)) mq_188 ci_188 (List.mem_of_getElem? (i := 11) rfl)
theorem cd_188_20 : mt_cd 188 20 = some (.aload_n 0) := mt_cd_of (q := (20, .aload_n 0, 1)) mq_188 ci_188 (List.mem_of_getElem? (i := 12) rfl)
theorem cd_188_21 : mt_cd 188 21 = some (.getfield 184) := mt_cd_of (q := (21, .getfield 184, 3)) mq_188 ci_188 (List.mem_of_getElem? (i := 13) rfl)
theorem cd_188_24 : mt_cd 188 24 = some (.aload_n 0) := mt_cd_of (q := (24, .aload_n 0, 1)) mq_188 ci_188 (List.mem_of_getElem? (i := 14) rfl)
theorem cd_188_25 : mt_cd 188 25 = some (.getfield 258) := mt_cd_of (q := (25, .getfield 258, 3)) mq_188 ci_188 (List.mem_of_getElem? (i := 15) rfl)
theorem cd_188_28 : mt_cd 188 28 = some (.iload_n 3) := mt_cd_of (q := (28, .iload_n 3, 1)) mq_188 ci_188 (List.mem_of_getElem? (i := 16) rfl)
theorem cd_188_29 : mt_cd 188 29 = some (.iastore) := mt_cd_of (q := (29, .iastore, 1)) mq_188 ci_188 (List.mem_of_getElem? (i := 17) rfl)
theorem cd_188_30 : mt_cd 188 30 = some (.aload_n 0) := mt_cd_of (q := (30, .aload_n 0, 1)) mq_188 ci_188 (List.mem_of_getElem? (i := 18) rfl)
theorem cd_188_31 : mt_cd 188 31 = some (.getfield 187) := mt_cd_of (q := (31, .getfield 187, 3)) mq_188 ci_188 (List.mem_of_getElem? (i := 19) rfl)
theorem cd_188_34 : mt_cd 188 34 = some (.aload_n 0) := mt_cd_of (q := (34, .aload_n 0, 1)) mq_188 ci_188 (List.mem_of_getElem? (i := 20) rfl)
theorem cd_188_35 : mt_cd 188 35 = some (.getfield 258) := mt_cd_of (q := (35, .getfield 258, 3)) mq_188 ci_188 (List.mem_of_getElem? (i := 21) rfl)
theorem cd_188_38 : mt_cd 188 38 = some (.iload 4) := mt_cd_of (q := (38, .iload 4, 2)) mq_188 ci_188 (List.mem_of_getElem? (i := 22) rfl)
theorem cd_188_40 : mt_cd 188 40 = some (.iastore) := mt_cd_of (q := (40, .iastore, 1)) mq_188 ci_188 (List.mem_of_getElem? (i := 23) rfl)
theorem cd_188_41 : mt_cd 188 41 = some (.aload_n 0) := mt_cd_of (q := (41, .aload_n 0, 1)) mq_188 ci_188 (List.mem_of_getElem? (i := 24) rfl)
theorem cd_188_42 : mt_cd 188 42 = some (.getfield 190) := mt_cd_of (q := (42, .getfield 190, 3)) mq_188 ci_188 (List.mem_of_getElem? (i := 25) rfl)
theorem cd_188_45 : mt_cd 188 45 = some (.aload_n 0) := mt_cd_of (q := (45, .aload_n 0, 1)) mq_188 ci_188 (List.mem_of_getElem? (i := 26) rfl)
theorem cd_188_46 : mt_cd 188 46 = some (.getfield 258) := mt_cd_of (q := (46, .getfield 258, 3)) mq_188 ci_188 (List.mem_of_getElem? (i := 27) rfl)
theorem cd_188_49 : mt_cd 188 49 = some (.lload 5) := mt_cd_of (q := (49, .lload 5, 2)) mq_188 ci_188 (List.mem_of_getElem? (i := 28) rfl)
theorem cd_188_51 : mt_cd 188 51 = some (.lastore) := mt_cd_of (q := (51, .lastore, 1)) mq_188 ci_188 (List.mem_of_getElem? (i := 29) rfl)
theorem cd_188_52 : mt_cd 188 52 = some (.aload_n 0) := mt_cd_of (q := (52, .aload_n 0, 1)) mq_188 ci_188 (List.mem_of_getElem? (i := 30) rfl)
theorem cd_188_53 : mt_cd 188 53 = some (.dup) := mt_cd_of (q := (53, .dup, 1)) mq_188 ci_188 (List.mem_of_getElem? (i := 31) rfl)
theorem cd_188_54 : mt_cd 188 54 = some (.getfield 258) := mt_cd_of (q := (54, .getfield 258, 3)) mq_188 ci_188 (List.mem_of_getElem? (i := 32) rfl)
theorem cd_188_57 : mt_cd 188 57 = some (.iconst 1) := mt_cd_of (q := (57, .iconst 1, 1)) mq_188 ci_188 (List.mem_of_getElem? (i := 33) rfl)
theorem cd_188_58 : mt_cd 188 58 = some (.iadd) := mt_cd_of (q := (58, .iadd, 1)) mq_188 ci_188 (List.mem_of_getElem? (i := 34) rfl)
theorem cd_188_59 : mt_cd 188 59 = some (.dup_x1) := mt_cd_of (q := (59, .dup_x1, 1)) mq_188 ci_188 (List.mem_of_getElem? (i := 35) rfl)
theorem cd_188_60 : mt_cd 188 60 = some (.putfield 258) := mt_cd_of (q := (60, .putfield 258, 3)) mq_188 ci_188 (List.mem_of_getElem? (i := 36) rfl)
theorem cd_188_63 : mt_cd 188 63 = some (.ireturn) := mt_cd_of (q := (63, .ireturn, 1)) mq_188 ci_188 (List.mem_of_getElem? (i := 37) rfl)
theorem b_188_0 {d : Nat} {Q : (Option Value ⊕ Nat) → mi_H → Prop} (n sl : Nat) (f : Nat → mi_C) {l1 : Nat} {l2 : Int32} {l3 : Int32} {l4 : Int32} {l5 : Int32} {l6 : Int64} {fs7 : List Value} {x10 : Nat} {fs12 : List Value} {x15 : Int32} (m17 i17 : Nat) (g17 : Nat → Int32) {fs21 : List Value} {x24 : Nat} {fs26 : List Value} {x29 : Int32} (m31 i31 : Nat) (g31 : Nat → Int32) {fs35 : List Value} {x38 : Nat} {fs40 : List Value} {x43 : Int32} (m45 i45 : Nat) (g45 : Nat → Int32) {fs49 : List Value} {x52 : Nat} {fs54 : List Value} {x57 : Int32} (m59 i59 : Nat) (g59 : Nat → Int32) {fs63 : List Value} {x66 : Nat} {fs68 : List Value} {x71 : Int32} (m73 i73 : Nat) (g73 : Nat → Int64) {fs77 : List Value} {x80 : Int32} {fs82 : List Value} (h8 : f l1 = .inr (12, fs7)) (h9 : l1 < n) (h11 : fs7[60]? = some (.ref x10)) (h13 : f l1 = .inr (12, fs12)) (h14 : l1 < n) (h16 : fs12[59]? = some (.int x15)) (h18 : f x10 = .inl (0, m17, .inl g17)) (h19 : x10 < n) (h20 : mi_ix x15 m17 i17) (h22 : (va_up f x10 (.inl (0, m17, .inl (upd g17 i17 l2)))) l1 = .inr (12, fs21)) (h23 : l1 < n) (h25 : fs21[61]? = some (.ref x24)) (h27 : (va_up f x10 (.inl (0, m17, .inl (upd g17 i17 l2)))) l1 = .inr (12, fs26)) (h28 : l1 < n) (h30 : fs26[59]? = some (.int x29)) (h32 : (va_up f x10 (.inl (0, m17, .inl (upd g17 i17 l2)))) x24 = .inl (0, m31, .inl g31)) (h33 : x24 < n) (h34 : mi_ix x29 m31 i31) (h36 : (va_up (va_up f x10 (.inl (0, m17, .inl (upd g17 i17 l2)))) x24 (.inl (0, m31, .inl (upd g31 i31 l3)))) l1 = .inr (12, fs35)) (h37 : l1 < n) (h39 : fs35[62]? = some (.ref x38)) (h41 : (va_up (va_up f x10 (.inl (0, m17, .inl (upd g17 i17 l2)))) x24 (.inl (0, m31, .inl (upd g31 i31 l3)))) l1 = .inr (12, fs40)) (h42 : l1 < n) (h44 : fs40[59]? = some (.int x43)) (h46 : (va_up (va_up f x10 (.inl (0, m17, .inl (upd g17 i17 l2)))) x24 (.inl (0, m31, .inl (upd g31 i31 l3)))) x38 = .inl (0, m45, .inl g45)) (h47 : x38 < n) (h48 : mi_ix x43 m45 i45) (h50 : (va_up (va_up (va_up f x10 (.inl (0, m17, .inl (upd g17 i17 l2)))) x24 (.inl (0, m31, .inl (upd g31 i31 l3)))) x38 (.inl (0, m45, .inl (upd g45 i45 l4)))) l1 = .inr (12, fs49)) (h51 : l1 < n) (h53 : fs49[63]? = some (.ref x52)) (h55 : (va_up (va_up (va_up f x10 (.inl (0, m17, .inl (upd g17 i17 l2)))) x24 (.inl (0, m31, .inl (upd g31 i31 l3)))) x38 (.inl (0, m45, .inl (upd g45 i45 l4)))) l1 = .inr (12, fs54)) (h56 : l1 < n) (h58 : fs54[59]? = some (.int x57)) (h60 : (va_up (va_up (va_up f x10 (.inl (0, m17, .inl (upd g17 i17 l2)))) x24 (.inl (0, m31, .inl (upd g31 i31 l3)))) x38 (.inl (0, m45, .inl (upd g45 i45 l4)))) x52 = .inl (0, m59, .inl g59)) (h61 : x52 < n) (h62 : mi_ix x57 m59 i59) (h64 : (va_up (va_up (va_up (va_up f x10 (.inl (0, m17, .inl (upd g17 i17 l2)))) x24 (.inl (0, m31, .inl (upd g31 i31 l3)))) x38 (.inl (0, m45, .inl (upd g45 i45 l4)))) x52 (.inl (0, m59, .inl (upd g59 i59 l5)))) l1 = .inr (12, fs63)) (h65 : l1 < n) (h67 : fs63[64]? = some (.ref x66)) (h69 : (va_up (va_up (va_up (va_up f x10 (.inl (0, m17, .inl (upd g17 i17 l2)))) x24 (.inl (0, m31, .inl (upd g31 i31 l3)))) x38 (.inl (0, m45, .inl (upd g45 i45 l4)))) x52 (.inl (0, m59, .inl (upd g59 i59 l5)))) l1 = .inr (12, fs68)) (h70 : l1 < n) (h72 : fs68[59]? = some (.int x71)) (h74 : (va_up (va_up (va_up (va_up f x10 (.inl (0, m17, .inl (upd g17 i17 l2)))) x24 (.inl (0, m31, .inl (upd g31 i31 l3)))) x38 (.inl (0, m45, .inl (upd g45 i45 l4)))) x52 (.inl (0, m59, .inl (upd g59 i59 l5)))) x66 = .inl (3, m73, .inr (.inl g73))) (h75 : x66 < n) (h76 : mi_ix x71 m73 i73) (h78 : (va_up (va_up (va_up (va_up (va_up f x10 (.inl (0, m17, .inl (upd g17 i17 l2)))) x24 (.inl (0, m31, .inl (upd g31 i31 l3)))) x38 (.inl (0, m45, .inl (upd g45 i45 l4)))) x52 (.inl (0, m59, .inl (upd g59 i59 l5)))) x66 (.inl (3, m73, .inr (.inl (vp_updL g73 i73 l6))))) l1 = .inr (12, fs77)) (h79 : l1 < n) (h81 : fs77[59]? = some (.int x80)) (h83 : (va_up (va_up (va_up (va_up (va_up f x10 (.inl (0, m17, .inl (upd g17 i17 l2)))) x24 (.inl (0, m31, .inl (upd g31 i31 l3)))) x38 (.inl (0, m45, .inl (upd g45 i45 l4)))) x52 (.inl (0, m59, .inl (upd g59 i59 l5)))) x66 (.inl (3, m73, .inr (.inl (vp_updL g73 i73 l6))))) l1 = .inr (12, fs82)) (h84 : l1 < n) (h85 : 59 < fs82.length) (h86 : Q (.inl (some (.int (x80 + 1)))) (n, sl, (va_up (va_up (va_up (va_up (va_up (va_up f x10 (.inl (0, m17, .inl (upd g17 i17 l2)))) x24 (.inl (0, m31, .inl (upd g31 i31 l3)))) x38 (.inl (0, m45, .inl (upd g45 i45 l4)))) x52 (.inl (0, m59, .inl (upd g59 i59 l5)))) x66 (.inl (3, m73, .inr (.inl (vp_updL g73 i73 l6))))) l1 (.inr (12, fs82.set 59 (.int (x80 + 1))))))) : mi_W d 188 0 [some (.ref l1), some (.int l2), some (.int l3), some (.int l4), some (.int l5), some (.long l6), none] [] (n, sl, f) Q := by
  refine w_aload_n cd_188_0 rfl ?_
  refine w_getfield cd_188_1 (show mt_f 12 178 = some (12, 60) by decide +kernel) h8 h9 h11 ?_
  refine w_aload_n cd_188_4 rfl ?_
  refine w_getfield cd_188_5 (show mt_f 12 258 = some (12, 59) by decide +kernel) h13 h14 h16 ?_
  refine w_iload_n cd_188_8 rfl ?_
  refine w_iastore cd_188_9 h18 h19 h20 ?_
  refine w_aload_n cd_188_10 rfl ?_
  refine w_getfield cd_188_11 (show mt_f 12 181 = some (12, 61) by decide +kernel) h22 h23 h25 ?_
  refine w_aload_n cd_188_14 rfl ?_
  refine w_getfield cd_188_15 (show mt_f 12 258 = some (12, 59) by decide +kernel) h27 h28 h30 ?_
  refine w_iload_n cd_188_18 rfl ?_
  refine w_iastore cd_188_19 h32 h33 h34 ?_
  refine w_aload_n cd_188_20 rfl ?_
  refine w_getfield cd_188_21 (show mt_f 12 184 = some (12, 62) by decide +kernel) h36 h37 h39 ?_
  refine w_aload_n cd_188_24 rfl ?_
  refine w_getfield cd_188_25 (show mt_f 12 258 = some (12, 59) by decide +kernel) h41 h42 h44 ?_
  refine w_iload_n cd_188_28 rfl ?_
  refine w_iastore cd_188_29 h46 h47 h48 ?_
  refine w_aload_n cd_188_30 rfl ?_
  refine w_getfield cd_188_31 (show mt_f 12 187 = some (12, 63) by decide +kernel) h50 h51 h53 ?_
  refine w_aload_n cd_188_34 rfl ?_
  refine w_getfield cd_188_35 (show mt_f 12 258 = some (12, 59) by decide +kernel) h55 h56 h58 ?_
  refine w_iload cd_188_38 rfl ?_
  refine w_iastore cd_188_40 h60 h61 h62 ?_
  refine w_aload_n cd_188_41 rfl ?_
  refine w_getfield cd_188_42 (show mt_f 12 190 = some (12, 64) by decide +kernel) h64 h65 h67 ?_
  refine w_aload_n cd_188_45 rfl ?_
  refine w_getfield cd_188_46 (show mt_f 12 258 = some (12, 59) by decide +kernel) h69 h70 h72 ?_
  refine w_lload cd_188_49 rfl ?_
  refine w_lastore cd_188_51 h74 h75 h76 ?_
  refine w_aload_n cd_188_52 rfl ?_
  refine w_dup_r cd_188_53 ?_
  refine w_getfield cd_188_54 (show mt_f 12 258 = some (12, 59) by decide +kernel) h78 h79 h81 ?_
  refine w_iconst (v := 1) cd_188_57 (by decide) ?_
  refine w_iadd cd_188_58 ?_
  refine w_dup_x1_ir cd_188_59 ?_
  refine w_putfield (w := .int (x80 + 1)) cd_188_60 (show mt_f 12 258 = some (12, 59) by decide +kernel) h83 h84 ⟨h85, rfl, Or.inl (by decide)⟩ ?_
  exact w_ireturn_i cd_188_63 (by decide +kernel) h86
/-! MarloweHost$Scanner.addFour(I)V -/
set_option maxRecDepth 100000 in
theorem mq_15 : mt_q 15 = my_15 := rfl
set_option maxRecDepth 100000 in
theorem ci_15 : mt_inc 0 my_15.cd = true := by decide +kernel
theorem cd_15_0 : mt_cd 15 0 = some (.bipush 24) := mt_cd_of (q := (0, .bipush 24, 2)) mq_15 ci_15 (List.mem_of_getElem? (i := 0) rfl)
theorem cd_15_2 : mt_cd 15 2 = some (.istore_n 2) := mt_cd_of (q := (2, .istore_n 2, 1)) mq_15 ci_15 (List.mem_of_getElem? (i := 1) rfl)
theorem cd_15_3 : mt_cd 15 3 = some (.iload_n 2) := mt_cd_of (q := (3, .iload_n 2, 1)) mq_15 ci_15 (List.mem_of_getElem? (i := 2) rfl)
theorem cd_15_4 : mt_cd 15 4 = some (.ifCond .lt 49) := mt_cd_of (q := (4, .ifCond .lt 49, 3)) mq_15 ci_15 (List.mem_of_getElem? (i := 3) rfl)
theorem cd_15_7 : mt_cd 15 7 = some (.aload_n 0) := mt_cd_of (q := (7, .aload_n 0, 1)) mq_15 ci_15 (List.mem_of_getElem? (i := 4) rfl)
theorem cd_15_8 : mt_cd 15 8 = some (.getfield 15) := mt_cd_of (q := (8, .getfield 15, 3)) mq_15 ci_15 (List.mem_of_getElem? (i := 5) rfl)
theorem cd_15_11 : mt_cd 15 11 = some (.ifCond .lt 42) := mt_cd_of (q := (11, .ifCond .lt 42, 3)) mq_15 ci_15 (List.mem_of_getElem? (i := 6) rfl)
theorem cd_15_14 : mt_cd 15 14 = some (.aload_n 0) := mt_cd_of (q := (14, .aload_n 0, 1)) mq_15 ci_15 (List.mem_of_getElem? (i := 7) rfl)
theorem cd_15_15 : mt_cd 15 15 = some (.getfield 15) := mt_cd_of (q := (15, .getfield 15, 3)) mq_15 ci_15 (List.mem_of_getElem? (i := 8) rfl)
theorem cd_15_18 : mt_cd 15 18 = some (.sipush 8200) := mt_cd_of (q := (18, .sipush 8200, 3)) mq_15 ci_15 (List.mem_of_getElem? (i := 9) rfl)
theorem cd_15_21 : mt_cd 15 21 = some (.if_icmp .ge 32) := mt_cd_of (q := (21, .if_icmp .ge 32, 3)) mq_15 ci_15 (List.mem_of_getElem? (i := 10) rfl)
theorem cd_15_24 : mt_cd 15 24 = some (.aload_n 0) := mt_cd_of (q := (24, .aload_n 0, 1)) mq_15 ci_15 (List.mem_of_getElem? (i := 11) rfl)
theorem cd_15_25 : mt_cd 15 25 = some (.getfield 9) := mt_cd_of (q := (25, .getfield 9, 3)) mq_15 ci_15 (List.mem_of_getElem? (i := 12) rfl)
theorem cd_15_28 : mt_cd 15 28 = some (.aload_n 0) := mt_cd_of (q := (28, .aload_n 0, 1)) mq_15 ci_15 (List.mem_of_getElem? (i := 13) rfl)
theorem cd_15_29 : mt_cd 15 29 = some (.getfield 15) := mt_cd_of (q := (29, .getfield 15, 3)) mq_15 ci_15 (List.mem_of_getElem? (i := 14) rfl)
theorem cd_15_32 : mt_cd 15 32 = some (.iload_n 1) := mt_cd_of (q := (32, .iload_n 1, 1)) mq_15 ci_15 (List.mem_of_getElem? (i := 15) rfl)
theorem cd_15_33 : mt_cd 15 33 = some (.iload_n 2) := mt_cd_of (q := (33, .iload_n 2, 1)) mq_15 ci_15 (List.mem_of_getElem? (i := 16) rfl)
theorem cd_15_34 : mt_cd 15 34 = some (.ishr) := mt_cd_of (q := (34, .ishr, 1)) mq_15 ci_15 (List.mem_of_getElem? (i := 17) rfl)
theorem cd_15_35 : mt_cd 15 35 = some (.i2b) := mt_cd_of (q := (35, .i2b, 1)) mq_15 ci_15 (List.mem_of_getElem? (i := 18) rfl)
theorem cd_15_36 : mt_cd 15 36 = some (.bastore) := mt_cd_of (q := (36, .bastore, 1)) mq_15 ci_15 (List.mem_of_getElem? (i := 19) rfl)
theorem cd_15_37 : mt_cd 15 37 = some (.aload_n 0) := mt_cd_of (q := (37, .aload_n 0, 1)) mq_15 ci_15 (List.mem_of_getElem? (i := 20) rfl)
theorem cd_15_38 : mt_cd 15 38 = some (.dup) := mt_cd_of (q := (38, .dup, 1)) mq_15 ci_15 (List.mem_of_getElem? (i := 21) rfl)
theorem cd_15_39 : mt_cd 15 39 = some (.getfield 15) := mt_cd_of (q := (39, .getfield 15, 3)) mq_15 ci_15 (List.mem_of_getElem? (i := 22) rfl)
theorem cd_15_42 : mt_cd 15 42 = some (.iconst 1) := mt_cd_of (q := (42, .iconst 1, 1)) mq_15 ci_15 (List.mem_of_getElem? (i := 23) rfl)
theorem cd_15_43 : mt_cd 15 43 = some (.iadd) := mt_cd_of (q := (43, .iadd, 1)) mq_15 ci_15 (List.mem_of_getElem? (i := 24) rfl)
theorem cd_15_44 : mt_cd 15 44 = some (.putfield 15) := mt_cd_of (q := (44, .putfield 15, 3)) mq_15 ci_15 (List.mem_of_getElem? (i := 25) rfl)
theorem cd_15_47 : mt_cd 15 47 = some (.iinc 2 (-8)) := mt_cd_of (q := (47, .iinc 2 (-8), 3)) mq_15 ci_15 (List.mem_of_getElem? (i := 26) rfl)
theorem cd_15_50 : mt_cd 15 50 = some (.goto (-47)) := mt_cd_of (q := (50, .goto (-47), 3)) mq_15 ci_15 (List.mem_of_getElem? (i := 27) rfl)
theorem cd_15_53 : mt_cd 15 53 = some (.return_) := mt_cd_of (q := (53, .return_, 1)) mq_15 ci_15 (List.mem_of_getElem? (i := 28) rfl)
theorem b_15_0 {d : Nat} {Q : (Option Value ⊕ Nat) → mi_H → Prop} (n sl : Nat) (f : Nat → mi_C) {l1 : Nat} {l2 : Int32} {o3 : Option Value} (h4 : mi_W d 15 3 [some (.ref l1), some (.int l2), some (.int 24)] [] (n, sl, f) Q) : mi_W d 15 0 [some (.ref l1), some (.int l2), o3] [] (n, sl, f) Q := by
  refine w_bipush (v := 24) cd_15_0 (by decide) ?_
  refine w_istore_n (ls' := [some (.ref l1), some (.int l2), some (.int 24)]) cd_15_2 (Nat.le_of_ble_eq_true rfl) rfl ?_
  exact h4
theorem b_15_3 {d : Nat} {Q : (Option Value ⊕ Nat) → mi_H → Prop} (n sl : Nat) (f : Nat → mi_C) {l1 : Nat} {l2 : Int32} {l3 : Int32} (h4 : l3 < (0 : Int32) → mi_W d 15 53 [some (.ref l1), some (.int l2), some (.int l3)] [] (n, sl, f) Q) (h5 : ¬ (l3 < (0 : Int32)) → mi_W d 15 7 [some (.ref l1), some (.int l2), some (.int l3)] [] (n, sl, f) Q) : mi_W d 15 3 [some (.ref l1), some (.int l2), some (.int l3)] [] (n, sl, f) Q := by
  refine w_iload_n cd_15_3 rfl ?_
  exact w_iflt cd_15_4 (by decide) h4 h5
theorem b_15_7 {d : Nat} {Q : (Option Value ⊕ Nat) → mi_H → Prop} (n sl : Nat) (f : Nat → mi_C) {l1 : Nat} {l2 : Int32} {l3 : Int32} {fs4 : List Value} {x7 : Int32} (h5 : f l1 = .inr (1, fs4)) (h6 : l1 < n) (h8 : fs4[1]? = some (.int x7)) (h9 : x7 < (0 : Int32) → mi_W d 15 53 [some (.ref l1), some (.int l2), some (.int l3)] [] (n, sl, f) Q) (h10 : ¬ (x7 < (0 : Int32)) → mi_W d 15 14 [some (.ref l1), some (.int l2), some (.int l3)] [] (n, sl, f) Q) : mi_W d 15 7 [some (.ref l1), some (.int l2), some (.int l3)] [] (n, sl, f) Q := by
  refine w_aload_n cd_15_7 rfl ?_
  refine w_getfield cd_15_8 (show mt_f 1 15 = some (1, 1) by decide +kernel) h5 h6 h8 ?_
  exact w_iflt cd_15_11 (by decide) h9 h10
theorem b_15_14 {d : Nat} {Q : (Option Value ⊕ Nat) → mi_H → Prop} (n sl : Nat) (f : Nat → mi_C) {l1 : Nat} {l2 : Int32} {l3 : Int32} {fs4 : List Value} {x7 : Int32} (h5 : f l1 = .inr (1, fs4)) (h6 : l1 < n) (h8 : fs4[1]? = some (.int x7)) (h9 : 8200 ≤ x7 → mi_W d 15 53 [some (.ref l1), some (.int l2), some (.int l3)] [] (n, sl, f) Q) (h10 : ¬ (8200 ≤ x7) → mi_W d 15 24 [some (.ref l1), some (.int l2), some (.int l3)] [] (n, sl, f) Q) : mi_W d 15 14 [some (.ref l1), some (.int l2), some (.int l3)] [] (n, sl, f) Q := by
  refine w_aload_n cd_15_14 rfl ?_
  refine w_getfield cd_15_15 (show mt_f 1 15 = some (1, 1) by decide +kernel) h5 h6 h8 ?_
  refine w_sipush (v := 8200) cd_15_18 (by decide) ?_
  exact w_if_icmpge cd_15_21 (by decide) h9 h10
theorem b_15_24 {d : Nat} {Q : (Option Value ⊕ Nat) → mi_H → Prop} (n sl : Nat) (f : Nat → mi_C) {l1 : Nat} {l2 : Int32} {l3 : Int32} {fs4 : List Value} {x7 : Nat} {fs9 : List Value} {x12 : Int32} (m14 i14 : Nat) (g14 : Nat → Int32) {fs18 : List Value} {x21 : Int32} {fs23 : List Value} (h5 : f l1 = .inr (1, fs4)) (h6 : l1 < n) (h8 : fs4[0]? = some (.ref x7)) (h10 : f l1 = .inr (1, fs9)) (h11 : l1 < n) (h13 : fs9[1]? = some (.int x12)) (h15 : f x7 = .inl (1, m14, .inl g14)) (h16 : x7 < n) (h17 : mi_ix x12 m14 i14) (h19 : (va_up f x7 (.inl (1, m14, .inl (upd g14 i14 (vp_nar .byte (((l2 >>> (l3 &&& 31)) : Int32).toInt8.toInt32)))))) l1 = .inr (1, fs18)) (h20 : l1 < n) (h22 : fs18[1]? = some (.int x21)) (h24 : (va_up f x7 (.inl (1, m14, .inl (upd g14 i14 (vp_nar .byte (((l2 >>> (l3 &&& 31)) : Int32).toInt8.toInt32)))))) l1 = .inr (1, fs23)) (h25 : l1 < n) (h26 : 1 < fs23.length) (h27 : mi_W d 15 3 [some (.ref l1), some (.int l2), some (.int (l3 + (-8)))] [] (n, sl, (va_up (va_up f x7 (.inl (1, m14, .inl (upd g14 i14 (vp_nar .byte (((l2 >>> (l3 &&& 31)) : Int32).toInt8.toInt32)))))) l1 (.inr (1, fs23.set 1 (.int (x21 + 1)))))) Q) : mi_W d 15 24 [some (.ref l1), some (.int l2), some (.int l3)] [] (n, sl, f) Q := by
  refine w_aload_n cd_15_24 rfl ?_
  refine w_getfield cd_15_25 (show mt_f 1 9 = some (1, 0) by decide +kernel) h5 h6 h8 ?_
  refine w_aload_n cd_15_28 rfl ?_
  refine w_getfield cd_15_29 (show mt_f 1 15 = some (1, 1) by decide +kernel) h10 h11 h13 ?_
  refine w_iload_n cd_15_32 rfl ?_
  refine w_iload_n cd_15_33 rfl ?_
  refine w_ishr cd_15_34 ?_
  refine w_i2b cd_15_35 ?_
  refine w_bastore1 cd_15_36 h15 h16 h17 ?_
  refine w_aload_n cd_15_37 rfl ?_
  refine w_dup_r cd_15_38 ?_
  refine w_getfield cd_15_39 (show mt_f 1 15 = some (1, 1) by decide +kernel) h19 h20 h22 ?_
  refine w_iconst (v := 1) cd_15_42 (by decide) ?_
  refine w_iadd cd_15_43 ?_
  refine w_putfield (w := .int (x21 + 1)) cd_15_44 (show mt_f 1 15 = some (1, 1) by decide +kernel) h24 h25 ⟨h26, rfl, Or.inl (by decide)⟩ ?_
  refine w_iinc (v := (-8)) (ls' := [some (.ref l1), some (.int l2), some (.int (l3 + (-8)))]) cd_15_47 rfl (by decide) rfl ?_
  exact w_goto cd_15_50 (by decide) h27
theorem b_15_53 {d : Nat} {Q : (Option Value ⊕ Nat) → mi_H → Prop} (n sl : Nat) (f : Nat → mi_C) {l1 : Nat} {l2 : Int32} {l3 : Int32} (h4 : Q (.inl none) (n, sl, f)) : mi_W d 15 53 [some (.ref l1), some (.int l2), some (.int l3)] [] (n, sl, f) Q := by
  exact w_return cd_15_53 (by decide +kernel) h4
/-! MarloweHostLaw.deposit(LMarloweHost;IIIJ[J)I -/
set_option maxRecDepth 100000 in
theorem mq_62 : mt_q 62 = my_62 := rfl
set_option maxRecDepth 100000 in
theorem ci_62 : mt_inc 0 my_62.cd = true := by decide +kernel
theorem cd_62_0 : mt_cd 62 0 = some (.aload 6) := mt_cd_of (q := (0, .aload 6, 2)) mq_62 ci_62 (List.mem_of_getElem? (i := 0) rfl)
theorem cd_62_2 : mt_cd 62 2 = some (.iconst 0) := mt_cd_of (q := (2, .iconst 0, 1)) mq_62 ci_62 (List.mem_of_getElem? (i := 1) rfl)
theorem cd_62_3 : mt_cd 62 3 = some (.aload_n 0) := mt_cd_of (q := (3, .aload_n 0, 1)) mq_62 ci_62 (List.mem_of_getElem? (i := 2) rfl)
theorem cd_62_4 : mt_cd 62 4 = some (.iload_n 1) := mt_cd_of (q := (4, .iload_n 1, 1)) mq_62 ci_62 (List.mem_of_getElem? (i := 3) rfl)
theorem cd_62_5 : mt_cd 62 5 = some (.iload_n 2) := mt_cd_of (q := (5, .iload_n 2, 1)) mq_62 ci_62 (List.mem_of_getElem? (i := 4) rfl)
theorem cd_62_6 : mt_cd 62 6 = some (.iload_n 3) := mt_cd_of (q := (6, .iload_n 3, 1)) mq_62 ci_62 (List.mem_of_getElem? (i := 5) rfl)
theorem cd_62_7 : mt_cd 62 7 = some (.lload 4) := mt_cd_of (q := (7, .lload 4, 2)) mq_62 ci_62 (List.mem_of_getElem? (i := 6) rfl)
theorem cd_62_9 : mt_cd 62 9 = some (.invokevirtual 25) := mt_cd_of (q := (9, .invokevirtual 25, 3)) mq_62 ci_62 (List.mem_of_getElem? (i := 7) rfl)
theorem cd_62_12 : mt_cd 62 12 = some (.i2l) := mt_cd_of (q := (12, .i2l, 1)) mq_62 ci_62 (List.mem_of_getElem? (i := 8) rfl)
theorem cd_62_13 : mt_cd 62 13 = some (.lastore) := mt_cd_of (q := (13, .lastore, 1)) mq_62 ci_62 (List.mem_of_getElem? (i := 9) rfl)
theorem cd_62_14 : mt_cd 62 14 = some (.goto 11) := mt_cd_of (q := (14, .goto 11, 3)) mq_62 ci_62 (List.mem_of_getElem? (i := 10) rfl)
theorem cd_62_17 : mt_cd 62 17 = some (.astore 7) := mt_cd_of (q := (17, .astore 7, 2)) mq_62 ci_62 (List.mem_of_getElem? (i := 11) rfl)
theorem cd_62_19 : mt_cd 62 19 = some (.iconst 1) := mt_cd_of (q := (19, .iconst 1, 1)) mq_62 ci_62 (List.mem_of_getElem? (i := 12) rfl)
theorem cd_62_20 : mt_cd 62 20 = some (.ireturn) := mt_cd_of (q := (20, .ireturn, 1)) mq_62 ci_62 (List.mem_of_getElem? (i := 13) rfl)
theorem cd_62_21 : mt_cd 62 21 = some (.astore 7) := mt_cd_of (q := (21, .astore 7, 2)) mq_62 ci_62 (List.mem_of_getElem? (i := 14) rfl)
theorem cd_62_23 : mt_cd 62 23 = some (.iconst 2) := mt_cd_of (q := (23, .iconst 2, 1)) mq_62 ci_62 (List.mem_of_getElem? (i := 15) rfl)
theorem cd_62_24 : mt_cd 62 24 = some (.ireturn) := mt_cd_of (q := (24, .ireturn, 1)) mq_62 ci_62 (List.mem_of_getElem? (i := 16) rfl)
theorem cd_62_25 : mt_cd 62 25 = some (.iconst 0) := mt_cd_of (q := (25, .iconst 0, 1)) mq_62 ci_62 (List.mem_of_getElem? (i := 17) rfl)
theorem cd_62_26 : mt_cd 62 26 = some (.ireturn) := mt_cd_of (q := (26, .ireturn, 1)) mq_62 ci_62 (List.mem_of_getElem? (i := 18) rfl)
theorem b_62_0 {d : Nat} {Q : (Option Value ⊕ Nat) → mi_H → Prop} (n sl : Nat) (f : Nat → mi_C) {l1 : Nat} {l2 : Int32} {l3 : Int32} {l4 : Int32} {l5 : Int64} {l6 : Nat} {o7 : Option Value} {fs8 : List Value} (h9 : f l1 = .inr (0, fs8)) (h10 : l1 < n) (h11 : mi_W d 63 0 (mi_en 6 [.ref l1, .int l2, .int l3, .int l4, .long l5]) [] (n, sl, f) (mi_Kc d 62 9 [some (.ref l1), some (.int l2), some (.int l3), some (.int l4), some (.long l5), none, some (.ref l6), o7] [.int 0, .ref l6] Q)) : mi_W (d + 1) 62 0 [some (.ref l1), some (.int l2), some (.int l3), some (.int l4), some (.long l5), none, some (.ref l6), o7] [] (n, sl, f) Q := by
  refine w_aload cd_62_0 rfl ?_
  refine w_iconst (v := 0) cd_62_2 (by decide) ?_
  refine w_aload_n cd_62_3 rfl ?_
  refine w_iload_n cd_62_4 rfl ?_
  refine w_iload_n cd_62_5 rfl ?_
  refine w_iload_n cd_62_6 rfl ?_
  refine w_lload cd_62_7 rfl ?_
  exact w_invokevirtual cd_62_9 (show mt_m 18 25 = some (63, 0) by decide +kernel) (rest := [.int 0, .ref l6]) rfl (as := [.ref l1, .int l2, .int l3, .int l4, .long l5]) rfl h9 (Or.inl h10) ⟨Nat.le_of_ble_eq_true rfl, Nat.le_of_ble_eq_true rfl, Nat.le_of_ble_eq_true rfl⟩ h11
theorem b_62_12 {d : Nat} {Q : (Option Value ⊕ Nat) → mi_H → Prop} (n sl : Nat) (f : Nat → mi_C) {l1 : Nat} {l2 : Int32} {l3 : Int32} {l4 : Int32} {l5 : Int64} {l6 : Nat} {o7 : Option Value} {s8 : Int32} {s9 : Int32} {s10 : Nat} (m11 i11 : Nat) (g11 : Nat → Int64) (h12 : f s10 = .inl (3, m11, .inr (.inl g11))) (h13 : s10 < n) (h14 : mi_ix s9 m11 i11) (h15 : mi_W d 62 25 [some (.ref l1), some (.int l2), some (.int l3), some (.int l4), some (.long l5), none, some (.ref l6), o7] [] (n, sl, (va_up f s10 (.inl (3, m11, .inr (.inl (vp_updL g11 i11 ((s8 : Int32).toInt64))))))) Q) : mi_W d 62 12 [some (.ref l1), some (.int l2), some (.int l3), some (.int l4), some (.long l5), none, some (.ref l6), o7] [.int s8, .int s9, .ref s10] (n, sl, f) Q := by
  refine w_i2l cd_62_12 ?_
  refine w_lastore cd_62_13 h12 h13 h14 ?_
  exact w_goto cd_62_14 (by decide) h15
theorem b_62_17 {d : Nat} {Q : (Option Value ⊕ Nat) → mi_H → Prop} (n sl : Nat) (f : Nat → mi_C) {l1 : Nat} {l2 : Int32} {l3 : Int32} {l4 : Int32} {l5 : Int64} {l6 : Nat} {o7 : Option Value} {s8 : Nat} (h9 : Q (.inl (some (.int 1))) (n, sl, f)) : mi_W d 62 17 [some (.ref l1), some (.int l2), some (.int l3), some (.int l4), some (.long l5), none, some (.ref l6), o7] [.ref s8] (n, sl, f) Q := by
  refine w_astore (ls' := [some (.ref l1), some (.int l2), some (.int l3), some (.int l4), some (.long l5), none, some (.ref l6), some (.ref s8)]) cd_62_17 (Nat.le_of_ble_eq_true rfl) rfl ?_
  refine w_iconst (v := 1) cd_62_19 (by decide) ?_
  exact w_ireturn_i cd_62_20 (by decide +kernel) h9
theorem b_62_21 {d : Nat} {Q : (Option Value ⊕ Nat) → mi_H → Prop} (n sl : Nat) (f : Nat → mi_C) {l1 : Nat} {l2 : Int32} {l3 : Int32} {l4 : Int32} {l5 : Int64} {l6 : Nat} {o7 : Option Value} {s8 : Nat} (h9 : Q (.inl (some (.int 2))) (n, sl, f)) : mi_W d 62 21 [some (.ref l1), some (.int l2), some (.int l3), some (.int l4), some (.long l5), none, some (.ref l6), o7] [.ref s8] (n, sl, f) Q := by
  refine w_astore (ls' := [some (.ref l1), some (.int l2), some (.int l3), some (.int l4), some (.long l5), none, some (.ref l6), some (.ref s8)]) cd_62_21 (Nat.le_of_ble_eq_true rfl) rfl ?_
  refine w_iconst (v := 2) cd_62_23 (by decide) ?_
  exact w_ireturn_i cd_62_24 (by decide +kernel) h9
theorem b_62_25 {d : Nat} {Q : (Option Value ⊕ Nat) → mi_H → Prop} (n sl : Nat) (f : Nat → mi_C) {l1 : Nat} {l2 : Int32} {l3 : Int32} {l4 : Int32} {l5 : Int64} {l6 : Nat} {o7 : Option Value} (h8 : Q (.inl (some (.int 0))) (n, sl, f)) : mi_W d 62 25 [some (.ref l1), some (.int l2), some (.int l3), some (.int l4), some (.long l5), none, some (.ref l6), o7] [] (n, sl, f) Q := by
  refine w_iconst (v := 0) cd_62_25 (by decide) ?_
  exact w_ireturn_i cd_62_26 (by decide +kernel) h8
/-! MarloweHostModel.fails(ZI)Z -/
set_option maxRecDepth 100000 in
theorem mq_140 : mt_q 140 = my_140 := rfl
set_option maxRecDepth 100000 in
theorem ci_140 : mt_inc 0 my_140.cd = true := by decide +kernel
theorem cd_140_0 : mt_cd 140 0 = some (.iload_n 1) := mt_cd_of (q := (0, .iload_n 1, 1)) mq_140 ci_140 (List.mem_of_getElem? (i := 0) rfl)
theorem cd_140_1 : mt_cd 140 1 = some (.ifCond .eq 15) := mt_cd_of (q := (1, .ifCond .eq 15, 3)) mq_140 ci_140 (List.mem_of_getElem? (i := 1) rfl)
theorem cd_140_4 : mt_cd 140 4 = some (.aload_n 0) := mt_cd_of (q := (4, .aload_n 0, 1)) mq_140 ci_140 (List.mem_of_getElem? (i := 2) rfl)
theorem cd_140_5 : mt_cd 140 5 = some (.getfield 248) := mt_cd_of (q := (5, .getfield 248, 3)) mq_140 ci_140 (List.mem_of_getElem? (i := 3) rfl)
theorem cd_140_8 : mt_cd 140 8 = some (.ifCond .ne 8) := mt_cd_of (q := (8, .ifCond .ne 8, 3)) mq_140 ci_140 (List.mem_of_getElem? (i := 4) rfl)
theorem cd_140_11 : mt_cd 140 11 = some (.aload_n 0) := mt_cd_of (q := (11, .aload_n 0, 1)) mq_140 ci_140 (List.mem_of_getElem? (i := 5) rfl)
theorem cd_140_12 : mt_cd 140 12 = some (.iload_n 2) := mt_cd_of (q := (12, .iload_n 2, 1)) mq_140 ci_140 (List.mem_of_getElem? (i := 6) rfl)
theorem cd_140_13 : mt_cd 140 13 = some (.putfield 248) := mt_cd_of (q := (13, .putfield 248, 3)) mq_140 ci_140 (List.mem_of_getElem? (i := 7) rfl)
theorem cd_140_16 : mt_cd 140 16 = some (.aload_n 0) := mt_cd_of (q := (16, .aload_n 0, 1)) mq_140 ci_140 (List.mem_of_getElem? (i := 8) rfl)
theorem cd_140_17 : mt_cd 140 17 = some (.getfield 248) := mt_cd_of (q := (17, .getfield 248, 3)) mq_140 ci_140 (List.mem_of_getElem? (i := 9) rfl)
theorem cd_140_20 : mt_cd 140 20 = some (.ifCond .eq 7) := mt_cd_of (q := (20, .ifCond .eq 7, 3)) mq_140 ci_140 (List.mem_of_getElem? (i := 10) rfl)
theorem cd_140_23 : mt_cd 140 23 = some (.iconst 1) := mt_cd_of (q := (23, .iconst 1, 1)) mq_140 ci_140 (List.mem_of_getElem? (i := 11) rfl)
theorem cd_140_24 : mt_cd 140 24 = some (.goto 4) := mt_cd_of (q := (24, .goto 4, 3)) mq_140 ci_140 (List.mem_of_getElem? (i := 12) rfl)
theorem cd_140_27 : mt_cd 140 27 = some (.iconst 0) := mt_cd_of (q := (27, .iconst 0, 1)) mq_140 ci_140 (List.mem_of_getElem? (i := 13) rfl)
theorem cd_140_28 : mt_cd 140 28 = some (.ireturn) := mt_cd_of (q := (28, .ireturn, 1)) mq_140 ci_140 (List.mem_of_getElem? (i := 14) rfl)
theorem b_140_0 {d : Nat} {Q : (Option Value ⊕ Nat) → mi_H → Prop} (n sl : Nat) (f : Nat → mi_C) {l1 : Nat} {l2 : Int32} {l3 : Int32} (h4 : l2 = (0 : Int32) → mi_W d 140 16 [some (.ref l1), some (.int l2), some (.int l3)] [] (n, sl, f) Q) (h5 : ¬ (l2 = (0 : Int32)) → mi_W d 140 4 [some (.ref l1), some (.int l2), some (.int l3)] [] (n, sl, f) Q) : mi_W d 140 0 [some (.ref l1), some (.int l2), some (.int l3)] [] (n, sl, f) Q := by
  refine w_iload_n cd_140_0 rfl ?_
  exact w_ifeq cd_140_1 (by decide) h4 h5
theorem b_140_4 {d : Nat} {Q : (Option Value ⊕ Nat) → mi_H → Prop} (n sl : Nat) (f : Nat → mi_C) {l1 : Nat} {l2 : Int32} {l3 : Int32} {fs4 : List Value} {x7 : Int32} (h5 : f l1 = .inr (12, fs4)) (h6 : l1 < n) (h8 : fs4[0]? = some (.int x7)) (h9 : ¬ x7 = (0 : Int32) → mi_W d 140 16 [some (.ref l1), some (.int l2), some (.int l3)] [] (n, sl, f) Q) (h10 : ¬ (¬ x7 = (0 : Int32)) → mi_W d 140 11 [some (.ref l1), some (.int l2), some (.int l3)] [] (n, sl, f) Q) : mi_W d 140 4 [some (.ref l1), some (.int l2), some (.int l3)] [] (n, sl, f) Q := by
  refine w_aload_n cd_140_4 rfl ?_
  refine w_getfield cd_140_5 (show mt_f 12 248 = some (12, 0) by decide +kernel) h5 h6 h8 ?_
  exact w_ifne cd_140_8 (by decide) h9 h10
theorem b_140_11 {d : Nat} {Q : (Option Value ⊕ Nat) → mi_H → Prop} (n sl : Nat) (f : Nat → mi_C) {l1 : Nat} {l2 : Int32} {l3 : Int32} {fs4 : List Value} (h5 : f l1 = .inr (12, fs4)) (h6 : l1 < n) (h7 : 0 < fs4.length) (h8 : mi_W d 140 16 [some (.ref l1), some (.int l2), some (.int l3)] [] (n, sl, (va_up f l1 (.inr (12, fs4.set 0 (.int l3))))) Q) : mi_W d 140 11 [some (.ref l1), some (.int l2), some (.int l3)] [] (n, sl, f) Q := by
  refine w_aload_n cd_140_11 rfl ?_
  refine w_iload_n cd_140_12 rfl ?_
  refine w_putfield (w := .int l3) cd_140_13 (show mt_f 12 248 = some (12, 0) by decide +kernel) h5 h6 ⟨h7, rfl, Or.inl (by decide)⟩ ?_
  exact h8
theorem b_140_16 {d : Nat} {Q : (Option Value ⊕ Nat) → mi_H → Prop} (n sl : Nat) (f : Nat → mi_C) {l1 : Nat} {l2 : Int32} {l3 : Int32} {fs4 : List Value} {x7 : Int32} (h5 : f l1 = .inr (12, fs4)) (h6 : l1 < n) (h8 : fs4[0]? = some (.int x7)) (h9 : x7 = (0 : Int32) → mi_W d 140 27 [some (.ref l1), some (.int l2), some (.int l3)] [] (n, sl, f) Q) (h10 : ¬ (x7 = (0 : Int32)) → mi_W d 140 23 [some (.ref l1), some (.int l2), some (.int l3)] [] (n, sl, f) Q) : mi_W d 140 16 [some (.ref l1), some (.int l2), some (.int l3)] [] (n, sl, f) Q := by
  refine w_aload_n cd_140_16 rfl ?_
  refine w_getfield cd_140_17 (show mt_f 12 248 = some (12, 0) by decide +kernel) h5 h6 h8 ?_
  exact w_ifeq cd_140_20 (by decide) h9 h10
theorem b_140_23 {d : Nat} {Q : (Option Value ⊕ Nat) → mi_H → Prop} (n sl : Nat) (f : Nat → mi_C) {l1 : Nat} {l2 : Int32} {l3 : Int32} (h4 : mi_W d 140 28 [some (.ref l1), some (.int l2), some (.int l3)] [.int 1] (n, sl, f) Q) : mi_W d 140 23 [some (.ref l1), some (.int l2), some (.int l3)] [] (n, sl, f) Q := by
  refine w_iconst (v := 1) cd_140_23 (by decide) ?_
  exact w_goto cd_140_24 (by decide) h4
theorem b_140_27 {d : Nat} {Q : (Option Value ⊕ Nat) → mi_H → Prop} (n sl : Nat) (f : Nat → mi_C) {l1 : Nat} {l2 : Int32} {l3 : Int32} (h4 : mi_W d 140 28 [some (.ref l1), some (.int l2), some (.int l3)] [.int 0] (n, sl, f) Q) : mi_W d 140 27 [some (.ref l1), some (.int l2), some (.int l3)] [] (n, sl, f) Q := by
  refine w_iconst (v := 0) cd_140_27 (by decide) ?_
  exact h4
theorem b_140_28 {d : Nat} {Q : (Option Value ⊕ Nat) → mi_H → Prop} (n sl : Nat) (f : Nat → mi_C) {l1 : Nat} {l2 : Int32} {l3 : Int32} {s4 : Int32} (h5 : s4 = 0 ∨ s4 = 1) (h6 : Q (.inl (some (.int s4))) (n, sl, f)) : mi_W d 140 28 [some (.ref l1), some (.int l2), some (.int l3)] [.int s4] (n, sl, f) Q := by
  exact w_ireturn_z cd_140_28 (by decide +kernel) h5 h6
/-! MarloweHostLaw.choose(LMarloweHost;IJ[J)I -/
set_option maxRecDepth 100000 in
theorem mq_66 : mt_q 66 = my_66 := rfl
set_option maxRecDepth 100000 in
theorem ci_66 : mt_inc 0 my_66.cd = true := by decide +kernel
theorem cd_66_0 : mt_cd 66 0 = some (.aload 4) := mt_cd_of (q := (0, .aload 4, 2)) mq_66 ci_66 (List.mem_of_getElem? (i := 0) rfl)
theorem cd_66_2 : mt_cd 66 2 = some (.iconst 0) := mt_cd_of (q := (2, .iconst 0, 1)) mq_66 ci_66 (List.mem_of_getElem? (i := 1) rfl)
theorem cd_66_3 : mt_cd 66 3 = some (.aload_n 0) := mt_cd_of (q := (3, .aload_n 0, 1)) mq_66 ci_66 (List.mem_of_getElem? (i := 2) rfl)
theorem cd_66_4 : mt_cd 66 4 = some (.iload_n 1) := mt_cd_of (q := (4, .iload_n 1, 1)) mq_66 ci_66 (List.mem_of_getElem? (i := 3) rfl)
theorem cd_66_5 : mt_cd 66 5 = some (.lload_n 2) := mt_cd_of (q := (5, .lload_n 2, 1)) mq_66 ci_66 (List.mem_of_getElem? (i := 4) rfl)
theorem cd_66_6 : mt_cd 66 6 = some (.invokevirtual 29) := mt_cd_of (q := (6, .invokevirtual 29, 3)) mq_66 ci_66 (List.mem_of_getElem? (i := 5) rfl)
theorem cd_66_9 : mt_cd 66 9 = some (.i2l) := mt_cd_of (q := (9, .i2l, 1)) mq_66 ci_66 (List.mem_of_getElem? (i := 6) rfl)
theorem cd_66_10 : mt_cd 66 10 = some (.lastore) := mt_cd_of (q := (10, .lastore, 1)) mq_66 ci_66 (List.mem_of_getElem? (i := 7) rfl)
theorem cd_66_11 : mt_cd 66 11 = some (.goto 11) := mt_cd_of (q := (11, .goto 11, 3)) mq_66 ci_66 (List.mem_of_getElem? (i := 8) rfl)
theorem cd_66_14 : mt_cd 66 14 = some (.astore 5) := mt_cd_of (q := (14, .astore 5, 2)) mq_66 ci_66 (List.mem_of_getElem? (i := 9) rfl)
theorem cd_66_16 : mt_cd 66 16 = some (.iconst 1) := mt_cd_of (q := (16, .iconst 1, 1)) mq_66 ci_66 (List.mem_of_getElem? (i := 10) rfl)
theorem cd_66_17 : mt_cd 66 17 = some (.ireturn) := mt_cd_of (q := (17, .ireturn, 1)) mq_66 ci_66 (List.mem_of_getElem? (i := 11) rfl)
theorem cd_66_18 : mt_cd 66 18 = some (.astore 5) := mt_cd_of (q := (18, .astore 5, 2)) mq_66 ci_66 (List.mem_of_getElem? (i := 12) rfl)
theorem cd_66_20 : mt_cd 66 20 = some (.iconst 2) := mt_cd_of (q := (20, .iconst 2, 1)) mq_66 ci_66 (List.mem_of_getElem? (i := 13) rfl)
theorem cd_66_21 : mt_cd 66 21 = some (.ireturn) := mt_cd_of (q := (21, .ireturn, 1)) mq_66 ci_66 (List.mem_of_getElem? (i := 14) rfl)
theorem cd_66_22 : mt_cd 66 22 = some (.iconst 0) := mt_cd_of (q := (22, .iconst 0, 1)) mq_66 ci_66 (List.mem_of_getElem? (i := 15) rfl)
theorem cd_66_23 : mt_cd 66 23 = some (.ireturn) := mt_cd_of (q := (23, .ireturn, 1)) mq_66 ci_66 (List.mem_of_getElem? (i := 16) rfl)
theorem b_66_0 {d : Nat} {Q : (Option Value ⊕ Nat) → mi_H → Prop} (n sl : Nat) (f : Nat → mi_C) {l1 : Nat} {l2 : Int32} {l3 : Int64} {l4 : Nat} {o5 : Option Value} {fs6 : List Value} (h7 : f l1 = .inr (0, fs6)) (h8 : l1 < n) (h9 : mi_W d 67 0 (mi_en 4 [.ref l1, .int l2, .long l3]) [] (n, sl, f) (mi_Kc d 66 6 [some (.ref l1), some (.int l2), some (.long l3), none, some (.ref l4), o5] [.int 0, .ref l4] Q)) : mi_W (d + 1) 66 0 [some (.ref l1), some (.int l2), some (.long l3), none, some (.ref l4), o5] [] (n, sl, f) Q := by
  refine w_aload cd_66_0 rfl ?_
  refine w_iconst (v := 0) cd_66_2 (by decide) ?_
  refine w_aload_n cd_66_3 rfl ?_
  refine w_iload_n cd_66_4 rfl ?_
  refine w_lload_n cd_66_5 rfl ?_
  exact w_invokevirtual cd_66_6 (show mt_m 18 29 = some (67, 0) by decide +kernel) (rest := [.int 0, .ref l4]) rfl (as := [.ref l1, .int l2, .long l3]) rfl h7 (Or.inl h8) ⟨Nat.le_of_ble_eq_true rfl, Nat.le_of_ble_eq_true rfl, Nat.le_of_ble_eq_true rfl⟩ h9
theorem b_66_9 {d : Nat} {Q : (Option Value ⊕ Nat) → mi_H → Prop} (n sl : Nat) (f : Nat → mi_C) {l1 : Nat} {l2 : Int32} {l3 : Int64} {l4 : Nat} {o5 : Option Value} {s6 : Int32} {s7 : Int32} {s8 : Nat} (m9 i9 : Nat) (g9 : Nat → Int64) (h10 : f s8 = .inl (3, m9, .inr (.inl g9))) (h11 : s8 < n) (h12 : mi_ix s7 m9 i9) (h13 : mi_W d 66 22 [some (.ref l1), some (.int l2), some (.long l3), none, some (.ref l4), o5] [] (n, sl, (va_up f s8 (.inl (3, m9, .inr (.inl (vp_updL g9 i9 ((s6 : Int32).toInt64))))))) Q) : mi_W d 66 9 [some (.ref l1), some (.int l2), some (.long l3), none, some (.ref l4), o5] [.int s6, .int s7, .ref s8] (n, sl, f) Q := by
  refine w_i2l cd_66_9 ?_
  refine w_lastore cd_66_10 h10 h11 h12 ?_
  exact w_goto cd_66_11 (by decide) h13
theorem b_66_14 {d : Nat} {Q : (Option Value ⊕ Nat) → mi_H → Prop} (n sl : Nat) (f : Nat → mi_C) {l1 : Nat} {l2 : Int32} {l3 : Int64} {l4 : Nat} {o5 : Option Value} {s6 : Nat} (h7 : Q (.inl (some (.int 1))) (n, sl, f)) : mi_W d 66 14 [some (.ref l1), some (.int l2), some (.long l3), none, some (.ref l4), o5] [.ref s6] (n, sl, f) Q := by
  refine w_astore (ls' := [some (.ref l1), some (.int l2), some (.long l3), none, some (.ref l4), some (.ref s6)]) cd_66_14 (Nat.le_of_ble_eq_true rfl) rfl ?_
  refine w_iconst (v := 1) cd_66_16 (by decide) ?_
  exact w_ireturn_i cd_66_17 (by decide +kernel) h7
theorem b_66_18 {d : Nat} {Q : (Option Value ⊕ Nat) → mi_H → Prop} (n sl : Nat) (f : Nat → mi_C) {l1 : Nat} {l2 : Int32} {l3 : Int64} {l4 : Nat} {o5 : Option Value} {s6 : Nat} (h7 : Q (.inl (some (.int 2))) (n, sl, f)) : mi_W d 66 18 [some (.ref l1), some (.int l2), some (.long l3), none, some (.ref l4), o5] [.ref s6] (n, sl, f) Q := by
  refine w_astore (ls' := [some (.ref l1), some (.int l2), some (.long l3), none, some (.ref l4), some (.ref s6)]) cd_66_18 (Nat.le_of_ble_eq_true rfl) rfl ?_
  refine w_iconst (v := 2) cd_66_20 (by decide) ?_
  exact w_ireturn_i cd_66_21 (by decide +kernel) h7
theorem b_66_22 {d : Nat} {Q : (Option Value ⊕ Nat) → mi_H → Prop} (n sl : Nat) (f : Nat → mi_C) {l1 : Nat} {l2 : Int32} {l3 : Int64} {l4 : Nat} {o5 : Option Value} (h6 : Q (.inl (some (.int 0))) (n, sl, f)) : mi_W d 66 22 [some (.ref l1), some (.int l2), some (.long l3), none, some (.ref l4), o5] [] (n, sl, f) Q := by
  refine w_iconst (v := 0) cd_66_22 (by decide) ?_
  exact w_ireturn_i cd_66_23 (by decide +kernel) h6
/-! MarloweHostLaw.wallet(LMarloweHost;IIJ[J)I -/
set_option maxRecDepth 100000 in
theorem mq_58 : mt_q 58 = my_58 := rfl
set_option maxRecDepth 100000 in
theorem ci_58 : mt_inc 0 my_58.cd = true := by decide +kernel
theorem cd_58_0 : mt_cd 58 0 = some (.aload 5) := mt_cd_of (q := (0, .aload 5, 2)) mq_58 ci_58 (List.mem_of_getElem? (i := 0) rfl)
theorem cd_58_2 : mt_cd 58 2 = some (.iconst 0) := mt_cd_of (q := (2, .iconst 0, 1)) mq_58 ci_58 (List.mem_of_getElem? (i := 1) rfl)
theorem cd_58_3 : mt_cd 58 3 = some (.aload_n 0) := mt_cd_of (q := (3, .aload_n 0, 1)) mq_58 ci_58 (List.mem_of_getElem? (i := 2) rfl)
theorem cd_58_4 : mt_cd 58 4 = some (.iload_n 1) := mt_cd_of (q := (4, .iload_n 1, 1)) mq_58 ci_58 (List.mem_of_getElem? (i := 3) rfl)
theorem cd_58_5 : mt_cd 58 5 = some (.iload_n 2) := mt_cd_of (q := (5, .iload_n 2, 1)) mq_58 ci_58 (List.mem_of_getElem? (i := 4) rfl)
theorem cd_58_6 : mt_cd 58 6 = some (.lload_n 3) := mt_cd_of (q := (6, .lload_n 3, 1)) mq_58 ci_58 (List.mem_of_getElem? (i := 5) rfl)
theorem cd_58_7 : mt_cd 58 7 = some (.invokevirtual 21) := mt_cd_of (q := (7, .invokevirtual 21, 3)) mq_58 ci_58 (List.mem_of_getElem? (i := 6) rfl)
theorem cd_58_10 : mt_cd 58 10 = some (.lastore) := mt_cd_of (q := (10, .lastore, 1)) mq_58 ci_58 (List.mem_of_getElem? (i := 7) rfl)
theorem cd_58_11 : mt_cd 58 11 = some (.goto 7) := mt_cd_of (q := (11, .goto 7, 3)) mq_58 ci_58 (List.mem_of_getElem? (i := 8) rfl)
theorem cd_58_14 : mt_cd 58 14 = some (.astore 6) := mt_cd_of (q := (14, .astore 6, 2)) mq_58 ci_58 (List.mem_of_getElem? (i := 9) rfl)
theorem cd_58_16 : mt_cd 58 16 = some (.iconst 1) := mt_cd_of (q := (16, .iconst 1, 1)) mq_58 ci_58 (List.mem_of_getElem? (i := 10) rfl)
theorem cd_58_17 : mt_cd 58 17 = some (.ireturn) := mt_cd_of (q := (17, .ireturn, 1)) mq_58 ci_58 (List.mem_of_getElem? (i := 11) rfl)
theorem cd_58_18 : mt_cd 58 18 = some (.iconst 0) := mt_cd_of (q := (18, .iconst 0, 1)) mq_58 ci_58 (List.mem_of_getElem? (i := 12) rfl)
theorem cd_58_19 : mt_cd 58 19 = some (.ireturn) := mt_cd_of (q := (19, .ireturn, 1)) mq_58 ci_58 (List.mem_of_getElem? (i := 13) rfl)
theorem b_58_0 {d : Nat} {Q : (Option Value ⊕ Nat) → mi_H → Prop} (n sl : Nat) (f : Nat → mi_C) {l1 : Nat} {l2 : Int32} {l3 : Int32} {l4 : Int64} {l5 : Nat} {o6 : Option Value} {fs7 : List Value} (h8 : f l1 = .inr (0, fs7)) (h9 : l1 < n) (h10 : mi_W d 59 0 (mi_en 8 [.ref l1, .int l2, .int l3, .long l4]) [] (n, sl, f) (mi_Kc d 58 7 [some (.ref l1), some (.int l2), some (.int l3), some (.long l4), none, some (.ref l5), o6] [.int 0, .ref l5] Q)) : mi_W (d + 1) 58 0 [some (.ref l1), some (.int l2), some (.int l3), some (.long l4), none, some (.ref l5), o6] [] (n, sl, f) Q := by
  refine w_aload cd_58_0 rfl ?_
  refine w_iconst (v := 0) cd_58_2 (by decide) ?_
  refine w_aload_n cd_58_3 rfl ?_
  refine w_iload_n cd_58_4 rfl ?_
  refine w_iload_n cd_58_5 rfl ?_
  refine w_lload_n cd_58_6 rfl ?_
  exact w_invokevirtual cd_58_7 (show mt_m 18 21 = some (59, 0) by decide +kernel) (rest := [.int 0, .ref l5]) rfl (as := [.ref l1, .int l2, .int l3, .long l4]) rfl h8 (Or.inl h9) ⟨Nat.le_of_ble_eq_true rfl, Nat.le_of_ble_eq_true rfl, Nat.le_of_ble_eq_true rfl⟩ h10
theorem b_58_10 {d : Nat} {Q : (Option Value ⊕ Nat) → mi_H → Prop} (n sl : Nat) (f : Nat → mi_C) {l1 : Nat} {l2 : Int32} {l3 : Int32} {l4 : Int64} {l5 : Nat} {o6 : Option Value} {s7 : Int64} {s8 : Int32} {s9 : Nat} (m10 i10 : Nat) (g10 : Nat → Int64) (h11 : f s9 = .inl (3, m10, .inr (.inl g10))) (h12 : s9 < n) (h13 : mi_ix s8 m10 i10) (h14 : mi_W d 58 18 [some (.ref l1), some (.int l2), some (.int l3), some (.long l4), none, some (.ref l5), o6] [] (n, sl, (va_up f s9 (.inl (3, m10, .inr (.inl (vp_updL g10 i10 s7)))))) Q) : mi_W d 58 10 [some (.ref l1), some (.int l2), some (.int l3), some (.long l4), none, some (.ref l5), o6] [.long s7, .int s8, .ref s9] (n, sl, f) Q := by
  refine w_lastore cd_58_10 h11 h12 h13 ?_
  exact w_goto cd_58_11 (by decide) h14
theorem b_58_14 {d : Nat} {Q : (Option Value ⊕ Nat) → mi_H → Prop} (n sl : Nat) (f : Nat → mi_C) {l1 : Nat} {l2 : Int32} {l3 : Int32} {l4 : Int64} {l5 : Nat} {o6 : Option Value} {s7 : Nat} (h8 : Q (.inl (some (.int 1))) (n, sl, f)) : mi_W d 58 14 [some (.ref l1), some (.int l2), some (.int l3), some (.long l4), none, some (.ref l5), o6] [.ref s7] (n, sl, f) Q := by
  refine w_astore (ls' := [some (.ref l1), some (.int l2), some (.int l3), some (.long l4), none, some (.ref l5), some (.ref s7)]) cd_58_14 (Nat.le_of_ble_eq_true rfl) rfl ?_
  refine w_iconst (v := 1) cd_58_16 (by decide) ?_
  exact w_ireturn_i cd_58_17 (by decide +kernel) h8
theorem b_58_18 {d : Nat} {Q : (Option Value ⊕ Nat) → mi_H → Prop} (n sl : Nat) (f : Nat → mi_C) {l1 : Nat} {l2 : Int32} {l3 : Int32} {l4 : Int64} {l5 : Nat} {o6 : Option Value} (h7 : Q (.inl (some (.int 0))) (n, sl, f)) : mi_W d 58 18 [some (.ref l1), some (.int l2), some (.int l3), some (.long l4), none, some (.ref l5), o6] [] (n, sl, f) Q := by
  refine w_iconst (v := 0) cd_58_18 (by decide) ?_
  exact w_ireturn_i cd_58_19 (by decide +kernel) h7
/-! MarloweHostModel.in(JJJ)Z -/
set_option maxRecDepth 100000 in
theorem mq_142 : mt_q 142 = my_142 := rfl
set_option maxRecDepth 100000 in
theorem ci_142 : mt_inc 0 my_142.cd = true := by decide +kernel
theorem cd_142_0 : mt_cd 142 0 = some (.lload_n 0) := mt_cd_of (q := (0, .lload_n 0, 1)) mq_142 ci_142 (List.mem_of_getElem? (i := 0) rfl)
theorem cd_142_1 : mt_cd 142 1 = some (.lload_n 2) := mt_cd_of (q := (1, .lload_n 2, 1)) mq_142 ci_142 (List.mem_of_getElem? (i := 1) rfl)
theorem cd_142_2 : mt_cd 142 2 = some (.lcmp) := mt_cd_of (q := (2, .lcmp, 1)) mq_142 ci_142 (List.mem_of_getElem? (i := 2) rfl)
theorem cd_142_3 : mt_cd 142 3 = some (.ifCond .lt 14) := mt_cd_of (q := (3, .ifCond .lt 14, 3)) mq_142 ci_142 (List.mem_of_getElem? (i := 3) rfl)
theorem cd_142_6 : mt_cd 142 6 = some (.lload_n 0) := mt_cd_of (q := (6, .lload_n 0, 1)) mq_142 ci_142 (List.mem_of_getElem? (i := 4) rfl)
theorem cd_142_7 : mt_cd 142 7 = some (.lload 4) := mt_cd_of (q := (7, .lload 4, 2)) mq_142 ci_142 (List.mem_of_getElem? (i := 5) rfl)
theorem cd_142_9 : mt_cd 142 9 = some (.lcmp) := mt_cd_of (q := (9, .lcmp, 1)) mq_142 ci_142 (List.mem_of_getElem? (i := 6) rfl)
theorem cd_142_10 : mt_cd 142 10 = some (.ifCond .gt 7) := mt_cd_of (q := (10, .ifCond .gt 7, 3)) mq_142 ci_142 (List.mem_of_getElem? (i := 7) rfl)
theorem cd_142_13 : mt_cd 142 13 = some (.iconst 1) := mt_cd_of (q := (13, .iconst 1, 1)) mq_142 ci_142 (List.mem_of_getElem? (i := 8) rfl)
theorem cd_142_14 : mt_cd 142 14 = some (.goto 4) := mt_cd_of (q := (14, .goto 4, 3)) mq_142 ci_142 (List.mem_of_getElem? (i := 9) rfl)
theorem cd_142_17 : mt_cd 142 17 = some (.iconst 0) := mt_cd_of (q := (17, .iconst 0, 1)) mq_142 ci_142 (List.mem_of_getElem? (i := 10) rfl)
theorem cd_142_18 : mt_cd 142 18 = some (.ireturn) := mt_cd_of (q := (18, .ireturn, 1)) mq_142 ci_142 (List.mem_of_getElem? (i := 11) rfl)
theorem b_142_0 {d : Nat} {Q : (Option Value ⊕ Nat) → mi_H → Prop} (n sl : Nat) (f : Nat → mi_C) {l1 : Int64} {l2 : Int64} {l3 : Int64} (h4 : (lg_cmp l1 l2) < (0 : Int32) → mi_W d 142 17 [some (.long l1), none, some (.long l2), none, some (.long l3), none] [] (n, sl, f) Q) (h5 : ¬ ((lg_cmp l1 l2) < (0 : Int32)) → mi_W d 142 6 [some (.long l1), none, some (.long l2), none, some (.long l3), none] [] (n, sl, f) Q) : mi_W d 142 0 [some (.long l1), none, some (.long l2), none, some (.long l3), none] [] (n, sl, f) Q := by
  refine w_lload_n cd_142_0 rfl ?_
  refine w_lload_n cd_142_1 rfl ?_
  refine w_lcmp cd_142_2 ?_
  exact w_iflt cd_142_3 (by decide) h4 h5
theorem b_142_6 {d : Nat} {Q : (Option Value ⊕ Nat) → mi_H → Prop} (n sl : Nat) (f : Nat → mi_C) {l1 : Int64} {l2 : Int64} {l3 : Int64} (h4 : (0 : Int32) < (lg_cmp l1 l3) → mi_W d 142 17 [some (.long l1), none, some (.long l2), none, some (.long l3), none] [] (n, sl, f) Q) (h5 : ¬ ((0 : Int32) < (lg_cmp l1 l3)) → mi_W d 142 13 [some (.long l1), none, some (.long l2), none, some (.long l3), none] [] (n, sl, f) Q) : mi_W d 142 6 [some (.long l1), none, some (.long l2), none, some (.long l3), none] [] (n, sl, f) Q := by
  refine w_lload_n cd_142_6 rfl ?_
  refine w_lload cd_142_7 rfl ?_
  refine w_lcmp cd_142_9 ?_
  exact w_ifgt cd_142_10 (by decide) h4 h5
theorem b_142_13 {d : Nat} {Q : (Option Value ⊕ Nat) → mi_H → Prop} (n sl : Nat) (f : Nat → mi_C) {l1 : Int64} {l2 : Int64} {l3 : Int64} (h4 : mi_W d 142 18 [some (.long l1), none, some (.long l2), none, some (.long l3), none] [.int 1] (n, sl, f) Q) : mi_W d 142 13 [some (.long l1), none, some (.long l2), none, some (.long l3), none] [] (n, sl, f) Q := by
  refine w_iconst (v := 1) cd_142_13 (by decide) ?_
  exact w_goto cd_142_14 (by decide) h4
theorem b_142_17 {d : Nat} {Q : (Option Value ⊕ Nat) → mi_H → Prop} (n sl : Nat) (f : Nat → mi_C) {l1 : Int64} {l2 : Int64} {l3 : Int64} (h4 : mi_W d 142 18 [some (.long l1), none, some (.long l2), none, some (.long l3), none] [.int 0] (n, sl, f) Q) : mi_W d 142 17 [some (.long l1), none, some (.long l2), none, some (.long l3), none] [] (n, sl, f) Q := by
  refine w_iconst (v := 0) cd_142_17 (by decide) ?_
  exact h4
theorem b_142_18 {d : Nat} {Q : (Option Value ⊕ Nat) → mi_H → Prop} (n sl : Nat) (f : Nat → mi_C) {l1 : Int64} {l2 : Int64} {l3 : Int64} {s4 : Int32} (h5 : s4 = 0 ∨ s4 = 1) (h6 : Q (.inl (some (.int s4))) (n, sl, f)) : mi_W d 142 18 [some (.long l1), none, some (.long l2), none, some (.long l3), none] [.int s4] (n, sl, f) Q := by
  exact w_ireturn_z cd_142_18 (by decide +kernel) h5 h6
/-! MarloweHostLaw.remind(LMarloweHost;[J)I -/
set_option maxRecDepth 100000 in
theorem mq_68 : mt_q 68 = my_68 := rfl
set_option maxRecDepth 100000 in
theorem ci_68 : mt_inc 0 my_68.cd = true := by decide +kernel
theorem cd_68_0 : mt_cd 68 0 = some (.aload_n 1) := mt_cd_of (q := (0, .aload_n 1, 1)) mq_68 ci_68 (List.mem_of_getElem? (i := 0) rfl)
theorem cd_68_1 : mt_cd 68 1 = some (.iconst 0) := mt_cd_of (q := (1, .iconst 0, 1)) mq_68 ci_68 (List.mem_of_getElem? (i := 1) rfl)
theorem cd_68_2 : mt_cd 68 2 = some (.aload_n 0) := mt_cd_of (q := (2, .aload_n 0, 1)) mq_68 ci_68 (List.mem_of_getElem? (i := 2) rfl)
theorem cd_68_3 : mt_cd 68 3 = some (.invokevirtual 33) := mt_cd_of (q := (3, .invokevirtual 33, 3)) mq_68 ci_68 (List.mem_of_getElem? (i := 3) rfl)
theorem cd_68_6 : mt_cd 68 6 = some (.i2l) := mt_cd_of (q := (6, .i2l, 1)) mq_68 ci_68 (List.mem_of_getElem? (i := 4) rfl)
theorem cd_68_7 : mt_cd 68 7 = some (.lastore) := mt_cd_of (q := (7, .lastore, 1)) mq_68 ci_68 (List.mem_of_getElem? (i := 5) rfl)
theorem cd_68_8 : mt_cd 68 8 = some (.goto 6) := mt_cd_of (q := (8, .goto 6, 3)) mq_68 ci_68 (List.mem_of_getElem? (i := 6) rfl)
theorem cd_68_11 : mt_cd 68 11 = some (.astore_n 2) := mt_cd_of (q := (11, .astore_n 2, 1)) mq_68 ci_68 (List.mem_of_getElem? (i := 7) rfl)
theorem cd_68_12 : mt_cd 68 12 = some (.iconst 1) := mt_cd_of (q := (12, .iconst 1, 1)) mq_68 ci_68 (List.mem_of_getElem? (i := 8) rfl)
theorem cd_68_13 : mt_cd 68 13 = some (.ireturn) := mt_cd_of (q := (13, .ireturn, 1)) mq_68 ci_68 (List.mem_of_getElem? (i := 9) rfl)
theorem cd_68_14 : mt_cd 68 14 = some (.iconst 0) := mt_cd_of (q := (14, .iconst 0, 1)) mq_68 ci_68 (List.mem_of_getElem? (i := 10) rfl)
theorem cd_68_15 : mt_cd 68 15 = some (.ireturn) := mt_cd_of (q := (15, .ireturn, 1)) mq_68 ci_68 (List.mem_of_getElem? (i := 11) rfl)
theorem b_68_0 {d : Nat} {Q : (Option Value ⊕ Nat) → mi_H → Prop} (n sl : Nat) (f : Nat → mi_C) {l1 : Nat} {l2 : Nat} {o3 : Option Value} {fs4 : List Value} (h5 : f l1 = .inr (0, fs4)) (h6 : l1 < n) (h7 : mi_W d 69 0 (mi_en 1 [.ref l1]) [] (n, sl, f) (mi_Kc d 68 3 [some (.ref l1), some (.ref l2), o3] [.int 0, .ref l2] Q)) : mi_W (d + 1) 68 0 [some (.ref l1), some (.ref l2), o3] [] (n, sl, f) Q := by
  refine w_aload_n cd_68_0 rfl ?_
  refine w_iconst (v := 0) cd_68_1 (by decide) ?_
  refine w_aload_n cd_68_2 rfl ?_
  exact w_invokevirtual cd_68_3 (show mt_m 18 33 = some (69, 0) by decide +kernel) (rest := [.int 0, .ref l2]) rfl (as := [.ref l1]) rfl h5 (Or.inl h6) ⟨Nat.le_of_ble_eq_true rfl, Nat.le_of_ble_eq_true rfl, Nat.le_of_ble_eq_true rfl⟩ h7
theorem b_68_6 {d : Nat} {Q : (Option Value ⊕ Nat) → mi_H → Prop} (n sl : Nat) (f : Nat → mi_C) {l1 : Nat} {l2 : Nat} {o3 : Option Value} {s4 : Int32} {s5 : Int32} {s6 : Nat} (m7 i7 : Nat) (g7 : Nat → Int64) (h8 : f s6 = .inl (3, m7, .inr (.inl g7))) (h9 : s6 < n) (h10 : mi_ix s5 m7 i7) (h11 : mi_W d 68 14 [some (.ref l1), some (.ref l2), o3] [] (n, sl, (va_up f s6 (.inl (3, m7, .inr (.inl (vp_updL g7 i7 ((s4 : Int32).toInt64))))))) Q) : mi_W d 68 6 [some (.ref l1), some (.ref l2), o3] [.int s4, .int s5, .ref s6] (n, sl, f) Q := by
  refine w_i2l cd_68_6 ?_
  refine w_lastore cd_68_7 h8 h9 h10 ?_
  exact w_goto cd_68_8 (by decide) h11
theorem b_68_11 {d : Nat} {Q : (Option Value ⊕ Nat) → mi_H → Prop} (n sl : Nat) (f : Nat → mi_C) {l1 : Nat} {l2 : Nat} {o3 : Option Value} {s4 : Nat} (h5 : Q (.inl (some (.int 1))) (n, sl, f)) : mi_W d 68 11 [some (.ref l1), some (.ref l2), o3] [.ref s4] (n, sl, f) Q := by
  refine w_astore_n (ls' := [some (.ref l1), some (.ref l2), some (.ref s4)]) cd_68_11 (Nat.le_of_ble_eq_true rfl) rfl ?_
  refine w_iconst (v := 1) cd_68_12 (by decide) ?_
  exact w_ireturn_i cd_68_13 (by decide +kernel) h5
theorem b_68_14 {d : Nat} {Q : (Option Value ⊕ Nat) → mi_H → Prop} (n sl : Nat) (f : Nat → mi_C) {l1 : Nat} {l2 : Nat} {o3 : Option Value} (h4 : Q (.inl (some (.int 0))) (n, sl, f)) : mi_W d 68 14 [some (.ref l1), some (.ref l2), o3] [] (n, sl, f) Q := by
  refine w_iconst (v := 0) cd_68_14 (by decide) ?_
  exact w_ireturn_i cd_68_15 (by decide +kernel) h4
/-! MarloweHost.isParty(I)Z -/
set_option maxRecDepth 100000 in
theorem mq_60 : mt_q 60 = my_60 := rfl
set_option maxRecDepth 100000 in
theorem ci_60 : mt_inc 0 my_60.cd = true := by decide +kernel
theorem cd_60_0 : mt_cd 60 0 = some (.iload_n 0) := mt_cd_of (q := (0, .iload_n 0, 1)) mq_60 ci_60 (List.mem_of_getElem? (i := 0) rfl)
theorem cd_60_1 : mt_cd 60 1 = some (.ifCond .lt 13) := mt_cd_of (q := (1, .ifCond .lt 13, 3)) mq_60 ci_60 (List.mem_of_getElem? (i := 1) rfl)
theorem cd_60_4 : mt_cd 60 4 = some (.iload_n 0) := mt_cd_of (q := (4, .iload_n 0, 1)) mq_60 ci_60 (List.mem_of_getElem? (i := 2) rfl)
theorem cd_60_5 : mt_cd 60 5 = some (.bipush 8) := mt_cd_of (q := (5, .bipush 8, 2)) mq_60 ci_60 (List.mem_of_getElem? (i := 3) rfl)
theorem cd_60_7 : mt_cd 60 7 = some (.if_icmp .ge 7) := mt_cd_of (q := (7, .if_icmp .ge 7, 3)) mq_60 ci_60 (List.mem_of_getElem? (i := 4) rfl)
theorem cd_60_10 : mt_cd 60 10 = some (.iconst 1) := mt_cd_of (q := (10, .iconst 1, 1)) mq_60 ci_60 (List.mem_of_getElem? (i := 5) rfl)
theorem cd_60_11 : mt_cd 60 11 = some (.goto 4) := mt_cd_of (q := (11, .goto 4, 3)) mq_60 ci_60 (List.mem_of_getElem? (i := 6) rfl)
theorem cd_60_14 : mt_cd 60 14 = some (.iconst 0) := mt_cd_of (q := (14, .iconst 0, 1)) mq_60 ci_60 (List.mem_of_getElem? (i := 7) rfl)
theorem cd_60_15 : mt_cd 60 15 = some (.ireturn) := mt_cd_of (q := (15, .ireturn, 1)) mq_60 ci_60 (List.mem_of_getElem? (i := 8) rfl)
theorem b_60_0 {d : Nat} {Q : (Option Value ⊕ Nat) → mi_H → Prop} (n sl : Nat) (f : Nat → mi_C) {l1 : Int32} (h2 : l1 < (0 : Int32) → mi_W d 60 14 [some (.int l1)] [] (n, sl, f) Q) (h3 : ¬ (l1 < (0 : Int32)) → mi_W d 60 4 [some (.int l1)] [] (n, sl, f) Q) : mi_W d 60 0 [some (.int l1)] [] (n, sl, f) Q := by
  refine w_iload_n cd_60_0 rfl ?_
  exact w_iflt cd_60_1 (by decide) h2 h3
theorem b_60_4 {d : Nat} {Q : (Option Value ⊕ Nat) → mi_H → Prop} (n sl : Nat) (f : Nat → mi_C) {l1 : Int32} (h2 : 8 ≤ l1 → mi_W d 60 14 [some (.int l1)] [] (n, sl, f) Q) (h3 : ¬ (8 ≤ l1) → mi_W d 60 10 [some (.int l1)] [] (n, sl, f) Q) : mi_W d 60 4 [some (.int l1)] [] (n, sl, f) Q := by
  refine w_iload_n cd_60_4 rfl ?_
  refine w_bipush (v := 8) cd_60_5 (by decide) ?_
  exact w_if_icmpge cd_60_7 (by decide) h2 h3
theorem b_60_10 {d : Nat} {Q : (Option Value ⊕ Nat) → mi_H → Prop} (n sl : Nat) (f : Nat → mi_C) {l1 : Int32} (h2 : mi_W d 60 15 [some (.int l1)] [.int 1] (n, sl, f) Q) : mi_W d 60 10 [some (.int l1)] [] (n, sl, f) Q := by
  refine w_iconst (v := 1) cd_60_10 (by decide) ?_
  exact w_goto cd_60_11 (by decide) h2
theorem b_60_14 {d : Nat} {Q : (Option Value ⊕ Nat) → mi_H → Prop} (n sl : Nat) (f : Nat → mi_C) {l1 : Int32} (h2 : mi_W d 60 15 [some (.int l1)] [.int 0] (n, sl, f) Q) : mi_W d 60 14 [some (.int l1)] [] (n, sl, f) Q := by
  refine w_iconst (v := 0) cd_60_14 (by decide) ?_
  exact h2
theorem b_60_15 {d : Nat} {Q : (Option Value ⊕ Nat) → mi_H → Prop} (n sl : Nat) (f : Nat → mi_C) {l1 : Int32} {s2 : Int32} (h3 : s2 = 0 ∨ s2 = 1) (h4 : Q (.inl (some (.int s2))) (n, sl, f)) : mi_W d 60 15 [some (.int l1)] [.int s2] (n, sl, f) Q := by
  exact w_ireturn_z cd_60_15 (by decide +kernel) h3 h4
/-! MarloweHost.requireContract()V -/
set_option maxRecDepth 100000 in
theorem mq_72 : mt_q 72 = my_72 := rfl
set_option maxRecDepth 100000 in
theorem ci_72 : mt_inc 0 my_72.cd = true := by decide +kernel
theorem cd_72_0 : mt_cd 72 0 = some (.aload_n 0) := mt_cd_of (q := (0, .aload_n 0, 1)) mq_72 ci_72 (List.mem_of_getElem? (i := 0) rfl)
theorem cd_72_1 : mt_cd 72 1 = some (.getfield 94) := mt_cd_of (q := (1, .getfield 94, 3)) mq_72 ci_72 (List.mem_of_getElem? (i := 1) rfl)
theorem cd_72_4 : mt_cd 72 4 = some (.ifCond .ne 13) := mt_cd_of (q := (4, .ifCond .ne 13, 3)) mq_72 ci_72 (List.mem_of_getElem? (i := 2) rfl)
theorem cd_72_7 : mt_cd 72 7 = some (.new 253) := mt_cd_of (q := (7, .new 253, 3)) mq_72 ci_72 (List.mem_of_getElem? (i := 3) rfl)
theorem cd_72_10 : mt_cd 72 10 = some (.dup) := mt_cd_of (q := (10, .dup, 1)) mq_72 ci_72 (List.mem_of_getElem? (i := 4) rfl)
theorem cd_72_11 : mt_cd 72 11 = some (.ldc 255) := mt_cd_of (q := (11, .ldc 255, 2)) mq_72 ci_72 (List.mem_of_getElem? (i := 5) rfl)
theorem cd_72_13 : mt_cd 72 13 = some (.invokespecial 257) := mt_cd_of (q := (13, .invokespecial 257, 3)) mq_72 ci_72 (List.mem_of_getElem? (i := 6) rfl)
theorem cd_72_16 : mt_cd 72 16 = some (.athrow) := mt_cd_of (q := (16, .athrow, 1)) mq_72 ci_72 (List.mem_of_getElem? (i := 7) rfl)
theorem cd_72_17 : mt_cd 72 17 = some (.return_) := mt_cd_of (q := (17, .return_, 1)) mq_72 ci_72 (List.mem_of_getElem? (i := 8) rfl)
theorem b_72_0 {d : Nat} {Q : (Option Value ⊕ Nat) → mi_H → Prop} (n sl : Nat) (f : Nat → mi_C) {l1 : Nat} {fs2 : List Value} {x5 : Int32} (h3 : f l1 = .inr (0, fs2)) (h4 : l1 < n) (h6 : fs2[9]? = some (.int x5)) (h7 : ¬ x5 = (0 : Int32) → mi_W d 72 17 [some (.ref l1)] [] (n, sl, f) Q) (h8 : ¬ (¬ x5 = (0 : Int32)) → mi_W d 72 7 [some (.ref l1)] [] (n, sl, f) Q) : mi_W d 72 0 [some (.ref l1)] [] (n, sl, f) Q := by
  refine w_aload_n cd_72_0 rfl ?_
  refine w_getfield cd_72_1 (show mt_f 0 94 = some (0, 9) by decide +kernel) h3 h4 h6 ?_
  exact w_ifne cd_72_4 (by decide) h7 h8
theorem b_72_7 {d : Nat} {Q : (Option Value ⊕ Nat) → mi_H → Prop} (n sl : Nat) (f : Nat → mi_C) {l1 : Nat} {h' : mi_H} (h2 : mi_t 72 7 (.new 253) [] (n, sl, f) = some h') (h3 : Q (.inr n) h') : mi_W d 72 7 [some (.ref l1)] [] (n, sl, f) Q := by
  exact w_throw cd_72_7 (show mt_c 0 253 = some 16 by decide +kernel) (by decide) h2 h3
theorem b_72_17 {d : Nat} {Q : (Option Value ⊕ Nat) → mi_H → Prop} (n sl : Nat) (f : Nat → mi_C) {l1 : Nat} (h2 : Q (.inl none) (n, sl, f)) : mi_W d 72 17 [some (.ref l1)] [] (n, sl, f) Q := by
  exact w_return cd_72_17 (by decide +kernel) h2
/-! MarloweHost.wrong()I -/
set_option maxRecDepth 100000 in
theorem mq_12 : mt_q 12 = my_12 := rfl
set_option maxRecDepth 100000 in
theorem ci_12 : mt_inc 0 my_12.cd = true := by decide +kernel
theorem cd_12_0 : mt_cd 12 0 = some (.aload_n 0) := mt_cd_of (q := (0, .aload_n 0, 1)) mq_12 ci_12 (List.mem_of_getElem? (i := 0) rfl)
theorem cd_12_1 : mt_cd 12 1 = some (.getfield 28) := mt_cd_of (q := (1, .getfield 28, 3)) mq_12 ci_12 (List.mem_of_getElem? (i := 1) rfl)
theorem cd_12_4 : mt_cd 12 4 = some (.getfield 111) := mt_cd_of (q := (4, .getfield 111, 3)) mq_12 ci_12 (List.mem_of_getElem? (i := 2) rfl)
theorem cd_12_7 : mt_cd 12 7 = some (.ireturn) := mt_cd_of (q := (7, .ireturn, 1)) mq_12 ci_12 (List.mem_of_getElem? (i := 3) rfl)
theorem b_12_0 {d : Nat} {Q : (Option Value ⊕ Nat) → mi_H → Prop} (n sl : Nat) (f : Nat → mi_C) {l1 : Nat} {fs2 : List Value} {x5 : Nat} {fs7 : List Value} {x10 : Int32} (h3 : f l1 = .inr (0, fs2)) (h4 : l1 < n) (h6 : fs2[2]? = some (.ref x5)) (h8 : f x5 = .inr (3, fs7)) (h9 : x5 < n) (h11 : fs7[6]? = some (.int x10)) (h12 : Q (.inl (some (.int x10))) (n, sl, f)) : mi_W d 12 0 [some (.ref l1)] [] (n, sl, f) Q := by
  refine w_aload_n cd_12_0 rfl ?_
  refine w_getfield cd_12_1 (show mt_f 0 28 = some (0, 2) by decide +kernel) h3 h4 h6 ?_
  refine w_getfield cd_12_4 (show mt_f 0 111 = some (3, 6) by decide +kernel) h8 h9 h11 ?_
  exact w_ireturn_i cd_12_7 (by decide +kernel) h12
end
