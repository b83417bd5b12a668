section
/-! MarloweHostModel.outside(I)Z -/
set_option maxRecDepth 100000 in
theorem mq_195 : mt_q 195 = my_195 := rfl
set_option maxRecDepth 100000 in
theorem ci_195 : mt_inc 0 my_195.cd = true := by decide +kernel
theorem cd_195_0 : mt_cd 195 0 = some (.aload_n 0) := mt_cd_of (q := (0, .aload_n 0, 1)) mq_195 ci_195 (List.mem_append_left _ (show _ ∈ my_195_0 from List.mem_of_getElem? (i := 0) rfl))
theorem cd_195_1 : mt_cd 195 1 = some (.getfield 77) := mt_cd_of (q := (1, .getfield 77, 3)) mq_195 ci_195 (List.mem_append_left _ (show _ ∈ my_195_0 from List.mem_of_getElem? (i := 1) rfl))
theorem cd_195_4 : mt_cd 195 4 = some (.iload_n 1) := mt_cd_of (q := (4, .iload_n 1, 1)) mq_195 ci_195 (List.mem_append_left _ (show _ ∈ my_195_0 from List.mem_of_getElem? (i := 2) rfl))
theorem cd_195_5 : mt_cd 195 5 = some (.iaload) := mt_cd_of (q := (5, .iaload, 1)) mq_195 ci_195 (List.mem_append_left _ (show _ ∈ my_195_0 from List.mem_of_getElem? (i := 3) rfl))
theorem cd_195_6 : mt_cd 195 6 = some (.tableswitch 121 0 6 #[42, 44, 44, 76, 121, 44, 44]) := mt_cd_of (q := (6, .tableswitch 121 0 6 #[42, 44, 44, 76, 121, 44, 44], 42)) mq_195 ci_195 (List.mem_append_left _ (show _ ∈ my_195_0 from List.mem_of_getElem? (i := 4) rfl))
theorem cd_195_48 : mt_cd 195 48 = some (.iconst 0) := mt_cd_of (q := (48, .iconst 0, 1)) mq_195 ci_195 (List.mem_append_left _ (show _ ∈ my_195_0 from List.mem_of_getElem? (i := 5) rfl))
theorem cd_195_49 : mt_cd 195 49 = some (.ireturn) := mt_cd_of (q := (49, .ireturn, 1)) mq_195 ci_195 (List.mem_append_left _ (show _ ∈ my_195_0 from List.mem_of_getElem? (i := 6) rfl))
theorem cd_195_50 : mt_cd 195 50 = some (.aload_n 0) := mt_cd_of (q := (50, .aload_n 0, 1)) mq_195 ci_195 (List.mem_append_left _ (show _ ∈ my_195_0 from List.mem_of_getElem? (i := 7) rfl))
theorem cd_195_51 : mt_cd 195 51 = some (.aload_n 0) := mt_cd_of (q := (51, .aload_n 0, 1)) mq_195 ci_195 (List.mem_append_left _ (show _ ∈ my_195_0 from List.mem_of_getElem? (i := 8) rfl))
theorem cd_195_52 : mt_cd 195 52 = some (.getfield 89) := mt_cd_of (q := (52, .getfield 89, 3)) mq_195 ci_195 (List.mem_append_left _ (show _ ∈ my_195_0 from List.mem_of_getElem? (i := 9) rfl))
theorem cd_195_55 : mt_cd 195 55 = some (.iload_n 1) := mt_cd_of (q := (55, .iload_n 1, 1)) mq_195 ci_195 (List.mem_append_left _ (show _ ∈ my_195_0 from List.mem_of_getElem? (i := 10) rfl))
theorem cd_195_56 : mt_cd 195 56 = some (.iaload) := mt_cd_of (q := (56, .iaload, 1)) mq_195 ci_195 (List.mem_append_left _ (show _ ∈ my_195_0 from List.mem_of_getElem? (i := 11) rfl))
theorem cd_195_57 : mt_cd 195 57 = some (.invokevirtual 554) := mt_cd_of (q := (57, .invokevirtual 554, 3)) mq_195 ci_195 (List.mem_append_left _ (show _ ∈ my_195_0 from List.mem_of_getElem? (i := 12) rfl))
theorem cd_195_60 : mt_cd 195 60 = some (.ifCond .ne 16) := mt_cd_of (q := (60, .ifCond .ne 16, 3)) mq_195 ci_195 (List.mem_append_left _ (show _ ∈ my_195_0 from List.mem_of_getElem? (i := 13) rfl))
theorem cd_195_63 : mt_cd 195 63 = some (.aload_n 0) := mt_cd_of (q := (63, .aload_n 0, 1)) mq_195 ci_195 (List.mem_append_left _ (show _ ∈ my_195_0 from List.mem_of_getElem? (i := 14) rfl))
theorem cd_195_64 : mt_cd 195 64 = some (.aload_n 0) := mt_cd_of (q := (64, .aload_n 0, 1)) mq_195 ci_195 (List.mem_append_left _ (show _ ∈ my_195_0 from List.mem_of_getElem? (i := 15) rfl))
theorem cd_195_65 : mt_cd 195 65 = some (.getfield 98) := mt_cd_of (q := (65, .getfield 98, 3)) mq_195 ci_195 (List.mem_append_left _ (show _ ∈ my_195_0 from List.mem_of_getElem? (i := 16) rfl))
theorem cd_195_68 : mt_cd 195 68 = some (.iload_n 1) := mt_cd_of (q := (68, .iload_n 1, 1)) mq_195 ci_195 (List.mem_append_left _ (show _ ∈ my_195_0 from List.mem_of_getElem? (i := 17) rfl))
theorem cd_195_69 : mt_cd 195 69 = some (.iaload) := mt_cd_of (q := (69, .iaload, 1)) mq_195 ci_195 (List.mem_append_left _ (show _ ∈ my_195_0 from List.mem_of_getElem? (i := 18) rfl))
theorem cd_195_70 : mt_cd 195 70 = some (.invokevirtual 557) := mt_cd_of (q := (70, .invokevirtual 557, 3)) mq_195 ci_195 (List.mem_append_left _ (show _ ∈ my_195_0 from List.mem_of_getElem? (i := 19) rfl))
theorem cd_195_73 : mt_cd 195 73 = some (.ifCond .eq 7) := mt_cd_of (q := (73, .ifCond .eq 7, 3)) mq_195 ci_195 (List.mem_append_left _ (show _ ∈ my_195_0 from List.mem_of_getElem? (i := 20) rfl))
theorem cd_195_76 : mt_cd 195 76 = some (.iconst 1) := mt_cd_of (q := (76, .iconst 1, 1)) mq_195 ci_195 (List.mem_append_left _ (show _ ∈ my_195_0 from List.mem_of_getElem? (i := 21) rfl))
theorem cd_195_77 : mt_cd 195 77 = some (.goto 4) := mt_cd_of (q := (77, .goto 4, 3)) mq_195 ci_195 (List.mem_append_left _ (show _ ∈ my_195_0 from List.mem_of_getElem? (i := 22) rfl))
theorem cd_195_80 : mt_cd 195 80 = some (.iconst 0) := mt_cd_of (q := (80, .iconst 0, 1)) mq_195 ci_195 (List.mem_append_left _ (show _ ∈ my_195_0 from List.mem_of_getElem? (i := 23) rfl))
theorem cd_195_81 : mt_cd 195 81 = some (.ireturn) := mt_cd_of (q := (81, .ireturn, 1)) mq_195 ci_195 (List.mem_append_left _ (show _ ∈ my_195_0 from List.mem_of_getElem? (i := 24) rfl))
theorem cd_195_82 : mt_cd 195 82 = some (.aload_n 0) := mt_cd_of (q := (82, .aload_n 0, 1)) mq_195 ci_195 (List.mem_append_left _ (show _ ∈ my_195_0 from List.mem_of_getElem? (i := 25) rfl))
theorem cd_195_83 : mt_cd 195 83 = some (.aload_n 0) := mt_cd_of (q := (83, .aload_n 0, 1)) mq_195 ci_195 (List.mem_append_left _ (show _ ∈ my_195_0 from List.mem_of_getElem? (i := 26) rfl))
theorem cd_195_84 : mt_cd 195 84 = some (.getfield 89) := mt_cd_of (q := (84, .getfield 89, 3)) mq_195 ci_195 (List.mem_append_left _ (show _ ∈ my_195_0 from List.mem_of_getElem? (i := 27) rfl))
theorem cd_195_87 : mt_cd 195 87 = some (.iload_n 1) := mt_cd_of (q := (87, .iload_n 1, 1)) mq_195 ci_195 (List.mem_append_left _ (show _ ∈ my_195_0 from List.mem_of_getElem? (i := 28) rfl))
theorem cd_195_88 : mt_cd 195 88 = some (.iaload) := mt_cd_of (q := (88, .iaload, 1)) mq_195 ci_195 (List.mem_append_left _ (show _ ∈ my_195_0 from List.mem_of_getElem? (i := 29) rfl))
theorem cd_195_89 : mt_cd 195 89 = some (.invokevirtual 554) := mt_cd_of (q := (89, .invokevirtual 554, 3)) mq_195 ci_195 (List.mem_append_left _ (show _ ∈ my_195_0 from List.mem_of_getElem? (i := 30) rfl))
theorem cd_195_92 : mt_cd 195 92 = some (.ifCond .ne 29) := mt_cd_of (q := (92, .ifCond .ne 29, 3)) mq_195 ci_195 (List.mem_append_left _ (show _ ∈ my_195_0 from List.mem_of_getElem? (i := 31) rfl))
theorem cd_195_95 : mt_cd 195 95 = some (.aload_n 0) := mt_cd_of (q := (95, .aload_n 0, 1)) mq_195 ci_195 (List.mem_append_left _ (show _ ∈ my_195_0 from List.mem_of_getElem? (i := 32) rfl))
theorem cd_195_96 : mt_cd 195 96 = some (.aload_n 0) := mt_cd_of (q := (96, .aload_n 0, 1)) mq_195 ci_195 (List.mem_append_left _ (show _ ∈ my_195_0 from List.mem_of_getElem? (i := 33) rfl))
theorem cd_195_97 : mt_cd 195 97 = some (.getfield 80) := mt_cd_of (q := (97, .getfield 80, 3)) mq_195 ci_195 (List.mem_append_left _ (show _ ∈ my_195_0 from List.mem_of_getElem? (i := 34) rfl))
theorem cd_195_100 : mt_cd 195 100 = some (.iload_n 1) := mt_cd_of (q := (100, .iload_n 1, 1)) mq_195 ci_195 (List.mem_append_left _ (show _ ∈ my_195_0 from List.mem_of_getElem? (i := 35) rfl))
theorem cd_195_101 : mt_cd 195 101 = some (.iaload) := mt_cd_of (q := (101, .iaload, 1)) mq_195 ci_195 (List.mem_append_left _ (show _ ∈ my_195_0 from List.mem_of_getElem? (i := 36) rfl))
theorem cd_195_102 : mt_cd 195 102 = some (.invokevirtual 557) := mt_cd_of (q := (102, .invokevirtual 557, 3)) mq_195 ci_195 (List.mem_append_left _ (show _ ∈ my_195_0 from List.mem_of_getElem? (i := 37) rfl))
theorem cd_195_105 : mt_cd 195 105 = some (.ifCond .ne 16) := mt_cd_of (q := (105, .ifCond .ne 16, 3)) mq_195 ci_195 (List.mem_append_left _ (show _ ∈ my_195_0 from List.mem_of_getElem? (i := 38) rfl))
theorem cd_195_108 : mt_cd 195 108 = some (.aload_n 0) := mt_cd_of (q := (108, .aload_n 0, 1)) mq_195 ci_195 (List.mem_append_left _ (show _ ∈ my_195_0 from List.mem_of_getElem? (i := 39) rfl))
theorem cd_195_109 : mt_cd 195 109 = some (.aload_n 0) := mt_cd_of (q := (109, .aload_n 0, 1)) mq_195 ci_195 (List.mem_append_left _ (show _ ∈ my_195_0 from List.mem_of_getElem? (i := 40) rfl))
theorem cd_195_110 : mt_cd 195 110 = some (.getfield 83) := mt_cd_of (q := (110, .getfield 83, 3)) mq_195 ci_195 (List.mem_append_left _ (show _ ∈ my_195_0 from List.mem_of_getElem? (i := 41) rfl))
theorem cd_195_113 : mt_cd 195 113 = some (.iload_n 1) := mt_cd_of (q := (113, .iload_n 1, 1)) mq_195 ci_195 (List.mem_append_left _ (show _ ∈ my_195_0 from List.mem_of_getElem? (i := 42) rfl))
theorem cd_195_114 : mt_cd 195 114 = some (.iaload) := mt_cd_of (q := (114, .iaload, 1)) mq_195 ci_195 (List.mem_append_left _ (show _ ∈ my_195_0 from List.mem_of_getElem? (i := 43) rfl))
theorem cd_195_115 : mt_cd 195 115 = some (.invokevirtual 557) := mt_cd_of (q := (115, .invokevirtual 557, 3)) mq_195 ci_195 (List.mem_append_left _ (show _ ∈ my_195_0 from List.mem_of_getElem? (i := 44) rfl))
theorem cd_195_118 : mt_cd 195 118 = some (.ifCond .eq 7) := mt_cd_of (q := (118, .ifCond .eq 7, 3)) mq_195 ci_195 (List.mem_append_left _ (show _ ∈ my_195_0 from List.mem_of_getElem? (i := 45) rfl))
theorem cd_195_121 : mt_cd 195 121 = some (.iconst 1) := mt_cd_of (q := (121, .iconst 1, 1)) mq_195 ci_195 (List.mem_append_left _ (show _ ∈ my_195_0 from List.mem_of_getElem? (i := 46) rfl))
theorem cd_195_122 : mt_cd 195 122 = some (.goto 4) := mt_cd_of (q := (122, .goto 4, 3)) mq_195 ci_195 (List.mem_append_left _ (show _ ∈ my_195_0 from List.mem_of_getElem? (i := 47) rfl))
theorem cd_195_125 : mt_cd 195 125 = some (.iconst 0) := mt_cd_of (q := (125, .iconst 0, 1)) mq_195 ci_195 (List.mem_append_left _ (show _ ∈ my_195_0 from List.mem_of_getElem? (i := 48) rfl))
theorem cd_195_126 : mt_cd 195 126 = some (.ireturn) := mt_cd_of (q := (126, .ireturn, 1)) mq_195 ci_195 (List.mem_append_left _ (show _ ∈ my_195_0 from List.mem_of_getElem? (i := 49) rfl))
theorem cd_195_127 : mt_cd 195 127 = some (.aload_n 0) := mt_cd_of (q := (127, .aload_n 0, 1)) mq_195 ci_195 (List.mem_append_left _ (show _ ∈ my_195_0 from List.mem_of_getElem? (i := 50) rfl))
theorem cd_195_128 : mt_cd 195 128 = some (.getfield 92) := mt_cd_of (q := (128, .getfield 92, 3)) mq_195 ci_195 (List.mem_append_left _ (show _ ∈ my_195_0 from List.mem_of_getElem? (i := 51) rfl))
theorem cd_195_131 : mt_cd 195 131 = some (.iload_n 1) := mt_cd_of (q := (131, .iload_n 1, 1)) mq_195 ci_195 (List.mem_append_left _ (show _ ∈ my_195_0 from List.mem_of_getElem? (i := 52) rfl))
theorem cd_195_132 : mt_cd 195 132 = some (.iaload) := mt_cd_of (q := (132, .iaload, 1)) mq_195 ci_195 (List.mem_append_left _ (show _ ∈ my_195_0 from List.mem_of_getElem? (i := 53) rfl))
theorem cd_195_133 : mt_cd 195 133 = some (.istore_n 2) := mt_cd_of (q := (133, .istore_n 2, 1)) mq_195 ci_195 (List.mem_append_left _ (show _ ∈ my_195_0 from List.mem_of_getElem? (i := 54) rfl))
theorem cd_195_134 : mt_cd 195 134 = some (.iload_n 2) := mt_cd_of (q := (134, .iload_n 2, 1)) mq_195 ci_195 (List.mem_append_left _ (show _ ∈ my_195_0 from List.mem_of_getElem? (i := 55) rfl))
theorem cd_195_135 : mt_cd 195 135 = some (.ifCond .lt 138) := mt_cd_of (q := (135, .ifCond .lt 138, 3)) mq_195 ci_195 (List.mem_append_left _ (show _ ∈ my_195_0 from List.mem_of_getElem? (i := 56) rfl))
theorem cd_195_138 : mt_cd 195 138 = some (.aload_n 0) := mt_cd_of (q := (138, .aload_n 0, 1)) mq_195 ci_195 (List.mem_append_left _ (show _ ∈ my_195_0 from List.mem_of_getElem? (i := 57) rfl))
theorem cd_195_139 : mt_cd 195 139 = some (.getfield 77) := mt_cd_of (q := (139, .getfield 77, 3)) mq_195 ci_195 (List.mem_append_left _ (show _ ∈ my_195_0 from List.mem_of_getElem? (i := 58) rfl))
theorem cd_195_142 : mt_cd 195 142 = some (.iload_n 2) := mt_cd_of (q := (142, .iload_n 2, 1)) mq_195 ci_195 (List.mem_append_left _ (show _ ∈ my_195_0 from List.mem_of_getElem? (i := 59) rfl))
theorem cd_195_143 : mt_cd 195 143 = some (.iaload) := mt_cd_of (q := (143, .iaload, 1)) mq_195 ci_195 (List.mem_append_right _ (List.mem_append_left _ (show _ ∈ my_195_1 from List.mem_of_getElem? (i := 0) rfl)))
theorem cd_195_144 : mt_cd 195 144 = some (.bipush 8) := mt_cd_of (q := (144, .bipush 8, 2)) mq_195 ci_195 (List.mem_append_right _ (List.mem_append_left _ (show _ ∈ my_195_1 from List.mem_of_getElem? (i := 1) rfl)))
theorem cd_195_146 : mt_cd 195 146 = some (.if_icmp .eq 16) := mt_cd_of (q := (146, .if_icmp .eq 16, 3)) mq_195 ci_195 (List.mem_append_right _ (List.mem_append_left _ (show _ ∈ my_195_1 from List.mem_of_getElem? (i := 2) rfl)))
theorem cd_195_149 : mt_cd 195 149 = some (.aload_n 0) := mt_cd_of (q := (149, .aload_n 0, 1)) mq_195 ci_195 (List.mem_append_right _ (List.mem_append_left _ (show _ ∈ my_195_1 from List.mem_of_getElem? (i := 3) rfl)))
theorem cd_195_150 : mt_cd 195 150 = some (.aload_n 0) := mt_cd_of (q := (150, .aload_n 0, 1)) mq_195 ci_195 (List.mem_append_right _ (List.mem_append_left _ (show _ ∈ my_195_1 from List.mem_of_getElem? (i := 4) rfl)))
theorem cd_195_151 : mt_cd 195 151 = some (.getfield 89) := mt_cd_of (q := (151, .getfield 89, 3)) mq_195 ci_195 (List.mem_append_right _ (List.mem_append_left _ (show _ ∈ my_195_1 from List.mem_of_getElem? (i := 5) rfl)))
theorem cd_195_154 : mt_cd 195 154 = some (.iload_n 2) := mt_cd_of (q := (154, .iload_n 2, 1)) mq_195 ci_195 (List.mem_append_right _ (List.mem_append_left _ (show _ ∈ my_195_1 from List.mem_of_getElem? (i := 6) rfl)))
theorem cd_195_155 : mt_cd 195 155 = some (.iaload) := mt_cd_of (q := (155, .iaload, 1)) mq_195 ci_195 (List.mem_append_right _ (List.mem_append_left _ (show _ ∈ my_195_1 from List.mem_of_getElem? (i := 7) rfl)))
theorem cd_195_156 : mt_cd 195 156 = some (.invokevirtual 554) := mt_cd_of (q := (156, .invokevirtual 554, 3)) mq_195 ci_195 (List.mem_append_right _ (List.mem_append_left _ (show _ ∈ my_195_1 from List.mem_of_getElem? (i := 8) rfl)))
theorem cd_195_159 : mt_cd 195 159 = some (.ifCond .ne 16) := mt_cd_of (q := (159, .ifCond .ne 16, 3)) mq_195 ci_195 (List.mem_append_right _ (List.mem_append_left _ (show _ ∈ my_195_1 from List.mem_of_getElem? (i := 9) rfl)))
theorem cd_195_162 : mt_cd 195 162 = some (.aload_n 0) := mt_cd_of (q := (162, .aload_n 0, 1)) mq_195 ci_195 (List.mem_append_right _ (List.mem_append_left _ (show _ ∈ my_195_1 from List.mem_of_getElem? (i := 10) rfl)))
theorem cd_195_163 : mt_cd 195 163 = some (.aload_n 0) := mt_cd_of (q := (163, .aload_n 0, 1)) mq_195 ci_195 (List.mem_append_right _ (List.mem_append_left _ (show _ ∈ my_195_1 from List.mem_of_getElem? (i := 11) rfl)))
theorem cd_195_164 : mt_cd 195 164 = some (.getfield 98) := mt_cd_of (q := (164, .getfield 98, 3)) mq_195 ci_195 (List.mem_append_right _ (List.mem_append_left _ (show _ ∈ my_195_1 from List.mem_of_getElem? (i := 12) rfl)))
theorem cd_195_167 : mt_cd 195 167 = some (.iload_n 2) := mt_cd_of (q := (167, .iload_n 2, 1)) mq_195 ci_195 (List.mem_append_right _ (List.mem_append_left _ (show _ ∈ my_195_1 from List.mem_of_getElem? (i := 13) rfl)))
theorem cd_195_168 : mt_cd 195 168 = some (.iaload) := mt_cd_of (q := (168, .iaload, 1)) mq_195 ci_195 (List.mem_append_right _ (List.mem_append_left _ (show _ ∈ my_195_1 from List.mem_of_getElem? (i := 14) rfl)))
theorem cd_195_169 : mt_cd 195 169 = some (.invokevirtual 557) := mt_cd_of (q := (169, .invokevirtual 557, 3)) mq_195 ci_195 (List.mem_append_right _ (List.mem_append_left _ (show _ ∈ my_195_1 from List.mem_of_getElem? (i := 15) rfl)))
theorem cd_195_172 : mt_cd 195 172 = some (.ifCond .eq 5) := mt_cd_of (q := (172, .ifCond .eq 5, 3)) mq_195 ci_195 (List.mem_append_right _ (List.mem_append_left _ (show _ ∈ my_195_1 from List.mem_of_getElem? (i := 16) rfl)))
theorem cd_195_175 : mt_cd 195 175 = some (.iconst 1) := mt_cd_of (q := (175, .iconst 1, 1)) mq_195 ci_195 (List.mem_append_right _ (List.mem_append_left _ (show _ ∈ my_195_1 from List.mem_of_getElem? (i := 17) rfl)))
theorem cd_195_176 : mt_cd 195 176 = some (.ireturn) := mt_cd_of (q := (176, .ireturn, 1)) mq_195 ci_195 (List.mem_append_right _ (List.mem_append_left _ (show _ ∈ my_195_1 from List.mem_of_getElem? (i := 18) rfl)))
theorem cd_195_177 : mt_cd 195 177 = some (.aload_n 0) := mt_cd_of (q := (177, .aload_n 0, 1)) mq_195 ci_195 (List.mem_append_right _ (List.mem_append_left _ (show _ ∈ my_195_1 from List.mem_of_getElem? (i := 19) rfl)))
theorem cd_195_178 : mt_cd 195 178 = some (.getfield 77) := mt_cd_of (q := (178, .getfield 77, 3)) mq_195 ci_195 (List.mem_append_right _ (List.mem_append_left _ (show _ ∈ my_195_1 from List.mem_of_getElem? (i := 20) rfl)))
theorem cd_195_181 : mt_cd 195 181 = some (.iload_n 2) := mt_cd_of (q := (181, .iload_n 2, 1)) mq_195 ci_195 (List.mem_append_right _ (List.mem_append_left _ (show _ ∈ my_195_1 from List.mem_of_getElem? (i := 21) rfl)))
theorem cd_195_182 : mt_cd 195 182 = some (.iaload) := mt_cd_of (q := (182, .iaload, 1)) mq_195 ci_195 (List.mem_append_right _ (List.mem_append_left _ (show _ ∈ my_195_1 from List.mem_of_getElem? (i := 22) rfl)))
theorem cd_195_183 : mt_cd 195 183 = some (.bipush 8) := mt_cd_of (q := (183, .bipush 8, 2)) mq_195 ci_195 (List.mem_append_right _ (List.mem_append_left _ (show _ ∈ my_195_1 from List.mem_of_getElem? (i := 23) rfl)))
theorem cd_195_185 : mt_cd 195 185 = some (.if_icmp .eq 6) := mt_cd_of (q := (185, .if_icmp .eq 6, 3)) mq_195 ci_195 (List.mem_append_right _ (List.mem_append_left _ (show _ ∈ my_195_1 from List.mem_of_getElem? (i := 24) rfl)))
theorem cd_195_188 : mt_cd 195 188 = some (.goto 75) := mt_cd_of (q := (188, .goto 75, 3)) mq_195 ci_195 (List.mem_append_right _ (List.mem_append_left _ (show _ ∈ my_195_1 from List.mem_of_getElem? (i := 25) rfl)))
theorem cd_195_191 : mt_cd 195 191 = some (.lconst 0) := mt_cd_of (q := (191, .lconst 0, 1)) mq_195 ci_195 (List.mem_append_right _ (List.mem_append_left _ (show _ ∈ my_195_1 from List.mem_of_getElem? (i := 26) rfl)))
theorem cd_195_192 : mt_cd 195 192 = some (.lstore_n 3) := mt_cd_of (q := (192, .lstore_n 3, 1)) mq_195 ci_195 (List.mem_append_right _ (List.mem_append_left _ (show _ ∈ my_195_1 from List.mem_of_getElem? (i := 27) rfl)))
theorem cd_195_193 : mt_cd 195 193 = some (.aload_n 0) := mt_cd_of (q := (193, .aload_n 0, 1)) mq_195 ci_195 (List.mem_append_right _ (List.mem_append_left _ (show _ ∈ my_195_1 from List.mem_of_getElem? (i := 28) rfl)))
theorem cd_195_194 : mt_cd 195 194 = some (.getfield 141) := mt_cd_of (q := (194, .getfield 141, 3)) mq_195 ci_195 (List.mem_append_right _ (List.mem_append_left _ (show _ ∈ my_195_1 from List.mem_of_getElem? (i := 29) rfl)))
theorem cd_195_197 : mt_cd 195 197 = some (.iload_n 2) := mt_cd_of (q := (197, .iload_n 2, 1)) mq_195 ci_195 (List.mem_append_right _ (List.mem_append_left _ (show _ ∈ my_195_1 from List.mem_of_getElem? (i := 30) rfl)))
theorem cd_195_198 : mt_cd 195 198 = some (.iaload) := mt_cd_of (q := (198, .iaload, 1)) mq_195 ci_195 (List.mem_append_right _ (List.mem_append_left _ (show _ ∈ my_195_1 from List.mem_of_getElem? (i := 31) rfl)))
theorem cd_195_199 : mt_cd 195 199 = some (.istore 5) := mt_cd_of (q := (199, .istore 5, 2)) mq_195 ci_195 (List.mem_append_right _ (List.mem_append_left _ (show _ ∈ my_195_1 from List.mem_of_getElem? (i := 32) rfl)))
theorem cd_195_201 : mt_cd 195 201 = some (.iload 5) := mt_cd_of (q := (201, .iload 5, 2)) mq_195 ci_195 (List.mem_append_right _ (List.mem_append_left _ (show _ ∈ my_195_1 from List.mem_of_getElem? (i := 33) rfl)))
theorem cd_195_203 : mt_cd 195 203 = some (.aload_n 0) := mt_cd_of (q := (203, .aload_n 0, 1)) mq_195 ci_195 (List.mem_append_right _ (List.mem_append_left _ (show _ ∈ my_195_1 from List.mem_of_getElem? (i := 34) rfl)))
theorem cd_195_204 : mt_cd 195 204 = some (.getfield 141) := mt_cd_of (q := (204, .getfield 141, 3)) mq_195 ci_195 (List.mem_append_right _ (List.mem_append_left _ (show _ ∈ my_195_1 from List.mem_of_getElem? (i := 35) rfl)))
theorem cd_195_207 : mt_cd 195 207 = some (.iload_n 2) := mt_cd_of (q := (207, .iload_n 2, 1)) mq_195 ci_195 (List.mem_append_right _ (List.mem_append_left _ (show _ ∈ my_195_1 from List.mem_of_getElem? (i := 36) rfl)))
theorem cd_195_208 : mt_cd 195 208 = some (.iaload) := mt_cd_of (q := (208, .iaload, 1)) mq_195 ci_195 (List.mem_append_right _ (List.mem_append_left _ (show _ ∈ my_195_1 from List.mem_of_getElem? (i := 37) rfl)))
theorem cd_195_209 : mt_cd 195 209 = some (.aload_n 0) := mt_cd_of (q := (209, .aload_n 0, 1)) mq_195 ci_195 (List.mem_append_right _ (List.mem_append_left _ (show _ ∈ my_195_1 from List.mem_of_getElem? (i := 38) rfl)))
theorem cd_195_210 : mt_cd 195 210 = some (.getfield 95) := mt_cd_of (q := (210, .getfield 95, 3)) mq_195 ci_195 (List.mem_append_right _ (List.mem_append_left _ (show _ ∈ my_195_1 from List.mem_of_getElem? (i := 39) rfl)))
theorem cd_195_213 : mt_cd 195 213 = some (.iload_n 2) := mt_cd_of (q := (213, .iload_n 2, 1)) mq_195 ci_195 (List.mem_append_right _ (List.mem_append_left _ (show _ ∈ my_195_1 from List.mem_of_getElem? (i := 40) rfl)))
theorem cd_195_214 : mt_cd 195 214 = some (.iaload) := mt_cd_of (q := (214, .iaload, 1)) mq_195 ci_195 (List.mem_append_right _ (List.mem_append_left _ (show _ ∈ my_195_1 from List.mem_of_getElem? (i := 41) rfl)))
theorem cd_195_215 : mt_cd 195 215 = some (.iadd) := mt_cd_of (q := (215, .iadd, 1)) mq_195 ci_195 (List.mem_append_right _ (List.mem_append_left _ (show _ ∈ my_195_1 from List.mem_of_getElem? (i := 42) rfl)))
theorem cd_195_216 : mt_cd 195 216 = some (.if_icmp .ge 37) := mt_cd_of (q := (216, .if_icmp .ge 37, 3)) mq_195 ci_195 (List.mem_append_right _ (List.mem_append_left _ (show _ ∈ my_195_1 from List.mem_of_getElem? (i := 43) rfl)))
theorem cd_195_219 : mt_cd 195 219 = some (.lload_n 3) := mt_cd_of (q := (219, .lload_n 3, 1)) mq_195 ci_195 (List.mem_append_right _ (List.mem_append_left _ (show _ ∈ my_195_1 from List.mem_of_getElem? (i := 44) rfl)))
theorem cd_195_220 : mt_cd 195 220 = some (.ldc2_w 560) := mt_cd_of (q := (220, .ldc2_w 560, 3)) mq_195 ci_195 (List.mem_append_right _ (List.mem_append_left _ (show _ ∈ my_195_1 from List.mem_of_getElem? (i := 45) rfl)))
theorem cd_195_223 : mt_cd 195 223 = some (.lcmp) := mt_cd_of (q := (223, .lcmp, 1)) mq_195 ci_195 (List.mem_append_right _ (List.mem_append_left _ (show _ ∈ my_195_1 from List.mem_of_getElem? (i := 46) rfl)))
theorem cd_195_224 : mt_cd 195 224 = some (.ifCond .gt 29) := mt_cd_of (q := (224, .ifCond .gt 29, 3)) mq_195 ci_195 (List.mem_append_right _ (List.mem_append_left _ (show _ ∈ my_195_1 from List.mem_of_getElem? (i := 47) rfl)))
theorem cd_195_227 : mt_cd 195 227 = some (.lload_n 3) := mt_cd_of (q := (227, .lload_n 3, 1)) mq_195 ci_195 (List.mem_append_right _ (List.mem_append_left _ (show _ ∈ my_195_1 from List.mem_of_getElem? (i := 48) rfl)))
theorem cd_195_228 : mt_cd 195 228 = some (.aload_n 0) := mt_cd_of (q := (228, .aload_n 0, 1)) mq_195 ci_195 (List.mem_append_right _ (List.mem_append_left _ (show _ ∈ my_195_1 from List.mem_of_getElem? (i := 49) rfl)))
theorem cd_195_229 : mt_cd 195 229 = some (.getfield 108) := mt_cd_of (q := (229, .getfield 108, 3)) mq_195 ci_195 (List.mem_append_right _ (List.mem_append_left _ (show _ ∈ my_195_1 from List.mem_of_getElem? (i := 50) rfl)))
theorem cd_195_232 : mt_cd 195 232 = some (.iload 5) := mt_cd_of (q := (232, .iload 5, 2)) mq_195 ci_195 (List.mem_append_right _ (List.mem_append_left _ (show _ ∈ my_195_1 from List.mem_of_getElem? (i := 51) rfl)))
theorem cd_195_234 : mt_cd 195 234 = some (.laload) := mt_cd_of (q := (234, .laload, 1)) mq_195 ci_195 (List.mem_append_right _ (List.mem_append_left _ (show _ ∈ my_195_1 from List.mem_of_getElem? (i := 52) rfl)))
theorem cd_195_235 : mt_cd 195 235 = some (.aload_n 0) := mt_cd_of (q := (235, .aload_n 0, 1)) mq_195 ci_195 (List.mem_append_right _ (List.mem_append_left _ (show _ ∈ my_195_1 from List.mem_of_getElem? (i := 53) rfl)))
theorem cd_195_236 : mt_cd 195 236 = some (.getfield 105) := mt_cd_of (q := (236, .getfield 105, 3)) mq_195 ci_195 (List.mem_append_right _ (List.mem_append_left _ (show _ ∈ my_195_1 from List.mem_of_getElem? (i := 54) rfl)))
theorem cd_195_239 : mt_cd 195 239 = some (.iload 5) := mt_cd_of (q := (239, .iload 5, 2)) mq_195 ci_195 (List.mem_append_right _ (List.mem_append_left _ (show _ ∈ my_195_1 from List.mem_of_getElem? (i := 55) rfl)))
theorem cd_195_241 : mt_cd 195 241 = some (.laload) := mt_cd_of (q := (241, .laload, 1)) mq_195 ci_195 (List.mem_append_right _ (List.mem_append_left _ (show _ ∈ my_195_1 from List.mem_of_getElem? (i := 56) rfl)))
theorem cd_195_242 : mt_cd 195 242 = some (.lsub) := mt_cd_of (q := (242, .lsub, 1)) mq_195 ci_195 (List.mem_append_right _ (List.mem_append_left _ (show _ ∈ my_195_1 from List.mem_of_getElem? (i := 57) rfl)))
theorem cd_195_243 : mt_cd 195 243 = some (.lconst 1) := mt_cd_of (q := (243, .lconst 1, 1)) mq_195 ci_195 (List.mem_append_right _ (List.mem_append_left _ (show _ ∈ my_195_1 from List.mem_of_getElem? (i := 58) rfl)))
theorem cd_195_244 : mt_cd 195 244 = some (.ladd) := mt_cd_of (q := (244, .ladd, 1)) mq_195 ci_195 (List.mem_append_right _ (List.mem_append_left _ (show _ ∈ my_195_1 from List.mem_of_getElem? (i := 59) rfl)))
theorem cd_195_245 : mt_cd 195 245 = some (.ladd) := mt_cd_of (q := (245, .ladd, 1)) mq_195 ci_195 (List.mem_append_right _ (List.mem_append_right _ ((show _ ∈ my_195_2 from List.mem_of_getElem? (i := 0) rfl))))
theorem cd_195_246 : mt_cd 195 246 = some (.lstore_n 3) := mt_cd_of (q := (246, .lstore_n 3, 1)) mq_195 ci_195 (List.mem_append_right _ (List.mem_append_right _ ((show _ ∈ my_195_2 from List.mem_of_getElem? (i := 1) rfl))))
theorem cd_195_247 : mt_cd 195 247 = some (.iinc 5 1) := mt_cd_of (q := (247, .iinc 5 1, 3)) mq_195 ci_195 (List.mem_append_right _ (List.mem_append_right _ ((show _ ∈ my_195_2 from List.mem_of_getElem? (i := 2) rfl))))
theorem cd_195_250 : mt_cd 195 250 = some (.goto (-49)) := mt_cd_of (q := (250, .goto (-49), 3)) mq_195 ci_195 (List.mem_append_right _ (List.mem_append_right _ ((show _ ∈ my_195_2 from List.mem_of_getElem? (i := 3) rfl))))
theorem cd_195_253 : mt_cd 195 253 = some (.lload_n 3) := mt_cd_of (q := (253, .lload_n 3, 1)) mq_195 ci_195 (List.mem_append_right _ (List.mem_append_right _ ((show _ ∈ my_195_2 from List.mem_of_getElem? (i := 4) rfl))))
theorem cd_195_254 : mt_cd 195 254 = some (.ldc2_w 560) := mt_cd_of (q := (254, .ldc2_w 560, 3)) mq_195 ci_195 (List.mem_append_right _ (List.mem_append_right _ ((show _ ∈ my_195_2 from List.mem_of_getElem? (i := 5) rfl))))
theorem cd_195_257 : mt_cd 195 257 = some (.lcmp) := mt_cd_of (q := (257, .lcmp, 1)) mq_195 ci_195 (List.mem_append_right _ (List.mem_append_right _ ((show _ ∈ my_195_2 from List.mem_of_getElem? (i := 6) rfl))))
theorem cd_195_258 : mt_cd 195 258 = some (.ifCond .le 5) := mt_cd_of (q := (258, .ifCond .le 5, 3)) mq_195 ci_195 (List.mem_append_right _ (List.mem_append_right _ ((show _ ∈ my_195_2 from List.mem_of_getElem? (i := 7) rfl))))
theorem cd_195_261 : mt_cd 195 261 = some (.iconst 1) := mt_cd_of (q := (261, .iconst 1, 1)) mq_195 ci_195 (List.mem_append_right _ (List.mem_append_right _ ((show _ ∈ my_195_2 from List.mem_of_getElem? (i := 8) rfl))))
theorem cd_195_262 : mt_cd 195 262 = some (.ireturn) := mt_cd_of (q := (262, .ireturn, 1)) mq_195 ci_195 (List.mem_append_right _ (List.mem_append_right _ ((show _ ∈ my_195_2 from List.mem_of_getElem? (i := 9) rfl))))
theorem cd_195_263 : mt_cd 195 263 = some (.aload_n 0) := mt_cd_of (q := (263, .aload_n 0, 1)) mq_195 ci_195 (List.mem_append_right _ (List.mem_append_right _ ((show _ ∈ my_195_2 from List.mem_of_getElem? (i := 10) rfl))))
theorem cd_195_264 : mt_cd 195 264 = some (.getfield 138) := mt_cd_of (q := (264, .getfield 138, 3)) mq_195 ci_195 (List.mem_append_right _ (List.mem_append_right _ ((show _ ∈ my_195_2 from List.mem_of_getElem? (i := 11) rfl))))
theorem cd_195_267 : mt_cd 195 267 = some (.iload_n 2) := mt_cd_of (q := (267, .iload_n 2, 1)) mq_195 ci_195 (List.mem_append_right _ (List.mem_append_right _ ((show _ ∈ my_195_2 from List.mem_of_getElem? (i := 12) rfl))))
theorem cd_195_268 : mt_cd 195 268 = some (.iaload) := mt_cd_of (q := (268, .iaload, 1)) mq_195 ci_195 (List.mem_append_right _ (List.mem_append_right _ ((show _ ∈ my_195_2 from List.mem_of_getElem? (i := 13) rfl))))
theorem cd_195_269 : mt_cd 195 269 = some (.istore_n 2) := mt_cd_of (q := (269, .istore_n 2, 1)) mq_195 ci_195 (List.mem_append_right _ (List.mem_append_right _ ((show _ ∈ my_195_2 from List.mem_of_getElem? (i := 14) rfl))))
theorem cd_195_270 : mt_cd 195 270 = some (.goto (-136)) := mt_cd_of (q := (270, .goto (-136), 3)) mq_195 ci_195 (List.mem_append_right _ (List.mem_append_right _ ((show _ ∈ my_195_2 from List.mem_of_getElem? (i := 15) rfl))))
theorem cd_195_273 : mt_cd 195 273 = some (.aload_n 0) := mt_cd_of (q := (273, .aload_n 0, 1)) mq_195 ci_195 (List.mem_append_right _ (List.mem_append_right _ ((show _ ∈ my_195_2 from List.mem_of_getElem? (i := 16) rfl))))
theorem cd_195_274 : mt_cd 195 274 = some (.aload_n 0) := mt_cd_of (q := (274, .aload_n 0, 1)) mq_195 ci_195 (List.mem_append_right _ (List.mem_append_right _ ((show _ ∈ my_195_2 from List.mem_of_getElem? (i := 17) rfl))))
theorem cd_195_275 : mt_cd 195 275 = some (.getfield 98) := mt_cd_of (q := (275, .getfield 98, 3)) mq_195 ci_195 (List.mem_append_right _ (List.mem_append_right _ ((show _ ∈ my_195_2 from List.mem_of_getElem? (i := 18) rfl))))
theorem cd_195_278 : mt_cd 195 278 = some (.iload_n 1) := mt_cd_of (q := (278, .iload_n 1, 1)) mq_195 ci_195 (List.mem_append_right _ (List.mem_append_right _ ((show _ ∈ my_195_2 from List.mem_of_getElem? (i := 19) rfl))))
theorem cd_195_279 : mt_cd 195 279 = some (.iaload) := mt_cd_of (q := (279, .iaload, 1)) mq_195 ci_195 (List.mem_append_right _ (List.mem_append_right _ ((show _ ∈ my_195_2 from List.mem_of_getElem? (i := 20) rfl))))
theorem cd_195_280 : mt_cd 195 280 = some (.invokevirtual 557) := mt_cd_of (q := (280, .invokevirtual 557, 3)) mq_195 ci_195 (List.mem_append_right _ (List.mem_append_right _ ((show _ ∈ my_195_2 from List.mem_of_getElem? (i := 21) rfl))))
theorem cd_195_283 : mt_cd 195 283 = some (.ireturn) := mt_cd_of (q := (283, .ireturn, 1)) mq_195 ci_195 (List.mem_append_right _ (List.mem_append_right _ ((show _ ∈ my_195_2 from List.mem_of_getElem? (i := 22) rfl))))
theorem b_195_0 {d : Nat} {Q : (Option Value ⊕ Nat) → mi_H → Prop} (n sl : Nat) (f : Nat → mi_C) {l1 : Nat} {l2 : Int32} {o3 : Option Value} {o4 : Option Value} {o5 : Option Value} {o6 : Option Value} {fs7 : List Value} {x10 : Nat} (m12 i12 : Nat) (g12 : Nat → Int32) {t16 : Nat} (h8 : f l1 = .inr (12, fs7)) (h9 : l1 < n) (h11 : fs7[12]? = some (.ref x10)) (h13 : f x10 = .inl (0, m12, .inl g12)) (h14 : x10 < n ∨ x10 = mi_SC) (h15 : mi_ix l2 m12 i12) (h17 : mi_ts 6 121 0 6 #[42, 44, 44, 76, 121, 44, 44] ((g12 i12) : Int32).toInt = some t16) (h18 : mi_W d 195 t16 [some (.ref l1), some (.int l2), o3, o4, o5, o6] [] (n, sl, f) Q) : mi_W d 195 0 [some (.ref l1), some (.int l2), o3, o4, o5, o6] [] (n, sl, f) Q := by
  refine w_aload_n cd_195_0 rfl ?_
  refine w_getfield cd_195_1 (show mt_f 12 77 = some (12, 12) by decide +kernel) h8 h9 h11 ?_
  refine w_iload_n cd_195_4 rfl ?_
  refine w_iaload cd_195_5 h13 h14 h15 ?_
  exact w_tableswitch cd_195_6 h17 h18
theorem b_195_48 {d : Nat} {Q : (Option Value ⊕ Nat) → mi_H → Prop} (n sl : Nat) (f : Nat → mi_C) {l1 : Nat} {l2 : Int32} {o3 : Option Value} {o4 : Option Value} {o5 : Option Value} {o6 : Option Value} (h7 : Q (.inl (some (.int 0))) (n, sl, f)) : mi_W d 195 48 [some (.ref l1), some (.int l2), o3, o4, o5, o6] [] (n, sl, f) Q := by
  refine w_iconst (v := 0) cd_195_48 (by decide) ?_
  exact w_ireturn_z cd_195_49 (by decide +kernel) (by decide) h7
theorem b_195_50 {d : Nat} {Q : (Option Value ⊕ Nat) → mi_H → Prop} (n sl : Nat) (f : Nat → mi_C) {l1 : Nat} {l2 : Int32} {o3 : Option Value} {o4 : Option Value} {o5 : Option Value} {o6 : Option Value} {fs7 : List Value} {x10 : Nat} (m12 i12 : Nat) (g12 : Nat → Int32) {fs16 : List Value} (h8 : f l1 = .inr (12, fs7)) (h9 : l1 < n) (h11 : fs7[16]? = some (.ref x10)) (h13 : f x10 = .inl (0, m12, .inl g12)) (h14 : x10 < n ∨ x10 = mi_SC) (h15 : mi_ix l2 m12 i12) (h17 : f l1 = .inr (12, fs16)) (h18 : l1 < n) (h19 : mi_W d 196 0 (mi_en 2 [.ref l1, .int (g12 i12)]) [] (n, sl, f) (mi_Kc d 195 57 [some (.ref l1), some (.int l2), o3, o4, o5, o6] [] Q)) : mi_W (d + 1) 195 50 [some (.ref l1), some (.int l2), o3, o4, o5, o6] [] (n, sl, f) Q := by
  refine w_aload_n cd_195_50 rfl ?_
  refine w_aload_n cd_195_51 rfl ?_
  refine w_getfield cd_195_52 (show mt_f 12 89 = some (12, 16) by decide +kernel) h8 h9 h11 ?_
  refine w_iload_n cd_195_55 rfl ?_
  refine w_iaload cd_195_56 h13 h14 h15 ?_
  exact w_invokevirtual cd_195_57 (show mt_m 12 554 = some (196, 0) by decide +kernel) (rest := []) rfl (as := [.ref l1, .int (g12 i12)]) rfl h17 (Or.inl h18) ⟨Nat.le_of_ble_eq_true rfl, Nat.le_of_ble_eq_true rfl, Nat.le_of_ble_eq_true rfl⟩ h19
theorem b_195_60 {d : Nat} {Q : (Option Value ⊕ Nat) → mi_H → Prop} (n sl : Nat) (f : Nat → mi_C) {l1 : Nat} {l2 : Int32} {o3 : Option Value} {o4 : Option Value} {o5 : Option Value} {o6 : Option Value} {s7 : Int32} (h8 : ¬ s7 = (0 : Int32) → mi_W d 195 76 [some (.ref l1), some (.int l2), o3, o4, o5, o6] [] (n, sl, f) Q) (h9 : ¬ (¬ s7 = (0 : Int32)) → mi_W d 195 63 [some (.ref l1), some (.int l2), o3, o4, o5, o6] [] (n, sl, f) Q) : mi_W d 195 60 [some (.ref l1), some (.int l2), o3, o4, o5, o6] [.int s7] (n, sl, f) Q := by
  exact w_ifne cd_195_60 (by decide) h8 h9
theorem b_195_63 {d : Nat} {Q : (Option Value ⊕ Nat) → mi_H → Prop} (n sl : Nat) (f : Nat → mi_C) {l1 : Nat} {l2 : Int32} {o3 : Option Value} {o4 : Option Value} {o5 : Option Value} {o6 : Option Value} {fs7 : List Value} {x10 : Nat} (m12 i12 : Nat) (g12 : Nat → Int32) {fs16 : List Value} (h8 : f l1 = .inr (12, fs7)) (h9 : l1 < n) (h11 : fs7[19]? = some (.ref x10)) (h13 : f x10 = .inl (0, m12, .inl g12)) (h14 : x10 < n ∨ x10 = mi_SC) (h15 : mi_ix l2 m12 i12) (h17 : f l1 = .inr (12, fs16)) (h18 : l1 < n) (h19 : mi_W d 195 0 (mi_en 6 [.ref l1, .int (g12 i12)]) [] (n, sl, f) (mi_Kc d 195 70 [some (.ref l1), some (.int l2), o3, o4, o5, o6] [] Q)) : mi_W (d + 1) 195 63 [some (.ref l1), some (.int l2), o3, o4, o5, o6] [] (n, sl, f) Q := by
  refine w_aload_n cd_195_63 rfl ?_
  refine w_aload_n cd_195_64 rfl ?_
  refine w_getfield cd_195_65 (show mt_f 12 98 = some (12, 19) by decide +kernel) h8 h9 h11 ?_
  refine w_iload_n cd_195_68 rfl ?_
  refine w_iaload cd_195_69 h13 h14 h15 ?_
  exact w_invokevirtual cd_195_70 (show mt_m 12 557 = some (195, 0) by decide +kernel) (rest := []) rfl (as := [.ref l1, .int (g12 i12)]) rfl h17 (Or.inl h18) ⟨Nat.le_of_ble_eq_true rfl, Nat.le_of_ble_eq_true rfl, Nat.le_of_ble_eq_true rfl⟩ h19
theorem b_195_73 {d : Nat} {Q : (Option Value ⊕ Nat) → mi_H → Prop} (n sl : Nat) (f : Nat → mi_C) {l1 : Nat} {l2 : Int32} {o3 : Option Value} {o4 : Option Value} {o5 : Option Value} {o6 : Option Value} {s7 : Int32} (h8 : s7 = (0 : Int32) → mi_W d 195 80 [some (.ref l1), some (.int l2), o3, o4, o5, o6] [] (n, sl, f) Q) (h9 : ¬ (s7 = (0 : Int32)) → mi_W d 195 76 [some (.ref l1), some (.int l2), o3, o4, o5, o6] [] (n, sl, f) Q) : mi_W d 195 73 [some (.ref l1), some (.int l2), o3, o4, o5, o6] [.int s7] (n, sl, f) Q := by
  exact w_ifeq cd_195_73 (by decide) h8 h9
theorem b_195_76 {d : Nat} {Q : (Option Value ⊕ Nat) → mi_H → Prop} (n sl : Nat) (f : Nat → mi_C) {l1 : Nat} {l2 : Int32} {o3 : Option Value} {o4 : Option Value} {o5 : Option Value} {o6 : Option Value} (h7 : mi_W d 195 81 [some (.ref l1), some (.int l2), o3, o4, o5, o6] [.int 1] (n, sl, f) Q) : mi_W d 195 76 [some (.ref l1), some (.int l2), o3, o4, o5, o6] [] (n, sl, f) Q := by
  refine w_iconst (v := 1) cd_195_76 (by decide) ?_
  exact w_goto cd_195_77 (by decide) h7
theorem b_195_80 {d : Nat} {Q : (Option Value ⊕ Nat) → mi_H → Prop} (n sl : Nat) (f : Nat → mi_C) {l1 : Nat} {l2 : Int32} {o3 : Option Value} {o4 : Option Value} {o5 : Option Value} {o6 : Option Value} (h7 : mi_W d 195 81 [some (.ref l1), some (.int l2), o3, o4, o5, o6] [.int 0] (n, sl, f) Q) : mi_W d 195 80 [some (.ref l1), some (.int l2), o3, o4, o5, o6] [] (n, sl, f) Q := by
  refine w_iconst (v := 0) cd_195_80 (by decide) ?_
  exact h7
theorem b_195_81 {d : Nat} {Q : (Option Value ⊕ Nat) → mi_H → Prop} (n sl : Nat) (f : Nat → mi_C) {l1 : Nat} {l2 : Int32} {o3 : Option Value} {o4 : Option Value} {o5 : Option Value} {o6 : Option Value} {s7 : Int32} (h8 : s7 = 0 ∨ s7 = 1) (h9 : Q (.inl (some (.int s7))) (n, sl, f)) : mi_W d 195 81 [some (.ref l1), some (.int l2), o3, o4, o5, o6] [.int s7] (n, sl, f) Q := by
  exact w_ireturn_z cd_195_81 (by decide +kernel) h8 h9
theorem b_195_82 {d : Nat} {Q : (Option Value ⊕ Nat) → mi_H → Prop} (n sl : Nat) (f : Nat → mi_C) {l1 : Nat} {l2 : Int32} {o3 : Option Value} {o4 : Option Value} {o5 : Option Value} {o6 : Option Value} {fs7 : List Value} {x10 : Nat} (m12 i12 : Nat) (g12 : Nat → Int32) {fs16 : List Value} (h8 : f l1 = .inr (12, fs7)) (h9 : l1 < n) (h11 : fs7[16]? = some (.ref x10)) (h13 : f x10 = .inl (0, m12, .inl g12)) (h14 : x10 < n ∨ x10 = mi_SC) (h15 : mi_ix l2 m12 i12) (h17 : f l1 = .inr (12, fs16)) (h18 : l1 < n) (h19 : mi_W d 196 0 (mi_en 2 [.ref l1, .int (g12 i12)]) [] (n, sl, f) (mi_Kc d 195 89 [some (.ref l1), some (.int l2), o3, o4, o5, o6] [] Q)) : mi_W (d + 1) 195 82 [some (.ref l1), some (.int l2), o3, o4, o5, o6] [] (n, sl, f) Q := by
  refine w_aload_n cd_195_82 rfl ?_
  refine w_aload_n cd_195_83 rfl ?_
  refine w_getfield cd_195_84 (show mt_f 12 89 = some (12, 16) by decide +kernel) h8 h9 h11 ?_
  refine w_iload_n cd_195_87 rfl ?_
  refine w_iaload cd_195_88 h13 h14 h15 ?_
  exact w_invokevirtual cd_195_89 (show mt_m 12 554 = some (196, 0) by decide +kernel) (rest := []) rfl (as := [.ref l1, .int (g12 i12)]) rfl h17 (Or.inl h18) ⟨Nat.le_of_ble_eq_true rfl, Nat.le_of_ble_eq_true rfl, Nat.le_of_ble_eq_true rfl⟩ h19
theorem b_195_92 {d : Nat} {Q : (Option Value ⊕ Nat) → mi_H → Prop} (n sl : Nat) (f : Nat → mi_C) {l1 : Nat} {l2 : Int32} {o3 : Option Value} {o4 : Option Value} {o5 : Option Value} {o6 : Option Value} {s7 : Int32} (h8 : ¬ s7 = (0 : Int32) → mi_W d 195 121 [some (.ref l1), some (.int l2), o3, o4, o5, o6] [] (n, sl, f) Q) (h9 : ¬ (¬ s7 = (0 : Int32)) → mi_W d 195 95 [some (.ref l1), some (.int l2), o3, o4, o5, o6] [] (n, sl, f) Q) : mi_W d 195 92 [some (.ref l1), some (.int l2), o3, o4, o5, o6] [.int s7] (n, sl, f) Q := by
  exact w_ifne cd_195_92 (by decide) h8 h9
theorem b_195_95 {d : Nat} {Q : (Option Value ⊕ Nat) → mi_H → Prop} (n sl : Nat) (f : Nat → mi_C) {l1 : Nat} {l2 : Int32} {o3 : Option Value} {o4 : Option Value} {o5 : Option Value} {o6 : Option Value} {fs7 : List Value} {x10 : Nat} (m12 i12 : Nat) (g12 : Nat → Int32) {fs16 : List Value} (h8 : f l1 = .inr (12, fs7)) (h9 : l1 < n) (h11 : fs7[13]? = some (.ref x10)) (h13 : f x10 = .inl (0, m12, .inl g12)) (h14 : x10 < n ∨ x10 = mi_SC) (h15 : mi_ix l2 m12 i12) (h17 : f l1 = .inr (12, fs16)) (h18 : l1 < n) (h19 : mi_W d 195 0 (mi_en 6 [.ref l1, .int (g12 i12)]) [] (n, sl, f) (mi_Kc d 195 102 [some (.ref l1), some (.int l2), o3, o4, o5, o6] [] Q)) : mi_W (d + 1) 195 95 [some (.ref l1), some (.int l2), o3, o4, o5, o6] [] (n, sl, f) Q := by
  refine w_aload_n cd_195_95 rfl ?_
  refine w_aload_n cd_195_96 rfl ?_
  refine w_getfield cd_195_97 (show mt_f 12 80 = some (12, 13) by decide +kernel) h8 h9 h11 ?_
  refine w_iload_n cd_195_100 rfl ?_
  refine w_iaload cd_195_101 h13 h14 h15 ?_
  exact w_invokevirtual cd_195_102 (show mt_m 12 557 = some (195, 0) by decide +kernel) (rest := []) rfl (as := [.ref l1, .int (g12 i12)]) rfl h17 (Or.inl h18) ⟨Nat.le_of_ble_eq_true rfl, Nat.le_of_ble_eq_true rfl, Nat.le_of_ble_eq_true rfl⟩ h19
theorem b_195_105 {d : Nat} {Q : (Option Value ⊕ Nat) → mi_H → Prop} (n sl : Nat) (f : Nat → mi_C) {l1 : Nat} {l2 : Int32} {o3 : Option Value} {o4 : Option Value} {o5 : Option Value} {o6 : Option Value} {s7 : Int32} (h8 : ¬ s7 = (0 : Int32) → mi_W d 195 121 [some (.ref l1), some (.int l2), o3, o4, o5, o6] [] (n, sl, f) Q) (h9 : ¬ (¬ s7 = (0 : Int32)) → mi_W d 195 108 [some (.ref l1), some (.int l2), o3, o4, o5, o6] [] (n, sl, f) Q) : mi_W d 195 105 [some (.ref l1), some (.int l2), o3, o4, o5, o6] [.int s7] (n, sl, f) Q := by
  exact w_ifne cd_195_105 (by decide) h8 h9
theorem b_195_108 {d : Nat} {Q : (Option Value ⊕ Nat) → mi_H → Prop} (n sl : Nat) (f : Nat → mi_C) {l1 : Nat} {l2 : Int32} {o3 : Option Value} {o4 : Option Value} {o5 : Option Value} {o6 : Option Value} {fs7 : List Value} {x10 : Nat} (m12 i12 : Nat) (g12 : Nat → Int32) {fs16 : List Value} (h8 : f l1 = .inr (12, fs7)) (h9 : l1 < n) (h11 : fs7[14]? = some (.ref x10)) (h13 : f x10 = .inl (0, m12, .inl g12)) (h14 : x10 < n ∨ x10 = mi_SC) (h15 : mi_ix l2 m12 i12) (h17 : f l1 = .inr (12, fs16)) (h18 : l1 < n) (h19 : mi_W d 195 0 (mi_en 6 [.ref l1, .int (g12 i12)]) [] (n, sl, f) (mi_Kc d 195 115 [some (.ref l1), some (.int l2), o3, o4, o5, o6] [] Q)) : mi_W (d + 1) 195 108 [some (.ref l1), some (.int l2), o3, o4, o5, o6] [] (n, sl, f) Q := by
  refine w_aload_n cd_195_108 rfl ?_
  refine w_aload_n cd_195_109 rfl ?_
  refine w_getfield cd_195_110 (show mt_f 12 83 = some (12, 14) by decide +kernel) h8 h9 h11 ?_
  refine w_iload_n cd_195_113 rfl ?_
  refine w_iaload cd_195_114 h13 h14 h15 ?_
  exact w_invokevirtual cd_195_115 (show mt_m 12 557 = some (195, 0) by decide +kernel) (rest := []) rfl (as := [.ref l1, .int (g12 i12)]) rfl h17 (Or.inl h18) ⟨Nat.le_of_ble_eq_true rfl, Nat.le_of_ble_eq_true rfl, Nat.le_of_ble_eq_true rfl⟩ h19
theorem b_195_118 {d : Nat} {Q : (Option Value ⊕ Nat) → mi_H → Prop} (n sl : Nat) (f : Nat → mi_C) {l1 : Nat} {l2 : Int32} {o3 : Option Value} {o4 : Option Value} {o5 : Option Value} {o6 : Option Value} {s7 : Int32} (h8 : s7 = (0 : Int32) → mi_W d 195 125 [some (.ref l1), some (.int l2), o3, o4, o5, o6] [] (n, sl, f) Q) (h9 : ¬ (s7 = (0 : Int32)) → mi_W d 195 121 [some (.ref l1), some (.int l2), o3, o4, o5, o6] [] (n, sl, f) Q) : mi_W d 195 118 [some (.ref l1), some (.int l2), o3, o4, o5, o6] [.int s7] (n, sl, f) Q := by
  exact w_ifeq cd_195_118 (by decide) h8 h9
theorem b_195_121 {d : Nat} {Q : (Option Value ⊕ Nat) → mi_H → Prop} (n sl : Nat) (f : Nat → mi_C) {l1 : Nat} {l2 : Int32} {o3 : Option Value} {o4 : Option Value} {o5 : Option Value} {o6 : Option Value} (h7 : mi_W d 195 126 [some (.ref l1), some (.int l2), o3, o4, o5, o6] [.int 1] (n, sl, f) Q) : mi_W d 195 121 [some (.ref l1), some (.int l2), o3, o4, o5, o6] [] (n, sl, f) Q := by
  refine w_iconst (v := 1) cd_195_121 (by decide) ?_
  exact w_goto cd_195_122 (by decide) h7
theorem b_195_125 {d : Nat} {Q : (Option Value ⊕ Nat) → mi_H → Prop} (n sl : Nat) (f : Nat → mi_C) {l1 : Nat} {l2 : Int32} {o3 : Option Value} {o4 : Option Value} {o5 : Option Value} {o6 : Option Value} (h7 : mi_W d 195 126 [some (.ref l1), some (.int l2), o3, o4, o5, o6] [.int 0] (n, sl, f) Q) : mi_W d 195 125 [some (.ref l1), some (.int l2), o3, o4, o5, o6] [] (n, sl, f) Q := by
  refine w_iconst (v := 0) cd_195_125 (by decide) ?_
  exact h7
theorem b_195_126 {d : Nat} {Q : (Option Value ⊕ Nat) → mi_H → Prop} (n sl : Nat) (f : Nat → mi_C) {l1 : Nat} {l2 : Int32} {o3 : Option Value} {o4 : Option Value} {o5 : Option Value} {o6 : Option Value} {s7 : Int32} (h8 : s7 = 0 ∨ s7 = 1) (h9 : Q (.inl (some (.int s7))) (n, sl, f)) : mi_W d 195 126 [some (.ref l1), some (.int l2), o3, o4, o5, o6] [.int s7] (n, sl, f) Q := by
  exact w_ireturn_z cd_195_126 (by decide +kernel) h8 h9
theorem b_195_127 {d : Nat} {Q : (Option Value ⊕ Nat) → mi_H → Prop} (n sl : Nat) (f : Nat → mi_C) {l1 : Nat} {l2 : Int32} {o3 : Option Value} {o4 : Option Value} {o5 : Option Value} {o6 : Option Value} {fs7 : List Value} {x10 : Nat} (m12 i12 : Nat) (g12 : Nat → Int32) (h8 : f l1 = .inr (12, fs7)) (h9 : l1 < n) (h11 : fs7[17]? = some (.ref x10)) (h13 : f x10 = .inl (0, m12, .inl g12)) (h14 : x10 < n ∨ x10 = mi_SC) (h15 : mi_ix l2 m12 i12) (h16 : mi_W d 195 134 [some (.ref l1), some (.int l2), some (.int (g12 i12)), o4, o5, o6] [] (n, sl, f) Q) : mi_W d 195 127 [some (.ref l1), some (.int l2), o3, o4, o5, o6] [] (n, sl, f) Q := by
  refine w_aload_n cd_195_127 rfl ?_
  refine w_getfield cd_195_128 (show mt_f 12 92 = some (12, 17) by decide +kernel) h8 h9 h11 ?_
  refine w_iload_n cd_195_131 rfl ?_
  refine w_iaload cd_195_132 h13 h14 h15 ?_
  refine w_istore_n (ls' := [some (.ref l1), some (.int l2), some (.int (g12 i12)), o4, o5, o6]) cd_195_133 (Nat.le_of_ble_eq_true rfl) rfl ?_
  exact h16
theorem b_195_134 {d : Nat} {Q : (Option Value ⊕ Nat) → mi_H → Prop} (n sl : Nat) (f : Nat → mi_C) {l1 : Nat} {l2 : Int32} {l3 : Int32} {o4 : Option Value} {o5 : Option Value} {o6 : Option Value} (h7 : l3 < (0 : Int32) → mi_W d 195 273 [some (.ref l1), some (.int l2), some (.int l3), o4, o5, o6] [] (n, sl, f) Q) (h8 : ¬ (l3 < (0 : Int32)) → mi_W d 195 138 [some (.ref l1), some (.int l2), some (.int l3), o4, o5, o6] [] (n, sl, f) Q) : mi_W d 195 134 [some (.ref l1), some (.int l2), some (.int l3), o4, o5, o6] [] (n, sl, f) Q := by
  refine w_iload_n cd_195_134 rfl ?_
  exact w_iflt cd_195_135 (by decide) h7 h8
theorem b_195_138 {d : Nat} {Q : (Option Value ⊕ Nat) → mi_H → Prop} (n sl : Nat) (f : Nat → mi_C) {l1 : Nat} {l2 : Int32} {l3 : Int32} {o4 : Option Value} {o5 : Option Value} {o6 : Option Value} {fs7 : List Value} {x10 : Nat} (m12 i12 : Nat) (g12 : Nat → Int32) (h8 : f l1 = .inr (12, fs7)) (h9 : l1 < n) (h11 : fs7[12]? = some (.ref x10)) (h13 : f x10 = .inl (0, m12, .inl g12)) (h14 : x10 < n ∨ x10 = mi_SC) (h15 : mi_ix l3 m12 i12) (h16 : (g12 i12) = 8 → mi_W d 195 162 [some (.ref l1), some (.int l2), some (.int l3), o4, o5, o6] [] (n, sl, f) Q) (h17 : ¬ ((g12 i12) = 8) → mi_W d 195 149 [some (.ref l1), some (.int l2), some (.int l3), o4, o5, o6] [] (n, sl, f) Q) : mi_W d 195 138 [some (.ref l1), some (.int l2), some (.int l3), o4, o5, o6] [] (n, sl, f) Q := by
  refine w_aload_n cd_195_138 rfl ?_
  refine w_getfield cd_195_139 (show mt_f 12 77 = some (12, 12) by decide +kernel) h8 h9 h11 ?_
  refine w_iload_n cd_195_142 rfl ?_
  refine w_iaload cd_195_143 h13 h14 h15 ?_
  refine w_bipush (v := 8) cd_195_144 (by decide) ?_
  exact w_if_icmpeq cd_195_146 (by decide) h16 h17
theorem b_195_149 {d : Nat} {Q : (Option Value ⊕ Nat) → mi_H → Prop} (n sl : Nat) (f : Nat → mi_C) {l1 : Nat} {l2 : Int32} {l3 : Int32} {o4 : Option Value} {o5 : Option Value} {o6 : Option Value} {fs7 : List Value} {x10 : Nat} (m12 i12 : Nat) (g12 : Nat → Int32) {fs16 : List Value} (h8 : f l1 = .inr (12, fs7)) (h9 : l1 < n) (h11 : fs7[16]? = some (.ref x10)) (h13 : f x10 = .inl (0, m12, .inl g12)) (h14 : x10 < n ∨ x10 = mi_SC) (h15 : mi_ix l3 m12 i12) (h17 : f l1 = .inr (12, fs16)) (h18 : l1 < n) (h19 : mi_W d 196 0 (mi_en 2 [.ref l1, .int (g12 i12)]) [] (n, sl, f) (mi_Kc d 195 156 [some (.ref l1), some (.int l2), some (.int l3), o4, o5, o6] [] Q)) : mi_W (d + 1) 195 149 [some (.ref l1), some (.int l2), some (.int l3), o4, o5, o6] [] (n, sl, f) Q := by
  refine w_aload_n cd_195_149 rfl ?_
  refine w_aload_n cd_195_150 rfl ?_
  refine w_getfield cd_195_151 (show mt_f 12 89 = some (12, 16) by decide +kernel) h8 h9 h11 ?_
  refine w_iload_n cd_195_154 rfl ?_
  refine w_iaload cd_195_155 h13 h14 h15 ?_
  exact w_invokevirtual cd_195_156 (show mt_m 12 554 = some (196, 0) by decide +kernel) (rest := []) rfl (as := [.ref l1, .int (g12 i12)]) rfl h17 (Or.inl h18) ⟨Nat.le_of_ble_eq_true rfl, Nat.le_of_ble_eq_true rfl, Nat.le_of_ble_eq_true rfl⟩ h19
theorem b_195_159 {d : Nat} {Q : (Option Value ⊕ Nat) → mi_H → Prop} (n sl : Nat) (f : Nat → mi_C) {l1 : Nat} {l2 : Int32} {l3 : Int32} {o4 : Option Value} {o5 : Option Value} {o6 : Option Value} {s7 : Int32} (h8 : ¬ s7 = (0 : Int32) → mi_W d 195 175 [some (.ref l1), some (.int l2), some (.int l3), o4, o5, o6] [] (n, sl, f) Q) (h9 : ¬ (¬ s7 = (0 : Int32)) → mi_W d 195 162 [some (.ref l1), some (.int l2), some (.int l3), o4, o5, o6] [] (n, sl, f) Q) : mi_W d 195 159 [some (.ref l1), some (.int l2), some (.int l3), o4, o5, o6] [.int s7] (n, sl, f) Q := by
  exact w_ifne cd_195_159 (by decide) h8 h9
theorem b_195_162 {d : Nat} {Q : (Option Value ⊕ Nat) → mi_H → Prop} (n sl : Nat) (f : Nat → mi_C) {l1 : Nat} {l2 : Int32} {l3 : Int32} {o4 : Option Value} {o5 : Option Value} {o6 : Option Value} {fs7 : List Value} {x10 : Nat} (m12 i12 : Nat) (g12 : Nat → Int32) {fs16 : List Value} (h8 : f l1 = .inr (12, fs7)) (h9 : l1 < n) (h11 : fs7[19]? = some (.ref x10)) (h13 : f x10 = .inl (0, m12, .inl g12)) (h14 : x10 < n ∨ x10 = mi_SC) (h15 : mi_ix l3 m12 i12) (h17 : f l1 = .inr (12, fs16)) (h18 : l1 < n) (h19 : mi_W d 195 0 (mi_en 6 [.ref l1, .int (g12 i12)]) [] (n, sl, f) (mi_Kc d 195 169 [some (.ref l1), some (.int l2), some (.int l3), o4, o5, o6] [] Q)) : mi_W (d + 1) 195 162 [some (.ref l1), some (.int l2), some (.int l3), o4, o5, o6] [] (n, sl, f) Q := by
  refine w_aload_n cd_195_162 rfl ?_
  refine w_aload_n cd_195_163 rfl ?_
  refine w_getfield cd_195_164 (show mt_f 12 98 = some (12, 19) by decide +kernel) h8 h9 h11 ?_
  refine w_iload_n cd_195_167 rfl ?_
  refine w_iaload cd_195_168 h13 h14 h15 ?_
  exact w_invokevirtual cd_195_169 (show mt_m 12 557 = some (195, 0) by decide +kernel) (rest := []) rfl (as := [.ref l1, .int (g12 i12)]) rfl h17 (Or.inl h18) ⟨Nat.le_of_ble_eq_true rfl, Nat.le_of_ble_eq_true rfl, Nat.le_of_ble_eq_true rfl⟩ h19
theorem b_195_172 {d : Nat} {Q : (Option Value ⊕ Nat) → mi_H → Prop} (n sl : Nat) (f : Nat → mi_C) {l1 : Nat} {l2 : Int32} {l3 : Int32} {o4 : Option Value} {o5 : Option Value} {o6 : Option Value} {s7 : Int32} (h8 : s7 = (0 : Int32) → mi_W d 195 177 [some (.ref l1), some (.int l2), some (.int l3), o4, o5, o6] [] (n, sl, f) Q) (h9 : ¬ (s7 = (0 : Int32)) → mi_W d 195 175 [some (.ref l1), some (.int l2), some (.int l3), o4, o5, o6] [] (n, sl, f) Q) : mi_W d 195 172 [some (.ref l1), some (.int l2), some (.int l3), o4, o5, o6] [.int s7] (n, sl, f) Q := by
  exact w_ifeq cd_195_172 (by decide) h8 h9
theorem b_195_175 {d : Nat} {Q : (Option Value ⊕ Nat) → mi_H → Prop} (n sl : Nat) (f : Nat → mi_C) {l1 : Nat} {l2 : Int32} {l3 : Int32} {o4 : Option Value} {o5 : Option Value} {o6 : Option Value} (h7 : Q (.inl (some (.int 1))) (n, sl, f)) : mi_W d 195 175 [some (.ref l1), some (.int l2), some (.int l3), o4, o5, o6] [] (n, sl, f) Q := by
  refine w_iconst (v := 1) cd_195_175 (by decide) ?_
  exact w_ireturn_z cd_195_176 (by decide +kernel) (by decide) h7
theorem b_195_177 {d : Nat} {Q : (Option Value ⊕ Nat) → mi_H → Prop} (n sl : Nat) (f : Nat → mi_C) {l1 : Nat} {l2 : Int32} {l3 : Int32} {o4 : Option Value} {o5 : Option Value} {o6 : Option Value} {fs7 : List Value} {x10 : Nat} (m12 i12 : Nat) (g12 : Nat → Int32) (h8 : f l1 = .inr (12, fs7)) (h9 : l1 < n) (h11 : fs7[12]? = some (.ref x10)) (h13 : f x10 = .inl (0, m12, .inl g12)) (h14 : x10 < n ∨ x10 = mi_SC) (h15 : mi_ix l3 m12 i12) (h16 : (g12 i12) = 8 → mi_W d 195 191 [some (.ref l1), some (.int l2), some (.int l3), o4, o5, o6] [] (n, sl, f) Q) (h17 : ¬ ((g12 i12) = 8) → mi_W d 195 188 [some (.ref l1), some (.int l2), some (.int l3), o4, o5, o6] [] (n, sl, f) Q) : mi_W d 195 177 [some (.ref l1), some (.int l2), some (.int l3), o4, o5, o6] [] (n, sl, f) Q := by
  refine w_aload_n cd_195_177 rfl ?_
  refine w_getfield cd_195_178 (show mt_f 12 77 = some (12, 12) by decide +kernel) h8 h9 h11 ?_
  refine w_iload_n cd_195_181 rfl ?_
  refine w_iaload cd_195_182 h13 h14 h15 ?_
  refine w_bipush (v := 8) cd_195_183 (by decide) ?_
  exact w_if_icmpeq cd_195_185 (by decide) h16 h17
theorem b_195_188 {d : Nat} {Q : (Option Value ⊕ Nat) → mi_H → Prop} (n sl : Nat) (f : Nat → mi_C) {l1 : Nat} {l2 : Int32} {l3 : Int32} {o4 : Option Value} {o5 : Option Value} {o6 : Option Value} (h7 : mi_W d 195 263 [some (.ref l1), some (.int l2), some (.int l3), o4, o5, o6] [] (n, sl, f) Q) : mi_W d 195 188 [some (.ref l1), some (.int l2), some (.int l3), o4, o5, o6] [] (n, sl, f) Q := by
  exact w_goto cd_195_188 (by decide) h7
theorem b_195_191 {d : Nat} {Q : (Option Value ⊕ Nat) → mi_H → Prop} (n sl : Nat) (f : Nat → mi_C) {l1 : Nat} {l2 : Int32} {l3 : Int32} {o4 : Option Value} {o5 : Option Value} {o6 : Option Value} {fs7 : List Value} {x10 : Nat} (m12 i12 : Nat) (g12 : Nat → Int32) (h8 : f l1 = .inr (12, fs7)) (h9 : l1 < n) (h11 : fs7[40]? = some (.ref x10)) (h13 : f x10 = .inl (0, m12, .inl g12)) (h14 : x10 < n ∨ x10 = mi_SC) (h15 : mi_ix l3 m12 i12) (h16 : mi_W d 195 201 [some (.ref l1), some (.int l2), some (.int l3), some (.long 0), none, some (.int (g12 i12))] [] (n, sl, f) Q) : mi_W d 195 191 [some (.ref l1), some (.int l2), some (.int l3), o4, o5, o6] [] (n, sl, f) Q := by
  refine w_lconst (lv := 0) cd_195_191 (by decide) ?_
  refine w_lstore_n (ls' := [some (.ref l1), some (.int l2), some (.int l3), some (.long 0), none, o6]) cd_195_192 (Nat.le_of_ble_eq_true rfl) rfl ?_
  refine w_aload_n cd_195_193 rfl ?_
  refine w_getfield cd_195_194 (show mt_f 12 141 = some (12, 40) by decide +kernel) h8 h9 h11 ?_
  refine w_iload_n cd_195_197 rfl ?_
  refine w_iaload cd_195_198 h13 h14 h15 ?_
  refine w_istore (ls' := [some (.ref l1), some (.int l2), some (.int l3), some (.long 0), none, some (.int (g12 i12))]) cd_195_199 (Nat.le_of_ble_eq_true rfl) rfl ?_
  exact h16
theorem b_195_201 {d : Nat} {Q : (Option Value ⊕ Nat) → mi_H → Prop} (n sl : Nat) (f : Nat → mi_C) {l1 : Nat} {l2 : Int32} {l3 : Int32} {l4 : Int64} {l5 : Int32} {fs6 : List Value} {x9 : Nat} (m11 i11 : Nat) (g11 : Nat → Int32) {fs15 : List Value} {x18 : Nat} (m20 i20 : Nat) (g20 : Nat → Int32) (h7 : f l1 = .inr (12, fs6)) (h8 : l1 < n) (h10 : fs6[40]? = some (.ref x9)) (h12 : f x9 = .inl (0, m11, .inl g11)) (h13 : x9 < n ∨ x9 = mi_SC) (h14 : mi_ix l3 m11 i11) (h16 : f l1 = .inr (12, fs15)) (h17 : l1 < n) (h19 : fs15[18]? = some (.ref x18)) (h21 : f x18 = .inl (0, m20, .inl g20)) (h22 : x18 < n ∨ x18 = mi_SC) (h23 : mi_ix l3 m20 i20) (h24 : ((g11 i11) + (g20 i20)) ≤ l5 → mi_W d 195 253 [some (.ref l1), some (.int l2), some (.int l3), some (.long l4), none, some (.int l5)] [] (n, sl, f) Q) (h25 : ¬ (((g11 i11) + (g20 i20)) ≤ l5) → mi_W d 195 219 [some (.ref l1), some (.int l2), some (.int l3), some (.long l4), none, some (.int l5)] [] (n, sl, f) Q) : mi_W d 195 201 [some (.ref l1), some (.int l2), some (.int l3), some (.long l4), none, some (.int l5)] [] (n, sl, f) Q := by
  refine w_iload cd_195_201 rfl ?_
  refine w_aload_n cd_195_203 rfl ?_
  refine w_getfield cd_195_204 (show mt_f 12 141 = some (12, 40) by decide +kernel) h7 h8 h10 ?_
  refine w_iload_n cd_195_207 rfl ?_
  refine w_iaload cd_195_208 h12 h13 h14 ?_
  refine w_aload_n cd_195_209 rfl ?_
  refine w_getfield cd_195_210 (show mt_f 12 95 = some (12, 18) by decide +kernel) h16 h17 h19 ?_
  refine w_iload_n cd_195_213 rfl ?_
  refine w_iaload cd_195_214 h21 h22 h23 ?_
  refine w_iadd cd_195_215 ?_
  exact w_if_icmpge cd_195_216 (by decide) h24 h25
theorem b_195_219 {d : Nat} {Q : (Option Value ⊕ Nat) → mi_H → Prop} (n sl : Nat) (f : Nat → mi_C) {l1 : Nat} {l2 : Int32} {l3 : Int32} {l4 : Int64} {l5 : Int32} (h6 : (0 : Int32) < (lg_cmp l4 16) → mi_W d 195 253 [some (.ref l1), some (.int l2), some (.int l3), some (.long l4), none, some (.int l5)] [] (n, sl, f) Q) (h7 : ¬ ((0 : Int32) < (lg_cmp l4 16)) → mi_W d 195 227 [some (.ref l1), some (.int l2), some (.int l3), some (.long l4), none, some (.int l5)] [] (n, sl, f) Q) : mi_W d 195 219 [some (.ref l1), some (.int l2), some (.int l3), some (.long l4), none, some (.int l5)] [] (n, sl, f) Q := by
  refine w_lload_n cd_195_219 rfl ?_
  refine w_ldc2_w (lv := 16) cd_195_220 (by decide +kernel) ?_
  refine w_lcmp cd_195_223 ?_
  exact w_ifgt cd_195_224 (by decide) h6 h7
theorem b_195_227 {d : Nat} {Q : (Option Value ⊕ Nat) → mi_H → Prop} (n sl : Nat) (f : Nat → mi_C) {l1 : Nat} {l2 : Int32} {l3 : Int32} {l4 : Int64} {l5 : Int32} {fs6 : List Value} {x9 : Nat} (m11 i11 : Nat) (g11 : Nat → Int64) {fs15 : List Value} {x18 : Nat} (m20 i20 : Nat) (g20 : Nat → Int64) (h7 : f l1 = .inr (12, fs6)) (h8 : l1 < n) (h10 : fs6[29]? = some (.ref x9)) (h12 : f x9 = .inl (3, m11, .inr (.inl g11))) (h13 : x9 < n) (h14 : mi_ix l5 m11 i11) (h16 : f l1 = .inr (12, fs15)) (h17 : l1 < n) (h19 : fs15[28]? = some (.ref x18)) (h21 : f x18 = .inl (3, m20, .inr (.inl g20))) (h22 : x18 < n) (h23 : mi_ix l5 m20 i20) (h24 : mi_W d 195 201 [some (.ref l1), some (.int l2), some (.int l3), some (.long (l4 + (((g11 i11) - (g20 i20)) + 1))), none, some (.int (l5 + 1))] [] (n, sl, f) Q) : mi_W d 195 227 [some (.ref l1), some (.int l2), some (.int l3), some (.long l4), none, some (.int l5)] [] (n, sl, f) Q := by
  refine w_lload_n cd_195_227 rfl ?_
  refine w_aload_n cd_195_228 rfl ?_
  refine w_getfield cd_195_229 (show mt_f 12 108 = some (12, 29) by decide +kernel) h7 h8 h10 ?_
  refine w_iload cd_195_232 rfl ?_
  refine w_laload cd_195_234 h12 h13 h14 ?_
  refine w_aload_n cd_195_235 rfl ?_
  refine w_getfield cd_195_236 (show mt_f 12 105 = some (12, 28) by decide +kernel) h16 h17 h19 ?_
  refine w_iload cd_195_239 rfl ?_
  refine w_laload cd_195_241 h21 h22 h23 ?_
  refine w_lsub cd_195_242 ?_
  refine w_lconst (lv := 1) cd_195_243 (by decide) ?_
  refine w_ladd cd_195_244 ?_
  refine w_ladd cd_195_245 ?_
  refine w_lstore_n (ls' := [some (.ref l1), some (.int l2), some (.int l3), some (.long (l4 + (((g11 i11) - (g20 i20)) + 1))), none, some (.int l5)]) cd_195_246 (Nat.le_of_ble_eq_true rfl) rfl ?_
  refine w_iinc (v := 1) (ls' := [some (.ref l1), some (.int l2), some (.int l3), some (.long (l4 + (((g11 i11) - (g20 i20)) + 1))), none, some (.int (l5 + 1))]) cd_195_247 rfl (by decide) rfl ?_
  exact w_goto cd_195_250 (by decide) h24
theorem b_195_253 {d : Nat} {Q : (Option Value ⊕ Nat) → mi_H → Prop} (n sl : Nat) (f : Nat → mi_C) {l1 : Nat} {l2 : Int32} {l3 : Int32} {l4 : Int64} {l5 : Int32} (h6 : (lg_cmp l4 16) ≤ (0 : Int32) → mi_W d 195 263 [some (.ref l1), some (.int l2), some (.int l3), some (.long l4), none, some (.int l5)] [] (n, sl, f) Q) (h7 : ¬ ((lg_cmp l4 16) ≤ (0 : Int32)) → mi_W d 195 261 [some (.ref l1), some (.int l2), some (.int l3), some (.long l4), none, some (.int l5)] [] (n, sl, f) Q) : mi_W d 195 253 [some (.ref l1), some (.int l2), some (.int l3), some (.long l4), none, some (.int l5)] [] (n, sl, f) Q := by
  refine w_lload_n cd_195_253 rfl ?_
  refine w_ldc2_w (lv := 16) cd_195_254 (by decide +kernel) ?_
  refine w_lcmp cd_195_257 ?_
  exact w_ifle cd_195_258 (by decide) h6 h7
theorem b_195_261 {d : Nat} {Q : (Option Value ⊕ Nat) → mi_H → Prop} (n sl : Nat) (f : Nat → mi_C) {l1 : Nat} {l2 : Int32} {l3 : Int32} {l4 : Int64} {l5 : Int32} (h6 : Q (.inl (some (.int 1))) (n, sl, f)) : mi_W d 195 261 [some (.ref l1), some (.int l2), some (.int l3), some (.long l4), none, some (.int l5)] [] (n, sl, f) Q := by
  refine w_iconst (v := 1) cd_195_261 (by decide) ?_
  exact w_ireturn_z cd_195_262 (by decide +kernel) (by decide) h6
theorem b_195_263 {d : Nat} {Q : (Option Value ⊕ Nat) → mi_H → Prop} (n sl : Nat) (f : Nat → mi_C) {l1 : Nat} {l2 : Int32} {l3 : Int32} {o4 : Option Value} {o5 : Option Value} {o6 : Option Value} {fs7 : List Value} {x10 : Nat} (m12 i12 : Nat) (g12 : Nat → Int32) (h8 : f l1 = .inr (12, fs7)) (h9 : l1 < n) (h11 : fs7[39]? = some (.ref x10)) (h13 : f x10 = .inl (0, m12, .inl g12)) (h14 : x10 < n ∨ x10 = mi_SC) (h15 : mi_ix l3 m12 i12) (h16 : mi_W d 195 134 [some (.ref l1), some (.int l2), some (.int (g12 i12)), o4, o5, o6] [] (n, sl, f) Q) : mi_W d 195 263 [some (.ref l1), some (.int l2), some (.int l3), o4, o5, o6] [] (n, sl, f) Q := by
  refine w_aload_n cd_195_263 rfl ?_
  refine w_getfield cd_195_264 (show mt_f 12 138 = some (12, 39) by decide +kernel) h8 h9 h11 ?_
  refine w_iload_n cd_195_267 rfl ?_
  refine w_iaload cd_195_268 h13 h14 h15 ?_
  refine w_istore_n (ls' := [some (.ref l1), some (.int l2), some (.int (g12 i12)), o4, o5, o6]) cd_195_269 (Nat.le_of_ble_eq_true rfl) rfl ?_
  exact w_goto cd_195_270 (by decide) h16
theorem b_195_273 {d : Nat} {Q : (Option Value ⊕ Nat) → mi_H → Prop} (n sl : Nat) (f : Nat → mi_C) {l1 : Nat} {l2 : Int32} {l3 : Int32} {o4 : Option Value} {o5 : Option Value} {o6 : Option Value} {fs7 : List Value} {x10 : Nat} (m12 i12 : Nat) (g12 : Nat → Int32) {fs16 : List Value} (h8 : f l1 = .inr (12, fs7)) (h9 : l1 < n) (h11 : fs7[19]? = some (.ref x10)) (h13 : f x10 = .inl (0, m12, .inl g12)) (h14 : x10 < n ∨ x10 = mi_SC) (h15 : mi_ix l2 m12 i12) (h17 : f l1 = .inr (12, fs16)) (h18 : l1 < n) (h19 : mi_W d 195 0 (mi_en 6 [.ref l1, .int (g12 i12)]) [] (n, sl, f) (mi_Kc d 195 280 [some (.ref l1), some (.int l2), some (.int l3), o4, o5, o6] [] Q)) : mi_W (d + 1) 195 273 [some (.ref l1), some (.int l2), some (.int l3), o4, o5, o6] [] (n, sl, f) Q := by
  refine w_aload_n cd_195_273 rfl ?_
  refine w_aload_n cd_195_274 rfl ?_
  refine w_getfield cd_195_275 (show mt_f 12 98 = some (12, 19) by decide +kernel) h8 h9 h11 ?_
  refine w_iload_n cd_195_278 rfl ?_
  refine w_iaload cd_195_279 h13 h14 h15 ?_
  exact w_invokevirtual cd_195_280 (show mt_m 12 557 = some (195, 0) by decide +kernel) (rest := []) rfl (as := [.ref l1, .int (g12 i12)]) rfl h17 (Or.inl h18) ⟨Nat.le_of_ble_eq_true rfl, Nat.le_of_ble_eq_true rfl, Nat.le_of_ble_eq_true rfl⟩ h19
theorem b_195_283 {d : Nat} {Q : (Option Value ⊕ Nat) → mi_H → Prop} (n sl : Nat) (f : Nat → mi_C) {l1 : Nat} {l2 : Int32} {l3 : Int32} {o4 : Option Value} {o5 : Option Value} {o6 : Option Value} {s7 : Int32} (h8 : s7 = 0 ∨ s7 = 1) (h9 : Q (.inl (some (.int s7))) (n, sl, f)) : mi_W d 195 283 [some (.ref l1), some (.int l2), some (.int l3), o4, o5, o6] [.int s7] (n, sl, f) Q := by
  exact w_ireturn_z cd_195_283 (by decide +kernel) h8 h9
/-! MarloweHostModel.timed(I)Z -/
set_option maxRecDepth 100000 in
theorem mq_196 : mt_q 196 = my_196 := rfl
set_option maxRecDepth 100000 in
theorem ci_196 : mt_inc 0 my_196.cd = true := by decide +kernel
theorem cd_196_0 : mt_cd 196 0 = some (.aload_n 0) := mt_cd_of (q := (0, .aload_n 0, 1)) mq_196 ci_196 (List.mem_of_getElem? (i := 0) rfl)
theorem cd_196_1 : mt_cd 196 1 = some (.getfield 77) := mt_cd_of (q := (1, .getfield 77, 3)) mq_196 ci_196 (List.mem_of_getElem? (i := 1) rfl)
theorem cd_196_4 : mt_cd 196 4 = some (.iload_n 1) := mt_cd_of (q := (4, .iload_n 1, 1)) mq_196 ci_196 (List.mem_of_getElem? (i := 2) rfl)
theorem cd_196_5 : mt_cd 196 5 = some (.iaload) := mt_cd_of (q := (5, .iaload, 1)) mq_196 ci_196 (List.mem_of_getElem? (i := 3) rfl)
theorem cd_196_6 : mt_cd 196 6 = some (.tableswitch 188 12 32 #[100, 156, 156, 156, 156, 188, 188, 98, 98, 111, 188, 188, 156, 156, 100, 188, 156, 156, 156, 156, 156]) := mt_cd_of (q := (6, .tableswitch 188 12 32 #[100, 156, 156, 156, 156, 188, 188, 98, 98, 111, 188, 188, 156, 156, 100, 188, 156, 156, 156, 156, 156], 98)) mq_196 ci_196 (List.mem_of_getElem? (i := 4) rfl)
theorem cd_196_104 : mt_cd 196 104 = some (.iconst 1) := mt_cd_of (q := (104, .iconst 1, 1)) mq_196 ci_196 (List.mem_of_getElem? (i := 5) rfl)
theorem cd_196_105 : mt_cd 196 105 = some (.ireturn) := mt_cd_of (q := (105, .ireturn, 1)) mq_196 ci_196 (List.mem_of_getElem? (i := 6) rfl)
theorem cd_196_106 : mt_cd 196 106 = some (.aload_n 0) := mt_cd_of (q := (106, .aload_n 0, 1)) mq_196 ci_196 (List.mem_of_getElem? (i := 7) rfl)
theorem cd_196_107 : mt_cd 196 107 = some (.aload_n 0) := mt_cd_of (q := (107, .aload_n 0, 1)) mq_196 ci_196 (List.mem_of_getElem? (i := 8) rfl)
theorem cd_196_108 : mt_cd 196 108 = some (.getfield 80) := mt_cd_of (q := (108, .getfield 80, 3)) mq_196 ci_196 (List.mem_of_getElem? (i := 9) rfl)
theorem cd_196_111 : mt_cd 196 111 = some (.iload_n 1) := mt_cd_of (q := (111, .iload_n 1, 1)) mq_196 ci_196 (List.mem_of_getElem? (i := 10) rfl)
theorem cd_196_112 : mt_cd 196 112 = some (.iaload) := mt_cd_of (q := (112, .iaload, 1)) mq_196 ci_196 (List.mem_of_getElem? (i := 11) rfl)
theorem cd_196_113 : mt_cd 196 113 = some (.invokevirtual 554) := mt_cd_of (q := (113, .invokevirtual 554, 3)) mq_196 ci_196 (List.mem_of_getElem? (i := 12) rfl)
theorem cd_196_116 : mt_cd 196 116 = some (.ireturn) := mt_cd_of (q := (116, .ireturn, 1)) mq_196 ci_196 (List.mem_of_getElem? (i := 13) rfl)
theorem cd_196_117 : mt_cd 196 117 = some (.aload_n 0) := mt_cd_of (q := (117, .aload_n 0, 1)) mq_196 ci_196 (List.mem_of_getElem? (i := 14) rfl)
theorem cd_196_118 : mt_cd 196 118 = some (.aload_n 0) := mt_cd_of (q := (118, .aload_n 0, 1)) mq_196 ci_196 (List.mem_of_getElem? (i := 15) rfl)
theorem cd_196_119 : mt_cd 196 119 = some (.getfield 89) := mt_cd_of (q := (119, .getfield 89, 3)) mq_196 ci_196 (List.mem_of_getElem? (i := 16) rfl)
theorem cd_196_122 : mt_cd 196 122 = some (.iload_n 1) := mt_cd_of (q := (122, .iload_n 1, 1)) mq_196 ci_196 (List.mem_of_getElem? (i := 17) rfl)
theorem cd_196_123 : mt_cd 196 123 = some (.iaload) := mt_cd_of (q := (123, .iaload, 1)) mq_196 ci_196 (List.mem_of_getElem? (i := 18) rfl)
theorem cd_196_124 : mt_cd 196 124 = some (.invokevirtual 554) := mt_cd_of (q := (124, .invokevirtual 554, 3)) mq_196 ci_196 (List.mem_of_getElem? (i := 19) rfl)
theorem cd_196_127 : mt_cd 196 127 = some (.ifCond .ne 29) := mt_cd_of (q := (127, .ifCond .ne 29, 3)) mq_196 ci_196 (List.mem_of_getElem? (i := 20) rfl)
theorem cd_196_130 : mt_cd 196 130 = some (.aload_n 0) := mt_cd_of (q := (130, .aload_n 0, 1)) mq_196 ci_196 (List.mem_of_getElem? (i := 21) rfl)
theorem cd_196_131 : mt_cd 196 131 = some (.aload_n 0) := mt_cd_of (q := (131, .aload_n 0, 1)) mq_196 ci_196 (List.mem_of_getElem? (i := 22) rfl)
theorem cd_196_132 : mt_cd 196 132 = some (.getfield 80) := mt_cd_of (q := (132, .getfield 80, 3)) mq_196 ci_196 (List.mem_of_getElem? (i := 23) rfl)
theorem cd_196_135 : mt_cd 196 135 = some (.iload_n 1) := mt_cd_of (q := (135, .iload_n 1, 1)) mq_196 ci_196 (List.mem_of_getElem? (i := 24) rfl)
theorem cd_196_136 : mt_cd 196 136 = some (.iaload) := mt_cd_of (q := (136, .iaload, 1)) mq_196 ci_196 (List.mem_of_getElem? (i := 25) rfl)
theorem cd_196_137 : mt_cd 196 137 = some (.invokevirtual 554) := mt_cd_of (q := (137, .invokevirtual 554, 3)) mq_196 ci_196 (List.mem_of_getElem? (i := 26) rfl)
theorem cd_196_140 : mt_cd 196 140 = some (.ifCond .ne 16) := mt_cd_of (q := (140, .ifCond .ne 16, 3)) mq_196 ci_196 (List.mem_of_getElem? (i := 27) rfl)
theorem cd_196_143 : mt_cd 196 143 = some (.aload_n 0) := mt_cd_of (q := (143, .aload_n 0, 1)) mq_196 ci_196 (List.mem_of_getElem? (i := 28) rfl)
theorem cd_196_144 : mt_cd 196 144 = some (.aload_n 0) := mt_cd_of (q := (144, .aload_n 0, 1)) mq_196 ci_196 (List.mem_of_getElem? (i := 29) rfl)
theorem cd_196_145 : mt_cd 196 145 = some (.getfield 83) := mt_cd_of (q := (145, .getfield 83, 3)) mq_196 ci_196 (List.mem_of_getElem? (i := 30) rfl)
theorem cd_196_148 : mt_cd 196 148 = some (.iload_n 1) := mt_cd_of (q := (148, .iload_n 1, 1)) mq_196 ci_196 (List.mem_of_getElem? (i := 31) rfl)
theorem cd_196_149 : mt_cd 196 149 = some (.iaload) := mt_cd_of (q := (149, .iaload, 1)) mq_196 ci_196 (List.mem_of_getElem? (i := 32) rfl)
theorem cd_196_150 : mt_cd 196 150 = some (.invokevirtual 554) := mt_cd_of (q := (150, .invokevirtual 554, 3)) mq_196 ci_196 (List.mem_of_getElem? (i := 33) rfl)
theorem cd_196_153 : mt_cd 196 153 = some (.ifCond .eq 7) := mt_cd_of (q := (153, .ifCond .eq 7, 3)) mq_196 ci_196 (List.mem_of_getElem? (i := 34) rfl)
theorem cd_196_156 : mt_cd 196 156 = some (.iconst 1) := mt_cd_of (q := (156, .iconst 1, 1)) mq_196 ci_196 (List.mem_of_getElem? (i := 35) rfl)
theorem cd_196_157 : mt_cd 196 157 = some (.goto 4) := mt_cd_of (q := (157, .goto 4, 3)) mq_196 ci_196 (List.mem_of_getElem? (i := 36) rfl)
theorem cd_196_160 : mt_cd 196 160 = some (.iconst 0) := mt_cd_of (q := (160, .iconst 0, 1)) mq_196 ci_196 (List.mem_of_getElem? (i := 37) rfl)
theorem cd_196_161 : mt_cd 196 161 = some (.ireturn) := mt_cd_of (q := (161, .ireturn, 1)) mq_196 ci_196 (List.mem_of_getElem? (i := 38) rfl)
theorem cd_196_162 : mt_cd 196 162 = some (.aload_n 0) := mt_cd_of (q := (162, .aload_n 0, 1)) mq_196 ci_196 (List.mem_of_getElem? (i := 39) rfl)
theorem cd_196_163 : mt_cd 196 163 = some (.aload_n 0) := mt_cd_of (q := (163, .aload_n 0, 1)) mq_196 ci_196 (List.mem_of_getElem? (i := 40) rfl)
theorem cd_196_164 : mt_cd 196 164 = some (.getfield 80) := mt_cd_of (q := (164, .getfield 80, 3)) mq_196 ci_196 (List.mem_of_getElem? (i := 41) rfl)
theorem cd_196_167 : mt_cd 196 167 = some (.iload_n 1) := mt_cd_of (q := (167, .iload_n 1, 1)) mq_196 ci_196 (List.mem_of_getElem? (i := 42) rfl)
theorem cd_196_168 : mt_cd 196 168 = some (.iaload) := mt_cd_of (q := (168, .iaload, 1)) mq_196 ci_196 (List.mem_of_getElem? (i := 43) rfl)
theorem cd_196_169 : mt_cd 196 169 = some (.invokevirtual 554) := mt_cd_of (q := (169, .invokevirtual 554, 3)) mq_196 ci_196 (List.mem_of_getElem? (i := 44) rfl)
theorem cd_196_172 : mt_cd 196 172 = some (.ifCond .ne 16) := mt_cd_of (q := (172, .ifCond .ne 16, 3)) mq_196 ci_196 (List.mem_of_getElem? (i := 45) rfl)
theorem cd_196_175 : mt_cd 196 175 = some (.aload_n 0) := mt_cd_of (q := (175, .aload_n 0, 1)) mq_196 ci_196 (List.mem_of_getElem? (i := 46) rfl)
theorem cd_196_176 : mt_cd 196 176 = some (.aload_n 0) := mt_cd_of (q := (176, .aload_n 0, 1)) mq_196 ci_196 (List.mem_of_getElem? (i := 47) rfl)
theorem cd_196_177 : mt_cd 196 177 = some (.getfield 83) := mt_cd_of (q := (177, .getfield 83, 3)) mq_196 ci_196 (List.mem_of_getElem? (i := 48) rfl)
theorem cd_196_180 : mt_cd 196 180 = some (.iload_n 1) := mt_cd_of (q := (180, .iload_n 1, 1)) mq_196 ci_196 (List.mem_of_getElem? (i := 49) rfl)
theorem cd_196_181 : mt_cd 196 181 = some (.iaload) := mt_cd_of (q := (181, .iaload, 1)) mq_196 ci_196 (List.mem_of_getElem? (i := 50) rfl)
theorem cd_196_182 : mt_cd 196 182 = some (.invokevirtual 554) := mt_cd_of (q := (182, .invokevirtual 554, 3)) mq_196 ci_196 (List.mem_of_getElem? (i := 51) rfl)
theorem cd_196_185 : mt_cd 196 185 = some (.ifCond .eq 7) := mt_cd_of (q := (185, .ifCond .eq 7, 3)) mq_196 ci_196 (List.mem_of_getElem? (i := 52) rfl)
theorem cd_196_188 : mt_cd 196 188 = some (.iconst 1) := mt_cd_of (q := (188, .iconst 1, 1)) mq_196 ci_196 (List.mem_of_getElem? (i := 53) rfl)
theorem cd_196_189 : mt_cd 196 189 = some (.goto 4) := mt_cd_of (q := (189, .goto 4, 3)) mq_196 ci_196 (List.mem_of_getElem? (i := 54) rfl)
theorem cd_196_192 : mt_cd 196 192 = some (.iconst 0) := mt_cd_of (q := (192, .iconst 0, 1)) mq_196 ci_196 (List.mem_of_getElem? (i := 55) rfl)
theorem cd_196_193 : mt_cd 196 193 = some (.ireturn) := mt_cd_of (q := (193, .ireturn, 1)) mq_196 ci_196 (List.mem_of_getElem? (i := 56) rfl)
theorem cd_196_194 : mt_cd 196 194 = some (.iconst 0) := mt_cd_of (q := (194, .iconst 0, 1)) mq_196 ci_196 (List.mem_of_getElem? (i := 57) rfl)
theorem cd_196_195 : mt_cd 196 195 = some (.ireturn) := mt_cd_of (q := (195, .ireturn, 1)) mq_196 ci_196 (List.mem_of_getElem? (i := 58) rfl)
theorem b_196_0 {d : Nat} {Q : (Option Value ⊕ Nat) → mi_H → Prop} (n sl : Nat) (f : Nat → mi_C) {l1 : Nat} {l2 : Int32} {fs3 : List Value} {x6 : Nat} (m8 i8 : Nat) (g8 : Nat → Int32) {t12 : Nat} (h4 : f l1 = .inr (12, fs3)) (h5 : l1 < n) (h7 : fs3[12]? = some (.ref x6)) (h9 : f x6 = .inl (0, m8, .inl g8)) (h10 : x6 < n ∨ x6 = mi_SC) (h11 : mi_ix l2 m8 i8) (h13 : mi_ts 6 188 12 32 #[100, 156, 156, 156, 156, 188, 188, 98, 98, 111, 188, 188, 156, 156, 100, 188, 156, 156, 156, 156, 156] ((g8 i8) : Int32).toInt = some t12) (h14 : mi_W d 196 t12 [some (.ref l1), some (.int l2)] [] (n, sl, f) Q) : mi_W d 196 0 [some (.ref l1), some (.int l2)] [] (n, sl, f) Q := by
  refine w_aload_n cd_196_0 rfl ?_
  refine w_getfield cd_196_1 (show mt_f 12 77 = some (12, 12) by decide +kernel) h4 h5 h7 ?_
  refine w_iload_n cd_196_4 rfl ?_
  refine w_iaload cd_196_5 h9 h10 h11 ?_
  exact w_tableswitch cd_196_6 h13 h14
theorem b_196_104 {d : Nat} {Q : (Option Value ⊕ Nat) → mi_H → Prop} (n sl : Nat) (f : Nat → mi_C) {l1 : Nat} {l2 : Int32} (h3 : Q (.inl (some (.int 1))) (n, sl, f)) : mi_W d 196 104 [some (.ref l1), some (.int l2)] [] (n, sl, f) Q := by
  refine w_iconst (v := 1) cd_196_104 (by decide) ?_
  exact w_ireturn_z cd_196_105 (by decide +kernel) (by decide) h3
theorem b_196_106 {d : Nat} {Q : (Option Value ⊕ Nat) → mi_H → Prop} (n sl : Nat) (f : Nat → mi_C) {l1 : Nat} {l2 : Int32} {fs3 : List Value} {x6 : Nat} (m8 i8 : Nat) (g8 : Nat → Int32) {fs12 : List Value} (h4 : f l1 = .inr (12, fs3)) (h5 : l1 < n) (h7 : fs3[13]? = some (.ref x6)) (h9 : f x6 = .inl (0, m8, .inl g8)) (h10 : x6 < n ∨ x6 = mi_SC) (h11 : mi_ix l2 m8 i8) (h13 : f l1 = .inr (12, fs12)) (h14 : l1 < n) (h15 : mi_W d 196 0 (mi_en 2 [.ref l1, .int (g8 i8)]) [] (n, sl, f) (mi_Kc d 196 113 [some (.ref l1), some (.int l2)] [] Q)) : mi_W (d + 1) 196 106 [some (.ref l1), some (.int l2)] [] (n, sl, f) Q := by
  refine w_aload_n cd_196_106 rfl ?_
  refine w_aload_n cd_196_107 rfl ?_
  refine w_getfield cd_196_108 (show mt_f 12 80 = some (12, 13) by decide +kernel) h4 h5 h7 ?_
  refine w_iload_n cd_196_111 rfl ?_
  refine w_iaload cd_196_112 h9 h10 h11 ?_
  exact w_invokevirtual cd_196_113 (show mt_m 12 554 = some (196, 0) by decide +kernel) (rest := []) rfl (as := [.ref l1, .int (g8 i8)]) rfl h13 (Or.inl h14) ⟨Nat.le_of_ble_eq_true rfl, Nat.le_of_ble_eq_true rfl, Nat.le_of_ble_eq_true rfl⟩ h15
theorem b_196_116 {d : Nat} {Q : (Option Value ⊕ Nat) → mi_H → Prop} (n sl : Nat) (f : Nat → mi_C) {l1 : Nat} {l2 : Int32} {s3 : Int32} (h4 : s3 = 0 ∨ s3 = 1) (h5 : Q (.inl (some (.int s3))) (n, sl, f)) : mi_W d 196 116 [some (.ref l1), some (.int l2)] [.int s3] (n, sl, f) Q := by
  exact w_ireturn_z cd_196_116 (by decide +kernel) h4 h5
theorem b_196_117 {d : Nat} {Q : (Option Value ⊕ Nat) → mi_H → Prop} (n sl : Nat) (f : Nat → mi_C) {l1 : Nat} {l2 : Int32} {fs3 : List Value} {x6 : Nat} (m8 i8 : Nat) (g8 : Nat → Int32) {fs12 : List Value} (h4 : f l1 = .inr (12, fs3)) (h5 : l1 < n) (h7 : fs3[16]? = some (.ref x6)) (h9 : f x6 = .inl (0, m8, .inl g8)) (h10 : x6 < n ∨ x6 = mi_SC) (h11 : mi_ix l2 m8 i8) (h13 : f l1 = .inr (12, fs12)) (h14 : l1 < n) (h15 : mi_W d 196 0 (mi_en 2 [.ref l1, .int (g8 i8)]) [] (n, sl, f) (mi_Kc d 196 124 [some (.ref l1), some (.int l2)] [] Q)) : mi_W (d + 1) 196 117 [some (.ref l1), some (.int l2)] [] (n, sl, f) Q := by
  refine w_aload_n cd_196_117 rfl ?_
  refine w_aload_n cd_196_118 rfl ?_
  refine w_getfield cd_196_119 (show mt_f 12 89 = some (12, 16) by decide +kernel) h4 h5 h7 ?_
  refine w_iload_n cd_196_122 rfl ?_
  refine w_iaload cd_196_123 h9 h10 h11 ?_
  exact w_invokevirtual cd_196_124 (show mt_m 12 554 = some (196, 0) by decide +kernel) (rest := []) rfl (as := [.ref l1, .int (g8 i8)]) rfl h13 (Or.inl h14) ⟨Nat.le_of_ble_eq_true rfl, Nat.le_of_ble_eq_true rfl, Nat.le_of_ble_eq_true rfl⟩ h15
theorem b_196_127 {d : Nat} {Q : (Option Value ⊕ Nat) → mi_H → Prop} (n sl : Nat) (f : Nat → mi_C) {l1 : Nat} {l2 : Int32} {s3 : Int32} (h4 : ¬ s3 = (0 : Int32) → mi_W d 196 156 [some (.ref l1), some (.int l2)] [] (n, sl, f) Q) (h5 : ¬ (¬ s3 = (0 : Int32)) → mi_W d 196 130 [some (.ref l1), some (.int l2)] [] (n, sl, f) Q) : mi_W d 196 127 [some (.ref l1), some (.int l2)] [.int s3] (n, sl, f) Q := by
  exact w_ifne cd_196_127 (by decide) h4 h5
theorem b_196_130 {d : Nat} {Q : (Option Value ⊕ Nat) → mi_H → Prop} (n sl : Nat) (f : Nat → mi_C) {l1 : Nat} {l2 : Int32} {fs3 : List Value} {x6 : Nat} (m8 i8 : Nat) (g8 : Nat → Int32) {fs12 : List Value} (h4 : f l1 = .inr (12, fs3)) (h5 : l1 < n) (h7 : fs3[13]? = some (.ref x6)) (h9 : f x6 = .inl (0, m8, .inl g8)) (h10 : x6 < n ∨ x6 = mi_SC) (h11 : mi_ix l2 m8 i8) (h13 : f l1 = .inr (12, fs12)) (h14 : l1 < n) (h15 : mi_W d 196 0 (mi_en 2 [.ref l1, .int (g8 i8)]) [] (n, sl, f) (mi_Kc d 196 137 [some (.ref l1), some (.int l2)] [] Q)) : mi_W (d + 1) 196 130 [some (.ref l1), some (.int l2)] [] (n, sl, f) Q := by
  refine w_aload_n cd_196_130 rfl ?_
  refine w_aload_n cd_196_131 rfl ?_
  refine w_getfield cd_196_132 (show mt_f 12 80 = some (12, 13) by decide +kernel) h4 h5 h7 ?_
  refine w_iload_n cd_196_135 rfl ?_
  refine w_iaload cd_196_136 h9 h10 h11 ?_
  exact w_invokevirtual cd_196_137 (show mt_m 12 554 = some (196, 0) by decide +kernel) (rest := []) rfl (as := [.ref l1, .int (g8 i8)]) rfl h13 (Or.inl h14) ⟨Nat.le_of_ble_eq_true rfl, Nat.le_of_ble_eq_true rfl, Nat.le_of_ble_eq_true rfl⟩ h15
theorem b_196_140 {d : Nat} {Q : (Option Value ⊕ Nat) → mi_H → Prop} (n sl : Nat) (f : Nat → mi_C) {l1 : Nat} {l2 : Int32} {s3 : Int32} (h4 : ¬ s3 = (0 : Int32) → mi_W d 196 156 [some (.ref l1), some (.int l2)] [] (n, sl, f) Q) (h5 : ¬ (¬ s3 = (0 : Int32)) → mi_W d 196 143 [some (.ref l1), some (.int l2)] [] (n, sl, f) Q) : mi_W d 196 140 [some (.ref l1), some (.int l2)] [.int s3] (n, sl, f) Q := by
  exact w_ifne cd_196_140 (by decide) h4 h5
theorem b_196_143 {d : Nat} {Q : (Option Value ⊕ Nat) → mi_H → Prop} (n sl : Nat) (f : Nat → mi_C) {l1 : Nat} {l2 : Int32} {fs3 : List Value} {x6 : Nat} (m8 i8 : Nat) (g8 : Nat → Int32) {fs12 : List Value} (h4 : f l1 = .inr (12, fs3)) (h5 : l1 < n) (h7 : fs3[14]? = some (.ref x6)) (h9 : f x6 = .inl (0, m8, .inl g8)) (h10 : x6 < n ∨ x6 = mi_SC) (h11 : mi_ix l2 m8 i8) (h13 : f l1 = .inr (12, fs12)) (h14 : l1 < n) (h15 : mi_W d 196 0 (mi_en 2 [.ref l1, .int (g8 i8)]) [] (n, sl, f) (mi_Kc d 196 150 [some (.ref l1), some (.int l2)] [] Q)) : mi_W (d + 1) 196 143 [some (.ref l1), some (.int l2)] [] (n, sl, f) Q := by
  refine w_aload_n cd_196_143 rfl ?_
  refine w_aload_n cd_196_144 rfl ?_
  refine w_getfield cd_196_145 (show mt_f 12 83 = some (12, 14) by decide +kernel) h4 h5 h7 ?_
  refine w_iload_n cd_196_148 rfl ?_
  refine w_iaload cd_196_149 h9 h10 h11 ?_
  exact w_invokevirtual cd_196_150 (show mt_m 12 554 = some (196, 0) by decide +kernel) (rest := []) rfl (as := [.ref l1, .int (g8 i8)]) rfl h13 (Or.inl h14) ⟨Nat.le_of_ble_eq_true rfl, Nat.le_of_ble_eq_true rfl, Nat.le_of_ble_eq_true rfl⟩ h15
theorem b_196_153 {d : Nat} {Q : (Option Value ⊕ Nat) → mi_H → Prop} (n sl : Nat) (f : Nat → mi_C) {l1 : Nat} {l2 : Int32} {s3 : Int32} (h4 : s3 = (0 : Int32) → mi_W d 196 160 [some (.ref l1), some (.int l2)] [] (n, sl, f) Q) (h5 : ¬ (s3 = (0 : Int32)) → mi_W d 196 156 [some (.ref l1), some (.int l2)] [] (n, sl, f) Q) : mi_W d 196 153 [some (.ref l1), some (.int l2)] [.int s3] (n, sl, f) Q := by
  exact w_ifeq cd_196_153 (by decide) h4 h5
theorem b_196_156 {d : Nat} {Q : (Option Value ⊕ Nat) → mi_H → Prop} (n sl : Nat) (f : Nat → mi_C) {l1 : Nat} {l2 : Int32} (h3 : mi_W d 196 161 [some (.ref l1), some (.int l2)] [.int 1] (n, sl, f) Q) : mi_W d 196 156 [some (.ref l1), some (.int l2)] [] (n, sl, f) Q := by
  refine w_iconst (v := 1) cd_196_156 (by decide) ?_
  exact w_goto cd_196_157 (by decide) h3
theorem b_196_160 {d : Nat} {Q : (Option Value ⊕ Nat) → mi_H → Prop} (n sl : Nat) (f : Nat → mi_C) {l1 : Nat} {l2 : Int32} (h3 : mi_W d 196 161 [some (.ref l1), some (.int l2)] [.int 0] (n, sl, f) Q) : mi_W d 196 160 [some (.ref l1), some (.int l2)] [] (n, sl, f) Q := by
  refine w_iconst (v := 0) cd_196_160 (by decide) ?_
  exact h3
theorem b_196_161 {d : Nat} {Q : (Option Value ⊕ Nat) → mi_H → Prop} (n sl : Nat) (f : Nat → mi_C) {l1 : Nat} {l2 : Int32} {s3 : Int32} (h4 : s3 = 0 ∨ s3 = 1) (h5 : Q (.inl (some (.int s3))) (n, sl, f)) : mi_W d 196 161 [some (.ref l1), some (.int l2)] [.int s3] (n, sl, f) Q := by
  exact w_ireturn_z cd_196_161 (by decide +kernel) h4 h5
theorem b_196_162 {d : Nat} {Q : (Option Value ⊕ Nat) → mi_H → Prop} (n sl : Nat) (f : Nat → mi_C) {l1 : Nat} {l2 : Int32} {fs3 : List Value} {x6 : Nat} (m8 i8 : Nat) (g8 : Nat → Int32) {fs12 : List Value} (h4 : f l1 = .inr (12, fs3)) (h5 : l1 < n) (h7 : fs3[13]? = some (.ref x6)) (h9 : f x6 = .inl (0, m8, .inl g8)) (h10 : x6 < n ∨ x6 = mi_SC) (h11 : mi_ix l2 m8 i8) (h13 : f l1 = .inr (12, fs12)) (h14 : l1 < n) (h15 : mi_W d 196 0 (mi_en 2 [.ref l1, .int (g8 i8)]) [] (n, sl, f) (mi_Kc d 196 169 [some (.ref l1), some (.int l2)] [] Q)) : mi_W (d + 1) 196 162 [some (.ref l1), some (.int l2)] [] (n, sl, f) Q := by
  refine w_aload_n cd_196_162 rfl ?_
  refine w_aload_n cd_196_163 rfl ?_
  refine w_getfield cd_196_164 (show mt_f 12 80 = some (12, 13) by decide +kernel) h4 h5 h7 ?_
  refine w_iload_n cd_196_167 rfl ?_
  refine w_iaload cd_196_168 h9 h10 h11 ?_
  exact w_invokevirtual cd_196_169 (show mt_m 12 554 = some (196, 0) by decide +kernel) (rest := []) rfl (as := [.ref l1, .int (g8 i8)]) rfl h13 (Or.inl h14) ⟨Nat.le_of_ble_eq_true rfl, Nat.le_of_ble_eq_true rfl, Nat.le_of_ble_eq_true rfl⟩ h15
theorem b_196_172 {d : Nat} {Q : (Option Value ⊕ Nat) → mi_H → Prop} (n sl : Nat) (f : Nat → mi_C) {l1 : Nat} {l2 : Int32} {s3 : Int32} (h4 : ¬ s3 = (0 : Int32) → mi_W d 196 188 [some (.ref l1), some (.int l2)] [] (n, sl, f) Q) (h5 : ¬ (¬ s3 = (0 : Int32)) → mi_W d 196 175 [some (.ref l1), some (.int l2)] [] (n, sl, f) Q) : mi_W d 196 172 [some (.ref l1), some (.int l2)] [.int s3] (n, sl, f) Q := by
  exact w_ifne cd_196_172 (by decide) h4 h5
theorem b_196_175 {d : Nat} {Q : (Option Value ⊕ Nat) → mi_H → Prop} (n sl : Nat) (f : Nat → mi_C) {l1 : Nat} {l2 : Int32} {fs3 : List Value} {x6 : Nat} (m8 i8 : Nat) (g8 : Nat → Int32) {fs12 : List Value} (h4 : f l1 = .inr (12, fs3)) (h5 : l1 < n) (h7 : fs3[14]? = some (.ref x6)) (h9 : f x6 = .inl (0, m8, .inl g8)) (h10 : x6 < n ∨ x6 = mi_SC) (h11 : mi_ix l2 m8 i8) (h13 : f l1 = .inr (12, fs12)) (h14 : l1 < n) (h15 : mi_W d 196 0 (mi_en 2 [.ref l1, .int (g8 i8)]) [] (n, sl, f) (mi_Kc d 196 182 [some (.ref l1), some (.int l2)] [] Q)) : mi_W (d + 1) 196 175 [some (.ref l1), some (.int l2)] [] (n, sl, f) Q := by
  refine w_aload_n cd_196_175 rfl ?_
  refine w_aload_n cd_196_176 rfl ?_
  refine w_getfield cd_196_177 (show mt_f 12 83 = some (12, 14) by decide +kernel) h4 h5 h7 ?_
  refine w_iload_n cd_196_180 rfl ?_
  refine w_iaload cd_196_181 h9 h10 h11 ?_
  exact w_invokevirtual cd_196_182 (show mt_m 12 554 = some (196, 0) by decide +kernel) (rest := []) rfl (as := [.ref l1, .int (g8 i8)]) rfl h13 (Or.inl h14) ⟨Nat.le_of_ble_eq_true rfl, Nat.le_of_ble_eq_true rfl, Nat.le_of_ble_eq_true rfl⟩ h15
theorem b_196_185 {d : Nat} {Q : (Option Value ⊕ Nat) → mi_H → Prop} (n sl : Nat) (f : Nat → mi_C) {l1 : Nat} {l2 : Int32} {s3 : Int32} (h4 : s3 = (0 : Int32) → mi_W d 196 192 [some (.ref l1), some (.int l2)] [] (n, sl, f) Q) (h5 : ¬ (s3 = (0 : Int32)) → mi_W d 196 188 [some (.ref l1), some (.int l2)] [] (n, sl, f) Q) : mi_W d 196 185 [some (.ref l1), some (.int l2)] [.int s3] (n, sl, f) Q := by
  exact w_ifeq cd_196_185 (by decide) h4 h5
theorem b_196_188 {d : Nat} {Q : (Option Value ⊕ Nat) → mi_H → Prop} (n sl : Nat) (f : Nat → mi_C) {l1 : Nat} {l2 : Int32} (h3 : mi_W d 196 193 [some (.ref l1), some (.int l2)] [.int 1] (n, sl, f) Q) : mi_W d 196 188 [some (.ref l1), some (.int l2)] [] (n, sl, f) Q := by
  refine w_iconst (v := 1) cd_196_188 (by decide) ?_
  exact w_goto cd_196_189 (by decide) h3
theorem b_196_192 {d : Nat} {Q : (Option Value ⊕ Nat) → mi_H → Prop} (n sl : Nat) (f : Nat → mi_C) {l1 : Nat} {l2 : Int32} (h3 : mi_W d 196 193 [some (.ref l1), some (.int l2)] [.int 0] (n, sl, f) Q) : mi_W d 196 192 [some (.ref l1), some (.int l2)] [] (n, sl, f) Q := by
  refine w_iconst (v := 0) cd_196_192 (by decide) ?_
  exact h3
theorem b_196_193 {d : Nat} {Q : (Option Value ⊕ Nat) → mi_H → Prop} (n sl : Nat) (f : Nat → mi_C) {l1 : Nat} {l2 : Int32} {s3 : Int32} (h4 : s3 = 0 ∨ s3 = 1) (h5 : Q (.inl (some (.int s3))) (n, sl, f)) : mi_W d 196 193 [some (.ref l1), some (.int l2)] [.int s3] (n, sl, f) Q := by
  exact w_ireturn_z cd_196_193 (by decide +kernel) h4 h5
theorem b_196_194 {d : Nat} {Q : (Option Value ⊕ Nat) → mi_H → Prop} (n sl : Nat) (f : Nat → mi_C) {l1 : Nat} {l2 : Int32} (h3 : Q (.inl (some (.int 0))) (n, sl, f)) : mi_W d 196 194 [some (.ref l1), some (.int l2)] [] (n, sl, f) Q := by
  refine w_iconst (v := 0) cd_196_194 (by decide) ?_
  exact w_ireturn_z cd_196_195 (by decide +kernel) (by decide) h3
/-! MarloweHostModel.goOn(LMarloweHostModel$State;)I -/
set_option maxRecDepth 100000 in
theorem mq_197 : mt_q 197 = my_197 := rfl
set_option maxRecDepth 100000 in
theorem ci_197 : mt_inc 0 my_197.cd = true := by decide +kernel
theorem cd_197_0 : mt_cd 197 0 = some (.aload_n 0) := mt_cd_of (q := (0, .aload_n 0, 1)) mq_197 ci_197 (List.mem_append_left _ (show _ ∈ my_197_0 from List.mem_of_getElem? (i := 0) rfl))
theorem cd_197_1 : mt_cd 197 1 = some (.getfield 229) := mt_cd_of (q := (1, .getfield 229, 3)) mq_197 ci_197 (List.mem_append_left _ (show _ ∈ my_197_0 from List.mem_of_getElem? (i := 1) rfl))
theorem cd_197_4 : mt_cd 197 4 = some (.aload_n 0) := mt_cd_of (q := (4, .aload_n 0, 1)) mq_197 ci_197 (List.mem_append_left _ (show _ ∈ my_197_0 from List.mem_of_getElem? (i := 2) rfl))
theorem cd_197_5 : mt_cd 197 5 = some (.getfield 568) := mt_cd_of (q := (5, .getfield 568, 3)) mq_197 ci_197 (List.mem_append_left _ (show _ ∈ my_197_0 from List.mem_of_getElem? (i := 3) rfl))
theorem cd_197_8 : mt_cd 197 8 = some (.aaload) := mt_cd_of (q := (8, .aaload, 1)) mq_197 ci_197 (List.mem_append_left _ (show _ ∈ my_197_0 from List.mem_of_getElem? (i := 4) rfl))
theorem cd_197_9 : mt_cd 197 9 = some (.ifnonnull 19) := mt_cd_of (q := (9, .ifnonnull 19, 3)) mq_197 ci_197 (List.mem_append_left _ (show _ ∈ my_197_0 from List.mem_of_getElem? (i := 5) rfl))
theorem cd_197_12 : mt_cd 197 12 = some (.aload_n 0) := mt_cd_of (q := (12, .aload_n 0, 1)) mq_197 ci_197 (List.mem_append_left _ (show _ ∈ my_197_0 from List.mem_of_getElem? (i := 6) rfl))
theorem cd_197_13 : mt_cd 197 13 = some (.getfield 229) := mt_cd_of (q := (13, .getfield 229, 3)) mq_197 ci_197 (List.mem_append_left _ (show _ ∈ my_197_0 from List.mem_of_getElem? (i := 7) rfl))
theorem cd_197_16 : mt_cd 197 16 = some (.aload_n 0) := mt_cd_of (q := (16, .aload_n 0, 1)) mq_197 ci_197 (List.mem_append_left _ (show _ ∈ my_197_0 from List.mem_of_getElem? (i := 8) rfl))
theorem cd_197_17 : mt_cd 197 17 = some (.getfield 568) := mt_cd_of (q := (17, .getfield 568, 3)) mq_197 ci_197 (List.mem_append_left _ (show _ ∈ my_197_0 from List.mem_of_getElem? (i := 9) rfl))
theorem cd_197_20 : mt_cd 197 20 = some (.new 144) := mt_cd_of (q := (20, .new 144, 3)) mq_197 ci_197 (List.mem_append_left _ (show _ ∈ my_197_0 from List.mem_of_getElem? (i := 10) rfl))
theorem cd_197_23 : mt_cd 197 23 = some (.dup) := mt_cd_of (q := (23, .dup, 1)) mq_197 ci_197 (List.mem_append_left _ (show _ ∈ my_197_0 from List.mem_of_getElem? (i := 11) rfl))
theorem cd_197_24 : mt_cd 197 24 = some (.invokespecial 146) := mt_cd_of (q := (24, .invokespecial 146, 3)) mq_197 ci_197 (List.mem_append_left _ (show _ ∈ my_197_0 from List.mem_of_getElem? (i := 12) rfl))
theorem cd_197_27 : mt_cd 197 27 = some (.aastore) := mt_cd_of (q := (27, .aastore, 1)) mq_197 ci_197 (List.mem_append_left _ (show _ ∈ my_197_0 from List.mem_of_getElem? (i := 13) rfl))
theorem cd_197_28 : mt_cd 197 28 = some (.aload_n 0) := mt_cd_of (q := (28, .aload_n 0, 1)) mq_197 ci_197 (List.mem_append_left _ (show _ ∈ my_197_0 from List.mem_of_getElem? (i := 14) rfl))
theorem cd_197_29 : mt_cd 197 29 = some (.getfield 229) := mt_cd_of (q := (29, .getfield 229, 3)) mq_197 ci_197 (List.mem_append_left _ (show _ ∈ my_197_0 from List.mem_of_getElem? (i := 15) rfl))
theorem cd_197_32 : mt_cd 197 32 = some (.aload_n 0) := mt_cd_of (q := (32, .aload_n 0, 1)) mq_197 ci_197 (List.mem_append_left _ (show _ ∈ my_197_0 from List.mem_of_getElem? (i := 16) rfl))
theorem cd_197_33 : mt_cd 197 33 = some (.getfield 568) := mt_cd_of (q := (33, .getfield 568, 3)) mq_197 ci_197 (List.mem_append_left _ (show _ ∈ my_197_0 from List.mem_of_getElem? (i := 17) rfl))
theorem cd_197_36 : mt_cd 197 36 = some (.aaload) := mt_cd_of (q := (36, .aaload, 1)) mq_197 ci_197 (List.mem_append_left _ (show _ ∈ my_197_0 from List.mem_of_getElem? (i := 18) rfl))
theorem cd_197_37 : mt_cd 197 37 = some (.astore_n 2) := mt_cd_of (q := (37, .astore_n 2, 1)) mq_197 ci_197 (List.mem_append_left _ (show _ ∈ my_197_0 from List.mem_of_getElem? (i := 19) rfl))
theorem cd_197_38 : mt_cd 197 38 = some (.aload_n 0) := mt_cd_of (q := (38, .aload_n 0, 1)) mq_197 ci_197 (List.mem_append_left _ (show _ ∈ my_197_0 from List.mem_of_getElem? (i := 20) rfl))
theorem cd_197_39 : mt_cd 197 39 = some (.aload_n 2) := mt_cd_of (q := (39, .aload_n 2, 1)) mq_197 ci_197 (List.mem_append_left _ (show _ ∈ my_197_0 from List.mem_of_getElem? (i := 21) rfl))
theorem cd_197_40 : mt_cd 197 40 = some (.putfield 445) := mt_cd_of (q := (40, .putfield 445, 3)) mq_197 ci_197 (List.mem_append_left _ (show _ ∈ my_197_0 from List.mem_of_getElem? (i := 22) rfl))
theorem cd_197_43 : mt_cd 197 43 = some (.aload_n 2) := mt_cd_of (q := (43, .aload_n 2, 1)) mq_197 ci_197 (List.mem_append_left _ (show _ ∈ my_197_0 from List.mem_of_getElem? (i := 23) rfl))
theorem cd_197_44 : mt_cd 197 44 = some (.aload_n 1) := mt_cd_of (q := (44, .aload_n 1, 1)) mq_197 ci_197 (List.mem_append_left _ (show _ ∈ my_197_0 from List.mem_of_getElem? (i := 24) rfl))
theorem cd_197_45 : mt_cd 197 45 = some (.invokevirtual 525) := mt_cd_of (q := (45, .invokevirtual 525, 3)) mq_197 ci_197 (List.mem_append_left _ (show _ ∈ my_197_0 from List.mem_of_getElem? (i := 25) rfl))
theorem cd_197_48 : mt_cd 197 48 = some (.aload_n 0) := mt_cd_of (q := (48, .aload_n 0, 1)) mq_197 ci_197 (List.mem_append_left _ (show _ ∈ my_197_0 from List.mem_of_getElem? (i := 26) rfl))
theorem cd_197_49 : mt_cd 197 49 = some (.aload_n 1) := mt_cd_of (q := (49, .aload_n 1, 1)) mq_197 ci_197 (List.mem_append_left _ (show _ ∈ my_197_0 from List.mem_of_getElem? (i := 27) rfl))
theorem cd_197_50 : mt_cd 197 50 = some (.getfield 516) := mt_cd_of (q := (50, .getfield 516, 3)) mq_197 ci_197 (List.mem_append_left _ (show _ ∈ my_197_0 from List.mem_of_getElem? (i := 28) rfl))
theorem cd_197_53 : mt_cd 197 53 = some (.aload_n 1) := mt_cd_of (q := (53, .aload_n 1, 1)) mq_197 ci_197 (List.mem_append_left _ (show _ ∈ my_197_0 from List.mem_of_getElem? (i := 29) rfl))
theorem cd_197_54 : mt_cd 197 54 = some (.getfield 516) := mt_cd_of (q := (54, .getfield 516, 3)) mq_197 ci_197 (List.mem_append_left _ (show _ ∈ my_197_0 from List.mem_of_getElem? (i := 30) rfl))
theorem cd_197_57 : mt_cd 197 57 = some (.iconst 0) := mt_cd_of (q := (57, .iconst 0, 1)) mq_197 ci_197 (List.mem_append_left _ (show _ ∈ my_197_0 from List.mem_of_getElem? (i := 31) rfl))
theorem cd_197_58 : mt_cd 197 58 = some (.invokevirtual 529) := mt_cd_of (q := (58, .invokevirtual 529, 3)) mq_197 ci_197 (List.mem_append_left _ (show _ ∈ my_197_0 from List.mem_of_getElem? (i := 32) rfl))
theorem cd_197_61 : mt_cd 197 61 = some (.istore_n 3) := mt_cd_of (q := (61, .istore_n 3, 1)) mq_197 ci_197 (List.mem_append_left _ (show _ ∈ my_197_0 from List.mem_of_getElem? (i := 33) rfl))
theorem cd_197_62 : mt_cd 197 62 = some (.iload_n 3) := mt_cd_of (q := (62, .iload_n 3, 1)) mq_197 ci_197 (List.mem_append_left _ (show _ ∈ my_197_0 from List.mem_of_getElem? (i := 34) rfl))
theorem cd_197_63 : mt_cd 197 63 = some (.iconst 5) := mt_cd_of (q := (63, .iconst 5, 1)) mq_197 ci_197 (List.mem_append_left _ (show _ ∈ my_197_0 from List.mem_of_getElem? (i := 35) rfl))
theorem cd_197_64 : mt_cd 197 64 = some (.if_icmp .eq 13) := mt_cd_of (q := (64, .if_icmp .eq 13, 3)) mq_197 ci_197 (List.mem_append_left _ (show _ ∈ my_197_0 from List.mem_of_getElem? (i := 36) rfl))
theorem cd_197_67 : mt_cd 197 67 = some (.aload_n 0) := mt_cd_of (q := (67, .aload_n 0, 1)) mq_197 ci_197 (List.mem_append_left _ (show _ ∈ my_197_0 from List.mem_of_getElem? (i := 37) rfl))
theorem cd_197_68 : mt_cd 197 68 = some (.aload_n 2) := mt_cd_of (q := (68, .aload_n 2, 1)) mq_197 ci_197 (List.mem_append_left _ (show _ ∈ my_197_0 from List.mem_of_getElem? (i := 38) rfl))
theorem cd_197_69 : mt_cd 197 69 = some (.iload_n 3) := mt_cd_of (q := (69, .iload_n 3, 1)) mq_197 ci_197 (List.mem_append_left _ (show _ ∈ my_197_0 from List.mem_of_getElem? (i := 39) rfl))
theorem cd_197_70 : mt_cd 197 70 = some (.iconst 0) := mt_cd_of (q := (70, .iconst 0, 1)) mq_197 ci_197 (List.mem_append_left _ (show _ ∈ my_197_0 from List.mem_of_getElem? (i := 40) rfl))
theorem cd_197_71 : mt_cd 197 71 = some (.lconst 0) := mt_cd_of (q := (71, .lconst 0, 1)) mq_197 ci_197 (List.mem_append_left _ (show _ ∈ my_197_0 from List.mem_of_getElem? (i := 41) rfl))
theorem cd_197_72 : mt_cd 197 72 = some (.iconst (-1)) := mt_cd_of (q := (72, .iconst (-1), 1)) mq_197 ci_197 (List.mem_append_left _ (show _ ∈ my_197_0 from List.mem_of_getElem? (i := 42) rfl))
theorem cd_197_73 : mt_cd 197 73 = some (.invokevirtual 575) := mt_cd_of (q := (73, .invokevirtual 575, 3)) mq_197 ci_197 (List.mem_append_left _ (show _ ∈ my_197_0 from List.mem_of_getElem? (i := 43) rfl))
theorem cd_197_76 : mt_cd 197 76 = some (.ireturn) := mt_cd_of (q := (76, .ireturn, 1)) mq_197 ci_197 (List.mem_append_left _ (show _ ∈ my_197_0 from List.mem_of_getElem? (i := 44) rfl))
theorem cd_197_77 : mt_cd 197 77 = some (.aload_n 0) := mt_cd_of (q := (77, .aload_n 0, 1)) mq_197 ci_197 (List.mem_append_left _ (show _ ∈ my_197_0 from List.mem_of_getElem? (i := 45) rfl))
theorem cd_197_78 : mt_cd 197 78 = some (.getfield 77) := mt_cd_of (q := (78, .getfield 77, 3)) mq_197 ci_197 (List.mem_append_left _ (show _ ∈ my_197_0 from List.mem_of_getElem? (i := 46) rfl))
theorem cd_197_81 : mt_cd 197 81 = some (.aload_n 1) := mt_cd_of (q := (81, .aload_n 1, 1)) mq_197 ci_197 (List.mem_append_left _ (show _ ∈ my_197_0 from List.mem_of_getElem? (i := 47) rfl))
theorem cd_197_82 : mt_cd 197 82 = some (.getfield 496) := mt_cd_of (q := (82, .getfield 496, 3)) mq_197 ci_197 (List.mem_append_left _ (show _ ∈ my_197_0 from List.mem_of_getElem? (i := 48) rfl))
theorem cd_197_85 : mt_cd 197 85 = some (.iaload) := mt_cd_of (q := (85, .iaload, 1)) mq_197 ci_197 (List.mem_append_left _ (show _ ∈ my_197_0 from List.mem_of_getElem? (i := 49) rfl))
theorem cd_197_86 : mt_cd 197 86 = some (.iconst 4) := mt_cd_of (q := (86, .iconst 4, 1)) mq_197 ci_197 (List.mem_append_left _ (show _ ∈ my_197_0 from List.mem_of_getElem? (i := 50) rfl))
theorem cd_197_87 : mt_cd 197 87 = some (.if_icmp .eq 5) := mt_cd_of (q := (87, .if_icmp .eq 5, 3)) mq_197 ci_197 (List.mem_append_left _ (show _ ∈ my_197_0 from List.mem_of_getElem? (i := 51) rfl))
theorem cd_197_90 : mt_cd 197 90 = some (.iconst 0) := mt_cd_of (q := (90, .iconst 0, 1)) mq_197 ci_197 (List.mem_append_left _ (show _ ∈ my_197_0 from List.mem_of_getElem? (i := 52) rfl))
theorem cd_197_91 : mt_cd 197 91 = some (.ireturn) := mt_cd_of (q := (91, .ireturn, 1)) mq_197 ci_197 (List.mem_append_left _ (show _ ∈ my_197_0 from List.mem_of_getElem? (i := 53) rfl))
theorem cd_197_92 : mt_cd 197 92 = some (.aload_n 0) := mt_cd_of (q := (92, .aload_n 0, 1)) mq_197 ci_197 (List.mem_append_left _ (show _ ∈ my_197_0 from List.mem_of_getElem? (i := 54) rfl))
theorem cd_197_93 : mt_cd 197 93 = some (.getfield 92) := mt_cd_of (q := (93, .getfield 92, 3)) mq_197 ci_197 (List.mem_append_left _ (show _ ∈ my_197_0 from List.mem_of_getElem? (i := 55) rfl))
theorem cd_197_96 : mt_cd 197 96 = some (.aload_n 1) := mt_cd_of (q := (96, .aload_n 1, 1)) mq_197 ci_197 (List.mem_append_left _ (show _ ∈ my_197_0 from List.mem_of_getElem? (i := 56) rfl))
theorem cd_197_97 : mt_cd 197 97 = some (.getfield 496) := mt_cd_of (q := (97, .getfield 496, 3)) mq_197 ci_197 (List.mem_append_left _ (show _ ∈ my_197_0 from List.mem_of_getElem? (i := 57) rfl))
theorem cd_197_100 : mt_cd 197 100 = some (.iaload) := mt_cd_of (q := (100, .iaload, 1)) mq_197 ci_197 (List.mem_append_left _ (show _ ∈ my_197_0 from List.mem_of_getElem? (i := 58) rfl))
theorem cd_197_101 : mt_cd 197 101 = some (.istore 4) := mt_cd_of (q := (101, .istore 4, 2)) mq_197 ci_197 (List.mem_append_left _ (show _ ∈ my_197_0 from List.mem_of_getElem? (i := 59) rfl))
theorem cd_197_103 : mt_cd 197 103 = some (.iload 4) := mt_cd_of (q := (103, .iload 4, 2)) mq_197 ci_197 (List.mem_append_right _ ((show _ ∈ my_197_1 from List.mem_of_getElem? (i := 0) rfl)))
theorem cd_197_105 : mt_cd 197 105 = some (.ifCond .lt 56) := mt_cd_of (q := (105, .ifCond .lt 56, 3)) mq_197 ci_197 (List.mem_append_right _ ((show _ ∈ my_197_1 from List.mem_of_getElem? (i := 1) rfl)))
theorem cd_197_108 : mt_cd 197 108 = some (.aload_n 0) := mt_cd_of (q := (108, .aload_n 0, 1)) mq_197 ci_197 (List.mem_append_right _ ((show _ ∈ my_197_1 from List.mem_of_getElem? (i := 2) rfl)))
theorem cd_197_109 : mt_cd 197 109 = some (.getfield 77) := mt_cd_of (q := (109, .getfield 77, 3)) mq_197 ci_197 (List.mem_append_right _ ((show _ ∈ my_197_1 from List.mem_of_getElem? (i := 3) rfl)))
theorem cd_197_112 : mt_cd 197 112 = some (.iload 4) := mt_cd_of (q := (112, .iload 4, 2)) mq_197 ci_197 (List.mem_append_right _ ((show _ ∈ my_197_1 from List.mem_of_getElem? (i := 4) rfl)))
theorem cd_197_114 : mt_cd 197 114 = some (.iaload) := mt_cd_of (q := (114, .iaload, 1)) mq_197 ci_197 (List.mem_append_right _ ((show _ ∈ my_197_1 from List.mem_of_getElem? (i := 5) rfl)))
theorem cd_197_115 : mt_cd 197 115 = some (.bipush 8) := mt_cd_of (q := (115, .bipush 8, 2)) mq_197 ci_197 (List.mem_append_right _ ((show _ ∈ my_197_1 from List.mem_of_getElem? (i := 6) rfl)))
theorem cd_197_117 : mt_cd 197 117 = some (.if_icmp .ne 14) := mt_cd_of (q := (117, .if_icmp .ne 14, 3)) mq_197 ci_197 (List.mem_append_right _ ((show _ ∈ my_197_1 from List.mem_of_getElem? (i := 7) rfl)))
theorem cd_197_120 : mt_cd 197 120 = some (.aload_n 0) := mt_cd_of (q := (120, .aload_n 0, 1)) mq_197 ci_197 (List.mem_append_right _ ((show _ ∈ my_197_1 from List.mem_of_getElem? (i := 8) rfl)))
theorem cd_197_121 : mt_cd 197 121 = some (.aload_n 1) := mt_cd_of (q := (121, .aload_n 1, 1)) mq_197 ci_197 (List.mem_append_right _ ((show _ ∈ my_197_1 from List.mem_of_getElem? (i := 9) rfl)))
theorem cd_197_122 : mt_cd 197 122 = some (.aload_n 2) := mt_cd_of (q := (122, .aload_n 2, 1)) mq_197 ci_197 (List.mem_append_right _ ((show _ ∈ my_197_1 from List.mem_of_getElem? (i := 10) rfl)))
theorem cd_197_123 : mt_cd 197 123 = some (.iload 4) := mt_cd_of (q := (123, .iload 4, 2)) mq_197 ci_197 (List.mem_append_right _ ((show _ ∈ my_197_1 from List.mem_of_getElem? (i := 11) rfl)))
theorem cd_197_125 : mt_cd 197 125 = some (.invokevirtual 579) := mt_cd_of (q := (125, .invokevirtual 579, 3)) mq_197 ci_197 (List.mem_append_right _ ((show _ ∈ my_197_1 from List.mem_of_getElem? (i := 12) rfl)))
theorem cd_197_128 : mt_cd 197 128 = some (.goto 11) := mt_cd_of (q := (128, .goto 11, 3)) mq_197 ci_197 (List.mem_append_right _ ((show _ ∈ my_197_1 from List.mem_of_getElem? (i := 13) rfl)))
theorem cd_197_131 : mt_cd 197 131 = some (.aload_n 0) := mt_cd_of (q := (131, .aload_n 0, 1)) mq_197 ci_197 (List.mem_append_right _ ((show _ ∈ my_197_1 from List.mem_of_getElem? (i := 14) rfl)))
theorem cd_197_132 : mt_cd 197 132 = some (.aload_n 1) := mt_cd_of (q := (132, .aload_n 1, 1)) mq_197 ci_197 (List.mem_append_right _ ((show _ ∈ my_197_1 from List.mem_of_getElem? (i := 15) rfl)))
theorem cd_197_133 : mt_cd 197 133 = some (.aload_n 2) := mt_cd_of (q := (133, .aload_n 2, 1)) mq_197 ci_197 (List.mem_append_right _ ((show _ ∈ my_197_1 from List.mem_of_getElem? (i := 16) rfl)))
theorem cd_197_134 : mt_cd 197 134 = some (.iload 4) := mt_cd_of (q := (134, .iload 4, 2)) mq_197 ci_197 (List.mem_append_right _ ((show _ ∈ my_197_1 from List.mem_of_getElem? (i := 17) rfl)))
theorem cd_197_136 : mt_cd 197 136 = some (.invokevirtual 583) := mt_cd_of (q := (136, .invokevirtual 583, 3)) mq_197 ci_197 (List.mem_append_right _ ((show _ ∈ my_197_1 from List.mem_of_getElem? (i := 18) rfl)))
theorem cd_197_139 : mt_cd 197 139 = some (.istore 5) := mt_cd_of (q := (139, .istore 5, 2)) mq_197 ci_197 (List.mem_append_right _ ((show _ ∈ my_197_1 from List.mem_of_getElem? (i := 19) rfl)))
theorem cd_197_141 : mt_cd 197 141 = some (.iload 5) := mt_cd_of (q := (141, .iload 5, 2)) mq_197 ci_197 (List.mem_append_right _ ((show _ ∈ my_197_1 from List.mem_of_getElem? (i := 20) rfl)))
theorem cd_197_143 : mt_cd 197 143 = some (.ifCond .eq 6) := mt_cd_of (q := (143, .ifCond .eq 6, 3)) mq_197 ci_197 (List.mem_append_right _ ((show _ ∈ my_197_1 from List.mem_of_getElem? (i := 21) rfl)))
theorem cd_197_146 : mt_cd 197 146 = some (.iload 5) := mt_cd_of (q := (146, .iload 5, 2)) mq_197 ci_197 (List.mem_append_right _ ((show _ ∈ my_197_1 from List.mem_of_getElem? (i := 22) rfl)))
theorem cd_197_148 : mt_cd 197 148 = some (.ireturn) := mt_cd_of (q := (148, .ireturn, 1)) mq_197 ci_197 (List.mem_append_right _ ((show _ ∈ my_197_1 from List.mem_of_getElem? (i := 23) rfl)))
theorem cd_197_149 : mt_cd 197 149 = some (.aload_n 0) := mt_cd_of (q := (149, .aload_n 0, 1)) mq_197 ci_197 (List.mem_append_right _ ((show _ ∈ my_197_1 from List.mem_of_getElem? (i := 24) rfl)))
theorem cd_197_150 : mt_cd 197 150 = some (.getfield 138) := mt_cd_of (q := (150, .getfield 138, 3)) mq_197 ci_197 (List.mem_append_right _ ((show _ ∈ my_197_1 from List.mem_of_getElem? (i := 25) rfl)))
theorem cd_197_153 : mt_cd 197 153 = some (.iload 4) := mt_cd_of (q := (153, .iload 4, 2)) mq_197 ci_197 (List.mem_append_right _ ((show _ ∈ my_197_1 from List.mem_of_getElem? (i := 26) rfl)))
theorem cd_197_155 : mt_cd 197 155 = some (.iaload) := mt_cd_of (q := (155, .iaload, 1)) mq_197 ci_197 (List.mem_append_right _ ((show _ ∈ my_197_1 from List.mem_of_getElem? (i := 27) rfl)))
theorem cd_197_156 : mt_cd 197 156 = some (.istore 4) := mt_cd_of (q := (156, .istore 4, 2)) mq_197 ci_197 (List.mem_append_right _ ((show _ ∈ my_197_1 from List.mem_of_getElem? (i := 28) rfl)))
theorem cd_197_158 : mt_cd 197 158 = some (.goto (-55)) := mt_cd_of (q := (158, .goto (-55), 3)) mq_197 ci_197 (List.mem_append_right _ ((show _ ∈ my_197_1 from List.mem_of_getElem? (i := 29) rfl)))
theorem cd_197_161 : mt_cd 197 161 = some (.aload_n 2) := mt_cd_of (q := (161, .aload_n 2, 1)) mq_197 ci_197 (List.mem_append_right _ ((show _ ∈ my_197_1 from List.mem_of_getElem? (i := 30) rfl)))
theorem cd_197_162 : mt_cd 197 162 = some (.aload_n 1) := mt_cd_of (q := (162, .aload_n 1, 1)) mq_197 ci_197 (List.mem_append_right _ ((show _ ∈ my_197_1 from List.mem_of_getElem? (i := 31) rfl)))
theorem cd_197_163 : mt_cd 197 163 = some (.invokevirtual 525) := mt_cd_of (q := (163, .invokevirtual 525, 3)) mq_197 ci_197 (List.mem_append_right _ ((show _ ∈ my_197_1 from List.mem_of_getElem? (i := 32) rfl)))
theorem cd_197_166 : mt_cd 197 166 = some (.aload_n 0) := mt_cd_of (q := (166, .aload_n 0, 1)) mq_197 ci_197 (List.mem_append_right _ ((show _ ∈ my_197_1 from List.mem_of_getElem? (i := 33) rfl)))
theorem cd_197_167 : mt_cd 197 167 = some (.aload_n 2) := mt_cd_of (q := (167, .aload_n 2, 1)) mq_197 ci_197 (List.mem_append_right _ ((show _ ∈ my_197_1 from List.mem_of_getElem? (i := 34) rfl)))
theorem cd_197_168 : mt_cd 197 168 = some (.putfield 445) := mt_cd_of (q := (168, .putfield 445, 3)) mq_197 ci_197 (List.mem_append_right _ ((show _ ∈ my_197_1 from List.mem_of_getElem? (i := 35) rfl)))
theorem cd_197_171 : mt_cd 197 171 = some (.aload_n 0) := mt_cd_of (q := (171, .aload_n 0, 1)) mq_197 ci_197 (List.mem_append_right _ ((show _ ∈ my_197_1 from List.mem_of_getElem? (i := 36) rfl)))
theorem cd_197_172 : mt_cd 197 172 = some (.getfield 101) := mt_cd_of (q := (172, .getfield 101, 3)) mq_197 ci_197 (List.mem_append_right _ ((show _ ∈ my_197_1 from List.mem_of_getElem? (i := 37) rfl)))
theorem cd_197_175 : mt_cd 197 175 = some (.aload_n 1) := mt_cd_of (q := (175, .aload_n 1, 1)) mq_197 ci_197 (List.mem_append_right _ ((show _ ∈ my_197_1 from List.mem_of_getElem? (i := 38) rfl)))
theorem cd_197_176 : mt_cd 197 176 = some (.getfield 496) := mt_cd_of (q := (176, .getfield 496, 3)) mq_197 ci_197 (List.mem_append_right _ ((show _ ∈ my_197_1 from List.mem_of_getElem? (i := 39) rfl)))
theorem cd_197_179 : mt_cd 197 179 = some (.laload) := mt_cd_of (q := (179, .laload, 1)) mq_197 ci_197 (List.mem_append_right _ ((show _ ∈ my_197_1 from List.mem_of_getElem? (i := 40) rfl)))
theorem cd_197_180 : mt_cd 197 180 = some (.lstore 4) := mt_cd_of (q := (180, .lstore 4, 2)) mq_197 ci_197 (List.mem_append_right _ ((show _ ∈ my_197_1 from List.mem_of_getElem? (i := 41) rfl)))
theorem cd_197_182 : mt_cd 197 182 = some (.aload_n 0) := mt_cd_of (q := (182, .aload_n 0, 1)) mq_197 ci_197 (List.mem_append_right _ ((show _ ∈ my_197_1 from List.mem_of_getElem? (i := 42) rfl)))
theorem cd_197_183 : mt_cd 197 183 = some (.lload 4) := mt_cd_of (q := (183, .lload 4, 2)) mq_197 ci_197 (List.mem_append_right _ ((show _ ∈ my_197_1 from List.mem_of_getElem? (i := 43) rfl)))
theorem cd_197_185 : mt_cd 197 185 = some (.lload 4) := mt_cd_of (q := (185, .lload 4, 2)) mq_197 ci_197 (List.mem_append_right _ ((show _ ∈ my_197_1 from List.mem_of_getElem? (i := 44) rfl)))
theorem cd_197_187 : mt_cd 197 187 = some (.iconst 0) := mt_cd_of (q := (187, .iconst 0, 1)) mq_197 ci_197 (List.mem_append_right _ ((show _ ∈ my_197_1 from List.mem_of_getElem? (i := 45) rfl)))
theorem cd_197_188 : mt_cd 197 188 = some (.invokevirtual 529) := mt_cd_of (q := (188, .invokevirtual 529, 3)) mq_197 ci_197 (List.mem_append_right _ ((show _ ∈ my_197_1 from List.mem_of_getElem? (i := 46) rfl)))
theorem cd_197_191 : mt_cd 197 191 = some (.istore_n 3) := mt_cd_of (q := (191, .istore_n 3, 1)) mq_197 ci_197 (List.mem_append_right _ ((show _ ∈ my_197_1 from List.mem_of_getElem? (i := 47) rfl)))
theorem cd_197_192 : mt_cd 197 192 = some (.aload_n 0) := mt_cd_of (q := (192, .aload_n 0, 1)) mq_197 ci_197 (List.mem_append_right _ ((show _ ∈ my_197_1 from List.mem_of_getElem? (i := 48) rfl)))
theorem cd_197_193 : mt_cd 197 193 = some (.aload_n 2) := mt_cd_of (q := (193, .aload_n 2, 1)) mq_197 ci_197 (List.mem_append_right _ ((show _ ∈ my_197_1 from List.mem_of_getElem? (i := 49) rfl)))
theorem cd_197_194 : mt_cd 197 194 = some (.iload_n 3) := mt_cd_of (q := (194, .iload_n 3, 1)) mq_197 ci_197 (List.mem_append_right _ ((show _ ∈ my_197_1 from List.mem_of_getElem? (i := 50) rfl)))
theorem cd_197_195 : mt_cd 197 195 = some (.iconst 4) := mt_cd_of (q := (195, .iconst 4, 1)) mq_197 ci_197 (List.mem_append_right _ ((show _ ∈ my_197_1 from List.mem_of_getElem? (i := 51) rfl)))
theorem cd_197_196 : mt_cd 197 196 = some (.lload 4) := mt_cd_of (q := (196, .lload 4, 2)) mq_197 ci_197 (List.mem_append_right _ ((show _ ∈ my_197_1 from List.mem_of_getElem? (i := 52) rfl)))
theorem cd_197_198 : mt_cd 197 198 = some (.iconst (-1)) := mt_cd_of (q := (198, .iconst (-1), 1)) mq_197 ci_197 (List.mem_append_right _ ((show _ ∈ my_197_1 from List.mem_of_getElem? (i := 53) rfl)))
theorem cd_197_199 : mt_cd 197 199 = some (.invokevirtual 575) := mt_cd_of (q := (199, .invokevirtual 575, 3)) mq_197 ci_197 (List.mem_append_right _ ((show _ ∈ my_197_1 from List.mem_of_getElem? (i := 54) rfl)))
theorem cd_197_202 : mt_cd 197 202 = some (.ireturn) := mt_cd_of (q := (202, .ireturn, 1)) mq_197 ci_197 (List.mem_append_right _ ((show _ ∈ my_197_1 from List.mem_of_getElem? (i := 55) rfl)))
theorem b_197_0 {d : Nat} {Q : (Option Value ⊕ Nat) → mi_H → Prop} (n sl : Nat) (f : Nat → mi_C) {l1 : Nat} {l2 : Nat} {o3 : Option Value} {o4 : Option Value} {o5 : Option Value} {o6 : Option Value} {fs7 : List Value} {x10 : Nat} {fs12 : List Value} {x15 : Int32} (m17 i17 ka17 : Nat) (g17 : Nat → Option Nat) {w22 : Value} (h8 : f l1 = .inr (12, fs7)) (h9 : l1 < n) (h11 : fs7[82]? = some (.ref x10)) (h13 : f l1 = .inr (12, fs12)) (h14 : l1 < n) (h16 : fs12[74]? = some (.int x15)) (h18 : f x10 = .inl (ka17, m17, .inr (.inr (.inr (.inr g17))))) (h19 : x10 < n) (h20 : 4 ≤ ka17 ∧ ka17 < mt_na) (h21 : mi_ix x15 m17 i17) (h23 : va_rf (g17 i17) = w22) (h24 : w22 = .null → mi_W d 197 12 [some (.ref l1), some (.ref l2), o3, o4, o5, o6] [] (n, sl, f) Q) (h25 : ∀ q : Nat, w22 = .ref q → mi_W d 197 28 [some (.ref l1), some (.ref l2), o3, o4, o5, o6] [] (n, sl, f) Q) (h26 : w22.isRef = true) : mi_W d 197 0 [some (.ref l1), some (.ref l2), o3, o4, o5, o6] [] (n, sl, f) Q := by
  refine w_aload_n cd_197_0 rfl ?_
  refine w_getfield cd_197_1 (show mt_f 12 229 = some (12, 82) by decide +kernel) h8 h9 h11 ?_
  refine w_aload_n cd_197_4 rfl ?_
  refine w_getfield cd_197_5 (show mt_f 12 568 = some (12, 74) by decide +kernel) h13 h14 h16 ?_
  refine w_aaload (w := w22) cd_197_8 h18 h19 h20 h21 h23 ?_
  
  cases w22 with
  | null => exact w_ifnonnull_n cd_197_9 (h24 rfl)
  | ref q => exact w_ifnonnull_r cd_197_9 (by decide) (h25 q rfl)
  | _ => cases h26
theorem b_197_12 {d : Nat} {Q : (Option Value ⊕ Nat) → mi_H → Prop} (n sl : Nat) (f : Nat → mi_C) {l1 : Nat} {l2 : Nat} {o3 : Option Value} {o4 : Option Value} {o5 : Option Value} {o6 : Option Value} {fs7 : List Value} {x10 : Nat} {fs12 : List Value} {x15 : Int32} (h8 : f l1 = .inr (12, fs7)) (h9 : l1 < n) (h11 : fs7[82]? = some (.ref x10)) (h13 : f l1 = .inr (12, fs12)) (h14 : l1 < n) (h16 : fs12[74]? = some (.int x15)) (h17 : n + 1 ≤ mi_NC ∧ sl + 7 ≤ mi_NS) (h18 : n < (n + 1)) (h19 : mi_W d 137 0 (mi_en 1 [.ref n]) [] ((n + 1), (sl + 7), (va_up f n (.inr (13, mt_df 13)))) (mi_Kc d 197 24 [some (.ref l1), some (.ref l2), o3, o4, o5, o6] [.ref n, .int x15, .ref x10] Q)) : mi_W (d + 1) 197 12 [some (.ref l1), some (.ref l2), o3, o4, o5, o6] [] (n, sl, f) Q := by
  refine w_aload_n cd_197_12 rfl ?_
  refine w_getfield cd_197_13 (show mt_f 12 229 = some (12, 82) by decide +kernel) h8 h9 h11 ?_
  refine w_aload_n cd_197_16 rfl ?_
  refine w_getfield cd_197_17 (show mt_f 12 568 = some (12, 74) by decide +kernel) h13 h14 h16 ?_
  refine w_new cd_197_20 (show mt_c 12 144 = some 13 by decide +kernel) (by decide) h17 ?_
  refine w_dup_r cd_197_23 ?_
  exact w_invokespecial cd_197_24 (show mt_m 12 146 = some (137, 3) by decide +kernel) (Or.inr rfl) (by decide) (rest := [.ref n, .int x15, .ref x10]) rfl (as := [.ref n]) rfl h18 ⟨Nat.le_of_ble_eq_true rfl, Nat.le_of_ble_eq_true rfl, Nat.le_of_ble_eq_true rfl⟩ h19
theorem b_197_27 {d : Nat} {Q : (Option Value ⊕ Nat) → mi_H → Prop} (n sl : Nat) (f : Nat → mi_C) {l1 : Nat} {l2 : Nat} {o3 : Option Value} {o4 : Option Value} {o5 : Option Value} {o6 : Option Value} {s7 : Nat} {s8 : Int32} {s9 : Nat} (m10 i10 ka10 ci10 : Nat) (g10 : Nat → Option Nat) (fs10 : List Value) (h11 : s9 < n) (h12 : mi_ix s8 m10 i10) (h13 : f s9 = .inl (ka10, m10, .inr (.inr (.inr (.inr g10))))) (h14 : f s7 = .inr (ci10, fs10)) (h15 : s7 < n) (h16 : mt_ac ka10 = some ci10) (h17 : mi_W d 197 28 [some (.ref l1), some (.ref l2), o3, o4, o5, o6] [] (n, sl, (va_up f s9 (.inl (ka10, m10, .inr (.inr (.inr (.inr (va_up g10 i10 (some s7))))))))) Q) : mi_W d 197 27 [some (.ref l1), some (.ref l2), o3, o4, o5, o6] [.ref s7, .int s8, .ref s9] (n, sl, f) Q := by
  refine w_aastore cd_197_27 h13 h11 h14 h15 h16 h12 ?_
  exact h17
theorem b_197_28 {d : Nat} {Q : (Option Value ⊕ Nat) → mi_H → Prop} (n sl : Nat) (f : Nat → mi_C) {l1 : Nat} {l2 : Nat} {o3 : Option Value} {o4 : Option Value} {o5 : Option Value} {o6 : Option Value} {fs7 : List Value} {x10 : Nat} {fs12 : List Value} {x15 : Int32} (m17 i17 ka17 : Nat) (g17 : Nat → Option Nat) {x22 : Nat} {fs24 : List Value} {fs28 : List Value} (h8 : f l1 = .inr (12, fs7)) (h9 : l1 < n) (h11 : fs7[82]? = some (.ref x10)) (h13 : f l1 = .inr (12, fs12)) (h14 : l1 < n) (h16 : fs12[74]? = some (.int x15)) (h18 : f x10 = .inl (ka17, m17, .inr (.inr (.inr (.inr g17))))) (h19 : x10 < n) (h20 : 4 ≤ ka17 ∧ ka17 < mt_na) (h21 : mi_ix x15 m17 i17) (h23 : g17 i17 = some x22) (h25 : f l1 = .inr (12, fs24)) (h26 : l1 < n) (h27 : 43 < fs24.length) (h29 : (va_up f l1 (.inr (12, fs24.set 43 (.ref x22)))) x22 = .inr (13, fs28)) (h30 : x22 < n) (h31 : mi_W d 173 0 (mi_en 3 [.ref x22, .ref l2]) [] (n, sl, (va_up f l1 (.inr (12, fs24.set 43 (.ref x22))))) (mi_Kc d 197 45 [some (.ref l1), some (.ref l2), some (.ref x22), o4, o5, o6] [] Q)) : mi_W (d + 1) 197 28 [some (.ref l1), some (.ref l2), o3, o4, o5, o6] [] (n, sl, f) Q := by
  refine w_aload_n cd_197_28 rfl ?_
  refine w_getfield cd_197_29 (show mt_f 12 229 = some (12, 82) by decide +kernel) h8 h9 h11 ?_
  refine w_aload_n cd_197_32 rfl ?_
  refine w_getfield cd_197_33 (show mt_f 12 568 = some (12, 74) by decide +kernel) h13 h14 h16 ?_
  refine w_aaload (w := .ref x22) cd_197_36 h18 h19 h20 h21 (by rw [h23]; rfl) ?_
  refine w_astore_n (ls' := [some (.ref l1), some (.ref l2), some (.ref x22), o4, o5, o6]) cd_197_37 (Nat.le_of_ble_eq_true rfl) rfl ?_
  refine w_aload_n cd_197_38 rfl ?_
  refine w_aload_n cd_197_39 rfl ?_
  refine w_putfield (w := .ref x22) cd_197_40 (show mt_f 12 445 = some (12, 43) by decide +kernel) h25 h26 ⟨h27, rfl, Or.inl (by decide)⟩ ?_
  refine w_aload_n cd_197_43 rfl ?_
  refine w_aload_n cd_197_44 rfl ?_
  exact w_invokevirtual cd_197_45 (show mt_m 12 525 = some (173, 0) by decide +kernel) (rest := []) rfl (as := [.ref x22, .ref l2]) rfl h29 (Or.inl h30) ⟨Nat.le_of_ble_eq_true rfl, Nat.le_of_ble_eq_true rfl, Nat.le_of_ble_eq_true rfl⟩ h31
theorem b_197_48 {d : Nat} {Q : (Option Value ⊕ Nat) → mi_H → Prop} (n sl : Nat) (f : Nat → mi_C) {l1 : Nat} {l2 : Nat} {l3 : Nat} {o4 : Option Value} {o5 : Option Value} {o6 : Option Value} {fs7 : List Value} {x10 : Int64} {fs12 : List Value} {x15 : Int64} {fs17 : List Value} (h8 : f l2 = .inr (13, fs7)) (h9 : l2 < n) (h11 : fs7[1]? = some (.long x10)) (h13 : f l2 = .inr (13, fs12)) (h14 : l2 < n) (h16 : fs12[1]? = some (.long x15)) (h18 : f l1 = .inr (12, fs17)) (h19 : l1 < n) (h20 : mi_W d 174 0 (mi_en 8 [.ref l1, .long x10, .long x15, .int 0]) [] (n, sl, f) (mi_Kc d 197 58 [some (.ref l1), some (.ref l2), some (.ref l3), o4, o5, o6] [] Q)) : mi_W (d + 1) 197 48 [some (.ref l1), some (.ref l2), some (.ref l3), o4, o5, o6] [] (n, sl, f) Q := by
  refine w_aload_n cd_197_48 rfl ?_
  refine w_aload_n cd_197_49 rfl ?_
  refine w_getfield cd_197_50 (show mt_f 12 516 = some (13, 1) by decide +kernel) h8 h9 h11 ?_
  refine w_aload_n cd_197_53 rfl ?_
  refine w_getfield cd_197_54 (show mt_f 12 516 = some (13, 1) by decide +kernel) h13 h14 h16 ?_
  refine w_iconst (v := 0) cd_197_57 (by decide) ?_
  exact w_invokevirtual cd_197_58 (show mt_m 12 529 = some (174, 0) by decide +kernel) (rest := []) rfl (as := [.ref l1, .long x10, .long x15, .int 0]) rfl h18 (Or.inl h19) ⟨Nat.le_of_ble_eq_true rfl, Nat.le_of_ble_eq_true rfl, Nat.le_of_ble_eq_true rfl⟩ h20
theorem b_197_61 {d : Nat} {Q : (Option Value ⊕ Nat) → mi_H → Prop} (n sl : Nat) (f : Nat → mi_C) {l1 : Nat} {l2 : Nat} {l3 : Nat} {o4 : Option Value} {o5 : Option Value} {o6 : Option Value} {s7 : Int32} (h8 : s7 = 5 → mi_W d 197 77 [some (.ref l1), some (.ref l2), some (.ref l3), some (.int s7), o5, o6] [] (n, sl, f) Q) (h9 : ¬ (s7 = 5) → mi_W d 197 67 [some (.ref l1), some (.ref l2), some (.ref l3), some (.int s7), o5, o6] [] (n, sl, f) Q) : mi_W d 197 61 [some (.ref l1), some (.ref l2), some (.ref l3), o4, o5, o6] [.int s7] (n, sl, f) Q := by
  refine w_istore_n (ls' := [some (.ref l1), some (.ref l2), some (.ref l3), some (.int s7), o5, o6]) cd_197_61 (Nat.le_of_ble_eq_true rfl) rfl ?_
  refine w_iload_n cd_197_62 rfl ?_
  refine w_iconst (v := 5) cd_197_63 (by decide) ?_
  exact w_if_icmpeq cd_197_64 (by decide) h8 h9
theorem b_197_67 {d : Nat} {Q : (Option Value ⊕ Nat) → mi_H → Prop} (n sl : Nat) (f : Nat → mi_C) {l1 : Nat} {l2 : Nat} {l3 : Nat} {l4 : Int32} {o5 : Option Value} {o6 : Option Value} {fs7 : List Value} (h8 : f l1 = .inr (12, fs7)) (h9 : l1 < n) (h10 : mi_W d 198 0 (mi_en 8 [.ref l1, .ref l3, .int l4, .int 0, .long 0, .int (-1)]) [] (n, sl, f) (mi_Kc d 197 73 [some (.ref l1), some (.ref l2), some (.ref l3), some (.int l4), o5, o6] [] Q)) : mi_W (d + 1) 197 67 [some (.ref l1), some (.ref l2), some (.ref l3), some (.int l4), o5, o6] [] (n, sl, f) Q := by
  refine w_aload_n cd_197_67 rfl ?_
  refine w_aload_n cd_197_68 rfl ?_
  refine w_iload_n cd_197_69 rfl ?_
  refine w_iconst (v := 0) cd_197_70 (by decide) ?_
  refine w_lconst (lv := 0) cd_197_71 (by decide) ?_
  refine w_iconst (v := (-1)) cd_197_72 (by decide) ?_
  exact w_invokevirtual cd_197_73 (show mt_m 12 575 = some (198, 0) by decide +kernel) (rest := []) rfl (as := [.ref l1, .ref l3, .int l4, .int 0, .long 0, .int (-1)]) rfl h8 (Or.inl h9) ⟨Nat.le_of_ble_eq_true rfl, Nat.le_of_ble_eq_true rfl, Nat.le_of_ble_eq_true rfl⟩ h10
theorem b_197_76 {d : Nat} {Q : (Option Value ⊕ Nat) → mi_H → Prop} (n sl : Nat) (f : Nat → mi_C) {l1 : Nat} {l2 : Nat} {l3 : Nat} {l4 : Int32} {o5 : Option Value} {o6 : Option Value} {s7 : Int32} (h8 : Q (.inl (some (.int s7))) (n, sl, f)) : mi_W d 197 76 [some (.ref l1), some (.ref l2), some (.ref l3), some (.int l4), o5, o6] [.int s7] (n, sl, f) Q := by
  exact w_ireturn_i cd_197_76 (by decide +kernel) h8
theorem b_197_77 {d : Nat} {Q : (Option Value ⊕ Nat) → mi_H → Prop} (n sl : Nat) (f : Nat → mi_C) {l1 : Nat} {l2 : Nat} {l3 : Nat} {l4 : Int32} {o5 : Option Value} {o6 : Option Value} {fs7 : List Value} {x10 : Nat} {fs12 : List Value} {x15 : Int32} (m17 i17 : Nat) (g17 : Nat → Int32) (h8 : f l1 = .inr (12, fs7)) (h9 : l1 < n) (h11 : fs7[12]? = some (.ref x10)) (h13 : f l2 = .inr (13, fs12)) (h14 : l2 < n) (h16 : fs12[0]? = some (.int x15)) (h18 : f x10 = .inl (0, m17, .inl g17)) (h19 : x10 < n ∨ x10 = mi_SC) (h20 : mi_ix x15 m17 i17) (h21 : (g17 i17) = 4 → mi_W d 197 92 [some (.ref l1), some (.ref l2), some (.ref l3), some (.int l4), o5, o6] [] (n, sl, f) Q) (h22 : ¬ ((g17 i17) = 4) → mi_W d 197 90 [some (.ref l1), some (.ref l2), some (.ref l3), some (.int l4), o5, o6] [] (n, sl, f) Q) : mi_W d 197 77 [some (.ref l1), some (.ref l2), some (.ref l3), some (.int l4), o5, o6] [] (n, sl, f) Q := by
  refine w_aload_n cd_197_77 rfl ?_
  refine w_getfield cd_197_78 (show mt_f 12 77 = some (12, 12) by decide +kernel) h8 h9 h11 ?_
  refine w_aload_n cd_197_81 rfl ?_
  refine w_getfield cd_197_82 (show mt_f 12 496 = some (13, 0) by decide +kernel) h13 h14 h16 ?_
  refine w_iaload cd_197_85 h18 h19 h20 ?_
  refine w_iconst (v := 4) cd_197_86 (by decide) ?_
  exact w_if_icmpeq cd_197_87 (by decide) h21 h22
theorem b_197_90 {d : Nat} {Q : (Option Value ⊕ Nat) → mi_H → Prop} (n sl : Nat) (f : Nat → mi_C) {l1 : Nat} {l2 : Nat} {l3 : Nat} {l4 : Int32} {o5 : Option Value} {o6 : Option Value} (h7 : Q (.inl (some (.int 0))) (n, sl, f)) : mi_W d 197 90 [some (.ref l1), some (.ref l2), some (.ref l3), some (.int l4), o5, o6] [] (n, sl, f) Q := by
  refine w_iconst (v := 0) cd_197_90 (by decide) ?_
  exact w_ireturn_i cd_197_91 (by decide +kernel) h7
theorem b_197_92 {d : Nat} {Q : (Option Value ⊕ Nat) → mi_H → Prop} (n sl : Nat) (f : Nat → mi_C) {l1 : Nat} {l2 : Nat} {l3 : Nat} {l4 : Int32} {o5 : Option Value} {o6 : Option Value} {fs7 : List Value} {x10 : Nat} {fs12 : List Value} {x15 : Int32} (m17 i17 : Nat) (g17 : Nat → Int32) (h8 : f l1 = .inr (12, fs7)) (h9 : l1 < n) (h11 : fs7[17]? = some (.ref x10)) (h13 : f l2 = .inr (13, fs12)) (h14 : l2 < n) (h16 : fs12[0]? = some (.int x15)) (h18 : f x10 = .inl (0, m17, .inl g17)) (h19 : x10 < n ∨ x10 = mi_SC) (h20 : mi_ix x15 m17 i17) (h21 : mi_W d 197 103 [some (.ref l1), some (.ref l2), some (.ref l3), some (.int l4), some (.int (g17 i17)), o6] [] (n, sl, f) Q) : mi_W d 197 92 [some (.ref l1), some (.ref l2), some (.ref l3), some (.int l4), o5, o6] [] (n, sl, f) Q := by
  refine w_aload_n cd_197_92 rfl ?_
  refine w_getfield cd_197_93 (show mt_f 12 92 = some (12, 17) by decide +kernel) h8 h9 h11 ?_
  refine w_aload_n cd_197_96 rfl ?_
  refine w_getfield cd_197_97 (show mt_f 12 496 = some (13, 0) by decide +kernel) h13 h14 h16 ?_
  refine w_iaload cd_197_100 h18 h19 h20 ?_
  refine w_istore (ls' := [some (.ref l1), some (.ref l2), some (.ref l3), some (.int l4), some (.int (g17 i17)), o6]) cd_197_101 (Nat.le_of_ble_eq_true rfl) rfl ?_
  exact h21
theorem b_197_103 {d : Nat} {Q : (Option Value ⊕ Nat) → mi_H → Prop} (n sl : Nat) (f : Nat → mi_C) {l1 : Nat} {l2 : Nat} {l3 : Nat} {l4 : Int32} {l5 : Int32} {o6 : Option Value} (h7 : l5 < (0 : Int32) → mi_W d 197 161 [some (.ref l1), some (.ref l2), some (.ref l3), some (.int l4), some (.int l5), o6] [] (n, sl, f) Q) (h8 : ¬ (l5 < (0 : Int32)) → mi_W d 197 108 [some (.ref l1), some (.ref l2), some (.ref l3), some (.int l4), some (.int l5), o6] [] (n, sl, f) Q) : mi_W d 197 103 [some (.ref l1), some (.ref l2), some (.ref l3), some (.int l4), some (.int l5), o6] [] (n, sl, f) Q := by
  refine w_iload cd_197_103 rfl ?_
  exact w_iflt cd_197_105 (by decide) h7 h8
theorem b_197_108 {d : Nat} {Q : (Option Value ⊕ Nat) → mi_H → Prop} (n sl : Nat) (f : Nat → mi_C) {l1 : Nat} {l2 : Nat} {l3 : Nat} {l4 : Int32} {l5 : Int32} {o6 : Option Value} {fs7 : List Value} {x10 : Nat} (m12 i12 : Nat) (g12 : Nat → Int32) (h8 : f l1 = .inr (12, fs7)) (h9 : l1 < n) (h11 : fs7[12]? = some (.ref x10)) (h13 : f x10 = .inl (0, m12, .inl g12)) (h14 : x10 < n ∨ x10 = mi_SC) (h15 : mi_ix l5 m12 i12) (h16 : ¬ (g12 i12) = 8 → mi_W d 197 131 [some (.ref l1), some (.ref l2), some (.ref l3), some (.int l4), some (.int l5), o6] [] (n, sl, f) Q) (h17 : ¬ (¬ (g12 i12) = 8) → mi_W d 197 120 [some (.ref l1), some (.ref l2), some (.ref l3), some (.int l4), some (.int l5), o6] [] (n, sl, f) Q) : mi_W d 197 108 [some (.ref l1), some (.ref l2), some (.ref l3), some (.int l4), some (.int l5), o6] [] (n, sl, f) Q := by
  refine w_aload_n cd_197_108 rfl ?_
  refine w_getfield cd_197_109 (show mt_f 12 77 = some (12, 12) by decide +kernel) h8 h9 h11 ?_
  refine w_iload cd_197_112 rfl ?_
  refine w_iaload cd_197_114 h13 h14 h15 ?_
  refine w_bipush (v := 8) cd_197_115 (by decide) ?_
  exact w_if_icmpne cd_197_117 (by decide) h16 h17
theorem b_197_120 {d : Nat} {Q : (Option Value ⊕ Nat) → mi_H → Prop} (n sl : Nat) (f : Nat → mi_C) {l1 : Nat} {l2 : Nat} {l3 : Nat} {l4 : Int32} {l5 : Int32} {o6 : Option Value} {fs7 : List Value} (h8 : f l1 = .inr (12, fs7)) (h9 : l1 < n) (h10 : mi_W d 199 0 (mi_en 8 [.ref l1, .ref l2, .ref l3, .int l5]) [] (n, sl, f) (mi_Kc d 197 125 [some (.ref l1), some (.ref l2), some (.ref l3), some (.int l4), some (.int l5), o6] [] Q)) : mi_W (d + 1) 197 120 [some (.ref l1), some (.ref l2), some (.ref l3), some (.int l4), some (.int l5), o6] [] (n, sl, f) Q := by
  refine w_aload_n cd_197_120 rfl ?_
  refine w_aload_n cd_197_121 rfl ?_
  refine w_aload_n cd_197_122 rfl ?_
  refine w_iload cd_197_123 rfl ?_
  exact w_invokevirtual cd_197_125 (show mt_m 12 579 = some (199, 0) by decide +kernel) (rest := []) rfl (as := [.ref l1, .ref l2, .ref l3, .int l5]) rfl h8 (Or.inl h9) ⟨Nat.le_of_ble_eq_true rfl, Nat.le_of_ble_eq_true rfl, Nat.le_of_ble_eq_true rfl⟩ h10
theorem b_197_128 {d : Nat} {Q : (Option Value ⊕ Nat) → mi_H → Prop} (n sl : Nat) (f : Nat → mi_C) {l1 : Nat} {l2 : Nat} {l3 : Nat} {l4 : Int32} {l5 : Int32} {o6 : Option Value} {s7 : Int32} (h8 : mi_W d 197 139 [some (.ref l1), some (.ref l2), some (.ref l3), some (.int l4), some (.int l5), o6] [.int s7] (n, sl, f) Q) : mi_W d 197 128 [some (.ref l1), some (.ref l2), some (.ref l3), some (.int l4), some (.int l5), o6] [.int s7] (n, sl, f) Q := by
  exact w_goto cd_197_128 (by decide) h8
theorem b_197_131 {d : Nat} {Q : (Option Value ⊕ Nat) → mi_H → Prop} (n sl : Nat) (f : Nat → mi_C) {l1 : Nat} {l2 : Nat} {l3 : Nat} {l4 : Int32} {l5 : Int32} {o6 : Option Value} {fs7 : List Value} (h8 : f l1 = .inr (12, fs7)) (h9 : l1 < n) (h10 : mi_W d 201 0 (mi_en 6 [.ref l1, .ref l2, .ref l3, .int l5]) [] (n, sl, f) (mi_Kc d 197 136 [some (.ref l1), some (.ref l2), some (.ref l3), some (.int l4), some (.int l5), o6] [] Q)) : mi_W (d + 1) 197 131 [some (.ref l1), some (.ref l2), some (.ref l3), some (.int l4), some (.int l5), o6] [] (n, sl, f) Q := by
  refine w_aload_n cd_197_131 rfl ?_
  refine w_aload_n cd_197_132 rfl ?_
  refine w_aload_n cd_197_133 rfl ?_
  refine w_iload cd_197_134 rfl ?_
  exact w_invokevirtual cd_197_136 (show mt_m 12 583 = some (201, 0) by decide +kernel) (rest := []) rfl (as := [.ref l1, .ref l2, .ref l3, .int l5]) rfl h8 (Or.inl h9) ⟨Nat.le_of_ble_eq_true rfl, Nat.le_of_ble_eq_true rfl, Nat.le_of_ble_eq_true rfl⟩ h10
theorem b_197_139 {d : Nat} {Q : (Option Value ⊕ Nat) → mi_H → Prop} (n sl : Nat) (f : Nat → mi_C) {l1 : Nat} {l2 : Nat} {l3 : Nat} {l4 : Int32} {l5 : Int32} {o6 : Option Value} {s7 : Int32} (h8 : s7 = (0 : Int32) → mi_W d 197 149 [some (.ref l1), some (.ref l2), some (.ref l3), some (.int l4), some (.int l5), some (.int s7)] [] (n, sl, f) Q) (h9 : ¬ (s7 = (0 : Int32)) → mi_W d 197 146 [some (.ref l1), some (.ref l2), some (.ref l3), some (.int l4), some (.int l5), some (.int s7)] [] (n, sl, f) Q) : mi_W d 197 139 [some (.ref l1), some (.ref l2), some (.ref l3), some (.int l4), some (.int l5), o6] [.int s7] (n, sl, f) Q := by
  refine w_istore (ls' := [some (.ref l1), some (.ref l2), some (.ref l3), some (.int l4), some (.int l5), some (.int s7)]) cd_197_139 (Nat.le_of_ble_eq_true rfl) rfl ?_
  refine w_iload cd_197_141 rfl ?_
  exact w_ifeq cd_197_143 (by decide) h8 h9
theorem b_197_146 {d : Nat} {Q : (Option Value ⊕ Nat) → mi_H → Prop} (n sl : Nat) (f : Nat → mi_C) {l1 : Nat} {l2 : Nat} {l3 : Nat} {l4 : Int32} {l5 : Int32} {l6 : Int32} (h7 : Q (.inl (some (.int l6))) (n, sl, f)) : mi_W d 197 146 [some (.ref l1), some (.ref l2), some (.ref l3), some (.int l4), some (.int l5), some (.int l6)] [] (n, sl, f) Q := by
  refine w_iload cd_197_146 rfl ?_
  exact w_ireturn_i cd_197_148 (by decide +kernel) h7
theorem b_197_149 {d : Nat} {Q : (Option Value ⊕ Nat) → mi_H → Prop} (n sl : Nat) (f : Nat → mi_C) {l1 : Nat} {l2 : Nat} {l3 : Nat} {l4 : Int32} {l5 : Int32} {l6 : Int32} {fs7 : List Value} {x10 : Nat} (m12 i12 : Nat) (g12 : Nat → Int32) (h8 : f l1 = .inr (12, fs7)) (h9 : l1 < n) (h11 : fs7[39]? = some (.ref x10)) (h13 : f x10 = .inl (0, m12, .inl g12)) (h14 : x10 < n ∨ x10 = mi_SC) (h15 : mi_ix l5 m12 i12) (h16 : mi_W d 197 103 [some (.ref l1), some (.ref l2), some (.ref l3), some (.int l4), some (.int (g12 i12)), some (.int l6)] [] (n, sl, f) Q) : mi_W d 197 149 [some (.ref l1), some (.ref l2), some (.ref l3), some (.int l4), some (.int l5), some (.int l6)] [] (n, sl, f) Q := by
  refine w_aload_n cd_197_149 rfl ?_
  refine w_getfield cd_197_150 (show mt_f 12 138 = some (12, 39) by decide +kernel) h8 h9 h11 ?_
  refine w_iload cd_197_153 rfl ?_
  refine w_iaload cd_197_155 h13 h14 h15 ?_
  refine w_istore (ls' := [some (.ref l1), some (.ref l2), some (.ref l3), some (.int l4), some (.int (g12 i12)), some (.int l6)]) cd_197_156 (Nat.le_of_ble_eq_true rfl) rfl ?_
  exact w_goto cd_197_158 (by decide) h16
theorem b_197_161 {d : Nat} {Q : (Option Value ⊕ Nat) → mi_H → Prop} (n sl : Nat) (f : Nat → mi_C) {l1 : Nat} {l2 : Nat} {l3 : Nat} {l4 : Int32} {l5 : Int32} {o6 : Option Value} {fs7 : List Value} (h8 : f l3 = .inr (13, fs7)) (h9 : l3 < n) (h10 : mi_W d 173 0 (mi_en 3 [.ref l3, .ref l2]) [] (n, sl, f) (mi_Kc d 197 163 [some (.ref l1), some (.ref l2), some (.ref l3), some (.int l4), some (.int l5), o6] [] Q)) : mi_W (d + 1) 197 161 [some (.ref l1), some (.ref l2), some (.ref l3), some (.int l4), some (.int l5), o6] [] (n, sl, f) Q := by
  refine w_aload_n cd_197_161 rfl ?_
  refine w_aload_n cd_197_162 rfl ?_
  exact w_invokevirtual cd_197_163 (show mt_m 12 525 = some (173, 0) by decide +kernel) (rest := []) rfl (as := [.ref l3, .ref l2]) rfl h8 (Or.inl h9) ⟨Nat.le_of_ble_eq_true rfl, Nat.le_of_ble_eq_true rfl, Nat.le_of_ble_eq_true rfl⟩ h10
theorem b_197_166 {d : Nat} {Q : (Option Value ⊕ Nat) → mi_H → Prop} (n sl : Nat) (f : Nat → mi_C) {l1 : Nat} {l2 : Nat} {l3 : Nat} {l4 : Int32} {l5 : Int32} {o6 : Option Value} {fs7 : List Value} {fs11 : List Value} {x14 : Nat} {fs16 : List Value} {x19 : Int32} (m21 i21 : Nat) (g21 : Nat → Int64) {fs25 : List Value} (h8 : f l1 = .inr (12, fs7)) (h9 : l1 < n) (h10 : 43 < fs7.length) (h12 : (va_up f l1 (.inr (12, fs7.set 43 (.ref l3)))) l1 = .inr (12, fs11)) (h13 : l1 < n) (h15 : fs11[20]? = some (.ref x14)) (h17 : (va_up f l1 (.inr (12, fs7.set 43 (.ref l3)))) l2 = .inr (13, fs16)) (h18 : l2 < n) (h20 : fs16[0]? = some (.int x19)) (h22 : (va_up f l1 (.inr (12, fs7.set 43 (.ref l3)))) x14 = .inl (3, m21, .inr (.inl g21))) (h23 : x14 < n) (h24 : mi_ix x19 m21 i21) (h26 : (va_up f l1 (.inr (12, fs7.set 43 (.ref l3)))) l1 = .inr (12, fs25)) (h27 : l1 < n) (h28 : mi_W d 174 0 (mi_en 8 [.ref l1, .long (g21 i21), .long (g21 i21), .int 0]) [] (n, sl, (va_up f l1 (.inr (12, fs7.set 43 (.ref l3))))) (mi_Kc d 197 188 [some (.ref l1), some (.ref l2), some (.ref l3), some (.int l4), some (.long (g21 i21)), none] [] Q)) : mi_W (d + 1) 197 166 [some (.ref l1), some (.ref l2), some (.ref l3), some (.int l4), some (.int l5), o6] [] (n, sl, f) Q := by
  refine w_aload_n cd_197_166 rfl ?_
  refine w_aload_n cd_197_167 rfl ?_
  refine w_putfield (w := .ref l3) cd_197_168 (show mt_f 12 445 = some (12, 43) by decide +kernel) h8 h9 ⟨h10, rfl, Or.inl (by decide)⟩ ?_
  refine w_aload_n cd_197_171 rfl ?_
  refine w_getfield cd_197_172 (show mt_f 12 101 = some (12, 20) by decide +kernel) h12 h13 h15 ?_
  refine w_aload_n cd_197_175 rfl ?_
  refine w_getfield cd_197_176 (show mt_f 12 496 = some (13, 0) by decide +kernel) h17 h18 h20 ?_
  refine w_laload cd_197_179 h22 h23 h24 ?_
  refine w_lstore (ls' := [some (.ref l1), some (.ref l2), some (.ref l3), some (.int l4), some (.long (g21 i21)), none]) cd_197_180 (Nat.le_of_ble_eq_true rfl) rfl ?_
  refine w_aload_n cd_197_182 rfl ?_
  refine w_lload cd_197_183 rfl ?_
  refine w_lload cd_197_185 rfl ?_
  refine w_iconst (v := 0) cd_197_187 (by decide) ?_
  exact w_invokevirtual cd_197_188 (show mt_m 12 529 = some (174, 0) by decide +kernel) (rest := []) rfl (as := [.ref l1, .long (g21 i21), .long (g21 i21), .int 0]) rfl h26 (Or.inl h27) ⟨Nat.le_of_ble_eq_true rfl, Nat.le_of_ble_eq_true rfl, Nat.le_of_ble_eq_true rfl⟩ h28
theorem b_197_191 {d : Nat} {Q : (Option Value ⊕ Nat) → mi_H → Prop} (n sl : Nat) (f : Nat → mi_C) {l1 : Nat} {l2 : Nat} {l3 : Nat} {l4 : Int32} {l5 : Int64} {s6 : Int32} {fs7 : List Value} (h8 : f l1 = .inr (12, fs7)) (h9 : l1 < n) (h10 : mi_W d 198 0 (mi_en 8 [.ref l1, .ref l3, .int s6, .int 4, .long l5, .int (-1)]) [] (n, sl, f) (mi_Kc d 197 199 [some (.ref l1), some (.ref l2), some (.ref l3), some (.int s6), some (.long l5), none] [] Q)) : mi_W (d + 1) 197 191 [some (.ref l1), some (.ref l2), some (.ref l3), some (.int l4), some (.long l5), none] [.int s6] (n, sl, f) Q := by
  refine w_istore_n (ls' := [some (.ref l1), some (.ref l2), some (.ref l3), some (.int s6), some (.long l5), none]) cd_197_191 (Nat.le_of_ble_eq_true rfl) rfl ?_
  refine w_aload_n cd_197_192 rfl ?_
  refine w_aload_n cd_197_193 rfl ?_
  refine w_iload_n cd_197_194 rfl ?_
  refine w_iconst (v := 4) cd_197_195 (by decide) ?_
  refine w_lload cd_197_196 rfl ?_
  refine w_iconst (v := (-1)) cd_197_198 (by decide) ?_
  exact w_invokevirtual cd_197_199 (show mt_m 12 575 = some (198, 0) by decide +kernel) (rest := []) rfl (as := [.ref l1, .ref l3, .int s6, .int 4, .long l5, .int (-1)]) rfl h8 (Or.inl h9) ⟨Nat.le_of_ble_eq_true rfl, Nat.le_of_ble_eq_true rfl, Nat.le_of_ble_eq_true rfl⟩ h10
theorem b_197_202 {d : Nat} {Q : (Option Value ⊕ Nat) → mi_H → Prop} (n sl : Nat) (f : Nat → mi_C) {l1 : Nat} {l2 : Nat} {l3 : Nat} {l4 : Int32} {l5 : Int64} {s6 : Int32} (h7 : Q (.inl (some (.int s6))) (n, sl, f)) : mi_W d 197 202 [some (.ref l1), some (.ref l2), some (.ref l3), some (.int l4), some (.long l5), none] [.int s6] (n, sl, f) Q := by
  exact w_ireturn_i cd_197_202 (by decide +kernel) h7
/-! MarloweHostModel.stepped(LMarloweHostModel$State;IIJI)I -/
set_option maxRecDepth 100000 in
theorem mq_198 : mt_q 198 = my_198 := rfl
set_option maxRecDepth 100000 in
theorem ci_198 : mt_inc 0 my_198.cd = true := by decide +kernel
theorem cd_198_0 : mt_cd 198 0 = some (.aload_n 0) := mt_cd_of (q := (0, .aload_n 0, 1)) mq_198 ci_198 (List.mem_of_getElem? (i := 0) rfl)
theorem cd_198_1 : mt_cd 198 1 = some (.dup) := mt_cd_of (q := (1, .dup, 1)) mq_198 ci_198 (List.mem_of_getElem? (i := 1) rfl)
theorem cd_198_2 : mt_cd 198 2 = some (.getfield 562) := mt_cd_of (q := (2, .getfield 562, 3)) mq_198 ci_198 (List.mem_of_getElem? (i := 2) rfl)
theorem cd_198_5 : mt_cd 198 5 = some (.iconst 1) := mt_cd_of (q := (5, .iconst 1, 1)) mq_198 ci_198 (List.mem_of_getElem? (i := 3) rfl)
theorem cd_198_6 : mt_cd 198 6 = some (.iadd) := mt_cd_of (q := (6, .iadd, 1)) mq_198 ci_198 (List.mem_of_getElem? (i := 4) rfl)
theorem cd_198_7 : mt_cd 198 7 = some (.dup_x1) := mt_cd_of (q := (7, .dup_x1, 1)) mq_198 ci_198 (List.mem_of_getElem? (i := 5) rfl)
theorem cd_198_8 : mt_cd 198 8 = some (.putfield 562) := mt_cd_of (q := (8, .putfield 562, 3)) mq_198 ci_198 (List.mem_of_getElem? (i := 6) rfl)
theorem cd_198_11 : mt_cd 198 11 = some (.sipush 5000) := mt_cd_of (q := (11, .sipush 5000, 3)) mq_198 ci_198 (List.mem_of_getElem? (i := 7) rfl)
theorem cd_198_14 : mt_cd 198 14 = some (.if_icmp .le 5) := mt_cd_of (q := (14, .if_icmp .le 5, 3)) mq_198 ci_198 (List.mem_of_getElem? (i := 8) rfl)
theorem cd_198_17 : mt_cd 198 17 = some (.iconst 2) := mt_cd_of (q := (17, .iconst 2, 1)) mq_198 ci_198 (List.mem_of_getElem? (i := 9) rfl)
theorem cd_198_18 : mt_cd 198 18 = some (.ireturn) := mt_cd_of (q := (18, .ireturn, 1)) mq_198 ci_198 (List.mem_of_getElem? (i := 10) rfl)
theorem cd_198_19 : mt_cd 198 19 = some (.iload_n 2) := mt_cd_of (q := (19, .iload_n 2, 1)) mq_198 ci_198 (List.mem_of_getElem? (i := 11) rfl)
theorem cd_198_20 : mt_cd 198 20 = some (.ifCond .eq 5) := mt_cd_of (q := (20, .ifCond .eq 5, 3)) mq_198 ci_198 (List.mem_of_getElem? (i := 12) rfl)
theorem cd_198_23 : mt_cd 198 23 = some (.iconst 0) := mt_cd_of (q := (23, .iconst 0, 1)) mq_198 ci_198 (List.mem_of_getElem? (i := 13) rfl)
theorem cd_198_24 : mt_cd 198 24 = some (.ireturn) := mt_cd_of (q := (24, .ireturn, 1)) mq_198 ci_198 (List.mem_of_getElem? (i := 14) rfl)
theorem cd_198_25 : mt_cd 198 25 = some (.aload_n 0) := mt_cd_of (q := (25, .aload_n 0, 1)) mq_198 ci_198 (List.mem_of_getElem? (i := 15) rfl)
theorem cd_198_26 : mt_cd 198 26 = some (.getfield 211) := mt_cd_of (q := (26, .getfield 211, 3)) mq_198 ci_198 (List.mem_of_getElem? (i := 16) rfl)
theorem cd_198_29 : mt_cd 198 29 = some (.aload_n 0) := mt_cd_of (q := (29, .aload_n 0, 1)) mq_198 ci_198 (List.mem_of_getElem? (i := 17) rfl)
theorem cd_198_30 : mt_cd 198 30 = some (.getfield 568) := mt_cd_of (q := (30, .getfield 568, 3)) mq_198 ci_198 (List.mem_of_getElem? (i := 18) rfl)
theorem cd_198_33 : mt_cd 198 33 = some (.iload_n 3) := mt_cd_of (q := (33, .iload_n 3, 1)) mq_198 ci_198 (List.mem_of_getElem? (i := 19) rfl)
theorem cd_198_34 : mt_cd 198 34 = some (.iastore) := mt_cd_of (q := (34, .iastore, 1)) mq_198 ci_198 (List.mem_of_getElem? (i := 20) rfl)
theorem cd_198_35 : mt_cd 198 35 = some (.aload_n 0) := mt_cd_of (q := (35, .aload_n 0, 1)) mq_198 ci_198 (List.mem_of_getElem? (i := 21) rfl)
theorem cd_198_36 : mt_cd 198 36 = some (.getfield 223) := mt_cd_of (q := (36, .getfield 223, 3)) mq_198 ci_198 (List.mem_of_getElem? (i := 22) rfl)
theorem cd_198_39 : mt_cd 198 39 = some (.aload_n 0) := mt_cd_of (q := (39, .aload_n 0, 1)) mq_198 ci_198 (List.mem_of_getElem? (i := 23) rfl)
theorem cd_198_40 : mt_cd 198 40 = some (.getfield 568) := mt_cd_of (q := (40, .getfield 568, 3)) mq_198 ci_198 (List.mem_of_getElem? (i := 24) rfl)
theorem cd_198_43 : mt_cd 198 43 = some (.lload 4) := mt_cd_of (q := (43, .lload 4, 2)) mq_198 ci_198 (List.mem_of_getElem? (i := 25) rfl)
theorem cd_198_45 : mt_cd 198 45 = some (.lastore) := mt_cd_of (q := (45, .lastore, 1)) mq_198 ci_198 (List.mem_of_getElem? (i := 26) rfl)
theorem cd_198_46 : mt_cd 198 46 = some (.aload_n 0) := mt_cd_of (q := (46, .aload_n 0, 1)) mq_198 ci_198 (List.mem_of_getElem? (i := 27) rfl)
theorem cd_198_47 : mt_cd 198 47 = some (.getfield 214) := mt_cd_of (q := (47, .getfield 214, 3)) mq_198 ci_198 (List.mem_of_getElem? (i := 28) rfl)
theorem cd_198_50 : mt_cd 198 50 = some (.aload_n 0) := mt_cd_of (q := (50, .aload_n 0, 1)) mq_198 ci_198 (List.mem_of_getElem? (i := 29) rfl)
theorem cd_198_51 : mt_cd 198 51 = some (.dup) := mt_cd_of (q := (51, .dup, 1)) mq_198 ci_198 (List.mem_of_getElem? (i := 30) rfl)
theorem cd_198_52 : mt_cd 198 52 = some (.getfield 568) := mt_cd_of (q := (52, .getfield 568, 3)) mq_198 ci_198 (List.mem_of_getElem? (i := 31) rfl)
theorem cd_198_55 : mt_cd 198 55 = some (.dup_x1) := mt_cd_of (q := (55, .dup_x1, 1)) mq_198 ci_198 (List.mem_of_getElem? (i := 32) rfl)
theorem cd_198_56 : mt_cd 198 56 = some (.iconst 1) := mt_cd_of (q := (56, .iconst 1, 1)) mq_198 ci_198 (List.mem_of_getElem? (i := 33) rfl)
theorem cd_198_57 : mt_cd 198 57 = some (.iadd) := mt_cd_of (q := (57, .iadd, 1)) mq_198 ci_198 (List.mem_of_getElem? (i := 34) rfl)
theorem cd_198_58 : mt_cd 198 58 = some (.putfield 568) := mt_cd_of (q := (58, .putfield 568, 3)) mq_198 ci_198 (List.mem_of_getElem? (i := 35) rfl)
theorem cd_198_61 : mt_cd 198 61 = some (.iload 6) := mt_cd_of (q := (61, .iload 6, 2)) mq_198 ci_198 (List.mem_of_getElem? (i := 36) rfl)
theorem cd_198_63 : mt_cd 198 63 = some (.iastore) := mt_cd_of (q := (63, .iastore, 1)) mq_198 ci_198 (List.mem_of_getElem? (i := 37) rfl)
theorem cd_198_64 : mt_cd 198 64 = some (.aload_n 0) := mt_cd_of (q := (64, .aload_n 0, 1)) mq_198 ci_198 (List.mem_of_getElem? (i := 38) rfl)
theorem cd_198_65 : mt_cd 198 65 = some (.getfield 490) := mt_cd_of (q := (65, .getfield 490, 3)) mq_198 ci_198 (List.mem_of_getElem? (i := 39) rfl)
theorem cd_198_68 : mt_cd 198 68 = some (.ifCond .le 83) := mt_cd_of (q := (68, .ifCond .le 83, 3)) mq_198 ci_198 (List.mem_of_getElem? (i := 40) rfl)
theorem cd_198_71 : mt_cd 198 71 = some (.aload_n 0) := mt_cd_of (q := (71, .aload_n 0, 1)) mq_198 ci_198 (List.mem_of_getElem? (i := 41) rfl)
theorem cd_198_72 : mt_cd 198 72 = some (.aload_n 0) := mt_cd_of (q := (72, .aload_n 0, 1)) mq_198 ci_198 (List.mem_of_getElem? (i := 42) rfl)
theorem cd_198_73 : mt_cd 198 73 = some (.getfield 568) := mt_cd_of (q := (73, .getfield 568, 3)) mq_198 ci_198 (List.mem_of_getElem? (i := 43) rfl)
theorem cd_198_76 : mt_cd 198 76 = some (.putfield 565) := mt_cd_of (q := (76, .putfield 565, 3)) mq_198 ci_198 (List.mem_of_getElem? (i := 44) rfl)
theorem cd_198_79 : mt_cd 198 79 = some (.iconst 0) := mt_cd_of (q := (79, .iconst 0, 1)) mq_198 ci_198 (List.mem_of_getElem? (i := 45) rfl)
theorem cd_198_80 : mt_cd 198 80 = some (.istore 7) := mt_cd_of (q := (80, .istore 7, 2)) mq_198 ci_198 (List.mem_of_getElem? (i := 46) rfl)
theorem cd_198_82 : mt_cd 198 82 = some (.iload 7) := mt_cd_of (q := (82, .iload 7, 2)) mq_198 ci_198 (List.mem_of_getElem? (i := 47) rfl)
theorem cd_198_84 : mt_cd 198 84 = some (.aload_n 0) := mt_cd_of (q := (84, .aload_n 0, 1)) mq_198 ci_198 (List.mem_of_getElem? (i := 48) rfl)
theorem cd_198_85 : mt_cd 198 85 = some (.getfield 568) := mt_cd_of (q := (85, .getfield 568, 3)) mq_198 ci_198 (List.mem_of_getElem? (i := 49) rfl)
theorem cd_198_88 : mt_cd 198 88 = some (.if_icmp .ge 51) := mt_cd_of (q := (88, .if_icmp .ge 51, 3)) mq_198 ci_198 (List.mem_of_getElem? (i := 50) rfl)
theorem cd_198_91 : mt_cd 198 91 = some (.aload_n 0) := mt_cd_of (q := (91, .aload_n 0, 1)) mq_198 ci_198 (List.mem_of_getElem? (i := 51) rfl)
theorem cd_198_92 : mt_cd 198 92 = some (.getfield 217) := mt_cd_of (q := (92, .getfield 217, 3)) mq_198 ci_198 (List.mem_of_getElem? (i := 52) rfl)
theorem cd_198_95 : mt_cd 198 95 = some (.iload 7) := mt_cd_of (q := (95, .iload 7, 2)) mq_198 ci_198 (List.mem_of_getElem? (i := 53) rfl)
theorem cd_198_97 : mt_cd 198 97 = some (.aload_n 0) := mt_cd_of (q := (97, .aload_n 0, 1)) mq_198 ci_198 (List.mem_of_getElem? (i := 54) rfl)
theorem cd_198_98 : mt_cd 198 98 = some (.getfield 211) := mt_cd_of (q := (98, .getfield 211, 3)) mq_198 ci_198 (List.mem_of_getElem? (i := 55) rfl)
theorem cd_198_101 : mt_cd 198 101 = some (.iload 7) := mt_cd_of (q := (101, .iload 7, 2)) mq_198 ci_198 (List.mem_of_getElem? (i := 56) rfl)
theorem cd_198_103 : mt_cd 198 103 = some (.iaload) := mt_cd_of (q := (103, .iaload, 1)) mq_198 ci_198 (List.mem_of_getElem? (i := 57) rfl)
theorem cd_198_104 : mt_cd 198 104 = some (.iastore) := mt_cd_of (q := (104, .iastore, 1)) mq_198 ci_198 (List.mem_of_getElem? (i := 58) rfl)
theorem cd_198_105 : mt_cd 198 105 = some (.aload_n 0) := mt_cd_of (q := (105, .aload_n 0, 1)) mq_198 ci_198 (List.mem_of_getElem? (i := 59) rfl)
theorem cd_198_106 : mt_cd 198 106 = some (.getfield 226) := mt_cd_of (q := (106, .getfield 226, 3)) mq_198 ci_198 (List.mem_of_getElem? (i := 60) rfl)
theorem cd_198_109 : mt_cd 198 109 = some (.iload 7) := mt_cd_of (q := (109, .iload 7, 2)) mq_198 ci_198 (List.mem_of_getElem? (i := 61) rfl)
theorem cd_198_111 : mt_cd 198 111 = some (.aload_n 0) := mt_cd_of (q := (111, .aload_n 0, 1)) mq_198 ci_198 (List.mem_of_getElem? (i := 62) rfl)
theorem cd_198_112 : mt_cd 198 112 = some (.getfield 223) := mt_cd_of (q := (112, .getfield 223, 3)) mq_198 ci_198 (List.mem_of_getElem? (i := 63) rfl)
theorem cd_198_115 : mt_cd 198 115 = some (.iload 7) := mt_cd_of (q := (115, .iload 7, 2)) mq_198 ci_198 (List.mem_of_getElem? (i := 64) rfl)
theorem cd_198_117 : mt_cd 198 117 = some (.laload) := mt_cd_of (q := (117, .laload, 1)) mq_198 ci_198 (List.mem_of_getElem? (i := 65) rfl)
theorem cd_198_118 : mt_cd 198 118 = some (.lastore) := mt_cd_of (q := (118, .lastore, 1)) mq_198 ci_198 (List.mem_of_getElem? (i := 66) rfl)
theorem cd_198_119 : mt_cd 198 119 = some (.aload_n 0) := mt_cd_of (q := (119, .aload_n 0, 1)) mq_198 ci_198 (List.mem_of_getElem? (i := 67) rfl)
theorem cd_198_120 : mt_cd 198 120 = some (.getfield 220) := mt_cd_of (q := (120, .getfield 220, 3)) mq_198 ci_198 (List.mem_of_getElem? (i := 68) rfl)
theorem cd_198_123 : mt_cd 198 123 = some (.iload 7) := mt_cd_of (q := (123, .iload 7, 2)) mq_198 ci_198 (List.mem_of_getElem? (i := 69) rfl)
theorem cd_198_125 : mt_cd 198 125 = some (.aload_n 0) := mt_cd_of (q := (125, .aload_n 0, 1)) mq_198 ci_198 (List.mem_of_getElem? (i := 70) rfl)
theorem cd_198_126 : mt_cd 198 126 = some (.getfield 214) := mt_cd_of (q := (126, .getfield 214, 3)) mq_198 ci_198 (List.mem_of_getElem? (i := 71) rfl)
theorem cd_198_129 : mt_cd 198 129 = some (.iload 7) := mt_cd_of (q := (129, .iload 7, 2)) mq_198 ci_198 (List.mem_of_getElem? (i := 72) rfl)
theorem cd_198_131 : mt_cd 198 131 = some (.iaload) := mt_cd_of (q := (131, .iaload, 1)) mq_198 ci_198 (List.mem_of_getElem? (i := 73) rfl)
theorem cd_198_132 : mt_cd 198 132 = some (.iastore) := mt_cd_of (q := (132, .iastore, 1)) mq_198 ci_198 (List.mem_of_getElem? (i := 74) rfl)
theorem cd_198_133 : mt_cd 198 133 = some (.iinc 7 1) := mt_cd_of (q := (133, .iinc 7 1, 3)) mq_198 ci_198 (List.mem_of_getElem? (i := 75) rfl)
theorem cd_198_136 : mt_cd 198 136 = some (.goto (-54)) := mt_cd_of (q := (136, .goto (-54), 3)) mq_198 ci_198 (List.mem_of_getElem? (i := 76) rfl)
theorem cd_198_139 : mt_cd 198 139 = some (.aload_n 0) := mt_cd_of (q := (139, .aload_n 0, 1)) mq_198 ci_198 (List.mem_of_getElem? (i := 77) rfl)
theorem cd_198_140 : mt_cd 198 140 = some (.dup) := mt_cd_of (q := (140, .dup, 1)) mq_198 ci_198 (List.mem_of_getElem? (i := 78) rfl)
theorem cd_198_141 : mt_cd 198 141 = some (.getfield 568) := mt_cd_of (q := (141, .getfield 568, 3)) mq_198 ci_198 (List.mem_of_getElem? (i := 79) rfl)
theorem cd_198_144 : mt_cd 198 144 = some (.iconst 1) := mt_cd_of (q := (144, .iconst 1, 1)) mq_198 ci_198 (List.mem_of_getElem? (i := 80) rfl)
theorem cd_198_145 : mt_cd 198 145 = some (.isub) := mt_cd_of (q := (145, .isub, 1)) mq_198 ci_198 (List.mem_of_getElem? (i := 81) rfl)
theorem cd_198_146 : mt_cd 198 146 = some (.putfield 568) := mt_cd_of (q := (146, .putfield 568, 3)) mq_198 ci_198 (List.mem_of_getElem? (i := 82) rfl)
theorem cd_198_149 : mt_cd 198 149 = some (.iconst 1) := mt_cd_of (q := (149, .iconst 1, 1)) mq_198 ci_198 (List.mem_of_getElem? (i := 83) rfl)
theorem cd_198_150 : mt_cd 198 150 = some (.ireturn) := mt_cd_of (q := (150, .ireturn, 1)) mq_198 ci_198 (List.mem_of_getElem? (i := 84) rfl)
theorem cd_198_151 : mt_cd 198 151 = some (.aload_n 0) := mt_cd_of (q := (151, .aload_n 0, 1)) mq_198 ci_198 (List.mem_of_getElem? (i := 85) rfl)
theorem cd_198_152 : mt_cd 198 152 = some (.aload_n 1) := mt_cd_of (q := (152, .aload_n 1, 1)) mq_198 ci_198 (List.mem_of_getElem? (i := 86) rfl)
theorem cd_198_153 : mt_cd 198 153 = some (.invokevirtual 571) := mt_cd_of (q := (153, .invokevirtual 571, 3)) mq_198 ci_198 (List.mem_of_getElem? (i := 87) rfl)
theorem cd_198_156 : mt_cd 198 156 = some (.istore 7) := mt_cd_of (q := (156, .istore 7, 2)) mq_198 ci_198 (List.mem_of_getElem? (i := 88) rfl)
theorem cd_198_158 : mt_cd 198 158 = some (.aload_n 0) := mt_cd_of (q := (158, .aload_n 0, 1)) mq_198 ci_198 (List.mem_of_getElem? (i := 89) rfl)
theorem cd_198_159 : mt_cd 198 159 = some (.dup) := mt_cd_of (q := (159, .dup, 1)) mq_198 ci_198 (List.mem_of_getElem? (i := 90) rfl)
theorem cd_198_160 : mt_cd 198 160 = some (.getfield 568) := mt_cd_of (q := (160, .getfield 568, 3)) mq_198 ci_198 (List.mem_of_getElem? (i := 91) rfl)
theorem cd_198_163 : mt_cd 198 163 = some (.iconst 1) := mt_cd_of (q := (163, .iconst 1, 1)) mq_198 ci_198 (List.mem_of_getElem? (i := 92) rfl)
theorem cd_198_164 : mt_cd 198 164 = some (.isub) := mt_cd_of (q := (164, .isub, 1)) mq_198 ci_198 (List.mem_of_getElem? (i := 93) rfl)
theorem cd_198_165 : mt_cd 198 165 = some (.putfield 568) := mt_cd_of (q := (165, .putfield 568, 3)) mq_198 ci_198 (List.mem_of_getElem? (i := 94) rfl)
theorem cd_198_168 : mt_cd 198 168 = some (.iload 7) := mt_cd_of (q := (168, .iload 7, 2)) mq_198 ci_198 (List.mem_of_getElem? (i := 95) rfl)
theorem cd_198_170 : mt_cd 198 170 = some (.ireturn) := mt_cd_of (q := (170, .ireturn, 1)) mq_198 ci_198 (List.mem_of_getElem? (i := 96) rfl)
theorem b_198_0 {d : Nat} {Q : (Option Value ⊕ Nat) → mi_H → Prop} (n sl : Nat) (f : Nat → mi_C) {l1 : Nat} {l2 : Nat} {l3 : Int32} {l4 : Int32} {l5 : Int64} {l6 : Int32} {o7 : Option Value} {fs8 : List Value} {x11 : Int32} {fs13 : List Value} (h9 : f l1 = .inr (12, fs8)) (h10 : l1 < n) (h12 : fs8[73]? = some (.int x11)) (h14 : f l1 = .inr (12, fs13)) (h15 : l1 < n) (h16 : 73 < fs13.length) (h17 : (x11 + 1) ≤ 5000 → mi_W d 198 19 [some (.ref l1), some (.ref l2), some (.int l3), some (.int l4), some (.long l5), none, some (.int l6), o7] [] (n, sl, (va_up f l1 (.inr (12, fs13.set 73 (.int (x11 + 1)))))) Q) (h18 : ¬ ((x11 + 1) ≤ 5000) → mi_W d 198 17 [some (.ref l1), some (.ref l2), some (.int l3), some (.int l4), some (.long l5), none, some (.int l6), o7] [] (n, sl, (va_up f l1 (.inr (12, fs13.set 73 (.int (x11 + 1)))))) Q) : mi_W d 198 0 [some (.ref l1), some (.ref l2), some (.int l3), some (.int l4), some (.long l5), none, some (.int l6), o7] [] (n, sl, f) Q := by
  refine w_aload_n cd_198_0 rfl ?_
  refine w_dup_r cd_198_1 ?_
  refine w_getfield cd_198_2 (show mt_f 12 562 = some (12, 73) by decide +kernel) h9 h10 h12 ?_
  refine w_iconst (v := 1) cd_198_5 (by decide) ?_
  refine w_iadd cd_198_6 ?_
  refine w_dup_x1_ir cd_198_7 ?_
  refine w_putfield (w := .int (x11 + 1)) cd_198_8 (show mt_f 12 562 = some (12, 73) by decide +kernel) h14 h15 ⟨h16, rfl, Or.inl (by decide)⟩ ?_
  refine w_sipush (v := 5000) cd_198_11 (by decide) ?_
  exact w_if_icmple cd_198_14 (by decide) h17 h18
theorem b_198_17 {d : Nat} {Q : (Option Value ⊕ Nat) → mi_H → Prop} (n sl : Nat) (f : Nat → mi_C) {l1 : Nat} {l2 : Nat} {l3 : Int32} {l4 : Int32} {l5 : Int64} {l6 : Int32} {o7 : Option Value} (h8 : Q (.inl (some (.int 2))) (n, sl, f)) : mi_W d 198 17 [some (.ref l1), some (.ref l2), some (.int l3), some (.int l4), some (.long l5), none, some (.int l6), o7] [] (n, sl, f) Q := by
  refine w_iconst (v := 2) cd_198_17 (by decide) ?_
  exact w_ireturn_i cd_198_18 (by decide +kernel) h8
theorem b_198_19 {d : Nat} {Q : (Option Value ⊕ Nat) → mi_H → Prop} (n sl : Nat) (f : Nat → mi_C) {l1 : Nat} {l2 : Nat} {l3 : Int32} {l4 : Int32} {l5 : Int64} {l6 : Int32} {o7 : Option Value} (h8 : l3 = (0 : Int32) → mi_W d 198 25 [some (.ref l1), some (.ref l2), some (.int l3), some (.int l4), some (.long l5), none, some (.int l6), o7] [] (n, sl, f) Q) (h9 : ¬ (l3 = (0 : Int32)) → mi_W d 198 23 [some (.ref l1), some (.ref l2), some (.int l3), some (.int l4), some (.long l5), none, some (.int l6), o7] [] (n, sl, f) Q) : mi_W d 198 19 [some (.ref l1), some (.ref l2), some (.int l3), some (.int l4), some (.long l5), none, some (.int l6), o7] [] (n, sl, f) Q := by
  refine w_iload_n cd_198_19 rfl ?_
  exact w_ifeq cd_198_20 (by decide) h8 h9
theorem b_198_23 {d : Nat} {Q : (Option Value ⊕ Nat) → mi_H → Prop} (n sl : Nat) (f : Nat → mi_C) {l1 : Nat} {l2 : Nat} {l3 : Int32} {l4 : Int32} {l5 : Int64} {l6 : Int32} {o7 : Option Value} (h8 : Q (.inl (some (.int 0))) (n, sl, f)) : mi_W d 198 23 [some (.ref l1), some (.ref l2), some (.int l3), some (.int l4), some (.long l5), none, some (.int l6), o7] [] (n, sl, f) Q := by
  refine w_iconst (v := 0) cd_198_23 (by decide) ?_
  exact w_ireturn_i cd_198_24 (by decide +kernel) h8
theorem b_198_25 {d : Nat} {Q : (Option Value ⊕ Nat) → mi_H → Prop} (n sl : Nat) (f : Nat → mi_C) {l1 : Nat} {l2 : Nat} {l3 : Int32} {l4 : Int32} {l5 : Int64} {l6 : Int32} {o7 : Option Value} {fs8 : List Value} {x11 : Nat} {fs13 : List Value} {x16 : Int32} (m18 i18 : Nat) (g18 : Nat → Int32) {fs22 : List Value} {x25 : Nat} {fs27 : List Value} {x30 : Int32} (m32 i32 : Nat) (g32 : Nat → Int64) {fs36 : List Value} {x39 : Nat} {fs41 : List Value} {x44 : Int32} {fs46 : List Value} (m50 i50 : Nat) (g50 : Nat → Int32) {fs54 : List Value} {x57 : Int32} (h9 : f l1 = .inr (12, fs8)) (h10 : l1 < n) (h12 : fs8[76]? = some (.ref x11)) (h14 : f l1 = .inr (12, fs13)) (h15 : l1 < n) (h17 : fs13[74]? = some (.int x16)) (h19 : f x11 = .inl (0, m18, .inl g18)) (h20 : x11 < n) (h21 : mi_ix x16 m18 i18) (h23 : (va_up f x11 (.inl (0, m18, .inl (upd g18 i18 l4)))) l1 = .inr (12, fs22)) (h24 : l1 < n) (h26 : fs22[80]? = some (.ref x25)) (h28 : (va_up f x11 (.inl (0, m18, .inl (upd g18 i18 l4)))) l1 = .inr (12, fs27)) (h29 : l1 < n) (h31 : fs27[74]? = some (.int x30)) (h33 : (va_up f x11 (.inl (0, m18, .inl (upd g18 i18 l4)))) x25 = .inl (3, m32, .inr (.inl g32))) (h34 : x25 < n) (h35 : mi_ix x30 m32 i32) (h37 : (va_up (va_up f x11 (.inl (0, m18, .inl (upd g18 i18 l4)))) x25 (.inl (3, m32, .inr (.inl (vp_updL g32 i32 l5))))) l1 = .inr (12, fs36)) (h38 : l1 < n) (h40 : fs36[77]? = some (.ref x39)) (h42 : (va_up (va_up f x11 (.inl (0, m18, .inl (upd g18 i18 l4)))) x25 (.inl (3, m32, .inr (.inl (vp_updL g32 i32 l5))))) l1 = .inr (12, fs41)) (h43 : l1 < n) (h45 : fs41[74]? = some (.int x44)) (h47 : (va_up (va_up f x11 (.inl (0, m18, .inl (upd g18 i18 l4)))) x25 (.inl (3, m32, .inr (.inl (vp_updL g32 i32 l5))))) l1 = .inr (12, fs46)) (h48 : l1 < n) (h49 : 74 < fs46.length) (h51 : (va_up (va_up (va_up f x11 (.inl (0, m18, .inl (upd g18 i18 l4)))) x25 (.inl (3, m32, .inr (.inl (vp_updL g32 i32 l5))))) l1 (.inr (12, fs46.set 74 (.int (x44 + 1))))) x39 = .inl (0, m50, .inl g50)) (h52 : x39 < n) (h53 : mi_ix x44 m50 i50) (h55 : (va_up (va_up (va_up (va_up f x11 (.inl (0, m18, .inl (upd g18 i18 l4)))) x25 (.inl (3, m32, .inr (.inl (vp_updL g32 i32 l5))))) l1 (.inr (12, fs46.set 74 (.int (x44 + 1))))) x39 (.inl (0, m50, .inl (upd g50 i50 l6)))) l1 = .inr (12, fs54)) (h56 : l1 < n) (h58 : fs54[47]? = some (.int x57)) (h59 : x57 ≤ (0 : Int32) → mi_W d 198 151 [some (.ref l1), some (.ref l2), some (.int l3), some (.int l4), some (.long l5), none, some (.int l6), o7] [] (n, sl, (va_up (va_up (va_up (va_up f x11 (.inl (0, m18, .inl (upd g18 i18 l4)))) x25 (.inl (3, m32, .inr (.inl (vp_updL g32 i32 l5))))) l1 (.inr (12, fs46.set 74 (.int (x44 + 1))))) x39 (.inl (0, m50, .inl (upd g50 i50 l6))))) Q) (h60 : ¬ (x57 ≤ (0 : Int32)) → mi_W d 198 71 [some (.ref l1), some (.ref l2), some (.int l3), some (.int l4), some (.long l5), none, some (.int l6), o7] [] (n, sl, (va_up (va_up (va_up (va_up f x11 (.inl (0, m18, .inl (upd g18 i18 l4)))) x25 (.inl (3, m32, .inr (.inl (vp_updL g32 i32 l5))))) l1 (.inr (12, fs46.set 74 (.int (x44 + 1))))) x39 (.inl (0, m50, .inl (upd g50 i50 l6))))) Q) : mi_W d 198 25 [some (.ref l1), some (.ref l2), some (.int l3), some (.int l4), some (.long l5), none, some (.int l6), o7] [] (n, sl, f) Q := by
  refine w_aload_n cd_198_25 rfl ?_
  refine w_getfield cd_198_26 (show mt_f 12 211 = some (12, 76) by decide +kernel) h9 h10 h12 ?_
  refine w_aload_n cd_198_29 rfl ?_
  refine w_getfield cd_198_30 (show mt_f 12 568 = some (12, 74) by decide +kernel) h14 h15 h17 ?_
  refine w_iload_n cd_198_33 rfl ?_
  refine w_iastore cd_198_34 h19 h20 h21 ?_
  refine w_aload_n cd_198_35 rfl ?_
  refine w_getfield cd_198_36 (show mt_f 12 223 = some (12, 80) by decide +kernel) h23 h24 h26 ?_
  refine w_aload_n cd_198_39 rfl ?_
  refine w_getfield cd_198_40 (show mt_f 12 568 = some (12, 74) by decide +kernel) h28 h29 h31 ?_
  refine w_lload cd_198_43 rfl ?_
  refine w_lastore cd_198_45 h33 h34 h35 ?_
  refine w_aload_n cd_198_46 rfl ?_
  refine w_getfield cd_198_47 (show mt_f 12 214 = some (12, 77) by decide +kernel) h37 h38 h40 ?_
  refine w_aload_n cd_198_50 rfl ?_
  refine w_dup_r cd_198_51 ?_
  refine w_getfield cd_198_52 (show mt_f 12 568 = some (12, 74) by decide +kernel) h42 h43 h45 ?_
  refine w_dup_x1_ir cd_198_55 ?_
  refine w_iconst (v := 1) cd_198_56 (by decide) ?_
  refine w_iadd cd_198_57 ?_
  refine w_putfield (w := .int (x44 + 1)) cd_198_58 (show mt_f 12 568 = some (12, 74) by decide +kernel) h47 h48 ⟨h49, rfl, Or.inl (by decide)⟩ ?_
  refine w_iload cd_198_61 rfl ?_
  refine w_iastore cd_198_63 h51 h52 h53 ?_
  refine w_aload_n cd_198_64 rfl ?_
  refine w_getfield cd_198_65 (show mt_f 12 490 = some (12, 47) by decide +kernel) h55 h56 h58 ?_
  exact w_ifle cd_198_68 (by decide) h59 h60
theorem b_198_71 {d : Nat} {Q : (Option Value ⊕ Nat) → mi_H → Prop} (n sl : Nat) (f : Nat → mi_C) {l1 : Nat} {l2 : Nat} {l3 : Int32} {l4 : Int32} {l5 : Int64} {l6 : Int32} {o7 : Option Value} {fs8 : List Value} {x11 : Int32} {fs13 : List Value} (h9 : f l1 = .inr (12, fs8)) (h10 : l1 < n) (h12 : fs8[74]? = some (.int x11)) (h14 : f l1 = .inr (12, fs13)) (h15 : l1 < n) (h16 : 75 < fs13.length) (h17 : mi_W d 198 82 [some (.ref l1), some (.ref l2), some (.int l3), some (.int l4), some (.long l5), none, some (.int l6), some (.int 0)] [] (n, sl, (va_up f l1 (.inr (12, fs13.set 75 (.int x11))))) Q) : mi_W d 198 71 [some (.ref l1), some (.ref l2), some (.int l3), some (.int l4), some (.long l5), none, some (.int l6), o7] [] (n, sl, f) Q := by
  refine w_aload_n cd_198_71 rfl ?_
  refine w_aload_n cd_198_72 rfl ?_
  refine w_getfield cd_198_73 (show mt_f 12 568 = some (12, 74) by decide +kernel) h9 h10 h12 ?_
  refine w_putfield (w := .int x11) cd_198_76 (show mt_f 12 565 = some (12, 75) by decide +kernel) h14 h15 ⟨h16, rfl, Or.inl (by decide)⟩ ?_
  refine w_iconst (v := 0) cd_198_79 (by decide) ?_
  refine w_istore (ls' := [some (.ref l1), some (.ref l2), some (.int l3), some (.int l4), some (.long l5), none, some (.int l6), some (.int 0)]) cd_198_80 (Nat.le_of_ble_eq_true rfl) rfl ?_
  exact h17
theorem b_198_82 {d : Nat} {Q : (Option Value ⊕ Nat) → mi_H → Prop} (n sl : Nat) (f : Nat → mi_C) {l1 : Nat} {l2 : Nat} {l3 : Int32} {l4 : Int32} {l5 : Int64} {l6 : Int32} {l7 : Int32} {fs8 : List Value} {x11 : Int32} (h9 : f l1 = .inr (12, fs8)) (h10 : l1 < n) (h12 : fs8[74]? = some (.int x11)) (h13 : x11 ≤ l7 → mi_W d 198 139 [some (.ref l1), some (.ref l2), some (.int l3), some (.int l4), some (.long l5), none, some (.int l6), some (.int l7)] [] (n, sl, f) Q) (h14 : ¬ (x11 ≤ l7) → mi_W d 198 91 [some (.ref l1), some (.ref l2), some (.int l3), some (.int l4), some (.long l5), none, some (.int l6), some (.int l7)] [] (n, sl, f) Q) : mi_W d 198 82 [some (.ref l1), some (.ref l2), some (.int l3), some (.int l4), some (.long l5), none, some (.int l6), some (.int l7)] [] (n, sl, f) Q := by
  refine w_iload cd_198_82 rfl ?_
  refine w_aload_n cd_198_84 rfl ?_
  refine w_getfield cd_198_85 (show mt_f 12 568 = some (12, 74) by decide +kernel) h9 h10 h12 ?_
  exact w_if_icmpge cd_198_88 (by decide) h13 h14
theorem b_198_91 {d : Nat} {Q : (Option Value ⊕ Nat) → mi_H → Prop} (n sl : Nat) (f : Nat → mi_C) {l1 : Nat} {l2 : Nat} {l3 : Int32} {l4 : Int32} {l5 : Int64} {l6 : Int32} {l7 : Int32} {fs8 : List Value} {x11 : Nat} {fs13 : List Value} {x16 : Nat} (m18 i18 : Nat) (g18 : Nat → Int32) (m22 i22 : Nat) (g22 : Nat → Int32) {fs26 : List Value} {x29 : Nat} {fs31 : List Value} {x34 : Nat} (m36 i36 : Nat) (g36 : Nat → Int64) (m40 i40 : Nat) (g40 : Nat → Int64) {fs44 : List Value} {x47 : Nat} {fs49 : List Value} {x52 : Nat} (m54 i54 : Nat) (g54 : Nat → Int32) (m58 i58 : Nat) (g58 : Nat → Int32) (h9 : f l1 = .inr (12, fs8)) (h10 : l1 < n) (h12 : fs8[78]? = some (.ref x11)) (h14 : f l1 = .inr (12, fs13)) (h15 : l1 < n) (h17 : fs13[76]? = some (.ref x16)) (h19 : f x16 = .inl (0, m18, .inl g18)) (h20 : x16 < n ∨ x16 = mi_SC) (h21 : mi_ix l7 m18 i18) (h23 : f x11 = .inl (0, m22, .inl g22)) (h24 : x11 < n) (h25 : mi_ix l7 m22 i22) (h27 : (va_up f x11 (.inl (0, m22, .inl (upd g22 i22 (g18 i18))))) l1 = .inr (12, fs26)) (h28 : l1 < n) (h30 : fs26[81]? = some (.ref x29)) (h32 : (va_up f x11 (.inl (0, m22, .inl (upd g22 i22 (g18 i18))))) l1 = .inr (12, fs31)) (h33 : l1 < n) (h35 : fs31[80]? = some (.ref x34)) (h37 : (va_up f x11 (.inl (0, m22, .inl (upd g22 i22 (g18 i18))))) x34 = .inl (3, m36, .inr (.inl g36))) (h38 : x34 < n) (h39 : mi_ix l7 m36 i36) (h41 : (va_up f x11 (.inl (0, m22, .inl (upd g22 i22 (g18 i18))))) x29 = .inl (3, m40, .inr (.inl g40))) (h42 : x29 < n) (h43 : mi_ix l7 m40 i40) (h45 : (va_up (va_up f x11 (.inl (0, m22, .inl (upd g22 i22 (g18 i18))))) x29 (.inl (3, m40, .inr (.inl (vp_updL g40 i40 (g36 i36)))))) l1 = .inr (12, fs44)) (h46 : l1 < n) (h48 : fs44[79]? = some (.ref x47)) (h50 : (va_up (va_up f x11 (.inl (0, m22, .inl (upd g22 i22 (g18 i18))))) x29 (.inl (3, m40, .inr (.inl (vp_updL g40 i40 (g36 i36)))))) l1 = .inr (12, fs49)) (h51 : l1 < n) (h53 : fs49[77]? = some (.ref x52)) (h55 : (va_up (va_up f x11 (.inl (0, m22, .inl (upd g22 i22 (g18 i18))))) x29 (.inl (3, m40, .inr (.inl (vp_updL g40 i40 (g36 i36)))))) x52 = .inl (0, m54, .inl g54)) (h56 : x52 < n ∨ x52 = mi_SC) (h57 : mi_ix l7 m54 i54) (h59 : (va_up (va_up f x11 (.inl (0, m22, .inl (upd g22 i22 (g18 i18))))) x29 (.inl (3, m40, .inr (.inl (vp_updL g40 i40 (g36 i36)))))) x47 = .inl (0, m58, .inl g58)) (h60 : x47 < n) (h61 : mi_ix l7 m58 i58) (h62 : mi_W d 198 82 [some (.ref l1), some (.ref l2), some (.int l3), some (.int l4), some (.long l5), none, some (.int l6), some (.int (l7 + 1))] [] (n, sl, (va_up (va_up (va_up f x11 (.inl (0, m22, .inl (upd g22 i22 (g18 i18))))) x29 (.inl (3, m40, .inr (.inl (vp_updL g40 i40 (g36 i36)))))) x47 (.inl (0, m58, .inl (upd g58 i58 (g54 i54)))))) Q) : mi_W d 198 91 [some (.ref l1), some (.ref l2), some (.int l3), some (.int l4), some (.long l5), none, some (.int l6), some (.int l7)] [] (n, sl, f) Q := by
  refine w_aload_n cd_198_91 rfl ?_
  refine w_getfield cd_198_92 (show mt_f 12 217 = some (12, 78) by decide +kernel) h9 h10 h12 ?_
  refine w_iload cd_198_95 rfl ?_
  refine w_aload_n cd_198_97 rfl ?_
  refine w_getfield cd_198_98 (show mt_f 12 211 = some (12, 76) by decide +kernel) h14 h15 h17 ?_
  refine w_iload cd_198_101 rfl ?_
  refine w_iaload cd_198_103 h19 h20 h21 ?_
  refine w_iastore cd_198_104 h23 h24 h25 ?_
  refine w_aload_n cd_198_105 rfl ?_
  refine w_getfield cd_198_106 (show mt_f 12 226 = some (12, 81) by decide +kernel) h27 h28 h30 ?_
  refine w_iload cd_198_109 rfl ?_
  refine w_aload_n cd_198_111 rfl ?_
  refine w_getfield cd_198_112 (show mt_f 12 223 = some (12, 80) by decide +kernel) h32 h33 h35 ?_
  refine w_iload cd_198_115 rfl ?_
  refine w_laload cd_198_117 h37 h38 h39 ?_
  refine w_lastore cd_198_118 h41 h42 h43 ?_
  refine w_aload_n cd_198_119 rfl ?_
  refine w_getfield cd_198_120 (show mt_f 12 220 = some (12, 79) by decide +kernel) h45 h46 h48 ?_
  refine w_iload cd_198_123 rfl ?_
  refine w_aload_n cd_198_125 rfl ?_
  refine w_getfield cd_198_126 (show mt_f 12 214 = some (12, 77) by decide +kernel) h50 h51 h53 ?_
  refine w_iload cd_198_129 rfl ?_
  refine w_iaload cd_198_131 h55 h56 h57 ?_
  refine w_iastore cd_198_132 h59 h60 h61 ?_
  refine w_iinc (v := 1) (ls' := [some (.ref l1), some (.ref l2), some (.int l3), some (.int l4), some (.long l5), none, some (.int l6), some (.int (l7 + 1))]) cd_198_133 rfl (by decide) rfl ?_
  exact w_goto cd_198_136 (by decide) h62
theorem b_198_139 {d : Nat} {Q : (Option Value ⊕ Nat) → mi_H → Prop} (n sl : Nat) (f : Nat → mi_C) {l1 : Nat} {l2 : Nat} {l3 : Int32} {l4 : Int32} {l5 : Int64} {l6 : Int32} {l7 : Int32} {fs8 : List Value} {x11 : Int32} {fs13 : List Value} (h9 : f l1 = .inr (12, fs8)) (h10 : l1 < n) (h12 : fs8[74]? = some (.int x11)) (h14 : f l1 = .inr (12, fs13)) (h15 : l1 < n) (h16 : 74 < fs13.length) (h17 : Q (.inl (some (.int 1))) (n, sl, (va_up f l1 (.inr (12, fs13.set 74 (.int (x11 - 1))))))) : mi_W d 198 139 [some (.ref l1), some (.ref l2), some (.int l3), some (.int l4), some (.long l5), none, some (.int l6), some (.int l7)] [] (n, sl, f) Q := by
  refine w_aload_n cd_198_139 rfl ?_
  refine w_dup_r cd_198_140 ?_
  refine w_getfield cd_198_141 (show mt_f 12 568 = some (12, 74) by decide +kernel) h9 h10 h12 ?_
  refine w_iconst (v := 1) cd_198_144 (by decide) ?_
  refine w_isub cd_198_145 ?_
  refine w_putfield (w := .int (x11 - 1)) cd_198_146 (show mt_f 12 568 = some (12, 74) by decide +kernel) h14 h15 ⟨h16, rfl, Or.inl (by decide)⟩ ?_
  refine w_iconst (v := 1) cd_198_149 (by decide) ?_
  exact w_ireturn_i cd_198_150 (by decide +kernel) h17
theorem b_198_151 {d : Nat} {Q : (Option Value ⊕ Nat) → mi_H → Prop} (n sl : Nat) (f : Nat → mi_C) {l1 : Nat} {l2 : Nat} {l3 : Int32} {l4 : Int32} {l5 : Int64} {l6 : Int32} {o7 : Option Value} {fs8 : List Value} (h9 : f l1 = .inr (12, fs8)) (h10 : l1 < n) (h11 : mi_W d 197 0 (mi_en 6 [.ref l1, .ref l2]) [] (n, sl, f) (mi_Kc d 198 153 [some (.ref l1), some (.ref l2), some (.int l3), some (.int l4), some (.long l5), none, some (.int l6), o7] [] Q)) : mi_W (d + 1) 198 151 [some (.ref l1), some (.ref l2), some (.int l3), some (.int l4), some (.long l5), none, some (.int l6), o7] [] (n, sl, f) Q := by
  refine w_aload_n cd_198_151 rfl ?_
  refine w_aload_n cd_198_152 rfl ?_
  exact w_invokevirtual cd_198_153 (show mt_m 12 571 = some (197, 0) by decide +kernel) (rest := []) rfl (as := [.ref l1, .ref l2]) rfl h9 (Or.inl h10) ⟨Nat.le_of_ble_eq_true rfl, Nat.le_of_ble_eq_true rfl, Nat.le_of_ble_eq_true rfl⟩ h11
theorem b_198_156 {d : Nat} {Q : (Option Value ⊕ Nat) → mi_H → Prop} (n sl : Nat) (f : Nat → mi_C) {l1 : Nat} {l2 : Nat} {l3 : Int32} {l4 : Int32} {l5 : Int64} {l6 : Int32} {o7 : Option Value} {s8 : Int32} {fs9 : List Value} {x12 : Int32} {fs14 : List Value} (h10 : f l1 = .inr (12, fs9)) (h11 : l1 < n) (h13 : fs9[74]? = some (.int x12)) (h15 : f l1 = .inr (12, fs14)) (h16 : l1 < n) (h17 : 74 < fs14.length) (h18 : Q (.inl (some (.int s8))) (n, sl, (va_up f l1 (.inr (12, fs14.set 74 (.int (x12 - 1))))))) : mi_W d 198 156 [some (.ref l1), some (.ref l2), some (.int l3), some (.int l4), some (.long l5), none, some (.int l6), o7] [.int s8] (n, sl, f) Q := by
  refine w_istore (ls' := [some (.ref l1), some (.ref l2), some (.int l3), some (.int l4), some (.long l5), none, some (.int l6), some (.int s8)]) cd_198_156 (Nat.le_of_ble_eq_true rfl) rfl ?_
  refine w_aload_n cd_198_158 rfl ?_
  refine w_dup_r cd_198_159 ?_
  refine w_getfield cd_198_160 (show mt_f 12 568 = some (12, 74) by decide +kernel) h10 h11 h13 ?_
  refine w_iconst (v := 1) cd_198_163 (by decide) ?_
  refine w_isub cd_198_164 ?_
  refine w_putfield (w := .int (x12 - 1)) cd_198_165 (show mt_f 12 568 = some (12, 74) by decide +kernel) h15 h16 ⟨h17, rfl, Or.inl (by decide)⟩ ?_
  refine w_iload cd_198_168 rfl ?_
  exact w_ireturn_i cd_198_170 (by decide +kernel) h18
/-! MarloweHostModel.numbers(LMarloweHostModel$State;LMarloweHostModel$State;I)I -/
set_option maxRecDepth 100000 in
theorem mq_199 : mt_q 199 = my_199 := rfl
set_option maxRecDepth 100000 in
theorem ci_199 : mt_inc 0 my_199.cd = true := by decide +kernel
theorem cd_199_0 : mt_cd 199 0 = some (.aload_n 0) := mt_cd_of (q := (0, .aload_n 0, 1)) mq_199 ci_199 (List.mem_of_getElem? (i := 0) rfl)
theorem cd_199_1 : mt_cd 199 1 = some (.getfield 141) := mt_cd_of (q := (1, .getfield 141, 3)) mq_199 ci_199 (List.mem_of_getElem? (i := 1) rfl)
theorem cd_199_4 : mt_cd 199 4 = some (.iload_n 3) := mt_cd_of (q := (4, .iload_n 3, 1)) mq_199 ci_199 (List.mem_of_getElem? (i := 2) rfl)
theorem cd_199_5 : mt_cd 199 5 = some (.iaload) := mt_cd_of (q := (5, .iaload, 1)) mq_199 ci_199 (List.mem_of_getElem? (i := 3) rfl)
theorem cd_199_6 : mt_cd 199 6 = some (.istore 4) := mt_cd_of (q := (6, .istore 4, 2)) mq_199 ci_199 (List.mem_of_getElem? (i := 4) rfl)
theorem cd_199_8 : mt_cd 199 8 = some (.iload 4) := mt_cd_of (q := (8, .iload 4, 2)) mq_199 ci_199 (List.mem_of_getElem? (i := 5) rfl)
theorem cd_199_10 : mt_cd 199 10 = some (.aload_n 0) := mt_cd_of (q := (10, .aload_n 0, 1)) mq_199 ci_199 (List.mem_of_getElem? (i := 6) rfl)
theorem cd_199_11 : mt_cd 199 11 = some (.getfield 141) := mt_cd_of (q := (11, .getfield 141, 3)) mq_199 ci_199 (List.mem_of_getElem? (i := 7) rfl)
theorem cd_199_14 : mt_cd 199 14 = some (.iload_n 3) := mt_cd_of (q := (14, .iload_n 3, 1)) mq_199 ci_199 (List.mem_of_getElem? (i := 8) rfl)
theorem cd_199_15 : mt_cd 199 15 = some (.iaload) := mt_cd_of (q := (15, .iaload, 1)) mq_199 ci_199 (List.mem_of_getElem? (i := 9) rfl)
theorem cd_199_16 : mt_cd 199 16 = some (.aload_n 0) := mt_cd_of (q := (16, .aload_n 0, 1)) mq_199 ci_199 (List.mem_of_getElem? (i := 10) rfl)
theorem cd_199_17 : mt_cd 199 17 = some (.getfield 95) := mt_cd_of (q := (17, .getfield 95, 3)) mq_199 ci_199 (List.mem_of_getElem? (i := 11) rfl)
theorem cd_199_20 : mt_cd 199 20 = some (.iload_n 3) := mt_cd_of (q := (20, .iload_n 3, 1)) mq_199 ci_199 (List.mem_of_getElem? (i := 12) rfl)
theorem cd_199_21 : mt_cd 199 21 = some (.iaload) := mt_cd_of (q := (21, .iaload, 1)) mq_199 ci_199 (List.mem_of_getElem? (i := 13) rfl)
theorem cd_199_22 : mt_cd 199 22 = some (.iadd) := mt_cd_of (q := (22, .iadd, 1)) mq_199 ci_199 (List.mem_of_getElem? (i := 14) rfl)
theorem cd_199_23 : mt_cd 199 23 = some (.if_icmp .ge 82) := mt_cd_of (q := (23, .if_icmp .ge 82, 3)) mq_199 ci_199 (List.mem_of_getElem? (i := 15) rfl)
theorem cd_199_26 : mt_cd 199 26 = some (.aload_n 0) := mt_cd_of (q := (26, .aload_n 0, 1)) mq_199 ci_199 (List.mem_of_getElem? (i := 16) rfl)
theorem cd_199_27 : mt_cd 199 27 = some (.getfield 105) := mt_cd_of (q := (27, .getfield 105, 3)) mq_199 ci_199 (List.mem_of_getElem? (i := 17) rfl)
theorem cd_199_30 : mt_cd 199 30 = some (.iload 4) := mt_cd_of (q := (30, .iload 4, 2)) mq_199 ci_199 (List.mem_of_getElem? (i := 18) rfl)
theorem cd_199_32 : mt_cd 199 32 = some (.laload) := mt_cd_of (q := (32, .laload, 1)) mq_199 ci_199 (List.mem_of_getElem? (i := 19) rfl)
theorem cd_199_33 : mt_cd 199 33 = some (.lstore 5) := mt_cd_of (q := (33, .lstore 5, 2)) mq_199 ci_199 (List.mem_of_getElem? (i := 20) rfl)
theorem cd_199_35 : mt_cd 199 35 = some (.lload 5) := mt_cd_of (q := (35, .lload 5, 2)) mq_199 ci_199 (List.mem_of_getElem? (i := 21) rfl)
theorem cd_199_37 : mt_cd 199 37 = some (.aload_n 0) := mt_cd_of (q := (37, .aload_n 0, 1)) mq_199 ci_199 (List.mem_of_getElem? (i := 22) rfl)
theorem cd_199_38 : mt_cd 199 38 = some (.getfield 108) := mt_cd_of (q := (38, .getfield 108, 3)) mq_199 ci_199 (List.mem_of_getElem? (i := 23) rfl)
theorem cd_199_41 : mt_cd 199 41 = some (.iload 4) := mt_cd_of (q := (41, .iload 4, 2)) mq_199 ci_199 (List.mem_of_getElem? (i := 24) rfl)
theorem cd_199_43 : mt_cd 199 43 = some (.laload) := mt_cd_of (q := (43, .laload, 1)) mq_199 ci_199 (List.mem_of_getElem? (i := 25) rfl)
theorem cd_199_44 : mt_cd 199 44 = some (.lcmp) := mt_cd_of (q := (44, .lcmp, 1)) mq_199 ci_199 (List.mem_of_getElem? (i := 26) rfl)
theorem cd_199_45 : mt_cd 199 45 = some (.ifCond .gt 54) := mt_cd_of (q := (45, .ifCond .gt 54, 3)) mq_199 ci_199 (List.mem_of_getElem? (i := 27) rfl)
theorem cd_199_48 : mt_cd 199 48 = some (.aload_n 0) := mt_cd_of (q := (48, .aload_n 0, 1)) mq_199 ci_199 (List.mem_of_getElem? (i := 28) rfl)
theorem cd_199_49 : mt_cd 199 49 = some (.iconst 0) := mt_cd_of (q := (49, .iconst 0, 1)) mq_199 ci_199 (List.mem_of_getElem? (i := 29) rfl)
theorem cd_199_50 : mt_cd 199 50 = some (.putfield 258) := mt_cd_of (q := (50, .putfield 258, 3)) mq_199 ci_199 (List.mem_of_getElem? (i := 30) rfl)
theorem cd_199_53 : mt_cd 199 53 = some (.aload_n 0) := mt_cd_of (q := (53, .aload_n 0, 1)) mq_199 ci_199 (List.mem_of_getElem? (i := 31) rfl)
theorem cd_199_54 : mt_cd 199 54 = some (.bipush 8) := mt_cd_of (q := (54, .bipush 8, 2)) mq_199 ci_199 (List.mem_of_getElem? (i := 32) rfl)
theorem cd_199_56 : mt_cd 199 56 = some (.aload_n 0) := mt_cd_of (q := (56, .aload_n 0, 1)) mq_199 ci_199 (List.mem_of_getElem? (i := 33) rfl)
theorem cd_199_57 : mt_cd 199 57 = some (.getfield 80) := mt_cd_of (q := (57, .getfield 80, 3)) mq_199 ci_199 (List.mem_of_getElem? (i := 34) rfl)
theorem cd_199_60 : mt_cd 199 60 = some (.iload_n 3) := mt_cd_of (q := (60, .iload_n 3, 1)) mq_199 ci_199 (List.mem_of_getElem? (i := 35) rfl)
theorem cd_199_61 : mt_cd 199 61 = some (.iaload) := mt_cd_of (q := (61, .iaload, 1)) mq_199 ci_199 (List.mem_of_getElem? (i := 36) rfl)
theorem cd_199_62 : mt_cd 199 62 = some (.iconst 0) := mt_cd_of (q := (62, .iconst 0, 1)) mq_199 ci_199 (List.mem_of_getElem? (i := 37) rfl)
theorem cd_199_63 : mt_cd 199 63 = some (.iconst 0) := mt_cd_of (q := (63, .iconst 0, 1)) mq_199 ci_199 (List.mem_of_getElem? (i := 38) rfl)
theorem cd_199_64 : mt_cd 199 64 = some (.lload 5) := mt_cd_of (q := (64, .lload 5, 2)) mq_199 ci_199 (List.mem_of_getElem? (i := 39) rfl)
theorem cd_199_66 : mt_cd 199 66 = some (.invokevirtual 548) := mt_cd_of (q := (66, .invokevirtual 548, 3)) mq_199 ci_199 (List.mem_of_getElem? (i := 40) rfl)
theorem cd_199_69 : mt_cd 199 69 = some (.pop) := mt_cd_of (q := (69, .pop, 1)) mq_199 ci_199 (List.mem_of_getElem? (i := 41) rfl)
theorem cd_199_70 : mt_cd 199 70 = some (.aload_n 0) := mt_cd_of (q := (70, .aload_n 0, 1)) mq_199 ci_199 (List.mem_of_getElem? (i := 42) rfl)
theorem cd_199_71 : mt_cd 199 71 = some (.aload_n 1) := mt_cd_of (q := (71, .aload_n 1, 1)) mq_199 ci_199 (List.mem_of_getElem? (i := 43) rfl)
theorem cd_199_72 : mt_cd 199 72 = some (.aload_n 2) := mt_cd_of (q := (72, .aload_n 2, 1)) mq_199 ci_199 (List.mem_of_getElem? (i := 44) rfl)
theorem cd_199_73 : mt_cd 199 73 = some (.iconst 2) := mt_cd_of (q := (73, .iconst 2, 1)) mq_199 ci_199 (List.mem_of_getElem? (i := 45) rfl)
theorem cd_199_74 : mt_cd 199 74 = some (.lload 5) := mt_cd_of (q := (74, .lload 5, 2)) mq_199 ci_199 (List.mem_of_getElem? (i := 46) rfl)
theorem cd_199_76 : mt_cd 199 76 = some (.iload_n 3) := mt_cd_of (q := (76, .iload_n 3, 1)) mq_199 ci_199 (List.mem_of_getElem? (i := 47) rfl)
theorem cd_199_77 : mt_cd 199 77 = some (.invokevirtual 586) := mt_cd_of (q := (77, .invokevirtual 586, 3)) mq_199 ci_199 (List.mem_of_getElem? (i := 48) rfl)
theorem cd_199_80 : mt_cd 199 80 = some (.istore 7) := mt_cd_of (q := (80, .istore 7, 2)) mq_199 ci_199 (List.mem_of_getElem? (i := 49) rfl)
theorem cd_199_82 : mt_cd 199 82 = some (.iload 7) := mt_cd_of (q := (82, .iload 7, 2)) mq_199 ci_199 (List.mem_of_getElem? (i := 50) rfl)
theorem cd_199_84 : mt_cd 199 84 = some (.ifCond .eq 6) := mt_cd_of (q := (84, .ifCond .eq 6, 3)) mq_199 ci_199 (List.mem_of_getElem? (i := 51) rfl)
theorem cd_199_87 : mt_cd 199 87 = some (.iload 7) := mt_cd_of (q := (87, .iload 7, 2)) mq_199 ci_199 (List.mem_of_getElem? (i := 52) rfl)
theorem cd_199_89 : mt_cd 199 89 = some (.ireturn) := mt_cd_of (q := (89, .ireturn, 1)) mq_199 ci_199 (List.mem_of_getElem? (i := 53) rfl)
theorem cd_199_90 : mt_cd 199 90 = some (.lload 5) := mt_cd_of (q := (90, .lload 5, 2)) mq_199 ci_199 (List.mem_of_getElem? (i := 54) rfl)
theorem cd_199_92 : mt_cd 199 92 = some (.lconst 1) := mt_cd_of (q := (92, .lconst 1, 1)) mq_199 ci_199 (List.mem_of_getElem? (i := 55) rfl)
theorem cd_199_93 : mt_cd 199 93 = some (.ladd) := mt_cd_of (q := (93, .ladd, 1)) mq_199 ci_199 (List.mem_of_getElem? (i := 56) rfl)
theorem cd_199_94 : mt_cd 199 94 = some (.lstore 5) := mt_cd_of (q := (94, .lstore 5, 2)) mq_199 ci_199 (List.mem_of_getElem? (i := 57) rfl)
theorem cd_199_96 : mt_cd 199 96 = some (.goto (-61)) := mt_cd_of (q := (96, .goto (-61), 3)) mq_199 ci_199 (List.mem_of_getElem? (i := 58) rfl)
theorem cd_199_99 : mt_cd 199 99 = some (.iinc 4 1) := mt_cd_of (q := (99, .iinc 4 1, 3)) mq_199 ci_199 (List.mem_of_getElem? (i := 59) rfl)
theorem cd_199_102 : mt_cd 199 102 = some (.goto (-94)) := mt_cd_of (q := (102, .goto (-94), 3)) mq_199 ci_199 (List.mem_of_getElem? (i := 60) rfl)
theorem cd_199_105 : mt_cd 199 105 = some (.iconst 0) := mt_cd_of (q := (105, .iconst 0, 1)) mq_199 ci_199 (List.mem_of_getElem? (i := 61) rfl)
theorem cd_199_106 : mt_cd 199 106 = some (.ireturn) := mt_cd_of (q := (106, .ireturn, 1)) mq_199 ci_199 (List.mem_of_getElem? (i := 62) rfl)
theorem b_199_0 {d : Nat} {Q : (Option Value ⊕ Nat) → mi_H → Prop} (n sl : Nat) (f : Nat → mi_C) {l1 : Nat} {l2 : Nat} {l3 : Nat} {l4 : Int32} {o5 : Option Value} {o6 : Option Value} {o7 : Option Value} {o8 : Option Value} {fs9 : List Value} {x12 : Nat} (m14 i14 : Nat) (g14 : Nat → Int32) (h10 : f l1 = .inr (12, fs9)) (h11 : l1 < n) (h13 : fs9[40]? = some (.ref x12)) (h15 : f x12 = .inl (0, m14, .inl g14)) (h16 : x12 < n ∨ x12 = mi_SC) (h17 : mi_ix l4 m14 i14) (h18 : mi_W d 199 8 [some (.ref l1), some (.ref l2), some (.ref l3), some (.int l4), some (.int (g14 i14)), o6, o7, o8] [] (n, sl, f) Q) : mi_W d 199 0 [some (.ref l1), some (.ref l2), some (.ref l3), some (.int l4), o5, o6, o7, o8] [] (n, sl, f) Q := by
  refine w_aload_n cd_199_0 rfl ?_
  refine w_getfield cd_199_1 (show mt_f 12 141 = some (12, 40) by decide +kernel) h10 h11 h13 ?_
  refine w_iload_n cd_199_4 rfl ?_
  refine w_iaload cd_199_5 h15 h16 h17 ?_
  refine w_istore (ls' := [some (.ref l1), some (.ref l2), some (.ref l3), some (.int l4), some (.int (g14 i14)), o6, o7, o8]) cd_199_6 (Nat.le_of_ble_eq_true rfl) rfl ?_
  exact h18
theorem b_199_8 {d : Nat} {Q : (Option Value ⊕ Nat) → mi_H → Prop} (n sl : Nat) (f : Nat → mi_C) {l1 : Nat} {l2 : Nat} {l3 : Nat} {l4 : Int32} {l5 : Int32} {o6 : Option Value} {o7 : Option Value} {o8 : Option Value} {fs9 : List Value} {x12 : Nat} (m14 i14 : Nat) (g14 : Nat → Int32) {fs18 : List Value} {x21 : Nat} (m23 i23 : Nat) (g23 : Nat → Int32) (h10 : f l1 = .inr (12, fs9)) (h11 : l1 < n) (h13 : fs9[40]? = some (.ref x12)) (h15 : f x12 = .inl (0, m14, .inl g14)) (h16 : x12 < n ∨ x12 = mi_SC) (h17 : mi_ix l4 m14 i14) (h19 : f l1 = .inr (12, fs18)) (h20 : l1 < n) (h22 : fs18[18]? = some (.ref x21)) (h24 : f x21 = .inl (0, m23, .inl g23)) (h25 : x21 < n ∨ x21 = mi_SC) (h26 : mi_ix l4 m23 i23) (h27 : ((g14 i14) + (g23 i23)) ≤ l5 → mi_W d 199 105 [some (.ref l1), some (.ref l2), some (.ref l3), some (.int l4), some (.int l5), o6, o7, o8] [] (n, sl, f) Q) (h28 : ¬ (((g14 i14) + (g23 i23)) ≤ l5) → mi_W d 199 26 [some (.ref l1), some (.ref l2), some (.ref l3), some (.int l4), some (.int l5), o6, o7, o8] [] (n, sl, f) Q) : mi_W d 199 8 [some (.ref l1), some (.ref l2), some (.ref l3), some (.int l4), some (.int l5), o6, o7, o8] [] (n, sl, f) Q := by
  refine w_iload cd_199_8 rfl ?_
  refine w_aload_n cd_199_10 rfl ?_
  refine w_getfield cd_199_11 (show mt_f 12 141 = some (12, 40) by decide +kernel) h10 h11 h13 ?_
  refine w_iload_n cd_199_14 rfl ?_
  refine w_iaload cd_199_15 h15 h16 h17 ?_
  refine w_aload_n cd_199_16 rfl ?_
  refine w_getfield cd_199_17 (show mt_f 12 95 = some (12, 18) by decide +kernel) h19 h20 h22 ?_
  refine w_iload_n cd_199_20 rfl ?_
  refine w_iaload cd_199_21 h24 h25 h26 ?_
  refine w_iadd cd_199_22 ?_
  exact w_if_icmpge cd_199_23 (by decide) h27 h28
theorem b_199_26 {d : Nat} {Q : (Option Value ⊕ Nat) → mi_H → Prop} (n sl : Nat) (f : Nat → mi_C) {l1 : Nat} {l2 : Nat} {l3 : Nat} {l4 : Int32} {l5 : Int32} {o6 : Option Value} {o7 : Option Value} {o8 : Option Value} {fs9 : List Value} {x12 : Nat} (m14 i14 : Nat) (g14 : Nat → Int64) (h10 : f l1 = .inr (12, fs9)) (h11 : l1 < n) (h13 : fs9[28]? = some (.ref x12)) (h15 : f x12 = .inl (3, m14, .inr (.inl g14))) (h16 : x12 < n) (h17 : mi_ix l5 m14 i14) (h18 : mi_W d 199 35 [some (.ref l1), some (.ref l2), some (.ref l3), some (.int l4), some (.int l5), some (.long (g14 i14)), none, o8] [] (n, sl, f) Q) : mi_W d 199 26 [some (.ref l1), some (.ref l2), some (.ref l3), some (.int l4), some (.int l5), o6, o7, o8] [] (n, sl, f) Q := by
  refine w_aload_n cd_199_26 rfl ?_
  refine w_getfield cd_199_27 (show mt_f 12 105 = some (12, 28) by decide +kernel) h10 h11 h13 ?_
  refine w_iload cd_199_30 rfl ?_
  refine w_laload cd_199_32 h15 h16 h17 ?_
  refine w_lstore (ls' := [some (.ref l1), some (.ref l2), some (.ref l3), some (.int l4), some (.int l5), some (.long (g14 i14)), none, o8]) cd_199_33 (Nat.le_of_ble_eq_true rfl) rfl ?_
  exact h18
theorem b_199_35 {d : Nat} {Q : (Option Value ⊕ Nat) → mi_H → Prop} (n sl : Nat) (f : Nat → mi_C) {l1 : Nat} {l2 : Nat} {l3 : Nat} {l4 : Int32} {l5 : Int32} {l6 : Int64} {o7 : Option Value} {fs8 : List Value} {x11 : Nat} (m13 i13 : Nat) (g13 : Nat → Int64) (h9 : f l1 = .inr (12, fs8)) (h10 : l1 < n) (h12 : fs8[29]? = some (.ref x11)) (h14 : f x11 = .inl (3, m13, .inr (.inl g13))) (h15 : x11 < n) (h16 : mi_ix l5 m13 i13) (h17 : (0 : Int32) < (lg_cmp l6 (g13 i13)) → mi_W d 199 99 [some (.ref l1), some (.ref l2), some (.ref l3), some (.int l4), some (.int l5), some (.long l6), none, o7] [] (n, sl, f) Q) (h18 : ¬ ((0 : Int32) < (lg_cmp l6 (g13 i13))) → mi_W d 199 48 [some (.ref l1), some (.ref l2), some (.ref l3), some (.int l4), some (.int l5), some (.long l6), none, o7] [] (n, sl, f) Q) : mi_W d 199 35 [some (.ref l1), some (.ref l2), some (.ref l3), some (.int l4), some (.int l5), some (.long l6), none, o7] [] (n, sl, f) Q := by
  refine w_lload cd_199_35 rfl ?_
  refine w_aload_n cd_199_37 rfl ?_
  refine w_getfield cd_199_38 (show mt_f 12 108 = some (12, 29) by decide +kernel) h9 h10 h12 ?_
  refine w_iload cd_199_41 rfl ?_
  refine w_laload cd_199_43 h14 h15 h16 ?_
  refine w_lcmp cd_199_44 ?_
  exact w_ifgt cd_199_45 (by decide) h17 h18
theorem b_199_48 {d : Nat} {Q : (Option Value ⊕ Nat) → mi_H → Prop} (n sl : Nat) (f : Nat → mi_C) {l1 : Nat} {l2 : Nat} {l3 : Nat} {l4 : Int32} {l5 : Int32} {l6 : Int64} {o7 : Option Value} {fs8 : List Value} {fs12 : List Value} {x15 : Nat} (m17 i17 : Nat) (g17 : Nat → Int32) {fs21 : List Value} (h9 : f l1 = .inr (12, fs8)) (h10 : l1 < n) (h11 : 59 < fs8.length) (h13 : (va_up f l1 (.inr (12, fs8.set 59 (.int 0)))) l1 = .inr (12, fs12)) (h14 : l1 < n) (h16 : fs12[13]? = some (.ref x15)) (h18 : (va_up f l1 (.inr (12, fs8.set 59 (.int 0)))) x15 = .inl (0, m17, .inl g17)) (h19 : x15 < n ∨ x15 = mi_SC) (h20 : mi_ix l4 m17 i17) (h22 : (va_up f l1 (.inr (12, fs8.set 59 (.int 0)))) l1 = .inr (12, fs21)) (h23 : l1 < n) (h24 : mi_W d 188 0 (mi_en 7 [.ref l1, .int 8, .int (g17 i17), .int 0, .int 0, .long l6]) [] (n, sl, (va_up f l1 (.inr (12, fs8.set 59 (.int 0))))) (mi_Kc d 199 66 [some (.ref l1), some (.ref l2), some (.ref l3), some (.int l4), some (.int l5), some (.long l6), none, o7] [] Q)) : mi_W (d + 1) 199 48 [some (.ref l1), some (.ref l2), some (.ref l3), some (.int l4), some (.int l5), some (.long l6), none, o7] [] (n, sl, f) Q := by
  refine w_aload_n cd_199_48 rfl ?_
  refine w_iconst (v := 0) cd_199_49 (by decide) ?_
  refine w_putfield (w := .int 0) cd_199_50 (show mt_f 12 258 = some (12, 59) by decide +kernel) h9 h10 ⟨h11, rfl, Or.inl (by decide)⟩ ?_
  refine w_aload_n cd_199_53 rfl ?_
  refine w_bipush (v := 8) cd_199_54 (by decide) ?_
  refine w_aload_n cd_199_56 rfl ?_
  refine w_getfield cd_199_57 (show mt_f 12 80 = some (12, 13) by decide +kernel) h13 h14 h16 ?_
  refine w_iload_n cd_199_60 rfl ?_
  refine w_iaload cd_199_61 h18 h19 h20 ?_
  refine w_iconst (v := 0) cd_199_62 (by decide) ?_
  refine w_iconst (v := 0) cd_199_63 (by decide) ?_
  refine w_lload cd_199_64 rfl ?_
  exact w_invokevirtual cd_199_66 (show mt_m 12 548 = some (188, 0) by decide +kernel) (rest := []) rfl (as := [.ref l1, .int 8, .int (g17 i17), .int 0, .int 0, .long l6]) rfl h22 (Or.inl h23) ⟨Nat.le_of_ble_eq_true rfl, Nat.le_of_ble_eq_true rfl, Nat.le_of_ble_eq_true rfl⟩ h24
theorem b_199_69 {d : Nat} {Q : (Option Value ⊕ Nat) → mi_H → Prop} (n sl : Nat) (f : Nat → mi_C) {l1 : Nat} {l2 : Nat} {l3 : Nat} {l4 : Int32} {l5 : Int32} {l6 : Int64} {o7 : Option Value} {s8 : Int32} {fs9 : List Value} (h10 : f l1 = .inr (12, fs9)) (h11 : l1 < n) (h12 : mi_W d 200 0 (mi_en 8 [.ref l1, .ref l2, .ref l3, .int 2, .long l6, .int l4]) [] (n, sl, f) (mi_Kc d 199 77 [some (.ref l1), some (.ref l2), some (.ref l3), some (.int l4), some (.int l5), some (.long l6), none, o7] [] Q)) : mi_W (d + 1) 199 69 [some (.ref l1), some (.ref l2), some (.ref l3), some (.int l4), some (.int l5), some (.long l6), none, o7] [.int s8] (n, sl, f) Q := by
  refine w_pop_i cd_199_69 ?_
  refine w_aload_n cd_199_70 rfl ?_
  refine w_aload_n cd_199_71 rfl ?_
  refine w_aload_n cd_199_72 rfl ?_
  refine w_iconst (v := 2) cd_199_73 (by decide) ?_
  refine w_lload cd_199_74 rfl ?_
  refine w_iload_n cd_199_76 rfl ?_
  exact w_invokevirtual cd_199_77 (show mt_m 12 586 = some (200, 0) by decide +kernel) (rest := []) rfl (as := [.ref l1, .ref l2, .ref l3, .int 2, .long l6, .int l4]) rfl h10 (Or.inl h11) ⟨Nat.le_of_ble_eq_true rfl, Nat.le_of_ble_eq_true rfl, Nat.le_of_ble_eq_true rfl⟩ h12
theorem b_199_80 {d : Nat} {Q : (Option Value ⊕ Nat) → mi_H → Prop} (n sl : Nat) (f : Nat → mi_C) {l1 : Nat} {l2 : Nat} {l3 : Nat} {l4 : Int32} {l5 : Int32} {l6 : Int64} {o7 : Option Value} {s8 : Int32} (h9 : s8 = (0 : Int32) → mi_W d 199 90 [some (.ref l1), some (.ref l2), some (.ref l3), some (.int l4), some (.int l5), some (.long l6), none, some (.int s8)] [] (n, sl, f) Q) (h10 : ¬ (s8 = (0 : Int32)) → mi_W d 199 87 [some (.ref l1), some (.ref l2), some (.ref l3), some (.int l4), some (.int l5), some (.long l6), none, some (.int s8)] [] (n, sl, f) Q) : mi_W d 199 80 [some (.ref l1), some (.ref l2), some (.ref l3), some (.int l4), some (.int l5), some (.long l6), none, o7] [.int s8] (n, sl, f) Q := by
  refine w_istore (ls' := [some (.ref l1), some (.ref l2), some (.ref l3), some (.int l4), some (.int l5), some (.long l6), none, some (.int s8)]) cd_199_80 (Nat.le_of_ble_eq_true rfl) rfl ?_
  refine w_iload cd_199_82 rfl ?_
  exact w_ifeq cd_199_84 (by decide) h9 h10
theorem b_199_87 {d : Nat} {Q : (Option Value ⊕ Nat) → mi_H → Prop} (n sl : Nat) (f : Nat → mi_C) {l1 : Nat} {l2 : Nat} {l3 : Nat} {l4 : Int32} {l5 : Int32} {l6 : Int64} {l7 : Int32} (h8 : Q (.inl (some (.int l7))) (n, sl, f)) : mi_W d 199 87 [some (.ref l1), some (.ref l2), some (.ref l3), some (.int l4), some (.int l5), some (.long l6), none, some (.int l7)] [] (n, sl, f) Q := by
  refine w_iload cd_199_87 rfl ?_
  exact w_ireturn_i cd_199_89 (by decide +kernel) h8
theorem b_199_90 {d : Nat} {Q : (Option Value ⊕ Nat) → mi_H → Prop} (n sl : Nat) (f : Nat → mi_C) {l1 : Nat} {l2 : Nat} {l3 : Nat} {l4 : Int32} {l5 : Int32} {l6 : Int64} {l7 : Int32} (h8 : mi_W d 199 35 [some (.ref l1), some (.ref l2), some (.ref l3), some (.int l4), some (.int l5), some (.long (l6 + 1)), none, some (.int l7)] [] (n, sl, f) Q) : mi_W d 199 90 [some (.ref l1), some (.ref l2), some (.ref l3), some (.int l4), some (.int l5), some (.long l6), none, some (.int l7)] [] (n, sl, f) Q := by
  refine w_lload cd_199_90 rfl ?_
  refine w_lconst (lv := 1) cd_199_92 (by decide) ?_
  refine w_ladd cd_199_93 ?_
  refine w_lstore (ls' := [some (.ref l1), some (.ref l2), some (.ref l3), some (.int l4), some (.int l5), some (.long (l6 + 1)), none, some (.int l7)]) cd_199_94 (Nat.le_of_ble_eq_true rfl) rfl ?_
  exact w_goto cd_199_96 (by decide) h8
theorem b_199_99 {d : Nat} {Q : (Option Value ⊕ Nat) → mi_H → Prop} (n sl : Nat) (f : Nat → mi_C) {l1 : Nat} {l2 : Nat} {l3 : Nat} {l4 : Int32} {l5 : Int32} {l6 : Int64} {o7 : Option Value} (h8 : mi_W d 199 8 [some (.ref l1), some (.ref l2), some (.ref l3), some (.int l4), some (.int (l5 + 1)), some (.long l6), none, o7] [] (n, sl, f) Q) : mi_W d 199 99 [some (.ref l1), some (.ref l2), some (.ref l3), some (.int l4), some (.int l5), some (.long l6), none, o7] [] (n, sl, f) Q := by
  refine w_iinc (v := 1) (ls' := [some (.ref l1), some (.ref l2), some (.ref l3), some (.int l4), some (.int (l5 + 1)), some (.long l6), none, o7]) cd_199_99 rfl (by decide) rfl ?_
  exact w_goto cd_199_102 (by decide) h8
theorem b_199_105 {d : Nat} {Q : (Option Value ⊕ Nat) → mi_H → Prop} (n sl : Nat) (f : Nat → mi_C) {l1 : Nat} {l2 : Nat} {l3 : Nat} {l4 : Int32} {l5 : Int32} {o6 : Option Value} {o7 : Option Value} {o8 : Option Value} (h9 : Q (.inl (some (.int 0))) (n, sl, f)) : mi_W d 199 105 [some (.ref l1), some (.ref l2), some (.ref l3), some (.int l4), some (.int l5), o6, o7, o8] [] (n, sl, f) Q := by
  refine w_iconst (v := 0) cd_199_105 (by decide) ?_
  exact w_ireturn_i cd_199_106 (by decide +kernel) h9
/-! MarloweHostModel.tried(LMarloweHostModel$State;LMarloweHostModel$State;IJI)I -/
set_option maxRecDepth 100000 in
theorem mq_200 : mt_q 200 = my_200 := rfl
set_option maxRecDepth 100000 in
theorem ci_200 : mt_inc 0 my_200.cd = true := by decide +kernel
theorem cd_200_0 : mt_cd 200 0 = some (.aload_n 0) := mt_cd_of (q := (0, .aload_n 0, 1)) mq_200 ci_200 (List.mem_of_getElem? (i := 0) rfl)
theorem cd_200_1 : mt_cd 200 1 = some (.aload_n 2) := mt_cd_of (q := (1, .aload_n 2, 1)) mq_200 ci_200 (List.mem_of_getElem? (i := 1) rfl)
theorem cd_200_2 : mt_cd 200 2 = some (.putfield 445) := mt_cd_of (q := (2, .putfield 445, 3)) mq_200 ci_200 (List.mem_of_getElem? (i := 2) rfl)
theorem cd_200_5 : mt_cd 200 5 = some (.aload_n 2) := mt_cd_of (q := (5, .aload_n 2, 1)) mq_200 ci_200 (List.mem_of_getElem? (i := 3) rfl)
theorem cd_200_6 : mt_cd 200 6 = some (.aload_n 1) := mt_cd_of (q := (6, .aload_n 1, 1)) mq_200 ci_200 (List.mem_of_getElem? (i := 4) rfl)
theorem cd_200_7 : mt_cd 200 7 = some (.invokevirtual 525) := mt_cd_of (q := (7, .invokevirtual 525, 3)) mq_200 ci_200 (List.mem_of_getElem? (i := 5) rfl)
theorem cd_200_10 : mt_cd 200 10 = some (.aload_n 0) := mt_cd_of (q := (10, .aload_n 0, 1)) mq_200 ci_200 (List.mem_of_getElem? (i := 6) rfl)
theorem cd_200_11 : mt_cd 200 11 = some (.aload_n 1) := mt_cd_of (q := (11, .aload_n 1, 1)) mq_200 ci_200 (List.mem_of_getElem? (i := 7) rfl)
theorem cd_200_12 : mt_cd 200 12 = some (.getfield 516) := mt_cd_of (q := (12, .getfield 516, 3)) mq_200 ci_200 (List.mem_of_getElem? (i := 8) rfl)
theorem cd_200_15 : mt_cd 200 15 = some (.aload_n 1) := mt_cd_of (q := (15, .aload_n 1, 1)) mq_200 ci_200 (List.mem_of_getElem? (i := 9) rfl)
theorem cd_200_16 : mt_cd 200 16 = some (.getfield 516) := mt_cd_of (q := (16, .getfield 516, 3)) mq_200 ci_200 (List.mem_of_getElem? (i := 10) rfl)
theorem cd_200_19 : mt_cd 200 19 = some (.iconst 1) := mt_cd_of (q := (19, .iconst 1, 1)) mq_200 ci_200 (List.mem_of_getElem? (i := 11) rfl)
theorem cd_200_20 : mt_cd 200 20 = some (.invokevirtual 529) := mt_cd_of (q := (20, .invokevirtual 529, 3)) mq_200 ci_200 (List.mem_of_getElem? (i := 12) rfl)
theorem cd_200_23 : mt_cd 200 23 = some (.istore 7) := mt_cd_of (q := (23, .istore 7, 2)) mq_200 ci_200 (List.mem_of_getElem? (i := 13) rfl)
theorem cd_200_25 : mt_cd 200 25 = some (.aload_n 0) := mt_cd_of (q := (25, .aload_n 0, 1)) mq_200 ci_200 (List.mem_of_getElem? (i := 14) rfl)
theorem cd_200_26 : mt_cd 200 26 = some (.aload_n 2) := mt_cd_of (q := (26, .aload_n 2, 1)) mq_200 ci_200 (List.mem_of_getElem? (i := 15) rfl)
theorem cd_200_27 : mt_cd 200 27 = some (.iload 7) := mt_cd_of (q := (27, .iload 7, 2)) mq_200 ci_200 (List.mem_of_getElem? (i := 16) rfl)
theorem cd_200_29 : mt_cd 200 29 = some (.iload_n 3) := mt_cd_of (q := (29, .iload_n 3, 1)) mq_200 ci_200 (List.mem_of_getElem? (i := 17) rfl)
theorem cd_200_30 : mt_cd 200 30 = some (.lload 4) := mt_cd_of (q := (30, .lload 4, 2)) mq_200 ci_200 (List.mem_of_getElem? (i := 18) rfl)
theorem cd_200_32 : mt_cd 200 32 = some (.iload 6) := mt_cd_of (q := (32, .iload 6, 2)) mq_200 ci_200 (List.mem_of_getElem? (i := 19) rfl)
theorem cd_200_34 : mt_cd 200 34 = some (.invokevirtual 575) := mt_cd_of (q := (34, .invokevirtual 575, 3)) mq_200 ci_200 (List.mem_of_getElem? (i := 20) rfl)
theorem cd_200_37 : mt_cd 200 37 = some (.ireturn) := mt_cd_of (q := (37, .ireturn, 1)) mq_200 ci_200 (List.mem_of_getElem? (i := 21) rfl)
theorem b_200_0 {d : Nat} {Q : (Option Value ⊕ Nat) → mi_H → Prop} (n sl : Nat) (f : Nat → mi_C) {l1 : Nat} {l2 : Nat} {l3 : Nat} {l4 : Int32} {l5 : Int64} {l6 : Int32} {o7 : Option Value} {fs8 : List Value} {fs12 : List Value} (h9 : f l1 = .inr (12, fs8)) (h10 : l1 < n) (h11 : 43 < fs8.length) (h13 : (va_up f l1 (.inr (12, fs8.set 43 (.ref l3)))) l3 = .inr (13, fs12)) (h14 : l3 < n) (h15 : mi_W d 173 0 (mi_en 3 [.ref l3, .ref l2]) [] (n, sl, (va_up f l1 (.inr (12, fs8.set 43 (.ref l3))))) (mi_Kc d 200 7 [some (.ref l1), some (.ref l2), some (.ref l3), some (.int l4), some (.long l5), none, some (.int l6), o7] [] Q)) : mi_W (d + 1) 200 0 [some (.ref l1), some (.ref l2), some (.ref l3), some (.int l4), some (.long l5), none, some (.int l6), o7] [] (n, sl, f) Q := by
  refine w_aload_n cd_200_0 rfl ?_
  refine w_aload_n cd_200_1 rfl ?_
  refine w_putfield (w := .ref l3) cd_200_2 (show mt_f 12 445 = some (12, 43) by decide +kernel) h9 h10 ⟨h11, rfl, Or.inl (by decide)⟩ ?_
  refine w_aload_n cd_200_5 rfl ?_
  refine w_aload_n cd_200_6 rfl ?_
  exact w_invokevirtual cd_200_7 (show mt_m 12 525 = some (173, 0) by decide +kernel) (rest := []) rfl (as := [.ref l3, .ref l2]) rfl h13 (Or.inl h14) ⟨Nat.le_of_ble_eq_true rfl, Nat.le_of_ble_eq_true rfl, Nat.le_of_ble_eq_true rfl⟩ h15
theorem b_200_10 {d : Nat} {Q : (Option Value ⊕ Nat) → mi_H → Prop} (n sl : Nat) (f : Nat → mi_C) {l1 : Nat} {l2 : Nat} {l3 : Nat} {l4 : Int32} {l5 : Int64} {l6 : Int32} {o7 : Option Value} {fs8 : List Value} {x11 : Int64} {fs13 : List Value} {x16 : Int64} {fs18 : List Value} (h9 : f l2 = .inr (13, fs8)) (h10 : l2 < n) (h12 : fs8[1]? = some (.long x11)) (h14 : f l2 = .inr (13, fs13)) (h15 : l2 < n) (h17 : fs13[1]? = some (.long x16)) (h19 : f l1 = .inr (12, fs18)) (h20 : l1 < n) (h21 : mi_W d 174 0 (mi_en 8 [.ref l1, .long x11, .long x16, .int 1]) [] (n, sl, f) (mi_Kc d 200 20 [some (.ref l1), some (.ref l2), some (.ref l3), some (.int l4), some (.long l5), none, some (.int l6), o7] [] Q)) : mi_W (d + 1) 200 10 [some (.ref l1), some (.ref l2), some (.ref l3), some (.int l4), some (.long l5), none, some (.int l6), o7] [] (n, sl, f) Q := by
  refine w_aload_n cd_200_10 rfl ?_
  refine w_aload_n cd_200_11 rfl ?_
  refine w_getfield cd_200_12 (show mt_f 12 516 = some (13, 1) by decide +kernel) h9 h10 h12 ?_
  refine w_aload_n cd_200_15 rfl ?_
  refine w_getfield cd_200_16 (show mt_f 12 516 = some (13, 1) by decide +kernel) h14 h15 h17 ?_
  refine w_iconst (v := 1) cd_200_19 (by decide) ?_
  exact w_invokevirtual cd_200_20 (show mt_m 12 529 = some (174, 0) by decide +kernel) (rest := []) rfl (as := [.ref l1, .long x11, .long x16, .int 1]) rfl h19 (Or.inl h20) ⟨Nat.le_of_ble_eq_true rfl, Nat.le_of_ble_eq_true rfl, Nat.le_of_ble_eq_true rfl⟩ h21
theorem b_200_23 {d : Nat} {Q : (Option Value ⊕ Nat) → mi_H → Prop} (n sl : Nat) (f : Nat → mi_C) {l1 : Nat} {l2 : Nat} {l3 : Nat} {l4 : Int32} {l5 : Int64} {l6 : Int32} {o7 : Option Value} {s8 : Int32} {fs9 : List Value} (h10 : f l1 = .inr (12, fs9)) (h11 : l1 < n) (h12 : mi_W d 198 0 (mi_en 8 [.ref l1, .ref l3, .int s8, .int l4, .long l5, .int l6]) [] (n, sl, f) (mi_Kc d 200 34 [some (.ref l1), some (.ref l2), some (.ref l3), some (.int l4), some (.long l5), none, some (.int l6), some (.int s8)] [] Q)) : mi_W (d + 1) 200 23 [some (.ref l1), some (.ref l2), some (.ref l3), some (.int l4), some (.long l5), none, some (.int l6), o7] [.int s8] (n, sl, f) Q := by
  refine w_istore (ls' := [some (.ref l1), some (.ref l2), some (.ref l3), some (.int l4), some (.long l5), none, some (.int l6), some (.int s8)]) cd_200_23 (Nat.le_of_ble_eq_true rfl) rfl ?_
  refine w_aload_n cd_200_25 rfl ?_
  refine w_aload_n cd_200_26 rfl ?_
  refine w_iload cd_200_27 rfl ?_
  refine w_iload_n cd_200_29 rfl ?_
  refine w_lload cd_200_30 rfl ?_
  refine w_iload cd_200_32 rfl ?_
  exact w_invokevirtual cd_200_34 (show mt_m 12 575 = some (198, 0) by decide +kernel) (rest := []) rfl (as := [.ref l1, .ref l3, .int s8, .int l4, .long l5, .int l6]) rfl h10 (Or.inl h11) ⟨Nat.le_of_ble_eq_true rfl, Nat.le_of_ble_eq_true rfl, Nat.le_of_ble_eq_true rfl⟩ h12
theorem b_200_37 {d : Nat} {Q : (Option Value ⊕ Nat) → mi_H → Prop} (n sl : Nat) (f : Nat → mi_C) {l1 : Nat} {l2 : Nat} {l3 : Nat} {l4 : Int32} {l5 : Int64} {l6 : Int32} {l7 : Int32} {s8 : Int32} (h9 : Q (.inl (some (.int s8))) (n, sl, f)) : mi_W d 200 37 [some (.ref l1), some (.ref l2), some (.ref l3), some (.int l4), some (.long l5), none, some (.int l6), some (.int l7)] [.int s8] (n, sl, f) Q := by
  exact w_ireturn_i cd_200_37 (by decide +kernel) h9
/-! MarloweHostModel.one(LMarloweHostModel$State;LMarloweHostModel$State;I)I -/
set_option maxRecDepth 100000 in
theorem mq_201 : mt_q 201 = my_201 := rfl
set_option maxRecDepth 100000 in
theorem ci_201 : mt_inc 0 my_201.cd = true := by decide +kernel
theorem cd_201_0 : mt_cd 201 0 = some (.aload_n 0) := mt_cd_of (q := (0, .aload_n 0, 1)) mq_201 ci_201 (List.mem_of_getElem? (i := 0) rfl)
theorem cd_201_1 : mt_cd 201 1 = some (.aload_n 2) := mt_cd_of (q := (1, .aload_n 2, 1)) mq_201 ci_201 (List.mem_of_getElem? (i := 1) rfl)
theorem cd_201_2 : mt_cd 201 2 = some (.putfield 445) := mt_cd_of (q := (2, .putfield 445, 3)) mq_201 ci_201 (List.mem_of_getElem? (i := 2) rfl)
theorem cd_201_5 : mt_cd 201 5 = some (.aload_n 2) := mt_cd_of (q := (5, .aload_n 2, 1)) mq_201 ci_201 (List.mem_of_getElem? (i := 3) rfl)
theorem cd_201_6 : mt_cd 201 6 = some (.aload_n 1) := mt_cd_of (q := (6, .aload_n 1, 1)) mq_201 ci_201 (List.mem_of_getElem? (i := 4) rfl)
theorem cd_201_7 : mt_cd 201 7 = some (.invokevirtual 525) := mt_cd_of (q := (7, .invokevirtual 525, 3)) mq_201 ci_201 (List.mem_of_getElem? (i := 5) rfl)
theorem cd_201_10 : mt_cd 201 10 = some (.aload_n 0) := mt_cd_of (q := (10, .aload_n 0, 1)) mq_201 ci_201 (List.mem_of_getElem? (i := 6) rfl)
theorem cd_201_11 : mt_cd 201 11 = some (.aload_n 1) := mt_cd_of (q := (11, .aload_n 1, 1)) mq_201 ci_201 (List.mem_of_getElem? (i := 7) rfl)
theorem cd_201_12 : mt_cd 201 12 = some (.getfield 516) := mt_cd_of (q := (12, .getfield 516, 3)) mq_201 ci_201 (List.mem_of_getElem? (i := 8) rfl)
theorem cd_201_15 : mt_cd 201 15 = some (.putfield 471) := mt_cd_of (q := (15, .putfield 471, 3)) mq_201 ci_201 (List.mem_of_getElem? (i := 9) rfl)
theorem cd_201_18 : mt_cd 201 18 = some (.aload_n 0) := mt_cd_of (q := (18, .aload_n 0, 1)) mq_201 ci_201 (List.mem_of_getElem? (i := 10) rfl)
theorem cd_201_19 : mt_cd 201 19 = some (.aload_n 1) := mt_cd_of (q := (19, .aload_n 1, 1)) mq_201 ci_201 (List.mem_of_getElem? (i := 11) rfl)
theorem cd_201_20 : mt_cd 201 20 = some (.getfield 516) := mt_cd_of (q := (20, .getfield 516, 3)) mq_201 ci_201 (List.mem_of_getElem? (i := 12) rfl)
theorem cd_201_23 : mt_cd 201 23 = some (.putfield 474) := mt_cd_of (q := (23, .putfield 474, 3)) mq_201 ci_201 (List.mem_of_getElem? (i := 13) rfl)
theorem cd_201_26 : mt_cd 201 26 = some (.aload_n 0) := mt_cd_of (q := (26, .aload_n 0, 1)) mq_201 ci_201 (List.mem_of_getElem? (i := 14) rfl)
theorem cd_201_27 : mt_cd 201 27 = some (.iconst 0) := mt_cd_of (q := (27, .iconst 0, 1)) mq_201 ci_201 (List.mem_of_getElem? (i := 15) rfl)
theorem cd_201_28 : mt_cd 201 28 = some (.putfield 441) := mt_cd_of (q := (28, .putfield 441, 3)) mq_201 ci_201 (List.mem_of_getElem? (i := 16) rfl)
theorem cd_201_31 : mt_cd 201 31 = some (.aload_n 0) := mt_cd_of (q := (31, .aload_n 0, 1)) mq_201 ci_201 (List.mem_of_getElem? (i := 17) rfl)
theorem cd_201_32 : mt_cd 201 32 = some (.iconst 0) := mt_cd_of (q := (32, .iconst 0, 1)) mq_201 ci_201 (List.mem_of_getElem? (i := 18) rfl)
theorem cd_201_33 : mt_cd 201 33 = some (.putfield 258) := mt_cd_of (q := (33, .putfield 258, 3)) mq_201 ci_201 (List.mem_of_getElem? (i := 19) rfl)
theorem cd_201_36 : mt_cd 201 36 = some (.aload_n 0) := mt_cd_of (q := (36, .aload_n 0, 1)) mq_201 ci_201 (List.mem_of_getElem? (i := 20) rfl)
theorem cd_201_37 : mt_cd 201 37 = some (.getfield 77) := mt_cd_of (q := (37, .getfield 77, 3)) mq_201 ci_201 (List.mem_of_getElem? (i := 21) rfl)
theorem cd_201_40 : mt_cd 201 40 = some (.iload_n 3) := mt_cd_of (q := (40, .iload_n 3, 1)) mq_201 ci_201 (List.mem_of_getElem? (i := 22) rfl)
theorem cd_201_41 : mt_cd 201 41 = some (.iaload) := mt_cd_of (q := (41, .iaload, 1)) mq_201 ci_201 (List.mem_of_getElem? (i := 23) rfl)
theorem cd_201_42 : mt_cd 201 42 = some (.bipush 7) := mt_cd_of (q := (42, .bipush 7, 2)) mq_201 ci_201 (List.mem_of_getElem? (i := 24) rfl)
theorem cd_201_44 : mt_cd 201 44 = some (.if_icmp .ne 71) := mt_cd_of (q := (44, .if_icmp .ne 71, 3)) mq_201 ci_201 (List.mem_of_getElem? (i := 25) rfl)
theorem cd_201_47 : mt_cd 201 47 = some (.aload_n 0) := mt_cd_of (q := (47, .aload_n 0, 1)) mq_201 ci_201 (List.mem_of_getElem? (i := 26) rfl)
theorem cd_201_48 : mt_cd 201 48 = some (.aload_n 0) := mt_cd_of (q := (48, .aload_n 0, 1)) mq_201 ci_201 (List.mem_of_getElem? (i := 27) rfl)
theorem cd_201_49 : mt_cd 201 49 = some (.getfield 89) := mt_cd_of (q := (49, .getfield 89, 3)) mq_201 ci_201 (List.mem_of_getElem? (i := 28) rfl)
theorem cd_201_52 : mt_cd 201 52 = some (.iload_n 3) := mt_cd_of (q := (52, .iload_n 3, 1)) mq_201 ci_201 (List.mem_of_getElem? (i := 29) rfl)
theorem cd_201_53 : mt_cd 201 53 = some (.iaload) := mt_cd_of (q := (53, .iaload, 1)) mq_201 ci_201 (List.mem_of_getElem? (i := 30) rfl)
theorem cd_201_54 : mt_cd 201 54 = some (.invokevirtual 451) := mt_cd_of (q := (54, .invokevirtual 451, 3)) mq_201 ci_201 (List.mem_of_getElem? (i := 31) rfl)
theorem cd_201_57 : mt_cd 201 57 = some (.lstore 4) := mt_cd_of (q := (57, .lstore 4, 2)) mq_201 ci_201 (List.mem_of_getElem? (i := 32) rfl)
theorem cd_201_59 : mt_cd 201 59 = some (.aload_n 0) := mt_cd_of (q := (59, .aload_n 0, 1)) mq_201 ci_201 (List.mem_of_getElem? (i := 33) rfl)
theorem cd_201_60 : mt_cd 201 60 = some (.getfield 441) := mt_cd_of (q := (60, .getfield 441, 3)) mq_201 ci_201 (List.mem_of_getElem? (i := 34) rfl)
theorem cd_201_63 : mt_cd 201 63 = some (.ifCond .eq 14) := mt_cd_of (q := (63, .ifCond .eq 14, 3)) mq_201 ci_201 (List.mem_of_getElem? (i := 35) rfl)
theorem cd_201_66 : mt_cd 201 66 = some (.aload_n 0) := mt_cd_of (q := (66, .aload_n 0, 1)) mq_201 ci_201 (List.mem_of_getElem? (i := 36) rfl)
theorem cd_201_67 : mt_cd 201 67 = some (.aload_n 2) := mt_cd_of (q := (67, .aload_n 2, 1)) mq_201 ci_201 (List.mem_of_getElem? (i := 37) rfl)
theorem cd_201_68 : mt_cd 201 68 = some (.bipush 6) := mt_cd_of (q := (68, .bipush 6, 2)) mq_201 ci_201 (List.mem_of_getElem? (i := 38) rfl)
theorem cd_201_70 : mt_cd 201 70 = some (.iconst 1) := mt_cd_of (q := (70, .iconst 1, 1)) mq_201 ci_201 (List.mem_of_getElem? (i := 39) rfl)
theorem cd_201_71 : mt_cd 201 71 = some (.lconst 0) := mt_cd_of (q := (71, .lconst 0, 1)) mq_201 ci_201 (List.mem_of_getElem? (i := 40) rfl)
theorem cd_201_72 : mt_cd 201 72 = some (.iload_n 3) := mt_cd_of (q := (72, .iload_n 3, 1)) mq_201 ci_201 (List.mem_of_getElem? (i := 41) rfl)
theorem cd_201_73 : mt_cd 201 73 = some (.invokevirtual 575) := mt_cd_of (q := (73, .invokevirtual 575, 3)) mq_201 ci_201 (List.mem_of_getElem? (i := 42) rfl)
theorem cd_201_76 : mt_cd 201 76 = some (.ireturn) := mt_cd_of (q := (76, .ireturn, 1)) mq_201 ci_201 (List.mem_of_getElem? (i := 43) rfl)
theorem cd_201_77 : mt_cd 201 77 = some (.aload_n 0) := mt_cd_of (q := (77, .aload_n 0, 1)) mq_201 ci_201 (List.mem_of_getElem? (i := 44) rfl)
theorem cd_201_78 : mt_cd 201 78 = some (.bipush 7) := mt_cd_of (q := (78, .bipush 7, 2)) mq_201 ci_201 (List.mem_of_getElem? (i := 45) rfl)
theorem cd_201_80 : mt_cd 201 80 = some (.aload_n 0) := mt_cd_of (q := (80, .aload_n 0, 1)) mq_201 ci_201 (List.mem_of_getElem? (i := 46) rfl)
theorem cd_201_81 : mt_cd 201 81 = some (.getfield 80) := mt_cd_of (q := (81, .getfield 80, 3)) mq_201 ci_201 (List.mem_of_getElem? (i := 47) rfl)
theorem cd_201_84 : mt_cd 201 84 = some (.iload_n 3) := mt_cd_of (q := (84, .iload_n 3, 1)) mq_201 ci_201 (List.mem_of_getElem? (i := 48) rfl)
theorem cd_201_85 : mt_cd 201 85 = some (.iaload) := mt_cd_of (q := (85, .iaload, 1)) mq_201 ci_201 (List.mem_of_getElem? (i := 49) rfl)
theorem cd_201_86 : mt_cd 201 86 = some (.aload_n 0) := mt_cd_of (q := (86, .aload_n 0, 1)) mq_201 ci_201 (List.mem_of_getElem? (i := 50) rfl)
theorem cd_201_87 : mt_cd 201 87 = some (.getfield 83) := mt_cd_of (q := (87, .getfield 83, 3)) mq_201 ci_201 (List.mem_of_getElem? (i := 51) rfl)
theorem cd_201_90 : mt_cd 201 90 = some (.iload_n 3) := mt_cd_of (q := (90, .iload_n 3, 1)) mq_201 ci_201 (List.mem_of_getElem? (i := 52) rfl)
theorem cd_201_91 : mt_cd 201 91 = some (.iaload) := mt_cd_of (q := (91, .iaload, 1)) mq_201 ci_201 (List.mem_of_getElem? (i := 53) rfl)
theorem cd_201_92 : mt_cd 201 92 = some (.aload_n 0) := mt_cd_of (q := (92, .aload_n 0, 1)) mq_201 ci_201 (List.mem_of_getElem? (i := 54) rfl)
theorem cd_201_93 : mt_cd 201 93 = some (.getfield 86) := mt_cd_of (q := (93, .getfield 86, 3)) mq_201 ci_201 (List.mem_of_getElem? (i := 55) rfl)
theorem cd_201_96 : mt_cd 201 96 = some (.iload_n 3) := mt_cd_of (q := (96, .iload_n 3, 1)) mq_201 ci_201 (List.mem_of_getElem? (i := 56) rfl)
theorem cd_201_97 : mt_cd 201 97 = some (.iaload) := mt_cd_of (q := (97, .iaload, 1)) mq_201 ci_201 (List.mem_of_getElem? (i := 57) rfl)
theorem cd_201_98 : mt_cd 201 98 = some (.lload 4) := mt_cd_of (q := (98, .lload 4, 2)) mq_201 ci_201 (List.mem_of_getElem? (i := 58) rfl)
theorem cd_201_100 : mt_cd 201 100 = some (.invokevirtual 548) := mt_cd_of (q := (100, .invokevirtual 548, 3)) mq_201 ci_201 (List.mem_of_getElem? (i := 59) rfl)
theorem cd_201_103 : mt_cd 201 103 = some (.pop) := mt_cd_of (q := (103, .pop, 1)) mq_201 ci_201 (List.mem_of_getElem? (i := 60) rfl)
theorem cd_201_104 : mt_cd 201 104 = some (.aload_n 0) := mt_cd_of (q := (104, .aload_n 0, 1)) mq_201 ci_201 (List.mem_of_getElem? (i := 61) rfl)
theorem cd_201_105 : mt_cd 201 105 = some (.aload_n 1) := mt_cd_of (q := (105, .aload_n 1, 1)) mq_201 ci_201 (List.mem_of_getElem? (i := 62) rfl)
theorem cd_201_106 : mt_cd 201 106 = some (.aload_n 2) := mt_cd_of (q := (106, .aload_n 2, 1)) mq_201 ci_201 (List.mem_of_getElem? (i := 63) rfl)
theorem cd_201_107 : mt_cd 201 107 = some (.iconst 1) := mt_cd_of (q := (107, .iconst 1, 1)) mq_201 ci_201 (List.mem_of_getElem? (i := 64) rfl)
theorem cd_201_108 : mt_cd 201 108 = some (.lload 4) := mt_cd_of (q := (108, .lload 4, 2)) mq_201 ci_201 (List.mem_of_getElem? (i := 65) rfl)
theorem cd_201_110 : mt_cd 201 110 = some (.iload_n 3) := mt_cd_of (q := (110, .iload_n 3, 1)) mq_201 ci_201 (List.mem_of_getElem? (i := 66) rfl)
theorem cd_201_111 : mt_cd 201 111 = some (.invokevirtual 586) := mt_cd_of (q := (111, .invokevirtual 586, 3)) mq_201 ci_201 (List.mem_of_getElem? (i := 67) rfl)
theorem cd_201_114 : mt_cd 201 114 = some (.ireturn) := mt_cd_of (q := (114, .ireturn, 1)) mq_201 ci_201 (List.mem_of_getElem? (i := 68) rfl)
theorem cd_201_115 : mt_cd 201 115 = some (.aload_n 0) := mt_cd_of (q := (115, .aload_n 0, 1)) mq_201 ci_201 (List.mem_of_getElem? (i := 69) rfl)
theorem cd_201_116 : mt_cd 201 116 = some (.aload_n 0) := mt_cd_of (q := (116, .aload_n 0, 1)) mq_201 ci_201 (List.mem_of_getElem? (i := 70) rfl)
theorem cd_201_117 : mt_cd 201 117 = some (.getfield 89) := mt_cd_of (q := (117, .getfield 89, 3)) mq_201 ci_201 (List.mem_of_getElem? (i := 71) rfl)
theorem cd_201_120 : mt_cd 201 120 = some (.iload_n 3) := mt_cd_of (q := (120, .iload_n 3, 1)) mq_201 ci_201 (List.mem_of_getElem? (i := 72) rfl)
theorem cd_201_121 : mt_cd 201 121 = some (.iaload) := mt_cd_of (q := (121, .iaload, 1)) mq_201 ci_201 (List.mem_of_getElem? (i := 73) rfl)
theorem cd_201_122 : mt_cd 201 122 = some (.invokevirtual 477) := mt_cd_of (q := (122, .invokevirtual 477, 3)) mq_201 ci_201 (List.mem_of_getElem? (i := 74) rfl)
theorem cd_201_125 : mt_cd 201 125 = some (.istore 4) := mt_cd_of (q := (125, .istore 4, 2)) mq_201 ci_201 (List.mem_of_getElem? (i := 75) rfl)
theorem cd_201_127 : mt_cd 201 127 = some (.iload 4) := mt_cd_of (q := (127, .iload 4, 2)) mq_201 ci_201 (List.mem_of_getElem? (i := 76) rfl)
theorem cd_201_129 : mt_cd 201 129 = some (.ifCond .ne 12) := mt_cd_of (q := (129, .ifCond .ne 12, 3)) mq_201 ci_201 (List.mem_of_getElem? (i := 77) rfl)
theorem cd_201_132 : mt_cd 201 132 = some (.aload_n 0) := mt_cd_of (q := (132, .aload_n 0, 1)) mq_201 ci_201 (List.mem_of_getElem? (i := 78) rfl)
theorem cd_201_133 : mt_cd 201 133 = some (.getfield 441) := mt_cd_of (q := (133, .getfield 441, 3)) mq_201 ci_201 (List.mem_of_getElem? (i := 79) rfl)
theorem cd_201_136 : mt_cd 201 136 = some (.ifCond .ne 5) := mt_cd_of (q := (136, .ifCond .ne 5, 3)) mq_201 ci_201 (List.mem_of_getElem? (i := 80) rfl)
theorem cd_201_139 : mt_cd 201 139 = some (.iconst 0) := mt_cd_of (q := (139, .iconst 0, 1)) mq_201 ci_201 (List.mem_of_getElem? (i := 81) rfl)
theorem cd_201_140 : mt_cd 201 140 = some (.ireturn) := mt_cd_of (q := (140, .ireturn, 1)) mq_201 ci_201 (List.mem_of_getElem? (i := 82) rfl)
theorem cd_201_141 : mt_cd 201 141 = some (.aload_n 0) := mt_cd_of (q := (141, .aload_n 0, 1)) mq_201 ci_201 (List.mem_of_getElem? (i := 83) rfl)
theorem cd_201_142 : mt_cd 201 142 = some (.bipush 9) := mt_cd_of (q := (142, .bipush 9, 2)) mq_201 ci_201 (List.mem_of_getElem? (i := 84) rfl)
theorem cd_201_144 : mt_cd 201 144 = some (.iconst 0) := mt_cd_of (q := (144, .iconst 0, 1)) mq_201 ci_201 (List.mem_of_getElem? (i := 85) rfl)
theorem cd_201_145 : mt_cd 201 145 = some (.iconst 0) := mt_cd_of (q := (145, .iconst 0, 1)) mq_201 ci_201 (List.mem_of_getElem? (i := 86) rfl)
theorem cd_201_146 : mt_cd 201 146 = some (.iconst 0) := mt_cd_of (q := (146, .iconst 0, 1)) mq_201 ci_201 (List.mem_of_getElem? (i := 87) rfl)
theorem cd_201_147 : mt_cd 201 147 = some (.lconst 0) := mt_cd_of (q := (147, .lconst 0, 1)) mq_201 ci_201 (List.mem_of_getElem? (i := 88) rfl)
theorem cd_201_148 : mt_cd 201 148 = some (.invokevirtual 548) := mt_cd_of (q := (148, .invokevirtual 548, 3)) mq_201 ci_201 (List.mem_of_getElem? (i := 89) rfl)
theorem cd_201_151 : mt_cd 201 151 = some (.pop) := mt_cd_of (q := (151, .pop, 1)) mq_201 ci_201 (List.mem_of_getElem? (i := 90) rfl)
theorem cd_201_152 : mt_cd 201 152 = some (.aload_n 0) := mt_cd_of (q := (152, .aload_n 0, 1)) mq_201 ci_201 (List.mem_of_getElem? (i := 91) rfl)
theorem cd_201_153 : mt_cd 201 153 = some (.aload_n 1) := mt_cd_of (q := (153, .aload_n 1, 1)) mq_201 ci_201 (List.mem_of_getElem? (i := 92) rfl)
theorem cd_201_154 : mt_cd 201 154 = some (.aload_n 2) := mt_cd_of (q := (154, .aload_n 2, 1)) mq_201 ci_201 (List.mem_of_getElem? (i := 93) rfl)
theorem cd_201_155 : mt_cd 201 155 = some (.iconst 3) := mt_cd_of (q := (155, .iconst 3, 1)) mq_201 ci_201 (List.mem_of_getElem? (i := 94) rfl)
theorem cd_201_156 : mt_cd 201 156 = some (.lconst 0) := mt_cd_of (q := (156, .lconst 0, 1)) mq_201 ci_201 (List.mem_of_getElem? (i := 95) rfl)
theorem cd_201_157 : mt_cd 201 157 = some (.iload_n 3) := mt_cd_of (q := (157, .iload_n 3, 1)) mq_201 ci_201 (List.mem_of_getElem? (i := 96) rfl)
theorem cd_201_158 : mt_cd 201 158 = some (.invokevirtual 586) := mt_cd_of (q := (158, .invokevirtual 586, 3)) mq_201 ci_201 (List.mem_of_getElem? (i := 97) rfl)
theorem cd_201_161 : mt_cd 201 161 = some (.ireturn) := mt_cd_of (q := (161, .ireturn, 1)) mq_201 ci_201 (List.mem_of_getElem? (i := 98) rfl)
theorem b_201_0 {d : Nat} {Q : (Option Value ⊕ Nat) → mi_H → Prop} (n sl : Nat) (f : Nat → mi_C) {l1 : Nat} {l2 : Nat} {l3 : Nat} {l4 : Int32} {o5 : Option Value} {o6 : Option Value} {fs7 : List Value} {fs11 : List Value} (h8 : f l1 = .inr (12, fs7)) (h9 : l1 < n) (h10 : 43 < fs7.length) (h12 : (va_up f l1 (.inr (12, fs7.set 43 (.ref l3)))) l3 = .inr (13, fs11)) (h13 : l3 < n) (h14 : mi_W d 173 0 (mi_en 3 [.ref l3, .ref l2]) [] (n, sl, (va_up f l1 (.inr (12, fs7.set 43 (.ref l3))))) (mi_Kc d 201 7 [some (.ref l1), some (.ref l2), some (.ref l3), some (.int l4), o5, o6] [] Q)) : mi_W (d + 1) 201 0 [some (.ref l1), some (.ref l2), some (.ref l3), some (.int l4), o5, o6] [] (n, sl, f) Q := by
  refine w_aload_n cd_201_0 rfl ?_
  refine w_aload_n cd_201_1 rfl ?_
  refine w_putfield (w := .ref l3) cd_201_2 (show mt_f 12 445 = some (12, 43) by decide +kernel) h8 h9 ⟨h10, rfl, Or.inl (by decide)⟩ ?_
  refine w_aload_n cd_201_5 rfl ?_
  refine w_aload_n cd_201_6 rfl ?_
  exact w_invokevirtual cd_201_7 (show mt_m 12 525 = some (173, 0) by decide +kernel) (rest := []) rfl (as := [.ref l3, .ref l2]) rfl h12 (Or.inl h13) ⟨Nat.le_of_ble_eq_true rfl, Nat.le_of_ble_eq_true rfl, Nat.le_of_ble_eq_true rfl⟩ h14
theorem b_201_10 {d : Nat} {Q : (Option Value ⊕ Nat) → mi_H → Prop} (n sl : Nat) (f : Nat → mi_C) {l1 : Nat} {l2 : Nat} {l3 : Nat} {l4 : Int32} {o5 : Option Value} {o6 : Option Value} {fs7 : List Value} {x10 : Int64} {fs12 : List Value} {fs16 : List Value} {x19 : Int64} {fs21 : List Value} {fs25 : List Value} {fs30 : List Value} {fs34 : List Value} {x37 : Nat} (m39 i39 : Nat) (g39 : Nat → Int32) (h8 : f l2 = .inr (13, fs7)) (h9 : l2 < n) (h11 : fs7[1]? = some (.long x10)) (h13 : f l1 = .inr (12, fs12)) (h14 : l1 < n) (h15 : 44 < fs12.length) (h17 : (va_up f l1 (.inr (12, fs12.set 44 (.long x10)))) l2 = .inr (13, fs16)) (h18 : l2 < n) (h20 : fs16[1]? = some (.long x19)) (h22 : (va_up f l1 (.inr (12, fs12.set 44 (.long x10)))) l1 = .inr (12, fs21)) (h23 : l1 < n) (h24 : 45 < fs21.length) (h26 : (va_up (va_up f l1 (.inr (12, fs12.set 44 (.long x10)))) l1 (.inr (12, fs21.set 45 (.long x19)))) l1 = .inr (12, fs25)) (h27 : l1 < n) (h28 : 46 < fs25.length) (h29 : mi_fk .boolean (.int 0) = true) (h31 : (va_up (va_up (va_up f l1 (.inr (12, fs12.set 44 (.long x10)))) l1 (.inr (12, fs21.set 45 (.long x19)))) l1 (.inr (12, fs25.set 46 (.int 0)))) l1 = .inr (12, fs30)) (h32 : l1 < n) (h33 : 59 < fs30.length) (h35 : (va_up (va_up (va_up (va_up f l1 (.inr (12, fs12.set 44 (.long x10)))) l1 (.inr (12, fs21.set 45 (.long x19)))) l1 (.inr (12, fs25.set 46 (.int 0)))) l1 (.inr (12, fs30.set 59 (.int 0)))) l1 = .inr (12, fs34)) (h36 : l1 < n) (h38 : fs34[12]? = some (.ref x37)) (h40 : (va_up (va_up (va_up (va_up f l1 (.inr (12, fs12.set 44 (.long x10)))) l1 (.inr (12, fs21.set 45 (.long x19)))) l1 (.inr (12, fs25.set 46 (.int 0)))) l1 (.inr (12, fs30.set 59 (.int 0)))) x37 = .inl (0, m39, .inl g39)) (h41 : x37 < n ∨ x37 = mi_SC) (h42 : mi_ix l4 m39 i39) (h43 : ¬ (g39 i39) = 7 → mi_W d 201 115 [some (.ref l1), some (.ref l2), some (.ref l3), some (.int l4), o5, o6] [] (n, sl, (va_up (va_up (va_up (va_up f l1 (.inr (12, fs12.set 44 (.long x10)))) l1 (.inr (12, fs21.set 45 (.long x19)))) l1 (.inr (12, fs25.set 46 (.int 0)))) l1 (.inr (12, fs30.set 59 (.int 0))))) Q) (h44 : ¬ (¬ (g39 i39) = 7) → mi_W d 201 47 [some (.ref l1), some (.ref l2), some (.ref l3), some (.int l4), o5, o6] [] (n, sl, (va_up (va_up (va_up (va_up f l1 (.inr (12, fs12.set 44 (.long x10)))) l1 (.inr (12, fs21.set 45 (.long x19)))) l1 (.inr (12, fs25.set 46 (.int 0)))) l1 (.inr (12, fs30.set 59 (.int 0))))) Q) : mi_W d 201 10 [some (.ref l1), some (.ref l2), some (.ref l3), some (.int l4), o5, o6] [] (n, sl, f) Q := by
  refine w_aload_n cd_201_10 rfl ?_
  refine w_aload_n cd_201_11 rfl ?_
  refine w_getfield cd_201_12 (show mt_f 12 516 = some (13, 1) by decide +kernel) h8 h9 h11 ?_
  refine w_putfield (w := .long x10) cd_201_15 (show mt_f 12 471 = some (12, 44) by decide +kernel) h13 h14 ⟨h15, rfl, Or.inl (by decide)⟩ ?_
  refine w_aload_n cd_201_18 rfl ?_
  refine w_aload_n cd_201_19 rfl ?_
  refine w_getfield cd_201_20 (show mt_f 12 516 = some (13, 1) by decide +kernel) h17 h18 h20 ?_
  refine w_putfield (w := .long x19) cd_201_23 (show mt_f 12 474 = some (12, 45) by decide +kernel) h22 h23 ⟨h24, rfl, Or.inl (by decide)⟩ ?_
  refine w_aload_n cd_201_26 rfl ?_
  refine w_iconst (v := 0) cd_201_27 (by decide) ?_
  refine w_putfield (w := .int 0) cd_201_28 (show mt_f 12 441 = some (12, 46) by decide +kernel) h26 h27 ⟨h28, h29, Or.inl (by decide)⟩ ?_
  refine w_aload_n cd_201_31 rfl ?_
  refine w_iconst (v := 0) cd_201_32 (by decide) ?_
  refine w_putfield (w := .int 0) cd_201_33 (show mt_f 12 258 = some (12, 59) by decide +kernel) h31 h32 ⟨h33, rfl, Or.inl (by decide)⟩ ?_
  refine w_aload_n cd_201_36 rfl ?_
  refine w_getfield cd_201_37 (show mt_f 12 77 = some (12, 12) by decide +kernel) h35 h36 h38 ?_
  refine w_iload_n cd_201_40 rfl ?_
  refine w_iaload cd_201_41 h40 h41 h42 ?_
  refine w_bipush (v := 7) cd_201_42 (by decide) ?_
  exact w_if_icmpne cd_201_44 (by decide) h43 h44
theorem b_201_47 {d : Nat} {Q : (Option Value ⊕ Nat) → mi_H → Prop} (n sl : Nat) (f : Nat → mi_C) {l1 : Nat} {l2 : Nat} {l3 : Nat} {l4 : Int32} {o5 : Option Value} {o6 : Option Value} {fs7 : List Value} {x10 : Nat} (m12 i12 : Nat) (g12 : Nat → Int32) {fs16 : List Value} (h8 : f l1 = .inr (12, fs7)) (h9 : l1 < n) (h11 : fs7[16]? = some (.ref x10)) (h13 : f x10 = .inl (0, m12, .inl g12)) (h14 : x10 < n ∨ x10 = mi_SC) (h15 : mi_ix l4 m12 i12) (h17 : f l1 = .inr (12, fs16)) (h18 : l1 < n) (h19 : mi_W d 177 0 (mi_en 2 [.ref l1, .int (g12 i12)]) [] (n, sl, f) (mi_Kc d 201 54 [some (.ref l1), some (.ref l2), some (.ref l3), some (.int l4), o5, o6] [] Q)) : mi_W (d + 1) 201 47 [some (.ref l1), some (.ref l2), some (.ref l3), some (.int l4), o5, o6] [] (n, sl, f) Q := by
  refine w_aload_n cd_201_47 rfl ?_
  refine w_aload_n cd_201_48 rfl ?_
  refine w_getfield cd_201_49 (show mt_f 12 89 = some (12, 16) by decide +kernel) h8 h9 h11 ?_
  refine w_iload_n cd_201_52 rfl ?_
  refine w_iaload cd_201_53 h13 h14 h15 ?_
  exact w_invokevirtual cd_201_54 (show mt_m 12 451 = some (177, 0) by decide +kernel) (rest := []) rfl (as := [.ref l1, .int (g12 i12)]) rfl h17 (Or.inl h18) ⟨Nat.le_of_ble_eq_true rfl, Nat.le_of_ble_eq_true rfl, Nat.le_of_ble_eq_true rfl⟩ h19
theorem b_201_57 {d : Nat} {Q : (Option Value ⊕ Nat) → mi_H → Prop} (n sl : Nat) (f : Nat → mi_C) {l1 : Nat} {l2 : Nat} {l3 : Nat} {l4 : Int32} {o5 : Option Value} {o6 : Option Value} {s7 : Int64} {fs8 : List Value} {x11 : Int32} (h9 : f l1 = .inr (12, fs8)) (h10 : l1 < n) (h12 : fs8[46]? = some (.int x11)) (h13 : x11 = (0 : Int32) → mi_W d 201 77 [some (.ref l1), some (.ref l2), some (.ref l3), some (.int l4), some (.long s7), none] [] (n, sl, f) Q) (h14 : ¬ (x11 = (0 : Int32)) → mi_W d 201 66 [some (.ref l1), some (.ref l2), some (.ref l3), some (.int l4), some (.long s7), none] [] (n, sl, f) Q) : mi_W d 201 57 [some (.ref l1), some (.ref l2), some (.ref l3), some (.int l4), o5, o6] [.long s7] (n, sl, f) Q := by
  refine w_lstore (ls' := [some (.ref l1), some (.ref l2), some (.ref l3), some (.int l4), some (.long s7), none]) cd_201_57 (Nat.le_of_ble_eq_true rfl) rfl ?_
  refine w_aload_n cd_201_59 rfl ?_
  refine w_getfield cd_201_60 (show mt_f 12 441 = some (12, 46) by decide +kernel) h9 h10 h12 ?_
  exact w_ifeq cd_201_63 (by decide) h13 h14
theorem b_201_66 {d : Nat} {Q : (Option Value ⊕ Nat) → mi_H → Prop} (n sl : Nat) (f : Nat → mi_C) {l1 : Nat} {l2 : Nat} {l3 : Nat} {l4 : Int32} {l5 : Int64} {fs6 : List Value} (h7 : f l1 = .inr (12, fs6)) (h8 : l1 < n) (h9 : mi_W d 198 0 (mi_en 8 [.ref l1, .ref l3, .int 6, .int 1, .long 0, .int l4]) [] (n, sl, f) (mi_Kc d 201 73 [some (.ref l1), some (.ref l2), some (.ref l3), some (.int l4), some (.long l5), none] [] Q)) : mi_W (d + 1) 201 66 [some (.ref l1), some (.ref l2), some (.ref l3), some (.int l4), some (.long l5), none] [] (n, sl, f) Q := by
  refine w_aload_n cd_201_66 rfl ?_
  refine w_aload_n cd_201_67 rfl ?_
  refine w_bipush (v := 6) cd_201_68 (by decide) ?_
  refine w_iconst (v := 1) cd_201_70 (by decide) ?_
  refine w_lconst (lv := 0) cd_201_71 (by decide) ?_
  refine w_iload_n cd_201_72 rfl ?_
  exact w_invokevirtual cd_201_73 (show mt_m 12 575 = some (198, 0) by decide +kernel) (rest := []) rfl (as := [.ref l1, .ref l3, .int 6, .int 1, .long 0, .int l4]) rfl h7 (Or.inl h8) ⟨Nat.le_of_ble_eq_true rfl, Nat.le_of_ble_eq_true rfl, Nat.le_of_ble_eq_true rfl⟩ h9
theorem b_201_76 {d : Nat} {Q : (Option Value ⊕ Nat) → mi_H → Prop} (n sl : Nat) (f : Nat → mi_C) {l1 : Nat} {l2 : Nat} {l3 : Nat} {l4 : Int32} {l5 : Int64} {s6 : Int32} (h7 : Q (.inl (some (.int s6))) (n, sl, f)) : mi_W d 201 76 [some (.ref l1), some (.ref l2), some (.ref l3), some (.int l4), some (.long l5), none] [.int s6] (n, sl, f) Q := by
  exact w_ireturn_i cd_201_76 (by decide +kernel) h7
theorem b_201_77 {d : Nat} {Q : (Option Value ⊕ Nat) → mi_H → Prop} (n sl : Nat) (f : Nat → mi_C) {l1 : Nat} {l2 : Nat} {l3 : Nat} {l4 : Int32} {l5 : Int64} {fs6 : List Value} {x9 : Nat} (m11 i11 : Nat) (g11 : Nat → Int32) {fs15 : List Value} {x18 : Nat} (m20 i20 : Nat) (g20 : Nat → Int32) {fs24 : List Value} {x27 : Nat} (m29 i29 : Nat) (g29 : Nat → Int32) {fs33 : List Value} (h7 : f l1 = .inr (12, fs6)) (h8 : l1 < n) (h10 : fs6[13]? = some (.ref x9)) (h12 : f x9 = .inl (0, m11, .inl g11)) (h13 : x9 < n ∨ x9 = mi_SC) (h14 : mi_ix l4 m11 i11) (h16 : f l1 = .inr (12, fs15)) (h17 : l1 < n) (h19 : fs15[14]? = some (.ref x18)) (h21 : f x18 = .inl (0, m20, .inl g20)) (h22 : x18 < n ∨ x18 = mi_SC) (h23 : mi_ix l4 m20 i20) (h25 : f l1 = .inr (12, fs24)) (h26 : l1 < n) (h28 : fs24[15]? = some (.ref x27)) (h30 : f x27 = .inl (0, m29, .inl g29)) (h31 : x27 < n ∨ x27 = mi_SC) (h32 : mi_ix l4 m29 i29) (h34 : f l1 = .inr (12, fs33)) (h35 : l1 < n) (h36 : mi_W d 188 0 (mi_en 7 [.ref l1, .int 7, .int (g11 i11), .int (g20 i20), .int (g29 i29), .long l5]) [] (n, sl, f) (mi_Kc d 201 100 [some (.ref l1), some (.ref l2), some (.ref l3), some (.int l4), some (.long l5), none] [] Q)) : mi_W (d + 1) 201 77 [some (.ref l1), some (.ref l2), some (.ref l3), some (.int l4), some (.long l5), none] [] (n, sl, f) Q := by
  refine w_aload_n cd_201_77 rfl ?_
  refine w_bipush (v := 7) cd_201_78 (by decide) ?_
  refine w_aload_n cd_201_80 rfl ?_
  refine w_getfield cd_201_81 (show mt_f 12 80 = some (12, 13) by decide +kernel) h7 h8 h10 ?_
  refine w_iload_n cd_201_84 rfl ?_
  refine w_iaload cd_201_85 h12 h13 h14 ?_
  refine w_aload_n cd_201_86 rfl ?_
  refine w_getfield cd_201_87 (show mt_f 12 83 = some (12, 14) by decide +kernel) h16 h17 h19 ?_
  refine w_iload_n cd_201_90 rfl ?_
  refine w_iaload cd_201_91 h21 h22 h23 ?_
  refine w_aload_n cd_201_92 rfl ?_
  refine w_getfield cd_201_93 (show mt_f 12 86 = some (12, 15) by decide +kernel) h25 h26 h28 ?_
  refine w_iload_n cd_201_96 rfl ?_
  refine w_iaload cd_201_97 h30 h31 h32 ?_
  refine w_lload cd_201_98 rfl ?_
  exact w_invokevirtual cd_201_100 (show mt_m 12 548 = some (188, 0) by decide +kernel) (rest := []) rfl (as := [.ref l1, .int 7, .int (g11 i11), .int (g20 i20), .int (g29 i29), .long l5]) rfl h34 (Or.inl h35) ⟨Nat.le_of_ble_eq_true rfl, Nat.le_of_ble_eq_true rfl, Nat.le_of_ble_eq_true rfl⟩ h36
theorem b_201_103 {d : Nat} {Q : (Option Value ⊕ Nat) → mi_H → Prop} (n sl : Nat) (f : Nat → mi_C) {l1 : Nat} {l2 : Nat} {l3 : Nat} {l4 : Int32} {l5 : Int64} {s6 : Int32} {fs7 : List Value} (h8 : f l1 = .inr (12, fs7)) (h9 : l1 < n) (h10 : mi_W d 200 0 (mi_en 8 [.ref l1, .ref l2, .ref l3, .int 1, .long l5, .int l4]) [] (n, sl, f) (mi_Kc d 201 111 [some (.ref l1), some (.ref l2), some (.ref l3), some (.int l4), some (.long l5), none] [] Q)) : mi_W (d + 1) 201 103 [some (.ref l1), some (.ref l2), some (.ref l3), some (.int l4), some (.long l5), none] [.int s6] (n, sl, f) Q := by
  refine w_pop_i cd_201_103 ?_
  refine w_aload_n cd_201_104 rfl ?_
  refine w_aload_n cd_201_105 rfl ?_
  refine w_aload_n cd_201_106 rfl ?_
  refine w_iconst (v := 1) cd_201_107 (by decide) ?_
  refine w_lload cd_201_108 rfl ?_
  refine w_iload_n cd_201_110 rfl ?_
  exact w_invokevirtual cd_201_111 (show mt_m 12 586 = some (200, 0) by decide +kernel) (rest := []) rfl (as := [.ref l1, .ref l2, .ref l3, .int 1, .long l5, .int l4]) rfl h8 (Or.inl h9) ⟨Nat.le_of_ble_eq_true rfl, Nat.le_of_ble_eq_true rfl, Nat.le_of_ble_eq_true rfl⟩ h10
theorem b_201_114 {d : Nat} {Q : (Option Value ⊕ Nat) → mi_H → Prop} (n sl : Nat) (f : Nat → mi_C) {l1 : Nat} {l2 : Nat} {l3 : Nat} {l4 : Int32} {l5 : Int64} {s6 : Int32} (h7 : Q (.inl (some (.int s6))) (n, sl, f)) : mi_W d 201 114 [some (.ref l1), some (.ref l2), some (.ref l3), some (.int l4), some (.long l5), none] [.int s6] (n, sl, f) Q := by
  exact w_ireturn_i cd_201_114 (by decide +kernel) h7
theorem b_201_115 {d : Nat} {Q : (Option Value ⊕ Nat) → mi_H → Prop} (n sl : Nat) (f : Nat → mi_C) {l1 : Nat} {l2 : Nat} {l3 : Nat} {l4 : Int32} {o5 : Option Value} {o6 : Option Value} {fs7 : List Value} {x10 : Nat} (m12 i12 : Nat) (g12 : Nat → Int32) {fs16 : List Value} (h8 : f l1 = .inr (12, fs7)) (h9 : l1 < n) (h11 : fs7[16]? = some (.ref x10)) (h13 : f x10 = .inl (0, m12, .inl g12)) (h14 : x10 < n ∨ x10 = mi_SC) (h15 : mi_ix l4 m12 i12) (h17 : f l1 = .inr (12, fs16)) (h18 : l1 < n) (h19 : mi_W d 179 0 (mi_en 6 [.ref l1, .int (g12 i12)]) [] (n, sl, f) (mi_Kc d 201 122 [some (.ref l1), some (.ref l2), some (.ref l3), some (.int l4), o5, o6] [] Q)) : mi_W (d + 1) 201 115 [some (.ref l1), some (.ref l2), some (.ref l3), some (.int l4), o5, o6] [] (n, sl, f) Q := by
  refine w_aload_n cd_201_115 rfl ?_
  refine w_aload_n cd_201_116 rfl ?_
  refine w_getfield cd_201_117 (show mt_f 12 89 = some (12, 16) by decide +kernel) h8 h9 h11 ?_
  refine w_iload_n cd_201_120 rfl ?_
  refine w_iaload cd_201_121 h13 h14 h15 ?_
  exact w_invokevirtual cd_201_122 (show mt_m 12 477 = some (179, 0) by decide +kernel) (rest := []) rfl (as := [.ref l1, .int (g12 i12)]) rfl h17 (Or.inl h18) ⟨Nat.le_of_ble_eq_true rfl, Nat.le_of_ble_eq_true rfl, Nat.le_of_ble_eq_true rfl⟩ h19
theorem b_201_125 {d : Nat} {Q : (Option Value ⊕ Nat) → mi_H → Prop} (n sl : Nat) (f : Nat → mi_C) {l1 : Nat} {l2 : Nat} {l3 : Nat} {l4 : Int32} {o5 : Option Value} {o6 : Option Value} {s7 : Int32} (h8 : ¬ s7 = (0 : Int32) → mi_W d 201 141 [some (.ref l1), some (.ref l2), some (.ref l3), some (.int l4), some (.int s7), o6] [] (n, sl, f) Q) (h9 : ¬ (¬ s7 = (0 : Int32)) → mi_W d 201 132 [some (.ref l1), some (.ref l2), some (.ref l3), some (.int l4), some (.int s7), o6] [] (n, sl, f) Q) : mi_W d 201 125 [some (.ref l1), some (.ref l2), some (.ref l3), some (.int l4), o5, o6] [.int s7] (n, sl, f) Q := by
  refine w_istore (ls' := [some (.ref l1), some (.ref l2), some (.ref l3), some (.int l4), some (.int s7), o6]) cd_201_125 (Nat.le_of_ble_eq_true rfl) rfl ?_
  refine w_iload cd_201_127 rfl ?_
  exact w_ifne cd_201_129 (by decide) h8 h9
theorem b_201_132 {d : Nat} {Q : (Option Value ⊕ Nat) → mi_H → Prop} (n sl : Nat) (f : Nat → mi_C) {l1 : Nat} {l2 : Nat} {l3 : Nat} {l4 : Int32} {l5 : Int32} {o6 : Option Value} {fs7 : List Value} {x10 : Int32} (h8 : f l1 = .inr (12, fs7)) (h9 : l1 < n) (h11 : fs7[46]? = some (.int x10)) (h12 : ¬ x10 = (0 : Int32) → mi_W d 201 141 [some (.ref l1), some (.ref l2), some (.ref l3), some (.int l4), some (.int l5), o6] [] (n, sl, f) Q) (h13 : ¬ (¬ x10 = (0 : Int32)) → mi_W d 201 139 [some (.ref l1), some (.ref l2), some (.ref l3), some (.int l4), some (.int l5), o6] [] (n, sl, f) Q) : mi_W d 201 132 [some (.ref l1), some (.ref l2), some (.ref l3), some (.int l4), some (.int l5), o6] [] (n, sl, f) Q := by
  refine w_aload_n cd_201_132 rfl ?_
  refine w_getfield cd_201_133 (show mt_f 12 441 = some (12, 46) by decide +kernel) h8 h9 h11 ?_
  exact w_ifne cd_201_136 (by decide) h12 h13
theorem b_201_139 {d : Nat} {Q : (Option Value ⊕ Nat) → mi_H → Prop} (n sl : Nat) (f : Nat → mi_C) {l1 : Nat} {l2 : Nat} {l3 : Nat} {l4 : Int32} {l5 : Int32} {o6 : Option Value} (h7 : Q (.inl (some (.int 0))) (n, sl, f)) : mi_W d 201 139 [some (.ref l1), some (.ref l2), some (.ref l3), some (.int l4), some (.int l5), o6] [] (n, sl, f) Q := by
  refine w_iconst (v := 0) cd_201_139 (by decide) ?_
  exact w_ireturn_i cd_201_140 (by decide +kernel) h7
theorem b_201_141 {d : Nat} {Q : (Option Value ⊕ Nat) → mi_H → Prop} (n sl : Nat) (f : Nat → mi_C) {l1 : Nat} {l2 : Nat} {l3 : Nat} {l4 : Int32} {l5 : Int32} {o6 : Option Value} {fs7 : List Value} (h8 : f l1 = .inr (12, fs7)) (h9 : l1 < n) (h10 : mi_W d 188 0 (mi_en 7 [.ref l1, .int 9, .int 0, .int 0, .int 0, .long 0]) [] (n, sl, f) (mi_Kc d 201 148 [some (.ref l1), some (.ref l2), some (.ref l3), some (.int l4), some (.int l5), o6] [] Q)) : mi_W (d + 1) 201 141 [some (.ref l1), some (.ref l2), some (.ref l3), some (.int l4), some (.int l5), o6] [] (n, sl, f) Q := by
  refine w_aload_n cd_201_141 rfl ?_
  refine w_bipush (v := 9) cd_201_142 (by decide) ?_
  refine w_iconst (v := 0) cd_201_144 (by decide) ?_
  refine w_iconst (v := 0) cd_201_145 (by decide) ?_
  refine w_iconst (v := 0) cd_201_146 (by decide) ?_
  refine w_lconst (lv := 0) cd_201_147 (by decide) ?_
  exact w_invokevirtual cd_201_148 (show mt_m 12 548 = some (188, 0) by decide +kernel) (rest := []) rfl (as := [.ref l1, .int 9, .int 0, .int 0, .int 0, .long 0]) rfl h8 (Or.inl h9) ⟨Nat.le_of_ble_eq_true rfl, Nat.le_of_ble_eq_true rfl, Nat.le_of_ble_eq_true rfl⟩ h10
theorem b_201_151 {d : Nat} {Q : (Option Value ⊕ Nat) → mi_H → Prop} (n sl : Nat) (f : Nat → mi_C) {l1 : Nat} {l2 : Nat} {l3 : Nat} {l4 : Int32} {l5 : Int32} {o6 : Option Value} {s7 : Int32} {fs8 : List Value} (h9 : f l1 = .inr (12, fs8)) (h10 : l1 < n) (h11 : mi_W d 200 0 (mi_en 8 [.ref l1, .ref l2, .ref l3, .int 3, .long 0, .int l4]) [] (n, sl, f) (mi_Kc d 201 158 [some (.ref l1), some (.ref l2), some (.ref l3), some (.int l4), some (.int l5), o6] [] Q)) : mi_W (d + 1) 201 151 [some (.ref l1), some (.ref l2), some (.ref l3), some (.int l4), some (.int l5), o6] [.int s7] (n, sl, f) Q := by
  refine w_pop_i cd_201_151 ?_
  refine w_aload_n cd_201_152 rfl ?_
  refine w_aload_n cd_201_153 rfl ?_
  refine w_aload_n cd_201_154 rfl ?_
  refine w_iconst (v := 3) cd_201_155 (by decide) ?_
  refine w_lconst (lv := 0) cd_201_156 (by decide) ?_
  refine w_iload_n cd_201_157 rfl ?_
  exact w_invokevirtual cd_201_158 (show mt_m 12 586 = some (200, 0) by decide +kernel) (rest := []) rfl (as := [.ref l1, .ref l2, .ref l3, .int 3, .long 0, .int l4]) rfl h9 (Or.inl h10) ⟨Nat.le_of_ble_eq_true rfl, Nat.le_of_ble_eq_true rfl, Nat.le_of_ble_eq_true rfl⟩ h11
theorem b_201_161 {d : Nat} {Q : (Option Value ⊕ Nat) → mi_H → Prop} (n sl : Nat) (f : Nat → mi_C) {l1 : Nat} {l2 : Nat} {l3 : Nat} {l4 : Int32} {l5 : Int32} {o6 : Option Value} {s7 : Int32} (h8 : Q (.inl (some (.int s7))) (n, sl, f)) : mi_W d 201 161 [some (.ref l1), some (.ref l2), some (.ref l3), some (.int l4), some (.int l5), o6] [.int s7] (n, sl, f) Q := by
  exact w_ireturn_i cd_201_161 (by decide +kernel) h8
/-! MarloweHostModel.step(II)J -/
set_option maxRecDepth 100000 in
theorem mq_202 : mt_q 202 = my_202 := rfl
set_option maxRecDepth 100000 in
theorem ci_202 : mt_inc 0 my_202.cd = true := by decide +kernel
theorem cd_202_0 : mt_cd 202 0 = some (.aload_n 0) := mt_cd_of (q := (0, .aload_n 0, 1)) mq_202 ci_202 (List.mem_of_getElem? (i := 0) rfl)
theorem cd_202_1 : mt_cd 202 1 = some (.iconst 0) := mt_cd_of (q := (1, .iconst 0, 1)) mq_202 ci_202 (List.mem_of_getElem? (i := 1) rfl)
theorem cd_202_2 : mt_cd 202 2 = some (.putfield 248) := mt_cd_of (q := (2, .putfield 248, 3)) mq_202 ci_202 (List.mem_of_getElem? (i := 2) rfl)
theorem cd_202_5 : mt_cd 202 5 = some (.aload_n 0) := mt_cd_of (q := (5, .aload_n 0, 1)) mq_202 ci_202 (List.mem_of_getElem? (i := 3) rfl)
theorem cd_202_6 : mt_cd 202 6 = some (.iload_n 2) := mt_cd_of (q := (6, .iload_n 2, 1)) mq_202 ci_202 (List.mem_of_getElem? (i := 4) rfl)
theorem cd_202_7 : mt_cd 202 7 = some (.i2l) := mt_cd_of (q := (7, .i2l, 1)) mq_202 ci_202 (List.mem_of_getElem? (i := 5) rfl)
theorem cd_202_8 : mt_cd 202 8 = some (.lconst 0) := mt_cd_of (q := (8, .lconst 0, 1)) mq_202 ci_202 (List.mem_of_getElem? (i := 6) rfl)
theorem cd_202_9 : mt_cd 202 9 = some (.ldc2_w 590) := mt_cd_of (q := (9, .ldc2_w 590, 3)) mq_202 ci_202 (List.mem_of_getElem? (i := 7) rfl)
theorem cd_202_12 : mt_cd 202 12 = some (.invokestatic 268) := mt_cd_of (q := (12, .invokestatic 268, 3)) mq_202 ci_202 (List.mem_of_getElem? (i := 8) rfl)
theorem cd_202_15 : mt_cd 202 15 = some (.ifCond .ne 7) := mt_cd_of (q := (15, .ifCond .ne 7, 3)) mq_202 ci_202 (List.mem_of_getElem? (i := 9) rfl)
theorem cd_202_18 : mt_cd 202 18 = some (.iconst 1) := mt_cd_of (q := (18, .iconst 1, 1)) mq_202 ci_202 (List.mem_of_getElem? (i := 10) rfl)
theorem cd_202_19 : mt_cd 202 19 = some (.goto 4) := mt_cd_of (q := (19, .goto 4, 3)) mq_202 ci_202 (List.mem_of_getElem? (i := 11) rfl)
theorem cd_202_22 : mt_cd 202 22 = some (.iconst 0) := mt_cd_of (q := (22, .iconst 0, 1)) mq_202 ci_202 (List.mem_of_getElem? (i := 12) rfl)
theorem cd_202_23 : mt_cd 202 23 = some (.iconst 1) := mt_cd_of (q := (23, .iconst 1, 1)) mq_202 ci_202 (List.mem_of_getElem? (i := 13) rfl)
theorem cd_202_24 : mt_cd 202 24 = some (.invokevirtual 254) := mt_cd_of (q := (24, .invokevirtual 254, 3)) mq_202 ci_202 (List.mem_of_getElem? (i := 14) rfl)
theorem cd_202_27 : mt_cd 202 27 = some (.ifCond .ne 32) := mt_cd_of (q := (27, .ifCond .ne 32, 3)) mq_202 ci_202 (List.mem_of_getElem? (i := 15) rfl)
theorem cd_202_30 : mt_cd 202 30 = some (.aload_n 0) := mt_cd_of (q := (30, .aload_n 0, 1)) mq_202 ci_202 (List.mem_of_getElem? (i := 16) rfl)
theorem cd_202_31 : mt_cd 202 31 = some (.iload_n 1) := mt_cd_of (q := (31, .iload_n 1, 1)) mq_202 ci_202 (List.mem_of_getElem? (i := 17) rfl)
theorem cd_202_32 : mt_cd 202 32 = some (.i2l) := mt_cd_of (q := (32, .i2l, 1)) mq_202 ci_202 (List.mem_of_getElem? (i := 18) rfl)
theorem cd_202_33 : mt_cd 202 33 = some (.lconst 0) := mt_cd_of (q := (33, .lconst 0, 1)) mq_202 ci_202 (List.mem_of_getElem? (i := 19) rfl)
theorem cd_202_34 : mt_cd 202 34 = some (.aload_n 0) := mt_cd_of (q := (34, .aload_n 0, 1)) mq_202 ci_202 (List.mem_of_getElem? (i := 20) rfl)
theorem cd_202_35 : mt_cd 202 35 = some (.getfield 565) := mt_cd_of (q := (35, .getfield 565, 3)) mq_202 ci_202 (List.mem_of_getElem? (i := 21) rfl)
theorem cd_202_38 : mt_cd 202 38 = some (.iconst 1) := mt_cd_of (q := (38, .iconst 1, 1)) mq_202 ci_202 (List.mem_of_getElem? (i := 22) rfl)
theorem cd_202_39 : mt_cd 202 39 = some (.isub) := mt_cd_of (q := (39, .isub, 1)) mq_202 ci_202 (List.mem_of_getElem? (i := 23) rfl)
theorem cd_202_40 : mt_cd 202 40 = some (.i2l) := mt_cd_of (q := (40, .i2l, 1)) mq_202 ci_202 (List.mem_of_getElem? (i := 24) rfl)
theorem cd_202_41 : mt_cd 202 41 = some (.invokestatic 268) := mt_cd_of (q := (41, .invokestatic 268, 3)) mq_202 ci_202 (List.mem_of_getElem? (i := 25) rfl)
theorem cd_202_44 : mt_cd 202 44 = some (.ifCond .ne 7) := mt_cd_of (q := (44, .ifCond .ne 7, 3)) mq_202 ci_202 (List.mem_of_getElem? (i := 26) rfl)
theorem cd_202_47 : mt_cd 202 47 = some (.iconst 1) := mt_cd_of (q := (47, .iconst 1, 1)) mq_202 ci_202 (List.mem_of_getElem? (i := 27) rfl)
theorem cd_202_48 : mt_cd 202 48 = some (.goto 4) := mt_cd_of (q := (48, .goto 4, 3)) mq_202 ci_202 (List.mem_of_getElem? (i := 28) rfl)
theorem cd_202_51 : mt_cd 202 51 = some (.iconst 0) := mt_cd_of (q := (51, .iconst 0, 1)) mq_202 ci_202 (List.mem_of_getElem? (i := 29) rfl)
theorem cd_202_52 : mt_cd 202 52 = some (.iconst 2) := mt_cd_of (q := (52, .iconst 2, 1)) mq_202 ci_202 (List.mem_of_getElem? (i := 30) rfl)
theorem cd_202_53 : mt_cd 202 53 = some (.invokevirtual 254) := mt_cd_of (q := (53, .invokevirtual 254, 3)) mq_202 ci_202 (List.mem_of_getElem? (i := 31) rfl)
theorem cd_202_56 : mt_cd 202 56 = some (.ifCond .eq 5) := mt_cd_of (q := (56, .ifCond .eq 5, 3)) mq_202 ci_202 (List.mem_of_getElem? (i := 32) rfl)
theorem cd_202_59 : mt_cd 202 59 = some (.lconst 0) := mt_cd_of (q := (59, .lconst 0, 1)) mq_202 ci_202 (List.mem_of_getElem? (i := 33) rfl)
theorem cd_202_60 : mt_cd 202 60 = some (.lreturn) := mt_cd_of (q := (60, .lreturn, 1)) mq_202 ci_202 (List.mem_of_getElem? (i := 34) rfl)
theorem cd_202_61 : mt_cd 202 61 = some (.iload_n 2) := mt_cd_of (q := (61, .iload_n 2, 1)) mq_202 ci_202 (List.mem_of_getElem? (i := 35) rfl)
theorem cd_202_62 : mt_cd 202 62 = some (.ifCond .ne 13) := mt_cd_of (q := (62, .ifCond .ne 13, 3)) mq_202 ci_202 (List.mem_of_getElem? (i := 36) rfl)
theorem cd_202_65 : mt_cd 202 65 = some (.aload_n 0) := mt_cd_of (q := (65, .aload_n 0, 1)) mq_202 ci_202 (List.mem_of_getElem? (i := 37) rfl)
theorem cd_202_66 : mt_cd 202 66 = some (.getfield 217) := mt_cd_of (q := (66, .getfield 217, 3)) mq_202 ci_202 (List.mem_of_getElem? (i := 38) rfl)
theorem cd_202_69 : mt_cd 202 69 = some (.iload_n 1) := mt_cd_of (q := (69, .iload_n 1, 1)) mq_202 ci_202 (List.mem_of_getElem? (i := 39) rfl)
theorem cd_202_70 : mt_cd 202 70 = some (.iaload) := mt_cd_of (q := (70, .iaload, 1)) mq_202 ci_202 (List.mem_of_getElem? (i := 40) rfl)
theorem cd_202_71 : mt_cd 202 71 = some (.i2l) := mt_cd_of (q := (71, .i2l, 1)) mq_202 ci_202 (List.mem_of_getElem? (i := 41) rfl)
theorem cd_202_72 : mt_cd 202 72 = some (.goto 24) := mt_cd_of (q := (72, .goto 24, 3)) mq_202 ci_202 (List.mem_of_getElem? (i := 42) rfl)
theorem cd_202_75 : mt_cd 202 75 = some (.iload_n 2) := mt_cd_of (q := (75, .iload_n 2, 1)) mq_202 ci_202 (List.mem_of_getElem? (i := 43) rfl)
theorem cd_202_76 : mt_cd 202 76 = some (.iconst 1) := mt_cd_of (q := (76, .iconst 1, 1)) mq_202 ci_202 (List.mem_of_getElem? (i := 44) rfl)
theorem cd_202_77 : mt_cd 202 77 = some (.if_icmp .ne 12) := mt_cd_of (q := (77, .if_icmp .ne 12, 3)) mq_202 ci_202 (List.mem_of_getElem? (i := 45) rfl)
theorem cd_202_80 : mt_cd 202 80 = some (.aload_n 0) := mt_cd_of (q := (80, .aload_n 0, 1)) mq_202 ci_202 (List.mem_of_getElem? (i := 46) rfl)
theorem cd_202_81 : mt_cd 202 81 = some (.getfield 226) := mt_cd_of (q := (81, .getfield 226, 3)) mq_202 ci_202 (List.mem_of_getElem? (i := 47) rfl)
theorem cd_202_84 : mt_cd 202 84 = some (.iload_n 1) := mt_cd_of (q := (84, .iload_n 1, 1)) mq_202 ci_202 (List.mem_of_getElem? (i := 48) rfl)
theorem cd_202_85 : mt_cd 202 85 = some (.laload) := mt_cd_of (q := (85, .laload, 1)) mq_202 ci_202 (List.mem_of_getElem? (i := 49) rfl)
theorem cd_202_86 : mt_cd 202 86 = some (.goto 10) := mt_cd_of (q := (86, .goto 10, 3)) mq_202 ci_202 (List.mem_of_getElem? (i := 50) rfl)
theorem cd_202_89 : mt_cd 202 89 = some (.aload_n 0) := mt_cd_of (q := (89, .aload_n 0, 1)) mq_202 ci_202 (List.mem_of_getElem? (i := 51) rfl)
theorem cd_202_90 : mt_cd 202 90 = some (.getfield 220) := mt_cd_of (q := (90, .getfield 220, 3)) mq_202 ci_202 (List.mem_of_getElem? (i := 52) rfl)
theorem cd_202_93 : mt_cd 202 93 = some (.iload_n 1) := mt_cd_of (q := (93, .iload_n 1, 1)) mq_202 ci_202 (List.mem_of_getElem? (i := 53) rfl)
theorem cd_202_94 : mt_cd 202 94 = some (.iaload) := mt_cd_of (q := (94, .iaload, 1)) mq_202 ci_202 (List.mem_of_getElem? (i := 54) rfl)
theorem cd_202_95 : mt_cd 202 95 = some (.i2l) := mt_cd_of (q := (95, .i2l, 1)) mq_202 ci_202 (List.mem_of_getElem? (i := 55) rfl)
theorem cd_202_96 : mt_cd 202 96 = some (.lreturn) := mt_cd_of (q := (96, .lreturn, 1)) mq_202 ci_202 (List.mem_of_getElem? (i := 56) rfl)
theorem b_202_0 {d : Nat} {Q : (Option Value ⊕ Nat) → mi_H → Prop} (n sl : Nat) (f : Nat → mi_C) {l1 : Nat} {l2 : Int32} {l3 : Int32} {fs4 : List Value} (h5 : f l1 = .inr (12, fs4)) (h6 : l1 < n) (h7 : 0 < fs4.length) (h8 : mi_W d 142 0 (mi_en 6 [.long ((l3 : Int32).toInt64), .long 0, .long 2]) [] (n, sl, (va_up f l1 (.inr (12, fs4.set 0 (.int 0))))) (mi_Kc d 202 12 [some (.ref l1), some (.int l2), some (.int l3)] [.ref l1] Q)) : mi_W (d + 1) 202 0 [some (.ref l1), some (.int l2), some (.int l3)] [] (n, sl, f) Q := by
  refine w_aload_n cd_202_0 rfl ?_
  refine w_iconst (v := 0) cd_202_1 (by decide) ?_
  refine w_putfield (w := .int 0) cd_202_2 (show mt_f 12 248 = some (12, 0) by decide +kernel) h5 h6 ⟨h7, rfl, Or.inl (by decide)⟩ ?_
  refine w_aload_n cd_202_5 rfl ?_
  refine w_iload_n cd_202_6 rfl ?_
  refine w_i2l cd_202_7 ?_
  refine w_lconst (lv := 0) cd_202_8 (by decide) ?_
  refine w_ldc2_w (lv := 2) cd_202_9 (by decide +kernel) ?_
  exact w_invokestatic cd_202_12 (show mt_m 12 268 = some (142, 4) by decide +kernel) (by decide) (rest := [.ref l1]) rfl (as := [.long ((l3 : Int32).toInt64), .long 0, .long 2]) rfl ⟨Nat.le_of_ble_eq_true rfl, Nat.le_of_ble_eq_true rfl, Nat.le_of_ble_eq_true rfl⟩ h8
theorem b_202_15 {d : Nat} {Q : (Option Value ⊕ Nat) → mi_H → Prop} (n sl : Nat) (f : Nat → mi_C) {l1 : Nat} {l2 : Int32} {l3 : Int32} {s4 : Int32} {s5 : Nat} (h6 : ¬ s4 = (0 : Int32) → mi_W d 202 22 [some (.ref l1), some (.int l2), some (.int l3)] [.ref s5] (n, sl, f) Q) (h7 : ¬ (¬ s4 = (0 : Int32)) → mi_W d 202 18 [some (.ref l1), some (.int l2), some (.int l3)] [.ref s5] (n, sl, f) Q) : mi_W d 202 15 [some (.ref l1), some (.int l2), some (.int l3)] [.int s4, .ref s5] (n, sl, f) Q := by
  exact w_ifne cd_202_15 (by decide) h6 h7
theorem b_202_18 {d : Nat} {Q : (Option Value ⊕ Nat) → mi_H → Prop} (n sl : Nat) (f : Nat → mi_C) {l1 : Nat} {l2 : Int32} {l3 : Int32} {s4 : Nat} (h5 : mi_W d 202 23 [some (.ref l1), some (.int l2), some (.int l3)] [.int 1, .ref s4] (n, sl, f) Q) : mi_W d 202 18 [some (.ref l1), some (.int l2), some (.int l3)] [.ref s4] (n, sl, f) Q := by
  refine w_iconst (v := 1) cd_202_18 (by decide) ?_
  exact w_goto cd_202_19 (by decide) h5
theorem b_202_22 {d : Nat} {Q : (Option Value ⊕ Nat) → mi_H → Prop} (n sl : Nat) (f : Nat → mi_C) {l1 : Nat} {l2 : Int32} {l3 : Int32} {s4 : Nat} (h5 : mi_W d 202 23 [some (.ref l1), some (.int l2), some (.int l3)] [.int 0, .ref s4] (n, sl, f) Q) : mi_W d 202 22 [some (.ref l1), some (.int l2), some (.int l3)] [.ref s4] (n, sl, f) Q := by
  refine w_iconst (v := 0) cd_202_22 (by decide) ?_
  exact h5
theorem b_202_23 {d : Nat} {Q : (Option Value ⊕ Nat) → mi_H → Prop} (n sl : Nat) (f : Nat → mi_C) {l1 : Nat} {l2 : Int32} {l3 : Int32} {s4 : Int32} {s5 : Nat} {fs6 : List Value} (h7 : f s5 = .inr (12, fs6)) (h8 : s5 < n) (h9 : mi_W d 140 0 (mi_en 3 [.ref s5, .int s4, .int 1]) [] (n, sl, f) (mi_Kc d 202 24 [some (.ref l1), some (.int l2), some (.int l3)] [] Q)) : mi_W (d + 1) 202 23 [some (.ref l1), some (.int l2), some (.int l3)] [.int s4, .ref s5] (n, sl, f) Q := by
  refine w_iconst (v := 1) cd_202_23 (by decide) ?_
  exact w_invokevirtual cd_202_24 (show mt_m 12 254 = some (140, 0) by decide +kernel) (rest := []) rfl (as := [.ref s5, .int s4, .int 1]) rfl h7 (Or.inl h8) ⟨Nat.le_of_ble_eq_true rfl, Nat.le_of_ble_eq_true rfl, Nat.le_of_ble_eq_true rfl⟩ h9
theorem b_202_27 {d : Nat} {Q : (Option Value ⊕ Nat) → mi_H → Prop} (n sl : Nat) (f : Nat → mi_C) {l1 : Nat} {l2 : Int32} {l3 : Int32} {s4 : Int32} (h5 : ¬ s4 = (0 : Int32) → mi_W d 202 59 [some (.ref l1), some (.int l2), some (.int l3)] [] (n, sl, f) Q) (h6 : ¬ (¬ s4 = (0 : Int32)) → mi_W d 202 30 [some (.ref l1), some (.int l2), some (.int l3)] [] (n, sl, f) Q) : mi_W d 202 27 [some (.ref l1), some (.int l2), some (.int l3)] [.int s4] (n, sl, f) Q := by
  exact w_ifne cd_202_27 (by decide) h5 h6
theorem b_202_30 {d : Nat} {Q : (Option Value ⊕ Nat) → mi_H → Prop} (n sl : Nat) (f : Nat → mi_C) {l1 : Nat} {l2 : Int32} {l3 : Int32} {fs4 : List Value} {x7 : Int32} (h5 : f l1 = .inr (12, fs4)) (h6 : l1 < n) (h8 : fs4[75]? = some (.int x7)) (h9 : mi_W d 142 0 (mi_en 6 [.long ((l2 : Int32).toInt64), .long 0, .long (((x7 - 1) : Int32).toInt64)]) [] (n, sl, f) (mi_Kc d 202 41 [some (.ref l1), some (.int l2), some (.int l3)] [.ref l1] Q)) : mi_W (d + 1) 202 30 [some (.ref l1), some (.int l2), some (.int l3)] [] (n, sl, f) Q := by
  refine w_aload_n cd_202_30 rfl ?_
  refine w_iload_n cd_202_31 rfl ?_
  refine w_i2l cd_202_32 ?_
  refine w_lconst (lv := 0) cd_202_33 (by decide) ?_
  refine w_aload_n cd_202_34 rfl ?_
  refine w_getfield cd_202_35 (show mt_f 12 565 = some (12, 75) by decide +kernel) h5 h6 h8 ?_
  refine w_iconst (v := 1) cd_202_38 (by decide) ?_
  refine w_isub cd_202_39 ?_
  refine w_i2l cd_202_40 ?_
  exact w_invokestatic cd_202_41 (show mt_m 12 268 = some (142, 4) by decide +kernel) (by decide) (rest := [.ref l1]) rfl (as := [.long ((l2 : Int32).toInt64), .long 0, .long (((x7 - 1) : Int32).toInt64)]) rfl ⟨Nat.le_of_ble_eq_true rfl, Nat.le_of_ble_eq_true rfl, Nat.le_of_ble_eq_true rfl⟩ h9
theorem b_202_44 {d : Nat} {Q : (Option Value ⊕ Nat) → mi_H → Prop} (n sl : Nat) (f : Nat → mi_C) {l1 : Nat} {l2 : Int32} {l3 : Int32} {s4 : Int32} {s5 : Nat} (h6 : ¬ s4 = (0 : Int32) → mi_W d 202 51 [some (.ref l1), some (.int l2), some (.int l3)] [.ref s5] (n, sl, f) Q) (h7 : ¬ (¬ s4 = (0 : Int32)) → mi_W d 202 47 [some (.ref l1), some (.int l2), some (.int l3)] [.ref s5] (n, sl, f) Q) : mi_W d 202 44 [some (.ref l1), some (.int l2), some (.int l3)] [.int s4, .ref s5] (n, sl, f) Q := by
  exact w_ifne cd_202_44 (by decide) h6 h7
theorem b_202_47 {d : Nat} {Q : (Option Value ⊕ Nat) → mi_H → Prop} (n sl : Nat) (f : Nat → mi_C) {l1 : Nat} {l2 : Int32} {l3 : Int32} {s4 : Nat} (h5 : mi_W d 202 52 [some (.ref l1), some (.int l2), some (.int l3)] [.int 1, .ref s4] (n, sl, f) Q) : mi_W d 202 47 [some (.ref l1), some (.int l2), some (.int l3)] [.ref s4] (n, sl, f) Q := by
  refine w_iconst (v := 1) cd_202_47 (by decide) ?_
  exact w_goto cd_202_48 (by decide) h5
theorem b_202_51 {d : Nat} {Q : (Option Value ⊕ Nat) → mi_H → Prop} (n sl : Nat) (f : Nat → mi_C) {l1 : Nat} {l2 : Int32} {l3 : Int32} {s4 : Nat} (h5 : mi_W d 202 52 [some (.ref l1), some (.int l2), some (.int l3)] [.int 0, .ref s4] (n, sl, f) Q) : mi_W d 202 51 [some (.ref l1), some (.int l2), some (.int l3)] [.ref s4] (n, sl, f) Q := by
  refine w_iconst (v := 0) cd_202_51 (by decide) ?_
  exact h5
theorem b_202_52 {d : Nat} {Q : (Option Value ⊕ Nat) → mi_H → Prop} (n sl : Nat) (f : Nat → mi_C) {l1 : Nat} {l2 : Int32} {l3 : Int32} {s4 : Int32} {s5 : Nat} {fs6 : List Value} (h7 : f s5 = .inr (12, fs6)) (h8 : s5 < n) (h9 : mi_W d 140 0 (mi_en 3 [.ref s5, .int s4, .int 2]) [] (n, sl, f) (mi_Kc d 202 53 [some (.ref l1), some (.int l2), some (.int l3)] [] Q)) : mi_W (d + 1) 202 52 [some (.ref l1), some (.int l2), some (.int l3)] [.int s4, .ref s5] (n, sl, f) Q := by
  refine w_iconst (v := 2) cd_202_52 (by decide) ?_
  exact w_invokevirtual cd_202_53 (show mt_m 12 254 = some (140, 0) by decide +kernel) (rest := []) rfl (as := [.ref s5, .int s4, .int 2]) rfl h7 (Or.inl h8) ⟨Nat.le_of_ble_eq_true rfl, Nat.le_of_ble_eq_true rfl, Nat.le_of_ble_eq_true rfl⟩ h9
theorem b_202_56 {d : Nat} {Q : (Option Value ⊕ Nat) → mi_H → Prop} (n sl : Nat) (f : Nat → mi_C) {l1 : Nat} {l2 : Int32} {l3 : Int32} {s4 : Int32} (h5 : s4 = (0 : Int32) → mi_W d 202 61 [some (.ref l1), some (.int l2), some (.int l3)] [] (n, sl, f) Q) (h6 : ¬ (s4 = (0 : Int32)) → mi_W d 202 59 [some (.ref l1), some (.int l2), some (.int l3)] [] (n, sl, f) Q) : mi_W d 202 56 [some (.ref l1), some (.int l2), some (.int l3)] [.int s4] (n, sl, f) Q := by
  exact w_ifeq cd_202_56 (by decide) h5 h6
theorem b_202_59 {d : Nat} {Q : (Option Value ⊕ Nat) → mi_H → Prop} (n sl : Nat) (f : Nat → mi_C) {l1 : Nat} {l2 : Int32} {l3 : Int32} (h4 : Q (.inl (some (.long 0))) (n, sl, f)) : mi_W d 202 59 [some (.ref l1), some (.int l2), some (.int l3)] [] (n, sl, f) Q := by
  refine w_lconst (lv := 0) cd_202_59 (by decide) ?_
  exact w_lreturn cd_202_60 (by decide +kernel) h4
theorem b_202_61 {d : Nat} {Q : (Option Value ⊕ Nat) → mi_H → Prop} (n sl : Nat) (f : Nat → mi_C) {l1 : Nat} {l2 : Int32} {l3 : Int32} (h4 : ¬ l3 = (0 : Int32) → mi_W d 202 75 [some (.ref l1), some (.int l2), some (.int l3)] [] (n, sl, f) Q) (h5 : ¬ (¬ l3 = (0 : Int32)) → mi_W d 202 65 [some (.ref l1), some (.int l2), some (.int l3)] [] (n, sl, f) Q) : mi_W d 202 61 [some (.ref l1), some (.int l2), some (.int l3)] [] (n, sl, f) Q := by
  refine w_iload_n cd_202_61 rfl ?_
  exact w_ifne cd_202_62 (by decide) h4 h5
theorem b_202_65 {d : Nat} {Q : (Option Value ⊕ Nat) → mi_H → Prop} (n sl : Nat) (f : Nat → mi_C) {l1 : Nat} {l2 : Int32} {l3 : Int32} {fs4 : List Value} {x7 : Nat} (m9 i9 : Nat) (g9 : Nat → Int32) (h5 : f l1 = .inr (12, fs4)) (h6 : l1 < n) (h8 : fs4[78]? = some (.ref x7)) (h10 : f x7 = .inl (0, m9, .inl g9)) (h11 : x7 < n ∨ x7 = mi_SC) (h12 : mi_ix l2 m9 i9) (h13 : mi_W d 202 96 [some (.ref l1), some (.int l2), some (.int l3)] [.long (((g9 i9) : Int32).toInt64)] (n, sl, f) Q) : mi_W d 202 65 [some (.ref l1), some (.int l2), some (.int l3)] [] (n, sl, f) Q := by
  refine w_aload_n cd_202_65 rfl ?_
  refine w_getfield cd_202_66 (show mt_f 12 217 = some (12, 78) by decide +kernel) h5 h6 h8 ?_
  refine w_iload_n cd_202_69 rfl ?_
  refine w_iaload cd_202_70 h10 h11 h12 ?_
  refine w_i2l cd_202_71 ?_
  exact w_goto cd_202_72 (by decide) h13
theorem b_202_75 {d : Nat} {Q : (Option Value ⊕ Nat) → mi_H → Prop} (n sl : Nat) (f : Nat → mi_C) {l1 : Nat} {l2 : Int32} {l3 : Int32} (h4 : ¬ l3 = 1 → mi_W d 202 89 [some (.ref l1), some (.int l2), some (.int l3)] [] (n, sl, f) Q) (h5 : ¬ (¬ l3 = 1) → mi_W d 202 80 [some (.ref l1), some (.int l2), some (.int l3)] [] (n, sl, f) Q) : mi_W d 202 75 [some (.ref l1), some (.int l2), some (.int l3)] [] (n, sl, f) Q := by
  refine w_iload_n cd_202_75 rfl ?_
  refine w_iconst (v := 1) cd_202_76 (by decide) ?_
  exact w_if_icmpne cd_202_77 (by decide) h4 h5
theorem b_202_80 {d : Nat} {Q : (Option Value ⊕ Nat) → mi_H → Prop} (n sl : Nat) (f : Nat → mi_C) {l1 : Nat} {l2 : Int32} {l3 : Int32} {fs4 : List Value} {x7 : Nat} (m9 i9 : Nat) (g9 : Nat → Int64) (h5 : f l1 = .inr (12, fs4)) (h6 : l1 < n) (h8 : fs4[81]? = some (.ref x7)) (h10 : f x7 = .inl (3, m9, .inr (.inl g9))) (h11 : x7 < n) (h12 : mi_ix l2 m9 i9) (h13 : mi_W d 202 96 [some (.ref l1), some (.int l2), some (.int l3)] [.long (g9 i9)] (n, sl, f) Q) : mi_W d 202 80 [some (.ref l1), some (.int l2), some (.int l3)] [] (n, sl, f) Q := by
  refine w_aload_n cd_202_80 rfl ?_
  refine w_getfield cd_202_81 (show mt_f 12 226 = some (12, 81) by decide +kernel) h5 h6 h8 ?_
  refine w_iload_n cd_202_84 rfl ?_
  refine w_laload cd_202_85 h10 h11 h12 ?_
  exact w_goto cd_202_86 (by decide) h13
theorem b_202_89 {d : Nat} {Q : (Option Value ⊕ Nat) → mi_H → Prop} (n sl : Nat) (f : Nat → mi_C) {l1 : Nat} {l2 : Int32} {l3 : Int32} {fs4 : List Value} {x7 : Nat} (m9 i9 : Nat) (g9 : Nat → Int32) (h5 : f l1 = .inr (12, fs4)) (h6 : l1 < n) (h8 : fs4[79]? = some (.ref x7)) (h10 : f x7 = .inl (0, m9, .inl g9)) (h11 : x7 < n ∨ x7 = mi_SC) (h12 : mi_ix l2 m9 i9) (h13 : mi_W d 202 96 [some (.ref l1), some (.int l2), some (.int l3)] [.long (((g9 i9) : Int32).toInt64)] (n, sl, f) Q) : mi_W d 202 89 [some (.ref l1), some (.int l2), some (.int l3)] [] (n, sl, f) Q := by
  refine w_aload_n cd_202_89 rfl ?_
  refine w_getfield cd_202_90 (show mt_f 12 220 = some (12, 79) by decide +kernel) h5 h6 h8 ?_
  refine w_iload_n cd_202_93 rfl ?_
  refine w_iaload cd_202_94 h10 h11 h12 ?_
  refine w_i2l cd_202_95 ?_
  exact h13
theorem b_202_96 {d : Nat} {Q : (Option Value ⊕ Nat) → mi_H → Prop} (n sl : Nat) (f : Nat → mi_C) {l1 : Nat} {l2 : Int32} {l3 : Int32} {s4 : Int64} (h5 : Q (.inl (some (.long s4))) (n, sl, f)) : mi_W d 202 96 [some (.ref l1), some (.int l2), some (.int l3)] [.long s4] (n, sl, f) Q := by
  exact w_lreturn cd_202_96 (by decide +kernel) h5
/-! MarloweHostModel.count(I)I -/
set_option maxRecDepth 100000 in
theorem mq_203 : mt_q 203 = my_203 := rfl
set_option maxRecDepth 100000 in
theorem ci_203 : mt_inc 0 my_203.cd = true := by decide +kernel
theorem cd_203_0 : mt_cd 203 0 = some (.aload_n 0) := mt_cd_of (q := (0, .aload_n 0, 1)) mq_203 ci_203 (List.mem_of_getElem? (i := 0) rfl)
theorem cd_203_1 : mt_cd 203 1 = some (.iconst 0) := mt_cd_of (q := (1, .iconst 0, 1)) mq_203 ci_203 (List.mem_of_getElem? (i := 1) rfl)
theorem cd_203_2 : mt_cd 203 2 = some (.putfield 248) := mt_cd_of (q := (2, .putfield 248, 3)) mq_203 ci_203 (List.mem_of_getElem? (i := 2) rfl)
theorem cd_203_5 : mt_cd 203 5 = some (.aload_n 0) := mt_cd_of (q := (5, .aload_n 0, 1)) mq_203 ci_203 (List.mem_of_getElem? (i := 3) rfl)
theorem cd_203_6 : mt_cd 203 6 = some (.iload_n 1) := mt_cd_of (q := (6, .iload_n 1, 1)) mq_203 ci_203 (List.mem_of_getElem? (i := 4) rfl)
theorem cd_203_7 : mt_cd 203 7 = some (.i2l) := mt_cd_of (q := (7, .i2l, 1)) mq_203 ci_203 (List.mem_of_getElem? (i := 5) rfl)
theorem cd_203_8 : mt_cd 203 8 = some (.lconst 0) := mt_cd_of (q := (8, .lconst 0, 1)) mq_203 ci_203 (List.mem_of_getElem? (i := 6) rfl)
theorem cd_203_9 : mt_cd 203 9 = some (.ldc2_w 331) := mt_cd_of (q := (9, .ldc2_w 331, 3)) mq_203 ci_203 (List.mem_of_getElem? (i := 7) rfl)
theorem cd_203_12 : mt_cd 203 12 = some (.invokestatic 268) := mt_cd_of (q := (12, .invokestatic 268, 3)) mq_203 ci_203 (List.mem_of_getElem? (i := 8) rfl)
theorem cd_203_15 : mt_cd 203 15 = some (.ifCond .ne 7) := mt_cd_of (q := (15, .ifCond .ne 7, 3)) mq_203 ci_203 (List.mem_of_getElem? (i := 9) rfl)
theorem cd_203_18 : mt_cd 203 18 = some (.iconst 1) := mt_cd_of (q := (18, .iconst 1, 1)) mq_203 ci_203 (List.mem_of_getElem? (i := 10) rfl)
theorem cd_203_19 : mt_cd 203 19 = some (.goto 4) := mt_cd_of (q := (19, .goto 4, 3)) mq_203 ci_203 (List.mem_of_getElem? (i := 11) rfl)
theorem cd_203_22 : mt_cd 203 22 = some (.iconst 0) := mt_cd_of (q := (22, .iconst 0, 1)) mq_203 ci_203 (List.mem_of_getElem? (i := 12) rfl)
theorem cd_203_23 : mt_cd 203 23 = some (.iconst 1) := mt_cd_of (q := (23, .iconst 1, 1)) mq_203 ci_203 (List.mem_of_getElem? (i := 13) rfl)
theorem cd_203_24 : mt_cd 203 24 = some (.invokevirtual 254) := mt_cd_of (q := (24, .invokevirtual 254, 3)) mq_203 ci_203 (List.mem_of_getElem? (i := 14) rfl)
theorem cd_203_27 : mt_cd 203 27 = some (.ifCond .eq 5) := mt_cd_of (q := (27, .ifCond .eq 5, 3)) mq_203 ci_203 (List.mem_of_getElem? (i := 15) rfl)
theorem cd_203_30 : mt_cd 203 30 = some (.iconst 0) := mt_cd_of (q := (30, .iconst 0, 1)) mq_203 ci_203 (List.mem_of_getElem? (i := 16) rfl)
theorem cd_203_31 : mt_cd 203 31 = some (.ireturn) := mt_cd_of (q := (31, .ireturn, 1)) mq_203 ci_203 (List.mem_of_getElem? (i := 17) rfl)
theorem cd_203_32 : mt_cd 203 32 = some (.iload_n 1) := mt_cd_of (q := (32, .iload_n 1, 1)) mq_203 ci_203 (List.mem_of_getElem? (i := 18) rfl)
theorem cd_203_33 : mt_cd 203 33 = some (.bipush 6) := mt_cd_of (q := (33, .bipush 6, 2)) mq_203 ci_203 (List.mem_of_getElem? (i := 19) rfl)
theorem cd_203_35 : mt_cd 203 35 = some (.if_icmp .ge 20) := mt_cd_of (q := (35, .if_icmp .ge 20, 3)) mq_203 ci_203 (List.mem_of_getElem? (i := 20) rfl)
theorem cd_203_38 : mt_cd 203 38 = some (.aload_n 0) := mt_cd_of (q := (38, .aload_n 0, 1)) mq_203 ci_203 (List.mem_of_getElem? (i := 21) rfl)
theorem cd_203_39 : mt_cd 203 39 = some (.getfield 13) := mt_cd_of (q := (39, .getfield 13, 3)) mq_203 ci_203 (List.mem_of_getElem? (i := 22) rfl)
theorem cd_203_42 : mt_cd 203 42 = some (.ifCond .ge 13) := mt_cd_of (q := (42, .ifCond .ge 13, 3)) mq_203 ci_203 (List.mem_of_getElem? (i := 23) rfl)
theorem cd_203_45 : mt_cd 203 45 = some (.iload_n 1) := mt_cd_of (q := (45, .iload_n 1, 1)) mq_203 ci_203 (List.mem_of_getElem? (i := 24) rfl)
theorem cd_203_46 : mt_cd 203 46 = some (.ifCond .ne 7) := mt_cd_of (q := (46, .ifCond .ne 7, 3)) mq_203 ci_203 (List.mem_of_getElem? (i := 25) rfl)
theorem cd_203_49 : mt_cd 203 49 = some (.iconst (-1)) := mt_cd_of (q := (49, .iconst (-1), 1)) mq_203 ci_203 (List.mem_of_getElem? (i := 26) rfl)
theorem cd_203_50 : mt_cd 203 50 = some (.goto 4) := mt_cd_of (q := (50, .goto 4, 3)) mq_203 ci_203 (List.mem_of_getElem? (i := 27) rfl)
theorem cd_203_53 : mt_cd 203 53 = some (.iconst 0) := mt_cd_of (q := (53, .iconst 0, 1)) mq_203 ci_203 (List.mem_of_getElem? (i := 28) rfl)
theorem cd_203_54 : mt_cd 203 54 = some (.ireturn) := mt_cd_of (q := (54, .ireturn, 1)) mq_203 ci_203 (List.mem_of_getElem? (i := 29) rfl)
theorem cd_203_55 : mt_cd 203 55 = some (.iload_n 1) := mt_cd_of (q := (55, .iload_n 1, 1)) mq_203 ci_203 (List.mem_of_getElem? (i := 30) rfl)
theorem cd_203_56 : mt_cd 203 56 = some (.tableswitch 109 0 9 #[56, 64, 69, 74, 79, 84, 89, 94, 99, 104]) := mt_cd_of (q := (56, .tableswitch 109 0 9 #[56, 64, 69, 74, 79, 84, 89, 94, 99, 104], 56)) mq_203 ci_203 (List.mem_of_getElem? (i := 31) rfl)
theorem cd_203_112 : mt_cd 203 112 = some (.aload_n 0) := mt_cd_of (q := (112, .aload_n 0, 1)) mq_203 ci_203 (List.mem_of_getElem? (i := 32) rfl)
theorem cd_203_113 : mt_cd 203 113 = some (.getfield 147) := mt_cd_of (q := (113, .getfield 147, 3)) mq_203 ci_203 (List.mem_of_getElem? (i := 33) rfl)
theorem cd_203_116 : mt_cd 203 116 = some (.getfield 496) := mt_cd_of (q := (116, .getfield 496, 3)) mq_203 ci_203 (List.mem_of_getElem? (i := 34) rfl)
theorem cd_203_119 : mt_cd 203 119 = some (.ireturn) := mt_cd_of (q := (119, .ireturn, 1)) mq_203 ci_203 (List.mem_of_getElem? (i := 35) rfl)
theorem cd_203_120 : mt_cd 203 120 = some (.aload_n 0) := mt_cd_of (q := (120, .aload_n 0, 1)) mq_203 ci_203 (List.mem_of_getElem? (i := 36) rfl)
theorem cd_203_121 : mt_cd 203 121 = some (.getfield 282) := mt_cd_of (q := (121, .getfield 282, 3)) mq_203 ci_203 (List.mem_of_getElem? (i := 37) rfl)
theorem cd_203_124 : mt_cd 203 124 = some (.ireturn) := mt_cd_of (q := (124, .ireturn, 1)) mq_203 ci_203 (List.mem_of_getElem? (i := 38) rfl)
theorem cd_203_125 : mt_cd 203 125 = some (.aload_n 0) := mt_cd_of (q := (125, .aload_n 0, 1)) mq_203 ci_203 (List.mem_of_getElem? (i := 39) rfl)
theorem cd_203_126 : mt_cd 203 126 = some (.getfield 343) := mt_cd_of (q := (126, .getfield 343, 3)) mq_203 ci_203 (List.mem_of_getElem? (i := 40) rfl)
theorem cd_203_129 : mt_cd 203 129 = some (.ireturn) := mt_cd_of (q := (129, .ireturn, 1)) mq_203 ci_203 (List.mem_of_getElem? (i := 41) rfl)
theorem cd_203_130 : mt_cd 203 130 = some (.aload_n 0) := mt_cd_of (q := (130, .aload_n 0, 1)) mq_203 ci_203 (List.mem_of_getElem? (i := 42) rfl)
theorem cd_203_131 : mt_cd 203 131 = some (.getfield 346) := mt_cd_of (q := (131, .getfield 346, 3)) mq_203 ci_203 (List.mem_of_getElem? (i := 43) rfl)
theorem cd_203_134 : mt_cd 203 134 = some (.ireturn) := mt_cd_of (q := (134, .ireturn, 1)) mq_203 ci_203 (List.mem_of_getElem? (i := 44) rfl)
theorem cd_203_135 : mt_cd 203 135 = some (.aload_n 0) := mt_cd_of (q := (135, .aload_n 0, 1)) mq_203 ci_203 (List.mem_of_getElem? (i := 45) rfl)
theorem cd_203_136 : mt_cd 203 136 = some (.getfield 349) := mt_cd_of (q := (136, .getfield 349, 3)) mq_203 ci_203 (List.mem_of_getElem? (i := 46) rfl)
theorem cd_203_139 : mt_cd 203 139 = some (.ireturn) := mt_cd_of (q := (139, .ireturn, 1)) mq_203 ci_203 (List.mem_of_getElem? (i := 47) rfl)
theorem cd_203_140 : mt_cd 203 140 = some (.aload_n 0) := mt_cd_of (q := (140, .aload_n 0, 1)) mq_203 ci_203 (List.mem_of_getElem? (i := 48) rfl)
theorem cd_203_141 : mt_cd 203 141 = some (.getfield 352) := mt_cd_of (q := (141, .getfield 352, 3)) mq_203 ci_203 (List.mem_of_getElem? (i := 49) rfl)
theorem cd_203_144 : mt_cd 203 144 = some (.ireturn) := mt_cd_of (q := (144, .ireturn, 1)) mq_203 ci_203 (List.mem_of_getElem? (i := 50) rfl)
theorem cd_203_145 : mt_cd 203 145 = some (.aload_n 0) := mt_cd_of (q := (145, .aload_n 0, 1)) mq_203 ci_203 (List.mem_of_getElem? (i := 51) rfl)
theorem cd_203_146 : mt_cd 203 146 = some (.getfield 258) := mt_cd_of (q := (146, .getfield 258, 3)) mq_203 ci_203 (List.mem_of_getElem? (i := 52) rfl)
theorem cd_203_149 : mt_cd 203 149 = some (.ireturn) := mt_cd_of (q := (149, .ireturn, 1)) mq_203 ci_203 (List.mem_of_getElem? (i := 53) rfl)
theorem cd_203_150 : mt_cd 203 150 = some (.aload_n 0) := mt_cd_of (q := (150, .aload_n 0, 1)) mq_203 ci_203 (List.mem_of_getElem? (i := 54) rfl)
theorem cd_203_151 : mt_cd 203 151 = some (.getfield 536) := mt_cd_of (q := (151, .getfield 536, 3)) mq_203 ci_203 (List.mem_of_getElem? (i := 55) rfl)
theorem cd_203_154 : mt_cd 203 154 = some (.ireturn) := mt_cd_of (q := (154, .ireturn, 1)) mq_203 ci_203 (List.mem_of_getElem? (i := 56) rfl)
theorem cd_203_155 : mt_cd 203 155 = some (.aload_n 0) := mt_cd_of (q := (155, .aload_n 0, 1)) mq_203 ci_203 (List.mem_of_getElem? (i := 57) rfl)
theorem cd_203_156 : mt_cd 203 156 = some (.getfield 539) := mt_cd_of (q := (156, .getfield 539, 3)) mq_203 ci_203 (List.mem_of_getElem? (i := 58) rfl)
theorem cd_203_159 : mt_cd 203 159 = some (.ireturn) := mt_cd_of (q := (159, .ireturn, 1)) mq_203 ci_203 (List.mem_of_getElem? (i := 59) rfl)
theorem cd_203_160 : mt_cd 203 160 = some (.aload_n 0) := mt_cd_of (q := (160, .aload_n 0, 1)) mq_203 ci_203 (List.mem_of_getElem? (i := 60) rfl)
theorem cd_203_161 : mt_cd 203 161 = some (.getfield 562) := mt_cd_of (q := (161, .getfield 562, 3)) mq_203 ci_203 (List.mem_of_getElem? (i := 61) rfl)
theorem cd_203_164 : mt_cd 203 164 = some (.ireturn) := mt_cd_of (q := (164, .ireturn, 1)) mq_203 ci_203 (List.mem_of_getElem? (i := 62) rfl)
theorem cd_203_165 : mt_cd 203 165 = some (.aload_n 0) := mt_cd_of (q := (165, .aload_n 0, 1)) mq_203 ci_203 (List.mem_of_getElem? (i := 63) rfl)
theorem cd_203_166 : mt_cd 203 166 = some (.getfield 565) := mt_cd_of (q := (166, .getfield 565, 3)) mq_203 ci_203 (List.mem_of_getElem? (i := 64) rfl)
theorem cd_203_169 : mt_cd 203 169 = some (.ireturn) := mt_cd_of (q := (169, .ireturn, 1)) mq_203 ci_203 (List.mem_of_getElem? (i := 65) rfl)
theorem b_203_0 {d : Nat} {Q : (Option Value ⊕ Nat) → mi_H → Prop} (n sl : Nat) (f : Nat → mi_C) {l1 : Nat} {l2 : Int32} {fs3 : List Value} (h4 : f l1 = .inr (12, fs3)) (h5 : l1 < n) (h6 : 0 < fs3.length) (h7 : mi_W d 142 0 (mi_en 6 [.long ((l2 : Int32).toInt64), .long 0, .long 10]) [] (n, sl, (va_up f l1 (.inr (12, fs3.set 0 (.int 0))))) (mi_Kc d 203 12 [some (.ref l1), some (.int l2)] [.ref l1] Q)) : mi_W (d + 1) 203 0 [some (.ref l1), some (.int l2)] [] (n, sl, f) Q := by
  refine w_aload_n cd_203_0 rfl ?_
  refine w_iconst (v := 0) cd_203_1 (by decide) ?_
  refine w_putfield (w := .int 0) cd_203_2 (show mt_f 12 248 = some (12, 0) by decide +kernel) h4 h5 ⟨h6, rfl, Or.inl (by decide)⟩ ?_
  refine w_aload_n cd_203_5 rfl ?_
  refine w_iload_n cd_203_6 rfl ?_
  refine w_i2l cd_203_7 ?_
  refine w_lconst (lv := 0) cd_203_8 (by decide) ?_
  refine w_ldc2_w (lv := 10) cd_203_9 (by decide +kernel) ?_
  exact w_invokestatic cd_203_12 (show mt_m 12 268 = some (142, 4) by decide +kernel) (by decide) (rest := [.ref l1]) rfl (as := [.long ((l2 : Int32).toInt64), .long 0, .long 10]) rfl ⟨Nat.le_of_ble_eq_true rfl, Nat.le_of_ble_eq_true rfl, Nat.le_of_ble_eq_true rfl⟩ h7
theorem b_203_15 {d : Nat} {Q : (Option Value ⊕ Nat) → mi_H → Prop} (n sl : Nat) (f : Nat → mi_C) {l1 : Nat} {l2 : Int32} {s3 : Int32} {s4 : Nat} (h5 : ¬ s3 = (0 : Int32) → mi_W d 203 22 [some (.ref l1), some (.int l2)] [.ref s4] (n, sl, f) Q) (h6 : ¬ (¬ s3 = (0 : Int32)) → mi_W d 203 18 [some (.ref l1), some (.int l2)] [.ref s4] (n, sl, f) Q) : mi_W d 203 15 [some (.ref l1), some (.int l2)] [.int s3, .ref s4] (n, sl, f) Q := by
  exact w_ifne cd_203_15 (by decide) h5 h6
theorem b_203_18 {d : Nat} {Q : (Option Value ⊕ Nat) → mi_H → Prop} (n sl : Nat) (f : Nat → mi_C) {l1 : Nat} {l2 : Int32} {s3 : Nat} (h4 : mi_W d 203 23 [some (.ref l1), some (.int l2)] [.int 1, .ref s3] (n, sl, f) Q) : mi_W d 203 18 [some (.ref l1), some (.int l2)] [.ref s3] (n, sl, f) Q := by
  refine w_iconst (v := 1) cd_203_18 (by decide) ?_
  exact w_goto cd_203_19 (by decide) h4
theorem b_203_22 {d : Nat} {Q : (Option Value ⊕ Nat) → mi_H → Prop} (n sl : Nat) (f : Nat → mi_C) {l1 : Nat} {l2 : Int32} {s3 : Nat} (h4 : mi_W d 203 23 [some (.ref l1), some (.int l2)] [.int 0, .ref s3] (n, sl, f) Q) : mi_W d 203 22 [some (.ref l1), some (.int l2)] [.ref s3] (n, sl, f) Q := by
  refine w_iconst (v := 0) cd_203_22 (by decide) ?_
  exact h4
theorem b_203_23 {d : Nat} {Q : (Option Value ⊕ Nat) → mi_H → Prop} (n sl : Nat) (f : Nat → mi_C) {l1 : Nat} {l2 : Int32} {s3 : Int32} {s4 : Nat} {fs5 : List Value} (h6 : f s4 = .inr (12, fs5)) (h7 : s4 < n) (h8 : mi_W d 140 0 (mi_en 3 [.ref s4, .int s3, .int 1]) [] (n, sl, f) (mi_Kc d 203 24 [some (.ref l1), some (.int l2)] [] Q)) : mi_W (d + 1) 203 23 [some (.ref l1), some (.int l2)] [.int s3, .ref s4] (n, sl, f) Q := by
  refine w_iconst (v := 1) cd_203_23 (by decide) ?_
  exact w_invokevirtual cd_203_24 (show mt_m 12 254 = some (140, 0) by decide +kernel) (rest := []) rfl (as := [.ref s4, .int s3, .int 1]) rfl h6 (Or.inl h7) ⟨Nat.le_of_ble_eq_true rfl, Nat.le_of_ble_eq_true rfl, Nat.le_of_ble_eq_true rfl⟩ h8
theorem b_203_27 {d : Nat} {Q : (Option Value ⊕ Nat) → mi_H → Prop} (n sl : Nat) (f : Nat → mi_C) {l1 : Nat} {l2 : Int32} {s3 : Int32} (h4 : s3 = (0 : Int32) → mi_W d 203 32 [some (.ref l1), some (.int l2)] [] (n, sl, f) Q) (h5 : ¬ (s3 = (0 : Int32)) → mi_W d 203 30 [some (.ref l1), some (.int l2)] [] (n, sl, f) Q) : mi_W d 203 27 [some (.ref l1), some (.int l2)] [.int s3] (n, sl, f) Q := by
  exact w_ifeq cd_203_27 (by decide) h4 h5
theorem b_203_30 {d : Nat} {Q : (Option Value ⊕ Nat) → mi_H → Prop} (n sl : Nat) (f : Nat → mi_C) {l1 : Nat} {l2 : Int32} (h3 : Q (.inl (some (.int 0))) (n, sl, f)) : mi_W d 203 30 [some (.ref l1), some (.int l2)] [] (n, sl, f) Q := by
  refine w_iconst (v := 0) cd_203_30 (by decide) ?_
  exact w_ireturn_i cd_203_31 (by decide +kernel) h3
theorem b_203_32 {d : Nat} {Q : (Option Value ⊕ Nat) → mi_H → Prop} (n sl : Nat) (f : Nat → mi_C) {l1 : Nat} {l2 : Int32} (h3 : 6 ≤ l2 → mi_W d 203 55 [some (.ref l1), some (.int l2)] [] (n, sl, f) Q) (h4 : ¬ (6 ≤ l2) → mi_W d 203 38 [some (.ref l1), some (.int l2)] [] (n, sl, f) Q) : mi_W d 203 32 [some (.ref l1), some (.int l2)] [] (n, sl, f) Q := by
  refine w_iload_n cd_203_32 rfl ?_
  refine w_bipush (v := 6) cd_203_33 (by decide) ?_
  exact w_if_icmpge cd_203_35 (by decide) h3 h4
theorem b_203_38 {d : Nat} {Q : (Option Value ⊕ Nat) → mi_H → Prop} (n sl : Nat) (f : Nat → mi_C) {l1 : Nat} {l2 : Int32} {fs3 : List Value} {x6 : Int32} (h4 : f l1 = .inr (12, fs3)) (h5 : l1 < n) (h7 : fs3[4]? = some (.int x6)) (h8 : (0 : Int32) ≤ x6 → mi_W d 203 55 [some (.ref l1), some (.int l2)] [] (n, sl, f) Q) (h9 : ¬ ((0 : Int32) ≤ x6) → mi_W d 203 45 [some (.ref l1), some (.int l2)] [] (n, sl, f) Q) : mi_W d 203 38 [some (.ref l1), some (.int l2)] [] (n, sl, f) Q := by
  refine w_aload_n cd_203_38 rfl ?_
  refine w_getfield cd_203_39 (show mt_f 12 13 = some (12, 4) by decide +kernel) h4 h5 h7 ?_
  exact w_ifge cd_203_42 (by decide) h8 h9
theorem b_203_45 {d : Nat} {Q : (Option Value ⊕ Nat) → mi_H → Prop} (n sl : Nat) (f : Nat → mi_C) {l1 : Nat} {l2 : Int32} (h3 : ¬ l2 = (0 : Int32) → mi_W d 203 53 [some (.ref l1), some (.int l2)] [] (n, sl, f) Q) (h4 : ¬ (¬ l2 = (0 : Int32)) → mi_W d 203 49 [some (.ref l1), some (.int l2)] [] (n, sl, f) Q) : mi_W d 203 45 [some (.ref l1), some (.int l2)] [] (n, sl, f) Q := by
  refine w_iload_n cd_203_45 rfl ?_
  exact w_ifne cd_203_46 (by decide) h3 h4
theorem b_203_49 {d : Nat} {Q : (Option Value ⊕ Nat) → mi_H → Prop} (n sl : Nat) (f : Nat → mi_C) {l1 : Nat} {l2 : Int32} (h3 : mi_W d 203 54 [some (.ref l1), some (.int l2)] [.int (-1)] (n, sl, f) Q) : mi_W d 203 49 [some (.ref l1), some (.int l2)] [] (n, sl, f) Q := by
  refine w_iconst (v := (-1)) cd_203_49 (by decide) ?_
  exact w_goto cd_203_50 (by decide) h3
theorem b_203_53 {d : Nat} {Q : (Option Value ⊕ Nat) → mi_H → Prop} (n sl : Nat) (f : Nat → mi_C) {l1 : Nat} {l2 : Int32} (h3 : mi_W d 203 54 [some (.ref l1), some (.int l2)] [.int 0] (n, sl, f) Q) : mi_W d 203 53 [some (.ref l1), some (.int l2)] [] (n, sl, f) Q := by
  refine w_iconst (v := 0) cd_203_53 (by decide) ?_
  exact h3
theorem b_203_54 {d : Nat} {Q : (Option Value ⊕ Nat) → mi_H → Prop} (n sl : Nat) (f : Nat → mi_C) {l1 : Nat} {l2 : Int32} {s3 : Int32} (h4 : Q (.inl (some (.int s3))) (n, sl, f)) : mi_W d 203 54 [some (.ref l1), some (.int l2)] [.int s3] (n, sl, f) Q := by
  exact w_ireturn_i cd_203_54 (by decide +kernel) h4
theorem b_203_55 {d : Nat} {Q : (Option Value ⊕ Nat) → mi_H → Prop} (n sl : Nat) (f : Nat → mi_C) {l1 : Nat} {l2 : Int32} {t3 : Nat} (h4 : mi_ts 56 109 0 9 #[56, 64, 69, 74, 79, 84, 89, 94, 99, 104] (l2 : Int32).toInt = some t3) (h5 : mi_W d 203 t3 [some (.ref l1), some (.int l2)] [] (n, sl, f) Q) : mi_W d 203 55 [some (.ref l1), some (.int l2)] [] (n, sl, f) Q := by
  refine w_iload_n cd_203_55 rfl ?_
  exact w_tableswitch cd_203_56 h4 h5
theorem b_203_112 {d : Nat} {Q : (Option Value ⊕ Nat) → mi_H → Prop} (n sl : Nat) (f : Nat → mi_C) {l1 : Nat} {l2 : Int32} {fs3 : List Value} {x6 : Nat} {fs8 : List Value} {x11 : Int32} (h4 : f l1 = .inr (12, fs3)) (h5 : l1 < n) (h7 : fs3[41]? = some (.ref x6)) (h9 : f x6 = .inr (13, fs8)) (h10 : x6 < n) (h12 : fs8[0]? = some (.int x11)) (h13 : Q (.inl (some (.int x11))) (n, sl, f)) : mi_W d 203 112 [some (.ref l1), some (.int l2)] [] (n, sl, f) Q := by
  refine w_aload_n cd_203_112 rfl ?_
  refine w_getfield cd_203_113 (show mt_f 12 147 = some (12, 41) by decide +kernel) h4 h5 h7 ?_
  refine w_getfield cd_203_116 (show mt_f 12 496 = some (13, 0) by decide +kernel) h9 h10 h12 ?_
  exact w_ireturn_i cd_203_119 (by decide +kernel) h13
theorem b_203_120 {d : Nat} {Q : (Option Value ⊕ Nat) → mi_H → Prop} (n sl : Nat) (f : Nat → mi_C) {l1 : Nat} {l2 : Int32} {fs3 : List Value} {x6 : Int32} (h4 : f l1 = .inr (12, fs3)) (h5 : l1 < n) (h7 : fs3[21]? = some (.int x6)) (h8 : Q (.inl (some (.int x6))) (n, sl, f)) : mi_W d 203 120 [some (.ref l1), some (.int l2)] [] (n, sl, f) Q := by
  refine w_aload_n cd_203_120 rfl ?_
  refine w_getfield cd_203_121 (show mt_f 12 282 = some (12, 21) by decide +kernel) h4 h5 h7 ?_
  exact w_ireturn_i cd_203_124 (by decide +kernel) h8
theorem b_203_125 {d : Nat} {Q : (Option Value ⊕ Nat) → mi_H → Prop} (n sl : Nat) (f : Nat → mi_C) {l1 : Nat} {l2 : Int32} {fs3 : List Value} {x6 : Int32} (h4 : f l1 = .inr (12, fs3)) (h5 : l1 < n) (h7 : fs3[24]? = some (.int x6)) (h8 : Q (.inl (some (.int x6))) (n, sl, f)) : mi_W d 203 125 [some (.ref l1), some (.int l2)] [] (n, sl, f) Q := by
  refine w_aload_n cd_203_125 rfl ?_
  refine w_getfield cd_203_126 (show mt_f 12 343 = some (12, 24) by decide +kernel) h4 h5 h7 ?_
  exact w_ireturn_i cd_203_129 (by decide +kernel) h8
theorem b_203_130 {d : Nat} {Q : (Option Value ⊕ Nat) → mi_H → Prop} (n sl : Nat) (f : Nat → mi_C) {l1 : Nat} {l2 : Int32} {fs3 : List Value} {x6 : Int32} (h4 : f l1 = .inr (12, fs3)) (h5 : l1 < n) (h7 : fs3[25]? = some (.int x6)) (h8 : Q (.inl (some (.int x6))) (n, sl, f)) : mi_W d 203 130 [some (.ref l1), some (.int l2)] [] (n, sl, f) Q := by
  refine w_aload_n cd_203_130 rfl ?_
  refine w_getfield cd_203_131 (show mt_f 12 346 = some (12, 25) by decide +kernel) h4 h5 h7 ?_
  exact w_ireturn_i cd_203_134 (by decide +kernel) h8
theorem b_203_135 {d : Nat} {Q : (Option Value ⊕ Nat) → mi_H → Prop} (n sl : Nat) (f : Nat → mi_C) {l1 : Nat} {l2 : Int32} {fs3 : List Value} {x6 : Int32} (h4 : f l1 = .inr (12, fs3)) (h5 : l1 < n) (h7 : fs3[26]? = some (.int x6)) (h8 : Q (.inl (some (.int x6))) (n, sl, f)) : mi_W d 203 135 [some (.ref l1), some (.int l2)] [] (n, sl, f) Q := by
  refine w_aload_n cd_203_135 rfl ?_
  refine w_getfield cd_203_136 (show mt_f 12 349 = some (12, 26) by decide +kernel) h4 h5 h7 ?_
  exact w_ireturn_i cd_203_139 (by decide +kernel) h8
theorem b_203_140 {d : Nat} {Q : (Option Value ⊕ Nat) → mi_H → Prop} (n sl : Nat) (f : Nat → mi_C) {l1 : Nat} {l2 : Int32} {fs3 : List Value} {x6 : Int32} (h4 : f l1 = .inr (12, fs3)) (h5 : l1 < n) (h7 : fs3[27]? = some (.int x6)) (h8 : Q (.inl (some (.int x6))) (n, sl, f)) : mi_W d 203 140 [some (.ref l1), some (.int l2)] [] (n, sl, f) Q := by
  refine w_aload_n cd_203_140 rfl ?_
  refine w_getfield cd_203_141 (show mt_f 12 352 = some (12, 27) by decide +kernel) h4 h5 h7 ?_
  exact w_ireturn_i cd_203_144 (by decide +kernel) h8
theorem b_203_145 {d : Nat} {Q : (Option Value ⊕ Nat) → mi_H → Prop} (n sl : Nat) (f : Nat → mi_C) {l1 : Nat} {l2 : Int32} {fs3 : List Value} {x6 : Int32} (h4 : f l1 = .inr (12, fs3)) (h5 : l1 < n) (h7 : fs3[59]? = some (.int x6)) (h8 : Q (.inl (some (.int x6))) (n, sl, f)) : mi_W d 203 145 [some (.ref l1), some (.int l2)] [] (n, sl, f) Q := by
  refine w_aload_n cd_203_145 rfl ?_
  refine w_getfield cd_203_146 (show mt_f 12 258 = some (12, 59) by decide +kernel) h4 h5 h7 ?_
  exact w_ireturn_i cd_203_149 (by decide +kernel) h8
theorem b_203_150 {d : Nat} {Q : (Option Value ⊕ Nat) → mi_H → Prop} (n sl : Nat) (f : Nat → mi_C) {l1 : Nat} {l2 : Int32} {fs3 : List Value} {x6 : Int32} (h4 : f l1 = .inr (12, fs3)) (h5 : l1 < n) (h7 : fs3[65]? = some (.int x6)) (h8 : Q (.inl (some (.int x6))) (n, sl, f)) : mi_W d 203 150 [some (.ref l1), some (.int l2)] [] (n, sl, f) Q := by
  refine w_aload_n cd_203_150 rfl ?_
  refine w_getfield cd_203_151 (show mt_f 12 536 = some (12, 65) by decide +kernel) h4 h5 h7 ?_
  exact w_ireturn_i cd_203_154 (by decide +kernel) h8
theorem b_203_155 {d : Nat} {Q : (Option Value ⊕ Nat) → mi_H → Prop} (n sl : Nat) (f : Nat → mi_C) {l1 : Nat} {l2 : Int32} {fs3 : List Value} {x6 : Int32} (h4 : f l1 = .inr (12, fs3)) (h5 : l1 < n) (h7 : fs3[66]? = some (.int x6)) (h8 : Q (.inl (some (.int x6))) (n, sl, f)) : mi_W d 203 155 [some (.ref l1), some (.int l2)] [] (n, sl, f) Q := by
  refine w_aload_n cd_203_155 rfl ?_
  refine w_getfield cd_203_156 (show mt_f 12 539 = some (12, 66) by decide +kernel) h4 h5 h7 ?_
  exact w_ireturn_i cd_203_159 (by decide +kernel) h8
theorem b_203_160 {d : Nat} {Q : (Option Value ⊕ Nat) → mi_H → Prop} (n sl : Nat) (f : Nat → mi_C) {l1 : Nat} {l2 : Int32} {fs3 : List Value} {x6 : Int32} (h4 : f l1 = .inr (12, fs3)) (h5 : l1 < n) (h7 : fs3[73]? = some (.int x6)) (h8 : Q (.inl (some (.int x6))) (n, sl, f)) : mi_W d 203 160 [some (.ref l1), some (.int l2)] [] (n, sl, f) Q := by
  refine w_aload_n cd_203_160 rfl ?_
  refine w_getfield cd_203_161 (show mt_f 12 562 = some (12, 73) by decide +kernel) h4 h5 h7 ?_
  exact w_ireturn_i cd_203_164 (by decide +kernel) h8
theorem b_203_165 {d : Nat} {Q : (Option Value ⊕ Nat) → mi_H → Prop} (n sl : Nat) (f : Nat → mi_C) {l1 : Nat} {l2 : Int32} {fs3 : List Value} {x6 : Int32} (h4 : f l1 = .inr (12, fs3)) (h5 : l1 < n) (h7 : fs3[75]? = some (.int x6)) (h8 : Q (.inl (some (.int x6))) (n, sl, f)) : mi_W d 203 165 [some (.ref l1), some (.int l2)] [] (n, sl, f) Q := by
  refine w_aload_n cd_203_165 rfl ?_
  refine w_getfield cd_203_166 (show mt_f 12 565 = some (12, 75) by decide +kernel) h4 h5 h7 ?_
  exact w_ireturn_i cd_203_169 (by decide +kernel) h8
/-! MarloweHostLaw.law([I)Z -/
set_option maxRecDepth 100000 in
theorem mq_204 : mt_q 204 = my_204 := rfl
set_option maxRecDepth 100000 in
theorem ci_204 : mt_inc 0 my_204.cd = true := by decide +kernel
theorem cd_204_0 : mt_cd 204 0 = some (.new 8) := mt_cd_of (q := (0, .new 8, 3)) mq_204 ci_204 (List.mem_append_left _ (show _ ∈ my_204_0 from List.mem_of_getElem? (i := 0) rfl))
theorem cd_204_3 : mt_cd 204 3 = some (.dup) := mt_cd_of (q := (3, .dup, 1)) mq_204 ci_204 (List.mem_append_left _ (show _ ∈ my_204_0 from List.mem_of_getElem? (i := 1) rfl))
theorem cd_204_4 : mt_cd 204 4 = some (.invokespecial 65) := mt_cd_of (q := (4, .invokespecial 65, 3)) mq_204 ci_204 (List.mem_append_left _ (show _ ∈ my_204_0 from List.mem_of_getElem? (i := 2) rfl))
theorem cd_204_7 : mt_cd 204 7 = some (.astore_n 1) := mt_cd_of (q := (7, .astore_n 1, 1)) mq_204 ci_204 (List.mem_append_left _ (show _ ∈ my_204_0 from List.mem_of_getElem? (i := 3) rfl))
theorem cd_204_8 : mt_cd 204 8 = some (.new 66) := mt_cd_of (q := (8, .new 66, 3)) mq_204 ci_204 (List.mem_append_left _ (show _ ∈ my_204_0 from List.mem_of_getElem? (i := 4) rfl))
theorem cd_204_11 : mt_cd 204 11 = some (.dup) := mt_cd_of (q := (11, .dup, 1)) mq_204 ci_204 (List.mem_append_left _ (show _ ∈ my_204_0 from List.mem_of_getElem? (i := 5) rfl))
theorem cd_204_12 : mt_cd 204 12 = some (.invokespecial 68) := mt_cd_of (q := (12, .invokespecial 68, 3)) mq_204 ci_204 (List.mem_append_left _ (show _ ∈ my_204_0 from List.mem_of_getElem? (i := 6) rfl))
theorem cd_204_15 : mt_cd 204 15 = some (.astore_n 2) := mt_cd_of (q := (15, .astore_n 2, 1)) mq_204 ci_204 (List.mem_append_left _ (show _ ∈ my_204_0 from List.mem_of_getElem? (i := 7) rfl))
theorem cd_204_16 : mt_cd 204 16 = some (.iconst 1) := mt_cd_of (q := (16, .iconst 1, 1)) mq_204 ci_204 (List.mem_append_left _ (show _ ∈ my_204_0 from List.mem_of_getElem? (i := 8) rfl))
theorem cd_204_17 : mt_cd 204 17 = some (.newarray .long) := mt_cd_of (q := (17, .newarray .long, 2)) mq_204 ci_204 (List.mem_append_left _ (show _ ∈ my_204_0 from List.mem_of_getElem? (i := 9) rfl))
theorem cd_204_19 : mt_cd 204 19 = some (.astore_n 3) := mt_cd_of (q := (19, .astore_n 3, 1)) mq_204 ci_204 (List.mem_append_left _ (show _ ∈ my_204_0 from List.mem_of_getElem? (i := 10) rfl))
theorem cd_204_20 : mt_cd 204 20 = some (.iconst 0) := mt_cd_of (q := (20, .iconst 0, 1)) mq_204 ci_204 (List.mem_append_left _ (show _ ∈ my_204_0 from List.mem_of_getElem? (i := 11) rfl))
theorem cd_204_21 : mt_cd 204 21 = some (.istore 4) := mt_cd_of (q := (21, .istore 4, 2)) mq_204 ci_204 (List.mem_append_left _ (show _ ∈ my_204_0 from List.mem_of_getElem? (i := 12) rfl))
theorem cd_204_23 : mt_cd 204 23 = some (.iload 4) := mt_cd_of (q := (23, .iload 4, 2)) mq_204 ci_204 (List.mem_append_left _ (show _ ∈ my_204_0 from List.mem_of_getElem? (i := 13) rfl))
theorem cd_204_25 : mt_cd 204 25 = some (.aload_n 0) := mt_cd_of (q := (25, .aload_n 0, 1)) mq_204 ci_204 (List.mem_append_left _ (show _ ∈ my_204_0 from List.mem_of_getElem? (i := 14) rfl))
theorem cd_204_26 : mt_cd 204 26 = some (.arraylength) := mt_cd_of (q := (26, .arraylength, 1)) mq_204 ci_204 (List.mem_append_left _ (show _ ∈ my_204_0 from List.mem_of_getElem? (i := 15) rfl))
theorem cd_204_27 : mt_cd 204 27 = some (.bipush 6) := mt_cd_of (q := (27, .bipush 6, 2)) mq_204 ci_204 (List.mem_append_left _ (show _ ∈ my_204_0 from List.mem_of_getElem? (i := 16) rfl))
theorem cd_204_29 : mt_cd 204 29 = some (.isub) := mt_cd_of (q := (29, .isub, 1)) mq_204 ci_204 (List.mem_append_left _ (show _ ∈ my_204_0 from List.mem_of_getElem? (i := 17) rfl))
theorem cd_204_30 : mt_cd 204 30 = some (.if_icmp .gt 1141) := mt_cd_of (q := (30, .if_icmp .gt 1141, 3)) mq_204 ci_204 (List.mem_append_left _ (show _ ∈ my_204_0 from List.mem_of_getElem? (i := 18) rfl))
theorem cd_204_33 : mt_cd 204 33 = some (.aload_n 0) := mt_cd_of (q := (33, .aload_n 0, 1)) mq_204 ci_204 (List.mem_append_left _ (show _ ∈ my_204_0 from List.mem_of_getElem? (i := 19) rfl))
theorem cd_204_34 : mt_cd 204 34 = some (.iload 4) := mt_cd_of (q := (34, .iload 4, 2)) mq_204 ci_204 (List.mem_append_left _ (show _ ∈ my_204_0 from List.mem_of_getElem? (i := 20) rfl))
theorem cd_204_36 : mt_cd 204 36 = some (.iaload) := mt_cd_of (q := (36, .iaload, 1)) mq_204 ci_204 (List.mem_append_left _ (show _ ∈ my_204_0 from List.mem_of_getElem? (i := 21) rfl))
theorem cd_204_37 : mt_cd 204 37 = some (.bipush 15) := mt_cd_of (q := (37, .bipush 15, 2)) mq_204 ci_204 (List.mem_append_left _ (show _ ∈ my_204_0 from List.mem_of_getElem? (i := 22) rfl))
theorem cd_204_39 : mt_cd 204 39 = some (.iand) := mt_cd_of (q := (39, .iand, 1)) mq_204 ci_204 (List.mem_append_left _ (show _ ∈ my_204_0 from List.mem_of_getElem? (i := 23) rfl))
theorem cd_204_40 : mt_cd 204 40 = some (.tableswitch 1125 0 13 #[72, 176, 232, 245, 356, 480, 580, 624, 756, 824, 879, 958, 1002, 1069]) := mt_cd_of (q := (40, .tableswitch 1125 0 13 #[72, 176, 232, 245, 356, 480, 580, 624, 756, 824, 879, 958, 1002, 1069], 72)) mq_204 ci_204 (List.mem_append_left _ (show _ ∈ my_204_0 from List.mem_of_getElem? (i := 24) rfl))
theorem cd_204_112 : mt_cd 204 112 = some (.aload_n 1) := mt_cd_of (q := (112, .aload_n 1, 1)) mq_204 ci_204 (List.mem_append_left _ (show _ ∈ my_204_0 from List.mem_of_getElem? (i := 25) rfl))
theorem cd_204_113 : mt_cd 204 113 = some (.aload_n 0) := mt_cd_of (q := (113, .aload_n 0, 1)) mq_204 ci_204 (List.mem_append_left _ (show _ ∈ my_204_0 from List.mem_of_getElem? (i := 26) rfl))
theorem cd_204_114 : mt_cd 204 114 = some (.iload 4) := mt_cd_of (q := (114, .iload 4, 2)) mq_204 ci_204 (List.mem_append_left _ (show _ ∈ my_204_0 from List.mem_of_getElem? (i := 27) rfl))
theorem cd_204_116 : mt_cd 204 116 = some (.iconst 1) := mt_cd_of (q := (116, .iconst 1, 1)) mq_204 ci_204 (List.mem_append_left _ (show _ ∈ my_204_0 from List.mem_of_getElem? (i := 28) rfl))
theorem cd_204_117 : mt_cd 204 117 = some (.iadd) := mt_cd_of (q := (117, .iadd, 1)) mq_204 ci_204 (List.mem_append_left _ (show _ ∈ my_204_0 from List.mem_of_getElem? (i := 29) rfl))
theorem cd_204_118 : mt_cd 204 118 = some (.iaload) := mt_cd_of (q := (118, .iaload, 1)) mq_204 ci_204 (List.mem_append_left _ (show _ ∈ my_204_0 from List.mem_of_getElem? (i := 30) rfl))
theorem cd_204_119 : mt_cd 204 119 = some (.aload_n 0) := mt_cd_of (q := (119, .aload_n 0, 1)) mq_204 ci_204 (List.mem_append_left _ (show _ ∈ my_204_0 from List.mem_of_getElem? (i := 31) rfl))
theorem cd_204_120 : mt_cd 204 120 = some (.iload 4) := mt_cd_of (q := (120, .iload 4, 2)) mq_204 ci_204 (List.mem_append_left _ (show _ ∈ my_204_0 from List.mem_of_getElem? (i := 32) rfl))
theorem cd_204_122 : mt_cd 204 122 = some (.iconst 2) := mt_cd_of (q := (122, .iconst 2, 1)) mq_204 ci_204 (List.mem_append_left _ (show _ ∈ my_204_0 from List.mem_of_getElem? (i := 33) rfl))
theorem cd_204_123 : mt_cd 204 123 = some (.iadd) := mt_cd_of (q := (123, .iadd, 1)) mq_204 ci_204 (List.mem_append_left _ (show _ ∈ my_204_0 from List.mem_of_getElem? (i := 34) rfl))
theorem cd_204_124 : mt_cd 204 124 = some (.iaload) := mt_cd_of (q := (124, .iaload, 1)) mq_204 ci_204 (List.mem_append_left _ (show _ ∈ my_204_0 from List.mem_of_getElem? (i := 35) rfl))
theorem cd_204_125 : mt_cd 204 125 = some (.aload_n 0) := mt_cd_of (q := (125, .aload_n 0, 1)) mq_204 ci_204 (List.mem_append_left _ (show _ ∈ my_204_0 from List.mem_of_getElem? (i := 36) rfl))
theorem cd_204_126 : mt_cd 204 126 = some (.iload 4) := mt_cd_of (q := (126, .iload 4, 2)) mq_204 ci_204 (List.mem_append_left _ (show _ ∈ my_204_0 from List.mem_of_getElem? (i := 37) rfl))
theorem cd_204_128 : mt_cd 204 128 = some (.iconst 3) := mt_cd_of (q := (128, .iconst 3, 1)) mq_204 ci_204 (List.mem_append_left _ (show _ ∈ my_204_0 from List.mem_of_getElem? (i := 38) rfl))
theorem cd_204_129 : mt_cd 204 129 = some (.iadd) := mt_cd_of (q := (129, .iadd, 1)) mq_204 ci_204 (List.mem_append_left _ (show _ ∈ my_204_0 from List.mem_of_getElem? (i := 39) rfl))
theorem cd_204_130 : mt_cd 204 130 = some (.iaload) := mt_cd_of (q := (130, .iaload, 1)) mq_204 ci_204 (List.mem_append_left _ (show _ ∈ my_204_0 from List.mem_of_getElem? (i := 40) rfl))
theorem cd_204_131 : mt_cd 204 131 = some (.aload_n 0) := mt_cd_of (q := (131, .aload_n 0, 1)) mq_204 ci_204 (List.mem_append_left _ (show _ ∈ my_204_0 from List.mem_of_getElem? (i := 41) rfl))
theorem cd_204_132 : mt_cd 204 132 = some (.iload 4) := mt_cd_of (q := (132, .iload 4, 2)) mq_204 ci_204 (List.mem_append_left _ (show _ ∈ my_204_0 from List.mem_of_getElem? (i := 42) rfl))
theorem cd_204_134 : mt_cd 204 134 = some (.iconst 4) := mt_cd_of (q := (134, .iconst 4, 1)) mq_204 ci_204 (List.mem_append_left _ (show _ ∈ my_204_0 from List.mem_of_getElem? (i := 43) rfl))
theorem cd_204_135 : mt_cd 204 135 = some (.iadd) := mt_cd_of (q := (135, .iadd, 1)) mq_204 ci_204 (List.mem_append_left _ (show _ ∈ my_204_0 from List.mem_of_getElem? (i := 44) rfl))
theorem cd_204_136 : mt_cd 204 136 = some (.iaload) := mt_cd_of (q := (136, .iaload, 1)) mq_204 ci_204 (List.mem_append_left _ (show _ ∈ my_204_0 from List.mem_of_getElem? (i := 45) rfl))
theorem cd_204_137 : mt_cd 204 137 = some (.aload_n 0) := mt_cd_of (q := (137, .aload_n 0, 1)) mq_204 ci_204 (List.mem_append_left _ (show _ ∈ my_204_0 from List.mem_of_getElem? (i := 46) rfl))
theorem cd_204_138 : mt_cd 204 138 = some (.iload 4) := mt_cd_of (q := (138, .iload 4, 2)) mq_204 ci_204 (List.mem_append_left _ (show _ ∈ my_204_0 from List.mem_of_getElem? (i := 47) rfl))
theorem cd_204_140 : mt_cd 204 140 = some (.iconst 5) := mt_cd_of (q := (140, .iconst 5, 1)) mq_204 ci_204 (List.mem_append_left _ (show _ ∈ my_204_0 from List.mem_of_getElem? (i := 48) rfl))
theorem cd_204_141 : mt_cd 204 141 = some (.iadd) := mt_cd_of (q := (141, .iadd, 1)) mq_204 ci_204 (List.mem_append_left _ (show _ ∈ my_204_0 from List.mem_of_getElem? (i := 49) rfl))
theorem cd_204_142 : mt_cd 204 142 = some (.iaload) := mt_cd_of (q := (142, .iaload, 1)) mq_204 ci_204 (List.mem_append_left _ (show _ ∈ my_204_0 from List.mem_of_getElem? (i := 50) rfl))
theorem cd_204_143 : mt_cd 204 143 = some (.aload_n 3) := mt_cd_of (q := (143, .aload_n 3, 1)) mq_204 ci_204 (List.mem_append_left _ (show _ ∈ my_204_0 from List.mem_of_getElem? (i := 51) rfl))
theorem cd_204_144 : mt_cd 204 144 = some (.invokestatic 69) := mt_cd_of (q := (144, .invokestatic 69, 3)) mq_204 ci_204 (List.mem_append_left _ (show _ ∈ my_204_0 from List.mem_of_getElem? (i := 52) rfl))
theorem cd_204_147 : mt_cd 204 147 = some (.istore 5) := mt_cd_of (q := (147, .istore 5, 2)) mq_204 ci_204 (List.mem_append_left _ (show _ ∈ my_204_0 from List.mem_of_getElem? (i := 53) rfl))
theorem cd_204_149 : mt_cd 204 149 = some (.aload_n 2) := mt_cd_of (q := (149, .aload_n 2, 1)) mq_204 ci_204 (List.mem_append_left _ (show _ ∈ my_204_0 from List.mem_of_getElem? (i := 54) rfl))
theorem cd_204_150 : mt_cd 204 150 = some (.aload_n 0) := mt_cd_of (q := (150, .aload_n 0, 1)) mq_204 ci_204 (List.mem_append_left _ (show _ ∈ my_204_0 from List.mem_of_getElem? (i := 55) rfl))
theorem cd_204_151 : mt_cd 204 151 = some (.iload 4) := mt_cd_of (q := (151, .iload 4, 2)) mq_204 ci_204 (List.mem_append_left _ (show _ ∈ my_204_0 from List.mem_of_getElem? (i := 56) rfl))
theorem cd_204_153 : mt_cd 204 153 = some (.iconst 1) := mt_cd_of (q := (153, .iconst 1, 1)) mq_204 ci_204 (List.mem_append_left _ (show _ ∈ my_204_0 from List.mem_of_getElem? (i := 57) rfl))
theorem cd_204_154 : mt_cd 204 154 = some (.iadd) := mt_cd_of (q := (154, .iadd, 1)) mq_204 ci_204 (List.mem_append_left _ (show _ ∈ my_204_0 from List.mem_of_getElem? (i := 58) rfl))
theorem cd_204_155 : mt_cd 204 155 = some (.iaload) := mt_cd_of (q := (155, .iaload, 1)) mq_204 ci_204 (List.mem_append_left _ (show _ ∈ my_204_0 from List.mem_of_getElem? (i := 59) rfl))
theorem cd_204_156 : mt_cd 204 156 = some (.aload_n 0) := mt_cd_of (q := (156, .aload_n 0, 1)) mq_204 ci_204 (List.mem_append_right _ (List.mem_append_left _ (show _ ∈ my_204_1 from List.mem_of_getElem? (i := 0) rfl)))
theorem cd_204_157 : mt_cd 204 157 = some (.iload 4) := mt_cd_of (q := (157, .iload 4, 2)) mq_204 ci_204 (List.mem_append_right _ (List.mem_append_left _ (show _ ∈ my_204_1 from List.mem_of_getElem? (i := 1) rfl)))
theorem cd_204_159 : mt_cd 204 159 = some (.iconst 2) := mt_cd_of (q := (159, .iconst 2, 1)) mq_204 ci_204 (List.mem_append_right _ (List.mem_append_left _ (show _ ∈ my_204_1 from List.mem_of_getElem? (i := 2) rfl)))
theorem cd_204_160 : mt_cd 204 160 = some (.iadd) := mt_cd_of (q := (160, .iadd, 1)) mq_204 ci_204 (List.mem_append_right _ (List.mem_append_left _ (show _ ∈ my_204_1 from List.mem_of_getElem? (i := 3) rfl)))
theorem cd_204_161 : mt_cd 204 161 = some (.iaload) := mt_cd_of (q := (161, .iaload, 1)) mq_204 ci_204 (List.mem_append_right _ (List.mem_append_left _ (show _ ∈ my_204_1 from List.mem_of_getElem? (i := 4) rfl)))
theorem cd_204_162 : mt_cd 204 162 = some (.aload_n 0) := mt_cd_of (q := (162, .aload_n 0, 1)) mq_204 ci_204 (List.mem_append_right _ (List.mem_append_left _ (show _ ∈ my_204_1 from List.mem_of_getElem? (i := 5) rfl)))
theorem cd_204_163 : mt_cd 204 163 = some (.iload 4) := mt_cd_of (q := (163, .iload 4, 2)) mq_204 ci_204 (List.mem_append_right _ (List.mem_append_left _ (show _ ∈ my_204_1 from List.mem_of_getElem? (i := 6) rfl)))
theorem cd_204_165 : mt_cd 204 165 = some (.iconst 3) := mt_cd_of (q := (165, .iconst 3, 1)) mq_204 ci_204 (List.mem_append_right _ (List.mem_append_left _ (show _ ∈ my_204_1 from List.mem_of_getElem? (i := 7) rfl)))
theorem cd_204_166 : mt_cd 204 166 = some (.iadd) := mt_cd_of (q := (166, .iadd, 1)) mq_204 ci_204 (List.mem_append_right _ (List.mem_append_left _ (show _ ∈ my_204_1 from List.mem_of_getElem? (i := 8) rfl)))
theorem cd_204_167 : mt_cd 204 167 = some (.iaload) := mt_cd_of (q := (167, .iaload, 1)) mq_204 ci_204 (List.mem_append_right _ (List.mem_append_left _ (show _ ∈ my_204_1 from List.mem_of_getElem? (i := 9) rfl)))
theorem cd_204_168 : mt_cd 204 168 = some (.aload_n 0) := mt_cd_of (q := (168, .aload_n 0, 1)) mq_204 ci_204 (List.mem_append_right _ (List.mem_append_left _ (show _ ∈ my_204_1 from List.mem_of_getElem? (i := 10) rfl)))
theorem cd_204_169 : mt_cd 204 169 = some (.iload 4) := mt_cd_of (q := (169, .iload 4, 2)) mq_204 ci_204 (List.mem_append_right _ (List.mem_append_left _ (show _ ∈ my_204_1 from List.mem_of_getElem? (i := 11) rfl)))
theorem cd_204_171 : mt_cd 204 171 = some (.iconst 4) := mt_cd_of (q := (171, .iconst 4, 1)) mq_204 ci_204 (List.mem_append_right _ (List.mem_append_left _ (show _ ∈ my_204_1 from List.mem_of_getElem? (i := 12) rfl)))
theorem cd_204_172 : mt_cd 204 172 = some (.iadd) := mt_cd_of (q := (172, .iadd, 1)) mq_204 ci_204 (List.mem_append_right _ (List.mem_append_left _ (show _ ∈ my_204_1 from List.mem_of_getElem? (i := 13) rfl)))
theorem cd_204_173 : mt_cd 204 173 = some (.iaload) := mt_cd_of (q := (173, .iaload, 1)) mq_204 ci_204 (List.mem_append_right _ (List.mem_append_left _ (show _ ∈ my_204_1 from List.mem_of_getElem? (i := 14) rfl)))
theorem cd_204_174 : mt_cd 204 174 = some (.aload_n 0) := mt_cd_of (q := (174, .aload_n 0, 1)) mq_204 ci_204 (List.mem_append_right _ (List.mem_append_left _ (show _ ∈ my_204_1 from List.mem_of_getElem? (i := 15) rfl)))
theorem cd_204_175 : mt_cd 204 175 = some (.iload 4) := mt_cd_of (q := (175, .iload 4, 2)) mq_204 ci_204 (List.mem_append_right _ (List.mem_append_left _ (show _ ∈ my_204_1 from List.mem_of_getElem? (i := 16) rfl)))
theorem cd_204_177 : mt_cd 204 177 = some (.iconst 5) := mt_cd_of (q := (177, .iconst 5, 1)) mq_204 ci_204 (List.mem_append_right _ (List.mem_append_left _ (show _ ∈ my_204_1 from List.mem_of_getElem? (i := 17) rfl)))
theorem cd_204_178 : mt_cd 204 178 = some (.iadd) := mt_cd_of (q := (178, .iadd, 1)) mq_204 ci_204 (List.mem_append_right _ (List.mem_append_left _ (show _ ∈ my_204_1 from List.mem_of_getElem? (i := 18) rfl)))
theorem cd_204_179 : mt_cd 204 179 = some (.iaload) := mt_cd_of (q := (179, .iaload, 1)) mq_204 ci_204 (List.mem_append_right _ (List.mem_append_left _ (show _ ∈ my_204_1 from List.mem_of_getElem? (i := 19) rfl)))
theorem cd_204_180 : mt_cd 204 180 = some (.invokevirtual 74) := mt_cd_of (q := (180, .invokevirtual 74, 3)) mq_204 ci_204 (List.mem_append_right _ (List.mem_append_left _ (show _ ∈ my_204_1 from List.mem_of_getElem? (i := 20) rfl)))
theorem cd_204_183 : mt_cd 204 183 = some (.istore 6) := mt_cd_of (q := (183, .istore 6, 2)) mq_204 ci_204 (List.mem_append_right _ (List.mem_append_left _ (show _ ∈ my_204_1 from List.mem_of_getElem? (i := 21) rfl)))
theorem cd_204_185 : mt_cd 204 185 = some (.aload_n 2) := mt_cd_of (q := (185, .aload_n 2, 1)) mq_204 ci_204 (List.mem_append_right _ (List.mem_append_left _ (show _ ∈ my_204_1 from List.mem_of_getElem? (i := 22) rfl)))
theorem cd_204_186 : mt_cd 204 186 = some (.invokevirtual 75) := mt_cd_of (q := (186, .invokevirtual 75, 3)) mq_204 ci_204 (List.mem_append_right _ (List.mem_append_left _ (show _ ∈ my_204_1 from List.mem_of_getElem? (i := 23) rfl)))
theorem cd_204_189 : mt_cd 204 189 = some (.iload 5) := mt_cd_of (q := (189, .iload 5, 2)) mq_204 ci_204 (List.mem_append_right _ (List.mem_append_left _ (show _ ∈ my_204_1 from List.mem_of_getElem? (i := 24) rfl)))
theorem cd_204_191 : mt_cd 204 191 = some (.if_icmp .eq 5) := mt_cd_of (q := (191, .if_icmp .eq 5, 3)) mq_204 ci_204 (List.mem_append_right _ (List.mem_append_left _ (show _ ∈ my_204_1 from List.mem_of_getElem? (i := 25) rfl)))
theorem cd_204_194 : mt_cd 204 194 = some (.iconst 0) := mt_cd_of (q := (194, .iconst 0, 1)) mq_204 ci_204 (List.mem_append_right _ (List.mem_append_left _ (show _ ∈ my_204_1 from List.mem_of_getElem? (i := 26) rfl)))
theorem cd_204_195 : mt_cd 204 195 = some (.ireturn) := mt_cd_of (q := (195, .ireturn, 1)) mq_204 ci_204 (List.mem_append_right _ (List.mem_append_left _ (show _ ∈ my_204_1 from List.mem_of_getElem? (i := 27) rfl)))
theorem cd_204_196 : mt_cd 204 196 = some (.iload 5) := mt_cd_of (q := (196, .iload 5, 2)) mq_204 ci_204 (List.mem_append_right _ (List.mem_append_left _ (show _ ∈ my_204_1 from List.mem_of_getElem? (i := 28) rfl)))
theorem cd_204_198 : mt_cd 204 198 = some (.ifCond .ne 15) := mt_cd_of (q := (198, .ifCond .ne 15, 3)) mq_204 ci_204 (List.mem_append_right _ (List.mem_append_left _ (show _ ∈ my_204_1 from List.mem_of_getElem? (i := 29) rfl)))
theorem cd_204_201 : mt_cd 204 201 = some (.aload_n 3) := mt_cd_of (q := (201, .aload_n 3, 1)) mq_204 ci_204 (List.mem_append_right _ (List.mem_append_left _ (show _ ∈ my_204_1 from List.mem_of_getElem? (i := 30) rfl)))
theorem cd_204_202 : mt_cd 204 202 = some (.iconst 0) := mt_cd_of (q := (202, .iconst 0, 1)) mq_204 ci_204 (List.mem_append_right _ (List.mem_append_left _ (show _ ∈ my_204_1 from List.mem_of_getElem? (i := 31) rfl)))
theorem cd_204_203 : mt_cd 204 203 = some (.laload) := mt_cd_of (q := (203, .laload, 1)) mq_204 ci_204 (List.mem_append_right _ (List.mem_append_left _ (show _ ∈ my_204_1 from List.mem_of_getElem? (i := 32) rfl)))
theorem cd_204_204 : mt_cd 204 204 = some (.iload 6) := mt_cd_of (q := (204, .iload 6, 2)) mq_204 ci_204 (List.mem_append_right _ (List.mem_append_left _ (show _ ∈ my_204_1 from List.mem_of_getElem? (i := 33) rfl)))
theorem cd_204_206 : mt_cd 204 206 = some (.i2l) := mt_cd_of (q := (206, .i2l, 1)) mq_204 ci_204 (List.mem_append_right _ (List.mem_append_left _ (show _ ∈ my_204_1 from List.mem_of_getElem? (i := 34) rfl)))
theorem cd_204_207 : mt_cd 204 207 = some (.lcmp) := mt_cd_of (q := (207, .lcmp, 1)) mq_204 ci_204 (List.mem_append_right _ (List.mem_append_left _ (show _ ∈ my_204_1 from List.mem_of_getElem? (i := 35) rfl)))
theorem cd_204_208 : mt_cd 204 208 = some (.ifCond .eq 5) := mt_cd_of (q := (208, .ifCond .eq 5, 3)) mq_204 ci_204 (List.mem_append_right _ (List.mem_append_left _ (show _ ∈ my_204_1 from List.mem_of_getElem? (i := 36) rfl)))
theorem cd_204_211 : mt_cd 204 211 = some (.iconst 0) := mt_cd_of (q := (211, .iconst 0, 1)) mq_204 ci_204 (List.mem_append_right _ (List.mem_append_left _ (show _ ∈ my_204_1 from List.mem_of_getElem? (i := 37) rfl)))
theorem cd_204_212 : mt_cd 204 212 = some (.ireturn) := mt_cd_of (q := (212, .ireturn, 1)) mq_204 ci_204 (List.mem_append_right _ (List.mem_append_left _ (show _ ∈ my_204_1 from List.mem_of_getElem? (i := 38) rfl)))
theorem cd_204_213 : mt_cd 204 213 = some (.goto 952) := mt_cd_of (q := (213, .goto 952, 3)) mq_204 ci_204 (List.mem_append_right _ (List.mem_append_left _ (show _ ∈ my_204_1 from List.mem_of_getElem? (i := 39) rfl)))
theorem cd_204_216 : mt_cd 204 216 = some (.aload_n 1) := mt_cd_of (q := (216, .aload_n 1, 1)) mq_204 ci_204 (List.mem_append_right _ (List.mem_append_left _ (show _ ∈ my_204_1 from List.mem_of_getElem? (i := 40) rfl)))
theorem cd_204_217 : mt_cd 204 217 = some (.aload_n 0) := mt_cd_of (q := (217, .aload_n 0, 1)) mq_204 ci_204 (List.mem_append_right _ (List.mem_append_left _ (show _ ∈ my_204_1 from List.mem_of_getElem? (i := 41) rfl)))
theorem cd_204_218 : mt_cd 204 218 = some (.iload 4) := mt_cd_of (q := (218, .iload 4, 2)) mq_204 ci_204 (List.mem_append_right _ (List.mem_append_left _ (show _ ∈ my_204_1 from List.mem_of_getElem? (i := 42) rfl)))
theorem cd_204_220 : mt_cd 204 220 = some (.iconst 1) := mt_cd_of (q := (220, .iconst 1, 1)) mq_204 ci_204 (List.mem_append_right _ (List.mem_append_left _ (show _ ∈ my_204_1 from List.mem_of_getElem? (i := 43) rfl)))
theorem cd_204_221 : mt_cd 204 221 = some (.iadd) := mt_cd_of (q := (221, .iadd, 1)) mq_204 ci_204 (List.mem_append_right _ (List.mem_append_left _ (show _ ∈ my_204_1 from List.mem_of_getElem? (i := 44) rfl)))
theorem cd_204_222 : mt_cd 204 222 = some (.iaload) := mt_cd_of (q := (222, .iaload, 1)) mq_204 ci_204 (List.mem_append_right _ (List.mem_append_left _ (show _ ∈ my_204_1 from List.mem_of_getElem? (i := 45) rfl)))
theorem cd_204_223 : mt_cd 204 223 = some (.aload_n 3) := mt_cd_of (q := (223, .aload_n 3, 1)) mq_204 ci_204 (List.mem_append_right _ (List.mem_append_left _ (show _ ∈ my_204_1 from List.mem_of_getElem? (i := 46) rfl)))
theorem cd_204_224 : mt_cd 204 224 = some (.invokestatic 78) := mt_cd_of (q := (224, .invokestatic 78, 3)) mq_204 ci_204 (List.mem_append_right _ (List.mem_append_left _ (show _ ∈ my_204_1 from List.mem_of_getElem? (i := 47) rfl)))
theorem cd_204_227 : mt_cd 204 227 = some (.istore 5) := mt_cd_of (q := (227, .istore 5, 2)) mq_204 ci_204 (List.mem_append_right _ (List.mem_append_left _ (show _ ∈ my_204_1 from List.mem_of_getElem? (i := 48) rfl)))
theorem cd_204_229 : mt_cd 204 229 = some (.aload_n 2) := mt_cd_of (q := (229, .aload_n 2, 1)) mq_204 ci_204 (List.mem_append_right _ (List.mem_append_left _ (show _ ∈ my_204_1 from List.mem_of_getElem? (i := 49) rfl)))
theorem cd_204_230 : mt_cd 204 230 = some (.aload_n 0) := mt_cd_of (q := (230, .aload_n 0, 1)) mq_204 ci_204 (List.mem_append_right _ (List.mem_append_left _ (show _ ∈ my_204_1 from List.mem_of_getElem? (i := 50) rfl)))
theorem cd_204_231 : mt_cd 204 231 = some (.iload 4) := mt_cd_of (q := (231, .iload 4, 2)) mq_204 ci_204 (List.mem_append_right _ (List.mem_append_left _ (show _ ∈ my_204_1 from List.mem_of_getElem? (i := 51) rfl)))
theorem cd_204_233 : mt_cd 204 233 = some (.iconst 1) := mt_cd_of (q := (233, .iconst 1, 1)) mq_204 ci_204 (List.mem_append_right _ (List.mem_append_left _ (show _ ∈ my_204_1 from List.mem_of_getElem? (i := 52) rfl)))
theorem cd_204_234 : mt_cd 204 234 = some (.iadd) := mt_cd_of (q := (234, .iadd, 1)) mq_204 ci_204 (List.mem_append_right _ (List.mem_append_left _ (show _ ∈ my_204_1 from List.mem_of_getElem? (i := 53) rfl)))
theorem cd_204_235 : mt_cd 204 235 = some (.iaload) := mt_cd_of (q := (235, .iaload, 1)) mq_204 ci_204 (List.mem_append_right _ (List.mem_append_left _ (show _ ∈ my_204_1 from List.mem_of_getElem? (i := 54) rfl)))
theorem cd_204_236 : mt_cd 204 236 = some (.invokevirtual 81) := mt_cd_of (q := (236, .invokevirtual 81, 3)) mq_204 ci_204 (List.mem_append_right _ (List.mem_append_left _ (show _ ∈ my_204_1 from List.mem_of_getElem? (i := 55) rfl)))
theorem cd_204_239 : mt_cd 204 239 = some (.istore 6) := mt_cd_of (q := (239, .istore 6, 2)) mq_204 ci_204 (List.mem_append_right _ (List.mem_append_left _ (show _ ∈ my_204_1 from List.mem_of_getElem? (i := 56) rfl)))
theorem cd_204_241 : mt_cd 204 241 = some (.aload_n 2) := mt_cd_of (q := (241, .aload_n 2, 1)) mq_204 ci_204 (List.mem_append_right _ (List.mem_append_left _ (show _ ∈ my_204_1 from List.mem_of_getElem? (i := 57) rfl)))
theorem cd_204_242 : mt_cd 204 242 = some (.invokevirtual 75) := mt_cd_of (q := (242, .invokevirtual 75, 3)) mq_204 ci_204 (List.mem_append_right _ (List.mem_append_left _ (show _ ∈ my_204_1 from List.mem_of_getElem? (i := 58) rfl)))
theorem cd_204_245 : mt_cd 204 245 = some (.iload 5) := mt_cd_of (q := (245, .iload 5, 2)) mq_204 ci_204 (List.mem_append_right _ (List.mem_append_left _ (show _ ∈ my_204_1 from List.mem_of_getElem? (i := 59) rfl)))
theorem cd_204_247 : mt_cd 204 247 = some (.if_icmp .eq 5) := mt_cd_of (q := (247, .if_icmp .eq 5, 3)) mq_204 ci_204 (List.mem_append_right _ (List.mem_append_right _ (List.mem_append_left _ (show _ ∈ my_204_2 from List.mem_of_getElem? (i := 0) rfl))))
theorem cd_204_250 : mt_cd 204 250 = some (.iconst 0) := mt_cd_of (q := (250, .iconst 0, 1)) mq_204 ci_204 (List.mem_append_right _ (List.mem_append_right _ (List.mem_append_left _ (show _ ∈ my_204_2 from List.mem_of_getElem? (i := 1) rfl))))
theorem cd_204_251 : mt_cd 204 251 = some (.ireturn) := mt_cd_of (q := (251, .ireturn, 1)) mq_204 ci_204 (List.mem_append_right _ (List.mem_append_right _ (List.mem_append_left _ (show _ ∈ my_204_2 from List.mem_of_getElem? (i := 2) rfl))))
theorem cd_204_252 : mt_cd 204 252 = some (.iload 5) := mt_cd_of (q := (252, .iload 5, 2)) mq_204 ci_204 (List.mem_append_right _ (List.mem_append_right _ (List.mem_append_left _ (show _ ∈ my_204_2 from List.mem_of_getElem? (i := 3) rfl))))
theorem cd_204_254 : mt_cd 204 254 = some (.ifCond .ne 15) := mt_cd_of (q := (254, .ifCond .ne 15, 3)) mq_204 ci_204 (List.mem_append_right _ (List.mem_append_right _ (List.mem_append_left _ (show _ ∈ my_204_2 from List.mem_of_getElem? (i := 4) rfl))))
theorem cd_204_257 : mt_cd 204 257 = some (.aload_n 3) := mt_cd_of (q := (257, .aload_n 3, 1)) mq_204 ci_204 (List.mem_append_right _ (List.mem_append_right _ (List.mem_append_left _ (show _ ∈ my_204_2 from List.mem_of_getElem? (i := 5) rfl))))
theorem cd_204_258 : mt_cd 204 258 = some (.iconst 0) := mt_cd_of (q := (258, .iconst 0, 1)) mq_204 ci_204 (List.mem_append_right _ (List.mem_append_right _ (List.mem_append_left _ (show _ ∈ my_204_2 from List.mem_of_getElem? (i := 6) rfl))))
theorem cd_204_259 : mt_cd 204 259 = some (.laload) := mt_cd_of (q := (259, .laload, 1)) mq_204 ci_204 (List.mem_append_right _ (List.mem_append_right _ (List.mem_append_left _ (show _ ∈ my_204_2 from List.mem_of_getElem? (i := 7) rfl))))
theorem cd_204_260 : mt_cd 204 260 = some (.iload 6) := mt_cd_of (q := (260, .iload 6, 2)) mq_204 ci_204 (List.mem_append_right _ (List.mem_append_right _ (List.mem_append_left _ (show _ ∈ my_204_2 from List.mem_of_getElem? (i := 8) rfl))))
theorem cd_204_262 : mt_cd 204 262 = some (.i2l) := mt_cd_of (q := (262, .i2l, 1)) mq_204 ci_204 (List.mem_append_right _ (List.mem_append_right _ (List.mem_append_left _ (show _ ∈ my_204_2 from List.mem_of_getElem? (i := 9) rfl))))
theorem cd_204_263 : mt_cd 204 263 = some (.lcmp) := mt_cd_of (q := (263, .lcmp, 1)) mq_204 ci_204 (List.mem_append_right _ (List.mem_append_right _ (List.mem_append_left _ (show _ ∈ my_204_2 from List.mem_of_getElem? (i := 10) rfl))))
theorem cd_204_264 : mt_cd 204 264 = some (.ifCond .eq 5) := mt_cd_of (q := (264, .ifCond .eq 5, 3)) mq_204 ci_204 (List.mem_append_right _ (List.mem_append_right _ (List.mem_append_left _ (show _ ∈ my_204_2 from List.mem_of_getElem? (i := 11) rfl))))
theorem cd_204_267 : mt_cd 204 267 = some (.iconst 0) := mt_cd_of (q := (267, .iconst 0, 1)) mq_204 ci_204 (List.mem_append_right _ (List.mem_append_right _ (List.mem_append_left _ (show _ ∈ my_204_2 from List.mem_of_getElem? (i := 12) rfl))))
theorem cd_204_268 : mt_cd 204 268 = some (.ireturn) := mt_cd_of (q := (268, .ireturn, 1)) mq_204 ci_204 (List.mem_append_right _ (List.mem_append_right _ (List.mem_append_left _ (show _ ∈ my_204_2 from List.mem_of_getElem? (i := 13) rfl))))
theorem cd_204_269 : mt_cd 204 269 = some (.goto 896) := mt_cd_of (q := (269, .goto 896, 3)) mq_204 ci_204 (List.mem_append_right _ (List.mem_append_right _ (List.mem_append_left _ (show _ ∈ my_204_2 from List.mem_of_getElem? (i := 14) rfl))))
theorem cd_204_272 : mt_cd 204 272 = some (.aload_n 1) := mt_cd_of (q := (272, .aload_n 1, 1)) mq_204 ci_204 (List.mem_append_right _ (List.mem_append_right _ (List.mem_append_left _ (show _ ∈ my_204_2 from List.mem_of_getElem? (i := 15) rfl))))
theorem cd_204_273 : mt_cd 204 273 = some (.invokevirtual 82) := mt_cd_of (q := (273, .invokevirtual 82, 3)) mq_204 ci_204 (List.mem_append_right _ (List.mem_append_right _ (List.mem_append_left _ (show _ ∈ my_204_2 from List.mem_of_getElem? (i := 16) rfl))))
theorem cd_204_276 : mt_cd 204 276 = some (.aload_n 2) := mt_cd_of (q := (276, .aload_n 2, 1)) mq_204 ci_204 (List.mem_append_right _ (List.mem_append_right _ (List.mem_append_left _ (show _ ∈ my_204_2 from List.mem_of_getElem? (i := 17) rfl))))
theorem cd_204_277 : mt_cd 204 277 = some (.invokevirtual 85) := mt_cd_of (q := (277, .invokevirtual 85, 3)) mq_204 ci_204 (List.mem_append_right _ (List.mem_append_right _ (List.mem_append_left _ (show _ ∈ my_204_2 from List.mem_of_getElem? (i := 18) rfl))))
theorem cd_204_280 : mt_cd 204 280 = some (.if_icmp .eq 885) := mt_cd_of (q := (280, .if_icmp .eq 885, 3)) mq_204 ci_204 (List.mem_append_right _ (List.mem_append_right _ (List.mem_append_left _ (show _ ∈ my_204_2 from List.mem_of_getElem? (i := 19) rfl))))
theorem cd_204_283 : mt_cd 204 283 = some (.iconst 0) := mt_cd_of (q := (283, .iconst 0, 1)) mq_204 ci_204 (List.mem_append_right _ (List.mem_append_right _ (List.mem_append_left _ (show _ ∈ my_204_2 from List.mem_of_getElem? (i := 20) rfl))))
theorem cd_204_284 : mt_cd 204 284 = some (.ireturn) := mt_cd_of (q := (284, .ireturn, 1)) mq_204 ci_204 (List.mem_append_right _ (List.mem_append_right _ (List.mem_append_left _ (show _ ∈ my_204_2 from List.mem_of_getElem? (i := 21) rfl))))
theorem cd_204_285 : mt_cd 204 285 = some (.aload_n 1) := mt_cd_of (q := (285, .aload_n 1, 1)) mq_204 ci_204 (List.mem_append_right _ (List.mem_append_right _ (List.mem_append_left _ (show _ ∈ my_204_2 from List.mem_of_getElem? (i := 22) rfl))))
theorem cd_204_286 : mt_cd 204 286 = some (.aload_n 0) := mt_cd_of (q := (286, .aload_n 0, 1)) mq_204 ci_204 (List.mem_append_right _ (List.mem_append_right _ (List.mem_append_left _ (show _ ∈ my_204_2 from List.mem_of_getElem? (i := 23) rfl))))
theorem cd_204_287 : mt_cd 204 287 = some (.iload 4) := mt_cd_of (q := (287, .iload 4, 2)) mq_204 ci_204 (List.mem_append_right _ (List.mem_append_right _ (List.mem_append_left _ (show _ ∈ my_204_2 from List.mem_of_getElem? (i := 24) rfl))))
theorem cd_204_289 : mt_cd 204 289 = some (.iconst 1) := mt_cd_of (q := (289, .iconst 1, 1)) mq_204 ci_204 (List.mem_append_right _ (List.mem_append_right _ (List.mem_append_left _ (show _ ∈ my_204_2 from List.mem_of_getElem? (i := 25) rfl))))
theorem cd_204_290 : mt_cd 204 290 = some (.iadd) := mt_cd_of (q := (290, .iadd, 1)) mq_204 ci_204 (List.mem_append_right _ (List.mem_append_right _ (List.mem_append_left _ (show _ ∈ my_204_2 from List.mem_of_getElem? (i := 26) rfl))))
theorem cd_204_291 : mt_cd 204 291 = some (.iaload) := mt_cd_of (q := (291, .iaload, 1)) mq_204 ci_204 (List.mem_append_right _ (List.mem_append_right _ (List.mem_append_left _ (show _ ∈ my_204_2 from List.mem_of_getElem? (i := 27) rfl))))
theorem cd_204_292 : mt_cd 204 292 = some (.aload_n 0) := mt_cd_of (q := (292, .aload_n 0, 1)) mq_204 ci_204 (List.mem_append_right _ (List.mem_append_right _ (List.mem_append_left _ (show _ ∈ my_204_2 from List.mem_of_getElem? (i := 28) rfl))))
theorem cd_204_293 : mt_cd 204 293 = some (.iload 4) := mt_cd_of (q := (293, .iload 4, 2)) mq_204 ci_204 (List.mem_append_right _ (List.mem_append_right _ (List.mem_append_left _ (show _ ∈ my_204_2 from List.mem_of_getElem? (i := 29) rfl))))
theorem cd_204_295 : mt_cd 204 295 = some (.iconst 2) := mt_cd_of (q := (295, .iconst 2, 1)) mq_204 ci_204 (List.mem_append_right _ (List.mem_append_right _ (List.mem_append_left _ (show _ ∈ my_204_2 from List.mem_of_getElem? (i := 30) rfl))))
theorem cd_204_296 : mt_cd 204 296 = some (.iadd) := mt_cd_of (q := (296, .iadd, 1)) mq_204 ci_204 (List.mem_append_right _ (List.mem_append_right _ (List.mem_append_left _ (show _ ∈ my_204_2 from List.mem_of_getElem? (i := 31) rfl))))
theorem cd_204_297 : mt_cd 204 297 = some (.iaload) := mt_cd_of (q := (297, .iaload, 1)) mq_204 ci_204 (List.mem_append_right _ (List.mem_append_right _ (List.mem_append_left _ (show _ ∈ my_204_2 from List.mem_of_getElem? (i := 32) rfl))))
theorem cd_204_298 : mt_cd 204 298 = some (.aload_n 0) := mt_cd_of (q := (298, .aload_n 0, 1)) mq_204 ci_204 (List.mem_append_right _ (List.mem_append_right _ (List.mem_append_left _ (show _ ∈ my_204_2 from List.mem_of_getElem? (i := 33) rfl))))
theorem cd_204_299 : mt_cd 204 299 = some (.iload 4) := mt_cd_of (q := (299, .iload 4, 2)) mq_204 ci_204 (List.mem_append_right _ (List.mem_append_right _ (List.mem_append_left _ (show _ ∈ my_204_2 from List.mem_of_getElem? (i := 34) rfl))))
theorem cd_204_301 : mt_cd 204 301 = some (.iconst 3) := mt_cd_of (q := (301, .iconst 3, 1)) mq_204 ci_204 (List.mem_append_right _ (List.mem_append_right _ (List.mem_append_left _ (show _ ∈ my_204_2 from List.mem_of_getElem? (i := 35) rfl))))
theorem cd_204_302 : mt_cd 204 302 = some (.iadd) := mt_cd_of (q := (302, .iadd, 1)) mq_204 ci_204 (List.mem_append_right _ (List.mem_append_right _ (List.mem_append_left _ (show _ ∈ my_204_2 from List.mem_of_getElem? (i := 36) rfl))))
theorem cd_204_303 : mt_cd 204 303 = some (.iaload) := mt_cd_of (q := (303, .iaload, 1)) mq_204 ci_204 (List.mem_append_right _ (List.mem_append_right _ (List.mem_append_left _ (show _ ∈ my_204_2 from List.mem_of_getElem? (i := 37) rfl))))
theorem cd_204_304 : mt_cd 204 304 = some (.i2l) := mt_cd_of (q := (304, .i2l, 1)) mq_204 ci_204 (List.mem_append_right _ (List.mem_append_right _ (List.mem_append_left _ (show _ ∈ my_204_2 from List.mem_of_getElem? (i := 38) rfl))))
theorem cd_204_305 : mt_cd 204 305 = some (.bipush 32) := mt_cd_of (q := (305, .bipush 32, 2)) mq_204 ci_204 (List.mem_append_right _ (List.mem_append_right _ (List.mem_append_left _ (show _ ∈ my_204_2 from List.mem_of_getElem? (i := 39) rfl))))
theorem cd_204_307 : mt_cd 204 307 = some (.lshl) := mt_cd_of (q := (307, .lshl, 1)) mq_204 ci_204 (List.mem_append_right _ (List.mem_append_right _ (List.mem_append_left _ (show _ ∈ my_204_2 from List.mem_of_getElem? (i := 40) rfl))))
theorem cd_204_308 : mt_cd 204 308 = some (.aload_n 0) := mt_cd_of (q := (308, .aload_n 0, 1)) mq_204 ci_204 (List.mem_append_right _ (List.mem_append_right _ (List.mem_append_left _ (show _ ∈ my_204_2 from List.mem_of_getElem? (i := 41) rfl))))
theorem cd_204_309 : mt_cd 204 309 = some (.iload 4) := mt_cd_of (q := (309, .iload 4, 2)) mq_204 ci_204 (List.mem_append_right _ (List.mem_append_right _ (List.mem_append_left _ (show _ ∈ my_204_2 from List.mem_of_getElem? (i := 42) rfl))))
theorem cd_204_311 : mt_cd 204 311 = some (.iconst 4) := mt_cd_of (q := (311, .iconst 4, 1)) mq_204 ci_204 (List.mem_append_right _ (List.mem_append_right _ (List.mem_append_left _ (show _ ∈ my_204_2 from List.mem_of_getElem? (i := 43) rfl))))
theorem cd_204_312 : mt_cd 204 312 = some (.iadd) := mt_cd_of (q := (312, .iadd, 1)) mq_204 ci_204 (List.mem_append_right _ (List.mem_append_right _ (List.mem_append_left _ (show _ ∈ my_204_2 from List.mem_of_getElem? (i := 44) rfl))))
theorem cd_204_313 : mt_cd 204 313 = some (.iaload) := mt_cd_of (q := (313, .iaload, 1)) mq_204 ci_204 (List.mem_append_right _ (List.mem_append_right _ (List.mem_append_left _ (show _ ∈ my_204_2 from List.mem_of_getElem? (i := 45) rfl))))
theorem cd_204_314 : mt_cd 204 314 = some (.i2l) := mt_cd_of (q := (314, .i2l, 1)) mq_204 ci_204 (List.mem_append_right _ (List.mem_append_right _ (List.mem_append_left _ (show _ ∈ my_204_2 from List.mem_of_getElem? (i := 46) rfl))))
theorem cd_204_315 : mt_cd 204 315 = some (.ldc2_w 86) := mt_cd_of (q := (315, .ldc2_w 86, 3)) mq_204 ci_204 (List.mem_append_right _ (List.mem_append_right _ (List.mem_append_left _ (show _ ∈ my_204_2 from List.mem_of_getElem? (i := 47) rfl))))
theorem cd_204_318 : mt_cd 204 318 = some (.land) := mt_cd_of (q := (318, .land, 1)) mq_204 ci_204 (List.mem_append_right _ (List.mem_append_right _ (List.mem_append_left _ (show _ ∈ my_204_2 from List.mem_of_getElem? (i := 48) rfl))))
theorem cd_204_319 : mt_cd 204 319 = some (.lor) := mt_cd_of (q := (319, .lor, 1)) mq_204 ci_204 (List.mem_append_right _ (List.mem_append_right _ (List.mem_append_left _ (show _ ∈ my_204_2 from List.mem_of_getElem? (i := 49) rfl))))
theorem cd_204_320 : mt_cd 204 320 = some (.aload_n 3) := mt_cd_of (q := (320, .aload_n 3, 1)) mq_204 ci_204 (List.mem_append_right _ (List.mem_append_right _ (List.mem_append_left _ (show _ ∈ my_204_2 from List.mem_of_getElem? (i := 50) rfl))))
theorem cd_204_321 : mt_cd 204 321 = some (.invokestatic 88) := mt_cd_of (q := (321, .invokestatic 88, 3)) mq_204 ci_204 (List.mem_append_right _ (List.mem_append_right _ (List.mem_append_left _ (show _ ∈ my_204_2 from List.mem_of_getElem? (i := 51) rfl))))
theorem cd_204_324 : mt_cd 204 324 = some (.istore 5) := mt_cd_of (q := (324, .istore 5, 2)) mq_204 ci_204 (List.mem_append_right _ (List.mem_append_right _ (List.mem_append_left _ (show _ ∈ my_204_2 from List.mem_of_getElem? (i := 52) rfl))))
theorem cd_204_326 : mt_cd 204 326 = some (.aload_n 2) := mt_cd_of (q := (326, .aload_n 2, 1)) mq_204 ci_204 (List.mem_append_right _ (List.mem_append_right _ (List.mem_append_left _ (show _ ∈ my_204_2 from List.mem_of_getElem? (i := 53) rfl))))
theorem cd_204_327 : mt_cd 204 327 = some (.aload_n 0) := mt_cd_of (q := (327, .aload_n 0, 1)) mq_204 ci_204 (List.mem_append_right _ (List.mem_append_right _ (List.mem_append_left _ (show _ ∈ my_204_2 from List.mem_of_getElem? (i := 54) rfl))))
theorem cd_204_328 : mt_cd 204 328 = some (.iload 4) := mt_cd_of (q := (328, .iload 4, 2)) mq_204 ci_204 (List.mem_append_right _ (List.mem_append_right _ (List.mem_append_left _ (show _ ∈ my_204_2 from List.mem_of_getElem? (i := 55) rfl))))
theorem cd_204_330 : mt_cd 204 330 = some (.iconst 1) := mt_cd_of (q := (330, .iconst 1, 1)) mq_204 ci_204 (List.mem_append_right _ (List.mem_append_right _ (List.mem_append_left _ (show _ ∈ my_204_2 from List.mem_of_getElem? (i := 56) rfl))))
theorem cd_204_331 : mt_cd 204 331 = some (.iadd) := mt_cd_of (q := (331, .iadd, 1)) mq_204 ci_204 (List.mem_append_right _ (List.mem_append_right _ (List.mem_append_left _ (show _ ∈ my_204_2 from List.mem_of_getElem? (i := 57) rfl))))
theorem cd_204_332 : mt_cd 204 332 = some (.iaload) := mt_cd_of (q := (332, .iaload, 1)) mq_204 ci_204 (List.mem_append_right _ (List.mem_append_right _ (List.mem_append_left _ (show _ ∈ my_204_2 from List.mem_of_getElem? (i := 58) rfl))))
theorem cd_204_333 : mt_cd 204 333 = some (.aload_n 0) := mt_cd_of (q := (333, .aload_n 0, 1)) mq_204 ci_204 (List.mem_append_right _ (List.mem_append_right _ (List.mem_append_left _ (show _ ∈ my_204_2 from List.mem_of_getElem? (i := 59) rfl))))
theorem cd_204_334 : mt_cd 204 334 = some (.iload 4) := mt_cd_of (q := (334, .iload 4, 2)) mq_204 ci_204 (List.mem_append_right _ (List.mem_append_right _ (List.mem_append_right _ (List.mem_append_left _ (show _ ∈ my_204_3 from List.mem_of_getElem? (i := 0) rfl)))))
theorem cd_204_336 : mt_cd 204 336 = some (.iconst 2) := mt_cd_of (q := (336, .iconst 2, 1)) mq_204 ci_204 (List.mem_append_right _ (List.mem_append_right _ (List.mem_append_right _ (List.mem_append_left _ (show _ ∈ my_204_3 from List.mem_of_getElem? (i := 1) rfl)))))
theorem cd_204_337 : mt_cd 204 337 = some (.iadd) := mt_cd_of (q := (337, .iadd, 1)) mq_204 ci_204 (List.mem_append_right _ (List.mem_append_right _ (List.mem_append_right _ (List.mem_append_left _ (show _ ∈ my_204_3 from List.mem_of_getElem? (i := 2) rfl)))))
theorem cd_204_338 : mt_cd 204 338 = some (.iaload) := mt_cd_of (q := (338, .iaload, 1)) mq_204 ci_204 (List.mem_append_right _ (List.mem_append_right _ (List.mem_append_right _ (List.mem_append_left _ (show _ ∈ my_204_3 from List.mem_of_getElem? (i := 3) rfl)))))
theorem cd_204_339 : mt_cd 204 339 = some (.aload_n 0) := mt_cd_of (q := (339, .aload_n 0, 1)) mq_204 ci_204 (List.mem_append_right _ (List.mem_append_right _ (List.mem_append_right _ (List.mem_append_left _ (show _ ∈ my_204_3 from List.mem_of_getElem? (i := 4) rfl)))))
theorem cd_204_340 : mt_cd 204 340 = some (.iload 4) := mt_cd_of (q := (340, .iload 4, 2)) mq_204 ci_204 (List.mem_append_right _ (List.mem_append_right _ (List.mem_append_right _ (List.mem_append_left _ (show _ ∈ my_204_3 from List.mem_of_getElem? (i := 5) rfl)))))
theorem cd_204_342 : mt_cd 204 342 = some (.iconst 3) := mt_cd_of (q := (342, .iconst 3, 1)) mq_204 ci_204 (List.mem_append_right _ (List.mem_append_right _ (List.mem_append_right _ (List.mem_append_left _ (show _ ∈ my_204_3 from List.mem_of_getElem? (i := 6) rfl)))))
theorem cd_204_343 : mt_cd 204 343 = some (.iadd) := mt_cd_of (q := (343, .iadd, 1)) mq_204 ci_204 (List.mem_append_right _ (List.mem_append_right _ (List.mem_append_right _ (List.mem_append_left _ (show _ ∈ my_204_3 from List.mem_of_getElem? (i := 7) rfl)))))
theorem cd_204_344 : mt_cd 204 344 = some (.iaload) := mt_cd_of (q := (344, .iaload, 1)) mq_204 ci_204 (List.mem_append_right _ (List.mem_append_right _ (List.mem_append_right _ (List.mem_append_left _ (show _ ∈ my_204_3 from List.mem_of_getElem? (i := 8) rfl)))))
theorem cd_204_345 : mt_cd 204 345 = some (.i2l) := mt_cd_of (q := (345, .i2l, 1)) mq_204 ci_204 (List.mem_append_right _ (List.mem_append_right _ (List.mem_append_right _ (List.mem_append_left _ (show _ ∈ my_204_3 from List.mem_of_getElem? (i := 9) rfl)))))
theorem cd_204_346 : mt_cd 204 346 = some (.bipush 32) := mt_cd_of (q := (346, .bipush 32, 2)) mq_204 ci_204 (List.mem_append_right _ (List.mem_append_right _ (List.mem_append_right _ (List.mem_append_left _ (show _ ∈ my_204_3 from List.mem_of_getElem? (i := 10) rfl)))))
theorem cd_204_348 : mt_cd 204 348 = some (.lshl) := mt_cd_of (q := (348, .lshl, 1)) mq_204 ci_204 (List.mem_append_right _ (List.mem_append_right _ (List.mem_append_right _ (List.mem_append_left _ (show _ ∈ my_204_3 from List.mem_of_getElem? (i := 11) rfl)))))
theorem cd_204_349 : mt_cd 204 349 = some (.aload_n 0) := mt_cd_of (q := (349, .aload_n 0, 1)) mq_204 ci_204 (List.mem_append_right _ (List.mem_append_right _ (List.mem_append_right _ (List.mem_append_left _ (show _ ∈ my_204_3 from List.mem_of_getElem? (i := 12) rfl)))))
theorem cd_204_350 : mt_cd 204 350 = some (.iload 4) := mt_cd_of (q := (350, .iload 4, 2)) mq_204 ci_204 (List.mem_append_right _ (List.mem_append_right _ (List.mem_append_right _ (List.mem_append_left _ (show _ ∈ my_204_3 from List.mem_of_getElem? (i := 13) rfl)))))
theorem cd_204_352 : mt_cd 204 352 = some (.iconst 4) := mt_cd_of (q := (352, .iconst 4, 1)) mq_204 ci_204 (List.mem_append_right _ (List.mem_append_right _ (List.mem_append_right _ (List.mem_append_left _ (show _ ∈ my_204_3 from List.mem_of_getElem? (i := 14) rfl)))))
theorem cd_204_353 : mt_cd 204 353 = some (.iadd) := mt_cd_of (q := (353, .iadd, 1)) mq_204 ci_204 (List.mem_append_right _ (List.mem_append_right _ (List.mem_append_right _ (List.mem_append_left _ (show _ ∈ my_204_3 from List.mem_of_getElem? (i := 15) rfl)))))
theorem cd_204_354 : mt_cd 204 354 = some (.iaload) := mt_cd_of (q := (354, .iaload, 1)) mq_204 ci_204 (List.mem_append_right _ (List.mem_append_right _ (List.mem_append_right _ (List.mem_append_left _ (show _ ∈ my_204_3 from List.mem_of_getElem? (i := 16) rfl)))))
theorem cd_204_355 : mt_cd 204 355 = some (.i2l) := mt_cd_of (q := (355, .i2l, 1)) mq_204 ci_204 (List.mem_append_right _ (List.mem_append_right _ (List.mem_append_right _ (List.mem_append_left _ (show _ ∈ my_204_3 from List.mem_of_getElem? (i := 17) rfl)))))
theorem cd_204_356 : mt_cd 204 356 = some (.ldc2_w 86) := mt_cd_of (q := (356, .ldc2_w 86, 3)) mq_204 ci_204 (List.mem_append_right _ (List.mem_append_right _ (List.mem_append_right _ (List.mem_append_left _ (show _ ∈ my_204_3 from List.mem_of_getElem? (i := 18) rfl)))))
theorem cd_204_359 : mt_cd 204 359 = some (.land) := mt_cd_of (q := (359, .land, 1)) mq_204 ci_204 (List.mem_append_right _ (List.mem_append_right _ (List.mem_append_right _ (List.mem_append_left _ (show _ ∈ my_204_3 from List.mem_of_getElem? (i := 19) rfl)))))
theorem cd_204_360 : mt_cd 204 360 = some (.lor) := mt_cd_of (q := (360, .lor, 1)) mq_204 ci_204 (List.mem_append_right _ (List.mem_append_right _ (List.mem_append_right _ (List.mem_append_left _ (show _ ∈ my_204_3 from List.mem_of_getElem? (i := 20) rfl)))))
theorem cd_204_361 : mt_cd 204 361 = some (.invokevirtual 91) := mt_cd_of (q := (361, .invokevirtual 91, 3)) mq_204 ci_204 (List.mem_append_right _ (List.mem_append_right _ (List.mem_append_right _ (List.mem_append_left _ (show _ ∈ my_204_3 from List.mem_of_getElem? (i := 21) rfl)))))
theorem cd_204_364 : mt_cd 204 364 = some (.lstore 6) := mt_cd_of (q := (364, .lstore 6, 2)) mq_204 ci_204 (List.mem_append_right _ (List.mem_append_right _ (List.mem_append_right _ (List.mem_append_left _ (show _ ∈ my_204_3 from List.mem_of_getElem? (i := 22) rfl)))))
theorem cd_204_366 : mt_cd 204 366 = some (.aload_n 2) := mt_cd_of (q := (366, .aload_n 2, 1)) mq_204 ci_204 (List.mem_append_right _ (List.mem_append_right _ (List.mem_append_right _ (List.mem_append_left _ (show _ ∈ my_204_3 from List.mem_of_getElem? (i := 23) rfl)))))
theorem cd_204_367 : mt_cd 204 367 = some (.invokevirtual 75) := mt_cd_of (q := (367, .invokevirtual 75, 3)) mq_204 ci_204 (List.mem_append_right _ (List.mem_append_right _ (List.mem_append_right _ (List.mem_append_left _ (show _ ∈ my_204_3 from List.mem_of_getElem? (i := 24) rfl)))))
theorem cd_204_370 : mt_cd 204 370 = some (.iload 5) := mt_cd_of (q := (370, .iload 5, 2)) mq_204 ci_204 (List.mem_append_right _ (List.mem_append_right _ (List.mem_append_right _ (List.mem_append_left _ (show _ ∈ my_204_3 from List.mem_of_getElem? (i := 25) rfl)))))
theorem cd_204_372 : mt_cd 204 372 = some (.if_icmp .eq 5) := mt_cd_of (q := (372, .if_icmp .eq 5, 3)) mq_204 ci_204 (List.mem_append_right _ (List.mem_append_right _ (List.mem_append_right _ (List.mem_append_left _ (show _ ∈ my_204_3 from List.mem_of_getElem? (i := 26) rfl)))))
theorem cd_204_375 : mt_cd 204 375 = some (.iconst 0) := mt_cd_of (q := (375, .iconst 0, 1)) mq_204 ci_204 (List.mem_append_right _ (List.mem_append_right _ (List.mem_append_right _ (List.mem_append_left _ (show _ ∈ my_204_3 from List.mem_of_getElem? (i := 27) rfl)))))
theorem cd_204_376 : mt_cd 204 376 = some (.ireturn) := mt_cd_of (q := (376, .ireturn, 1)) mq_204 ci_204 (List.mem_append_right _ (List.mem_append_right _ (List.mem_append_right _ (List.mem_append_left _ (show _ ∈ my_204_3 from List.mem_of_getElem? (i := 28) rfl)))))
theorem cd_204_377 : mt_cd 204 377 = some (.iload 5) := mt_cd_of (q := (377, .iload 5, 2)) mq_204 ci_204 (List.mem_append_right _ (List.mem_append_right _ (List.mem_append_right _ (List.mem_append_left _ (show _ ∈ my_204_3 from List.mem_of_getElem? (i := 29) rfl)))))
theorem cd_204_379 : mt_cd 204 379 = some (.ifCond .ne 14) := mt_cd_of (q := (379, .ifCond .ne 14, 3)) mq_204 ci_204 (List.mem_append_right _ (List.mem_append_right _ (List.mem_append_right _ (List.mem_append_left _ (show _ ∈ my_204_3 from List.mem_of_getElem? (i := 30) rfl)))))
theorem cd_204_382 : mt_cd 204 382 = some (.aload_n 3) := mt_cd_of (q := (382, .aload_n 3, 1)) mq_204 ci_204 (List.mem_append_right _ (List.mem_append_right _ (List.mem_append_right _ (List.mem_append_left _ (show _ ∈ my_204_3 from List.mem_of_getElem? (i := 31) rfl)))))
theorem cd_204_383 : mt_cd 204 383 = some (.iconst 0) := mt_cd_of (q := (383, .iconst 0, 1)) mq_204 ci_204 (List.mem_append_right _ (List.mem_append_right _ (List.mem_append_right _ (List.mem_append_left _ (show _ ∈ my_204_3 from List.mem_of_getElem? (i := 32) rfl)))))
theorem cd_204_384 : mt_cd 204 384 = some (.laload) := mt_cd_of (q := (384, .laload, 1)) mq_204 ci_204 (List.mem_append_right _ (List.mem_append_right _ (List.mem_append_right _ (List.mem_append_left _ (show _ ∈ my_204_3 from List.mem_of_getElem? (i := 33) rfl)))))
theorem cd_204_385 : mt_cd 204 385 = some (.lload 6) := mt_cd_of (q := (385, .lload 6, 2)) mq_204 ci_204 (List.mem_append_right _ (List.mem_append_right _ (List.mem_append_right _ (List.mem_append_left _ (show _ ∈ my_204_3 from List.mem_of_getElem? (i := 34) rfl)))))
theorem cd_204_387 : mt_cd 204 387 = some (.lcmp) := mt_cd_of (q := (387, .lcmp, 1)) mq_204 ci_204 (List.mem_append_right _ (List.mem_append_right _ (List.mem_append_right _ (List.mem_append_left _ (show _ ∈ my_204_3 from List.mem_of_getElem? (i := 35) rfl)))))
theorem cd_204_388 : mt_cd 204 388 = some (.ifCond .eq 5) := mt_cd_of (q := (388, .ifCond .eq 5, 3)) mq_204 ci_204 (List.mem_append_right _ (List.mem_append_right _ (List.mem_append_right _ (List.mem_append_left _ (show _ ∈ my_204_3 from List.mem_of_getElem? (i := 36) rfl)))))
theorem cd_204_391 : mt_cd 204 391 = some (.iconst 0) := mt_cd_of (q := (391, .iconst 0, 1)) mq_204 ci_204 (List.mem_append_right _ (List.mem_append_right _ (List.mem_append_right _ (List.mem_append_left _ (show _ ∈ my_204_3 from List.mem_of_getElem? (i := 37) rfl)))))
theorem cd_204_392 : mt_cd 204 392 = some (.ireturn) := mt_cd_of (q := (392, .ireturn, 1)) mq_204 ci_204 (List.mem_append_right _ (List.mem_append_right _ (List.mem_append_right _ (List.mem_append_left _ (show _ ∈ my_204_3 from List.mem_of_getElem? (i := 38) rfl)))))
theorem cd_204_393 : mt_cd 204 393 = some (.goto 772) := mt_cd_of (q := (393, .goto 772, 3)) mq_204 ci_204 (List.mem_append_right _ (List.mem_append_right _ (List.mem_append_right _ (List.mem_append_left _ (show _ ∈ my_204_3 from List.mem_of_getElem? (i := 39) rfl)))))
theorem cd_204_396 : mt_cd 204 396 = some (.aload_n 1) := mt_cd_of (q := (396, .aload_n 1, 1)) mq_204 ci_204 (List.mem_append_right _ (List.mem_append_right _ (List.mem_append_right _ (List.mem_append_left _ (show _ ∈ my_204_3 from List.mem_of_getElem? (i := 40) rfl)))))
theorem cd_204_397 : mt_cd 204 397 = some (.aload_n 0) := mt_cd_of (q := (397, .aload_n 0, 1)) mq_204 ci_204 (List.mem_append_right _ (List.mem_append_right _ (List.mem_append_right _ (List.mem_append_left _ (show _ ∈ my_204_3 from List.mem_of_getElem? (i := 41) rfl)))))
theorem cd_204_398 : mt_cd 204 398 = some (.iload 4) := mt_cd_of (q := (398, .iload 4, 2)) mq_204 ci_204 (List.mem_append_right _ (List.mem_append_right _ (List.mem_append_right _ (List.mem_append_left _ (show _ ∈ my_204_3 from List.mem_of_getElem? (i := 42) rfl)))))
theorem cd_204_400 : mt_cd 204 400 = some (.iconst 1) := mt_cd_of (q := (400, .iconst 1, 1)) mq_204 ci_204 (List.mem_append_right _ (List.mem_append_right _ (List.mem_append_right _ (List.mem_append_left _ (show _ ∈ my_204_3 from List.mem_of_getElem? (i := 43) rfl)))))
theorem cd_204_401 : mt_cd 204 401 = some (.iadd) := mt_cd_of (q := (401, .iadd, 1)) mq_204 ci_204 (List.mem_append_right _ (List.mem_append_right _ (List.mem_append_right _ (List.mem_append_left _ (show _ ∈ my_204_3 from List.mem_of_getElem? (i := 44) rfl)))))
theorem cd_204_402 : mt_cd 204 402 = some (.iaload) := mt_cd_of (q := (402, .iaload, 1)) mq_204 ci_204 (List.mem_append_right _ (List.mem_append_right _ (List.mem_append_right _ (List.mem_append_left _ (show _ ∈ my_204_3 from List.mem_of_getElem? (i := 45) rfl)))))
theorem cd_204_403 : mt_cd 204 403 = some (.aload_n 0) := mt_cd_of (q := (403, .aload_n 0, 1)) mq_204 ci_204 (List.mem_append_right _ (List.mem_append_right _ (List.mem_append_right _ (List.mem_append_left _ (show _ ∈ my_204_3 from List.mem_of_getElem? (i := 46) rfl)))))
theorem cd_204_404 : mt_cd 204 404 = some (.iload 4) := mt_cd_of (q := (404, .iload 4, 2)) mq_204 ci_204 (List.mem_append_right _ (List.mem_append_right _ (List.mem_append_right _ (List.mem_append_left _ (show _ ∈ my_204_3 from List.mem_of_getElem? (i := 47) rfl)))))
theorem cd_204_406 : mt_cd 204 406 = some (.iconst 2) := mt_cd_of (q := (406, .iconst 2, 1)) mq_204 ci_204 (List.mem_append_right _ (List.mem_append_right _ (List.mem_append_right _ (List.mem_append_left _ (show _ ∈ my_204_3 from List.mem_of_getElem? (i := 48) rfl)))))
theorem cd_204_407 : mt_cd 204 407 = some (.iadd) := mt_cd_of (q := (407, .iadd, 1)) mq_204 ci_204 (List.mem_append_right _ (List.mem_append_right _ (List.mem_append_right _ (List.mem_append_left _ (show _ ∈ my_204_3 from List.mem_of_getElem? (i := 49) rfl)))))
theorem cd_204_408 : mt_cd 204 408 = some (.iaload) := mt_cd_of (q := (408, .iaload, 1)) mq_204 ci_204 (List.mem_append_right _ (List.mem_append_right _ (List.mem_append_right _ (List.mem_append_left _ (show _ ∈ my_204_3 from List.mem_of_getElem? (i := 50) rfl)))))
theorem cd_204_409 : mt_cd 204 409 = some (.aload_n 0) := mt_cd_of (q := (409, .aload_n 0, 1)) mq_204 ci_204 (List.mem_append_right _ (List.mem_append_right _ (List.mem_append_right _ (List.mem_append_left _ (show _ ∈ my_204_3 from List.mem_of_getElem? (i := 51) rfl)))))
theorem cd_204_410 : mt_cd 204 410 = some (.iload 4) := mt_cd_of (q := (410, .iload 4, 2)) mq_204 ci_204 (List.mem_append_right _ (List.mem_append_right _ (List.mem_append_right _ (List.mem_append_left _ (show _ ∈ my_204_3 from List.mem_of_getElem? (i := 52) rfl)))))
theorem cd_204_412 : mt_cd 204 412 = some (.iconst 3) := mt_cd_of (q := (412, .iconst 3, 1)) mq_204 ci_204 (List.mem_append_right _ (List.mem_append_right _ (List.mem_append_right _ (List.mem_append_left _ (show _ ∈ my_204_3 from List.mem_of_getElem? (i := 53) rfl)))))
theorem cd_204_413 : mt_cd 204 413 = some (.iadd) := mt_cd_of (q := (413, .iadd, 1)) mq_204 ci_204 (List.mem_append_right _ (List.mem_append_right _ (List.mem_append_right _ (List.mem_append_left _ (show _ ∈ my_204_3 from List.mem_of_getElem? (i := 54) rfl)))))
theorem cd_204_414 : mt_cd 204 414 = some (.iaload) := mt_cd_of (q := (414, .iaload, 1)) mq_204 ci_204 (List.mem_append_right _ (List.mem_append_right _ (List.mem_append_right _ (List.mem_append_left _ (show _ ∈ my_204_3 from List.mem_of_getElem? (i := 55) rfl)))))
theorem cd_204_415 : mt_cd 204 415 = some (.aload_n 0) := mt_cd_of (q := (415, .aload_n 0, 1)) mq_204 ci_204 (List.mem_append_right _ (List.mem_append_right _ (List.mem_append_right _ (List.mem_append_left _ (show _ ∈ my_204_3 from List.mem_of_getElem? (i := 56) rfl)))))
theorem cd_204_416 : mt_cd 204 416 = some (.iload 4) := mt_cd_of (q := (416, .iload 4, 2)) mq_204 ci_204 (List.mem_append_right _ (List.mem_append_right _ (List.mem_append_right _ (List.mem_append_left _ (show _ ∈ my_204_3 from List.mem_of_getElem? (i := 57) rfl)))))
theorem cd_204_418 : mt_cd 204 418 = some (.iconst 4) := mt_cd_of (q := (418, .iconst 4, 1)) mq_204 ci_204 (List.mem_append_right _ (List.mem_append_right _ (List.mem_append_right _ (List.mem_append_left _ (show _ ∈ my_204_3 from List.mem_of_getElem? (i := 58) rfl)))))
theorem cd_204_419 : mt_cd 204 419 = some (.iadd) := mt_cd_of (q := (419, .iadd, 1)) mq_204 ci_204 (List.mem_append_right _ (List.mem_append_right _ (List.mem_append_right _ (List.mem_append_left _ (show _ ∈ my_204_3 from List.mem_of_getElem? (i := 59) rfl)))))
theorem cd_204_420 : mt_cd 204 420 = some (.iaload) := mt_cd_of (q := (420, .iaload, 1)) mq_204 ci_204 (List.mem_append_right _ (List.mem_append_right _ (List.mem_append_right _ (List.mem_append_right _ (List.mem_append_left _ (show _ ∈ my_204_4 from List.mem_of_getElem? (i := 0) rfl))))))
theorem cd_204_421 : mt_cd 204 421 = some (.i2l) := mt_cd_of (q := (421, .i2l, 1)) mq_204 ci_204 (List.mem_append_right _ (List.mem_append_right _ (List.mem_append_right _ (List.mem_append_right _ (List.mem_append_left _ (show _ ∈ my_204_4 from List.mem_of_getElem? (i := 1) rfl))))))
theorem cd_204_422 : mt_cd 204 422 = some (.bipush 32) := mt_cd_of (q := (422, .bipush 32, 2)) mq_204 ci_204 (List.mem_append_right _ (List.mem_append_right _ (List.mem_append_right _ (List.mem_append_right _ (List.mem_append_left _ (show _ ∈ my_204_4 from List.mem_of_getElem? (i := 2) rfl))))))
theorem cd_204_424 : mt_cd 204 424 = some (.lshl) := mt_cd_of (q := (424, .lshl, 1)) mq_204 ci_204 (List.mem_append_right _ (List.mem_append_right _ (List.mem_append_right _ (List.mem_append_right _ (List.mem_append_left _ (show _ ∈ my_204_4 from List.mem_of_getElem? (i := 3) rfl))))))
theorem cd_204_425 : mt_cd 204 425 = some (.aload_n 0) := mt_cd_of (q := (425, .aload_n 0, 1)) mq_204 ci_204 (List.mem_append_right _ (List.mem_append_right _ (List.mem_append_right _ (List.mem_append_right _ (List.mem_append_left _ (show _ ∈ my_204_4 from List.mem_of_getElem? (i := 4) rfl))))))
theorem cd_204_426 : mt_cd 204 426 = some (.iload 4) := mt_cd_of (q := (426, .iload 4, 2)) mq_204 ci_204 (List.mem_append_right _ (List.mem_append_right _ (List.mem_append_right _ (List.mem_append_right _ (List.mem_append_left _ (show _ ∈ my_204_4 from List.mem_of_getElem? (i := 5) rfl))))))
theorem cd_204_428 : mt_cd 204 428 = some (.iconst 5) := mt_cd_of (q := (428, .iconst 5, 1)) mq_204 ci_204 (List.mem_append_right _ (List.mem_append_right _ (List.mem_append_right _ (List.mem_append_right _ (List.mem_append_left _ (show _ ∈ my_204_4 from List.mem_of_getElem? (i := 6) rfl))))))
theorem cd_204_429 : mt_cd 204 429 = some (.iadd) := mt_cd_of (q := (429, .iadd, 1)) mq_204 ci_204 (List.mem_append_right _ (List.mem_append_right _ (List.mem_append_right _ (List.mem_append_right _ (List.mem_append_left _ (show _ ∈ my_204_4 from List.mem_of_getElem? (i := 7) rfl))))))
theorem cd_204_430 : mt_cd 204 430 = some (.iaload) := mt_cd_of (q := (430, .iaload, 1)) mq_204 ci_204 (List.mem_append_right _ (List.mem_append_right _ (List.mem_append_right _ (List.mem_append_right _ (List.mem_append_left _ (show _ ∈ my_204_4 from List.mem_of_getElem? (i := 8) rfl))))))
theorem cd_204_431 : mt_cd 204 431 = some (.i2l) := mt_cd_of (q := (431, .i2l, 1)) mq_204 ci_204 (List.mem_append_right _ (List.mem_append_right _ (List.mem_append_right _ (List.mem_append_right _ (List.mem_append_left _ (show _ ∈ my_204_4 from List.mem_of_getElem? (i := 9) rfl))))))
theorem cd_204_432 : mt_cd 204 432 = some (.ldc2_w 86) := mt_cd_of (q := (432, .ldc2_w 86, 3)) mq_204 ci_204 (List.mem_append_right _ (List.mem_append_right _ (List.mem_append_right _ (List.mem_append_right _ (List.mem_append_left _ (show _ ∈ my_204_4 from List.mem_of_getElem? (i := 10) rfl))))))
theorem cd_204_435 : mt_cd 204 435 = some (.land) := mt_cd_of (q := (435, .land, 1)) mq_204 ci_204 (List.mem_append_right _ (List.mem_append_right _ (List.mem_append_right _ (List.mem_append_right _ (List.mem_append_left _ (show _ ∈ my_204_4 from List.mem_of_getElem? (i := 11) rfl))))))
theorem cd_204_436 : mt_cd 204 436 = some (.lor) := mt_cd_of (q := (436, .lor, 1)) mq_204 ci_204 (List.mem_append_right _ (List.mem_append_right _ (List.mem_append_right _ (List.mem_append_right _ (List.mem_append_left _ (show _ ∈ my_204_4 from List.mem_of_getElem? (i := 12) rfl))))))
theorem cd_204_437 : mt_cd 204 437 = some (.aload_n 3) := mt_cd_of (q := (437, .aload_n 3, 1)) mq_204 ci_204 (List.mem_append_right _ (List.mem_append_right _ (List.mem_append_right _ (List.mem_append_right _ (List.mem_append_left _ (show _ ∈ my_204_4 from List.mem_of_getElem? (i := 13) rfl))))))
theorem cd_204_438 : mt_cd 204 438 = some (.invokestatic 92) := mt_cd_of (q := (438, .invokestatic 92, 3)) mq_204 ci_204 (List.mem_append_right _ (List.mem_append_right _ (List.mem_append_right _ (List.mem_append_right _ (List.mem_append_left _ (show _ ∈ my_204_4 from List.mem_of_getElem? (i := 14) rfl))))))
theorem cd_204_441 : mt_cd 204 441 = some (.istore 5) := mt_cd_of (q := (441, .istore 5, 2)) mq_204 ci_204 (List.mem_append_right _ (List.mem_append_right _ (List.mem_append_right _ (List.mem_append_right _ (List.mem_append_left _ (show _ ∈ my_204_4 from List.mem_of_getElem? (i := 15) rfl))))))
theorem cd_204_443 : mt_cd 204 443 = some (.aload_n 2) := mt_cd_of (q := (443, .aload_n 2, 1)) mq_204 ci_204 (List.mem_append_right _ (List.mem_append_right _ (List.mem_append_right _ (List.mem_append_right _ (List.mem_append_left _ (show _ ∈ my_204_4 from List.mem_of_getElem? (i := 16) rfl))))))
theorem cd_204_444 : mt_cd 204 444 = some (.aload_n 0) := mt_cd_of (q := (444, .aload_n 0, 1)) mq_204 ci_204 (List.mem_append_right _ (List.mem_append_right _ (List.mem_append_right _ (List.mem_append_right _ (List.mem_append_left _ (show _ ∈ my_204_4 from List.mem_of_getElem? (i := 17) rfl))))))
theorem cd_204_445 : mt_cd 204 445 = some (.iload 4) := mt_cd_of (q := (445, .iload 4, 2)) mq_204 ci_204 (List.mem_append_right _ (List.mem_append_right _ (List.mem_append_right _ (List.mem_append_right _ (List.mem_append_left _ (show _ ∈ my_204_4 from List.mem_of_getElem? (i := 18) rfl))))))
theorem cd_204_447 : mt_cd 204 447 = some (.iconst 1) := mt_cd_of (q := (447, .iconst 1, 1)) mq_204 ci_204 (List.mem_append_right _ (List.mem_append_right _ (List.mem_append_right _ (List.mem_append_right _ (List.mem_append_left _ (show _ ∈ my_204_4 from List.mem_of_getElem? (i := 19) rfl))))))
theorem cd_204_448 : mt_cd 204 448 = some (.iadd) := mt_cd_of (q := (448, .iadd, 1)) mq_204 ci_204 (List.mem_append_right _ (List.mem_append_right _ (List.mem_append_right _ (List.mem_append_right _ (List.mem_append_left _ (show _ ∈ my_204_4 from List.mem_of_getElem? (i := 20) rfl))))))
theorem cd_204_449 : mt_cd 204 449 = some (.iaload) := mt_cd_of (q := (449, .iaload, 1)) mq_204 ci_204 (List.mem_append_right _ (List.mem_append_right _ (List.mem_append_right _ (List.mem_append_right _ (List.mem_append_left _ (show _ ∈ my_204_4 from List.mem_of_getElem? (i := 21) rfl))))))
theorem cd_204_450 : mt_cd 204 450 = some (.aload_n 0) := mt_cd_of (q := (450, .aload_n 0, 1)) mq_204 ci_204 (List.mem_append_right _ (List.mem_append_right _ (List.mem_append_right _ (List.mem_append_right _ (List.mem_append_left _ (show _ ∈ my_204_4 from List.mem_of_getElem? (i := 22) rfl))))))
theorem cd_204_451 : mt_cd 204 451 = some (.iload 4) := mt_cd_of (q := (451, .iload 4, 2)) mq_204 ci_204 (List.mem_append_right _ (List.mem_append_right _ (List.mem_append_right _ (List.mem_append_right _ (List.mem_append_left _ (show _ ∈ my_204_4 from List.mem_of_getElem? (i := 23) rfl))))))
theorem cd_204_453 : mt_cd 204 453 = some (.iconst 2) := mt_cd_of (q := (453, .iconst 2, 1)) mq_204 ci_204 (List.mem_append_right _ (List.mem_append_right _ (List.mem_append_right _ (List.mem_append_right _ (List.mem_append_left _ (show _ ∈ my_204_4 from List.mem_of_getElem? (i := 24) rfl))))))
theorem cd_204_454 : mt_cd 204 454 = some (.iadd) := mt_cd_of (q := (454, .iadd, 1)) mq_204 ci_204 (List.mem_append_right _ (List.mem_append_right _ (List.mem_append_right _ (List.mem_append_right _ (List.mem_append_left _ (show _ ∈ my_204_4 from List.mem_of_getElem? (i := 25) rfl))))))
theorem cd_204_455 : mt_cd 204 455 = some (.iaload) := mt_cd_of (q := (455, .iaload, 1)) mq_204 ci_204 (List.mem_append_right _ (List.mem_append_right _ (List.mem_append_right _ (List.mem_append_right _ (List.mem_append_left _ (show _ ∈ my_204_4 from List.mem_of_getElem? (i := 26) rfl))))))
theorem cd_204_456 : mt_cd 204 456 = some (.aload_n 0) := mt_cd_of (q := (456, .aload_n 0, 1)) mq_204 ci_204 (List.mem_append_right _ (List.mem_append_right _ (List.mem_append_right _ (List.mem_append_right _ (List.mem_append_left _ (show _ ∈ my_204_4 from List.mem_of_getElem? (i := 27) rfl))))))
theorem cd_204_457 : mt_cd 204 457 = some (.iload 4) := mt_cd_of (q := (457, .iload 4, 2)) mq_204 ci_204 (List.mem_append_right _ (List.mem_append_right _ (List.mem_append_right _ (List.mem_append_right _ (List.mem_append_left _ (show _ ∈ my_204_4 from List.mem_of_getElem? (i := 28) rfl))))))
theorem cd_204_459 : mt_cd 204 459 = some (.iconst 3) := mt_cd_of (q := (459, .iconst 3, 1)) mq_204 ci_204 (List.mem_append_right _ (List.mem_append_right _ (List.mem_append_right _ (List.mem_append_right _ (List.mem_append_left _ (show _ ∈ my_204_4 from List.mem_of_getElem? (i := 29) rfl))))))
theorem cd_204_460 : mt_cd 204 460 = some (.iadd) := mt_cd_of (q := (460, .iadd, 1)) mq_204 ci_204 (List.mem_append_right _ (List.mem_append_right _ (List.mem_append_right _ (List.mem_append_right _ (List.mem_append_left _ (show _ ∈ my_204_4 from List.mem_of_getElem? (i := 30) rfl))))))
theorem cd_204_461 : mt_cd 204 461 = some (.iaload) := mt_cd_of (q := (461, .iaload, 1)) mq_204 ci_204 (List.mem_append_right _ (List.mem_append_right _ (List.mem_append_right _ (List.mem_append_right _ (List.mem_append_left _ (show _ ∈ my_204_4 from List.mem_of_getElem? (i := 31) rfl))))))
theorem cd_204_462 : mt_cd 204 462 = some (.aload_n 0) := mt_cd_of (q := (462, .aload_n 0, 1)) mq_204 ci_204 (List.mem_append_right _ (List.mem_append_right _ (List.mem_append_right _ (List.mem_append_right _ (List.mem_append_left _ (show _ ∈ my_204_4 from List.mem_of_getElem? (i := 32) rfl))))))
theorem cd_204_463 : mt_cd 204 463 = some (.iload 4) := mt_cd_of (q := (463, .iload 4, 2)) mq_204 ci_204 (List.mem_append_right _ (List.mem_append_right _ (List.mem_append_right _ (List.mem_append_right _ (List.mem_append_left _ (show _ ∈ my_204_4 from List.mem_of_getElem? (i := 33) rfl))))))
theorem cd_204_465 : mt_cd 204 465 = some (.iconst 4) := mt_cd_of (q := (465, .iconst 4, 1)) mq_204 ci_204 (List.mem_append_right _ (List.mem_append_right _ (List.mem_append_right _ (List.mem_append_right _ (List.mem_append_left _ (show _ ∈ my_204_4 from List.mem_of_getElem? (i := 34) rfl))))))
theorem cd_204_466 : mt_cd 204 466 = some (.iadd) := mt_cd_of (q := (466, .iadd, 1)) mq_204 ci_204 (List.mem_append_right _ (List.mem_append_right _ (List.mem_append_right _ (List.mem_append_right _ (List.mem_append_left _ (show _ ∈ my_204_4 from List.mem_of_getElem? (i := 35) rfl))))))
theorem cd_204_467 : mt_cd 204 467 = some (.iaload) := mt_cd_of (q := (467, .iaload, 1)) mq_204 ci_204 (List.mem_append_right _ (List.mem_append_right _ (List.mem_append_right _ (List.mem_append_right _ (List.mem_append_left _ (show _ ∈ my_204_4 from List.mem_of_getElem? (i := 36) rfl))))))
theorem cd_204_468 : mt_cd 204 468 = some (.i2l) := mt_cd_of (q := (468, .i2l, 1)) mq_204 ci_204 (List.mem_append_right _ (List.mem_append_right _ (List.mem_append_right _ (List.mem_append_right _ (List.mem_append_left _ (show _ ∈ my_204_4 from List.mem_of_getElem? (i := 37) rfl))))))
theorem cd_204_469 : mt_cd 204 469 = some (.bipush 32) := mt_cd_of (q := (469, .bipush 32, 2)) mq_204 ci_204 (List.mem_append_right _ (List.mem_append_right _ (List.mem_append_right _ (List.mem_append_right _ (List.mem_append_left _ (show _ ∈ my_204_4 from List.mem_of_getElem? (i := 38) rfl))))))
theorem cd_204_471 : mt_cd 204 471 = some (.lshl) := mt_cd_of (q := (471, .lshl, 1)) mq_204 ci_204 (List.mem_append_right _ (List.mem_append_right _ (List.mem_append_right _ (List.mem_append_right _ (List.mem_append_left _ (show _ ∈ my_204_4 from List.mem_of_getElem? (i := 39) rfl))))))
theorem cd_204_472 : mt_cd 204 472 = some (.aload_n 0) := mt_cd_of (q := (472, .aload_n 0, 1)) mq_204 ci_204 (List.mem_append_right _ (List.mem_append_right _ (List.mem_append_right _ (List.mem_append_right _ (List.mem_append_left _ (show _ ∈ my_204_4 from List.mem_of_getElem? (i := 40) rfl))))))
theorem cd_204_473 : mt_cd 204 473 = some (.iload 4) := mt_cd_of (q := (473, .iload 4, 2)) mq_204 ci_204 (List.mem_append_right _ (List.mem_append_right _ (List.mem_append_right _ (List.mem_append_right _ (List.mem_append_left _ (show _ ∈ my_204_4 from List.mem_of_getElem? (i := 41) rfl))))))
theorem cd_204_475 : mt_cd 204 475 = some (.iconst 5) := mt_cd_of (q := (475, .iconst 5, 1)) mq_204 ci_204 (List.mem_append_right _ (List.mem_append_right _ (List.mem_append_right _ (List.mem_append_right _ (List.mem_append_left _ (show _ ∈ my_204_4 from List.mem_of_getElem? (i := 42) rfl))))))
theorem cd_204_476 : mt_cd 204 476 = some (.iadd) := mt_cd_of (q := (476, .iadd, 1)) mq_204 ci_204 (List.mem_append_right _ (List.mem_append_right _ (List.mem_append_right _ (List.mem_append_right _ (List.mem_append_left _ (show _ ∈ my_204_4 from List.mem_of_getElem? (i := 43) rfl))))))
theorem cd_204_477 : mt_cd 204 477 = some (.iaload) := mt_cd_of (q := (477, .iaload, 1)) mq_204 ci_204 (List.mem_append_right _ (List.mem_append_right _ (List.mem_append_right _ (List.mem_append_right _ (List.mem_append_left _ (show _ ∈ my_204_4 from List.mem_of_getElem? (i := 44) rfl))))))
theorem cd_204_478 : mt_cd 204 478 = some (.i2l) := mt_cd_of (q := (478, .i2l, 1)) mq_204 ci_204 (List.mem_append_right _ (List.mem_append_right _ (List.mem_append_right _ (List.mem_append_right _ (List.mem_append_left _ (show _ ∈ my_204_4 from List.mem_of_getElem? (i := 45) rfl))))))
theorem cd_204_479 : mt_cd 204 479 = some (.ldc2_w 86) := mt_cd_of (q := (479, .ldc2_w 86, 3)) mq_204 ci_204 (List.mem_append_right _ (List.mem_append_right _ (List.mem_append_right _ (List.mem_append_right _ (List.mem_append_left _ (show _ ∈ my_204_4 from List.mem_of_getElem? (i := 46) rfl))))))
theorem cd_204_482 : mt_cd 204 482 = some (.land) := mt_cd_of (q := (482, .land, 1)) mq_204 ci_204 (List.mem_append_right _ (List.mem_append_right _ (List.mem_append_right _ (List.mem_append_right _ (List.mem_append_left _ (show _ ∈ my_204_4 from List.mem_of_getElem? (i := 47) rfl))))))
theorem cd_204_483 : mt_cd 204 483 = some (.lor) := mt_cd_of (q := (483, .lor, 1)) mq_204 ci_204 (List.mem_append_right _ (List.mem_append_right _ (List.mem_append_right _ (List.mem_append_right _ (List.mem_append_left _ (show _ ∈ my_204_4 from List.mem_of_getElem? (i := 48) rfl))))))
theorem cd_204_484 : mt_cd 204 484 = some (.invokevirtual 95) := mt_cd_of (q := (484, .invokevirtual 95, 3)) mq_204 ci_204 (List.mem_append_right _ (List.mem_append_right _ (List.mem_append_right _ (List.mem_append_right _ (List.mem_append_left _ (show _ ∈ my_204_4 from List.mem_of_getElem? (i := 49) rfl))))))
theorem cd_204_487 : mt_cd 204 487 = some (.istore 6) := mt_cd_of (q := (487, .istore 6, 2)) mq_204 ci_204 (List.mem_append_right _ (List.mem_append_right _ (List.mem_append_right _ (List.mem_append_right _ (List.mem_append_left _ (show _ ∈ my_204_4 from List.mem_of_getElem? (i := 50) rfl))))))
theorem cd_204_489 : mt_cd 204 489 = some (.aload_n 2) := mt_cd_of (q := (489, .aload_n 2, 1)) mq_204 ci_204 (List.mem_append_right _ (List.mem_append_right _ (List.mem_append_right _ (List.mem_append_right _ (List.mem_append_left _ (show _ ∈ my_204_4 from List.mem_of_getElem? (i := 51) rfl))))))
theorem cd_204_490 : mt_cd 204 490 = some (.invokevirtual 75) := mt_cd_of (q := (490, .invokevirtual 75, 3)) mq_204 ci_204 (List.mem_append_right _ (List.mem_append_right _ (List.mem_append_right _ (List.mem_append_right _ (List.mem_append_left _ (show _ ∈ my_204_4 from List.mem_of_getElem? (i := 52) rfl))))))
theorem cd_204_493 : mt_cd 204 493 = some (.iload 5) := mt_cd_of (q := (493, .iload 5, 2)) mq_204 ci_204 (List.mem_append_right _ (List.mem_append_right _ (List.mem_append_right _ (List.mem_append_right _ (List.mem_append_left _ (show _ ∈ my_204_4 from List.mem_of_getElem? (i := 53) rfl))))))
theorem cd_204_495 : mt_cd 204 495 = some (.if_icmp .eq 5) := mt_cd_of (q := (495, .if_icmp .eq 5, 3)) mq_204 ci_204 (List.mem_append_right _ (List.mem_append_right _ (List.mem_append_right _ (List.mem_append_right _ (List.mem_append_left _ (show _ ∈ my_204_4 from List.mem_of_getElem? (i := 54) rfl))))))
theorem cd_204_498 : mt_cd 204 498 = some (.iconst 0) := mt_cd_of (q := (498, .iconst 0, 1)) mq_204 ci_204 (List.mem_append_right _ (List.mem_append_right _ (List.mem_append_right _ (List.mem_append_right _ (List.mem_append_left _ (show _ ∈ my_204_4 from List.mem_of_getElem? (i := 55) rfl))))))
theorem cd_204_499 : mt_cd 204 499 = some (.ireturn) := mt_cd_of (q := (499, .ireturn, 1)) mq_204 ci_204 (List.mem_append_right _ (List.mem_append_right _ (List.mem_append_right _ (List.mem_append_right _ (List.mem_append_left _ (show _ ∈ my_204_4 from List.mem_of_getElem? (i := 56) rfl))))))
theorem cd_204_500 : mt_cd 204 500 = some (.iload 5) := mt_cd_of (q := (500, .iload 5, 2)) mq_204 ci_204 (List.mem_append_right _ (List.mem_append_right _ (List.mem_append_right _ (List.mem_append_right _ (List.mem_append_left _ (show _ ∈ my_204_4 from List.mem_of_getElem? (i := 57) rfl))))))
theorem cd_204_502 : mt_cd 204 502 = some (.ifCond .ne 15) := mt_cd_of (q := (502, .ifCond .ne 15, 3)) mq_204 ci_204 (List.mem_append_right _ (List.mem_append_right _ (List.mem_append_right _ (List.mem_append_right _ (List.mem_append_left _ (show _ ∈ my_204_4 from List.mem_of_getElem? (i := 58) rfl))))))
theorem cd_204_505 : mt_cd 204 505 = some (.aload_n 3) := mt_cd_of (q := (505, .aload_n 3, 1)) mq_204 ci_204 (List.mem_append_right _ (List.mem_append_right _ (List.mem_append_right _ (List.mem_append_right _ (List.mem_append_left _ (show _ ∈ my_204_4 from List.mem_of_getElem? (i := 59) rfl))))))
theorem cd_204_506 : mt_cd 204 506 = some (.iconst 0) := mt_cd_of (q := (506, .iconst 0, 1)) mq_204 ci_204 (List.mem_append_right _ (List.mem_append_right _ (List.mem_append_right _ (List.mem_append_right _ (List.mem_append_right _ (List.mem_append_left _ (show _ ∈ my_204_5 from List.mem_of_getElem? (i := 0) rfl)))))))
theorem cd_204_507 : mt_cd 204 507 = some (.laload) := mt_cd_of (q := (507, .laload, 1)) mq_204 ci_204 (List.mem_append_right _ (List.mem_append_right _ (List.mem_append_right _ (List.mem_append_right _ (List.mem_append_right _ (List.mem_append_left _ (show _ ∈ my_204_5 from List.mem_of_getElem? (i := 1) rfl)))))))
theorem cd_204_508 : mt_cd 204 508 = some (.iload 6) := mt_cd_of (q := (508, .iload 6, 2)) mq_204 ci_204 (List.mem_append_right _ (List.mem_append_right _ (List.mem_append_right _ (List.mem_append_right _ (List.mem_append_right _ (List.mem_append_left _ (show _ ∈ my_204_5 from List.mem_of_getElem? (i := 2) rfl)))))))
theorem cd_204_510 : mt_cd 204 510 = some (.i2l) := mt_cd_of (q := (510, .i2l, 1)) mq_204 ci_204 (List.mem_append_right _ (List.mem_append_right _ (List.mem_append_right _ (List.mem_append_right _ (List.mem_append_right _ (List.mem_append_left _ (show _ ∈ my_204_5 from List.mem_of_getElem? (i := 3) rfl)))))))
theorem cd_204_511 : mt_cd 204 511 = some (.lcmp) := mt_cd_of (q := (511, .lcmp, 1)) mq_204 ci_204 (List.mem_append_right _ (List.mem_append_right _ (List.mem_append_right _ (List.mem_append_right _ (List.mem_append_right _ (List.mem_append_left _ (show _ ∈ my_204_5 from List.mem_of_getElem? (i := 4) rfl)))))))
theorem cd_204_512 : mt_cd 204 512 = some (.ifCond .eq 5) := mt_cd_of (q := (512, .ifCond .eq 5, 3)) mq_204 ci_204 (List.mem_append_right _ (List.mem_append_right _ (List.mem_append_right _ (List.mem_append_right _ (List.mem_append_right _ (List.mem_append_left _ (show _ ∈ my_204_5 from List.mem_of_getElem? (i := 5) rfl)))))))
theorem cd_204_515 : mt_cd 204 515 = some (.iconst 0) := mt_cd_of (q := (515, .iconst 0, 1)) mq_204 ci_204 (List.mem_append_right _ (List.mem_append_right _ (List.mem_append_right _ (List.mem_append_right _ (List.mem_append_right _ (List.mem_append_left _ (show _ ∈ my_204_5 from List.mem_of_getElem? (i := 6) rfl)))))))
theorem cd_204_516 : mt_cd 204 516 = some (.ireturn) := mt_cd_of (q := (516, .ireturn, 1)) mq_204 ci_204 (List.mem_append_right _ (List.mem_append_right _ (List.mem_append_right _ (List.mem_append_right _ (List.mem_append_right _ (List.mem_append_left _ (show _ ∈ my_204_5 from List.mem_of_getElem? (i := 7) rfl)))))))
theorem cd_204_517 : mt_cd 204 517 = some (.goto 648) := mt_cd_of (q := (517, .goto 648, 3)) mq_204 ci_204 (List.mem_append_right _ (List.mem_append_right _ (List.mem_append_right _ (List.mem_append_right _ (List.mem_append_right _ (List.mem_append_left _ (show _ ∈ my_204_5 from List.mem_of_getElem? (i := 8) rfl)))))))
theorem cd_204_520 : mt_cd 204 520 = some (.aload_n 1) := mt_cd_of (q := (520, .aload_n 1, 1)) mq_204 ci_204 (List.mem_append_right _ (List.mem_append_right _ (List.mem_append_right _ (List.mem_append_right _ (List.mem_append_right _ (List.mem_append_left _ (show _ ∈ my_204_5 from List.mem_of_getElem? (i := 9) rfl)))))))
theorem cd_204_521 : mt_cd 204 521 = some (.aload_n 0) := mt_cd_of (q := (521, .aload_n 0, 1)) mq_204 ci_204 (List.mem_append_right _ (List.mem_append_right _ (List.mem_append_right _ (List.mem_append_right _ (List.mem_append_right _ (List.mem_append_left _ (show _ ∈ my_204_5 from List.mem_of_getElem? (i := 10) rfl)))))))
theorem cd_204_522 : mt_cd 204 522 = some (.iload 4) := mt_cd_of (q := (522, .iload 4, 2)) mq_204 ci_204 (List.mem_append_right _ (List.mem_append_right _ (List.mem_append_right _ (List.mem_append_right _ (List.mem_append_right _ (List.mem_append_left _ (show _ ∈ my_204_5 from List.mem_of_getElem? (i := 11) rfl)))))))
theorem cd_204_524 : mt_cd 204 524 = some (.iconst 1) := mt_cd_of (q := (524, .iconst 1, 1)) mq_204 ci_204 (List.mem_append_right _ (List.mem_append_right _ (List.mem_append_right _ (List.mem_append_right _ (List.mem_append_right _ (List.mem_append_left _ (show _ ∈ my_204_5 from List.mem_of_getElem? (i := 12) rfl)))))))
theorem cd_204_525 : mt_cd 204 525 = some (.iadd) := mt_cd_of (q := (525, .iadd, 1)) mq_204 ci_204 (List.mem_append_right _ (List.mem_append_right _ (List.mem_append_right _ (List.mem_append_right _ (List.mem_append_right _ (List.mem_append_left _ (show _ ∈ my_204_5 from List.mem_of_getElem? (i := 13) rfl)))))))
theorem cd_204_526 : mt_cd 204 526 = some (.iaload) := mt_cd_of (q := (526, .iaload, 1)) mq_204 ci_204 (List.mem_append_right _ (List.mem_append_right _ (List.mem_append_right _ (List.mem_append_right _ (List.mem_append_right _ (List.mem_append_left _ (show _ ∈ my_204_5 from List.mem_of_getElem? (i := 14) rfl)))))))
theorem cd_204_527 : mt_cd 204 527 = some (.aload_n 0) := mt_cd_of (q := (527, .aload_n 0, 1)) mq_204 ci_204 (List.mem_append_right _ (List.mem_append_right _ (List.mem_append_right _ (List.mem_append_right _ (List.mem_append_right _ (List.mem_append_left _ (show _ ∈ my_204_5 from List.mem_of_getElem? (i := 15) rfl)))))))
theorem cd_204_528 : mt_cd 204 528 = some (.iload 4) := mt_cd_of (q := (528, .iload 4, 2)) mq_204 ci_204 (List.mem_append_right _ (List.mem_append_right _ (List.mem_append_right _ (List.mem_append_right _ (List.mem_append_right _ (List.mem_append_left _ (show _ ∈ my_204_5 from List.mem_of_getElem? (i := 16) rfl)))))))
theorem cd_204_530 : mt_cd 204 530 = some (.iconst 2) := mt_cd_of (q := (530, .iconst 2, 1)) mq_204 ci_204 (List.mem_append_right _ (List.mem_append_right _ (List.mem_append_right _ (List.mem_append_right _ (List.mem_append_right _ (List.mem_append_left _ (show _ ∈ my_204_5 from List.mem_of_getElem? (i := 17) rfl)))))))
theorem cd_204_531 : mt_cd 204 531 = some (.iadd) := mt_cd_of (q := (531, .iadd, 1)) mq_204 ci_204 (List.mem_append_right _ (List.mem_append_right _ (List.mem_append_right _ (List.mem_append_right _ (List.mem_append_right _ (List.mem_append_left _ (show _ ∈ my_204_5 from List.mem_of_getElem? (i := 18) rfl)))))))
theorem cd_204_532 : mt_cd 204 532 = some (.iaload) := mt_cd_of (q := (532, .iaload, 1)) mq_204 ci_204 (List.mem_append_right _ (List.mem_append_right _ (List.mem_append_right _ (List.mem_append_right _ (List.mem_append_right _ (List.mem_append_left _ (show _ ∈ my_204_5 from List.mem_of_getElem? (i := 19) rfl)))))))
theorem cd_204_533 : mt_cd 204 533 = some (.i2l) := mt_cd_of (q := (533, .i2l, 1)) mq_204 ci_204 (List.mem_append_right _ (List.mem_append_right _ (List.mem_append_right _ (List.mem_append_right _ (List.mem_append_right _ (List.mem_append_left _ (show _ ∈ my_204_5 from List.mem_of_getElem? (i := 20) rfl)))))))
theorem cd_204_534 : mt_cd 204 534 = some (.bipush 32) := mt_cd_of (q := (534, .bipush 32, 2)) mq_204 ci_204 (List.mem_append_right _ (List.mem_append_right _ (List.mem_append_right _ (List.mem_append_right _ (List.mem_append_right _ (List.mem_append_left _ (show _ ∈ my_204_5 from List.mem_of_getElem? (i := 21) rfl)))))))
theorem cd_204_536 : mt_cd 204 536 = some (.lshl) := mt_cd_of (q := (536, .lshl, 1)) mq_204 ci_204 (List.mem_append_right _ (List.mem_append_right _ (List.mem_append_right _ (List.mem_append_right _ (List.mem_append_right _ (List.mem_append_left _ (show _ ∈ my_204_5 from List.mem_of_getElem? (i := 22) rfl)))))))
theorem cd_204_537 : mt_cd 204 537 = some (.aload_n 0) := mt_cd_of (q := (537, .aload_n 0, 1)) mq_204 ci_204 (List.mem_append_right _ (List.mem_append_right _ (List.mem_append_right _ (List.mem_append_right _ (List.mem_append_right _ (List.mem_append_left _ (show _ ∈ my_204_5 from List.mem_of_getElem? (i := 23) rfl)))))))
theorem cd_204_538 : mt_cd 204 538 = some (.iload 4) := mt_cd_of (q := (538, .iload 4, 2)) mq_204 ci_204 (List.mem_append_right _ (List.mem_append_right _ (List.mem_append_right _ (List.mem_append_right _ (List.mem_append_right _ (List.mem_append_left _ (show _ ∈ my_204_5 from List.mem_of_getElem? (i := 24) rfl)))))))
theorem cd_204_540 : mt_cd 204 540 = some (.iconst 3) := mt_cd_of (q := (540, .iconst 3, 1)) mq_204 ci_204 (List.mem_append_right _ (List.mem_append_right _ (List.mem_append_right _ (List.mem_append_right _ (List.mem_append_right _ (List.mem_append_left _ (show _ ∈ my_204_5 from List.mem_of_getElem? (i := 25) rfl)))))))
theorem cd_204_541 : mt_cd 204 541 = some (.iadd) := mt_cd_of (q := (541, .iadd, 1)) mq_204 ci_204 (List.mem_append_right _ (List.mem_append_right _ (List.mem_append_right _ (List.mem_append_right _ (List.mem_append_right _ (List.mem_append_left _ (show _ ∈ my_204_5 from List.mem_of_getElem? (i := 26) rfl)))))))
theorem cd_204_542 : mt_cd 204 542 = some (.iaload) := mt_cd_of (q := (542, .iaload, 1)) mq_204 ci_204 (List.mem_append_right _ (List.mem_append_right _ (List.mem_append_right _ (List.mem_append_right _ (List.mem_append_right _ (List.mem_append_left _ (show _ ∈ my_204_5 from List.mem_of_getElem? (i := 27) rfl)))))))
theorem cd_204_543 : mt_cd 204 543 = some (.i2l) := mt_cd_of (q := (543, .i2l, 1)) mq_204 ci_204 (List.mem_append_right _ (List.mem_append_right _ (List.mem_append_right _ (List.mem_append_right _ (List.mem_append_right _ (List.mem_append_left _ (show _ ∈ my_204_5 from List.mem_of_getElem? (i := 28) rfl)))))))
theorem cd_204_544 : mt_cd 204 544 = some (.ldc2_w 86) := mt_cd_of (q := (544, .ldc2_w 86, 3)) mq_204 ci_204 (List.mem_append_right _ (List.mem_append_right _ (List.mem_append_right _ (List.mem_append_right _ (List.mem_append_right _ (List.mem_append_left _ (show _ ∈ my_204_5 from List.mem_of_getElem? (i := 29) rfl)))))))
theorem cd_204_547 : mt_cd 204 547 = some (.land) := mt_cd_of (q := (547, .land, 1)) mq_204 ci_204 (List.mem_append_right _ (List.mem_append_right _ (List.mem_append_right _ (List.mem_append_right _ (List.mem_append_right _ (List.mem_append_left _ (show _ ∈ my_204_5 from List.mem_of_getElem? (i := 30) rfl)))))))
theorem cd_204_548 : mt_cd 204 548 = some (.lor) := mt_cd_of (q := (548, .lor, 1)) mq_204 ci_204 (List.mem_append_right _ (List.mem_append_right _ (List.mem_append_right _ (List.mem_append_right _ (List.mem_append_right _ (List.mem_append_left _ (show _ ∈ my_204_5 from List.mem_of_getElem? (i := 31) rfl)))))))
theorem cd_204_549 : mt_cd 204 549 = some (.aload_n 3) := mt_cd_of (q := (549, .aload_n 3, 1)) mq_204 ci_204 (List.mem_append_right _ (List.mem_append_right _ (List.mem_append_right _ (List.mem_append_right _ (List.mem_append_right _ (List.mem_append_left _ (show _ ∈ my_204_5 from List.mem_of_getElem? (i := 32) rfl)))))))
theorem cd_204_550 : mt_cd 204 550 = some (.invokestatic 96) := mt_cd_of (q := (550, .invokestatic 96, 3)) mq_204 ci_204 (List.mem_append_right _ (List.mem_append_right _ (List.mem_append_right _ (List.mem_append_right _ (List.mem_append_right _ (List.mem_append_left _ (show _ ∈ my_204_5 from List.mem_of_getElem? (i := 33) rfl)))))))
theorem cd_204_553 : mt_cd 204 553 = some (.istore 5) := mt_cd_of (q := (553, .istore 5, 2)) mq_204 ci_204 (List.mem_append_right _ (List.mem_append_right _ (List.mem_append_right _ (List.mem_append_right _ (List.mem_append_right _ (List.mem_append_left _ (show _ ∈ my_204_5 from List.mem_of_getElem? (i := 34) rfl)))))))
theorem cd_204_555 : mt_cd 204 555 = some (.aload_n 2) := mt_cd_of (q := (555, .aload_n 2, 1)) mq_204 ci_204 (List.mem_append_right _ (List.mem_append_right _ (List.mem_append_right _ (List.mem_append_right _ (List.mem_append_right _ (List.mem_append_left _ (show _ ∈ my_204_5 from List.mem_of_getElem? (i := 35) rfl)))))))
theorem cd_204_556 : mt_cd 204 556 = some (.aload_n 0) := mt_cd_of (q := (556, .aload_n 0, 1)) mq_204 ci_204 (List.mem_append_right _ (List.mem_append_right _ (List.mem_append_right _ (List.mem_append_right _ (List.mem_append_right _ (List.mem_append_left _ (show _ ∈ my_204_5 from List.mem_of_getElem? (i := 36) rfl)))))))
theorem cd_204_557 : mt_cd 204 557 = some (.iload 4) := mt_cd_of (q := (557, .iload 4, 2)) mq_204 ci_204 (List.mem_append_right _ (List.mem_append_right _ (List.mem_append_right _ (List.mem_append_right _ (List.mem_append_right _ (List.mem_append_left _ (show _ ∈ my_204_5 from List.mem_of_getElem? (i := 37) rfl)))))))
theorem cd_204_559 : mt_cd 204 559 = some (.iconst 1) := mt_cd_of (q := (559, .iconst 1, 1)) mq_204 ci_204 (List.mem_append_right _ (List.mem_append_right _ (List.mem_append_right _ (List.mem_append_right _ (List.mem_append_right _ (List.mem_append_left _ (show _ ∈ my_204_5 from List.mem_of_getElem? (i := 38) rfl)))))))
theorem cd_204_560 : mt_cd 204 560 = some (.iadd) := mt_cd_of (q := (560, .iadd, 1)) mq_204 ci_204 (List.mem_append_right _ (List.mem_append_right _ (List.mem_append_right _ (List.mem_append_right _ (List.mem_append_right _ (List.mem_append_left _ (show _ ∈ my_204_5 from List.mem_of_getElem? (i := 39) rfl)))))))
theorem cd_204_561 : mt_cd 204 561 = some (.iaload) := mt_cd_of (q := (561, .iaload, 1)) mq_204 ci_204 (List.mem_append_right _ (List.mem_append_right _ (List.mem_append_right _ (List.mem_append_right _ (List.mem_append_right _ (List.mem_append_left _ (show _ ∈ my_204_5 from List.mem_of_getElem? (i := 40) rfl)))))))
theorem cd_204_562 : mt_cd 204 562 = some (.aload_n 0) := mt_cd_of (q := (562, .aload_n 0, 1)) mq_204 ci_204 (List.mem_append_right _ (List.mem_append_right _ (List.mem_append_right _ (List.mem_append_right _ (List.mem_append_right _ (List.mem_append_left _ (show _ ∈ my_204_5 from List.mem_of_getElem? (i := 41) rfl)))))))
theorem cd_204_563 : mt_cd 204 563 = some (.iload 4) := mt_cd_of (q := (563, .iload 4, 2)) mq_204 ci_204 (List.mem_append_right _ (List.mem_append_right _ (List.mem_append_right _ (List.mem_append_right _ (List.mem_append_right _ (List.mem_append_left _ (show _ ∈ my_204_5 from List.mem_of_getElem? (i := 42) rfl)))))))
theorem cd_204_565 : mt_cd 204 565 = some (.iconst 2) := mt_cd_of (q := (565, .iconst 2, 1)) mq_204 ci_204 (List.mem_append_right _ (List.mem_append_right _ (List.mem_append_right _ (List.mem_append_right _ (List.mem_append_right _ (List.mem_append_left _ (show _ ∈ my_204_5 from List.mem_of_getElem? (i := 43) rfl)))))))
theorem cd_204_566 : mt_cd 204 566 = some (.iadd) := mt_cd_of (q := (566, .iadd, 1)) mq_204 ci_204 (List.mem_append_right _ (List.mem_append_right _ (List.mem_append_right _ (List.mem_append_right _ (List.mem_append_right _ (List.mem_append_left _ (show _ ∈ my_204_5 from List.mem_of_getElem? (i := 44) rfl)))))))
theorem cd_204_567 : mt_cd 204 567 = some (.iaload) := mt_cd_of (q := (567, .iaload, 1)) mq_204 ci_204 (List.mem_append_right _ (List.mem_append_right _ (List.mem_append_right _ (List.mem_append_right _ (List.mem_append_right _ (List.mem_append_left _ (show _ ∈ my_204_5 from List.mem_of_getElem? (i := 45) rfl)))))))
theorem cd_204_568 : mt_cd 204 568 = some (.i2l) := mt_cd_of (q := (568, .i2l, 1)) mq_204 ci_204 (List.mem_append_right _ (List.mem_append_right _ (List.mem_append_right _ (List.mem_append_right _ (List.mem_append_right _ (List.mem_append_left _ (show _ ∈ my_204_5 from List.mem_of_getElem? (i := 46) rfl)))))))
theorem cd_204_569 : mt_cd 204 569 = some (.bipush 32) := mt_cd_of (q := (569, .bipush 32, 2)) mq_204 ci_204 (List.mem_append_right _ (List.mem_append_right _ (List.mem_append_right _ (List.mem_append_right _ (List.mem_append_right _ (List.mem_append_left _ (show _ ∈ my_204_5 from List.mem_of_getElem? (i := 47) rfl)))))))
theorem cd_204_571 : mt_cd 204 571 = some (.lshl) := mt_cd_of (q := (571, .lshl, 1)) mq_204 ci_204 (List.mem_append_right _ (List.mem_append_right _ (List.mem_append_right _ (List.mem_append_right _ (List.mem_append_right _ (List.mem_append_left _ (show _ ∈ my_204_5 from List.mem_of_getElem? (i := 48) rfl)))))))
theorem cd_204_572 : mt_cd 204 572 = some (.aload_n 0) := mt_cd_of (q := (572, .aload_n 0, 1)) mq_204 ci_204 (List.mem_append_right _ (List.mem_append_right _ (List.mem_append_right _ (List.mem_append_right _ (List.mem_append_right _ (List.mem_append_left _ (show _ ∈ my_204_5 from List.mem_of_getElem? (i := 49) rfl)))))))
theorem cd_204_573 : mt_cd 204 573 = some (.iload 4) := mt_cd_of (q := (573, .iload 4, 2)) mq_204 ci_204 (List.mem_append_right _ (List.mem_append_right _ (List.mem_append_right _ (List.mem_append_right _ (List.mem_append_right _ (List.mem_append_left _ (show _ ∈ my_204_5 from List.mem_of_getElem? (i := 50) rfl)))))))
theorem cd_204_575 : mt_cd 204 575 = some (.iconst 3) := mt_cd_of (q := (575, .iconst 3, 1)) mq_204 ci_204 (List.mem_append_right _ (List.mem_append_right _ (List.mem_append_right _ (List.mem_append_right _ (List.mem_append_right _ (List.mem_append_left _ (show _ ∈ my_204_5 from List.mem_of_getElem? (i := 51) rfl)))))))
theorem cd_204_576 : mt_cd 204 576 = some (.iadd) := mt_cd_of (q := (576, .iadd, 1)) mq_204 ci_204 (List.mem_append_right _ (List.mem_append_right _ (List.mem_append_right _ (List.mem_append_right _ (List.mem_append_right _ (List.mem_append_left _ (show _ ∈ my_204_5 from List.mem_of_getElem? (i := 52) rfl)))))))
theorem cd_204_577 : mt_cd 204 577 = some (.iaload) := mt_cd_of (q := (577, .iaload, 1)) mq_204 ci_204 (List.mem_append_right _ (List.mem_append_right _ (List.mem_append_right _ (List.mem_append_right _ (List.mem_append_right _ (List.mem_append_left _ (show _ ∈ my_204_5 from List.mem_of_getElem? (i := 53) rfl)))))))
theorem cd_204_578 : mt_cd 204 578 = some (.i2l) := mt_cd_of (q := (578, .i2l, 1)) mq_204 ci_204 (List.mem_append_right _ (List.mem_append_right _ (List.mem_append_right _ (List.mem_append_right _ (List.mem_append_right _ (List.mem_append_left _ (show _ ∈ my_204_5 from List.mem_of_getElem? (i := 54) rfl)))))))
theorem cd_204_579 : mt_cd 204 579 = some (.ldc2_w 86) := mt_cd_of (q := (579, .ldc2_w 86, 3)) mq_204 ci_204 (List.mem_append_right _ (List.mem_append_right _ (List.mem_append_right _ (List.mem_append_right _ (List.mem_append_right _ (List.mem_append_left _ (show _ ∈ my_204_5 from List.mem_of_getElem? (i := 55) rfl)))))))
theorem cd_204_582 : mt_cd 204 582 = some (.land) := mt_cd_of (q := (582, .land, 1)) mq_204 ci_204 (List.mem_append_right _ (List.mem_append_right _ (List.mem_append_right _ (List.mem_append_right _ (List.mem_append_right _ (List.mem_append_left _ (show _ ∈ my_204_5 from List.mem_of_getElem? (i := 56) rfl)))))))
theorem cd_204_583 : mt_cd 204 583 = some (.lor) := mt_cd_of (q := (583, .lor, 1)) mq_204 ci_204 (List.mem_append_right _ (List.mem_append_right _ (List.mem_append_right _ (List.mem_append_right _ (List.mem_append_right _ (List.mem_append_left _ (show _ ∈ my_204_5 from List.mem_of_getElem? (i := 57) rfl)))))))
theorem cd_204_584 : mt_cd 204 584 = some (.invokevirtual 99) := mt_cd_of (q := (584, .invokevirtual 99, 3)) mq_204 ci_204 (List.mem_append_right _ (List.mem_append_right _ (List.mem_append_right _ (List.mem_append_right _ (List.mem_append_right _ (List.mem_append_left _ (show _ ∈ my_204_5 from List.mem_of_getElem? (i := 58) rfl)))))))
theorem cd_204_587 : mt_cd 204 587 = some (.istore 6) := mt_cd_of (q := (587, .istore 6, 2)) mq_204 ci_204 (List.mem_append_right _ (List.mem_append_right _ (List.mem_append_right _ (List.mem_append_right _ (List.mem_append_right _ (List.mem_append_left _ (show _ ∈ my_204_5 from List.mem_of_getElem? (i := 59) rfl)))))))
theorem cd_204_589 : mt_cd 204 589 = some (.aload_n 2) := mt_cd_of (q := (589, .aload_n 2, 1)) mq_204 ci_204 (List.mem_append_right _ (List.mem_append_right _ (List.mem_append_right _ (List.mem_append_right _ (List.mem_append_right _ (List.mem_append_right _ (List.mem_append_left _ (show _ ∈ my_204_6 from List.mem_of_getElem? (i := 0) rfl))))))))
theorem cd_204_590 : mt_cd 204 590 = some (.invokevirtual 75) := mt_cd_of (q := (590, .invokevirtual 75, 3)) mq_204 ci_204 (List.mem_append_right _ (List.mem_append_right _ (List.mem_append_right _ (List.mem_append_right _ (List.mem_append_right _ (List.mem_append_right _ (List.mem_append_left _ (show _ ∈ my_204_6 from List.mem_of_getElem? (i := 1) rfl))))))))
theorem cd_204_593 : mt_cd 204 593 = some (.iload 5) := mt_cd_of (q := (593, .iload 5, 2)) mq_204 ci_204 (List.mem_append_right _ (List.mem_append_right _ (List.mem_append_right _ (List.mem_append_right _ (List.mem_append_right _ (List.mem_append_right _ (List.mem_append_left _ (show _ ∈ my_204_6 from List.mem_of_getElem? (i := 2) rfl))))))))
theorem cd_204_595 : mt_cd 204 595 = some (.if_icmp .eq 5) := mt_cd_of (q := (595, .if_icmp .eq 5, 3)) mq_204 ci_204 (List.mem_append_right _ (List.mem_append_right _ (List.mem_append_right _ (List.mem_append_right _ (List.mem_append_right _ (List.mem_append_right _ (List.mem_append_left _ (show _ ∈ my_204_6 from List.mem_of_getElem? (i := 3) rfl))))))))
theorem cd_204_598 : mt_cd 204 598 = some (.iconst 0) := mt_cd_of (q := (598, .iconst 0, 1)) mq_204 ci_204 (List.mem_append_right _ (List.mem_append_right _ (List.mem_append_right _ (List.mem_append_right _ (List.mem_append_right _ (List.mem_append_right _ (List.mem_append_left _ (show _ ∈ my_204_6 from List.mem_of_getElem? (i := 4) rfl))))))))
theorem cd_204_599 : mt_cd 204 599 = some (.ireturn) := mt_cd_of (q := (599, .ireturn, 1)) mq_204 ci_204 (List.mem_append_right _ (List.mem_append_right _ (List.mem_append_right _ (List.mem_append_right _ (List.mem_append_right _ (List.mem_append_right _ (List.mem_append_left _ (show _ ∈ my_204_6 from List.mem_of_getElem? (i := 5) rfl))))))))
theorem cd_204_600 : mt_cd 204 600 = some (.iload 5) := mt_cd_of (q := (600, .iload 5, 2)) mq_204 ci_204 (List.mem_append_right _ (List.mem_append_right _ (List.mem_append_right _ (List.mem_append_right _ (List.mem_append_right _ (List.mem_append_right _ (List.mem_append_left _ (show _ ∈ my_204_6 from List.mem_of_getElem? (i := 6) rfl))))))))
theorem cd_204_602 : mt_cd 204 602 = some (.ifCond .ne 15) := mt_cd_of (q := (602, .ifCond .ne 15, 3)) mq_204 ci_204 (List.mem_append_right _ (List.mem_append_right _ (List.mem_append_right _ (List.mem_append_right _ (List.mem_append_right _ (List.mem_append_right _ (List.mem_append_left _ (show _ ∈ my_204_6 from List.mem_of_getElem? (i := 7) rfl))))))))
theorem cd_204_605 : mt_cd 204 605 = some (.aload_n 3) := mt_cd_of (q := (605, .aload_n 3, 1)) mq_204 ci_204 (List.mem_append_right _ (List.mem_append_right _ (List.mem_append_right _ (List.mem_append_right _ (List.mem_append_right _ (List.mem_append_right _ (List.mem_append_left _ (show _ ∈ my_204_6 from List.mem_of_getElem? (i := 8) rfl))))))))
theorem cd_204_606 : mt_cd 204 606 = some (.iconst 0) := mt_cd_of (q := (606, .iconst 0, 1)) mq_204 ci_204 (List.mem_append_right _ (List.mem_append_right _ (List.mem_append_right _ (List.mem_append_right _ (List.mem_append_right _ (List.mem_append_right _ (List.mem_append_left _ (show _ ∈ my_204_6 from List.mem_of_getElem? (i := 9) rfl))))))))
theorem cd_204_607 : mt_cd 204 607 = some (.laload) := mt_cd_of (q := (607, .laload, 1)) mq_204 ci_204 (List.mem_append_right _ (List.mem_append_right _ (List.mem_append_right _ (List.mem_append_right _ (List.mem_append_right _ (List.mem_append_right _ (List.mem_append_left _ (show _ ∈ my_204_6 from List.mem_of_getElem? (i := 10) rfl))))))))
theorem cd_204_608 : mt_cd 204 608 = some (.iload 6) := mt_cd_of (q := (608, .iload 6, 2)) mq_204 ci_204 (List.mem_append_right _ (List.mem_append_right _ (List.mem_append_right _ (List.mem_append_right _ (List.mem_append_right _ (List.mem_append_right _ (List.mem_append_left _ (show _ ∈ my_204_6 from List.mem_of_getElem? (i := 11) rfl))))))))
theorem cd_204_610 : mt_cd 204 610 = some (.i2l) := mt_cd_of (q := (610, .i2l, 1)) mq_204 ci_204 (List.mem_append_right _ (List.mem_append_right _ (List.mem_append_right _ (List.mem_append_right _ (List.mem_append_right _ (List.mem_append_right _ (List.mem_append_left _ (show _ ∈ my_204_6 from List.mem_of_getElem? (i := 12) rfl))))))))
theorem cd_204_611 : mt_cd 204 611 = some (.lcmp) := mt_cd_of (q := (611, .lcmp, 1)) mq_204 ci_204 (List.mem_append_right _ (List.mem_append_right _ (List.mem_append_right _ (List.mem_append_right _ (List.mem_append_right _ (List.mem_append_right _ (List.mem_append_left _ (show _ ∈ my_204_6 from List.mem_of_getElem? (i := 13) rfl))))))))
theorem cd_204_612 : mt_cd 204 612 = some (.ifCond .eq 5) := mt_cd_of (q := (612, .ifCond .eq 5, 3)) mq_204 ci_204 (List.mem_append_right _ (List.mem_append_right _ (List.mem_append_right _ (List.mem_append_right _ (List.mem_append_right _ (List.mem_append_right _ (List.mem_append_left _ (show _ ∈ my_204_6 from List.mem_of_getElem? (i := 14) rfl))))))))
theorem cd_204_615 : mt_cd 204 615 = some (.iconst 0) := mt_cd_of (q := (615, .iconst 0, 1)) mq_204 ci_204 (List.mem_append_right _ (List.mem_append_right _ (List.mem_append_right _ (List.mem_append_right _ (List.mem_append_right _ (List.mem_append_right _ (List.mem_append_left _ (show _ ∈ my_204_6 from List.mem_of_getElem? (i := 15) rfl))))))))
theorem cd_204_616 : mt_cd 204 616 = some (.ireturn) := mt_cd_of (q := (616, .ireturn, 1)) mq_204 ci_204 (List.mem_append_right _ (List.mem_append_right _ (List.mem_append_right _ (List.mem_append_right _ (List.mem_append_right _ (List.mem_append_right _ (List.mem_append_left _ (show _ ∈ my_204_6 from List.mem_of_getElem? (i := 16) rfl))))))))
theorem cd_204_617 : mt_cd 204 617 = some (.goto 548) := mt_cd_of (q := (617, .goto 548, 3)) mq_204 ci_204 (List.mem_append_right _ (List.mem_append_right _ (List.mem_append_right _ (List.mem_append_right _ (List.mem_append_right _ (List.mem_append_right _ (List.mem_append_left _ (show _ ∈ my_204_6 from List.mem_of_getElem? (i := 17) rfl))))))))
theorem cd_204_620 : mt_cd 204 620 = some (.aload_n 1) := mt_cd_of (q := (620, .aload_n 1, 1)) mq_204 ci_204 (List.mem_append_right _ (List.mem_append_right _ (List.mem_append_right _ (List.mem_append_right _ (List.mem_append_right _ (List.mem_append_right _ (List.mem_append_left _ (show _ ∈ my_204_6 from List.mem_of_getElem? (i := 18) rfl))))))))
theorem cd_204_621 : mt_cd 204 621 = some (.aload_n 3) := mt_cd_of (q := (621, .aload_n 3, 1)) mq_204 ci_204 (List.mem_append_right _ (List.mem_append_right _ (List.mem_append_right _ (List.mem_append_right _ (List.mem_append_right _ (List.mem_append_right _ (List.mem_append_left _ (show _ ∈ my_204_6 from List.mem_of_getElem? (i := 19) rfl))))))))
theorem cd_204_622 : mt_cd 204 622 = some (.invokestatic 100) := mt_cd_of (q := (622, .invokestatic 100, 3)) mq_204 ci_204 (List.mem_append_right _ (List.mem_append_right _ (List.mem_append_right _ (List.mem_append_right _ (List.mem_append_right _ (List.mem_append_right _ (List.mem_append_left _ (show _ ∈ my_204_6 from List.mem_of_getElem? (i := 20) rfl))))))))
theorem cd_204_625 : mt_cd 204 625 = some (.istore 5) := mt_cd_of (q := (625, .istore 5, 2)) mq_204 ci_204 (List.mem_append_right _ (List.mem_append_right _ (List.mem_append_right _ (List.mem_append_right _ (List.mem_append_right _ (List.mem_append_right _ (List.mem_append_left _ (show _ ∈ my_204_6 from List.mem_of_getElem? (i := 21) rfl))))))))
theorem cd_204_627 : mt_cd 204 627 = some (.aload_n 2) := mt_cd_of (q := (627, .aload_n 2, 1)) mq_204 ci_204 (List.mem_append_right _ (List.mem_append_right _ (List.mem_append_right _ (List.mem_append_right _ (List.mem_append_right _ (List.mem_append_right _ (List.mem_append_left _ (show _ ∈ my_204_6 from List.mem_of_getElem? (i := 22) rfl))))))))
theorem cd_204_628 : mt_cd 204 628 = some (.invokevirtual 103) := mt_cd_of (q := (628, .invokevirtual 103, 3)) mq_204 ci_204 (List.mem_append_right _ (List.mem_append_right _ (List.mem_append_right _ (List.mem_append_right _ (List.mem_append_right _ (List.mem_append_right _ (List.mem_append_left _ (show _ ∈ my_204_6 from List.mem_of_getElem? (i := 23) rfl))))))))
theorem cd_204_631 : mt_cd 204 631 = some (.istore 6) := mt_cd_of (q := (631, .istore 6, 2)) mq_204 ci_204 (List.mem_append_right _ (List.mem_append_right _ (List.mem_append_right _ (List.mem_append_right _ (List.mem_append_right _ (List.mem_append_right _ (List.mem_append_left _ (show _ ∈ my_204_6 from List.mem_of_getElem? (i := 24) rfl))))))))
theorem cd_204_633 : mt_cd 204 633 = some (.aload_n 2) := mt_cd_of (q := (633, .aload_n 2, 1)) mq_204 ci_204 (List.mem_append_right _ (List.mem_append_right _ (List.mem_append_right _ (List.mem_append_right _ (List.mem_append_right _ (List.mem_append_right _ (List.mem_append_left _ (show _ ∈ my_204_6 from List.mem_of_getElem? (i := 25) rfl))))))))
theorem cd_204_634 : mt_cd 204 634 = some (.invokevirtual 75) := mt_cd_of (q := (634, .invokevirtual 75, 3)) mq_204 ci_204 (List.mem_append_right _ (List.mem_append_right _ (List.mem_append_right _ (List.mem_append_right _ (List.mem_append_right _ (List.mem_append_right _ (List.mem_append_left _ (show _ ∈ my_204_6 from List.mem_of_getElem? (i := 26) rfl))))))))
theorem cd_204_637 : mt_cd 204 637 = some (.iload 5) := mt_cd_of (q := (637, .iload 5, 2)) mq_204 ci_204 (List.mem_append_right _ (List.mem_append_right _ (List.mem_append_right _ (List.mem_append_right _ (List.mem_append_right _ (List.mem_append_right _ (List.mem_append_left _ (show _ ∈ my_204_6 from List.mem_of_getElem? (i := 27) rfl))))))))
theorem cd_204_639 : mt_cd 204 639 = some (.if_icmp .eq 5) := mt_cd_of (q := (639, .if_icmp .eq 5, 3)) mq_204 ci_204 (List.mem_append_right _ (List.mem_append_right _ (List.mem_append_right _ (List.mem_append_right _ (List.mem_append_right _ (List.mem_append_right _ (List.mem_append_left _ (show _ ∈ my_204_6 from List.mem_of_getElem? (i := 28) rfl))))))))
theorem cd_204_642 : mt_cd 204 642 = some (.iconst 0) := mt_cd_of (q := (642, .iconst 0, 1)) mq_204 ci_204 (List.mem_append_right _ (List.mem_append_right _ (List.mem_append_right _ (List.mem_append_right _ (List.mem_append_right _ (List.mem_append_right _ (List.mem_append_left _ (show _ ∈ my_204_6 from List.mem_of_getElem? (i := 29) rfl))))))))
theorem cd_204_643 : mt_cd 204 643 = some (.ireturn) := mt_cd_of (q := (643, .ireturn, 1)) mq_204 ci_204 (List.mem_append_right _ (List.mem_append_right _ (List.mem_append_right _ (List.mem_append_right _ (List.mem_append_right _ (List.mem_append_right _ (List.mem_append_left _ (show _ ∈ my_204_6 from List.mem_of_getElem? (i := 30) rfl))))))))
theorem cd_204_644 : mt_cd 204 644 = some (.iload 5) := mt_cd_of (q := (644, .iload 5, 2)) mq_204 ci_204 (List.mem_append_right _ (List.mem_append_right _ (List.mem_append_right _ (List.mem_append_right _ (List.mem_append_right _ (List.mem_append_right _ (List.mem_append_left _ (show _ ∈ my_204_6 from List.mem_of_getElem? (i := 31) rfl))))))))
theorem cd_204_646 : mt_cd 204 646 = some (.ifCond .ne 15) := mt_cd_of (q := (646, .ifCond .ne 15, 3)) mq_204 ci_204 (List.mem_append_right _ (List.mem_append_right _ (List.mem_append_right _ (List.mem_append_right _ (List.mem_append_right _ (List.mem_append_right _ (List.mem_append_left _ (show _ ∈ my_204_6 from List.mem_of_getElem? (i := 32) rfl))))))))
theorem cd_204_649 : mt_cd 204 649 = some (.aload_n 3) := mt_cd_of (q := (649, .aload_n 3, 1)) mq_204 ci_204 (List.mem_append_right _ (List.mem_append_right _ (List.mem_append_right _ (List.mem_append_right _ (List.mem_append_right _ (List.mem_append_right _ (List.mem_append_left _ (show _ ∈ my_204_6 from List.mem_of_getElem? (i := 33) rfl))))))))
theorem cd_204_650 : mt_cd 204 650 = some (.iconst 0) := mt_cd_of (q := (650, .iconst 0, 1)) mq_204 ci_204 (List.mem_append_right _ (List.mem_append_right _ (List.mem_append_right _ (List.mem_append_right _ (List.mem_append_right _ (List.mem_append_right _ (List.mem_append_left _ (show _ ∈ my_204_6 from List.mem_of_getElem? (i := 34) rfl))))))))
theorem cd_204_651 : mt_cd 204 651 = some (.laload) := mt_cd_of (q := (651, .laload, 1)) mq_204 ci_204 (List.mem_append_right _ (List.mem_append_right _ (List.mem_append_right _ (List.mem_append_right _ (List.mem_append_right _ (List.mem_append_right _ (List.mem_append_left _ (show _ ∈ my_204_6 from List.mem_of_getElem? (i := 35) rfl))))))))
theorem cd_204_652 : mt_cd 204 652 = some (.iload 6) := mt_cd_of (q := (652, .iload 6, 2)) mq_204 ci_204 (List.mem_append_right _ (List.mem_append_right _ (List.mem_append_right _ (List.mem_append_right _ (List.mem_append_right _ (List.mem_append_right _ (List.mem_append_left _ (show _ ∈ my_204_6 from List.mem_of_getElem? (i := 36) rfl))))))))
theorem cd_204_654 : mt_cd 204 654 = some (.i2l) := mt_cd_of (q := (654, .i2l, 1)) mq_204 ci_204 (List.mem_append_right _ (List.mem_append_right _ (List.mem_append_right _ (List.mem_append_right _ (List.mem_append_right _ (List.mem_append_right _ (List.mem_append_left _ (show _ ∈ my_204_6 from List.mem_of_getElem? (i := 37) rfl))))))))
theorem cd_204_655 : mt_cd 204 655 = some (.lcmp) := mt_cd_of (q := (655, .lcmp, 1)) mq_204 ci_204 (List.mem_append_right _ (List.mem_append_right _ (List.mem_append_right _ (List.mem_append_right _ (List.mem_append_right _ (List.mem_append_right _ (List.mem_append_left _ (show _ ∈ my_204_6 from List.mem_of_getElem? (i := 38) rfl))))))))
theorem cd_204_656 : mt_cd 204 656 = some (.ifCond .eq 5) := mt_cd_of (q := (656, .ifCond .eq 5, 3)) mq_204 ci_204 (List.mem_append_right _ (List.mem_append_right _ (List.mem_append_right _ (List.mem_append_right _ (List.mem_append_right _ (List.mem_append_right _ (List.mem_append_left _ (show _ ∈ my_204_6 from List.mem_of_getElem? (i := 39) rfl))))))))
theorem cd_204_659 : mt_cd 204 659 = some (.iconst 0) := mt_cd_of (q := (659, .iconst 0, 1)) mq_204 ci_204 (List.mem_append_right _ (List.mem_append_right _ (List.mem_append_right _ (List.mem_append_right _ (List.mem_append_right _ (List.mem_append_right _ (List.mem_append_left _ (show _ ∈ my_204_6 from List.mem_of_getElem? (i := 40) rfl))))))))
theorem cd_204_660 : mt_cd 204 660 = some (.ireturn) := mt_cd_of (q := (660, .ireturn, 1)) mq_204 ci_204 (List.mem_append_right _ (List.mem_append_right _ (List.mem_append_right _ (List.mem_append_right _ (List.mem_append_right _ (List.mem_append_right _ (List.mem_append_left _ (show _ ∈ my_204_6 from List.mem_of_getElem? (i := 41) rfl))))))))
theorem cd_204_661 : mt_cd 204 661 = some (.goto 504) := mt_cd_of (q := (661, .goto 504, 3)) mq_204 ci_204 (List.mem_append_right _ (List.mem_append_right _ (List.mem_append_right _ (List.mem_append_right _ (List.mem_append_right _ (List.mem_append_right _ (List.mem_append_left _ (show _ ∈ my_204_6 from List.mem_of_getElem? (i := 42) rfl))))))))
theorem cd_204_664 : mt_cd 204 664 = some (.aload_n 1) := mt_cd_of (q := (664, .aload_n 1, 1)) mq_204 ci_204 (List.mem_append_right _ (List.mem_append_right _ (List.mem_append_right _ (List.mem_append_right _ (List.mem_append_right _ (List.mem_append_right _ (List.mem_append_left _ (show _ ∈ my_204_6 from List.mem_of_getElem? (i := 43) rfl))))))))
theorem cd_204_665 : mt_cd 204 665 = some (.aload_n 0) := mt_cd_of (q := (665, .aload_n 0, 1)) mq_204 ci_204 (List.mem_append_right _ (List.mem_append_right _ (List.mem_append_right _ (List.mem_append_right _ (List.mem_append_right _ (List.mem_append_right _ (List.mem_append_left _ (show _ ∈ my_204_6 from List.mem_of_getElem? (i := 44) rfl))))))))
theorem cd_204_666 : mt_cd 204 666 = some (.iload 4) := mt_cd_of (q := (666, .iload 4, 2)) mq_204 ci_204 (List.mem_append_right _ (List.mem_append_right _ (List.mem_append_right _ (List.mem_append_right _ (List.mem_append_right _ (List.mem_append_right _ (List.mem_append_left _ (show _ ∈ my_204_6 from List.mem_of_getElem? (i := 45) rfl))))))))
theorem cd_204_668 : mt_cd 204 668 = some (.iconst 1) := mt_cd_of (q := (668, .iconst 1, 1)) mq_204 ci_204 (List.mem_append_right _ (List.mem_append_right _ (List.mem_append_right _ (List.mem_append_right _ (List.mem_append_right _ (List.mem_append_right _ (List.mem_append_left _ (show _ ∈ my_204_6 from List.mem_of_getElem? (i := 46) rfl))))))))
theorem cd_204_669 : mt_cd 204 669 = some (.iadd) := mt_cd_of (q := (669, .iadd, 1)) mq_204 ci_204 (List.mem_append_right _ (List.mem_append_right _ (List.mem_append_right _ (List.mem_append_right _ (List.mem_append_right _ (List.mem_append_right _ (List.mem_append_left _ (show _ ∈ my_204_6 from List.mem_of_getElem? (i := 47) rfl))))))))
theorem cd_204_670 : mt_cd 204 670 = some (.iaload) := mt_cd_of (q := (670, .iaload, 1)) mq_204 ci_204 (List.mem_append_right _ (List.mem_append_right _ (List.mem_append_right _ (List.mem_append_right _ (List.mem_append_right _ (List.mem_append_right _ (List.mem_append_left _ (show _ ∈ my_204_6 from List.mem_of_getElem? (i := 48) rfl))))))))
theorem cd_204_671 : mt_cd 204 671 = some (.i2l) := mt_cd_of (q := (671, .i2l, 1)) mq_204 ci_204 (List.mem_append_right _ (List.mem_append_right _ (List.mem_append_right _ (List.mem_append_right _ (List.mem_append_right _ (List.mem_append_right _ (List.mem_append_left _ (show _ ∈ my_204_6 from List.mem_of_getElem? (i := 49) rfl))))))))
theorem cd_204_672 : mt_cd 204 672 = some (.bipush 32) := mt_cd_of (q := (672, .bipush 32, 2)) mq_204 ci_204 (List.mem_append_right _ (List.mem_append_right _ (List.mem_append_right _ (List.mem_append_right _ (List.mem_append_right _ (List.mem_append_right _ (List.mem_append_left _ (show _ ∈ my_204_6 from List.mem_of_getElem? (i := 50) rfl))))))))
theorem cd_204_674 : mt_cd 204 674 = some (.lshl) := mt_cd_of (q := (674, .lshl, 1)) mq_204 ci_204 (List.mem_append_right _ (List.mem_append_right _ (List.mem_append_right _ (List.mem_append_right _ (List.mem_append_right _ (List.mem_append_right _ (List.mem_append_left _ (show _ ∈ my_204_6 from List.mem_of_getElem? (i := 51) rfl))))))))
theorem cd_204_675 : mt_cd 204 675 = some (.aload_n 0) := mt_cd_of (q := (675, .aload_n 0, 1)) mq_204 ci_204 (List.mem_append_right _ (List.mem_append_right _ (List.mem_append_right _ (List.mem_append_right _ (List.mem_append_right _ (List.mem_append_right _ (List.mem_append_left _ (show _ ∈ my_204_6 from List.mem_of_getElem? (i := 52) rfl))))))))
theorem cd_204_676 : mt_cd 204 676 = some (.iload 4) := mt_cd_of (q := (676, .iload 4, 2)) mq_204 ci_204 (List.mem_append_right _ (List.mem_append_right _ (List.mem_append_right _ (List.mem_append_right _ (List.mem_append_right _ (List.mem_append_right _ (List.mem_append_left _ (show _ ∈ my_204_6 from List.mem_of_getElem? (i := 53) rfl))))))))
theorem cd_204_678 : mt_cd 204 678 = some (.iconst 2) := mt_cd_of (q := (678, .iconst 2, 1)) mq_204 ci_204 (List.mem_append_right _ (List.mem_append_right _ (List.mem_append_right _ (List.mem_append_right _ (List.mem_append_right _ (List.mem_append_right _ (List.mem_append_left _ (show _ ∈ my_204_6 from List.mem_of_getElem? (i := 54) rfl))))))))
theorem cd_204_679 : mt_cd 204 679 = some (.iadd) := mt_cd_of (q := (679, .iadd, 1)) mq_204 ci_204 (List.mem_append_right _ (List.mem_append_right _ (List.mem_append_right _ (List.mem_append_right _ (List.mem_append_right _ (List.mem_append_right _ (List.mem_append_left _ (show _ ∈ my_204_6 from List.mem_of_getElem? (i := 55) rfl))))))))
theorem cd_204_680 : mt_cd 204 680 = some (.iaload) := mt_cd_of (q := (680, .iaload, 1)) mq_204 ci_204 (List.mem_append_right _ (List.mem_append_right _ (List.mem_append_right _ (List.mem_append_right _ (List.mem_append_right _ (List.mem_append_right _ (List.mem_append_left _ (show _ ∈ my_204_6 from List.mem_of_getElem? (i := 56) rfl))))))))
theorem cd_204_681 : mt_cd 204 681 = some (.i2l) := mt_cd_of (q := (681, .i2l, 1)) mq_204 ci_204 (List.mem_append_right _ (List.mem_append_right _ (List.mem_append_right _ (List.mem_append_right _ (List.mem_append_right _ (List.mem_append_right _ (List.mem_append_left _ (show _ ∈ my_204_6 from List.mem_of_getElem? (i := 57) rfl))))))))
theorem cd_204_682 : mt_cd 204 682 = some (.ldc2_w 86) := mt_cd_of (q := (682, .ldc2_w 86, 3)) mq_204 ci_204 (List.mem_append_right _ (List.mem_append_right _ (List.mem_append_right _ (List.mem_append_right _ (List.mem_append_right _ (List.mem_append_right _ (List.mem_append_left _ (show _ ∈ my_204_6 from List.mem_of_getElem? (i := 58) rfl))))))))
theorem cd_204_685 : mt_cd 204 685 = some (.land) := mt_cd_of (q := (685, .land, 1)) mq_204 ci_204 (List.mem_append_right _ (List.mem_append_right _ (List.mem_append_right _ (List.mem_append_right _ (List.mem_append_right _ (List.mem_append_right _ (List.mem_append_left _ (show _ ∈ my_204_6 from List.mem_of_getElem? (i := 59) rfl))))))))
theorem cd_204_686 : mt_cd 204 686 = some (.lor) := mt_cd_of (q := (686, .lor, 1)) mq_204 ci_204 (List.mem_append_right _ (List.mem_append_right _ (List.mem_append_right _ (List.mem_append_right _ (List.mem_append_right _ (List.mem_append_right _ (List.mem_append_right _ (List.mem_append_left _ (show _ ∈ my_204_7 from List.mem_of_getElem? (i := 0) rfl)))))))))
theorem cd_204_687 : mt_cd 204 687 = some (.aload_n 0) := mt_cd_of (q := (687, .aload_n 0, 1)) mq_204 ci_204 (List.mem_append_right _ (List.mem_append_right _ (List.mem_append_right _ (List.mem_append_right _ (List.mem_append_right _ (List.mem_append_right _ (List.mem_append_right _ (List.mem_append_left _ (show _ ∈ my_204_7 from List.mem_of_getElem? (i := 1) rfl)))))))))
theorem cd_204_688 : mt_cd 204 688 = some (.iload 4) := mt_cd_of (q := (688, .iload 4, 2)) mq_204 ci_204 (List.mem_append_right _ (List.mem_append_right _ (List.mem_append_right _ (List.mem_append_right _ (List.mem_append_right _ (List.mem_append_right _ (List.mem_append_right _ (List.mem_append_left _ (show _ ∈ my_204_7 from List.mem_of_getElem? (i := 2) rfl)))))))))
theorem cd_204_690 : mt_cd 204 690 = some (.iconst 3) := mt_cd_of (q := (690, .iconst 3, 1)) mq_204 ci_204 (List.mem_append_right _ (List.mem_append_right _ (List.mem_append_right _ (List.mem_append_right _ (List.mem_append_right _ (List.mem_append_right _ (List.mem_append_right _ (List.mem_append_left _ (show _ ∈ my_204_7 from List.mem_of_getElem? (i := 3) rfl)))))))))
theorem cd_204_691 : mt_cd 204 691 = some (.iadd) := mt_cd_of (q := (691, .iadd, 1)) mq_204 ci_204 (List.mem_append_right _ (List.mem_append_right _ (List.mem_append_right _ (List.mem_append_right _ (List.mem_append_right _ (List.mem_append_right _ (List.mem_append_right _ (List.mem_append_left _ (show _ ∈ my_204_7 from List.mem_of_getElem? (i := 4) rfl)))))))))
theorem cd_204_692 : mt_cd 204 692 = some (.iaload) := mt_cd_of (q := (692, .iaload, 1)) mq_204 ci_204 (List.mem_append_right _ (List.mem_append_right _ (List.mem_append_right _ (List.mem_append_right _ (List.mem_append_right _ (List.mem_append_right _ (List.mem_append_right _ (List.mem_append_left _ (show _ ∈ my_204_7 from List.mem_of_getElem? (i := 5) rfl)))))))))
theorem cd_204_693 : mt_cd 204 693 = some (.i2l) := mt_cd_of (q := (693, .i2l, 1)) mq_204 ci_204 (List.mem_append_right _ (List.mem_append_right _ (List.mem_append_right _ (List.mem_append_right _ (List.mem_append_right _ (List.mem_append_right _ (List.mem_append_right _ (List.mem_append_left _ (show _ ∈ my_204_7 from List.mem_of_getElem? (i := 6) rfl)))))))))
theorem cd_204_694 : mt_cd 204 694 = some (.bipush 32) := mt_cd_of (q := (694, .bipush 32, 2)) mq_204 ci_204 (List.mem_append_right _ (List.mem_append_right _ (List.mem_append_right _ (List.mem_append_right _ (List.mem_append_right _ (List.mem_append_right _ (List.mem_append_right _ (List.mem_append_left _ (show _ ∈ my_204_7 from List.mem_of_getElem? (i := 7) rfl)))))))))
theorem cd_204_696 : mt_cd 204 696 = some (.lshl) := mt_cd_of (q := (696, .lshl, 1)) mq_204 ci_204 (List.mem_append_right _ (List.mem_append_right _ (List.mem_append_right _ (List.mem_append_right _ (List.mem_append_right _ (List.mem_append_right _ (List.mem_append_right _ (List.mem_append_left _ (show _ ∈ my_204_7 from List.mem_of_getElem? (i := 8) rfl)))))))))
theorem cd_204_697 : mt_cd 204 697 = some (.aload_n 0) := mt_cd_of (q := (697, .aload_n 0, 1)) mq_204 ci_204 (List.mem_append_right _ (List.mem_append_right _ (List.mem_append_right _ (List.mem_append_right _ (List.mem_append_right _ (List.mem_append_right _ (List.mem_append_right _ (List.mem_append_left _ (show _ ∈ my_204_7 from List.mem_of_getElem? (i := 9) rfl)))))))))
theorem cd_204_698 : mt_cd 204 698 = some (.iload 4) := mt_cd_of (q := (698, .iload 4, 2)) mq_204 ci_204 (List.mem_append_right _ (List.mem_append_right _ (List.mem_append_right _ (List.mem_append_right _ (List.mem_append_right _ (List.mem_append_right _ (List.mem_append_right _ (List.mem_append_left _ (show _ ∈ my_204_7 from List.mem_of_getElem? (i := 10) rfl)))))))))
theorem cd_204_700 : mt_cd 204 700 = some (.iconst 4) := mt_cd_of (q := (700, .iconst 4, 1)) mq_204 ci_204 (List.mem_append_right _ (List.mem_append_right _ (List.mem_append_right _ (List.mem_append_right _ (List.mem_append_right _ (List.mem_append_right _ (List.mem_append_right _ (List.mem_append_left _ (show _ ∈ my_204_7 from List.mem_of_getElem? (i := 11) rfl)))))))))
theorem cd_204_701 : mt_cd 204 701 = some (.iadd) := mt_cd_of (q := (701, .iadd, 1)) mq_204 ci_204 (List.mem_append_right _ (List.mem_append_right _ (List.mem_append_right _ (List.mem_append_right _ (List.mem_append_right _ (List.mem_append_right _ (List.mem_append_right _ (List.mem_append_left _ (show _ ∈ my_204_7 from List.mem_of_getElem? (i := 12) rfl)))))))))
theorem cd_204_702 : mt_cd 204 702 = some (.iaload) := mt_cd_of (q := (702, .iaload, 1)) mq_204 ci_204 (List.mem_append_right _ (List.mem_append_right _ (List.mem_append_right _ (List.mem_append_right _ (List.mem_append_right _ (List.mem_append_right _ (List.mem_append_right _ (List.mem_append_left _ (show _ ∈ my_204_7 from List.mem_of_getElem? (i := 13) rfl)))))))))
theorem cd_204_703 : mt_cd 204 703 = some (.i2l) := mt_cd_of (q := (703, .i2l, 1)) mq_204 ci_204 (List.mem_append_right _ (List.mem_append_right _ (List.mem_append_right _ (List.mem_append_right _ (List.mem_append_right _ (List.mem_append_right _ (List.mem_append_right _ (List.mem_append_left _ (show _ ∈ my_204_7 from List.mem_of_getElem? (i := 14) rfl)))))))))
theorem cd_204_704 : mt_cd 204 704 = some (.ldc2_w 86) := mt_cd_of (q := (704, .ldc2_w 86, 3)) mq_204 ci_204 (List.mem_append_right _ (List.mem_append_right _ (List.mem_append_right _ (List.mem_append_right _ (List.mem_append_right _ (List.mem_append_right _ (List.mem_append_right _ (List.mem_append_left _ (show _ ∈ my_204_7 from List.mem_of_getElem? (i := 15) rfl)))))))))
theorem cd_204_707 : mt_cd 204 707 = some (.land) := mt_cd_of (q := (707, .land, 1)) mq_204 ci_204 (List.mem_append_right _ (List.mem_append_right _ (List.mem_append_right _ (List.mem_append_right _ (List.mem_append_right _ (List.mem_append_right _ (List.mem_append_right _ (List.mem_append_left _ (show _ ∈ my_204_7 from List.mem_of_getElem? (i := 16) rfl)))))))))
theorem cd_204_708 : mt_cd 204 708 = some (.lor) := mt_cd_of (q := (708, .lor, 1)) mq_204 ci_204 (List.mem_append_right _ (List.mem_append_right _ (List.mem_append_right _ (List.mem_append_right _ (List.mem_append_right _ (List.mem_append_right _ (List.mem_append_right _ (List.mem_append_left _ (show _ ∈ my_204_7 from List.mem_of_getElem? (i := 17) rfl)))))))))
theorem cd_204_709 : mt_cd 204 709 = some (.aload_n 3) := mt_cd_of (q := (709, .aload_n 3, 1)) mq_204 ci_204 (List.mem_append_right _ (List.mem_append_right _ (List.mem_append_right _ (List.mem_append_right _ (List.mem_append_right _ (List.mem_append_right _ (List.mem_append_right _ (List.mem_append_left _ (show _ ∈ my_204_7 from List.mem_of_getElem? (i := 18) rfl)))))))))
theorem cd_204_710 : mt_cd 204 710 = some (.invokestatic 104) := mt_cd_of (q := (710, .invokestatic 104, 3)) mq_204 ci_204 (List.mem_append_right _ (List.mem_append_right _ (List.mem_append_right _ (List.mem_append_right _ (List.mem_append_right _ (List.mem_append_right _ (List.mem_append_right _ (List.mem_append_left _ (show _ ∈ my_204_7 from List.mem_of_getElem? (i := 19) rfl)))))))))
theorem cd_204_713 : mt_cd 204 713 = some (.istore 5) := mt_cd_of (q := (713, .istore 5, 2)) mq_204 ci_204 (List.mem_append_right _ (List.mem_append_right _ (List.mem_append_right _ (List.mem_append_right _ (List.mem_append_right _ (List.mem_append_right _ (List.mem_append_right _ (List.mem_append_left _ (show _ ∈ my_204_7 from List.mem_of_getElem? (i := 20) rfl)))))))))
theorem cd_204_715 : mt_cd 204 715 = some (.aload_n 2) := mt_cd_of (q := (715, .aload_n 2, 1)) mq_204 ci_204 (List.mem_append_right _ (List.mem_append_right _ (List.mem_append_right _ (List.mem_append_right _ (List.mem_append_right _ (List.mem_append_right _ (List.mem_append_right _ (List.mem_append_left _ (show _ ∈ my_204_7 from List.mem_of_getElem? (i := 21) rfl)))))))))
theorem cd_204_716 : mt_cd 204 716 = some (.aload_n 0) := mt_cd_of (q := (716, .aload_n 0, 1)) mq_204 ci_204 (List.mem_append_right _ (List.mem_append_right _ (List.mem_append_right _ (List.mem_append_right _ (List.mem_append_right _ (List.mem_append_right _ (List.mem_append_right _ (List.mem_append_left _ (show _ ∈ my_204_7 from List.mem_of_getElem? (i := 22) rfl)))))))))
theorem cd_204_717 : mt_cd 204 717 = some (.iload 4) := mt_cd_of (q := (717, .iload 4, 2)) mq_204 ci_204 (List.mem_append_right _ (List.mem_append_right _ (List.mem_append_right _ (List.mem_append_right _ (List.mem_append_right _ (List.mem_append_right _ (List.mem_append_right _ (List.mem_append_left _ (show _ ∈ my_204_7 from List.mem_of_getElem? (i := 23) rfl)))))))))
theorem cd_204_719 : mt_cd 204 719 = some (.iconst 1) := mt_cd_of (q := (719, .iconst 1, 1)) mq_204 ci_204 (List.mem_append_right _ (List.mem_append_right _ (List.mem_append_right _ (List.mem_append_right _ (List.mem_append_right _ (List.mem_append_right _ (List.mem_append_right _ (List.mem_append_left _ (show _ ∈ my_204_7 from List.mem_of_getElem? (i := 24) rfl)))))))))
theorem cd_204_720 : mt_cd 204 720 = some (.iadd) := mt_cd_of (q := (720, .iadd, 1)) mq_204 ci_204 (List.mem_append_right _ (List.mem_append_right _ (List.mem_append_right _ (List.mem_append_right _ (List.mem_append_right _ (List.mem_append_right _ (List.mem_append_right _ (List.mem_append_left _ (show _ ∈ my_204_7 from List.mem_of_getElem? (i := 25) rfl)))))))))
theorem cd_204_721 : mt_cd 204 721 = some (.iaload) := mt_cd_of (q := (721, .iaload, 1)) mq_204 ci_204 (List.mem_append_right _ (List.mem_append_right _ (List.mem_append_right _ (List.mem_append_right _ (List.mem_append_right _ (List.mem_append_right _ (List.mem_append_right _ (List.mem_append_left _ (show _ ∈ my_204_7 from List.mem_of_getElem? (i := 26) rfl)))))))))
theorem cd_204_722 : mt_cd 204 722 = some (.i2l) := mt_cd_of (q := (722, .i2l, 1)) mq_204 ci_204 (List.mem_append_right _ (List.mem_append_right _ (List.mem_append_right _ (List.mem_append_right _ (List.mem_append_right _ (List.mem_append_right _ (List.mem_append_right _ (List.mem_append_left _ (show _ ∈ my_204_7 from List.mem_of_getElem? (i := 27) rfl)))))))))
theorem cd_204_723 : mt_cd 204 723 = some (.bipush 32) := mt_cd_of (q := (723, .bipush 32, 2)) mq_204 ci_204 (List.mem_append_right _ (List.mem_append_right _ (List.mem_append_right _ (List.mem_append_right _ (List.mem_append_right _ (List.mem_append_right _ (List.mem_append_right _ (List.mem_append_left _ (show _ ∈ my_204_7 from List.mem_of_getElem? (i := 28) rfl)))))))))
theorem cd_204_725 : mt_cd 204 725 = some (.lshl) := mt_cd_of (q := (725, .lshl, 1)) mq_204 ci_204 (List.mem_append_right _ (List.mem_append_right _ (List.mem_append_right _ (List.mem_append_right _ (List.mem_append_right _ (List.mem_append_right _ (List.mem_append_right _ (List.mem_append_left _ (show _ ∈ my_204_7 from List.mem_of_getElem? (i := 29) rfl)))))))))
theorem cd_204_726 : mt_cd 204 726 = some (.aload_n 0) := mt_cd_of (q := (726, .aload_n 0, 1)) mq_204 ci_204 (List.mem_append_right _ (List.mem_append_right _ (List.mem_append_right _ (List.mem_append_right _ (List.mem_append_right _ (List.mem_append_right _ (List.mem_append_right _ (List.mem_append_left _ (show _ ∈ my_204_7 from List.mem_of_getElem? (i := 30) rfl)))))))))
theorem cd_204_727 : mt_cd 204 727 = some (.iload 4) := mt_cd_of (q := (727, .iload 4, 2)) mq_204 ci_204 (List.mem_append_right _ (List.mem_append_right _ (List.mem_append_right _ (List.mem_append_right _ (List.mem_append_right _ (List.mem_append_right _ (List.mem_append_right _ (List.mem_append_left _ (show _ ∈ my_204_7 from List.mem_of_getElem? (i := 31) rfl)))))))))
theorem cd_204_729 : mt_cd 204 729 = some (.iconst 2) := mt_cd_of (q := (729, .iconst 2, 1)) mq_204 ci_204 (List.mem_append_right _ (List.mem_append_right _ (List.mem_append_right _ (List.mem_append_right _ (List.mem_append_right _ (List.mem_append_right _ (List.mem_append_right _ (List.mem_append_left _ (show _ ∈ my_204_7 from List.mem_of_getElem? (i := 32) rfl)))))))))
theorem cd_204_730 : mt_cd 204 730 = some (.iadd) := mt_cd_of (q := (730, .iadd, 1)) mq_204 ci_204 (List.mem_append_right _ (List.mem_append_right _ (List.mem_append_right _ (List.mem_append_right _ (List.mem_append_right _ (List.mem_append_right _ (List.mem_append_right _ (List.mem_append_left _ (show _ ∈ my_204_7 from List.mem_of_getElem? (i := 33) rfl)))))))))
theorem cd_204_731 : mt_cd 204 731 = some (.iaload) := mt_cd_of (q := (731, .iaload, 1)) mq_204 ci_204 (List.mem_append_right _ (List.mem_append_right _ (List.mem_append_right _ (List.mem_append_right _ (List.mem_append_right _ (List.mem_append_right _ (List.mem_append_right _ (List.mem_append_left _ (show _ ∈ my_204_7 from List.mem_of_getElem? (i := 34) rfl)))))))))
theorem cd_204_732 : mt_cd 204 732 = some (.i2l) := mt_cd_of (q := (732, .i2l, 1)) mq_204 ci_204 (List.mem_append_right _ (List.mem_append_right _ (List.mem_append_right _ (List.mem_append_right _ (List.mem_append_right _ (List.mem_append_right _ (List.mem_append_right _ (List.mem_append_left _ (show _ ∈ my_204_7 from List.mem_of_getElem? (i := 35) rfl)))))))))
theorem cd_204_733 : mt_cd 204 733 = some (.ldc2_w 86) := mt_cd_of (q := (733, .ldc2_w 86, 3)) mq_204 ci_204 (List.mem_append_right _ (List.mem_append_right _ (List.mem_append_right _ (List.mem_append_right _ (List.mem_append_right _ (List.mem_append_right _ (List.mem_append_right _ (List.mem_append_left _ (show _ ∈ my_204_7 from List.mem_of_getElem? (i := 36) rfl)))))))))
theorem cd_204_736 : mt_cd 204 736 = some (.land) := mt_cd_of (q := (736, .land, 1)) mq_204 ci_204 (List.mem_append_right _ (List.mem_append_right _ (List.mem_append_right _ (List.mem_append_right _ (List.mem_append_right _ (List.mem_append_right _ (List.mem_append_right _ (List.mem_append_left _ (show _ ∈ my_204_7 from List.mem_of_getElem? (i := 37) rfl)))))))))
theorem cd_204_737 : mt_cd 204 737 = some (.lor) := mt_cd_of (q := (737, .lor, 1)) mq_204 ci_204 (List.mem_append_right _ (List.mem_append_right _ (List.mem_append_right _ (List.mem_append_right _ (List.mem_append_right _ (List.mem_append_right _ (List.mem_append_right _ (List.mem_append_left _ (show _ ∈ my_204_7 from List.mem_of_getElem? (i := 38) rfl)))))))))
theorem cd_204_738 : mt_cd 204 738 = some (.aload_n 0) := mt_cd_of (q := (738, .aload_n 0, 1)) mq_204 ci_204 (List.mem_append_right _ (List.mem_append_right _ (List.mem_append_right _ (List.mem_append_right _ (List.mem_append_right _ (List.mem_append_right _ (List.mem_append_right _ (List.mem_append_left _ (show _ ∈ my_204_7 from List.mem_of_getElem? (i := 39) rfl)))))))))
theorem cd_204_739 : mt_cd 204 739 = some (.iload 4) := mt_cd_of (q := (739, .iload 4, 2)) mq_204 ci_204 (List.mem_append_right _ (List.mem_append_right _ (List.mem_append_right _ (List.mem_append_right _ (List.mem_append_right _ (List.mem_append_right _ (List.mem_append_right _ (List.mem_append_left _ (show _ ∈ my_204_7 from List.mem_of_getElem? (i := 40) rfl)))))))))
theorem cd_204_741 : mt_cd 204 741 = some (.iconst 3) := mt_cd_of (q := (741, .iconst 3, 1)) mq_204 ci_204 (List.mem_append_right _ (List.mem_append_right _ (List.mem_append_right _ (List.mem_append_right _ (List.mem_append_right _ (List.mem_append_right _ (List.mem_append_right _ (List.mem_append_left _ (show _ ∈ my_204_7 from List.mem_of_getElem? (i := 41) rfl)))))))))
theorem cd_204_742 : mt_cd 204 742 = some (.iadd) := mt_cd_of (q := (742, .iadd, 1)) mq_204 ci_204 (List.mem_append_right _ (List.mem_append_right _ (List.mem_append_right _ (List.mem_append_right _ (List.mem_append_right _ (List.mem_append_right _ (List.mem_append_right _ (List.mem_append_left _ (show _ ∈ my_204_7 from List.mem_of_getElem? (i := 42) rfl)))))))))
theorem cd_204_743 : mt_cd 204 743 = some (.iaload) := mt_cd_of (q := (743, .iaload, 1)) mq_204 ci_204 (List.mem_append_right _ (List.mem_append_right _ (List.mem_append_right _ (List.mem_append_right _ (List.mem_append_right _ (List.mem_append_right _ (List.mem_append_right _ (List.mem_append_left _ (show _ ∈ my_204_7 from List.mem_of_getElem? (i := 43) rfl)))))))))
theorem cd_204_744 : mt_cd 204 744 = some (.i2l) := mt_cd_of (q := (744, .i2l, 1)) mq_204 ci_204 (List.mem_append_right _ (List.mem_append_right _ (List.mem_append_right _ (List.mem_append_right _ (List.mem_append_right _ (List.mem_append_right _ (List.mem_append_right _ (List.mem_append_left _ (show _ ∈ my_204_7 from List.mem_of_getElem? (i := 44) rfl)))))))))
theorem cd_204_745 : mt_cd 204 745 = some (.bipush 32) := mt_cd_of (q := (745, .bipush 32, 2)) mq_204 ci_204 (List.mem_append_right _ (List.mem_append_right _ (List.mem_append_right _ (List.mem_append_right _ (List.mem_append_right _ (List.mem_append_right _ (List.mem_append_right _ (List.mem_append_left _ (show _ ∈ my_204_7 from List.mem_of_getElem? (i := 45) rfl)))))))))
theorem cd_204_747 : mt_cd 204 747 = some (.lshl) := mt_cd_of (q := (747, .lshl, 1)) mq_204 ci_204 (List.mem_append_right _ (List.mem_append_right _ (List.mem_append_right _ (List.mem_append_right _ (List.mem_append_right _ (List.mem_append_right _ (List.mem_append_right _ (List.mem_append_left _ (show _ ∈ my_204_7 from List.mem_of_getElem? (i := 46) rfl)))))))))
theorem cd_204_748 : mt_cd 204 748 = some (.aload_n 0) := mt_cd_of (q := (748, .aload_n 0, 1)) mq_204 ci_204 (List.mem_append_right _ (List.mem_append_right _ (List.mem_append_right _ (List.mem_append_right _ (List.mem_append_right _ (List.mem_append_right _ (List.mem_append_right _ (List.mem_append_left _ (show _ ∈ my_204_7 from List.mem_of_getElem? (i := 47) rfl)))))))))
theorem cd_204_749 : mt_cd 204 749 = some (.iload 4) := mt_cd_of (q := (749, .iload 4, 2)) mq_204 ci_204 (List.mem_append_right _ (List.mem_append_right _ (List.mem_append_right _ (List.mem_append_right _ (List.mem_append_right _ (List.mem_append_right _ (List.mem_append_right _ (List.mem_append_left _ (show _ ∈ my_204_7 from List.mem_of_getElem? (i := 48) rfl)))))))))
theorem cd_204_751 : mt_cd 204 751 = some (.iconst 4) := mt_cd_of (q := (751, .iconst 4, 1)) mq_204 ci_204 (List.mem_append_right _ (List.mem_append_right _ (List.mem_append_right _ (List.mem_append_right _ (List.mem_append_right _ (List.mem_append_right _ (List.mem_append_right _ (List.mem_append_left _ (show _ ∈ my_204_7 from List.mem_of_getElem? (i := 49) rfl)))))))))
theorem cd_204_752 : mt_cd 204 752 = some (.iadd) := mt_cd_of (q := (752, .iadd, 1)) mq_204 ci_204 (List.mem_append_right _ (List.mem_append_right _ (List.mem_append_right _ (List.mem_append_right _ (List.mem_append_right _ (List.mem_append_right _ (List.mem_append_right _ (List.mem_append_left _ (show _ ∈ my_204_7 from List.mem_of_getElem? (i := 50) rfl)))))))))
theorem cd_204_753 : mt_cd 204 753 = some (.iaload) := mt_cd_of (q := (753, .iaload, 1)) mq_204 ci_204 (List.mem_append_right _ (List.mem_append_right _ (List.mem_append_right _ (List.mem_append_right _ (List.mem_append_right _ (List.mem_append_right _ (List.mem_append_right _ (List.mem_append_left _ (show _ ∈ my_204_7 from List.mem_of_getElem? (i := 51) rfl)))))))))
theorem cd_204_754 : mt_cd 204 754 = some (.i2l) := mt_cd_of (q := (754, .i2l, 1)) mq_204 ci_204 (List.mem_append_right _ (List.mem_append_right _ (List.mem_append_right _ (List.mem_append_right _ (List.mem_append_right _ (List.mem_append_right _ (List.mem_append_right _ (List.mem_append_left _ (show _ ∈ my_204_7 from List.mem_of_getElem? (i := 52) rfl)))))))))
theorem cd_204_755 : mt_cd 204 755 = some (.ldc2_w 86) := mt_cd_of (q := (755, .ldc2_w 86, 3)) mq_204 ci_204 (List.mem_append_right _ (List.mem_append_right _ (List.mem_append_right _ (List.mem_append_right _ (List.mem_append_right _ (List.mem_append_right _ (List.mem_append_right _ (List.mem_append_left _ (show _ ∈ my_204_7 from List.mem_of_getElem? (i := 53) rfl)))))))))
theorem cd_204_758 : mt_cd 204 758 = some (.land) := mt_cd_of (q := (758, .land, 1)) mq_204 ci_204 (List.mem_append_right _ (List.mem_append_right _ (List.mem_append_right _ (List.mem_append_right _ (List.mem_append_right _ (List.mem_append_right _ (List.mem_append_right _ (List.mem_append_left _ (show _ ∈ my_204_7 from List.mem_of_getElem? (i := 54) rfl)))))))))
theorem cd_204_759 : mt_cd 204 759 = some (.lor) := mt_cd_of (q := (759, .lor, 1)) mq_204 ci_204 (List.mem_append_right _ (List.mem_append_right _ (List.mem_append_right _ (List.mem_append_right _ (List.mem_append_right _ (List.mem_append_right _ (List.mem_append_right _ (List.mem_append_left _ (show _ ∈ my_204_7 from List.mem_of_getElem? (i := 55) rfl)))))))))
theorem cd_204_760 : mt_cd 204 760 = some (.invokevirtual 107) := mt_cd_of (q := (760, .invokevirtual 107, 3)) mq_204 ci_204 (List.mem_append_right _ (List.mem_append_right _ (List.mem_append_right _ (List.mem_append_right _ (List.mem_append_right _ (List.mem_append_right _ (List.mem_append_right _ (List.mem_append_left _ (show _ ∈ my_204_7 from List.mem_of_getElem? (i := 56) rfl)))))))))
theorem cd_204_763 : mt_cd 204 763 = some (.istore 6) := mt_cd_of (q := (763, .istore 6, 2)) mq_204 ci_204 (List.mem_append_right _ (List.mem_append_right _ (List.mem_append_right _ (List.mem_append_right _ (List.mem_append_right _ (List.mem_append_right _ (List.mem_append_right _ (List.mem_append_left _ (show _ ∈ my_204_7 from List.mem_of_getElem? (i := 57) rfl)))))))))
theorem cd_204_765 : mt_cd 204 765 = some (.aload_n 2) := mt_cd_of (q := (765, .aload_n 2, 1)) mq_204 ci_204 (List.mem_append_right _ (List.mem_append_right _ (List.mem_append_right _ (List.mem_append_right _ (List.mem_append_right _ (List.mem_append_right _ (List.mem_append_right _ (List.mem_append_left _ (show _ ∈ my_204_7 from List.mem_of_getElem? (i := 58) rfl)))))))))
theorem cd_204_766 : mt_cd 204 766 = some (.invokevirtual 75) := mt_cd_of (q := (766, .invokevirtual 75, 3)) mq_204 ci_204 (List.mem_append_right _ (List.mem_append_right _ (List.mem_append_right _ (List.mem_append_right _ (List.mem_append_right _ (List.mem_append_right _ (List.mem_append_right _ (List.mem_append_left _ (show _ ∈ my_204_7 from List.mem_of_getElem? (i := 59) rfl)))))))))
theorem cd_204_769 : mt_cd 204 769 = some (.iload 5) := mt_cd_of (q := (769, .iload 5, 2)) mq_204 ci_204 (List.mem_append_right _ (List.mem_append_right _ (List.mem_append_right _ (List.mem_append_right _ (List.mem_append_right _ (List.mem_append_right _ (List.mem_append_right _ (List.mem_append_right _ (List.mem_append_left _ (show _ ∈ my_204_8 from List.mem_of_getElem? (i := 0) rfl))))))))))
theorem cd_204_771 : mt_cd 204 771 = some (.if_icmp .eq 5) := mt_cd_of (q := (771, .if_icmp .eq 5, 3)) mq_204 ci_204 (List.mem_append_right _ (List.mem_append_right _ (List.mem_append_right _ (List.mem_append_right _ (List.mem_append_right _ (List.mem_append_right _ (List.mem_append_right _ (List.mem_append_right _ (List.mem_append_left _ (show _ ∈ my_204_8 from List.mem_of_getElem? (i := 1) rfl))))))))))
theorem cd_204_774 : mt_cd 204 774 = some (.iconst 0) := mt_cd_of (q := (774, .iconst 0, 1)) mq_204 ci_204 (List.mem_append_right _ (List.mem_append_right _ (List.mem_append_right _ (List.mem_append_right _ (List.mem_append_right _ (List.mem_append_right _ (List.mem_append_right _ (List.mem_append_right _ (List.mem_append_left _ (show _ ∈ my_204_8 from List.mem_of_getElem? (i := 2) rfl))))))))))
theorem cd_204_775 : mt_cd 204 775 = some (.ireturn) := mt_cd_of (q := (775, .ireturn, 1)) mq_204 ci_204 (List.mem_append_right _ (List.mem_append_right _ (List.mem_append_right _ (List.mem_append_right _ (List.mem_append_right _ (List.mem_append_right _ (List.mem_append_right _ (List.mem_append_right _ (List.mem_append_left _ (show _ ∈ my_204_8 from List.mem_of_getElem? (i := 3) rfl))))))))))
theorem cd_204_776 : mt_cd 204 776 = some (.iload 5) := mt_cd_of (q := (776, .iload 5, 2)) mq_204 ci_204 (List.mem_append_right _ (List.mem_append_right _ (List.mem_append_right _ (List.mem_append_right _ (List.mem_append_right _ (List.mem_append_right _ (List.mem_append_right _ (List.mem_append_right _ (List.mem_append_left _ (show _ ∈ my_204_8 from List.mem_of_getElem? (i := 4) rfl))))))))))
theorem cd_204_778 : mt_cd 204 778 = some (.ifCond .ne 15) := mt_cd_of (q := (778, .ifCond .ne 15, 3)) mq_204 ci_204 (List.mem_append_right _ (List.mem_append_right _ (List.mem_append_right _ (List.mem_append_right _ (List.mem_append_right _ (List.mem_append_right _ (List.mem_append_right _ (List.mem_append_right _ (List.mem_append_left _ (show _ ∈ my_204_8 from List.mem_of_getElem? (i := 5) rfl))))))))))
theorem cd_204_781 : mt_cd 204 781 = some (.aload_n 3) := mt_cd_of (q := (781, .aload_n 3, 1)) mq_204 ci_204 (List.mem_append_right _ (List.mem_append_right _ (List.mem_append_right _ (List.mem_append_right _ (List.mem_append_right _ (List.mem_append_right _ (List.mem_append_right _ (List.mem_append_right _ (List.mem_append_left _ (show _ ∈ my_204_8 from List.mem_of_getElem? (i := 6) rfl))))))))))
theorem cd_204_782 : mt_cd 204 782 = some (.iconst 0) := mt_cd_of (q := (782, .iconst 0, 1)) mq_204 ci_204 (List.mem_append_right _ (List.mem_append_right _ (List.mem_append_right _ (List.mem_append_right _ (List.mem_append_right _ (List.mem_append_right _ (List.mem_append_right _ (List.mem_append_right _ (List.mem_append_left _ (show _ ∈ my_204_8 from List.mem_of_getElem? (i := 7) rfl))))))))))
theorem cd_204_783 : mt_cd 204 783 = some (.laload) := mt_cd_of (q := (783, .laload, 1)) mq_204 ci_204 (List.mem_append_right _ (List.mem_append_right _ (List.mem_append_right _ (List.mem_append_right _ (List.mem_append_right _ (List.mem_append_right _ (List.mem_append_right _ (List.mem_append_right _ (List.mem_append_left _ (show _ ∈ my_204_8 from List.mem_of_getElem? (i := 8) rfl))))))))))
theorem cd_204_784 : mt_cd 204 784 = some (.iload 6) := mt_cd_of (q := (784, .iload 6, 2)) mq_204 ci_204 (List.mem_append_right _ (List.mem_append_right _ (List.mem_append_right _ (List.mem_append_right _ (List.mem_append_right _ (List.mem_append_right _ (List.mem_append_right _ (List.mem_append_right _ (List.mem_append_left _ (show _ ∈ my_204_8 from List.mem_of_getElem? (i := 9) rfl))))))))))
theorem cd_204_786 : mt_cd 204 786 = some (.i2l) := mt_cd_of (q := (786, .i2l, 1)) mq_204 ci_204 (List.mem_append_right _ (List.mem_append_right _ (List.mem_append_right _ (List.mem_append_right _ (List.mem_append_right _ (List.mem_append_right _ (List.mem_append_right _ (List.mem_append_right _ (List.mem_append_left _ (show _ ∈ my_204_8 from List.mem_of_getElem? (i := 10) rfl))))))))))
theorem cd_204_787 : mt_cd 204 787 = some (.lcmp) := mt_cd_of (q := (787, .lcmp, 1)) mq_204 ci_204 (List.mem_append_right _ (List.mem_append_right _ (List.mem_append_right _ (List.mem_append_right _ (List.mem_append_right _ (List.mem_append_right _ (List.mem_append_right _ (List.mem_append_right _ (List.mem_append_left _ (show _ ∈ my_204_8 from List.mem_of_getElem? (i := 11) rfl))))))))))
theorem cd_204_788 : mt_cd 204 788 = some (.ifCond .eq 5) := mt_cd_of (q := (788, .ifCond .eq 5, 3)) mq_204 ci_204 (List.mem_append_right _ (List.mem_append_right _ (List.mem_append_right _ (List.mem_append_right _ (List.mem_append_right _ (List.mem_append_right _ (List.mem_append_right _ (List.mem_append_right _ (List.mem_append_left _ (show _ ∈ my_204_8 from List.mem_of_getElem? (i := 12) rfl))))))))))
theorem cd_204_791 : mt_cd 204 791 = some (.iconst 0) := mt_cd_of (q := (791, .iconst 0, 1)) mq_204 ci_204 (List.mem_append_right _ (List.mem_append_right _ (List.mem_append_right _ (List.mem_append_right _ (List.mem_append_right _ (List.mem_append_right _ (List.mem_append_right _ (List.mem_append_right _ (List.mem_append_left _ (show _ ∈ my_204_8 from List.mem_of_getElem? (i := 13) rfl))))))))))
theorem cd_204_792 : mt_cd 204 792 = some (.ireturn) := mt_cd_of (q := (792, .ireturn, 1)) mq_204 ci_204 (List.mem_append_right _ (List.mem_append_right _ (List.mem_append_right _ (List.mem_append_right _ (List.mem_append_right _ (List.mem_append_right _ (List.mem_append_right _ (List.mem_append_right _ (List.mem_append_left _ (show _ ∈ my_204_8 from List.mem_of_getElem? (i := 14) rfl))))))))))
theorem cd_204_793 : mt_cd 204 793 = some (.goto 372) := mt_cd_of (q := (793, .goto 372, 3)) mq_204 ci_204 (List.mem_append_right _ (List.mem_append_right _ (List.mem_append_right _ (List.mem_append_right _ (List.mem_append_right _ (List.mem_append_right _ (List.mem_append_right _ (List.mem_append_right _ (List.mem_append_left _ (show _ ∈ my_204_8 from List.mem_of_getElem? (i := 15) rfl))))))))))
theorem cd_204_796 : mt_cd 204 796 = some (.aload_n 1) := mt_cd_of (q := (796, .aload_n 1, 1)) mq_204 ci_204 (List.mem_append_right _ (List.mem_append_right _ (List.mem_append_right _ (List.mem_append_right _ (List.mem_append_right _ (List.mem_append_right _ (List.mem_append_right _ (List.mem_append_right _ (List.mem_append_left _ (show _ ∈ my_204_8 from List.mem_of_getElem? (i := 16) rfl))))))))))
theorem cd_204_797 : mt_cd 204 797 = some (.aload_n 0) := mt_cd_of (q := (797, .aload_n 0, 1)) mq_204 ci_204 (List.mem_append_right _ (List.mem_append_right _ (List.mem_append_right _ (List.mem_append_right _ (List.mem_append_right _ (List.mem_append_right _ (List.mem_append_right _ (List.mem_append_right _ (List.mem_append_left _ (show _ ∈ my_204_8 from List.mem_of_getElem? (i := 17) rfl))))))))))
theorem cd_204_798 : mt_cd 204 798 = some (.iload 4) := mt_cd_of (q := (798, .iload 4, 2)) mq_204 ci_204 (List.mem_append_right _ (List.mem_append_right _ (List.mem_append_right _ (List.mem_append_right _ (List.mem_append_right _ (List.mem_append_right _ (List.mem_append_right _ (List.mem_append_right _ (List.mem_append_left _ (show _ ∈ my_204_8 from List.mem_of_getElem? (i := 18) rfl))))))))))
theorem cd_204_800 : mt_cd 204 800 = some (.iconst 1) := mt_cd_of (q := (800, .iconst 1, 1)) mq_204 ci_204 (List.mem_append_right _ (List.mem_append_right _ (List.mem_append_right _ (List.mem_append_right _ (List.mem_append_right _ (List.mem_append_right _ (List.mem_append_right _ (List.mem_append_right _ (List.mem_append_left _ (show _ ∈ my_204_8 from List.mem_of_getElem? (i := 19) rfl))))))))))
theorem cd_204_801 : mt_cd 204 801 = some (.iadd) := mt_cd_of (q := (801, .iadd, 1)) mq_204 ci_204 (List.mem_append_right _ (List.mem_append_right _ (List.mem_append_right _ (List.mem_append_right _ (List.mem_append_right _ (List.mem_append_right _ (List.mem_append_right _ (List.mem_append_right _ (List.mem_append_left _ (show _ ∈ my_204_8 from List.mem_of_getElem? (i := 20) rfl))))))))))
theorem cd_204_802 : mt_cd 204 802 = some (.iaload) := mt_cd_of (q := (802, .iaload, 1)) mq_204 ci_204 (List.mem_append_right _ (List.mem_append_right _ (List.mem_append_right _ (List.mem_append_right _ (List.mem_append_right _ (List.mem_append_right _ (List.mem_append_right _ (List.mem_append_right _ (List.mem_append_left _ (show _ ∈ my_204_8 from List.mem_of_getElem? (i := 21) rfl))))))))))
theorem cd_204_803 : mt_cd 204 803 = some (.aload_n 0) := mt_cd_of (q := (803, .aload_n 0, 1)) mq_204 ci_204 (List.mem_append_right _ (List.mem_append_right _ (List.mem_append_right _ (List.mem_append_right _ (List.mem_append_right _ (List.mem_append_right _ (List.mem_append_right _ (List.mem_append_right _ (List.mem_append_left _ (show _ ∈ my_204_8 from List.mem_of_getElem? (i := 22) rfl))))))))))
theorem cd_204_804 : mt_cd 204 804 = some (.iload 4) := mt_cd_of (q := (804, .iload 4, 2)) mq_204 ci_204 (List.mem_append_right _ (List.mem_append_right _ (List.mem_append_right _ (List.mem_append_right _ (List.mem_append_right _ (List.mem_append_right _ (List.mem_append_right _ (List.mem_append_right _ (List.mem_append_left _ (show _ ∈ my_204_8 from List.mem_of_getElem? (i := 23) rfl))))))))))
theorem cd_204_806 : mt_cd 204 806 = some (.iconst 2) := mt_cd_of (q := (806, .iconst 2, 1)) mq_204 ci_204 (List.mem_append_right _ (List.mem_append_right _ (List.mem_append_right _ (List.mem_append_right _ (List.mem_append_right _ (List.mem_append_right _ (List.mem_append_right _ (List.mem_append_right _ (List.mem_append_left _ (show _ ∈ my_204_8 from List.mem_of_getElem? (i := 24) rfl))))))))))
theorem cd_204_807 : mt_cd 204 807 = some (.iadd) := mt_cd_of (q := (807, .iadd, 1)) mq_204 ci_204 (List.mem_append_right _ (List.mem_append_right _ (List.mem_append_right _ (List.mem_append_right _ (List.mem_append_right _ (List.mem_append_right _ (List.mem_append_right _ (List.mem_append_right _ (List.mem_append_left _ (show _ ∈ my_204_8 from List.mem_of_getElem? (i := 25) rfl))))))))))
theorem cd_204_808 : mt_cd 204 808 = some (.iaload) := mt_cd_of (q := (808, .iaload, 1)) mq_204 ci_204 (List.mem_append_right _ (List.mem_append_right _ (List.mem_append_right _ (List.mem_append_right _ (List.mem_append_right _ (List.mem_append_right _ (List.mem_append_right _ (List.mem_append_right _ (List.mem_append_left _ (show _ ∈ my_204_8 from List.mem_of_getElem? (i := 26) rfl))))))))))
theorem cd_204_809 : mt_cd 204 809 = some (.aload_n 3) := mt_cd_of (q := (809, .aload_n 3, 1)) mq_204 ci_204 (List.mem_append_right _ (List.mem_append_right _ (List.mem_append_right _ (List.mem_append_right _ (List.mem_append_right _ (List.mem_append_right _ (List.mem_append_right _ (List.mem_append_right _ (List.mem_append_left _ (show _ ∈ my_204_8 from List.mem_of_getElem? (i := 27) rfl))))))))))
theorem cd_204_810 : mt_cd 204 810 = some (.invokestatic 108) := mt_cd_of (q := (810, .invokestatic 108, 3)) mq_204 ci_204 (List.mem_append_right _ (List.mem_append_right _ (List.mem_append_right _ (List.mem_append_right _ (List.mem_append_right _ (List.mem_append_right _ (List.mem_append_right _ (List.mem_append_right _ (List.mem_append_left _ (show _ ∈ my_204_8 from List.mem_of_getElem? (i := 28) rfl))))))))))
theorem cd_204_813 : mt_cd 204 813 = some (.istore 5) := mt_cd_of (q := (813, .istore 5, 2)) mq_204 ci_204 (List.mem_append_right _ (List.mem_append_right _ (List.mem_append_right _ (List.mem_append_right _ (List.mem_append_right _ (List.mem_append_right _ (List.mem_append_right _ (List.mem_append_right _ (List.mem_append_left _ (show _ ∈ my_204_8 from List.mem_of_getElem? (i := 29) rfl))))))))))
theorem cd_204_815 : mt_cd 204 815 = some (.aload_n 2) := mt_cd_of (q := (815, .aload_n 2, 1)) mq_204 ci_204 (List.mem_append_right _ (List.mem_append_right _ (List.mem_append_right _ (List.mem_append_right _ (List.mem_append_right _ (List.mem_append_right _ (List.mem_append_right _ (List.mem_append_right _ (List.mem_append_left _ (show _ ∈ my_204_8 from List.mem_of_getElem? (i := 30) rfl))))))))))
theorem cd_204_816 : mt_cd 204 816 = some (.aload_n 0) := mt_cd_of (q := (816, .aload_n 0, 1)) mq_204 ci_204 (List.mem_append_right _ (List.mem_append_right _ (List.mem_append_right _ (List.mem_append_right _ (List.mem_append_right _ (List.mem_append_right _ (List.mem_append_right _ (List.mem_append_right _ (List.mem_append_left _ (show _ ∈ my_204_8 from List.mem_of_getElem? (i := 31) rfl))))))))))
theorem cd_204_817 : mt_cd 204 817 = some (.iload 4) := mt_cd_of (q := (817, .iload 4, 2)) mq_204 ci_204 (List.mem_append_right _ (List.mem_append_right _ (List.mem_append_right _ (List.mem_append_right _ (List.mem_append_right _ (List.mem_append_right _ (List.mem_append_right _ (List.mem_append_right _ (List.mem_append_left _ (show _ ∈ my_204_8 from List.mem_of_getElem? (i := 32) rfl))))))))))
theorem cd_204_819 : mt_cd 204 819 = some (.iconst 1) := mt_cd_of (q := (819, .iconst 1, 1)) mq_204 ci_204 (List.mem_append_right _ (List.mem_append_right _ (List.mem_append_right _ (List.mem_append_right _ (List.mem_append_right _ (List.mem_append_right _ (List.mem_append_right _ (List.mem_append_right _ (List.mem_append_left _ (show _ ∈ my_204_8 from List.mem_of_getElem? (i := 33) rfl))))))))))
theorem cd_204_820 : mt_cd 204 820 = some (.iadd) := mt_cd_of (q := (820, .iadd, 1)) mq_204 ci_204 (List.mem_append_right _ (List.mem_append_right _ (List.mem_append_right _ (List.mem_append_right _ (List.mem_append_right _ (List.mem_append_right _ (List.mem_append_right _ (List.mem_append_right _ (List.mem_append_left _ (show _ ∈ my_204_8 from List.mem_of_getElem? (i := 34) rfl))))))))))
theorem cd_204_821 : mt_cd 204 821 = some (.iaload) := mt_cd_of (q := (821, .iaload, 1)) mq_204 ci_204 (List.mem_append_right _ (List.mem_append_right _ (List.mem_append_right _ (List.mem_append_right _ (List.mem_append_right _ (List.mem_append_right _ (List.mem_append_right _ (List.mem_append_right _ (List.mem_append_left _ (show _ ∈ my_204_8 from List.mem_of_getElem? (i := 35) rfl))))))))))
theorem cd_204_822 : mt_cd 204 822 = some (.aload_n 0) := mt_cd_of (q := (822, .aload_n 0, 1)) mq_204 ci_204 (List.mem_append_right _ (List.mem_append_right _ (List.mem_append_right _ (List.mem_append_right _ (List.mem_append_right _ (List.mem_append_right _ (List.mem_append_right _ (List.mem_append_right _ (List.mem_append_left _ (show _ ∈ my_204_8 from List.mem_of_getElem? (i := 36) rfl))))))))))
theorem cd_204_823 : mt_cd 204 823 = some (.iload 4) := mt_cd_of (q := (823, .iload 4, 2)) mq_204 ci_204 (List.mem_append_right _ (List.mem_append_right _ (List.mem_append_right _ (List.mem_append_right _ (List.mem_append_right _ (List.mem_append_right _ (List.mem_append_right _ (List.mem_append_right _ (List.mem_append_left _ (show _ ∈ my_204_8 from List.mem_of_getElem? (i := 37) rfl))))))))))
theorem cd_204_825 : mt_cd 204 825 = some (.iconst 2) := mt_cd_of (q := (825, .iconst 2, 1)) mq_204 ci_204 (List.mem_append_right _ (List.mem_append_right _ (List.mem_append_right _ (List.mem_append_right _ (List.mem_append_right _ (List.mem_append_right _ (List.mem_append_right _ (List.mem_append_right _ (List.mem_append_left _ (show _ ∈ my_204_8 from List.mem_of_getElem? (i := 38) rfl))))))))))
theorem cd_204_826 : mt_cd 204 826 = some (.iadd) := mt_cd_of (q := (826, .iadd, 1)) mq_204 ci_204 (List.mem_append_right _ (List.mem_append_right _ (List.mem_append_right _ (List.mem_append_right _ (List.mem_append_right _ (List.mem_append_right _ (List.mem_append_right _ (List.mem_append_right _ (List.mem_append_left _ (show _ ∈ my_204_8 from List.mem_of_getElem? (i := 39) rfl))))))))))
theorem cd_204_827 : mt_cd 204 827 = some (.iaload) := mt_cd_of (q := (827, .iaload, 1)) mq_204 ci_204 (List.mem_append_right _ (List.mem_append_right _ (List.mem_append_right _ (List.mem_append_right _ (List.mem_append_right _ (List.mem_append_right _ (List.mem_append_right _ (List.mem_append_right _ (List.mem_append_left _ (show _ ∈ my_204_8 from List.mem_of_getElem? (i := 40) rfl))))))))))
theorem cd_204_828 : mt_cd 204 828 = some (.invokevirtual 111) := mt_cd_of (q := (828, .invokevirtual 111, 3)) mq_204 ci_204 (List.mem_append_right _ (List.mem_append_right _ (List.mem_append_right _ (List.mem_append_right _ (List.mem_append_right _ (List.mem_append_right _ (List.mem_append_right _ (List.mem_append_right _ (List.mem_append_left _ (show _ ∈ my_204_8 from List.mem_of_getElem? (i := 41) rfl))))))))))
theorem cd_204_831 : mt_cd 204 831 = some (.istore 6) := mt_cd_of (q := (831, .istore 6, 2)) mq_204 ci_204 (List.mem_append_right _ (List.mem_append_right _ (List.mem_append_right _ (List.mem_append_right _ (List.mem_append_right _ (List.mem_append_right _ (List.mem_append_right _ (List.mem_append_right _ (List.mem_append_left _ (show _ ∈ my_204_8 from List.mem_of_getElem? (i := 42) rfl))))))))))
theorem cd_204_833 : mt_cd 204 833 = some (.aload_n 2) := mt_cd_of (q := (833, .aload_n 2, 1)) mq_204 ci_204 (List.mem_append_right _ (List.mem_append_right _ (List.mem_append_right _ (List.mem_append_right _ (List.mem_append_right _ (List.mem_append_right _ (List.mem_append_right _ (List.mem_append_right _ (List.mem_append_left _ (show _ ∈ my_204_8 from List.mem_of_getElem? (i := 43) rfl))))))))))
theorem cd_204_834 : mt_cd 204 834 = some (.invokevirtual 75) := mt_cd_of (q := (834, .invokevirtual 75, 3)) mq_204 ci_204 (List.mem_append_right _ (List.mem_append_right _ (List.mem_append_right _ (List.mem_append_right _ (List.mem_append_right _ (List.mem_append_right _ (List.mem_append_right _ (List.mem_append_right _ (List.mem_append_left _ (show _ ∈ my_204_8 from List.mem_of_getElem? (i := 44) rfl))))))))))
theorem cd_204_837 : mt_cd 204 837 = some (.iload 5) := mt_cd_of (q := (837, .iload 5, 2)) mq_204 ci_204 (List.mem_append_right _ (List.mem_append_right _ (List.mem_append_right _ (List.mem_append_right _ (List.mem_append_right _ (List.mem_append_right _ (List.mem_append_right _ (List.mem_append_right _ (List.mem_append_left _ (show _ ∈ my_204_8 from List.mem_of_getElem? (i := 45) rfl))))))))))
theorem cd_204_839 : mt_cd 204 839 = some (.if_icmp .eq 5) := mt_cd_of (q := (839, .if_icmp .eq 5, 3)) mq_204 ci_204 (List.mem_append_right _ (List.mem_append_right _ (List.mem_append_right _ (List.mem_append_right _ (List.mem_append_right _ (List.mem_append_right _ (List.mem_append_right _ (List.mem_append_right _ (List.mem_append_left _ (show _ ∈ my_204_8 from List.mem_of_getElem? (i := 46) rfl))))))))))
theorem cd_204_842 : mt_cd 204 842 = some (.iconst 0) := mt_cd_of (q := (842, .iconst 0, 1)) mq_204 ci_204 (List.mem_append_right _ (List.mem_append_right _ (List.mem_append_right _ (List.mem_append_right _ (List.mem_append_right _ (List.mem_append_right _ (List.mem_append_right _ (List.mem_append_right _ (List.mem_append_left _ (show _ ∈ my_204_8 from List.mem_of_getElem? (i := 47) rfl))))))))))
theorem cd_204_843 : mt_cd 204 843 = some (.ireturn) := mt_cd_of (q := (843, .ireturn, 1)) mq_204 ci_204 (List.mem_append_right _ (List.mem_append_right _ (List.mem_append_right _ (List.mem_append_right _ (List.mem_append_right _ (List.mem_append_right _ (List.mem_append_right _ (List.mem_append_right _ (List.mem_append_left _ (show _ ∈ my_204_8 from List.mem_of_getElem? (i := 48) rfl))))))))))
theorem cd_204_844 : mt_cd 204 844 = some (.iload 5) := mt_cd_of (q := (844, .iload 5, 2)) mq_204 ci_204 (List.mem_append_right _ (List.mem_append_right _ (List.mem_append_right _ (List.mem_append_right _ (List.mem_append_right _ (List.mem_append_right _ (List.mem_append_right _ (List.mem_append_right _ (List.mem_append_left _ (show _ ∈ my_204_8 from List.mem_of_getElem? (i := 49) rfl))))))))))
theorem cd_204_846 : mt_cd 204 846 = some (.ifCond .ne 15) := mt_cd_of (q := (846, .ifCond .ne 15, 3)) mq_204 ci_204 (List.mem_append_right _ (List.mem_append_right _ (List.mem_append_right _ (List.mem_append_right _ (List.mem_append_right _ (List.mem_append_right _ (List.mem_append_right _ (List.mem_append_right _ (List.mem_append_left _ (show _ ∈ my_204_8 from List.mem_of_getElem? (i := 50) rfl))))))))))
theorem cd_204_849 : mt_cd 204 849 = some (.aload_n 3) := mt_cd_of (q := (849, .aload_n 3, 1)) mq_204 ci_204 (List.mem_append_right _ (List.mem_append_right _ (List.mem_append_right _ (List.mem_append_right _ (List.mem_append_right _ (List.mem_append_right _ (List.mem_append_right _ (List.mem_append_right _ (List.mem_append_left _ (show _ ∈ my_204_8 from List.mem_of_getElem? (i := 51) rfl))))))))))
theorem cd_204_850 : mt_cd 204 850 = some (.iconst 0) := mt_cd_of (q := (850, .iconst 0, 1)) mq_204 ci_204 (List.mem_append_right _ (List.mem_append_right _ (List.mem_append_right _ (List.mem_append_right _ (List.mem_append_right _ (List.mem_append_right _ (List.mem_append_right _ (List.mem_append_right _ (List.mem_append_left _ (show _ ∈ my_204_8 from List.mem_of_getElem? (i := 52) rfl))))))))))
theorem cd_204_851 : mt_cd 204 851 = some (.laload) := mt_cd_of (q := (851, .laload, 1)) mq_204 ci_204 (List.mem_append_right _ (List.mem_append_right _ (List.mem_append_right _ (List.mem_append_right _ (List.mem_append_right _ (List.mem_append_right _ (List.mem_append_right _ (List.mem_append_right _ (List.mem_append_left _ (show _ ∈ my_204_8 from List.mem_of_getElem? (i := 53) rfl))))))))))
theorem cd_204_852 : mt_cd 204 852 = some (.iload 6) := mt_cd_of (q := (852, .iload 6, 2)) mq_204 ci_204 (List.mem_append_right _ (List.mem_append_right _ (List.mem_append_right _ (List.mem_append_right _ (List.mem_append_right _ (List.mem_append_right _ (List.mem_append_right _ (List.mem_append_right _ (List.mem_append_left _ (show _ ∈ my_204_8 from List.mem_of_getElem? (i := 54) rfl))))))))))
theorem cd_204_854 : mt_cd 204 854 = some (.i2l) := mt_cd_of (q := (854, .i2l, 1)) mq_204 ci_204 (List.mem_append_right _ (List.mem_append_right _ (List.mem_append_right _ (List.mem_append_right _ (List.mem_append_right _ (List.mem_append_right _ (List.mem_append_right _ (List.mem_append_right _ (List.mem_append_left _ (show _ ∈ my_204_8 from List.mem_of_getElem? (i := 55) rfl))))))))))
theorem cd_204_855 : mt_cd 204 855 = some (.lcmp) := mt_cd_of (q := (855, .lcmp, 1)) mq_204 ci_204 (List.mem_append_right _ (List.mem_append_right _ (List.mem_append_right _ (List.mem_append_right _ (List.mem_append_right _ (List.mem_append_right _ (List.mem_append_right _ (List.mem_append_right _ (List.mem_append_left _ (show _ ∈ my_204_8 from List.mem_of_getElem? (i := 56) rfl))))))))))
theorem cd_204_856 : mt_cd 204 856 = some (.ifCond .eq 5) := mt_cd_of (q := (856, .ifCond .eq 5, 3)) mq_204 ci_204 (List.mem_append_right _ (List.mem_append_right _ (List.mem_append_right _ (List.mem_append_right _ (List.mem_append_right _ (List.mem_append_right _ (List.mem_append_right _ (List.mem_append_right _ (List.mem_append_left _ (show _ ∈ my_204_8 from List.mem_of_getElem? (i := 57) rfl))))))))))
theorem cd_204_859 : mt_cd 204 859 = some (.iconst 0) := mt_cd_of (q := (859, .iconst 0, 1)) mq_204 ci_204 (List.mem_append_right _ (List.mem_append_right _ (List.mem_append_right _ (List.mem_append_right _ (List.mem_append_right _ (List.mem_append_right _ (List.mem_append_right _ (List.mem_append_right _ (List.mem_append_left _ (show _ ∈ my_204_8 from List.mem_of_getElem? (i := 58) rfl))))))))))
theorem cd_204_860 : mt_cd 204 860 = some (.ireturn) := mt_cd_of (q := (860, .ireturn, 1)) mq_204 ci_204 (List.mem_append_right _ (List.mem_append_right _ (List.mem_append_right _ (List.mem_append_right _ (List.mem_append_right _ (List.mem_append_right _ (List.mem_append_right _ (List.mem_append_right _ (List.mem_append_left _ (show _ ∈ my_204_8 from List.mem_of_getElem? (i := 59) rfl))))))))))
theorem cd_204_861 : mt_cd 204 861 = some (.goto 304) := mt_cd_of (q := (861, .goto 304, 3)) mq_204 ci_204 (List.mem_append_right _ (List.mem_append_right _ (List.mem_append_right _ (List.mem_append_right _ (List.mem_append_right _ (List.mem_append_right _ (List.mem_append_right _ (List.mem_append_right _ (List.mem_append_right _ (List.mem_append_left _ (show _ ∈ my_204_9 from List.mem_of_getElem? (i := 0) rfl)))))))))))
theorem cd_204_864 : mt_cd 204 864 = some (.aload_n 1) := mt_cd_of (q := (864, .aload_n 1, 1)) mq_204 ci_204 (List.mem_append_right _ (List.mem_append_right _ (List.mem_append_right _ (List.mem_append_right _ (List.mem_append_right _ (List.mem_append_right _ (List.mem_append_right _ (List.mem_append_right _ (List.mem_append_right _ (List.mem_append_left _ (show _ ∈ my_204_9 from List.mem_of_getElem? (i := 1) rfl)))))))))))
theorem cd_204_865 : mt_cd 204 865 = some (.aload_n 0) := mt_cd_of (q := (865, .aload_n 0, 1)) mq_204 ci_204 (List.mem_append_right _ (List.mem_append_right _ (List.mem_append_right _ (List.mem_append_right _ (List.mem_append_right _ (List.mem_append_right _ (List.mem_append_right _ (List.mem_append_right _ (List.mem_append_right _ (List.mem_append_left _ (show _ ∈ my_204_9 from List.mem_of_getElem? (i := 2) rfl)))))))))))
theorem cd_204_866 : mt_cd 204 866 = some (.iload 4) := mt_cd_of (q := (866, .iload 4, 2)) mq_204 ci_204 (List.mem_append_right _ (List.mem_append_right _ (List.mem_append_right _ (List.mem_append_right _ (List.mem_append_right _ (List.mem_append_right _ (List.mem_append_right _ (List.mem_append_right _ (List.mem_append_right _ (List.mem_append_left _ (show _ ∈ my_204_9 from List.mem_of_getElem? (i := 3) rfl)))))))))))
theorem cd_204_868 : mt_cd 204 868 = some (.iconst 1) := mt_cd_of (q := (868, .iconst 1, 1)) mq_204 ci_204 (List.mem_append_right _ (List.mem_append_right _ (List.mem_append_right _ (List.mem_append_right _ (List.mem_append_right _ (List.mem_append_right _ (List.mem_append_right _ (List.mem_append_right _ (List.mem_append_right _ (List.mem_append_left _ (show _ ∈ my_204_9 from List.mem_of_getElem? (i := 4) rfl)))))))))))
theorem cd_204_869 : mt_cd 204 869 = some (.iadd) := mt_cd_of (q := (869, .iadd, 1)) mq_204 ci_204 (List.mem_append_right _ (List.mem_append_right _ (List.mem_append_right _ (List.mem_append_right _ (List.mem_append_right _ (List.mem_append_right _ (List.mem_append_right _ (List.mem_append_right _ (List.mem_append_right _ (List.mem_append_left _ (show _ ∈ my_204_9 from List.mem_of_getElem? (i := 5) rfl)))))))))))
theorem cd_204_870 : mt_cd 204 870 = some (.iaload) := mt_cd_of (q := (870, .iaload, 1)) mq_204 ci_204 (List.mem_append_right _ (List.mem_append_right _ (List.mem_append_right _ (List.mem_append_right _ (List.mem_append_right _ (List.mem_append_right _ (List.mem_append_right _ (List.mem_append_right _ (List.mem_append_right _ (List.mem_append_left _ (show _ ∈ my_204_9 from List.mem_of_getElem? (i := 6) rfl)))))))))))
theorem cd_204_871 : mt_cd 204 871 = some (.aload_n 3) := mt_cd_of (q := (871, .aload_n 3, 1)) mq_204 ci_204 (List.mem_append_right _ (List.mem_append_right _ (List.mem_append_right _ (List.mem_append_right _ (List.mem_append_right _ (List.mem_append_right _ (List.mem_append_right _ (List.mem_append_right _ (List.mem_append_right _ (List.mem_append_left _ (show _ ∈ my_204_9 from List.mem_of_getElem? (i := 7) rfl)))))))))))
theorem cd_204_872 : mt_cd 204 872 = some (.invokestatic 112) := mt_cd_of (q := (872, .invokestatic 112, 3)) mq_204 ci_204 (List.mem_append_right _ (List.mem_append_right _ (List.mem_append_right _ (List.mem_append_right _ (List.mem_append_right _ (List.mem_append_right _ (List.mem_append_right _ (List.mem_append_right _ (List.mem_append_right _ (List.mem_append_left _ (show _ ∈ my_204_9 from List.mem_of_getElem? (i := 8) rfl)))))))))))
theorem cd_204_875 : mt_cd 204 875 = some (.istore 5) := mt_cd_of (q := (875, .istore 5, 2)) mq_204 ci_204 (List.mem_append_right _ (List.mem_append_right _ (List.mem_append_right _ (List.mem_append_right _ (List.mem_append_right _ (List.mem_append_right _ (List.mem_append_right _ (List.mem_append_right _ (List.mem_append_right _ (List.mem_append_left _ (show _ ∈ my_204_9 from List.mem_of_getElem? (i := 9) rfl)))))))))))
theorem cd_204_877 : mt_cd 204 877 = some (.aload_n 2) := mt_cd_of (q := (877, .aload_n 2, 1)) mq_204 ci_204 (List.mem_append_right _ (List.mem_append_right _ (List.mem_append_right _ (List.mem_append_right _ (List.mem_append_right _ (List.mem_append_right _ (List.mem_append_right _ (List.mem_append_right _ (List.mem_append_right _ (List.mem_append_left _ (show _ ∈ my_204_9 from List.mem_of_getElem? (i := 10) rfl)))))))))))
theorem cd_204_878 : mt_cd 204 878 = some (.aload_n 0) := mt_cd_of (q := (878, .aload_n 0, 1)) mq_204 ci_204 (List.mem_append_right _ (List.mem_append_right _ (List.mem_append_right _ (List.mem_append_right _ (List.mem_append_right _ (List.mem_append_right _ (List.mem_append_right _ (List.mem_append_right _ (List.mem_append_right _ (List.mem_append_left _ (show _ ∈ my_204_9 from List.mem_of_getElem? (i := 11) rfl)))))))))))
theorem cd_204_879 : mt_cd 204 879 = some (.iload 4) := mt_cd_of (q := (879, .iload 4, 2)) mq_204 ci_204 (List.mem_append_right _ (List.mem_append_right _ (List.mem_append_right _ (List.mem_append_right _ (List.mem_append_right _ (List.mem_append_right _ (List.mem_append_right _ (List.mem_append_right _ (List.mem_append_right _ (List.mem_append_left _ (show _ ∈ my_204_9 from List.mem_of_getElem? (i := 12) rfl)))))))))))
theorem cd_204_881 : mt_cd 204 881 = some (.iconst 1) := mt_cd_of (q := (881, .iconst 1, 1)) mq_204 ci_204 (List.mem_append_right _ (List.mem_append_right _ (List.mem_append_right _ (List.mem_append_right _ (List.mem_append_right _ (List.mem_append_right _ (List.mem_append_right _ (List.mem_append_right _ (List.mem_append_right _ (List.mem_append_left _ (show _ ∈ my_204_9 from List.mem_of_getElem? (i := 13) rfl)))))))))))
theorem cd_204_882 : mt_cd 204 882 = some (.iadd) := mt_cd_of (q := (882, .iadd, 1)) mq_204 ci_204 (List.mem_append_right _ (List.mem_append_right _ (List.mem_append_right _ (List.mem_append_right _ (List.mem_append_right _ (List.mem_append_right _ (List.mem_append_right _ (List.mem_append_right _ (List.mem_append_right _ (List.mem_append_left _ (show _ ∈ my_204_9 from List.mem_of_getElem? (i := 14) rfl)))))))))))
theorem cd_204_883 : mt_cd 204 883 = some (.iaload) := mt_cd_of (q := (883, .iaload, 1)) mq_204 ci_204 (List.mem_append_right _ (List.mem_append_right _ (List.mem_append_right _ (List.mem_append_right _ (List.mem_append_right _ (List.mem_append_right _ (List.mem_append_right _ (List.mem_append_right _ (List.mem_append_right _ (List.mem_append_left _ (show _ ∈ my_204_9 from List.mem_of_getElem? (i := 15) rfl)))))))))))
theorem cd_204_884 : mt_cd 204 884 = some (.invokevirtual 114) := mt_cd_of (q := (884, .invokevirtual 114, 3)) mq_204 ci_204 (List.mem_append_right _ (List.mem_append_right _ (List.mem_append_right _ (List.mem_append_right _ (List.mem_append_right _ (List.mem_append_right _ (List.mem_append_right _ (List.mem_append_right _ (List.mem_append_right _ (List.mem_append_left _ (show _ ∈ my_204_9 from List.mem_of_getElem? (i := 16) rfl)))))))))))
theorem cd_204_887 : mt_cd 204 887 = some (.lstore 6) := mt_cd_of (q := (887, .lstore 6, 2)) mq_204 ci_204 (List.mem_append_right _ (List.mem_append_right _ (List.mem_append_right _ (List.mem_append_right _ (List.mem_append_right _ (List.mem_append_right _ (List.mem_append_right _ (List.mem_append_right _ (List.mem_append_right _ (List.mem_append_left _ (show _ ∈ my_204_9 from List.mem_of_getElem? (i := 17) rfl)))))))))))
theorem cd_204_889 : mt_cd 204 889 = some (.aload_n 2) := mt_cd_of (q := (889, .aload_n 2, 1)) mq_204 ci_204 (List.mem_append_right _ (List.mem_append_right _ (List.mem_append_right _ (List.mem_append_right _ (List.mem_append_right _ (List.mem_append_right _ (List.mem_append_right _ (List.mem_append_right _ (List.mem_append_right _ (List.mem_append_left _ (show _ ∈ my_204_9 from List.mem_of_getElem? (i := 18) rfl)))))))))))
theorem cd_204_890 : mt_cd 204 890 = some (.invokevirtual 75) := mt_cd_of (q := (890, .invokevirtual 75, 3)) mq_204 ci_204 (List.mem_append_right _ (List.mem_append_right _ (List.mem_append_right _ (List.mem_append_right _ (List.mem_append_right _ (List.mem_append_right _ (List.mem_append_right _ (List.mem_append_right _ (List.mem_append_right _ (List.mem_append_left _ (show _ ∈ my_204_9 from List.mem_of_getElem? (i := 19) rfl)))))))))))
theorem cd_204_893 : mt_cd 204 893 = some (.iload 5) := mt_cd_of (q := (893, .iload 5, 2)) mq_204 ci_204 (List.mem_append_right _ (List.mem_append_right _ (List.mem_append_right _ (List.mem_append_right _ (List.mem_append_right _ (List.mem_append_right _ (List.mem_append_right _ (List.mem_append_right _ (List.mem_append_right _ (List.mem_append_left _ (show _ ∈ my_204_9 from List.mem_of_getElem? (i := 20) rfl)))))))))))
theorem cd_204_895 : mt_cd 204 895 = some (.if_icmp .eq 5) := mt_cd_of (q := (895, .if_icmp .eq 5, 3)) mq_204 ci_204 (List.mem_append_right _ (List.mem_append_right _ (List.mem_append_right _ (List.mem_append_right _ (List.mem_append_right _ (List.mem_append_right _ (List.mem_append_right _ (List.mem_append_right _ (List.mem_append_right _ (List.mem_append_left _ (show _ ∈ my_204_9 from List.mem_of_getElem? (i := 21) rfl)))))))))))
theorem cd_204_898 : mt_cd 204 898 = some (.iconst 0) := mt_cd_of (q := (898, .iconst 0, 1)) mq_204 ci_204 (List.mem_append_right _ (List.mem_append_right _ (List.mem_append_right _ (List.mem_append_right _ (List.mem_append_right _ (List.mem_append_right _ (List.mem_append_right _ (List.mem_append_right _ (List.mem_append_right _ (List.mem_append_left _ (show _ ∈ my_204_9 from List.mem_of_getElem? (i := 22) rfl)))))))))))
theorem cd_204_899 : mt_cd 204 899 = some (.ireturn) := mt_cd_of (q := (899, .ireturn, 1)) mq_204 ci_204 (List.mem_append_right _ (List.mem_append_right _ (List.mem_append_right _ (List.mem_append_right _ (List.mem_append_right _ (List.mem_append_right _ (List.mem_append_right _ (List.mem_append_right _ (List.mem_append_right _ (List.mem_append_left _ (show _ ∈ my_204_9 from List.mem_of_getElem? (i := 23) rfl)))))))))))
theorem cd_204_900 : mt_cd 204 900 = some (.iload 5) := mt_cd_of (q := (900, .iload 5, 2)) mq_204 ci_204 (List.mem_append_right _ (List.mem_append_right _ (List.mem_append_right _ (List.mem_append_right _ (List.mem_append_right _ (List.mem_append_right _ (List.mem_append_right _ (List.mem_append_right _ (List.mem_append_right _ (List.mem_append_left _ (show _ ∈ my_204_9 from List.mem_of_getElem? (i := 24) rfl)))))))))))
theorem cd_204_902 : mt_cd 204 902 = some (.ifCond .ne 14) := mt_cd_of (q := (902, .ifCond .ne 14, 3)) mq_204 ci_204 (List.mem_append_right _ (List.mem_append_right _ (List.mem_append_right _ (List.mem_append_right _ (List.mem_append_right _ (List.mem_append_right _ (List.mem_append_right _ (List.mem_append_right _ (List.mem_append_right _ (List.mem_append_left _ (show _ ∈ my_204_9 from List.mem_of_getElem? (i := 25) rfl)))))))))))
theorem cd_204_905 : mt_cd 204 905 = some (.aload_n 3) := mt_cd_of (q := (905, .aload_n 3, 1)) mq_204 ci_204 (List.mem_append_right _ (List.mem_append_right _ (List.mem_append_right _ (List.mem_append_right _ (List.mem_append_right _ (List.mem_append_right _ (List.mem_append_right _ (List.mem_append_right _ (List.mem_append_right _ (List.mem_append_left _ (show _ ∈ my_204_9 from List.mem_of_getElem? (i := 26) rfl)))))))))))
theorem cd_204_906 : mt_cd 204 906 = some (.iconst 0) := mt_cd_of (q := (906, .iconst 0, 1)) mq_204 ci_204 (List.mem_append_right _ (List.mem_append_right _ (List.mem_append_right _ (List.mem_append_right _ (List.mem_append_right _ (List.mem_append_right _ (List.mem_append_right _ (List.mem_append_right _ (List.mem_append_right _ (List.mem_append_left _ (show _ ∈ my_204_9 from List.mem_of_getElem? (i := 27) rfl)))))))))))
theorem cd_204_907 : mt_cd 204 907 = some (.laload) := mt_cd_of (q := (907, .laload, 1)) mq_204 ci_204 (List.mem_append_right _ (List.mem_append_right _ (List.mem_append_right _ (List.mem_append_right _ (List.mem_append_right _ (List.mem_append_right _ (List.mem_append_right _ (List.mem_append_right _ (List.mem_append_right _ (List.mem_append_left _ (show _ ∈ my_204_9 from List.mem_of_getElem? (i := 28) rfl)))))))))))
theorem cd_204_908 : mt_cd 204 908 = some (.lload 6) := mt_cd_of (q := (908, .lload 6, 2)) mq_204 ci_204 (List.mem_append_right _ (List.mem_append_right _ (List.mem_append_right _ (List.mem_append_right _ (List.mem_append_right _ (List.mem_append_right _ (List.mem_append_right _ (List.mem_append_right _ (List.mem_append_right _ (List.mem_append_left _ (show _ ∈ my_204_9 from List.mem_of_getElem? (i := 29) rfl)))))))))))
theorem cd_204_910 : mt_cd 204 910 = some (.lcmp) := mt_cd_of (q := (910, .lcmp, 1)) mq_204 ci_204 (List.mem_append_right _ (List.mem_append_right _ (List.mem_append_right _ (List.mem_append_right _ (List.mem_append_right _ (List.mem_append_right _ (List.mem_append_right _ (List.mem_append_right _ (List.mem_append_right _ (List.mem_append_left _ (show _ ∈ my_204_9 from List.mem_of_getElem? (i := 30) rfl)))))))))))
theorem cd_204_911 : mt_cd 204 911 = some (.ifCond .eq 5) := mt_cd_of (q := (911, .ifCond .eq 5, 3)) mq_204 ci_204 (List.mem_append_right _ (List.mem_append_right _ (List.mem_append_right _ (List.mem_append_right _ (List.mem_append_right _ (List.mem_append_right _ (List.mem_append_right _ (List.mem_append_right _ (List.mem_append_right _ (List.mem_append_left _ (show _ ∈ my_204_9 from List.mem_of_getElem? (i := 31) rfl)))))))))))
theorem cd_204_914 : mt_cd 204 914 = some (.iconst 0) := mt_cd_of (q := (914, .iconst 0, 1)) mq_204 ci_204 (List.mem_append_right _ (List.mem_append_right _ (List.mem_append_right _ (List.mem_append_right _ (List.mem_append_right _ (List.mem_append_right _ (List.mem_append_right _ (List.mem_append_right _ (List.mem_append_right _ (List.mem_append_left _ (show _ ∈ my_204_9 from List.mem_of_getElem? (i := 32) rfl)))))))))))
theorem cd_204_915 : mt_cd 204 915 = some (.ireturn) := mt_cd_of (q := (915, .ireturn, 1)) mq_204 ci_204 (List.mem_append_right _ (List.mem_append_right _ (List.mem_append_right _ (List.mem_append_right _ (List.mem_append_right _ (List.mem_append_right _ (List.mem_append_right _ (List.mem_append_right _ (List.mem_append_right _ (List.mem_append_left _ (show _ ∈ my_204_9 from List.mem_of_getElem? (i := 33) rfl)))))))))))
theorem cd_204_916 : mt_cd 204 916 = some (.goto 249) := mt_cd_of (q := (916, .goto 249, 3)) mq_204 ci_204 (List.mem_append_right _ (List.mem_append_right _ (List.mem_append_right _ (List.mem_append_right _ (List.mem_append_right _ (List.mem_append_right _ (List.mem_append_right _ (List.mem_append_right _ (List.mem_append_right _ (List.mem_append_left _ (show _ ∈ my_204_9 from List.mem_of_getElem? (i := 34) rfl)))))))))))
theorem cd_204_919 : mt_cd 204 919 = some (.aload_n 1) := mt_cd_of (q := (919, .aload_n 1, 1)) mq_204 ci_204 (List.mem_append_right _ (List.mem_append_right _ (List.mem_append_right _ (List.mem_append_right _ (List.mem_append_right _ (List.mem_append_right _ (List.mem_append_right _ (List.mem_append_right _ (List.mem_append_right _ (List.mem_append_left _ (show _ ∈ my_204_9 from List.mem_of_getElem? (i := 35) rfl)))))))))))
theorem cd_204_920 : mt_cd 204 920 = some (.aload_n 0) := mt_cd_of (q := (920, .aload_n 0, 1)) mq_204 ci_204 (List.mem_append_right _ (List.mem_append_right _ (List.mem_append_right _ (List.mem_append_right _ (List.mem_append_right _ (List.mem_append_right _ (List.mem_append_right _ (List.mem_append_right _ (List.mem_append_right _ (List.mem_append_left _ (show _ ∈ my_204_9 from List.mem_of_getElem? (i := 36) rfl)))))))))))
theorem cd_204_921 : mt_cd 204 921 = some (.iload 4) := mt_cd_of (q := (921, .iload 4, 2)) mq_204 ci_204 (List.mem_append_right _ (List.mem_append_right _ (List.mem_append_right _ (List.mem_append_right _ (List.mem_append_right _ (List.mem_append_right _ (List.mem_append_right _ (List.mem_append_right _ (List.mem_append_right _ (List.mem_append_left _ (show _ ∈ my_204_9 from List.mem_of_getElem? (i := 37) rfl)))))))))))
theorem cd_204_923 : mt_cd 204 923 = some (.iconst 1) := mt_cd_of (q := (923, .iconst 1, 1)) mq_204 ci_204 (List.mem_append_right _ (List.mem_append_right _ (List.mem_append_right _ (List.mem_append_right _ (List.mem_append_right _ (List.mem_append_right _ (List.mem_append_right _ (List.mem_append_right _ (List.mem_append_right _ (List.mem_append_left _ (show _ ∈ my_204_9 from List.mem_of_getElem? (i := 38) rfl)))))))))))
theorem cd_204_924 : mt_cd 204 924 = some (.iadd) := mt_cd_of (q := (924, .iadd, 1)) mq_204 ci_204 (List.mem_append_right _ (List.mem_append_right _ (List.mem_append_right _ (List.mem_append_right _ (List.mem_append_right _ (List.mem_append_right _ (List.mem_append_right _ (List.mem_append_right _ (List.mem_append_right _ (List.mem_append_left _ (show _ ∈ my_204_9 from List.mem_of_getElem? (i := 39) rfl)))))))))))
theorem cd_204_925 : mt_cd 204 925 = some (.iaload) := mt_cd_of (q := (925, .iaload, 1)) mq_204 ci_204 (List.mem_append_right _ (List.mem_append_right _ (List.mem_append_right _ (List.mem_append_right _ (List.mem_append_right _ (List.mem_append_right _ (List.mem_append_right _ (List.mem_append_right _ (List.mem_append_right _ (List.mem_append_left _ (show _ ∈ my_204_9 from List.mem_of_getElem? (i := 40) rfl)))))))))))
theorem cd_204_926 : mt_cd 204 926 = some (.aload_n 0) := mt_cd_of (q := (926, .aload_n 0, 1)) mq_204 ci_204 (List.mem_append_right _ (List.mem_append_right _ (List.mem_append_right _ (List.mem_append_right _ (List.mem_append_right _ (List.mem_append_right _ (List.mem_append_right _ (List.mem_append_right _ (List.mem_append_right _ (List.mem_append_left _ (show _ ∈ my_204_9 from List.mem_of_getElem? (i := 41) rfl)))))))))))
theorem cd_204_927 : mt_cd 204 927 = some (.iload 4) := mt_cd_of (q := (927, .iload 4, 2)) mq_204 ci_204 (List.mem_append_right _ (List.mem_append_right _ (List.mem_append_right _ (List.mem_append_right _ (List.mem_append_right _ (List.mem_append_right _ (List.mem_append_right _ (List.mem_append_right _ (List.mem_append_right _ (List.mem_append_left _ (show _ ∈ my_204_9 from List.mem_of_getElem? (i := 42) rfl)))))))))))
theorem cd_204_929 : mt_cd 204 929 = some (.iconst 2) := mt_cd_of (q := (929, .iconst 2, 1)) mq_204 ci_204 (List.mem_append_right _ (List.mem_append_right _ (List.mem_append_right _ (List.mem_append_right _ (List.mem_append_right _ (List.mem_append_right _ (List.mem_append_right _ (List.mem_append_right _ (List.mem_append_right _ (List.mem_append_left _ (show _ ∈ my_204_9 from List.mem_of_getElem? (i := 43) rfl)))))))))))
theorem cd_204_930 : mt_cd 204 930 = some (.iadd) := mt_cd_of (q := (930, .iadd, 1)) mq_204 ci_204 (List.mem_append_right _ (List.mem_append_right _ (List.mem_append_right _ (List.mem_append_right _ (List.mem_append_right _ (List.mem_append_right _ (List.mem_append_right _ (List.mem_append_right _ (List.mem_append_right _ (List.mem_append_left _ (show _ ∈ my_204_9 from List.mem_of_getElem? (i := 44) rfl)))))))))))
theorem cd_204_931 : mt_cd 204 931 = some (.iaload) := mt_cd_of (q := (931, .iaload, 1)) mq_204 ci_204 (List.mem_append_right _ (List.mem_append_right _ (List.mem_append_right _ (List.mem_append_right _ (List.mem_append_right _ (List.mem_append_right _ (List.mem_append_right _ (List.mem_append_right _ (List.mem_append_right _ (List.mem_append_left _ (show _ ∈ my_204_9 from List.mem_of_getElem? (i := 45) rfl)))))))))))
theorem cd_204_932 : mt_cd 204 932 = some (.aload_n 0) := mt_cd_of (q := (932, .aload_n 0, 1)) mq_204 ci_204 (List.mem_append_right _ (List.mem_append_right _ (List.mem_append_right _ (List.mem_append_right _ (List.mem_append_right _ (List.mem_append_right _ (List.mem_append_right _ (List.mem_append_right _ (List.mem_append_right _ (List.mem_append_left _ (show _ ∈ my_204_9 from List.mem_of_getElem? (i := 46) rfl)))))))))))
theorem cd_204_933 : mt_cd 204 933 = some (.iload 4) := mt_cd_of (q := (933, .iload 4, 2)) mq_204 ci_204 (List.mem_append_right _ (List.mem_append_right _ (List.mem_append_right _ (List.mem_append_right _ (List.mem_append_right _ (List.mem_append_right _ (List.mem_append_right _ (List.mem_append_right _ (List.mem_append_right _ (List.mem_append_left _ (show _ ∈ my_204_9 from List.mem_of_getElem? (i := 47) rfl)))))))))))
theorem cd_204_935 : mt_cd 204 935 = some (.iconst 3) := mt_cd_of (q := (935, .iconst 3, 1)) mq_204 ci_204 (List.mem_append_right _ (List.mem_append_right _ (List.mem_append_right _ (List.mem_append_right _ (List.mem_append_right _ (List.mem_append_right _ (List.mem_append_right _ (List.mem_append_right _ (List.mem_append_right _ (List.mem_append_left _ (show _ ∈ my_204_9 from List.mem_of_getElem? (i := 48) rfl)))))))))))
theorem cd_204_936 : mt_cd 204 936 = some (.iadd) := mt_cd_of (q := (936, .iadd, 1)) mq_204 ci_204 (List.mem_append_right _ (List.mem_append_right _ (List.mem_append_right _ (List.mem_append_right _ (List.mem_append_right _ (List.mem_append_right _ (List.mem_append_right _ (List.mem_append_right _ (List.mem_append_right _ (List.mem_append_left _ (show _ ∈ my_204_9 from List.mem_of_getElem? (i := 49) rfl)))))))))))
theorem cd_204_937 : mt_cd 204 937 = some (.iaload) := mt_cd_of (q := (937, .iaload, 1)) mq_204 ci_204 (List.mem_append_right _ (List.mem_append_right _ (List.mem_append_right _ (List.mem_append_right _ (List.mem_append_right _ (List.mem_append_right _ (List.mem_append_right _ (List.mem_append_right _ (List.mem_append_right _ (List.mem_append_left _ (show _ ∈ my_204_9 from List.mem_of_getElem? (i := 50) rfl)))))))))))
theorem cd_204_938 : mt_cd 204 938 = some (.aload_n 3) := mt_cd_of (q := (938, .aload_n 3, 1)) mq_204 ci_204 (List.mem_append_right _ (List.mem_append_right _ (List.mem_append_right _ (List.mem_append_right _ (List.mem_append_right _ (List.mem_append_right _ (List.mem_append_right _ (List.mem_append_right _ (List.mem_append_right _ (List.mem_append_left _ (show _ ∈ my_204_9 from List.mem_of_getElem? (i := 51) rfl)))))))))))
theorem cd_204_939 : mt_cd 204 939 = some (.invokestatic 115) := mt_cd_of (q := (939, .invokestatic 115, 3)) mq_204 ci_204 (List.mem_append_right _ (List.mem_append_right _ (List.mem_append_right _ (List.mem_append_right _ (List.mem_append_right _ (List.mem_append_right _ (List.mem_append_right _ (List.mem_append_right _ (List.mem_append_right _ (List.mem_append_left _ (show _ ∈ my_204_9 from List.mem_of_getElem? (i := 52) rfl)))))))))))
theorem cd_204_942 : mt_cd 204 942 = some (.istore 5) := mt_cd_of (q := (942, .istore 5, 2)) mq_204 ci_204 (List.mem_append_right _ (List.mem_append_right _ (List.mem_append_right _ (List.mem_append_right _ (List.mem_append_right _ (List.mem_append_right _ (List.mem_append_right _ (List.mem_append_right _ (List.mem_append_right _ (List.mem_append_left _ (show _ ∈ my_204_9 from List.mem_of_getElem? (i := 53) rfl)))))))))))
theorem cd_204_944 : mt_cd 204 944 = some (.aload_n 2) := mt_cd_of (q := (944, .aload_n 2, 1)) mq_204 ci_204 (List.mem_append_right _ (List.mem_append_right _ (List.mem_append_right _ (List.mem_append_right _ (List.mem_append_right _ (List.mem_append_right _ (List.mem_append_right _ (List.mem_append_right _ (List.mem_append_right _ (List.mem_append_left _ (show _ ∈ my_204_9 from List.mem_of_getElem? (i := 54) rfl)))))))))))
theorem cd_204_945 : mt_cd 204 945 = some (.aload_n 0) := mt_cd_of (q := (945, .aload_n 0, 1)) mq_204 ci_204 (List.mem_append_right _ (List.mem_append_right _ (List.mem_append_right _ (List.mem_append_right _ (List.mem_append_right _ (List.mem_append_right _ (List.mem_append_right _ (List.mem_append_right _ (List.mem_append_right _ (List.mem_append_left _ (show _ ∈ my_204_9 from List.mem_of_getElem? (i := 55) rfl)))))))))))
theorem cd_204_946 : mt_cd 204 946 = some (.iload 4) := mt_cd_of (q := (946, .iload 4, 2)) mq_204 ci_204 (List.mem_append_right _ (List.mem_append_right _ (List.mem_append_right _ (List.mem_append_right _ (List.mem_append_right _ (List.mem_append_right _ (List.mem_append_right _ (List.mem_append_right _ (List.mem_append_right _ (List.mem_append_left _ (show _ ∈ my_204_9 from List.mem_of_getElem? (i := 56) rfl)))))))))))
theorem cd_204_948 : mt_cd 204 948 = some (.iconst 1) := mt_cd_of (q := (948, .iconst 1, 1)) mq_204 ci_204 (List.mem_append_right _ (List.mem_append_right _ (List.mem_append_right _ (List.mem_append_right _ (List.mem_append_right _ (List.mem_append_right _ (List.mem_append_right _ (List.mem_append_right _ (List.mem_append_right _ (List.mem_append_left _ (show _ ∈ my_204_9 from List.mem_of_getElem? (i := 57) rfl)))))))))))
theorem cd_204_949 : mt_cd 204 949 = some (.iadd) := mt_cd_of (q := (949, .iadd, 1)) mq_204 ci_204 (List.mem_append_right _ (List.mem_append_right _ (List.mem_append_right _ (List.mem_append_right _ (List.mem_append_right _ (List.mem_append_right _ (List.mem_append_right _ (List.mem_append_right _ (List.mem_append_right _ (List.mem_append_left _ (show _ ∈ my_204_9 from List.mem_of_getElem? (i := 58) rfl)))))))))))
theorem cd_204_950 : mt_cd 204 950 = some (.iaload) := mt_cd_of (q := (950, .iaload, 1)) mq_204 ci_204 (List.mem_append_right _ (List.mem_append_right _ (List.mem_append_right _ (List.mem_append_right _ (List.mem_append_right _ (List.mem_append_right _ (List.mem_append_right _ (List.mem_append_right _ (List.mem_append_right _ (List.mem_append_left _ (show _ ∈ my_204_9 from List.mem_of_getElem? (i := 59) rfl)))))))))))
theorem cd_204_951 : mt_cd 204 951 = some (.aload_n 0) := mt_cd_of (q := (951, .aload_n 0, 1)) mq_204 ci_204 (List.mem_append_right _ (List.mem_append_right _ (List.mem_append_right _ (List.mem_append_right _ (List.mem_append_right _ (List.mem_append_right _ (List.mem_append_right _ (List.mem_append_right _ (List.mem_append_right _ (List.mem_append_right _ (List.mem_append_left _ (show _ ∈ my_204_10 from List.mem_of_getElem? (i := 0) rfl))))))))))))
theorem cd_204_952 : mt_cd 204 952 = some (.iload 4) := mt_cd_of (q := (952, .iload 4, 2)) mq_204 ci_204 (List.mem_append_right _ (List.mem_append_right _ (List.mem_append_right _ (List.mem_append_right _ (List.mem_append_right _ (List.mem_append_right _ (List.mem_append_right _ (List.mem_append_right _ (List.mem_append_right _ (List.mem_append_right _ (List.mem_append_left _ (show _ ∈ my_204_10 from List.mem_of_getElem? (i := 1) rfl))))))))))))
theorem cd_204_954 : mt_cd 204 954 = some (.iconst 2) := mt_cd_of (q := (954, .iconst 2, 1)) mq_204 ci_204 (List.mem_append_right _ (List.mem_append_right _ (List.mem_append_right _ (List.mem_append_right _ (List.mem_append_right _ (List.mem_append_right _ (List.mem_append_right _ (List.mem_append_right _ (List.mem_append_right _ (List.mem_append_right _ (List.mem_append_left _ (show _ ∈ my_204_10 from List.mem_of_getElem? (i := 2) rfl))))))))))))
theorem cd_204_955 : mt_cd 204 955 = some (.iadd) := mt_cd_of (q := (955, .iadd, 1)) mq_204 ci_204 (List.mem_append_right _ (List.mem_append_right _ (List.mem_append_right _ (List.mem_append_right _ (List.mem_append_right _ (List.mem_append_right _ (List.mem_append_right _ (List.mem_append_right _ (List.mem_append_right _ (List.mem_append_right _ (List.mem_append_left _ (show _ ∈ my_204_10 from List.mem_of_getElem? (i := 3) rfl))))))))))))
theorem cd_204_956 : mt_cd 204 956 = some (.iaload) := mt_cd_of (q := (956, .iaload, 1)) mq_204 ci_204 (List.mem_append_right _ (List.mem_append_right _ (List.mem_append_right _ (List.mem_append_right _ (List.mem_append_right _ (List.mem_append_right _ (List.mem_append_right _ (List.mem_append_right _ (List.mem_append_right _ (List.mem_append_right _ (List.mem_append_left _ (show _ ∈ my_204_10 from List.mem_of_getElem? (i := 4) rfl))))))))))))
theorem cd_204_957 : mt_cd 204 957 = some (.aload_n 0) := mt_cd_of (q := (957, .aload_n 0, 1)) mq_204 ci_204 (List.mem_append_right _ (List.mem_append_right _ (List.mem_append_right _ (List.mem_append_right _ (List.mem_append_right _ (List.mem_append_right _ (List.mem_append_right _ (List.mem_append_right _ (List.mem_append_right _ (List.mem_append_right _ (List.mem_append_left _ (show _ ∈ my_204_10 from List.mem_of_getElem? (i := 5) rfl))))))))))))
theorem cd_204_958 : mt_cd 204 958 = some (.iload 4) := mt_cd_of (q := (958, .iload 4, 2)) mq_204 ci_204 (List.mem_append_right _ (List.mem_append_right _ (List.mem_append_right _ (List.mem_append_right _ (List.mem_append_right _ (List.mem_append_right _ (List.mem_append_right _ (List.mem_append_right _ (List.mem_append_right _ (List.mem_append_right _ (List.mem_append_left _ (show _ ∈ my_204_10 from List.mem_of_getElem? (i := 6) rfl))))))))))))
theorem cd_204_960 : mt_cd 204 960 = some (.iconst 3) := mt_cd_of (q := (960, .iconst 3, 1)) mq_204 ci_204 (List.mem_append_right _ (List.mem_append_right _ (List.mem_append_right _ (List.mem_append_right _ (List.mem_append_right _ (List.mem_append_right _ (List.mem_append_right _ (List.mem_append_right _ (List.mem_append_right _ (List.mem_append_right _ (List.mem_append_left _ (show _ ∈ my_204_10 from List.mem_of_getElem? (i := 7) rfl))))))))))))
theorem cd_204_961 : mt_cd 204 961 = some (.iadd) := mt_cd_of (q := (961, .iadd, 1)) mq_204 ci_204 (List.mem_append_right _ (List.mem_append_right _ (List.mem_append_right _ (List.mem_append_right _ (List.mem_append_right _ (List.mem_append_right _ (List.mem_append_right _ (List.mem_append_right _ (List.mem_append_right _ (List.mem_append_right _ (List.mem_append_left _ (show _ ∈ my_204_10 from List.mem_of_getElem? (i := 8) rfl))))))))))))
theorem cd_204_962 : mt_cd 204 962 = some (.iaload) := mt_cd_of (q := (962, .iaload, 1)) mq_204 ci_204 (List.mem_append_right _ (List.mem_append_right _ (List.mem_append_right _ (List.mem_append_right _ (List.mem_append_right _ (List.mem_append_right _ (List.mem_append_right _ (List.mem_append_right _ (List.mem_append_right _ (List.mem_append_right _ (List.mem_append_left _ (show _ ∈ my_204_10 from List.mem_of_getElem? (i := 9) rfl))))))))))))
theorem cd_204_963 : mt_cd 204 963 = some (.invokevirtual 118) := mt_cd_of (q := (963, .invokevirtual 118, 3)) mq_204 ci_204 (List.mem_append_right _ (List.mem_append_right _ (List.mem_append_right _ (List.mem_append_right _ (List.mem_append_right _ (List.mem_append_right _ (List.mem_append_right _ (List.mem_append_right _ (List.mem_append_right _ (List.mem_append_right _ (List.mem_append_left _ (show _ ∈ my_204_10 from List.mem_of_getElem? (i := 10) rfl))))))))))))
theorem cd_204_966 : mt_cd 204 966 = some (.lstore 6) := mt_cd_of (q := (966, .lstore 6, 2)) mq_204 ci_204 (List.mem_append_right _ (List.mem_append_right _ (List.mem_append_right _ (List.mem_append_right _ (List.mem_append_right _ (List.mem_append_right _ (List.mem_append_right _ (List.mem_append_right _ (List.mem_append_right _ (List.mem_append_right _ (List.mem_append_left _ (show _ ∈ my_204_10 from List.mem_of_getElem? (i := 11) rfl))))))))))))
theorem cd_204_968 : mt_cd 204 968 = some (.aload_n 2) := mt_cd_of (q := (968, .aload_n 2, 1)) mq_204 ci_204 (List.mem_append_right _ (List.mem_append_right _ (List.mem_append_right _ (List.mem_append_right _ (List.mem_append_right _ (List.mem_append_right _ (List.mem_append_right _ (List.mem_append_right _ (List.mem_append_right _ (List.mem_append_right _ (List.mem_append_left _ (show _ ∈ my_204_10 from List.mem_of_getElem? (i := 12) rfl))))))))))))
theorem cd_204_969 : mt_cd 204 969 = some (.invokevirtual 75) := mt_cd_of (q := (969, .invokevirtual 75, 3)) mq_204 ci_204 (List.mem_append_right _ (List.mem_append_right _ (List.mem_append_right _ (List.mem_append_right _ (List.mem_append_right _ (List.mem_append_right _ (List.mem_append_right _ (List.mem_append_right _ (List.mem_append_right _ (List.mem_append_right _ (List.mem_append_left _ (show _ ∈ my_204_10 from List.mem_of_getElem? (i := 13) rfl))))))))))))
theorem cd_204_972 : mt_cd 204 972 = some (.iload 5) := mt_cd_of (q := (972, .iload 5, 2)) mq_204 ci_204 (List.mem_append_right _ (List.mem_append_right _ (List.mem_append_right _ (List.mem_append_right _ (List.mem_append_right _ (List.mem_append_right _ (List.mem_append_right _ (List.mem_append_right _ (List.mem_append_right _ (List.mem_append_right _ (List.mem_append_left _ (show _ ∈ my_204_10 from List.mem_of_getElem? (i := 14) rfl))))))))))))
theorem cd_204_974 : mt_cd 204 974 = some (.if_icmp .eq 5) := mt_cd_of (q := (974, .if_icmp .eq 5, 3)) mq_204 ci_204 (List.mem_append_right _ (List.mem_append_right _ (List.mem_append_right _ (List.mem_append_right _ (List.mem_append_right _ (List.mem_append_right _ (List.mem_append_right _ (List.mem_append_right _ (List.mem_append_right _ (List.mem_append_right _ (List.mem_append_left _ (show _ ∈ my_204_10 from List.mem_of_getElem? (i := 15) rfl))))))))))))
theorem cd_204_977 : mt_cd 204 977 = some (.iconst 0) := mt_cd_of (q := (977, .iconst 0, 1)) mq_204 ci_204 (List.mem_append_right _ (List.mem_append_right _ (List.mem_append_right _ (List.mem_append_right _ (List.mem_append_right _ (List.mem_append_right _ (List.mem_append_right _ (List.mem_append_right _ (List.mem_append_right _ (List.mem_append_right _ (List.mem_append_left _ (show _ ∈ my_204_10 from List.mem_of_getElem? (i := 16) rfl))))))))))))
theorem cd_204_978 : mt_cd 204 978 = some (.ireturn) := mt_cd_of (q := (978, .ireturn, 1)) mq_204 ci_204 (List.mem_append_right _ (List.mem_append_right _ (List.mem_append_right _ (List.mem_append_right _ (List.mem_append_right _ (List.mem_append_right _ (List.mem_append_right _ (List.mem_append_right _ (List.mem_append_right _ (List.mem_append_right _ (List.mem_append_left _ (show _ ∈ my_204_10 from List.mem_of_getElem? (i := 17) rfl))))))))))))
theorem cd_204_979 : mt_cd 204 979 = some (.iload 5) := mt_cd_of (q := (979, .iload 5, 2)) mq_204 ci_204 (List.mem_append_right _ (List.mem_append_right _ (List.mem_append_right _ (List.mem_append_right _ (List.mem_append_right _ (List.mem_append_right _ (List.mem_append_right _ (List.mem_append_right _ (List.mem_append_right _ (List.mem_append_right _ (List.mem_append_left _ (show _ ∈ my_204_10 from List.mem_of_getElem? (i := 18) rfl))))))))))))
theorem cd_204_981 : mt_cd 204 981 = some (.ifCond .ne 14) := mt_cd_of (q := (981, .ifCond .ne 14, 3)) mq_204 ci_204 (List.mem_append_right _ (List.mem_append_right _ (List.mem_append_right _ (List.mem_append_right _ (List.mem_append_right _ (List.mem_append_right _ (List.mem_append_right _ (List.mem_append_right _ (List.mem_append_right _ (List.mem_append_right _ (List.mem_append_left _ (show _ ∈ my_204_10 from List.mem_of_getElem? (i := 19) rfl))))))))))))
theorem cd_204_984 : mt_cd 204 984 = some (.aload_n 3) := mt_cd_of (q := (984, .aload_n 3, 1)) mq_204 ci_204 (List.mem_append_right _ (List.mem_append_right _ (List.mem_append_right _ (List.mem_append_right _ (List.mem_append_right _ (List.mem_append_right _ (List.mem_append_right _ (List.mem_append_right _ (List.mem_append_right _ (List.mem_append_right _ (List.mem_append_left _ (show _ ∈ my_204_10 from List.mem_of_getElem? (i := 20) rfl))))))))))))
theorem cd_204_985 : mt_cd 204 985 = some (.iconst 0) := mt_cd_of (q := (985, .iconst 0, 1)) mq_204 ci_204 (List.mem_append_right _ (List.mem_append_right _ (List.mem_append_right _ (List.mem_append_right _ (List.mem_append_right _ (List.mem_append_right _ (List.mem_append_right _ (List.mem_append_right _ (List.mem_append_right _ (List.mem_append_right _ (List.mem_append_left _ (show _ ∈ my_204_10 from List.mem_of_getElem? (i := 21) rfl))))))))))))
theorem cd_204_986 : mt_cd 204 986 = some (.laload) := mt_cd_of (q := (986, .laload, 1)) mq_204 ci_204 (List.mem_append_right _ (List.mem_append_right _ (List.mem_append_right _ (List.mem_append_right _ (List.mem_append_right _ (List.mem_append_right _ (List.mem_append_right _ (List.mem_append_right _ (List.mem_append_right _ (List.mem_append_right _ (List.mem_append_left _ (show _ ∈ my_204_10 from List.mem_of_getElem? (i := 22) rfl))))))))))))
theorem cd_204_987 : mt_cd 204 987 = some (.lload 6) := mt_cd_of (q := (987, .lload 6, 2)) mq_204 ci_204 (List.mem_append_right _ (List.mem_append_right _ (List.mem_append_right _ (List.mem_append_right _ (List.mem_append_right _ (List.mem_append_right _ (List.mem_append_right _ (List.mem_append_right _ (List.mem_append_right _ (List.mem_append_right _ (List.mem_append_left _ (show _ ∈ my_204_10 from List.mem_of_getElem? (i := 23) rfl))))))))))))
theorem cd_204_989 : mt_cd 204 989 = some (.lcmp) := mt_cd_of (q := (989, .lcmp, 1)) mq_204 ci_204 (List.mem_append_right _ (List.mem_append_right _ (List.mem_append_right _ (List.mem_append_right _ (List.mem_append_right _ (List.mem_append_right _ (List.mem_append_right _ (List.mem_append_right _ (List.mem_append_right _ (List.mem_append_right _ (List.mem_append_left _ (show _ ∈ my_204_10 from List.mem_of_getElem? (i := 24) rfl))))))))))))
theorem cd_204_990 : mt_cd 204 990 = some (.ifCond .eq 5) := mt_cd_of (q := (990, .ifCond .eq 5, 3)) mq_204 ci_204 (List.mem_append_right _ (List.mem_append_right _ (List.mem_append_right _ (List.mem_append_right _ (List.mem_append_right _ (List.mem_append_right _ (List.mem_append_right _ (List.mem_append_right _ (List.mem_append_right _ (List.mem_append_right _ (List.mem_append_left _ (show _ ∈ my_204_10 from List.mem_of_getElem? (i := 25) rfl))))))))))))
theorem cd_204_993 : mt_cd 204 993 = some (.iconst 0) := mt_cd_of (q := (993, .iconst 0, 1)) mq_204 ci_204 (List.mem_append_right _ (List.mem_append_right _ (List.mem_append_right _ (List.mem_append_right _ (List.mem_append_right _ (List.mem_append_right _ (List.mem_append_right _ (List.mem_append_right _ (List.mem_append_right _ (List.mem_append_right _ (List.mem_append_left _ (show _ ∈ my_204_10 from List.mem_of_getElem? (i := 26) rfl))))))))))))
theorem cd_204_994 : mt_cd 204 994 = some (.ireturn) := mt_cd_of (q := (994, .ireturn, 1)) mq_204 ci_204 (List.mem_append_right _ (List.mem_append_right _ (List.mem_append_right _ (List.mem_append_right _ (List.mem_append_right _ (List.mem_append_right _ (List.mem_append_right _ (List.mem_append_right _ (List.mem_append_right _ (List.mem_append_right _ (List.mem_append_left _ (show _ ∈ my_204_10 from List.mem_of_getElem? (i := 27) rfl))))))))))))
theorem cd_204_995 : mt_cd 204 995 = some (.goto 170) := mt_cd_of (q := (995, .goto 170, 3)) mq_204 ci_204 (List.mem_append_right _ (List.mem_append_right _ (List.mem_append_right _ (List.mem_append_right _ (List.mem_append_right _ (List.mem_append_right _ (List.mem_append_right _ (List.mem_append_right _ (List.mem_append_right _ (List.mem_append_right _ (List.mem_append_left _ (show _ ∈ my_204_10 from List.mem_of_getElem? (i := 28) rfl))))))))))))
theorem cd_204_998 : mt_cd 204 998 = some (.aload_n 1) := mt_cd_of (q := (998, .aload_n 1, 1)) mq_204 ci_204 (List.mem_append_right _ (List.mem_append_right _ (List.mem_append_right _ (List.mem_append_right _ (List.mem_append_right _ (List.mem_append_right _ (List.mem_append_right _ (List.mem_append_right _ (List.mem_append_right _ (List.mem_append_right _ (List.mem_append_left _ (show _ ∈ my_204_10 from List.mem_of_getElem? (i := 29) rfl))))))))))))
theorem cd_204_999 : mt_cd 204 999 = some (.aload_n 3) := mt_cd_of (q := (999, .aload_n 3, 1)) mq_204 ci_204 (List.mem_append_right _ (List.mem_append_right _ (List.mem_append_right _ (List.mem_append_right _ (List.mem_append_right _ (List.mem_append_right _ (List.mem_append_right _ (List.mem_append_right _ (List.mem_append_right _ (List.mem_append_right _ (List.mem_append_left _ (show _ ∈ my_204_10 from List.mem_of_getElem? (i := 30) rfl))))))))))))
theorem cd_204_1000 : mt_cd 204 1000 = some (.invokestatic 119) := mt_cd_of (q := (1000, .invokestatic 119, 3)) mq_204 ci_204 (List.mem_append_right _ (List.mem_append_right _ (List.mem_append_right _ (List.mem_append_right _ (List.mem_append_right _ (List.mem_append_right _ (List.mem_append_right _ (List.mem_append_right _ (List.mem_append_right _ (List.mem_append_right _ (List.mem_append_left _ (show _ ∈ my_204_10 from List.mem_of_getElem? (i := 31) rfl))))))))))))
theorem cd_204_1003 : mt_cd 204 1003 = some (.istore 5) := mt_cd_of (q := (1003, .istore 5, 2)) mq_204 ci_204 (List.mem_append_right _ (List.mem_append_right _ (List.mem_append_right _ (List.mem_append_right _ (List.mem_append_right _ (List.mem_append_right _ (List.mem_append_right _ (List.mem_append_right _ (List.mem_append_right _ (List.mem_append_right _ (List.mem_append_left _ (show _ ∈ my_204_10 from List.mem_of_getElem? (i := 32) rfl))))))))))))
theorem cd_204_1005 : mt_cd 204 1005 = some (.aload_n 2) := mt_cd_of (q := (1005, .aload_n 2, 1)) mq_204 ci_204 (List.mem_append_right _ (List.mem_append_right _ (List.mem_append_right _ (List.mem_append_right _ (List.mem_append_right _ (List.mem_append_right _ (List.mem_append_right _ (List.mem_append_right _ (List.mem_append_right _ (List.mem_append_right _ (List.mem_append_left _ (show _ ∈ my_204_10 from List.mem_of_getElem? (i := 33) rfl))))))))))))
theorem cd_204_1006 : mt_cd 204 1006 = some (.invokevirtual 121) := mt_cd_of (q := (1006, .invokevirtual 121, 3)) mq_204 ci_204 (List.mem_append_right _ (List.mem_append_right _ (List.mem_append_right _ (List.mem_append_right _ (List.mem_append_right _ (List.mem_append_right _ (List.mem_append_right _ (List.mem_append_right _ (List.mem_append_right _ (List.mem_append_right _ (List.mem_append_left _ (show _ ∈ my_204_10 from List.mem_of_getElem? (i := 34) rfl))))))))))))
theorem cd_204_1009 : mt_cd 204 1009 = some (.istore 6) := mt_cd_of (q := (1009, .istore 6, 2)) mq_204 ci_204 (List.mem_append_right _ (List.mem_append_right _ (List.mem_append_right _ (List.mem_append_right _ (List.mem_append_right _ (List.mem_append_right _ (List.mem_append_right _ (List.mem_append_right _ (List.mem_append_right _ (List.mem_append_right _ (List.mem_append_left _ (show _ ∈ my_204_10 from List.mem_of_getElem? (i := 35) rfl))))))))))))
theorem cd_204_1011 : mt_cd 204 1011 = some (.aload_n 2) := mt_cd_of (q := (1011, .aload_n 2, 1)) mq_204 ci_204 (List.mem_append_right _ (List.mem_append_right _ (List.mem_append_right _ (List.mem_append_right _ (List.mem_append_right _ (List.mem_append_right _ (List.mem_append_right _ (List.mem_append_right _ (List.mem_append_right _ (List.mem_append_right _ (List.mem_append_left _ (show _ ∈ my_204_10 from List.mem_of_getElem? (i := 36) rfl))))))))))))
theorem cd_204_1012 : mt_cd 204 1012 = some (.invokevirtual 75) := mt_cd_of (q := (1012, .invokevirtual 75, 3)) mq_204 ci_204 (List.mem_append_right _ (List.mem_append_right _ (List.mem_append_right _ (List.mem_append_right _ (List.mem_append_right _ (List.mem_append_right _ (List.mem_append_right _ (List.mem_append_right _ (List.mem_append_right _ (List.mem_append_right _ (List.mem_append_left _ (show _ ∈ my_204_10 from List.mem_of_getElem? (i := 37) rfl))))))))))))
theorem cd_204_1015 : mt_cd 204 1015 = some (.iload 5) := mt_cd_of (q := (1015, .iload 5, 2)) mq_204 ci_204 (List.mem_append_right _ (List.mem_append_right _ (List.mem_append_right _ (List.mem_append_right _ (List.mem_append_right _ (List.mem_append_right _ (List.mem_append_right _ (List.mem_append_right _ (List.mem_append_right _ (List.mem_append_right _ (List.mem_append_left _ (show _ ∈ my_204_10 from List.mem_of_getElem? (i := 38) rfl))))))))))))
theorem cd_204_1017 : mt_cd 204 1017 = some (.if_icmp .eq 5) := mt_cd_of (q := (1017, .if_icmp .eq 5, 3)) mq_204 ci_204 (List.mem_append_right _ (List.mem_append_right _ (List.mem_append_right _ (List.mem_append_right _ (List.mem_append_right _ (List.mem_append_right _ (List.mem_append_right _ (List.mem_append_right _ (List.mem_append_right _ (List.mem_append_right _ (List.mem_append_left _ (show _ ∈ my_204_10 from List.mem_of_getElem? (i := 39) rfl))))))))))))
theorem cd_204_1020 : mt_cd 204 1020 = some (.iconst 0) := mt_cd_of (q := (1020, .iconst 0, 1)) mq_204 ci_204 (List.mem_append_right _ (List.mem_append_right _ (List.mem_append_right _ (List.mem_append_right _ (List.mem_append_right _ (List.mem_append_right _ (List.mem_append_right _ (List.mem_append_right _ (List.mem_append_right _ (List.mem_append_right _ (List.mem_append_left _ (show _ ∈ my_204_10 from List.mem_of_getElem? (i := 40) rfl))))))))))))
theorem cd_204_1021 : mt_cd 204 1021 = some (.ireturn) := mt_cd_of (q := (1021, .ireturn, 1)) mq_204 ci_204 (List.mem_append_right _ (List.mem_append_right _ (List.mem_append_right _ (List.mem_append_right _ (List.mem_append_right _ (List.mem_append_right _ (List.mem_append_right _ (List.mem_append_right _ (List.mem_append_right _ (List.mem_append_right _ (List.mem_append_left _ (show _ ∈ my_204_10 from List.mem_of_getElem? (i := 41) rfl))))))))))))
theorem cd_204_1022 : mt_cd 204 1022 = some (.iload 5) := mt_cd_of (q := (1022, .iload 5, 2)) mq_204 ci_204 (List.mem_append_right _ (List.mem_append_right _ (List.mem_append_right _ (List.mem_append_right _ (List.mem_append_right _ (List.mem_append_right _ (List.mem_append_right _ (List.mem_append_right _ (List.mem_append_right _ (List.mem_append_right _ (List.mem_append_left _ (show _ ∈ my_204_10 from List.mem_of_getElem? (i := 42) rfl))))))))))))
theorem cd_204_1024 : mt_cd 204 1024 = some (.ifCond .ne 15) := mt_cd_of (q := (1024, .ifCond .ne 15, 3)) mq_204 ci_204 (List.mem_append_right _ (List.mem_append_right _ (List.mem_append_right _ (List.mem_append_right _ (List.mem_append_right _ (List.mem_append_right _ (List.mem_append_right _ (List.mem_append_right _ (List.mem_append_right _ (List.mem_append_right _ (List.mem_append_left _ (show _ ∈ my_204_10 from List.mem_of_getElem? (i := 43) rfl))))))))))))
theorem cd_204_1027 : mt_cd 204 1027 = some (.aload_n 3) := mt_cd_of (q := (1027, .aload_n 3, 1)) mq_204 ci_204 (List.mem_append_right _ (List.mem_append_right _ (List.mem_append_right _ (List.mem_append_right _ (List.mem_append_right _ (List.mem_append_right _ (List.mem_append_right _ (List.mem_append_right _ (List.mem_append_right _ (List.mem_append_right _ (List.mem_append_left _ (show _ ∈ my_204_10 from List.mem_of_getElem? (i := 44) rfl))))))))))))
theorem cd_204_1028 : mt_cd 204 1028 = some (.iconst 0) := mt_cd_of (q := (1028, .iconst 0, 1)) mq_204 ci_204 (List.mem_append_right _ (List.mem_append_right _ (List.mem_append_right _ (List.mem_append_right _ (List.mem_append_right _ (List.mem_append_right _ (List.mem_append_right _ (List.mem_append_right _ (List.mem_append_right _ (List.mem_append_right _ (List.mem_append_left _ (show _ ∈ my_204_10 from List.mem_of_getElem? (i := 45) rfl))))))))))))
theorem cd_204_1029 : mt_cd 204 1029 = some (.laload) := mt_cd_of (q := (1029, .laload, 1)) mq_204 ci_204 (List.mem_append_right _ (List.mem_append_right _ (List.mem_append_right _ (List.mem_append_right _ (List.mem_append_right _ (List.mem_append_right _ (List.mem_append_right _ (List.mem_append_right _ (List.mem_append_right _ (List.mem_append_right _ (List.mem_append_left _ (show _ ∈ my_204_10 from List.mem_of_getElem? (i := 46) rfl))))))))))))
theorem cd_204_1030 : mt_cd 204 1030 = some (.iload 6) := mt_cd_of (q := (1030, .iload 6, 2)) mq_204 ci_204 (List.mem_append_right _ (List.mem_append_right _ (List.mem_append_right _ (List.mem_append_right _ (List.mem_append_right _ (List.mem_append_right _ (List.mem_append_right _ (List.mem_append_right _ (List.mem_append_right _ (List.mem_append_right _ (List.mem_append_left _ (show _ ∈ my_204_10 from List.mem_of_getElem? (i := 47) rfl))))))))))))
theorem cd_204_1032 : mt_cd 204 1032 = some (.i2l) := mt_cd_of (q := (1032, .i2l, 1)) mq_204 ci_204 (List.mem_append_right _ (List.mem_append_right _ (List.mem_append_right _ (List.mem_append_right _ (List.mem_append_right _ (List.mem_append_right _ (List.mem_append_right _ (List.mem_append_right _ (List.mem_append_right _ (List.mem_append_right _ (List.mem_append_left _ (show _ ∈ my_204_10 from List.mem_of_getElem? (i := 48) rfl))))))))))))
theorem cd_204_1033 : mt_cd 204 1033 = some (.lcmp) := mt_cd_of (q := (1033, .lcmp, 1)) mq_204 ci_204 (List.mem_append_right _ (List.mem_append_right _ (List.mem_append_right _ (List.mem_append_right _ (List.mem_append_right _ (List.mem_append_right _ (List.mem_append_right _ (List.mem_append_right _ (List.mem_append_right _ (List.mem_append_right _ (List.mem_append_left _ (show _ ∈ my_204_10 from List.mem_of_getElem? (i := 49) rfl))))))))))))
theorem cd_204_1034 : mt_cd 204 1034 = some (.ifCond .eq 5) := mt_cd_of (q := (1034, .ifCond .eq 5, 3)) mq_204 ci_204 (List.mem_append_right _ (List.mem_append_right _ (List.mem_append_right _ (List.mem_append_right _ (List.mem_append_right _ (List.mem_append_right _ (List.mem_append_right _ (List.mem_append_right _ (List.mem_append_right _ (List.mem_append_right _ (List.mem_append_left _ (show _ ∈ my_204_10 from List.mem_of_getElem? (i := 50) rfl))))))))))))
theorem cd_204_1037 : mt_cd 204 1037 = some (.iconst 0) := mt_cd_of (q := (1037, .iconst 0, 1)) mq_204 ci_204 (List.mem_append_right _ (List.mem_append_right _ (List.mem_append_right _ (List.mem_append_right _ (List.mem_append_right _ (List.mem_append_right _ (List.mem_append_right _ (List.mem_append_right _ (List.mem_append_right _ (List.mem_append_right _ (List.mem_append_left _ (show _ ∈ my_204_10 from List.mem_of_getElem? (i := 51) rfl))))))))))))
theorem cd_204_1038 : mt_cd 204 1038 = some (.ireturn) := mt_cd_of (q := (1038, .ireturn, 1)) mq_204 ci_204 (List.mem_append_right _ (List.mem_append_right _ (List.mem_append_right _ (List.mem_append_right _ (List.mem_append_right _ (List.mem_append_right _ (List.mem_append_right _ (List.mem_append_right _ (List.mem_append_right _ (List.mem_append_right _ (List.mem_append_left _ (show _ ∈ my_204_10 from List.mem_of_getElem? (i := 52) rfl))))))))))))
theorem cd_204_1039 : mt_cd 204 1039 = some (.goto 126) := mt_cd_of (q := (1039, .goto 126, 3)) mq_204 ci_204 (List.mem_append_right _ (List.mem_append_right _ (List.mem_append_right _ (List.mem_append_right _ (List.mem_append_right _ (List.mem_append_right _ (List.mem_append_right _ (List.mem_append_right _ (List.mem_append_right _ (List.mem_append_right _ (List.mem_append_left _ (show _ ∈ my_204_10 from List.mem_of_getElem? (i := 53) rfl))))))))))))
theorem cd_204_1042 : mt_cd 204 1042 = some (.aload_n 1) := mt_cd_of (q := (1042, .aload_n 1, 1)) mq_204 ci_204 (List.mem_append_right _ (List.mem_append_right _ (List.mem_append_right _ (List.mem_append_right _ (List.mem_append_right _ (List.mem_append_right _ (List.mem_append_right _ (List.mem_append_right _ (List.mem_append_right _ (List.mem_append_right _ (List.mem_append_left _ (show _ ∈ my_204_10 from List.mem_of_getElem? (i := 54) rfl))))))))))))
theorem cd_204_1043 : mt_cd 204 1043 = some (.aload_n 0) := mt_cd_of (q := (1043, .aload_n 0, 1)) mq_204 ci_204 (List.mem_append_right _ (List.mem_append_right _ (List.mem_append_right _ (List.mem_append_right _ (List.mem_append_right _ (List.mem_append_right _ (List.mem_append_right _ (List.mem_append_right _ (List.mem_append_right _ (List.mem_append_right _ (List.mem_append_left _ (show _ ∈ my_204_10 from List.mem_of_getElem? (i := 55) rfl))))))))))))
theorem cd_204_1044 : mt_cd 204 1044 = some (.iload 4) := mt_cd_of (q := (1044, .iload 4, 2)) mq_204 ci_204 (List.mem_append_right _ (List.mem_append_right _ (List.mem_append_right _ (List.mem_append_right _ (List.mem_append_right _ (List.mem_append_right _ (List.mem_append_right _ (List.mem_append_right _ (List.mem_append_right _ (List.mem_append_right _ (List.mem_append_left _ (show _ ∈ my_204_10 from List.mem_of_getElem? (i := 56) rfl))))))))))))
theorem cd_204_1046 : mt_cd 204 1046 = some (.iconst 1) := mt_cd_of (q := (1046, .iconst 1, 1)) mq_204 ci_204 (List.mem_append_right _ (List.mem_append_right _ (List.mem_append_right _ (List.mem_append_right _ (List.mem_append_right _ (List.mem_append_right _ (List.mem_append_right _ (List.mem_append_right _ (List.mem_append_right _ (List.mem_append_right _ (List.mem_append_left _ (show _ ∈ my_204_10 from List.mem_of_getElem? (i := 57) rfl))))))))))))
theorem cd_204_1047 : mt_cd 204 1047 = some (.iadd) := mt_cd_of (q := (1047, .iadd, 1)) mq_204 ci_204 (List.mem_append_right _ (List.mem_append_right _ (List.mem_append_right _ (List.mem_append_right _ (List.mem_append_right _ (List.mem_append_right _ (List.mem_append_right _ (List.mem_append_right _ (List.mem_append_right _ (List.mem_append_right _ (List.mem_append_left _ (show _ ∈ my_204_10 from List.mem_of_getElem? (i := 58) rfl))))))))))))
theorem cd_204_1048 : mt_cd 204 1048 = some (.iaload) := mt_cd_of (q := (1048, .iaload, 1)) mq_204 ci_204 (List.mem_append_right _ (List.mem_append_right _ (List.mem_append_right _ (List.mem_append_right _ (List.mem_append_right _ (List.mem_append_right _ (List.mem_append_right _ (List.mem_append_right _ (List.mem_append_right _ (List.mem_append_right _ (List.mem_append_left _ (show _ ∈ my_204_10 from List.mem_of_getElem? (i := 59) rfl))))))))))))
theorem cd_204_1049 : mt_cd 204 1049 = some (.aload_n 0) := mt_cd_of (q := (1049, .aload_n 0, 1)) mq_204 ci_204 (List.mem_append_right _ (List.mem_append_right _ (List.mem_append_right _ (List.mem_append_right _ (List.mem_append_right _ (List.mem_append_right _ (List.mem_append_right _ (List.mem_append_right _ (List.mem_append_right _ (List.mem_append_right _ (List.mem_append_right _ (List.mem_append_left _ (show _ ∈ my_204_11 from List.mem_of_getElem? (i := 0) rfl)))))))))))))
theorem cd_204_1050 : mt_cd 204 1050 = some (.iload 4) := mt_cd_of (q := (1050, .iload 4, 2)) mq_204 ci_204 (List.mem_append_right _ (List.mem_append_right _ (List.mem_append_right _ (List.mem_append_right _ (List.mem_append_right _ (List.mem_append_right _ (List.mem_append_right _ (List.mem_append_right _ (List.mem_append_right _ (List.mem_append_right _ (List.mem_append_right _ (List.mem_append_left _ (show _ ∈ my_204_11 from List.mem_of_getElem? (i := 1) rfl)))))))))))))
theorem cd_204_1052 : mt_cd 204 1052 = some (.iconst 2) := mt_cd_of (q := (1052, .iconst 2, 1)) mq_204 ci_204 (List.mem_append_right _ (List.mem_append_right _ (List.mem_append_right _ (List.mem_append_right _ (List.mem_append_right _ (List.mem_append_right _ (List.mem_append_right _ (List.mem_append_right _ (List.mem_append_right _ (List.mem_append_right _ (List.mem_append_right _ (List.mem_append_left _ (show _ ∈ my_204_11 from List.mem_of_getElem? (i := 2) rfl)))))))))))))
theorem cd_204_1053 : mt_cd 204 1053 = some (.iadd) := mt_cd_of (q := (1053, .iadd, 1)) mq_204 ci_204 (List.mem_append_right _ (List.mem_append_right _ (List.mem_append_right _ (List.mem_append_right _ (List.mem_append_right _ (List.mem_append_right _ (List.mem_append_right _ (List.mem_append_right _ (List.mem_append_right _ (List.mem_append_right _ (List.mem_append_right _ (List.mem_append_left _ (show _ ∈ my_204_11 from List.mem_of_getElem? (i := 3) rfl)))))))))))))
theorem cd_204_1054 : mt_cd 204 1054 = some (.iaload) := mt_cd_of (q := (1054, .iaload, 1)) mq_204 ci_204 (List.mem_append_right _ (List.mem_append_right _ (List.mem_append_right _ (List.mem_append_right _ (List.mem_append_right _ (List.mem_append_right _ (List.mem_append_right _ (List.mem_append_right _ (List.mem_append_right _ (List.mem_append_right _ (List.mem_append_right _ (List.mem_append_left _ (show _ ∈ my_204_11 from List.mem_of_getElem? (i := 4) rfl)))))))))))))
theorem cd_204_1055 : mt_cd 204 1055 = some (.aload_n 3) := mt_cd_of (q := (1055, .aload_n 3, 1)) mq_204 ci_204 (List.mem_append_right _ (List.mem_append_right _ (List.mem_append_right _ (List.mem_append_right _ (List.mem_append_right _ (List.mem_append_right _ (List.mem_append_right _ (List.mem_append_right _ (List.mem_append_right _ (List.mem_append_right _ (List.mem_append_right _ (List.mem_append_left _ (show _ ∈ my_204_11 from List.mem_of_getElem? (i := 5) rfl)))))))))))))
theorem cd_204_1056 : mt_cd 204 1056 = some (.invokestatic 122) := mt_cd_of (q := (1056, .invokestatic 122, 3)) mq_204 ci_204 (List.mem_append_right _ (List.mem_append_right _ (List.mem_append_right _ (List.mem_append_right _ (List.mem_append_right _ (List.mem_append_right _ (List.mem_append_right _ (List.mem_append_right _ (List.mem_append_right _ (List.mem_append_right _ (List.mem_append_right _ (List.mem_append_left _ (show _ ∈ my_204_11 from List.mem_of_getElem? (i := 6) rfl)))))))))))))
theorem cd_204_1059 : mt_cd 204 1059 = some (.istore 5) := mt_cd_of (q := (1059, .istore 5, 2)) mq_204 ci_204 (List.mem_append_right _ (List.mem_append_right _ (List.mem_append_right _ (List.mem_append_right _ (List.mem_append_right _ (List.mem_append_right _ (List.mem_append_right _ (List.mem_append_right _ (List.mem_append_right _ (List.mem_append_right _ (List.mem_append_right _ (List.mem_append_left _ (show _ ∈ my_204_11 from List.mem_of_getElem? (i := 7) rfl)))))))))))))
theorem cd_204_1061 : mt_cd 204 1061 = some (.aload_n 2) := mt_cd_of (q := (1061, .aload_n 2, 1)) mq_204 ci_204 (List.mem_append_right _ (List.mem_append_right _ (List.mem_append_right _ (List.mem_append_right _ (List.mem_append_right _ (List.mem_append_right _ (List.mem_append_right _ (List.mem_append_right _ (List.mem_append_right _ (List.mem_append_right _ (List.mem_append_right _ (List.mem_append_left _ (show _ ∈ my_204_11 from List.mem_of_getElem? (i := 8) rfl)))))))))))))
theorem cd_204_1062 : mt_cd 204 1062 = some (.aload_n 0) := mt_cd_of (q := (1062, .aload_n 0, 1)) mq_204 ci_204 (List.mem_append_right _ (List.mem_append_right _ (List.mem_append_right _ (List.mem_append_right _ (List.mem_append_right _ (List.mem_append_right _ (List.mem_append_right _ (List.mem_append_right _ (List.mem_append_right _ (List.mem_append_right _ (List.mem_append_right _ (List.mem_append_left _ (show _ ∈ my_204_11 from List.mem_of_getElem? (i := 9) rfl)))))))))))))
theorem cd_204_1063 : mt_cd 204 1063 = some (.iload 4) := mt_cd_of (q := (1063, .iload 4, 2)) mq_204 ci_204 (List.mem_append_right _ (List.mem_append_right _ (List.mem_append_right _ (List.mem_append_right _ (List.mem_append_right _ (List.mem_append_right _ (List.mem_append_right _ (List.mem_append_right _ (List.mem_append_right _ (List.mem_append_right _ (List.mem_append_right _ (List.mem_append_left _ (show _ ∈ my_204_11 from List.mem_of_getElem? (i := 10) rfl)))))))))))))
theorem cd_204_1065 : mt_cd 204 1065 = some (.iconst 1) := mt_cd_of (q := (1065, .iconst 1, 1)) mq_204 ci_204 (List.mem_append_right _ (List.mem_append_right _ (List.mem_append_right _ (List.mem_append_right _ (List.mem_append_right _ (List.mem_append_right _ (List.mem_append_right _ (List.mem_append_right _ (List.mem_append_right _ (List.mem_append_right _ (List.mem_append_right _ (List.mem_append_left _ (show _ ∈ my_204_11 from List.mem_of_getElem? (i := 11) rfl)))))))))))))
theorem cd_204_1066 : mt_cd 204 1066 = some (.iadd) := mt_cd_of (q := (1066, .iadd, 1)) mq_204 ci_204 (List.mem_append_right _ (List.mem_append_right _ (List.mem_append_right _ (List.mem_append_right _ (List.mem_append_right _ (List.mem_append_right _ (List.mem_append_right _ (List.mem_append_right _ (List.mem_append_right _ (List.mem_append_right _ (List.mem_append_right _ (List.mem_append_left _ (show _ ∈ my_204_11 from List.mem_of_getElem? (i := 12) rfl)))))))))))))
theorem cd_204_1067 : mt_cd 204 1067 = some (.iaload) := mt_cd_of (q := (1067, .iaload, 1)) mq_204 ci_204 (List.mem_append_right _ (List.mem_append_right _ (List.mem_append_right _ (List.mem_append_right _ (List.mem_append_right _ (List.mem_append_right _ (List.mem_append_right _ (List.mem_append_right _ (List.mem_append_right _ (List.mem_append_right _ (List.mem_append_right _ (List.mem_append_left _ (show _ ∈ my_204_11 from List.mem_of_getElem? (i := 13) rfl)))))))))))))
theorem cd_204_1068 : mt_cd 204 1068 = some (.aload_n 0) := mt_cd_of (q := (1068, .aload_n 0, 1)) mq_204 ci_204 (List.mem_append_right _ (List.mem_append_right _ (List.mem_append_right _ (List.mem_append_right _ (List.mem_append_right _ (List.mem_append_right _ (List.mem_append_right _ (List.mem_append_right _ (List.mem_append_right _ (List.mem_append_right _ (List.mem_append_right _ (List.mem_append_left _ (show _ ∈ my_204_11 from List.mem_of_getElem? (i := 14) rfl)))))))))))))
theorem cd_204_1069 : mt_cd 204 1069 = some (.iload 4) := mt_cd_of (q := (1069, .iload 4, 2)) mq_204 ci_204 (List.mem_append_right _ (List.mem_append_right _ (List.mem_append_right _ (List.mem_append_right _ (List.mem_append_right _ (List.mem_append_right _ (List.mem_append_right _ (List.mem_append_right _ (List.mem_append_right _ (List.mem_append_right _ (List.mem_append_right _ (List.mem_append_left _ (show _ ∈ my_204_11 from List.mem_of_getElem? (i := 15) rfl)))))))))))))
theorem cd_204_1071 : mt_cd 204 1071 = some (.iconst 2) := mt_cd_of (q := (1071, .iconst 2, 1)) mq_204 ci_204 (List.mem_append_right _ (List.mem_append_right _ (List.mem_append_right _ (List.mem_append_right _ (List.mem_append_right _ (List.mem_append_right _ (List.mem_append_right _ (List.mem_append_right _ (List.mem_append_right _ (List.mem_append_right _ (List.mem_append_right _ (List.mem_append_left _ (show _ ∈ my_204_11 from List.mem_of_getElem? (i := 16) rfl)))))))))))))
theorem cd_204_1072 : mt_cd 204 1072 = some (.iadd) := mt_cd_of (q := (1072, .iadd, 1)) mq_204 ci_204 (List.mem_append_right _ (List.mem_append_right _ (List.mem_append_right _ (List.mem_append_right _ (List.mem_append_right _ (List.mem_append_right _ (List.mem_append_right _ (List.mem_append_right _ (List.mem_append_right _ (List.mem_append_right _ (List.mem_append_right _ (List.mem_append_left _ (show _ ∈ my_204_11 from List.mem_of_getElem? (i := 17) rfl)))))))))))))
theorem cd_204_1073 : mt_cd 204 1073 = some (.iaload) := mt_cd_of (q := (1073, .iaload, 1)) mq_204 ci_204 (List.mem_append_right _ (List.mem_append_right _ (List.mem_append_right _ (List.mem_append_right _ (List.mem_append_right _ (List.mem_append_right _ (List.mem_append_right _ (List.mem_append_right _ (List.mem_append_right _ (List.mem_append_right _ (List.mem_append_right _ (List.mem_append_left _ (show _ ∈ my_204_11 from List.mem_of_getElem? (i := 18) rfl)))))))))))))
theorem cd_204_1074 : mt_cd 204 1074 = some (.invokevirtual 124) := mt_cd_of (q := (1074, .invokevirtual 124, 3)) mq_204 ci_204 (List.mem_append_right _ (List.mem_append_right _ (List.mem_append_right _ (List.mem_append_right _ (List.mem_append_right _ (List.mem_append_right _ (List.mem_append_right _ (List.mem_append_right _ (List.mem_append_right _ (List.mem_append_right _ (List.mem_append_right _ (List.mem_append_left _ (show _ ∈ my_204_11 from List.mem_of_getElem? (i := 19) rfl)))))))))))))
theorem cd_204_1077 : mt_cd 204 1077 = some (.lstore 6) := mt_cd_of (q := (1077, .lstore 6, 2)) mq_204 ci_204 (List.mem_append_right _ (List.mem_append_right _ (List.mem_append_right _ (List.mem_append_right _ (List.mem_append_right _ (List.mem_append_right _ (List.mem_append_right _ (List.mem_append_right _ (List.mem_append_right _ (List.mem_append_right _ (List.mem_append_right _ (List.mem_append_left _ (show _ ∈ my_204_11 from List.mem_of_getElem? (i := 20) rfl)))))))))))))
theorem cd_204_1079 : mt_cd 204 1079 = some (.aload_n 2) := mt_cd_of (q := (1079, .aload_n 2, 1)) mq_204 ci_204 (List.mem_append_right _ (List.mem_append_right _ (List.mem_append_right _ (List.mem_append_right _ (List.mem_append_right _ (List.mem_append_right _ (List.mem_append_right _ (List.mem_append_right _ (List.mem_append_right _ (List.mem_append_right _ (List.mem_append_right _ (List.mem_append_left _ (show _ ∈ my_204_11 from List.mem_of_getElem? (i := 21) rfl)))))))))))))
theorem cd_204_1080 : mt_cd 204 1080 = some (.invokevirtual 75) := mt_cd_of (q := (1080, .invokevirtual 75, 3)) mq_204 ci_204 (List.mem_append_right _ (List.mem_append_right _ (List.mem_append_right _ (List.mem_append_right _ (List.mem_append_right _ (List.mem_append_right _ (List.mem_append_right _ (List.mem_append_right _ (List.mem_append_right _ (List.mem_append_right _ (List.mem_append_right _ (List.mem_append_left _ (show _ ∈ my_204_11 from List.mem_of_getElem? (i := 22) rfl)))))))))))))
theorem cd_204_1083 : mt_cd 204 1083 = some (.iload 5) := mt_cd_of (q := (1083, .iload 5, 2)) mq_204 ci_204 (List.mem_append_right _ (List.mem_append_right _ (List.mem_append_right _ (List.mem_append_right _ (List.mem_append_right _ (List.mem_append_right _ (List.mem_append_right _ (List.mem_append_right _ (List.mem_append_right _ (List.mem_append_right _ (List.mem_append_right _ (List.mem_append_left _ (show _ ∈ my_204_11 from List.mem_of_getElem? (i := 23) rfl)))))))))))))
theorem cd_204_1085 : mt_cd 204 1085 = some (.if_icmp .eq 5) := mt_cd_of (q := (1085, .if_icmp .eq 5, 3)) mq_204 ci_204 (List.mem_append_right _ (List.mem_append_right _ (List.mem_append_right _ (List.mem_append_right _ (List.mem_append_right _ (List.mem_append_right _ (List.mem_append_right _ (List.mem_append_right _ (List.mem_append_right _ (List.mem_append_right _ (List.mem_append_right _ (List.mem_append_left _ (show _ ∈ my_204_11 from List.mem_of_getElem? (i := 24) rfl)))))))))))))
theorem cd_204_1088 : mt_cd 204 1088 = some (.iconst 0) := mt_cd_of (q := (1088, .iconst 0, 1)) mq_204 ci_204 (List.mem_append_right _ (List.mem_append_right _ (List.mem_append_right _ (List.mem_append_right _ (List.mem_append_right _ (List.mem_append_right _ (List.mem_append_right _ (List.mem_append_right _ (List.mem_append_right _ (List.mem_append_right _ (List.mem_append_right _ (List.mem_append_left _ (show _ ∈ my_204_11 from List.mem_of_getElem? (i := 25) rfl)))))))))))))
theorem cd_204_1089 : mt_cd 204 1089 = some (.ireturn) := mt_cd_of (q := (1089, .ireturn, 1)) mq_204 ci_204 (List.mem_append_right _ (List.mem_append_right _ (List.mem_append_right _ (List.mem_append_right _ (List.mem_append_right _ (List.mem_append_right _ (List.mem_append_right _ (List.mem_append_right _ (List.mem_append_right _ (List.mem_append_right _ (List.mem_append_right _ (List.mem_append_left _ (show _ ∈ my_204_11 from List.mem_of_getElem? (i := 26) rfl)))))))))))))
theorem cd_204_1090 : mt_cd 204 1090 = some (.iload 5) := mt_cd_of (q := (1090, .iload 5, 2)) mq_204 ci_204 (List.mem_append_right _ (List.mem_append_right _ (List.mem_append_right _ (List.mem_append_right _ (List.mem_append_right _ (List.mem_append_right _ (List.mem_append_right _ (List.mem_append_right _ (List.mem_append_right _ (List.mem_append_right _ (List.mem_append_right _ (List.mem_append_left _ (show _ ∈ my_204_11 from List.mem_of_getElem? (i := 27) rfl)))))))))))))
theorem cd_204_1092 : mt_cd 204 1092 = some (.ifCond .ne 14) := mt_cd_of (q := (1092, .ifCond .ne 14, 3)) mq_204 ci_204 (List.mem_append_right _ (List.mem_append_right _ (List.mem_append_right _ (List.mem_append_right _ (List.mem_append_right _ (List.mem_append_right _ (List.mem_append_right _ (List.mem_append_right _ (List.mem_append_right _ (List.mem_append_right _ (List.mem_append_right _ (List.mem_append_left _ (show _ ∈ my_204_11 from List.mem_of_getElem? (i := 28) rfl)))))))))))))
theorem cd_204_1095 : mt_cd 204 1095 = some (.aload_n 3) := mt_cd_of (q := (1095, .aload_n 3, 1)) mq_204 ci_204 (List.mem_append_right _ (List.mem_append_right _ (List.mem_append_right _ (List.mem_append_right _ (List.mem_append_right _ (List.mem_append_right _ (List.mem_append_right _ (List.mem_append_right _ (List.mem_append_right _ (List.mem_append_right _ (List.mem_append_right _ (List.mem_append_left _ (show _ ∈ my_204_11 from List.mem_of_getElem? (i := 29) rfl)))))))))))))
theorem cd_204_1096 : mt_cd 204 1096 = some (.iconst 0) := mt_cd_of (q := (1096, .iconst 0, 1)) mq_204 ci_204 (List.mem_append_right _ (List.mem_append_right _ (List.mem_append_right _ (List.mem_append_right _ (List.mem_append_right _ (List.mem_append_right _ (List.mem_append_right _ (List.mem_append_right _ (List.mem_append_right _ (List.mem_append_right _ (List.mem_append_right _ (List.mem_append_left _ (show _ ∈ my_204_11 from List.mem_of_getElem? (i := 30) rfl)))))))))))))
theorem cd_204_1097 : mt_cd 204 1097 = some (.laload) := mt_cd_of (q := (1097, .laload, 1)) mq_204 ci_204 (List.mem_append_right _ (List.mem_append_right _ (List.mem_append_right _ (List.mem_append_right _ (List.mem_append_right _ (List.mem_append_right _ (List.mem_append_right _ (List.mem_append_right _ (List.mem_append_right _ (List.mem_append_right _ (List.mem_append_right _ (List.mem_append_left _ (show _ ∈ my_204_11 from List.mem_of_getElem? (i := 31) rfl)))))))))))))
theorem cd_204_1098 : mt_cd 204 1098 = some (.lload 6) := mt_cd_of (q := (1098, .lload 6, 2)) mq_204 ci_204 (List.mem_append_right _ (List.mem_append_right _ (List.mem_append_right _ (List.mem_append_right _ (List.mem_append_right _ (List.mem_append_right _ (List.mem_append_right _ (List.mem_append_right _ (List.mem_append_right _ (List.mem_append_right _ (List.mem_append_right _ (List.mem_append_left _ (show _ ∈ my_204_11 from List.mem_of_getElem? (i := 32) rfl)))))))))))))
theorem cd_204_1100 : mt_cd 204 1100 = some (.lcmp) := mt_cd_of (q := (1100, .lcmp, 1)) mq_204 ci_204 (List.mem_append_right _ (List.mem_append_right _ (List.mem_append_right _ (List.mem_append_right _ (List.mem_append_right _ (List.mem_append_right _ (List.mem_append_right _ (List.mem_append_right _ (List.mem_append_right _ (List.mem_append_right _ (List.mem_append_right _ (List.mem_append_left _ (show _ ∈ my_204_11 from List.mem_of_getElem? (i := 33) rfl)))))))))))))
theorem cd_204_1101 : mt_cd 204 1101 = some (.ifCond .eq 5) := mt_cd_of (q := (1101, .ifCond .eq 5, 3)) mq_204 ci_204 (List.mem_append_right _ (List.mem_append_right _ (List.mem_append_right _ (List.mem_append_right _ (List.mem_append_right _ (List.mem_append_right _ (List.mem_append_right _ (List.mem_append_right _ (List.mem_append_right _ (List.mem_append_right _ (List.mem_append_right _ (List.mem_append_left _ (show _ ∈ my_204_11 from List.mem_of_getElem? (i := 34) rfl)))))))))))))
theorem cd_204_1104 : mt_cd 204 1104 = some (.iconst 0) := mt_cd_of (q := (1104, .iconst 0, 1)) mq_204 ci_204 (List.mem_append_right _ (List.mem_append_right _ (List.mem_append_right _ (List.mem_append_right _ (List.mem_append_right _ (List.mem_append_right _ (List.mem_append_right _ (List.mem_append_right _ (List.mem_append_right _ (List.mem_append_right _ (List.mem_append_right _ (List.mem_append_left _ (show _ ∈ my_204_11 from List.mem_of_getElem? (i := 35) rfl)))))))))))))
theorem cd_204_1105 : mt_cd 204 1105 = some (.ireturn) := mt_cd_of (q := (1105, .ireturn, 1)) mq_204 ci_204 (List.mem_append_right _ (List.mem_append_right _ (List.mem_append_right _ (List.mem_append_right _ (List.mem_append_right _ (List.mem_append_right _ (List.mem_append_right _ (List.mem_append_right _ (List.mem_append_right _ (List.mem_append_right _ (List.mem_append_right _ (List.mem_append_left _ (show _ ∈ my_204_11 from List.mem_of_getElem? (i := 36) rfl)))))))))))))
theorem cd_204_1106 : mt_cd 204 1106 = some (.goto 59) := mt_cd_of (q := (1106, .goto 59, 3)) mq_204 ci_204 (List.mem_append_right _ (List.mem_append_right _ (List.mem_append_right _ (List.mem_append_right _ (List.mem_append_right _ (List.mem_append_right _ (List.mem_append_right _ (List.mem_append_right _ (List.mem_append_right _ (List.mem_append_right _ (List.mem_append_right _ (List.mem_append_left _ (show _ ∈ my_204_11 from List.mem_of_getElem? (i := 37) rfl)))))))))))))
theorem cd_204_1109 : mt_cd 204 1109 = some (.aload_n 1) := mt_cd_of (q := (1109, .aload_n 1, 1)) mq_204 ci_204 (List.mem_append_right _ (List.mem_append_right _ (List.mem_append_right _ (List.mem_append_right _ (List.mem_append_right _ (List.mem_append_right _ (List.mem_append_right _ (List.mem_append_right _ (List.mem_append_right _ (List.mem_append_right _ (List.mem_append_right _ (List.mem_append_left _ (show _ ∈ my_204_11 from List.mem_of_getElem? (i := 38) rfl)))))))))))))
theorem cd_204_1110 : mt_cd 204 1110 = some (.aload_n 0) := mt_cd_of (q := (1110, .aload_n 0, 1)) mq_204 ci_204 (List.mem_append_right _ (List.mem_append_right _ (List.mem_append_right _ (List.mem_append_right _ (List.mem_append_right _ (List.mem_append_right _ (List.mem_append_right _ (List.mem_append_right _ (List.mem_append_right _ (List.mem_append_right _ (List.mem_append_right _ (List.mem_append_left _ (show _ ∈ my_204_11 from List.mem_of_getElem? (i := 39) rfl)))))))))))))
theorem cd_204_1111 : mt_cd 204 1111 = some (.iload 4) := mt_cd_of (q := (1111, .iload 4, 2)) mq_204 ci_204 (List.mem_append_right _ (List.mem_append_right _ (List.mem_append_right _ (List.mem_append_right _ (List.mem_append_right _ (List.mem_append_right _ (List.mem_append_right _ (List.mem_append_right _ (List.mem_append_right _ (List.mem_append_right _ (List.mem_append_right _ (List.mem_append_left _ (show _ ∈ my_204_11 from List.mem_of_getElem? (i := 40) rfl)))))))))))))
theorem cd_204_1113 : mt_cd 204 1113 = some (.iconst 1) := mt_cd_of (q := (1113, .iconst 1, 1)) mq_204 ci_204 (List.mem_append_right _ (List.mem_append_right _ (List.mem_append_right _ (List.mem_append_right _ (List.mem_append_right _ (List.mem_append_right _ (List.mem_append_right _ (List.mem_append_right _ (List.mem_append_right _ (List.mem_append_right _ (List.mem_append_right _ (List.mem_append_left _ (show _ ∈ my_204_11 from List.mem_of_getElem? (i := 41) rfl)))))))))))))
theorem cd_204_1114 : mt_cd 204 1114 = some (.iadd) := mt_cd_of (q := (1114, .iadd, 1)) mq_204 ci_204 (List.mem_append_right _ (List.mem_append_right _ (List.mem_append_right _ (List.mem_append_right _ (List.mem_append_right _ (List.mem_append_right _ (List.mem_append_right _ (List.mem_append_right _ (List.mem_append_right _ (List.mem_append_right _ (List.mem_append_right _ (List.mem_append_left _ (show _ ∈ my_204_11 from List.mem_of_getElem? (i := 42) rfl)))))))))))))
theorem cd_204_1115 : mt_cd 204 1115 = some (.iaload) := mt_cd_of (q := (1115, .iaload, 1)) mq_204 ci_204 (List.mem_append_right _ (List.mem_append_right _ (List.mem_append_right _ (List.mem_append_right _ (List.mem_append_right _ (List.mem_append_right _ (List.mem_append_right _ (List.mem_append_right _ (List.mem_append_right _ (List.mem_append_right _ (List.mem_append_right _ (List.mem_append_left _ (show _ ∈ my_204_11 from List.mem_of_getElem? (i := 43) rfl)))))))))))))
theorem cd_204_1116 : mt_cd 204 1116 = some (.aload_n 3) := mt_cd_of (q := (1116, .aload_n 3, 1)) mq_204 ci_204 (List.mem_append_right _ (List.mem_append_right _ (List.mem_append_right _ (List.mem_append_right _ (List.mem_append_right _ (List.mem_append_right _ (List.mem_append_right _ (List.mem_append_right _ (List.mem_append_right _ (List.mem_append_right _ (List.mem_append_right _ (List.mem_append_left _ (show _ ∈ my_204_11 from List.mem_of_getElem? (i := 44) rfl)))))))))))))
theorem cd_204_1117 : mt_cd 204 1117 = some (.invokestatic 125) := mt_cd_of (q := (1117, .invokestatic 125, 3)) mq_204 ci_204 (List.mem_append_right _ (List.mem_append_right _ (List.mem_append_right _ (List.mem_append_right _ (List.mem_append_right _ (List.mem_append_right _ (List.mem_append_right _ (List.mem_append_right _ (List.mem_append_right _ (List.mem_append_right _ (List.mem_append_right _ (List.mem_append_left _ (show _ ∈ my_204_11 from List.mem_of_getElem? (i := 45) rfl)))))))))))))
theorem cd_204_1120 : mt_cd 204 1120 = some (.istore 5) := mt_cd_of (q := (1120, .istore 5, 2)) mq_204 ci_204 (List.mem_append_right _ (List.mem_append_right _ (List.mem_append_right _ (List.mem_append_right _ (List.mem_append_right _ (List.mem_append_right _ (List.mem_append_right _ (List.mem_append_right _ (List.mem_append_right _ (List.mem_append_right _ (List.mem_append_right _ (List.mem_append_left _ (show _ ∈ my_204_11 from List.mem_of_getElem? (i := 46) rfl)))))))))))))
theorem cd_204_1122 : mt_cd 204 1122 = some (.aload_n 2) := mt_cd_of (q := (1122, .aload_n 2, 1)) mq_204 ci_204 (List.mem_append_right _ (List.mem_append_right _ (List.mem_append_right _ (List.mem_append_right _ (List.mem_append_right _ (List.mem_append_right _ (List.mem_append_right _ (List.mem_append_right _ (List.mem_append_right _ (List.mem_append_right _ (List.mem_append_right _ (List.mem_append_left _ (show _ ∈ my_204_11 from List.mem_of_getElem? (i := 47) rfl)))))))))))))
theorem cd_204_1123 : mt_cd 204 1123 = some (.aload_n 0) := mt_cd_of (q := (1123, .aload_n 0, 1)) mq_204 ci_204 (List.mem_append_right _ (List.mem_append_right _ (List.mem_append_right _ (List.mem_append_right _ (List.mem_append_right _ (List.mem_append_right _ (List.mem_append_right _ (List.mem_append_right _ (List.mem_append_right _ (List.mem_append_right _ (List.mem_append_right _ (List.mem_append_left _ (show _ ∈ my_204_11 from List.mem_of_getElem? (i := 48) rfl)))))))))))))
theorem cd_204_1124 : mt_cd 204 1124 = some (.iload 4) := mt_cd_of (q := (1124, .iload 4, 2)) mq_204 ci_204 (List.mem_append_right _ (List.mem_append_right _ (List.mem_append_right _ (List.mem_append_right _ (List.mem_append_right _ (List.mem_append_right _ (List.mem_append_right _ (List.mem_append_right _ (List.mem_append_right _ (List.mem_append_right _ (List.mem_append_right _ (List.mem_append_left _ (show _ ∈ my_204_11 from List.mem_of_getElem? (i := 49) rfl)))))))))))))
theorem cd_204_1126 : mt_cd 204 1126 = some (.iconst 1) := mt_cd_of (q := (1126, .iconst 1, 1)) mq_204 ci_204 (List.mem_append_right _ (List.mem_append_right _ (List.mem_append_right _ (List.mem_append_right _ (List.mem_append_right _ (List.mem_append_right _ (List.mem_append_right _ (List.mem_append_right _ (List.mem_append_right _ (List.mem_append_right _ (List.mem_append_right _ (List.mem_append_left _ (show _ ∈ my_204_11 from List.mem_of_getElem? (i := 50) rfl)))))))))))))
theorem cd_204_1127 : mt_cd 204 1127 = some (.iadd) := mt_cd_of (q := (1127, .iadd, 1)) mq_204 ci_204 (List.mem_append_right _ (List.mem_append_right _ (List.mem_append_right _ (List.mem_append_right _ (List.mem_append_right _ (List.mem_append_right _ (List.mem_append_right _ (List.mem_append_right _ (List.mem_append_right _ (List.mem_append_right _ (List.mem_append_right _ (List.mem_append_left _ (show _ ∈ my_204_11 from List.mem_of_getElem? (i := 51) rfl)))))))))))))
theorem cd_204_1128 : mt_cd 204 1128 = some (.iaload) := mt_cd_of (q := (1128, .iaload, 1)) mq_204 ci_204 (List.mem_append_right _ (List.mem_append_right _ (List.mem_append_right _ (List.mem_append_right _ (List.mem_append_right _ (List.mem_append_right _ (List.mem_append_right _ (List.mem_append_right _ (List.mem_append_right _ (List.mem_append_right _ (List.mem_append_right _ (List.mem_append_left _ (show _ ∈ my_204_11 from List.mem_of_getElem? (i := 52) rfl)))))))))))))
theorem cd_204_1129 : mt_cd 204 1129 = some (.invokevirtual 127) := mt_cd_of (q := (1129, .invokevirtual 127, 3)) mq_204 ci_204 (List.mem_append_right _ (List.mem_append_right _ (List.mem_append_right _ (List.mem_append_right _ (List.mem_append_right _ (List.mem_append_right _ (List.mem_append_right _ (List.mem_append_right _ (List.mem_append_right _ (List.mem_append_right _ (List.mem_append_right _ (List.mem_append_left _ (show _ ∈ my_204_11 from List.mem_of_getElem? (i := 53) rfl)))))))))))))
theorem cd_204_1132 : mt_cd 204 1132 = some (.istore 6) := mt_cd_of (q := (1132, .istore 6, 2)) mq_204 ci_204 (List.mem_append_right _ (List.mem_append_right _ (List.mem_append_right _ (List.mem_append_right _ (List.mem_append_right _ (List.mem_append_right _ (List.mem_append_right _ (List.mem_append_right _ (List.mem_append_right _ (List.mem_append_right _ (List.mem_append_right _ (List.mem_append_left _ (show _ ∈ my_204_11 from List.mem_of_getElem? (i := 54) rfl)))))))))))))
theorem cd_204_1134 : mt_cd 204 1134 = some (.aload_n 2) := mt_cd_of (q := (1134, .aload_n 2, 1)) mq_204 ci_204 (List.mem_append_right _ (List.mem_append_right _ (List.mem_append_right _ (List.mem_append_right _ (List.mem_append_right _ (List.mem_append_right _ (List.mem_append_right _ (List.mem_append_right _ (List.mem_append_right _ (List.mem_append_right _ (List.mem_append_right _ (List.mem_append_left _ (show _ ∈ my_204_11 from List.mem_of_getElem? (i := 55) rfl)))))))))))))
theorem cd_204_1135 : mt_cd 204 1135 = some (.invokevirtual 75) := mt_cd_of (q := (1135, .invokevirtual 75, 3)) mq_204 ci_204 (List.mem_append_right _ (List.mem_append_right _ (List.mem_append_right _ (List.mem_append_right _ (List.mem_append_right _ (List.mem_append_right _ (List.mem_append_right _ (List.mem_append_right _ (List.mem_append_right _ (List.mem_append_right _ (List.mem_append_right _ (List.mem_append_left _ (show _ ∈ my_204_11 from List.mem_of_getElem? (i := 56) rfl)))))))))))))
theorem cd_204_1138 : mt_cd 204 1138 = some (.iload 5) := mt_cd_of (q := (1138, .iload 5, 2)) mq_204 ci_204 (List.mem_append_right _ (List.mem_append_right _ (List.mem_append_right _ (List.mem_append_right _ (List.mem_append_right _ (List.mem_append_right _ (List.mem_append_right _ (List.mem_append_right _ (List.mem_append_right _ (List.mem_append_right _ (List.mem_append_right _ (List.mem_append_left _ (show _ ∈ my_204_11 from List.mem_of_getElem? (i := 57) rfl)))))))))))))
theorem cd_204_1140 : mt_cd 204 1140 = some (.if_icmp .eq 5) := mt_cd_of (q := (1140, .if_icmp .eq 5, 3)) mq_204 ci_204 (List.mem_append_right _ (List.mem_append_right _ (List.mem_append_right _ (List.mem_append_right _ (List.mem_append_right _ (List.mem_append_right _ (List.mem_append_right _ (List.mem_append_right _ (List.mem_append_right _ (List.mem_append_right _ (List.mem_append_right _ (List.mem_append_left _ (show _ ∈ my_204_11 from List.mem_of_getElem? (i := 58) rfl)))))))))))))
theorem cd_204_1143 : mt_cd 204 1143 = some (.iconst 0) := mt_cd_of (q := (1143, .iconst 0, 1)) mq_204 ci_204 (List.mem_append_right _ (List.mem_append_right _ (List.mem_append_right _ (List.mem_append_right _ (List.mem_append_right _ (List.mem_append_right _ (List.mem_append_right _ (List.mem_append_right _ (List.mem_append_right _ (List.mem_append_right _ (List.mem_append_right _ (List.mem_append_left _ (show _ ∈ my_204_11 from List.mem_of_getElem? (i := 59) rfl)))))))))))))
theorem cd_204_1144 : mt_cd 204 1144 = some (.ireturn) := mt_cd_of (q := (1144, .ireturn, 1)) mq_204 ci_204 (List.mem_append_right _ (List.mem_append_right _ (List.mem_append_right _ (List.mem_append_right _ (List.mem_append_right _ (List.mem_append_right _ (List.mem_append_right _ (List.mem_append_right _ (List.mem_append_right _ (List.mem_append_right _ (List.mem_append_right _ (List.mem_append_right _ ((show _ ∈ my_204_12 from List.mem_of_getElem? (i := 0) rfl))))))))))))))
theorem cd_204_1145 : mt_cd 204 1145 = some (.iload 5) := mt_cd_of (q := (1145, .iload 5, 2)) mq_204 ci_204 (List.mem_append_right _ (List.mem_append_right _ (List.mem_append_right _ (List.mem_append_right _ (List.mem_append_right _ (List.mem_append_right _ (List.mem_append_right _ (List.mem_append_right _ (List.mem_append_right _ (List.mem_append_right _ (List.mem_append_right _ (List.mem_append_right _ ((show _ ∈ my_204_12 from List.mem_of_getElem? (i := 1) rfl))))))))))))))
theorem cd_204_1147 : mt_cd 204 1147 = some (.ifCond .ne 15) := mt_cd_of (q := (1147, .ifCond .ne 15, 3)) mq_204 ci_204 (List.mem_append_right _ (List.mem_append_right _ (List.mem_append_right _ (List.mem_append_right _ (List.mem_append_right _ (List.mem_append_right _ (List.mem_append_right _ (List.mem_append_right _ (List.mem_append_right _ (List.mem_append_right _ (List.mem_append_right _ (List.mem_append_right _ ((show _ ∈ my_204_12 from List.mem_of_getElem? (i := 2) rfl))))))))))))))
theorem cd_204_1150 : mt_cd 204 1150 = some (.aload_n 3) := mt_cd_of (q := (1150, .aload_n 3, 1)) mq_204 ci_204 (List.mem_append_right _ (List.mem_append_right _ (List.mem_append_right _ (List.mem_append_right _ (List.mem_append_right _ (List.mem_append_right _ (List.mem_append_right _ (List.mem_append_right _ (List.mem_append_right _ (List.mem_append_right _ (List.mem_append_right _ (List.mem_append_right _ ((show _ ∈ my_204_12 from List.mem_of_getElem? (i := 3) rfl))))))))))))))
theorem cd_204_1151 : mt_cd 204 1151 = some (.iconst 0) := mt_cd_of (q := (1151, .iconst 0, 1)) mq_204 ci_204 (List.mem_append_right _ (List.mem_append_right _ (List.mem_append_right _ (List.mem_append_right _ (List.mem_append_right _ (List.mem_append_right _ (List.mem_append_right _ (List.mem_append_right _ (List.mem_append_right _ (List.mem_append_right _ (List.mem_append_right _ (List.mem_append_right _ ((show _ ∈ my_204_12 from List.mem_of_getElem? (i := 4) rfl))))))))))))))
theorem cd_204_1152 : mt_cd 204 1152 = some (.laload) := mt_cd_of (q := (1152, .laload, 1)) mq_204 ci_204 (List.mem_append_right _ (List.mem_append_right _ (List.mem_append_right _ (List.mem_append_right _ (List.mem_append_right _ (List.mem_append_right _ (List.mem_append_right _ (List.mem_append_right _ (List.mem_append_right _ (List.mem_append_right _ (List.mem_append_right _ (List.mem_append_right _ ((show _ ∈ my_204_12 from List.mem_of_getElem? (i := 5) rfl))))))))))))))
theorem cd_204_1153 : mt_cd 204 1153 = some (.iload 6) := mt_cd_of (q := (1153, .iload 6, 2)) mq_204 ci_204 (List.mem_append_right _ (List.mem_append_right _ (List.mem_append_right _ (List.mem_append_right _ (List.mem_append_right _ (List.mem_append_right _ (List.mem_append_right _ (List.mem_append_right _ (List.mem_append_right _ (List.mem_append_right _ (List.mem_append_right _ (List.mem_append_right _ ((show _ ∈ my_204_12 from List.mem_of_getElem? (i := 6) rfl))))))))))))))
theorem cd_204_1155 : mt_cd 204 1155 = some (.i2l) := mt_cd_of (q := (1155, .i2l, 1)) mq_204 ci_204 (List.mem_append_right _ (List.mem_append_right _ (List.mem_append_right _ (List.mem_append_right _ (List.mem_append_right _ (List.mem_append_right _ (List.mem_append_right _ (List.mem_append_right _ (List.mem_append_right _ (List.mem_append_right _ (List.mem_append_right _ (List.mem_append_right _ ((show _ ∈ my_204_12 from List.mem_of_getElem? (i := 7) rfl))))))))))))))
theorem cd_204_1156 : mt_cd 204 1156 = some (.lcmp) := mt_cd_of (q := (1156, .lcmp, 1)) mq_204 ci_204 (List.mem_append_right _ (List.mem_append_right _ (List.mem_append_right _ (List.mem_append_right _ (List.mem_append_right _ (List.mem_append_right _ (List.mem_append_right _ (List.mem_append_right _ (List.mem_append_right _ (List.mem_append_right _ (List.mem_append_right _ (List.mem_append_right _ ((show _ ∈ my_204_12 from List.mem_of_getElem? (i := 8) rfl))))))))))))))
theorem cd_204_1157 : mt_cd 204 1157 = some (.ifCond .eq 5) := mt_cd_of (q := (1157, .ifCond .eq 5, 3)) mq_204 ci_204 (List.mem_append_right _ (List.mem_append_right _ (List.mem_append_right _ (List.mem_append_right _ (List.mem_append_right _ (List.mem_append_right _ (List.mem_append_right _ (List.mem_append_right _ (List.mem_append_right _ (List.mem_append_right _ (List.mem_append_right _ (List.mem_append_right _ ((show _ ∈ my_204_12 from List.mem_of_getElem? (i := 9) rfl))))))))))))))
theorem cd_204_1160 : mt_cd 204 1160 = some (.iconst 0) := mt_cd_of (q := (1160, .iconst 0, 1)) mq_204 ci_204 (List.mem_append_right _ (List.mem_append_right _ (List.mem_append_right _ (List.mem_append_right _ (List.mem_append_right _ (List.mem_append_right _ (List.mem_append_right _ (List.mem_append_right _ (List.mem_append_right _ (List.mem_append_right _ (List.mem_append_right _ (List.mem_append_right _ ((show _ ∈ my_204_12 from List.mem_of_getElem? (i := 10) rfl))))))))))))))
theorem cd_204_1161 : mt_cd 204 1161 = some (.ireturn) := mt_cd_of (q := (1161, .ireturn, 1)) mq_204 ci_204 (List.mem_append_right _ (List.mem_append_right _ (List.mem_append_right _ (List.mem_append_right _ (List.mem_append_right _ (List.mem_append_right _ (List.mem_append_right _ (List.mem_append_right _ (List.mem_append_right _ (List.mem_append_right _ (List.mem_append_right _ (List.mem_append_right _ ((show _ ∈ my_204_12 from List.mem_of_getElem? (i := 11) rfl))))))))))))))
theorem cd_204_1162 : mt_cd 204 1162 = some (.goto 3) := mt_cd_of (q := (1162, .goto 3, 3)) mq_204 ci_204 (List.mem_append_right _ (List.mem_append_right _ (List.mem_append_right _ (List.mem_append_right _ (List.mem_append_right _ (List.mem_append_right _ (List.mem_append_right _ (List.mem_append_right _ (List.mem_append_right _ (List.mem_append_right _ (List.mem_append_right _ (List.mem_append_right _ ((show _ ∈ my_204_12 from List.mem_of_getElem? (i := 12) rfl))))))))))))))
theorem cd_204_1165 : mt_cd 204 1165 = some (.iinc 4 6) := mt_cd_of (q := (1165, .iinc 4 6, 3)) mq_204 ci_204 (List.mem_append_right _ (List.mem_append_right _ (List.mem_append_right _ (List.mem_append_right _ (List.mem_append_right _ (List.mem_append_right _ (List.mem_append_right _ (List.mem_append_right _ (List.mem_append_right _ (List.mem_append_right _ (List.mem_append_right _ (List.mem_append_right _ ((show _ ∈ my_204_12 from List.mem_of_getElem? (i := 13) rfl))))))))))))))
theorem cd_204_1168 : mt_cd 204 1168 = some (.goto (-1145)) := mt_cd_of (q := (1168, .goto (-1145), 3)) mq_204 ci_204 (List.mem_append_right _ (List.mem_append_right _ (List.mem_append_right _ (List.mem_append_right _ (List.mem_append_right _ (List.mem_append_right _ (List.mem_append_right _ (List.mem_append_right _ (List.mem_append_right _ (List.mem_append_right _ (List.mem_append_right _ (List.mem_append_right _ ((show _ ∈ my_204_12 from List.mem_of_getElem? (i := 14) rfl))))))))))))))
theorem cd_204_1171 : mt_cd 204 1171 = some (.iconst 1) := mt_cd_of (q := (1171, .iconst 1, 1)) mq_204 ci_204 (List.mem_append_right _ (List.mem_append_right _ (List.mem_append_right _ (List.mem_append_right _ (List.mem_append_right _ (List.mem_append_right _ (List.mem_append_right _ (List.mem_append_right _ (List.mem_append_right _ (List.mem_append_right _ (List.mem_append_right _ (List.mem_append_right _ ((show _ ∈ my_204_12 from List.mem_of_getElem? (i := 15) rfl))))))))))))))
theorem cd_204_1172 : mt_cd 204 1172 = some (.ireturn) := mt_cd_of (q := (1172, .ireturn, 1)) mq_204 ci_204 (List.mem_append_right _ (List.mem_append_right _ (List.mem_append_right _ (List.mem_append_right _ (List.mem_append_right _ (List.mem_append_right _ (List.mem_append_right _ (List.mem_append_right _ (List.mem_append_right _ (List.mem_append_right _ (List.mem_append_right _ (List.mem_append_right _ ((show _ ∈ my_204_12 from List.mem_of_getElem? (i := 16) rfl))))))))))))))
theorem b_204_0 {d : Nat} {Q : (Option Value ⊕ Nat) → mi_H → Prop} (n sl : Nat) (f : Nat → mi_C) {l1 : Nat} {o2 : Option Value} {o3 : Option Value} {o4 : Option Value} {o5 : Option Value} {o6 : Option Value} {o7 : Option Value} {o8 : Option Value} (h9 : n + 1 ≤ mi_NC ∧ sl + 10 ≤ mi_NS) (h10 : n < (n + 1)) (h11 : mi_W d 0 0 (mi_en 1 [.ref n]) [] ((n + 1), (sl + 10), (va_up f n (.inr (0, mt_df 0)))) (mi_Kc d 204 4 [some (.ref l1), o2, o3, o4, o5, o6, o7, o8] [.ref n] Q)) : mi_W (d + 1) 204 0 [some (.ref l1), o2, o3, o4, o5, o6, o7, o8] [] (n, sl, f) Q := by
  refine w_new cd_204_0 (show mt_c 18 8 = some 0 by decide +kernel) (by decide) h9 ?_
  refine w_dup_r cd_204_3 ?_
  exact w_invokespecial cd_204_4 (show mt_m 18 65 = some (0, 2) by decide +kernel) (Or.inl rfl) (by decide) (rest := [.ref n]) rfl (as := [.ref n]) rfl h10 ⟨Nat.le_of_ble_eq_true rfl, Nat.le_of_ble_eq_true rfl, Nat.le_of_ble_eq_true rfl⟩ h11
theorem b_204_7 {d : Nat} {Q : (Option Value ⊕ Nat) → mi_H → Prop} (n sl : Nat) (f : Nat → mi_C) {l1 : Nat} {o2 : Option Value} {o3 : Option Value} {o4 : Option Value} {o5 : Option Value} {o6 : Option Value} {o7 : Option Value} {o8 : Option Value} {s9 : Nat} (h10 : n + 1 ≤ mi_NC ∧ sl + 88 ≤ mi_NS) (h11 : n < (n + 1)) (h12 : mi_W d 136 0 (mi_en 1 [.ref n]) [] ((n + 1), (sl + 88), (va_up f n (.inr (12, mt_df 12)))) (mi_Kc d 204 12 [some (.ref l1), some (.ref s9), o3, o4, o5, o6, o7, o8] [.ref n] Q)) : mi_W (d + 1) 204 7 [some (.ref l1), o2, o3, o4, o5, o6, o7, o8] [.ref s9] (n, sl, f) Q := by
  refine w_astore_n (ls' := [some (.ref l1), some (.ref s9), o3, o4, o5, o6, o7, o8]) cd_204_7 (Nat.le_of_ble_eq_true rfl) rfl ?_
  refine w_new cd_204_8 (show mt_c 18 66 = some 12 by decide +kernel) (by decide) h10 ?_
  refine w_dup_r cd_204_11 ?_
  exact w_invokespecial cd_204_12 (show mt_m 18 68 = some (136, 2) by decide +kernel) (Or.inl rfl) (by decide) (rest := [.ref n]) rfl (as := [.ref n]) rfl h11 ⟨Nat.le_of_ble_eq_true rfl, Nat.le_of_ble_eq_true rfl, Nat.le_of_ble_eq_true rfl⟩ h12
theorem b_204_15 {d : Nat} {Q : (Option Value ⊕ Nat) → mi_H → Prop} (n sl : Nat) (f : Nat → mi_C) {l1 : Nat} {l2 : Nat} {o3 : Option Value} {o4 : Option Value} {o5 : Option Value} {o6 : Option Value} {o7 : Option Value} {o8 : Option Value} {s9 : Nat} {m10 : Nat} (h11 : ¬ 1 < (0 : Int32) ∧ Int32.toNatClampNeg 1 = m10 ∧ m10 ≤ 1000000) (h12 : n + 1 ≤ mi_NC ∧ sl + m10 ≤ mi_NS) (h13 : mi_W d 204 23 [some (.ref l1), some (.ref l2), some (.ref s9), some (.ref n), some (.int 0), o6, o7, o8] [] ((n + 1), (sl + m10), (va_up f n (.inl (3, m10, .inr (.inl (fun _ => 0)))))) Q) : mi_W d 204 15 [some (.ref l1), some (.ref l2), o3, o4, o5, o6, o7, o8] [.ref s9] (n, sl, f) Q := by
  refine w_astore_n (ls' := [some (.ref l1), some (.ref l2), some (.ref s9), o4, o5, o6, o7, o8]) cd_204_15 (Nat.le_of_ble_eq_true rfl) rfl ?_
  refine w_iconst (v := 1) cd_204_16 (by decide) ?_
  refine w_newarray cd_204_17 rfl h11 h12 ?_
  refine w_astore_n (ls' := [some (.ref l1), some (.ref l2), some (.ref s9), some (.ref n), o5, o6, o7, o8]) cd_204_19 (Nat.le_of_ble_eq_true rfl) rfl ?_
  refine w_iconst (v := 0) cd_204_20 (by decide) ?_
  refine w_istore (ls' := [some (.ref l1), some (.ref l2), some (.ref s9), some (.ref n), some (.int 0), o6, o7, o8]) cd_204_21 (Nat.le_of_ble_eq_true rfl) rfl ?_
  exact h13
theorem b_204_23 {d : Nat} {Q : (Option Value ⊕ Nat) → mi_H → Prop} (n sl : Nat) (f : Nat → mi_C) {l1 : Nat} {l2 : Nat} {l3 : Nat} {l4 : Nat} {l5 : Int32} {o6 : Option Value} {o7 : Option Value} {o8 : Option Value} (m9 ka9 : Nat) (g9 : (Nat → Int32) ⊕ (Nat → Int64) ⊕ (Nat → UInt32) ⊕ (Nat → UInt64) ⊕ (Nat → Option Nat)) (h10 : f l1 = .inl (ka9, m9, g9)) (h11 : l1 < n ∧ ka9 < mt_na) (h12 : ((Int32.ofNat m9) - 6) < l5 → mi_W d 204 1171 [some (.ref l1), some (.ref l2), some (.ref l3), some (.ref l4), some (.int l5), o6, o7, o8] [] (n, sl, f) Q) (h13 : ¬ (((Int32.ofNat m9) - 6) < l5) → mi_W d 204 33 [some (.ref l1), some (.ref l2), some (.ref l3), some (.ref l4), some (.int l5), o6, o7, o8] [] (n, sl, f) Q) : mi_W d 204 23 [some (.ref l1), some (.ref l2), some (.ref l3), some (.ref l4), some (.int l5), o6, o7, o8] [] (n, sl, f) Q := by
  refine w_iload cd_204_23 rfl ?_
  refine w_aload_n cd_204_25 rfl ?_
  refine w_arraylength cd_204_26 h10 h11 ?_
  refine w_bipush (v := 6) cd_204_27 (by decide) ?_
  refine w_isub cd_204_29 ?_
  exact w_if_icmpgt cd_204_30 (by decide) h12 h13
theorem b_204_33 {d : Nat} {Q : (Option Value ⊕ Nat) → mi_H → Prop} (n sl : Nat) (f : Nat → mi_C) {l1 : Nat} {l2 : Nat} {l3 : Nat} {l4 : Nat} {l5 : Int32} {o6 : Option Value} {o7 : Option Value} {o8 : Option Value} (m9 i9 : Nat) (g9 : Nat → Int32) {t13 : Nat} (h10 : f l1 = .inl (0, m9, .inl g9)) (h11 : l1 < n ∨ l1 = mi_SC) (h12 : mi_ix l5 m9 i9) (h14 : mi_ts 40 1125 0 13 #[72, 176, 232, 245, 356, 480, 580, 624, 756, 824, 879, 958, 1002, 1069] (((g9 i9) &&& 15) : Int32).toInt = some t13) (h15 : mi_W d 204 t13 [some (.ref l1), some (.ref l2), some (.ref l3), some (.ref l4), some (.int l5), o6, o7, o8] [] (n, sl, f) Q) : mi_W d 204 33 [some (.ref l1), some (.ref l2), some (.ref l3), some (.ref l4), some (.int l5), o6, o7, o8] [] (n, sl, f) Q := by
  refine w_aload_n cd_204_33 rfl ?_
  refine w_iload cd_204_34 rfl ?_
  refine w_iaload cd_204_36 h10 h11 h12 ?_
  refine w_bipush (v := 15) cd_204_37 (by decide) ?_
  refine w_iand cd_204_39 ?_
  exact w_tableswitch cd_204_40 h14 h15
theorem b_204_112 {d : Nat} {Q : (Option Value ⊕ Nat) → mi_H → Prop} (n sl : Nat) (f : Nat → mi_C) {l1 : Nat} {l2 : Nat} {l3 : Nat} {l4 : Nat} {l5 : Int32} {o6 : Option Value} {o7 : Option Value} {o8 : Option Value} (m9 i9 : Nat) (g9 : Nat → Int32) (m13 i13 : Nat) (g13 : Nat → Int32) (m17 i17 : Nat) (g17 : Nat → Int32) (m21 i21 : Nat) (g21 : Nat → Int32) (m25 i25 : Nat) (g25 : Nat → Int32) (h10 : f l1 = .inl (0, m9, .inl g9)) (h11 : l1 < n ∨ l1 = mi_SC) (h12 : mi_ix (l5 + 1) m9 i9) (h14 : f l1 = .inl (0, m13, .inl g13)) (h15 : l1 < n ∨ l1 = mi_SC) (h16 : mi_ix (l5 + 2) m13 i13) (h18 : f l1 = .inl (0, m17, .inl g17)) (h19 : l1 < n ∨ l1 = mi_SC) (h20 : mi_ix (l5 + 3) m17 i17) (h22 : f l1 = .inl (0, m21, .inl g21)) (h23 : l1 < n ∨ l1 = mi_SC) (h24 : mi_ix (l5 + 4) m21 i21) (h26 : f l1 = .inl (0, m25, .inl g25)) (h27 : l1 < n ∨ l1 = mi_SC) (h28 : mi_ix (l5 + 5) m25 i25) (h29 : mi_W d 13 0 (mi_en 8 [.ref l2, .int (g9 i9), .int (g13 i13), .int (g17 i17), .int (g21 i21), .int (g25 i25), .ref l4]) [] (n, sl, f) (mi_Kc d 204 144 [some (.ref l1), some (.ref l2), some (.ref l3), some (.ref l4), some (.int l5), o6, o7, o8] [] Q)) : mi_W (d + 1) 204 112 [some (.ref l1), some (.ref l2), some (.ref l3), some (.ref l4), some (.int l5), o6, o7, o8] [] (n, sl, f) Q := by
  refine w_aload_n cd_204_112 rfl ?_
  refine w_aload_n cd_204_113 rfl ?_
  refine w_iload cd_204_114 rfl ?_
  refine w_iconst (v := 1) cd_204_116 (by decide) ?_
  refine w_iadd cd_204_117 ?_
  refine w_iaload cd_204_118 h10 h11 h12 ?_
  refine w_aload_n cd_204_119 rfl ?_
  refine w_iload cd_204_120 rfl ?_
  refine w_iconst (v := 2) cd_204_122 (by decide) ?_
  refine w_iadd cd_204_123 ?_
  refine w_iaload cd_204_124 h14 h15 h16 ?_
  refine w_aload_n cd_204_125 rfl ?_
  refine w_iload cd_204_126 rfl ?_
  refine w_iconst (v := 3) cd_204_128 (by decide) ?_
  refine w_iadd cd_204_129 ?_
  refine w_iaload cd_204_130 h18 h19 h20 ?_
  refine w_aload_n cd_204_131 rfl ?_
  refine w_iload cd_204_132 rfl ?_
  refine w_iconst (v := 4) cd_204_134 (by decide) ?_
  refine w_iadd cd_204_135 ?_
  refine w_iaload cd_204_136 h22 h23 h24 ?_
  refine w_aload_n cd_204_137 rfl ?_
  refine w_iload cd_204_138 rfl ?_
  refine w_iconst (v := 5) cd_204_140 (by decide) ?_
  refine w_iadd cd_204_141 ?_
  refine w_iaload cd_204_142 h26 h27 h28 ?_
  refine w_aload_n cd_204_143 rfl ?_
  exact w_invokestatic cd_204_144 (show mt_m 18 69 = some (13, 4) by decide +kernel) (by decide) (rest := []) rfl (as := [.ref l2, .int (g9 i9), .int (g13 i13), .int (g17 i17), .int (g21 i21), .int (g25 i25), .ref l4]) rfl ⟨Nat.le_of_ble_eq_true rfl, Nat.le_of_ble_eq_true rfl, Nat.le_of_ble_eq_true rfl⟩ h29
theorem b_204_147 {d : Nat} {Q : (Option Value ⊕ Nat) → mi_H → Prop} (n sl : Nat) (f : Nat → mi_C) {l1 : Nat} {l2 : Nat} {l3 : Nat} {l4 : Nat} {l5 : Int32} {o6 : Option Value} {o7 : Option Value} {o8 : Option Value} {s9 : Int32} (m10 i10 : Nat) (g10 : Nat → Int32) (m14 i14 : Nat) (g14 : Nat → Int32) (m18 i18 : Nat) (g18 : Nat → Int32) (m22 i22 : Nat) (g22 : Nat → Int32) (m26 i26 : Nat) (g26 : Nat → Int32) {fs30 : List Value} (h11 : f l1 = .inl (0, m10, .inl g10)) (h12 : l1 < n ∨ l1 = mi_SC) (h13 : mi_ix (l5 + 1) m10 i10) (h15 : f l1 = .inl (0, m14, .inl g14)) (h16 : l1 < n ∨ l1 = mi_SC) (h17 : mi_ix (l5 + 2) m14 i14) (h19 : f l1 = .inl (0, m18, .inl g18)) (h20 : l1 < n ∨ l1 = mi_SC) (h21 : mi_ix (l5 + 3) m18 i18) (h23 : f l1 = .inl (0, m22, .inl g22)) (h24 : l1 < n ∨ l1 = mi_SC) (h25 : mi_ix (l5 + 4) m22 i22) (h27 : f l1 = .inl (0, m26, .inl g26)) (h28 : l1 < n ∨ l1 = mi_SC) (h29 : mi_ix (l5 + 5) m26 i26) (h31 : f l3 = .inr (12, fs30)) (h32 : l3 < n) (h33 : mi_W d 139 0 (mi_en 8 [.ref l3, .int (g10 i10), .int (g14 i14), .int (g18 i18), .int (g22 i22), .int (g26 i26)]) [] (n, sl, f) (mi_Kc d 204 180 [some (.ref l1), some (.ref l2), some (.ref l3), some (.ref l4), some (.int l5), some (.int s9), o7, o8] [] Q)) : mi_W (d + 1) 204 147 [some (.ref l1), some (.ref l2), some (.ref l3), some (.ref l4), some (.int l5), o6, o7, o8] [.int s9] (n, sl, f) Q := by
  refine w_istore (ls' := [some (.ref l1), some (.ref l2), some (.ref l3), some (.ref l4), some (.int l5), some (.int s9), o7, o8]) cd_204_147 (Nat.le_of_ble_eq_true rfl) rfl ?_
  refine w_aload_n cd_204_149 rfl ?_
  refine w_aload_n cd_204_150 rfl ?_
  refine w_iload cd_204_151 rfl ?_
  refine w_iconst (v := 1) cd_204_153 (by decide) ?_
  refine w_iadd cd_204_154 ?_
  refine w_iaload cd_204_155 h11 h12 h13 ?_
  refine w_aload_n cd_204_156 rfl ?_
  refine w_iload cd_204_157 rfl ?_
  refine w_iconst (v := 2) cd_204_159 (by decide) ?_
  refine w_iadd cd_204_160 ?_
  refine w_iaload cd_204_161 h15 h16 h17 ?_
  refine w_aload_n cd_204_162 rfl ?_
  refine w_iload cd_204_163 rfl ?_
  refine w_iconst (v := 3) cd_204_165 (by decide) ?_
  refine w_iadd cd_204_166 ?_
  refine w_iaload cd_204_167 h19 h20 h21 ?_
  refine w_aload_n cd_204_168 rfl ?_
  refine w_iload cd_204_169 rfl ?_
  refine w_iconst (v := 4) cd_204_171 (by decide) ?_
  refine w_iadd cd_204_172 ?_
  refine w_iaload cd_204_173 h23 h24 h25 ?_
  refine w_aload_n cd_204_174 rfl ?_
  refine w_iload cd_204_175 rfl ?_
  refine w_iconst (v := 5) cd_204_177 (by decide) ?_
  refine w_iadd cd_204_178 ?_
  refine w_iaload cd_204_179 h27 h28 h29 ?_
  exact w_invokevirtual cd_204_180 (show mt_m 18 74 = some (139, 0) by decide +kernel) (rest := []) rfl (as := [.ref l3, .int (g10 i10), .int (g14 i14), .int (g18 i18), .int (g22 i22), .int (g26 i26)]) rfl h31 (Or.inl h32) ⟨Nat.le_of_ble_eq_true rfl, Nat.le_of_ble_eq_true rfl, Nat.le_of_ble_eq_true rfl⟩ h33
theorem b_204_183 {d : Nat} {Q : (Option Value ⊕ Nat) → mi_H → Prop} (n sl : Nat) (f : Nat → mi_C) {l1 : Nat} {l2 : Nat} {l3 : Nat} {l4 : Nat} {l5 : Int32} {l6 : Int32} {o7 : Option Value} {o8 : Option Value} {s9 : Int32} {fs10 : List Value} (h11 : f l3 = .inr (12, fs10)) (h12 : l3 < n) (h13 : mi_W d 138 0 (mi_en 1 [.ref l3]) [] (n, sl, f) (mi_Kc d 204 186 [some (.ref l1), some (.ref l2), some (.ref l3), some (.ref l4), some (.int l5), some (.int l6), some (.int s9), o8] [] Q)) : mi_W (d + 1) 204 183 [some (.ref l1), some (.ref l2), some (.ref l3), some (.ref l4), some (.int l5), some (.int l6), o7, o8] [.int s9] (n, sl, f) Q := by
  refine w_istore (ls' := [some (.ref l1), some (.ref l2), some (.ref l3), some (.ref l4), some (.int l5), some (.int l6), some (.int s9), o8]) cd_204_183 (Nat.le_of_ble_eq_true rfl) rfl ?_
  refine w_aload_n cd_204_185 rfl ?_
  exact w_invokevirtual cd_204_186 (show mt_m 18 75 = some (138, 0) by decide +kernel) (rest := []) rfl (as := [.ref l3]) rfl h11 (Or.inl h12) ⟨Nat.le_of_ble_eq_true rfl, Nat.le_of_ble_eq_true rfl, Nat.le_of_ble_eq_true rfl⟩ h13
theorem b_204_189 {d : Nat} {Q : (Option Value ⊕ Nat) → mi_H → Prop} (n sl : Nat) (f : Nat → mi_C) {l1 : Nat} {l2 : Nat} {l3 : Nat} {l4 : Nat} {l5 : Int32} {l6 : Int32} {l7 : Int32} {o8 : Option Value} {s9 : Int32} (h10 : s9 = l6 → mi_W d 204 196 [some (.ref l1), some (.ref l2), some (.ref l3), some (.ref l4), some (.int l5), some (.int l6), some (.int l7), o8] [] (n, sl, f) Q) (h11 : ¬ (s9 = l6) → mi_W d 204 194 [some (.ref l1), some (.ref l2), some (.ref l3), some (.ref l4), some (.int l5), some (.int l6), some (.int l7), o8] [] (n, sl, f) Q) : mi_W d 204 189 [some (.ref l1), some (.ref l2), some (.ref l3), some (.ref l4), some (.int l5), some (.int l6), some (.int l7), o8] [.int s9] (n, sl, f) Q := by
  refine w_iload cd_204_189 rfl ?_
  exact w_if_icmpeq cd_204_191 (by decide) h10 h11
theorem b_204_194 {d : Nat} {Q : (Option Value ⊕ Nat) → mi_H → Prop} (n sl : Nat) (f : Nat → mi_C) {l1 : Nat} {l2 : Nat} {l3 : Nat} {l4 : Nat} {l5 : Int32} {l6 : Int32} {l7 : Int32} {o8 : Option Value} (h9 : Q (.inl (some (.int 0))) (n, sl, f)) : mi_W d 204 194 [some (.ref l1), some (.ref l2), some (.ref l3), some (.ref l4), some (.int l5), some (.int l6), some (.int l7), o8] [] (n, sl, f) Q := by
  refine w_iconst (v := 0) cd_204_194 (by decide) ?_
  exact w_ireturn_z cd_204_195 (by decide +kernel) (by decide) h9
theorem b_204_196 {d : Nat} {Q : (Option Value ⊕ Nat) → mi_H → Prop} (n sl : Nat) (f : Nat → mi_C) {l1 : Nat} {l2 : Nat} {l3 : Nat} {l4 : Nat} {l5 : Int32} {l6 : Int32} {l7 : Int32} {o8 : Option Value} (h9 : ¬ l6 = (0 : Int32) → mi_W d 204 213 [some (.ref l1), some (.ref l2), some (.ref l3), some (.ref l4), some (.int l5), some (.int l6), some (.int l7), o8] [] (n, sl, f) Q) (h10 : ¬ (¬ l6 = (0 : Int32)) → mi_W d 204 201 [some (.ref l1), some (.ref l2), some (.ref l3), some (.ref l4), some (.int l5), some (.int l6), some (.int l7), o8] [] (n, sl, f) Q) : mi_W d 204 196 [some (.ref l1), some (.ref l2), some (.ref l3), some (.ref l4), some (.int l5), some (.int l6), some (.int l7), o8] [] (n, sl, f) Q := by
  refine w_iload cd_204_196 rfl ?_
  exact w_ifne cd_204_198 (by decide) h9 h10
theorem b_204_201 {d : Nat} {Q : (Option Value ⊕ Nat) → mi_H → Prop} (n sl : Nat) (f : Nat → mi_C) {l1 : Nat} {l2 : Nat} {l3 : Nat} {l4 : Nat} {l5 : Int32} {l6 : Int32} {l7 : Int32} {o8 : Option Value} (m9 i9 : Nat) (g9 : Nat → Int64) (h10 : f l4 = .inl (3, m9, .inr (.inl g9))) (h11 : l4 < n) (h12 : mi_ix 0 m9 i9) (h13 : (lg_cmp (g9 i9) ((l7 : Int32).toInt64)) = (0 : Int32) → mi_W d 204 213 [some (.ref l1), some (.ref l2), some (.ref l3), some (.ref l4), some (.int l5), some (.int l6), some (.int l7), o8] [] (n, sl, f) Q) (h14 : ¬ ((lg_cmp (g9 i9) ((l7 : Int32).toInt64)) = (0 : Int32)) → mi_W d 204 211 [some (.ref l1), some (.ref l2), some (.ref l3), some (.ref l4), some (.int l5), some (.int l6), some (.int l7), o8] [] (n, sl, f) Q) : mi_W d 204 201 [some (.ref l1), some (.ref l2), some (.ref l3), some (.ref l4), some (.int l5), some (.int l6), some (.int l7), o8] [] (n, sl, f) Q := by
  refine w_aload_n cd_204_201 rfl ?_
  refine w_iconst (v := 0) cd_204_202 (by decide) ?_
  refine w_laload cd_204_203 h10 h11 h12 ?_
  refine w_iload cd_204_204 rfl ?_
  refine w_i2l cd_204_206 ?_
  refine w_lcmp cd_204_207 ?_
  exact w_ifeq cd_204_208 (by decide) h13 h14
theorem b_204_211 {d : Nat} {Q : (Option Value ⊕ Nat) → mi_H → Prop} (n sl : Nat) (f : Nat → mi_C) {l1 : Nat} {l2 : Nat} {l3 : Nat} {l4 : Nat} {l5 : Int32} {l6 : Int32} {l7 : Int32} {o8 : Option Value} (h9 : Q (.inl (some (.int 0))) (n, sl, f)) : mi_W d 204 211 [some (.ref l1), some (.ref l2), some (.ref l3), some (.ref l4), some (.int l5), some (.int l6), some (.int l7), o8] [] (n, sl, f) Q := by
  refine w_iconst (v := 0) cd_204_211 (by decide) ?_
  exact w_ireturn_z cd_204_212 (by decide +kernel) (by decide) h9
theorem b_204_213 {d : Nat} {Q : (Option Value ⊕ Nat) → mi_H → Prop} (n sl : Nat) (f : Nat → mi_C) {l1 : Nat} {l2 : Nat} {l3 : Nat} {l4 : Nat} {l5 : Int32} {l6 : Int32} {l7 : Int32} {o8 : Option Value} (h9 : mi_W d 204 1165 [some (.ref l1), some (.ref l2), some (.ref l3), some (.ref l4), some (.int l5), some (.int l6), some (.int l7), o8] [] (n, sl, f) Q) : mi_W d 204 213 [some (.ref l1), some (.ref l2), some (.ref l3), some (.ref l4), some (.int l5), some (.int l6), some (.int l7), o8] [] (n, sl, f) Q := by
  exact w_goto cd_204_213 (by decide) h9
theorem b_204_216 {d : Nat} {Q : (Option Value ⊕ Nat) → mi_H → Prop} (n sl : Nat) (f : Nat → mi_C) {l1 : Nat} {l2 : Nat} {l3 : Nat} {l4 : Nat} {l5 : Int32} {o6 : Option Value} {o7 : Option Value} {o8 : Option Value} (m9 i9 : Nat) (g9 : Nat → Int32) (h10 : f l1 = .inl (0, m9, .inl g9)) (h11 : l1 < n ∨ l1 = mi_SC) (h12 : mi_ix (l5 + 1) m9 i9) (h13 : mi_W d 16 0 (mi_en 4 [.ref l2, .int (g9 i9), .ref l4]) [] (n, sl, f) (mi_Kc d 204 224 [some (.ref l1), some (.ref l2), some (.ref l3), some (.ref l4), some (.int l5), o6, o7, o8] [] Q)) : mi_W (d + 1) 204 216 [some (.ref l1), some (.ref l2), some (.ref l3), some (.ref l4), some (.int l5), o6, o7, o8] [] (n, sl, f) Q := by
  refine w_aload_n cd_204_216 rfl ?_
  refine w_aload_n cd_204_217 rfl ?_
  refine w_iload cd_204_218 rfl ?_
  refine w_iconst (v := 1) cd_204_220 (by decide) ?_
  refine w_iadd cd_204_221 ?_
  refine w_iaload cd_204_222 h10 h11 h12 ?_
  refine w_aload_n cd_204_223 rfl ?_
  exact w_invokestatic cd_204_224 (show mt_m 18 78 = some (16, 4) by decide +kernel) (by decide) (rest := []) rfl (as := [.ref l2, .int (g9 i9), .ref l4]) rfl ⟨Nat.le_of_ble_eq_true rfl, Nat.le_of_ble_eq_true rfl, Nat.le_of_ble_eq_true rfl⟩ h13
theorem b_204_227 {d : Nat} {Q : (Option Value ⊕ Nat) → mi_H → Prop} (n sl : Nat) (f : Nat → mi_C) {l1 : Nat} {l2 : Nat} {l3 : Nat} {l4 : Nat} {l5 : Int32} {o6 : Option Value} {o7 : Option Value} {o8 : Option Value} {s9 : Int32} (m10 i10 : Nat) (g10 : Nat → Int32) {fs14 : List Value} (h11 : f l1 = .inl (0, m10, .inl g10)) (h12 : l1 < n ∨ l1 = mi_SC) (h13 : mi_ix (l5 + 1) m10 i10) (h15 : f l3 = .inr (12, fs14)) (h16 : l3 < n) (h17 : mi_W d 141 0 (mi_en 3 [.ref l3, .int (g10 i10)]) [] (n, sl, f) (mi_Kc d 204 236 [some (.ref l1), some (.ref l2), some (.ref l3), some (.ref l4), some (.int l5), some (.int s9), o7, o8] [] Q)) : mi_W (d + 1) 204 227 [some (.ref l1), some (.ref l2), some (.ref l3), some (.ref l4), some (.int l5), o6, o7, o8] [.int s9] (n, sl, f) Q := by
  refine w_istore (ls' := [some (.ref l1), some (.ref l2), some (.ref l3), some (.ref l4), some (.int l5), some (.int s9), o7, o8]) cd_204_227 (Nat.le_of_ble_eq_true rfl) rfl ?_
  refine w_aload_n cd_204_229 rfl ?_
  refine w_aload_n cd_204_230 rfl ?_
  refine w_iload cd_204_231 rfl ?_
  refine w_iconst (v := 1) cd_204_233 (by decide) ?_
  refine w_iadd cd_204_234 ?_
  refine w_iaload cd_204_235 h11 h12 h13 ?_
  exact w_invokevirtual cd_204_236 (show mt_m 18 81 = some (141, 0) by decide +kernel) (rest := []) rfl (as := [.ref l3, .int (g10 i10)]) rfl h15 (Or.inl h16) ⟨Nat.le_of_ble_eq_true rfl, Nat.le_of_ble_eq_true rfl, Nat.le_of_ble_eq_true rfl⟩ h17
theorem b_204_239 {d : Nat} {Q : (Option Value ⊕ Nat) → mi_H → Prop} (n sl : Nat) (f : Nat → mi_C) {l1 : Nat} {l2 : Nat} {l3 : Nat} {l4 : Nat} {l5 : Int32} {l6 : Int32} {o7 : Option Value} {o8 : Option Value} {s9 : Int32} {fs10 : List Value} (h11 : f l3 = .inr (12, fs10)) (h12 : l3 < n) (h13 : mi_W d 138 0 (mi_en 1 [.ref l3]) [] (n, sl, f) (mi_Kc d 204 242 [some (.ref l1), some (.ref l2), some (.ref l3), some (.ref l4), some (.int l5), some (.int l6), some (.int s9), o8] [] Q)) : mi_W (d + 1) 204 239 [some (.ref l1), some (.ref l2), some (.ref l3), some (.ref l4), some (.int l5), some (.int l6), o7, o8] [.int s9] (n, sl, f) Q := by
  refine w_istore (ls' := [some (.ref l1), some (.ref l2), some (.ref l3), some (.ref l4), some (.int l5), some (.int l6), some (.int s9), o8]) cd_204_239 (Nat.le_of_ble_eq_true rfl) rfl ?_
  refine w_aload_n cd_204_241 rfl ?_
  exact w_invokevirtual cd_204_242 (show mt_m 18 75 = some (138, 0) by decide +kernel) (rest := []) rfl (as := [.ref l3]) rfl h11 (Or.inl h12) ⟨Nat.le_of_ble_eq_true rfl, Nat.le_of_ble_eq_true rfl, Nat.le_of_ble_eq_true rfl⟩ h13
theorem b_204_245 {d : Nat} {Q : (Option Value ⊕ Nat) → mi_H → Prop} (n sl : Nat) (f : Nat → mi_C) {l1 : Nat} {l2 : Nat} {l3 : Nat} {l4 : Nat} {l5 : Int32} {l6 : Int32} {l7 : Int32} {o8 : Option Value} {s9 : Int32} (h10 : s9 = l6 → mi_W d 204 252 [some (.ref l1), some (.ref l2), some (.ref l3), some (.ref l4), some (.int l5), some (.int l6), some (.int l7), o8] [] (n, sl, f) Q) (h11 : ¬ (s9 = l6) → mi_W d 204 250 [some (.ref l1), some (.ref l2), some (.ref l3), some (.ref l4), some (.int l5), some (.int l6), some (.int l7), o8] [] (n, sl, f) Q) : mi_W d 204 245 [some (.ref l1), some (.ref l2), some (.ref l3), some (.ref l4), some (.int l5), some (.int l6), some (.int l7), o8] [.int s9] (n, sl, f) Q := by
  refine w_iload cd_204_245 rfl ?_
  exact w_if_icmpeq cd_204_247 (by decide) h10 h11
theorem b_204_250 {d : Nat} {Q : (Option Value ⊕ Nat) → mi_H → Prop} (n sl : Nat) (f : Nat → mi_C) {l1 : Nat} {l2 : Nat} {l3 : Nat} {l4 : Nat} {l5 : Int32} {l6 : Int32} {l7 : Int32} {o8 : Option Value} (h9 : Q (.inl (some (.int 0))) (n, sl, f)) : mi_W d 204 250 [some (.ref l1), some (.ref l2), some (.ref l3), some (.ref l4), some (.int l5), some (.int l6), some (.int l7), o8] [] (n, sl, f) Q := by
  refine w_iconst (v := 0) cd_204_250 (by decide) ?_
  exact w_ireturn_z cd_204_251 (by decide +kernel) (by decide) h9
theorem b_204_252 {d : Nat} {Q : (Option Value ⊕ Nat) → mi_H → Prop} (n sl : Nat) (f : Nat → mi_C) {l1 : Nat} {l2 : Nat} {l3 : Nat} {l4 : Nat} {l5 : Int32} {l6 : Int32} {l7 : Int32} {o8 : Option Value} (h9 : ¬ l6 = (0 : Int32) → mi_W d 204 269 [some (.ref l1), some (.ref l2), some (.ref l3), some (.ref l4), some (.int l5), some (.int l6), some (.int l7), o8] [] (n, sl, f) Q) (h10 : ¬ (¬ l6 = (0 : Int32)) → mi_W d 204 257 [some (.ref l1), some (.ref l2), some (.ref l3), some (.ref l4), some (.int l5), some (.int l6), some (.int l7), o8] [] (n, sl, f) Q) : mi_W d 204 252 [some (.ref l1), some (.ref l2), some (.ref l3), some (.ref l4), some (.int l5), some (.int l6), some (.int l7), o8] [] (n, sl, f) Q := by
  refine w_iload cd_204_252 rfl ?_
  exact w_ifne cd_204_254 (by decide) h9 h10
theorem b_204_257 {d : Nat} {Q : (Option Value ⊕ Nat) → mi_H → Prop} (n sl : Nat) (f : Nat → mi_C) {l1 : Nat} {l2 : Nat} {l3 : Nat} {l4 : Nat} {l5 : Int32} {l6 : Int32} {l7 : Int32} {o8 : Option Value} (m9 i9 : Nat) (g9 : Nat → Int64) (h10 : f l4 = .inl (3, m9, .inr (.inl g9))) (h11 : l4 < n) (h12 : mi_ix 0 m9 i9) (h13 : (lg_cmp (g9 i9) ((l7 : Int32).toInt64)) = (0 : Int32) → mi_W d 204 269 [some (.ref l1), some (.ref l2), some (.ref l3), some (.ref l4), some (.int l5), some (.int l6), some (.int l7), o8] [] (n, sl, f) Q) (h14 : ¬ ((lg_cmp (g9 i9) ((l7 : Int32).toInt64)) = (0 : Int32)) → mi_W d 204 267 [some (.ref l1), some (.ref l2), some (.ref l3), some (.ref l4), some (.int l5), some (.int l6), some (.int l7), o8] [] (n, sl, f) Q) : mi_W d 204 257 [some (.ref l1), some (.ref l2), some (.ref l3), some (.ref l4), some (.int l5), some (.int l6), some (.int l7), o8] [] (n, sl, f) Q := by
  refine w_aload_n cd_204_257 rfl ?_
  refine w_iconst (v := 0) cd_204_258 (by decide) ?_
  refine w_laload cd_204_259 h10 h11 h12 ?_
  refine w_iload cd_204_260 rfl ?_
  refine w_i2l cd_204_262 ?_
  refine w_lcmp cd_204_263 ?_
  exact w_ifeq cd_204_264 (by decide) h13 h14
theorem b_204_267 {d : Nat} {Q : (Option Value ⊕ Nat) → mi_H → Prop} (n sl : Nat) (f : Nat → mi_C) {l1 : Nat} {l2 : Nat} {l3 : Nat} {l4 : Nat} {l5 : Int32} {l6 : Int32} {l7 : Int32} {o8 : Option Value} (h9 : Q (.inl (some (.int 0))) (n, sl, f)) : mi_W d 204 267 [some (.ref l1), some (.ref l2), some (.ref l3), some (.ref l4), some (.int l5), some (.int l6), some (.int l7), o8] [] (n, sl, f) Q := by
  refine w_iconst (v := 0) cd_204_267 (by decide) ?_
  exact w_ireturn_z cd_204_268 (by decide +kernel) (by decide) h9
theorem b_204_269 {d : Nat} {Q : (Option Value ⊕ Nat) → mi_H → Prop} (n sl : Nat) (f : Nat → mi_C) {l1 : Nat} {l2 : Nat} {l3 : Nat} {l4 : Nat} {l5 : Int32} {l6 : Int32} {l7 : Int32} {o8 : Option Value} (h9 : mi_W d 204 1165 [some (.ref l1), some (.ref l2), some (.ref l3), some (.ref l4), some (.int l5), some (.int l6), some (.int l7), o8] [] (n, sl, f) Q) : mi_W d 204 269 [some (.ref l1), some (.ref l2), some (.ref l3), some (.ref l4), some (.int l5), some (.int l6), some (.int l7), o8] [] (n, sl, f) Q := by
  exact w_goto cd_204_269 (by decide) h9
theorem b_204_272 {d : Nat} {Q : (Option Value ⊕ Nat) → mi_H → Prop} (n sl : Nat) (f : Nat → mi_C) {l1 : Nat} {l2 : Nat} {l3 : Nat} {l4 : Nat} {l5 : Int32} {o6 : Option Value} {o7 : Option Value} {o8 : Option Value} {fs9 : List Value} (h10 : f l2 = .inr (0, fs9)) (h11 : l2 < n) (h12 : mi_W d 12 0 (mi_en 1 [.ref l2]) [] (n, sl, f) (mi_Kc d 204 273 [some (.ref l1), some (.ref l2), some (.ref l3), some (.ref l4), some (.int l5), o6, o7, o8] [] Q)) : mi_W (d + 1) 204 272 [some (.ref l1), some (.ref l2), some (.ref l3), some (.ref l4), some (.int l5), o6, o7, o8] [] (n, sl, f) Q := by
  refine w_aload_n cd_204_272 rfl ?_
  exact w_invokevirtual cd_204_273 (show mt_m 18 82 = some (12, 0) by decide +kernel) (rest := []) rfl (as := [.ref l2]) rfl h10 (Or.inl h11) ⟨Nat.le_of_ble_eq_true rfl, Nat.le_of_ble_eq_true rfl, Nat.le_of_ble_eq_true rfl⟩ h12
theorem b_204_276 {d : Nat} {Q : (Option Value ⊕ Nat) → mi_H → Prop} (n sl : Nat) (f : Nat → mi_C) {l1 : Nat} {l2 : Nat} {l3 : Nat} {l4 : Nat} {l5 : Int32} {o6 : Option Value} {o7 : Option Value} {o8 : Option Value} {s9 : Int32} {fs10 : List Value} (h11 : f l3 = .inr (12, fs10)) (h12 : l3 < n) (h13 : mi_W d 171 0 (mi_en 1 [.ref l3]) [] (n, sl, f) (mi_Kc d 204 277 [some (.ref l1), some (.ref l2), some (.ref l3), some (.ref l4), some (.int l5), o6, o7, o8] [.int s9] Q)) : mi_W (d + 1) 204 276 [some (.ref l1), some (.ref l2), some (.ref l3), some (.ref l4), some (.int l5), o6, o7, o8] [.int s9] (n, sl, f) Q := by
  refine w_aload_n cd_204_276 rfl ?_
  exact w_invokevirtual cd_204_277 (show mt_m 18 85 = some (171, 0) by decide +kernel) (rest := [.int s9]) rfl (as := [.ref l3]) rfl h11 (Or.inl h12) ⟨Nat.le_of_ble_eq_true rfl, Nat.le_of_ble_eq_true rfl, Nat.le_of_ble_eq_true rfl⟩ h13
theorem b_204_280 {d : Nat} {Q : (Option Value ⊕ Nat) → mi_H → Prop} (n sl : Nat) (f : Nat → mi_C) {l1 : Nat} {l2 : Nat} {l3 : Nat} {l4 : Nat} {l5 : Int32} {o6 : Option Value} {o7 : Option Value} {o8 : Option Value} {s9 : Int32} {s10 : Int32} (h11 : s10 = s9 → mi_W d 204 1165 [some (.ref l1), some (.ref l2), some (.ref l3), some (.ref l4), some (.int l5), o6, o7, o8] [] (n, sl, f) Q) (h12 : ¬ (s10 = s9) → mi_W d 204 283 [some (.ref l1), some (.ref l2), some (.ref l3), some (.ref l4), some (.int l5), o6, o7, o8] [] (n, sl, f) Q) : mi_W d 204 280 [some (.ref l1), some (.ref l2), some (.ref l3), some (.ref l4), some (.int l5), o6, o7, o8] [.int s9, .int s10] (n, sl, f) Q := by
  exact w_if_icmpeq cd_204_280 (by decide) h11 h12
theorem b_204_283 {d : Nat} {Q : (Option Value ⊕ Nat) → mi_H → Prop} (n sl : Nat) (f : Nat → mi_C) {l1 : Nat} {l2 : Nat} {l3 : Nat} {l4 : Nat} {l5 : Int32} {o6 : Option Value} {o7 : Option Value} {o8 : Option Value} (h9 : Q (.inl (some (.int 0))) (n, sl, f)) : mi_W d 204 283 [some (.ref l1), some (.ref l2), some (.ref l3), some (.ref l4), some (.int l5), o6, o7, o8] [] (n, sl, f) Q := by
  refine w_iconst (v := 0) cd_204_283 (by decide) ?_
  exact w_ireturn_z cd_204_284 (by decide +kernel) (by decide) h9
theorem b_204_285 {d : Nat} {Q : (Option Value ⊕ Nat) → mi_H → Prop} (n sl : Nat) (f : Nat → mi_C) {l1 : Nat} {l2 : Nat} {l3 : Nat} {l4 : Nat} {l5 : Int32} {o6 : Option Value} {o7 : Option Value} {o8 : Option Value} (m9 i9 : Nat) (g9 : Nat → Int32) (m13 i13 : Nat) (g13 : Nat → Int32) (m17 i17 : Nat) (g17 : Nat → Int32) (m21 i21 : Nat) (g21 : Nat → Int32) (h10 : f l1 = .inl (0, m9, .inl g9)) (h11 : l1 < n ∨ l1 = mi_SC) (h12 : mi_ix (l5 + 1) m9 i9) (h14 : f l1 = .inl (0, m13, .inl g13)) (h15 : l1 < n ∨ l1 = mi_SC) (h16 : mi_ix (l5 + 2) m13 i13) (h18 : f l1 = .inl (0, m17, .inl g17)) (h19 : l1 < n ∨ l1 = mi_SC) (h20 : mi_ix (l5 + 3) m17 i17) (h22 : f l1 = .inl (0, m21, .inl g21)) (h23 : l1 < n ∨ l1 = mi_SC) (h24 : mi_ix (l5 + 4) m21 i21) (h25 : mi_W d 58 0 (mi_en 7 [.ref l2, .int (g9 i9), .int (g13 i13), .long (((((g17 i17) : Int32).toInt64) <<< ((32 : Int32).toInt64 &&& 63)) ||| ((((g21 i21) : Int32).toInt64) &&& 4294967295)), .ref l4]) [] (n, sl, f) (mi_Kc d 204 321 [some (.ref l1), some (.ref l2), some (.ref l3), some (.ref l4), some (.int l5), o6, o7, o8] [] Q)) : mi_W (d + 1) 204 285 [some (.ref l1), some (.ref l2), some (.ref l3), some (.ref l4), some (.int l5), o6, o7, o8] [] (n, sl, f) Q := by
  refine w_aload_n cd_204_285 rfl ?_
  refine w_aload_n cd_204_286 rfl ?_
  refine w_iload cd_204_287 rfl ?_
  refine w_iconst (v := 1) cd_204_289 (by decide) ?_
  refine w_iadd cd_204_290 ?_
  refine w_iaload cd_204_291 h10 h11 h12 ?_
  refine w_aload_n cd_204_292 rfl ?_
  refine w_iload cd_204_293 rfl ?_
  refine w_iconst (v := 2) cd_204_295 (by decide) ?_
  refine w_iadd cd_204_296 ?_
  refine w_iaload cd_204_297 h14 h15 h16 ?_
  refine w_aload_n cd_204_298 rfl ?_
  refine w_iload cd_204_299 rfl ?_
  refine w_iconst (v := 3) cd_204_301 (by decide) ?_
  refine w_iadd cd_204_302 ?_
  refine w_iaload cd_204_303 h18 h19 h20 ?_
  refine w_i2l cd_204_304 ?_
  refine w_bipush (v := 32) cd_204_305 (by decide) ?_
  refine w_lshl cd_204_307 ?_
  refine w_aload_n cd_204_308 rfl ?_
  refine w_iload cd_204_309 rfl ?_
  refine w_iconst (v := 4) cd_204_311 (by decide) ?_
  refine w_iadd cd_204_312 ?_
  refine w_iaload cd_204_313 h22 h23 h24 ?_
  refine w_i2l cd_204_314 ?_
  refine w_ldc2_w (lv := 4294967295) cd_204_315 (by decide +kernel) ?_
  refine w_land cd_204_318 ?_
  refine w_lor cd_204_319 ?_
  refine w_aload_n cd_204_320 rfl ?_
  exact w_invokestatic cd_204_321 (show mt_m 18 88 = some (58, 4) by decide +kernel) (by decide) (rest := []) rfl (as := [.ref l2, .int (g9 i9), .int (g13 i13), .long (((((g17 i17) : Int32).toInt64) <<< ((32 : Int32).toInt64 &&& 63)) ||| ((((g21 i21) : Int32).toInt64) &&& 4294967295)), .ref l4]) rfl ⟨Nat.le_of_ble_eq_true rfl, Nat.le_of_ble_eq_true rfl, Nat.le_of_ble_eq_true rfl⟩ h25
theorem b_204_324 {d : Nat} {Q : (Option Value ⊕ Nat) → mi_H → Prop} (n sl : Nat) (f : Nat → mi_C) {l1 : Nat} {l2 : Nat} {l3 : Nat} {l4 : Nat} {l5 : Int32} {o6 : Option Value} {o7 : Option Value} {o8 : Option Value} {s9 : Int32} (m10 i10 : Nat) (g10 : Nat → Int32) (m14 i14 : Nat) (g14 : Nat → Int32) (m18 i18 : Nat) (g18 : Nat → Int32) (m22 i22 : Nat) (g22 : Nat → Int32) {fs26 : List Value} (h11 : f l1 = .inl (0, m10, .inl g10)) (h12 : l1 < n ∨ l1 = mi_SC) (h13 : mi_ix (l5 + 1) m10 i10) (h15 : f l1 = .inl (0, m14, .inl g14)) (h16 : l1 < n ∨ l1 = mi_SC) (h17 : mi_ix (l5 + 2) m14 i14) (h19 : f l1 = .inl (0, m18, .inl g18)) (h20 : l1 < n ∨ l1 = mi_SC) (h21 : mi_ix (l5 + 3) m18 i18) (h23 : f l1 = .inl (0, m22, .inl g22)) (h24 : l1 < n ∨ l1 = mi_SC) (h25 : mi_ix (l5 + 4) m22 i22) (h27 : f l3 = .inr (12, fs26)) (h28 : l3 < n) (h29 : mi_W d 186 0 (mi_en 7 [.ref l3, .int (g10 i10), .int (g14 i14), .long (((((g18 i18) : Int32).toInt64) <<< ((32 : Int32).toInt64 &&& 63)) ||| ((((g22 i22) : Int32).toInt64) &&& 4294967295))]) [] (n, sl, f) (mi_Kc d 204 361 [some (.ref l1), some (.ref l2), some (.ref l3), some (.ref l4), some (.int l5), some (.int s9), o7, o8] [] Q)) : mi_W (d + 1) 204 324 [some (.ref l1), some (.ref l2), some (.ref l3), some (.ref l4), some (.int l5), o6, o7, o8] [.int s9] (n, sl, f) Q := by
  refine w_istore (ls' := [some (.ref l1), some (.ref l2), some (.ref l3), some (.ref l4), some (.int l5), some (.int s9), o7, o8]) cd_204_324 (Nat.le_of_ble_eq_true rfl) rfl ?_
  refine w_aload_n cd_204_326 rfl ?_
  refine w_aload_n cd_204_327 rfl ?_
  refine w_iload cd_204_328 rfl ?_
  refine w_iconst (v := 1) cd_204_330 (by decide) ?_
  refine w_iadd cd_204_331 ?_
  refine w_iaload cd_204_332 h11 h12 h13 ?_
  refine w_aload_n cd_204_333 rfl ?_
  refine w_iload cd_204_334 rfl ?_
  refine w_iconst (v := 2) cd_204_336 (by decide) ?_
  refine w_iadd cd_204_337 ?_
  refine w_iaload cd_204_338 h15 h16 h17 ?_
  refine w_aload_n cd_204_339 rfl ?_
  refine w_iload cd_204_340 rfl ?_
  refine w_iconst (v := 3) cd_204_342 (by decide) ?_
  refine w_iadd cd_204_343 ?_
  refine w_iaload cd_204_344 h19 h20 h21 ?_
  refine w_i2l cd_204_345 ?_
  refine w_bipush (v := 32) cd_204_346 (by decide) ?_
  refine w_lshl cd_204_348 ?_
  refine w_aload_n cd_204_349 rfl ?_
  refine w_iload cd_204_350 rfl ?_
  refine w_iconst (v := 4) cd_204_352 (by decide) ?_
  refine w_iadd cd_204_353 ?_
  refine w_iaload cd_204_354 h23 h24 h25 ?_
  refine w_i2l cd_204_355 ?_
  refine w_ldc2_w (lv := 4294967295) cd_204_356 (by decide +kernel) ?_
  refine w_land cd_204_359 ?_
  refine w_lor cd_204_360 ?_
  exact w_invokevirtual cd_204_361 (show mt_m 18 91 = some (186, 0) by decide +kernel) (rest := []) rfl (as := [.ref l3, .int (g10 i10), .int (g14 i14), .long (((((g18 i18) : Int32).toInt64) <<< ((32 : Int32).toInt64 &&& 63)) ||| ((((g22 i22) : Int32).toInt64) &&& 4294967295))]) rfl h27 (Or.inl h28) ⟨Nat.le_of_ble_eq_true rfl, Nat.le_of_ble_eq_true rfl, Nat.le_of_ble_eq_true rfl⟩ h29
theorem b_204_364 {d : Nat} {Q : (Option Value ⊕ Nat) → mi_H → Prop} (n sl : Nat) (f : Nat → mi_C) {l1 : Nat} {l2 : Nat} {l3 : Nat} {l4 : Nat} {l5 : Int32} {l6 : Int32} {o7 : Option Value} {o8 : Option Value} {s9 : Int64} {fs10 : List Value} (h11 : f l3 = .inr (12, fs10)) (h12 : l3 < n) (h13 : mi_W d 138 0 (mi_en 1 [.ref l3]) [] (n, sl, f) (mi_Kc d 204 367 [some (.ref l1), some (.ref l2), some (.ref l3), some (.ref l4), some (.int l5), some (.int l6), some (.long s9), none] [] Q)) : mi_W (d + 1) 204 364 [some (.ref l1), some (.ref l2), some (.ref l3), some (.ref l4), some (.int l5), some (.int l6), o7, o8] [.long s9] (n, sl, f) Q := by
  refine w_lstore (ls' := [some (.ref l1), some (.ref l2), some (.ref l3), some (.ref l4), some (.int l5), some (.int l6), some (.long s9), none]) cd_204_364 (Nat.le_of_ble_eq_true rfl) rfl ?_
  refine w_aload_n cd_204_366 rfl ?_
  exact w_invokevirtual cd_204_367 (show mt_m 18 75 = some (138, 0) by decide +kernel) (rest := []) rfl (as := [.ref l3]) rfl h11 (Or.inl h12) ⟨Nat.le_of_ble_eq_true rfl, Nat.le_of_ble_eq_true rfl, Nat.le_of_ble_eq_true rfl⟩ h13
theorem b_204_370 {d : Nat} {Q : (Option Value ⊕ Nat) → mi_H → Prop} (n sl : Nat) (f : Nat → mi_C) {l1 : Nat} {l2 : Nat} {l3 : Nat} {l4 : Nat} {l5 : Int32} {l6 : Int32} {l7 : Int64} {s8 : Int32} (h9 : s8 = l6 → mi_W d 204 377 [some (.ref l1), some (.ref l2), some (.ref l3), some (.ref l4), some (.int l5), some (.int l6), some (.long l7), none] [] (n, sl, f) Q) (h10 : ¬ (s8 = l6) → mi_W d 204 375 [some (.ref l1), some (.ref l2), some (.ref l3), some (.ref l4), some (.int l5), some (.int l6), some (.long l7), none] [] (n, sl, f) Q) : mi_W d 204 370 [some (.ref l1), some (.ref l2), some (.ref l3), some (.ref l4), some (.int l5), some (.int l6), some (.long l7), none] [.int s8] (n, sl, f) Q := by
  refine w_iload cd_204_370 rfl ?_
  exact w_if_icmpeq cd_204_372 (by decide) h9 h10
theorem b_204_375 {d : Nat} {Q : (Option Value ⊕ Nat) → mi_H → Prop} (n sl : Nat) (f : Nat → mi_C) {l1 : Nat} {l2 : Nat} {l3 : Nat} {l4 : Nat} {l5 : Int32} {l6 : Int32} {l7 : Int64} (h8 : Q (.inl (some (.int 0))) (n, sl, f)) : mi_W d 204 375 [some (.ref l1), some (.ref l2), some (.ref l3), some (.ref l4), some (.int l5), some (.int l6), some (.long l7), none] [] (n, sl, f) Q := by
  refine w_iconst (v := 0) cd_204_375 (by decide) ?_
  exact w_ireturn_z cd_204_376 (by decide +kernel) (by decide) h8
theorem b_204_377 {d : Nat} {Q : (Option Value ⊕ Nat) → mi_H → Prop} (n sl : Nat) (f : Nat → mi_C) {l1 : Nat} {l2 : Nat} {l3 : Nat} {l4 : Nat} {l5 : Int32} {l6 : Int32} {l7 : Int64} (h8 : ¬ l6 = (0 : Int32) → mi_W d 204 393 [some (.ref l1), some (.ref l2), some (.ref l3), some (.ref l4), some (.int l5), some (.int l6), some (.long l7), none] [] (n, sl, f) Q) (h9 : ¬ (¬ l6 = (0 : Int32)) → mi_W d 204 382 [some (.ref l1), some (.ref l2), some (.ref l3), some (.ref l4), some (.int l5), some (.int l6), some (.long l7), none] [] (n, sl, f) Q) : mi_W d 204 377 [some (.ref l1), some (.ref l2), some (.ref l3), some (.ref l4), some (.int l5), some (.int l6), some (.long l7), none] [] (n, sl, f) Q := by
  refine w_iload cd_204_377 rfl ?_
  exact w_ifne cd_204_379 (by decide) h8 h9
theorem b_204_382 {d : Nat} {Q : (Option Value ⊕ Nat) → mi_H → Prop} (n sl : Nat) (f : Nat → mi_C) {l1 : Nat} {l2 : Nat} {l3 : Nat} {l4 : Nat} {l5 : Int32} {l6 : Int32} {l7 : Int64} (m8 i8 : Nat) (g8 : Nat → Int64) (h9 : f l4 = .inl (3, m8, .inr (.inl g8))) (h10 : l4 < n) (h11 : mi_ix 0 m8 i8) (h12 : (lg_cmp (g8 i8) l7) = (0 : Int32) → mi_W d 204 393 [some (.ref l1), some (.ref l2), some (.ref l3), some (.ref l4), some (.int l5), some (.int l6), some (.long l7), none] [] (n, sl, f) Q) (h13 : ¬ ((lg_cmp (g8 i8) l7) = (0 : Int32)) → mi_W d 204 391 [some (.ref l1), some (.ref l2), some (.ref l3), some (.ref l4), some (.int l5), some (.int l6), some (.long l7), none] [] (n, sl, f) Q) : mi_W d 204 382 [some (.ref l1), some (.ref l2), some (.ref l3), some (.ref l4), some (.int l5), some (.int l6), some (.long l7), none] [] (n, sl, f) Q := by
  refine w_aload_n cd_204_382 rfl ?_
  refine w_iconst (v := 0) cd_204_383 (by decide) ?_
  refine w_laload cd_204_384 h9 h10 h11 ?_
  refine w_lload cd_204_385 rfl ?_
  refine w_lcmp cd_204_387 ?_
  exact w_ifeq cd_204_388 (by decide) h12 h13
theorem b_204_391 {d : Nat} {Q : (Option Value ⊕ Nat) → mi_H → Prop} (n sl : Nat) (f : Nat → mi_C) {l1 : Nat} {l2 : Nat} {l3 : Nat} {l4 : Nat} {l5 : Int32} {l6 : Int32} {l7 : Int64} (h8 : Q (.inl (some (.int 0))) (n, sl, f)) : mi_W d 204 391 [some (.ref l1), some (.ref l2), some (.ref l3), some (.ref l4), some (.int l5), some (.int l6), some (.long l7), none] [] (n, sl, f) Q := by
  refine w_iconst (v := 0) cd_204_391 (by decide) ?_
  exact w_ireturn_z cd_204_392 (by decide +kernel) (by decide) h8
theorem b_204_393 {d : Nat} {Q : (Option Value ⊕ Nat) → mi_H → Prop} (n sl : Nat) (f : Nat → mi_C) {l1 : Nat} {l2 : Nat} {l3 : Nat} {l4 : Nat} {l5 : Int32} {l6 : Int32} {l7 : Int64} (h8 : mi_W d 204 1165 [some (.ref l1), some (.ref l2), some (.ref l3), some (.ref l4), some (.int l5), some (.int l6), some (.long l7), none] [] (n, sl, f) Q) : mi_W d 204 393 [some (.ref l1), some (.ref l2), some (.ref l3), some (.ref l4), some (.int l5), some (.int l6), some (.long l7), none] [] (n, sl, f) Q := by
  exact w_goto cd_204_393 (by decide) h8
theorem b_204_396 {d : Nat} {Q : (Option Value ⊕ Nat) → mi_H → Prop} (n sl : Nat) (f : Nat → mi_C) {l1 : Nat} {l2 : Nat} {l3 : Nat} {l4 : Nat} {l5 : Int32} {o6 : Option Value} {o7 : Option Value} {o8 : Option Value} (m9 i9 : Nat) (g9 : Nat → Int32) (m13 i13 : Nat) (g13 : Nat → Int32) (m17 i17 : Nat) (g17 : Nat → Int32) (m21 i21 : Nat) (g21 : Nat → Int32) (m25 i25 : Nat) (g25 : Nat → Int32) (h10 : f l1 = .inl (0, m9, .inl g9)) (h11 : l1 < n ∨ l1 = mi_SC) (h12 : mi_ix (l5 + 1) m9 i9) (h14 : f l1 = .inl (0, m13, .inl g13)) (h15 : l1 < n ∨ l1 = mi_SC) (h16 : mi_ix (l5 + 2) m13 i13) (h18 : f l1 = .inl (0, m17, .inl g17)) (h19 : l1 < n ∨ l1 = mi_SC) (h20 : mi_ix (l5 + 3) m17 i17) (h22 : f l1 = .inl (0, m21, .inl g21)) (h23 : l1 < n ∨ l1 = mi_SC) (h24 : mi_ix (l5 + 4) m21 i21) (h26 : f l1 = .inl (0, m25, .inl g25)) (h27 : l1 < n ∨ l1 = mi_SC) (h28 : mi_ix (l5 + 5) m25 i25) (h29 : mi_W d 62 0 (mi_en 8 [.ref l2, .int (g9 i9), .int (g13 i13), .int (g17 i17), .long (((((g21 i21) : Int32).toInt64) <<< ((32 : Int32).toInt64 &&& 63)) ||| ((((g25 i25) : Int32).toInt64) &&& 4294967295)), .ref l4]) [] (n, sl, f) (mi_Kc d 204 438 [some (.ref l1), some (.ref l2), some (.ref l3), some (.ref l4), some (.int l5), o6, o7, o8] [] Q)) : mi_W (d + 1) 204 396 [some (.ref l1), some (.ref l2), some (.ref l3), some (.ref l4), some (.int l5), o6, o7, o8] [] (n, sl, f) Q := by
  refine w_aload_n cd_204_396 rfl ?_
  refine w_aload_n cd_204_397 rfl ?_
  refine w_iload cd_204_398 rfl ?_
  refine w_iconst (v := 1) cd_204_400 (by decide) ?_
  refine w_iadd cd_204_401 ?_
  refine w_iaload cd_204_402 h10 h11 h12 ?_
  refine w_aload_n cd_204_403 rfl ?_
  refine w_iload cd_204_404 rfl ?_
  refine w_iconst (v := 2) cd_204_406 (by decide) ?_
  refine w_iadd cd_204_407 ?_
  refine w_iaload cd_204_408 h14 h15 h16 ?_
  refine w_aload_n cd_204_409 rfl ?_
  refine w_iload cd_204_410 rfl ?_
  refine w_iconst (v := 3) cd_204_412 (by decide) ?_
  refine w_iadd cd_204_413 ?_
  refine w_iaload cd_204_414 h18 h19 h20 ?_
  refine w_aload_n cd_204_415 rfl ?_
  refine w_iload cd_204_416 rfl ?_
  refine w_iconst (v := 4) cd_204_418 (by decide) ?_
  refine w_iadd cd_204_419 ?_
  refine w_iaload cd_204_420 h22 h23 h24 ?_
  refine w_i2l cd_204_421 ?_
  refine w_bipush (v := 32) cd_204_422 (by decide) ?_
  refine w_lshl cd_204_424 ?_
  refine w_aload_n cd_204_425 rfl ?_
  refine w_iload cd_204_426 rfl ?_
  refine w_iconst (v := 5) cd_204_428 (by decide) ?_
  refine w_iadd cd_204_429 ?_
  refine w_iaload cd_204_430 h26 h27 h28 ?_
  refine w_i2l cd_204_431 ?_
  refine w_ldc2_w (lv := 4294967295) cd_204_432 (by decide +kernel) ?_
  refine w_land cd_204_435 ?_
  refine w_lor cd_204_436 ?_
  refine w_aload_n cd_204_437 rfl ?_
  exact w_invokestatic cd_204_438 (show mt_m 18 92 = some (62, 4) by decide +kernel) (by decide) (rest := []) rfl (as := [.ref l2, .int (g9 i9), .int (g13 i13), .int (g17 i17), .long (((((g21 i21) : Int32).toInt64) <<< ((32 : Int32).toInt64 &&& 63)) ||| ((((g25 i25) : Int32).toInt64) &&& 4294967295)), .ref l4]) rfl ⟨Nat.le_of_ble_eq_true rfl, Nat.le_of_ble_eq_true rfl, Nat.le_of_ble_eq_true rfl⟩ h29
theorem b_204_441 {d : Nat} {Q : (Option Value ⊕ Nat) → mi_H → Prop} (n sl : Nat) (f : Nat → mi_C) {l1 : Nat} {l2 : Nat} {l3 : Nat} {l4 : Nat} {l5 : Int32} {o6 : Option Value} {o7 : Option Value} {o8 : Option Value} {s9 : Int32} (m10 i10 : Nat) (g10 : Nat → Int32) (m14 i14 : Nat) (g14 : Nat → Int32) (m18 i18 : Nat) (g18 : Nat → Int32) (m22 i22 : Nat) (g22 : Nat → Int32) (m26 i26 : Nat) (g26 : Nat → Int32) {fs30 : List Value} (h11 : f l1 = .inl (0, m10, .inl g10)) (h12 : l1 < n ∨ l1 = mi_SC) (h13 : mi_ix (l5 + 1) m10 i10) (h15 : f l1 = .inl (0, m14, .inl g14)) (h16 : l1 < n ∨ l1 = mi_SC) (h17 : mi_ix (l5 + 2) m14 i14) (h19 : f l1 = .inl (0, m18, .inl g18)) (h20 : l1 < n ∨ l1 = mi_SC) (h21 : mi_ix (l5 + 3) m18 i18) (h23 : f l1 = .inl (0, m22, .inl g22)) (h24 : l1 < n ∨ l1 = mi_SC) (h25 : mi_ix (l5 + 4) m22 i22) (h27 : f l1 = .inl (0, m26, .inl g26)) (h28 : l1 < n ∨ l1 = mi_SC) (h29 : mi_ix (l5 + 5) m26 i26) (h31 : f l3 = .inr (12, fs30)) (h32 : l3 < n) (h33 : mi_W d 187 0 (mi_en 6 [.ref l3, .int (g10 i10), .int (g14 i14), .int (g18 i18), .long (((((g22 i22) : Int32).toInt64) <<< ((32 : Int32).toInt64 &&& 63)) ||| ((((g26 i26) : Int32).toInt64) &&& 4294967295))]) [] (n, sl, f) (mi_Kc d 204 484 [some (.ref l1), some (.ref l2), some (.ref l3), some (.ref l4), some (.int l5), some (.int s9), o7, o8] [] Q)) : mi_W (d + 1) 204 441 [some (.ref l1), some (.ref l2), some (.ref l3), some (.ref l4), some (.int l5), o6, o7, o8] [.int s9] (n, sl, f) Q := by
  refine w_istore (ls' := [some (.ref l1), some (.ref l2), some (.ref l3), some (.ref l4), some (.int l5), some (.int s9), o7, o8]) cd_204_441 (Nat.le_of_ble_eq_true rfl) rfl ?_
  refine w_aload_n cd_204_443 rfl ?_
  refine w_aload_n cd_204_444 rfl ?_
  refine w_iload cd_204_445 rfl ?_
  refine w_iconst (v := 1) cd_204_447 (by decide) ?_
  refine w_iadd cd_204_448 ?_
  refine w_iaload cd_204_449 h11 h12 h13 ?_
  refine w_aload_n cd_204_450 rfl ?_
  refine w_iload cd_204_451 rfl ?_
  refine w_iconst (v := 2) cd_204_453 (by decide) ?_
  refine w_iadd cd_204_454 ?_
  refine w_iaload cd_204_455 h15 h16 h17 ?_
  refine w_aload_n cd_204_456 rfl ?_
  refine w_iload cd_204_457 rfl ?_
  refine w_iconst (v := 3) cd_204_459 (by decide) ?_
  refine w_iadd cd_204_460 ?_
  refine w_iaload cd_204_461 h19 h20 h21 ?_
  refine w_aload_n cd_204_462 rfl ?_
  refine w_iload cd_204_463 rfl ?_
  refine w_iconst (v := 4) cd_204_465 (by decide) ?_
  refine w_iadd cd_204_466 ?_
  refine w_iaload cd_204_467 h23 h24 h25 ?_
  refine w_i2l cd_204_468 ?_
  refine w_bipush (v := 32) cd_204_469 (by decide) ?_
  refine w_lshl cd_204_471 ?_
  refine w_aload_n cd_204_472 rfl ?_
  refine w_iload cd_204_473 rfl ?_
  refine w_iconst (v := 5) cd_204_475 (by decide) ?_
  refine w_iadd cd_204_476 ?_
  refine w_iaload cd_204_477 h27 h28 h29 ?_
  refine w_i2l cd_204_478 ?_
  refine w_ldc2_w (lv := 4294967295) cd_204_479 (by decide +kernel) ?_
  refine w_land cd_204_482 ?_
  refine w_lor cd_204_483 ?_
  exact w_invokevirtual cd_204_484 (show mt_m 18 95 = some (187, 0) by decide +kernel) (rest := []) rfl (as := [.ref l3, .int (g10 i10), .int (g14 i14), .int (g18 i18), .long (((((g22 i22) : Int32).toInt64) <<< ((32 : Int32).toInt64 &&& 63)) ||| ((((g26 i26) : Int32).toInt64) &&& 4294967295))]) rfl h31 (Or.inl h32) ⟨Nat.le_of_ble_eq_true rfl, Nat.le_of_ble_eq_true rfl, Nat.le_of_ble_eq_true rfl⟩ h33
theorem b_204_487 {d : Nat} {Q : (Option Value ⊕ Nat) → mi_H → Prop} (n sl : Nat) (f : Nat → mi_C) {l1 : Nat} {l2 : Nat} {l3 : Nat} {l4 : Nat} {l5 : Int32} {l6 : Int32} {o7 : Option Value} {o8 : Option Value} {s9 : Int32} {fs10 : List Value} (h11 : f l3 = .inr (12, fs10)) (h12 : l3 < n) (h13 : mi_W d 138 0 (mi_en 1 [.ref l3]) [] (n, sl, f) (mi_Kc d 204 490 [some (.ref l1), some (.ref l2), some (.ref l3), some (.ref l4), some (.int l5), some (.int l6), some (.int s9), o8] [] Q)) : mi_W (d + 1) 204 487 [some (.ref l1), some (.ref l2), some (.ref l3), some (.ref l4), some (.int l5), some (.int l6), o7, o8] [.int s9] (n, sl, f) Q := by
  refine w_istore (ls' := [some (.ref l1), some (.ref l2), some (.ref l3), some (.ref l4), some (.int l5), some (.int l6), some (.int s9), o8]) cd_204_487 (Nat.le_of_ble_eq_true rfl) rfl ?_
  refine w_aload_n cd_204_489 rfl ?_
  exact w_invokevirtual cd_204_490 (show mt_m 18 75 = some (138, 0) by decide +kernel) (rest := []) rfl (as := [.ref l3]) rfl h11 (Or.inl h12) ⟨Nat.le_of_ble_eq_true rfl, Nat.le_of_ble_eq_true rfl, Nat.le_of_ble_eq_true rfl⟩ h13
theorem b_204_493 {d : Nat} {Q : (Option Value ⊕ Nat) → mi_H → Prop} (n sl : Nat) (f : Nat → mi_C) {l1 : Nat} {l2 : Nat} {l3 : Nat} {l4 : Nat} {l5 : Int32} {l6 : Int32} {l7 : Int32} {o8 : Option Value} {s9 : Int32} (h10 : s9 = l6 → mi_W d 204 500 [some (.ref l1), some (.ref l2), some (.ref l3), some (.ref l4), some (.int l5), some (.int l6), some (.int l7), o8] [] (n, sl, f) Q) (h11 : ¬ (s9 = l6) → mi_W d 204 498 [some (.ref l1), some (.ref l2), some (.ref l3), some (.ref l4), some (.int l5), some (.int l6), some (.int l7), o8] [] (n, sl, f) Q) : mi_W d 204 493 [some (.ref l1), some (.ref l2), some (.ref l3), some (.ref l4), some (.int l5), some (.int l6), some (.int l7), o8] [.int s9] (n, sl, f) Q := by
  refine w_iload cd_204_493 rfl ?_
  exact w_if_icmpeq cd_204_495 (by decide) h10 h11
theorem b_204_498 {d : Nat} {Q : (Option Value ⊕ Nat) → mi_H → Prop} (n sl : Nat) (f : Nat → mi_C) {l1 : Nat} {l2 : Nat} {l3 : Nat} {l4 : Nat} {l5 : Int32} {l6 : Int32} {l7 : Int32} {o8 : Option Value} (h9 : Q (.inl (some (.int 0))) (n, sl, f)) : mi_W d 204 498 [some (.ref l1), some (.ref l2), some (.ref l3), some (.ref l4), some (.int l5), some (.int l6), some (.int l7), o8] [] (n, sl, f) Q := by
  refine w_iconst (v := 0) cd_204_498 (by decide) ?_
  exact w_ireturn_z cd_204_499 (by decide +kernel) (by decide) h9
theorem b_204_500 {d : Nat} {Q : (Option Value ⊕ Nat) → mi_H → Prop} (n sl : Nat) (f : Nat → mi_C) {l1 : Nat} {l2 : Nat} {l3 : Nat} {l4 : Nat} {l5 : Int32} {l6 : Int32} {l7 : Int32} {o8 : Option Value} (h9 : ¬ l6 = (0 : Int32) → mi_W d 204 517 [some (.ref l1), some (.ref l2), some (.ref l3), some (.ref l4), some (.int l5), some (.int l6), some (.int l7), o8] [] (n, sl, f) Q) (h10 : ¬ (¬ l6 = (0 : Int32)) → mi_W d 204 505 [some (.ref l1), some (.ref l2), some (.ref l3), some (.ref l4), some (.int l5), some (.int l6), some (.int l7), o8] [] (n, sl, f) Q) : mi_W d 204 500 [some (.ref l1), some (.ref l2), some (.ref l3), some (.ref l4), some (.int l5), some (.int l6), some (.int l7), o8] [] (n, sl, f) Q := by
  refine w_iload cd_204_500 rfl ?_
  exact w_ifne cd_204_502 (by decide) h9 h10
theorem b_204_505 {d : Nat} {Q : (Option Value ⊕ Nat) → mi_H → Prop} (n sl : Nat) (f : Nat → mi_C) {l1 : Nat} {l2 : Nat} {l3 : Nat} {l4 : Nat} {l5 : Int32} {l6 : Int32} {l7 : Int32} {o8 : Option Value} (m9 i9 : Nat) (g9 : Nat → Int64) (h10 : f l4 = .inl (3, m9, .inr (.inl g9))) (h11 : l4 < n) (h12 : mi_ix 0 m9 i9) (h13 : (lg_cmp (g9 i9) ((l7 : Int32).toInt64)) = (0 : Int32) → mi_W d 204 517 [some (.ref l1), some (.ref l2), some (.ref l3), some (.ref l4), some (.int l5), some (.int l6), some (.int l7), o8] [] (n, sl, f) Q) (h14 : ¬ ((lg_cmp (g9 i9) ((l7 : Int32).toInt64)) = (0 : Int32)) → mi_W d 204 515 [some (.ref l1), some (.ref l2), some (.ref l3), some (.ref l4), some (.int l5), some (.int l6), some (.int l7), o8] [] (n, sl, f) Q) : mi_W d 204 505 [some (.ref l1), some (.ref l2), some (.ref l3), some (.ref l4), some (.int l5), some (.int l6), some (.int l7), o8] [] (n, sl, f) Q := by
  refine w_aload_n cd_204_505 rfl ?_
  refine w_iconst (v := 0) cd_204_506 (by decide) ?_
  refine w_laload cd_204_507 h10 h11 h12 ?_
  refine w_iload cd_204_508 rfl ?_
  refine w_i2l cd_204_510 ?_
  refine w_lcmp cd_204_511 ?_
  exact w_ifeq cd_204_512 (by decide) h13 h14
theorem b_204_515 {d : Nat} {Q : (Option Value ⊕ Nat) → mi_H → Prop} (n sl : Nat) (f : Nat → mi_C) {l1 : Nat} {l2 : Nat} {l3 : Nat} {l4 : Nat} {l5 : Int32} {l6 : Int32} {l7 : Int32} {o8 : Option Value} (h9 : Q (.inl (some (.int 0))) (n, sl, f)) : mi_W d 204 515 [some (.ref l1), some (.ref l2), some (.ref l3), some (.ref l4), some (.int l5), some (.int l6), some (.int l7), o8] [] (n, sl, f) Q := by
  refine w_iconst (v := 0) cd_204_515 (by decide) ?_
  exact w_ireturn_z cd_204_516 (by decide +kernel) (by decide) h9
theorem b_204_517 {d : Nat} {Q : (Option Value ⊕ Nat) → mi_H → Prop} (n sl : Nat) (f : Nat → mi_C) {l1 : Nat} {l2 : Nat} {l3 : Nat} {l4 : Nat} {l5 : Int32} {l6 : Int32} {l7 : Int32} {o8 : Option Value} (h9 : mi_W d 204 1165 [some (.ref l1), some (.ref l2), some (.ref l3), some (.ref l4), some (.int l5), some (.int l6), some (.int l7), o8] [] (n, sl, f) Q) : mi_W d 204 517 [some (.ref l1), some (.ref l2), some (.ref l3), some (.ref l4), some (.int l5), some (.int l6), some (.int l7), o8] [] (n, sl, f) Q := by
  exact w_goto cd_204_517 (by decide) h9
theorem b_204_520 {d : Nat} {Q : (Option Value ⊕ Nat) → mi_H → Prop} (n sl : Nat) (f : Nat → mi_C) {l1 : Nat} {l2 : Nat} {l3 : Nat} {l4 : Nat} {l5 : Int32} {o6 : Option Value} {o7 : Option Value} {o8 : Option Value} (m9 i9 : Nat) (g9 : Nat → Int32) (m13 i13 : Nat) (g13 : Nat → Int32) (m17 i17 : Nat) (g17 : Nat → Int32) (h10 : f l1 = .inl (0, m9, .inl g9)) (h11 : l1 < n ∨ l1 = mi_SC) (h12 : mi_ix (l5 + 1) m9 i9) (h14 : f l1 = .inl (0, m13, .inl g13)) (h15 : l1 < n ∨ l1 = mi_SC) (h16 : mi_ix (l5 + 2) m13 i13) (h18 : f l1 = .inl (0, m17, .inl g17)) (h19 : l1 < n ∨ l1 = mi_SC) (h20 : mi_ix (l5 + 3) m17 i17) (h21 : mi_W d 66 0 (mi_en 6 [.ref l2, .int (g9 i9), .long (((((g13 i13) : Int32).toInt64) <<< ((32 : Int32).toInt64 &&& 63)) ||| ((((g17 i17) : Int32).toInt64) &&& 4294967295)), .ref l4]) [] (n, sl, f) (mi_Kc d 204 550 [some (.ref l1), some (.ref l2), some (.ref l3), some (.ref l4), some (.int l5), o6, o7, o8] [] Q)) : mi_W (d + 1) 204 520 [some (.ref l1), some (.ref l2), some (.ref l3), some (.ref l4), some (.int l5), o6, o7, o8] [] (n, sl, f) Q := by
  refine w_aload_n cd_204_520 rfl ?_
  refine w_aload_n cd_204_521 rfl ?_
  refine w_iload cd_204_522 rfl ?_
  refine w_iconst (v := 1) cd_204_524 (by decide) ?_
  refine w_iadd cd_204_525 ?_
  refine w_iaload cd_204_526 h10 h11 h12 ?_
  refine w_aload_n cd_204_527 rfl ?_
  refine w_iload cd_204_528 rfl ?_
  refine w_iconst (v := 2) cd_204_530 (by decide) ?_
  refine w_iadd cd_204_531 ?_
  refine w_iaload cd_204_532 h14 h15 h16 ?_
  refine w_i2l cd_204_533 ?_
  refine w_bipush (v := 32) cd_204_534 (by decide) ?_
  refine w_lshl cd_204_536 ?_
  refine w_aload_n cd_204_537 rfl ?_
  refine w_iload cd_204_538 rfl ?_
  refine w_iconst (v := 3) cd_204_540 (by decide) ?_
  refine w_iadd cd_204_541 ?_
  refine w_iaload cd_204_542 h18 h19 h20 ?_
  refine w_i2l cd_204_543 ?_
  refine w_ldc2_w (lv := 4294967295) cd_204_544 (by decide +kernel) ?_
  refine w_land cd_204_547 ?_
  refine w_lor cd_204_548 ?_
  refine w_aload_n cd_204_549 rfl ?_
  exact w_invokestatic cd_204_550 (show mt_m 18 96 = some (66, 4) by decide +kernel) (by decide) (rest := []) rfl (as := [.ref l2, .int (g9 i9), .long (((((g13 i13) : Int32).toInt64) <<< ((32 : Int32).toInt64 &&& 63)) ||| ((((g17 i17) : Int32).toInt64) &&& 4294967295)), .ref l4]) rfl ⟨Nat.le_of_ble_eq_true rfl, Nat.le_of_ble_eq_true rfl, Nat.le_of_ble_eq_true rfl⟩ h21
theorem b_204_553 {d : Nat} {Q : (Option Value ⊕ Nat) → mi_H → Prop} (n sl : Nat) (f : Nat → mi_C) {l1 : Nat} {l2 : Nat} {l3 : Nat} {l4 : Nat} {l5 : Int32} {o6 : Option Value} {o7 : Option Value} {o8 : Option Value} {s9 : Int32} (m10 i10 : Nat) (g10 : Nat → Int32) (m14 i14 : Nat) (g14 : Nat → Int32) (m18 i18 : Nat) (g18 : Nat → Int32) {fs22 : List Value} (h11 : f l1 = .inl (0, m10, .inl g10)) (h12 : l1 < n ∨ l1 = mi_SC) (h13 : mi_ix (l5 + 1) m10 i10) (h15 : f l1 = .inl (0, m14, .inl g14)) (h16 : l1 < n ∨ l1 = mi_SC) (h17 : mi_ix (l5 + 2) m14 i14) (h19 : f l1 = .inl (0, m18, .inl g18)) (h20 : l1 < n ∨ l1 = mi_SC) (h21 : mi_ix (l5 + 3) m18 i18) (h23 : f l3 = .inr (12, fs22)) (h24 : l3 < n) (h25 : mi_W d 189 0 (mi_en 4 [.ref l3, .int (g10 i10), .long (((((g14 i14) : Int32).toInt64) <<< ((32 : Int32).toInt64 &&& 63)) ||| ((((g18 i18) : Int32).toInt64) &&& 4294967295))]) [] (n, sl, f) (mi_Kc d 204 584 [some (.ref l1), some (.ref l2), some (.ref l3), some (.ref l4), some (.int l5), some (.int s9), o7, o8] [] Q)) : mi_W (d + 1) 204 553 [some (.ref l1), some (.ref l2), some (.ref l3), some (.ref l4), some (.int l5), o6, o7, o8] [.int s9] (n, sl, f) Q := by
  refine w_istore (ls' := [some (.ref l1), some (.ref l2), some (.ref l3), some (.ref l4), some (.int l5), some (.int s9), o7, o8]) cd_204_553 (Nat.le_of_ble_eq_true rfl) rfl ?_
  refine w_aload_n cd_204_555 rfl ?_
  refine w_aload_n cd_204_556 rfl ?_
  refine w_iload cd_204_557 rfl ?_
  refine w_iconst (v := 1) cd_204_559 (by decide) ?_
  refine w_iadd cd_204_560 ?_
  refine w_iaload cd_204_561 h11 h12 h13 ?_
  refine w_aload_n cd_204_562 rfl ?_
  refine w_iload cd_204_563 rfl ?_
  refine w_iconst (v := 2) cd_204_565 (by decide) ?_
  refine w_iadd cd_204_566 ?_
  refine w_iaload cd_204_567 h15 h16 h17 ?_
  refine w_i2l cd_204_568 ?_
  refine w_bipush (v := 32) cd_204_569 (by decide) ?_
  refine w_lshl cd_204_571 ?_
  refine w_aload_n cd_204_572 rfl ?_
  refine w_iload cd_204_573 rfl ?_
  refine w_iconst (v := 3) cd_204_575 (by decide) ?_
  refine w_iadd cd_204_576 ?_
  refine w_iaload cd_204_577 h19 h20 h21 ?_
  refine w_i2l cd_204_578 ?_
  refine w_ldc2_w (lv := 4294967295) cd_204_579 (by decide +kernel) ?_
  refine w_land cd_204_582 ?_
  refine w_lor cd_204_583 ?_
  exact w_invokevirtual cd_204_584 (show mt_m 18 99 = some (189, 0) by decide +kernel) (rest := []) rfl (as := [.ref l3, .int (g10 i10), .long (((((g14 i14) : Int32).toInt64) <<< ((32 : Int32).toInt64 &&& 63)) ||| ((((g18 i18) : Int32).toInt64) &&& 4294967295))]) rfl h23 (Or.inl h24) ⟨Nat.le_of_ble_eq_true rfl, Nat.le_of_ble_eq_true rfl, Nat.le_of_ble_eq_true rfl⟩ h25
theorem b_204_587 {d : Nat} {Q : (Option Value ⊕ Nat) → mi_H → Prop} (n sl : Nat) (f : Nat → mi_C) {l1 : Nat} {l2 : Nat} {l3 : Nat} {l4 : Nat} {l5 : Int32} {l6 : Int32} {o7 : Option Value} {o8 : Option Value} {s9 : Int32} {fs10 : List Value} (h11 : f l3 = .inr (12, fs10)) (h12 : l3 < n) (h13 : mi_W d 138 0 (mi_en 1 [.ref l3]) [] (n, sl, f) (mi_Kc d 204 590 [some (.ref l1), some (.ref l2), some (.ref l3), some (.ref l4), some (.int l5), some (.int l6), some (.int s9), o8] [] Q)) : mi_W (d + 1) 204 587 [some (.ref l1), some (.ref l2), some (.ref l3), some (.ref l4), some (.int l5), some (.int l6), o7, o8] [.int s9] (n, sl, f) Q := by
  refine w_istore (ls' := [some (.ref l1), some (.ref l2), some (.ref l3), some (.ref l4), some (.int l5), some (.int l6), some (.int s9), o8]) cd_204_587 (Nat.le_of_ble_eq_true rfl) rfl ?_
  refine w_aload_n cd_204_589 rfl ?_
  exact w_invokevirtual cd_204_590 (show mt_m 18 75 = some (138, 0) by decide +kernel) (rest := []) rfl (as := [.ref l3]) rfl h11 (Or.inl h12) ⟨Nat.le_of_ble_eq_true rfl, Nat.le_of_ble_eq_true rfl, Nat.le_of_ble_eq_true rfl⟩ h13
theorem b_204_593 {d : Nat} {Q : (Option Value ⊕ Nat) → mi_H → Prop} (n sl : Nat) (f : Nat → mi_C) {l1 : Nat} {l2 : Nat} {l3 : Nat} {l4 : Nat} {l5 : Int32} {l6 : Int32} {l7 : Int32} {o8 : Option Value} {s9 : Int32} (h10 : s9 = l6 → mi_W d 204 600 [some (.ref l1), some (.ref l2), some (.ref l3), some (.ref l4), some (.int l5), some (.int l6), some (.int l7), o8] [] (n, sl, f) Q) (h11 : ¬ (s9 = l6) → mi_W d 204 598 [some (.ref l1), some (.ref l2), some (.ref l3), some (.ref l4), some (.int l5), some (.int l6), some (.int l7), o8] [] (n, sl, f) Q) : mi_W d 204 593 [some (.ref l1), some (.ref l2), some (.ref l3), some (.ref l4), some (.int l5), some (.int l6), some (.int l7), o8] [.int s9] (n, sl, f) Q := by
  refine w_iload cd_204_593 rfl ?_
  exact w_if_icmpeq cd_204_595 (by decide) h10 h11
theorem b_204_598 {d : Nat} {Q : (Option Value ⊕ Nat) → mi_H → Prop} (n sl : Nat) (f : Nat → mi_C) {l1 : Nat} {l2 : Nat} {l3 : Nat} {l4 : Nat} {l5 : Int32} {l6 : Int32} {l7 : Int32} {o8 : Option Value} (h9 : Q (.inl (some (.int 0))) (n, sl, f)) : mi_W d 204 598 [some (.ref l1), some (.ref l2), some (.ref l3), some (.ref l4), some (.int l5), some (.int l6), some (.int l7), o8] [] (n, sl, f) Q := by
  refine w_iconst (v := 0) cd_204_598 (by decide) ?_
  exact w_ireturn_z cd_204_599 (by decide +kernel) (by decide) h9
theorem b_204_600 {d : Nat} {Q : (Option Value ⊕ Nat) → mi_H → Prop} (n sl : Nat) (f : Nat → mi_C) {l1 : Nat} {l2 : Nat} {l3 : Nat} {l4 : Nat} {l5 : Int32} {l6 : Int32} {l7 : Int32} {o8 : Option Value} (h9 : ¬ l6 = (0 : Int32) → mi_W d 204 617 [some (.ref l1), some (.ref l2), some (.ref l3), some (.ref l4), some (.int l5), some (.int l6), some (.int l7), o8] [] (n, sl, f) Q) (h10 : ¬ (¬ l6 = (0 : Int32)) → mi_W d 204 605 [some (.ref l1), some (.ref l2), some (.ref l3), some (.ref l4), some (.int l5), some (.int l6), some (.int l7), o8] [] (n, sl, f) Q) : mi_W d 204 600 [some (.ref l1), some (.ref l2), some (.ref l3), some (.ref l4), some (.int l5), some (.int l6), some (.int l7), o8] [] (n, sl, f) Q := by
  refine w_iload cd_204_600 rfl ?_
  exact w_ifne cd_204_602 (by decide) h9 h10
theorem b_204_605 {d : Nat} {Q : (Option Value ⊕ Nat) → mi_H → Prop} (n sl : Nat) (f : Nat → mi_C) {l1 : Nat} {l2 : Nat} {l3 : Nat} {l4 : Nat} {l5 : Int32} {l6 : Int32} {l7 : Int32} {o8 : Option Value} (m9 i9 : Nat) (g9 : Nat → Int64) (h10 : f l4 = .inl (3, m9, .inr (.inl g9))) (h11 : l4 < n) (h12 : mi_ix 0 m9 i9) (h13 : (lg_cmp (g9 i9) ((l7 : Int32).toInt64)) = (0 : Int32) → mi_W d 204 617 [some (.ref l1), some (.ref l2), some (.ref l3), some (.ref l4), some (.int l5), some (.int l6), some (.int l7), o8] [] (n, sl, f) Q) (h14 : ¬ ((lg_cmp (g9 i9) ((l7 : Int32).toInt64)) = (0 : Int32)) → mi_W d 204 615 [some (.ref l1), some (.ref l2), some (.ref l3), some (.ref l4), some (.int l5), some (.int l6), some (.int l7), o8] [] (n, sl, f) Q) : mi_W d 204 605 [some (.ref l1), some (.ref l2), some (.ref l3), some (.ref l4), some (.int l5), some (.int l6), some (.int l7), o8] [] (n, sl, f) Q := by
  refine w_aload_n cd_204_605 rfl ?_
  refine w_iconst (v := 0) cd_204_606 (by decide) ?_
  refine w_laload cd_204_607 h10 h11 h12 ?_
  refine w_iload cd_204_608 rfl ?_
  refine w_i2l cd_204_610 ?_
  refine w_lcmp cd_204_611 ?_
  exact w_ifeq cd_204_612 (by decide) h13 h14
theorem b_204_615 {d : Nat} {Q : (Option Value ⊕ Nat) → mi_H → Prop} (n sl : Nat) (f : Nat → mi_C) {l1 : Nat} {l2 : Nat} {l3 : Nat} {l4 : Nat} {l5 : Int32} {l6 : Int32} {l7 : Int32} {o8 : Option Value} (h9 : Q (.inl (some (.int 0))) (n, sl, f)) : mi_W d 204 615 [some (.ref l1), some (.ref l2), some (.ref l3), some (.ref l4), some (.int l5), some (.int l6), some (.int l7), o8] [] (n, sl, f) Q := by
  refine w_iconst (v := 0) cd_204_615 (by decide) ?_
  exact w_ireturn_z cd_204_616 (by decide +kernel) (by decide) h9
theorem b_204_617 {d : Nat} {Q : (Option Value ⊕ Nat) → mi_H → Prop} (n sl : Nat) (f : Nat → mi_C) {l1 : Nat} {l2 : Nat} {l3 : Nat} {l4 : Nat} {l5 : Int32} {l6 : Int32} {l7 : Int32} {o8 : Option Value} (h9 : mi_W d 204 1165 [some (.ref l1), some (.ref l2), some (.ref l3), some (.ref l4), some (.int l5), some (.int l6), some (.int l7), o8] [] (n, sl, f) Q) : mi_W d 204 617 [some (.ref l1), some (.ref l2), some (.ref l3), some (.ref l4), some (.int l5), some (.int l6), some (.int l7), o8] [] (n, sl, f) Q := by
  exact w_goto cd_204_617 (by decide) h9
theorem b_204_620 {d : Nat} {Q : (Option Value ⊕ Nat) → mi_H → Prop} (n sl : Nat) (f : Nat → mi_C) {l1 : Nat} {l2 : Nat} {l3 : Nat} {l4 : Nat} {l5 : Int32} {o6 : Option Value} {o7 : Option Value} {o8 : Option Value} (h9 : mi_W d 68 0 (mi_en 3 [.ref l2, .ref l4]) [] (n, sl, f) (mi_Kc d 204 622 [some (.ref l1), some (.ref l2), some (.ref l3), some (.ref l4), some (.int l5), o6, o7, o8] [] Q)) : mi_W (d + 1) 204 620 [some (.ref l1), some (.ref l2), some (.ref l3), some (.ref l4), some (.int l5), o6, o7, o8] [] (n, sl, f) Q := by
  refine w_aload_n cd_204_620 rfl ?_
  refine w_aload_n cd_204_621 rfl ?_
  exact w_invokestatic cd_204_622 (show mt_m 18 100 = some (68, 4) by decide +kernel) (by decide) (rest := []) rfl (as := [.ref l2, .ref l4]) rfl ⟨Nat.le_of_ble_eq_true rfl, Nat.le_of_ble_eq_true rfl, Nat.le_of_ble_eq_true rfl⟩ h9
theorem b_204_625 {d : Nat} {Q : (Option Value ⊕ Nat) → mi_H → Prop} (n sl : Nat) (f : Nat → mi_C) {l1 : Nat} {l2 : Nat} {l3 : Nat} {l4 : Nat} {l5 : Int32} {o6 : Option Value} {o7 : Option Value} {o8 : Option Value} {s9 : Int32} {fs10 : List Value} (h11 : f l3 = .inr (12, fs10)) (h12 : l3 < n) (h13 : mi_W d 190 0 (mi_en 1 [.ref l3]) [] (n, sl, f) (mi_Kc d 204 628 [some (.ref l1), some (.ref l2), some (.ref l3), some (.ref l4), some (.int l5), some (.int s9), o7, o8] [] Q)) : mi_W (d + 1) 204 625 [some (.ref l1), some (.ref l2), some (.ref l3), some (.ref l4), some (.int l5), o6, o7, o8] [.int s9] (n, sl, f) Q := by
  refine w_istore (ls' := [some (.ref l1), some (.ref l2), some (.ref l3), some (.ref l4), some (.int l5), some (.int s9), o7, o8]) cd_204_625 (Nat.le_of_ble_eq_true rfl) rfl ?_
  refine w_aload_n cd_204_627 rfl ?_
  exact w_invokevirtual cd_204_628 (show mt_m 18 103 = some (190, 0) by decide +kernel) (rest := []) rfl (as := [.ref l3]) rfl h11 (Or.inl h12) ⟨Nat.le_of_ble_eq_true rfl, Nat.le_of_ble_eq_true rfl, Nat.le_of_ble_eq_true rfl⟩ h13
theorem b_204_631 {d : Nat} {Q : (Option Value ⊕ Nat) → mi_H → Prop} (n sl : Nat) (f : Nat → mi_C) {l1 : Nat} {l2 : Nat} {l3 : Nat} {l4 : Nat} {l5 : Int32} {l6 : Int32} {o7 : Option Value} {o8 : Option Value} {s9 : Int32} {fs10 : List Value} (h11 : f l3 = .inr (12, fs10)) (h12 : l3 < n) (h13 : mi_W d 138 0 (mi_en 1 [.ref l3]) [] (n, sl, f) (mi_Kc d 204 634 [some (.ref l1), some (.ref l2), some (.ref l3), some (.ref l4), some (.int l5), some (.int l6), some (.int s9), o8] [] Q)) : mi_W (d + 1) 204 631 [some (.ref l1), some (.ref l2), some (.ref l3), some (.ref l4), some (.int l5), some (.int l6), o7, o8] [.int s9] (n, sl, f) Q := by
  refine w_istore (ls' := [some (.ref l1), some (.ref l2), some (.ref l3), some (.ref l4), some (.int l5), some (.int l6), some (.int s9), o8]) cd_204_631 (Nat.le_of_ble_eq_true rfl) rfl ?_
  refine w_aload_n cd_204_633 rfl ?_
  exact w_invokevirtual cd_204_634 (show mt_m 18 75 = some (138, 0) by decide +kernel) (rest := []) rfl (as := [.ref l3]) rfl h11 (Or.inl h12) ⟨Nat.le_of_ble_eq_true rfl, Nat.le_of_ble_eq_true rfl, Nat.le_of_ble_eq_true rfl⟩ h13
theorem b_204_637 {d : Nat} {Q : (Option Value ⊕ Nat) → mi_H → Prop} (n sl : Nat) (f : Nat → mi_C) {l1 : Nat} {l2 : Nat} {l3 : Nat} {l4 : Nat} {l5 : Int32} {l6 : Int32} {l7 : Int32} {o8 : Option Value} {s9 : Int32} (h10 : s9 = l6 → mi_W d 204 644 [some (.ref l1), some (.ref l2), some (.ref l3), some (.ref l4), some (.int l5), some (.int l6), some (.int l7), o8] [] (n, sl, f) Q) (h11 : ¬ (s9 = l6) → mi_W d 204 642 [some (.ref l1), some (.ref l2), some (.ref l3), some (.ref l4), some (.int l5), some (.int l6), some (.int l7), o8] [] (n, sl, f) Q) : mi_W d 204 637 [some (.ref l1), some (.ref l2), some (.ref l3), some (.ref l4), some (.int l5), some (.int l6), some (.int l7), o8] [.int s9] (n, sl, f) Q := by
  refine w_iload cd_204_637 rfl ?_
  exact w_if_icmpeq cd_204_639 (by decide) h10 h11
theorem b_204_642 {d : Nat} {Q : (Option Value ⊕ Nat) → mi_H → Prop} (n sl : Nat) (f : Nat → mi_C) {l1 : Nat} {l2 : Nat} {l3 : Nat} {l4 : Nat} {l5 : Int32} {l6 : Int32} {l7 : Int32} {o8 : Option Value} (h9 : Q (.inl (some (.int 0))) (n, sl, f)) : mi_W d 204 642 [some (.ref l1), some (.ref l2), some (.ref l3), some (.ref l4), some (.int l5), some (.int l6), some (.int l7), o8] [] (n, sl, f) Q := by
  refine w_iconst (v := 0) cd_204_642 (by decide) ?_
  exact w_ireturn_z cd_204_643 (by decide +kernel) (by decide) h9
theorem b_204_644 {d : Nat} {Q : (Option Value ⊕ Nat) → mi_H → Prop} (n sl : Nat) (f : Nat → mi_C) {l1 : Nat} {l2 : Nat} {l3 : Nat} {l4 : Nat} {l5 : Int32} {l6 : Int32} {l7 : Int32} {o8 : Option Value} (h9 : ¬ l6 = (0 : Int32) → mi_W d 204 661 [some (.ref l1), some (.ref l2), some (.ref l3), some (.ref l4), some (.int l5), some (.int l6), some (.int l7), o8] [] (n, sl, f) Q) (h10 : ¬ (¬ l6 = (0 : Int32)) → mi_W d 204 649 [some (.ref l1), some (.ref l2), some (.ref l3), some (.ref l4), some (.int l5), some (.int l6), some (.int l7), o8] [] (n, sl, f) Q) : mi_W d 204 644 [some (.ref l1), some (.ref l2), some (.ref l3), some (.ref l4), some (.int l5), some (.int l6), some (.int l7), o8] [] (n, sl, f) Q := by
  refine w_iload cd_204_644 rfl ?_
  exact w_ifne cd_204_646 (by decide) h9 h10
theorem b_204_649 {d : Nat} {Q : (Option Value ⊕ Nat) → mi_H → Prop} (n sl : Nat) (f : Nat → mi_C) {l1 : Nat} {l2 : Nat} {l3 : Nat} {l4 : Nat} {l5 : Int32} {l6 : Int32} {l7 : Int32} {o8 : Option Value} (m9 i9 : Nat) (g9 : Nat → Int64) (h10 : f l4 = .inl (3, m9, .inr (.inl g9))) (h11 : l4 < n) (h12 : mi_ix 0 m9 i9) (h13 : (lg_cmp (g9 i9) ((l7 : Int32).toInt64)) = (0 : Int32) → mi_W d 204 661 [some (.ref l1), some (.ref l2), some (.ref l3), some (.ref l4), some (.int l5), some (.int l6), some (.int l7), o8] [] (n, sl, f) Q) (h14 : ¬ ((lg_cmp (g9 i9) ((l7 : Int32).toInt64)) = (0 : Int32)) → mi_W d 204 659 [some (.ref l1), some (.ref l2), some (.ref l3), some (.ref l4), some (.int l5), some (.int l6), some (.int l7), o8] [] (n, sl, f) Q) : mi_W d 204 649 [some (.ref l1), some (.ref l2), some (.ref l3), some (.ref l4), some (.int l5), some (.int l6), some (.int l7), o8] [] (n, sl, f) Q := by
  refine w_aload_n cd_204_649 rfl ?_
  refine w_iconst (v := 0) cd_204_650 (by decide) ?_
  refine w_laload cd_204_651 h10 h11 h12 ?_
  refine w_iload cd_204_652 rfl ?_
  refine w_i2l cd_204_654 ?_
  refine w_lcmp cd_204_655 ?_
  exact w_ifeq cd_204_656 (by decide) h13 h14
theorem b_204_659 {d : Nat} {Q : (Option Value ⊕ Nat) → mi_H → Prop} (n sl : Nat) (f : Nat → mi_C) {l1 : Nat} {l2 : Nat} {l3 : Nat} {l4 : Nat} {l5 : Int32} {l6 : Int32} {l7 : Int32} {o8 : Option Value} (h9 : Q (.inl (some (.int 0))) (n, sl, f)) : mi_W d 204 659 [some (.ref l1), some (.ref l2), some (.ref l3), some (.ref l4), some (.int l5), some (.int l6), some (.int l7), o8] [] (n, sl, f) Q := by
  refine w_iconst (v := 0) cd_204_659 (by decide) ?_
  exact w_ireturn_z cd_204_660 (by decide +kernel) (by decide) h9
theorem b_204_661 {d : Nat} {Q : (Option Value ⊕ Nat) → mi_H → Prop} (n sl : Nat) (f : Nat → mi_C) {l1 : Nat} {l2 : Nat} {l3 : Nat} {l4 : Nat} {l5 : Int32} {l6 : Int32} {l7 : Int32} {o8 : Option Value} (h9 : mi_W d 204 1165 [some (.ref l1), some (.ref l2), some (.ref l3), some (.ref l4), some (.int l5), some (.int l6), some (.int l7), o8] [] (n, sl, f) Q) : mi_W d 204 661 [some (.ref l1), some (.ref l2), some (.ref l3), some (.ref l4), some (.int l5), some (.int l6), some (.int l7), o8] [] (n, sl, f) Q := by
  exact w_goto cd_204_661 (by decide) h9
theorem b_204_664 {d : Nat} {Q : (Option Value ⊕ Nat) → mi_H → Prop} (n sl : Nat) (f : Nat → mi_C) {l1 : Nat} {l2 : Nat} {l3 : Nat} {l4 : Nat} {l5 : Int32} {o6 : Option Value} {o7 : Option Value} {o8 : Option Value} (m9 i9 : Nat) (g9 : Nat → Int32) (m13 i13 : Nat) (g13 : Nat → Int32) (m17 i17 : Nat) (g17 : Nat → Int32) (m21 i21 : Nat) (g21 : Nat → Int32) (h10 : f l1 = .inl (0, m9, .inl g9)) (h11 : l1 < n ∨ l1 = mi_SC) (h12 : mi_ix (l5 + 1) m9 i9) (h14 : f l1 = .inl (0, m13, .inl g13)) (h15 : l1 < n ∨ l1 = mi_SC) (h16 : mi_ix (l5 + 2) m13 i13) (h18 : f l1 = .inl (0, m17, .inl g17)) (h19 : l1 < n ∨ l1 = mi_SC) (h20 : mi_ix (l5 + 3) m17 i17) (h22 : f l1 = .inl (0, m21, .inl g21)) (h23 : l1 < n ∨ l1 = mi_SC) (h24 : mi_ix (l5 + 4) m21 i21) (h25 : mi_W d 70 0 (mi_en 7 [.ref l2, .long (((((g9 i9) : Int32).toInt64) <<< ((32 : Int32).toInt64 &&& 63)) ||| ((((g13 i13) : Int32).toInt64) &&& 4294967295)), .long (((((g17 i17) : Int32).toInt64) <<< ((32 : Int32).toInt64 &&& 63)) ||| ((((g21 i21) : Int32).toInt64) &&& 4294967295)), .ref l4]) [] (n, sl, f) (mi_Kc d 204 710 [some (.ref l1), some (.ref l2), some (.ref l3), some (.ref l4), some (.int l5), o6, o7, o8] [] Q)) : mi_W (d + 1) 204 664 [some (.ref l1), some (.ref l2), some (.ref l3), some (.ref l4), some (.int l5), o6, o7, o8] [] (n, sl, f) Q := by
  refine w_aload_n cd_204_664 rfl ?_
  refine w_aload_n cd_204_665 rfl ?_
  refine w_iload cd_204_666 rfl ?_
  refine w_iconst (v := 1) cd_204_668 (by decide) ?_
  refine w_iadd cd_204_669 ?_
  refine w_iaload cd_204_670 h10 h11 h12 ?_
  refine w_i2l cd_204_671 ?_
  refine w_bipush (v := 32) cd_204_672 (by decide) ?_
  refine w_lshl cd_204_674 ?_
  refine w_aload_n cd_204_675 rfl ?_
  refine w_iload cd_204_676 rfl ?_
  refine w_iconst (v := 2) cd_204_678 (by decide) ?_
  refine w_iadd cd_204_679 ?_
  refine w_iaload cd_204_680 h14 h15 h16 ?_
  refine w_i2l cd_204_681 ?_
  refine w_ldc2_w (lv := 4294967295) cd_204_682 (by decide +kernel) ?_
  refine w_land cd_204_685 ?_
  refine w_lor cd_204_686 ?_
  refine w_aload_n cd_204_687 rfl ?_
  refine w_iload cd_204_688 rfl ?_
  refine w_iconst (v := 3) cd_204_690 (by decide) ?_
  refine w_iadd cd_204_691 ?_
  refine w_iaload cd_204_692 h18 h19 h20 ?_
  refine w_i2l cd_204_693 ?_
  refine w_bipush (v := 32) cd_204_694 (by decide) ?_
  refine w_lshl cd_204_696 ?_
  refine w_aload_n cd_204_697 rfl ?_
  refine w_iload cd_204_698 rfl ?_
  refine w_iconst (v := 4) cd_204_700 (by decide) ?_
  refine w_iadd cd_204_701 ?_
  refine w_iaload cd_204_702 h22 h23 h24 ?_
  refine w_i2l cd_204_703 ?_
  refine w_ldc2_w (lv := 4294967295) cd_204_704 (by decide +kernel) ?_
  refine w_land cd_204_707 ?_
  refine w_lor cd_204_708 ?_
  refine w_aload_n cd_204_709 rfl ?_
  exact w_invokestatic cd_204_710 (show mt_m 18 104 = some (70, 4) by decide +kernel) (by decide) (rest := []) rfl (as := [.ref l2, .long (((((g9 i9) : Int32).toInt64) <<< ((32 : Int32).toInt64 &&& 63)) ||| ((((g13 i13) : Int32).toInt64) &&& 4294967295)), .long (((((g17 i17) : Int32).toInt64) <<< ((32 : Int32).toInt64 &&& 63)) ||| ((((g21 i21) : Int32).toInt64) &&& 4294967295)), .ref l4]) rfl ⟨Nat.le_of_ble_eq_true rfl, Nat.le_of_ble_eq_true rfl, Nat.le_of_ble_eq_true rfl⟩ h25
theorem b_204_713 {d : Nat} {Q : (Option Value ⊕ Nat) → mi_H → Prop} (n sl : Nat) (f : Nat → mi_C) {l1 : Nat} {l2 : Nat} {l3 : Nat} {l4 : Nat} {l5 : Int32} {o6 : Option Value} {o7 : Option Value} {o8 : Option Value} {s9 : Int32} (m10 i10 : Nat) (g10 : Nat → Int32) (m14 i14 : Nat) (g14 : Nat → Int32) (m18 i18 : Nat) (g18 : Nat → Int32) (m22 i22 : Nat) (g22 : Nat → Int32) {fs26 : List Value} (h11 : f l1 = .inl (0, m10, .inl g10)) (h12 : l1 < n ∨ l1 = mi_SC) (h13 : mi_ix (l5 + 1) m10 i10) (h15 : f l1 = .inl (0, m14, .inl g14)) (h16 : l1 < n ∨ l1 = mi_SC) (h17 : mi_ix (l5 + 2) m14 i14) (h19 : f l1 = .inl (0, m18, .inl g18)) (h20 : l1 < n ∨ l1 = mi_SC) (h21 : mi_ix (l5 + 3) m18 i18) (h23 : f l1 = .inl (0, m22, .inl g22)) (h24 : l1 < n ∨ l1 = mi_SC) (h25 : mi_ix (l5 + 4) m22 i22) (h27 : f l3 = .inr (12, fs26)) (h28 : l3 < n) (h29 : mi_W d 172 0 (mi_en 7 [.ref l3, .long (((((g10 i10) : Int32).toInt64) <<< ((32 : Int32).toInt64 &&& 63)) ||| ((((g14 i14) : Int32).toInt64) &&& 4294967295)), .long (((((g18 i18) : Int32).toInt64) <<< ((32 : Int32).toInt64 &&& 63)) ||| ((((g22 i22) : Int32).toInt64) &&& 4294967295))]) [] (n, sl, f) (mi_Kc d 204 760 [some (.ref l1), some (.ref l2), some (.ref l3), some (.ref l4), some (.int l5), some (.int s9), o7, o8] [] Q)) : mi_W (d + 1) 204 713 [some (.ref l1), some (.ref l2), some (.ref l3), some (.ref l4), some (.int l5), o6, o7, o8] [.int s9] (n, sl, f) Q := by
  refine w_istore (ls' := [some (.ref l1), some (.ref l2), some (.ref l3), some (.ref l4), some (.int l5), some (.int s9), o7, o8]) cd_204_713 (Nat.le_of_ble_eq_true rfl) rfl ?_
  refine w_aload_n cd_204_715 rfl ?_
  refine w_aload_n cd_204_716 rfl ?_
  refine w_iload cd_204_717 rfl ?_
  refine w_iconst (v := 1) cd_204_719 (by decide) ?_
  refine w_iadd cd_204_720 ?_
  refine w_iaload cd_204_721 h11 h12 h13 ?_
  refine w_i2l cd_204_722 ?_
  refine w_bipush (v := 32) cd_204_723 (by decide) ?_
  refine w_lshl cd_204_725 ?_
  refine w_aload_n cd_204_726 rfl ?_
  refine w_iload cd_204_727 rfl ?_
  refine w_iconst (v := 2) cd_204_729 (by decide) ?_
  refine w_iadd cd_204_730 ?_
  refine w_iaload cd_204_731 h15 h16 h17 ?_
  refine w_i2l cd_204_732 ?_
  refine w_ldc2_w (lv := 4294967295) cd_204_733 (by decide +kernel) ?_
  refine w_land cd_204_736 ?_
  refine w_lor cd_204_737 ?_
  refine w_aload_n cd_204_738 rfl ?_
  refine w_iload cd_204_739 rfl ?_
  refine w_iconst (v := 3) cd_204_741 (by decide) ?_
  refine w_iadd cd_204_742 ?_
  refine w_iaload cd_204_743 h19 h20 h21 ?_
  refine w_i2l cd_204_744 ?_
  refine w_bipush (v := 32) cd_204_745 (by decide) ?_
  refine w_lshl cd_204_747 ?_
  refine w_aload_n cd_204_748 rfl ?_
  refine w_iload cd_204_749 rfl ?_
  refine w_iconst (v := 4) cd_204_751 (by decide) ?_
  refine w_iadd cd_204_752 ?_
  refine w_iaload cd_204_753 h23 h24 h25 ?_
  refine w_i2l cd_204_754 ?_
  refine w_ldc2_w (lv := 4294967295) cd_204_755 (by decide +kernel) ?_
  refine w_land cd_204_758 ?_
  refine w_lor cd_204_759 ?_
  exact w_invokevirtual cd_204_760 (show mt_m 18 107 = some (172, 0) by decide +kernel) (rest := []) rfl (as := [.ref l3, .long (((((g10 i10) : Int32).toInt64) <<< ((32 : Int32).toInt64 &&& 63)) ||| ((((g14 i14) : Int32).toInt64) &&& 4294967295)), .long (((((g18 i18) : Int32).toInt64) <<< ((32 : Int32).toInt64 &&& 63)) ||| ((((g22 i22) : Int32).toInt64) &&& 4294967295))]) rfl h27 (Or.inl h28) ⟨Nat.le_of_ble_eq_true rfl, Nat.le_of_ble_eq_true rfl, Nat.le_of_ble_eq_true rfl⟩ h29
theorem b_204_763 {d : Nat} {Q : (Option Value ⊕ Nat) → mi_H → Prop} (n sl : Nat) (f : Nat → mi_C) {l1 : Nat} {l2 : Nat} {l3 : Nat} {l4 : Nat} {l5 : Int32} {l6 : Int32} {o7 : Option Value} {o8 : Option Value} {s9 : Int32} {fs10 : List Value} (h11 : f l3 = .inr (12, fs10)) (h12 : l3 < n) (h13 : mi_W d 138 0 (mi_en 1 [.ref l3]) [] (n, sl, f) (mi_Kc d 204 766 [some (.ref l1), some (.ref l2), some (.ref l3), some (.ref l4), some (.int l5), some (.int l6), some (.int s9), o8] [] Q)) : mi_W (d + 1) 204 763 [some (.ref l1), some (.ref l2), some (.ref l3), some (.ref l4), some (.int l5), some (.int l6), o7, o8] [.int s9] (n, sl, f) Q := by
  refine w_istore (ls' := [some (.ref l1), some (.ref l2), some (.ref l3), some (.ref l4), some (.int l5), some (.int l6), some (.int s9), o8]) cd_204_763 (Nat.le_of_ble_eq_true rfl) rfl ?_
  refine w_aload_n cd_204_765 rfl ?_
  exact w_invokevirtual cd_204_766 (show mt_m 18 75 = some (138, 0) by decide +kernel) (rest := []) rfl (as := [.ref l3]) rfl h11 (Or.inl h12) ⟨Nat.le_of_ble_eq_true rfl, Nat.le_of_ble_eq_true rfl, Nat.le_of_ble_eq_true rfl⟩ h13
theorem b_204_769 {d : Nat} {Q : (Option Value ⊕ Nat) → mi_H → Prop} (n sl : Nat) (f : Nat → mi_C) {l1 : Nat} {l2 : Nat} {l3 : Nat} {l4 : Nat} {l5 : Int32} {l6 : Int32} {l7 : Int32} {o8 : Option Value} {s9 : Int32} (h10 : s9 = l6 → mi_W d 204 776 [some (.ref l1), some (.ref l2), some (.ref l3), some (.ref l4), some (.int l5), some (.int l6), some (.int l7), o8] [] (n, sl, f) Q) (h11 : ¬ (s9 = l6) → mi_W d 204 774 [some (.ref l1), some (.ref l2), some (.ref l3), some (.ref l4), some (.int l5), some (.int l6), some (.int l7), o8] [] (n, sl, f) Q) : mi_W d 204 769 [some (.ref l1), some (.ref l2), some (.ref l3), some (.ref l4), some (.int l5), some (.int l6), some (.int l7), o8] [.int s9] (n, sl, f) Q := by
  refine w_iload cd_204_769 rfl ?_
  exact w_if_icmpeq cd_204_771 (by decide) h10 h11
theorem b_204_774 {d : Nat} {Q : (Option Value ⊕ Nat) → mi_H → Prop} (n sl : Nat) (f : Nat → mi_C) {l1 : Nat} {l2 : Nat} {l3 : Nat} {l4 : Nat} {l5 : Int32} {l6 : Int32} {l7 : Int32} {o8 : Option Value} (h9 : Q (.inl (some (.int 0))) (n, sl, f)) : mi_W d 204 774 [some (.ref l1), some (.ref l2), some (.ref l3), some (.ref l4), some (.int l5), some (.int l6), some (.int l7), o8] [] (n, sl, f) Q := by
  refine w_iconst (v := 0) cd_204_774 (by decide) ?_
  exact w_ireturn_z cd_204_775 (by decide +kernel) (by decide) h9
theorem b_204_776 {d : Nat} {Q : (Option Value ⊕ Nat) → mi_H → Prop} (n sl : Nat) (f : Nat → mi_C) {l1 : Nat} {l2 : Nat} {l3 : Nat} {l4 : Nat} {l5 : Int32} {l6 : Int32} {l7 : Int32} {o8 : Option Value} (h9 : ¬ l6 = (0 : Int32) → mi_W d 204 793 [some (.ref l1), some (.ref l2), some (.ref l3), some (.ref l4), some (.int l5), some (.int l6), some (.int l7), o8] [] (n, sl, f) Q) (h10 : ¬ (¬ l6 = (0 : Int32)) → mi_W d 204 781 [some (.ref l1), some (.ref l2), some (.ref l3), some (.ref l4), some (.int l5), some (.int l6), some (.int l7), o8] [] (n, sl, f) Q) : mi_W d 204 776 [some (.ref l1), some (.ref l2), some (.ref l3), some (.ref l4), some (.int l5), some (.int l6), some (.int l7), o8] [] (n, sl, f) Q := by
  refine w_iload cd_204_776 rfl ?_
  exact w_ifne cd_204_778 (by decide) h9 h10
theorem b_204_781 {d : Nat} {Q : (Option Value ⊕ Nat) → mi_H → Prop} (n sl : Nat) (f : Nat → mi_C) {l1 : Nat} {l2 : Nat} {l3 : Nat} {l4 : Nat} {l5 : Int32} {l6 : Int32} {l7 : Int32} {o8 : Option Value} (m9 i9 : Nat) (g9 : Nat → Int64) (h10 : f l4 = .inl (3, m9, .inr (.inl g9))) (h11 : l4 < n) (h12 : mi_ix 0 m9 i9) (h13 : (lg_cmp (g9 i9) ((l7 : Int32).toInt64)) = (0 : Int32) → mi_W d 204 793 [some (.ref l1), some (.ref l2), some (.ref l3), some (.ref l4), some (.int l5), some (.int l6), some (.int l7), o8] [] (n, sl, f) Q) (h14 : ¬ ((lg_cmp (g9 i9) ((l7 : Int32).toInt64)) = (0 : Int32)) → mi_W d 204 791 [some (.ref l1), some (.ref l2), some (.ref l3), some (.ref l4), some (.int l5), some (.int l6), some (.int l7), o8] [] (n, sl, f) Q) : mi_W d 204 781 [some (.ref l1), some (.ref l2), some (.ref l3), some (.ref l4), some (.int l5), some (.int l6), some (.int l7), o8] [] (n, sl, f) Q := by
  refine w_aload_n cd_204_781 rfl ?_
  refine w_iconst (v := 0) cd_204_782 (by decide) ?_
  refine w_laload cd_204_783 h10 h11 h12 ?_
  refine w_iload cd_204_784 rfl ?_
  refine w_i2l cd_204_786 ?_
  refine w_lcmp cd_204_787 ?_
  exact w_ifeq cd_204_788 (by decide) h13 h14
theorem b_204_791 {d : Nat} {Q : (Option Value ⊕ Nat) → mi_H → Prop} (n sl : Nat) (f : Nat → mi_C) {l1 : Nat} {l2 : Nat} {l3 : Nat} {l4 : Nat} {l5 : Int32} {l6 : Int32} {l7 : Int32} {o8 : Option Value} (h9 : Q (.inl (some (.int 0))) (n, sl, f)) : mi_W d 204 791 [some (.ref l1), some (.ref l2), some (.ref l3), some (.ref l4), some (.int l5), some (.int l6), some (.int l7), o8] [] (n, sl, f) Q := by
  refine w_iconst (v := 0) cd_204_791 (by decide) ?_
  exact w_ireturn_z cd_204_792 (by decide +kernel) (by decide) h9
theorem b_204_793 {d : Nat} {Q : (Option Value ⊕ Nat) → mi_H → Prop} (n sl : Nat) (f : Nat → mi_C) {l1 : Nat} {l2 : Nat} {l3 : Nat} {l4 : Nat} {l5 : Int32} {l6 : Int32} {l7 : Int32} {o8 : Option Value} (h9 : mi_W d 204 1165 [some (.ref l1), some (.ref l2), some (.ref l3), some (.ref l4), some (.int l5), some (.int l6), some (.int l7), o8] [] (n, sl, f) Q) : mi_W d 204 793 [some (.ref l1), some (.ref l2), some (.ref l3), some (.ref l4), some (.int l5), some (.int l6), some (.int l7), o8] [] (n, sl, f) Q := by
  exact w_goto cd_204_793 (by decide) h9
theorem b_204_796 {d : Nat} {Q : (Option Value ⊕ Nat) → mi_H → Prop} (n sl : Nat) (f : Nat → mi_C) {l1 : Nat} {l2 : Nat} {l3 : Nat} {l4 : Nat} {l5 : Int32} {o6 : Option Value} {o7 : Option Value} {o8 : Option Value} (m9 i9 : Nat) (g9 : Nat → Int32) (m13 i13 : Nat) (g13 : Nat → Int32) (h10 : f l1 = .inl (0, m9, .inl g9)) (h11 : l1 < n ∨ l1 = mi_SC) (h12 : mi_ix (l5 + 1) m9 i9) (h14 : f l1 = .inl (0, m13, .inl g13)) (h15 : l1 < n ∨ l1 = mi_SC) (h16 : mi_ix (l5 + 2) m13 i13) (h17 : mi_W d 113 0 (mi_en 5 [.ref l2, .int (g9 i9), .int (g13 i13), .ref l4]) [] (n, sl, f) (mi_Kc d 204 810 [some (.ref l1), some (.ref l2), some (.ref l3), some (.ref l4), some (.int l5), o6, o7, o8] [] Q)) : mi_W (d + 1) 204 796 [some (.ref l1), some (.ref l2), some (.ref l3), some (.ref l4), some (.int l5), o6, o7, o8] [] (n, sl, f) Q := by
  refine w_aload_n cd_204_796 rfl ?_
  refine w_aload_n cd_204_797 rfl ?_
  refine w_iload cd_204_798 rfl ?_
  refine w_iconst (v := 1) cd_204_800 (by decide) ?_
  refine w_iadd cd_204_801 ?_
  refine w_iaload cd_204_802 h10 h11 h12 ?_
  refine w_aload_n cd_204_803 rfl ?_
  refine w_iload cd_204_804 rfl ?_
  refine w_iconst (v := 2) cd_204_806 (by decide) ?_
  refine w_iadd cd_204_807 ?_
  refine w_iaload cd_204_808 h14 h15 h16 ?_
  refine w_aload_n cd_204_809 rfl ?_
  exact w_invokestatic cd_204_810 (show mt_m 18 108 = some (113, 4) by decide +kernel) (by decide) (rest := []) rfl (as := [.ref l2, .int (g9 i9), .int (g13 i13), .ref l4]) rfl ⟨Nat.le_of_ble_eq_true rfl, Nat.le_of_ble_eq_true rfl, Nat.le_of_ble_eq_true rfl⟩ h17
theorem b_204_813 {d : Nat} {Q : (Option Value ⊕ Nat) → mi_H → Prop} (n sl : Nat) (f : Nat → mi_C) {l1 : Nat} {l2 : Nat} {l3 : Nat} {l4 : Nat} {l5 : Int32} {o6 : Option Value} {o7 : Option Value} {o8 : Option Value} {s9 : Int32} (m10 i10 : Nat) (g10 : Nat → Int32) (m14 i14 : Nat) (g14 : Nat → Int32) {fs18 : List Value} (h11 : f l1 = .inl (0, m10, .inl g10)) (h12 : l1 < n ∨ l1 = mi_SC) (h13 : mi_ix (l5 + 1) m10 i10) (h15 : f l1 = .inl (0, m14, .inl g14)) (h16 : l1 < n ∨ l1 = mi_SC) (h17 : mi_ix (l5 + 2) m14 i14) (h19 : f l3 = .inr (12, fs18)) (h20 : l3 < n) (h21 : mi_W d 191 0 (mi_en 3 [.ref l3, .int (g10 i10), .int (g14 i14)]) [] (n, sl, f) (mi_Kc d 204 828 [some (.ref l1), some (.ref l2), some (.ref l3), some (.ref l4), some (.int l5), some (.int s9), o7, o8] [] Q)) : mi_W (d + 1) 204 813 [some (.ref l1), some (.ref l2), some (.ref l3), some (.ref l4), some (.int l5), o6, o7, o8] [.int s9] (n, sl, f) Q := by
  refine w_istore (ls' := [some (.ref l1), some (.ref l2), some (.ref l3), some (.ref l4), some (.int l5), some (.int s9), o7, o8]) cd_204_813 (Nat.le_of_ble_eq_true rfl) rfl ?_
  refine w_aload_n cd_204_815 rfl ?_
  refine w_aload_n cd_204_816 rfl ?_
  refine w_iload cd_204_817 rfl ?_
  refine w_iconst (v := 1) cd_204_819 (by decide) ?_
  refine w_iadd cd_204_820 ?_
  refine w_iaload cd_204_821 h11 h12 h13 ?_
  refine w_aload_n cd_204_822 rfl ?_
  refine w_iload cd_204_823 rfl ?_
  refine w_iconst (v := 2) cd_204_825 (by decide) ?_
  refine w_iadd cd_204_826 ?_
  refine w_iaload cd_204_827 h15 h16 h17 ?_
  exact w_invokevirtual cd_204_828 (show mt_m 18 111 = some (191, 0) by decide +kernel) (rest := []) rfl (as := [.ref l3, .int (g10 i10), .int (g14 i14)]) rfl h19 (Or.inl h20) ⟨Nat.le_of_ble_eq_true rfl, Nat.le_of_ble_eq_true rfl, Nat.le_of_ble_eq_true rfl⟩ h21
theorem b_204_831 {d : Nat} {Q : (Option Value ⊕ Nat) → mi_H → Prop} (n sl : Nat) (f : Nat → mi_C) {l1 : Nat} {l2 : Nat} {l3 : Nat} {l4 : Nat} {l5 : Int32} {l6 : Int32} {o7 : Option Value} {o8 : Option Value} {s9 : Int32} {fs10 : List Value} (h11 : f l3 = .inr (12, fs10)) (h12 : l3 < n) (h13 : mi_W d 138 0 (mi_en 1 [.ref l3]) [] (n, sl, f) (mi_Kc d 204 834 [some (.ref l1), some (.ref l2), some (.ref l3), some (.ref l4), some (.int l5), some (.int l6), some (.int s9), o8] [] Q)) : mi_W (d + 1) 204 831 [some (.ref l1), some (.ref l2), some (.ref l3), some (.ref l4), some (.int l5), some (.int l6), o7, o8] [.int s9] (n, sl, f) Q := by
  refine w_istore (ls' := [some (.ref l1), some (.ref l2), some (.ref l3), some (.ref l4), some (.int l5), some (.int l6), some (.int s9), o8]) cd_204_831 (Nat.le_of_ble_eq_true rfl) rfl ?_
  refine w_aload_n cd_204_833 rfl ?_
  exact w_invokevirtual cd_204_834 (show mt_m 18 75 = some (138, 0) by decide +kernel) (rest := []) rfl (as := [.ref l3]) rfl h11 (Or.inl h12) ⟨Nat.le_of_ble_eq_true rfl, Nat.le_of_ble_eq_true rfl, Nat.le_of_ble_eq_true rfl⟩ h13
theorem b_204_837 {d : Nat} {Q : (Option Value ⊕ Nat) → mi_H → Prop} (n sl : Nat) (f : Nat → mi_C) {l1 : Nat} {l2 : Nat} {l3 : Nat} {l4 : Nat} {l5 : Int32} {l6 : Int32} {l7 : Int32} {o8 : Option Value} {s9 : Int32} (h10 : s9 = l6 → mi_W d 204 844 [some (.ref l1), some (.ref l2), some (.ref l3), some (.ref l4), some (.int l5), some (.int l6), some (.int l7), o8] [] (n, sl, f) Q) (h11 : ¬ (s9 = l6) → mi_W d 204 842 [some (.ref l1), some (.ref l2), some (.ref l3), some (.ref l4), some (.int l5), some (.int l6), some (.int l7), o8] [] (n, sl, f) Q) : mi_W d 204 837 [some (.ref l1), some (.ref l2), some (.ref l3), some (.ref l4), some (.int l5), some (.int l6), some (.int l7), o8] [.int s9] (n, sl, f) Q := by
  refine w_iload cd_204_837 rfl ?_
  exact w_if_icmpeq cd_204_839 (by decide) h10 h11
theorem b_204_842 {d : Nat} {Q : (Option Value ⊕ Nat) → mi_H → Prop} (n sl : Nat) (f : Nat → mi_C) {l1 : Nat} {l2 : Nat} {l3 : Nat} {l4 : Nat} {l5 : Int32} {l6 : Int32} {l7 : Int32} {o8 : Option Value} (h9 : Q (.inl (some (.int 0))) (n, sl, f)) : mi_W d 204 842 [some (.ref l1), some (.ref l2), some (.ref l3), some (.ref l4), some (.int l5), some (.int l6), some (.int l7), o8] [] (n, sl, f) Q := by
  refine w_iconst (v := 0) cd_204_842 (by decide) ?_
  exact w_ireturn_z cd_204_843 (by decide +kernel) (by decide) h9
theorem b_204_844 {d : Nat} {Q : (Option Value ⊕ Nat) → mi_H → Prop} (n sl : Nat) (f : Nat → mi_C) {l1 : Nat} {l2 : Nat} {l3 : Nat} {l4 : Nat} {l5 : Int32} {l6 : Int32} {l7 : Int32} {o8 : Option Value} (h9 : ¬ l6 = (0 : Int32) → mi_W d 204 861 [some (.ref l1), some (.ref l2), some (.ref l3), some (.ref l4), some (.int l5), some (.int l6), some (.int l7), o8] [] (n, sl, f) Q) (h10 : ¬ (¬ l6 = (0 : Int32)) → mi_W d 204 849 [some (.ref l1), some (.ref l2), some (.ref l3), some (.ref l4), some (.int l5), some (.int l6), some (.int l7), o8] [] (n, sl, f) Q) : mi_W d 204 844 [some (.ref l1), some (.ref l2), some (.ref l3), some (.ref l4), some (.int l5), some (.int l6), some (.int l7), o8] [] (n, sl, f) Q := by
  refine w_iload cd_204_844 rfl ?_
  exact w_ifne cd_204_846 (by decide) h9 h10
theorem b_204_849 {d : Nat} {Q : (Option Value ⊕ Nat) → mi_H → Prop} (n sl : Nat) (f : Nat → mi_C) {l1 : Nat} {l2 : Nat} {l3 : Nat} {l4 : Nat} {l5 : Int32} {l6 : Int32} {l7 : Int32} {o8 : Option Value} (m9 i9 : Nat) (g9 : Nat → Int64) (h10 : f l4 = .inl (3, m9, .inr (.inl g9))) (h11 : l4 < n) (h12 : mi_ix 0 m9 i9) (h13 : (lg_cmp (g9 i9) ((l7 : Int32).toInt64)) = (0 : Int32) → mi_W d 204 861 [some (.ref l1), some (.ref l2), some (.ref l3), some (.ref l4), some (.int l5), some (.int l6), some (.int l7), o8] [] (n, sl, f) Q) (h14 : ¬ ((lg_cmp (g9 i9) ((l7 : Int32).toInt64)) = (0 : Int32)) → mi_W d 204 859 [some (.ref l1), some (.ref l2), some (.ref l3), some (.ref l4), some (.int l5), some (.int l6), some (.int l7), o8] [] (n, sl, f) Q) : mi_W d 204 849 [some (.ref l1), some (.ref l2), some (.ref l3), some (.ref l4), some (.int l5), some (.int l6), some (.int l7), o8] [] (n, sl, f) Q := by
  refine w_aload_n cd_204_849 rfl ?_
  refine w_iconst (v := 0) cd_204_850 (by decide) ?_
  refine w_laload cd_204_851 h10 h11 h12 ?_
  refine w_iload cd_204_852 rfl ?_
  refine w_i2l cd_204_854 ?_
  refine w_lcmp cd_204_855 ?_
  exact w_ifeq cd_204_856 (by decide) h13 h14
theorem b_204_859 {d : Nat} {Q : (Option Value ⊕ Nat) → mi_H → Prop} (n sl : Nat) (f : Nat → mi_C) {l1 : Nat} {l2 : Nat} {l3 : Nat} {l4 : Nat} {l5 : Int32} {l6 : Int32} {l7 : Int32} {o8 : Option Value} (h9 : Q (.inl (some (.int 0))) (n, sl, f)) : mi_W d 204 859 [some (.ref l1), some (.ref l2), some (.ref l3), some (.ref l4), some (.int l5), some (.int l6), some (.int l7), o8] [] (n, sl, f) Q := by
  refine w_iconst (v := 0) cd_204_859 (by decide) ?_
  exact w_ireturn_z cd_204_860 (by decide +kernel) (by decide) h9
theorem b_204_861 {d : Nat} {Q : (Option Value ⊕ Nat) → mi_H → Prop} (n sl : Nat) (f : Nat → mi_C) {l1 : Nat} {l2 : Nat} {l3 : Nat} {l4 : Nat} {l5 : Int32} {l6 : Int32} {l7 : Int32} {o8 : Option Value} (h9 : mi_W d 204 1165 [some (.ref l1), some (.ref l2), some (.ref l3), some (.ref l4), some (.int l5), some (.int l6), some (.int l7), o8] [] (n, sl, f) Q) : mi_W d 204 861 [some (.ref l1), some (.ref l2), some (.ref l3), some (.ref l4), some (.int l5), some (.int l6), some (.int l7), o8] [] (n, sl, f) Q := by
  exact w_goto cd_204_861 (by decide) h9
theorem b_204_864 {d : Nat} {Q : (Option Value ⊕ Nat) → mi_H → Prop} (n sl : Nat) (f : Nat → mi_C) {l1 : Nat} {l2 : Nat} {l3 : Nat} {l4 : Nat} {l5 : Int32} {o6 : Option Value} {o7 : Option Value} {o8 : Option Value} (m9 i9 : Nat) (g9 : Nat → Int32) (h10 : f l1 = .inl (0, m9, .inl g9)) (h11 : l1 < n ∨ l1 = mi_SC) (h12 : mi_ix (l5 + 1) m9 i9) (h13 : mi_W d 115 0 (mi_en 4 [.ref l2, .int (g9 i9), .ref l4]) [] (n, sl, f) (mi_Kc d 204 872 [some (.ref l1), some (.ref l2), some (.ref l3), some (.ref l4), some (.int l5), o6, o7, o8] [] Q)) : mi_W (d + 1) 204 864 [some (.ref l1), some (.ref l2), some (.ref l3), some (.ref l4), some (.int l5), o6, o7, o8] [] (n, sl, f) Q := by
  refine w_aload_n cd_204_864 rfl ?_
  refine w_aload_n cd_204_865 rfl ?_
  refine w_iload cd_204_866 rfl ?_
  refine w_iconst (v := 1) cd_204_868 (by decide) ?_
  refine w_iadd cd_204_869 ?_
  refine w_iaload cd_204_870 h10 h11 h12 ?_
  refine w_aload_n cd_204_871 rfl ?_
  exact w_invokestatic cd_204_872 (show mt_m 18 112 = some (115, 4) by decide +kernel) (by decide) (rest := []) rfl (as := [.ref l2, .int (g9 i9), .ref l4]) rfl ⟨Nat.le_of_ble_eq_true rfl, Nat.le_of_ble_eq_true rfl, Nat.le_of_ble_eq_true rfl⟩ h13
theorem b_204_875 {d : Nat} {Q : (Option Value ⊕ Nat) → mi_H → Prop} (n sl : Nat) (f : Nat → mi_C) {l1 : Nat} {l2 : Nat} {l3 : Nat} {l4 : Nat} {l5 : Int32} {o6 : Option Value} {o7 : Option Value} {o8 : Option Value} {s9 : Int32} (m10 i10 : Nat) (g10 : Nat → Int32) {fs14 : List Value} (h11 : f l1 = .inl (0, m10, .inl g10)) (h12 : l1 < n ∨ l1 = mi_SC) (h13 : mi_ix (l5 + 1) m10 i10) (h15 : f l3 = .inr (12, fs14)) (h16 : l3 < n) (h17 : mi_W d 192 0 (mi_en 2 [.ref l3, .int (g10 i10)]) [] (n, sl, f) (mi_Kc d 204 884 [some (.ref l1), some (.ref l2), some (.ref l3), some (.ref l4), some (.int l5), some (.int s9), o7, o8] [] Q)) : mi_W (d + 1) 204 875 [some (.ref l1), some (.ref l2), some (.ref l3), some (.ref l4), some (.int l5), o6, o7, o8] [.int s9] (n, sl, f) Q := by
  refine w_istore (ls' := [some (.ref l1), some (.ref l2), some (.ref l3), some (.ref l4), some (.int l5), some (.int s9), o7, o8]) cd_204_875 (Nat.le_of_ble_eq_true rfl) rfl ?_
  refine w_aload_n cd_204_877 rfl ?_
  refine w_aload_n cd_204_878 rfl ?_
  refine w_iload cd_204_879 rfl ?_
  refine w_iconst (v := 1) cd_204_881 (by decide) ?_
  refine w_iadd cd_204_882 ?_
  refine w_iaload cd_204_883 h11 h12 h13 ?_
  exact w_invokevirtual cd_204_884 (show mt_m 18 114 = some (192, 0) by decide +kernel) (rest := []) rfl (as := [.ref l3, .int (g10 i10)]) rfl h15 (Or.inl h16) ⟨Nat.le_of_ble_eq_true rfl, Nat.le_of_ble_eq_true rfl, Nat.le_of_ble_eq_true rfl⟩ h17
theorem b_204_887 {d : Nat} {Q : (Option Value ⊕ Nat) → mi_H → Prop} (n sl : Nat) (f : Nat → mi_C) {l1 : Nat} {l2 : Nat} {l3 : Nat} {l4 : Nat} {l5 : Int32} {l6 : Int32} {o7 : Option Value} {o8 : Option Value} {s9 : Int64} {fs10 : List Value} (h11 : f l3 = .inr (12, fs10)) (h12 : l3 < n) (h13 : mi_W d 138 0 (mi_en 1 [.ref l3]) [] (n, sl, f) (mi_Kc d 204 890 [some (.ref l1), some (.ref l2), some (.ref l3), some (.ref l4), some (.int l5), some (.int l6), some (.long s9), none] [] Q)) : mi_W (d + 1) 204 887 [some (.ref l1), some (.ref l2), some (.ref l3), some (.ref l4), some (.int l5), some (.int l6), o7, o8] [.long s9] (n, sl, f) Q := by
  refine w_lstore (ls' := [some (.ref l1), some (.ref l2), some (.ref l3), some (.ref l4), some (.int l5), some (.int l6), some (.long s9), none]) cd_204_887 (Nat.le_of_ble_eq_true rfl) rfl ?_
  refine w_aload_n cd_204_889 rfl ?_
  exact w_invokevirtual cd_204_890 (show mt_m 18 75 = some (138, 0) by decide +kernel) (rest := []) rfl (as := [.ref l3]) rfl h11 (Or.inl h12) ⟨Nat.le_of_ble_eq_true rfl, Nat.le_of_ble_eq_true rfl, Nat.le_of_ble_eq_true rfl⟩ h13
theorem b_204_893 {d : Nat} {Q : (Option Value ⊕ Nat) → mi_H → Prop} (n sl : Nat) (f : Nat → mi_C) {l1 : Nat} {l2 : Nat} {l3 : Nat} {l4 : Nat} {l5 : Int32} {l6 : Int32} {l7 : Int64} {s8 : Int32} (h9 : s8 = l6 → mi_W d 204 900 [some (.ref l1), some (.ref l2), some (.ref l3), some (.ref l4), some (.int l5), some (.int l6), some (.long l7), none] [] (n, sl, f) Q) (h10 : ¬ (s8 = l6) → mi_W d 204 898 [some (.ref l1), some (.ref l2), some (.ref l3), some (.ref l4), some (.int l5), some (.int l6), some (.long l7), none] [] (n, sl, f) Q) : mi_W d 204 893 [some (.ref l1), some (.ref l2), some (.ref l3), some (.ref l4), some (.int l5), some (.int l6), some (.long l7), none] [.int s8] (n, sl, f) Q := by
  refine w_iload cd_204_893 rfl ?_
  exact w_if_icmpeq cd_204_895 (by decide) h9 h10
theorem b_204_898 {d : Nat} {Q : (Option Value ⊕ Nat) → mi_H → Prop} (n sl : Nat) (f : Nat → mi_C) {l1 : Nat} {l2 : Nat} {l3 : Nat} {l4 : Nat} {l5 : Int32} {l6 : Int32} {l7 : Int64} (h8 : Q (.inl (some (.int 0))) (n, sl, f)) : mi_W d 204 898 [some (.ref l1), some (.ref l2), some (.ref l3), some (.ref l4), some (.int l5), some (.int l6), some (.long l7), none] [] (n, sl, f) Q := by
  refine w_iconst (v := 0) cd_204_898 (by decide) ?_
  exact w_ireturn_z cd_204_899 (by decide +kernel) (by decide) h8
theorem b_204_900 {d : Nat} {Q : (Option Value ⊕ Nat) → mi_H → Prop} (n sl : Nat) (f : Nat → mi_C) {l1 : Nat} {l2 : Nat} {l3 : Nat} {l4 : Nat} {l5 : Int32} {l6 : Int32} {l7 : Int64} (h8 : ¬ l6 = (0 : Int32) → mi_W d 204 916 [some (.ref l1), some (.ref l2), some (.ref l3), some (.ref l4), some (.int l5), some (.int l6), some (.long l7), none] [] (n, sl, f) Q) (h9 : ¬ (¬ l6 = (0 : Int32)) → mi_W d 204 905 [some (.ref l1), some (.ref l2), some (.ref l3), some (.ref l4), some (.int l5), some (.int l6), some (.long l7), none] [] (n, sl, f) Q) : mi_W d 204 900 [some (.ref l1), some (.ref l2), some (.ref l3), some (.ref l4), some (.int l5), some (.int l6), some (.long l7), none] [] (n, sl, f) Q := by
  refine w_iload cd_204_900 rfl ?_
  exact w_ifne cd_204_902 (by decide) h8 h9
theorem b_204_905 {d : Nat} {Q : (Option Value ⊕ Nat) → mi_H → Prop} (n sl : Nat) (f : Nat → mi_C) {l1 : Nat} {l2 : Nat} {l3 : Nat} {l4 : Nat} {l5 : Int32} {l6 : Int32} {l7 : Int64} (m8 i8 : Nat) (g8 : Nat → Int64) (h9 : f l4 = .inl (3, m8, .inr (.inl g8))) (h10 : l4 < n) (h11 : mi_ix 0 m8 i8) (h12 : (lg_cmp (g8 i8) l7) = (0 : Int32) → mi_W d 204 916 [some (.ref l1), some (.ref l2), some (.ref l3), some (.ref l4), some (.int l5), some (.int l6), some (.long l7), none] [] (n, sl, f) Q) (h13 : ¬ ((lg_cmp (g8 i8) l7) = (0 : Int32)) → mi_W d 204 914 [some (.ref l1), some (.ref l2), some (.ref l3), some (.ref l4), some (.int l5), some (.int l6), some (.long l7), none] [] (n, sl, f) Q) : mi_W d 204 905 [some (.ref l1), some (.ref l2), some (.ref l3), some (.ref l4), some (.int l5), some (.int l6), some (.long l7), none] [] (n, sl, f) Q := by
  refine w_aload_n cd_204_905 rfl ?_
  refine w_iconst (v := 0) cd_204_906 (by decide) ?_
  refine w_laload cd_204_907 h9 h10 h11 ?_
  refine w_lload cd_204_908 rfl ?_
  refine w_lcmp cd_204_910 ?_
  exact w_ifeq cd_204_911 (by decide) h12 h13
theorem b_204_914 {d : Nat} {Q : (Option Value ⊕ Nat) → mi_H → Prop} (n sl : Nat) (f : Nat → mi_C) {l1 : Nat} {l2 : Nat} {l3 : Nat} {l4 : Nat} {l5 : Int32} {l6 : Int32} {l7 : Int64} (h8 : Q (.inl (some (.int 0))) (n, sl, f)) : mi_W d 204 914 [some (.ref l1), some (.ref l2), some (.ref l3), some (.ref l4), some (.int l5), some (.int l6), some (.long l7), none] [] (n, sl, f) Q := by
  refine w_iconst (v := 0) cd_204_914 (by decide) ?_
  exact w_ireturn_z cd_204_915 (by decide +kernel) (by decide) h8
theorem b_204_916 {d : Nat} {Q : (Option Value ⊕ Nat) → mi_H → Prop} (n sl : Nat) (f : Nat → mi_C) {l1 : Nat} {l2 : Nat} {l3 : Nat} {l4 : Nat} {l5 : Int32} {l6 : Int32} {l7 : Int64} (h8 : mi_W d 204 1165 [some (.ref l1), some (.ref l2), some (.ref l3), some (.ref l4), some (.int l5), some (.int l6), some (.long l7), none] [] (n, sl, f) Q) : mi_W d 204 916 [some (.ref l1), some (.ref l2), some (.ref l3), some (.ref l4), some (.int l5), some (.int l6), some (.long l7), none] [] (n, sl, f) Q := by
  exact w_goto cd_204_916 (by decide) h8
theorem b_204_919 {d : Nat} {Q : (Option Value ⊕ Nat) → mi_H → Prop} (n sl : Nat) (f : Nat → mi_C) {l1 : Nat} {l2 : Nat} {l3 : Nat} {l4 : Nat} {l5 : Int32} {o6 : Option Value} {o7 : Option Value} {o8 : Option Value} (m9 i9 : Nat) (g9 : Nat → Int32) (m13 i13 : Nat) (g13 : Nat → Int32) (m17 i17 : Nat) (g17 : Nat → Int32) (h10 : f l1 = .inl (0, m9, .inl g9)) (h11 : l1 < n ∨ l1 = mi_SC) (h12 : mi_ix (l5 + 1) m9 i9) (h14 : f l1 = .inl (0, m13, .inl g13)) (h15 : l1 < n ∨ l1 = mi_SC) (h16 : mi_ix (l5 + 2) m13 i13) (h18 : f l1 = .inl (0, m17, .inl g17)) (h19 : l1 < n ∨ l1 = mi_SC) (h20 : mi_ix (l5 + 3) m17 i17) (h21 : mi_W d 117 0 (mi_en 6 [.ref l2, .int (g9 i9), .int (g13 i13), .int (g17 i17), .ref l4]) [] (n, sl, f) (mi_Kc d 204 939 [some (.ref l1), some (.ref l2), some (.ref l3), some (.ref l4), some (.int l5), o6, o7, o8] [] Q)) : mi_W (d + 1) 204 919 [some (.ref l1), some (.ref l2), some (.ref l3), some (.ref l4), some (.int l5), o6, o7, o8] [] (n, sl, f) Q := by
  refine w_aload_n cd_204_919 rfl ?_
  refine w_aload_n cd_204_920 rfl ?_
  refine w_iload cd_204_921 rfl ?_
  refine w_iconst (v := 1) cd_204_923 (by decide) ?_
  refine w_iadd cd_204_924 ?_
  refine w_iaload cd_204_925 h10 h11 h12 ?_
  refine w_aload_n cd_204_926 rfl ?_
  refine w_iload cd_204_927 rfl ?_
  refine w_iconst (v := 2) cd_204_929 (by decide) ?_
  refine w_iadd cd_204_930 ?_
  refine w_iaload cd_204_931 h14 h15 h16 ?_
  refine w_aload_n cd_204_932 rfl ?_
  refine w_iload cd_204_933 rfl ?_
  refine w_iconst (v := 3) cd_204_935 (by decide) ?_
  refine w_iadd cd_204_936 ?_
  refine w_iaload cd_204_937 h18 h19 h20 ?_
  refine w_aload_n cd_204_938 rfl ?_
  exact w_invokestatic cd_204_939 (show mt_m 18 115 = some (117, 4) by decide +kernel) (by decide) (rest := []) rfl (as := [.ref l2, .int (g9 i9), .int (g13 i13), .int (g17 i17), .ref l4]) rfl ⟨Nat.le_of_ble_eq_true rfl, Nat.le_of_ble_eq_true rfl, Nat.le_of_ble_eq_true rfl⟩ h21
theorem b_204_942 {d : Nat} {Q : (Option Value ⊕ Nat) → mi_H → Prop} (n sl : Nat) (f : Nat → mi_C) {l1 : Nat} {l2 : Nat} {l3 : Nat} {l4 : Nat} {l5 : Int32} {o6 : Option Value} {o7 : Option Value} {o8 : Option Value} {s9 : Int32} (m10 i10 : Nat) (g10 : Nat → Int32) (m14 i14 : Nat) (g14 : Nat → Int32) (m18 i18 : Nat) (g18 : Nat → Int32) {fs22 : List Value} (h11 : f l1 = .inl (0, m10, .inl g10)) (h12 : l1 < n ∨ l1 = mi_SC) (h13 : mi_ix (l5 + 1) m10 i10) (h15 : f l1 = .inl (0, m14, .inl g14)) (h16 : l1 < n ∨ l1 = mi_SC) (h17 : mi_ix (l5 + 2) m14 i14) (h19 : f l1 = .inl (0, m18, .inl g18)) (h20 : l1 < n ∨ l1 = mi_SC) (h21 : mi_ix (l5 + 3) m18 i18) (h23 : f l3 = .inr (12, fs22)) (h24 : l3 < n) (h25 : mi_W d 193 0 (mi_en 4 [.ref l3, .int (g10 i10), .int (g14 i14), .int (g18 i18)]) [] (n, sl, f) (mi_Kc d 204 963 [some (.ref l1), some (.ref l2), some (.ref l3), some (.ref l4), some (.int l5), some (.int s9), o7, o8] [] Q)) : mi_W (d + 1) 204 942 [some (.ref l1), some (.ref l2), some (.ref l3), some (.ref l4), some (.int l5), o6, o7, o8] [.int s9] (n, sl, f) Q := by
  refine w_istore (ls' := [some (.ref l1), some (.ref l2), some (.ref l3), some (.ref l4), some (.int l5), some (.int s9), o7, o8]) cd_204_942 (Nat.le_of_ble_eq_true rfl) rfl ?_
  refine w_aload_n cd_204_944 rfl ?_
  refine w_aload_n cd_204_945 rfl ?_
  refine w_iload cd_204_946 rfl ?_
  refine w_iconst (v := 1) cd_204_948 (by decide) ?_
  refine w_iadd cd_204_949 ?_
  refine w_iaload cd_204_950 h11 h12 h13 ?_
  refine w_aload_n cd_204_951 rfl ?_
  refine w_iload cd_204_952 rfl ?_
  refine w_iconst (v := 2) cd_204_954 (by decide) ?_
  refine w_iadd cd_204_955 ?_
  refine w_iaload cd_204_956 h15 h16 h17 ?_
  refine w_aload_n cd_204_957 rfl ?_
  refine w_iload cd_204_958 rfl ?_
  refine w_iconst (v := 3) cd_204_960 (by decide) ?_
  refine w_iadd cd_204_961 ?_
  refine w_iaload cd_204_962 h19 h20 h21 ?_
  exact w_invokevirtual cd_204_963 (show mt_m 18 118 = some (193, 0) by decide +kernel) (rest := []) rfl (as := [.ref l3, .int (g10 i10), .int (g14 i14), .int (g18 i18)]) rfl h23 (Or.inl h24) ⟨Nat.le_of_ble_eq_true rfl, Nat.le_of_ble_eq_true rfl, Nat.le_of_ble_eq_true rfl⟩ h25
theorem b_204_966 {d : Nat} {Q : (Option Value ⊕ Nat) → mi_H → Prop} (n sl : Nat) (f : Nat → mi_C) {l1 : Nat} {l2 : Nat} {l3 : Nat} {l4 : Nat} {l5 : Int32} {l6 : Int32} {o7 : Option Value} {o8 : Option Value} {s9 : Int64} {fs10 : List Value} (h11 : f l3 = .inr (12, fs10)) (h12 : l3 < n) (h13 : mi_W d 138 0 (mi_en 1 [.ref l3]) [] (n, sl, f) (mi_Kc d 204 969 [some (.ref l1), some (.ref l2), some (.ref l3), some (.ref l4), some (.int l5), some (.int l6), some (.long s9), none] [] Q)) : mi_W (d + 1) 204 966 [some (.ref l1), some (.ref l2), some (.ref l3), some (.ref l4), some (.int l5), some (.int l6), o7, o8] [.long s9] (n, sl, f) Q := by
  refine w_lstore (ls' := [some (.ref l1), some (.ref l2), some (.ref l3), some (.ref l4), some (.int l5), some (.int l6), some (.long s9), none]) cd_204_966 (Nat.le_of_ble_eq_true rfl) rfl ?_
  refine w_aload_n cd_204_968 rfl ?_
  exact w_invokevirtual cd_204_969 (show mt_m 18 75 = some (138, 0) by decide +kernel) (rest := []) rfl (as := [.ref l3]) rfl h11 (Or.inl h12) ⟨Nat.le_of_ble_eq_true rfl, Nat.le_of_ble_eq_true rfl, Nat.le_of_ble_eq_true rfl⟩ h13
theorem b_204_972 {d : Nat} {Q : (Option Value ⊕ Nat) → mi_H → Prop} (n sl : Nat) (f : Nat → mi_C) {l1 : Nat} {l2 : Nat} {l3 : Nat} {l4 : Nat} {l5 : Int32} {l6 : Int32} {l7 : Int64} {s8 : Int32} (h9 : s8 = l6 → mi_W d 204 979 [some (.ref l1), some (.ref l2), some (.ref l3), some (.ref l4), some (.int l5), some (.int l6), some (.long l7), none] [] (n, sl, f) Q) (h10 : ¬ (s8 = l6) → mi_W d 204 977 [some (.ref l1), some (.ref l2), some (.ref l3), some (.ref l4), some (.int l5), some (.int l6), some (.long l7), none] [] (n, sl, f) Q) : mi_W d 204 972 [some (.ref l1), some (.ref l2), some (.ref l3), some (.ref l4), some (.int l5), some (.int l6), some (.long l7), none] [.int s8] (n, sl, f) Q := by
  refine w_iload cd_204_972 rfl ?_
  exact w_if_icmpeq cd_204_974 (by decide) h9 h10
theorem b_204_977 {d : Nat} {Q : (Option Value ⊕ Nat) → mi_H → Prop} (n sl : Nat) (f : Nat → mi_C) {l1 : Nat} {l2 : Nat} {l3 : Nat} {l4 : Nat} {l5 : Int32} {l6 : Int32} {l7 : Int64} (h8 : Q (.inl (some (.int 0))) (n, sl, f)) : mi_W d 204 977 [some (.ref l1), some (.ref l2), some (.ref l3), some (.ref l4), some (.int l5), some (.int l6), some (.long l7), none] [] (n, sl, f) Q := by
  refine w_iconst (v := 0) cd_204_977 (by decide) ?_
  exact w_ireturn_z cd_204_978 (by decide +kernel) (by decide) h8
theorem b_204_979 {d : Nat} {Q : (Option Value ⊕ Nat) → mi_H → Prop} (n sl : Nat) (f : Nat → mi_C) {l1 : Nat} {l2 : Nat} {l3 : Nat} {l4 : Nat} {l5 : Int32} {l6 : Int32} {l7 : Int64} (h8 : ¬ l6 = (0 : Int32) → mi_W d 204 995 [some (.ref l1), some (.ref l2), some (.ref l3), some (.ref l4), some (.int l5), some (.int l6), some (.long l7), none] [] (n, sl, f) Q) (h9 : ¬ (¬ l6 = (0 : Int32)) → mi_W d 204 984 [some (.ref l1), some (.ref l2), some (.ref l3), some (.ref l4), some (.int l5), some (.int l6), some (.long l7), none] [] (n, sl, f) Q) : mi_W d 204 979 [some (.ref l1), some (.ref l2), some (.ref l3), some (.ref l4), some (.int l5), some (.int l6), some (.long l7), none] [] (n, sl, f) Q := by
  refine w_iload cd_204_979 rfl ?_
  exact w_ifne cd_204_981 (by decide) h8 h9
theorem b_204_984 {d : Nat} {Q : (Option Value ⊕ Nat) → mi_H → Prop} (n sl : Nat) (f : Nat → mi_C) {l1 : Nat} {l2 : Nat} {l3 : Nat} {l4 : Nat} {l5 : Int32} {l6 : Int32} {l7 : Int64} (m8 i8 : Nat) (g8 : Nat → Int64) (h9 : f l4 = .inl (3, m8, .inr (.inl g8))) (h10 : l4 < n) (h11 : mi_ix 0 m8 i8) (h12 : (lg_cmp (g8 i8) l7) = (0 : Int32) → mi_W d 204 995 [some (.ref l1), some (.ref l2), some (.ref l3), some (.ref l4), some (.int l5), some (.int l6), some (.long l7), none] [] (n, sl, f) Q) (h13 : ¬ ((lg_cmp (g8 i8) l7) = (0 : Int32)) → mi_W d 204 993 [some (.ref l1), some (.ref l2), some (.ref l3), some (.ref l4), some (.int l5), some (.int l6), some (.long l7), none] [] (n, sl, f) Q) : mi_W d 204 984 [some (.ref l1), some (.ref l2), some (.ref l3), some (.ref l4), some (.int l5), some (.int l6), some (.long l7), none] [] (n, sl, f) Q := by
  refine w_aload_n cd_204_984 rfl ?_
  refine w_iconst (v := 0) cd_204_985 (by decide) ?_
  refine w_laload cd_204_986 h9 h10 h11 ?_
  refine w_lload cd_204_987 rfl ?_
  refine w_lcmp cd_204_989 ?_
  exact w_ifeq cd_204_990 (by decide) h12 h13
theorem b_204_993 {d : Nat} {Q : (Option Value ⊕ Nat) → mi_H → Prop} (n sl : Nat) (f : Nat → mi_C) {l1 : Nat} {l2 : Nat} {l3 : Nat} {l4 : Nat} {l5 : Int32} {l6 : Int32} {l7 : Int64} (h8 : Q (.inl (some (.int 0))) (n, sl, f)) : mi_W d 204 993 [some (.ref l1), some (.ref l2), some (.ref l3), some (.ref l4), some (.int l5), some (.int l6), some (.long l7), none] [] (n, sl, f) Q := by
  refine w_iconst (v := 0) cd_204_993 (by decide) ?_
  exact w_ireturn_z cd_204_994 (by decide +kernel) (by decide) h8
theorem b_204_995 {d : Nat} {Q : (Option Value ⊕ Nat) → mi_H → Prop} (n sl : Nat) (f : Nat → mi_C) {l1 : Nat} {l2 : Nat} {l3 : Nat} {l4 : Nat} {l5 : Int32} {l6 : Int32} {l7 : Int64} (h8 : mi_W d 204 1165 [some (.ref l1), some (.ref l2), some (.ref l3), some (.ref l4), some (.int l5), some (.int l6), some (.long l7), none] [] (n, sl, f) Q) : mi_W d 204 995 [some (.ref l1), some (.ref l2), some (.ref l3), some (.ref l4), some (.int l5), some (.int l6), some (.long l7), none] [] (n, sl, f) Q := by
  exact w_goto cd_204_995 (by decide) h8
theorem b_204_998 {d : Nat} {Q : (Option Value ⊕ Nat) → mi_H → Prop} (n sl : Nat) (f : Nat → mi_C) {l1 : Nat} {l2 : Nat} {l3 : Nat} {l4 : Nat} {l5 : Int32} {o6 : Option Value} {o7 : Option Value} {o8 : Option Value} (h9 : mi_W d 119 0 (mi_en 3 [.ref l2, .ref l4]) [] (n, sl, f) (mi_Kc d 204 1000 [some (.ref l1), some (.ref l2), some (.ref l3), some (.ref l4), some (.int l5), o6, o7, o8] [] Q)) : mi_W (d + 1) 204 998 [some (.ref l1), some (.ref l2), some (.ref l3), some (.ref l4), some (.int l5), o6, o7, o8] [] (n, sl, f) Q := by
  refine w_aload_n cd_204_998 rfl ?_
  refine w_aload_n cd_204_999 rfl ?_
  exact w_invokestatic cd_204_1000 (show mt_m 18 119 = some (119, 4) by decide +kernel) (by decide) (rest := []) rfl (as := [.ref l2, .ref l4]) rfl ⟨Nat.le_of_ble_eq_true rfl, Nat.le_of_ble_eq_true rfl, Nat.le_of_ble_eq_true rfl⟩ h9
theorem b_204_1003 {d : Nat} {Q : (Option Value ⊕ Nat) → mi_H → Prop} (n sl : Nat) (f : Nat → mi_C) {l1 : Nat} {l2 : Nat} {l3 : Nat} {l4 : Nat} {l5 : Int32} {o6 : Option Value} {o7 : Option Value} {o8 : Option Value} {s9 : Int32} {fs10 : List Value} (h11 : f l3 = .inr (12, fs10)) (h12 : l3 < n) (h13 : mi_W d 194 0 (mi_en 4 [.ref l3]) [] (n, sl, f) (mi_Kc d 204 1006 [some (.ref l1), some (.ref l2), some (.ref l3), some (.ref l4), some (.int l5), some (.int s9), o7, o8] [] Q)) : mi_W (d + 1) 204 1003 [some (.ref l1), some (.ref l2), some (.ref l3), some (.ref l4), some (.int l5), o6, o7, o8] [.int s9] (n, sl, f) Q := by
  refine w_istore (ls' := [some (.ref l1), some (.ref l2), some (.ref l3), some (.ref l4), some (.int l5), some (.int s9), o7, o8]) cd_204_1003 (Nat.le_of_ble_eq_true rfl) rfl ?_
  refine w_aload_n cd_204_1005 rfl ?_
  exact w_invokevirtual cd_204_1006 (show mt_m 18 121 = some (194, 0) by decide +kernel) (rest := []) rfl (as := [.ref l3]) rfl h11 (Or.inl h12) ⟨Nat.le_of_ble_eq_true rfl, Nat.le_of_ble_eq_true rfl, Nat.le_of_ble_eq_true rfl⟩ h13
theorem b_204_1009 {d : Nat} {Q : (Option Value ⊕ Nat) → mi_H → Prop} (n sl : Nat) (f : Nat → mi_C) {l1 : Nat} {l2 : Nat} {l3 : Nat} {l4 : Nat} {l5 : Int32} {l6 : Int32} {o7 : Option Value} {o8 : Option Value} {s9 : Int32} {fs10 : List Value} (h11 : f l3 = .inr (12, fs10)) (h12 : l3 < n) (h13 : mi_W d 138 0 (mi_en 1 [.ref l3]) [] (n, sl, f) (mi_Kc d 204 1012 [some (.ref l1), some (.ref l2), some (.ref l3), some (.ref l4), some (.int l5), some (.int l6), some (.int s9), o8] [] Q)) : mi_W (d + 1) 204 1009 [some (.ref l1), some (.ref l2), some (.ref l3), some (.ref l4), some (.int l5), some (.int l6), o7, o8] [.int s9] (n, sl, f) Q := by
  refine w_istore (ls' := [some (.ref l1), some (.ref l2), some (.ref l3), some (.ref l4), some (.int l5), some (.int l6), some (.int s9), o8]) cd_204_1009 (Nat.le_of_ble_eq_true rfl) rfl ?_
  refine w_aload_n cd_204_1011 rfl ?_
  exact w_invokevirtual cd_204_1012 (show mt_m 18 75 = some (138, 0) by decide +kernel) (rest := []) rfl (as := [.ref l3]) rfl h11 (Or.inl h12) ⟨Nat.le_of_ble_eq_true rfl, Nat.le_of_ble_eq_true rfl, Nat.le_of_ble_eq_true rfl⟩ h13
theorem b_204_1015 {d : Nat} {Q : (Option Value ⊕ Nat) → mi_H → Prop} (n sl : Nat) (f : Nat → mi_C) {l1 : Nat} {l2 : Nat} {l3 : Nat} {l4 : Nat} {l5 : Int32} {l6 : Int32} {l7 : Int32} {o8 : Option Value} {s9 : Int32} (h10 : s9 = l6 → mi_W d 204 1022 [some (.ref l1), some (.ref l2), some (.ref l3), some (.ref l4), some (.int l5), some (.int l6), some (.int l7), o8] [] (n, sl, f) Q) (h11 : ¬ (s9 = l6) → mi_W d 204 1020 [some (.ref l1), some (.ref l2), some (.ref l3), some (.ref l4), some (.int l5), some (.int l6), some (.int l7), o8] [] (n, sl, f) Q) : mi_W d 204 1015 [some (.ref l1), some (.ref l2), some (.ref l3), some (.ref l4), some (.int l5), some (.int l6), some (.int l7), o8] [.int s9] (n, sl, f) Q := by
  refine w_iload cd_204_1015 rfl ?_
  exact w_if_icmpeq cd_204_1017 (by decide) h10 h11
theorem b_204_1020 {d : Nat} {Q : (Option Value ⊕ Nat) → mi_H → Prop} (n sl : Nat) (f : Nat → mi_C) {l1 : Nat} {l2 : Nat} {l3 : Nat} {l4 : Nat} {l5 : Int32} {l6 : Int32} {l7 : Int32} {o8 : Option Value} (h9 : Q (.inl (some (.int 0))) (n, sl, f)) : mi_W d 204 1020 [some (.ref l1), some (.ref l2), some (.ref l3), some (.ref l4), some (.int l5), some (.int l6), some (.int l7), o8] [] (n, sl, f) Q := by
  refine w_iconst (v := 0) cd_204_1020 (by decide) ?_
  exact w_ireturn_z cd_204_1021 (by decide +kernel) (by decide) h9
theorem b_204_1022 {d : Nat} {Q : (Option Value ⊕ Nat) → mi_H → Prop} (n sl : Nat) (f : Nat → mi_C) {l1 : Nat} {l2 : Nat} {l3 : Nat} {l4 : Nat} {l5 : Int32} {l6 : Int32} {l7 : Int32} {o8 : Option Value} (h9 : ¬ l6 = (0 : Int32) → mi_W d 204 1039 [some (.ref l1), some (.ref l2), some (.ref l3), some (.ref l4), some (.int l5), some (.int l6), some (.int l7), o8] [] (n, sl, f) Q) (h10 : ¬ (¬ l6 = (0 : Int32)) → mi_W d 204 1027 [some (.ref l1), some (.ref l2), some (.ref l3), some (.ref l4), some (.int l5), some (.int l6), some (.int l7), o8] [] (n, sl, f) Q) : mi_W d 204 1022 [some (.ref l1), some (.ref l2), some (.ref l3), some (.ref l4), some (.int l5), some (.int l6), some (.int l7), o8] [] (n, sl, f) Q := by
  refine w_iload cd_204_1022 rfl ?_
  exact w_ifne cd_204_1024 (by decide) h9 h10
theorem b_204_1027 {d : Nat} {Q : (Option Value ⊕ Nat) → mi_H → Prop} (n sl : Nat) (f : Nat → mi_C) {l1 : Nat} {l2 : Nat} {l3 : Nat} {l4 : Nat} {l5 : Int32} {l6 : Int32} {l7 : Int32} {o8 : Option Value} (m9 i9 : Nat) (g9 : Nat → Int64) (h10 : f l4 = .inl (3, m9, .inr (.inl g9))) (h11 : l4 < n) (h12 : mi_ix 0 m9 i9) (h13 : (lg_cmp (g9 i9) ((l7 : Int32).toInt64)) = (0 : Int32) → mi_W d 204 1039 [some (.ref l1), some (.ref l2), some (.ref l3), some (.ref l4), some (.int l5), some (.int l6), some (.int l7), o8] [] (n, sl, f) Q) (h14 : ¬ ((lg_cmp (g9 i9) ((l7 : Int32).toInt64)) = (0 : Int32)) → mi_W d 204 1037 [some (.ref l1), some (.ref l2), some (.ref l3), some (.ref l4), some (.int l5), some (.int l6), some (.int l7), o8] [] (n, sl, f) Q) : mi_W d 204 1027 [some (.ref l1), some (.ref l2), some (.ref l3), some (.ref l4), some (.int l5), some (.int l6), some (.int l7), o8] [] (n, sl, f) Q := by
  refine w_aload_n cd_204_1027 rfl ?_
  refine w_iconst (v := 0) cd_204_1028 (by decide) ?_
  refine w_laload cd_204_1029 h10 h11 h12 ?_
  refine w_iload cd_204_1030 rfl ?_
  refine w_i2l cd_204_1032 ?_
  refine w_lcmp cd_204_1033 ?_
  exact w_ifeq cd_204_1034 (by decide) h13 h14
theorem b_204_1037 {d : Nat} {Q : (Option Value ⊕ Nat) → mi_H → Prop} (n sl : Nat) (f : Nat → mi_C) {l1 : Nat} {l2 : Nat} {l3 : Nat} {l4 : Nat} {l5 : Int32} {l6 : Int32} {l7 : Int32} {o8 : Option Value} (h9 : Q (.inl (some (.int 0))) (n, sl, f)) : mi_W d 204 1037 [some (.ref l1), some (.ref l2), some (.ref l3), some (.ref l4), some (.int l5), some (.int l6), some (.int l7), o8] [] (n, sl, f) Q := by
  refine w_iconst (v := 0) cd_204_1037 (by decide) ?_
  exact w_ireturn_z cd_204_1038 (by decide +kernel) (by decide) h9
theorem b_204_1039 {d : Nat} {Q : (Option Value ⊕ Nat) → mi_H → Prop} (n sl : Nat) (f : Nat → mi_C) {l1 : Nat} {l2 : Nat} {l3 : Nat} {l4 : Nat} {l5 : Int32} {l6 : Int32} {l7 : Int32} {o8 : Option Value} (h9 : mi_W d 204 1165 [some (.ref l1), some (.ref l2), some (.ref l3), some (.ref l4), some (.int l5), some (.int l6), some (.int l7), o8] [] (n, sl, f) Q) : mi_W d 204 1039 [some (.ref l1), some (.ref l2), some (.ref l3), some (.ref l4), some (.int l5), some (.int l6), some (.int l7), o8] [] (n, sl, f) Q := by
  exact w_goto cd_204_1039 (by decide) h9
theorem b_204_1042 {d : Nat} {Q : (Option Value ⊕ Nat) → mi_H → Prop} (n sl : Nat) (f : Nat → mi_C) {l1 : Nat} {l2 : Nat} {l3 : Nat} {l4 : Nat} {l5 : Int32} {o6 : Option Value} {o7 : Option Value} {o8 : Option Value} (m9 i9 : Nat) (g9 : Nat → Int32) (m13 i13 : Nat) (g13 : Nat → Int32) (h10 : f l1 = .inl (0, m9, .inl g9)) (h11 : l1 < n ∨ l1 = mi_SC) (h12 : mi_ix (l5 + 1) m9 i9) (h14 : f l1 = .inl (0, m13, .inl g13)) (h15 : l1 < n ∨ l1 = mi_SC) (h16 : mi_ix (l5 + 2) m13 i13) (h17 : mi_W d 131 0 (mi_en 5 [.ref l2, .int (g9 i9), .int (g13 i13), .ref l4]) [] (n, sl, f) (mi_Kc d 204 1056 [some (.ref l1), some (.ref l2), some (.ref l3), some (.ref l4), some (.int l5), o6, o7, o8] [] Q)) : mi_W (d + 1) 204 1042 [some (.ref l1), some (.ref l2), some (.ref l3), some (.ref l4), some (.int l5), o6, o7, o8] [] (n, sl, f) Q := by
  refine w_aload_n cd_204_1042 rfl ?_
  refine w_aload_n cd_204_1043 rfl ?_
  refine w_iload cd_204_1044 rfl ?_
  refine w_iconst (v := 1) cd_204_1046 (by decide) ?_
  refine w_iadd cd_204_1047 ?_
  refine w_iaload cd_204_1048 h10 h11 h12 ?_
  refine w_aload_n cd_204_1049 rfl ?_
  refine w_iload cd_204_1050 rfl ?_
  refine w_iconst (v := 2) cd_204_1052 (by decide) ?_
  refine w_iadd cd_204_1053 ?_
  refine w_iaload cd_204_1054 h14 h15 h16 ?_
  refine w_aload_n cd_204_1055 rfl ?_
  exact w_invokestatic cd_204_1056 (show mt_m 18 122 = some (131, 4) by decide +kernel) (by decide) (rest := []) rfl (as := [.ref l2, .int (g9 i9), .int (g13 i13), .ref l4]) rfl ⟨Nat.le_of_ble_eq_true rfl, Nat.le_of_ble_eq_true rfl, Nat.le_of_ble_eq_true rfl⟩ h17
theorem b_204_1059 {d : Nat} {Q : (Option Value ⊕ Nat) → mi_H → Prop} (n sl : Nat) (f : Nat → mi_C) {l1 : Nat} {l2 : Nat} {l3 : Nat} {l4 : Nat} {l5 : Int32} {o6 : Option Value} {o7 : Option Value} {o8 : Option Value} {s9 : Int32} (m10 i10 : Nat) (g10 : Nat → Int32) (m14 i14 : Nat) (g14 : Nat → Int32) {fs18 : List Value} (h11 : f l1 = .inl (0, m10, .inl g10)) (h12 : l1 < n ∨ l1 = mi_SC) (h13 : mi_ix (l5 + 1) m10 i10) (h15 : f l1 = .inl (0, m14, .inl g14)) (h16 : l1 < n ∨ l1 = mi_SC) (h17 : mi_ix (l5 + 2) m14 i14) (h19 : f l3 = .inr (12, fs18)) (h20 : l3 < n) (h21 : mi_W d 202 0 (mi_en 3 [.ref l3, .int (g10 i10), .int (g14 i14)]) [] (n, sl, f) (mi_Kc d 204 1074 [some (.ref l1), some (.ref l2), some (.ref l3), some (.ref l4), some (.int l5), some (.int s9), o7, o8] [] Q)) : mi_W (d + 1) 204 1059 [some (.ref l1), some (.ref l2), some (.ref l3), some (.ref l4), some (.int l5), o6, o7, o8] [.int s9] (n, sl, f) Q := by
  refine w_istore (ls' := [some (.ref l1), some (.ref l2), some (.ref l3), some (.ref l4), some (.int l5), some (.int s9), o7, o8]) cd_204_1059 (Nat.le_of_ble_eq_true rfl) rfl ?_
  refine w_aload_n cd_204_1061 rfl ?_
  refine w_aload_n cd_204_1062 rfl ?_
  refine w_iload cd_204_1063 rfl ?_
  refine w_iconst (v := 1) cd_204_1065 (by decide) ?_
  refine w_iadd cd_204_1066 ?_
  refine w_iaload cd_204_1067 h11 h12 h13 ?_
  refine w_aload_n cd_204_1068 rfl ?_
  refine w_iload cd_204_1069 rfl ?_
  refine w_iconst (v := 2) cd_204_1071 (by decide) ?_
  refine w_iadd cd_204_1072 ?_
  refine w_iaload cd_204_1073 h15 h16 h17 ?_
  exact w_invokevirtual cd_204_1074 (show mt_m 18 124 = some (202, 0) by decide +kernel) (rest := []) rfl (as := [.ref l3, .int (g10 i10), .int (g14 i14)]) rfl h19 (Or.inl h20) ⟨Nat.le_of_ble_eq_true rfl, Nat.le_of_ble_eq_true rfl, Nat.le_of_ble_eq_true rfl⟩ h21
theorem b_204_1077 {d : Nat} {Q : (Option Value ⊕ Nat) → mi_H → Prop} (n sl : Nat) (f : Nat → mi_C) {l1 : Nat} {l2 : Nat} {l3 : Nat} {l4 : Nat} {l5 : Int32} {l6 : Int32} {o7 : Option Value} {o8 : Option Value} {s9 : Int64} {fs10 : List Value} (h11 : f l3 = .inr (12, fs10)) (h12 : l3 < n) (h13 : mi_W d 138 0 (mi_en 1 [.ref l3]) [] (n, sl, f) (mi_Kc d 204 1080 [some (.ref l1), some (.ref l2), some (.ref l3), some (.ref l4), some (.int l5), some (.int l6), some (.long s9), none] [] Q)) : mi_W (d + 1) 204 1077 [some (.ref l1), some (.ref l2), some (.ref l3), some (.ref l4), some (.int l5), some (.int l6), o7, o8] [.long s9] (n, sl, f) Q := by
  refine w_lstore (ls' := [some (.ref l1), some (.ref l2), some (.ref l3), some (.ref l4), some (.int l5), some (.int l6), some (.long s9), none]) cd_204_1077 (Nat.le_of_ble_eq_true rfl) rfl ?_
  refine w_aload_n cd_204_1079 rfl ?_
  exact w_invokevirtual cd_204_1080 (show mt_m 18 75 = some (138, 0) by decide +kernel) (rest := []) rfl (as := [.ref l3]) rfl h11 (Or.inl h12) ⟨Nat.le_of_ble_eq_true rfl, Nat.le_of_ble_eq_true rfl, Nat.le_of_ble_eq_true rfl⟩ h13
theorem b_204_1083 {d : Nat} {Q : (Option Value ⊕ Nat) → mi_H → Prop} (n sl : Nat) (f : Nat → mi_C) {l1 : Nat} {l2 : Nat} {l3 : Nat} {l4 : Nat} {l5 : Int32} {l6 : Int32} {l7 : Int64} {s8 : Int32} (h9 : s8 = l6 → mi_W d 204 1090 [some (.ref l1), some (.ref l2), some (.ref l3), some (.ref l4), some (.int l5), some (.int l6), some (.long l7), none] [] (n, sl, f) Q) (h10 : ¬ (s8 = l6) → mi_W d 204 1088 [some (.ref l1), some (.ref l2), some (.ref l3), some (.ref l4), some (.int l5), some (.int l6), some (.long l7), none] [] (n, sl, f) Q) : mi_W d 204 1083 [some (.ref l1), some (.ref l2), some (.ref l3), some (.ref l4), some (.int l5), some (.int l6), some (.long l7), none] [.int s8] (n, sl, f) Q := by
  refine w_iload cd_204_1083 rfl ?_
  exact w_if_icmpeq cd_204_1085 (by decide) h9 h10
theorem b_204_1088 {d : Nat} {Q : (Option Value ⊕ Nat) → mi_H → Prop} (n sl : Nat) (f : Nat → mi_C) {l1 : Nat} {l2 : Nat} {l3 : Nat} {l4 : Nat} {l5 : Int32} {l6 : Int32} {l7 : Int64} (h8 : Q (.inl (some (.int 0))) (n, sl, f)) : mi_W d 204 1088 [some (.ref l1), some (.ref l2), some (.ref l3), some (.ref l4), some (.int l5), some (.int l6), some (.long l7), none] [] (n, sl, f) Q := by
  refine w_iconst (v := 0) cd_204_1088 (by decide) ?_
  exact w_ireturn_z cd_204_1089 (by decide +kernel) (by decide) h8
theorem b_204_1090 {d : Nat} {Q : (Option Value ⊕ Nat) → mi_H → Prop} (n sl : Nat) (f : Nat → mi_C) {l1 : Nat} {l2 : Nat} {l3 : Nat} {l4 : Nat} {l5 : Int32} {l6 : Int32} {l7 : Int64} (h8 : ¬ l6 = (0 : Int32) → mi_W d 204 1106 [some (.ref l1), some (.ref l2), some (.ref l3), some (.ref l4), some (.int l5), some (.int l6), some (.long l7), none] [] (n, sl, f) Q) (h9 : ¬ (¬ l6 = (0 : Int32)) → mi_W d 204 1095 [some (.ref l1), some (.ref l2), some (.ref l3), some (.ref l4), some (.int l5), some (.int l6), some (.long l7), none] [] (n, sl, f) Q) : mi_W d 204 1090 [some (.ref l1), some (.ref l2), some (.ref l3), some (.ref l4), some (.int l5), some (.int l6), some (.long l7), none] [] (n, sl, f) Q := by
  refine w_iload cd_204_1090 rfl ?_
  exact w_ifne cd_204_1092 (by decide) h8 h9
theorem b_204_1095 {d : Nat} {Q : (Option Value ⊕ Nat) → mi_H → Prop} (n sl : Nat) (f : Nat → mi_C) {l1 : Nat} {l2 : Nat} {l3 : Nat} {l4 : Nat} {l5 : Int32} {l6 : Int32} {l7 : Int64} (m8 i8 : Nat) (g8 : Nat → Int64) (h9 : f l4 = .inl (3, m8, .inr (.inl g8))) (h10 : l4 < n) (h11 : mi_ix 0 m8 i8) (h12 : (lg_cmp (g8 i8) l7) = (0 : Int32) → mi_W d 204 1106 [some (.ref l1), some (.ref l2), some (.ref l3), some (.ref l4), some (.int l5), some (.int l6), some (.long l7), none] [] (n, sl, f) Q) (h13 : ¬ ((lg_cmp (g8 i8) l7) = (0 : Int32)) → mi_W d 204 1104 [some (.ref l1), some (.ref l2), some (.ref l3), some (.ref l4), some (.int l5), some (.int l6), some (.long l7), none] [] (n, sl, f) Q) : mi_W d 204 1095 [some (.ref l1), some (.ref l2), some (.ref l3), some (.ref l4), some (.int l5), some (.int l6), some (.long l7), none] [] (n, sl, f) Q := by
  refine w_aload_n cd_204_1095 rfl ?_
  refine w_iconst (v := 0) cd_204_1096 (by decide) ?_
  refine w_laload cd_204_1097 h9 h10 h11 ?_
  refine w_lload cd_204_1098 rfl ?_
  refine w_lcmp cd_204_1100 ?_
  exact w_ifeq cd_204_1101 (by decide) h12 h13
theorem b_204_1104 {d : Nat} {Q : (Option Value ⊕ Nat) → mi_H → Prop} (n sl : Nat) (f : Nat → mi_C) {l1 : Nat} {l2 : Nat} {l3 : Nat} {l4 : Nat} {l5 : Int32} {l6 : Int32} {l7 : Int64} (h8 : Q (.inl (some (.int 0))) (n, sl, f)) : mi_W d 204 1104 [some (.ref l1), some (.ref l2), some (.ref l3), some (.ref l4), some (.int l5), some (.int l6), some (.long l7), none] [] (n, sl, f) Q := by
  refine w_iconst (v := 0) cd_204_1104 (by decide) ?_
  exact w_ireturn_z cd_204_1105 (by decide +kernel) (by decide) h8
theorem b_204_1106 {d : Nat} {Q : (Option Value ⊕ Nat) → mi_H → Prop} (n sl : Nat) (f : Nat → mi_C) {l1 : Nat} {l2 : Nat} {l3 : Nat} {l4 : Nat} {l5 : Int32} {l6 : Int32} {l7 : Int64} (h8 : mi_W d 204 1165 [some (.ref l1), some (.ref l2), some (.ref l3), some (.ref l4), some (.int l5), some (.int l6), some (.long l7), none] [] (n, sl, f) Q) : mi_W d 204 1106 [some (.ref l1), some (.ref l2), some (.ref l3), some (.ref l4), some (.int l5), some (.int l6), some (.long l7), none] [] (n, sl, f) Q := by
  exact w_goto cd_204_1106 (by decide) h8
theorem b_204_1109 {d : Nat} {Q : (Option Value ⊕ Nat) → mi_H → Prop} (n sl : Nat) (f : Nat → mi_C) {l1 : Nat} {l2 : Nat} {l3 : Nat} {l4 : Nat} {l5 : Int32} {o6 : Option Value} {o7 : Option Value} {o8 : Option Value} (m9 i9 : Nat) (g9 : Nat → Int32) (h10 : f l1 = .inl (0, m9, .inl g9)) (h11 : l1 < n ∨ l1 = mi_SC) (h12 : mi_ix (l5 + 1) m9 i9) (h13 : mi_W d 133 0 (mi_en 4 [.ref l2, .int (g9 i9), .ref l4]) [] (n, sl, f) (mi_Kc d 204 1117 [some (.ref l1), some (.ref l2), some (.ref l3), some (.ref l4), some (.int l5), o6, o7, o8] [] Q)) : mi_W (d + 1) 204 1109 [some (.ref l1), some (.ref l2), some (.ref l3), some (.ref l4), some (.int l5), o6, o7, o8] [] (n, sl, f) Q := by
  refine w_aload_n cd_204_1109 rfl ?_
  refine w_aload_n cd_204_1110 rfl ?_
  refine w_iload cd_204_1111 rfl ?_
  refine w_iconst (v := 1) cd_204_1113 (by decide) ?_
  refine w_iadd cd_204_1114 ?_
  refine w_iaload cd_204_1115 h10 h11 h12 ?_
  refine w_aload_n cd_204_1116 rfl ?_
  exact w_invokestatic cd_204_1117 (show mt_m 18 125 = some (133, 4) by decide +kernel) (by decide) (rest := []) rfl (as := [.ref l2, .int (g9 i9), .ref l4]) rfl ⟨Nat.le_of_ble_eq_true rfl, Nat.le_of_ble_eq_true rfl, Nat.le_of_ble_eq_true rfl⟩ h13
theorem b_204_1120 {d : Nat} {Q : (Option Value ⊕ Nat) → mi_H → Prop} (n sl : Nat) (f : Nat → mi_C) {l1 : Nat} {l2 : Nat} {l3 : Nat} {l4 : Nat} {l5 : Int32} {o6 : Option Value} {o7 : Option Value} {o8 : Option Value} {s9 : Int32} (m10 i10 : Nat) (g10 : Nat → Int32) {fs14 : List Value} (h11 : f l1 = .inl (0, m10, .inl g10)) (h12 : l1 < n ∨ l1 = mi_SC) (h13 : mi_ix (l5 + 1) m10 i10) (h15 : f l3 = .inr (12, fs14)) (h16 : l3 < n) (h17 : mi_W d 203 0 (mi_en 2 [.ref l3, .int (g10 i10)]) [] (n, sl, f) (mi_Kc d 204 1129 [some (.ref l1), some (.ref l2), some (.ref l3), some (.ref l4), some (.int l5), some (.int s9), o7, o8] [] Q)) : mi_W (d + 1) 204 1120 [some (.ref l1), some (.ref l2), some (.ref l3), some (.ref l4), some (.int l5), o6, o7, o8] [.int s9] (n, sl, f) Q := by
  refine w_istore (ls' := [some (.ref l1), some (.ref l2), some (.ref l3), some (.ref l4), some (.int l5), some (.int s9), o7, o8]) cd_204_1120 (Nat.le_of_ble_eq_true rfl) rfl ?_
  refine w_aload_n cd_204_1122 rfl ?_
  refine w_aload_n cd_204_1123 rfl ?_
  refine w_iload cd_204_1124 rfl ?_
  refine w_iconst (v := 1) cd_204_1126 (by decide) ?_
  refine w_iadd cd_204_1127 ?_
  refine w_iaload cd_204_1128 h11 h12 h13 ?_
  exact w_invokevirtual cd_204_1129 (show mt_m 18 127 = some (203, 0) by decide +kernel) (rest := []) rfl (as := [.ref l3, .int (g10 i10)]) rfl h15 (Or.inl h16) ⟨Nat.le_of_ble_eq_true rfl, Nat.le_of_ble_eq_true rfl, Nat.le_of_ble_eq_true rfl⟩ h17
theorem b_204_1132 {d : Nat} {Q : (Option Value ⊕ Nat) → mi_H → Prop} (n sl : Nat) (f : Nat → mi_C) {l1 : Nat} {l2 : Nat} {l3 : Nat} {l4 : Nat} {l5 : Int32} {l6 : Int32} {o7 : Option Value} {o8 : Option Value} {s9 : Int32} {fs10 : List Value} (h11 : f l3 = .inr (12, fs10)) (h12 : l3 < n) (h13 : mi_W d 138 0 (mi_en 1 [.ref l3]) [] (n, sl, f) (mi_Kc d 204 1135 [some (.ref l1), some (.ref l2), some (.ref l3), some (.ref l4), some (.int l5), some (.int l6), some (.int s9), o8] [] Q)) : mi_W (d + 1) 204 1132 [some (.ref l1), some (.ref l2), some (.ref l3), some (.ref l4), some (.int l5), some (.int l6), o7, o8] [.int s9] (n, sl, f) Q := by
  refine w_istore (ls' := [some (.ref l1), some (.ref l2), some (.ref l3), some (.ref l4), some (.int l5), some (.int l6), some (.int s9), o8]) cd_204_1132 (Nat.le_of_ble_eq_true rfl) rfl ?_
  refine w_aload_n cd_204_1134 rfl ?_
  exact w_invokevirtual cd_204_1135 (show mt_m 18 75 = some (138, 0) by decide +kernel) (rest := []) rfl (as := [.ref l3]) rfl h11 (Or.inl h12) ⟨Nat.le_of_ble_eq_true rfl, Nat.le_of_ble_eq_true rfl, Nat.le_of_ble_eq_true rfl⟩ h13
theorem b_204_1138 {d : Nat} {Q : (Option Value ⊕ Nat) → mi_H → Prop} (n sl : Nat) (f : Nat → mi_C) {l1 : Nat} {l2 : Nat} {l3 : Nat} {l4 : Nat} {l5 : Int32} {l6 : Int32} {l7 : Int32} {o8 : Option Value} {s9 : Int32} (h10 : s9 = l6 → mi_W d 204 1145 [some (.ref l1), some (.ref l2), some (.ref l3), some (.ref l4), some (.int l5), some (.int l6), some (.int l7), o8] [] (n, sl, f) Q) (h11 : ¬ (s9 = l6) → mi_W d 204 1143 [some (.ref l1), some (.ref l2), some (.ref l3), some (.ref l4), some (.int l5), some (.int l6), some (.int l7), o8] [] (n, sl, f) Q) : mi_W d 204 1138 [some (.ref l1), some (.ref l2), some (.ref l3), some (.ref l4), some (.int l5), some (.int l6), some (.int l7), o8] [.int s9] (n, sl, f) Q := by
  refine w_iload cd_204_1138 rfl ?_
  exact w_if_icmpeq cd_204_1140 (by decide) h10 h11
theorem b_204_1143 {d : Nat} {Q : (Option Value ⊕ Nat) → mi_H → Prop} (n sl : Nat) (f : Nat → mi_C) {l1 : Nat} {l2 : Nat} {l3 : Nat} {l4 : Nat} {l5 : Int32} {l6 : Int32} {l7 : Int32} {o8 : Option Value} (h9 : Q (.inl (some (.int 0))) (n, sl, f)) : mi_W d 204 1143 [some (.ref l1), some (.ref l2), some (.ref l3), some (.ref l4), some (.int l5), some (.int l6), some (.int l7), o8] [] (n, sl, f) Q := by
  refine w_iconst (v := 0) cd_204_1143 (by decide) ?_
  exact w_ireturn_z cd_204_1144 (by decide +kernel) (by decide) h9
theorem b_204_1145 {d : Nat} {Q : (Option Value ⊕ Nat) → mi_H → Prop} (n sl : Nat) (f : Nat → mi_C) {l1 : Nat} {l2 : Nat} {l3 : Nat} {l4 : Nat} {l5 : Int32} {l6 : Int32} {l7 : Int32} {o8 : Option Value} (h9 : ¬ l6 = (0 : Int32) → mi_W d 204 1162 [some (.ref l1), some (.ref l2), some (.ref l3), some (.ref l4), some (.int l5), some (.int l6), some (.int l7), o8] [] (n, sl, f) Q) (h10 : ¬ (¬ l6 = (0 : Int32)) → mi_W d 204 1150 [some (.ref l1), some (.ref l2), some (.ref l3), some (.ref l4), some (.int l5), some (.int l6), some (.int l7), o8] [] (n, sl, f) Q) : mi_W d 204 1145 [some (.ref l1), some (.ref l2), some (.ref l3), some (.ref l4), some (.int l5), some (.int l6), some (.int l7), o8] [] (n, sl, f) Q := by
  refine w_iload cd_204_1145 rfl ?_
  exact w_ifne cd_204_1147 (by decide) h9 h10
theorem b_204_1150 {d : Nat} {Q : (Option Value ⊕ Nat) → mi_H → Prop} (n sl : Nat) (f : Nat → mi_C) {l1 : Nat} {l2 : Nat} {l3 : Nat} {l4 : Nat} {l5 : Int32} {l6 : Int32} {l7 : Int32} {o8 : Option Value} (m9 i9 : Nat) (g9 : Nat → Int64) (h10 : f l4 = .inl (3, m9, .inr (.inl g9))) (h11 : l4 < n) (h12 : mi_ix 0 m9 i9) (h13 : (lg_cmp (g9 i9) ((l7 : Int32).toInt64)) = (0 : Int32) → mi_W d 204 1162 [some (.ref l1), some (.ref l2), some (.ref l3), some (.ref l4), some (.int l5), some (.int l6), some (.int l7), o8] [] (n, sl, f) Q) (h14 : ¬ ((lg_cmp (g9 i9) ((l7 : Int32).toInt64)) = (0 : Int32)) → mi_W d 204 1160 [some (.ref l1), some (.ref l2), some (.ref l3), some (.ref l4), some (.int l5), some (.int l6), some (.int l7), o8] [] (n, sl, f) Q) : mi_W d 204 1150 [some (.ref l1), some (.ref l2), some (.ref l3), some (.ref l4), some (.int l5), some (.int l6), some (.int l7), o8] [] (n, sl, f) Q := by
  refine w_aload_n cd_204_1150 rfl ?_
  refine w_iconst (v := 0) cd_204_1151 (by decide) ?_
  refine w_laload cd_204_1152 h10 h11 h12 ?_
  refine w_iload cd_204_1153 rfl ?_
  refine w_i2l cd_204_1155 ?_
  refine w_lcmp cd_204_1156 ?_
  exact w_ifeq cd_204_1157 (by decide) h13 h14
theorem b_204_1160 {d : Nat} {Q : (Option Value ⊕ Nat) → mi_H → Prop} (n sl : Nat) (f : Nat → mi_C) {l1 : Nat} {l2 : Nat} {l3 : Nat} {l4 : Nat} {l5 : Int32} {l6 : Int32} {l7 : Int32} {o8 : Option Value} (h9 : Q (.inl (some (.int 0))) (n, sl, f)) : mi_W d 204 1160 [some (.ref l1), some (.ref l2), some (.ref l3), some (.ref l4), some (.int l5), some (.int l6), some (.int l7), o8] [] (n, sl, f) Q := by
  refine w_iconst (v := 0) cd_204_1160 (by decide) ?_
  exact w_ireturn_z cd_204_1161 (by decide +kernel) (by decide) h9
theorem b_204_1162 {d : Nat} {Q : (Option Value ⊕ Nat) → mi_H → Prop} (n sl : Nat) (f : Nat → mi_C) {l1 : Nat} {l2 : Nat} {l3 : Nat} {l4 : Nat} {l5 : Int32} {l6 : Int32} {l7 : Int32} {o8 : Option Value} (h9 : mi_W d 204 1165 [some (.ref l1), some (.ref l2), some (.ref l3), some (.ref l4), some (.int l5), some (.int l6), some (.int l7), o8] [] (n, sl, f) Q) : mi_W d 204 1162 [some (.ref l1), some (.ref l2), some (.ref l3), some (.ref l4), some (.int l5), some (.int l6), some (.int l7), o8] [] (n, sl, f) Q := by
  exact w_goto cd_204_1162 (by decide) h9
theorem b_204_1165 {d : Nat} {Q : (Option Value ⊕ Nat) → mi_H → Prop} (n sl : Nat) (f : Nat → mi_C) {l1 : Nat} {l2 : Nat} {l3 : Nat} {l4 : Nat} {l5 : Int32} {o6 : Option Value} {o7 : Option Value} {o8 : Option Value} (h9 : mi_W d 204 23 [some (.ref l1), some (.ref l2), some (.ref l3), some (.ref l4), some (.int (l5 + 6)), o6, o7, o8] [] (n, sl, f) Q) : mi_W d 204 1165 [some (.ref l1), some (.ref l2), some (.ref l3), some (.ref l4), some (.int l5), o6, o7, o8] [] (n, sl, f) Q := by
  refine w_iinc (v := 6) (ls' := [some (.ref l1), some (.ref l2), some (.ref l3), some (.ref l4), some (.int (l5 + 6)), o6, o7, o8]) cd_204_1165 rfl (by decide) rfl ?_
  exact w_goto cd_204_1168 (by decide) h9
theorem b_204_1171 {d : Nat} {Q : (Option Value ⊕ Nat) → mi_H → Prop} (n sl : Nat) (f : Nat → mi_C) {l1 : Nat} {l2 : Nat} {l3 : Nat} {l4 : Nat} {l5 : Int32} {o6 : Option Value} {o7 : Option Value} {o8 : Option Value} (h9 : Q (.inl (some (.int 1))) (n, sl, f)) : mi_W d 204 1171 [some (.ref l1), some (.ref l2), some (.ref l3), some (.ref l4), some (.int l5), o6, o7, o8] [] (n, sl, f) Q := by
  refine w_iconst (v := 1) cd_204_1171 (by decide) ?_
  exact w_ireturn_z cd_204_1172 (by decide +kernel) (by decide) h9
end
