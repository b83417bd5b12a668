section
/-! MarloweHostModel.choiceOf()I -/
set_option maxRecDepth 100000 in
theorem mq_164 : mt_q 164 = my_164 := rfl
set_option maxRecDepth 100000 in
theorem ci_164 : mt_inc 0 my_164.cd = true := by decide +kernel
theorem cd_164_0 : mt_cd 164 0 = some (.aload_n 0) := mt_cd_of (q := (0, .aload_n 0, 1)) mq_164 ci_164 (List.mem_append_left _ (show _ ∈ my_164_0 from List.mem_of_getElem? (i := 0) rfl))
theorem cd_164_1 : mt_cd 164 1 = some (.getfield 310) := mt_cd_of (q := (1, .getfield 310, 3)) mq_164 ci_164 (List.mem_append_left _ (show _ ∈ my_164_0 from List.mem_of_getElem? (i := 1) rfl))
theorem cd_164_4 : mt_cd 164 4 = some (.iconst 1) := mt_cd_of (q := (4, .iconst 1, 1)) mq_164 ci_164 (List.mem_append_left _ (show _ ∈ my_164_0 from List.mem_of_getElem? (i := 2) rfl))
theorem cd_164_5 : mt_cd 164 5 = some (.if_icmp .eq 14) := mt_cd_of (q := (5, .if_icmp .eq 14, 3)) mq_164 ci_164 (List.mem_append_left _ (show _ ∈ my_164_0 from List.mem_of_getElem? (i := 3) rfl))
theorem cd_164_8 : mt_cd 164 8 = some (.aload_n 0) := mt_cd_of (q := (8, .aload_n 0, 1)) mq_164 ci_164 (List.mem_append_left _ (show _ ∈ my_164_0 from List.mem_of_getElem? (i := 4) rfl))
theorem cd_164_9 : mt_cd 164 9 = some (.aload_n 0) := mt_cd_of (q := (9, .aload_n 0, 1)) mq_164 ci_164 (List.mem_append_left _ (show _ ∈ my_164_0 from List.mem_of_getElem? (i := 5) rfl))
theorem cd_164_10 : mt_cd 164 10 = some (.getfield 299) := mt_cd_of (q := (10, .getfield 299, 3)) mq_164 ci_164 (List.mem_append_left _ (show _ ∈ my_164_0 from List.mem_of_getElem? (i := 6) rfl))
theorem cd_164_13 : mt_cd 164 13 = some (.invokevirtual 272) := mt_cd_of (q := (13, .invokevirtual 272, 3)) mq_164 ci_164 (List.mem_append_left _ (show _ ∈ my_164_0 from List.mem_of_getElem? (i := 7) rfl))
theorem cd_164_16 : mt_cd 164 16 = some (.pop) := mt_cd_of (q := (16, .pop, 1)) mq_164 ci_164 (List.mem_append_left _ (show _ ∈ my_164_0 from List.mem_of_getElem? (i := 8) rfl))
theorem cd_164_17 : mt_cd 164 17 = some (.iconst (-1)) := mt_cd_of (q := (17, .iconst (-1), 1)) mq_164 ci_164 (List.mem_append_left _ (show _ ∈ my_164_0 from List.mem_of_getElem? (i := 9) rfl))
theorem cd_164_18 : mt_cd 164 18 = some (.ireturn) := mt_cd_of (q := (18, .ireturn, 1)) mq_164 ci_164 (List.mem_append_left _ (show _ ∈ my_164_0 from List.mem_of_getElem? (i := 10) rfl))
theorem cd_164_19 : mt_cd 164 19 = some (.aload_n 0) := mt_cd_of (q := (19, .aload_n 0, 1)) mq_164 ci_164 (List.mem_append_left _ (show _ ∈ my_164_0 from List.mem_of_getElem? (i := 11) rfl))
theorem cd_164_20 : mt_cd 164 20 = some (.getfield 299) := mt_cd_of (q := (20, .getfield 299, 3)) mq_164 ci_164 (List.mem_append_left _ (show _ ∈ my_164_0 from List.mem_of_getElem? (i := 12) rfl))
theorem cd_164_23 : mt_cd 164 23 = some (.istore_n 1) := mt_cd_of (q := (23, .istore_n 1, 1)) mq_164 ci_164 (List.mem_append_left _ (show _ ∈ my_164_0 from List.mem_of_getElem? (i := 13) rfl))
theorem cd_164_24 : mt_cd 164 24 = some (.aload_n 0) := mt_cd_of (q := (24, .aload_n 0, 1)) mq_164 ci_164 (List.mem_append_left _ (show _ ∈ my_164_0 from List.mem_of_getElem? (i := 14) rfl))
theorem cd_164_25 : mt_cd 164 25 = some (.getfield 297) := mt_cd_of (q := (25, .getfield 297, 3)) mq_164 ci_164 (List.mem_append_left _ (show _ ∈ my_164_0 from List.mem_of_getElem? (i := 15) rfl))
theorem cd_164_28 : mt_cd 164 28 = some (.aload_n 0) := mt_cd_of (q := (28, .aload_n 0, 1)) mq_164 ci_164 (List.mem_append_left _ (show _ ∈ my_164_0 from List.mem_of_getElem? (i := 16) rfl))
theorem cd_164_29 : mt_cd 164 29 = some (.getfield 299) := mt_cd_of (q := (29, .getfield 299, 3)) mq_164 ci_164 (List.mem_append_left _ (show _ ∈ my_164_0 from List.mem_of_getElem? (i := 17) rfl))
theorem cd_164_32 : mt_cd 164 32 = some (.isub) := mt_cd_of (q := (32, .isub, 1)) mq_164 ci_164 (List.mem_append_left _ (show _ ∈ my_164_0 from List.mem_of_getElem? (i := 18) rfl))
theorem cd_164_33 : mt_cd 164 33 = some (.istore_n 2) := mt_cd_of (q := (33, .istore_n 2, 1)) mq_164 ci_164 (List.mem_append_left _ (show _ ∈ my_164_0 from List.mem_of_getElem? (i := 19) rfl))
theorem cd_164_34 : mt_cd 164 34 = some (.aload_n 0) := mt_cd_of (q := (34, .aload_n 0, 1)) mq_164 ci_164 (List.mem_append_left _ (show _ ∈ my_164_0 from List.mem_of_getElem? (i := 20) rfl))
theorem cd_164_35 : mt_cd 164 35 = some (.invokevirtual 333) := mt_cd_of (q := (35, .invokevirtual 333, 3)) mq_164 ci_164 (List.mem_append_left _ (show _ ∈ my_164_0 from List.mem_of_getElem? (i := 21) rfl))
theorem cd_164_38 : mt_cd 164 38 = some (.ifCond .ne 5) := mt_cd_of (q := (38, .ifCond .ne 5, 3)) mq_164 ci_164 (List.mem_append_left _ (show _ ∈ my_164_0 from List.mem_of_getElem? (i := 22) rfl))
theorem cd_164_41 : mt_cd 164 41 = some (.iconst (-1)) := mt_cd_of (q := (41, .iconst (-1), 1)) mq_164 ci_164 (List.mem_append_left _ (show _ ∈ my_164_0 from List.mem_of_getElem? (i := 23) rfl))
theorem cd_164_42 : mt_cd 164 42 = some (.ireturn) := mt_cd_of (q := (42, .ireturn, 1)) mq_164 ci_164 (List.mem_append_left _ (show _ ∈ my_164_0 from List.mem_of_getElem? (i := 24) rfl))
theorem cd_164_43 : mt_cd 164 43 = some (.aload_n 0) := mt_cd_of (q := (43, .aload_n 0, 1)) mq_164 ci_164 (List.mem_append_left _ (show _ ∈ my_164_0 from List.mem_of_getElem? (i := 25) rfl))
theorem cd_164_44 : mt_cd 164 44 = some (.getfield 310) := mt_cd_of (q := (44, .getfield 310, 3)) mq_164 ci_164 (List.mem_append_left _ (show _ ∈ my_164_0 from List.mem_of_getElem? (i := 26) rfl))
theorem cd_164_47 : mt_cd 164 47 = some (.iconst 1) := mt_cd_of (q := (47, .iconst 1, 1)) mq_164 ci_164 (List.mem_append_left _ (show _ ∈ my_164_0 from List.mem_of_getElem? (i := 27) rfl))
theorem cd_164_48 : mt_cd 164 48 = some (.if_icmp .eq 14) := mt_cd_of (q := (48, .if_icmp .eq 14, 3)) mq_164 ci_164 (List.mem_append_left _ (show _ ∈ my_164_0 from List.mem_of_getElem? (i := 28) rfl))
theorem cd_164_51 : mt_cd 164 51 = some (.aload_n 0) := mt_cd_of (q := (51, .aload_n 0, 1)) mq_164 ci_164 (List.mem_append_left _ (show _ ∈ my_164_0 from List.mem_of_getElem? (i := 29) rfl))
theorem cd_164_52 : mt_cd 164 52 = some (.aload_n 0) := mt_cd_of (q := (52, .aload_n 0, 1)) mq_164 ci_164 (List.mem_append_left _ (show _ ∈ my_164_0 from List.mem_of_getElem? (i := 30) rfl))
theorem cd_164_53 : mt_cd 164 53 = some (.getfield 299) := mt_cd_of (q := (53, .getfield 299, 3)) mq_164 ci_164 (List.mem_append_left _ (show _ ∈ my_164_0 from List.mem_of_getElem? (i := 31) rfl))
theorem cd_164_56 : mt_cd 164 56 = some (.invokevirtual 272) := mt_cd_of (q := (56, .invokevirtual 272, 3)) mq_164 ci_164 (List.mem_append_left _ (show _ ∈ my_164_0 from List.mem_of_getElem? (i := 32) rfl))
theorem cd_164_59 : mt_cd 164 59 = some (.pop) := mt_cd_of (q := (59, .pop, 1)) mq_164 ci_164 (List.mem_append_left _ (show _ ∈ my_164_0 from List.mem_of_getElem? (i := 33) rfl))
theorem cd_164_60 : mt_cd 164 60 = some (.iconst (-1)) := mt_cd_of (q := (60, .iconst (-1), 1)) mq_164 ci_164 (List.mem_append_left _ (show _ ∈ my_164_0 from List.mem_of_getElem? (i := 34) rfl))
theorem cd_164_61 : mt_cd 164 61 = some (.ireturn) := mt_cd_of (q := (61, .ireturn, 1)) mq_164 ci_164 (List.mem_append_left _ (show _ ∈ my_164_0 from List.mem_of_getElem? (i := 35) rfl))
theorem cd_164_62 : mt_cd 164 62 = some (.iconst 0) := mt_cd_of (q := (62, .iconst 0, 1)) mq_164 ci_164 (List.mem_append_left _ (show _ ∈ my_164_0 from List.mem_of_getElem? (i := 36) rfl))
theorem cd_164_63 : mt_cd 164 63 = some (.istore_n 3) := mt_cd_of (q := (63, .istore_n 3, 1)) mq_164 ci_164 (List.mem_append_left _ (show _ ∈ my_164_0 from List.mem_of_getElem? (i := 37) rfl))
theorem cd_164_64 : mt_cd 164 64 = some (.iload_n 3) := mt_cd_of (q := (64, .iload_n 3, 1)) mq_164 ci_164 (List.mem_append_left _ (show _ ∈ my_164_0 from List.mem_of_getElem? (i := 38) rfl))
theorem cd_164_65 : mt_cd 164 65 = some (.aload_n 0) := mt_cd_of (q := (65, .aload_n 0, 1)) mq_164 ci_164 (List.mem_append_left _ (show _ ∈ my_164_0 from List.mem_of_getElem? (i := 39) rfl))
theorem cd_164_66 : mt_cd 164 66 = some (.getfield 343) := mt_cd_of (q := (66, .getfield 343, 3)) mq_164 ci_164 (List.mem_append_left _ (show _ ∈ my_164_0 from List.mem_of_getElem? (i := 40) rfl))
theorem cd_164_69 : mt_cd 164 69 = some (.if_icmp .ge 28) := mt_cd_of (q := (69, .if_icmp .ge 28, 3)) mq_164 ci_164 (List.mem_append_left _ (show _ ∈ my_164_0 from List.mem_of_getElem? (i := 41) rfl))
theorem cd_164_72 : mt_cd 164 72 = some (.aload_n 0) := mt_cd_of (q := (72, .aload_n 0, 1)) mq_164 ci_164 (List.mem_append_left _ (show _ ∈ my_164_0 from List.mem_of_getElem? (i := 42) rfl))
theorem cd_164_73 : mt_cd 164 73 = some (.aload_n 0) := mt_cd_of (q := (73, .aload_n 0, 1)) mq_164 ci_164 (List.mem_append_left _ (show _ ∈ my_164_0 from List.mem_of_getElem? (i := 43) rfl))
theorem cd_164_74 : mt_cd 164 74 = some (.getfield 111) := mt_cd_of (q := (74, .getfield 111, 3)) mq_164 ci_164 (List.mem_append_left _ (show _ ∈ my_164_0 from List.mem_of_getElem? (i := 44) rfl))
theorem cd_164_77 : mt_cd 164 77 = some (.iload_n 3) := mt_cd_of (q := (77, .iload_n 3, 1)) mq_164 ci_164 (List.mem_append_left _ (show _ ∈ my_164_0 from List.mem_of_getElem? (i := 45) rfl))
theorem cd_164_78 : mt_cd 164 78 = some (.iaload) := mt_cd_of (q := (78, .iaload, 1)) mq_164 ci_164 (List.mem_append_left _ (show _ ∈ my_164_0 from List.mem_of_getElem? (i := 46) rfl))
theorem cd_164_79 : mt_cd 164 79 = some (.aload_n 0) := mt_cd_of (q := (79, .aload_n 0, 1)) mq_164 ci_164 (List.mem_append_left _ (show _ ∈ my_164_0 from List.mem_of_getElem? (i := 47) rfl))
theorem cd_164_80 : mt_cd 164 80 = some (.getfield 114) := mt_cd_of (q := (80, .getfield 114, 3)) mq_164 ci_164 (List.mem_append_left _ (show _ ∈ my_164_0 from List.mem_of_getElem? (i := 48) rfl))
theorem cd_164_83 : mt_cd 164 83 = some (.iload_n 3) := mt_cd_of (q := (83, .iload_n 3, 1)) mq_164 ci_164 (List.mem_append_left _ (show _ ∈ my_164_0 from List.mem_of_getElem? (i := 49) rfl))
theorem cd_164_84 : mt_cd 164 84 = some (.iaload) := mt_cd_of (q := (84, .iaload, 1)) mq_164 ci_164 (List.mem_append_left _ (show _ ∈ my_164_0 from List.mem_of_getElem? (i := 50) rfl))
theorem cd_164_85 : mt_cd 164 85 = some (.invokevirtual 358) := mt_cd_of (q := (85, .invokevirtual 358, 3)) mq_164 ci_164 (List.mem_append_left _ (show _ ∈ my_164_0 from List.mem_of_getElem? (i := 51) rfl))
theorem cd_164_88 : mt_cd 164 88 = some (.ifCond .ne 9) := mt_cd_of (q := (88, .ifCond .ne 9, 3)) mq_164 ci_164 (List.mem_append_left _ (show _ ∈ my_164_0 from List.mem_of_getElem? (i := 52) rfl))
theorem cd_164_91 : mt_cd 164 91 = some (.iinc 3 1) := mt_cd_of (q := (91, .iinc 3 1, 3)) mq_164 ci_164 (List.mem_append_left _ (show _ ∈ my_164_0 from List.mem_of_getElem? (i := 53) rfl))
theorem cd_164_94 : mt_cd 164 94 = some (.goto (-30)) := mt_cd_of (q := (94, .goto (-30), 3)) mq_164 ci_164 (List.mem_append_left _ (show _ ∈ my_164_0 from List.mem_of_getElem? (i := 54) rfl))
theorem cd_164_97 : mt_cd 164 97 = some (.iconst 0) := mt_cd_of (q := (97, .iconst 0, 1)) mq_164 ci_164 (List.mem_append_left _ (show _ ∈ my_164_0 from List.mem_of_getElem? (i := 55) rfl))
theorem cd_164_98 : mt_cd 164 98 = some (.istore 4) := mt_cd_of (q := (98, .istore 4, 2)) mq_164 ci_164 (List.mem_append_left _ (show _ ∈ my_164_0 from List.mem_of_getElem? (i := 56) rfl))
theorem cd_164_100 : mt_cd 164 100 = some (.iload 4) := mt_cd_of (q := (100, .iload 4, 2)) mq_164 ci_164 (List.mem_append_left _ (show _ ∈ my_164_0 from List.mem_of_getElem? (i := 57) rfl))
theorem cd_164_102 : mt_cd 164 102 = some (.aload_n 0) := mt_cd_of (q := (102, .aload_n 0, 1)) mq_164 ci_164 (List.mem_append_left _ (show _ ∈ my_164_0 from List.mem_of_getElem? (i := 58) rfl))
theorem cd_164_103 : mt_cd 164 103 = some (.getfield 349) := mt_cd_of (q := (103, .getfield 349, 3)) mq_164 ci_164 (List.mem_append_left _ (show _ ∈ my_164_0 from List.mem_of_getElem? (i := 59) rfl))
theorem cd_164_106 : mt_cd 164 106 = some (.if_icmp .ge 43) := mt_cd_of (q := (106, .if_icmp .ge 43, 3)) mq_164 ci_164 (List.mem_append_right _ (List.mem_append_left _ (show _ ∈ my_164_1 from List.mem_of_getElem? (i := 0) rfl)))
theorem cd_164_109 : mt_cd 164 109 = some (.aload_n 0) := mt_cd_of (q := (109, .aload_n 0, 1)) mq_164 ci_164 (List.mem_append_right _ (List.mem_append_left _ (show _ ∈ my_164_1 from List.mem_of_getElem? (i := 1) rfl)))
theorem cd_164_110 : mt_cd 164 110 = some (.getfield 135) := mt_cd_of (q := (110, .getfield 135, 3)) mq_164 ci_164 (List.mem_append_right _ (List.mem_append_left _ (show _ ∈ my_164_1 from List.mem_of_getElem? (i := 2) rfl)))
theorem cd_164_113 : mt_cd 164 113 = some (.iload 4) := mt_cd_of (q := (113, .iload 4, 2)) mq_164 ci_164 (List.mem_append_right _ (List.mem_append_left _ (show _ ∈ my_164_1 from List.mem_of_getElem? (i := 3) rfl)))
theorem cd_164_115 : mt_cd 164 115 = some (.iaload) := mt_cd_of (q := (115, .iaload, 1)) mq_164 ci_164 (List.mem_append_right _ (List.mem_append_left _ (show _ ∈ my_164_1 from List.mem_of_getElem? (i := 4) rfl)))
theorem cd_164_116 : mt_cd 164 116 = some (.iload_n 3) := mt_cd_of (q := (116, .iload_n 3, 1)) mq_164 ci_164 (List.mem_append_right _ (List.mem_append_left _ (show _ ∈ my_164_1 from List.mem_of_getElem? (i := 5) rfl)))
theorem cd_164_117 : mt_cd 164 117 = some (.if_icmp .ne 26) := mt_cd_of (q := (117, .if_icmp .ne 26, 3)) mq_164 ci_164 (List.mem_append_right _ (List.mem_append_left _ (show _ ∈ my_164_1 from List.mem_of_getElem? (i := 6) rfl)))
theorem cd_164_120 : mt_cd 164 120 = some (.aload_n 0) := mt_cd_of (q := (120, .aload_n 0, 1)) mq_164 ci_164 (List.mem_append_right _ (List.mem_append_left _ (show _ ∈ my_164_1 from List.mem_of_getElem? (i := 7) rfl)))
theorem cd_164_121 : mt_cd 164 121 = some (.aload_n 0) := mt_cd_of (q := (121, .aload_n 0, 1)) mq_164 ci_164 (List.mem_append_right _ (List.mem_append_left _ (show _ ∈ my_164_1 from List.mem_of_getElem? (i := 8) rfl)))
theorem cd_164_122 : mt_cd 164 122 = some (.getfield 129) := mt_cd_of (q := (122, .getfield 129, 3)) mq_164 ci_164 (List.mem_append_right _ (List.mem_append_left _ (show _ ∈ my_164_1 from List.mem_of_getElem? (i := 9) rfl)))
theorem cd_164_125 : mt_cd 164 125 = some (.iload 4) := mt_cd_of (q := (125, .iload 4, 2)) mq_164 ci_164 (List.mem_append_right _ (List.mem_append_left _ (show _ ∈ my_164_1 from List.mem_of_getElem? (i := 10) rfl)))
theorem cd_164_127 : mt_cd 164 127 = some (.iaload) := mt_cd_of (q := (127, .iaload, 1)) mq_164 ci_164 (List.mem_append_right _ (List.mem_append_left _ (show _ ∈ my_164_1 from List.mem_of_getElem? (i := 11) rfl)))
theorem cd_164_128 : mt_cd 164 128 = some (.aload_n 0) := mt_cd_of (q := (128, .aload_n 0, 1)) mq_164 ci_164 (List.mem_append_right _ (List.mem_append_left _ (show _ ∈ my_164_1 from List.mem_of_getElem? (i := 12) rfl)))
theorem cd_164_129 : mt_cd 164 129 = some (.getfield 132) := mt_cd_of (q := (129, .getfield 132, 3)) mq_164 ci_164 (List.mem_append_right _ (List.mem_append_left _ (show _ ∈ my_164_1 from List.mem_of_getElem? (i := 13) rfl)))
theorem cd_164_132 : mt_cd 164 132 = some (.iload 4) := mt_cd_of (q := (132, .iload 4, 2)) mq_164 ci_164 (List.mem_append_right _ (List.mem_append_left _ (show _ ∈ my_164_1 from List.mem_of_getElem? (i := 14) rfl)))
theorem cd_164_134 : mt_cd 164 134 = some (.iaload) := mt_cd_of (q := (134, .iaload, 1)) mq_164 ci_164 (List.mem_append_right _ (List.mem_append_left _ (show _ ∈ my_164_1 from List.mem_of_getElem? (i := 15) rfl)))
theorem cd_164_135 : mt_cd 164 135 = some (.iload_n 1) := mt_cd_of (q := (135, .iload_n 1, 1)) mq_164 ci_164 (List.mem_append_right _ (List.mem_append_left _ (show _ ∈ my_164_1 from List.mem_of_getElem? (i := 16) rfl)))
theorem cd_164_136 : mt_cd 164 136 = some (.iload_n 2) := mt_cd_of (q := (136, .iload_n 2, 1)) mq_164 ci_164 (List.mem_append_right _ (List.mem_append_left _ (show _ ∈ my_164_1 from List.mem_of_getElem? (i := 17) rfl)))
theorem cd_164_137 : mt_cd 164 137 = some (.invokevirtual 366) := mt_cd_of (q := (137, .invokevirtual 366, 3)) mq_164 ci_164 (List.mem_append_right _ (List.mem_append_left _ (show _ ∈ my_164_1 from List.mem_of_getElem? (i := 18) rfl)))
theorem cd_164_140 : mt_cd 164 140 = some (.ifCond .ne 9) := mt_cd_of (q := (140, .ifCond .ne 9, 3)) mq_164 ci_164 (List.mem_append_right _ (List.mem_append_left _ (show _ ∈ my_164_1 from List.mem_of_getElem? (i := 19) rfl)))
theorem cd_164_143 : mt_cd 164 143 = some (.iinc 4 1) := mt_cd_of (q := (143, .iinc 4 1, 3)) mq_164 ci_164 (List.mem_append_right _ (List.mem_append_left _ (show _ ∈ my_164_1 from List.mem_of_getElem? (i := 20) rfl)))
theorem cd_164_146 : mt_cd 164 146 = some (.goto (-46)) := mt_cd_of (q := (146, .goto (-46), 3)) mq_164 ci_164 (List.mem_append_right _ (List.mem_append_left _ (show _ ∈ my_164_1 from List.mem_of_getElem? (i := 21) rfl)))
theorem cd_164_149 : mt_cd 164 149 = some (.iload 4) := mt_cd_of (q := (149, .iload 4, 2)) mq_164 ci_164 (List.mem_append_right _ (List.mem_append_left _ (show _ ∈ my_164_1 from List.mem_of_getElem? (i := 22) rfl)))
theorem cd_164_151 : mt_cd 164 151 = some (.bipush 8) := mt_cd_of (q := (151, .bipush 8, 2)) mq_164 ci_164 (List.mem_append_right _ (List.mem_append_left _ (show _ ∈ my_164_1 from List.mem_of_getElem? (i := 23) rfl)))
theorem cd_164_153 : mt_cd 164 153 = some (.if_icmp .ne 11) := mt_cd_of (q := (153, .if_icmp .ne 11, 3)) mq_164 ci_164 (List.mem_append_right _ (List.mem_append_left _ (show _ ∈ my_164_1 from List.mem_of_getElem? (i := 24) rfl)))
theorem cd_164_156 : mt_cd 164 156 = some (.aload_n 0) := mt_cd_of (q := (156, .aload_n 0, 1)) mq_164 ci_164 (List.mem_append_right _ (List.mem_append_left _ (show _ ∈ my_164_1 from List.mem_of_getElem? (i := 25) rfl)))
theorem cd_164_157 : mt_cd 164 157 = some (.iload_n 1) := mt_cd_of (q := (157, .iload_n 1, 1)) mq_164 ci_164 (List.mem_append_right _ (List.mem_append_left _ (show _ ∈ my_164_1 from List.mem_of_getElem? (i := 26) rfl)))
theorem cd_164_158 : mt_cd 164 158 = some (.invokevirtual 272) := mt_cd_of (q := (158, .invokevirtual 272, 3)) mq_164 ci_164 (List.mem_append_right _ (List.mem_append_left _ (show _ ∈ my_164_1 from List.mem_of_getElem? (i := 27) rfl)))
theorem cd_164_161 : mt_cd 164 161 = some (.pop) := mt_cd_of (q := (161, .pop, 1)) mq_164 ci_164 (List.mem_append_right _ (List.mem_append_left _ (show _ ∈ my_164_1 from List.mem_of_getElem? (i := 28) rfl)))
theorem cd_164_162 : mt_cd 164 162 = some (.iconst (-1)) := mt_cd_of (q := (162, .iconst (-1), 1)) mq_164 ci_164 (List.mem_append_right _ (List.mem_append_left _ (show _ ∈ my_164_1 from List.mem_of_getElem? (i := 29) rfl)))
theorem cd_164_163 : mt_cd 164 163 = some (.ireturn) := mt_cd_of (q := (163, .ireturn, 1)) mq_164 ci_164 (List.mem_append_right _ (List.mem_append_left _ (show _ ∈ my_164_1 from List.mem_of_getElem? (i := 30) rfl)))
theorem cd_164_164 : mt_cd 164 164 = some (.aload_n 0) := mt_cd_of (q := (164, .aload_n 0, 1)) mq_164 ci_164 (List.mem_append_right _ (List.mem_append_left _ (show _ ∈ my_164_1 from List.mem_of_getElem? (i := 31) rfl)))
theorem cd_164_165 : mt_cd 164 165 = some (.invokevirtual 370) := mt_cd_of (q := (165, .invokevirtual 370, 3)) mq_164 ci_164 (List.mem_append_right _ (List.mem_append_left _ (show _ ∈ my_164_1 from List.mem_of_getElem? (i := 32) rfl)))
theorem cd_164_168 : mt_cd 164 168 = some (.ifCond .ge 5) := mt_cd_of (q := (168, .ifCond .ge 5, 3)) mq_164 ci_164 (List.mem_append_right _ (List.mem_append_left _ (show _ ∈ my_164_1 from List.mem_of_getElem? (i := 33) rfl)))
theorem cd_164_171 : mt_cd 164 171 = some (.iconst (-1)) := mt_cd_of (q := (171, .iconst (-1), 1)) mq_164 ci_164 (List.mem_append_right _ (List.mem_append_left _ (show _ ∈ my_164_1 from List.mem_of_getElem? (i := 34) rfl)))
theorem cd_164_172 : mt_cd 164 172 = some (.ireturn) := mt_cd_of (q := (172, .ireturn, 1)) mq_164 ci_164 (List.mem_append_right _ (List.mem_append_left _ (show _ ∈ my_164_1 from List.mem_of_getElem? (i := 35) rfl)))
theorem cd_164_173 : mt_cd 164 173 = some (.iload 4) := mt_cd_of (q := (173, .iload 4, 2)) mq_164 ci_164 (List.mem_append_right _ (List.mem_append_left _ (show _ ∈ my_164_1 from List.mem_of_getElem? (i := 36) rfl)))
theorem cd_164_175 : mt_cd 164 175 = some (.aload_n 0) := mt_cd_of (q := (175, .aload_n 0, 1)) mq_164 ci_164 (List.mem_append_right _ (List.mem_append_left _ (show _ ∈ my_164_1 from List.mem_of_getElem? (i := 37) rfl)))
theorem cd_164_176 : mt_cd 164 176 = some (.getfield 349) := mt_cd_of (q := (176, .getfield 349, 3)) mq_164 ci_164 (List.mem_append_right _ (List.mem_append_left _ (show _ ∈ my_164_1 from List.mem_of_getElem? (i := 38) rfl)))
theorem cd_164_179 : mt_cd 164 179 = some (.if_icmp .ne 37) := mt_cd_of (q := (179, .if_icmp .ne 37, 3)) mq_164 ci_164 (List.mem_append_right _ (List.mem_append_left _ (show _ ∈ my_164_1 from List.mem_of_getElem? (i := 39) rfl)))
theorem cd_164_182 : mt_cd 164 182 = some (.aload_n 0) := mt_cd_of (q := (182, .aload_n 0, 1)) mq_164 ci_164 (List.mem_append_right _ (List.mem_append_left _ (show _ ∈ my_164_1 from List.mem_of_getElem? (i := 40) rfl)))
theorem cd_164_183 : mt_cd 164 183 = some (.getfield 129) := mt_cd_of (q := (183, .getfield 129, 3)) mq_164 ci_164 (List.mem_append_right _ (List.mem_append_left _ (show _ ∈ my_164_1 from List.mem_of_getElem? (i := 41) rfl)))
theorem cd_164_186 : mt_cd 164 186 = some (.iload 4) := mt_cd_of (q := (186, .iload 4, 2)) mq_164 ci_164 (List.mem_append_right _ (List.mem_append_left _ (show _ ∈ my_164_1 from List.mem_of_getElem? (i := 42) rfl)))
theorem cd_164_188 : mt_cd 164 188 = some (.iload_n 1) := mt_cd_of (q := (188, .iload_n 1, 1)) mq_164 ci_164 (List.mem_append_right _ (List.mem_append_left _ (show _ ∈ my_164_1 from List.mem_of_getElem? (i := 43) rfl)))
theorem cd_164_189 : mt_cd 164 189 = some (.iastore) := mt_cd_of (q := (189, .iastore, 1)) mq_164 ci_164 (List.mem_append_right _ (List.mem_append_left _ (show _ ∈ my_164_1 from List.mem_of_getElem? (i := 44) rfl)))
theorem cd_164_190 : mt_cd 164 190 = some (.aload_n 0) := mt_cd_of (q := (190, .aload_n 0, 1)) mq_164 ci_164 (List.mem_append_right _ (List.mem_append_left _ (show _ ∈ my_164_1 from List.mem_of_getElem? (i := 45) rfl)))
theorem cd_164_191 : mt_cd 164 191 = some (.getfield 132) := mt_cd_of (q := (191, .getfield 132, 3)) mq_164 ci_164 (List.mem_append_right _ (List.mem_append_left _ (show _ ∈ my_164_1 from List.mem_of_getElem? (i := 46) rfl)))
theorem cd_164_194 : mt_cd 164 194 = some (.iload 4) := mt_cd_of (q := (194, .iload 4, 2)) mq_164 ci_164 (List.mem_append_right _ (List.mem_append_left _ (show _ ∈ my_164_1 from List.mem_of_getElem? (i := 47) rfl)))
theorem cd_164_196 : mt_cd 164 196 = some (.iload_n 2) := mt_cd_of (q := (196, .iload_n 2, 1)) mq_164 ci_164 (List.mem_append_right _ (List.mem_append_left _ (show _ ∈ my_164_1 from List.mem_of_getElem? (i := 48) rfl)))
theorem cd_164_197 : mt_cd 164 197 = some (.iastore) := mt_cd_of (q := (197, .iastore, 1)) mq_164 ci_164 (List.mem_append_right _ (List.mem_append_left _ (show _ ∈ my_164_1 from List.mem_of_getElem? (i := 49) rfl)))
theorem cd_164_198 : mt_cd 164 198 = some (.aload_n 0) := mt_cd_of (q := (198, .aload_n 0, 1)) mq_164 ci_164 (List.mem_append_right _ (List.mem_append_left _ (show _ ∈ my_164_1 from List.mem_of_getElem? (i := 50) rfl)))
theorem cd_164_199 : mt_cd 164 199 = some (.getfield 135) := mt_cd_of (q := (199, .getfield 135, 3)) mq_164 ci_164 (List.mem_append_right _ (List.mem_append_left _ (show _ ∈ my_164_1 from List.mem_of_getElem? (i := 51) rfl)))
theorem cd_164_202 : mt_cd 164 202 = some (.iload 4) := mt_cd_of (q := (202, .iload 4, 2)) mq_164 ci_164 (List.mem_append_right _ (List.mem_append_left _ (show _ ∈ my_164_1 from List.mem_of_getElem? (i := 52) rfl)))
theorem cd_164_204 : mt_cd 164 204 = some (.iload_n 3) := mt_cd_of (q := (204, .iload_n 3, 1)) mq_164 ci_164 (List.mem_append_right _ (List.mem_append_left _ (show _ ∈ my_164_1 from List.mem_of_getElem? (i := 53) rfl)))
theorem cd_164_205 : mt_cd 164 205 = some (.iastore) := mt_cd_of (q := (205, .iastore, 1)) mq_164 ci_164 (List.mem_append_right _ (List.mem_append_left _ (show _ ∈ my_164_1 from List.mem_of_getElem? (i := 54) rfl)))
theorem cd_164_206 : mt_cd 164 206 = some (.aload_n 0) := mt_cd_of (q := (206, .aload_n 0, 1)) mq_164 ci_164 (List.mem_append_right _ (List.mem_append_left _ (show _ ∈ my_164_1 from List.mem_of_getElem? (i := 55) rfl)))
theorem cd_164_207 : mt_cd 164 207 = some (.dup) := mt_cd_of (q := (207, .dup, 1)) mq_164 ci_164 (List.mem_append_right _ (List.mem_append_left _ (show _ ∈ my_164_1 from List.mem_of_getElem? (i := 56) rfl)))
theorem cd_164_208 : mt_cd 164 208 = some (.getfield 349) := mt_cd_of (q := (208, .getfield 349, 3)) mq_164 ci_164 (List.mem_append_right _ (List.mem_append_left _ (show _ ∈ my_164_1 from List.mem_of_getElem? (i := 57) rfl)))
theorem cd_164_211 : mt_cd 164 211 = some (.iconst 1) := mt_cd_of (q := (211, .iconst 1, 1)) mq_164 ci_164 (List.mem_append_right _ (List.mem_append_left _ (show _ ∈ my_164_1 from List.mem_of_getElem? (i := 58) rfl)))
theorem cd_164_212 : mt_cd 164 212 = some (.iadd) := mt_cd_of (q := (212, .iadd, 1)) mq_164 ci_164 (List.mem_append_right _ (List.mem_append_left _ (show _ ∈ my_164_1 from List.mem_of_getElem? (i := 59) rfl)))
theorem cd_164_213 : mt_cd 164 213 = some (.putfield 349) := mt_cd_of (q := (213, .putfield 349, 3)) mq_164 ci_164 (List.mem_append_right _ (List.mem_append_right _ ((show _ ∈ my_164_2 from List.mem_of_getElem? (i := 0) rfl))))
theorem cd_164_216 : mt_cd 164 216 = some (.iload 4) := mt_cd_of (q := (216, .iload 4, 2)) mq_164 ci_164 (List.mem_append_right _ (List.mem_append_right _ ((show _ ∈ my_164_2 from List.mem_of_getElem? (i := 1) rfl))))
theorem cd_164_218 : mt_cd 164 218 = some (.ireturn) := mt_cd_of (q := (218, .ireturn, 1)) mq_164 ci_164 (List.mem_append_right _ (List.mem_append_right _ ((show _ ∈ my_164_2 from List.mem_of_getElem? (i := 2) rfl))))
theorem b_164_0 {d : Nat} {Q : (Option Value ⊕ Nat) → mi_H → Prop} (n sl : Nat) (f : Nat → mi_C) {l1 : Nat} {o2 : Option Value} {o3 : Option Value} {o4 : Option Value} {o5 : Option Value} {fs6 : List Value} {x9 : Int32} (h7 : f l1 = .inr (12, fs6)) (h8 : l1 < n) (h10 : fs6[8]? = some (.int x9)) (h11 : x9 = 1 → mi_W d 164 19 [some (.ref l1), o2, o3, o4, o5] [] (n, sl, f) Q) (h12 : ¬ (x9 = 1) → mi_W d 164 8 [some (.ref l1), o2, o3, o4, o5] [] (n, sl, f) Q) : mi_W d 164 0 [some (.ref l1), o2, o3, o4, o5] [] (n, sl, f) Q := by
  refine w_aload_n cd_164_0 rfl ?_
  refine w_getfield cd_164_1 (show mt_f 12 310 = some (12, 8) by decide +kernel) h7 h8 h10 ?_
  refine w_iconst (v := 1) cd_164_4 (by decide) ?_
  exact w_if_icmpeq cd_164_5 (by decide) h11 h12
theorem b_164_8 {d : Nat} {Q : (Option Value ⊕ Nat) → mi_H → Prop} (n sl : Nat) (f : Nat → mi_C) {l1 : Nat} {o2 : Option Value} {o3 : Option Value} {o4 : Option Value} {o5 : Option Value} {fs6 : List Value} {x9 : Int32} {fs11 : List Value} (h7 : f l1 = .inr (12, fs6)) (h8 : l1 < n) (h10 : fs6[9]? = some (.int x9)) (h12 : f l1 = .inr (12, fs11)) (h13 : l1 < n) (h14 : mi_W d 143 0 (mi_en 2 [.ref l1, .int x9]) [] (n, sl, f) (mi_Kc d 164 13 [some (.ref l1), o2, o3, o4, o5] [] Q)) : mi_W (d + 1) 164 8 [some (.ref l1), o2, o3, o4, o5] [] (n, sl, f) Q := by
  refine w_aload_n cd_164_8 rfl ?_
  refine w_aload_n cd_164_9 rfl ?_
  refine w_getfield cd_164_10 (show mt_f 12 299 = some (12, 9) by decide +kernel) h7 h8 h10 ?_
  exact w_invokevirtual cd_164_13 (show mt_m 12 272 = some (143, 0) by decide +kernel) (rest := []) rfl (as := [.ref l1, .int x9]) rfl h12 (Or.inl h13) ⟨Nat.le_of_ble_eq_true rfl, Nat.le_of_ble_eq_true rfl, Nat.le_of_ble_eq_true rfl⟩ h14
theorem b_164_16 {d : Nat} {Q : (Option Value ⊕ Nat) → mi_H → Prop} (n sl : Nat) (f : Nat → mi_C) {l1 : Nat} {o2 : Option Value} {o3 : Option Value} {o4 : Option Value} {o5 : Option Value} {s6 : Int32} (h7 : Q (.inl (some (.int (-1)))) (n, sl, f)) : mi_W d 164 16 [some (.ref l1), o2, o3, o4, o5] [.int s6] (n, sl, f) Q := by
  refine w_pop_i cd_164_16 ?_
  refine w_iconst (v := (-1)) cd_164_17 (by decide) ?_
  exact w_ireturn_i cd_164_18 (by decide +kernel) h7
theorem b_164_19 {d : Nat} {Q : (Option Value ⊕ Nat) → mi_H → Prop} (n sl : Nat) (f : Nat → mi_C) {l1 : Nat} {o2 : Option Value} {o3 : Option Value} {o4 : Option Value} {o5 : Option Value} {fs6 : List Value} {x9 : Int32} {fs11 : List Value} {x14 : Int32} {fs16 : List Value} {x19 : Int32} {fs21 : List Value} (h7 : f l1 = .inr (12, fs6)) (h8 : l1 < n) (h10 : fs6[9]? = some (.int x9)) (h12 : f l1 = .inr (12, fs11)) (h13 : l1 < n) (h15 : fs11[10]? = some (.int x14)) (h17 : f l1 = .inr (12, fs16)) (h18 : l1 < n) (h20 : fs16[9]? = some (.int x19)) (h22 : f l1 = .inr (12, fs21)) (h23 : l1 < n) (h24 : mi_W d 145 0 (mi_en 4 [.ref l1]) [] (n, sl, f) (mi_Kc d 164 35 [some (.ref l1), some (.int x9), some (.int (x14 - x19)), o4, o5] [] Q)) : mi_W (d + 1) 164 19 [some (.ref l1), o2, o3, o4, o5] [] (n, sl, f) Q := by
  refine w_aload_n cd_164_19 rfl ?_
  refine w_getfield cd_164_20 (show mt_f 12 299 = some (12, 9) by decide +kernel) h7 h8 h10 ?_
  refine w_istore_n (ls' := [some (.ref l1), some (.int x9), o3, o4, o5]) cd_164_23 (Nat.le_of_ble_eq_true rfl) rfl ?_
  refine w_aload_n cd_164_24 rfl ?_
  refine w_getfield cd_164_25 (show mt_f 12 297 = some (12, 10) by decide +kernel) h12 h13 h15 ?_
  refine w_aload_n cd_164_28 rfl ?_
  refine w_getfield cd_164_29 (show mt_f 12 299 = some (12, 9) by decide +kernel) h17 h18 h20 ?_
  refine w_isub cd_164_32 ?_
  refine w_istore_n (ls' := [some (.ref l1), some (.int x9), some (.int (x14 - x19)), o4, o5]) cd_164_33 (Nat.le_of_ble_eq_true rfl) rfl ?_
  refine w_aload_n cd_164_34 rfl ?_
  exact w_invokevirtual cd_164_35 (show mt_m 12 333 = some (145, 0) by decide +kernel) (rest := []) rfl (as := [.ref l1]) rfl h22 (Or.inl h23) ⟨Nat.le_of_ble_eq_true rfl, Nat.le_of_ble_eq_true rfl, Nat.le_of_ble_eq_true rfl⟩ h24
theorem b_164_38 {d : Nat} {Q : (Option Value ⊕ Nat) → mi_H → Prop} (n sl : Nat) (f : Nat → mi_C) {l1 : Nat} {l2 : Int32} {l3 : Int32} {o4 : Option Value} {o5 : Option Value} {s6 : Int32} (h7 : ¬ s6 = (0 : Int32) → mi_W d 164 43 [some (.ref l1), some (.int l2), some (.int l3), o4, o5] [] (n, sl, f) Q) (h8 : ¬ (¬ s6 = (0 : Int32)) → mi_W d 164 41 [some (.ref l1), some (.int l2), some (.int l3), o4, o5] [] (n, sl, f) Q) : mi_W d 164 38 [some (.ref l1), some (.int l2), some (.int l3), o4, o5] [.int s6] (n, sl, f) Q := by
  exact w_ifne cd_164_38 (by decide) h7 h8
theorem b_164_41 {d : Nat} {Q : (Option Value ⊕ Nat) → mi_H → Prop} (n sl : Nat) (f : Nat → mi_C) {l1 : Nat} {l2 : Int32} {l3 : Int32} {o4 : Option Value} {o5 : Option Value} (h6 : Q (.inl (some (.int (-1)))) (n, sl, f)) : mi_W d 164 41 [some (.ref l1), some (.int l2), some (.int l3), o4, o5] [] (n, sl, f) Q := by
  refine w_iconst (v := (-1)) cd_164_41 (by decide) ?_
  exact w_ireturn_i cd_164_42 (by decide +kernel) h6
theorem b_164_43 {d : Nat} {Q : (Option Value ⊕ Nat) → mi_H → Prop} (n sl : Nat) (f : Nat → mi_C) {l1 : Nat} {l2 : Int32} {l3 : Int32} {o4 : Option Value} {o5 : Option Value} {fs6 : List Value} {x9 : Int32} (h7 : f l1 = .inr (12, fs6)) (h8 : l1 < n) (h10 : fs6[8]? = some (.int x9)) (h11 : x9 = 1 → mi_W d 164 62 [some (.ref l1), some (.int l2), some (.int l3), o4, o5] [] (n, sl, f) Q) (h12 : ¬ (x9 = 1) → mi_W d 164 51 [some (.ref l1), some (.int l2), some (.int l3), o4, o5] [] (n, sl, f) Q) : mi_W d 164 43 [some (.ref l1), some (.int l2), some (.int l3), o4, o5] [] (n, sl, f) Q := by
  refine w_aload_n cd_164_43 rfl ?_
  refine w_getfield cd_164_44 (show mt_f 12 310 = some (12, 8) by decide +kernel) h7 h8 h10 ?_
  refine w_iconst (v := 1) cd_164_47 (by decide) ?_
  exact w_if_icmpeq cd_164_48 (by decide) h11 h12
theorem b_164_51 {d : Nat} {Q : (Option Value ⊕ Nat) → mi_H → Prop} (n sl : Nat) (f : Nat → mi_C) {l1 : Nat} {l2 : Int32} {l3 : Int32} {o4 : Option Value} {o5 : Option Value} {fs6 : List Value} {x9 : Int32} {fs11 : List Value} (h7 : f l1 = .inr (12, fs6)) (h8 : l1 < n) (h10 : fs6[9]? = some (.int x9)) (h12 : f l1 = .inr (12, fs11)) (h13 : l1 < n) (h14 : mi_W d 143 0 (mi_en 2 [.ref l1, .int x9]) [] (n, sl, f) (mi_Kc d 164 56 [some (.ref l1), some (.int l2), some (.int l3), o4, o5] [] Q)) : mi_W (d + 1) 164 51 [some (.ref l1), some (.int l2), some (.int l3), o4, o5] [] (n, sl, f) Q := by
  refine w_aload_n cd_164_51 rfl ?_
  refine w_aload_n cd_164_52 rfl ?_
  refine w_getfield cd_164_53 (show mt_f 12 299 = some (12, 9) by decide +kernel) h7 h8 h10 ?_
  exact w_invokevirtual cd_164_56 (show mt_m 12 272 = some (143, 0) by decide +kernel) (rest := []) rfl (as := [.ref l1, .int x9]) rfl h12 (Or.inl h13) ⟨Nat.le_of_ble_eq_true rfl, Nat.le_of_ble_eq_true rfl, Nat.le_of_ble_eq_true rfl⟩ h14
theorem b_164_59 {d : Nat} {Q : (Option Value ⊕ Nat) → mi_H → Prop} (n sl : Nat) (f : Nat → mi_C) {l1 : Nat} {l2 : Int32} {l3 : Int32} {o4 : Option Value} {o5 : Option Value} {s6 : Int32} (h7 : Q (.inl (some (.int (-1)))) (n, sl, f)) : mi_W d 164 59 [some (.ref l1), some (.int l2), some (.int l3), o4, o5] [.int s6] (n, sl, f) Q := by
  refine w_pop_i cd_164_59 ?_
  refine w_iconst (v := (-1)) cd_164_60 (by decide) ?_
  exact w_ireturn_i cd_164_61 (by decide +kernel) h7
theorem b_164_62 {d : Nat} {Q : (Option Value ⊕ Nat) → mi_H → Prop} (n sl : Nat) (f : Nat → mi_C) {l1 : Nat} {l2 : Int32} {l3 : Int32} {o4 : Option Value} {o5 : Option Value} (h6 : mi_W d 164 64 [some (.ref l1), some (.int l2), some (.int l3), some (.int 0), o5] [] (n, sl, f) Q) : mi_W d 164 62 [some (.ref l1), some (.int l2), some (.int l3), o4, o5] [] (n, sl, f) Q := by
  refine w_iconst (v := 0) cd_164_62 (by decide) ?_
  refine w_istore_n (ls' := [some (.ref l1), some (.int l2), some (.int l3), some (.int 0), o5]) cd_164_63 (Nat.le_of_ble_eq_true rfl) rfl ?_
  exact h6
theorem b_164_64 {d : Nat} {Q : (Option Value ⊕ Nat) → mi_H → Prop} (n sl : Nat) (f : Nat → mi_C) {l1 : Nat} {l2 : Int32} {l3 : Int32} {l4 : Int32} {o5 : Option Value} {fs6 : List Value} {x9 : Int32} (h7 : f l1 = .inr (12, fs6)) (h8 : l1 < n) (h10 : fs6[24]? = some (.int x9)) (h11 : x9 ≤ l4 → mi_W d 164 97 [some (.ref l1), some (.int l2), some (.int l3), some (.int l4), o5] [] (n, sl, f) Q) (h12 : ¬ (x9 ≤ l4) → mi_W d 164 72 [some (.ref l1), some (.int l2), some (.int l3), some (.int l4), o5] [] (n, sl, f) Q) : mi_W d 164 64 [some (.ref l1), some (.int l2), some (.int l3), some (.int l4), o5] [] (n, sl, f) Q := by
  refine w_iload_n cd_164_64 rfl ?_
  refine w_aload_n cd_164_65 rfl ?_
  refine w_getfield cd_164_66 (show mt_f 12 343 = some (12, 24) by decide +kernel) h7 h8 h10 ?_
  exact w_if_icmpge cd_164_69 (by decide) h11 h12
theorem b_164_72 {d : Nat} {Q : (Option Value ⊕ Nat) → mi_H → Prop} (n sl : Nat) (f : Nat → mi_C) {l1 : Nat} {l2 : Int32} {l3 : Int32} {l4 : Int32} {o5 : Option Value} {fs6 : List Value} {x9 : Nat} (m11 i11 : Nat) (g11 : Nat → Int32) {fs15 : List Value} {x18 : Nat} (m20 i20 : Nat) (g20 : Nat → Int32) {fs24 : List Value} (h7 : f l1 = .inr (12, fs6)) (h8 : l1 < n) (h10 : fs6[30]? = some (.ref x9)) (h12 : f x9 = .inl (0, m11, .inl g11)) (h13 : x9 < n ∨ x9 = mi_SC) (h14 : mi_ix l4 m11 i11) (h16 : f l1 = .inr (12, fs15)) (h17 : l1 < n) (h19 : fs15[31]? = some (.ref x18)) (h21 : f x18 = .inl (0, m20, .inl g20)) (h22 : x18 < n ∨ x18 = mi_SC) (h23 : mi_ix l4 m20 i20) (h25 : f l1 = .inr (12, fs24)) (h26 : l1 < n) (h27 : mi_W d 161 0 (mi_en 4 [.ref l1, .int (g11 i11), .int (g20 i20)]) [] (n, sl, f) (mi_Kc d 164 85 [some (.ref l1), some (.int l2), some (.int l3), some (.int l4), o5] [] Q)) : mi_W (d + 1) 164 72 [some (.ref l1), some (.int l2), some (.int l3), some (.int l4), o5] [] (n, sl, f) Q := by
  refine w_aload_n cd_164_72 rfl ?_
  refine w_aload_n cd_164_73 rfl ?_
  refine w_getfield cd_164_74 (show mt_f 12 111 = some (12, 30) by decide +kernel) h7 h8 h10 ?_
  refine w_iload_n cd_164_77 rfl ?_
  refine w_iaload cd_164_78 h12 h13 h14 ?_
  refine w_aload_n cd_164_79 rfl ?_
  refine w_getfield cd_164_80 (show mt_f 12 114 = some (12, 31) by decide +kernel) h16 h17 h19 ?_
  refine w_iload_n cd_164_83 rfl ?_
  refine w_iaload cd_164_84 h21 h22 h23 ?_
  exact w_invokevirtual cd_164_85 (show mt_m 12 358 = some (161, 0) by decide +kernel) (rest := []) rfl (as := [.ref l1, .int (g11 i11), .int (g20 i20)]) rfl h25 (Or.inl h26) ⟨Nat.le_of_ble_eq_true rfl, Nat.le_of_ble_eq_true rfl, Nat.le_of_ble_eq_true rfl⟩ h27
theorem b_164_88 {d : Nat} {Q : (Option Value ⊕ Nat) → mi_H → Prop} (n sl : Nat) (f : Nat → mi_C) {l1 : Nat} {l2 : Int32} {l3 : Int32} {l4 : Int32} {o5 : Option Value} {s6 : Int32} (h7 : ¬ s6 = (0 : Int32) → mi_W d 164 97 [some (.ref l1), some (.int l2), some (.int l3), some (.int l4), o5] [] (n, sl, f) Q) (h8 : ¬ (¬ s6 = (0 : Int32)) → mi_W d 164 91 [some (.ref l1), some (.int l2), some (.int l3), some (.int l4), o5] [] (n, sl, f) Q) : mi_W d 164 88 [some (.ref l1), some (.int l2), some (.int l3), some (.int l4), o5] [.int s6] (n, sl, f) Q := by
  exact w_ifne cd_164_88 (by decide) h7 h8
theorem b_164_91 {d : Nat} {Q : (Option Value ⊕ Nat) → mi_H → Prop} (n sl : Nat) (f : Nat → mi_C) {l1 : Nat} {l2 : Int32} {l3 : Int32} {l4 : Int32} {o5 : Option Value} (h6 : mi_W d 164 64 [some (.ref l1), some (.int l2), some (.int l3), some (.int (l4 + 1)), o5] [] (n, sl, f) Q) : mi_W d 164 91 [some (.ref l1), some (.int l2), some (.int l3), some (.int l4), o5] [] (n, sl, f) Q := by
  refine w_iinc (v := 1) (ls' := [some (.ref l1), some (.int l2), some (.int l3), some (.int (l4 + 1)), o5]) cd_164_91 rfl (by decide) rfl ?_
  exact w_goto cd_164_94 (by decide) h6
theorem b_164_97 {d : Nat} {Q : (Option Value ⊕ Nat) → mi_H → Prop} (n sl : Nat) (f : Nat → mi_C) {l1 : Nat} {l2 : Int32} {l3 : Int32} {l4 : Int32} {o5 : Option Value} (h6 : mi_W d 164 100 [some (.ref l1), some (.int l2), some (.int l3), some (.int l4), some (.int 0)] [] (n, sl, f) Q) : mi_W d 164 97 [some (.ref l1), some (.int l2), some (.int l3), some (.int l4), o5] [] (n, sl, f) Q := by
  refine w_iconst (v := 0) cd_164_97 (by decide) ?_
  refine w_istore (ls' := [some (.ref l1), some (.int l2), some (.int l3), some (.int l4), some (.int 0)]) cd_164_98 (Nat.le_of_ble_eq_true rfl) rfl ?_
  exact h6
theorem b_164_100 {d : Nat} {Q : (Option Value ⊕ Nat) → mi_H → Prop} (n sl : Nat) (f : Nat → mi_C) {l1 : Nat} {l2 : Int32} {l3 : Int32} {l4 : Int32} {l5 : Int32} {fs6 : List Value} {x9 : Int32} (h7 : f l1 = .inr (12, fs6)) (h8 : l1 < n) (h10 : fs6[26]? = some (.int x9)) (h11 : x9 ≤ l5 → mi_W d 164 149 [some (.ref l1), some (.int l2), some (.int l3), some (.int l4), some (.int l5)] [] (n, sl, f) Q) (h12 : ¬ (x9 ≤ l5) → mi_W d 164 109 [some (.ref l1), some (.int l2), some (.int l3), some (.int l4), some (.int l5)] [] (n, sl, f) Q) : mi_W d 164 100 [some (.ref l1), some (.int l2), some (.int l3), some (.int l4), some (.int l5)] [] (n, sl, f) Q := by
  refine w_iload cd_164_100 rfl ?_
  refine w_aload_n cd_164_102 rfl ?_
  refine w_getfield cd_164_103 (show mt_f 12 349 = some (12, 26) by decide +kernel) h7 h8 h10 ?_
  exact w_if_icmpge cd_164_106 (by decide) h11 h12
theorem b_164_109 {d : Nat} {Q : (Option Value ⊕ Nat) → mi_H → Prop} (n sl : Nat) (f : Nat → mi_C) {l1 : Nat} {l2 : Int32} {l3 : Int32} {l4 : Int32} {l5 : Int32} {fs6 : List Value} {x9 : Nat} (m11 i11 : Nat) (g11 : Nat → Int32) (h7 : f l1 = .inr (12, fs6)) (h8 : l1 < n) (h10 : fs6[38]? = some (.ref x9)) (h12 : f x9 = .inl (0, m11, .inl g11)) (h13 : x9 < n ∨ x9 = mi_SC) (h14 : mi_ix l5 m11 i11) (h15 : ¬ (g11 i11) = l4 → mi_W d 164 143 [some (.ref l1), some (.int l2), some (.int l3), some (.int l4), some (.int l5)] [] (n, sl, f) Q) (h16 : ¬ (¬ (g11 i11) = l4) → mi_W d 164 120 [some (.ref l1), some (.int l2), some (.int l3), some (.int l4), some (.int l5)] [] (n, sl, f) Q) : mi_W d 164 109 [some (.ref l1), some (.int l2), some (.int l3), some (.int l4), some (.int l5)] [] (n, sl, f) Q := by
  refine w_aload_n cd_164_109 rfl ?_
  refine w_getfield cd_164_110 (show mt_f 12 135 = some (12, 38) by decide +kernel) h7 h8 h10 ?_
  refine w_iload cd_164_113 rfl ?_
  refine w_iaload cd_164_115 h12 h13 h14 ?_
  refine w_iload_n cd_164_116 rfl ?_
  exact w_if_icmpne cd_164_117 (by decide) h15 h16
theorem b_164_120 {d : Nat} {Q : (Option Value ⊕ Nat) → mi_H → Prop} (n sl : Nat) (f : Nat → mi_C) {l1 : Nat} {l2 : Int32} {l3 : Int32} {l4 : Int32} {l5 : Int32} {fs6 : List Value} {x9 : Nat} (m11 i11 : Nat) (g11 : Nat → Int32) {fs15 : List Value} {x18 : Nat} (m20 i20 : Nat) (g20 : Nat → Int32) {fs24 : List Value} (h7 : f l1 = .inr (12, fs6)) (h8 : l1 < n) (h10 : fs6[36]? = some (.ref x9)) (h12 : f x9 = .inl (0, m11, .inl g11)) (h13 : x9 < n ∨ x9 = mi_SC) (h14 : mi_ix l5 m11 i11) (h16 : f l1 = .inr (12, fs15)) (h17 : l1 < n) (h19 : fs15[37]? = some (.ref x18)) (h21 : f x18 = .inl (0, m20, .inl g20)) (h22 : x18 < n ∨ x18 = mi_SC) (h23 : mi_ix l5 m20 i20) (h25 : f l1 = .inr (12, fs24)) (h26 : l1 < n) (h27 : mi_W d 165 0 (mi_en 6 [.ref l1, .int (g11 i11), .int (g20 i20), .int l2, .int l3]) [] (n, sl, f) (mi_Kc d 164 137 [some (.ref l1), some (.int l2), some (.int l3), some (.int l4), some (.int l5)] [] Q)) : mi_W (d + 1) 164 120 [some (.ref l1), some (.int l2), some (.int l3), some (.int l4), some (.int l5)] [] (n, sl, f) Q := by
  refine w_aload_n cd_164_120 rfl ?_
  refine w_aload_n cd_164_121 rfl ?_
  refine w_getfield cd_164_122 (show mt_f 12 129 = some (12, 36) by decide +kernel) h7 h8 h10 ?_
  refine w_iload cd_164_125 rfl ?_
  refine w_iaload cd_164_127 h12 h13 h14 ?_
  refine w_aload_n cd_164_128 rfl ?_
  refine w_getfield cd_164_129 (show mt_f 12 132 = some (12, 37) by decide +kernel) h16 h17 h19 ?_
  refine w_iload cd_164_132 rfl ?_
  refine w_iaload cd_164_134 h21 h22 h23 ?_
  refine w_iload_n cd_164_135 rfl ?_
  refine w_iload_n cd_164_136 rfl ?_
  exact w_invokevirtual cd_164_137 (show mt_m 12 366 = some (165, 0) by decide +kernel) (rest := []) rfl (as := [.ref l1, .int (g11 i11), .int (g20 i20), .int l2, .int l3]) rfl h25 (Or.inl h26) ⟨Nat.le_of_ble_eq_true rfl, Nat.le_of_ble_eq_true rfl, Nat.le_of_ble_eq_true rfl⟩ h27
theorem b_164_140 {d : Nat} {Q : (Option Value ⊕ Nat) → mi_H → Prop} (n sl : Nat) (f : Nat → mi_C) {l1 : Nat} {l2 : Int32} {l3 : Int32} {l4 : Int32} {l5 : Int32} {s6 : Int32} (h7 : ¬ s6 = (0 : Int32) → mi_W d 164 149 [some (.ref l1), some (.int l2), some (.int l3), some (.int l4), some (.int l5)] [] (n, sl, f) Q) (h8 : ¬ (¬ s6 = (0 : Int32)) → mi_W d 164 143 [some (.ref l1), some (.int l2), some (.int l3), some (.int l4), some (.int l5)] [] (n, sl, f) Q) : mi_W d 164 140 [some (.ref l1), some (.int l2), some (.int l3), some (.int l4), some (.int l5)] [.int s6] (n, sl, f) Q := by
  exact w_ifne cd_164_140 (by decide) h7 h8
theorem b_164_143 {d : Nat} {Q : (Option Value ⊕ Nat) → mi_H → Prop} (n sl : Nat) (f : Nat → mi_C) {l1 : Nat} {l2 : Int32} {l3 : Int32} {l4 : Int32} {l5 : Int32} (h6 : mi_W d 164 100 [some (.ref l1), some (.int l2), some (.int l3), some (.int l4), some (.int (l5 + 1))] [] (n, sl, f) Q) : mi_W d 164 143 [some (.ref l1), some (.int l2), some (.int l3), some (.int l4), some (.int l5)] [] (n, sl, f) Q := by
  refine w_iinc (v := 1) (ls' := [some (.ref l1), some (.int l2), some (.int l3), some (.int l4), some (.int (l5 + 1))]) cd_164_143 rfl (by decide) rfl ?_
  exact w_goto cd_164_146 (by decide) h6
theorem b_164_149 {d : Nat} {Q : (Option Value ⊕ Nat) → mi_H → Prop} (n sl : Nat) (f : Nat → mi_C) {l1 : Nat} {l2 : Int32} {l3 : Int32} {l4 : Int32} {l5 : Int32} (h6 : ¬ l5 = 8 → mi_W d 164 164 [some (.ref l1), some (.int l2), some (.int l3), some (.int l4), some (.int l5)] [] (n, sl, f) Q) (h7 : ¬ (¬ l5 = 8) → mi_W d 164 156 [some (.ref l1), some (.int l2), some (.int l3), some (.int l4), some (.int l5)] [] (n, sl, f) Q) : mi_W d 164 149 [some (.ref l1), some (.int l2), some (.int l3), some (.int l4), some (.int l5)] [] (n, sl, f) Q := by
  refine w_iload cd_164_149 rfl ?_
  refine w_bipush (v := 8) cd_164_151 (by decide) ?_
  exact w_if_icmpne cd_164_153 (by decide) h6 h7
theorem b_164_156 {d : Nat} {Q : (Option Value ⊕ Nat) → mi_H → Prop} (n sl : Nat) (f : Nat → mi_C) {l1 : Nat} {l2 : Int32} {l3 : Int32} {l4 : Int32} {l5 : Int32} {fs6 : List Value} (h7 : f l1 = .inr (12, fs6)) (h8 : l1 < n) (h9 : mi_W d 143 0 (mi_en 2 [.ref l1, .int l2]) [] (n, sl, f) (mi_Kc d 164 158 [some (.ref l1), some (.int l2), some (.int l3), some (.int l4), some (.int l5)] [] Q)) : mi_W (d + 1) 164 156 [some (.ref l1), some (.int l2), some (.int l3), some (.int l4), some (.int l5)] [] (n, sl, f) Q := by
  refine w_aload_n cd_164_156 rfl ?_
  refine w_iload_n cd_164_157 rfl ?_
  exact w_invokevirtual cd_164_158 (show mt_m 12 272 = some (143, 0) by decide +kernel) (rest := []) rfl (as := [.ref l1, .int l2]) rfl h7 (Or.inl h8) ⟨Nat.le_of_ble_eq_true rfl, Nat.le_of_ble_eq_true rfl, Nat.le_of_ble_eq_true rfl⟩ h9
theorem b_164_161 {d : Nat} {Q : (Option Value ⊕ Nat) → mi_H → Prop} (n sl : Nat) (f : Nat → mi_C) {l1 : Nat} {l2 : Int32} {l3 : Int32} {l4 : Int32} {l5 : Int32} {s6 : Int32} (h7 : Q (.inl (some (.int (-1)))) (n, sl, f)) : mi_W d 164 161 [some (.ref l1), some (.int l2), some (.int l3), some (.int l4), some (.int l5)] [.int s6] (n, sl, f) Q := by
  refine w_pop_i cd_164_161 ?_
  refine w_iconst (v := (-1)) cd_164_162 (by decide) ?_
  exact w_ireturn_i cd_164_163 (by decide +kernel) h7
theorem b_164_164 {d : Nat} {Q : (Option Value ⊕ Nat) → mi_H → Prop} (n sl : Nat) (f : Nat → mi_C) {l1 : Nat} {l2 : Int32} {l3 : Int32} {l4 : Int32} {l5 : Int32} {fs6 : List Value} (h7 : f l1 = .inr (12, fs6)) (h8 : l1 < n) (h9 : mi_W d 159 0 (mi_en 2 [.ref l1]) [] (n, sl, f) (mi_Kc d 164 165 [some (.ref l1), some (.int l2), some (.int l3), some (.int l4), some (.int l5)] [] Q)) : mi_W (d + 1) 164 164 [some (.ref l1), some (.int l2), some (.int l3), some (.int l4), some (.int l5)] [] (n, sl, f) Q := by
  refine w_aload_n cd_164_164 rfl ?_
  exact w_invokevirtual cd_164_165 (show mt_m 12 370 = some (159, 0) by decide +kernel) (rest := []) rfl (as := [.ref l1]) rfl h7 (Or.inl h8) ⟨Nat.le_of_ble_eq_true rfl, Nat.le_of_ble_eq_true rfl, Nat.le_of_ble_eq_true rfl⟩ h9
theorem b_164_168 {d : Nat} {Q : (Option Value ⊕ Nat) → mi_H → Prop} (n sl : Nat) (f : Nat → mi_C) {l1 : Nat} {l2 : Int32} {l3 : Int32} {l4 : Int32} {l5 : Int32} {s6 : Int32} (h7 : (0 : Int32) ≤ s6 → mi_W d 164 173 [some (.ref l1), some (.int l2), some (.int l3), some (.int l4), some (.int l5)] [] (n, sl, f) Q) (h8 : ¬ ((0 : Int32) ≤ s6) → mi_W d 164 171 [some (.ref l1), some (.int l2), some (.int l3), some (.int l4), some (.int l5)] [] (n, sl, f) Q) : mi_W d 164 168 [some (.ref l1), some (.int l2), some (.int l3), some (.int l4), some (.int l5)] [.int s6] (n, sl, f) Q := by
  exact w_ifge cd_164_168 (by decide) h7 h8
theorem b_164_171 {d : Nat} {Q : (Option Value ⊕ Nat) → mi_H → Prop} (n sl : Nat) (f : Nat → mi_C) {l1 : Nat} {l2 : Int32} {l3 : Int32} {l4 : Int32} {l5 : Int32} (h6 : Q (.inl (some (.int (-1)))) (n, sl, f)) : mi_W d 164 171 [some (.ref l1), some (.int l2), some (.int l3), some (.int l4), some (.int l5)] [] (n, sl, f) Q := by
  refine w_iconst (v := (-1)) cd_164_171 (by decide) ?_
  exact w_ireturn_i cd_164_172 (by decide +kernel) h6
theorem b_164_173 {d : Nat} {Q : (Option Value ⊕ Nat) → mi_H → Prop} (n sl : Nat) (f : Nat → mi_C) {l1 : Nat} {l2 : Int32} {l3 : Int32} {l4 : Int32} {l5 : Int32} {fs6 : List Value} {x9 : Int32} (h7 : f l1 = .inr (12, fs6)) (h8 : l1 < n) (h10 : fs6[26]? = some (.int x9)) (h11 : ¬ l5 = x9 → mi_W d 164 216 [some (.ref l1), some (.int l2), some (.int l3), some (.int l4), some (.int l5)] [] (n, sl, f) Q) (h12 : ¬ (¬ l5 = x9) → mi_W d 164 182 [some (.ref l1), some (.int l2), some (.int l3), some (.int l4), some (.int l5)] [] (n, sl, f) Q) : mi_W d 164 173 [some (.ref l1), some (.int l2), some (.int l3), some (.int l4), some (.int l5)] [] (n, sl, f) Q := by
  refine w_iload cd_164_173 rfl ?_
  refine w_aload_n cd_164_175 rfl ?_
  refine w_getfield cd_164_176 (show mt_f 12 349 = some (12, 26) by decide +kernel) h7 h8 h10 ?_
  exact w_if_icmpne cd_164_179 (by decide) h11 h12
theorem b_164_182 {d : Nat} {Q : (Option Value ⊕ Nat) → mi_H → Prop} (n sl : Nat) (f : Nat → mi_C) {l1 : Nat} {l2 : Int32} {l3 : Int32} {l4 : Int32} {l5 : Int32} {fs6 : List Value} {x9 : Nat} (m11 i11 : Nat) (g11 : Nat → Int32) {fs15 : List Value} {x18 : Nat} (m20 i20 : Nat) (g20 : Nat → Int32) {fs24 : List Value} {x27 : Nat} (m29 i29 : Nat) (g29 : Nat → Int32) {fs33 : List Value} {x36 : Int32} {fs38 : List Value} (h7 : f l1 = .inr (12, fs6)) (h8 : l1 < n) (h10 : fs6[36]? = some (.ref x9)) (h12 : f x9 = .inl (0, m11, .inl g11)) (h13 : x9 < n) (h14 : mi_ix l5 m11 i11) (h16 : (va_up f x9 (.inl (0, m11, .inl (upd g11 i11 l2)))) l1 = .inr (12, fs15)) (h17 : l1 < n) (h19 : fs15[37]? = some (.ref x18)) (h21 : (va_up f x9 (.inl (0, m11, .inl (upd g11 i11 l2)))) x18 = .inl (0, m20, .inl g20)) (h22 : x18 < n) (h23 : mi_ix l5 m20 i20) (h25 : (va_up (va_up f x9 (.inl (0, m11, .inl (upd g11 i11 l2)))) x18 (.inl (0, m20, .inl (upd g20 i20 l3)))) l1 = .inr (12, fs24)) (h26 : l1 < n) (h28 : fs24[38]? = some (.ref x27)) (h30 : (va_up (va_up f x9 (.inl (0, m11, .inl (upd g11 i11 l2)))) x18 (.inl (0, m20, .inl (upd g20 i20 l3)))) x27 = .inl (0, m29, .inl g29)) (h31 : x27 < n) (h32 : mi_ix l5 m29 i29) (h34 : (va_up (va_up (va_up f x9 (.inl (0, m11, .inl (upd g11 i11 l2)))) x18 (.inl (0, m20, .inl (upd g20 i20 l3)))) x27 (.inl (0, m29, .inl (upd g29 i29 l4)))) l1 = .inr (12, fs33)) (h35 : l1 < n) (h37 : fs33[26]? = some (.int x36)) (h39 : (va_up (va_up (va_up f x9 (.inl (0, m11, .inl (upd g11 i11 l2)))) x18 (.inl (0, m20, .inl (upd g20 i20 l3)))) x27 (.inl (0, m29, .inl (upd g29 i29 l4)))) l1 = .inr (12, fs38)) (h40 : l1 < n) (h41 : 26 < fs38.length) (h42 : mi_W d 164 216 [some (.ref l1), some (.int l2), some (.int l3), some (.int l4), some (.int l5)] [] (n, sl, (va_up (va_up (va_up (va_up f x9 (.inl (0, m11, .inl (upd g11 i11 l2)))) x18 (.inl (0, m20, .inl (upd g20 i20 l3)))) x27 (.inl (0, m29, .inl (upd g29 i29 l4)))) l1 (.inr (12, fs38.set 26 (.int (x36 + 1)))))) Q) : mi_W d 164 182 [some (.ref l1), some (.int l2), some (.int l3), some (.int l4), some (.int l5)] [] (n, sl, f) Q := by
  refine w_aload_n cd_164_182 rfl ?_
  refine w_getfield cd_164_183 (show mt_f 12 129 = some (12, 36) by decide +kernel) h7 h8 h10 ?_
  refine w_iload cd_164_186 rfl ?_
  refine w_iload_n cd_164_188 rfl ?_
  refine w_iastore cd_164_189 h12 h13 h14 ?_
  refine w_aload_n cd_164_190 rfl ?_
  refine w_getfield cd_164_191 (show mt_f 12 132 = some (12, 37) by decide +kernel) h16 h17 h19 ?_
  refine w_iload cd_164_194 rfl ?_
  refine w_iload_n cd_164_196 rfl ?_
  refine w_iastore cd_164_197 h21 h22 h23 ?_
  refine w_aload_n cd_164_198 rfl ?_
  refine w_getfield cd_164_199 (show mt_f 12 135 = some (12, 38) by decide +kernel) h25 h26 h28 ?_
  refine w_iload cd_164_202 rfl ?_
  refine w_iload_n cd_164_204 rfl ?_
  refine w_iastore cd_164_205 h30 h31 h32 ?_
  refine w_aload_n cd_164_206 rfl ?_
  refine w_dup_r cd_164_207 ?_
  refine w_getfield cd_164_208 (show mt_f 12 349 = some (12, 26) by decide +kernel) h34 h35 h37 ?_
  refine w_iconst (v := 1) cd_164_211 (by decide) ?_
  refine w_iadd cd_164_212 ?_
  refine w_putfield (w := .int (x36 + 1)) cd_164_213 (show mt_f 12 349 = some (12, 26) by decide +kernel) h39 h40 ⟨h41, rfl, Or.inl (by decide)⟩ ?_
  exact h42
theorem b_164_216 {d : Nat} {Q : (Option Value ⊕ Nat) → mi_H → Prop} (n sl : Nat) (f : Nat → mi_C) {l1 : Nat} {l2 : Int32} {l3 : Int32} {l4 : Int32} {l5 : Int32} (h6 : Q (.inl (some (.int l5))) (n, sl, f)) : mi_W d 164 216 [some (.ref l1), some (.int l2), some (.int l3), some (.int l4), some (.int l5)] [] (n, sl, f) Q := by
  refine w_iload cd_164_216 rfl ?_
  exact w_ireturn_i cd_164_218 (by decide +kernel) h6
/-! MarloweHostModel.sameText(IIII)Z -/
set_option maxRecDepth 100000 in
theorem mq_165 : mt_q 165 = my_165 := rfl
set_option maxRecDepth 100000 in
theorem ci_165 : mt_inc 0 my_165.cd = true := by decide +kernel
theorem cd_165_0 : mt_cd 165 0 = some (.iload_n 2) := mt_cd_of (q := (0, .iload_n 2, 1)) mq_165 ci_165 (List.mem_of_getElem? (i := 0) rfl)
theorem cd_165_1 : mt_cd 165 1 = some (.iload 4) := mt_cd_of (q := (1, .iload 4, 2)) mq_165 ci_165 (List.mem_of_getElem? (i := 1) rfl)
theorem cd_165_3 : mt_cd 165 3 = some (.if_icmp .eq 5) := mt_cd_of (q := (3, .if_icmp .eq 5, 3)) mq_165 ci_165 (List.mem_of_getElem? (i := 2) rfl)
theorem cd_165_6 : mt_cd 165 6 = some (.iconst 0) := mt_cd_of (q := (6, .iconst 0, 1)) mq_165 ci_165 (List.mem_of_getElem? (i := 3) rfl)
theorem cd_165_7 : mt_cd 165 7 = some (.ireturn) := mt_cd_of (q := (7, .ireturn, 1)) mq_165 ci_165 (List.mem_of_getElem? (i := 4) rfl)
theorem cd_165_8 : mt_cd 165 8 = some (.iconst 0) := mt_cd_of (q := (8, .iconst 0, 1)) mq_165 ci_165 (List.mem_of_getElem? (i := 5) rfl)
theorem cd_165_9 : mt_cd 165 9 = some (.istore 5) := mt_cd_of (q := (9, .istore 5, 2)) mq_165 ci_165 (List.mem_of_getElem? (i := 6) rfl)
theorem cd_165_11 : mt_cd 165 11 = some (.iload 5) := mt_cd_of (q := (11, .iload 5, 2)) mq_165 ci_165 (List.mem_of_getElem? (i := 7) rfl)
theorem cd_165_13 : mt_cd 165 13 = some (.iload 4) := mt_cd_of (q := (13, .iload 4, 2)) mq_165 ci_165 (List.mem_of_getElem? (i := 8) rfl)
theorem cd_165_15 : mt_cd 165 15 = some (.if_icmp .ge 32) := mt_cd_of (q := (15, .if_icmp .ge 32, 3)) mq_165 ci_165 (List.mem_of_getElem? (i := 9) rfl)
theorem cd_165_18 : mt_cd 165 18 = some (.aload_n 0) := mt_cd_of (q := (18, .aload_n 0, 1)) mq_165 ci_165 (List.mem_of_getElem? (i := 10) rfl)
theorem cd_165_19 : mt_cd 165 19 = some (.getfield 20) := mt_cd_of (q := (19, .getfield 20, 3)) mq_165 ci_165 (List.mem_of_getElem? (i := 11) rfl)
theorem cd_165_22 : mt_cd 165 22 = some (.iload_n 1) := mt_cd_of (q := (22, .iload_n 1, 1)) mq_165 ci_165 (List.mem_of_getElem? (i := 12) rfl)
theorem cd_165_23 : mt_cd 165 23 = some (.iload 5) := mt_cd_of (q := (23, .iload 5, 2)) mq_165 ci_165 (List.mem_of_getElem? (i := 13) rfl)
theorem cd_165_25 : mt_cd 165 25 = some (.iadd) := mt_cd_of (q := (25, .iadd, 1)) mq_165 ci_165 (List.mem_of_getElem? (i := 14) rfl)
theorem cd_165_26 : mt_cd 165 26 = some (.iaload) := mt_cd_of (q := (26, .iaload, 1)) mq_165 ci_165 (List.mem_of_getElem? (i := 15) rfl)
theorem cd_165_27 : mt_cd 165 27 = some (.aload_n 0) := mt_cd_of (q := (27, .aload_n 0, 1)) mq_165 ci_165 (List.mem_of_getElem? (i := 16) rfl)
theorem cd_165_28 : mt_cd 165 28 = some (.getfield 20) := mt_cd_of (q := (28, .getfield 20, 3)) mq_165 ci_165 (List.mem_of_getElem? (i := 17) rfl)
theorem cd_165_31 : mt_cd 165 31 = some (.iload_n 3) := mt_cd_of (q := (31, .iload_n 3, 1)) mq_165 ci_165 (List.mem_of_getElem? (i := 18) rfl)
theorem cd_165_32 : mt_cd 165 32 = some (.iload 5) := mt_cd_of (q := (32, .iload 5, 2)) mq_165 ci_165 (List.mem_of_getElem? (i := 19) rfl)
theorem cd_165_34 : mt_cd 165 34 = some (.iadd) := mt_cd_of (q := (34, .iadd, 1)) mq_165 ci_165 (List.mem_of_getElem? (i := 20) rfl)
theorem cd_165_35 : mt_cd 165 35 = some (.iaload) := mt_cd_of (q := (35, .iaload, 1)) mq_165 ci_165 (List.mem_of_getElem? (i := 21) rfl)
theorem cd_165_36 : mt_cd 165 36 = some (.if_icmp .eq 5) := mt_cd_of (q := (36, .if_icmp .eq 5, 3)) mq_165 ci_165 (List.mem_of_getElem? (i := 22) rfl)
theorem cd_165_39 : mt_cd 165 39 = some (.iconst 0) := mt_cd_of (q := (39, .iconst 0, 1)) mq_165 ci_165 (List.mem_of_getElem? (i := 23) rfl)
theorem cd_165_40 : mt_cd 165 40 = some (.ireturn) := mt_cd_of (q := (40, .ireturn, 1)) mq_165 ci_165 (List.mem_of_getElem? (i := 24) rfl)
theorem cd_165_41 : mt_cd 165 41 = some (.iinc 5 1) := mt_cd_of (q := (41, .iinc 5 1, 3)) mq_165 ci_165 (List.mem_of_getElem? (i := 25) rfl)
theorem cd_165_44 : mt_cd 165 44 = some (.goto (-33)) := mt_cd_of (q := (44, .goto (-33), 3)) mq_165 ci_165 (List.mem_of_getElem? (i := 26) rfl)
theorem cd_165_47 : mt_cd 165 47 = some (.iconst 1) := mt_cd_of (q := (47, .iconst 1, 1)) mq_165 ci_165 (List.mem_of_getElem? (i := 27) rfl)
theorem cd_165_48 : mt_cd 165 48 = some (.ireturn) := mt_cd_of (q := (48, .ireturn, 1)) mq_165 ci_165 (List.mem_of_getElem? (i := 28) rfl)
theorem b_165_0 {d : Nat} {Q : (Option Value ⊕ Nat) → mi_H → Prop} (n sl : Nat) (f : Nat → mi_C) {l1 : Nat} {l2 : Int32} {l3 : Int32} {l4 : Int32} {l5 : Int32} {o6 : Option Value} (h7 : l3 = l5 → mi_W d 165 8 [some (.ref l1), some (.int l2), some (.int l3), some (.int l4), some (.int l5), o6] [] (n, sl, f) Q) (h8 : ¬ (l3 = l5) → mi_W d 165 6 [some (.ref l1), some (.int l2), some (.int l3), some (.int l4), some (.int l5), o6] [] (n, sl, f) Q) : mi_W d 165 0 [some (.ref l1), some (.int l2), some (.int l3), some (.int l4), some (.int l5), o6] [] (n, sl, f) Q := by
  refine w_iload_n cd_165_0 rfl ?_
  refine w_iload cd_165_1 rfl ?_
  exact w_if_icmpeq cd_165_3 (by decide) h7 h8
theorem b_165_6 {d : Nat} {Q : (Option Value ⊕ Nat) → mi_H → Prop} (n sl : Nat) (f : Nat → mi_C) {l1 : Nat} {l2 : Int32} {l3 : Int32} {l4 : Int32} {l5 : Int32} {o6 : Option Value} (h7 : Q (.inl (some (.int 0))) (n, sl, f)) : mi_W d 165 6 [some (.ref l1), some (.int l2), some (.int l3), some (.int l4), some (.int l5), o6] [] (n, sl, f) Q := by
  refine w_iconst (v := 0) cd_165_6 (by decide) ?_
  exact w_ireturn_z cd_165_7 (by decide +kernel) (by decide) h7
theorem b_165_8 {d : Nat} {Q : (Option Value ⊕ Nat) → mi_H → Prop} (n sl : Nat) (f : Nat → mi_C) {l1 : Nat} {l2 : Int32} {l3 : Int32} {l4 : Int32} {l5 : Int32} {o6 : Option Value} (h7 : mi_W d 165 11 [some (.ref l1), some (.int l2), some (.int l3), some (.int l4), some (.int l5), some (.int 0)] [] (n, sl, f) Q) : mi_W d 165 8 [some (.ref l1), some (.int l2), some (.int l3), some (.int l4), some (.int l5), o6] [] (n, sl, f) Q := by
  refine w_iconst (v := 0) cd_165_8 (by decide) ?_
  refine w_istore (ls' := [some (.ref l1), some (.int l2), some (.int l3), some (.int l4), some (.int l5), some (.int 0)]) cd_165_9 (Nat.le_of_ble_eq_true rfl) rfl ?_
  exact h7
theorem b_165_11 {d : Nat} {Q : (Option Value ⊕ Nat) → mi_H → Prop} (n sl : Nat) (f : Nat → mi_C) {l1 : Nat} {l2 : Int32} {l3 : Int32} {l4 : Int32} {l5 : Int32} {l6 : Int32} (h7 : l5 ≤ l6 → mi_W d 165 47 [some (.ref l1), some (.int l2), some (.int l3), some (.int l4), some (.int l5), some (.int l6)] [] (n, sl, f) Q) (h8 : ¬ (l5 ≤ l6) → mi_W d 165 18 [some (.ref l1), some (.int l2), some (.int l3), some (.int l4), some (.int l5), some (.int l6)] [] (n, sl, f) Q) : mi_W d 165 11 [some (.ref l1), some (.int l2), some (.int l3), some (.int l4), some (.int l5), some (.int l6)] [] (n, sl, f) Q := by
  refine w_iload cd_165_11 rfl ?_
  refine w_iload cd_165_13 rfl ?_
  exact w_if_icmpge cd_165_15 (by decide) h7 h8
theorem b_165_18 {d : Nat} {Q : (Option Value ⊕ Nat) → mi_H → Prop} (n sl : Nat) (f : Nat → mi_C) {l1 : Nat} {l2 : Int32} {l3 : Int32} {l4 : Int32} {l5 : Int32} {l6 : Int32} {fs7 : List Value} {x10 : Nat} (m12 i12 : Nat) (g12 : Nat → Int32) {fs16 : List Value} {x19 : Nat} (m21 i21 : Nat) (g21 : Nat → Int32) (h8 : f l1 = .inr (12, fs7)) (h9 : l1 < n) (h11 : fs7[6]? = some (.ref x10)) (h13 : f x10 = .inl (0, m12, .inl g12)) (h14 : x10 < n ∨ x10 = mi_SC) (h15 : mi_ix (l2 + l6) m12 i12) (h17 : f l1 = .inr (12, fs16)) (h18 : l1 < n) (h20 : fs16[6]? = some (.ref x19)) (h22 : f x19 = .inl (0, m21, .inl g21)) (h23 : x19 < n ∨ x19 = mi_SC) (h24 : mi_ix (l4 + l6) m21 i21) (h25 : (g12 i12) = (g21 i21) → mi_W d 165 41 [some (.ref l1), some (.int l2), some (.int l3), some (.int l4), some (.int l5), some (.int l6)] [] (n, sl, f) Q) (h26 : ¬ ((g12 i12) = (g21 i21)) → mi_W d 165 39 [some (.ref l1), some (.int l2), some (.int l3), some (.int l4), some (.int l5), some (.int l6)] [] (n, sl, f) Q) : mi_W d 165 18 [some (.ref l1), some (.int l2), some (.int l3), some (.int l4), some (.int l5), some (.int l6)] [] (n, sl, f) Q := by
  refine w_aload_n cd_165_18 rfl ?_
  refine w_getfield cd_165_19 (show mt_f 12 20 = some (12, 6) by decide +kernel) h8 h9 h11 ?_
  refine w_iload_n cd_165_22 rfl ?_
  refine w_iload cd_165_23 rfl ?_
  refine w_iadd cd_165_25 ?_
  refine w_iaload cd_165_26 h13 h14 h15 ?_
  refine w_aload_n cd_165_27 rfl ?_
  refine w_getfield cd_165_28 (show mt_f 12 20 = some (12, 6) by decide +kernel) h17 h18 h20 ?_
  refine w_iload_n cd_165_31 rfl ?_
  refine w_iload cd_165_32 rfl ?_
  refine w_iadd cd_165_34 ?_
  refine w_iaload cd_165_35 h22 h23 h24 ?_
  exact w_if_icmpeq cd_165_36 (by decide) h25 h26
theorem b_165_39 {d : Nat} {Q : (Option Value ⊕ Nat) → mi_H → Prop} (n sl : Nat) (f : Nat → mi_C) {l1 : Nat} {l2 : Int32} {l3 : Int32} {l4 : Int32} {l5 : Int32} {l6 : Int32} (h7 : Q (.inl (some (.int 0))) (n, sl, f)) : mi_W d 165 39 [some (.ref l1), some (.int l2), some (.int l3), some (.int l4), some (.int l5), some (.int l6)] [] (n, sl, f) Q := by
  refine w_iconst (v := 0) cd_165_39 (by decide) ?_
  exact w_ireturn_z cd_165_40 (by decide +kernel) (by decide) h7
theorem b_165_41 {d : Nat} {Q : (Option Value ⊕ Nat) → mi_H → Prop} (n sl : Nat) (f : Nat → mi_C) {l1 : Nat} {l2 : Int32} {l3 : Int32} {l4 : Int32} {l5 : Int32} {l6 : Int32} (h7 : mi_W d 165 11 [some (.ref l1), some (.int l2), some (.int l3), some (.int l4), some (.int l5), some (.int (l6 + 1))] [] (n, sl, f) Q) : mi_W d 165 41 [some (.ref l1), some (.int l2), some (.int l3), some (.int l4), some (.int l5), some (.int l6)] [] (n, sl, f) Q := by
  refine w_iinc (v := 1) (ls' := [some (.ref l1), some (.int l2), some (.int l3), some (.int l4), some (.int l5), some (.int (l6 + 1))]) cd_165_41 rfl (by decide) rfl ?_
  exact w_goto cd_165_44 (by decide) h7
theorem b_165_47 {d : Nat} {Q : (Option Value ⊕ Nat) → mi_H → Prop} (n sl : Nat) (f : Nat → mi_C) {l1 : Nat} {l2 : Int32} {l3 : Int32} {l4 : Int32} {l5 : Int32} {l6 : Int32} (h7 : Q (.inl (some (.int 1))) (n, sl, f)) : mi_W d 165 47 [some (.ref l1), some (.int l2), some (.int l3), some (.int l4), some (.int l5), some (.int l6)] [] (n, sl, f) Q := by
  refine w_iconst (v := 1) cd_165_47 (by decide) ?_
  exact w_ireturn_z cd_165_48 (by decide +kernel) (by decide) h7
/-! MarloweHostModel.variable()I -/
set_option maxRecDepth 100000 in
theorem mq_166 : mt_q 166 = my_166 := rfl
set_option maxRecDepth 100000 in
theorem ci_166 : mt_inc 0 my_166.cd = true := by decide +kernel
theorem cd_166_0 : mt_cd 166 0 = some (.aload_n 0) := mt_cd_of (q := (0, .aload_n 0, 1)) mq_166 ci_166 (List.mem_of_getElem? (i := 0) rfl)
theorem cd_166_1 : mt_cd 166 1 = some (.aload_n 0) := mt_cd_of (q := (1, .aload_n 0, 1)) mq_166 ci_166 (List.mem_of_getElem? (i := 1) rfl)
theorem cd_166_2 : mt_cd 166 2 = some (.getfield 123) := mt_cd_of (q := (2, .getfield 123, 3)) mq_166 ci_166 (List.mem_of_getElem? (i := 2) rfl)
theorem cd_166_5 : mt_cd 166 5 = some (.aload_n 0) := mt_cd_of (q := (5, .aload_n 0, 1)) mq_166 ci_166 (List.mem_of_getElem? (i := 3) rfl)
theorem cd_166_6 : mt_cd 166 6 = some (.getfield 126) := mt_cd_of (q := (6, .getfield 126, 3)) mq_166 ci_166 (List.mem_of_getElem? (i := 4) rfl)
theorem cd_166_9 : mt_cd 166 9 = some (.aload_n 0) := mt_cd_of (q := (9, .aload_n 0, 1)) mq_166 ci_166 (List.mem_of_getElem? (i := 5) rfl)
theorem cd_166_10 : mt_cd 166 10 = some (.getfield 352) := mt_cd_of (q := (10, .getfield 352, 3)) mq_166 ci_166 (List.mem_of_getElem? (i := 6) rfl)
theorem cd_166_13 : mt_cd 166 13 = some (.bipush 8) := mt_cd_of (q := (13, .bipush 8, 2)) mq_166 ci_166 (List.mem_of_getElem? (i := 7) rfl)
theorem cd_166_15 : mt_cd 166 15 = some (.invokevirtual 362) := mt_cd_of (q := (15, .invokevirtual 362, 3)) mq_166 ci_166 (List.mem_of_getElem? (i := 8) rfl)
theorem cd_166_18 : mt_cd 166 18 = some (.istore_n 1) := mt_cd_of (q := (18, .istore_n 1, 1)) mq_166 ci_166 (List.mem_of_getElem? (i := 9) rfl)
theorem cd_166_19 : mt_cd 166 19 = some (.iload_n 1) := mt_cd_of (q := (19, .iload_n 1, 1)) mq_166 ci_166 (List.mem_of_getElem? (i := 10) rfl)
theorem cd_166_20 : mt_cd 166 20 = some (.aload_n 0) := mt_cd_of (q := (20, .aload_n 0, 1)) mq_166 ci_166 (List.mem_of_getElem? (i := 11) rfl)
theorem cd_166_21 : mt_cd 166 21 = some (.getfield 352) := mt_cd_of (q := (21, .getfield 352, 3)) mq_166 ci_166 (List.mem_of_getElem? (i := 12) rfl)
theorem cd_166_24 : mt_cd 166 24 = some (.if_icmp .ne 13) := mt_cd_of (q := (24, .if_icmp .ne 13, 3)) mq_166 ci_166 (List.mem_of_getElem? (i := 13) rfl)
theorem cd_166_27 : mt_cd 166 27 = some (.aload_n 0) := mt_cd_of (q := (27, .aload_n 0, 1)) mq_166 ci_166 (List.mem_of_getElem? (i := 14) rfl)
theorem cd_166_28 : mt_cd 166 28 = some (.dup) := mt_cd_of (q := (28, .dup, 1)) mq_166 ci_166 (List.mem_of_getElem? (i := 15) rfl)
theorem cd_166_29 : mt_cd 166 29 = some (.getfield 352) := mt_cd_of (q := (29, .getfield 352, 3)) mq_166 ci_166 (List.mem_of_getElem? (i := 16) rfl)
theorem cd_166_32 : mt_cd 166 32 = some (.iconst 1) := mt_cd_of (q := (32, .iconst 1, 1)) mq_166 ci_166 (List.mem_of_getElem? (i := 17) rfl)
theorem cd_166_33 : mt_cd 166 33 = some (.iadd) := mt_cd_of (q := (33, .iadd, 1)) mq_166 ci_166 (List.mem_of_getElem? (i := 18) rfl)
theorem cd_166_34 : mt_cd 166 34 = some (.putfield 352) := mt_cd_of (q := (34, .putfield 352, 3)) mq_166 ci_166 (List.mem_of_getElem? (i := 19) rfl)
theorem cd_166_37 : mt_cd 166 37 = some (.iload_n 1) := mt_cd_of (q := (37, .iload_n 1, 1)) mq_166 ci_166 (List.mem_of_getElem? (i := 20) rfl)
theorem cd_166_38 : mt_cd 166 38 = some (.ireturn) := mt_cd_of (q := (38, .ireturn, 1)) mq_166 ci_166 (List.mem_of_getElem? (i := 21) rfl)
theorem b_166_0 {d : Nat} {Q : (Option Value ⊕ Nat) → mi_H → Prop} (n sl : Nat) (f : Nat → mi_C) {l1 : Nat} {o2 : Option Value} {fs3 : List Value} {x6 : Nat} {fs8 : List Value} {x11 : Nat} {fs13 : List Value} {x16 : Int32} {fs18 : List Value} (h4 : f l1 = .inr (12, fs3)) (h5 : l1 < n) (h7 : fs3[34]? = some (.ref x6)) (h9 : f l1 = .inr (12, fs8)) (h10 : l1 < n) (h12 : fs8[35]? = some (.ref x11)) (h14 : f l1 = .inr (12, fs13)) (h15 : l1 < n) (h17 : fs13[27]? = some (.int x16)) (h19 : f l1 = .inr (12, fs18)) (h20 : l1 < n) (h21 : mi_W d 160 0 (mi_en 6 [.ref l1, .ref x6, .ref x11, .int x16, .int 8]) [] (n, sl, f) (mi_Kc d 166 15 [some (.ref l1), o2] [] Q)) : mi_W (d + 1) 166 0 [some (.ref l1), o2] [] (n, sl, f) Q := by
  refine w_aload_n cd_166_0 rfl ?_
  refine w_aload_n cd_166_1 rfl ?_
  refine w_getfield cd_166_2 (show mt_f 12 123 = some (12, 34) by decide +kernel) h4 h5 h7 ?_
  refine w_aload_n cd_166_5 rfl ?_
  refine w_getfield cd_166_6 (show mt_f 12 126 = some (12, 35) by decide +kernel) h9 h10 h12 ?_
  refine w_aload_n cd_166_9 rfl ?_
  refine w_getfield cd_166_10 (show mt_f 12 352 = some (12, 27) by decide +kernel) h14 h15 h17 ?_
  refine w_bipush (v := 8) cd_166_13 (by decide) ?_
  exact w_invokevirtual cd_166_15 (show mt_m 12 362 = some (160, 0) by decide +kernel) (rest := []) rfl (as := [.ref l1, .ref x6, .ref x11, .int x16, .int 8]) rfl h19 (Or.inl h20) ⟨Nat.le_of_ble_eq_true rfl, Nat.le_of_ble_eq_true rfl, Nat.le_of_ble_eq_true rfl⟩ h21
theorem b_166_18 {d : Nat} {Q : (Option Value ⊕ Nat) → mi_H → Prop} (n sl : Nat) (f : Nat → mi_C) {l1 : Nat} {o2 : Option Value} {s3 : Int32} {fs4 : List Value} {x7 : Int32} (h5 : f l1 = .inr (12, fs4)) (h6 : l1 < n) (h8 : fs4[27]? = some (.int x7)) (h9 : ¬ s3 = x7 → mi_W d 166 37 [some (.ref l1), some (.int s3)] [] (n, sl, f) Q) (h10 : ¬ (¬ s3 = x7) → mi_W d 166 27 [some (.ref l1), some (.int s3)] [] (n, sl, f) Q) : mi_W d 166 18 [some (.ref l1), o2] [.int s3] (n, sl, f) Q := by
  refine w_istore_n (ls' := [some (.ref l1), some (.int s3)]) cd_166_18 (Nat.le_of_ble_eq_true rfl) rfl ?_
  refine w_iload_n cd_166_19 rfl ?_
  refine w_aload_n cd_166_20 rfl ?_
  refine w_getfield cd_166_21 (show mt_f 12 352 = some (12, 27) by decide +kernel) h5 h6 h8 ?_
  exact w_if_icmpne cd_166_24 (by decide) h9 h10
theorem b_166_27 {d : Nat} {Q : (Option Value ⊕ Nat) → mi_H → Prop} (n sl : Nat) (f : Nat → mi_C) {l1 : Nat} {l2 : Int32} {fs3 : List Value} {x6 : Int32} {fs8 : List Value} (h4 : f l1 = .inr (12, fs3)) (h5 : l1 < n) (h7 : fs3[27]? = some (.int x6)) (h9 : f l1 = .inr (12, fs8)) (h10 : l1 < n) (h11 : 27 < fs8.length) (h12 : mi_W d 166 37 [some (.ref l1), some (.int l2)] [] (n, sl, (va_up f l1 (.inr (12, fs8.set 27 (.int (x6 + 1)))))) Q) : mi_W d 166 27 [some (.ref l1), some (.int l2)] [] (n, sl, f) Q := by
  refine w_aload_n cd_166_27 rfl ?_
  refine w_dup_r cd_166_28 ?_
  refine w_getfield cd_166_29 (show mt_f 12 352 = some (12, 27) by decide +kernel) h4 h5 h7 ?_
  refine w_iconst (v := 1) cd_166_32 (by decide) ?_
  refine w_iadd cd_166_33 ?_
  refine w_putfield (w := .int (x6 + 1)) cd_166_34 (show mt_f 12 352 = some (12, 27) by decide +kernel) h9 h10 ⟨h11, rfl, Or.inl (by decide)⟩ ?_
  exact h12
theorem b_166_37 {d : Nat} {Q : (Option Value ⊕ Nat) → mi_H → Prop} (n sl : Nat) (f : Nat → mi_C) {l1 : Nat} {l2 : Int32} (h3 : Q (.inl (some (.int l2))) (n, sl, f)) : mi_W d 166 37 [some (.ref l1), some (.int l2)] [] (n, sl, f) Q := by
  refine w_iload_n cd_166_37 rfl ?_
  exact w_ireturn_i cd_166_38 (by decide +kernel) h3
/-! MarloweHostModel.observation()I -/
set_option maxRecDepth 100000 in
theorem mq_167 : mt_q 167 = my_167 := rfl
set_option maxRecDepth 100000 in
theorem ci_167 : mt_inc 0 my_167.cd = true := by decide +kernel
theorem cd_167_0 : mt_cd 167 0 = some (.aload_n 0) := mt_cd_of (q := (0, .aload_n 0, 1)) mq_167 ci_167 (List.mem_append_left _ (show _ ∈ my_167_0 from List.mem_of_getElem? (i := 0) rfl))
theorem cd_167_1 : mt_cd 167 1 = some (.ldc_w 373) := mt_cd_of (q := (1, .ldc_w 373, 3)) mq_167 ci_167 (List.mem_append_left _ (show _ ∈ my_167_0 from List.mem_of_getElem? (i := 1) rfl))
theorem cd_167_4 : mt_cd 167 4 = some (.invokevirtual 375) := mt_cd_of (q := (4, .invokevirtual 375, 3)) mq_167 ci_167 (List.mem_append_left _ (show _ ∈ my_167_0 from List.mem_of_getElem? (i := 2) rfl))
theorem cd_167_7 : mt_cd 167 7 = some (.ifCond .eq 58) := mt_cd_of (q := (7, .ifCond .eq 58, 3)) mq_167 ci_167 (List.mem_append_left _ (show _ ∈ my_167_0 from List.mem_of_getElem? (i := 3) rfl))
theorem cd_167_10 : mt_cd 167 10 = some (.aload_n 0) := mt_cd_of (q := (10, .aload_n 0, 1)) mq_167 ci_167 (List.mem_append_left _ (show _ ∈ my_167_0 from List.mem_of_getElem? (i := 4) rfl))
theorem cd_167_11 : mt_cd 167 11 = some (.invokevirtual 378) := mt_cd_of (q := (11, .invokevirtual 378, 3)) mq_167 ci_167 (List.mem_append_left _ (show _ ∈ my_167_0 from List.mem_of_getElem? (i := 5) rfl))
theorem cd_167_14 : mt_cd 167 14 = some (.ifCond .eq 10) := mt_cd_of (q := (14, .ifCond .eq 10, 3)) mq_167 ci_167 (List.mem_append_left _ (show _ ∈ my_167_0 from List.mem_of_getElem? (i := 6) rfl))
theorem cd_167_17 : mt_cd 167 17 = some (.aload_n 0) := mt_cd_of (q := (17, .aload_n 0, 1)) mq_167 ci_167 (List.mem_append_left _ (show _ ∈ my_167_0 from List.mem_of_getElem? (i := 7) rfl))
theorem cd_167_18 : mt_cd 167 18 = some (.invokevirtual 333) := mt_cd_of (q := (18, .invokevirtual 333, 3)) mq_167 ci_167 (List.mem_append_left _ (show _ ∈ my_167_0 from List.mem_of_getElem? (i := 8) rfl))
theorem cd_167_21 : mt_cd 167 21 = some (.ifCond .ne 5) := mt_cd_of (q := (21, .ifCond .ne 5, 3)) mq_167 ci_167 (List.mem_append_left _ (show _ ∈ my_167_0 from List.mem_of_getElem? (i := 9) rfl))
theorem cd_167_24 : mt_cd 167 24 = some (.iconst (-1)) := mt_cd_of (q := (24, .iconst (-1), 1)) mq_167 ci_167 (List.mem_append_left _ (show _ ∈ my_167_0 from List.mem_of_getElem? (i := 10) rfl))
theorem cd_167_25 : mt_cd 167 25 = some (.ireturn) := mt_cd_of (q := (25, .ireturn, 1)) mq_167 ci_167 (List.mem_append_left _ (show _ ∈ my_167_0 from List.mem_of_getElem? (i := 11) rfl))
theorem cd_167_26 : mt_cd 167 26 = some (.aload_n 0) := mt_cd_of (q := (26, .aload_n 0, 1)) mq_167 ci_167 (List.mem_append_left _ (show _ ∈ my_167_0 from List.mem_of_getElem? (i := 12) rfl))
theorem cd_167_27 : mt_cd 167 27 = some (.invokevirtual 401) := mt_cd_of (q := (27, .invokevirtual 401, 3)) mq_167 ci_167 (List.mem_append_left _ (show _ ∈ my_167_0 from List.mem_of_getElem? (i := 13) rfl))
theorem cd_167_30 : mt_cd 167 30 = some (.istore_n 1) := mt_cd_of (q := (30, .istore_n 1, 1)) mq_167 ci_167 (List.mem_append_left _ (show _ ∈ my_167_0 from List.mem_of_getElem? (i := 14) rfl))
theorem cd_167_31 : mt_cd 167 31 = some (.aload_n 0) := mt_cd_of (q := (31, .aload_n 0, 1)) mq_167 ci_167 (List.mem_append_left _ (show _ ∈ my_167_0 from List.mem_of_getElem? (i := 15) rfl))
theorem cd_167_32 : mt_cd 167 32 = some (.dup) := mt_cd_of (q := (32, .dup, 1)) mq_167 ci_167 (List.mem_append_left _ (show _ ∈ my_167_0 from List.mem_of_getElem? (i := 16) rfl))
theorem cd_167_33 : mt_cd 167 33 = some (.getfield 337) := mt_cd_of (q := (33, .getfield 337, 3)) mq_167 ci_167 (List.mem_append_left _ (show _ ∈ my_167_0 from List.mem_of_getElem? (i := 17) rfl))
theorem cd_167_36 : mt_cd 167 36 = some (.iconst 1) := mt_cd_of (q := (36, .iconst 1, 1)) mq_167 ci_167 (List.mem_append_left _ (show _ ∈ my_167_0 from List.mem_of_getElem? (i := 18) rfl))
theorem cd_167_37 : mt_cd 167 37 = some (.isub) := mt_cd_of (q := (37, .isub, 1)) mq_167 ci_167 (List.mem_append_left _ (show _ ∈ my_167_0 from List.mem_of_getElem? (i := 19) rfl))
theorem cd_167_38 : mt_cd 167 38 = some (.putfield 337) := mt_cd_of (q := (38, .putfield 337, 3)) mq_167 ci_167 (List.mem_append_left _ (show _ ∈ my_167_0 from List.mem_of_getElem? (i := 20) rfl))
theorem cd_167_41 : mt_cd 167 41 = some (.iload_n 1) := mt_cd_of (q := (41, .iload_n 1, 1)) mq_167 ci_167 (List.mem_append_left _ (show _ ∈ my_167_0 from List.mem_of_getElem? (i := 21) rfl))
theorem cd_167_42 : mt_cd 167 42 = some (.ifCond .lt 21) := mt_cd_of (q := (42, .ifCond .lt 21, 3)) mq_167 ci_167 (List.mem_append_left _ (show _ ∈ my_167_0 from List.mem_of_getElem? (i := 22) rfl))
theorem cd_167_45 : mt_cd 167 45 = some (.aload_n 0) := mt_cd_of (q := (45, .aload_n 0, 1)) mq_167 ci_167 (List.mem_append_left _ (show _ ∈ my_167_0 from List.mem_of_getElem? (i := 23) rfl))
theorem cd_167_46 : mt_cd 167 46 = some (.aload_n 0) := mt_cd_of (q := (46, .aload_n 0, 1)) mq_167 ci_167 (List.mem_append_left _ (show _ ∈ my_167_0 from List.mem_of_getElem? (i := 24) rfl))
theorem cd_167_47 : mt_cd 167 47 = some (.ldc_w 381) := mt_cd_of (q := (47, .ldc_w 381, 3)) mq_167 ci_167 (List.mem_append_left _ (show _ ∈ my_167_0 from List.mem_of_getElem? (i := 25) rfl))
theorem cd_167_50 : mt_cd 167 50 = some (.invokevirtual 375) := mt_cd_of (q := (50, .invokevirtual 375, 3)) mq_167 ci_167 (List.mem_append_left _ (show _ ∈ my_167_0 from List.mem_of_getElem? (i := 26) rfl))
theorem cd_167_53 : mt_cd 167 53 = some (.invokevirtual 383) := mt_cd_of (q := (53, .invokevirtual 383, 3)) mq_167 ci_167 (List.mem_append_left _ (show _ ∈ my_167_0 from List.mem_of_getElem? (i := 27) rfl))
theorem cd_167_56 : mt_cd 167 56 = some (.ifCond .eq 7) := mt_cd_of (q := (56, .ifCond .eq 7, 3)) mq_167 ci_167 (List.mem_append_left _ (show _ ∈ my_167_0 from List.mem_of_getElem? (i := 28) rfl))
theorem cd_167_59 : mt_cd 167 59 = some (.iload_n 1) := mt_cd_of (q := (59, .iload_n 1, 1)) mq_167 ci_167 (List.mem_append_left _ (show _ ∈ my_167_0 from List.mem_of_getElem? (i := 29) rfl))
theorem cd_167_60 : mt_cd 167 60 = some (.goto 4) := mt_cd_of (q := (60, .goto 4, 3)) mq_167 ci_167 (List.mem_append_left _ (show _ ∈ my_167_0 from List.mem_of_getElem? (i := 30) rfl))
theorem cd_167_63 : mt_cd 167 63 = some (.iconst (-1)) := mt_cd_of (q := (63, .iconst (-1), 1)) mq_167 ci_167 (List.mem_append_left _ (show _ ∈ my_167_0 from List.mem_of_getElem? (i := 31) rfl))
theorem cd_167_64 : mt_cd 167 64 = some (.ireturn) := mt_cd_of (q := (64, .ireturn, 1)) mq_167 ci_167 (List.mem_append_left _ (show _ ∈ my_167_0 from List.mem_of_getElem? (i := 32) rfl))
theorem cd_167_65 : mt_cd 167 65 = some (.aload_n 0) := mt_cd_of (q := (65, .aload_n 0, 1)) mq_167 ci_167 (List.mem_append_left _ (show _ ∈ my_167_0 from List.mem_of_getElem? (i := 33) rfl))
theorem cd_167_66 : mt_cd 167 66 = some (.ldc 61) := mt_cd_of (q := (66, .ldc 61, 2)) mq_167 ci_167 (List.mem_append_left _ (show _ ∈ my_167_0 from List.mem_of_getElem? (i := 34) rfl))
theorem cd_167_68 : mt_cd 167 68 = some (.invokevirtual 387) := mt_cd_of (q := (68, .invokevirtual 387, 3)) mq_167 ci_167 (List.mem_append_left _ (show _ ∈ my_167_0 from List.mem_of_getElem? (i := 35) rfl))
theorem cd_167_71 : mt_cd 167 71 = some (.ifCond .eq 8) := mt_cd_of (q := (71, .ifCond .eq 8, 3)) mq_167 ci_167 (List.mem_append_left _ (show _ ∈ my_167_0 from List.mem_of_getElem? (i := 36) rfl))
theorem cd_167_74 : mt_cd 167 74 = some (.bipush 22) := mt_cd_of (q := (74, .bipush 22, 2)) mq_167 ci_167 (List.mem_append_left _ (show _ ∈ my_167_0 from List.mem_of_getElem? (i := 37) rfl))
theorem cd_167_76 : mt_cd 167 76 = some (.goto 149) := mt_cd_of (q := (76, .goto 149, 3)) mq_167 ci_167 (List.mem_append_left _ (show _ ∈ my_167_0 from List.mem_of_getElem? (i := 38) rfl))
theorem cd_167_79 : mt_cd 167 79 = some (.aload_n 0) := mt_cd_of (q := (79, .aload_n 0, 1)) mq_167 ci_167 (List.mem_append_left _ (show _ ∈ my_167_0 from List.mem_of_getElem? (i := 39) rfl))
theorem cd_167_80 : mt_cd 167 80 = some (.ldc 63) := mt_cd_of (q := (80, .ldc 63, 2)) mq_167 ci_167 (List.mem_append_left _ (show _ ∈ my_167_0 from List.mem_of_getElem? (i := 40) rfl))
theorem cd_167_82 : mt_cd 167 82 = some (.invokevirtual 387) := mt_cd_of (q := (82, .invokevirtual 387, 3)) mq_167 ci_167 (List.mem_append_left _ (show _ ∈ my_167_0 from List.mem_of_getElem? (i := 41) rfl))
theorem cd_167_85 : mt_cd 167 85 = some (.ifCond .eq 8) := mt_cd_of (q := (85, .ifCond .eq 8, 3)) mq_167 ci_167 (List.mem_append_left _ (show _ ∈ my_167_0 from List.mem_of_getElem? (i := 42) rfl))
theorem cd_167_88 : mt_cd 167 88 = some (.bipush 23) := mt_cd_of (q := (88, .bipush 23, 2)) mq_167 ci_167 (List.mem_append_left _ (show _ ∈ my_167_0 from List.mem_of_getElem? (i := 43) rfl))
theorem cd_167_90 : mt_cd 167 90 = some (.goto 135) := mt_cd_of (q := (90, .goto 135, 3)) mq_167 ci_167 (List.mem_append_left _ (show _ ∈ my_167_0 from List.mem_of_getElem? (i := 44) rfl))
theorem cd_167_93 : mt_cd 167 93 = some (.aload_n 0) := mt_cd_of (q := (93, .aload_n 0, 1)) mq_167 ci_167 (List.mem_append_left _ (show _ ∈ my_167_0 from List.mem_of_getElem? (i := 45) rfl))
theorem cd_167_94 : mt_cd 167 94 = some (.ldc 65) := mt_cd_of (q := (94, .ldc 65, 2)) mq_167 ci_167 (List.mem_append_left _ (show _ ∈ my_167_0 from List.mem_of_getElem? (i := 46) rfl))
theorem cd_167_96 : mt_cd 167 96 = some (.invokevirtual 387) := mt_cd_of (q := (96, .invokevirtual 387, 3)) mq_167 ci_167 (List.mem_append_left _ (show _ ∈ my_167_0 from List.mem_of_getElem? (i := 47) rfl))
theorem cd_167_99 : mt_cd 167 99 = some (.ifCond .eq 8) := mt_cd_of (q := (99, .ifCond .eq 8, 3)) mq_167 ci_167 (List.mem_append_left _ (show _ ∈ my_167_0 from List.mem_of_getElem? (i := 48) rfl))
theorem cd_167_102 : mt_cd 167 102 = some (.bipush 24) := mt_cd_of (q := (102, .bipush 24, 2)) mq_167 ci_167 (List.mem_append_left _ (show _ ∈ my_167_0 from List.mem_of_getElem? (i := 49) rfl))
theorem cd_167_104 : mt_cd 167 104 = some (.goto 121) := mt_cd_of (q := (104, .goto 121, 3)) mq_167 ci_167 (List.mem_append_left _ (show _ ∈ my_167_0 from List.mem_of_getElem? (i := 50) rfl))
theorem cd_167_107 : mt_cd 167 107 = some (.aload_n 0) := mt_cd_of (q := (107, .aload_n 0, 1)) mq_167 ci_167 (List.mem_append_left _ (show _ ∈ my_167_0 from List.mem_of_getElem? (i := 51) rfl))
theorem cd_167_108 : mt_cd 167 108 = some (.ldc 67) := mt_cd_of (q := (108, .ldc 67, 2)) mq_167 ci_167 (List.mem_append_left _ (show _ ∈ my_167_0 from List.mem_of_getElem? (i := 52) rfl))
theorem cd_167_110 : mt_cd 167 110 = some (.invokevirtual 387) := mt_cd_of (q := (110, .invokevirtual 387, 3)) mq_167 ci_167 (List.mem_append_left _ (show _ ∈ my_167_0 from List.mem_of_getElem? (i := 53) rfl))
theorem cd_167_113 : mt_cd 167 113 = some (.ifCond .eq 8) := mt_cd_of (q := (113, .ifCond .eq 8, 3)) mq_167 ci_167 (List.mem_append_left _ (show _ ∈ my_167_0 from List.mem_of_getElem? (i := 54) rfl))
theorem cd_167_116 : mt_cd 167 116 = some (.bipush 25) := mt_cd_of (q := (116, .bipush 25, 2)) mq_167 ci_167 (List.mem_append_left _ (show _ ∈ my_167_0 from List.mem_of_getElem? (i := 55) rfl))
theorem cd_167_118 : mt_cd 167 118 = some (.goto 107) := mt_cd_of (q := (118, .goto 107, 3)) mq_167 ci_167 (List.mem_append_left _ (show _ ∈ my_167_0 from List.mem_of_getElem? (i := 56) rfl))
theorem cd_167_121 : mt_cd 167 121 = some (.aload_n 0) := mt_cd_of (q := (121, .aload_n 0, 1)) mq_167 ci_167 (List.mem_append_left _ (show _ ∈ my_167_0 from List.mem_of_getElem? (i := 57) rfl))
theorem cd_167_122 : mt_cd 167 122 = some (.ldc 69) := mt_cd_of (q := (122, .ldc 69, 2)) mq_167 ci_167 (List.mem_append_left _ (show _ ∈ my_167_0 from List.mem_of_getElem? (i := 58) rfl))
theorem cd_167_124 : mt_cd 167 124 = some (.invokevirtual 387) := mt_cd_of (q := (124, .invokevirtual 387, 3)) mq_167 ci_167 (List.mem_append_left _ (show _ ∈ my_167_0 from List.mem_of_getElem? (i := 59) rfl))
theorem cd_167_127 : mt_cd 167 127 = some (.ifCond .eq 8) := mt_cd_of (q := (127, .ifCond .eq 8, 3)) mq_167 ci_167 (List.mem_append_right _ (List.mem_append_left _ (show _ ∈ my_167_1 from List.mem_of_getElem? (i := 0) rfl)))
theorem cd_167_130 : mt_cd 167 130 = some (.bipush 26) := mt_cd_of (q := (130, .bipush 26, 2)) mq_167 ci_167 (List.mem_append_right _ (List.mem_append_left _ (show _ ∈ my_167_1 from List.mem_of_getElem? (i := 1) rfl)))
theorem cd_167_132 : mt_cd 167 132 = some (.goto 93) := mt_cd_of (q := (132, .goto 93, 3)) mq_167 ci_167 (List.mem_append_right _ (List.mem_append_left _ (show _ ∈ my_167_1 from List.mem_of_getElem? (i := 2) rfl)))
theorem cd_167_135 : mt_cd 167 135 = some (.aload_n 0) := mt_cd_of (q := (135, .aload_n 0, 1)) mq_167 ci_167 (List.mem_append_right _ (List.mem_append_left _ (show _ ∈ my_167_1 from List.mem_of_getElem? (i := 3) rfl)))
theorem cd_167_136 : mt_cd 167 136 = some (.ldc 71) := mt_cd_of (q := (136, .ldc 71, 2)) mq_167 ci_167 (List.mem_append_right _ (List.mem_append_left _ (show _ ∈ my_167_1 from List.mem_of_getElem? (i := 4) rfl)))
theorem cd_167_138 : mt_cd 167 138 = some (.invokevirtual 387) := mt_cd_of (q := (138, .invokevirtual 387, 3)) mq_167 ci_167 (List.mem_append_right _ (List.mem_append_left _ (show _ ∈ my_167_1 from List.mem_of_getElem? (i := 5) rfl)))
theorem cd_167_141 : mt_cd 167 141 = some (.ifCond .eq 8) := mt_cd_of (q := (141, .ifCond .eq 8, 3)) mq_167 ci_167 (List.mem_append_right _ (List.mem_append_left _ (show _ ∈ my_167_1 from List.mem_of_getElem? (i := 6) rfl)))
theorem cd_167_144 : mt_cd 167 144 = some (.bipush 27) := mt_cd_of (q := (144, .bipush 27, 2)) mq_167 ci_167 (List.mem_append_right _ (List.mem_append_left _ (show _ ∈ my_167_1 from List.mem_of_getElem? (i := 7) rfl)))
theorem cd_167_146 : mt_cd 167 146 = some (.goto 79) := mt_cd_of (q := (146, .goto 79, 3)) mq_167 ci_167 (List.mem_append_right _ (List.mem_append_left _ (show _ ∈ my_167_1 from List.mem_of_getElem? (i := 8) rfl)))
theorem cd_167_149 : mt_cd 167 149 = some (.aload_n 0) := mt_cd_of (q := (149, .aload_n 0, 1)) mq_167 ci_167 (List.mem_append_right _ (List.mem_append_left _ (show _ ∈ my_167_1 from List.mem_of_getElem? (i := 9) rfl)))
theorem cd_167_150 : mt_cd 167 150 = some (.ldc_w 427) := mt_cd_of (q := (150, .ldc_w 427, 3)) mq_167 ci_167 (List.mem_append_right _ (List.mem_append_left _ (show _ ∈ my_167_1 from List.mem_of_getElem? (i := 10) rfl)))
theorem cd_167_153 : mt_cd 167 153 = some (.invokevirtual 375) := mt_cd_of (q := (153, .invokevirtual 375, 3)) mq_167 ci_167 (List.mem_append_right _ (List.mem_append_left _ (show _ ∈ my_167_1 from List.mem_of_getElem? (i := 11) rfl)))
theorem cd_167_156 : mt_cd 167 156 = some (.ifCond .eq 8) := mt_cd_of (q := (156, .ifCond .eq 8, 3)) mq_167 ci_167 (List.mem_append_right _ (List.mem_append_left _ (show _ ∈ my_167_1 from List.mem_of_getElem? (i := 12) rfl)))
theorem cd_167_159 : mt_cd 167 159 = some (.bipush 28) := mt_cd_of (q := (159, .bipush 28, 2)) mq_167 ci_167 (List.mem_append_right _ (List.mem_append_left _ (show _ ∈ my_167_1 from List.mem_of_getElem? (i := 13) rfl)))
theorem cd_167_161 : mt_cd 167 161 = some (.goto 64) := mt_cd_of (q := (161, .goto 64, 3)) mq_167 ci_167 (List.mem_append_right _ (List.mem_append_left _ (show _ ∈ my_167_1 from List.mem_of_getElem? (i := 14) rfl)))
theorem cd_167_164 : mt_cd 167 164 = some (.aload_n 0) := mt_cd_of (q := (164, .aload_n 0, 1)) mq_167 ci_167 (List.mem_append_right _ (List.mem_append_left _ (show _ ∈ my_167_1 from List.mem_of_getElem? (i := 15) rfl)))
theorem cd_167_165 : mt_cd 167 165 = some (.ldc_w 429) := mt_cd_of (q := (165, .ldc_w 429, 3)) mq_167 ci_167 (List.mem_append_right _ (List.mem_append_left _ (show _ ∈ my_167_1 from List.mem_of_getElem? (i := 16) rfl)))
theorem cd_167_168 : mt_cd 167 168 = some (.invokevirtual 375) := mt_cd_of (q := (168, .invokevirtual 375, 3)) mq_167 ci_167 (List.mem_append_right _ (List.mem_append_left _ (show _ ∈ my_167_1 from List.mem_of_getElem? (i := 17) rfl)))
theorem cd_167_171 : mt_cd 167 171 = some (.ifCond .eq 8) := mt_cd_of (q := (171, .ifCond .eq 8, 3)) mq_167 ci_167 (List.mem_append_right _ (List.mem_append_left _ (show _ ∈ my_167_1 from List.mem_of_getElem? (i := 18) rfl)))
theorem cd_167_174 : mt_cd 167 174 = some (.bipush 29) := mt_cd_of (q := (174, .bipush 29, 2)) mq_167 ci_167 (List.mem_append_right _ (List.mem_append_left _ (show _ ∈ my_167_1 from List.mem_of_getElem? (i := 19) rfl)))
theorem cd_167_176 : mt_cd 167 176 = some (.goto 49) := mt_cd_of (q := (176, .goto 49, 3)) mq_167 ci_167 (List.mem_append_right _ (List.mem_append_left _ (show _ ∈ my_167_1 from List.mem_of_getElem? (i := 20) rfl)))
theorem cd_167_179 : mt_cd 167 179 = some (.aload_n 0) := mt_cd_of (q := (179, .aload_n 0, 1)) mq_167 ci_167 (List.mem_append_right _ (List.mem_append_left _ (show _ ∈ my_167_1 from List.mem_of_getElem? (i := 21) rfl)))
theorem cd_167_180 : mt_cd 167 180 = some (.ldc_w 431) := mt_cd_of (q := (180, .ldc_w 431, 3)) mq_167 ci_167 (List.mem_append_right _ (List.mem_append_left _ (show _ ∈ my_167_1 from List.mem_of_getElem? (i := 22) rfl)))
theorem cd_167_183 : mt_cd 167 183 = some (.invokevirtual 375) := mt_cd_of (q := (183, .invokevirtual 375, 3)) mq_167 ci_167 (List.mem_append_right _ (List.mem_append_left _ (show _ ∈ my_167_1 from List.mem_of_getElem? (i := 23) rfl)))
theorem cd_167_186 : mt_cd 167 186 = some (.ifCond .eq 8) := mt_cd_of (q := (186, .ifCond .eq 8, 3)) mq_167 ci_167 (List.mem_append_right _ (List.mem_append_left _ (show _ ∈ my_167_1 from List.mem_of_getElem? (i := 24) rfl)))
theorem cd_167_189 : mt_cd 167 189 = some (.bipush 30) := mt_cd_of (q := (189, .bipush 30, 2)) mq_167 ci_167 (List.mem_append_right _ (List.mem_append_left _ (show _ ∈ my_167_1 from List.mem_of_getElem? (i := 25) rfl)))
theorem cd_167_191 : mt_cd 167 191 = some (.goto 34) := mt_cd_of (q := (191, .goto 34, 3)) mq_167 ci_167 (List.mem_append_right _ (List.mem_append_left _ (show _ ∈ my_167_1 from List.mem_of_getElem? (i := 26) rfl)))
theorem cd_167_194 : mt_cd 167 194 = some (.aload_n 0) := mt_cd_of (q := (194, .aload_n 0, 1)) mq_167 ci_167 (List.mem_append_right _ (List.mem_append_left _ (show _ ∈ my_167_1 from List.mem_of_getElem? (i := 27) rfl)))
theorem cd_167_195 : mt_cd 167 195 = some (.ldc_w 433) := mt_cd_of (q := (195, .ldc_w 433, 3)) mq_167 ci_167 (List.mem_append_right _ (List.mem_append_left _ (show _ ∈ my_167_1 from List.mem_of_getElem? (i := 28) rfl)))
theorem cd_167_198 : mt_cd 167 198 = some (.invokevirtual 375) := mt_cd_of (q := (198, .invokevirtual 375, 3)) mq_167 ci_167 (List.mem_append_right _ (List.mem_append_left _ (show _ ∈ my_167_1 from List.mem_of_getElem? (i := 29) rfl)))
theorem cd_167_201 : mt_cd 167 201 = some (.ifCond .eq 8) := mt_cd_of (q := (201, .ifCond .eq 8, 3)) mq_167 ci_167 (List.mem_append_right _ (List.mem_append_left _ (show _ ∈ my_167_1 from List.mem_of_getElem? (i := 30) rfl)))
theorem cd_167_204 : mt_cd 167 204 = some (.bipush 31) := mt_cd_of (q := (204, .bipush 31, 2)) mq_167 ci_167 (List.mem_append_right _ (List.mem_append_left _ (show _ ∈ my_167_1 from List.mem_of_getElem? (i := 31) rfl)))
theorem cd_167_206 : mt_cd 167 206 = some (.goto 19) := mt_cd_of (q := (206, .goto 19, 3)) mq_167 ci_167 (List.mem_append_right _ (List.mem_append_left _ (show _ ∈ my_167_1 from List.mem_of_getElem? (i := 32) rfl)))
theorem cd_167_209 : mt_cd 167 209 = some (.aload_n 0) := mt_cd_of (q := (209, .aload_n 0, 1)) mq_167 ci_167 (List.mem_append_right _ (List.mem_append_left _ (show _ ∈ my_167_1 from List.mem_of_getElem? (i := 33) rfl)))
theorem cd_167_210 : mt_cd 167 210 = some (.ldc_w 435) := mt_cd_of (q := (210, .ldc_w 435, 3)) mq_167 ci_167 (List.mem_append_right _ (List.mem_append_left _ (show _ ∈ my_167_1 from List.mem_of_getElem? (i := 34) rfl)))
theorem cd_167_213 : mt_cd 167 213 = some (.invokevirtual 375) := mt_cd_of (q := (213, .invokevirtual 375, 3)) mq_167 ci_167 (List.mem_append_right _ (List.mem_append_left _ (show _ ∈ my_167_1 from List.mem_of_getElem? (i := 35) rfl)))
theorem cd_167_216 : mt_cd 167 216 = some (.ifCond .eq 8) := mt_cd_of (q := (216, .ifCond .eq 8, 3)) mq_167 ci_167 (List.mem_append_right _ (List.mem_append_left _ (show _ ∈ my_167_1 from List.mem_of_getElem? (i := 36) rfl)))
theorem cd_167_219 : mt_cd 167 219 = some (.bipush 32) := mt_cd_of (q := (219, .bipush 32, 2)) mq_167 ci_167 (List.mem_append_right _ (List.mem_append_left _ (show _ ∈ my_167_1 from List.mem_of_getElem? (i := 37) rfl)))
theorem cd_167_221 : mt_cd 167 221 = some (.goto 4) := mt_cd_of (q := (221, .goto 4, 3)) mq_167 ci_167 (List.mem_append_right _ (List.mem_append_left _ (show _ ∈ my_167_1 from List.mem_of_getElem? (i := 38) rfl)))
theorem cd_167_224 : mt_cd 167 224 = some (.iconst (-1)) := mt_cd_of (q := (224, .iconst (-1), 1)) mq_167 ci_167 (List.mem_append_right _ (List.mem_append_left _ (show _ ∈ my_167_1 from List.mem_of_getElem? (i := 39) rfl)))
theorem cd_167_225 : mt_cd 167 225 = some (.istore_n 1) := mt_cd_of (q := (225, .istore_n 1, 1)) mq_167 ci_167 (List.mem_append_right _ (List.mem_append_left _ (show _ ∈ my_167_1 from List.mem_of_getElem? (i := 40) rfl)))
theorem cd_167_226 : mt_cd 167 226 = some (.iload_n 1) := mt_cd_of (q := (226, .iload_n 1, 1)) mq_167 ci_167 (List.mem_append_right _ (List.mem_append_left _ (show _ ∈ my_167_1 from List.mem_of_getElem? (i := 41) rfl)))
theorem cd_167_227 : mt_cd 167 227 = some (.ifCond .ge 14) := mt_cd_of (q := (227, .ifCond .ge 14, 3)) mq_167 ci_167 (List.mem_append_right _ (List.mem_append_left _ (show _ ∈ my_167_1 from List.mem_of_getElem? (i := 42) rfl)))
theorem cd_167_230 : mt_cd 167 230 = some (.aload_n 0) := mt_cd_of (q := (230, .aload_n 0, 1)) mq_167 ci_167 (List.mem_append_right _ (List.mem_append_left _ (show _ ∈ my_167_1 from List.mem_of_getElem? (i := 43) rfl)))
theorem cd_167_231 : mt_cd 167 231 = some (.aload_n 0) := mt_cd_of (q := (231, .aload_n 0, 1)) mq_167 ci_167 (List.mem_append_right _ (List.mem_append_left _ (show _ ∈ my_167_1 from List.mem_of_getElem? (i := 44) rfl)))
theorem cd_167_232 : mt_cd 167 232 = some (.getfield 299) := mt_cd_of (q := (232, .getfield 299, 3)) mq_167 ci_167 (List.mem_append_right _ (List.mem_append_left _ (show _ ∈ my_167_1 from List.mem_of_getElem? (i := 45) rfl)))
theorem cd_167_235 : mt_cd 167 235 = some (.invokevirtual 272) := mt_cd_of (q := (235, .invokevirtual 272, 3)) mq_167 ci_167 (List.mem_append_right _ (List.mem_append_left _ (show _ ∈ my_167_1 from List.mem_of_getElem? (i := 46) rfl)))
theorem cd_167_238 : mt_cd 167 238 = some (.pop) := mt_cd_of (q := (238, .pop, 1)) mq_167 ci_167 (List.mem_append_right _ (List.mem_append_left _ (show _ ∈ my_167_1 from List.mem_of_getElem? (i := 47) rfl)))
theorem cd_167_239 : mt_cd 167 239 = some (.iconst (-1)) := mt_cd_of (q := (239, .iconst (-1), 1)) mq_167 ci_167 (List.mem_append_right _ (List.mem_append_left _ (show _ ∈ my_167_1 from List.mem_of_getElem? (i := 48) rfl)))
theorem cd_167_240 : mt_cd 167 240 = some (.ireturn) := mt_cd_of (q := (240, .ireturn, 1)) mq_167 ci_167 (List.mem_append_right _ (List.mem_append_left _ (show _ ∈ my_167_1 from List.mem_of_getElem? (i := 49) rfl)))
theorem cd_167_241 : mt_cd 167 241 = some (.aload_n 0) := mt_cd_of (q := (241, .aload_n 0, 1)) mq_167 ci_167 (List.mem_append_right _ (List.mem_append_left _ (show _ ∈ my_167_1 from List.mem_of_getElem? (i := 50) rfl)))
theorem cd_167_242 : mt_cd 167 242 = some (.invokevirtual 378) := mt_cd_of (q := (242, .invokevirtual 378, 3)) mq_167 ci_167 (List.mem_append_right _ (List.mem_append_left _ (show _ ∈ my_167_1 from List.mem_of_getElem? (i := 51) rfl)))
theorem cd_167_245 : mt_cd 167 245 = some (.ifCond .ne 5) := mt_cd_of (q := (245, .ifCond .ne 5, 3)) mq_167 ci_167 (List.mem_append_right _ (List.mem_append_left _ (show _ ∈ my_167_1 from List.mem_of_getElem? (i := 52) rfl)))
theorem cd_167_248 : mt_cd 167 248 = some (.iconst (-1)) := mt_cd_of (q := (248, .iconst (-1), 1)) mq_167 ci_167 (List.mem_append_right _ (List.mem_append_left _ (show _ ∈ my_167_1 from List.mem_of_getElem? (i := 53) rfl)))
theorem cd_167_249 : mt_cd 167 249 = some (.ireturn) := mt_cd_of (q := (249, .ireturn, 1)) mq_167 ci_167 (List.mem_append_right _ (List.mem_append_left _ (show _ ∈ my_167_1 from List.mem_of_getElem? (i := 54) rfl)))
theorem cd_167_250 : mt_cd 167 250 = some (.aload_n 0) := mt_cd_of (q := (250, .aload_n 0, 1)) mq_167 ci_167 (List.mem_append_right _ (List.mem_append_left _ (show _ ∈ my_167_1 from List.mem_of_getElem? (i := 55) rfl)))
theorem cd_167_251 : mt_cd 167 251 = some (.iload_n 1) := mt_cd_of (q := (251, .iload_n 1, 1)) mq_167 ci_167 (List.mem_append_right _ (List.mem_append_left _ (show _ ∈ my_167_1 from List.mem_of_getElem? (i := 56) rfl)))
theorem cd_167_252 : mt_cd 167 252 = some (.invokevirtual 390) := mt_cd_of (q := (252, .invokevirtual 390, 3)) mq_167 ci_167 (List.mem_append_right _ (List.mem_append_left _ (show _ ∈ my_167_1 from List.mem_of_getElem? (i := 57) rfl)))
theorem cd_167_255 : mt_cd 167 255 = some (.istore_n 2) := mt_cd_of (q := (255, .istore_n 2, 1)) mq_167 ci_167 (List.mem_append_right _ (List.mem_append_left _ (show _ ∈ my_167_1 from List.mem_of_getElem? (i := 58) rfl)))
theorem cd_167_256 : mt_cd 167 256 = some (.iload_n 2) := mt_cd_of (q := (256, .iload_n 2, 1)) mq_167 ci_167 (List.mem_append_right _ (List.mem_append_left _ (show _ ∈ my_167_1 from List.mem_of_getElem? (i := 59) rfl)))
theorem cd_167_257 : mt_cd 167 257 = some (.ifCond .lt 14) := mt_cd_of (q := (257, .ifCond .lt 14, 3)) mq_167 ci_167 (List.mem_append_right _ (List.mem_append_right _ (List.mem_append_left _ (show _ ∈ my_167_2 from List.mem_of_getElem? (i := 0) rfl))))
theorem cd_167_260 : mt_cd 167 260 = some (.aload_n 0) := mt_cd_of (q := (260, .aload_n 0, 1)) mq_167 ci_167 (List.mem_append_right _ (List.mem_append_right _ (List.mem_append_left _ (show _ ∈ my_167_2 from List.mem_of_getElem? (i := 1) rfl))))
theorem cd_167_261 : mt_cd 167 261 = some (.invokevirtual 333) := mt_cd_of (q := (261, .invokevirtual 333, 3)) mq_167 ci_167 (List.mem_append_right _ (List.mem_append_right _ (List.mem_append_left _ (show _ ∈ my_167_2 from List.mem_of_getElem? (i := 2) rfl))))
theorem cd_167_264 : mt_cd 167 264 = some (.ifCond .eq 7) := mt_cd_of (q := (264, .ifCond .eq 7, 3)) mq_167 ci_167 (List.mem_append_right _ (List.mem_append_right _ (List.mem_append_left _ (show _ ∈ my_167_2 from List.mem_of_getElem? (i := 3) rfl))))
theorem cd_167_267 : mt_cd 167 267 = some (.iconst 1) := mt_cd_of (q := (267, .iconst 1, 1)) mq_167 ci_167 (List.mem_append_right _ (List.mem_append_right _ (List.mem_append_left _ (show _ ∈ my_167_2 from List.mem_of_getElem? (i := 4) rfl))))
theorem cd_167_268 : mt_cd 167 268 = some (.goto 4) := mt_cd_of (q := (268, .goto 4, 3)) mq_167 ci_167 (List.mem_append_right _ (List.mem_append_right _ (List.mem_append_left _ (show _ ∈ my_167_2 from List.mem_of_getElem? (i := 5) rfl))))
theorem cd_167_271 : mt_cd 167 271 = some (.iconst 0) := mt_cd_of (q := (271, .iconst 0, 1)) mq_167 ci_167 (List.mem_append_right _ (List.mem_append_right _ (List.mem_append_left _ (show _ ∈ my_167_2 from List.mem_of_getElem? (i := 6) rfl))))
theorem cd_167_272 : mt_cd 167 272 = some (.istore_n 3) := mt_cd_of (q := (272, .istore_n 3, 1)) mq_167 ci_167 (List.mem_append_right _ (List.mem_append_right _ (List.mem_append_left _ (show _ ∈ my_167_2 from List.mem_of_getElem? (i := 7) rfl))))
theorem cd_167_273 : mt_cd 167 273 = some (.iload_n 3) := mt_cd_of (q := (273, .iload_n 3, 1)) mq_167 ci_167 (List.mem_append_right _ (List.mem_append_right _ (List.mem_append_left _ (show _ ∈ my_167_2 from List.mem_of_getElem? (i := 8) rfl))))
theorem cd_167_274 : mt_cd 167 274 = some (.ifCond .eq 162) := mt_cd_of (q := (274, .ifCond .eq 162, 3)) mq_167 ci_167 (List.mem_append_right _ (List.mem_append_right _ (List.mem_append_left _ (show _ ∈ my_167_2 from List.mem_of_getElem? (i := 9) rfl))))
theorem cd_167_277 : mt_cd 167 277 = some (.iload_n 1) := mt_cd_of (q := (277, .iload_n 1, 1)) mq_167 ci_167 (List.mem_append_right _ (List.mem_append_right _ (List.mem_append_left _ (show _ ∈ my_167_2 from List.mem_of_getElem? (i := 10) rfl))))
theorem cd_167_278 : mt_cd 167 278 = some (.tableswitch 124 22 27 #[121, 121, 38, 38, 75, 98]) := mt_cd_of (q := (278, .tableswitch 124 22 27 #[121, 121, 38, 38, 75, 98], 38)) mq_167 ci_167 (List.mem_append_right _ (List.mem_append_right _ (List.mem_append_left _ (show _ ∈ my_167_2 from List.mem_of_getElem? (i := 11) rfl))))
theorem cd_167_316 : mt_cd 167 316 = some (.aload_n 0) := mt_cd_of (q := (316, .aload_n 0, 1)) mq_167 ci_167 (List.mem_append_right _ (List.mem_append_right _ (List.mem_append_left _ (show _ ∈ my_167_2 from List.mem_of_getElem? (i := 12) rfl))))
theorem cd_167_317 : mt_cd 167 317 = some (.getfield 80) := mt_cd_of (q := (317, .getfield 80, 3)) mq_167 ci_167 (List.mem_append_right _ (List.mem_append_right _ (List.mem_append_left _ (show _ ∈ my_167_2 from List.mem_of_getElem? (i := 13) rfl))))
theorem cd_167_320 : mt_cd 167 320 = some (.iload_n 2) := mt_cd_of (q := (320, .iload_n 2, 1)) mq_167 ci_167 (List.mem_append_right _ (List.mem_append_right _ (List.mem_append_left _ (show _ ∈ my_167_2 from List.mem_of_getElem? (i := 14) rfl))))
theorem cd_167_321 : mt_cd 167 321 = some (.aload_n 0) := mt_cd_of (q := (321, .aload_n 0, 1)) mq_167 ci_167 (List.mem_append_right _ (List.mem_append_right _ (List.mem_append_left _ (show _ ∈ my_167_2 from List.mem_of_getElem? (i := 15) rfl))))
theorem cd_167_322 : mt_cd 167 322 = some (.invokevirtual 401) := mt_cd_of (q := (322, .invokevirtual 401, 3)) mq_167 ci_167 (List.mem_append_right _ (List.mem_append_right _ (List.mem_append_left _ (show _ ∈ my_167_2 from List.mem_of_getElem? (i := 16) rfl))))
theorem cd_167_325 : mt_cd 167 325 = some (.dup_x2) := mt_cd_of (q := (325, .dup_x2, 1)) mq_167 ci_167 (List.mem_append_right _ (List.mem_append_right _ (List.mem_append_left _ (show _ ∈ my_167_2 from List.mem_of_getElem? (i := 17) rfl))))
theorem cd_167_326 : mt_cd 167 326 = some (.iastore) := mt_cd_of (q := (326, .iastore, 1)) mq_167 ci_167 (List.mem_append_right _ (List.mem_append_right _ (List.mem_append_left _ (show _ ∈ my_167_2 from List.mem_of_getElem? (i := 18) rfl))))
theorem cd_167_327 : mt_cd 167 327 = some (.ifCond .lt 21) := mt_cd_of (q := (327, .ifCond .lt 21, 3)) mq_167 ci_167 (List.mem_append_right _ (List.mem_append_right _ (List.mem_append_left _ (show _ ∈ my_167_2 from List.mem_of_getElem? (i := 19) rfl))))
theorem cd_167_330 : mt_cd 167 330 = some (.aload_n 0) := mt_cd_of (q := (330, .aload_n 0, 1)) mq_167 ci_167 (List.mem_append_right _ (List.mem_append_right _ (List.mem_append_left _ (show _ ∈ my_167_2 from List.mem_of_getElem? (i := 20) rfl))))
theorem cd_167_331 : mt_cd 167 331 = some (.getfield 83) := mt_cd_of (q := (331, .getfield 83, 3)) mq_167 ci_167 (List.mem_append_right _ (List.mem_append_right _ (List.mem_append_left _ (show _ ∈ my_167_2 from List.mem_of_getElem? (i := 21) rfl))))
theorem cd_167_334 : mt_cd 167 334 = some (.iload_n 2) := mt_cd_of (q := (334, .iload_n 2, 1)) mq_167 ci_167 (List.mem_append_right _ (List.mem_append_right _ (List.mem_append_left _ (show _ ∈ my_167_2 from List.mem_of_getElem? (i := 22) rfl))))
theorem cd_167_335 : mt_cd 167 335 = some (.aload_n 0) := mt_cd_of (q := (335, .aload_n 0, 1)) mq_167 ci_167 (List.mem_append_right _ (List.mem_append_right _ (List.mem_append_left _ (show _ ∈ my_167_2 from List.mem_of_getElem? (i := 23) rfl))))
theorem cd_167_336 : mt_cd 167 336 = some (.invokevirtual 401) := mt_cd_of (q := (336, .invokevirtual 401, 3)) mq_167 ci_167 (List.mem_append_right _ (List.mem_append_right _ (List.mem_append_left _ (show _ ∈ my_167_2 from List.mem_of_getElem? (i := 24) rfl))))
theorem cd_167_339 : mt_cd 167 339 = some (.dup_x2) := mt_cd_of (q := (339, .dup_x2, 1)) mq_167 ci_167 (List.mem_append_right _ (List.mem_append_right _ (List.mem_append_left _ (show _ ∈ my_167_2 from List.mem_of_getElem? (i := 25) rfl))))
theorem cd_167_340 : mt_cd 167 340 = some (.iastore) := mt_cd_of (q := (340, .iastore, 1)) mq_167 ci_167 (List.mem_append_right _ (List.mem_append_right _ (List.mem_append_left _ (show _ ∈ my_167_2 from List.mem_of_getElem? (i := 26) rfl))))
theorem cd_167_341 : mt_cd 167 341 = some (.ifCond .lt 7) := mt_cd_of (q := (341, .ifCond .lt 7, 3)) mq_167 ci_167 (List.mem_append_right _ (List.mem_append_right _ (List.mem_append_left _ (show _ ∈ my_167_2 from List.mem_of_getElem? (i := 27) rfl))))
theorem cd_167_344 : mt_cd 167 344 = some (.iconst 1) := mt_cd_of (q := (344, .iconst 1, 1)) mq_167 ci_167 (List.mem_append_right _ (List.mem_append_right _ (List.mem_append_left _ (show _ ∈ my_167_2 from List.mem_of_getElem? (i := 28) rfl))))
theorem cd_167_345 : mt_cd 167 345 = some (.goto 4) := mt_cd_of (q := (345, .goto 4, 3)) mq_167 ci_167 (List.mem_append_right _ (List.mem_append_right _ (List.mem_append_left _ (show _ ∈ my_167_2 from List.mem_of_getElem? (i := 29) rfl))))
theorem cd_167_348 : mt_cd 167 348 = some (.iconst 0) := mt_cd_of (q := (348, .iconst 0, 1)) mq_167 ci_167 (List.mem_append_right _ (List.mem_append_right _ (List.mem_append_left _ (show _ ∈ my_167_2 from List.mem_of_getElem? (i := 30) rfl))))
theorem cd_167_349 : mt_cd 167 349 = some (.istore_n 3) := mt_cd_of (q := (349, .istore_n 3, 1)) mq_167 ci_167 (List.mem_append_right _ (List.mem_append_right _ (List.mem_append_left _ (show _ ∈ my_167_2 from List.mem_of_getElem? (i := 31) rfl))))
theorem cd_167_350 : mt_cd 167 350 = some (.goto 86) := mt_cd_of (q := (350, .goto 86, 3)) mq_167 ci_167 (List.mem_append_right _ (List.mem_append_right _ (List.mem_append_left _ (show _ ∈ my_167_2 from List.mem_of_getElem? (i := 32) rfl))))
theorem cd_167_353 : mt_cd 167 353 = some (.aload_n 0) := mt_cd_of (q := (353, .aload_n 0, 1)) mq_167 ci_167 (List.mem_append_right _ (List.mem_append_right _ (List.mem_append_left _ (show _ ∈ my_167_2 from List.mem_of_getElem? (i := 33) rfl))))
theorem cd_167_354 : mt_cd 167 354 = some (.getfield 80) := mt_cd_of (q := (354, .getfield 80, 3)) mq_167 ci_167 (List.mem_append_right _ (List.mem_append_right _ (List.mem_append_left _ (show _ ∈ my_167_2 from List.mem_of_getElem? (i := 34) rfl))))
theorem cd_167_357 : mt_cd 167 357 = some (.iload_n 2) := mt_cd_of (q := (357, .iload_n 2, 1)) mq_167 ci_167 (List.mem_append_right _ (List.mem_append_right _ (List.mem_append_left _ (show _ ∈ my_167_2 from List.mem_of_getElem? (i := 35) rfl))))
theorem cd_167_358 : mt_cd 167 358 = some (.aload_n 0) := mt_cd_of (q := (358, .aload_n 0, 1)) mq_167 ci_167 (List.mem_append_right _ (List.mem_append_right _ (List.mem_append_left _ (show _ ∈ my_167_2 from List.mem_of_getElem? (i := 36) rfl))))
theorem cd_167_359 : mt_cd 167 359 = some (.invokevirtual 401) := mt_cd_of (q := (359, .invokevirtual 401, 3)) mq_167 ci_167 (List.mem_append_right _ (List.mem_append_right _ (List.mem_append_left _ (show _ ∈ my_167_2 from List.mem_of_getElem? (i := 37) rfl))))
theorem cd_167_362 : mt_cd 167 362 = some (.dup_x2) := mt_cd_of (q := (362, .dup_x2, 1)) mq_167 ci_167 (List.mem_append_right _ (List.mem_append_right _ (List.mem_append_left _ (show _ ∈ my_167_2 from List.mem_of_getElem? (i := 38) rfl))))
theorem cd_167_363 : mt_cd 167 363 = some (.iastore) := mt_cd_of (q := (363, .iastore, 1)) mq_167 ci_167 (List.mem_append_right _ (List.mem_append_right _ (List.mem_append_left _ (show _ ∈ my_167_2 from List.mem_of_getElem? (i := 39) rfl))))
theorem cd_167_364 : mt_cd 167 364 = some (.ifCond .lt 7) := mt_cd_of (q := (364, .ifCond .lt 7, 3)) mq_167 ci_167 (List.mem_append_right _ (List.mem_append_right _ (List.mem_append_left _ (show _ ∈ my_167_2 from List.mem_of_getElem? (i := 40) rfl))))
theorem cd_167_367 : mt_cd 167 367 = some (.iconst 1) := mt_cd_of (q := (367, .iconst 1, 1)) mq_167 ci_167 (List.mem_append_right _ (List.mem_append_right _ (List.mem_append_left _ (show _ ∈ my_167_2 from List.mem_of_getElem? (i := 41) rfl))))
theorem cd_167_368 : mt_cd 167 368 = some (.goto 4) := mt_cd_of (q := (368, .goto 4, 3)) mq_167 ci_167 (List.mem_append_right _ (List.mem_append_right _ (List.mem_append_left _ (show _ ∈ my_167_2 from List.mem_of_getElem? (i := 42) rfl))))
theorem cd_167_371 : mt_cd 167 371 = some (.iconst 0) := mt_cd_of (q := (371, .iconst 0, 1)) mq_167 ci_167 (List.mem_append_right _ (List.mem_append_right _ (List.mem_append_left _ (show _ ∈ my_167_2 from List.mem_of_getElem? (i := 43) rfl))))
theorem cd_167_372 : mt_cd 167 372 = some (.istore_n 3) := mt_cd_of (q := (372, .istore_n 3, 1)) mq_167 ci_167 (List.mem_append_right _ (List.mem_append_right _ (List.mem_append_left _ (show _ ∈ my_167_2 from List.mem_of_getElem? (i := 44) rfl))))
theorem cd_167_373 : mt_cd 167 373 = some (.goto 63) := mt_cd_of (q := (373, .goto 63, 3)) mq_167 ci_167 (List.mem_append_right _ (List.mem_append_right _ (List.mem_append_left _ (show _ ∈ my_167_2 from List.mem_of_getElem? (i := 45) rfl))))
theorem cd_167_376 : mt_cd 167 376 = some (.aload_n 0) := mt_cd_of (q := (376, .aload_n 0, 1)) mq_167 ci_167 (List.mem_append_right _ (List.mem_append_right _ (List.mem_append_left _ (show _ ∈ my_167_2 from List.mem_of_getElem? (i := 46) rfl))))
theorem cd_167_377 : mt_cd 167 377 = some (.getfield 80) := mt_cd_of (q := (377, .getfield 80, 3)) mq_167 ci_167 (List.mem_append_right _ (List.mem_append_right _ (List.mem_append_left _ (show _ ∈ my_167_2 from List.mem_of_getElem? (i := 47) rfl))))
theorem cd_167_380 : mt_cd 167 380 = some (.iload_n 2) := mt_cd_of (q := (380, .iload_n 2, 1)) mq_167 ci_167 (List.mem_append_right _ (List.mem_append_right _ (List.mem_append_left _ (show _ ∈ my_167_2 from List.mem_of_getElem? (i := 48) rfl))))
theorem cd_167_381 : mt_cd 167 381 = some (.aload_n 0) := mt_cd_of (q := (381, .aload_n 0, 1)) mq_167 ci_167 (List.mem_append_right _ (List.mem_append_right _ (List.mem_append_left _ (show _ ∈ my_167_2 from List.mem_of_getElem? (i := 49) rfl))))
theorem cd_167_382 : mt_cd 167 382 = some (.invokevirtual 416) := mt_cd_of (q := (382, .invokevirtual 416, 3)) mq_167 ci_167 (List.mem_append_right _ (List.mem_append_right _ (List.mem_append_left _ (show _ ∈ my_167_2 from List.mem_of_getElem? (i := 50) rfl))))
theorem cd_167_385 : mt_cd 167 385 = some (.dup_x2) := mt_cd_of (q := (385, .dup_x2, 1)) mq_167 ci_167 (List.mem_append_right _ (List.mem_append_right _ (List.mem_append_left _ (show _ ∈ my_167_2 from List.mem_of_getElem? (i := 51) rfl))))
theorem cd_167_386 : mt_cd 167 386 = some (.iastore) := mt_cd_of (q := (386, .iastore, 1)) mq_167 ci_167 (List.mem_append_right _ (List.mem_append_right _ (List.mem_append_left _ (show _ ∈ my_167_2 from List.mem_of_getElem? (i := 52) rfl))))
theorem cd_167_387 : mt_cd 167 387 = some (.ifCond .lt 7) := mt_cd_of (q := (387, .ifCond .lt 7, 3)) mq_167 ci_167 (List.mem_append_right _ (List.mem_append_right _ (List.mem_append_left _ (show _ ∈ my_167_2 from List.mem_of_getElem? (i := 53) rfl))))
theorem cd_167_390 : mt_cd 167 390 = some (.iconst 1) := mt_cd_of (q := (390, .iconst 1, 1)) mq_167 ci_167 (List.mem_append_right _ (List.mem_append_right _ (List.mem_append_left _ (show _ ∈ my_167_2 from List.mem_of_getElem? (i := 54) rfl))))
theorem cd_167_391 : mt_cd 167 391 = some (.goto 4) := mt_cd_of (q := (391, .goto 4, 3)) mq_167 ci_167 (List.mem_append_right _ (List.mem_append_right _ (List.mem_append_left _ (show _ ∈ my_167_2 from List.mem_of_getElem? (i := 55) rfl))))
theorem cd_167_394 : mt_cd 167 394 = some (.iconst 0) := mt_cd_of (q := (394, .iconst 0, 1)) mq_167 ci_167 (List.mem_append_right _ (List.mem_append_right _ (List.mem_append_left _ (show _ ∈ my_167_2 from List.mem_of_getElem? (i := 56) rfl))))
theorem cd_167_395 : mt_cd 167 395 = some (.istore_n 3) := mt_cd_of (q := (395, .istore_n 3, 1)) mq_167 ci_167 (List.mem_append_right _ (List.mem_append_right _ (List.mem_append_left _ (show _ ∈ my_167_2 from List.mem_of_getElem? (i := 57) rfl))))
theorem cd_167_396 : mt_cd 167 396 = some (.goto 40) := mt_cd_of (q := (396, .goto 40, 3)) mq_167 ci_167 (List.mem_append_right _ (List.mem_append_right _ (List.mem_append_left _ (show _ ∈ my_167_2 from List.mem_of_getElem? (i := 58) rfl))))
theorem cd_167_399 : mt_cd 167 399 = some (.goto 37) := mt_cd_of (q := (399, .goto 37, 3)) mq_167 ci_167 (List.mem_append_right _ (List.mem_append_right _ (List.mem_append_left _ (show _ ∈ my_167_2 from List.mem_of_getElem? (i := 59) rfl))))
theorem cd_167_402 : mt_cd 167 402 = some (.aload_n 0) := mt_cd_of (q := (402, .aload_n 0, 1)) mq_167 ci_167 (List.mem_append_right _ (List.mem_append_right _ (List.mem_append_right _ ((show _ ∈ my_167_3 from List.mem_of_getElem? (i := 0) rfl)))))
theorem cd_167_403 : mt_cd 167 403 = some (.getfield 80) := mt_cd_of (q := (403, .getfield 80, 3)) mq_167 ci_167 (List.mem_append_right _ (List.mem_append_right _ (List.mem_append_right _ ((show _ ∈ my_167_3 from List.mem_of_getElem? (i := 1) rfl)))))
theorem cd_167_406 : mt_cd 167 406 = some (.iload_n 2) := mt_cd_of (q := (406, .iload_n 2, 1)) mq_167 ci_167 (List.mem_append_right _ (List.mem_append_right _ (List.mem_append_right _ ((show _ ∈ my_167_3 from List.mem_of_getElem? (i := 2) rfl)))))
theorem cd_167_407 : mt_cd 167 407 = some (.aload_n 0) := mt_cd_of (q := (407, .aload_n 0, 1)) mq_167 ci_167 (List.mem_append_right _ (List.mem_append_right _ (List.mem_append_right _ ((show _ ∈ my_167_3 from List.mem_of_getElem? (i := 3) rfl)))))
theorem cd_167_408 : mt_cd 167 408 = some (.invokevirtual 399) := mt_cd_of (q := (408, .invokevirtual 399, 3)) mq_167 ci_167 (List.mem_append_right _ (List.mem_append_right _ (List.mem_append_right _ ((show _ ∈ my_167_3 from List.mem_of_getElem? (i := 4) rfl)))))
theorem cd_167_411 : mt_cd 167 411 = some (.dup_x2) := mt_cd_of (q := (411, .dup_x2, 1)) mq_167 ci_167 (List.mem_append_right _ (List.mem_append_right _ (List.mem_append_right _ ((show _ ∈ my_167_3 from List.mem_of_getElem? (i := 5) rfl)))))
theorem cd_167_412 : mt_cd 167 412 = some (.iastore) := mt_cd_of (q := (412, .iastore, 1)) mq_167 ci_167 (List.mem_append_right _ (List.mem_append_right _ (List.mem_append_right _ ((show _ ∈ my_167_3 from List.mem_of_getElem? (i := 6) rfl)))))
theorem cd_167_413 : mt_cd 167 413 = some (.ifCond .lt 21) := mt_cd_of (q := (413, .ifCond .lt 21, 3)) mq_167 ci_167 (List.mem_append_right _ (List.mem_append_right _ (List.mem_append_right _ ((show _ ∈ my_167_3 from List.mem_of_getElem? (i := 7) rfl)))))
theorem cd_167_416 : mt_cd 167 416 = some (.aload_n 0) := mt_cd_of (q := (416, .aload_n 0, 1)) mq_167 ci_167 (List.mem_append_right _ (List.mem_append_right _ (List.mem_append_right _ ((show _ ∈ my_167_3 from List.mem_of_getElem? (i := 8) rfl)))))
theorem cd_167_417 : mt_cd 167 417 = some (.getfield 83) := mt_cd_of (q := (417, .getfield 83, 3)) mq_167 ci_167 (List.mem_append_right _ (List.mem_append_right _ (List.mem_append_right _ ((show _ ∈ my_167_3 from List.mem_of_getElem? (i := 9) rfl)))))
theorem cd_167_420 : mt_cd 167 420 = some (.iload_n 2) := mt_cd_of (q := (420, .iload_n 2, 1)) mq_167 ci_167 (List.mem_append_right _ (List.mem_append_right _ (List.mem_append_right _ ((show _ ∈ my_167_3 from List.mem_of_getElem? (i := 10) rfl)))))
theorem cd_167_421 : mt_cd 167 421 = some (.aload_n 0) := mt_cd_of (q := (421, .aload_n 0, 1)) mq_167 ci_167 (List.mem_append_right _ (List.mem_append_right _ (List.mem_append_right _ ((show _ ∈ my_167_3 from List.mem_of_getElem? (i := 11) rfl)))))
theorem cd_167_422 : mt_cd 167 422 = some (.invokevirtual 399) := mt_cd_of (q := (422, .invokevirtual 399, 3)) mq_167 ci_167 (List.mem_append_right _ (List.mem_append_right _ (List.mem_append_right _ ((show _ ∈ my_167_3 from List.mem_of_getElem? (i := 12) rfl)))))
theorem cd_167_425 : mt_cd 167 425 = some (.dup_x2) := mt_cd_of (q := (425, .dup_x2, 1)) mq_167 ci_167 (List.mem_append_right _ (List.mem_append_right _ (List.mem_append_right _ ((show _ ∈ my_167_3 from List.mem_of_getElem? (i := 13) rfl)))))
theorem cd_167_426 : mt_cd 167 426 = some (.iastore) := mt_cd_of (q := (426, .iastore, 1)) mq_167 ci_167 (List.mem_append_right _ (List.mem_append_right _ (List.mem_append_right _ ((show _ ∈ my_167_3 from List.mem_of_getElem? (i := 14) rfl)))))
theorem cd_167_427 : mt_cd 167 427 = some (.ifCond .lt 7) := mt_cd_of (q := (427, .ifCond .lt 7, 3)) mq_167 ci_167 (List.mem_append_right _ (List.mem_append_right _ (List.mem_append_right _ ((show _ ∈ my_167_3 from List.mem_of_getElem? (i := 15) rfl)))))
theorem cd_167_430 : mt_cd 167 430 = some (.iconst 1) := mt_cd_of (q := (430, .iconst 1, 1)) mq_167 ci_167 (List.mem_append_right _ (List.mem_append_right _ (List.mem_append_right _ ((show _ ∈ my_167_3 from List.mem_of_getElem? (i := 16) rfl)))))
theorem cd_167_431 : mt_cd 167 431 = some (.goto 4) := mt_cd_of (q := (431, .goto 4, 3)) mq_167 ci_167 (List.mem_append_right _ (List.mem_append_right _ (List.mem_append_right _ ((show _ ∈ my_167_3 from List.mem_of_getElem? (i := 17) rfl)))))
theorem cd_167_434 : mt_cd 167 434 = some (.iconst 0) := mt_cd_of (q := (434, .iconst 0, 1)) mq_167 ci_167 (List.mem_append_right _ (List.mem_append_right _ (List.mem_append_right _ ((show _ ∈ my_167_3 from List.mem_of_getElem? (i := 18) rfl)))))
theorem cd_167_435 : mt_cd 167 435 = some (.istore_n 3) := mt_cd_of (q := (435, .istore_n 3, 1)) mq_167 ci_167 (List.mem_append_right _ (List.mem_append_right _ (List.mem_append_right _ ((show _ ∈ my_167_3 from List.mem_of_getElem? (i := 19) rfl)))))
theorem cd_167_436 : mt_cd 167 436 = some (.aload_n 0) := mt_cd_of (q := (436, .aload_n 0, 1)) mq_167 ci_167 (List.mem_append_right _ (List.mem_append_right _ (List.mem_append_right _ ((show _ ∈ my_167_3 from List.mem_of_getElem? (i := 20) rfl)))))
theorem cd_167_437 : mt_cd 167 437 = some (.dup) := mt_cd_of (q := (437, .dup, 1)) mq_167 ci_167 (List.mem_append_right _ (List.mem_append_right _ (List.mem_append_right _ ((show _ ∈ my_167_3 from List.mem_of_getElem? (i := 21) rfl)))))
theorem cd_167_438 : mt_cd 167 438 = some (.getfield 337) := mt_cd_of (q := (438, .getfield 337, 3)) mq_167 ci_167 (List.mem_append_right _ (List.mem_append_right _ (List.mem_append_right _ ((show _ ∈ my_167_3 from List.mem_of_getElem? (i := 22) rfl)))))
theorem cd_167_441 : mt_cd 167 441 = some (.iconst 1) := mt_cd_of (q := (441, .iconst 1, 1)) mq_167 ci_167 (List.mem_append_right _ (List.mem_append_right _ (List.mem_append_right _ ((show _ ∈ my_167_3 from List.mem_of_getElem? (i := 23) rfl)))))
theorem cd_167_442 : mt_cd 167 442 = some (.isub) := mt_cd_of (q := (442, .isub, 1)) mq_167 ci_167 (List.mem_append_right _ (List.mem_append_right _ (List.mem_append_right _ ((show _ ∈ my_167_3 from List.mem_of_getElem? (i := 24) rfl)))))
theorem cd_167_443 : mt_cd 167 443 = some (.putfield 337) := mt_cd_of (q := (443, .putfield 337, 3)) mq_167 ci_167 (List.mem_append_right _ (List.mem_append_right _ (List.mem_append_right _ ((show _ ∈ my_167_3 from List.mem_of_getElem? (i := 25) rfl)))))
theorem cd_167_446 : mt_cd 167 446 = some (.iload_n 3) := mt_cd_of (q := (446, .iload_n 3, 1)) mq_167 ci_167 (List.mem_append_right _ (List.mem_append_right _ (List.mem_append_right _ ((show _ ∈ my_167_3 from List.mem_of_getElem? (i := 26) rfl)))))
theorem cd_167_447 : mt_cd 167 447 = some (.ifCond .eq 7) := mt_cd_of (q := (447, .ifCond .eq 7, 3)) mq_167 ci_167 (List.mem_append_right _ (List.mem_append_right _ (List.mem_append_right _ ((show _ ∈ my_167_3 from List.mem_of_getElem? (i := 27) rfl)))))
theorem cd_167_450 : mt_cd 167 450 = some (.iload_n 2) := mt_cd_of (q := (450, .iload_n 2, 1)) mq_167 ci_167 (List.mem_append_right _ (List.mem_append_right _ (List.mem_append_right _ ((show _ ∈ my_167_3 from List.mem_of_getElem? (i := 28) rfl)))))
theorem cd_167_451 : mt_cd 167 451 = some (.goto 4) := mt_cd_of (q := (451, .goto 4, 3)) mq_167 ci_167 (List.mem_append_right _ (List.mem_append_right _ (List.mem_append_right _ ((show _ ∈ my_167_3 from List.mem_of_getElem? (i := 29) rfl)))))
theorem cd_167_454 : mt_cd 167 454 = some (.iconst (-1)) := mt_cd_of (q := (454, .iconst (-1), 1)) mq_167 ci_167 (List.mem_append_right _ (List.mem_append_right _ (List.mem_append_right _ ((show _ ∈ my_167_3 from List.mem_of_getElem? (i := 30) rfl)))))
theorem cd_167_455 : mt_cd 167 455 = some (.ireturn) := mt_cd_of (q := (455, .ireturn, 1)) mq_167 ci_167 (List.mem_append_right _ (List.mem_append_right _ (List.mem_append_right _ ((show _ ∈ my_167_3 from List.mem_of_getElem? (i := 31) rfl)))))
theorem b_167_0 {d : Nat} {Q : (Option Value ⊕ Nat) → mi_H → Prop} (n sl : Nat) (f : Nat → mi_C) {l1 : Nat} {o2 : Option Value} {o3 : Option Value} {o4 : Option Value} {fs5 : List Value} (h6 : f l1 = .inr (12, fs5)) (h7 : l1 < n) (h8 : mi_W d 153 0 (mi_en 2 [.ref l1, .ref (mi_SC + 1 + 2 * 40)]) [] (n, sl, f) (mi_Kc d 167 4 [some (.ref l1), o2, o3, o4] [] Q)) : mi_W (d + 1) 167 0 [some (.ref l1), o2, o3, o4] [] (n, sl, f) Q := by
  refine w_aload_n cd_167_0 rfl ?_
  refine w_ldc_w (n := 40) cd_167_1 (by decide +kernel) ?_
  exact w_invokevirtual cd_167_4 (show mt_m 12 375 = some (153, 0) by decide +kernel) (rest := []) rfl (as := [.ref l1, .ref (mi_SC + 1 + 2 * 40)]) rfl h6 (Or.inl h7) ⟨Nat.le_of_ble_eq_true rfl, Nat.le_of_ble_eq_true rfl, Nat.le_of_ble_eq_true rfl⟩ h8
theorem b_167_7 {d : Nat} {Q : (Option Value ⊕ Nat) → mi_H → Prop} (n sl : Nat) (f : Nat → mi_C) {l1 : Nat} {o2 : Option Value} {o3 : Option Value} {o4 : Option Value} {s5 : Int32} (h6 : s5 = (0 : Int32) → mi_W d 167 65 [some (.ref l1), o2, o3, o4] [] (n, sl, f) Q) (h7 : ¬ (s5 = (0 : Int32)) → mi_W d 167 10 [some (.ref l1), o2, o3, o4] [] (n, sl, f) Q) : mi_W d 167 7 [some (.ref l1), o2, o3, o4] [.int s5] (n, sl, f) Q := by
  exact w_ifeq cd_167_7 (by decide) h6 h7
theorem b_167_10 {d : Nat} {Q : (Option Value ⊕ Nat) → mi_H → Prop} (n sl : Nat) (f : Nat → mi_C) {l1 : Nat} {o2 : Option Value} {o3 : Option Value} {o4 : Option Value} {fs5 : List Value} (h6 : f l1 = .inr (12, fs5)) (h7 : l1 < n) (h8 : mi_W d 154 0 (mi_en 1 [.ref l1]) [] (n, sl, f) (mi_Kc d 167 11 [some (.ref l1), o2, o3, o4] [] Q)) : mi_W (d + 1) 167 10 [some (.ref l1), o2, o3, o4] [] (n, sl, f) Q := by
  refine w_aload_n cd_167_10 rfl ?_
  exact w_invokevirtual cd_167_11 (show mt_m 12 378 = some (154, 0) by decide +kernel) (rest := []) rfl (as := [.ref l1]) rfl h6 (Or.inl h7) ⟨Nat.le_of_ble_eq_true rfl, Nat.le_of_ble_eq_true rfl, Nat.le_of_ble_eq_true rfl⟩ h8
theorem b_167_14 {d : Nat} {Q : (Option Value ⊕ Nat) → mi_H → Prop} (n sl : Nat) (f : Nat → mi_C) {l1 : Nat} {o2 : Option Value} {o3 : Option Value} {o4 : Option Value} {s5 : Int32} (h6 : s5 = (0 : Int32) → mi_W d 167 24 [some (.ref l1), o2, o3, o4] [] (n, sl, f) Q) (h7 : ¬ (s5 = (0 : Int32)) → mi_W d 167 17 [some (.ref l1), o2, o3, o4] [] (n, sl, f) Q) : mi_W d 167 14 [some (.ref l1), o2, o3, o4] [.int s5] (n, sl, f) Q := by
  exact w_ifeq cd_167_14 (by decide) h6 h7
theorem b_167_17 {d : Nat} {Q : (Option Value ⊕ Nat) → mi_H → Prop} (n sl : Nat) (f : Nat → mi_C) {l1 : Nat} {o2 : Option Value} {o3 : Option Value} {o4 : Option Value} {fs5 : List Value} (h6 : f l1 = .inr (12, fs5)) (h7 : l1 < n) (h8 : mi_W d 145 0 (mi_en 4 [.ref l1]) [] (n, sl, f) (mi_Kc d 167 18 [some (.ref l1), o2, o3, o4] [] Q)) : mi_W (d + 1) 167 17 [some (.ref l1), o2, o3, o4] [] (n, sl, f) Q := by
  refine w_aload_n cd_167_17 rfl ?_
  exact w_invokevirtual cd_167_18 (show mt_m 12 333 = some (145, 0) by decide +kernel) (rest := []) rfl (as := [.ref l1]) rfl h6 (Or.inl h7) ⟨Nat.le_of_ble_eq_true rfl, Nat.le_of_ble_eq_true rfl, Nat.le_of_ble_eq_true rfl⟩ h8
theorem b_167_21 {d : Nat} {Q : (Option Value ⊕ Nat) → mi_H → Prop} (n sl : Nat) (f : Nat → mi_C) {l1 : Nat} {o2 : Option Value} {o3 : Option Value} {o4 : Option Value} {s5 : Int32} (h6 : ¬ s5 = (0 : Int32) → mi_W d 167 26 [some (.ref l1), o2, o3, o4] [] (n, sl, f) Q) (h7 : ¬ (¬ s5 = (0 : Int32)) → mi_W d 167 24 [some (.ref l1), o2, o3, o4] [] (n, sl, f) Q) : mi_W d 167 21 [some (.ref l1), o2, o3, o4] [.int s5] (n, sl, f) Q := by
  exact w_ifne cd_167_21 (by decide) h6 h7
theorem b_167_24 {d : Nat} {Q : (Option Value ⊕ Nat) → mi_H → Prop} (n sl : Nat) (f : Nat → mi_C) {l1 : Nat} {o2 : Option Value} {o3 : Option Value} {o4 : Option Value} (h5 : Q (.inl (some (.int (-1)))) (n, sl, f)) : mi_W d 167 24 [some (.ref l1), o2, o3, o4] [] (n, sl, f) Q := by
  refine w_iconst (v := (-1)) cd_167_24 (by decide) ?_
  exact w_ireturn_i cd_167_25 (by decide +kernel) h5
theorem b_167_26 {d : Nat} {Q : (Option Value ⊕ Nat) → mi_H → Prop} (n sl : Nat) (f : Nat → mi_C) {l1 : Nat} {o2 : Option Value} {o3 : Option Value} {o4 : Option Value} {fs5 : List Value} (h6 : f l1 = .inr (12, fs5)) (h7 : l1 < n) (h8 : mi_W d 167 0 (mi_en 4 [.ref l1]) [] (n, sl, f) (mi_Kc d 167 27 [some (.ref l1), o2, o3, o4] [] Q)) : mi_W (d + 1) 167 26 [some (.ref l1), o2, o3, o4] [] (n, sl, f) Q := by
  refine w_aload_n cd_167_26 rfl ?_
  exact w_invokevirtual cd_167_27 (show mt_m 12 401 = some (167, 0) by decide +kernel) (rest := []) rfl (as := [.ref l1]) rfl h6 (Or.inl h7) ⟨Nat.le_of_ble_eq_true rfl, Nat.le_of_ble_eq_true rfl, Nat.le_of_ble_eq_true rfl⟩ h8
theorem b_167_30 {d : Nat} {Q : (Option Value ⊕ Nat) → mi_H → Prop} (n sl : Nat) (f : Nat → mi_C) {l1 : Nat} {o2 : Option Value} {o3 : Option Value} {o4 : Option Value} {s5 : Int32} {fs6 : List Value} {x9 : Int32} {fs11 : List Value} (h7 : f l1 = .inr (12, fs6)) (h8 : l1 < n) (h10 : fs6[22]? = some (.int x9)) (h12 : f l1 = .inr (12, fs11)) (h13 : l1 < n) (h14 : 22 < fs11.length) (h15 : s5 < (0 : Int32) → mi_W d 167 63 [some (.ref l1), some (.int s5), o3, o4] [] (n, sl, (va_up f l1 (.inr (12, fs11.set 22 (.int (x9 - 1)))))) Q) (h16 : ¬ (s5 < (0 : Int32)) → mi_W d 167 45 [some (.ref l1), some (.int s5), o3, o4] [] (n, sl, (va_up f l1 (.inr (12, fs11.set 22 (.int (x9 - 1)))))) Q) : mi_W d 167 30 [some (.ref l1), o2, o3, o4] [.int s5] (n, sl, f) Q := by
  refine w_istore_n (ls' := [some (.ref l1), some (.int s5), o3, o4]) cd_167_30 (Nat.le_of_ble_eq_true rfl) rfl ?_
  refine w_aload_n cd_167_31 rfl ?_
  refine w_dup_r cd_167_32 ?_
  refine w_getfield cd_167_33 (show mt_f 12 337 = some (12, 22) by decide +kernel) h7 h8 h10 ?_
  refine w_iconst (v := 1) cd_167_36 (by decide) ?_
  refine w_isub cd_167_37 ?_
  refine w_putfield (w := .int (x9 - 1)) cd_167_38 (show mt_f 12 337 = some (12, 22) by decide +kernel) h12 h13 ⟨h14, rfl, Or.inl (by decide)⟩ ?_
  refine w_iload_n cd_167_41 rfl ?_
  exact w_iflt cd_167_42 (by decide) h15 h16
theorem b_167_45 {d : Nat} {Q : (Option Value ⊕ Nat) → mi_H → Prop} (n sl : Nat) (f : Nat → mi_C) {l1 : Nat} {l2 : Int32} {o3 : Option Value} {o4 : Option Value} {fs5 : List Value} (h6 : f l1 = .inr (12, fs5)) (h7 : l1 < n) (h8 : mi_W d 153 0 (mi_en 2 [.ref l1, .ref (mi_SC + 1 + 2 * 41)]) [] (n, sl, f) (mi_Kc d 167 50 [some (.ref l1), some (.int l2), o3, o4] [.ref l1] Q)) : mi_W (d + 1) 167 45 [some (.ref l1), some (.int l2), o3, o4] [] (n, sl, f) Q := by
  refine w_aload_n cd_167_45 rfl ?_
  refine w_aload_n cd_167_46 rfl ?_
  refine w_ldc_w (n := 41) cd_167_47 (by decide +kernel) ?_
  exact w_invokevirtual cd_167_50 (show mt_m 12 375 = some (153, 0) by decide +kernel) (rest := [.ref l1]) rfl (as := [.ref l1, .ref (mi_SC + 1 + 2 * 41)]) rfl h6 (Or.inl h7) ⟨Nat.le_of_ble_eq_true rfl, Nat.le_of_ble_eq_true rfl, Nat.le_of_ble_eq_true rfl⟩ h8
theorem b_167_53 {d : Nat} {Q : (Option Value ⊕ Nat) → mi_H → Prop} (n sl : Nat) (f : Nat → mi_C) {l1 : Nat} {l2 : Int32} {o3 : Option Value} {o4 : Option Value} {s5 : Int32} {s6 : Nat} {fs7 : List Value} (h8 : f s6 = .inr (12, fs7)) (h9 : s6 < n) (h10 : mi_W d 155 0 (mi_en 2 [.ref s6, .int s5]) [] (n, sl, f) (mi_Kc d 167 53 [some (.ref l1), some (.int l2), o3, o4] [] Q)) : mi_W (d + 1) 167 53 [some (.ref l1), some (.int l2), o3, o4] [.int s5, .ref s6] (n, sl, f) Q := by
  exact w_invokevirtual cd_167_53 (show mt_m 12 383 = some (155, 0) by decide +kernel) (rest := []) rfl (as := [.ref s6, .int s5]) rfl h8 (Or.inl h9) ⟨Nat.le_of_ble_eq_true rfl, Nat.le_of_ble_eq_true rfl, Nat.le_of_ble_eq_true rfl⟩ h10
theorem b_167_56 {d : Nat} {Q : (Option Value ⊕ Nat) → mi_H → Prop} (n sl : Nat) (f : Nat → mi_C) {l1 : Nat} {l2 : Int32} {o3 : Option Value} {o4 : Option Value} {s5 : Int32} (h6 : s5 = (0 : Int32) → mi_W d 167 63 [some (.ref l1), some (.int l2), o3, o4] [] (n, sl, f) Q) (h7 : ¬ (s5 = (0 : Int32)) → mi_W d 167 59 [some (.ref l1), some (.int l2), o3, o4] [] (n, sl, f) Q) : mi_W d 167 56 [some (.ref l1), some (.int l2), o3, o4] [.int s5] (n, sl, f) Q := by
  exact w_ifeq cd_167_56 (by decide) h6 h7
theorem b_167_59 {d : Nat} {Q : (Option Value ⊕ Nat) → mi_H → Prop} (n sl : Nat) (f : Nat → mi_C) {l1 : Nat} {l2 : Int32} {o3 : Option Value} {o4 : Option Value} (h5 : mi_W d 167 64 [some (.ref l1), some (.int l2), o3, o4] [.int l2] (n, sl, f) Q) : mi_W d 167 59 [some (.ref l1), some (.int l2), o3, o4] [] (n, sl, f) Q := by
  refine w_iload_n cd_167_59 rfl ?_
  exact w_goto cd_167_60 (by decide) h5
theorem b_167_63 {d : Nat} {Q : (Option Value ⊕ Nat) → mi_H → Prop} (n sl : Nat) (f : Nat → mi_C) {l1 : Nat} {l2 : Int32} {o3 : Option Value} {o4 : Option Value} (h5 : mi_W d 167 64 [some (.ref l1), some (.int l2), o3, o4] [.int (-1)] (n, sl, f) Q) : mi_W d 167 63 [some (.ref l1), some (.int l2), o3, o4] [] (n, sl, f) Q := by
  refine w_iconst (v := (-1)) cd_167_63 (by decide) ?_
  exact h5
theorem b_167_64 {d : Nat} {Q : (Option Value ⊕ Nat) → mi_H → Prop} (n sl : Nat) (f : Nat → mi_C) {l1 : Nat} {l2 : Int32} {o3 : Option Value} {o4 : Option Value} {s5 : Int32} (h6 : Q (.inl (some (.int s5))) (n, sl, f)) : mi_W d 167 64 [some (.ref l1), some (.int l2), o3, o4] [.int s5] (n, sl, f) Q := by
  exact w_ireturn_i cd_167_64 (by decide +kernel) h6
theorem b_167_65 {d : Nat} {Q : (Option Value ⊕ Nat) → mi_H → Prop} (n sl : Nat) (f : Nat → mi_C) {l1 : Nat} {o2 : Option Value} {o3 : Option Value} {o4 : Option Value} {fs5 : List Value} (h6 : f l1 = .inr (12, fs5)) (h7 : l1 < n) (h8 : mi_W d 156 0 (mi_en 2 [.ref l1, .ref (mi_SC + 1 + 2 * 34)]) [] (n, sl, f) (mi_Kc d 167 68 [some (.ref l1), o2, o3, o4] [] Q)) : mi_W (d + 1) 167 65 [some (.ref l1), o2, o3, o4] [] (n, sl, f) Q := by
  refine w_aload_n cd_167_65 rfl ?_
  refine w_ldc (n := 34) cd_167_66 (by decide +kernel) ?_
  exact w_invokevirtual cd_167_68 (show mt_m 12 387 = some (156, 0) by decide +kernel) (rest := []) rfl (as := [.ref l1, .ref (mi_SC + 1 + 2 * 34)]) rfl h6 (Or.inl h7) ⟨Nat.le_of_ble_eq_true rfl, Nat.le_of_ble_eq_true rfl, Nat.le_of_ble_eq_true rfl⟩ h8
theorem b_167_71 {d : Nat} {Q : (Option Value ⊕ Nat) → mi_H → Prop} (n sl : Nat) (f : Nat → mi_C) {l1 : Nat} {o2 : Option Value} {o3 : Option Value} {o4 : Option Value} {s5 : Int32} (h6 : s5 = (0 : Int32) → mi_W d 167 79 [some (.ref l1), o2, o3, o4] [] (n, sl, f) Q) (h7 : ¬ (s5 = (0 : Int32)) → mi_W d 167 74 [some (.ref l1), o2, o3, o4] [] (n, sl, f) Q) : mi_W d 167 71 [some (.ref l1), o2, o3, o4] [.int s5] (n, sl, f) Q := by
  exact w_ifeq cd_167_71 (by decide) h6 h7
theorem b_167_74 {d : Nat} {Q : (Option Value ⊕ Nat) → mi_H → Prop} (n sl : Nat) (f : Nat → mi_C) {l1 : Nat} {o2 : Option Value} {o3 : Option Value} {o4 : Option Value} (h5 : mi_W d 167 225 [some (.ref l1), o2, o3, o4] [.int 22] (n, sl, f) Q) : mi_W d 167 74 [some (.ref l1), o2, o3, o4] [] (n, sl, f) Q := by
  refine w_bipush (v := 22) cd_167_74 (by decide) ?_
  exact w_goto cd_167_76 (by decide) h5
theorem b_167_79 {d : Nat} {Q : (Option Value ⊕ Nat) → mi_H → Prop} (n sl : Nat) (f : Nat → mi_C) {l1 : Nat} {o2 : Option Value} {o3 : Option Value} {o4 : Option Value} {fs5 : List Value} (h6 : f l1 = .inr (12, fs5)) (h7 : l1 < n) (h8 : mi_W d 156 0 (mi_en 2 [.ref l1, .ref (mi_SC + 1 + 2 * 35)]) [] (n, sl, f) (mi_Kc d 167 82 [some (.ref l1), o2, o3, o4] [] Q)) : mi_W (d + 1) 167 79 [some (.ref l1), o2, o3, o4] [] (n, sl, f) Q := by
  refine w_aload_n cd_167_79 rfl ?_
  refine w_ldc (n := 35) cd_167_80 (by decide +kernel) ?_
  exact w_invokevirtual cd_167_82 (show mt_m 12 387 = some (156, 0) by decide +kernel) (rest := []) rfl (as := [.ref l1, .ref (mi_SC + 1 + 2 * 35)]) rfl h6 (Or.inl h7) ⟨Nat.le_of_ble_eq_true rfl, Nat.le_of_ble_eq_true rfl, Nat.le_of_ble_eq_true rfl⟩ h8
theorem b_167_85 {d : Nat} {Q : (Option Value ⊕ Nat) → mi_H → Prop} (n sl : Nat) (f : Nat → mi_C) {l1 : Nat} {o2 : Option Value} {o3 : Option Value} {o4 : Option Value} {s5 : Int32} (h6 : s5 = (0 : Int32) → mi_W d 167 93 [some (.ref l1), o2, o3, o4] [] (n, sl, f) Q) (h7 : ¬ (s5 = (0 : Int32)) → mi_W d 167 88 [some (.ref l1), o2, o3, o4] [] (n, sl, f) Q) : mi_W d 167 85 [some (.ref l1), o2, o3, o4] [.int s5] (n, sl, f) Q := by
  exact w_ifeq cd_167_85 (by decide) h6 h7
theorem b_167_88 {d : Nat} {Q : (Option Value ⊕ Nat) → mi_H → Prop} (n sl : Nat) (f : Nat → mi_C) {l1 : Nat} {o2 : Option Value} {o3 : Option Value} {o4 : Option Value} (h5 : mi_W d 167 225 [some (.ref l1), o2, o3, o4] [.int 23] (n, sl, f) Q) : mi_W d 167 88 [some (.ref l1), o2, o3, o4] [] (n, sl, f) Q := by
  refine w_bipush (v := 23) cd_167_88 (by decide) ?_
  exact w_goto cd_167_90 (by decide) h5
theorem b_167_93 {d : Nat} {Q : (Option Value ⊕ Nat) → mi_H → Prop} (n sl : Nat) (f : Nat → mi_C) {l1 : Nat} {o2 : Option Value} {o3 : Option Value} {o4 : Option Value} {fs5 : List Value} (h6 : f l1 = .inr (12, fs5)) (h7 : l1 < n) (h8 : mi_W d 156 0 (mi_en 2 [.ref l1, .ref (mi_SC + 1 + 2 * 36)]) [] (n, sl, f) (mi_Kc d 167 96 [some (.ref l1), o2, o3, o4] [] Q)) : mi_W (d + 1) 167 93 [some (.ref l1), o2, o3, o4] [] (n, sl, f) Q := by
  refine w_aload_n cd_167_93 rfl ?_
  refine w_ldc (n := 36) cd_167_94 (by decide +kernel) ?_
  exact w_invokevirtual cd_167_96 (show mt_m 12 387 = some (156, 0) by decide +kernel) (rest := []) rfl (as := [.ref l1, .ref (mi_SC + 1 + 2 * 36)]) rfl h6 (Or.inl h7) ⟨Nat.le_of_ble_eq_true rfl, Nat.le_of_ble_eq_true rfl, Nat.le_of_ble_eq_true rfl⟩ h8
theorem b_167_99 {d : Nat} {Q : (Option Value ⊕ Nat) → mi_H → Prop} (n sl : Nat) (f : Nat → mi_C) {l1 : Nat} {o2 : Option Value} {o3 : Option Value} {o4 : Option Value} {s5 : Int32} (h6 : s5 = (0 : Int32) → mi_W d 167 107 [some (.ref l1), o2, o3, o4] [] (n, sl, f) Q) (h7 : ¬ (s5 = (0 : Int32)) → mi_W d 167 102 [some (.ref l1), o2, o3, o4] [] (n, sl, f) Q) : mi_W d 167 99 [some (.ref l1), o2, o3, o4] [.int s5] (n, sl, f) Q := by
  exact w_ifeq cd_167_99 (by decide) h6 h7
theorem b_167_102 {d : Nat} {Q : (Option Value ⊕ Nat) → mi_H → Prop} (n sl : Nat) (f : Nat → mi_C) {l1 : Nat} {o2 : Option Value} {o3 : Option Value} {o4 : Option Value} (h5 : mi_W d 167 225 [some (.ref l1), o2, o3, o4] [.int 24] (n, sl, f) Q) : mi_W d 167 102 [some (.ref l1), o2, o3, o4] [] (n, sl, f) Q := by
  refine w_bipush (v := 24) cd_167_102 (by decide) ?_
  exact w_goto cd_167_104 (by decide) h5
theorem b_167_107 {d : Nat} {Q : (Option Value ⊕ Nat) → mi_H → Prop} (n sl : Nat) (f : Nat → mi_C) {l1 : Nat} {o2 : Option Value} {o3 : Option Value} {o4 : Option Value} {fs5 : List Value} (h6 : f l1 = .inr (12, fs5)) (h7 : l1 < n) (h8 : mi_W d 156 0 (mi_en 2 [.ref l1, .ref (mi_SC + 1 + 2 * 37)]) [] (n, sl, f) (mi_Kc d 167 110 [some (.ref l1), o2, o3, o4] [] Q)) : mi_W (d + 1) 167 107 [some (.ref l1), o2, o3, o4] [] (n, sl, f) Q := by
  refine w_aload_n cd_167_107 rfl ?_
  refine w_ldc (n := 37) cd_167_108 (by decide +kernel) ?_
  exact w_invokevirtual cd_167_110 (show mt_m 12 387 = some (156, 0) by decide +kernel) (rest := []) rfl (as := [.ref l1, .ref (mi_SC + 1 + 2 * 37)]) rfl h6 (Or.inl h7) ⟨Nat.le_of_ble_eq_true rfl, Nat.le_of_ble_eq_true rfl, Nat.le_of_ble_eq_true rfl⟩ h8
theorem b_167_113 {d : Nat} {Q : (Option Value ⊕ Nat) → mi_H → Prop} (n sl : Nat) (f : Nat → mi_C) {l1 : Nat} {o2 : Option Value} {o3 : Option Value} {o4 : Option Value} {s5 : Int32} (h6 : s5 = (0 : Int32) → mi_W d 167 121 [some (.ref l1), o2, o3, o4] [] (n, sl, f) Q) (h7 : ¬ (s5 = (0 : Int32)) → mi_W d 167 116 [some (.ref l1), o2, o3, o4] [] (n, sl, f) Q) : mi_W d 167 113 [some (.ref l1), o2, o3, o4] [.int s5] (n, sl, f) Q := by
  exact w_ifeq cd_167_113 (by decide) h6 h7
theorem b_167_116 {d : Nat} {Q : (Option Value ⊕ Nat) → mi_H → Prop} (n sl : Nat) (f : Nat → mi_C) {l1 : Nat} {o2 : Option Value} {o3 : Option Value} {o4 : Option Value} (h5 : mi_W d 167 225 [some (.ref l1), o2, o3, o4] [.int 25] (n, sl, f) Q) : mi_W d 167 116 [some (.ref l1), o2, o3, o4] [] (n, sl, f) Q := by
  refine w_bipush (v := 25) cd_167_116 (by decide) ?_
  exact w_goto cd_167_118 (by decide) h5
theorem b_167_121 {d : Nat} {Q : (Option Value ⊕ Nat) → mi_H → Prop} (n sl : Nat) (f : Nat → mi_C) {l1 : Nat} {o2 : Option Value} {o3 : Option Value} {o4 : Option Value} {fs5 : List Value} (h6 : f l1 = .inr (12, fs5)) (h7 : l1 < n) (h8 : mi_W d 156 0 (mi_en 2 [.ref l1, .ref (mi_SC + 1 + 2 * 38)]) [] (n, sl, f) (mi_Kc d 167 124 [some (.ref l1), o2, o3, o4] [] Q)) : mi_W (d + 1) 167 121 [some (.ref l1), o2, o3, o4] [] (n, sl, f) Q := by
  refine w_aload_n cd_167_121 rfl ?_
  refine w_ldc (n := 38) cd_167_122 (by decide +kernel) ?_
  exact w_invokevirtual cd_167_124 (show mt_m 12 387 = some (156, 0) by decide +kernel) (rest := []) rfl (as := [.ref l1, .ref (mi_SC + 1 + 2 * 38)]) rfl h6 (Or.inl h7) ⟨Nat.le_of_ble_eq_true rfl, Nat.le_of_ble_eq_true rfl, Nat.le_of_ble_eq_true rfl⟩ h8
theorem b_167_127 {d : Nat} {Q : (Option Value ⊕ Nat) → mi_H → Prop} (n sl : Nat) (f : Nat → mi_C) {l1 : Nat} {o2 : Option Value} {o3 : Option Value} {o4 : Option Value} {s5 : Int32} (h6 : s5 = (0 : Int32) → mi_W d 167 135 [some (.ref l1), o2, o3, o4] [] (n, sl, f) Q) (h7 : ¬ (s5 = (0 : Int32)) → mi_W d 167 130 [some (.ref l1), o2, o3, o4] [] (n, sl, f) Q) : mi_W d 167 127 [some (.ref l1), o2, o3, o4] [.int s5] (n, sl, f) Q := by
  exact w_ifeq cd_167_127 (by decide) h6 h7
theorem b_167_130 {d : Nat} {Q : (Option Value ⊕ Nat) → mi_H → Prop} (n sl : Nat) (f : Nat → mi_C) {l1 : Nat} {o2 : Option Value} {o3 : Option Value} {o4 : Option Value} (h5 : mi_W d 167 225 [some (.ref l1), o2, o3, o4] [.int 26] (n, sl, f) Q) : mi_W d 167 130 [some (.ref l1), o2, o3, o4] [] (n, sl, f) Q := by
  refine w_bipush (v := 26) cd_167_130 (by decide) ?_
  exact w_goto cd_167_132 (by decide) h5
theorem b_167_135 {d : Nat} {Q : (Option Value ⊕ Nat) → mi_H → Prop} (n sl : Nat) (f : Nat → mi_C) {l1 : Nat} {o2 : Option Value} {o3 : Option Value} {o4 : Option Value} {fs5 : List Value} (h6 : f l1 = .inr (12, fs5)) (h7 : l1 < n) (h8 : mi_W d 156 0 (mi_en 2 [.ref l1, .ref (mi_SC + 1 + 2 * 39)]) [] (n, sl, f) (mi_Kc d 167 138 [some (.ref l1), o2, o3, o4] [] Q)) : mi_W (d + 1) 167 135 [some (.ref l1), o2, o3, o4] [] (n, sl, f) Q := by
  refine w_aload_n cd_167_135 rfl ?_
  refine w_ldc (n := 39) cd_167_136 (by decide +kernel) ?_
  exact w_invokevirtual cd_167_138 (show mt_m 12 387 = some (156, 0) by decide +kernel) (rest := []) rfl (as := [.ref l1, .ref (mi_SC + 1 + 2 * 39)]) rfl h6 (Or.inl h7) ⟨Nat.le_of_ble_eq_true rfl, Nat.le_of_ble_eq_true rfl, Nat.le_of_ble_eq_true rfl⟩ h8
theorem b_167_141 {d : Nat} {Q : (Option Value ⊕ Nat) → mi_H → Prop} (n sl : Nat) (f : Nat → mi_C) {l1 : Nat} {o2 : Option Value} {o3 : Option Value} {o4 : Option Value} {s5 : Int32} (h6 : s5 = (0 : Int32) → mi_W d 167 149 [some (.ref l1), o2, o3, o4] [] (n, sl, f) Q) (h7 : ¬ (s5 = (0 : Int32)) → mi_W d 167 144 [some (.ref l1), o2, o3, o4] [] (n, sl, f) Q) : mi_W d 167 141 [some (.ref l1), o2, o3, o4] [.int s5] (n, sl, f) Q := by
  exact w_ifeq cd_167_141 (by decide) h6 h7
theorem b_167_144 {d : Nat} {Q : (Option Value ⊕ Nat) → mi_H → Prop} (n sl : Nat) (f : Nat → mi_C) {l1 : Nat} {o2 : Option Value} {o3 : Option Value} {o4 : Option Value} (h5 : mi_W d 167 225 [some (.ref l1), o2, o3, o4] [.int 27] (n, sl, f) Q) : mi_W d 167 144 [some (.ref l1), o2, o3, o4] [] (n, sl, f) Q := by
  refine w_bipush (v := 27) cd_167_144 (by decide) ?_
  exact w_goto cd_167_146 (by decide) h5
theorem b_167_149 {d : Nat} {Q : (Option Value ⊕ Nat) → mi_H → Prop} (n sl : Nat) (f : Nat → mi_C) {l1 : Nat} {o2 : Option Value} {o3 : Option Value} {o4 : Option Value} {fs5 : List Value} (h6 : f l1 = .inr (12, fs5)) (h7 : l1 < n) (h8 : mi_W d 153 0 (mi_en 2 [.ref l1, .ref (mi_SC + 1 + 2 * 46)]) [] (n, sl, f) (mi_Kc d 167 153 [some (.ref l1), o2, o3, o4] [] Q)) : mi_W (d + 1) 167 149 [some (.ref l1), o2, o3, o4] [] (n, sl, f) Q := by
  refine w_aload_n cd_167_149 rfl ?_
  refine w_ldc_w (n := 46) cd_167_150 (by decide +kernel) ?_
  exact w_invokevirtual cd_167_153 (show mt_m 12 375 = some (153, 0) by decide +kernel) (rest := []) rfl (as := [.ref l1, .ref (mi_SC + 1 + 2 * 46)]) rfl h6 (Or.inl h7) ⟨Nat.le_of_ble_eq_true rfl, Nat.le_of_ble_eq_true rfl, Nat.le_of_ble_eq_true rfl⟩ h8
theorem b_167_156 {d : Nat} {Q : (Option Value ⊕ Nat) → mi_H → Prop} (n sl : Nat) (f : Nat → mi_C) {l1 : Nat} {o2 : Option Value} {o3 : Option Value} {o4 : Option Value} {s5 : Int32} (h6 : s5 = (0 : Int32) → mi_W d 167 164 [some (.ref l1), o2, o3, o4] [] (n, sl, f) Q) (h7 : ¬ (s5 = (0 : Int32)) → mi_W d 167 159 [some (.ref l1), o2, o3, o4] [] (n, sl, f) Q) : mi_W d 167 156 [some (.ref l1), o2, o3, o4] [.int s5] (n, sl, f) Q := by
  exact w_ifeq cd_167_156 (by decide) h6 h7
theorem b_167_159 {d : Nat} {Q : (Option Value ⊕ Nat) → mi_H → Prop} (n sl : Nat) (f : Nat → mi_C) {l1 : Nat} {o2 : Option Value} {o3 : Option Value} {o4 : Option Value} (h5 : mi_W d 167 225 [some (.ref l1), o2, o3, o4] [.int 28] (n, sl, f) Q) : mi_W d 167 159 [some (.ref l1), o2, o3, o4] [] (n, sl, f) Q := by
  refine w_bipush (v := 28) cd_167_159 (by decide) ?_
  exact w_goto cd_167_161 (by decide) h5
theorem b_167_164 {d : Nat} {Q : (Option Value ⊕ Nat) → mi_H → Prop} (n sl : Nat) (f : Nat → mi_C) {l1 : Nat} {o2 : Option Value} {o3 : Option Value} {o4 : Option Value} {fs5 : List Value} (h6 : f l1 = .inr (12, fs5)) (h7 : l1 < n) (h8 : mi_W d 153 0 (mi_en 2 [.ref l1, .ref (mi_SC + 1 + 2 * 47)]) [] (n, sl, f) (mi_Kc d 167 168 [some (.ref l1), o2, o3, o4] [] Q)) : mi_W (d + 1) 167 164 [some (.ref l1), o2, o3, o4] [] (n, sl, f) Q := by
  refine w_aload_n cd_167_164 rfl ?_
  refine w_ldc_w (n := 47) cd_167_165 (by decide +kernel) ?_
  exact w_invokevirtual cd_167_168 (show mt_m 12 375 = some (153, 0) by decide +kernel) (rest := []) rfl (as := [.ref l1, .ref (mi_SC + 1 + 2 * 47)]) rfl h6 (Or.inl h7) ⟨Nat.le_of_ble_eq_true rfl, Nat.le_of_ble_eq_true rfl, Nat.le_of_ble_eq_true rfl⟩ h8
theorem b_167_171 {d : Nat} {Q : (Option Value ⊕ Nat) → mi_H → Prop} (n sl : Nat) (f : Nat → mi_C) {l1 : Nat} {o2 : Option Value} {o3 : Option Value} {o4 : Option Value} {s5 : Int32} (h6 : s5 = (0 : Int32) → mi_W d 167 179 [some (.ref l1), o2, o3, o4] [] (n, sl, f) Q) (h7 : ¬ (s5 = (0 : Int32)) → mi_W d 167 174 [some (.ref l1), o2, o3, o4] [] (n, sl, f) Q) : mi_W d 167 171 [some (.ref l1), o2, o3, o4] [.int s5] (n, sl, f) Q := by
  exact w_ifeq cd_167_171 (by decide) h6 h7
theorem b_167_174 {d : Nat} {Q : (Option Value ⊕ Nat) → mi_H → Prop} (n sl : Nat) (f : Nat → mi_C) {l1 : Nat} {o2 : Option Value} {o3 : Option Value} {o4 : Option Value} (h5 : mi_W d 167 225 [some (.ref l1), o2, o3, o4] [.int 29] (n, sl, f) Q) : mi_W d 167 174 [some (.ref l1), o2, o3, o4] [] (n, sl, f) Q := by
  refine w_bipush (v := 29) cd_167_174 (by decide) ?_
  exact w_goto cd_167_176 (by decide) h5
theorem b_167_179 {d : Nat} {Q : (Option Value ⊕ Nat) → mi_H → Prop} (n sl : Nat) (f : Nat → mi_C) {l1 : Nat} {o2 : Option Value} {o3 : Option Value} {o4 : Option Value} {fs5 : List Value} (h6 : f l1 = .inr (12, fs5)) (h7 : l1 < n) (h8 : mi_W d 153 0 (mi_en 2 [.ref l1, .ref (mi_SC + 1 + 2 * 48)]) [] (n, sl, f) (mi_Kc d 167 183 [some (.ref l1), o2, o3, o4] [] Q)) : mi_W (d + 1) 167 179 [some (.ref l1), o2, o3, o4] [] (n, sl, f) Q := by
  refine w_aload_n cd_167_179 rfl ?_
  refine w_ldc_w (n := 48) cd_167_180 (by decide +kernel) ?_
  exact w_invokevirtual cd_167_183 (show mt_m 12 375 = some (153, 0) by decide +kernel) (rest := []) rfl (as := [.ref l1, .ref (mi_SC + 1 + 2 * 48)]) rfl h6 (Or.inl h7) ⟨Nat.le_of_ble_eq_true rfl, Nat.le_of_ble_eq_true rfl, Nat.le_of_ble_eq_true rfl⟩ h8
theorem b_167_186 {d : Nat} {Q : (Option Value ⊕ Nat) → mi_H → Prop} (n sl : Nat) (f : Nat → mi_C) {l1 : Nat} {o2 : Option Value} {o3 : Option Value} {o4 : Option Value} {s5 : Int32} (h6 : s5 = (0 : Int32) → mi_W d 167 194 [some (.ref l1), o2, o3, o4] [] (n, sl, f) Q) (h7 : ¬ (s5 = (0 : Int32)) → mi_W d 167 189 [some (.ref l1), o2, o3, o4] [] (n, sl, f) Q) : mi_W d 167 186 [some (.ref l1), o2, o3, o4] [.int s5] (n, sl, f) Q := by
  exact w_ifeq cd_167_186 (by decide) h6 h7
theorem b_167_189 {d : Nat} {Q : (Option Value ⊕ Nat) → mi_H → Prop} (n sl : Nat) (f : Nat → mi_C) {l1 : Nat} {o2 : Option Value} {o3 : Option Value} {o4 : Option Value} (h5 : mi_W d 167 225 [some (.ref l1), o2, o3, o4] [.int 30] (n, sl, f) Q) : mi_W d 167 189 [some (.ref l1), o2, o3, o4] [] (n, sl, f) Q := by
  refine w_bipush (v := 30) cd_167_189 (by decide) ?_
  exact w_goto cd_167_191 (by decide) h5
theorem b_167_194 {d : Nat} {Q : (Option Value ⊕ Nat) → mi_H → Prop} (n sl : Nat) (f : Nat → mi_C) {l1 : Nat} {o2 : Option Value} {o3 : Option Value} {o4 : Option Value} {fs5 : List Value} (h6 : f l1 = .inr (12, fs5)) (h7 : l1 < n) (h8 : mi_W d 153 0 (mi_en 2 [.ref l1, .ref (mi_SC + 1 + 2 * 49)]) [] (n, sl, f) (mi_Kc d 167 198 [some (.ref l1), o2, o3, o4] [] Q)) : mi_W (d + 1) 167 194 [some (.ref l1), o2, o3, o4] [] (n, sl, f) Q := by
  refine w_aload_n cd_167_194 rfl ?_
  refine w_ldc_w (n := 49) cd_167_195 (by decide +kernel) ?_
  exact w_invokevirtual cd_167_198 (show mt_m 12 375 = some (153, 0) by decide +kernel) (rest := []) rfl (as := [.ref l1, .ref (mi_SC + 1 + 2 * 49)]) rfl h6 (Or.inl h7) ⟨Nat.le_of_ble_eq_true rfl, Nat.le_of_ble_eq_true rfl, Nat.le_of_ble_eq_true rfl⟩ h8
theorem b_167_201 {d : Nat} {Q : (Option Value ⊕ Nat) → mi_H → Prop} (n sl : Nat) (f : Nat → mi_C) {l1 : Nat} {o2 : Option Value} {o3 : Option Value} {o4 : Option Value} {s5 : Int32} (h6 : s5 = (0 : Int32) → mi_W d 167 209 [some (.ref l1), o2, o3, o4] [] (n, sl, f) Q) (h7 : ¬ (s5 = (0 : Int32)) → mi_W d 167 204 [some (.ref l1), o2, o3, o4] [] (n, sl, f) Q) : mi_W d 167 201 [some (.ref l1), o2, o3, o4] [.int s5] (n, sl, f) Q := by
  exact w_ifeq cd_167_201 (by decide) h6 h7
theorem b_167_204 {d : Nat} {Q : (Option Value ⊕ Nat) → mi_H → Prop} (n sl : Nat) (f : Nat → mi_C) {l1 : Nat} {o2 : Option Value} {o3 : Option Value} {o4 : Option Value} (h5 : mi_W d 167 225 [some (.ref l1), o2, o3, o4] [.int 31] (n, sl, f) Q) : mi_W d 167 204 [some (.ref l1), o2, o3, o4] [] (n, sl, f) Q := by
  refine w_bipush (v := 31) cd_167_204 (by decide) ?_
  exact w_goto cd_167_206 (by decide) h5
theorem b_167_209 {d : Nat} {Q : (Option Value ⊕ Nat) → mi_H → Prop} (n sl : Nat) (f : Nat → mi_C) {l1 : Nat} {o2 : Option Value} {o3 : Option Value} {o4 : Option Value} {fs5 : List Value} (h6 : f l1 = .inr (12, fs5)) (h7 : l1 < n) (h8 : mi_W d 153 0 (mi_en 2 [.ref l1, .ref (mi_SC + 1 + 2 * 50)]) [] (n, sl, f) (mi_Kc d 167 213 [some (.ref l1), o2, o3, o4] [] Q)) : mi_W (d + 1) 167 209 [some (.ref l1), o2, o3, o4] [] (n, sl, f) Q := by
  refine w_aload_n cd_167_209 rfl ?_
  refine w_ldc_w (n := 50) cd_167_210 (by decide +kernel) ?_
  exact w_invokevirtual cd_167_213 (show mt_m 12 375 = some (153, 0) by decide +kernel) (rest := []) rfl (as := [.ref l1, .ref (mi_SC + 1 + 2 * 50)]) rfl h6 (Or.inl h7) ⟨Nat.le_of_ble_eq_true rfl, Nat.le_of_ble_eq_true rfl, Nat.le_of_ble_eq_true rfl⟩ h8
theorem b_167_216 {d : Nat} {Q : (Option Value ⊕ Nat) → mi_H → Prop} (n sl : Nat) (f : Nat → mi_C) {l1 : Nat} {o2 : Option Value} {o3 : Option Value} {o4 : Option Value} {s5 : Int32} (h6 : s5 = (0 : Int32) → mi_W d 167 224 [some (.ref l1), o2, o3, o4] [] (n, sl, f) Q) (h7 : ¬ (s5 = (0 : Int32)) → mi_W d 167 219 [some (.ref l1), o2, o3, o4] [] (n, sl, f) Q) : mi_W d 167 216 [some (.ref l1), o2, o3, o4] [.int s5] (n, sl, f) Q := by
  exact w_ifeq cd_167_216 (by decide) h6 h7
theorem b_167_219 {d : Nat} {Q : (Option Value ⊕ Nat) → mi_H → Prop} (n sl : Nat) (f : Nat → mi_C) {l1 : Nat} {o2 : Option Value} {o3 : Option Value} {o4 : Option Value} (h5 : mi_W d 167 225 [some (.ref l1), o2, o3, o4] [.int 32] (n, sl, f) Q) : mi_W d 167 219 [some (.ref l1), o2, o3, o4] [] (n, sl, f) Q := by
  refine w_bipush (v := 32) cd_167_219 (by decide) ?_
  exact w_goto cd_167_221 (by decide) h5
theorem b_167_224 {d : Nat} {Q : (Option Value ⊕ Nat) → mi_H → Prop} (n sl : Nat) (f : Nat → mi_C) {l1 : Nat} {o2 : Option Value} {o3 : Option Value} {o4 : Option Value} (h5 : mi_W d 167 225 [some (.ref l1), o2, o3, o4] [.int (-1)] (n, sl, f) Q) : mi_W d 167 224 [some (.ref l1), o2, o3, o4] [] (n, sl, f) Q := by
  refine w_iconst (v := (-1)) cd_167_224 (by decide) ?_
  exact h5
theorem b_167_225 {d : Nat} {Q : (Option Value ⊕ Nat) → mi_H → Prop} (n sl : Nat) (f : Nat → mi_C) {l1 : Nat} {o2 : Option Value} {o3 : Option Value} {o4 : Option Value} {s5 : Int32} (h6 : (0 : Int32) ≤ s5 → mi_W d 167 241 [some (.ref l1), some (.int s5), o3, o4] [] (n, sl, f) Q) (h7 : ¬ ((0 : Int32) ≤ s5) → mi_W d 167 230 [some (.ref l1), some (.int s5), o3, o4] [] (n, sl, f) Q) : mi_W d 167 225 [some (.ref l1), o2, o3, o4] [.int s5] (n, sl, f) Q := by
  refine w_istore_n (ls' := [some (.ref l1), some (.int s5), o3, o4]) cd_167_225 (Nat.le_of_ble_eq_true rfl) rfl ?_
  refine w_iload_n cd_167_226 rfl ?_
  exact w_ifge cd_167_227 (by decide) h6 h7
theorem b_167_230 {d : Nat} {Q : (Option Value ⊕ Nat) → mi_H → Prop} (n sl : Nat) (f : Nat → mi_C) {l1 : Nat} {l2 : Int32} {o3 : Option Value} {o4 : Option Value} {fs5 : List Value} {x8 : Int32} {fs10 : List Value} (h6 : f l1 = .inr (12, fs5)) (h7 : l1 < n) (h9 : fs5[9]? = some (.int x8)) (h11 : f l1 = .inr (12, fs10)) (h12 : l1 < n) (h13 : mi_W d 143 0 (mi_en 2 [.ref l1, .int x8]) [] (n, sl, f) (mi_Kc d 167 235 [some (.ref l1), some (.int l2), o3, o4] [] Q)) : mi_W (d + 1) 167 230 [some (.ref l1), some (.int l2), o3, o4] [] (n, sl, f) Q := by
  refine w_aload_n cd_167_230 rfl ?_
  refine w_aload_n cd_167_231 rfl ?_
  refine w_getfield cd_167_232 (show mt_f 12 299 = some (12, 9) by decide +kernel) h6 h7 h9 ?_
  exact w_invokevirtual cd_167_235 (show mt_m 12 272 = some (143, 0) by decide +kernel) (rest := []) rfl (as := [.ref l1, .int x8]) rfl h11 (Or.inl h12) ⟨Nat.le_of_ble_eq_true rfl, Nat.le_of_ble_eq_true rfl, Nat.le_of_ble_eq_true rfl⟩ h13
theorem b_167_238 {d : Nat} {Q : (Option Value ⊕ Nat) → mi_H → Prop} (n sl : Nat) (f : Nat → mi_C) {l1 : Nat} {l2 : Int32} {o3 : Option Value} {o4 : Option Value} {s5 : Int32} (h6 : Q (.inl (some (.int (-1)))) (n, sl, f)) : mi_W d 167 238 [some (.ref l1), some (.int l2), o3, o4] [.int s5] (n, sl, f) Q := by
  refine w_pop_i cd_167_238 ?_
  refine w_iconst (v := (-1)) cd_167_239 (by decide) ?_
  exact w_ireturn_i cd_167_240 (by decide +kernel) h6
theorem b_167_241 {d : Nat} {Q : (Option Value ⊕ Nat) → mi_H → Prop} (n sl : Nat) (f : Nat → mi_C) {l1 : Nat} {l2 : Int32} {o3 : Option Value} {o4 : Option Value} {fs5 : List Value} (h6 : f l1 = .inr (12, fs5)) (h7 : l1 < n) (h8 : mi_W d 154 0 (mi_en 1 [.ref l1]) [] (n, sl, f) (mi_Kc d 167 242 [some (.ref l1), some (.int l2), o3, o4] [] Q)) : mi_W (d + 1) 167 241 [some (.ref l1), some (.int l2), o3, o4] [] (n, sl, f) Q := by
  refine w_aload_n cd_167_241 rfl ?_
  exact w_invokevirtual cd_167_242 (show mt_m 12 378 = some (154, 0) by decide +kernel) (rest := []) rfl (as := [.ref l1]) rfl h6 (Or.inl h7) ⟨Nat.le_of_ble_eq_true rfl, Nat.le_of_ble_eq_true rfl, Nat.le_of_ble_eq_true rfl⟩ h8
theorem b_167_245 {d : Nat} {Q : (Option Value ⊕ Nat) → mi_H → Prop} (n sl : Nat) (f : Nat → mi_C) {l1 : Nat} {l2 : Int32} {o3 : Option Value} {o4 : Option Value} {s5 : Int32} (h6 : ¬ s5 = (0 : Int32) → mi_W d 167 250 [some (.ref l1), some (.int l2), o3, o4] [] (n, sl, f) Q) (h7 : ¬ (¬ s5 = (0 : Int32)) → mi_W d 167 248 [some (.ref l1), some (.int l2), o3, o4] [] (n, sl, f) Q) : mi_W d 167 245 [some (.ref l1), some (.int l2), o3, o4] [.int s5] (n, sl, f) Q := by
  exact w_ifne cd_167_245 (by decide) h6 h7
theorem b_167_248 {d : Nat} {Q : (Option Value ⊕ Nat) → mi_H → Prop} (n sl : Nat) (f : Nat → mi_C) {l1 : Nat} {l2 : Int32} {o3 : Option Value} {o4 : Option Value} (h5 : Q (.inl (some (.int (-1)))) (n, sl, f)) : mi_W d 167 248 [some (.ref l1), some (.int l2), o3, o4] [] (n, sl, f) Q := by
  refine w_iconst (v := (-1)) cd_167_248 (by decide) ?_
  exact w_ireturn_i cd_167_249 (by decide +kernel) h5
theorem b_167_250 {d : Nat} {Q : (Option Value ⊕ Nat) → mi_H → Prop} (n sl : Nat) (f : Nat → mi_C) {l1 : Nat} {l2 : Int32} {o3 : Option Value} {o4 : Option Value} {fs5 : List Value} (h6 : f l1 = .inr (12, fs5)) (h7 : l1 < n) (h8 : mi_W d 157 0 (mi_en 2 [.ref l1, .int l2]) [] (n, sl, f) (mi_Kc d 167 252 [some (.ref l1), some (.int l2), o3, o4] [] Q)) : mi_W (d + 1) 167 250 [some (.ref l1), some (.int l2), o3, o4] [] (n, sl, f) Q := by
  refine w_aload_n cd_167_250 rfl ?_
  refine w_iload_n cd_167_251 rfl ?_
  exact w_invokevirtual cd_167_252 (show mt_m 12 390 = some (157, 0) by decide +kernel) (rest := []) rfl (as := [.ref l1, .int l2]) rfl h6 (Or.inl h7) ⟨Nat.le_of_ble_eq_true rfl, Nat.le_of_ble_eq_true rfl, Nat.le_of_ble_eq_true rfl⟩ h8
theorem b_167_255 {d : Nat} {Q : (Option Value ⊕ Nat) → mi_H → Prop} (n sl : Nat) (f : Nat → mi_C) {l1 : Nat} {l2 : Int32} {o3 : Option Value} {o4 : Option Value} {s5 : Int32} (h6 : s5 < (0 : Int32) → mi_W d 167 271 [some (.ref l1), some (.int l2), some (.int s5), o4] [] (n, sl, f) Q) (h7 : ¬ (s5 < (0 : Int32)) → mi_W d 167 260 [some (.ref l1), some (.int l2), some (.int s5), o4] [] (n, sl, f) Q) : mi_W d 167 255 [some (.ref l1), some (.int l2), o3, o4] [.int s5] (n, sl, f) Q := by
  refine w_istore_n (ls' := [some (.ref l1), some (.int l2), some (.int s5), o4]) cd_167_255 (Nat.le_of_ble_eq_true rfl) rfl ?_
  refine w_iload_n cd_167_256 rfl ?_
  exact w_iflt cd_167_257 (by decide) h6 h7
theorem b_167_260 {d : Nat} {Q : (Option Value ⊕ Nat) → mi_H → Prop} (n sl : Nat) (f : Nat → mi_C) {l1 : Nat} {l2 : Int32} {l3 : Int32} {o4 : Option Value} {fs5 : List Value} (h6 : f l1 = .inr (12, fs5)) (h7 : l1 < n) (h8 : mi_W d 145 0 (mi_en 4 [.ref l1]) [] (n, sl, f) (mi_Kc d 167 261 [some (.ref l1), some (.int l2), some (.int l3), o4] [] Q)) : mi_W (d + 1) 167 260 [some (.ref l1), some (.int l2), some (.int l3), o4] [] (n, sl, f) Q := by
  refine w_aload_n cd_167_260 rfl ?_
  exact w_invokevirtual cd_167_261 (show mt_m 12 333 = some (145, 0) by decide +kernel) (rest := []) rfl (as := [.ref l1]) rfl h6 (Or.inl h7) ⟨Nat.le_of_ble_eq_true rfl, Nat.le_of_ble_eq_true rfl, Nat.le_of_ble_eq_true rfl⟩ h8
theorem b_167_264 {d : Nat} {Q : (Option Value ⊕ Nat) → mi_H → Prop} (n sl : Nat) (f : Nat → mi_C) {l1 : Nat} {l2 : Int32} {l3 : Int32} {o4 : Option Value} {s5 : Int32} (h6 : s5 = (0 : Int32) → mi_W d 167 271 [some (.ref l1), some (.int l2), some (.int l3), o4] [] (n, sl, f) Q) (h7 : ¬ (s5 = (0 : Int32)) → mi_W d 167 267 [some (.ref l1), some (.int l2), some (.int l3), o4] [] (n, sl, f) Q) : mi_W d 167 264 [some (.ref l1), some (.int l2), some (.int l3), o4] [.int s5] (n, sl, f) Q := by
  exact w_ifeq cd_167_264 (by decide) h6 h7
theorem b_167_267 {d : Nat} {Q : (Option Value ⊕ Nat) → mi_H → Prop} (n sl : Nat) (f : Nat → mi_C) {l1 : Nat} {l2 : Int32} {l3 : Int32} {o4 : Option Value} (h5 : mi_W d 167 272 [some (.ref l1), some (.int l2), some (.int l3), o4] [.int 1] (n, sl, f) Q) : mi_W d 167 267 [some (.ref l1), some (.int l2), some (.int l3), o4] [] (n, sl, f) Q := by
  refine w_iconst (v := 1) cd_167_267 (by decide) ?_
  exact w_goto cd_167_268 (by decide) h5
theorem b_167_271 {d : Nat} {Q : (Option Value ⊕ Nat) → mi_H → Prop} (n sl : Nat) (f : Nat → mi_C) {l1 : Nat} {l2 : Int32} {l3 : Int32} {o4 : Option Value} (h5 : mi_W d 167 272 [some (.ref l1), some (.int l2), some (.int l3), o4] [.int 0] (n, sl, f) Q) : mi_W d 167 271 [some (.ref l1), some (.int l2), some (.int l3), o4] [] (n, sl, f) Q := by
  refine w_iconst (v := 0) cd_167_271 (by decide) ?_
  exact h5
theorem b_167_272 {d : Nat} {Q : (Option Value ⊕ Nat) → mi_H → Prop} (n sl : Nat) (f : Nat → mi_C) {l1 : Nat} {l2 : Int32} {l3 : Int32} {o4 : Option Value} {s5 : Int32} (h6 : s5 = (0 : Int32) → mi_W d 167 436 [some (.ref l1), some (.int l2), some (.int l3), some (.int s5)] [] (n, sl, f) Q) (h7 : ¬ (s5 = (0 : Int32)) → mi_W d 167 277 [some (.ref l1), some (.int l2), some (.int l3), some (.int s5)] [] (n, sl, f) Q) : mi_W d 167 272 [some (.ref l1), some (.int l2), some (.int l3), o4] [.int s5] (n, sl, f) Q := by
  refine w_istore_n (ls' := [some (.ref l1), some (.int l2), some (.int l3), some (.int s5)]) cd_167_272 (Nat.le_of_ble_eq_true rfl) rfl ?_
  refine w_iload_n cd_167_273 rfl ?_
  exact w_ifeq cd_167_274 (by decide) h6 h7
theorem b_167_277 {d : Nat} {Q : (Option Value ⊕ Nat) → mi_H → Prop} (n sl : Nat) (f : Nat → mi_C) {l1 : Nat} {l2 : Int32} {l3 : Int32} {l4 : Int32} {t5 : Nat} (h6 : mi_ts 278 124 22 27 #[121, 121, 38, 38, 75, 98] (l2 : Int32).toInt = some t5) (h7 : mi_W d 167 t5 [some (.ref l1), some (.int l2), some (.int l3), some (.int l4)] [] (n, sl, f) Q) : mi_W d 167 277 [some (.ref l1), some (.int l2), some (.int l3), some (.int l4)] [] (n, sl, f) Q := by
  refine w_iload_n cd_167_277 rfl ?_
  exact w_tableswitch cd_167_278 h6 h7
theorem b_167_316 {d : Nat} {Q : (Option Value ⊕ Nat) → mi_H → Prop} (n sl : Nat) (f : Nat → mi_C) {l1 : Nat} {l2 : Int32} {l3 : Int32} {l4 : Int32} {fs5 : List Value} {x8 : Nat} {fs10 : List Value} (h6 : f l1 = .inr (12, fs5)) (h7 : l1 < n) (h9 : fs5[13]? = some (.ref x8)) (h11 : f l1 = .inr (12, fs10)) (h12 : l1 < n) (h13 : mi_W d 167 0 (mi_en 4 [.ref l1]) [] (n, sl, f) (mi_Kc d 167 322 [some (.ref l1), some (.int l2), some (.int l3), some (.int l4)] [.int l3, .ref x8] Q)) : mi_W (d + 1) 167 316 [some (.ref l1), some (.int l2), some (.int l3), some (.int l4)] [] (n, sl, f) Q := by
  refine w_aload_n cd_167_316 rfl ?_
  refine w_getfield cd_167_317 (show mt_f 12 80 = some (12, 13) by decide +kernel) h6 h7 h9 ?_
  refine w_iload_n cd_167_320 rfl ?_
  refine w_aload_n cd_167_321 rfl ?_
  exact w_invokevirtual cd_167_322 (show mt_m 12 401 = some (167, 0) by decide +kernel) (rest := [.int l3, .ref x8]) rfl (as := [.ref l1]) rfl h11 (Or.inl h12) ⟨Nat.le_of_ble_eq_true rfl, Nat.le_of_ble_eq_true rfl, Nat.le_of_ble_eq_true rfl⟩ h13
theorem b_167_325 {d : Nat} {Q : (Option Value ⊕ Nat) → mi_H → Prop} (n sl : Nat) (f : Nat → mi_C) {l1 : Nat} {l2 : Int32} {l3 : Int32} {l4 : Int32} {s5 : Int32} {s6 : Int32} {s7 : Nat} (m8 i8 : Nat) (g8 : Nat → Int32) (h9 : f s7 = .inl (0, m8, .inl g8)) (h10 : s7 < n) (h11 : mi_ix s6 m8 i8) (h12 : s5 < (0 : Int32) → mi_W d 167 348 [some (.ref l1), some (.int l2), some (.int l3), some (.int l4)] [] (n, sl, (va_up f s7 (.inl (0, m8, .inl (upd g8 i8 s5))))) Q) (h13 : ¬ (s5 < (0 : Int32)) → mi_W d 167 330 [some (.ref l1), some (.int l2), some (.int l3), some (.int l4)] [] (n, sl, (va_up f s7 (.inl (0, m8, .inl (upd g8 i8 s5))))) Q) : mi_W d 167 325 [some (.ref l1), some (.int l2), some (.int l3), some (.int l4)] [.int s5, .int s6, .ref s7] (n, sl, f) Q := by
  refine w_dup_x2_iir cd_167_325 ?_
  refine w_iastore cd_167_326 h9 h10 h11 ?_
  exact w_iflt cd_167_327 (by decide) h12 h13
theorem b_167_330 {d : Nat} {Q : (Option Value ⊕ Nat) → mi_H → Prop} (n sl : Nat) (f : Nat → mi_C) {l1 : Nat} {l2 : Int32} {l3 : Int32} {l4 : Int32} {fs5 : List Value} {x8 : Nat} {fs10 : List Value} (h6 : f l1 = .inr (12, fs5)) (h7 : l1 < n) (h9 : fs5[14]? = some (.ref x8)) (h11 : f l1 = .inr (12, fs10)) (h12 : l1 < n) (h13 : mi_W d 167 0 (mi_en 4 [.ref l1]) [] (n, sl, f) (mi_Kc d 167 336 [some (.ref l1), some (.int l2), some (.int l3), some (.int l4)] [.int l3, .ref x8] Q)) : mi_W (d + 1) 167 330 [some (.ref l1), some (.int l2), some (.int l3), some (.int l4)] [] (n, sl, f) Q := by
  refine w_aload_n cd_167_330 rfl ?_
  refine w_getfield cd_167_331 (show mt_f 12 83 = some (12, 14) by decide +kernel) h6 h7 h9 ?_
  refine w_iload_n cd_167_334 rfl ?_
  refine w_aload_n cd_167_335 rfl ?_
  exact w_invokevirtual cd_167_336 (show mt_m 12 401 = some (167, 0) by decide +kernel) (rest := [.int l3, .ref x8]) rfl (as := [.ref l1]) rfl h11 (Or.inl h12) ⟨Nat.le_of_ble_eq_true rfl, Nat.le_of_ble_eq_true rfl, Nat.le_of_ble_eq_true rfl⟩ h13
theorem b_167_339 {d : Nat} {Q : (Option Value ⊕ Nat) → mi_H → Prop} (n sl : Nat) (f : Nat → mi_C) {l1 : Nat} {l2 : Int32} {l3 : Int32} {l4 : Int32} {s5 : Int32} {s6 : Int32} {s7 : Nat} (m8 i8 : Nat) (g8 : Nat → Int32) (h9 : f s7 = .inl (0, m8, .inl g8)) (h10 : s7 < n) (h11 : mi_ix s6 m8 i8) (h12 : s5 < (0 : Int32) → mi_W d 167 348 [some (.ref l1), some (.int l2), some (.int l3), some (.int l4)] [] (n, sl, (va_up f s7 (.inl (0, m8, .inl (upd g8 i8 s5))))) Q) (h13 : ¬ (s5 < (0 : Int32)) → mi_W d 167 344 [some (.ref l1), some (.int l2), some (.int l3), some (.int l4)] [] (n, sl, (va_up f s7 (.inl (0, m8, .inl (upd g8 i8 s5))))) Q) : mi_W d 167 339 [some (.ref l1), some (.int l2), some (.int l3), some (.int l4)] [.int s5, .int s6, .ref s7] (n, sl, f) Q := by
  refine w_dup_x2_iir cd_167_339 ?_
  refine w_iastore cd_167_340 h9 h10 h11 ?_
  exact w_iflt cd_167_341 (by decide) h12 h13
theorem b_167_344 {d : Nat} {Q : (Option Value ⊕ Nat) → mi_H → Prop} (n sl : Nat) (f : Nat → mi_C) {l1 : Nat} {l2 : Int32} {l3 : Int32} {l4 : Int32} (h5 : mi_W d 167 349 [some (.ref l1), some (.int l2), some (.int l3), some (.int l4)] [.int 1] (n, sl, f) Q) : mi_W d 167 344 [some (.ref l1), some (.int l2), some (.int l3), some (.int l4)] [] (n, sl, f) Q := by
  refine w_iconst (v := 1) cd_167_344 (by decide) ?_
  exact w_goto cd_167_345 (by decide) h5
theorem b_167_348 {d : Nat} {Q : (Option Value ⊕ Nat) → mi_H → Prop} (n sl : Nat) (f : Nat → mi_C) {l1 : Nat} {l2 : Int32} {l3 : Int32} {l4 : Int32} (h5 : mi_W d 167 349 [some (.ref l1), some (.int l2), some (.int l3), some (.int l4)] [.int 0] (n, sl, f) Q) : mi_W d 167 348 [some (.ref l1), some (.int l2), some (.int l3), some (.int l4)] [] (n, sl, f) Q := by
  refine w_iconst (v := 0) cd_167_348 (by decide) ?_
  exact h5
theorem b_167_349 {d : Nat} {Q : (Option Value ⊕ Nat) → mi_H → Prop} (n sl : Nat) (f : Nat → mi_C) {l1 : Nat} {l2 : Int32} {l3 : Int32} {l4 : Int32} {s5 : Int32} (h6 : mi_W d 167 436 [some (.ref l1), some (.int l2), some (.int l3), some (.int s5)] [] (n, sl, f) Q) : mi_W d 167 349 [some (.ref l1), some (.int l2), some (.int l3), some (.int l4)] [.int s5] (n, sl, f) Q := by
  refine w_istore_n (ls' := [some (.ref l1), some (.int l2), some (.int l3), some (.int s5)]) cd_167_349 (Nat.le_of_ble_eq_true rfl) rfl ?_
  exact w_goto cd_167_350 (by decide) h6
theorem b_167_353 {d : Nat} {Q : (Option Value ⊕ Nat) → mi_H → Prop} (n sl : Nat) (f : Nat → mi_C) {l1 : Nat} {l2 : Int32} {l3 : Int32} {l4 : Int32} {fs5 : List Value} {x8 : Nat} {fs10 : List Value} (h6 : f l1 = .inr (12, fs5)) (h7 : l1 < n) (h9 : fs5[13]? = some (.ref x8)) (h11 : f l1 = .inr (12, fs10)) (h12 : l1 < n) (h13 : mi_W d 167 0 (mi_en 4 [.ref l1]) [] (n, sl, f) (mi_Kc d 167 359 [some (.ref l1), some (.int l2), some (.int l3), some (.int l4)] [.int l3, .ref x8] Q)) : mi_W (d + 1) 167 353 [some (.ref l1), some (.int l2), some (.int l3), some (.int l4)] [] (n, sl, f) Q := by
  refine w_aload_n cd_167_353 rfl ?_
  refine w_getfield cd_167_354 (show mt_f 12 80 = some (12, 13) by decide +kernel) h6 h7 h9 ?_
  refine w_iload_n cd_167_357 rfl ?_
  refine w_aload_n cd_167_358 rfl ?_
  exact w_invokevirtual cd_167_359 (show mt_m 12 401 = some (167, 0) by decide +kernel) (rest := [.int l3, .ref x8]) rfl (as := [.ref l1]) rfl h11 (Or.inl h12) ⟨Nat.le_of_ble_eq_true rfl, Nat.le_of_ble_eq_true rfl, Nat.le_of_ble_eq_true rfl⟩ h13
theorem b_167_362 {d : Nat} {Q : (Option Value ⊕ Nat) → mi_H → Prop} (n sl : Nat) (f : Nat → mi_C) {l1 : Nat} {l2 : Int32} {l3 : Int32} {l4 : Int32} {s5 : Int32} {s6 : Int32} {s7 : Nat} (m8 i8 : Nat) (g8 : Nat → Int32) (h9 : f s7 = .inl (0, m8, .inl g8)) (h10 : s7 < n) (h11 : mi_ix s6 m8 i8) (h12 : s5 < (0 : Int32) → mi_W d 167 371 [some (.ref l1), some (.int l2), some (.int l3), some (.int l4)] [] (n, sl, (va_up f s7 (.inl (0, m8, .inl (upd g8 i8 s5))))) Q) (h13 : ¬ (s5 < (0 : Int32)) → mi_W d 167 367 [some (.ref l1), some (.int l2), some (.int l3), some (.int l4)] [] (n, sl, (va_up f s7 (.inl (0, m8, .inl (upd g8 i8 s5))))) Q) : mi_W d 167 362 [some (.ref l1), some (.int l2), some (.int l3), some (.int l4)] [.int s5, .int s6, .ref s7] (n, sl, f) Q := by
  refine w_dup_x2_iir cd_167_362 ?_
  refine w_iastore cd_167_363 h9 h10 h11 ?_
  exact w_iflt cd_167_364 (by decide) h12 h13
theorem b_167_367 {d : Nat} {Q : (Option Value ⊕ Nat) → mi_H → Prop} (n sl : Nat) (f : Nat → mi_C) {l1 : Nat} {l2 : Int32} {l3 : Int32} {l4 : Int32} (h5 : mi_W d 167 372 [some (.ref l1), some (.int l2), some (.int l3), some (.int l4)] [.int 1] (n, sl, f) Q) : mi_W d 167 367 [some (.ref l1), some (.int l2), some (.int l3), some (.int l4)] [] (n, sl, f) Q := by
  refine w_iconst (v := 1) cd_167_367 (by decide) ?_
  exact w_goto cd_167_368 (by decide) h5
theorem b_167_371 {d : Nat} {Q : (Option Value ⊕ Nat) → mi_H → Prop} (n sl : Nat) (f : Nat → mi_C) {l1 : Nat} {l2 : Int32} {l3 : Int32} {l4 : Int32} (h5 : mi_W d 167 372 [some (.ref l1), some (.int l2), some (.int l3), some (.int l4)] [.int 0] (n, sl, f) Q) : mi_W d 167 371 [some (.ref l1), some (.int l2), some (.int l3), some (.int l4)] [] (n, sl, f) Q := by
  refine w_iconst (v := 0) cd_167_371 (by decide) ?_
  exact h5
theorem b_167_372 {d : Nat} {Q : (Option Value ⊕ Nat) → mi_H → Prop} (n sl : Nat) (f : Nat → mi_C) {l1 : Nat} {l2 : Int32} {l3 : Int32} {l4 : Int32} {s5 : Int32} (h6 : mi_W d 167 436 [some (.ref l1), some (.int l2), some (.int l3), some (.int s5)] [] (n, sl, f) Q) : mi_W d 167 372 [some (.ref l1), some (.int l2), some (.int l3), some (.int l4)] [.int s5] (n, sl, f) Q := by
  refine w_istore_n (ls' := [some (.ref l1), some (.int l2), some (.int l3), some (.int s5)]) cd_167_372 (Nat.le_of_ble_eq_true rfl) rfl ?_
  exact w_goto cd_167_373 (by decide) h6
theorem b_167_376 {d : Nat} {Q : (Option Value ⊕ Nat) → mi_H → Prop} (n sl : Nat) (f : Nat → mi_C) {l1 : Nat} {l2 : Int32} {l3 : Int32} {l4 : Int32} {fs5 : List Value} {x8 : Nat} {fs10 : List Value} (h6 : f l1 = .inr (12, fs5)) (h7 : l1 < n) (h9 : fs5[13]? = some (.ref x8)) (h11 : f l1 = .inr (12, fs10)) (h12 : l1 < n) (h13 : mi_W d 164 0 (mi_en 5 [.ref l1]) [] (n, sl, f) (mi_Kc d 167 382 [some (.ref l1), some (.int l2), some (.int l3), some (.int l4)] [.int l3, .ref x8] Q)) : mi_W (d + 1) 167 376 [some (.ref l1), some (.int l2), some (.int l3), some (.int l4)] [] (n, sl, f) Q := by
  refine w_aload_n cd_167_376 rfl ?_
  refine w_getfield cd_167_377 (show mt_f 12 80 = some (12, 13) by decide +kernel) h6 h7 h9 ?_
  refine w_iload_n cd_167_380 rfl ?_
  refine w_aload_n cd_167_381 rfl ?_
  exact w_invokevirtual cd_167_382 (show mt_m 12 416 = some (164, 0) by decide +kernel) (rest := [.int l3, .ref x8]) rfl (as := [.ref l1]) rfl h11 (Or.inl h12) ⟨Nat.le_of_ble_eq_true rfl, Nat.le_of_ble_eq_true rfl, Nat.le_of_ble_eq_true rfl⟩ h13
theorem b_167_385 {d : Nat} {Q : (Option Value ⊕ Nat) → mi_H → Prop} (n sl : Nat) (f : Nat → mi_C) {l1 : Nat} {l2 : Int32} {l3 : Int32} {l4 : Int32} {s5 : Int32} {s6 : Int32} {s7 : Nat} (m8 i8 : Nat) (g8 : Nat → Int32) (h9 : f s7 = .inl (0, m8, .inl g8)) (h10 : s7 < n) (h11 : mi_ix s6 m8 i8) (h12 : s5 < (0 : Int32) → mi_W d 167 394 [some (.ref l1), some (.int l2), some (.int l3), some (.int l4)] [] (n, sl, (va_up f s7 (.inl (0, m8, .inl (upd g8 i8 s5))))) Q) (h13 : ¬ (s5 < (0 : Int32)) → mi_W d 167 390 [some (.ref l1), some (.int l2), some (.int l3), some (.int l4)] [] (n, sl, (va_up f s7 (.inl (0, m8, .inl (upd g8 i8 s5))))) Q) : mi_W d 167 385 [some (.ref l1), some (.int l2), some (.int l3), some (.int l4)] [.int s5, .int s6, .ref s7] (n, sl, f) Q := by
  refine w_dup_x2_iir cd_167_385 ?_
  refine w_iastore cd_167_386 h9 h10 h11 ?_
  exact w_iflt cd_167_387 (by decide) h12 h13
theorem b_167_390 {d : Nat} {Q : (Option Value ⊕ Nat) → mi_H → Prop} (n sl : Nat) (f : Nat → mi_C) {l1 : Nat} {l2 : Int32} {l3 : Int32} {l4 : Int32} (h5 : mi_W d 167 395 [some (.ref l1), some (.int l2), some (.int l3), some (.int l4)] [.int 1] (n, sl, f) Q) : mi_W d 167 390 [some (.ref l1), some (.int l2), some (.int l3), some (.int l4)] [] (n, sl, f) Q := by
  refine w_iconst (v := 1) cd_167_390 (by decide) ?_
  exact w_goto cd_167_391 (by decide) h5
theorem b_167_394 {d : Nat} {Q : (Option Value ⊕ Nat) → mi_H → Prop} (n sl : Nat) (f : Nat → mi_C) {l1 : Nat} {l2 : Int32} {l3 : Int32} {l4 : Int32} (h5 : mi_W d 167 395 [some (.ref l1), some (.int l2), some (.int l3), some (.int l4)] [.int 0] (n, sl, f) Q) : mi_W d 167 394 [some (.ref l1), some (.int l2), some (.int l3), some (.int l4)] [] (n, sl, f) Q := by
  refine w_iconst (v := 0) cd_167_394 (by decide) ?_
  exact h5
theorem b_167_395 {d : Nat} {Q : (Option Value ⊕ Nat) → mi_H → Prop} (n sl : Nat) (f : Nat → mi_C) {l1 : Nat} {l2 : Int32} {l3 : Int32} {l4 : Int32} {s5 : Int32} (h6 : mi_W d 167 436 [some (.ref l1), some (.int l2), some (.int l3), some (.int s5)] [] (n, sl, f) Q) : mi_W d 167 395 [some (.ref l1), some (.int l2), some (.int l3), some (.int l4)] [.int s5] (n, sl, f) Q := by
  refine w_istore_n (ls' := [some (.ref l1), some (.int l2), some (.int l3), some (.int s5)]) cd_167_395 (Nat.le_of_ble_eq_true rfl) rfl ?_
  exact w_goto cd_167_396 (by decide) h6
theorem b_167_399 {d : Nat} {Q : (Option Value ⊕ Nat) → mi_H → Prop} (n sl : Nat) (f : Nat → mi_C) {l1 : Nat} {l2 : Int32} {l3 : Int32} {l4 : Int32} (h5 : mi_W d 167 436 [some (.ref l1), some (.int l2), some (.int l3), some (.int l4)] [] (n, sl, f) Q) : mi_W d 167 399 [some (.ref l1), some (.int l2), some (.int l3), some (.int l4)] [] (n, sl, f) Q := by
  exact w_goto cd_167_399 (by decide) h5
theorem b_167_402 {d : Nat} {Q : (Option Value ⊕ Nat) → mi_H → Prop} (n sl : Nat) (f : Nat → mi_C) {l1 : Nat} {l2 : Int32} {l3 : Int32} {l4 : Int32} {fs5 : List Value} {x8 : Nat} {fs10 : List Value} (h6 : f l1 = .inr (12, fs5)) (h7 : l1 < n) (h9 : fs5[13]? = some (.ref x8)) (h11 : f l1 = .inr (12, fs10)) (h12 : l1 < n) (h13 : mi_W d 163 0 (mi_en 4 [.ref l1]) [] (n, sl, f) (mi_Kc d 167 408 [some (.ref l1), some (.int l2), some (.int l3), some (.int l4)] [.int l3, .ref x8] Q)) : mi_W (d + 1) 167 402 [some (.ref l1), some (.int l2), some (.int l3), some (.int l4)] [] (n, sl, f) Q := by
  refine w_aload_n cd_167_402 rfl ?_
  refine w_getfield cd_167_403 (show mt_f 12 80 = some (12, 13) by decide +kernel) h6 h7 h9 ?_
  refine w_iload_n cd_167_406 rfl ?_
  refine w_aload_n cd_167_407 rfl ?_
  exact w_invokevirtual cd_167_408 (show mt_m 12 399 = some (163, 0) by decide +kernel) (rest := [.int l3, .ref x8]) rfl (as := [.ref l1]) rfl h11 (Or.inl h12) ⟨Nat.le_of_ble_eq_true rfl, Nat.le_of_ble_eq_true rfl, Nat.le_of_ble_eq_true rfl⟩ h13
theorem b_167_411 {d : Nat} {Q : (Option Value ⊕ Nat) → mi_H → Prop} (n sl : Nat) (f : Nat → mi_C) {l1 : Nat} {l2 : Int32} {l3 : Int32} {l4 : Int32} {s5 : Int32} {s6 : Int32} {s7 : Nat} (m8 i8 : Nat) (g8 : Nat → Int32) (h9 : f s7 = .inl (0, m8, .inl g8)) (h10 : s7 < n) (h11 : mi_ix s6 m8 i8) (h12 : s5 < (0 : Int32) → mi_W d 167 434 [some (.ref l1), some (.int l2), some (.int l3), some (.int l4)] [] (n, sl, (va_up f s7 (.inl (0, m8, .inl (upd g8 i8 s5))))) Q) (h13 : ¬ (s5 < (0 : Int32)) → mi_W d 167 416 [some (.ref l1), some (.int l2), some (.int l3), some (.int l4)] [] (n, sl, (va_up f s7 (.inl (0, m8, .inl (upd g8 i8 s5))))) Q) : mi_W d 167 411 [some (.ref l1), some (.int l2), some (.int l3), some (.int l4)] [.int s5, .int s6, .ref s7] (n, sl, f) Q := by
  refine w_dup_x2_iir cd_167_411 ?_
  refine w_iastore cd_167_412 h9 h10 h11 ?_
  exact w_iflt cd_167_413 (by decide) h12 h13
theorem b_167_416 {d : Nat} {Q : (Option Value ⊕ Nat) → mi_H → Prop} (n sl : Nat) (f : Nat → mi_C) {l1 : Nat} {l2 : Int32} {l3 : Int32} {l4 : Int32} {fs5 : List Value} {x8 : Nat} {fs10 : List Value} (h6 : f l1 = .inr (12, fs5)) (h7 : l1 < n) (h9 : fs5[14]? = some (.ref x8)) (h11 : f l1 = .inr (12, fs10)) (h12 : l1 < n) (h13 : mi_W d 163 0 (mi_en 4 [.ref l1]) [] (n, sl, f) (mi_Kc d 167 422 [some (.ref l1), some (.int l2), some (.int l3), some (.int l4)] [.int l3, .ref x8] Q)) : mi_W (d + 1) 167 416 [some (.ref l1), some (.int l2), some (.int l3), some (.int l4)] [] (n, sl, f) Q := by
  refine w_aload_n cd_167_416 rfl ?_
  refine w_getfield cd_167_417 (show mt_f 12 83 = some (12, 14) by decide +kernel) h6 h7 h9 ?_
  refine w_iload_n cd_167_420 rfl ?_
  refine w_aload_n cd_167_421 rfl ?_
  exact w_invokevirtual cd_167_422 (show mt_m 12 399 = some (163, 0) by decide +kernel) (rest := [.int l3, .ref x8]) rfl (as := [.ref l1]) rfl h11 (Or.inl h12) ⟨Nat.le_of_ble_eq_true rfl, Nat.le_of_ble_eq_true rfl, Nat.le_of_ble_eq_true rfl⟩ h13
theorem b_167_425 {d : Nat} {Q : (Option Value ⊕ Nat) → mi_H → Prop} (n sl : Nat) (f : Nat → mi_C) {l1 : Nat} {l2 : Int32} {l3 : Int32} {l4 : Int32} {s5 : Int32} {s6 : Int32} {s7 : Nat} (m8 i8 : Nat) (g8 : Nat → Int32) (h9 : f s7 = .inl (0, m8, .inl g8)) (h10 : s7 < n) (h11 : mi_ix s6 m8 i8) (h12 : s5 < (0 : Int32) → mi_W d 167 434 [some (.ref l1), some (.int l2), some (.int l3), some (.int l4)] [] (n, sl, (va_up f s7 (.inl (0, m8, .inl (upd g8 i8 s5))))) Q) (h13 : ¬ (s5 < (0 : Int32)) → mi_W d 167 430 [some (.ref l1), some (.int l2), some (.int l3), some (.int l4)] [] (n, sl, (va_up f s7 (.inl (0, m8, .inl (upd g8 i8 s5))))) Q) : mi_W d 167 425 [some (.ref l1), some (.int l2), some (.int l3), some (.int l4)] [.int s5, .int s6, .ref s7] (n, sl, f) Q := by
  refine w_dup_x2_iir cd_167_425 ?_
  refine w_iastore cd_167_426 h9 h10 h11 ?_
  exact w_iflt cd_167_427 (by decide) h12 h13
theorem b_167_430 {d : Nat} {Q : (Option Value ⊕ Nat) → mi_H → Prop} (n sl : Nat) (f : Nat → mi_C) {l1 : Nat} {l2 : Int32} {l3 : Int32} {l4 : Int32} (h5 : mi_W d 167 435 [some (.ref l1), some (.int l2), some (.int l3), some (.int l4)] [.int 1] (n, sl, f) Q) : mi_W d 167 430 [some (.ref l1), some (.int l2), some (.int l3), some (.int l4)] [] (n, sl, f) Q := by
  refine w_iconst (v := 1) cd_167_430 (by decide) ?_
  exact w_goto cd_167_431 (by decide) h5
theorem b_167_434 {d : Nat} {Q : (Option Value ⊕ Nat) → mi_H → Prop} (n sl : Nat) (f : Nat → mi_C) {l1 : Nat} {l2 : Int32} {l3 : Int32} {l4 : Int32} (h5 : mi_W d 167 435 [some (.ref l1), some (.int l2), some (.int l3), some (.int l4)] [.int 0] (n, sl, f) Q) : mi_W d 167 434 [some (.ref l1), some (.int l2), some (.int l3), some (.int l4)] [] (n, sl, f) Q := by
  refine w_iconst (v := 0) cd_167_434 (by decide) ?_
  exact h5
theorem b_167_435 {d : Nat} {Q : (Option Value ⊕ Nat) → mi_H → Prop} (n sl : Nat) (f : Nat → mi_C) {l1 : Nat} {l2 : Int32} {l3 : Int32} {l4 : Int32} {s5 : Int32} (h6 : mi_W d 167 436 [some (.ref l1), some (.int l2), some (.int l3), some (.int s5)] [] (n, sl, f) Q) : mi_W d 167 435 [some (.ref l1), some (.int l2), some (.int l3), some (.int l4)] [.int s5] (n, sl, f) Q := by
  refine w_istore_n (ls' := [some (.ref l1), some (.int l2), some (.int l3), some (.int s5)]) cd_167_435 (Nat.le_of_ble_eq_true rfl) rfl ?_
  exact h6
theorem b_167_436 {d : Nat} {Q : (Option Value ⊕ Nat) → mi_H → Prop} (n sl : Nat) (f : Nat → mi_C) {l1 : Nat} {l2 : Int32} {l3 : Int32} {l4 : Int32} {fs5 : List Value} {x8 : Int32} {fs10 : List Value} (h6 : f l1 = .inr (12, fs5)) (h7 : l1 < n) (h9 : fs5[22]? = some (.int x8)) (h11 : f l1 = .inr (12, fs10)) (h12 : l1 < n) (h13 : 22 < fs10.length) (h14 : l4 = (0 : Int32) → mi_W d 167 454 [some (.ref l1), some (.int l2), some (.int l3), some (.int l4)] [] (n, sl, (va_up f l1 (.inr (12, fs10.set 22 (.int (x8 - 1)))))) Q) (h15 : ¬ (l4 = (0 : Int32)) → mi_W d 167 450 [some (.ref l1), some (.int l2), some (.int l3), some (.int l4)] [] (n, sl, (va_up f l1 (.inr (12, fs10.set 22 (.int (x8 - 1)))))) Q) : mi_W d 167 436 [some (.ref l1), some (.int l2), some (.int l3), some (.int l4)] [] (n, sl, f) Q := by
  refine w_aload_n cd_167_436 rfl ?_
  refine w_dup_r cd_167_437 ?_
  refine w_getfield cd_167_438 (show mt_f 12 337 = some (12, 22) by decide +kernel) h6 h7 h9 ?_
  refine w_iconst (v := 1) cd_167_441 (by decide) ?_
  refine w_isub cd_167_442 ?_
  refine w_putfield (w := .int (x8 - 1)) cd_167_443 (show mt_f 12 337 = some (12, 22) by decide +kernel) h11 h12 ⟨h13, rfl, Or.inl (by decide)⟩ ?_
  refine w_iload_n cd_167_446 rfl ?_
  exact w_ifeq cd_167_447 (by decide) h14 h15
theorem b_167_450 {d : Nat} {Q : (Option Value ⊕ Nat) → mi_H → Prop} (n sl : Nat) (f : Nat → mi_C) {l1 : Nat} {l2 : Int32} {l3 : Int32} {l4 : Int32} (h5 : mi_W d 167 455 [some (.ref l1), some (.int l2), some (.int l3), some (.int l4)] [.int l3] (n, sl, f) Q) : mi_W d 167 450 [some (.ref l1), some (.int l2), some (.int l3), some (.int l4)] [] (n, sl, f) Q := by
  refine w_iload_n cd_167_450 rfl ?_
  exact w_goto cd_167_451 (by decide) h5
theorem b_167_454 {d : Nat} {Q : (Option Value ⊕ Nat) → mi_H → Prop} (n sl : Nat) (f : Nat → mi_C) {l1 : Nat} {l2 : Int32} {l3 : Int32} {l4 : Int32} (h5 : mi_W d 167 455 [some (.ref l1), some (.int l2), some (.int l3), some (.int l4)] [.int (-1)] (n, sl, f) Q) : mi_W d 167 454 [some (.ref l1), some (.int l2), some (.int l3), some (.int l4)] [] (n, sl, f) Q := by
  refine w_iconst (v := (-1)) cd_167_454 (by decide) ?_
  exact h5
theorem b_167_455 {d : Nat} {Q : (Option Value ⊕ Nat) → mi_H → Prop} (n sl : Nat) (f : Nat → mi_C) {l1 : Nat} {l2 : Int32} {l3 : Int32} {l4 : Int32} {s5 : Int32} (h6 : Q (.inl (some (.int s5))) (n, sl, f)) : mi_W d 167 455 [some (.ref l1), some (.int l2), some (.int l3), some (.int l4)] [.int s5] (n, sl, f) Q := by
  exact w_ireturn_i cd_167_455 (by decide +kernel) h6
/-! MarloweHostModel.when(I)Z -/
set_option maxRecDepth 100000 in
theorem mq_168 : mt_q 168 = my_168 := rfl
set_option maxRecDepth 100000 in
theorem ci_168 : mt_inc 0 my_168.cd = true := by decide +kernel
theorem cd_168_0 : mt_cd 168 0 = some (.aload_n 0) := mt_cd_of (q := (0, .aload_n 0, 1)) mq_168 ci_168 (List.mem_append_left _ (show _ ∈ my_168_0 from List.mem_of_getElem? (i := 0) rfl))
theorem cd_168_1 : mt_cd 168 1 = some (.aload_n 0) := mt_cd_of (q := (1, .aload_n 0, 1)) mq_168 ci_168 (List.mem_append_left _ (show _ ∈ my_168_0 from List.mem_of_getElem? (i := 1) rfl))
theorem cd_168_2 : mt_cd 168 2 = some (.ldc_w 409) := mt_cd_of (q := (2, .ldc_w 409, 3)) mq_168 ci_168 (List.mem_append_left _ (show _ ∈ my_168_0 from List.mem_of_getElem? (i := 2) rfl))
theorem cd_168_5 : mt_cd 168 5 = some (.invokevirtual 375) := mt_cd_of (q := (5, .invokevirtual 375, 3)) mq_168 ci_168 (List.mem_append_left _ (show _ ∈ my_168_0 from List.mem_of_getElem? (i := 3) rfl))
theorem cd_168_8 : mt_cd 168 8 = some (.invokevirtual 383) := mt_cd_of (q := (8, .invokevirtual 383, 3)) mq_168 ci_168 (List.mem_append_left _ (show _ ∈ my_168_0 from List.mem_of_getElem? (i := 4) rfl))
theorem cd_168_11 : mt_cd 168 11 = some (.ifCond .ne 5) := mt_cd_of (q := (11, .ifCond .ne 5, 3)) mq_168 ci_168 (List.mem_append_left _ (show _ ∈ my_168_0 from List.mem_of_getElem? (i := 5) rfl))
theorem cd_168_14 : mt_cd 168 14 = some (.iconst 0) := mt_cd_of (q := (14, .iconst 0, 1)) mq_168 ci_168 (List.mem_append_left _ (show _ ∈ my_168_0 from List.mem_of_getElem? (i := 6) rfl))
theorem cd_168_15 : mt_cd 168 15 = some (.ireturn) := mt_cd_of (q := (15, .ireturn, 1)) mq_168 ci_168 (List.mem_append_left _ (show _ ∈ my_168_0 from List.mem_of_getElem? (i := 7) rfl))
theorem cd_168_16 : mt_cd 168 16 = some (.aload_n 0) := mt_cd_of (q := (16, .aload_n 0, 1)) mq_168 ci_168 (List.mem_append_left _ (show _ ∈ my_168_0 from List.mem_of_getElem? (i := 8) rfl))
theorem cd_168_17 : mt_cd 168 17 = some (.getfield 92) := mt_cd_of (q := (17, .getfield 92, 3)) mq_168 ci_168 (List.mem_append_left _ (show _ ∈ my_168_0 from List.mem_of_getElem? (i := 9) rfl))
theorem cd_168_20 : mt_cd 168 20 = some (.iload_n 1) := mt_cd_of (q := (20, .iload_n 1, 1)) mq_168 ci_168 (List.mem_append_left _ (show _ ∈ my_168_0 from List.mem_of_getElem? (i := 10) rfl))
theorem cd_168_21 : mt_cd 168 21 = some (.iconst (-1)) := mt_cd_of (q := (21, .iconst (-1), 1)) mq_168 ci_168 (List.mem_append_left _ (show _ ∈ my_168_0 from List.mem_of_getElem? (i := 11) rfl))
theorem cd_168_22 : mt_cd 168 22 = some (.iastore) := mt_cd_of (q := (22, .iastore, 1)) mq_168 ci_168 (List.mem_append_left _ (show _ ∈ my_168_0 from List.mem_of_getElem? (i := 12) rfl))
theorem cd_168_23 : mt_cd 168 23 = some (.iconst (-1)) := mt_cd_of (q := (23, .iconst (-1), 1)) mq_168 ci_168 (List.mem_append_left _ (show _ ∈ my_168_0 from List.mem_of_getElem? (i := 13) rfl))
theorem cd_168_24 : mt_cd 168 24 = some (.istore_n 2) := mt_cd_of (q := (24, .istore_n 2, 1)) mq_168 ci_168 (List.mem_append_left _ (show _ ∈ my_168_0 from List.mem_of_getElem? (i := 14) rfl))
theorem cd_168_25 : mt_cd 168 25 = some (.iconst 0) := mt_cd_of (q := (25, .iconst 0, 1)) mq_168 ci_168 (List.mem_append_left _ (show _ ∈ my_168_0 from List.mem_of_getElem? (i := 15) rfl))
theorem cd_168_26 : mt_cd 168 26 = some (.istore_n 3) := mt_cd_of (q := (26, .istore_n 3, 1)) mq_168 ci_168 (List.mem_append_left _ (show _ ∈ my_168_0 from List.mem_of_getElem? (i := 16) rfl))
theorem cd_168_27 : mt_cd 168 27 = some (.aload_n 0) := mt_cd_of (q := (27, .aload_n 0, 1)) mq_168 ci_168 (List.mem_append_left _ (show _ ∈ my_168_0 from List.mem_of_getElem? (i := 17) rfl))
theorem cd_168_28 : mt_cd 168 28 = some (.ldc_w 411) := mt_cd_of (q := (28, .ldc_w 411, 3)) mq_168 ci_168 (List.mem_append_left _ (show _ ∈ my_168_0 from List.mem_of_getElem? (i := 18) rfl))
theorem cd_168_31 : mt_cd 168 31 = some (.invokevirtual 375) := mt_cd_of (q := (31, .invokevirtual 375, 3)) mq_168 ci_168 (List.mem_append_left _ (show _ ∈ my_168_0 from List.mem_of_getElem? (i := 19) rfl))
theorem cd_168_34 : mt_cd 168 34 = some (.ifCond .ne 154) := mt_cd_of (q := (34, .ifCond .ne 154, 3)) mq_168 ci_168 (List.mem_append_left _ (show _ ∈ my_168_0 from List.mem_of_getElem? (i := 20) rfl))
theorem cd_168_37 : mt_cd 168 37 = some (.aload_n 0) := mt_cd_of (q := (37, .aload_n 0, 1)) mq_168 ci_168 (List.mem_append_left _ (show _ ∈ my_168_0 from List.mem_of_getElem? (i := 21) rfl))
theorem cd_168_38 : mt_cd 168 38 = some (.ldc 41) := mt_cd_of (q := (38, .ldc 41, 2)) mq_168 ci_168 (List.mem_append_left _ (show _ ∈ my_168_0 from List.mem_of_getElem? (i := 22) rfl))
theorem cd_168_40 : mt_cd 168 40 = some (.invokevirtual 387) := mt_cd_of (q := (40, .invokevirtual 387, 3)) mq_168 ci_168 (List.mem_append_left _ (show _ ∈ my_168_0 from List.mem_of_getElem? (i := 23) rfl))
theorem cd_168_43 : mt_cd 168 43 = some (.ifCond .eq 8) := mt_cd_of (q := (43, .ifCond .eq 8, 3)) mq_168 ci_168 (List.mem_append_left _ (show _ ∈ my_168_0 from List.mem_of_getElem? (i := 24) rfl))
theorem cd_168_46 : mt_cd 168 46 = some (.bipush 7) := mt_cd_of (q := (46, .bipush 7, 2)) mq_168 ci_168 (List.mem_append_left _ (show _ ∈ my_168_0 from List.mem_of_getElem? (i := 25) rfl))
theorem cd_168_48 : mt_cd 168 48 = some (.goto 32) := mt_cd_of (q := (48, .goto 32, 3)) mq_168 ci_168 (List.mem_append_left _ (show _ ∈ my_168_0 from List.mem_of_getElem? (i := 26) rfl))
theorem cd_168_51 : mt_cd 168 51 = some (.aload_n 0) := mt_cd_of (q := (51, .aload_n 0, 1)) mq_168 ci_168 (List.mem_append_left _ (show _ ∈ my_168_0 from List.mem_of_getElem? (i := 27) rfl))
theorem cd_168_52 : mt_cd 168 52 = some (.ldc 43) := mt_cd_of (q := (52, .ldc 43, 2)) mq_168 ci_168 (List.mem_append_left _ (show _ ∈ my_168_0 from List.mem_of_getElem? (i := 28) rfl))
theorem cd_168_54 : mt_cd 168 54 = some (.invokevirtual 387) := mt_cd_of (q := (54, .invokevirtual 387, 3)) mq_168 ci_168 (List.mem_append_left _ (show _ ∈ my_168_0 from List.mem_of_getElem? (i := 29) rfl))
theorem cd_168_57 : mt_cd 168 57 = some (.ifCond .eq 8) := mt_cd_of (q := (57, .ifCond .eq 8, 3)) mq_168 ci_168 (List.mem_append_left _ (show _ ∈ my_168_0 from List.mem_of_getElem? (i := 30) rfl))
theorem cd_168_60 : mt_cd 168 60 = some (.bipush 8) := mt_cd_of (q := (60, .bipush 8, 2)) mq_168 ci_168 (List.mem_append_left _ (show _ ∈ my_168_0 from List.mem_of_getElem? (i := 31) rfl))
theorem cd_168_62 : mt_cd 168 62 = some (.goto 18) := mt_cd_of (q := (62, .goto 18, 3)) mq_168 ci_168 (List.mem_append_left _ (show _ ∈ my_168_0 from List.mem_of_getElem? (i := 32) rfl))
theorem cd_168_65 : mt_cd 168 65 = some (.aload_n 0) := mt_cd_of (q := (65, .aload_n 0, 1)) mq_168 ci_168 (List.mem_append_left _ (show _ ∈ my_168_0 from List.mem_of_getElem? (i := 33) rfl))
theorem cd_168_66 : mt_cd 168 66 = some (.ldc 45) := mt_cd_of (q := (66, .ldc 45, 2)) mq_168 ci_168 (List.mem_append_left _ (show _ ∈ my_168_0 from List.mem_of_getElem? (i := 34) rfl))
theorem cd_168_68 : mt_cd 168 68 = some (.invokevirtual 387) := mt_cd_of (q := (68, .invokevirtual 387, 3)) mq_168 ci_168 (List.mem_append_left _ (show _ ∈ my_168_0 from List.mem_of_getElem? (i := 35) rfl))
theorem cd_168_71 : mt_cd 168 71 = some (.ifCond .eq 8) := mt_cd_of (q := (71, .ifCond .eq 8, 3)) mq_168 ci_168 (List.mem_append_left _ (show _ ∈ my_168_0 from List.mem_of_getElem? (i := 36) rfl))
theorem cd_168_74 : mt_cd 168 74 = some (.bipush 9) := mt_cd_of (q := (74, .bipush 9, 2)) mq_168 ci_168 (List.mem_append_left _ (show _ ∈ my_168_0 from List.mem_of_getElem? (i := 37) rfl))
theorem cd_168_76 : mt_cd 168 76 = some (.goto 4) := mt_cd_of (q := (76, .goto 4, 3)) mq_168 ci_168 (List.mem_append_left _ (show _ ∈ my_168_0 from List.mem_of_getElem? (i := 38) rfl))
theorem cd_168_79 : mt_cd 168 79 = some (.iconst (-1)) := mt_cd_of (q := (79, .iconst (-1), 1)) mq_168 ci_168 (List.mem_append_left _ (show _ ∈ my_168_0 from List.mem_of_getElem? (i := 39) rfl))
theorem cd_168_80 : mt_cd 168 80 = some (.istore 4) := mt_cd_of (q := (80, .istore 4, 2)) mq_168 ci_168 (List.mem_append_left _ (show _ ∈ my_168_0 from List.mem_of_getElem? (i := 40) rfl))
theorem cd_168_82 : mt_cd 168 82 = some (.iload 4) := mt_cd_of (q := (82, .iload 4, 2)) mq_168 ci_168 (List.mem_append_left _ (show _ ∈ my_168_0 from List.mem_of_getElem? (i := 41) rfl))
theorem cd_168_84 : mt_cd 168 84 = some (.ifCond .lt 12) := mt_cd_of (q := (84, .ifCond .lt 12, 3)) mq_168 ci_168 (List.mem_append_left _ (show _ ∈ my_168_0 from List.mem_of_getElem? (i := 42) rfl))
theorem cd_168_87 : mt_cd 168 87 = some (.iload_n 3) := mt_cd_of (q := (87, .iload_n 3, 1)) mq_168 ci_168 (List.mem_append_left _ (show _ ∈ my_168_0 from List.mem_of_getElem? (i := 43) rfl))
theorem cd_168_88 : mt_cd 168 88 = some (.iinc 3 1) := mt_cd_of (q := (88, .iinc 3 1, 3)) mq_168 ci_168 (List.mem_append_left _ (show _ ∈ my_168_0 from List.mem_of_getElem? (i := 44) rfl))
theorem cd_168_91 : mt_cd 168 91 = some (.bipush 8) := mt_cd_of (q := (91, .bipush 8, 2)) mq_168 ci_168 (List.mem_append_left _ (show _ ∈ my_168_0 from List.mem_of_getElem? (i := 45) rfl))
theorem cd_168_93 : mt_cd 168 93 = some (.if_icmp .ne 12) := mt_cd_of (q := (93, .if_icmp .ne 12, 3)) mq_168 ci_168 (List.mem_append_left _ (show _ ∈ my_168_0 from List.mem_of_getElem? (i := 46) rfl))
theorem cd_168_96 : mt_cd 168 96 = some (.aload_n 0) := mt_cd_of (q := (96, .aload_n 0, 1)) mq_168 ci_168 (List.mem_append_left _ (show _ ∈ my_168_0 from List.mem_of_getElem? (i := 47) rfl))
theorem cd_168_97 : mt_cd 168 97 = some (.aload_n 0) := mt_cd_of (q := (97, .aload_n 0, 1)) mq_168 ci_168 (List.mem_append_left _ (show _ ∈ my_168_0 from List.mem_of_getElem? (i := 48) rfl))
theorem cd_168_98 : mt_cd 168 98 = some (.getfield 299) := mt_cd_of (q := (98, .getfield 299, 3)) mq_168 ci_168 (List.mem_append_left _ (show _ ∈ my_168_0 from List.mem_of_getElem? (i := 49) rfl))
theorem cd_168_101 : mt_cd 168 101 = some (.invokevirtual 272) := mt_cd_of (q := (101, .invokevirtual 272, 3)) mq_168 ci_168 (List.mem_append_left _ (show _ ∈ my_168_0 from List.mem_of_getElem? (i := 50) rfl))
theorem cd_168_104 : mt_cd 168 104 = some (.ireturn) := mt_cd_of (q := (104, .ireturn, 1)) mq_168 ci_168 (List.mem_append_left _ (show _ ∈ my_168_0 from List.mem_of_getElem? (i := 51) rfl))
theorem cd_168_105 : mt_cd 168 105 = some (.aload_n 0) := mt_cd_of (q := (105, .aload_n 0, 1)) mq_168 ci_168 (List.mem_append_left _ (show _ ∈ my_168_0 from List.mem_of_getElem? (i := 52) rfl))
theorem cd_168_106 : mt_cd 168 106 = some (.iload 4) := mt_cd_of (q := (106, .iload 4, 2)) mq_168 ci_168 (List.mem_append_left _ (show _ ∈ my_168_0 from List.mem_of_getElem? (i := 53) rfl))
theorem cd_168_108 : mt_cd 168 108 = some (.invokevirtual 390) := mt_cd_of (q := (108, .invokevirtual 390, 3)) mq_168 ci_168 (List.mem_append_left _ (show _ ∈ my_168_0 from List.mem_of_getElem? (i := 54) rfl))
theorem cd_168_111 : mt_cd 168 111 = some (.istore 5) := mt_cd_of (q := (111, .istore 5, 2)) mq_168 ci_168 (List.mem_append_left _ (show _ ∈ my_168_0 from List.mem_of_getElem? (i := 55) rfl))
theorem cd_168_113 : mt_cd 168 113 = some (.iload 5) := mt_cd_of (q := (113, .iload 5, 2)) mq_168 ci_168 (List.mem_append_left _ (show _ ∈ my_168_0 from List.mem_of_getElem? (i := 56) rfl))
theorem cd_168_115 : mt_cd 168 115 = some (.ifCond .lt 34) := mt_cd_of (q := (115, .ifCond .lt 34, 3)) mq_168 ci_168 (List.mem_append_left _ (show _ ∈ my_168_0 from List.mem_of_getElem? (i := 57) rfl))
theorem cd_168_118 : mt_cd 168 118 = some (.aload_n 0) := mt_cd_of (q := (118, .aload_n 0, 1)) mq_168 ci_168 (List.mem_append_left _ (show _ ∈ my_168_0 from List.mem_of_getElem? (i := 58) rfl))
theorem cd_168_119 : mt_cd 168 119 = some (.invokevirtual 333) := mt_cd_of (q := (119, .invokevirtual 333, 3)) mq_168 ci_168 (List.mem_append_left _ (show _ ∈ my_168_0 from List.mem_of_getElem? (i := 59) rfl))
theorem cd_168_122 : mt_cd 168 122 = some (.ifCond .eq 27) := mt_cd_of (q := (122, .ifCond .eq 27, 3)) mq_168 ci_168 (List.mem_append_right _ (List.mem_append_left _ (show _ ∈ my_168_1 from List.mem_of_getElem? (i := 0) rfl)))
theorem cd_168_125 : mt_cd 168 125 = some (.aload_n 0) := mt_cd_of (q := (125, .aload_n 0, 1)) mq_168 ci_168 (List.mem_append_right _ (List.mem_append_left _ (show _ ∈ my_168_1 from List.mem_of_getElem? (i := 1) rfl)))
theorem cd_168_126 : mt_cd 168 126 = some (.iload 5) := mt_cd_of (q := (126, .iload 5, 2)) mq_168 ci_168 (List.mem_append_right _ (List.mem_append_left _ (show _ ∈ my_168_1 from List.mem_of_getElem? (i := 2) rfl)))
theorem cd_168_128 : mt_cd 168 128 = some (.invokevirtual 413) := mt_cd_of (q := (128, .invokevirtual 413, 3)) mq_168 ci_168 (List.mem_append_right _ (List.mem_append_left _ (show _ ∈ my_168_1 from List.mem_of_getElem? (i := 3) rfl)))
theorem cd_168_131 : mt_cd 168 131 = some (.ifCond .eq 18) := mt_cd_of (q := (131, .ifCond .eq 18, 3)) mq_168 ci_168 (List.mem_append_right _ (List.mem_append_left _ (show _ ∈ my_168_1 from List.mem_of_getElem? (i := 4) rfl)))
theorem cd_168_134 : mt_cd 168 134 = some (.aload_n 0) := mt_cd_of (q := (134, .aload_n 0, 1)) mq_168 ci_168 (List.mem_append_right _ (List.mem_append_left _ (show _ ∈ my_168_1 from List.mem_of_getElem? (i := 5) rfl)))
theorem cd_168_135 : mt_cd 168 135 = some (.getfield 98) := mt_cd_of (q := (135, .getfield 98, 3)) mq_168 ci_168 (List.mem_append_right _ (List.mem_append_left _ (show _ ∈ my_168_1 from List.mem_of_getElem? (i := 6) rfl)))
theorem cd_168_138 : mt_cd 168 138 = some (.iload 5) := mt_cd_of (q := (138, .iload 5, 2)) mq_168 ci_168 (List.mem_append_right _ (List.mem_append_left _ (show _ ∈ my_168_1 from List.mem_of_getElem? (i := 7) rfl)))
theorem cd_168_140 : mt_cd 168 140 = some (.aload_n 0) := mt_cd_of (q := (140, .aload_n 0, 1)) mq_168 ci_168 (List.mem_append_right _ (List.mem_append_left _ (show _ ∈ my_168_1 from List.mem_of_getElem? (i := 8) rfl)))
theorem cd_168_141 : mt_cd 168 141 = some (.invokevirtual 355) := mt_cd_of (q := (141, .invokevirtual 355, 3)) mq_168 ci_168 (List.mem_append_right _ (List.mem_append_left _ (show _ ∈ my_168_1 from List.mem_of_getElem? (i := 9) rfl)))
theorem cd_168_144 : mt_cd 168 144 = some (.dup_x2) := mt_cd_of (q := (144, .dup_x2, 1)) mq_168 ci_168 (List.mem_append_right _ (List.mem_append_left _ (show _ ∈ my_168_1 from List.mem_of_getElem? (i := 10) rfl)))
theorem cd_168_145 : mt_cd 168 145 = some (.iastore) := mt_cd_of (q := (145, .iastore, 1)) mq_168 ci_168 (List.mem_append_right _ (List.mem_append_left _ (show _ ∈ my_168_1 from List.mem_of_getElem? (i := 11) rfl)))
theorem cd_168_146 : mt_cd 168 146 = some (.ifCond .ge 5) := mt_cd_of (q := (146, .ifCond .ge 5, 3)) mq_168 ci_168 (List.mem_append_right _ (List.mem_append_left _ (show _ ∈ my_168_1 from List.mem_of_getElem? (i := 12) rfl)))
theorem cd_168_149 : mt_cd 168 149 = some (.iconst 0) := mt_cd_of (q := (149, .iconst 0, 1)) mq_168 ci_168 (List.mem_append_right _ (List.mem_append_left _ (show _ ∈ my_168_1 from List.mem_of_getElem? (i := 13) rfl)))
theorem cd_168_150 : mt_cd 168 150 = some (.ireturn) := mt_cd_of (q := (150, .ireturn, 1)) mq_168 ci_168 (List.mem_append_right _ (List.mem_append_left _ (show _ ∈ my_168_1 from List.mem_of_getElem? (i := 14) rfl)))
theorem cd_168_151 : mt_cd 168 151 = some (.iload_n 2) := mt_cd_of (q := (151, .iload_n 2, 1)) mq_168 ci_168 (List.mem_append_right _ (List.mem_append_left _ (show _ ∈ my_168_1 from List.mem_of_getElem? (i := 15) rfl)))
theorem cd_168_152 : mt_cd 168 152 = some (.ifCond .ge 14) := mt_cd_of (q := (152, .ifCond .ge 14, 3)) mq_168 ci_168 (List.mem_append_right _ (List.mem_append_left _ (show _ ∈ my_168_1 from List.mem_of_getElem? (i := 16) rfl)))
theorem cd_168_155 : mt_cd 168 155 = some (.aload_n 0) := mt_cd_of (q := (155, .aload_n 0, 1)) mq_168 ci_168 (List.mem_append_right _ (List.mem_append_left _ (show _ ∈ my_168_1 from List.mem_of_getElem? (i := 17) rfl)))
theorem cd_168_156 : mt_cd 168 156 = some (.getfield 92) := mt_cd_of (q := (156, .getfield 92, 3)) mq_168 ci_168 (List.mem_append_right _ (List.mem_append_left _ (show _ ∈ my_168_1 from List.mem_of_getElem? (i := 18) rfl)))
theorem cd_168_159 : mt_cd 168 159 = some (.iload_n 1) := mt_cd_of (q := (159, .iload_n 1, 1)) mq_168 ci_168 (List.mem_append_right _ (List.mem_append_left _ (show _ ∈ my_168_1 from List.mem_of_getElem? (i := 19) rfl)))
theorem cd_168_160 : mt_cd 168 160 = some (.iload 5) := mt_cd_of (q := (160, .iload 5, 2)) mq_168 ci_168 (List.mem_append_right _ (List.mem_append_left _ (show _ ∈ my_168_1 from List.mem_of_getElem? (i := 20) rfl)))
theorem cd_168_162 : mt_cd 168 162 = some (.iastore) := mt_cd_of (q := (162, .iastore, 1)) mq_168 ci_168 (List.mem_append_right _ (List.mem_append_left _ (show _ ∈ my_168_1 from List.mem_of_getElem? (i := 21) rfl)))
theorem cd_168_163 : mt_cd 168 163 = some (.goto 11) := mt_cd_of (q := (163, .goto 11, 3)) mq_168 ci_168 (List.mem_append_right _ (List.mem_append_left _ (show _ ∈ my_168_1 from List.mem_of_getElem? (i := 22) rfl)))
theorem cd_168_166 : mt_cd 168 166 = some (.aload_n 0) := mt_cd_of (q := (166, .aload_n 0, 1)) mq_168 ci_168 (List.mem_append_right _ (List.mem_append_left _ (show _ ∈ my_168_1 from List.mem_of_getElem? (i := 23) rfl)))
theorem cd_168_167 : mt_cd 168 167 = some (.getfield 138) := mt_cd_of (q := (167, .getfield 138, 3)) mq_168 ci_168 (List.mem_append_right _ (List.mem_append_left _ (show _ ∈ my_168_1 from List.mem_of_getElem? (i := 24) rfl)))
theorem cd_168_170 : mt_cd 168 170 = some (.iload_n 2) := mt_cd_of (q := (170, .iload_n 2, 1)) mq_168 ci_168 (List.mem_append_right _ (List.mem_append_left _ (show _ ∈ my_168_1 from List.mem_of_getElem? (i := 25) rfl)))
theorem cd_168_171 : mt_cd 168 171 = some (.iload 5) := mt_cd_of (q := (171, .iload 5, 2)) mq_168 ci_168 (List.mem_append_right _ (List.mem_append_left _ (show _ ∈ my_168_1 from List.mem_of_getElem? (i := 26) rfl)))
theorem cd_168_173 : mt_cd 168 173 = some (.iastore) := mt_cd_of (q := (173, .iastore, 1)) mq_168 ci_168 (List.mem_append_right _ (List.mem_append_left _ (show _ ∈ my_168_1 from List.mem_of_getElem? (i := 27) rfl)))
theorem cd_168_174 : mt_cd 168 174 = some (.aload_n 0) := mt_cd_of (q := (174, .aload_n 0, 1)) mq_168 ci_168 (List.mem_append_right _ (List.mem_append_left _ (show _ ∈ my_168_1 from List.mem_of_getElem? (i := 28) rfl)))
theorem cd_168_175 : mt_cd 168 175 = some (.getfield 138) := mt_cd_of (q := (175, .getfield 138, 3)) mq_168 ci_168 (List.mem_append_right _ (List.mem_append_left _ (show _ ∈ my_168_1 from List.mem_of_getElem? (i := 29) rfl)))
theorem cd_168_178 : mt_cd 168 178 = some (.iload 5) := mt_cd_of (q := (178, .iload 5, 2)) mq_168 ci_168 (List.mem_append_right _ (List.mem_append_left _ (show _ ∈ my_168_1 from List.mem_of_getElem? (i := 30) rfl)))
theorem cd_168_180 : mt_cd 168 180 = some (.iconst (-1)) := mt_cd_of (q := (180, .iconst (-1), 1)) mq_168 ci_168 (List.mem_append_right _ (List.mem_append_left _ (show _ ∈ my_168_1 from List.mem_of_getElem? (i := 31) rfl)))
theorem cd_168_181 : mt_cd 168 181 = some (.iastore) := mt_cd_of (q := (181, .iastore, 1)) mq_168 ci_168 (List.mem_append_right _ (List.mem_append_left _ (show _ ∈ my_168_1 from List.mem_of_getElem? (i := 32) rfl)))
theorem cd_168_182 : mt_cd 168 182 = some (.iload 5) := mt_cd_of (q := (182, .iload 5, 2)) mq_168 ci_168 (List.mem_append_right _ (List.mem_append_left _ (show _ ∈ my_168_1 from List.mem_of_getElem? (i := 33) rfl)))
theorem cd_168_184 : mt_cd 168 184 = some (.istore_n 2) := mt_cd_of (q := (184, .istore_n 2, 1)) mq_168 ci_168 (List.mem_append_right _ (List.mem_append_left _ (show _ ∈ my_168_1 from List.mem_of_getElem? (i := 34) rfl)))
theorem cd_168_185 : mt_cd 168 185 = some (.goto (-158)) := mt_cd_of (q := (185, .goto (-158), 3)) mq_168 ci_168 (List.mem_append_right _ (List.mem_append_left _ (show _ ∈ my_168_1 from List.mem_of_getElem? (i := 35) rfl)))
theorem cd_168_188 : mt_cd 168 188 = some (.aload_n 0) := mt_cd_of (q := (188, .aload_n 0, 1)) mq_168 ci_168 (List.mem_append_right _ (List.mem_append_left _ (show _ ∈ my_168_1 from List.mem_of_getElem? (i := 36) rfl)))
theorem cd_168_189 : mt_cd 168 189 = some (.invokevirtual 333) := mt_cd_of (q := (189, .invokevirtual 333, 3)) mq_168 ci_168 (List.mem_append_right _ (List.mem_append_left _ (show _ ∈ my_168_1 from List.mem_of_getElem? (i := 37) rfl)))
theorem cd_168_192 : mt_cd 168 192 = some (.ifCond .ne 5) := mt_cd_of (q := (192, .ifCond .ne 5, 3)) mq_168 ci_168 (List.mem_append_right _ (List.mem_append_left _ (show _ ∈ my_168_1 from List.mem_of_getElem? (i := 38) rfl)))
theorem cd_168_195 : mt_cd 168 195 = some (.iconst 0) := mt_cd_of (q := (195, .iconst 0, 1)) mq_168 ci_168 (List.mem_append_right _ (List.mem_append_left _ (show _ ∈ my_168_1 from List.mem_of_getElem? (i := 39) rfl)))
theorem cd_168_196 : mt_cd 168 196 = some (.ireturn) := mt_cd_of (q := (196, .ireturn, 1)) mq_168 ci_168 (List.mem_append_right _ (List.mem_append_left _ (show _ ∈ my_168_1 from List.mem_of_getElem? (i := 40) rfl)))
theorem cd_168_197 : mt_cd 168 197 = some (.aload_n 0) := mt_cd_of (q := (197, .aload_n 0, 1)) mq_168 ci_168 (List.mem_append_right _ (List.mem_append_left _ (show _ ∈ my_168_1 from List.mem_of_getElem? (i := 41) rfl)))
theorem cd_168_198 : mt_cd 168 198 = some (.getfield 310) := mt_cd_of (q := (198, .getfield 310, 3)) mq_168 ci_168 (List.mem_append_right _ (List.mem_append_left _ (show _ ∈ my_168_1 from List.mem_of_getElem? (i := 42) rfl)))
theorem cd_168_201 : mt_cd 168 201 = some (.iconst 2) := mt_cd_of (q := (201, .iconst 2, 1)) mq_168 ci_168 (List.mem_append_right _ (List.mem_append_left _ (show _ ∈ my_168_1 from List.mem_of_getElem? (i := 43) rfl)))
theorem cd_168_202 : mt_cd 168 202 = some (.if_icmp .eq 12) := mt_cd_of (q := (202, .if_icmp .eq 12, 3)) mq_168 ci_168 (List.mem_append_right _ (List.mem_append_left _ (show _ ∈ my_168_1 from List.mem_of_getElem? (i := 44) rfl)))
theorem cd_168_205 : mt_cd 168 205 = some (.aload_n 0) := mt_cd_of (q := (205, .aload_n 0, 1)) mq_168 ci_168 (List.mem_append_right _ (List.mem_append_left _ (show _ ∈ my_168_1 from List.mem_of_getElem? (i := 45) rfl)))
theorem cd_168_206 : mt_cd 168 206 = some (.aload_n 0) := mt_cd_of (q := (206, .aload_n 0, 1)) mq_168 ci_168 (List.mem_append_right _ (List.mem_append_left _ (show _ ∈ my_168_1 from List.mem_of_getElem? (i := 46) rfl)))
theorem cd_168_207 : mt_cd 168 207 = some (.getfield 299) := mt_cd_of (q := (207, .getfield 299, 3)) mq_168 ci_168 (List.mem_append_right _ (List.mem_append_left _ (show _ ∈ my_168_1 from List.mem_of_getElem? (i := 47) rfl)))
theorem cd_168_210 : mt_cd 168 210 = some (.invokevirtual 272) := mt_cd_of (q := (210, .invokevirtual 272, 3)) mq_168 ci_168 (List.mem_append_right _ (List.mem_append_left _ (show _ ∈ my_168_1 from List.mem_of_getElem? (i := 48) rfl)))
theorem cd_168_213 : mt_cd 168 213 = some (.ireturn) := mt_cd_of (q := (213, .ireturn, 1)) mq_168 ci_168 (List.mem_append_right _ (List.mem_append_left _ (show _ ∈ my_168_1 from List.mem_of_getElem? (i := 49) rfl)))
theorem cd_168_214 : mt_cd 168 214 = some (.aload_n 0) := mt_cd_of (q := (214, .aload_n 0, 1)) mq_168 ci_168 (List.mem_append_right _ (List.mem_append_left _ (show _ ∈ my_168_1 from List.mem_of_getElem? (i := 50) rfl)))
theorem cd_168_215 : mt_cd 168 215 = some (.getfield 101) := mt_cd_of (q := (215, .getfield 101, 3)) mq_168 ci_168 (List.mem_append_right _ (List.mem_append_left _ (show _ ∈ my_168_1 from List.mem_of_getElem? (i := 51) rfl)))
theorem cd_168_218 : mt_cd 168 218 = some (.iload_n 1) := mt_cd_of (q := (218, .iload_n 1, 1)) mq_168 ci_168 (List.mem_append_right _ (List.mem_append_left _ (show _ ∈ my_168_1 from List.mem_of_getElem? (i := 52) rfl)))
theorem cd_168_219 : mt_cd 168 219 = some (.aload_n 0) := mt_cd_of (q := (219, .aload_n 0, 1)) mq_168 ci_168 (List.mem_append_right _ (List.mem_append_left _ (show _ ∈ my_168_1 from List.mem_of_getElem? (i := 53) rfl)))
theorem cd_168_220 : mt_cd 168 220 = some (.getfield 327) := mt_cd_of (q := (220, .getfield 327, 3)) mq_168 ci_168 (List.mem_append_right _ (List.mem_append_left _ (show _ ∈ my_168_1 from List.mem_of_getElem? (i := 54) rfl)))
theorem cd_168_223 : mt_cd 168 223 = some (.lastore) := mt_cd_of (q := (223, .lastore, 1)) mq_168 ci_168 (List.mem_append_right _ (List.mem_append_left _ (show _ ∈ my_168_1 from List.mem_of_getElem? (i := 55) rfl)))
theorem cd_168_224 : mt_cd 168 224 = some (.aload_n 0) := mt_cd_of (q := (224, .aload_n 0, 1)) mq_168 ci_168 (List.mem_append_right _ (List.mem_append_left _ (show _ ∈ my_168_1 from List.mem_of_getElem? (i := 56) rfl)))
theorem cd_168_225 : mt_cd 168 225 = some (.invokevirtual 333) := mt_cd_of (q := (225, .invokevirtual 333, 3)) mq_168 ci_168 (List.mem_append_right _ (List.mem_append_left _ (show _ ∈ my_168_1 from List.mem_of_getElem? (i := 57) rfl)))
theorem cd_168_228 : mt_cd 168 228 = some (.ifCond .eq 21) := mt_cd_of (q := (228, .ifCond .eq 21, 3)) mq_168 ci_168 (List.mem_append_right _ (List.mem_append_left _ (show _ ∈ my_168_1 from List.mem_of_getElem? (i := 58) rfl)))
theorem cd_168_231 : mt_cd 168 231 = some (.aload_n 0) := mt_cd_of (q := (231, .aload_n 0, 1)) mq_168 ci_168 (List.mem_append_right _ (List.mem_append_left _ (show _ ∈ my_168_1 from List.mem_of_getElem? (i := 59) rfl)))
theorem cd_168_232 : mt_cd 168 232 = some (.getfield 98) := mt_cd_of (q := (232, .getfield 98, 3)) mq_168 ci_168 (List.mem_append_right _ (List.mem_append_right _ ((show _ ∈ my_168_2 from List.mem_of_getElem? (i := 0) rfl))))
theorem cd_168_235 : mt_cd 168 235 = some (.iload_n 1) := mt_cd_of (q := (235, .iload_n 1, 1)) mq_168 ci_168 (List.mem_append_right _ (List.mem_append_right _ ((show _ ∈ my_168_2 from List.mem_of_getElem? (i := 1) rfl))))
theorem cd_168_236 : mt_cd 168 236 = some (.aload_n 0) := mt_cd_of (q := (236, .aload_n 0, 1)) mq_168 ci_168 (List.mem_append_right _ (List.mem_append_right _ ((show _ ∈ my_168_2 from List.mem_of_getElem? (i := 2) rfl))))
theorem cd_168_237 : mt_cd 168 237 = some (.invokevirtual 355) := mt_cd_of (q := (237, .invokevirtual 355, 3)) mq_168 ci_168 (List.mem_append_right _ (List.mem_append_right _ ((show _ ∈ my_168_2 from List.mem_of_getElem? (i := 3) rfl))))
theorem cd_168_240 : mt_cd 168 240 = some (.dup_x2) := mt_cd_of (q := (240, .dup_x2, 1)) mq_168 ci_168 (List.mem_append_right _ (List.mem_append_right _ ((show _ ∈ my_168_2 from List.mem_of_getElem? (i := 4) rfl))))
theorem cd_168_241 : mt_cd 168 241 = some (.iastore) := mt_cd_of (q := (241, .iastore, 1)) mq_168 ci_168 (List.mem_append_right _ (List.mem_append_right _ ((show _ ∈ my_168_2 from List.mem_of_getElem? (i := 5) rfl))))
theorem cd_168_242 : mt_cd 168 242 = some (.ifCond .lt 7) := mt_cd_of (q := (242, .ifCond .lt 7, 3)) mq_168 ci_168 (List.mem_append_right _ (List.mem_append_right _ ((show _ ∈ my_168_2 from List.mem_of_getElem? (i := 6) rfl))))
theorem cd_168_245 : mt_cd 168 245 = some (.iconst 1) := mt_cd_of (q := (245, .iconst 1, 1)) mq_168 ci_168 (List.mem_append_right _ (List.mem_append_right _ ((show _ ∈ my_168_2 from List.mem_of_getElem? (i := 7) rfl))))
theorem cd_168_246 : mt_cd 168 246 = some (.goto 4) := mt_cd_of (q := (246, .goto 4, 3)) mq_168 ci_168 (List.mem_append_right _ (List.mem_append_right _ ((show _ ∈ my_168_2 from List.mem_of_getElem? (i := 8) rfl))))
theorem cd_168_249 : mt_cd 168 249 = some (.iconst 0) := mt_cd_of (q := (249, .iconst 0, 1)) mq_168 ci_168 (List.mem_append_right _ (List.mem_append_right _ ((show _ ∈ my_168_2 from List.mem_of_getElem? (i := 9) rfl))))
theorem cd_168_250 : mt_cd 168 250 = some (.ireturn) := mt_cd_of (q := (250, .ireturn, 1)) mq_168 ci_168 (List.mem_append_right _ (List.mem_append_right _ ((show _ ∈ my_168_2 from List.mem_of_getElem? (i := 10) rfl))))
theorem b_168_0 {d : Nat} {Q : (Option Value ⊕ Nat) → mi_H → Prop} (n sl : Nat) (f : Nat → mi_C) {l1 : Nat} {l2 : Int32} {o3 : Option Value} {o4 : Option Value} {o5 : Option Value} {o6 : Option Value} {fs7 : List Value} (h8 : f l1 = .inr (12, fs7)) (h9 : l1 < n) (h10 : mi_W d 153 0 (mi_en 2 [.ref l1, .ref (mi_SC + 1 + 2 * 51)]) [] (n, sl, f) (mi_Kc d 168 5 [some (.ref l1), some (.int l2), o3, o4, o5, o6] [.ref l1] Q)) : mi_W (d + 1) 168 0 [some (.ref l1), some (.int l2), o3, o4, o5, o6] [] (n, sl, f) Q := by
  refine w_aload_n cd_168_0 rfl ?_
  refine w_aload_n cd_168_1 rfl ?_
  refine w_ldc_w (n := 51) cd_168_2 (by decide +kernel) ?_
  exact w_invokevirtual cd_168_5 (show mt_m 12 375 = some (153, 0) by decide +kernel) (rest := [.ref l1]) rfl (as := [.ref l1, .ref (mi_SC + 1 + 2 * 51)]) rfl h8 (Or.inl h9) ⟨Nat.le_of_ble_eq_true rfl, Nat.le_of_ble_eq_true rfl, Nat.le_of_ble_eq_true rfl⟩ h10
theorem b_168_8 {d : Nat} {Q : (Option Value ⊕ Nat) → mi_H → Prop} (n sl : Nat) (f : Nat → mi_C) {l1 : Nat} {l2 : Int32} {o3 : Option Value} {o4 : Option Value} {o5 : Option Value} {o6 : Option Value} {s7 : Int32} {s8 : Nat} {fs9 : List Value} (h10 : f s8 = .inr (12, fs9)) (h11 : s8 < n) (h12 : mi_W d 155 0 (mi_en 2 [.ref s8, .int s7]) [] (n, sl, f) (mi_Kc d 168 8 [some (.ref l1), some (.int l2), o3, o4, o5, o6] [] Q)) : mi_W (d + 1) 168 8 [some (.ref l1), some (.int l2), o3, o4, o5, o6] [.int s7, .ref s8] (n, sl, f) Q := by
  exact w_invokevirtual cd_168_8 (show mt_m 12 383 = some (155, 0) by decide +kernel) (rest := []) rfl (as := [.ref s8, .int s7]) rfl h10 (Or.inl h11) ⟨Nat.le_of_ble_eq_true rfl, Nat.le_of_ble_eq_true rfl, Nat.le_of_ble_eq_true rfl⟩ h12
theorem b_168_11 {d : Nat} {Q : (Option Value ⊕ Nat) → mi_H → Prop} (n sl : Nat) (f : Nat → mi_C) {l1 : Nat} {l2 : Int32} {o3 : Option Value} {o4 : Option Value} {o5 : Option Value} {o6 : Option Value} {s7 : Int32} (h8 : ¬ s7 = (0 : Int32) → mi_W d 168 16 [some (.ref l1), some (.int l2), o3, o4, o5, o6] [] (n, sl, f) Q) (h9 : ¬ (¬ s7 = (0 : Int32)) → mi_W d 168 14 [some (.ref l1), some (.int l2), o3, o4, o5, o6] [] (n, sl, f) Q) : mi_W d 168 11 [some (.ref l1), some (.int l2), o3, o4, o5, o6] [.int s7] (n, sl, f) Q := by
  exact w_ifne cd_168_11 (by decide) h8 h9
theorem b_168_14 {d : Nat} {Q : (Option Value ⊕ Nat) → mi_H → Prop} (n sl : Nat) (f : Nat → mi_C) {l1 : Nat} {l2 : Int32} {o3 : Option Value} {o4 : Option Value} {o5 : Option Value} {o6 : Option Value} (h7 : Q (.inl (some (.int 0))) (n, sl, f)) : mi_W d 168 14 [some (.ref l1), some (.int l2), o3, o4, o5, o6] [] (n, sl, f) Q := by
  refine w_iconst (v := 0) cd_168_14 (by decide) ?_
  exact w_ireturn_z cd_168_15 (by decide +kernel) (by decide) h7
theorem b_168_16 {d : Nat} {Q : (Option Value ⊕ Nat) → mi_H → Prop} (n sl : Nat) (f : Nat → mi_C) {l1 : Nat} {l2 : Int32} {o3 : Option Value} {o4 : Option Value} {o5 : Option Value} {o6 : Option Value} {fs7 : List Value} {x10 : Nat} (m12 i12 : Nat) (g12 : Nat → Int32) (h8 : f l1 = .inr (12, fs7)) (h9 : l1 < n) (h11 : fs7[17]? = some (.ref x10)) (h13 : f x10 = .inl (0, m12, .inl g12)) (h14 : x10 < n) (h15 : mi_ix l2 m12 i12) (h16 : mi_W d 168 27 [some (.ref l1), some (.int l2), some (.int (-1)), some (.int 0), o5, o6] [] (n, sl, (va_up f x10 (.inl (0, m12, .inl (upd g12 i12 ((-1))))))) Q) : mi_W d 168 16 [some (.ref l1), some (.int l2), o3, o4, o5, o6] [] (n, sl, f) Q := by
  refine w_aload_n cd_168_16 rfl ?_
  refine w_getfield cd_168_17 (show mt_f 12 92 = some (12, 17) by decide +kernel) h8 h9 h11 ?_
  refine w_iload_n cd_168_20 rfl ?_
  refine w_iconst (v := (-1)) cd_168_21 (by decide) ?_
  refine w_iastore cd_168_22 h13 h14 h15 ?_
  refine w_iconst (v := (-1)) cd_168_23 (by decide) ?_
  refine w_istore_n (ls' := [some (.ref l1), some (.int l2), some (.int (-1)), o4, o5, o6]) cd_168_24 (Nat.le_of_ble_eq_true rfl) rfl ?_
  refine w_iconst (v := 0) cd_168_25 (by decide) ?_
  refine w_istore_n (ls' := [some (.ref l1), some (.int l2), some (.int (-1)), some (.int 0), o5, o6]) cd_168_26 (Nat.le_of_ble_eq_true rfl) rfl ?_
  exact h16
theorem b_168_27 {d : Nat} {Q : (Option Value ⊕ Nat) → mi_H → Prop} (n sl : Nat) (f : Nat → mi_C) {l1 : Nat} {l2 : Int32} {l3 : Int32} {l4 : Int32} {o5 : Option Value} {o6 : Option Value} {fs7 : List Value} (h8 : f l1 = .inr (12, fs7)) (h9 : l1 < n) (h10 : mi_W d 153 0 (mi_en 2 [.ref l1, .ref (mi_SC + 1 + 2 * 52)]) [] (n, sl, f) (mi_Kc d 168 31 [some (.ref l1), some (.int l2), some (.int l3), some (.int l4), o5, o6] [] Q)) : mi_W (d + 1) 168 27 [some (.ref l1), some (.int l2), some (.int l3), some (.int l4), o5, o6] [] (n, sl, f) Q := by
  refine w_aload_n cd_168_27 rfl ?_
  refine w_ldc_w (n := 52) cd_168_28 (by decide +kernel) ?_
  exact w_invokevirtual cd_168_31 (show mt_m 12 375 = some (153, 0) by decide +kernel) (rest := []) rfl (as := [.ref l1, .ref (mi_SC + 1 + 2 * 52)]) rfl h8 (Or.inl h9) ⟨Nat.le_of_ble_eq_true rfl, Nat.le_of_ble_eq_true rfl, Nat.le_of_ble_eq_true rfl⟩ h10
theorem b_168_34 {d : Nat} {Q : (Option Value ⊕ Nat) → mi_H → Prop} (n sl : Nat) (f : Nat → mi_C) {l1 : Nat} {l2 : Int32} {l3 : Int32} {l4 : Int32} {o5 : Option Value} {o6 : Option Value} {s7 : Int32} (h8 : ¬ s7 = (0 : Int32) → mi_W d 168 188 [some (.ref l1), some (.int l2), some (.int l3), some (.int l4), o5, o6] [] (n, sl, f) Q) (h9 : ¬ (¬ s7 = (0 : Int32)) → mi_W d 168 37 [some (.ref l1), some (.int l2), some (.int l3), some (.int l4), o5, o6] [] (n, sl, f) Q) : mi_W d 168 34 [some (.ref l1), some (.int l2), some (.int l3), some (.int l4), o5, o6] [.int s7] (n, sl, f) Q := by
  exact w_ifne cd_168_34 (by decide) h8 h9
theorem b_168_37 {d : Nat} {Q : (Option Value ⊕ Nat) → mi_H → Prop} (n sl : Nat) (f : Nat → mi_C) {l1 : Nat} {l2 : Int32} {l3 : Int32} {l4 : Int32} {o5 : Option Value} {o6 : Option Value} {fs7 : List Value} (h8 : f l1 = .inr (12, fs7)) (h9 : l1 < n) (h10 : mi_W d 156 0 (mi_en 2 [.ref l1, .ref (mi_SC + 1 + 2 * 24)]) [] (n, sl, f) (mi_Kc d 168 40 [some (.ref l1), some (.int l2), some (.int l3), some (.int l4), o5, o6] [] Q)) : mi_W (d + 1) 168 37 [some (.ref l1), some (.int l2), some (.int l3), some (.int l4), o5, o6] [] (n, sl, f) Q := by
  refine w_aload_n cd_168_37 rfl ?_
  refine w_ldc (n := 24) cd_168_38 (by decide +kernel) ?_
  exact w_invokevirtual cd_168_40 (show mt_m 12 387 = some (156, 0) by decide +kernel) (rest := []) rfl (as := [.ref l1, .ref (mi_SC + 1 + 2 * 24)]) rfl h8 (Or.inl h9) ⟨Nat.le_of_ble_eq_true rfl, Nat.le_of_ble_eq_true rfl, Nat.le_of_ble_eq_true rfl⟩ h10
theorem b_168_43 {d : Nat} {Q : (Option Value ⊕ Nat) → mi_H → Prop} (n sl : Nat) (f : Nat → mi_C) {l1 : Nat} {l2 : Int32} {l3 : Int32} {l4 : Int32} {o5 : Option Value} {o6 : Option Value} {s7 : Int32} (h8 : s7 = (0 : Int32) → mi_W d 168 51 [some (.ref l1), some (.int l2), some (.int l3), some (.int l4), o5, o6] [] (n, sl, f) Q) (h9 : ¬ (s7 = (0 : Int32)) → mi_W d 168 46 [some (.ref l1), some (.int l2), some (.int l3), some (.int l4), o5, o6] [] (n, sl, f) Q) : mi_W d 168 43 [some (.ref l1), some (.int l2), some (.int l3), some (.int l4), o5, o6] [.int s7] (n, sl, f) Q := by
  exact w_ifeq cd_168_43 (by decide) h8 h9
theorem b_168_46 {d : Nat} {Q : (Option Value ⊕ Nat) → mi_H → Prop} (n sl : Nat) (f : Nat → mi_C) {l1 : Nat} {l2 : Int32} {l3 : Int32} {l4 : Int32} {o5 : Option Value} {o6 : Option Value} (h7 : mi_W d 168 80 [some (.ref l1), some (.int l2), some (.int l3), some (.int l4), o5, o6] [.int 7] (n, sl, f) Q) : mi_W d 168 46 [some (.ref l1), some (.int l2), some (.int l3), some (.int l4), o5, o6] [] (n, sl, f) Q := by
  refine w_bipush (v := 7) cd_168_46 (by decide) ?_
  exact w_goto cd_168_48 (by decide) h7
theorem b_168_51 {d : Nat} {Q : (Option Value ⊕ Nat) → mi_H → Prop} (n sl : Nat) (f : Nat → mi_C) {l1 : Nat} {l2 : Int32} {l3 : Int32} {l4 : Int32} {o5 : Option Value} {o6 : Option Value} {fs7 : List Value} (h8 : f l1 = .inr (12, fs7)) (h9 : l1 < n) (h10 : mi_W d 156 0 (mi_en 2 [.ref l1, .ref (mi_SC + 1 + 2 * 25)]) [] (n, sl, f) (mi_Kc d 168 54 [some (.ref l1), some (.int l2), some (.int l3), some (.int l4), o5, o6] [] Q)) : mi_W (d + 1) 168 51 [some (.ref l1), some (.int l2), some (.int l3), some (.int l4), o5, o6] [] (n, sl, f) Q := by
  refine w_aload_n cd_168_51 rfl ?_
  refine w_ldc (n := 25) cd_168_52 (by decide +kernel) ?_
  exact w_invokevirtual cd_168_54 (show mt_m 12 387 = some (156, 0) by decide +kernel) (rest := []) rfl (as := [.ref l1, .ref (mi_SC + 1 + 2 * 25)]) rfl h8 (Or.inl h9) ⟨Nat.le_of_ble_eq_true rfl, Nat.le_of_ble_eq_true rfl, Nat.le_of_ble_eq_true rfl⟩ h10
theorem b_168_57 {d : Nat} {Q : (Option Value ⊕ Nat) → mi_H → Prop} (n sl : Nat) (f : Nat → mi_C) {l1 : Nat} {l2 : Int32} {l3 : Int32} {l4 : Int32} {o5 : Option Value} {o6 : Option Value} {s7 : Int32} (h8 : s7 = (0 : Int32) → mi_W d 168 65 [some (.ref l1), some (.int l2), some (.int l3), some (.int l4), o5, o6] [] (n, sl, f) Q) (h9 : ¬ (s7 = (0 : Int32)) → mi_W d 168 60 [some (.ref l1), some (.int l2), some (.int l3), some (.int l4), o5, o6] [] (n, sl, f) Q) : mi_W d 168 57 [some (.ref l1), some (.int l2), some (.int l3), some (.int l4), o5, o6] [.int s7] (n, sl, f) Q := by
  exact w_ifeq cd_168_57 (by decide) h8 h9
theorem b_168_60 {d : Nat} {Q : (Option Value ⊕ Nat) → mi_H → Prop} (n sl : Nat) (f : Nat → mi_C) {l1 : Nat} {l2 : Int32} {l3 : Int32} {l4 : Int32} {o5 : Option Value} {o6 : Option Value} (h7 : mi_W d 168 80 [some (.ref l1), some (.int l2), some (.int l3), some (.int l4), o5, o6] [.int 8] (n, sl, f) Q) : mi_W d 168 60 [some (.ref l1), some (.int l2), some (.int l3), some (.int l4), o5, o6] [] (n, sl, f) Q := by
  refine w_bipush (v := 8) cd_168_60 (by decide) ?_
  exact w_goto cd_168_62 (by decide) h7
theorem b_168_65 {d : Nat} {Q : (Option Value ⊕ Nat) → mi_H → Prop} (n sl : Nat) (f : Nat → mi_C) {l1 : Nat} {l2 : Int32} {l3 : Int32} {l4 : Int32} {o5 : Option Value} {o6 : Option Value} {fs7 : List Value} (h8 : f l1 = .inr (12, fs7)) (h9 : l1 < n) (h10 : mi_W d 156 0 (mi_en 2 [.ref l1, .ref (mi_SC + 1 + 2 * 26)]) [] (n, sl, f) (mi_Kc d 168 68 [some (.ref l1), some (.int l2), some (.int l3), some (.int l4), o5, o6] [] Q)) : mi_W (d + 1) 168 65 [some (.ref l1), some (.int l2), some (.int l3), some (.int l4), o5, o6] [] (n, sl, f) Q := by
  refine w_aload_n cd_168_65 rfl ?_
  refine w_ldc (n := 26) cd_168_66 (by decide +kernel) ?_
  exact w_invokevirtual cd_168_68 (show mt_m 12 387 = some (156, 0) by decide +kernel) (rest := []) rfl (as := [.ref l1, .ref (mi_SC + 1 + 2 * 26)]) rfl h8 (Or.inl h9) ⟨Nat.le_of_ble_eq_true rfl, Nat.le_of_ble_eq_true rfl, Nat.le_of_ble_eq_true rfl⟩ h10
theorem b_168_71 {d : Nat} {Q : (Option Value ⊕ Nat) → mi_H → Prop} (n sl : Nat) (f : Nat → mi_C) {l1 : Nat} {l2 : Int32} {l3 : Int32} {l4 : Int32} {o5 : Option Value} {o6 : Option Value} {s7 : Int32} (h8 : s7 = (0 : Int32) → mi_W d 168 79 [some (.ref l1), some (.int l2), some (.int l3), some (.int l4), o5, o6] [] (n, sl, f) Q) (h9 : ¬ (s7 = (0 : Int32)) → mi_W d 168 74 [some (.ref l1), some (.int l2), some (.int l3), some (.int l4), o5, o6] [] (n, sl, f) Q) : mi_W d 168 71 [some (.ref l1), some (.int l2), some (.int l3), some (.int l4), o5, o6] [.int s7] (n, sl, f) Q := by
  exact w_ifeq cd_168_71 (by decide) h8 h9
theorem b_168_74 {d : Nat} {Q : (Option Value ⊕ Nat) → mi_H → Prop} (n sl : Nat) (f : Nat → mi_C) {l1 : Nat} {l2 : Int32} {l3 : Int32} {l4 : Int32} {o5 : Option Value} {o6 : Option Value} (h7 : mi_W d 168 80 [some (.ref l1), some (.int l2), some (.int l3), some (.int l4), o5, o6] [.int 9] (n, sl, f) Q) : mi_W d 168 74 [some (.ref l1), some (.int l2), some (.int l3), some (.int l4), o5, o6] [] (n, sl, f) Q := by
  refine w_bipush (v := 9) cd_168_74 (by decide) ?_
  exact w_goto cd_168_76 (by decide) h7
theorem b_168_79 {d : Nat} {Q : (Option Value ⊕ Nat) → mi_H → Prop} (n sl : Nat) (f : Nat → mi_C) {l1 : Nat} {l2 : Int32} {l3 : Int32} {l4 : Int32} {o5 : Option Value} {o6 : Option Value} (h7 : mi_W d 168 80 [some (.ref l1), some (.int l2), some (.int l3), some (.int l4), o5, o6] [.int (-1)] (n, sl, f) Q) : mi_W d 168 79 [some (.ref l1), some (.int l2), some (.int l3), some (.int l4), o5, o6] [] (n, sl, f) Q := by
  refine w_iconst (v := (-1)) cd_168_79 (by decide) ?_
  exact h7
theorem b_168_80 {d : Nat} {Q : (Option Value ⊕ Nat) → mi_H → Prop} (n sl : Nat) (f : Nat → mi_C) {l1 : Nat} {l2 : Int32} {l3 : Int32} {l4 : Int32} {o5 : Option Value} {o6 : Option Value} {s7 : Int32} (h8 : s7 < (0 : Int32) → mi_W d 168 96 [some (.ref l1), some (.int l2), some (.int l3), some (.int l4), some (.int s7), o6] [] (n, sl, f) Q) (h9 : ¬ (s7 < (0 : Int32)) → mi_W d 168 87 [some (.ref l1), some (.int l2), some (.int l3), some (.int l4), some (.int s7), o6] [] (n, sl, f) Q) : mi_W d 168 80 [some (.ref l1), some (.int l2), some (.int l3), some (.int l4), o5, o6] [.int s7] (n, sl, f) Q := by
  refine w_istore (ls' := [some (.ref l1), some (.int l2), some (.int l3), some (.int l4), some (.int s7), o6]) cd_168_80 (Nat.le_of_ble_eq_true rfl) rfl ?_
  refine w_iload cd_168_82 rfl ?_
  exact w_iflt cd_168_84 (by decide) h8 h9
theorem b_168_87 {d : Nat} {Q : (Option Value ⊕ Nat) → mi_H → Prop} (n sl : Nat) (f : Nat → mi_C) {l1 : Nat} {l2 : Int32} {l3 : Int32} {l4 : Int32} {l5 : Int32} {o6 : Option Value} (h7 : ¬ l4 = 8 → mi_W d 168 105 [some (.ref l1), some (.int l2), some (.int l3), some (.int (l4 + 1)), some (.int l5), o6] [] (n, sl, f) Q) (h8 : ¬ (¬ l4 = 8) → mi_W d 168 96 [some (.ref l1), some (.int l2), some (.int l3), some (.int (l4 + 1)), some (.int l5), o6] [] (n, sl, f) Q) : mi_W d 168 87 [some (.ref l1), some (.int l2), some (.int l3), some (.int l4), some (.int l5), o6] [] (n, sl, f) Q := by
  refine w_iload_n cd_168_87 rfl ?_
  refine w_iinc (v := 1) (ls' := [some (.ref l1), some (.int l2), some (.int l3), some (.int (l4 + 1)), some (.int l5), o6]) cd_168_88 rfl (by decide) rfl ?_
  refine w_bipush (v := 8) cd_168_91 (by decide) ?_
  exact w_if_icmpne cd_168_93 (by decide) h7 h8
theorem b_168_96 {d : Nat} {Q : (Option Value ⊕ Nat) → mi_H → Prop} (n sl : Nat) (f : Nat → mi_C) {l1 : Nat} {l2 : Int32} {l3 : Int32} {l4 : Int32} {l5 : Int32} {o6 : Option Value} {fs7 : List Value} {x10 : Int32} {fs12 : List Value} (h8 : f l1 = .inr (12, fs7)) (h9 : l1 < n) (h11 : fs7[9]? = some (.int x10)) (h13 : f l1 = .inr (12, fs12)) (h14 : l1 < n) (h15 : mi_W d 143 0 (mi_en 2 [.ref l1, .int x10]) [] (n, sl, f) (mi_Kc d 168 101 [some (.ref l1), some (.int l2), some (.int l3), some (.int l4), some (.int l5), o6] [] Q)) : mi_W (d + 1) 168 96 [some (.ref l1), some (.int l2), some (.int l3), some (.int l4), some (.int l5), o6] [] (n, sl, f) Q := by
  refine w_aload_n cd_168_96 rfl ?_
  refine w_aload_n cd_168_97 rfl ?_
  refine w_getfield cd_168_98 (show mt_f 12 299 = some (12, 9) by decide +kernel) h8 h9 h11 ?_
  exact w_invokevirtual cd_168_101 (show mt_m 12 272 = some (143, 0) by decide +kernel) (rest := []) rfl (as := [.ref l1, .int x10]) rfl h13 (Or.inl h14) ⟨Nat.le_of_ble_eq_true rfl, Nat.le_of_ble_eq_true rfl, Nat.le_of_ble_eq_true rfl⟩ h15
theorem b_168_104 {d : Nat} {Q : (Option Value ⊕ Nat) → mi_H → Prop} (n sl : Nat) (f : Nat → mi_C) {l1 : Nat} {l2 : Int32} {l3 : Int32} {l4 : Int32} {l5 : Int32} {o6 : Option Value} {s7 : Int32} (h8 : s7 = 0 ∨ s7 = 1) (h9 : Q (.inl (some (.int s7))) (n, sl, f)) : mi_W d 168 104 [some (.ref l1), some (.int l2), some (.int l3), some (.int l4), some (.int l5), o6] [.int s7] (n, sl, f) Q := by
  exact w_ireturn_z cd_168_104 (by decide +kernel) h8 h9
theorem b_168_105 {d : Nat} {Q : (Option Value ⊕ Nat) → mi_H → Prop} (n sl : Nat) (f : Nat → mi_C) {l1 : Nat} {l2 : Int32} {l3 : Int32} {l4 : Int32} {l5 : Int32} {o6 : Option Value} {fs7 : List Value} (h8 : f l1 = .inr (12, fs7)) (h9 : l1 < n) (h10 : mi_W d 157 0 (mi_en 2 [.ref l1, .int l5]) [] (n, sl, f) (mi_Kc d 168 108 [some (.ref l1), some (.int l2), some (.int l3), some (.int l4), some (.int l5), o6] [] Q)) : mi_W (d + 1) 168 105 [some (.ref l1), some (.int l2), some (.int l3), some (.int l4), some (.int l5), o6] [] (n, sl, f) Q := by
  refine w_aload_n cd_168_105 rfl ?_
  refine w_iload cd_168_106 rfl ?_
  exact w_invokevirtual cd_168_108 (show mt_m 12 390 = some (157, 0) by decide +kernel) (rest := []) rfl (as := [.ref l1, .int l5]) rfl h8 (Or.inl h9) ⟨Nat.le_of_ble_eq_true rfl, Nat.le_of_ble_eq_true rfl, Nat.le_of_ble_eq_true rfl⟩ h10
theorem b_168_111 {d : Nat} {Q : (Option Value ⊕ Nat) → mi_H → Prop} (n sl : Nat) (f : Nat → mi_C) {l1 : Nat} {l2 : Int32} {l3 : Int32} {l4 : Int32} {l5 : Int32} {o6 : Option Value} {s7 : Int32} (h8 : s7 < (0 : Int32) → mi_W d 168 149 [some (.ref l1), some (.int l2), some (.int l3), some (.int l4), some (.int l5), some (.int s7)] [] (n, sl, f) Q) (h9 : ¬ (s7 < (0 : Int32)) → mi_W d 168 118 [some (.ref l1), some (.int l2), some (.int l3), some (.int l4), some (.int l5), some (.int s7)] [] (n, sl, f) Q) : mi_W d 168 111 [some (.ref l1), some (.int l2), some (.int l3), some (.int l4), some (.int l5), o6] [.int s7] (n, sl, f) Q := by
  refine w_istore (ls' := [some (.ref l1), some (.int l2), some (.int l3), some (.int l4), some (.int l5), some (.int s7)]) cd_168_111 (Nat.le_of_ble_eq_true rfl) rfl ?_
  refine w_iload cd_168_113 rfl ?_
  exact w_iflt cd_168_115 (by decide) h8 h9
theorem b_168_118 {d : Nat} {Q : (Option Value ⊕ Nat) → mi_H → Prop} (n sl : Nat) (f : Nat → mi_C) {l1 : Nat} {l2 : Int32} {l3 : Int32} {l4 : Int32} {l5 : Int32} {l6 : Int32} {fs7 : List Value} (h8 : f l1 = .inr (12, fs7)) (h9 : l1 < n) (h10 : mi_W d 145 0 (mi_en 4 [.ref l1]) [] (n, sl, f) (mi_Kc d 168 119 [some (.ref l1), some (.int l2), some (.int l3), some (.int l4), some (.int l5), some (.int l6)] [] Q)) : mi_W (d + 1) 168 118 [some (.ref l1), some (.int l2), some (.int l3), some (.int l4), some (.int l5), some (.int l6)] [] (n, sl, f) Q := by
  refine w_aload_n cd_168_118 rfl ?_
  exact w_invokevirtual cd_168_119 (show mt_m 12 333 = some (145, 0) by decide +kernel) (rest := []) rfl (as := [.ref l1]) rfl h8 (Or.inl h9) ⟨Nat.le_of_ble_eq_true rfl, Nat.le_of_ble_eq_true rfl, Nat.le_of_ble_eq_true rfl⟩ h10
theorem b_168_122 {d : Nat} {Q : (Option Value ⊕ Nat) → mi_H → Prop} (n sl : Nat) (f : Nat → mi_C) {l1 : Nat} {l2 : Int32} {l3 : Int32} {l4 : Int32} {l5 : Int32} {l6 : Int32} {s7 : Int32} (h8 : s7 = (0 : Int32) → mi_W d 168 149 [some (.ref l1), some (.int l2), some (.int l3), some (.int l4), some (.int l5), some (.int l6)] [] (n, sl, f) Q) (h9 : ¬ (s7 = (0 : Int32)) → mi_W d 168 125 [some (.ref l1), some (.int l2), some (.int l3), some (.int l4), some (.int l5), some (.int l6)] [] (n, sl, f) Q) : mi_W d 168 122 [some (.ref l1), some (.int l2), some (.int l3), some (.int l4), some (.int l5), some (.int l6)] [.int s7] (n, sl, f) Q := by
  exact w_ifeq cd_168_122 (by decide) h8 h9
theorem b_168_125 {d : Nat} {Q : (Option Value ⊕ Nat) → mi_H → Prop} (n sl : Nat) (f : Nat → mi_C) {l1 : Nat} {l2 : Int32} {l3 : Int32} {l4 : Int32} {l5 : Int32} {l6 : Int32} {fs7 : List Value} (h8 : f l1 = .inr (12, fs7)) (h9 : l1 < n) (h10 : mi_W d 169 0 (mi_en 4 [.ref l1, .int l6]) [] (n, sl, f) (mi_Kc d 168 128 [some (.ref l1), some (.int l2), some (.int l3), some (.int l4), some (.int l5), some (.int l6)] [] Q)) : mi_W (d + 1) 168 125 [some (.ref l1), some (.int l2), some (.int l3), some (.int l4), some (.int l5), some (.int l6)] [] (n, sl, f) Q := by
  refine w_aload_n cd_168_125 rfl ?_
  refine w_iload cd_168_126 rfl ?_
  exact w_invokevirtual cd_168_128 (show mt_m 12 413 = some (169, 0) by decide +kernel) (rest := []) rfl (as := [.ref l1, .int l6]) rfl h8 (Or.inl h9) ⟨Nat.le_of_ble_eq_true rfl, Nat.le_of_ble_eq_true rfl, Nat.le_of_ble_eq_true rfl⟩ h10
theorem b_168_131 {d : Nat} {Q : (Option Value ⊕ Nat) → mi_H → Prop} (n sl : Nat) (f : Nat → mi_C) {l1 : Nat} {l2 : Int32} {l3 : Int32} {l4 : Int32} {l5 : Int32} {l6 : Int32} {s7 : Int32} (h8 : s7 = (0 : Int32) → mi_W d 168 149 [some (.ref l1), some (.int l2), some (.int l3), some (.int l4), some (.int l5), some (.int l6)] [] (n, sl, f) Q) (h9 : ¬ (s7 = (0 : Int32)) → mi_W d 168 134 [some (.ref l1), some (.int l2), some (.int l3), some (.int l4), some (.int l5), some (.int l6)] [] (n, sl, f) Q) : mi_W d 168 131 [some (.ref l1), some (.int l2), some (.int l3), some (.int l4), some (.int l5), some (.int l6)] [.int s7] (n, sl, f) Q := by
  exact w_ifeq cd_168_131 (by decide) h8 h9
theorem b_168_134 {d : Nat} {Q : (Option Value ⊕ Nat) → mi_H → Prop} (n sl : Nat) (f : Nat → mi_C) {l1 : Nat} {l2 : Int32} {l3 : Int32} {l4 : Int32} {l5 : Int32} {l6 : Int32} {fs7 : List Value} {x10 : Nat} {fs12 : List Value} (h8 : f l1 = .inr (12, fs7)) (h9 : l1 < n) (h11 : fs7[19]? = some (.ref x10)) (h13 : f l1 = .inr (12, fs12)) (h14 : l1 < n) (h15 : mi_W d 152 0 (mi_en 4 [.ref l1]) [] (n, sl, f) (mi_Kc d 168 141 [some (.ref l1), some (.int l2), some (.int l3), some (.int l4), some (.int l5), some (.int l6)] [.int l6, .ref x10] Q)) : mi_W (d + 1) 168 134 [some (.ref l1), some (.int l2), some (.int l3), some (.int l4), some (.int l5), some (.int l6)] [] (n, sl, f) Q := by
  refine w_aload_n cd_168_134 rfl ?_
  refine w_getfield cd_168_135 (show mt_f 12 98 = some (12, 19) by decide +kernel) h8 h9 h11 ?_
  refine w_iload cd_168_138 rfl ?_
  refine w_aload_n cd_168_140 rfl ?_
  exact w_invokevirtual cd_168_141 (show mt_m 12 355 = some (152, 0) by decide +kernel) (rest := [.int l6, .ref x10]) rfl (as := [.ref l1]) rfl h13 (Or.inl h14) ⟨Nat.le_of_ble_eq_true rfl, Nat.le_of_ble_eq_true rfl, Nat.le_of_ble_eq_true rfl⟩ h15
theorem b_168_144 {d : Nat} {Q : (Option Value ⊕ Nat) → mi_H → Prop} (n sl : Nat) (f : Nat → mi_C) {l1 : Nat} {l2 : Int32} {l3 : Int32} {l4 : Int32} {l5 : Int32} {l6 : Int32} {s7 : Int32} {s8 : Int32} {s9 : Nat} (m10 i10 : Nat) (g10 : Nat → Int32) (h11 : f s9 = .inl (0, m10, .inl g10)) (h12 : s9 < n) (h13 : mi_ix s8 m10 i10) (h14 : (0 : Int32) ≤ s7 → mi_W d 168 151 [some (.ref l1), some (.int l2), some (.int l3), some (.int l4), some (.int l5), some (.int l6)] [] (n, sl, (va_up f s9 (.inl (0, m10, .inl (upd g10 i10 s7))))) Q) (h15 : ¬ ((0 : Int32) ≤ s7) → mi_W d 168 149 [some (.ref l1), some (.int l2), some (.int l3), some (.int l4), some (.int l5), some (.int l6)] [] (n, sl, (va_up f s9 (.inl (0, m10, .inl (upd g10 i10 s7))))) Q) : mi_W d 168 144 [some (.ref l1), some (.int l2), some (.int l3), some (.int l4), some (.int l5), some (.int l6)] [.int s7, .int s8, .ref s9] (n, sl, f) Q := by
  refine w_dup_x2_iir cd_168_144 ?_
  refine w_iastore cd_168_145 h11 h12 h13 ?_
  exact w_ifge cd_168_146 (by decide) h14 h15
theorem b_168_149 {d : Nat} {Q : (Option Value ⊕ Nat) → mi_H → Prop} (n sl : Nat) (f : Nat → mi_C) {l1 : Nat} {l2 : Int32} {l3 : Int32} {l4 : Int32} {l5 : Int32} {l6 : Int32} (h7 : Q (.inl (some (.int 0))) (n, sl, f)) : mi_W d 168 149 [some (.ref l1), some (.int l2), some (.int l3), some (.int l4), some (.int l5), some (.int l6)] [] (n, sl, f) Q := by
  refine w_iconst (v := 0) cd_168_149 (by decide) ?_
  exact w_ireturn_z cd_168_150 (by decide +kernel) (by decide) h7
theorem b_168_151 {d : Nat} {Q : (Option Value ⊕ Nat) → mi_H → Prop} (n sl : Nat) (f : Nat → mi_C) {l1 : Nat} {l2 : Int32} {l3 : Int32} {l4 : Int32} {l5 : Int32} {l6 : Int32} (h7 : (0 : Int32) ≤ l3 → mi_W d 168 166 [some (.ref l1), some (.int l2), some (.int l3), some (.int l4), some (.int l5), some (.int l6)] [] (n, sl, f) Q) (h8 : ¬ ((0 : Int32) ≤ l3) → mi_W d 168 155 [some (.ref l1), some (.int l2), some (.int l3), some (.int l4), some (.int l5), some (.int l6)] [] (n, sl, f) Q) : mi_W d 168 151 [some (.ref l1), some (.int l2), some (.int l3), some (.int l4), some (.int l5), some (.int l6)] [] (n, sl, f) Q := by
  refine w_iload_n cd_168_151 rfl ?_
  exact w_ifge cd_168_152 (by decide) h7 h8
theorem b_168_155 {d : Nat} {Q : (Option Value ⊕ Nat) → mi_H → Prop} (n sl : Nat) (f : Nat → mi_C) {l1 : Nat} {l2 : Int32} {l3 : Int32} {l4 : Int32} {l5 : Int32} {l6 : Int32} {fs7 : List Value} {x10 : Nat} (m12 i12 : Nat) (g12 : Nat → Int32) (h8 : f l1 = .inr (12, fs7)) (h9 : l1 < n) (h11 : fs7[17]? = some (.ref x10)) (h13 : f x10 = .inl (0, m12, .inl g12)) (h14 : x10 < n) (h15 : mi_ix l2 m12 i12) (h16 : mi_W d 168 174 [some (.ref l1), some (.int l2), some (.int l3), some (.int l4), some (.int l5), some (.int l6)] [] (n, sl, (va_up f x10 (.inl (0, m12, .inl (upd g12 i12 l6))))) Q) : mi_W d 168 155 [some (.ref l1), some (.int l2), some (.int l3), some (.int l4), some (.int l5), some (.int l6)] [] (n, sl, f) Q := by
  refine w_aload_n cd_168_155 rfl ?_
  refine w_getfield cd_168_156 (show mt_f 12 92 = some (12, 17) by decide +kernel) h8 h9 h11 ?_
  refine w_iload_n cd_168_159 rfl ?_
  refine w_iload cd_168_160 rfl ?_
  refine w_iastore cd_168_162 h13 h14 h15 ?_
  exact w_goto cd_168_163 (by decide) h16
theorem b_168_166 {d : Nat} {Q : (Option Value ⊕ Nat) → mi_H → Prop} (n sl : Nat) (f : Nat → mi_C) {l1 : Nat} {l2 : Int32} {l3 : Int32} {l4 : Int32} {l5 : Int32} {l6 : Int32} {fs7 : List Value} {x10 : Nat} (m12 i12 : Nat) (g12 : Nat → Int32) (h8 : f l1 = .inr (12, fs7)) (h9 : l1 < n) (h11 : fs7[39]? = some (.ref x10)) (h13 : f x10 = .inl (0, m12, .inl g12)) (h14 : x10 < n) (h15 : mi_ix l3 m12 i12) (h16 : mi_W d 168 174 [some (.ref l1), some (.int l2), some (.int l3), some (.int l4), some (.int l5), some (.int l6)] [] (n, sl, (va_up f x10 (.inl (0, m12, .inl (upd g12 i12 l6))))) Q) : mi_W d 168 166 [some (.ref l1), some (.int l2), some (.int l3), some (.int l4), some (.int l5), some (.int l6)] [] (n, sl, f) Q := by
  refine w_aload_n cd_168_166 rfl ?_
  refine w_getfield cd_168_167 (show mt_f 12 138 = some (12, 39) by decide +kernel) h8 h9 h11 ?_
  refine w_iload_n cd_168_170 rfl ?_
  refine w_iload cd_168_171 rfl ?_
  refine w_iastore cd_168_173 h13 h14 h15 ?_
  exact h16
theorem b_168_174 {d : Nat} {Q : (Option Value ⊕ Nat) → mi_H → Prop} (n sl : Nat) (f : Nat → mi_C) {l1 : Nat} {l2 : Int32} {l3 : Int32} {l4 : Int32} {l5 : Int32} {l6 : Int32} {fs7 : List Value} {x10 : Nat} (m12 i12 : Nat) (g12 : Nat → Int32) (h8 : f l1 = .inr (12, fs7)) (h9 : l1 < n) (h11 : fs7[39]? = some (.ref x10)) (h13 : f x10 = .inl (0, m12, .inl g12)) (h14 : x10 < n) (h15 : mi_ix l6 m12 i12) (h16 : mi_W d 168 27 [some (.ref l1), some (.int l2), some (.int l6), some (.int l4), some (.int l5), some (.int l6)] [] (n, sl, (va_up f x10 (.inl (0, m12, .inl (upd g12 i12 ((-1))))))) Q) : mi_W d 168 174 [some (.ref l1), some (.int l2), some (.int l3), some (.int l4), some (.int l5), some (.int l6)] [] (n, sl, f) Q := by
  refine w_aload_n cd_168_174 rfl ?_
  refine w_getfield cd_168_175 (show mt_f 12 138 = some (12, 39) by decide +kernel) h8 h9 h11 ?_
  refine w_iload cd_168_178 rfl ?_
  refine w_iconst (v := (-1)) cd_168_180 (by decide) ?_
  refine w_iastore cd_168_181 h13 h14 h15 ?_
  refine w_iload cd_168_182 rfl ?_
  refine w_istore_n (ls' := [some (.ref l1), some (.int l2), some (.int l6), some (.int l4), some (.int l5), some (.int l6)]) cd_168_184 (Nat.le_of_ble_eq_true rfl) rfl ?_
  exact w_goto cd_168_185 (by decide) h16
theorem b_168_188 {d : Nat} {Q : (Option Value ⊕ Nat) → mi_H → Prop} (n sl : Nat) (f : Nat → mi_C) {l1 : Nat} {l2 : Int32} {l3 : Int32} {l4 : Int32} {o5 : Option Value} {o6 : Option Value} {fs7 : List Value} (h8 : f l1 = .inr (12, fs7)) (h9 : l1 < n) (h10 : mi_W d 145 0 (mi_en 4 [.ref l1]) [] (n, sl, f) (mi_Kc d 168 189 [some (.ref l1), some (.int l2), some (.int l3), some (.int l4), o5, o6] [] Q)) : mi_W (d + 1) 168 188 [some (.ref l1), some (.int l2), some (.int l3), some (.int l4), o5, o6] [] (n, sl, f) Q := by
  refine w_aload_n cd_168_188 rfl ?_
  exact w_invokevirtual cd_168_189 (show mt_m 12 333 = some (145, 0) by decide +kernel) (rest := []) rfl (as := [.ref l1]) rfl h8 (Or.inl h9) ⟨Nat.le_of_ble_eq_true rfl, Nat.le_of_ble_eq_true rfl, Nat.le_of_ble_eq_true rfl⟩ h10
theorem b_168_192 {d : Nat} {Q : (Option Value ⊕ Nat) → mi_H → Prop} (n sl : Nat) (f : Nat → mi_C) {l1 : Nat} {l2 : Int32} {l3 : Int32} {l4 : Int32} {o5 : Option Value} {o6 : Option Value} {s7 : Int32} (h8 : ¬ s7 = (0 : Int32) → mi_W d 168 197 [some (.ref l1), some (.int l2), some (.int l3), some (.int l4), o5, o6] [] (n, sl, f) Q) (h9 : ¬ (¬ s7 = (0 : Int32)) → mi_W d 168 195 [some (.ref l1), some (.int l2), some (.int l3), some (.int l4), o5, o6] [] (n, sl, f) Q) : mi_W d 168 192 [some (.ref l1), some (.int l2), some (.int l3), some (.int l4), o5, o6] [.int s7] (n, sl, f) Q := by
  exact w_ifne cd_168_192 (by decide) h8 h9
theorem b_168_195 {d : Nat} {Q : (Option Value ⊕ Nat) → mi_H → Prop} (n sl : Nat) (f : Nat → mi_C) {l1 : Nat} {l2 : Int32} {l3 : Int32} {l4 : Int32} {o5 : Option Value} {o6 : Option Value} (h7 : Q (.inl (some (.int 0))) (n, sl, f)) : mi_W d 168 195 [some (.ref l1), some (.int l2), some (.int l3), some (.int l4), o5, o6] [] (n, sl, f) Q := by
  refine w_iconst (v := 0) cd_168_195 (by decide) ?_
  exact w_ireturn_z cd_168_196 (by decide +kernel) (by decide) h7
theorem b_168_197 {d : Nat} {Q : (Option Value ⊕ Nat) → mi_H → Prop} (n sl : Nat) (f : Nat → mi_C) {l1 : Nat} {l2 : Int32} {l3 : Int32} {l4 : Int32} {o5 : Option Value} {o6 : Option Value} {fs7 : List Value} {x10 : Int32} (h8 : f l1 = .inr (12, fs7)) (h9 : l1 < n) (h11 : fs7[8]? = some (.int x10)) (h12 : x10 = 2 → mi_W d 168 214 [some (.ref l1), some (.int l2), some (.int l3), some (.int l4), o5, o6] [] (n, sl, f) Q) (h13 : ¬ (x10 = 2) → mi_W d 168 205 [some (.ref l1), some (.int l2), some (.int l3), some (.int l4), o5, o6] [] (n, sl, f) Q) : mi_W d 168 197 [some (.ref l1), some (.int l2), some (.int l3), some (.int l4), o5, o6] [] (n, sl, f) Q := by
  refine w_aload_n cd_168_197 rfl ?_
  refine w_getfield cd_168_198 (show mt_f 12 310 = some (12, 8) by decide +kernel) h8 h9 h11 ?_
  refine w_iconst (v := 2) cd_168_201 (by decide) ?_
  exact w_if_icmpeq cd_168_202 (by decide) h12 h13
theorem b_168_205 {d : Nat} {Q : (Option Value ⊕ Nat) → mi_H → Prop} (n sl : Nat) (f : Nat → mi_C) {l1 : Nat} {l2 : Int32} {l3 : Int32} {l4 : Int32} {o5 : Option Value} {o6 : Option Value} {fs7 : List Value} {x10 : Int32} {fs12 : List Value} (h8 : f l1 = .inr (12, fs7)) (h9 : l1 < n) (h11 : fs7[9]? = some (.int x10)) (h13 : f l1 = .inr (12, fs12)) (h14 : l1 < n) (h15 : mi_W d 143 0 (mi_en 2 [.ref l1, .int x10]) [] (n, sl, f) (mi_Kc d 168 210 [some (.ref l1), some (.int l2), some (.int l3), some (.int l4), o5, o6] [] Q)) : mi_W (d + 1) 168 205 [some (.ref l1), some (.int l2), some (.int l3), some (.int l4), o5, o6] [] (n, sl, f) Q := by
  refine w_aload_n cd_168_205 rfl ?_
  refine w_aload_n cd_168_206 rfl ?_
  refine w_getfield cd_168_207 (show mt_f 12 299 = some (12, 9) by decide +kernel) h8 h9 h11 ?_
  exact w_invokevirtual cd_168_210 (show mt_m 12 272 = some (143, 0) by decide +kernel) (rest := []) rfl (as := [.ref l1, .int x10]) rfl h13 (Or.inl h14) ⟨Nat.le_of_ble_eq_true rfl, Nat.le_of_ble_eq_true rfl, Nat.le_of_ble_eq_true rfl⟩ h15
theorem b_168_213 {d : Nat} {Q : (Option Value ⊕ Nat) → mi_H → Prop} (n sl : Nat) (f : Nat → mi_C) {l1 : Nat} {l2 : Int32} {l3 : Int32} {l4 : Int32} {o5 : Option Value} {o6 : Option Value} {s7 : Int32} (h8 : s7 = 0 ∨ s7 = 1) (h9 : Q (.inl (some (.int s7))) (n, sl, f)) : mi_W d 168 213 [some (.ref l1), some (.int l2), some (.int l3), some (.int l4), o5, o6] [.int s7] (n, sl, f) Q := by
  exact w_ireturn_z cd_168_213 (by decide +kernel) h8 h9
theorem b_168_214 {d : Nat} {Q : (Option Value ⊕ Nat) → mi_H → Prop} (n sl : Nat) (f : Nat → mi_C) {l1 : Nat} {l2 : Int32} {l3 : Int32} {l4 : Int32} {o5 : Option Value} {o6 : Option Value} {fs7 : List Value} {x10 : Nat} {fs12 : List Value} {x15 : Int64} (m17 i17 : Nat) (g17 : Nat → Int64) {fs21 : List Value} (h8 : f l1 = .inr (12, fs7)) (h9 : l1 < n) (h11 : fs7[20]? = some (.ref x10)) (h13 : f l1 = .inr (12, fs12)) (h14 : l1 < n) (h16 : fs12[11]? = some (.long x15)) (h18 : f x10 = .inl (3, m17, .inr (.inl g17))) (h19 : x10 < n) (h20 : mi_ix l2 m17 i17) (h22 : (va_up f x10 (.inl (3, m17, .inr (.inl (vp_updL g17 i17 x15))))) l1 = .inr (12, fs21)) (h23 : l1 < n) (h24 : mi_W d 145 0 (mi_en 4 [.ref l1]) [] (n, sl, (va_up f x10 (.inl (3, m17, .inr (.inl (vp_updL g17 i17 x15)))))) (mi_Kc d 168 225 [some (.ref l1), some (.int l2), some (.int l3), some (.int l4), o5, o6] [] Q)) : mi_W (d + 1) 168 214 [some (.ref l1), some (.int l2), some (.int l3), some (.int l4), o5, o6] [] (n, sl, f) Q := by
  refine w_aload_n cd_168_214 rfl ?_
  refine w_getfield cd_168_215 (show mt_f 12 101 = some (12, 20) by decide +kernel) h8 h9 h11 ?_
  refine w_iload_n cd_168_218 rfl ?_
  refine w_aload_n cd_168_219 rfl ?_
  refine w_getfield cd_168_220 (show mt_f 12 327 = some (12, 11) by decide +kernel) h13 h14 h16 ?_
  refine w_lastore cd_168_223 h18 h19 h20 ?_
  refine w_aload_n cd_168_224 rfl ?_
  exact w_invokevirtual cd_168_225 (show mt_m 12 333 = some (145, 0) by decide +kernel) (rest := []) rfl (as := [.ref l1]) rfl h22 (Or.inl h23) ⟨Nat.le_of_ble_eq_true rfl, Nat.le_of_ble_eq_true rfl, Nat.le_of_ble_eq_true rfl⟩ h24
theorem b_168_228 {d : Nat} {Q : (Option Value ⊕ Nat) → mi_H → Prop} (n sl : Nat) (f : Nat → mi_C) {l1 : Nat} {l2 : Int32} {l3 : Int32} {l4 : Int32} {o5 : Option Value} {o6 : Option Value} {s7 : Int32} (h8 : s7 = (0 : Int32) → mi_W d 168 249 [some (.ref l1), some (.int l2), some (.int l3), some (.int l4), o5, o6] [] (n, sl, f) Q) (h9 : ¬ (s7 = (0 : Int32)) → mi_W d 168 231 [some (.ref l1), some (.int l2), some (.int l3), some (.int l4), o5, o6] [] (n, sl, f) Q) : mi_W d 168 228 [some (.ref l1), some (.int l2), some (.int l3), some (.int l4), o5, o6] [.int s7] (n, sl, f) Q := by
  exact w_ifeq cd_168_228 (by decide) h8 h9
theorem b_168_231 {d : Nat} {Q : (Option Value ⊕ Nat) → mi_H → Prop} (n sl : Nat) (f : Nat → mi_C) {l1 : Nat} {l2 : Int32} {l3 : Int32} {l4 : Int32} {o5 : Option Value} {o6 : Option Value} {fs7 : List Value} {x10 : Nat} {fs12 : List Value} (h8 : f l1 = .inr (12, fs7)) (h9 : l1 < n) (h11 : fs7[19]? = some (.ref x10)) (h13 : f l1 = .inr (12, fs12)) (h14 : l1 < n) (h15 : mi_W d 152 0 (mi_en 4 [.ref l1]) [] (n, sl, f) (mi_Kc d 168 237 [some (.ref l1), some (.int l2), some (.int l3), some (.int l4), o5, o6] [.int l2, .ref x10] Q)) : mi_W (d + 1) 168 231 [some (.ref l1), some (.int l2), some (.int l3), some (.int l4), o5, o6] [] (n, sl, f) Q := by
  refine w_aload_n cd_168_231 rfl ?_
  refine w_getfield cd_168_232 (show mt_f 12 98 = some (12, 19) by decide +kernel) h8 h9 h11 ?_
  refine w_iload_n cd_168_235 rfl ?_
  refine w_aload_n cd_168_236 rfl ?_
  exact w_invokevirtual cd_168_237 (show mt_m 12 355 = some (152, 0) by decide +kernel) (rest := [.int l2, .ref x10]) rfl (as := [.ref l1]) rfl h13 (Or.inl h14) ⟨Nat.le_of_ble_eq_true rfl, Nat.le_of_ble_eq_true rfl, Nat.le_of_ble_eq_true rfl⟩ h15
theorem b_168_240 {d : Nat} {Q : (Option Value ⊕ Nat) → mi_H → Prop} (n sl : Nat) (f : Nat → mi_C) {l1 : Nat} {l2 : Int32} {l3 : Int32} {l4 : Int32} {o5 : Option Value} {o6 : Option Value} {s7 : Int32} {s8 : Int32} {s9 : Nat} (m10 i10 : Nat) (g10 : Nat → Int32) (h11 : f s9 = .inl (0, m10, .inl g10)) (h12 : s9 < n) (h13 : mi_ix s8 m10 i10) (h14 : s7 < (0 : Int32) → mi_W d 168 249 [some (.ref l1), some (.int l2), some (.int l3), some (.int l4), o5, o6] [] (n, sl, (va_up f s9 (.inl (0, m10, .inl (upd g10 i10 s7))))) Q) (h15 : ¬ (s7 < (0 : Int32)) → mi_W d 168 245 [some (.ref l1), some (.int l2), some (.int l3), some (.int l4), o5, o6] [] (n, sl, (va_up f s9 (.inl (0, m10, .inl (upd g10 i10 s7))))) Q) : mi_W d 168 240 [some (.ref l1), some (.int l2), some (.int l3), some (.int l4), o5, o6] [.int s7, .int s8, .ref s9] (n, sl, f) Q := by
  refine w_dup_x2_iir cd_168_240 ?_
  refine w_iastore cd_168_241 h11 h12 h13 ?_
  exact w_iflt cd_168_242 (by decide) h14 h15
theorem b_168_245 {d : Nat} {Q : (Option Value ⊕ Nat) → mi_H → Prop} (n sl : Nat) (f : Nat → mi_C) {l1 : Nat} {l2 : Int32} {l3 : Int32} {l4 : Int32} {o5 : Option Value} {o6 : Option Value} (h7 : mi_W d 168 250 [some (.ref l1), some (.int l2), some (.int l3), some (.int l4), o5, o6] [.int 1] (n, sl, f) Q) : mi_W d 168 245 [some (.ref l1), some (.int l2), some (.int l3), some (.int l4), o5, o6] [] (n, sl, f) Q := by
  refine w_iconst (v := 1) cd_168_245 (by decide) ?_
  exact w_goto cd_168_246 (by decide) h7
theorem b_168_249 {d : Nat} {Q : (Option Value ⊕ Nat) → mi_H → Prop} (n sl : Nat) (f : Nat → mi_C) {l1 : Nat} {l2 : Int32} {l3 : Int32} {l4 : Int32} {o5 : Option Value} {o6 : Option Value} (h7 : mi_W d 168 250 [some (.ref l1), some (.int l2), some (.int l3), some (.int l4), o5, o6] [.int 0] (n, sl, f) Q) : mi_W d 168 249 [some (.ref l1), some (.int l2), some (.int l3), some (.int l4), o5, o6] [] (n, sl, f) Q := by
  refine w_iconst (v := 0) cd_168_249 (by decide) ?_
  exact h7
theorem b_168_250 {d : Nat} {Q : (Option Value ⊕ Nat) → mi_H → Prop} (n sl : Nat) (f : Nat → mi_C) {l1 : Nat} {l2 : Int32} {l3 : Int32} {l4 : Int32} {o5 : Option Value} {o6 : Option Value} {s7 : Int32} (h8 : s7 = 0 ∨ s7 = 1) (h9 : Q (.inl (some (.int s7))) (n, sl, f)) : mi_W d 168 250 [some (.ref l1), some (.int l2), some (.int l3), some (.int l4), o5, o6] [.int s7] (n, sl, f) Q := by
  exact w_ireturn_z cd_168_250 (by decide +kernel) h8 h9
/-! MarloweHostModel.action(I)Z -/
set_option maxRecDepth 100000 in
theorem mq_169 : mt_q 169 = my_169 := rfl
set_option maxRecDepth 100000 in
theorem ci_169 : mt_inc 0 my_169.cd = true := by decide +kernel
theorem cd_169_0 : mt_cd 169 0 = some (.aload_n 0) := mt_cd_of (q := (0, .aload_n 0, 1)) mq_169 ci_169 (List.mem_append_left _ (show _ ∈ my_169_0 from List.mem_of_getElem? (i := 0) rfl))
theorem cd_169_1 : mt_cd 169 1 = some (.getfield 77) := mt_cd_of (q := (1, .getfield 77, 3)) mq_169 ci_169 (List.mem_append_left _ (show _ ∈ my_169_0 from List.mem_of_getElem? (i := 1) rfl))
theorem cd_169_4 : mt_cd 169 4 = some (.iload_n 1) := mt_cd_of (q := (4, .iload_n 1, 1)) mq_169 ci_169 (List.mem_append_left _ (show _ ∈ my_169_0 from List.mem_of_getElem? (i := 2) rfl))
theorem cd_169_5 : mt_cd 169 5 = some (.iaload) := mt_cd_of (q := (5, .iaload, 1)) mq_169 ci_169 (List.mem_append_left _ (show _ ∈ my_169_0 from List.mem_of_getElem? (i := 3) rfl))
theorem cd_169_6 : mt_cd 169 6 = some (.bipush 7) := mt_cd_of (q := (6, .bipush 7, 2)) mq_169 ci_169 (List.mem_append_left _ (show _ ∈ my_169_0 from List.mem_of_getElem? (i := 4) rfl))
theorem cd_169_8 : mt_cd 169 8 = some (.if_icmp .ne 65) := mt_cd_of (q := (8, .if_icmp .ne 65, 3)) mq_169 ci_169 (List.mem_append_left _ (show _ ∈ my_169_0 from List.mem_of_getElem? (i := 5) rfl))
theorem cd_169_11 : mt_cd 169 11 = some (.aload_n 0) := mt_cd_of (q := (11, .aload_n 0, 1)) mq_169 ci_169 (List.mem_append_left _ (show _ ∈ my_169_0 from List.mem_of_getElem? (i := 6) rfl))
theorem cd_169_12 : mt_cd 169 12 = some (.getfield 80) := mt_cd_of (q := (12, .getfield 80, 3)) mq_169 ci_169 (List.mem_append_left _ (show _ ∈ my_169_0 from List.mem_of_getElem? (i := 7) rfl))
theorem cd_169_15 : mt_cd 169 15 = some (.iload_n 1) := mt_cd_of (q := (15, .iload_n 1, 1)) mq_169 ci_169 (List.mem_append_left _ (show _ ∈ my_169_0 from List.mem_of_getElem? (i := 8) rfl))
theorem cd_169_16 : mt_cd 169 16 = some (.aload_n 0) := mt_cd_of (q := (16, .aload_n 0, 1)) mq_169 ci_169 (List.mem_append_left _ (show _ ∈ my_169_0 from List.mem_of_getElem? (i := 9) rfl))
theorem cd_169_17 : mt_cd 169 17 = some (.invokevirtual 370) := mt_cd_of (q := (17, .invokevirtual 370, 3)) mq_169 ci_169 (List.mem_append_left _ (show _ ∈ my_169_0 from List.mem_of_getElem? (i := 10) rfl))
theorem cd_169_20 : mt_cd 169 20 = some (.dup_x2) := mt_cd_of (q := (20, .dup_x2, 1)) mq_169 ci_169 (List.mem_append_left _ (show _ ∈ my_169_0 from List.mem_of_getElem? (i := 11) rfl))
theorem cd_169_21 : mt_cd 169 21 = some (.iastore) := mt_cd_of (q := (21, .iastore, 1)) mq_169 ci_169 (List.mem_append_left _ (show _ ∈ my_169_0 from List.mem_of_getElem? (i := 12) rfl))
theorem cd_169_22 : mt_cd 169 22 = some (.ifCond .lt 49) := mt_cd_of (q := (22, .ifCond .lt 49, 3)) mq_169 ci_169 (List.mem_append_left _ (show _ ∈ my_169_0 from List.mem_of_getElem? (i := 13) rfl))
theorem cd_169_25 : mt_cd 169 25 = some (.aload_n 0) := mt_cd_of (q := (25, .aload_n 0, 1)) mq_169 ci_169 (List.mem_append_left _ (show _ ∈ my_169_0 from List.mem_of_getElem? (i := 14) rfl))
theorem cd_169_26 : mt_cd 169 26 = some (.getfield 83) := mt_cd_of (q := (26, .getfield 83, 3)) mq_169 ci_169 (List.mem_append_left _ (show _ ∈ my_169_0 from List.mem_of_getElem? (i := 15) rfl))
theorem cd_169_29 : mt_cd 169 29 = some (.iload_n 1) := mt_cd_of (q := (29, .iload_n 1, 1)) mq_169 ci_169 (List.mem_append_left _ (show _ ∈ my_169_0 from List.mem_of_getElem? (i := 16) rfl))
theorem cd_169_30 : mt_cd 169 30 = some (.aload_n 0) := mt_cd_of (q := (30, .aload_n 0, 1)) mq_169 ci_169 (List.mem_append_left _ (show _ ∈ my_169_0 from List.mem_of_getElem? (i := 17) rfl))
theorem cd_169_31 : mt_cd 169 31 = some (.invokevirtual 370) := mt_cd_of (q := (31, .invokevirtual 370, 3)) mq_169 ci_169 (List.mem_append_left _ (show _ ∈ my_169_0 from List.mem_of_getElem? (i := 18) rfl))
theorem cd_169_34 : mt_cd 169 34 = some (.dup_x2) := mt_cd_of (q := (34, .dup_x2, 1)) mq_169 ci_169 (List.mem_append_left _ (show _ ∈ my_169_0 from List.mem_of_getElem? (i := 19) rfl))
theorem cd_169_35 : mt_cd 169 35 = some (.iastore) := mt_cd_of (q := (35, .iastore, 1)) mq_169 ci_169 (List.mem_append_left _ (show _ ∈ my_169_0 from List.mem_of_getElem? (i := 20) rfl))
theorem cd_169_36 : mt_cd 169 36 = some (.ifCond .lt 35) := mt_cd_of (q := (36, .ifCond .lt 35, 3)) mq_169 ci_169 (List.mem_append_left _ (show _ ∈ my_169_0 from List.mem_of_getElem? (i := 21) rfl))
theorem cd_169_39 : mt_cd 169 39 = some (.aload_n 0) := mt_cd_of (q := (39, .aload_n 0, 1)) mq_169 ci_169 (List.mem_append_left _ (show _ ∈ my_169_0 from List.mem_of_getElem? (i := 22) rfl))
theorem cd_169_40 : mt_cd 169 40 = some (.getfield 86) := mt_cd_of (q := (40, .getfield 86, 3)) mq_169 ci_169 (List.mem_append_left _ (show _ ∈ my_169_0 from List.mem_of_getElem? (i := 23) rfl))
theorem cd_169_43 : mt_cd 169 43 = some (.iload_n 1) := mt_cd_of (q := (43, .iload_n 1, 1)) mq_169 ci_169 (List.mem_append_left _ (show _ ∈ my_169_0 from List.mem_of_getElem? (i := 24) rfl))
theorem cd_169_44 : mt_cd 169 44 = some (.aload_n 0) := mt_cd_of (q := (44, .aload_n 0, 1)) mq_169 ci_169 (List.mem_append_left _ (show _ ∈ my_169_0 from List.mem_of_getElem? (i := 25) rfl))
theorem cd_169_45 : mt_cd 169 45 = some (.invokevirtual 396) := mt_cd_of (q := (45, .invokevirtual 396, 3)) mq_169 ci_169 (List.mem_append_left _ (show _ ∈ my_169_0 from List.mem_of_getElem? (i := 26) rfl))
theorem cd_169_48 : mt_cd 169 48 = some (.dup_x2) := mt_cd_of (q := (48, .dup_x2, 1)) mq_169 ci_169 (List.mem_append_left _ (show _ ∈ my_169_0 from List.mem_of_getElem? (i := 27) rfl))
theorem cd_169_49 : mt_cd 169 49 = some (.iastore) := mt_cd_of (q := (49, .iastore, 1)) mq_169 ci_169 (List.mem_append_left _ (show _ ∈ my_169_0 from List.mem_of_getElem? (i := 28) rfl))
theorem cd_169_50 : mt_cd 169 50 = some (.ifCond .lt 21) := mt_cd_of (q := (50, .ifCond .lt 21, 3)) mq_169 ci_169 (List.mem_append_left _ (show _ ∈ my_169_0 from List.mem_of_getElem? (i := 29) rfl))
theorem cd_169_53 : mt_cd 169 53 = some (.aload_n 0) := mt_cd_of (q := (53, .aload_n 0, 1)) mq_169 ci_169 (List.mem_append_left _ (show _ ∈ my_169_0 from List.mem_of_getElem? (i := 30) rfl))
theorem cd_169_54 : mt_cd 169 54 = some (.getfield 89) := mt_cd_of (q := (54, .getfield 89, 3)) mq_169 ci_169 (List.mem_append_left _ (show _ ∈ my_169_0 from List.mem_of_getElem? (i := 31) rfl))
theorem cd_169_57 : mt_cd 169 57 = some (.iload_n 1) := mt_cd_of (q := (57, .iload_n 1, 1)) mq_169 ci_169 (List.mem_append_left _ (show _ ∈ my_169_0 from List.mem_of_getElem? (i := 32) rfl))
theorem cd_169_58 : mt_cd 169 58 = some (.aload_n 0) := mt_cd_of (q := (58, .aload_n 0, 1)) mq_169 ci_169 (List.mem_append_left _ (show _ ∈ my_169_0 from List.mem_of_getElem? (i := 33) rfl))
theorem cd_169_59 : mt_cd 169 59 = some (.invokevirtual 399) := mt_cd_of (q := (59, .invokevirtual 399, 3)) mq_169 ci_169 (List.mem_append_left _ (show _ ∈ my_169_0 from List.mem_of_getElem? (i := 34) rfl))
theorem cd_169_62 : mt_cd 169 62 = some (.dup_x2) := mt_cd_of (q := (62, .dup_x2, 1)) mq_169 ci_169 (List.mem_append_left _ (show _ ∈ my_169_0 from List.mem_of_getElem? (i := 35) rfl))
theorem cd_169_63 : mt_cd 169 63 = some (.iastore) := mt_cd_of (q := (63, .iastore, 1)) mq_169 ci_169 (List.mem_append_left _ (show _ ∈ my_169_0 from List.mem_of_getElem? (i := 36) rfl))
theorem cd_169_64 : mt_cd 169 64 = some (.ifCond .lt 7) := mt_cd_of (q := (64, .ifCond .lt 7, 3)) mq_169 ci_169 (List.mem_append_left _ (show _ ∈ my_169_0 from List.mem_of_getElem? (i := 37) rfl))
theorem cd_169_67 : mt_cd 169 67 = some (.iconst 1) := mt_cd_of (q := (67, .iconst 1, 1)) mq_169 ci_169 (List.mem_append_left _ (show _ ∈ my_169_0 from List.mem_of_getElem? (i := 38) rfl))
theorem cd_169_68 : mt_cd 169 68 = some (.goto 4) := mt_cd_of (q := (68, .goto 4, 3)) mq_169 ci_169 (List.mem_append_left _ (show _ ∈ my_169_0 from List.mem_of_getElem? (i := 39) rfl))
theorem cd_169_71 : mt_cd 169 71 = some (.iconst 0) := mt_cd_of (q := (71, .iconst 0, 1)) mq_169 ci_169 (List.mem_append_left _ (show _ ∈ my_169_0 from List.mem_of_getElem? (i := 40) rfl))
theorem cd_169_72 : mt_cd 169 72 = some (.ireturn) := mt_cd_of (q := (72, .ireturn, 1)) mq_169 ci_169 (List.mem_append_left _ (show _ ∈ my_169_0 from List.mem_of_getElem? (i := 41) rfl))
theorem cd_169_73 : mt_cd 169 73 = some (.aload_n 0) := mt_cd_of (q := (73, .aload_n 0, 1)) mq_169 ci_169 (List.mem_append_left _ (show _ ∈ my_169_0 from List.mem_of_getElem? (i := 42) rfl))
theorem cd_169_74 : mt_cd 169 74 = some (.getfield 77) := mt_cd_of (q := (74, .getfield 77, 3)) mq_169 ci_169 (List.mem_append_left _ (show _ ∈ my_169_0 from List.mem_of_getElem? (i := 43) rfl))
theorem cd_169_77 : mt_cd 169 77 = some (.iload_n 1) := mt_cd_of (q := (77, .iload_n 1, 1)) mq_169 ci_169 (List.mem_append_left _ (show _ ∈ my_169_0 from List.mem_of_getElem? (i := 44) rfl))
theorem cd_169_78 : mt_cd 169 78 = some (.iaload) := mt_cd_of (q := (78, .iaload, 1)) mq_169 ci_169 (List.mem_append_left _ (show _ ∈ my_169_0 from List.mem_of_getElem? (i := 45) rfl))
theorem cd_169_79 : mt_cd 169 79 = some (.bipush 9) := mt_cd_of (q := (79, .bipush 9, 2)) mq_169 ci_169 (List.mem_append_left _ (show _ ∈ my_169_0 from List.mem_of_getElem? (i := 46) rfl))
theorem cd_169_81 : mt_cd 169 81 = some (.if_icmp .ne 23) := mt_cd_of (q := (81, .if_icmp .ne 23, 3)) mq_169 ci_169 (List.mem_append_left _ (show _ ∈ my_169_0 from List.mem_of_getElem? (i := 47) rfl))
theorem cd_169_84 : mt_cd 169 84 = some (.aload_n 0) := mt_cd_of (q := (84, .aload_n 0, 1)) mq_169 ci_169 (List.mem_append_left _ (show _ ∈ my_169_0 from List.mem_of_getElem? (i := 48) rfl))
theorem cd_169_85 : mt_cd 169 85 = some (.getfield 89) := mt_cd_of (q := (85, .getfield 89, 3)) mq_169 ci_169 (List.mem_append_left _ (show _ ∈ my_169_0 from List.mem_of_getElem? (i := 49) rfl))
theorem cd_169_88 : mt_cd 169 88 = some (.iload_n 1) := mt_cd_of (q := (88, .iload_n 1, 1)) mq_169 ci_169 (List.mem_append_left _ (show _ ∈ my_169_0 from List.mem_of_getElem? (i := 50) rfl))
theorem cd_169_89 : mt_cd 169 89 = some (.aload_n 0) := mt_cd_of (q := (89, .aload_n 0, 1)) mq_169 ci_169 (List.mem_append_left _ (show _ ∈ my_169_0 from List.mem_of_getElem? (i := 51) rfl))
theorem cd_169_90 : mt_cd 169 90 = some (.invokevirtual 401) := mt_cd_of (q := (90, .invokevirtual 401, 3)) mq_169 ci_169 (List.mem_append_left _ (show _ ∈ my_169_0 from List.mem_of_getElem? (i := 52) rfl))
theorem cd_169_93 : mt_cd 169 93 = some (.dup_x2) := mt_cd_of (q := (93, .dup_x2, 1)) mq_169 ci_169 (List.mem_append_left _ (show _ ∈ my_169_0 from List.mem_of_getElem? (i := 53) rfl))
theorem cd_169_94 : mt_cd 169 94 = some (.iastore) := mt_cd_of (q := (94, .iastore, 1)) mq_169 ci_169 (List.mem_append_left _ (show _ ∈ my_169_0 from List.mem_of_getElem? (i := 54) rfl))
theorem cd_169_95 : mt_cd 169 95 = some (.ifCond .lt 7) := mt_cd_of (q := (95, .ifCond .lt 7, 3)) mq_169 ci_169 (List.mem_append_left _ (show _ ∈ my_169_0 from List.mem_of_getElem? (i := 55) rfl))
theorem cd_169_98 : mt_cd 169 98 = some (.iconst 1) := mt_cd_of (q := (98, .iconst 1, 1)) mq_169 ci_169 (List.mem_append_left _ (show _ ∈ my_169_0 from List.mem_of_getElem? (i := 56) rfl))
theorem cd_169_99 : mt_cd 169 99 = some (.goto 4) := mt_cd_of (q := (99, .goto 4, 3)) mq_169 ci_169 (List.mem_append_left _ (show _ ∈ my_169_0 from List.mem_of_getElem? (i := 57) rfl))
theorem cd_169_102 : mt_cd 169 102 = some (.iconst 0) := mt_cd_of (q := (102, .iconst 0, 1)) mq_169 ci_169 (List.mem_append_left _ (show _ ∈ my_169_0 from List.mem_of_getElem? (i := 58) rfl))
theorem cd_169_103 : mt_cd 169 103 = some (.ireturn) := mt_cd_of (q := (103, .ireturn, 1)) mq_169 ci_169 (List.mem_append_left _ (show _ ∈ my_169_0 from List.mem_of_getElem? (i := 59) rfl))
theorem cd_169_104 : mt_cd 169 104 = some (.aload_n 0) := mt_cd_of (q := (104, .aload_n 0, 1)) mq_169 ci_169 (List.mem_append_right _ (List.mem_append_left _ (show _ ∈ my_169_1 from List.mem_of_getElem? (i := 0) rfl)))
theorem cd_169_105 : mt_cd 169 105 = some (.getfield 80) := mt_cd_of (q := (105, .getfield 80, 3)) mq_169 ci_169 (List.mem_append_right _ (List.mem_append_left _ (show _ ∈ my_169_1 from List.mem_of_getElem? (i := 1) rfl)))
theorem cd_169_108 : mt_cd 169 108 = some (.iload_n 1) := mt_cd_of (q := (108, .iload_n 1, 1)) mq_169 ci_169 (List.mem_append_right _ (List.mem_append_left _ (show _ ∈ my_169_1 from List.mem_of_getElem? (i := 2) rfl)))
theorem cd_169_109 : mt_cd 169 109 = some (.aload_n 0) := mt_cd_of (q := (109, .aload_n 0, 1)) mq_169 ci_169 (List.mem_append_right _ (List.mem_append_left _ (show _ ∈ my_169_1 from List.mem_of_getElem? (i := 3) rfl)))
theorem cd_169_110 : mt_cd 169 110 = some (.invokevirtual 416) := mt_cd_of (q := (110, .invokevirtual 416, 3)) mq_169 ci_169 (List.mem_append_right _ (List.mem_append_left _ (show _ ∈ my_169_1 from List.mem_of_getElem? (i := 4) rfl)))
theorem cd_169_113 : mt_cd 169 113 = some (.dup_x2) := mt_cd_of (q := (113, .dup_x2, 1)) mq_169 ci_169 (List.mem_append_right _ (List.mem_append_left _ (show _ ∈ my_169_1 from List.mem_of_getElem? (i := 5) rfl)))
theorem cd_169_114 : mt_cd 169 114 = some (.iastore) := mt_cd_of (q := (114, .iastore, 1)) mq_169 ci_169 (List.mem_append_right _ (List.mem_append_left _ (show _ ∈ my_169_1 from List.mem_of_getElem? (i := 6) rfl)))
theorem cd_169_115 : mt_cd 169 115 = some (.ifCond .lt 17) := mt_cd_of (q := (115, .ifCond .lt 17, 3)) mq_169 ci_169 (List.mem_append_right _ (List.mem_append_left _ (show _ ∈ my_169_1 from List.mem_of_getElem? (i := 7) rfl)))
theorem cd_169_118 : mt_cd 169 118 = some (.aload_n 0) := mt_cd_of (q := (118, .aload_n 0, 1)) mq_169 ci_169 (List.mem_append_right _ (List.mem_append_left _ (show _ ∈ my_169_1 from List.mem_of_getElem? (i := 8) rfl)))
theorem cd_169_119 : mt_cd 169 119 = some (.aload_n 0) := mt_cd_of (q := (119, .aload_n 0, 1)) mq_169 ci_169 (List.mem_append_right _ (List.mem_append_left _ (show _ ∈ my_169_1 from List.mem_of_getElem? (i := 9) rfl)))
theorem cd_169_120 : mt_cd 169 120 = some (.ldc_w 409) := mt_cd_of (q := (120, .ldc_w 409, 3)) mq_169 ci_169 (List.mem_append_right _ (List.mem_append_left _ (show _ ∈ my_169_1 from List.mem_of_getElem? (i := 10) rfl)))
theorem cd_169_123 : mt_cd 169 123 = some (.invokevirtual 375) := mt_cd_of (q := (123, .invokevirtual 375, 3)) mq_169 ci_169 (List.mem_append_right _ (List.mem_append_left _ (show _ ∈ my_169_1 from List.mem_of_getElem? (i := 11) rfl)))
theorem cd_169_126 : mt_cd 169 126 = some (.invokevirtual 383) := mt_cd_of (q := (126, .invokevirtual 383, 3)) mq_169 ci_169 (List.mem_append_right _ (List.mem_append_left _ (show _ ∈ my_169_1 from List.mem_of_getElem? (i := 12) rfl)))
theorem cd_169_129 : mt_cd 169 129 = some (.ifCond .ne 5) := mt_cd_of (q := (129, .ifCond .ne 5, 3)) mq_169 ci_169 (List.mem_append_right _ (List.mem_append_left _ (show _ ∈ my_169_1 from List.mem_of_getElem? (i := 13) rfl)))
theorem cd_169_132 : mt_cd 169 132 = some (.iconst 0) := mt_cd_of (q := (132, .iconst 0, 1)) mq_169 ci_169 (List.mem_append_right _ (List.mem_append_left _ (show _ ∈ my_169_1 from List.mem_of_getElem? (i := 14) rfl)))
theorem cd_169_133 : mt_cd 169 133 = some (.ireturn) := mt_cd_of (q := (133, .ireturn, 1)) mq_169 ci_169 (List.mem_append_right _ (List.mem_append_left _ (show _ ∈ my_169_1 from List.mem_of_getElem? (i := 15) rfl)))
theorem cd_169_134 : mt_cd 169 134 = some (.aload_n 0) := mt_cd_of (q := (134, .aload_n 0, 1)) mq_169 ci_169 (List.mem_append_right _ (List.mem_append_left _ (show _ ∈ my_169_1 from List.mem_of_getElem? (i := 16) rfl)))
theorem cd_169_135 : mt_cd 169 135 = some (.getfield 141) := mt_cd_of (q := (135, .getfield 141, 3)) mq_169 ci_169 (List.mem_append_right _ (List.mem_append_left _ (show _ ∈ my_169_1 from List.mem_of_getElem? (i := 17) rfl)))
theorem cd_169_138 : mt_cd 169 138 = some (.iload_n 1) := mt_cd_of (q := (138, .iload_n 1, 1)) mq_169 ci_169 (List.mem_append_right _ (List.mem_append_left _ (show _ ∈ my_169_1 from List.mem_of_getElem? (i := 18) rfl)))
theorem cd_169_139 : mt_cd 169 139 = some (.aload_n 0) := mt_cd_of (q := (139, .aload_n 0, 1)) mq_169 ci_169 (List.mem_append_right _ (List.mem_append_left _ (show _ ∈ my_169_1 from List.mem_of_getElem? (i := 19) rfl)))
theorem cd_169_140 : mt_cd 169 140 = some (.getfield 340) := mt_cd_of (q := (140, .getfield 340, 3)) mq_169 ci_169 (List.mem_append_right _ (List.mem_append_left _ (show _ ∈ my_169_1 from List.mem_of_getElem? (i := 20) rfl)))
theorem cd_169_143 : mt_cd 169 143 = some (.iastore) := mt_cd_of (q := (143, .iastore, 1)) mq_169 ci_169 (List.mem_append_right _ (List.mem_append_left _ (show _ ∈ my_169_1 from List.mem_of_getElem? (i := 21) rfl)))
theorem cd_169_144 : mt_cd 169 144 = some (.aload_n 0) := mt_cd_of (q := (144, .aload_n 0, 1)) mq_169 ci_169 (List.mem_append_right _ (List.mem_append_left _ (show _ ∈ my_169_1 from List.mem_of_getElem? (i := 22) rfl)))
theorem cd_169_145 : mt_cd 169 145 = some (.getfield 95) := mt_cd_of (q := (145, .getfield 95, 3)) mq_169 ci_169 (List.mem_append_right _ (List.mem_append_left _ (show _ ∈ my_169_1 from List.mem_of_getElem? (i := 23) rfl)))
theorem cd_169_148 : mt_cd 169 148 = some (.iload_n 1) := mt_cd_of (q := (148, .iload_n 1, 1)) mq_169 ci_169 (List.mem_append_right _ (List.mem_append_left _ (show _ ∈ my_169_1 from List.mem_of_getElem? (i := 24) rfl)))
theorem cd_169_149 : mt_cd 169 149 = some (.iconst 0) := mt_cd_of (q := (149, .iconst 0, 1)) mq_169 ci_169 (List.mem_append_right _ (List.mem_append_left _ (show _ ∈ my_169_1 from List.mem_of_getElem? (i := 25) rfl)))
theorem cd_169_150 : mt_cd 169 150 = some (.iastore) := mt_cd_of (q := (150, .iastore, 1)) mq_169 ci_169 (List.mem_append_right _ (List.mem_append_left _ (show _ ∈ my_169_1 from List.mem_of_getElem? (i := 26) rfl)))
theorem cd_169_151 : mt_cd 169 151 = some (.aload_n 0) := mt_cd_of (q := (151, .aload_n 0, 1)) mq_169 ci_169 (List.mem_append_right _ (List.mem_append_left _ (show _ ∈ my_169_1 from List.mem_of_getElem? (i := 27) rfl)))
theorem cd_169_152 : mt_cd 169 152 = some (.getfield 310) := mt_cd_of (q := (152, .getfield 310, 3)) mq_169 ci_169 (List.mem_append_right _ (List.mem_append_left _ (show _ ∈ my_169_1 from List.mem_of_getElem? (i := 28) rfl)))
theorem cd_169_155 : mt_cd 169 155 = some (.iconst 2) := mt_cd_of (q := (155, .iconst 2, 1)) mq_169 ci_169 (List.mem_append_right _ (List.mem_append_left _ (show _ ∈ my_169_1 from List.mem_of_getElem? (i := 29) rfl)))
theorem cd_169_156 : mt_cd 169 156 = some (.if_icmp .eq 12) := mt_cd_of (q := (156, .if_icmp .eq 12, 3)) mq_169 ci_169 (List.mem_append_right _ (List.mem_append_left _ (show _ ∈ my_169_1 from List.mem_of_getElem? (i := 30) rfl)))
theorem cd_169_159 : mt_cd 169 159 = some (.aload_n 0) := mt_cd_of (q := (159, .aload_n 0, 1)) mq_169 ci_169 (List.mem_append_right _ (List.mem_append_left _ (show _ ∈ my_169_1 from List.mem_of_getElem? (i := 31) rfl)))
theorem cd_169_160 : mt_cd 169 160 = some (.aload_n 0) := mt_cd_of (q := (160, .aload_n 0, 1)) mq_169 ci_169 (List.mem_append_right _ (List.mem_append_left _ (show _ ∈ my_169_1 from List.mem_of_getElem? (i := 32) rfl)))
theorem cd_169_161 : mt_cd 169 161 = some (.getfield 299) := mt_cd_of (q := (161, .getfield 299, 3)) mq_169 ci_169 (List.mem_append_right _ (List.mem_append_left _ (show _ ∈ my_169_1 from List.mem_of_getElem? (i := 33) rfl)))
theorem cd_169_164 : mt_cd 169 164 = some (.invokevirtual 272) := mt_cd_of (q := (164, .invokevirtual 272, 3)) mq_169 ci_169 (List.mem_append_right _ (List.mem_append_left _ (show _ ∈ my_169_1 from List.mem_of_getElem? (i := 34) rfl)))
theorem cd_169_167 : mt_cd 169 167 = some (.ireturn) := mt_cd_of (q := (167, .ireturn, 1)) mq_169 ci_169 (List.mem_append_right _ (List.mem_append_left _ (show _ ∈ my_169_1 from List.mem_of_getElem? (i := 35) rfl)))
theorem cd_169_168 : mt_cd 169 168 = some (.aload_n 0) := mt_cd_of (q := (168, .aload_n 0, 1)) mq_169 ci_169 (List.mem_append_right _ (List.mem_append_left _ (show _ ∈ my_169_1 from List.mem_of_getElem? (i := 36) rfl)))
theorem cd_169_169 : mt_cd 169 169 = some (.getfield 327) := mt_cd_of (q := (169, .getfield 327, 3)) mq_169 ci_169 (List.mem_append_right _ (List.mem_append_left _ (show _ ∈ my_169_1 from List.mem_of_getElem? (i := 37) rfl)))
theorem cd_169_172 : mt_cd 169 172 = some (.lstore_n 2) := mt_cd_of (q := (172, .lstore_n 2, 1)) mq_169 ci_169 (List.mem_append_right _ (List.mem_append_left _ (show _ ∈ my_169_1 from List.mem_of_getElem? (i := 38) rfl)))
theorem cd_169_173 : mt_cd 169 173 = some (.aload_n 0) := mt_cd_of (q := (173, .aload_n 0, 1)) mq_169 ci_169 (List.mem_append_right _ (List.mem_append_left _ (show _ ∈ my_169_1 from List.mem_of_getElem? (i := 39) rfl)))
theorem cd_169_174 : mt_cd 169 174 = some (.invokevirtual 333) := mt_cd_of (q := (174, .invokevirtual 333, 3)) mq_169 ci_169 (List.mem_append_right _ (List.mem_append_left _ (show _ ∈ my_169_1 from List.mem_of_getElem? (i := 40) rfl)))
theorem cd_169_177 : mt_cd 169 177 = some (.ifCond .ne 5) := mt_cd_of (q := (177, .ifCond .ne 5, 3)) mq_169 ci_169 (List.mem_append_right _ (List.mem_append_left _ (show _ ∈ my_169_1 from List.mem_of_getElem? (i := 41) rfl)))
theorem cd_169_180 : mt_cd 169 180 = some (.iconst 0) := mt_cd_of (q := (180, .iconst 0, 1)) mq_169 ci_169 (List.mem_append_right _ (List.mem_append_left _ (show _ ∈ my_169_1 from List.mem_of_getElem? (i := 42) rfl)))
theorem cd_169_181 : mt_cd 169 181 = some (.ireturn) := mt_cd_of (q := (181, .ireturn, 1)) mq_169 ci_169 (List.mem_append_right _ (List.mem_append_left _ (show _ ∈ my_169_1 from List.mem_of_getElem? (i := 43) rfl)))
theorem cd_169_182 : mt_cd 169 182 = some (.aload_n 0) := mt_cd_of (q := (182, .aload_n 0, 1)) mq_169 ci_169 (List.mem_append_right _ (List.mem_append_left _ (show _ ∈ my_169_1 from List.mem_of_getElem? (i := 44) rfl)))
theorem cd_169_183 : mt_cd 169 183 = some (.getfield 310) := mt_cd_of (q := (183, .getfield 310, 3)) mq_169 ci_169 (List.mem_append_right _ (List.mem_append_left _ (show _ ∈ my_169_1 from List.mem_of_getElem? (i := 45) rfl)))
theorem cd_169_186 : mt_cd 169 186 = some (.iconst 2) := mt_cd_of (q := (186, .iconst 2, 1)) mq_169 ci_169 (List.mem_append_right _ (List.mem_append_left _ (show _ ∈ my_169_1 from List.mem_of_getElem? (i := 46) rfl)))
theorem cd_169_187 : mt_cd 169 187 = some (.if_icmp .ne 12) := mt_cd_of (q := (187, .if_icmp .ne 12, 3)) mq_169 ci_169 (List.mem_append_right _ (List.mem_append_left _ (show _ ∈ my_169_1 from List.mem_of_getElem? (i := 47) rfl)))
theorem cd_169_190 : mt_cd 169 190 = some (.aload_n 0) := mt_cd_of (q := (190, .aload_n 0, 1)) mq_169 ci_169 (List.mem_append_right _ (List.mem_append_left _ (show _ ∈ my_169_1 from List.mem_of_getElem? (i := 48) rfl)))
theorem cd_169_191 : mt_cd 169 191 = some (.getfield 327) := mt_cd_of (q := (191, .getfield 327, 3)) mq_169 ci_169 (List.mem_append_right _ (List.mem_append_left _ (show _ ∈ my_169_1 from List.mem_of_getElem? (i := 49) rfl)))
theorem cd_169_194 : mt_cd 169 194 = some (.lload_n 2) := mt_cd_of (q := (194, .lload_n 2, 1)) mq_169 ci_169 (List.mem_append_right _ (List.mem_append_left _ (show _ ∈ my_169_1 from List.mem_of_getElem? (i := 50) rfl)))
theorem cd_169_195 : mt_cd 169 195 = some (.lcmp) := mt_cd_of (q := (195, .lcmp, 1)) mq_169 ci_169 (List.mem_append_right _ (List.mem_append_left _ (show _ ∈ my_169_1 from List.mem_of_getElem? (i := 51) rfl)))
theorem cd_169_196 : mt_cd 169 196 = some (.ifCond .ge 12) := mt_cd_of (q := (196, .ifCond .ge 12, 3)) mq_169 ci_169 (List.mem_append_right _ (List.mem_append_left _ (show _ ∈ my_169_1 from List.mem_of_getElem? (i := 52) rfl)))
theorem cd_169_199 : mt_cd 169 199 = some (.aload_n 0) := mt_cd_of (q := (199, .aload_n 0, 1)) mq_169 ci_169 (List.mem_append_right _ (List.mem_append_left _ (show _ ∈ my_169_1 from List.mem_of_getElem? (i := 53) rfl)))
theorem cd_169_200 : mt_cd 169 200 = some (.aload_n 0) := mt_cd_of (q := (200, .aload_n 0, 1)) mq_169 ci_169 (List.mem_append_right _ (List.mem_append_left _ (show _ ∈ my_169_1 from List.mem_of_getElem? (i := 54) rfl)))
theorem cd_169_201 : mt_cd 169 201 = some (.getfield 299) := mt_cd_of (q := (201, .getfield 299, 3)) mq_169 ci_169 (List.mem_append_right _ (List.mem_append_left _ (show _ ∈ my_169_1 from List.mem_of_getElem? (i := 55) rfl)))
theorem cd_169_204 : mt_cd 169 204 = some (.invokevirtual 272) := mt_cd_of (q := (204, .invokevirtual 272, 3)) mq_169 ci_169 (List.mem_append_right _ (List.mem_append_left _ (show _ ∈ my_169_1 from List.mem_of_getElem? (i := 56) rfl)))
theorem cd_169_207 : mt_cd 169 207 = some (.ireturn) := mt_cd_of (q := (207, .ireturn, 1)) mq_169 ci_169 (List.mem_append_right _ (List.mem_append_left _ (show _ ∈ my_169_1 from List.mem_of_getElem? (i := 57) rfl)))
theorem cd_169_208 : mt_cd 169 208 = some (.aload_n 0) := mt_cd_of (q := (208, .aload_n 0, 1)) mq_169 ci_169 (List.mem_append_right _ (List.mem_append_left _ (show _ ∈ my_169_1 from List.mem_of_getElem? (i := 58) rfl)))
theorem cd_169_209 : mt_cd 169 209 = some (.getfield 105) := mt_cd_of (q := (209, .getfield 105, 3)) mq_169 ci_169 (List.mem_append_right _ (List.mem_append_left _ (show _ ∈ my_169_1 from List.mem_of_getElem? (i := 59) rfl)))
theorem cd_169_212 : mt_cd 169 212 = some (.aload_n 0) := mt_cd_of (q := (212, .aload_n 0, 1)) mq_169 ci_169 (List.mem_append_right _ (List.mem_append_right _ ((show _ ∈ my_169_2 from List.mem_of_getElem? (i := 0) rfl))))
theorem cd_169_213 : mt_cd 169 213 = some (.getfield 340) := mt_cd_of (q := (213, .getfield 340, 3)) mq_169 ci_169 (List.mem_append_right _ (List.mem_append_right _ ((show _ ∈ my_169_2 from List.mem_of_getElem? (i := 1) rfl))))
theorem cd_169_216 : mt_cd 169 216 = some (.lload_n 2) := mt_cd_of (q := (216, .lload_n 2, 1)) mq_169 ci_169 (List.mem_append_right _ (List.mem_append_right _ ((show _ ∈ my_169_2 from List.mem_of_getElem? (i := 2) rfl))))
theorem cd_169_217 : mt_cd 169 217 = some (.lastore) := mt_cd_of (q := (217, .lastore, 1)) mq_169 ci_169 (List.mem_append_right _ (List.mem_append_right _ ((show _ ∈ my_169_2 from List.mem_of_getElem? (i := 3) rfl))))
theorem cd_169_218 : mt_cd 169 218 = some (.aload_n 0) := mt_cd_of (q := (218, .aload_n 0, 1)) mq_169 ci_169 (List.mem_append_right _ (List.mem_append_right _ ((show _ ∈ my_169_2 from List.mem_of_getElem? (i := 4) rfl))))
theorem cd_169_219 : mt_cd 169 219 = some (.getfield 108) := mt_cd_of (q := (219, .getfield 108, 3)) mq_169 ci_169 (List.mem_append_right _ (List.mem_append_right _ ((show _ ∈ my_169_2 from List.mem_of_getElem? (i := 5) rfl))))
theorem cd_169_222 : mt_cd 169 222 = some (.aload_n 0) := mt_cd_of (q := (222, .aload_n 0, 1)) mq_169 ci_169 (List.mem_append_right _ (List.mem_append_right _ ((show _ ∈ my_169_2 from List.mem_of_getElem? (i := 6) rfl))))
theorem cd_169_223 : mt_cd 169 223 = some (.dup) := mt_cd_of (q := (223, .dup, 1)) mq_169 ci_169 (List.mem_append_right _ (List.mem_append_right _ ((show _ ∈ my_169_2 from List.mem_of_getElem? (i := 7) rfl))))
theorem cd_169_224 : mt_cd 169 224 = some (.getfield 340) := mt_cd_of (q := (224, .getfield 340, 3)) mq_169 ci_169 (List.mem_append_right _ (List.mem_append_right _ ((show _ ∈ my_169_2 from List.mem_of_getElem? (i := 8) rfl))))
theorem cd_169_227 : mt_cd 169 227 = some (.dup_x1) := mt_cd_of (q := (227, .dup_x1, 1)) mq_169 ci_169 (List.mem_append_right _ (List.mem_append_right _ ((show _ ∈ my_169_2 from List.mem_of_getElem? (i := 9) rfl))))
theorem cd_169_228 : mt_cd 169 228 = some (.iconst 1) := mt_cd_of (q := (228, .iconst 1, 1)) mq_169 ci_169 (List.mem_append_right _ (List.mem_append_right _ ((show _ ∈ my_169_2 from List.mem_of_getElem? (i := 10) rfl))))
theorem cd_169_229 : mt_cd 169 229 = some (.iadd) := mt_cd_of (q := (229, .iadd, 1)) mq_169 ci_169 (List.mem_append_right _ (List.mem_append_right _ ((show _ ∈ my_169_2 from List.mem_of_getElem? (i := 11) rfl))))
theorem cd_169_230 : mt_cd 169 230 = some (.putfield 340) := mt_cd_of (q := (230, .putfield 340, 3)) mq_169 ci_169 (List.mem_append_right _ (List.mem_append_right _ ((show _ ∈ my_169_2 from List.mem_of_getElem? (i := 12) rfl))))
theorem cd_169_233 : mt_cd 169 233 = some (.aload_n 0) := mt_cd_of (q := (233, .aload_n 0, 1)) mq_169 ci_169 (List.mem_append_right _ (List.mem_append_right _ ((show _ ∈ my_169_2 from List.mem_of_getElem? (i := 13) rfl))))
theorem cd_169_234 : mt_cd 169 234 = some (.getfield 327) := mt_cd_of (q := (234, .getfield 327, 3)) mq_169 ci_169 (List.mem_append_right _ (List.mem_append_right _ ((show _ ∈ my_169_2 from List.mem_of_getElem? (i := 14) rfl))))
theorem cd_169_237 : mt_cd 169 237 = some (.lastore) := mt_cd_of (q := (237, .lastore, 1)) mq_169 ci_169 (List.mem_append_right _ (List.mem_append_right _ ((show _ ∈ my_169_2 from List.mem_of_getElem? (i := 15) rfl))))
theorem cd_169_238 : mt_cd 169 238 = some (.aload_n 0) := mt_cd_of (q := (238, .aload_n 0, 1)) mq_169 ci_169 (List.mem_append_right _ (List.mem_append_right _ ((show _ ∈ my_169_2 from List.mem_of_getElem? (i := 16) rfl))))
theorem cd_169_239 : mt_cd 169 239 = some (.getfield 95) := mt_cd_of (q := (239, .getfield 95, 3)) mq_169 ci_169 (List.mem_append_right _ (List.mem_append_right _ ((show _ ∈ my_169_2 from List.mem_of_getElem? (i := 17) rfl))))
theorem cd_169_242 : mt_cd 169 242 = some (.iload_n 1) := mt_cd_of (q := (242, .iload_n 1, 1)) mq_169 ci_169 (List.mem_append_right _ (List.mem_append_right _ ((show _ ∈ my_169_2 from List.mem_of_getElem? (i := 18) rfl))))
theorem cd_169_243 : mt_cd 169 243 = some (.dup2) := mt_cd_of (q := (243, .dup2, 1)) mq_169 ci_169 (List.mem_append_right _ (List.mem_append_right _ ((show _ ∈ my_169_2 from List.mem_of_getElem? (i := 19) rfl))))
theorem cd_169_244 : mt_cd 169 244 = some (.iaload) := mt_cd_of (q := (244, .iaload, 1)) mq_169 ci_169 (List.mem_append_right _ (List.mem_append_right _ ((show _ ∈ my_169_2 from List.mem_of_getElem? (i := 20) rfl))))
theorem cd_169_245 : mt_cd 169 245 = some (.iconst 1) := mt_cd_of (q := (245, .iconst 1, 1)) mq_169 ci_169 (List.mem_append_right _ (List.mem_append_right _ ((show _ ∈ my_169_2 from List.mem_of_getElem? (i := 21) rfl))))
theorem cd_169_246 : mt_cd 169 246 = some (.iadd) := mt_cd_of (q := (246, .iadd, 1)) mq_169 ci_169 (List.mem_append_right _ (List.mem_append_right _ ((show _ ∈ my_169_2 from List.mem_of_getElem? (i := 22) rfl))))
theorem cd_169_247 : mt_cd 169 247 = some (.iastore) := mt_cd_of (q := (247, .iastore, 1)) mq_169 ci_169 (List.mem_append_right _ (List.mem_append_right _ ((show _ ∈ my_169_2 from List.mem_of_getElem? (i := 23) rfl))))
theorem cd_169_248 : mt_cd 169 248 = some (.aload_n 0) := mt_cd_of (q := (248, .aload_n 0, 1)) mq_169 ci_169 (List.mem_append_right _ (List.mem_append_right _ ((show _ ∈ my_169_2 from List.mem_of_getElem? (i := 24) rfl))))
theorem cd_169_249 : mt_cd 169 249 = some (.invokevirtual 333) := mt_cd_of (q := (249, .invokevirtual 333, 3)) mq_169 ci_169 (List.mem_append_right _ (List.mem_append_right _ ((show _ ∈ my_169_2 from List.mem_of_getElem? (i := 25) rfl))))
theorem cd_169_252 : mt_cd 169 252 = some (.ifCond .ne 5) := mt_cd_of (q := (252, .ifCond .ne 5, 3)) mq_169 ci_169 (List.mem_append_right _ (List.mem_append_right _ ((show _ ∈ my_169_2 from List.mem_of_getElem? (i := 26) rfl))))
theorem cd_169_255 : mt_cd 169 255 = some (.iconst 0) := mt_cd_of (q := (255, .iconst 0, 1)) mq_169 ci_169 (List.mem_append_right _ (List.mem_append_right _ ((show _ ∈ my_169_2 from List.mem_of_getElem? (i := 27) rfl))))
theorem cd_169_256 : mt_cd 169 256 = some (.ireturn) := mt_cd_of (q := (256, .ireturn, 1)) mq_169 ci_169 (List.mem_append_right _ (List.mem_append_right _ ((show _ ∈ my_169_2 from List.mem_of_getElem? (i := 28) rfl))))
theorem cd_169_257 : mt_cd 169 257 = some (.aload_n 0) := mt_cd_of (q := (257, .aload_n 0, 1)) mq_169 ci_169 (List.mem_append_right _ (List.mem_append_right _ ((show _ ∈ my_169_2 from List.mem_of_getElem? (i := 29) rfl))))
theorem cd_169_258 : mt_cd 169 258 = some (.ldc_w 411) := mt_cd_of (q := (258, .ldc_w 411, 3)) mq_169 ci_169 (List.mem_append_right _ (List.mem_append_right _ ((show _ ∈ my_169_2 from List.mem_of_getElem? (i := 30) rfl))))
theorem cd_169_261 : mt_cd 169 261 = some (.invokevirtual 375) := mt_cd_of (q := (261, .invokevirtual 375, 3)) mq_169 ci_169 (List.mem_append_right _ (List.mem_append_right _ ((show _ ∈ my_169_2 from List.mem_of_getElem? (i := 31) rfl))))
theorem cd_169_264 : mt_cd 169 264 = some (.ifCond .eq (-113)) := mt_cd_of (q := (264, .ifCond .eq (-113), 3)) mq_169 ci_169 (List.mem_append_right _ (List.mem_append_right _ ((show _ ∈ my_169_2 from List.mem_of_getElem? (i := 32) rfl))))
theorem cd_169_267 : mt_cd 169 267 = some (.aload_n 0) := mt_cd_of (q := (267, .aload_n 0, 1)) mq_169 ci_169 (List.mem_append_right _ (List.mem_append_right _ ((show _ ∈ my_169_2 from List.mem_of_getElem? (i := 33) rfl))))
theorem cd_169_268 : mt_cd 169 268 = some (.invokevirtual 333) := mt_cd_of (q := (268, .invokevirtual 333, 3)) mq_169 ci_169 (List.mem_append_right _ (List.mem_append_right _ ((show _ ∈ my_169_2 from List.mem_of_getElem? (i := 34) rfl))))
theorem cd_169_271 : mt_cd 169 271 = some (.ireturn) := mt_cd_of (q := (271, .ireturn, 1)) mq_169 ci_169 (List.mem_append_right _ (List.mem_append_right _ ((show _ ∈ my_169_2 from List.mem_of_getElem? (i := 35) rfl))))
theorem b_169_0 {d : Nat} {Q : (Option Value ⊕ Nat) → mi_H → Prop} (n sl : Nat) (f : Nat → mi_C) {l1 : Nat} {l2 : Int32} {o3 : Option Value} {o4 : Option Value} {fs5 : List Value} {x8 : Nat} (m10 i10 : Nat) (g10 : Nat → Int32) (h6 : f l1 = .inr (12, fs5)) (h7 : l1 < n) (h9 : fs5[12]? = some (.ref x8)) (h11 : f x8 = .inl (0, m10, .inl g10)) (h12 : x8 < n ∨ x8 = mi_SC) (h13 : mi_ix l2 m10 i10) (h14 : ¬ (g10 i10) = 7 → mi_W d 169 73 [some (.ref l1), some (.int l2), o3, o4] [] (n, sl, f) Q) (h15 : ¬ (¬ (g10 i10) = 7) → mi_W d 169 11 [some (.ref l1), some (.int l2), o3, o4] [] (n, sl, f) Q) : mi_W d 169 0 [some (.ref l1), some (.int l2), o3, o4] [] (n, sl, f) Q := by
  refine w_aload_n cd_169_0 rfl ?_
  refine w_getfield cd_169_1 (show mt_f 12 77 = some (12, 12) by decide +kernel) h6 h7 h9 ?_
  refine w_iload_n cd_169_4 rfl ?_
  refine w_iaload cd_169_5 h11 h12 h13 ?_
  refine w_bipush (v := 7) cd_169_6 (by decide) ?_
  exact w_if_icmpne cd_169_8 (by decide) h14 h15
theorem b_169_11 {d : Nat} {Q : (Option Value ⊕ Nat) → mi_H → Prop} (n sl : Nat) (f : Nat → mi_C) {l1 : Nat} {l2 : Int32} {o3 : Option Value} {o4 : Option Value} {fs5 : List Value} {x8 : Nat} {fs10 : List Value} (h6 : f l1 = .inr (12, fs5)) (h7 : l1 < n) (h9 : fs5[13]? = some (.ref x8)) (h11 : f l1 = .inr (12, fs10)) (h12 : l1 < n) (h13 : mi_W d 159 0 (mi_en 2 [.ref l1]) [] (n, sl, f) (mi_Kc d 169 17 [some (.ref l1), some (.int l2), o3, o4] [.int l2, .ref x8] Q)) : mi_W (d + 1) 169 11 [some (.ref l1), some (.int l2), o3, o4] [] (n, sl, f) Q := by
  refine w_aload_n cd_169_11 rfl ?_
  refine w_getfield cd_169_12 (show mt_f 12 80 = some (12, 13) by decide +kernel) h6 h7 h9 ?_
  refine w_iload_n cd_169_15 rfl ?_
  refine w_aload_n cd_169_16 rfl ?_
  exact w_invokevirtual cd_169_17 (show mt_m 12 370 = some (159, 0) by decide +kernel) (rest := [.int l2, .ref x8]) rfl (as := [.ref l1]) rfl h11 (Or.inl h12) ⟨Nat.le_of_ble_eq_true rfl, Nat.le_of_ble_eq_true rfl, Nat.le_of_ble_eq_true rfl⟩ h13
theorem b_169_20 {d : Nat} {Q : (Option Value ⊕ Nat) → mi_H → Prop} (n sl : Nat) (f : Nat → mi_C) {l1 : Nat} {l2 : Int32} {o3 : Option Value} {o4 : Option Value} {s5 : Int32} {s6 : Int32} {s7 : Nat} (m8 i8 : Nat) (g8 : Nat → Int32) (h9 : f s7 = .inl (0, m8, .inl g8)) (h10 : s7 < n) (h11 : mi_ix s6 m8 i8) (h12 : s5 < (0 : Int32) → mi_W d 169 71 [some (.ref l1), some (.int l2), o3, o4] [] (n, sl, (va_up f s7 (.inl (0, m8, .inl (upd g8 i8 s5))))) Q) (h13 : ¬ (s5 < (0 : Int32)) → mi_W d 169 25 [some (.ref l1), some (.int l2), o3, o4] [] (n, sl, (va_up f s7 (.inl (0, m8, .inl (upd g8 i8 s5))))) Q) : mi_W d 169 20 [some (.ref l1), some (.int l2), o3, o4] [.int s5, .int s6, .ref s7] (n, sl, f) Q := by
  refine w_dup_x2_iir cd_169_20 ?_
  refine w_iastore cd_169_21 h9 h10 h11 ?_
  exact w_iflt cd_169_22 (by decide) h12 h13
theorem b_169_25 {d : Nat} {Q : (Option Value ⊕ Nat) → mi_H → Prop} (n sl : Nat) (f : Nat → mi_C) {l1 : Nat} {l2 : Int32} {o3 : Option Value} {o4 : Option Value} {fs5 : List Value} {x8 : Nat} {fs10 : List Value} (h6 : f l1 = .inr (12, fs5)) (h7 : l1 < n) (h9 : fs5[14]? = some (.ref x8)) (h11 : f l1 = .inr (12, fs10)) (h12 : l1 < n) (h13 : mi_W d 159 0 (mi_en 2 [.ref l1]) [] (n, sl, f) (mi_Kc d 169 31 [some (.ref l1), some (.int l2), o3, o4] [.int l2, .ref x8] Q)) : mi_W (d + 1) 169 25 [some (.ref l1), some (.int l2), o3, o4] [] (n, sl, f) Q := by
  refine w_aload_n cd_169_25 rfl ?_
  refine w_getfield cd_169_26 (show mt_f 12 83 = some (12, 14) by decide +kernel) h6 h7 h9 ?_
  refine w_iload_n cd_169_29 rfl ?_
  refine w_aload_n cd_169_30 rfl ?_
  exact w_invokevirtual cd_169_31 (show mt_m 12 370 = some (159, 0) by decide +kernel) (rest := [.int l2, .ref x8]) rfl (as := [.ref l1]) rfl h11 (Or.inl h12) ⟨Nat.le_of_ble_eq_true rfl, Nat.le_of_ble_eq_true rfl, Nat.le_of_ble_eq_true rfl⟩ h13
theorem b_169_34 {d : Nat} {Q : (Option Value ⊕ Nat) → mi_H → Prop} (n sl : Nat) (f : Nat → mi_C) {l1 : Nat} {l2 : Int32} {o3 : Option Value} {o4 : Option Value} {s5 : Int32} {s6 : Int32} {s7 : Nat} (m8 i8 : Nat) (g8 : Nat → Int32) (h9 : f s7 = .inl (0, m8, .inl g8)) (h10 : s7 < n) (h11 : mi_ix s6 m8 i8) (h12 : s5 < (0 : Int32) → mi_W d 169 71 [some (.ref l1), some (.int l2), o3, o4] [] (n, sl, (va_up f s7 (.inl (0, m8, .inl (upd g8 i8 s5))))) Q) (h13 : ¬ (s5 < (0 : Int32)) → mi_W d 169 39 [some (.ref l1), some (.int l2), o3, o4] [] (n, sl, (va_up f s7 (.inl (0, m8, .inl (upd g8 i8 s5))))) Q) : mi_W d 169 34 [some (.ref l1), some (.int l2), o3, o4] [.int s5, .int s6, .ref s7] (n, sl, f) Q := by
  refine w_dup_x2_iir cd_169_34 ?_
  refine w_iastore cd_169_35 h9 h10 h11 ?_
  exact w_iflt cd_169_36 (by decide) h12 h13
theorem b_169_39 {d : Nat} {Q : (Option Value ⊕ Nat) → mi_H → Prop} (n sl : Nat) (f : Nat → mi_C) {l1 : Nat} {l2 : Int32} {o3 : Option Value} {o4 : Option Value} {fs5 : List Value} {x8 : Nat} {fs10 : List Value} (h6 : f l1 = .inr (12, fs5)) (h7 : l1 < n) (h9 : fs5[15]? = some (.ref x8)) (h11 : f l1 = .inr (12, fs10)) (h12 : l1 < n) (h13 : mi_W d 162 0 (mi_en 2 [.ref l1]) [] (n, sl, f) (mi_Kc d 169 45 [some (.ref l1), some (.int l2), o3, o4] [.int l2, .ref x8] Q)) : mi_W (d + 1) 169 39 [some (.ref l1), some (.int l2), o3, o4] [] (n, sl, f) Q := by
  refine w_aload_n cd_169_39 rfl ?_
  refine w_getfield cd_169_40 (show mt_f 12 86 = some (12, 15) by decide +kernel) h6 h7 h9 ?_
  refine w_iload_n cd_169_43 rfl ?_
  refine w_aload_n cd_169_44 rfl ?_
  exact w_invokevirtual cd_169_45 (show mt_m 12 396 = some (162, 0) by decide +kernel) (rest := [.int l2, .ref x8]) rfl (as := [.ref l1]) rfl h11 (Or.inl h12) ⟨Nat.le_of_ble_eq_true rfl, Nat.le_of_ble_eq_true rfl, Nat.le_of_ble_eq_true rfl⟩ h13
theorem b_169_48 {d : Nat} {Q : (Option Value ⊕ Nat) → mi_H → Prop} (n sl : Nat) (f : Nat → mi_C) {l1 : Nat} {l2 : Int32} {o3 : Option Value} {o4 : Option Value} {s5 : Int32} {s6 : Int32} {s7 : Nat} (m8 i8 : Nat) (g8 : Nat → Int32) (h9 : f s7 = .inl (0, m8, .inl g8)) (h10 : s7 < n) (h11 : mi_ix s6 m8 i8) (h12 : s5 < (0 : Int32) → mi_W d 169 71 [some (.ref l1), some (.int l2), o3, o4] [] (n, sl, (va_up f s7 (.inl (0, m8, .inl (upd g8 i8 s5))))) Q) (h13 : ¬ (s5 < (0 : Int32)) → mi_W d 169 53 [some (.ref l1), some (.int l2), o3, o4] [] (n, sl, (va_up f s7 (.inl (0, m8, .inl (upd g8 i8 s5))))) Q) : mi_W d 169 48 [some (.ref l1), some (.int l2), o3, o4] [.int s5, .int s6, .ref s7] (n, sl, f) Q := by
  refine w_dup_x2_iir cd_169_48 ?_
  refine w_iastore cd_169_49 h9 h10 h11 ?_
  exact w_iflt cd_169_50 (by decide) h12 h13
theorem b_169_53 {d : Nat} {Q : (Option Value ⊕ Nat) → mi_H → Prop} (n sl : Nat) (f : Nat → mi_C) {l1 : Nat} {l2 : Int32} {o3 : Option Value} {o4 : Option Value} {fs5 : List Value} {x8 : Nat} {fs10 : List Value} (h6 : f l1 = .inr (12, fs5)) (h7 : l1 < n) (h9 : fs5[16]? = some (.ref x8)) (h11 : f l1 = .inr (12, fs10)) (h12 : l1 < n) (h13 : mi_W d 163 0 (mi_en 4 [.ref l1]) [] (n, sl, f) (mi_Kc d 169 59 [some (.ref l1), some (.int l2), o3, o4] [.int l2, .ref x8] Q)) : mi_W (d + 1) 169 53 [some (.ref l1), some (.int l2), o3, o4] [] (n, sl, f) Q := by
  refine w_aload_n cd_169_53 rfl ?_
  refine w_getfield cd_169_54 (show mt_f 12 89 = some (12, 16) by decide +kernel) h6 h7 h9 ?_
  refine w_iload_n cd_169_57 rfl ?_
  refine w_aload_n cd_169_58 rfl ?_
  exact w_invokevirtual cd_169_59 (show mt_m 12 399 = some (163, 0) by decide +kernel) (rest := [.int l2, .ref x8]) rfl (as := [.ref l1]) rfl h11 (Or.inl h12) ⟨Nat.le_of_ble_eq_true rfl, Nat.le_of_ble_eq_true rfl, Nat.le_of_ble_eq_true rfl⟩ h13
theorem b_169_62 {d : Nat} {Q : (Option Value ⊕ Nat) → mi_H → Prop} (n sl : Nat) (f : Nat → mi_C) {l1 : Nat} {l2 : Int32} {o3 : Option Value} {o4 : Option Value} {s5 : Int32} {s6 : Int32} {s7 : Nat} (m8 i8 : Nat) (g8 : Nat → Int32) (h9 : f s7 = .inl (0, m8, .inl g8)) (h10 : s7 < n) (h11 : mi_ix s6 m8 i8) (h12 : s5 < (0 : Int32) → mi_W d 169 71 [some (.ref l1), some (.int l2), o3, o4] [] (n, sl, (va_up f s7 (.inl (0, m8, .inl (upd g8 i8 s5))))) Q) (h13 : ¬ (s5 < (0 : Int32)) → mi_W d 169 67 [some (.ref l1), some (.int l2), o3, o4] [] (n, sl, (va_up f s7 (.inl (0, m8, .inl (upd g8 i8 s5))))) Q) : mi_W d 169 62 [some (.ref l1), some (.int l2), o3, o4] [.int s5, .int s6, .ref s7] (n, sl, f) Q := by
  refine w_dup_x2_iir cd_169_62 ?_
  refine w_iastore cd_169_63 h9 h10 h11 ?_
  exact w_iflt cd_169_64 (by decide) h12 h13
theorem b_169_67 {d : Nat} {Q : (Option Value ⊕ Nat) → mi_H → Prop} (n sl : Nat) (f : Nat → mi_C) {l1 : Nat} {l2 : Int32} {o3 : Option Value} {o4 : Option Value} (h5 : mi_W d 169 72 [some (.ref l1), some (.int l2), o3, o4] [.int 1] (n, sl, f) Q) : mi_W d 169 67 [some (.ref l1), some (.int l2), o3, o4] [] (n, sl, f) Q := by
  refine w_iconst (v := 1) cd_169_67 (by decide) ?_
  exact w_goto cd_169_68 (by decide) h5
theorem b_169_71 {d : Nat} {Q : (Option Value ⊕ Nat) → mi_H → Prop} (n sl : Nat) (f : Nat → mi_C) {l1 : Nat} {l2 : Int32} {o3 : Option Value} {o4 : Option Value} (h5 : mi_W d 169 72 [some (.ref l1), some (.int l2), o3, o4] [.int 0] (n, sl, f) Q) : mi_W d 169 71 [some (.ref l1), some (.int l2), o3, o4] [] (n, sl, f) Q := by
  refine w_iconst (v := 0) cd_169_71 (by decide) ?_
  exact h5
theorem b_169_72 {d : Nat} {Q : (Option Value ⊕ Nat) → mi_H → Prop} (n sl : Nat) (f : Nat → mi_C) {l1 : Nat} {l2 : Int32} {o3 : Option Value} {o4 : Option Value} {s5 : Int32} (h6 : s5 = 0 ∨ s5 = 1) (h7 : Q (.inl (some (.int s5))) (n, sl, f)) : mi_W d 169 72 [some (.ref l1), some (.int l2), o3, o4] [.int s5] (n, sl, f) Q := by
  exact w_ireturn_z cd_169_72 (by decide +kernel) h6 h7
theorem b_169_73 {d : Nat} {Q : (Option Value ⊕ Nat) → mi_H → Prop} (n sl : Nat) (f : Nat → mi_C) {l1 : Nat} {l2 : Int32} {o3 : Option Value} {o4 : Option Value} {fs5 : List Value} {x8 : Nat} (m10 i10 : Nat) (g10 : Nat → Int32) (h6 : f l1 = .inr (12, fs5)) (h7 : l1 < n) (h9 : fs5[12]? = some (.ref x8)) (h11 : f x8 = .inl (0, m10, .inl g10)) (h12 : x8 < n ∨ x8 = mi_SC) (h13 : mi_ix l2 m10 i10) (h14 : ¬ (g10 i10) = 9 → mi_W d 169 104 [some (.ref l1), some (.int l2), o3, o4] [] (n, sl, f) Q) (h15 : ¬ (¬ (g10 i10) = 9) → mi_W d 169 84 [some (.ref l1), some (.int l2), o3, o4] [] (n, sl, f) Q) : mi_W d 169 73 [some (.ref l1), some (.int l2), o3, o4] [] (n, sl, f) Q := by
  refine w_aload_n cd_169_73 rfl ?_
  refine w_getfield cd_169_74 (show mt_f 12 77 = some (12, 12) by decide +kernel) h6 h7 h9 ?_
  refine w_iload_n cd_169_77 rfl ?_
  refine w_iaload cd_169_78 h11 h12 h13 ?_
  refine w_bipush (v := 9) cd_169_79 (by decide) ?_
  exact w_if_icmpne cd_169_81 (by decide) h14 h15
theorem b_169_84 {d : Nat} {Q : (Option Value ⊕ Nat) → mi_H → Prop} (n sl : Nat) (f : Nat → mi_C) {l1 : Nat} {l2 : Int32} {o3 : Option Value} {o4 : Option Value} {fs5 : List Value} {x8 : Nat} {fs10 : List Value} (h6 : f l1 = .inr (12, fs5)) (h7 : l1 < n) (h9 : fs5[16]? = some (.ref x8)) (h11 : f l1 = .inr (12, fs10)) (h12 : l1 < n) (h13 : mi_W d 167 0 (mi_en 4 [.ref l1]) [] (n, sl, f) (mi_Kc d 169 90 [some (.ref l1), some (.int l2), o3, o4] [.int l2, .ref x8] Q)) : mi_W (d + 1) 169 84 [some (.ref l1), some (.int l2), o3, o4] [] (n, sl, f) Q := by
  refine w_aload_n cd_169_84 rfl ?_
  refine w_getfield cd_169_85 (show mt_f 12 89 = some (12, 16) by decide +kernel) h6 h7 h9 ?_
  refine w_iload_n cd_169_88 rfl ?_
  refine w_aload_n cd_169_89 rfl ?_
  exact w_invokevirtual cd_169_90 (show mt_m 12 401 = some (167, 0) by decide +kernel) (rest := [.int l2, .ref x8]) rfl (as := [.ref l1]) rfl h11 (Or.inl h12) ⟨Nat.le_of_ble_eq_true rfl, Nat.le_of_ble_eq_true rfl, Nat.le_of_ble_eq_true rfl⟩ h13
theorem b_169_93 {d : Nat} {Q : (Option Value ⊕ Nat) → mi_H → Prop} (n sl : Nat) (f : Nat → mi_C) {l1 : Nat} {l2 : Int32} {o3 : Option Value} {o4 : Option Value} {s5 : Int32} {s6 : Int32} {s7 : Nat} (m8 i8 : Nat) (g8 : Nat → Int32) (h9 : f s7 = .inl (0, m8, .inl g8)) (h10 : s7 < n) (h11 : mi_ix s6 m8 i8) (h12 : s5 < (0 : Int32) → mi_W d 169 102 [some (.ref l1), some (.int l2), o3, o4] [] (n, sl, (va_up f s7 (.inl (0, m8, .inl (upd g8 i8 s5))))) Q) (h13 : ¬ (s5 < (0 : Int32)) → mi_W d 169 98 [some (.ref l1), some (.int l2), o3, o4] [] (n, sl, (va_up f s7 (.inl (0, m8, .inl (upd g8 i8 s5))))) Q) : mi_W d 169 93 [some (.ref l1), some (.int l2), o3, o4] [.int s5, .int s6, .ref s7] (n, sl, f) Q := by
  refine w_dup_x2_iir cd_169_93 ?_
  refine w_iastore cd_169_94 h9 h10 h11 ?_
  exact w_iflt cd_169_95 (by decide) h12 h13
theorem b_169_98 {d : Nat} {Q : (Option Value ⊕ Nat) → mi_H → Prop} (n sl : Nat) (f : Nat → mi_C) {l1 : Nat} {l2 : Int32} {o3 : Option Value} {o4 : Option Value} (h5 : mi_W d 169 103 [some (.ref l1), some (.int l2), o3, o4] [.int 1] (n, sl, f) Q) : mi_W d 169 98 [some (.ref l1), some (.int l2), o3, o4] [] (n, sl, f) Q := by
  refine w_iconst (v := 1) cd_169_98 (by decide) ?_
  exact w_goto cd_169_99 (by decide) h5
theorem b_169_102 {d : Nat} {Q : (Option Value ⊕ Nat) → mi_H → Prop} (n sl : Nat) (f : Nat → mi_C) {l1 : Nat} {l2 : Int32} {o3 : Option Value} {o4 : Option Value} (h5 : mi_W d 169 103 [some (.ref l1), some (.int l2), o3, o4] [.int 0] (n, sl, f) Q) : mi_W d 169 102 [some (.ref l1), some (.int l2), o3, o4] [] (n, sl, f) Q := by
  refine w_iconst (v := 0) cd_169_102 (by decide) ?_
  exact h5
theorem b_169_103 {d : Nat} {Q : (Option Value ⊕ Nat) → mi_H → Prop} (n sl : Nat) (f : Nat → mi_C) {l1 : Nat} {l2 : Int32} {o3 : Option Value} {o4 : Option Value} {s5 : Int32} (h6 : s5 = 0 ∨ s5 = 1) (h7 : Q (.inl (some (.int s5))) (n, sl, f)) : mi_W d 169 103 [some (.ref l1), some (.int l2), o3, o4] [.int s5] (n, sl, f) Q := by
  exact w_ireturn_z cd_169_103 (by decide +kernel) h6 h7
theorem b_169_104 {d : Nat} {Q : (Option Value ⊕ Nat) → mi_H → Prop} (n sl : Nat) (f : Nat → mi_C) {l1 : Nat} {l2 : Int32} {o3 : Option Value} {o4 : Option Value} {fs5 : List Value} {x8 : Nat} {fs10 : List Value} (h6 : f l1 = .inr (12, fs5)) (h7 : l1 < n) (h9 : fs5[13]? = some (.ref x8)) (h11 : f l1 = .inr (12, fs10)) (h12 : l1 < n) (h13 : mi_W d 164 0 (mi_en 5 [.ref l1]) [] (n, sl, f) (mi_Kc d 169 110 [some (.ref l1), some (.int l2), o3, o4] [.int l2, .ref x8] Q)) : mi_W (d + 1) 169 104 [some (.ref l1), some (.int l2), o3, o4] [] (n, sl, f) Q := by
  refine w_aload_n cd_169_104 rfl ?_
  refine w_getfield cd_169_105 (show mt_f 12 80 = some (12, 13) by decide +kernel) h6 h7 h9 ?_
  refine w_iload_n cd_169_108 rfl ?_
  refine w_aload_n cd_169_109 rfl ?_
  exact w_invokevirtual cd_169_110 (show mt_m 12 416 = some (164, 0) by decide +kernel) (rest := [.int l2, .ref x8]) rfl (as := [.ref l1]) rfl h11 (Or.inl h12) ⟨Nat.le_of_ble_eq_true rfl, Nat.le_of_ble_eq_true rfl, Nat.le_of_ble_eq_true rfl⟩ h13
theorem b_169_113 {d : Nat} {Q : (Option Value ⊕ Nat) → mi_H → Prop} (n sl : Nat) (f : Nat → mi_C) {l1 : Nat} {l2 : Int32} {o3 : Option Value} {o4 : Option Value} {s5 : Int32} {s6 : Int32} {s7 : Nat} (m8 i8 : Nat) (g8 : Nat → Int32) (h9 : f s7 = .inl (0, m8, .inl g8)) (h10 : s7 < n) (h11 : mi_ix s6 m8 i8) (h12 : s5 < (0 : Int32) → mi_W d 169 132 [some (.ref l1), some (.int l2), o3, o4] [] (n, sl, (va_up f s7 (.inl (0, m8, .inl (upd g8 i8 s5))))) Q) (h13 : ¬ (s5 < (0 : Int32)) → mi_W d 169 118 [some (.ref l1), some (.int l2), o3, o4] [] (n, sl, (va_up f s7 (.inl (0, m8, .inl (upd g8 i8 s5))))) Q) : mi_W d 169 113 [some (.ref l1), some (.int l2), o3, o4] [.int s5, .int s6, .ref s7] (n, sl, f) Q := by
  refine w_dup_x2_iir cd_169_113 ?_
  refine w_iastore cd_169_114 h9 h10 h11 ?_
  exact w_iflt cd_169_115 (by decide) h12 h13
theorem b_169_118 {d : Nat} {Q : (Option Value ⊕ Nat) → mi_H → Prop} (n sl : Nat) (f : Nat → mi_C) {l1 : Nat} {l2 : Int32} {o3 : Option Value} {o4 : Option Value} {fs5 : List Value} (h6 : f l1 = .inr (12, fs5)) (h7 : l1 < n) (h8 : mi_W d 153 0 (mi_en 2 [.ref l1, .ref (mi_SC + 1 + 2 * 51)]) [] (n, sl, f) (mi_Kc d 169 123 [some (.ref l1), some (.int l2), o3, o4] [.ref l1] Q)) : mi_W (d + 1) 169 118 [some (.ref l1), some (.int l2), o3, o4] [] (n, sl, f) Q := by
  refine w_aload_n cd_169_118 rfl ?_
  refine w_aload_n cd_169_119 rfl ?_
  refine w_ldc_w (n := 51) cd_169_120 (by decide +kernel) ?_
  exact w_invokevirtual cd_169_123 (show mt_m 12 375 = some (153, 0) by decide +kernel) (rest := [.ref l1]) rfl (as := [.ref l1, .ref (mi_SC + 1 + 2 * 51)]) rfl h6 (Or.inl h7) ⟨Nat.le_of_ble_eq_true rfl, Nat.le_of_ble_eq_true rfl, Nat.le_of_ble_eq_true rfl⟩ h8
theorem b_169_126 {d : Nat} {Q : (Option Value ⊕ Nat) → mi_H → Prop} (n sl : Nat) (f : Nat → mi_C) {l1 : Nat} {l2 : Int32} {o3 : Option Value} {o4 : Option Value} {s5 : Int32} {s6 : Nat} {fs7 : List Value} (h8 : f s6 = .inr (12, fs7)) (h9 : s6 < n) (h10 : mi_W d 155 0 (mi_en 2 [.ref s6, .int s5]) [] (n, sl, f) (mi_Kc d 169 126 [some (.ref l1), some (.int l2), o3, o4] [] Q)) : mi_W (d + 1) 169 126 [some (.ref l1), some (.int l2), o3, o4] [.int s5, .ref s6] (n, sl, f) Q := by
  exact w_invokevirtual cd_169_126 (show mt_m 12 383 = some (155, 0) by decide +kernel) (rest := []) rfl (as := [.ref s6, .int s5]) rfl h8 (Or.inl h9) ⟨Nat.le_of_ble_eq_true rfl, Nat.le_of_ble_eq_true rfl, Nat.le_of_ble_eq_true rfl⟩ h10
theorem b_169_129 {d : Nat} {Q : (Option Value ⊕ Nat) → mi_H → Prop} (n sl : Nat) (f : Nat → mi_C) {l1 : Nat} {l2 : Int32} {o3 : Option Value} {o4 : Option Value} {s5 : Int32} (h6 : ¬ s5 = (0 : Int32) → mi_W d 169 134 [some (.ref l1), some (.int l2), o3, o4] [] (n, sl, f) Q) (h7 : ¬ (¬ s5 = (0 : Int32)) → mi_W d 169 132 [some (.ref l1), some (.int l2), o3, o4] [] (n, sl, f) Q) : mi_W d 169 129 [some (.ref l1), some (.int l2), o3, o4] [.int s5] (n, sl, f) Q := by
  exact w_ifne cd_169_129 (by decide) h6 h7
theorem b_169_132 {d : Nat} {Q : (Option Value ⊕ Nat) → mi_H → Prop} (n sl : Nat) (f : Nat → mi_C) {l1 : Nat} {l2 : Int32} {o3 : Option Value} {o4 : Option Value} (h5 : Q (.inl (some (.int 0))) (n, sl, f)) : mi_W d 169 132 [some (.ref l1), some (.int l2), o3, o4] [] (n, sl, f) Q := by
  refine w_iconst (v := 0) cd_169_132 (by decide) ?_
  exact w_ireturn_z cd_169_133 (by decide +kernel) (by decide) h5
theorem b_169_134 {d : Nat} {Q : (Option Value ⊕ Nat) → mi_H → Prop} (n sl : Nat) (f : Nat → mi_C) {l1 : Nat} {l2 : Int32} {o3 : Option Value} {o4 : Option Value} {fs5 : List Value} {x8 : Nat} {fs10 : List Value} {x13 : Int32} (m15 i15 : Nat) (g15 : Nat → Int32) {fs19 : List Value} {x22 : Nat} (m24 i24 : Nat) (g24 : Nat → Int32) (h6 : f l1 = .inr (12, fs5)) (h7 : l1 < n) (h9 : fs5[40]? = some (.ref x8)) (h11 : f l1 = .inr (12, fs10)) (h12 : l1 < n) (h14 : fs10[23]? = some (.int x13)) (h16 : f x8 = .inl (0, m15, .inl g15)) (h17 : x8 < n) (h18 : mi_ix l2 m15 i15) (h20 : (va_up f x8 (.inl (0, m15, .inl (upd g15 i15 x13)))) l1 = .inr (12, fs19)) (h21 : l1 < n) (h23 : fs19[18]? = some (.ref x22)) (h25 : (va_up f x8 (.inl (0, m15, .inl (upd g15 i15 x13)))) x22 = .inl (0, m24, .inl g24)) (h26 : x22 < n) (h27 : mi_ix l2 m24 i24) (h28 : mi_W d 169 151 [some (.ref l1), some (.int l2), o3, o4] [] (n, sl, (va_up (va_up f x8 (.inl (0, m15, .inl (upd g15 i15 x13)))) x22 (.inl (0, m24, .inl (upd g24 i24 0))))) Q) : mi_W d 169 134 [some (.ref l1), some (.int l2), o3, o4] [] (n, sl, f) Q := by
  refine w_aload_n cd_169_134 rfl ?_
  refine w_getfield cd_169_135 (show mt_f 12 141 = some (12, 40) by decide +kernel) h6 h7 h9 ?_
  refine w_iload_n cd_169_138 rfl ?_
  refine w_aload_n cd_169_139 rfl ?_
  refine w_getfield cd_169_140 (show mt_f 12 340 = some (12, 23) by decide +kernel) h11 h12 h14 ?_
  refine w_iastore cd_169_143 h16 h17 h18 ?_
  refine w_aload_n cd_169_144 rfl ?_
  refine w_getfield cd_169_145 (show mt_f 12 95 = some (12, 18) by decide +kernel) h20 h21 h23 ?_
  refine w_iload_n cd_169_148 rfl ?_
  refine w_iconst (v := 0) cd_169_149 (by decide) ?_
  refine w_iastore cd_169_150 h25 h26 h27 ?_
  exact h28
theorem b_169_151 {d : Nat} {Q : (Option Value ⊕ Nat) → mi_H → Prop} (n sl : Nat) (f : Nat → mi_C) {l1 : Nat} {l2 : Int32} {o3 : Option Value} {o4 : Option Value} {fs5 : List Value} {x8 : Int32} (h6 : f l1 = .inr (12, fs5)) (h7 : l1 < n) (h9 : fs5[8]? = some (.int x8)) (h10 : x8 = 2 → mi_W d 169 168 [some (.ref l1), some (.int l2), o3, o4] [] (n, sl, f) Q) (h11 : ¬ (x8 = 2) → mi_W d 169 159 [some (.ref l1), some (.int l2), o3, o4] [] (n, sl, f) Q) : mi_W d 169 151 [some (.ref l1), some (.int l2), o3, o4] [] (n, sl, f) Q := by
  refine w_aload_n cd_169_151 rfl ?_
  refine w_getfield cd_169_152 (show mt_f 12 310 = some (12, 8) by decide +kernel) h6 h7 h9 ?_
  refine w_iconst (v := 2) cd_169_155 (by decide) ?_
  exact w_if_icmpeq cd_169_156 (by decide) h10 h11
theorem b_169_159 {d : Nat} {Q : (Option Value ⊕ Nat) → mi_H → Prop} (n sl : Nat) (f : Nat → mi_C) {l1 : Nat} {l2 : Int32} {o3 : Option Value} {o4 : Option Value} {fs5 : List Value} {x8 : Int32} {fs10 : List Value} (h6 : f l1 = .inr (12, fs5)) (h7 : l1 < n) (h9 : fs5[9]? = some (.int x8)) (h11 : f l1 = .inr (12, fs10)) (h12 : l1 < n) (h13 : mi_W d 143 0 (mi_en 2 [.ref l1, .int x8]) [] (n, sl, f) (mi_Kc d 169 164 [some (.ref l1), some (.int l2), o3, o4] [] Q)) : mi_W (d + 1) 169 159 [some (.ref l1), some (.int l2), o3, o4] [] (n, sl, f) Q := by
  refine w_aload_n cd_169_159 rfl ?_
  refine w_aload_n cd_169_160 rfl ?_
  refine w_getfield cd_169_161 (show mt_f 12 299 = some (12, 9) by decide +kernel) h6 h7 h9 ?_
  exact w_invokevirtual cd_169_164 (show mt_m 12 272 = some (143, 0) by decide +kernel) (rest := []) rfl (as := [.ref l1, .int x8]) rfl h11 (Or.inl h12) ⟨Nat.le_of_ble_eq_true rfl, Nat.le_of_ble_eq_true rfl, Nat.le_of_ble_eq_true rfl⟩ h13
theorem b_169_167 {d : Nat} {Q : (Option Value ⊕ Nat) → mi_H → Prop} (n sl : Nat) (f : Nat → mi_C) {l1 : Nat} {l2 : Int32} {o3 : Option Value} {o4 : Option Value} {s5 : Int32} (h6 : s5 = 0 ∨ s5 = 1) (h7 : Q (.inl (some (.int s5))) (n, sl, f)) : mi_W d 169 167 [some (.ref l1), some (.int l2), o3, o4] [.int s5] (n, sl, f) Q := by
  exact w_ireturn_z cd_169_167 (by decide +kernel) h6 h7
theorem b_169_168 {d : Nat} {Q : (Option Value ⊕ Nat) → mi_H → Prop} (n sl : Nat) (f : Nat → mi_C) {l1 : Nat} {l2 : Int32} {o3 : Option Value} {o4 : Option Value} {fs5 : List Value} {x8 : Int64} {fs10 : List Value} (h6 : f l1 = .inr (12, fs5)) (h7 : l1 < n) (h9 : fs5[11]? = some (.long x8)) (h11 : f l1 = .inr (12, fs10)) (h12 : l1 < n) (h13 : mi_W d 145 0 (mi_en 4 [.ref l1]) [] (n, sl, f) (mi_Kc d 169 174 [some (.ref l1), some (.int l2), some (.long x8), none] [] Q)) : mi_W (d + 1) 169 168 [some (.ref l1), some (.int l2), o3, o4] [] (n, sl, f) Q := by
  refine w_aload_n cd_169_168 rfl ?_
  refine w_getfield cd_169_169 (show mt_f 12 327 = some (12, 11) by decide +kernel) h6 h7 h9 ?_
  refine w_lstore_n (ls' := [some (.ref l1), some (.int l2), some (.long x8), none]) cd_169_172 (Nat.le_of_ble_eq_true rfl) rfl ?_
  refine w_aload_n cd_169_173 rfl ?_
  exact w_invokevirtual cd_169_174 (show mt_m 12 333 = some (145, 0) by decide +kernel) (rest := []) rfl (as := [.ref l1]) rfl h11 (Or.inl h12) ⟨Nat.le_of_ble_eq_true rfl, Nat.le_of_ble_eq_true rfl, Nat.le_of_ble_eq_true rfl⟩ h13
theorem b_169_177 {d : Nat} {Q : (Option Value ⊕ Nat) → mi_H → Prop} (n sl : Nat) (f : Nat → mi_C) {l1 : Nat} {l2 : Int32} {l3 : Int64} {s4 : Int32} (h5 : ¬ s4 = (0 : Int32) → mi_W d 169 182 [some (.ref l1), some (.int l2), some (.long l3), none] [] (n, sl, f) Q) (h6 : ¬ (¬ s4 = (0 : Int32)) → mi_W d 169 180 [some (.ref l1), some (.int l2), some (.long l3), none] [] (n, sl, f) Q) : mi_W d 169 177 [some (.ref l1), some (.int l2), some (.long l3), none] [.int s4] (n, sl, f) Q := by
  exact w_ifne cd_169_177 (by decide) h5 h6
theorem b_169_180 {d : Nat} {Q : (Option Value ⊕ Nat) → mi_H → Prop} (n sl : Nat) (f : Nat → mi_C) {l1 : Nat} {l2 : Int32} {l3 : Int64} (h4 : Q (.inl (some (.int 0))) (n, sl, f)) : mi_W d 169 180 [some (.ref l1), some (.int l2), some (.long l3), none] [] (n, sl, f) Q := by
  refine w_iconst (v := 0) cd_169_180 (by decide) ?_
  exact w_ireturn_z cd_169_181 (by decide +kernel) (by decide) h4
theorem b_169_182 {d : Nat} {Q : (Option Value ⊕ Nat) → mi_H → Prop} (n sl : Nat) (f : Nat → mi_C) {l1 : Nat} {l2 : Int32} {l3 : Int64} {fs4 : List Value} {x7 : Int32} (h5 : f l1 = .inr (12, fs4)) (h6 : l1 < n) (h8 : fs4[8]? = some (.int x7)) (h9 : ¬ x7 = 2 → mi_W d 169 199 [some (.ref l1), some (.int l2), some (.long l3), none] [] (n, sl, f) Q) (h10 : ¬ (¬ x7 = 2) → mi_W d 169 190 [some (.ref l1), some (.int l2), some (.long l3), none] [] (n, sl, f) Q) : mi_W d 169 182 [some (.ref l1), some (.int l2), some (.long l3), none] [] (n, sl, f) Q := by
  refine w_aload_n cd_169_182 rfl ?_
  refine w_getfield cd_169_183 (show mt_f 12 310 = some (12, 8) by decide +kernel) h5 h6 h8 ?_
  refine w_iconst (v := 2) cd_169_186 (by decide) ?_
  exact w_if_icmpne cd_169_187 (by decide) h9 h10
theorem b_169_190 {d : Nat} {Q : (Option Value ⊕ Nat) → mi_H → Prop} (n sl : Nat) (f : Nat → mi_C) {l1 : Nat} {l2 : Int32} {l3 : Int64} {fs4 : List Value} {x7 : Int64} (h5 : f l1 = .inr (12, fs4)) (h6 : l1 < n) (h8 : fs4[11]? = some (.long x7)) (h9 : (0 : Int32) ≤ (lg_cmp x7 l3) → mi_W d 169 208 [some (.ref l1), some (.int l2), some (.long l3), none] [] (n, sl, f) Q) (h10 : ¬ ((0 : Int32) ≤ (lg_cmp x7 l3)) → mi_W d 169 199 [some (.ref l1), some (.int l2), some (.long l3), none] [] (n, sl, f) Q) : mi_W d 169 190 [some (.ref l1), some (.int l2), some (.long l3), none] [] (n, sl, f) Q := by
  refine w_aload_n cd_169_190 rfl ?_
  refine w_getfield cd_169_191 (show mt_f 12 327 = some (12, 11) by decide +kernel) h5 h6 h8 ?_
  refine w_lload_n cd_169_194 rfl ?_
  refine w_lcmp cd_169_195 ?_
  exact w_ifge cd_169_196 (by decide) h9 h10
theorem b_169_199 {d : Nat} {Q : (Option Value ⊕ Nat) → mi_H → Prop} (n sl : Nat) (f : Nat → mi_C) {l1 : Nat} {l2 : Int32} {l3 : Int64} {fs4 : List Value} {x7 : Int32} {fs9 : List Value} (h5 : f l1 = .inr (12, fs4)) (h6 : l1 < n) (h8 : fs4[9]? = some (.int x7)) (h10 : f l1 = .inr (12, fs9)) (h11 : l1 < n) (h12 : mi_W d 143 0 (mi_en 2 [.ref l1, .int x7]) [] (n, sl, f) (mi_Kc d 169 204 [some (.ref l1), some (.int l2), some (.long l3), none] [] Q)) : mi_W (d + 1) 169 199 [some (.ref l1), some (.int l2), some (.long l3), none] [] (n, sl, f) Q := by
  refine w_aload_n cd_169_199 rfl ?_
  refine w_aload_n cd_169_200 rfl ?_
  refine w_getfield cd_169_201 (show mt_f 12 299 = some (12, 9) by decide +kernel) h5 h6 h8 ?_
  exact w_invokevirtual cd_169_204 (show mt_m 12 272 = some (143, 0) by decide +kernel) (rest := []) rfl (as := [.ref l1, .int x7]) rfl h10 (Or.inl h11) ⟨Nat.le_of_ble_eq_true rfl, Nat.le_of_ble_eq_true rfl, Nat.le_of_ble_eq_true rfl⟩ h12
theorem b_169_207 {d : Nat} {Q : (Option Value ⊕ Nat) → mi_H → Prop} (n sl : Nat) (f : Nat → mi_C) {l1 : Nat} {l2 : Int32} {l3 : Int64} {s4 : Int32} (h5 : s4 = 0 ∨ s4 = 1) (h6 : Q (.inl (some (.int s4))) (n, sl, f)) : mi_W d 169 207 [some (.ref l1), some (.int l2), some (.long l3), none] [.int s4] (n, sl, f) Q := by
  exact w_ireturn_z cd_169_207 (by decide +kernel) h5 h6
theorem b_169_208 {d : Nat} {Q : (Option Value ⊕ Nat) → mi_H → Prop} (n sl : Nat) (f : Nat → mi_C) {l1 : Nat} {l2 : Int32} {l3 : Int64} {fs4 : List Value} {x7 : Nat} {fs9 : List Value} {x12 : Int32} (m14 i14 : Nat) (g14 : Nat → Int64) {fs18 : List Value} {x21 : Nat} {fs23 : List Value} {x26 : Int32} {fs28 : List Value} {fs32 : List Value} {x35 : Int64} (m37 i37 : Nat) (g37 : Nat → Int64) {fs41 : List Value} {x44 : Nat} (m46 i46 : Nat) (g46 : Nat → Int32) (m50 i50 : Nat) (g50 : Nat → Int32) {fs54 : List Value} (h5 : f l1 = .inr (12, fs4)) (h6 : l1 < n) (h8 : fs4[28]? = some (.ref x7)) (h10 : f l1 = .inr (12, fs9)) (h11 : l1 < n) (h13 : fs9[23]? = some (.int x12)) (h15 : f x7 = .inl (3, m14, .inr (.inl g14))) (h16 : x7 < n) (h17 : mi_ix x12 m14 i14) (h19 : (va_up f x7 (.inl (3, m14, .inr (.inl (vp_updL g14 i14 l3))))) l1 = .inr (12, fs18)) (h20 : l1 < n) (h22 : fs18[29]? = some (.ref x21)) (h24 : (va_up f x7 (.inl (3, m14, .inr (.inl (vp_updL g14 i14 l3))))) l1 = .inr (12, fs23)) (h25 : l1 < n) (h27 : fs23[23]? = some (.int x26)) (h29 : (va_up f x7 (.inl (3, m14, .inr (.inl (vp_updL g14 i14 l3))))) l1 = .inr (12, fs28)) (h30 : l1 < n) (h31 : 23 < fs28.length) (h33 : (va_up (va_up f x7 (.inl (3, m14, .inr (.inl (vp_updL g14 i14 l3))))) l1 (.inr (12, fs28.set 23 (.int (x26 + 1))))) l1 = .inr (12, fs32)) (h34 : l1 < n) (h36 : fs32[11]? = some (.long x35)) (h38 : (va_up (va_up f x7 (.inl (3, m14, .inr (.inl (vp_updL g14 i14 l3))))) l1 (.inr (12, fs28.set 23 (.int (x26 + 1))))) x21 = .inl (3, m37, .inr (.inl g37))) (h39 : x21 < n) (h40 : mi_ix x26 m37 i37) (h42 : (va_up (va_up (va_up f x7 (.inl (3, m14, .inr (.inl (vp_updL g14 i14 l3))))) l1 (.inr (12, fs28.set 23 (.int (x26 + 1))))) x21 (.inl (3, m37, .inr (.inl (vp_updL g37 i37 x35))))) l1 = .inr (12, fs41)) (h43 : l1 < n) (h45 : fs41[18]? = some (.ref x44)) (h47 : (va_up (va_up (va_up f x7 (.inl (3, m14, .inr (.inl (vp_updL g14 i14 l3))))) l1 (.inr (12, fs28.set 23 (.int (x26 + 1))))) x21 (.inl (3, m37, .inr (.inl (vp_updL g37 i37 x35))))) x44 = .inl (0, m46, .inl g46)) (h48 : x44 < n ∨ x44 = mi_SC) (h49 : mi_ix l2 m46 i46) (h51 : (va_up (va_up (va_up f x7 (.inl (3, m14, .inr (.inl (vp_updL g14 i14 l3))))) l1 (.inr (12, fs28.set 23 (.int (x26 + 1))))) x21 (.inl (3, m37, .inr (.inl (vp_updL g37 i37 x35))))) x44 = .inl (0, m50, .inl g50)) (h52 : x44 < n) (h53 : mi_ix l2 m50 i50) (h55 : (va_up (va_up (va_up (va_up f x7 (.inl (3, m14, .inr (.inl (vp_updL g14 i14 l3))))) l1 (.inr (12, fs28.set 23 (.int (x26 + 1))))) x21 (.inl (3, m37, .inr (.inl (vp_updL g37 i37 x35))))) x44 (.inl (0, m50, .inl (upd g50 i50 ((g46 i46) + 1))))) l1 = .inr (12, fs54)) (h56 : l1 < n) (h57 : mi_W d 145 0 (mi_en 4 [.ref l1]) [] (n, sl, (va_up (va_up (va_up (va_up f x7 (.inl (3, m14, .inr (.inl (vp_updL g14 i14 l3))))) l1 (.inr (12, fs28.set 23 (.int (x26 + 1))))) x21 (.inl (3, m37, .inr (.inl (vp_updL g37 i37 x35))))) x44 (.inl (0, m50, .inl (upd g50 i50 ((g46 i46) + 1)))))) (mi_Kc d 169 249 [some (.ref l1), some (.int l2), some (.long l3), none] [] Q)) : mi_W (d + 1) 169 208 [some (.ref l1), some (.int l2), some (.long l3), none] [] (n, sl, f) Q := by
  refine w_aload_n cd_169_208 rfl ?_
  refine w_getfield cd_169_209 (show mt_f 12 105 = some (12, 28) by decide +kernel) h5 h6 h8 ?_
  refine w_aload_n cd_169_212 rfl ?_
  refine w_getfield cd_169_213 (show mt_f 12 340 = some (12, 23) by decide +kernel) h10 h11 h13 ?_
  refine w_lload_n cd_169_216 rfl ?_
  refine w_lastore cd_169_217 h15 h16 h17 ?_
  refine w_aload_n cd_169_218 rfl ?_
  refine w_getfield cd_169_219 (show mt_f 12 108 = some (12, 29) by decide +kernel) h19 h20 h22 ?_
  refine w_aload_n cd_169_222 rfl ?_
  refine w_dup_r cd_169_223 ?_
  refine w_getfield cd_169_224 (show mt_f 12 340 = some (12, 23) by decide +kernel) h24 h25 h27 ?_
  refine w_dup_x1_ir cd_169_227 ?_
  refine w_iconst (v := 1) cd_169_228 (by decide) ?_
  refine w_iadd cd_169_229 ?_
  refine w_putfield (w := .int (x26 + 1)) cd_169_230 (show mt_f 12 340 = some (12, 23) by decide +kernel) h29 h30 ⟨h31, rfl, Or.inl (by decide)⟩ ?_
  refine w_aload_n cd_169_233 rfl ?_
  refine w_getfield cd_169_234 (show mt_f 12 327 = some (12, 11) by decide +kernel) h33 h34 h36 ?_
  refine w_lastore cd_169_237 h38 h39 h40 ?_
  refine w_aload_n cd_169_238 rfl ?_
  refine w_getfield cd_169_239 (show mt_f 12 95 = some (12, 18) by decide +kernel) h42 h43 h45 ?_
  refine w_iload_n cd_169_242 rfl ?_
  refine w_dup2_ir cd_169_243 ?_
  refine w_iaload cd_169_244 h47 h48 h49 ?_
  refine w_iconst (v := 1) cd_169_245 (by decide) ?_
  refine w_iadd cd_169_246 ?_
  refine w_iastore cd_169_247 h51 h52 h53 ?_
  refine w_aload_n cd_169_248 rfl ?_
  exact w_invokevirtual cd_169_249 (show mt_m 12 333 = some (145, 0) by decide +kernel) (rest := []) rfl (as := [.ref l1]) rfl h55 (Or.inl h56) ⟨Nat.le_of_ble_eq_true rfl, Nat.le_of_ble_eq_true rfl, Nat.le_of_ble_eq_true rfl⟩ h57
theorem b_169_252 {d : Nat} {Q : (Option Value ⊕ Nat) → mi_H → Prop} (n sl : Nat) (f : Nat → mi_C) {l1 : Nat} {l2 : Int32} {l3 : Int64} {s4 : Int32} (h5 : ¬ s4 = (0 : Int32) → mi_W d 169 257 [some (.ref l1), some (.int l2), some (.long l3), none] [] (n, sl, f) Q) (h6 : ¬ (¬ s4 = (0 : Int32)) → mi_W d 169 255 [some (.ref l1), some (.int l2), some (.long l3), none] [] (n, sl, f) Q) : mi_W d 169 252 [some (.ref l1), some (.int l2), some (.long l3), none] [.int s4] (n, sl, f) Q := by
  exact w_ifne cd_169_252 (by decide) h5 h6
theorem b_169_255 {d : Nat} {Q : (Option Value ⊕ Nat) → mi_H → Prop} (n sl : Nat) (f : Nat → mi_C) {l1 : Nat} {l2 : Int32} {l3 : Int64} (h4 : Q (.inl (some (.int 0))) (n, sl, f)) : mi_W d 169 255 [some (.ref l1), some (.int l2), some (.long l3), none] [] (n, sl, f) Q := by
  refine w_iconst (v := 0) cd_169_255 (by decide) ?_
  exact w_ireturn_z cd_169_256 (by decide +kernel) (by decide) h4
theorem b_169_257 {d : Nat} {Q : (Option Value ⊕ Nat) → mi_H → Prop} (n sl : Nat) (f : Nat → mi_C) {l1 : Nat} {l2 : Int32} {l3 : Int64} {fs4 : List Value} (h5 : f l1 = .inr (12, fs4)) (h6 : l1 < n) (h7 : mi_W d 153 0 (mi_en 2 [.ref l1, .ref (mi_SC + 1 + 2 * 52)]) [] (n, sl, f) (mi_Kc d 169 261 [some (.ref l1), some (.int l2), some (.long l3), none] [] Q)) : mi_W (d + 1) 169 257 [some (.ref l1), some (.int l2), some (.long l3), none] [] (n, sl, f) Q := by
  refine w_aload_n cd_169_257 rfl ?_
  refine w_ldc_w (n := 52) cd_169_258 (by decide +kernel) ?_
  exact w_invokevirtual cd_169_261 (show mt_m 12 375 = some (153, 0) by decide +kernel) (rest := []) rfl (as := [.ref l1, .ref (mi_SC + 1 + 2 * 52)]) rfl h5 (Or.inl h6) ⟨Nat.le_of_ble_eq_true rfl, Nat.le_of_ble_eq_true rfl, Nat.le_of_ble_eq_true rfl⟩ h7
theorem b_169_264 {d : Nat} {Q : (Option Value ⊕ Nat) → mi_H → Prop} (n sl : Nat) (f : Nat → mi_C) {l1 : Nat} {l2 : Int32} {l3 : Int64} {s4 : Int32} (h5 : s4 = (0 : Int32) → mi_W d 169 151 [some (.ref l1), some (.int l2), some (.long l3), none] [] (n, sl, f) Q) (h6 : ¬ (s4 = (0 : Int32)) → mi_W d 169 267 [some (.ref l1), some (.int l2), some (.long l3), none] [] (n, sl, f) Q) : mi_W d 169 264 [some (.ref l1), some (.int l2), some (.long l3), none] [.int s4] (n, sl, f) Q := by
  exact w_ifeq cd_169_264 (by decide) h5 h6
theorem b_169_267 {d : Nat} {Q : (Option Value ⊕ Nat) → mi_H → Prop} (n sl : Nat) (f : Nat → mi_C) {l1 : Nat} {l2 : Int32} {l3 : Int64} {fs4 : List Value} (h5 : f l1 = .inr (12, fs4)) (h6 : l1 < n) (h7 : mi_W d 145 0 (mi_en 4 [.ref l1]) [] (n, sl, f) (mi_Kc d 169 268 [some (.ref l1), some (.int l2), some (.long l3), none] [] Q)) : mi_W (d + 1) 169 267 [some (.ref l1), some (.int l2), some (.long l3), none] [] (n, sl, f) Q := by
  refine w_aload_n cd_169_267 rfl ?_
  exact w_invokevirtual cd_169_268 (show mt_m 12 333 = some (145, 0) by decide +kernel) (rest := []) rfl (as := [.ref l1]) rfl h5 (Or.inl h6) ⟨Nat.le_of_ble_eq_true rfl, Nat.le_of_ble_eq_true rfl, Nat.le_of_ble_eq_true rfl⟩ h7
theorem b_169_271 {d : Nat} {Q : (Option Value ⊕ Nat) → mi_H → Prop} (n sl : Nat) (f : Nat → mi_C) {l1 : Nat} {l2 : Int32} {l3 : Int64} {s4 : Int32} (h5 : s4 = 0 ∨ s4 = 1) (h6 : Q (.inl (some (.int s4))) (n, sl, f)) : mi_W d 169 271 [some (.ref l1), some (.int l2), some (.long l3), none] [.int s4] (n, sl, f) Q := by
  exact w_ireturn_z cd_169_271 (by decide +kernel) h5 h6
/-! MarloweHostModel$State.begin()V -/
set_option maxRecDepth 100000 in
theorem mq_170 : mt_q 170 = my_170 := rfl
set_option maxRecDepth 100000 in
theorem ci_170 : mt_inc 0 my_170.cd = true := by decide +kernel
theorem cd_170_0 : mt_cd 170 0 = some (.aload_n 0) := mt_cd_of (q := (0, .aload_n 0, 1)) mq_170 ci_170 (List.mem_of_getElem? (i := 0) rfl)
theorem cd_170_1 : mt_cd 170 1 = some (.iconst 0) := mt_cd_of (q := (1, .iconst 0, 1)) mq_170 ci_170 (List.mem_of_getElem? (i := 1) rfl)
theorem cd_170_2 : mt_cd 170 2 = some (.putfield 28) := mt_cd_of (q := (2, .putfield 28, 3)) mq_170 ci_170 (List.mem_of_getElem? (i := 2) rfl)
theorem cd_170_5 : mt_cd 170 5 = some (.aload_n 0) := mt_cd_of (q := (5, .aload_n 0, 1)) mq_170 ci_170 (List.mem_of_getElem? (i := 3) rfl)
theorem cd_170_6 : mt_cd 170 6 = some (.lconst 0) := mt_cd_of (q := (6, .lconst 0, 1)) mq_170 ci_170 (List.mem_of_getElem? (i := 4) rfl)
theorem cd_170_7 : mt_cd 170 7 = some (.putfield 32) := mt_cd_of (q := (7, .putfield 32, 3)) mq_170 ci_170 (List.mem_of_getElem? (i := 5) rfl)
theorem cd_170_10 : mt_cd 170 10 = some (.iconst 0) := mt_cd_of (q := (10, .iconst 0, 1)) mq_170 ci_170 (List.mem_of_getElem? (i := 6) rfl)
theorem cd_170_11 : mt_cd 170 11 = some (.istore_n 1) := mt_cd_of (q := (11, .istore_n 1, 1)) mq_170 ci_170 (List.mem_of_getElem? (i := 7) rfl)
theorem cd_170_12 : mt_cd 170 12 = some (.iload_n 1) := mt_cd_of (q := (12, .iload_n 1, 1)) mq_170 ci_170 (List.mem_of_getElem? (i := 8) rfl)
theorem cd_170_13 : mt_cd 170 13 = some (.bipush 32) := mt_cd_of (q := (13, .bipush 32, 2)) mq_170 ci_170 (List.mem_of_getElem? (i := 9) rfl)
theorem cd_170_15 : mt_cd 170 15 = some (.if_icmp .ge 16) := mt_cd_of (q := (15, .if_icmp .ge 16, 3)) mq_170 ci_170 (List.mem_of_getElem? (i := 10) rfl)
theorem cd_170_18 : mt_cd 170 18 = some (.aload_n 0) := mt_cd_of (q := (18, .aload_n 0, 1)) mq_170 ci_170 (List.mem_of_getElem? (i := 11) rfl)
theorem cd_170_19 : mt_cd 170 19 = some (.getfield 9) := mt_cd_of (q := (19, .getfield 9, 3)) mq_170 ci_170 (List.mem_of_getElem? (i := 12) rfl)
theorem cd_170_22 : mt_cd 170 22 = some (.iload_n 1) := mt_cd_of (q := (22, .iload_n 1, 1)) mq_170 ci_170 (List.mem_of_getElem? (i := 13) rfl)
theorem cd_170_23 : mt_cd 170 23 = some (.lconst 0) := mt_cd_of (q := (23, .lconst 0, 1)) mq_170 ci_170 (List.mem_of_getElem? (i := 14) rfl)
theorem cd_170_24 : mt_cd 170 24 = some (.lastore) := mt_cd_of (q := (24, .lastore, 1)) mq_170 ci_170 (List.mem_of_getElem? (i := 15) rfl)
theorem cd_170_25 : mt_cd 170 25 = some (.iinc 1 1) := mt_cd_of (q := (25, .iinc 1 1, 3)) mq_170 ci_170 (List.mem_of_getElem? (i := 16) rfl)
theorem cd_170_28 : mt_cd 170 28 = some (.goto (-16)) := mt_cd_of (q := (28, .goto (-16), 3)) mq_170 ci_170 (List.mem_of_getElem? (i := 17) rfl)
theorem cd_170_31 : mt_cd 170 31 = some (.iconst 0) := mt_cd_of (q := (31, .iconst 0, 1)) mq_170 ci_170 (List.mem_of_getElem? (i := 18) rfl)
theorem cd_170_32 : mt_cd 170 32 = some (.istore_n 1) := mt_cd_of (q := (32, .istore_n 1, 1)) mq_170 ci_170 (List.mem_of_getElem? (i := 19) rfl)
theorem cd_170_33 : mt_cd 170 33 = some (.iload_n 1) := mt_cd_of (q := (33, .iload_n 1, 1)) mq_170 ci_170 (List.mem_of_getElem? (i := 20) rfl)
theorem cd_170_34 : mt_cd 170 34 = some (.bipush 8) := mt_cd_of (q := (34, .bipush 8, 2)) mq_170 ci_170 (List.mem_of_getElem? (i := 21) rfl)
theorem cd_170_36 : mt_cd 170 36 = some (.if_icmp .ge 37) := mt_cd_of (q := (36, .if_icmp .ge 37, 3)) mq_170 ci_170 (List.mem_of_getElem? (i := 22) rfl)
theorem cd_170_39 : mt_cd 170 39 = some (.aload_n 0) := mt_cd_of (q := (39, .aload_n 0, 1)) mq_170 ci_170 (List.mem_of_getElem? (i := 23) rfl)
theorem cd_170_40 : mt_cd 170 40 = some (.getfield 15) := mt_cd_of (q := (40, .getfield 15, 3)) mq_170 ci_170 (List.mem_of_getElem? (i := 24) rfl)
theorem cd_170_43 : mt_cd 170 43 = some (.iload_n 1) := mt_cd_of (q := (43, .iload_n 1, 1)) mq_170 ci_170 (List.mem_of_getElem? (i := 25) rfl)
theorem cd_170_44 : mt_cd 170 44 = some (.lconst 0) := mt_cd_of (q := (44, .lconst 0, 1)) mq_170 ci_170 (List.mem_of_getElem? (i := 26) rfl)
theorem cd_170_45 : mt_cd 170 45 = some (.lastore) := mt_cd_of (q := (45, .lastore, 1)) mq_170 ci_170 (List.mem_of_getElem? (i := 27) rfl)
theorem cd_170_46 : mt_cd 170 46 = some (.aload_n 0) := mt_cd_of (q := (46, .aload_n 0, 1)) mq_170 ci_170 (List.mem_of_getElem? (i := 28) rfl)
theorem cd_170_47 : mt_cd 170 47 = some (.getfield 18) := mt_cd_of (q := (47, .getfield 18, 3)) mq_170 ci_170 (List.mem_of_getElem? (i := 29) rfl)
theorem cd_170_50 : mt_cd 170 50 = some (.iload_n 1) := mt_cd_of (q := (50, .iload_n 1, 1)) mq_170 ci_170 (List.mem_of_getElem? (i := 30) rfl)
theorem cd_170_51 : mt_cd 170 51 = some (.lconst 0) := mt_cd_of (q := (51, .lconst 0, 1)) mq_170 ci_170 (List.mem_of_getElem? (i := 31) rfl)
theorem cd_170_52 : mt_cd 170 52 = some (.lastore) := mt_cd_of (q := (52, .lastore, 1)) mq_170 ci_170 (List.mem_of_getElem? (i := 32) rfl)
theorem cd_170_53 : mt_cd 170 53 = some (.aload_n 0) := mt_cd_of (q := (53, .aload_n 0, 1)) mq_170 ci_170 (List.mem_of_getElem? (i := 33) rfl)
theorem cd_170_54 : mt_cd 170 54 = some (.getfield 21) := mt_cd_of (q := (54, .getfield 21, 3)) mq_170 ci_170 (List.mem_of_getElem? (i := 34) rfl)
theorem cd_170_57 : mt_cd 170 57 = some (.iload_n 1) := mt_cd_of (q := (57, .iload_n 1, 1)) mq_170 ci_170 (List.mem_of_getElem? (i := 35) rfl)
theorem cd_170_58 : mt_cd 170 58 = some (.iconst 0) := mt_cd_of (q := (58, .iconst 0, 1)) mq_170 ci_170 (List.mem_of_getElem? (i := 36) rfl)
theorem cd_170_59 : mt_cd 170 59 = some (.bastore) := mt_cd_of (q := (59, .bastore, 1)) mq_170 ci_170 (List.mem_of_getElem? (i := 37) rfl)
theorem cd_170_60 : mt_cd 170 60 = some (.aload_n 0) := mt_cd_of (q := (60, .aload_n 0, 1)) mq_170 ci_170 (List.mem_of_getElem? (i := 38) rfl)
theorem cd_170_61 : mt_cd 170 61 = some (.getfield 25) := mt_cd_of (q := (61, .getfield 25, 3)) mq_170 ci_170 (List.mem_of_getElem? (i := 39) rfl)
theorem cd_170_64 : mt_cd 170 64 = some (.iload_n 1) := mt_cd_of (q := (64, .iload_n 1, 1)) mq_170 ci_170 (List.mem_of_getElem? (i := 40) rfl)
theorem cd_170_65 : mt_cd 170 65 = some (.iconst 0) := mt_cd_of (q := (65, .iconst 0, 1)) mq_170 ci_170 (List.mem_of_getElem? (i := 41) rfl)
theorem cd_170_66 : mt_cd 170 66 = some (.bastore) := mt_cd_of (q := (66, .bastore, 1)) mq_170 ci_170 (List.mem_of_getElem? (i := 42) rfl)
theorem cd_170_67 : mt_cd 170 67 = some (.iinc 1 1) := mt_cd_of (q := (67, .iinc 1 1, 3)) mq_170 ci_170 (List.mem_of_getElem? (i := 43) rfl)
theorem cd_170_70 : mt_cd 170 70 = some (.goto (-37)) := mt_cd_of (q := (70, .goto (-37), 3)) mq_170 ci_170 (List.mem_of_getElem? (i := 44) rfl)
theorem cd_170_73 : mt_cd 170 73 = some (.return_) := mt_cd_of (q := (73, .return_, 1)) mq_170 ci_170 (List.mem_of_getElem? (i := 45) rfl)
theorem b_170_0 {d : Nat} {Q : (Option Value ⊕ Nat) → mi_H → Prop} (n sl : Nat) (f : Nat → mi_C) {l1 : Nat} {o2 : Option Value} {fs3 : List Value} {fs7 : List Value} (h4 : f l1 = .inr (13, fs3)) (h5 : l1 < n) (h6 : 0 < fs3.length) (h8 : (va_up f l1 (.inr (13, fs3.set 0 (.int 0)))) l1 = .inr (13, fs7)) (h9 : l1 < n) (h10 : 1 < fs7.length) (h11 : mi_W d 170 12 [some (.ref l1), some (.int 0)] [] (n, sl, (va_up (va_up f l1 (.inr (13, fs3.set 0 (.int 0)))) l1 (.inr (13, fs7.set 1 (.long 0))))) Q) : mi_W d 170 0 [some (.ref l1), o2] [] (n, sl, f) Q := by
  refine w_aload_n cd_170_0 rfl ?_
  refine w_iconst (v := 0) cd_170_1 (by decide) ?_
  refine w_putfield (w := .int 0) cd_170_2 (show mt_f 13 28 = some (13, 0) by decide +kernel) h4 h5 ⟨h6, rfl, Or.inl (by decide)⟩ ?_
  refine w_aload_n cd_170_5 rfl ?_
  refine w_lconst (lv := 0) cd_170_6 (by decide) ?_
  refine w_putfield (w := .long 0) cd_170_7 (show mt_f 13 32 = some (13, 1) by decide +kernel) h8 h9 ⟨h10, rfl, Or.inl (by decide)⟩ ?_
  refine w_iconst (v := 0) cd_170_10 (by decide) ?_
  refine w_istore_n (ls' := [some (.ref l1), some (.int 0)]) cd_170_11 (Nat.le_of_ble_eq_true rfl) rfl ?_
  exact h11
theorem b_170_12 {d : Nat} {Q : (Option Value ⊕ Nat) → mi_H → Prop} (n sl : Nat) (f : Nat → mi_C) {l1 : Nat} {l2 : Int32} (h3 : 32 ≤ l2 → mi_W d 170 31 [some (.ref l1), some (.int l2)] [] (n, sl, f) Q) (h4 : ¬ (32 ≤ l2) → mi_W d 170 18 [some (.ref l1), some (.int l2)] [] (n, sl, f) Q) : mi_W d 170 12 [some (.ref l1), some (.int l2)] [] (n, sl, f) Q := by
  refine w_iload_n cd_170_12 rfl ?_
  refine w_bipush (v := 32) cd_170_13 (by decide) ?_
  exact w_if_icmpge cd_170_15 (by decide) h3 h4
theorem b_170_18 {d : Nat} {Q : (Option Value ⊕ Nat) → mi_H → Prop} (n sl : Nat) (f : Nat → mi_C) {l1 : Nat} {l2 : Int32} {fs3 : List Value} {x6 : Nat} (m8 i8 : Nat) (g8 : Nat → Int64) (h4 : f l1 = .inr (13, fs3)) (h5 : l1 < n) (h7 : fs3[2]? = some (.ref x6)) (h9 : f x6 = .inl (3, m8, .inr (.inl g8))) (h10 : x6 < n) (h11 : mi_ix l2 m8 i8) (h12 : mi_W d 170 12 [some (.ref l1), some (.int (l2 + 1))] [] (n, sl, (va_up f x6 (.inl (3, m8, .inr (.inl (vp_updL g8 i8 0)))))) Q) : mi_W d 170 18 [some (.ref l1), some (.int l2)] [] (n, sl, f) Q := by
  refine w_aload_n cd_170_18 rfl ?_
  refine w_getfield cd_170_19 (show mt_f 13 9 = some (13, 2) by decide +kernel) h4 h5 h7 ?_
  refine w_iload_n cd_170_22 rfl ?_
  refine w_lconst (lv := 0) cd_170_23 (by decide) ?_
  refine w_lastore cd_170_24 h9 h10 h11 ?_
  refine w_iinc (v := 1) (ls' := [some (.ref l1), some (.int (l2 + 1))]) cd_170_25 rfl (by decide) rfl ?_
  exact w_goto cd_170_28 (by decide) h12
theorem b_170_31 {d : Nat} {Q : (Option Value ⊕ Nat) → mi_H → Prop} (n sl : Nat) (f : Nat → mi_C) {l1 : Nat} {l2 : Int32} (h3 : mi_W d 170 33 [some (.ref l1), some (.int 0)] [] (n, sl, f) Q) : mi_W d 170 31 [some (.ref l1), some (.int l2)] [] (n, sl, f) Q := by
  refine w_iconst (v := 0) cd_170_31 (by decide) ?_
  refine w_istore_n (ls' := [some (.ref l1), some (.int 0)]) cd_170_32 (Nat.le_of_ble_eq_true rfl) rfl ?_
  exact h3
theorem b_170_33 {d : Nat} {Q : (Option Value ⊕ Nat) → mi_H → Prop} (n sl : Nat) (f : Nat → mi_C) {l1 : Nat} {l2 : Int32} (h3 : 8 ≤ l2 → mi_W d 170 73 [some (.ref l1), some (.int l2)] [] (n, sl, f) Q) (h4 : ¬ (8 ≤ l2) → mi_W d 170 39 [some (.ref l1), some (.int l2)] [] (n, sl, f) Q) : mi_W d 170 33 [some (.ref l1), some (.int l2)] [] (n, sl, f) Q := by
  refine w_iload_n cd_170_33 rfl ?_
  refine w_bipush (v := 8) cd_170_34 (by decide) ?_
  exact w_if_icmpge cd_170_36 (by decide) h3 h4
theorem b_170_39 {d : Nat} {Q : (Option Value ⊕ Nat) → mi_H → Prop} (n sl : Nat) (f : Nat → mi_C) {l1 : Nat} {l2 : Int32} {fs3 : List Value} {x6 : Nat} (m8 i8 : Nat) (g8 : Nat → Int64) {fs12 : List Value} {x15 : Nat} (m17 i17 : Nat) (g17 : Nat → Int64) {fs21 : List Value} {x24 : Nat} (m26 i26 : Nat) (g26 : Nat → Int32) {fs30 : List Value} {x33 : Nat} (m35 i35 : Nat) (g35 : Nat → Int32) (h4 : f l1 = .inr (13, fs3)) (h5 : l1 < n) (h7 : fs3[3]? = some (.ref x6)) (h9 : f x6 = .inl (3, m8, .inr (.inl g8))) (h10 : x6 < n) (h11 : mi_ix l2 m8 i8) (h13 : (va_up f x6 (.inl (3, m8, .inr (.inl (vp_updL g8 i8 0))))) l1 = .inr (13, fs12)) (h14 : l1 < n) (h16 : fs12[4]? = some (.ref x15)) (h18 : (va_up f x6 (.inl (3, m8, .inr (.inl (vp_updL g8 i8 0))))) x15 = .inl (3, m17, .inr (.inl g17))) (h19 : x15 < n) (h20 : mi_ix l2 m17 i17) (h22 : (va_up (va_up f x6 (.inl (3, m8, .inr (.inl (vp_updL g8 i8 0))))) x15 (.inl (3, m17, .inr (.inl (vp_updL g17 i17 0))))) l1 = .inr (13, fs21)) (h23 : l1 < n) (h25 : fs21[5]? = some (.ref x24)) (h27 : (va_up (va_up f x6 (.inl (3, m8, .inr (.inl (vp_updL g8 i8 0))))) x15 (.inl (3, m17, .inr (.inl (vp_updL g17 i17 0))))) x24 = .inl (2, m26, .inl g26)) (h28 : x24 < n) (h29 : mi_ix l2 m26 i26) (h31 : (va_up (va_up (va_up f x6 (.inl (3, m8, .inr (.inl (vp_updL g8 i8 0))))) x15 (.inl (3, m17, .inr (.inl (vp_updL g17 i17 0))))) x24 (.inl (2, m26, .inl (upd g26 i26 (vp_nar .boolean 0))))) l1 = .inr (13, fs30)) (h32 : l1 < n) (h34 : fs30[6]? = some (.ref x33)) (h36 : (va_up (va_up (va_up f x6 (.inl (3, m8, .inr (.inl (vp_updL g8 i8 0))))) x15 (.inl (3, m17, .inr (.inl (vp_updL g17 i17 0))))) x24 (.inl (2, m26, .inl (upd g26 i26 (vp_nar .boolean 0))))) x33 = .inl (2, m35, .inl g35)) (h37 : x33 < n) (h38 : mi_ix l2 m35 i35) (h39 : mi_W d 170 33 [some (.ref l1), some (.int (l2 + 1))] [] (n, sl, (va_up (va_up (va_up (va_up f x6 (.inl (3, m8, .inr (.inl (vp_updL g8 i8 0))))) x15 (.inl (3, m17, .inr (.inl (vp_updL g17 i17 0))))) x24 (.inl (2, m26, .inl (upd g26 i26 (vp_nar .boolean 0))))) x33 (.inl (2, m35, .inl (upd g35 i35 (vp_nar .boolean 0)))))) Q) : mi_W d 170 39 [some (.ref l1), some (.int l2)] [] (n, sl, f) Q := by
  refine w_aload_n cd_170_39 rfl ?_
  refine w_getfield cd_170_40 (show mt_f 13 15 = some (13, 3) by decide +kernel) h4 h5 h7 ?_
  refine w_iload_n cd_170_43 rfl ?_
  refine w_lconst (lv := 0) cd_170_44 (by decide) ?_
  refine w_lastore cd_170_45 h9 h10 h11 ?_
  refine w_aload_n cd_170_46 rfl ?_
  refine w_getfield cd_170_47 (show mt_f 13 18 = some (13, 4) by decide +kernel) h13 h14 h16 ?_
  refine w_iload_n cd_170_50 rfl ?_
  refine w_lconst (lv := 0) cd_170_51 (by decide) ?_
  refine w_lastore cd_170_52 h18 h19 h20 ?_
  refine w_aload_n cd_170_53 rfl ?_
  refine w_getfield cd_170_54 (show mt_f 13 21 = some (13, 5) by decide +kernel) h22 h23 h25 ?_
  refine w_iload_n cd_170_57 rfl ?_
  refine w_iconst (v := 0) cd_170_58 (by decide) ?_
  refine w_bastore2 cd_170_59 h27 h28 h29 ?_
  refine w_aload_n cd_170_60 rfl ?_
  refine w_getfield cd_170_61 (show mt_f 13 25 = some (13, 6) by decide +kernel) h31 h32 h34 ?_
  refine w_iload_n cd_170_64 rfl ?_
  refine w_iconst (v := 0) cd_170_65 (by decide) ?_
  refine w_bastore2 cd_170_66 h36 h37 h38 ?_
  refine w_iinc (v := 1) (ls' := [some (.ref l1), some (.int (l2 + 1))]) cd_170_67 rfl (by decide) rfl ?_
  exact w_goto cd_170_70 (by decide) h39
theorem b_170_73 {d : Nat} {Q : (Option Value ⊕ Nat) → mi_H → Prop} (n sl : Nat) (f : Nat → mi_C) {l1 : Nat} {l2 : Int32} (h3 : Q (.inl none) (n, sl, f)) : mi_W d 170 73 [some (.ref l1), some (.int l2)] [] (n, sl, f) Q := by
  exact w_return cd_170_73 (by decide +kernel) h3
/-! MarloweHostModel.wrong()I -/
set_option maxRecDepth 100000 in
theorem mq_171 : mt_q 171 = my_171 := rfl
set_option maxRecDepth 100000 in
theorem ci_171 : mt_inc 0 my_171.cd = true := by decide +kernel
theorem cd_171_0 : mt_cd 171 0 = some (.aload_n 0) := mt_cd_of (q := (0, .aload_n 0, 1)) mq_171 ci_171 (List.mem_of_getElem? (i := 0) rfl)
theorem cd_171_1 : mt_cd 171 1 = some (.iconst 0) := mt_cd_of (q := (1, .iconst 0, 1)) mq_171 ci_171 (List.mem_of_getElem? (i := 1) rfl)
theorem cd_171_2 : mt_cd 171 2 = some (.putfield 248) := mt_cd_of (q := (2, .putfield 248, 3)) mq_171 ci_171 (List.mem_of_getElem? (i := 2) rfl)
theorem cd_171_5 : mt_cd 171 5 = some (.aload_n 0) := mt_cd_of (q := (5, .aload_n 0, 1)) mq_171 ci_171 (List.mem_of_getElem? (i := 3) rfl)
theorem cd_171_6 : mt_cd 171 6 = some (.getfield 7) := mt_cd_of (q := (6, .getfield 7, 3)) mq_171 ci_171 (List.mem_of_getElem? (i := 4) rfl)
theorem cd_171_9 : mt_cd 171 9 = some (.ireturn) := mt_cd_of (q := (9, .ireturn, 1)) mq_171 ci_171 (List.mem_of_getElem? (i := 5) rfl)
theorem b_171_0 {d : Nat} {Q : (Option Value ⊕ Nat) → mi_H → Prop} (n sl : Nat) (f : Nat → mi_C) {l1 : Nat} {fs2 : List Value} {fs6 : List Value} {x9 : Int32} (h3 : f l1 = .inr (12, fs2)) (h4 : l1 < n) (h5 : 0 < fs2.length) (h7 : (va_up f l1 (.inr (12, fs2.set 0 (.int 0)))) l1 = .inr (12, fs6)) (h8 : l1 < n) (h10 : fs6[3]? = some (.int x9)) (h11 : Q (.inl (some (.int x9))) (n, sl, (va_up f l1 (.inr (12, fs2.set 0 (.int 0)))))) : mi_W d 171 0 [some (.ref l1)] [] (n, sl, f) Q := by
  refine w_aload_n cd_171_0 rfl ?_
  refine w_iconst (v := 0) cd_171_1 (by decide) ?_
  refine w_putfield (w := .int 0) cd_171_2 (show mt_f 12 248 = some (12, 0) by decide +kernel) h3 h4 ⟨h5, rfl, Or.inl (by decide)⟩ ?_
  refine w_aload_n cd_171_5 rfl ?_
  refine w_getfield cd_171_6 (show mt_f 12 7 = some (12, 3) by decide +kernel) h7 h8 h10 ?_
  exact w_ireturn_i cd_171_9 (by decide +kernel) h11
/-! MarloweHostModel.apply(JJ)I -/
set_option maxRecDepth 100000 in
theorem mq_172 : mt_q 172 = my_172 := rfl
set_option maxRecDepth 100000 in
theorem ci_172 : mt_inc 0 my_172.cd = true := by decide +kernel
theorem cd_172_0 : mt_cd 172 0 = some (.aload_n 0) := mt_cd_of (q := (0, .aload_n 0, 1)) mq_172 ci_172 (List.mem_append_left _ (show _ ∈ my_172_0 from List.mem_of_getElem? (i := 0) rfl))
theorem cd_172_1 : mt_cd 172 1 = some (.iconst 0) := mt_cd_of (q := (1, .iconst 0, 1)) mq_172 ci_172 (List.mem_append_left _ (show _ ∈ my_172_0 from List.mem_of_getElem? (i := 1) rfl))
theorem cd_172_2 : mt_cd 172 2 = some (.putfield 248) := mt_cd_of (q := (2, .putfield 248, 3)) mq_172 ci_172 (List.mem_append_left _ (show _ ∈ my_172_0 from List.mem_of_getElem? (i := 2) rfl))
theorem cd_172_5 : mt_cd 172 5 = some (.aload_n 0) := mt_cd_of (q := (5, .aload_n 0, 1)) mq_172 ci_172 (List.mem_append_left _ (show _ ∈ my_172_0 from List.mem_of_getElem? (i := 3) rfl))
theorem cd_172_6 : mt_cd 172 6 = some (.aload_n 0) := mt_cd_of (q := (6, .aload_n 0, 1)) mq_172 ci_172 (List.mem_append_left _ (show _ ∈ my_172_0 from List.mem_of_getElem? (i := 4) rfl))
theorem cd_172_7 : mt_cd 172 7 = some (.getfield 13) := mt_cd_of (q := (7, .getfield 13, 3)) mq_172 ci_172 (List.mem_append_left _ (show _ ∈ my_172_0 from List.mem_of_getElem? (i := 5) rfl))
theorem cd_172_10 : mt_cd 172 10 = some (.ifCond .ge 7) := mt_cd_of (q := (10, .ifCond .ge 7, 3)) mq_172 ci_172 (List.mem_append_left _ (show _ ∈ my_172_0 from List.mem_of_getElem? (i := 6) rfl))
theorem cd_172_13 : mt_cd 172 13 = some (.iconst 1) := mt_cd_of (q := (13, .iconst 1, 1)) mq_172 ci_172 (List.mem_append_left _ (show _ ∈ my_172_0 from List.mem_of_getElem? (i := 7) rfl))
theorem cd_172_14 : mt_cd 172 14 = some (.goto 4) := mt_cd_of (q := (14, .goto 4, 3)) mq_172 ci_172 (List.mem_append_left _ (show _ ∈ my_172_0 from List.mem_of_getElem? (i := 8) rfl))
theorem cd_172_17 : mt_cd 172 17 = some (.iconst 0) := mt_cd_of (q := (17, .iconst 0, 1)) mq_172 ci_172 (List.mem_append_left _ (show _ ∈ my_172_0 from List.mem_of_getElem? (i := 9) rfl))
theorem cd_172_18 : mt_cd 172 18 = some (.iconst 1) := mt_cd_of (q := (18, .iconst 1, 1)) mq_172 ci_172 (List.mem_append_left _ (show _ ∈ my_172_0 from List.mem_of_getElem? (i := 10) rfl))
theorem cd_172_19 : mt_cd 172 19 = some (.invokevirtual 254) := mt_cd_of (q := (19, .invokevirtual 254, 3)) mq_172 ci_172 (List.mem_append_left _ (show _ ∈ my_172_0 from List.mem_of_getElem? (i := 11) rfl))
theorem cd_172_22 : mt_cd 172 22 = some (.ifCond .eq 5) := mt_cd_of (q := (22, .ifCond .eq 5, 3)) mq_172 ci_172 (List.mem_append_left _ (show _ ∈ my_172_0 from List.mem_of_getElem? (i := 12) rfl))
theorem cd_172_25 : mt_cd 172 25 = some (.iconst 0) := mt_cd_of (q := (25, .iconst 0, 1)) mq_172 ci_172 (List.mem_append_left _ (show _ ∈ my_172_0 from List.mem_of_getElem? (i := 13) rfl))
theorem cd_172_26 : mt_cd 172 26 = some (.ireturn) := mt_cd_of (q := (26, .ireturn, 1)) mq_172 ci_172 (List.mem_append_left _ (show _ ∈ my_172_0 from List.mem_of_getElem? (i := 14) rfl))
theorem cd_172_27 : mt_cd 172 27 = some (.aload_n 0) := mt_cd_of (q := (27, .aload_n 0, 1)) mq_172 ci_172 (List.mem_append_left _ (show _ ∈ my_172_0 from List.mem_of_getElem? (i := 15) rfl))
theorem cd_172_28 : mt_cd 172 28 = some (.aload_n 0) := mt_cd_of (q := (28, .aload_n 0, 1)) mq_172 ci_172 (List.mem_append_left _ (show _ ∈ my_172_0 from List.mem_of_getElem? (i := 16) rfl))
theorem cd_172_29 : mt_cd 172 29 = some (.getfield 151) := mt_cd_of (q := (29, .getfield 151, 3)) mq_172 ci_172 (List.mem_append_left _ (show _ ∈ my_172_0 from List.mem_of_getElem? (i := 17) rfl))
theorem cd_172_32 : mt_cd 172 32 = some (.putfield 445) := mt_cd_of (q := (32, .putfield 445, 3)) mq_172 ci_172 (List.mem_append_left _ (show _ ∈ my_172_0 from List.mem_of_getElem? (i := 18) rfl))
theorem cd_172_35 : mt_cd 172 35 = some (.aload_n 0) := mt_cd_of (q := (35, .aload_n 0, 1)) mq_172 ci_172 (List.mem_append_left _ (show _ ∈ my_172_0 from List.mem_of_getElem? (i := 19) rfl))
theorem cd_172_36 : mt_cd 172 36 = some (.getfield 445) := mt_cd_of (q := (36, .getfield 445, 3)) mq_172 ci_172 (List.mem_append_left _ (show _ ∈ my_172_0 from List.mem_of_getElem? (i := 20) rfl))
theorem cd_172_39 : mt_cd 172 39 = some (.aload_n 0) := mt_cd_of (q := (39, .aload_n 0, 1)) mq_172 ci_172 (List.mem_append_left _ (show _ ∈ my_172_0 from List.mem_of_getElem? (i := 21) rfl))
theorem cd_172_40 : mt_cd 172 40 = some (.getfield 147) := mt_cd_of (q := (40, .getfield 147, 3)) mq_172 ci_172 (List.mem_append_left _ (show _ ∈ my_172_0 from List.mem_of_getElem? (i := 22) rfl))
theorem cd_172_43 : mt_cd 172 43 = some (.invokevirtual 525) := mt_cd_of (q := (43, .invokevirtual 525, 3)) mq_172 ci_172 (List.mem_append_left _ (show _ ∈ my_172_0 from List.mem_of_getElem? (i := 23) rfl))
theorem cd_172_46 : mt_cd 172 46 = some (.aload_n 0) := mt_cd_of (q := (46, .aload_n 0, 1)) mq_172 ci_172 (List.mem_append_left _ (show _ ∈ my_172_0 from List.mem_of_getElem? (i := 24) rfl))
theorem cd_172_47 : mt_cd 172 47 = some (.iconst 1) := mt_cd_of (q := (47, .iconst 1, 1)) mq_172 ci_172 (List.mem_append_left _ (show _ ∈ my_172_0 from List.mem_of_getElem? (i := 25) rfl))
theorem cd_172_48 : mt_cd 172 48 = some (.putfield 513) := mt_cd_of (q := (48, .putfield 513, 3)) mq_172 ci_172 (List.mem_append_left _ (show _ ∈ my_172_0 from List.mem_of_getElem? (i := 26) rfl))
theorem cd_172_51 : mt_cd 172 51 = some (.aload_n 0) := mt_cd_of (q := (51, .aload_n 0, 1)) mq_172 ci_172 (List.mem_append_left _ (show _ ∈ my_172_0 from List.mem_of_getElem? (i := 27) rfl))
theorem cd_172_52 : mt_cd 172 52 = some (.lload_n 1) := mt_cd_of (q := (52, .lload_n 1, 1)) mq_172 ci_172 (List.mem_append_left _ (show _ ∈ my_172_0 from List.mem_of_getElem? (i := 28) rfl))
theorem cd_172_53 : mt_cd 172 53 = some (.lload_n 3) := mt_cd_of (q := (53, .lload_n 3, 1)) mq_172 ci_172 (List.mem_append_left _ (show _ ∈ my_172_0 from List.mem_of_getElem? (i := 29) rfl))
theorem cd_172_54 : mt_cd 172 54 = some (.aload_n 0) := mt_cd_of (q := (54, .aload_n 0, 1)) mq_172 ci_172 (List.mem_append_left _ (show _ ∈ my_172_0 from List.mem_of_getElem? (i := 30) rfl))
theorem cd_172_55 : mt_cd 172 55 = some (.getfield 258) := mt_cd_of (q := (55, .getfield 258, 3)) mq_172 ci_172 (List.mem_append_left _ (show _ ∈ my_172_0 from List.mem_of_getElem? (i := 31) rfl))
theorem cd_172_58 : mt_cd 172 58 = some (.invokevirtual 529) := mt_cd_of (q := (58, .invokevirtual 529, 3)) mq_172 ci_172 (List.mem_append_left _ (show _ ∈ my_172_0 from List.mem_of_getElem? (i := 32) rfl))
theorem cd_172_61 : mt_cd 172 61 = some (.istore 5) := mt_cd_of (q := (61, .istore 5, 2)) mq_172 ci_172 (List.mem_append_left _ (show _ ∈ my_172_0 from List.mem_of_getElem? (i := 33) rfl))
theorem cd_172_63 : mt_cd 172 63 = some (.aload_n 0) := mt_cd_of (q := (63, .aload_n 0, 1)) mq_172 ci_172 (List.mem_append_left _ (show _ ∈ my_172_0 from List.mem_of_getElem? (i := 34) rfl))
theorem cd_172_64 : mt_cd 172 64 = some (.iconst 0) := mt_cd_of (q := (64, .iconst 0, 1)) mq_172 ci_172 (List.mem_append_left _ (show _ ∈ my_172_0 from List.mem_of_getElem? (i := 35) rfl))
theorem cd_172_65 : mt_cd 172 65 = some (.putfield 258) := mt_cd_of (q := (65, .putfield 258, 3)) mq_172 ci_172 (List.mem_append_left _ (show _ ∈ my_172_0 from List.mem_of_getElem? (i := 36) rfl))
theorem cd_172_68 : mt_cd 172 68 = some (.iload 5) := mt_cd_of (q := (68, .iload 5, 2)) mq_172 ci_172 (List.mem_append_left _ (show _ ∈ my_172_0 from List.mem_of_getElem? (i := 37) rfl))
theorem cd_172_70 : mt_cd 172 70 = some (.ifCond .ne 9) := mt_cd_of (q := (70, .ifCond .ne 9, 3)) mq_172 ci_172 (List.mem_append_left _ (show _ ∈ my_172_0 from List.mem_of_getElem? (i := 38) rfl))
theorem cd_172_73 : mt_cd 172 73 = some (.aload_n 0) := mt_cd_of (q := (73, .aload_n 0, 1)) mq_172 ci_172 (List.mem_append_left _ (show _ ∈ my_172_0 from List.mem_of_getElem? (i := 39) rfl))
theorem cd_172_74 : mt_cd 172 74 = some (.invokevirtual 533) := mt_cd_of (q := (74, .invokevirtual 533, 3)) mq_172 ci_172 (List.mem_append_left _ (show _ ∈ my_172_0 from List.mem_of_getElem? (i := 40) rfl))
theorem cd_172_77 : mt_cd 172 77 = some (.istore 5) := mt_cd_of (q := (77, .istore 5, 2)) mq_172 ci_172 (List.mem_append_left _ (show _ ∈ my_172_0 from List.mem_of_getElem? (i := 41) rfl))
theorem cd_172_79 : mt_cd 172 79 = some (.iload 5) := mt_cd_of (q := (79, .iload 5, 2)) mq_172 ci_172 (List.mem_append_left _ (show _ ∈ my_172_0 from List.mem_of_getElem? (i := 42) rfl))
theorem cd_172_81 : mt_cd 172 81 = some (.ifCond .ne 17) := mt_cd_of (q := (81, .ifCond .ne 17, 3)) mq_172 ci_172 (List.mem_append_left _ (show _ ∈ my_172_0 from List.mem_of_getElem? (i := 43) rfl))
theorem cd_172_84 : mt_cd 172 84 = some (.aload_n 0) := mt_cd_of (q := (84, .aload_n 0, 1)) mq_172 ci_172 (List.mem_append_left _ (show _ ∈ my_172_0 from List.mem_of_getElem? (i := 44) rfl))
theorem cd_172_85 : mt_cd 172 85 = some (.getfield 147) := mt_cd_of (q := (85, .getfield 147, 3)) mq_172 ci_172 (List.mem_append_left _ (show _ ∈ my_172_0 from List.mem_of_getElem? (i := 45) rfl))
theorem cd_172_88 : mt_cd 172 88 = some (.aload_n 0) := mt_cd_of (q := (88, .aload_n 0, 1)) mq_172 ci_172 (List.mem_append_left _ (show _ ∈ my_172_0 from List.mem_of_getElem? (i := 46) rfl))
theorem cd_172_89 : mt_cd 172 89 = some (.getfield 151) := mt_cd_of (q := (89, .getfield 151, 3)) mq_172 ci_172 (List.mem_append_left _ (show _ ∈ my_172_0 from List.mem_of_getElem? (i := 47) rfl))
theorem cd_172_92 : mt_cd 172 92 = some (.invokevirtual 525) := mt_cd_of (q := (92, .invokevirtual 525, 3)) mq_172 ci_172 (List.mem_append_left _ (show _ ∈ my_172_0 from List.mem_of_getElem? (i := 48) rfl))
theorem cd_172_95 : mt_cd 172 95 = some (.goto 13) := mt_cd_of (q := (95, .goto 13, 3)) mq_172 ci_172 (List.mem_append_left _ (show _ ∈ my_172_0 from List.mem_of_getElem? (i := 49) rfl))
theorem cd_172_98 : mt_cd 172 98 = some (.aload_n 0) := mt_cd_of (q := (98, .aload_n 0, 1)) mq_172 ci_172 (List.mem_append_left _ (show _ ∈ my_172_0 from List.mem_of_getElem? (i := 50) rfl))
theorem cd_172_99 : mt_cd 172 99 = some (.iconst 0) := mt_cd_of (q := (99, .iconst 0, 1)) mq_172 ci_172 (List.mem_append_left _ (show _ ∈ my_172_0 from List.mem_of_getElem? (i := 51) rfl))
theorem cd_172_100 : mt_cd 172 100 = some (.putfield 490) := mt_cd_of (q := (100, .putfield 490, 3)) mq_172 ci_172 (List.mem_append_left _ (show _ ∈ my_172_0 from List.mem_of_getElem? (i := 52) rfl))
theorem cd_172_103 : mt_cd 172 103 = some (.aload_n 0) := mt_cd_of (q := (103, .aload_n 0, 1)) mq_172 ci_172 (List.mem_append_left _ (show _ ∈ my_172_0 from List.mem_of_getElem? (i := 53) rfl))
theorem cd_172_104 : mt_cd 172 104 = some (.iconst 0) := mt_cd_of (q := (104, .iconst 0, 1)) mq_172 ci_172 (List.mem_append_left _ (show _ ∈ my_172_0 from List.mem_of_getElem? (i := 54) rfl))
theorem cd_172_105 : mt_cd 172 105 = some (.putfield 493) := mt_cd_of (q := (105, .putfield 493, 3)) mq_172 ci_172 (List.mem_append_left _ (show _ ∈ my_172_0 from List.mem_of_getElem? (i := 55) rfl))
theorem cd_172_108 : mt_cd 172 108 = some (.aload_n 0) := mt_cd_of (q := (108, .aload_n 0, 1)) mq_172 ci_172 (List.mem_append_left _ (show _ ∈ my_172_0 from List.mem_of_getElem? (i := 56) rfl))
theorem cd_172_109 : mt_cd 172 109 = some (.aload_n 0) := mt_cd_of (q := (109, .aload_n 0, 1)) mq_172 ci_172 (List.mem_append_left _ (show _ ∈ my_172_0 from List.mem_of_getElem? (i := 57) rfl))
theorem cd_172_110 : mt_cd 172 110 = some (.getfield 490) := mt_cd_of (q := (110, .getfield 490, 3)) mq_172 ci_172 (List.mem_append_left _ (show _ ∈ my_172_0 from List.mem_of_getElem? (i := 58) rfl))
theorem cd_172_113 : mt_cd 172 113 = some (.putfield 536) := mt_cd_of (q := (113, .putfield 536, 3)) mq_172 ci_172 (List.mem_append_left _ (show _ ∈ my_172_0 from List.mem_of_getElem? (i := 59) rfl))
theorem cd_172_116 : mt_cd 172 116 = some (.aload_n 0) := mt_cd_of (q := (116, .aload_n 0, 1)) mq_172 ci_172 (List.mem_append_right _ (List.mem_append_left _ (show _ ∈ my_172_1 from List.mem_of_getElem? (i := 0) rfl)))
theorem cd_172_117 : mt_cd 172 117 = some (.aload_n 0) := mt_cd_of (q := (117, .aload_n 0, 1)) mq_172 ci_172 (List.mem_append_right _ (List.mem_append_left _ (show _ ∈ my_172_1 from List.mem_of_getElem? (i := 1) rfl)))
theorem cd_172_118 : mt_cd 172 118 = some (.getfield 493) := mt_cd_of (q := (118, .getfield 493, 3)) mq_172 ci_172 (List.mem_append_right _ (List.mem_append_left _ (show _ ∈ my_172_1 from List.mem_of_getElem? (i := 2) rfl)))
theorem cd_172_121 : mt_cd 172 121 = some (.putfield 539) := mt_cd_of (q := (121, .putfield 539, 3)) mq_172 ci_172 (List.mem_append_right _ (List.mem_append_left _ (show _ ∈ my_172_1 from List.mem_of_getElem? (i := 3) rfl)))
theorem cd_172_124 : mt_cd 172 124 = some (.iconst 0) := mt_cd_of (q := (124, .iconst 0, 1)) mq_172 ci_172 (List.mem_append_right _ (List.mem_append_left _ (show _ ∈ my_172_1 from List.mem_of_getElem? (i := 4) rfl)))
theorem cd_172_125 : mt_cd 172 125 = some (.istore 6) := mt_cd_of (q := (125, .istore 6, 2)) mq_172 ci_172 (List.mem_append_right _ (List.mem_append_left _ (show _ ∈ my_172_1 from List.mem_of_getElem? (i := 5) rfl)))
theorem cd_172_127 : mt_cd 172 127 = some (.iload 6) := mt_cd_of (q := (127, .iload 6, 2)) mq_172 ci_172 (List.mem_append_right _ (List.mem_append_left _ (show _ ∈ my_172_1 from List.mem_of_getElem? (i := 6) rfl)))
theorem cd_172_129 : mt_cd 172 129 = some (.aload_n 0) := mt_cd_of (q := (129, .aload_n 0, 1)) mq_172 ci_172 (List.mem_append_right _ (List.mem_append_left _ (show _ ∈ my_172_1 from List.mem_of_getElem? (i := 7) rfl)))
theorem cd_172_130 : mt_cd 172 130 = some (.getfield 490) := mt_cd_of (q := (130, .getfield 490, 3)) mq_172 ci_172 (List.mem_append_right _ (List.mem_append_left _ (show _ ∈ my_172_1 from List.mem_of_getElem? (i := 8) rfl)))
theorem cd_172_133 : mt_cd 172 133 = some (.if_icmp .ge 37) := mt_cd_of (q := (133, .if_icmp .ge 37, 3)) mq_172 ci_172 (List.mem_append_right _ (List.mem_append_left _ (show _ ∈ my_172_1 from List.mem_of_getElem? (i := 9) rfl)))
theorem cd_172_136 : mt_cd 172 136 = some (.aload_n 0) := mt_cd_of (q := (136, .aload_n 0, 1)) mq_172 ci_172 (List.mem_append_right _ (List.mem_append_left _ (show _ ∈ my_172_1 from List.mem_of_getElem? (i := 10) rfl)))
theorem cd_172_137 : mt_cd 172 137 = some (.getfield 193) := mt_cd_of (q := (137, .getfield 193, 3)) mq_172 ci_172 (List.mem_append_right _ (List.mem_append_left _ (show _ ∈ my_172_1 from List.mem_of_getElem? (i := 11) rfl)))
theorem cd_172_140 : mt_cd 172 140 = some (.iload 6) := mt_cd_of (q := (140, .iload 6, 2)) mq_172 ci_172 (List.mem_append_right _ (List.mem_append_left _ (show _ ∈ my_172_1 from List.mem_of_getElem? (i := 12) rfl)))
theorem cd_172_142 : mt_cd 172 142 = some (.aload_n 0) := mt_cd_of (q := (142, .aload_n 0, 1)) mq_172 ci_172 (List.mem_append_right _ (List.mem_append_left _ (show _ ∈ my_172_1 from List.mem_of_getElem? (i := 13) rfl)))
theorem cd_172_143 : mt_cd 172 143 = some (.getfield 154) := mt_cd_of (q := (143, .getfield 154, 3)) mq_172 ci_172 (List.mem_append_right _ (List.mem_append_left _ (show _ ∈ my_172_1 from List.mem_of_getElem? (i := 14) rfl)))
theorem cd_172_146 : mt_cd 172 146 = some (.iload 6) := mt_cd_of (q := (146, .iload 6, 2)) mq_172 ci_172 (List.mem_append_right _ (List.mem_append_left _ (show _ ∈ my_172_1 from List.mem_of_getElem? (i := 15) rfl)))
theorem cd_172_148 : mt_cd 172 148 = some (.iaload) := mt_cd_of (q := (148, .iaload, 1)) mq_172 ci_172 (List.mem_append_right _ (List.mem_append_left _ (show _ ∈ my_172_1 from List.mem_of_getElem? (i := 16) rfl)))
theorem cd_172_149 : mt_cd 172 149 = some (.iastore) := mt_cd_of (q := (149, .iastore, 1)) mq_172 ci_172 (List.mem_append_right _ (List.mem_append_left _ (show _ ∈ my_172_1 from List.mem_of_getElem? (i := 17) rfl)))
theorem cd_172_150 : mt_cd 172 150 = some (.aload_n 0) := mt_cd_of (q := (150, .aload_n 0, 1)) mq_172 ci_172 (List.mem_append_right _ (List.mem_append_left _ (show _ ∈ my_172_1 from List.mem_of_getElem? (i := 18) rfl)))
theorem cd_172_151 : mt_cd 172 151 = some (.getfield 196) := mt_cd_of (q := (151, .getfield 196, 3)) mq_172 ci_172 (List.mem_append_right _ (List.mem_append_left _ (show _ ∈ my_172_1 from List.mem_of_getElem? (i := 19) rfl)))
theorem cd_172_154 : mt_cd 172 154 = some (.iload 6) := mt_cd_of (q := (154, .iload 6, 2)) mq_172 ci_172 (List.mem_append_right _ (List.mem_append_left _ (show _ ∈ my_172_1 from List.mem_of_getElem? (i := 20) rfl)))
theorem cd_172_156 : mt_cd 172 156 = some (.aload_n 0) := mt_cd_of (q := (156, .aload_n 0, 1)) mq_172 ci_172 (List.mem_append_right _ (List.mem_append_left _ (show _ ∈ my_172_1 from List.mem_of_getElem? (i := 21) rfl)))
theorem cd_172_157 : mt_cd 172 157 = some (.getfield 157) := mt_cd_of (q := (157, .getfield 157, 3)) mq_172 ci_172 (List.mem_append_right _ (List.mem_append_left _ (show _ ∈ my_172_1 from List.mem_of_getElem? (i := 22) rfl)))
theorem cd_172_160 : mt_cd 172 160 = some (.iload 6) := mt_cd_of (q := (160, .iload 6, 2)) mq_172 ci_172 (List.mem_append_right _ (List.mem_append_left _ (show _ ∈ my_172_1 from List.mem_of_getElem? (i := 23) rfl)))
theorem cd_172_162 : mt_cd 172 162 = some (.iaload) := mt_cd_of (q := (162, .iaload, 1)) mq_172 ci_172 (List.mem_append_right _ (List.mem_append_left _ (show _ ∈ my_172_1 from List.mem_of_getElem? (i := 24) rfl)))
theorem cd_172_163 : mt_cd 172 163 = some (.iastore) := mt_cd_of (q := (163, .iastore, 1)) mq_172 ci_172 (List.mem_append_right _ (List.mem_append_left _ (show _ ∈ my_172_1 from List.mem_of_getElem? (i := 25) rfl)))
theorem cd_172_164 : mt_cd 172 164 = some (.iinc 6 1) := mt_cd_of (q := (164, .iinc 6 1, 3)) mq_172 ci_172 (List.mem_append_right _ (List.mem_append_left _ (show _ ∈ my_172_1 from List.mem_of_getElem? (i := 26) rfl)))
theorem cd_172_167 : mt_cd 172 167 = some (.goto (-40)) := mt_cd_of (q := (167, .goto (-40), 3)) mq_172 ci_172 (List.mem_append_right _ (List.mem_append_left _ (show _ ∈ my_172_1 from List.mem_of_getElem? (i := 27) rfl)))
theorem cd_172_170 : mt_cd 172 170 = some (.iconst 0) := mt_cd_of (q := (170, .iconst 0, 1)) mq_172 ci_172 (List.mem_append_right _ (List.mem_append_left _ (show _ ∈ my_172_1 from List.mem_of_getElem? (i := 28) rfl)))
theorem cd_172_171 : mt_cd 172 171 = some (.istore 6) := mt_cd_of (q := (171, .istore 6, 2)) mq_172 ci_172 (List.mem_append_right _ (List.mem_append_left _ (show _ ∈ my_172_1 from List.mem_of_getElem? (i := 29) rfl)))
theorem cd_172_173 : mt_cd 172 173 = some (.iload 6) := mt_cd_of (q := (173, .iload 6, 2)) mq_172 ci_172 (List.mem_append_right _ (List.mem_append_left _ (show _ ∈ my_172_1 from List.mem_of_getElem? (i := 30) rfl)))
theorem cd_172_175 : mt_cd 172 175 = some (.aload_n 0) := mt_cd_of (q := (175, .aload_n 0, 1)) mq_172 ci_172 (List.mem_append_right _ (List.mem_append_left _ (show _ ∈ my_172_1 from List.mem_of_getElem? (i := 31) rfl)))
theorem cd_172_176 : mt_cd 172 176 = some (.getfield 493) := mt_cd_of (q := (176, .getfield 493, 3)) mq_172 ci_172 (List.mem_append_right _ (List.mem_append_left _ (show _ ∈ my_172_1 from List.mem_of_getElem? (i := 32) rfl)))
theorem cd_172_179 : mt_cd 172 179 = some (.if_icmp .ge 65) := mt_cd_of (q := (179, .if_icmp .ge 65, 3)) mq_172 ci_172 (List.mem_append_right _ (List.mem_append_left _ (show _ ∈ my_172_1 from List.mem_of_getElem? (i := 33) rfl)))
theorem cd_172_182 : mt_cd 172 182 = some (.aload_n 0) := mt_cd_of (q := (182, .aload_n 0, 1)) mq_172 ci_172 (List.mem_append_right _ (List.mem_append_left _ (show _ ∈ my_172_1 from List.mem_of_getElem? (i := 34) rfl)))
theorem cd_172_183 : mt_cd 172 183 = some (.getfield 199) := mt_cd_of (q := (183, .getfield 199, 3)) mq_172 ci_172 (List.mem_append_right _ (List.mem_append_left _ (show _ ∈ my_172_1 from List.mem_of_getElem? (i := 35) rfl)))
theorem cd_172_186 : mt_cd 172 186 = some (.iload 6) := mt_cd_of (q := (186, .iload 6, 2)) mq_172 ci_172 (List.mem_append_right _ (List.mem_append_left _ (show _ ∈ my_172_1 from List.mem_of_getElem? (i := 36) rfl)))
theorem cd_172_188 : mt_cd 172 188 = some (.aload_n 0) := mt_cd_of (q := (188, .aload_n 0, 1)) mq_172 ci_172 (List.mem_append_right _ (List.mem_append_left _ (show _ ∈ my_172_1 from List.mem_of_getElem? (i := 37) rfl)))
theorem cd_172_189 : mt_cd 172 189 = some (.getfield 160) := mt_cd_of (q := (189, .getfield 160, 3)) mq_172 ci_172 (List.mem_append_right _ (List.mem_append_left _ (show _ ∈ my_172_1 from List.mem_of_getElem? (i := 38) rfl)))
theorem cd_172_192 : mt_cd 172 192 = some (.iload 6) := mt_cd_of (q := (192, .iload 6, 2)) mq_172 ci_172 (List.mem_append_right _ (List.mem_append_left _ (show _ ∈ my_172_1 from List.mem_of_getElem? (i := 39) rfl)))
theorem cd_172_194 : mt_cd 172 194 = some (.iaload) := mt_cd_of (q := (194, .iaload, 1)) mq_172 ci_172 (List.mem_append_right _ (List.mem_append_left _ (show _ ∈ my_172_1 from List.mem_of_getElem? (i := 40) rfl)))
theorem cd_172_195 : mt_cd 172 195 = some (.iastore) := mt_cd_of (q := (195, .iastore, 1)) mq_172 ci_172 (List.mem_append_right _ (List.mem_append_left _ (show _ ∈ my_172_1 from List.mem_of_getElem? (i := 41) rfl)))
theorem cd_172_196 : mt_cd 172 196 = some (.aload_n 0) := mt_cd_of (q := (196, .aload_n 0, 1)) mq_172 ci_172 (List.mem_append_right _ (List.mem_append_left _ (show _ ∈ my_172_1 from List.mem_of_getElem? (i := 42) rfl)))
theorem cd_172_197 : mt_cd 172 197 = some (.getfield 202) := mt_cd_of (q := (197, .getfield 202, 3)) mq_172 ci_172 (List.mem_append_right _ (List.mem_append_left _ (show _ ∈ my_172_1 from List.mem_of_getElem? (i := 43) rfl)))
theorem cd_172_200 : mt_cd 172 200 = some (.iload 6) := mt_cd_of (q := (200, .iload 6, 2)) mq_172 ci_172 (List.mem_append_right _ (List.mem_append_left _ (show _ ∈ my_172_1 from List.mem_of_getElem? (i := 44) rfl)))
theorem cd_172_202 : mt_cd 172 202 = some (.aload_n 0) := mt_cd_of (q := (202, .aload_n 0, 1)) mq_172 ci_172 (List.mem_append_right _ (List.mem_append_left _ (show _ ∈ my_172_1 from List.mem_of_getElem? (i := 45) rfl)))
theorem cd_172_203 : mt_cd 172 203 = some (.getfield 163) := mt_cd_of (q := (203, .getfield 163, 3)) mq_172 ci_172 (List.mem_append_right _ (List.mem_append_left _ (show _ ∈ my_172_1 from List.mem_of_getElem? (i := 46) rfl)))
theorem cd_172_206 : mt_cd 172 206 = some (.iload 6) := mt_cd_of (q := (206, .iload 6, 2)) mq_172 ci_172 (List.mem_append_right _ (List.mem_append_left _ (show _ ∈ my_172_1 from List.mem_of_getElem? (i := 47) rfl)))
theorem cd_172_208 : mt_cd 172 208 = some (.iaload) := mt_cd_of (q := (208, .iaload, 1)) mq_172 ci_172 (List.mem_append_right _ (List.mem_append_left _ (show _ ∈ my_172_1 from List.mem_of_getElem? (i := 48) rfl)))
theorem cd_172_209 : mt_cd 172 209 = some (.iastore) := mt_cd_of (q := (209, .iastore, 1)) mq_172 ci_172 (List.mem_append_right _ (List.mem_append_left _ (show _ ∈ my_172_1 from List.mem_of_getElem? (i := 49) rfl)))
theorem cd_172_210 : mt_cd 172 210 = some (.aload_n 0) := mt_cd_of (q := (210, .aload_n 0, 1)) mq_172 ci_172 (List.mem_append_right _ (List.mem_append_left _ (show _ ∈ my_172_1 from List.mem_of_getElem? (i := 50) rfl)))
theorem cd_172_211 : mt_cd 172 211 = some (.getfield 205) := mt_cd_of (q := (211, .getfield 205, 3)) mq_172 ci_172 (List.mem_append_right _ (List.mem_append_left _ (show _ ∈ my_172_1 from List.mem_of_getElem? (i := 51) rfl)))
theorem cd_172_214 : mt_cd 172 214 = some (.iload 6) := mt_cd_of (q := (214, .iload 6, 2)) mq_172 ci_172 (List.mem_append_right _ (List.mem_append_left _ (show _ ∈ my_172_1 from List.mem_of_getElem? (i := 52) rfl)))
theorem cd_172_216 : mt_cd 172 216 = some (.aload_n 0) := mt_cd_of (q := (216, .aload_n 0, 1)) mq_172 ci_172 (List.mem_append_right _ (List.mem_append_left _ (show _ ∈ my_172_1 from List.mem_of_getElem? (i := 53) rfl)))
theorem cd_172_217 : mt_cd 172 217 = some (.getfield 166) := mt_cd_of (q := (217, .getfield 166, 3)) mq_172 ci_172 (List.mem_append_right _ (List.mem_append_left _ (show _ ∈ my_172_1 from List.mem_of_getElem? (i := 54) rfl)))
theorem cd_172_220 : mt_cd 172 220 = some (.iload 6) := mt_cd_of (q := (220, .iload 6, 2)) mq_172 ci_172 (List.mem_append_right _ (List.mem_append_left _ (show _ ∈ my_172_1 from List.mem_of_getElem? (i := 55) rfl)))
theorem cd_172_222 : mt_cd 172 222 = some (.iaload) := mt_cd_of (q := (222, .iaload, 1)) mq_172 ci_172 (List.mem_append_right _ (List.mem_append_left _ (show _ ∈ my_172_1 from List.mem_of_getElem? (i := 56) rfl)))
theorem cd_172_223 : mt_cd 172 223 = some (.iastore) := mt_cd_of (q := (223, .iastore, 1)) mq_172 ci_172 (List.mem_append_right _ (List.mem_append_left _ (show _ ∈ my_172_1 from List.mem_of_getElem? (i := 57) rfl)))
theorem cd_172_224 : mt_cd 172 224 = some (.aload_n 0) := mt_cd_of (q := (224, .aload_n 0, 1)) mq_172 ci_172 (List.mem_append_right _ (List.mem_append_left _ (show _ ∈ my_172_1 from List.mem_of_getElem? (i := 58) rfl)))
theorem cd_172_225 : mt_cd 172 225 = some (.getfield 208) := mt_cd_of (q := (225, .getfield 208, 3)) mq_172 ci_172 (List.mem_append_right _ (List.mem_append_left _ (show _ ∈ my_172_1 from List.mem_of_getElem? (i := 59) rfl)))
theorem cd_172_228 : mt_cd 172 228 = some (.iload 6) := mt_cd_of (q := (228, .iload 6, 2)) mq_172 ci_172 (List.mem_append_right _ (List.mem_append_right _ ((show _ ∈ my_172_2 from List.mem_of_getElem? (i := 0) rfl))))
theorem cd_172_230 : mt_cd 172 230 = some (.aload_n 0) := mt_cd_of (q := (230, .aload_n 0, 1)) mq_172 ci_172 (List.mem_append_right _ (List.mem_append_right _ ((show _ ∈ my_172_2 from List.mem_of_getElem? (i := 1) rfl))))
theorem cd_172_231 : mt_cd 172 231 = some (.getfield 169) := mt_cd_of (q := (231, .getfield 169, 3)) mq_172 ci_172 (List.mem_append_right _ (List.mem_append_right _ ((show _ ∈ my_172_2 from List.mem_of_getElem? (i := 2) rfl))))
theorem cd_172_234 : mt_cd 172 234 = some (.iload 6) := mt_cd_of (q := (234, .iload 6, 2)) mq_172 ci_172 (List.mem_append_right _ (List.mem_append_right _ ((show _ ∈ my_172_2 from List.mem_of_getElem? (i := 3) rfl))))
theorem cd_172_236 : mt_cd 172 236 = some (.laload) := mt_cd_of (q := (236, .laload, 1)) mq_172 ci_172 (List.mem_append_right _ (List.mem_append_right _ ((show _ ∈ my_172_2 from List.mem_of_getElem? (i := 4) rfl))))
theorem cd_172_237 : mt_cd 172 237 = some (.lastore) := mt_cd_of (q := (237, .lastore, 1)) mq_172 ci_172 (List.mem_append_right _ (List.mem_append_right _ ((show _ ∈ my_172_2 from List.mem_of_getElem? (i := 5) rfl))))
theorem cd_172_238 : mt_cd 172 238 = some (.iinc 6 1) := mt_cd_of (q := (238, .iinc 6 1, 3)) mq_172 ci_172 (List.mem_append_right _ (List.mem_append_right _ ((show _ ∈ my_172_2 from List.mem_of_getElem? (i := 6) rfl))))
theorem cd_172_241 : mt_cd 172 241 = some (.goto (-68)) := mt_cd_of (q := (241, .goto (-68), 3)) mq_172 ci_172 (List.mem_append_right _ (List.mem_append_right _ ((show _ ∈ my_172_2 from List.mem_of_getElem? (i := 7) rfl))))
theorem cd_172_244 : mt_cd 172 244 = some (.iload 5) := mt_cd_of (q := (244, .iload 5, 2)) mq_172 ci_172 (List.mem_append_right _ (List.mem_append_right _ ((show _ ∈ my_172_2 from List.mem_of_getElem? (i := 8) rfl))))
theorem cd_172_246 : mt_cd 172 246 = some (.ireturn) := mt_cd_of (q := (246, .ireturn, 1)) mq_172 ci_172 (List.mem_append_right _ (List.mem_append_right _ ((show _ ∈ my_172_2 from List.mem_of_getElem? (i := 9) rfl))))
theorem b_172_0 {d : Nat} {Q : (Option Value ⊕ Nat) → mi_H → Prop} (n sl : Nat) (f : Nat → mi_C) {l1 : Nat} {l2 : Int64} {l3 : Int64} {o4 : Option Value} {o5 : Option Value} {fs6 : List Value} {fs10 : List Value} {x13 : Int32} (h7 : f l1 = .inr (12, fs6)) (h8 : l1 < n) (h9 : 0 < fs6.length) (h11 : (va_up f l1 (.inr (12, fs6.set 0 (.int 0)))) l1 = .inr (12, fs10)) (h12 : l1 < n) (h14 : fs10[4]? = some (.int x13)) (h15 : (0 : Int32) ≤ x13 → mi_W d 172 17 [some (.ref l1), some (.long l2), none, some (.long l3), none, o4, o5] [.ref l1] (n, sl, (va_up f l1 (.inr (12, fs6.set 0 (.int 0))))) Q) (h16 : ¬ ((0 : Int32) ≤ x13) → mi_W d 172 13 [some (.ref l1), some (.long l2), none, some (.long l3), none, o4, o5] [.ref l1] (n, sl, (va_up f l1 (.inr (12, fs6.set 0 (.int 0))))) Q) : mi_W d 172 0 [some (.ref l1), some (.long l2), none, some (.long l3), none, o4, o5] [] (n, sl, f) Q := by
  refine w_aload_n cd_172_0 rfl ?_
  refine w_iconst (v := 0) cd_172_1 (by decide) ?_
  refine w_putfield (w := .int 0) cd_172_2 (show mt_f 12 248 = some (12, 0) by decide +kernel) h7 h8 ⟨h9, rfl, Or.inl (by decide)⟩ ?_
  refine w_aload_n cd_172_5 rfl ?_
  refine w_aload_n cd_172_6 rfl ?_
  refine w_getfield cd_172_7 (show mt_f 12 13 = some (12, 4) by decide +kernel) h11 h12 h14 ?_
  exact w_ifge cd_172_10 (by decide) h15 h16
theorem b_172_13 {d : Nat} {Q : (Option Value ⊕ Nat) → mi_H → Prop} (n sl : Nat) (f : Nat → mi_C) {l1 : Nat} {l2 : Int64} {l3 : Int64} {o4 : Option Value} {o5 : Option Value} {s6 : Nat} (h7 : mi_W d 172 18 [some (.ref l1), some (.long l2), none, some (.long l3), none, o4, o5] [.int 1, .ref s6] (n, sl, f) Q) : mi_W d 172 13 [some (.ref l1), some (.long l2), none, some (.long l3), none, o4, o5] [.ref s6] (n, sl, f) Q := by
  refine w_iconst (v := 1) cd_172_13 (by decide) ?_
  exact w_goto cd_172_14 (by decide) h7
theorem b_172_17 {d : Nat} {Q : (Option Value ⊕ Nat) → mi_H → Prop} (n sl : Nat) (f : Nat → mi_C) {l1 : Nat} {l2 : Int64} {l3 : Int64} {o4 : Option Value} {o5 : Option Value} {s6 : Nat} (h7 : mi_W d 172 18 [some (.ref l1), some (.long l2), none, some (.long l3), none, o4, o5] [.int 0, .ref s6] (n, sl, f) Q) : mi_W d 172 17 [some (.ref l1), some (.long l2), none, some (.long l3), none, o4, o5] [.ref s6] (n, sl, f) Q := by
  refine w_iconst (v := 0) cd_172_17 (by decide) ?_
  exact h7
theorem b_172_18 {d : Nat} {Q : (Option Value ⊕ Nat) → mi_H → Prop} (n sl : Nat) (f : Nat → mi_C) {l1 : Nat} {l2 : Int64} {l3 : Int64} {o4 : Option Value} {o5 : Option Value} {s6 : Int32} {s7 : Nat} {fs8 : List Value} (h9 : f s7 = .inr (12, fs8)) (h10 : s7 < n) (h11 : mi_W d 140 0 (mi_en 3 [.ref s7, .int s6, .int 1]) [] (n, sl, f) (mi_Kc d 172 19 [some (.ref l1), some (.long l2), none, some (.long l3), none, o4, o5] [] Q)) : mi_W (d + 1) 172 18 [some (.ref l1), some (.long l2), none, some (.long l3), none, o4, o5] [.int s6, .ref s7] (n, sl, f) Q := by
  refine w_iconst (v := 1) cd_172_18 (by decide) ?_
  exact w_invokevirtual cd_172_19 (show mt_m 12 254 = some (140, 0) by decide +kernel) (rest := []) rfl (as := [.ref s7, .int s6, .int 1]) rfl h9 (Or.inl h10) ⟨Nat.le_of_ble_eq_true rfl, Nat.le_of_ble_eq_true rfl, Nat.le_of_ble_eq_true rfl⟩ h11
theorem b_172_22 {d : Nat} {Q : (Option Value ⊕ Nat) → mi_H → Prop} (n sl : Nat) (f : Nat → mi_C) {l1 : Nat} {l2 : Int64} {l3 : Int64} {o4 : Option Value} {o5 : Option Value} {s6 : Int32} (h7 : s6 = (0 : Int32) → mi_W d 172 27 [some (.ref l1), some (.long l2), none, some (.long l3), none, o4, o5] [] (n, sl, f) Q) (h8 : ¬ (s6 = (0 : Int32)) → mi_W d 172 25 [some (.ref l1), some (.long l2), none, some (.long l3), none, o4, o5] [] (n, sl, f) Q) : mi_W d 172 22 [some (.ref l1), some (.long l2), none, some (.long l3), none, o4, o5] [.int s6] (n, sl, f) Q := by
  exact w_ifeq cd_172_22 (by decide) h7 h8
theorem b_172_25 {d : Nat} {Q : (Option Value ⊕ Nat) → mi_H → Prop} (n sl : Nat) (f : Nat → mi_C) {l1 : Nat} {l2 : Int64} {l3 : Int64} {o4 : Option Value} {o5 : Option Value} (h6 : Q (.inl (some (.int 0))) (n, sl, f)) : mi_W d 172 25 [some (.ref l1), some (.long l2), none, some (.long l3), none, o4, o5] [] (n, sl, f) Q := by
  refine w_iconst (v := 0) cd_172_25 (by decide) ?_
  exact w_ireturn_i cd_172_26 (by decide +kernel) h6
theorem b_172_27 {d : Nat} {Q : (Option Value ⊕ Nat) → mi_H → Prop} (n sl : Nat) (f : Nat → mi_C) {l1 : Nat} {l2 : Int64} {l3 : Int64} {o4 : Option Value} {o5 : Option Value} {fs6 : List Value} {x9 : Nat} {fs11 : List Value} {fs15 : List Value} {x18 : Nat} {fs20 : List Value} {x23 : Nat} {fs25 : List Value} (h7 : f l1 = .inr (12, fs6)) (h8 : l1 < n) (h10 : fs6[42]? = some (.ref x9)) (h12 : f l1 = .inr (12, fs11)) (h13 : l1 < n) (h14 : 43 < fs11.length) (h16 : (va_up f l1 (.inr (12, fs11.set 43 (.ref x9)))) l1 = .inr (12, fs15)) (h17 : l1 < n) (h19 : fs15[43]? = some (.ref x18)) (h21 : (va_up f l1 (.inr (12, fs11.set 43 (.ref x9)))) l1 = .inr (12, fs20)) (h22 : l1 < n) (h24 : fs20[41]? = some (.ref x23)) (h26 : (va_up f l1 (.inr (12, fs11.set 43 (.ref x9)))) x18 = .inr (13, fs25)) (h27 : x18 < n) (h28 : mi_W d 173 0 (mi_en 3 [.ref x18, .ref x23]) [] (n, sl, (va_up f l1 (.inr (12, fs11.set 43 (.ref x9))))) (mi_Kc d 172 43 [some (.ref l1), some (.long l2), none, some (.long l3), none, o4, o5] [] Q)) : mi_W (d + 1) 172 27 [some (.ref l1), some (.long l2), none, some (.long l3), none, o4, o5] [] (n, sl, f) Q := by
  refine w_aload_n cd_172_27 rfl ?_
  refine w_aload_n cd_172_28 rfl ?_
  refine w_getfield cd_172_29 (show mt_f 12 151 = some (12, 42) by decide +kernel) h7 h8 h10 ?_
  refine w_putfield (w := .ref x9) cd_172_32 (show mt_f 12 445 = some (12, 43) by decide +kernel) h12 h13 ⟨h14, rfl, Or.inl (by decide)⟩ ?_
  refine w_aload_n cd_172_35 rfl ?_
  refine w_getfield cd_172_36 (show mt_f 12 445 = some (12, 43) by decide +kernel) h16 h17 h19 ?_
  refine w_aload_n cd_172_39 rfl ?_
  refine w_getfield cd_172_40 (show mt_f 12 147 = some (12, 41) by decide +kernel) h21 h22 h24 ?_
  exact w_invokevirtual cd_172_43 (show mt_m 12 525 = some (173, 0) by decide +kernel) (rest := []) rfl (as := [.ref x18, .ref x23]) rfl h26 (Or.inl h27) ⟨Nat.le_of_ble_eq_true rfl, Nat.le_of_ble_eq_true rfl, Nat.le_of_ble_eq_true rfl⟩ h28
theorem b_172_46 {d : Nat} {Q : (Option Value ⊕ Nat) → mi_H → Prop} (n sl : Nat) (f : Nat → mi_C) {l1 : Nat} {l2 : Int64} {l3 : Int64} {o4 : Option Value} {o5 : Option Value} {fs6 : List Value} {fs11 : List Value} {x14 : Int32} {fs16 : List Value} (h7 : f l1 = .inr (12, fs6)) (h8 : l1 < n) (h9 : 57 < fs6.length) (h10 : mi_fk .boolean (.int 1) = true) (h12 : (va_up f l1 (.inr (12, fs6.set 57 (.int 1)))) l1 = .inr (12, fs11)) (h13 : l1 < n) (h15 : fs11[59]? = some (.int x14)) (h17 : (va_up f l1 (.inr (12, fs6.set 57 (.int 1)))) l1 = .inr (12, fs16)) (h18 : l1 < n) (h19 : mi_W d 174 0 (mi_en 8 [.ref l1, .long l2, .long l3, .int x14]) [] (n, sl, (va_up f l1 (.inr (12, fs6.set 57 (.int 1))))) (mi_Kc d 172 58 [some (.ref l1), some (.long l2), none, some (.long l3), none, o4, o5] [] Q)) : mi_W (d + 1) 172 46 [some (.ref l1), some (.long l2), none, some (.long l3), none, o4, o5] [] (n, sl, f) Q := by
  refine w_aload_n cd_172_46 rfl ?_
  refine w_iconst (v := 1) cd_172_47 (by decide) ?_
  refine w_putfield (w := .int 1) cd_172_48 (show mt_f 12 513 = some (12, 57) by decide +kernel) h7 h8 ⟨h9, h10, Or.inl (by decide)⟩ ?_
  refine w_aload_n cd_172_51 rfl ?_
  refine w_lload_n cd_172_52 rfl ?_
  refine w_lload_n cd_172_53 rfl ?_
  refine w_aload_n cd_172_54 rfl ?_
  refine w_getfield cd_172_55 (show mt_f 12 258 = some (12, 59) by decide +kernel) h12 h13 h15 ?_
  exact w_invokevirtual cd_172_58 (show mt_m 12 529 = some (174, 0) by decide +kernel) (rest := []) rfl (as := [.ref l1, .long l2, .long l3, .int x14]) rfl h17 (Or.inl h18) ⟨Nat.le_of_ble_eq_true rfl, Nat.le_of_ble_eq_true rfl, Nat.le_of_ble_eq_true rfl⟩ h19
theorem b_172_61 {d : Nat} {Q : (Option Value ⊕ Nat) → mi_H → Prop} (n sl : Nat) (f : Nat → mi_C) {l1 : Nat} {l2 : Int64} {l3 : Int64} {o4 : Option Value} {o5 : Option Value} {s6 : Int32} {fs7 : List Value} (h8 : f l1 = .inr (12, fs7)) (h9 : l1 < n) (h10 : 59 < fs7.length) (h11 : ¬ s6 = (0 : Int32) → mi_W d 172 79 [some (.ref l1), some (.long l2), none, some (.long l3), none, some (.int s6), o5] [] (n, sl, (va_up f l1 (.inr (12, fs7.set 59 (.int 0))))) Q) (h12 : ¬ (¬ s6 = (0 : Int32)) → mi_W d 172 73 [some (.ref l1), some (.long l2), none, some (.long l3), none, some (.int s6), o5] [] (n, sl, (va_up f l1 (.inr (12, fs7.set 59 (.int 0))))) Q) : mi_W d 172 61 [some (.ref l1), some (.long l2), none, some (.long l3), none, o4, o5] [.int s6] (n, sl, f) Q := by
  refine w_istore (ls' := [some (.ref l1), some (.long l2), none, some (.long l3), none, some (.int s6), o5]) cd_172_61 (Nat.le_of_ble_eq_true rfl) rfl ?_
  refine w_aload_n cd_172_63 rfl ?_
  refine w_iconst (v := 0) cd_172_64 (by decide) ?_
  refine w_putfield (w := .int 0) cd_172_65 (show mt_f 12 258 = some (12, 59) by decide +kernel) h8 h9 ⟨h10, rfl, Or.inl (by decide)⟩ ?_
  refine w_iload cd_172_68 rfl ?_
  exact w_ifne cd_172_70 (by decide) h11 h12
theorem b_172_73 {d : Nat} {Q : (Option Value ⊕ Nat) → mi_H → Prop} (n sl : Nat) (f : Nat → mi_C) {l1 : Nat} {l2 : Int64} {l3 : Int64} {l4 : Int32} {o5 : Option Value} {fs6 : List Value} (h7 : f l1 = .inr (12, fs6)) (h8 : l1 < n) (h9 : mi_W d 185 0 (mi_en 6 [.ref l1]) [] (n, sl, f) (mi_Kc d 172 74 [some (.ref l1), some (.long l2), none, some (.long l3), none, some (.int l4), o5] [] Q)) : mi_W (d + 1) 172 73 [some (.ref l1), some (.long l2), none, some (.long l3), none, some (.int l4), o5] [] (n, sl, f) Q := by
  refine w_aload_n cd_172_73 rfl ?_
  exact w_invokevirtual cd_172_74 (show mt_m 12 533 = some (185, 0) by decide +kernel) (rest := []) rfl (as := [.ref l1]) rfl h7 (Or.inl h8) ⟨Nat.le_of_ble_eq_true rfl, Nat.le_of_ble_eq_true rfl, Nat.le_of_ble_eq_true rfl⟩ h9
theorem b_172_77 {d : Nat} {Q : (Option Value ⊕ Nat) → mi_H → Prop} (n sl : Nat) (f : Nat → mi_C) {l1 : Nat} {l2 : Int64} {l3 : Int64} {l4 : Int32} {o5 : Option Value} {s6 : Int32} (h7 : mi_W d 172 79 [some (.ref l1), some (.long l2), none, some (.long l3), none, some (.int s6), o5] [] (n, sl, f) Q) : mi_W d 172 77 [some (.ref l1), some (.long l2), none, some (.long l3), none, some (.int l4), o5] [.int s6] (n, sl, f) Q := by
  refine w_istore (ls' := [some (.ref l1), some (.long l2), none, some (.long l3), none, some (.int s6), o5]) cd_172_77 (Nat.le_of_ble_eq_true rfl) rfl ?_
  exact h7
theorem b_172_79 {d : Nat} {Q : (Option Value ⊕ Nat) → mi_H → Prop} (n sl : Nat) (f : Nat → mi_C) {l1 : Nat} {l2 : Int64} {l3 : Int64} {l4 : Int32} {o5 : Option Value} (h6 : ¬ l4 = (0 : Int32) → mi_W d 172 98 [some (.ref l1), some (.long l2), none, some (.long l3), none, some (.int l4), o5] [] (n, sl, f) Q) (h7 : ¬ (¬ l4 = (0 : Int32)) → mi_W d 172 84 [some (.ref l1), some (.long l2), none, some (.long l3), none, some (.int l4), o5] [] (n, sl, f) Q) : mi_W d 172 79 [some (.ref l1), some (.long l2), none, some (.long l3), none, some (.int l4), o5] [] (n, sl, f) Q := by
  refine w_iload cd_172_79 rfl ?_
  exact w_ifne cd_172_81 (by decide) h6 h7
theorem b_172_84 {d : Nat} {Q : (Option Value ⊕ Nat) → mi_H → Prop} (n sl : Nat) (f : Nat → mi_C) {l1 : Nat} {l2 : Int64} {l3 : Int64} {l4 : Int32} {o5 : Option Value} {fs6 : List Value} {x9 : Nat} {fs11 : List Value} {x14 : Nat} {fs16 : List Value} (h7 : f l1 = .inr (12, fs6)) (h8 : l1 < n) (h10 : fs6[41]? = some (.ref x9)) (h12 : f l1 = .inr (12, fs11)) (h13 : l1 < n) (h15 : fs11[42]? = some (.ref x14)) (h17 : f x9 = .inr (13, fs16)) (h18 : x9 < n) (h19 : mi_W d 173 0 (mi_en 3 [.ref x9, .ref x14]) [] (n, sl, f) (mi_Kc d 172 92 [some (.ref l1), some (.long l2), none, some (.long l3), none, some (.int l4), o5] [] Q)) : mi_W (d + 1) 172 84 [some (.ref l1), some (.long l2), none, some (.long l3), none, some (.int l4), o5] [] (n, sl, f) Q := by
  refine w_aload_n cd_172_84 rfl ?_
  refine w_getfield cd_172_85 (show mt_f 12 147 = some (12, 41) by decide +kernel) h7 h8 h10 ?_
  refine w_aload_n cd_172_88 rfl ?_
  refine w_getfield cd_172_89 (show mt_f 12 151 = some (12, 42) by decide +kernel) h12 h13 h15 ?_
  exact w_invokevirtual cd_172_92 (show mt_m 12 525 = some (173, 0) by decide +kernel) (rest := []) rfl (as := [.ref x9, .ref x14]) rfl h17 (Or.inl h18) ⟨Nat.le_of_ble_eq_true rfl, Nat.le_of_ble_eq_true rfl, Nat.le_of_ble_eq_true rfl⟩ h19
theorem b_172_95 {d : Nat} {Q : (Option Value ⊕ Nat) → mi_H → Prop} (n sl : Nat) (f : Nat → mi_C) {l1 : Nat} {l2 : Int64} {l3 : Int64} {l4 : Int32} {o5 : Option Value} (h6 : mi_W d 172 108 [some (.ref l1), some (.long l2), none, some (.long l3), none, some (.int l4), o5] [] (n, sl, f) Q) : mi_W d 172 95 [some (.ref l1), some (.long l2), none, some (.long l3), none, some (.int l4), o5] [] (n, sl, f) Q := by
  exact w_goto cd_172_95 (by decide) h6
theorem b_172_98 {d : Nat} {Q : (Option Value ⊕ Nat) → mi_H → Prop} (n sl : Nat) (f : Nat → mi_C) {l1 : Nat} {l2 : Int64} {l3 : Int64} {l4 : Int32} {o5 : Option Value} {fs6 : List Value} {fs10 : List Value} (h7 : f l1 = .inr (12, fs6)) (h8 : l1 < n) (h9 : 47 < fs6.length) (h11 : (va_up f l1 (.inr (12, fs6.set 47 (.int 0)))) l1 = .inr (12, fs10)) (h12 : l1 < n) (h13 : 48 < fs10.length) (h14 : mi_W d 172 108 [some (.ref l1), some (.long l2), none, some (.long l3), none, some (.int l4), o5] [] (n, sl, (va_up (va_up f l1 (.inr (12, fs6.set 47 (.int 0)))) l1 (.inr (12, fs10.set 48 (.int 0))))) Q) : mi_W d 172 98 [some (.ref l1), some (.long l2), none, some (.long l3), none, some (.int l4), o5] [] (n, sl, f) Q := by
  refine w_aload_n cd_172_98 rfl ?_
  refine w_iconst (v := 0) cd_172_99 (by decide) ?_
  refine w_putfield (w := .int 0) cd_172_100 (show mt_f 12 490 = some (12, 47) by decide +kernel) h7 h8 ⟨h9, rfl, Or.inl (by decide)⟩ ?_
  refine w_aload_n cd_172_103 rfl ?_
  refine w_iconst (v := 0) cd_172_104 (by decide) ?_
  refine w_putfield (w := .int 0) cd_172_105 (show mt_f 12 493 = some (12, 48) by decide +kernel) h11 h12 ⟨h13, rfl, Or.inl (by decide)⟩ ?_
  exact h14
theorem b_172_108 {d : Nat} {Q : (Option Value ⊕ Nat) → mi_H → Prop} (n sl : Nat) (f : Nat → mi_C) {l1 : Nat} {l2 : Int64} {l3 : Int64} {l4 : Int32} {o5 : Option Value} {fs6 : List Value} {x9 : Int32} {fs11 : List Value} {fs15 : List Value} {x18 : Int32} {fs20 : List Value} (h7 : f l1 = .inr (12, fs6)) (h8 : l1 < n) (h10 : fs6[47]? = some (.int x9)) (h12 : f l1 = .inr (12, fs11)) (h13 : l1 < n) (h14 : 65 < fs11.length) (h16 : (va_up f l1 (.inr (12, fs11.set 65 (.int x9)))) l1 = .inr (12, fs15)) (h17 : l1 < n) (h19 : fs15[48]? = some (.int x18)) (h21 : (va_up f l1 (.inr (12, fs11.set 65 (.int x9)))) l1 = .inr (12, fs20)) (h22 : l1 < n) (h23 : 66 < fs20.length) (h24 : mi_W d 172 127 [some (.ref l1), some (.long l2), none, some (.long l3), none, some (.int l4), some (.int 0)] [] (n, sl, (va_up (va_up f l1 (.inr (12, fs11.set 65 (.int x9)))) l1 (.inr (12, fs20.set 66 (.int x18))))) Q) : mi_W d 172 108 [some (.ref l1), some (.long l2), none, some (.long l3), none, some (.int l4), o5] [] (n, sl, f) Q := by
  refine w_aload_n cd_172_108 rfl ?_
  refine w_aload_n cd_172_109 rfl ?_
  refine w_getfield cd_172_110 (show mt_f 12 490 = some (12, 47) by decide +kernel) h7 h8 h10 ?_
  refine w_putfield (w := .int x9) cd_172_113 (show mt_f 12 536 = some (12, 65) by decide +kernel) h12 h13 ⟨h14, rfl, Or.inl (by decide)⟩ ?_
  refine w_aload_n cd_172_116 rfl ?_
  refine w_aload_n cd_172_117 rfl ?_
  refine w_getfield cd_172_118 (show mt_f 12 493 = some (12, 48) by decide +kernel) h16 h17 h19 ?_
  refine w_putfield (w := .int x18) cd_172_121 (show mt_f 12 539 = some (12, 66) by decide +kernel) h21 h22 ⟨h23, rfl, Or.inl (by decide)⟩ ?_
  refine w_iconst (v := 0) cd_172_124 (by decide) ?_
  refine w_istore (ls' := [some (.ref l1), some (.long l2), none, some (.long l3), none, some (.int l4), some (.int 0)]) cd_172_125 (Nat.le_of_ble_eq_true rfl) rfl ?_
  exact h24
theorem b_172_127 {d : Nat} {Q : (Option Value ⊕ Nat) → mi_H → Prop} (n sl : Nat) (f : Nat → mi_C) {l1 : Nat} {l2 : Int64} {l3 : Int64} {l4 : Int32} {l5 : Int32} {fs6 : List Value} {x9 : Int32} (h7 : f l1 = .inr (12, fs6)) (h8 : l1 < n) (h10 : fs6[47]? = some (.int x9)) (h11 : x9 ≤ l5 → mi_W d 172 170 [some (.ref l1), some (.long l2), none, some (.long l3), none, some (.int l4), some (.int l5)] [] (n, sl, f) Q) (h12 : ¬ (x9 ≤ l5) → mi_W d 172 136 [some (.ref l1), some (.long l2), none, some (.long l3), none, some (.int l4), some (.int l5)] [] (n, sl, f) Q) : mi_W d 172 127 [some (.ref l1), some (.long l2), none, some (.long l3), none, some (.int l4), some (.int l5)] [] (n, sl, f) Q := by
  refine w_iload cd_172_127 rfl ?_
  refine w_aload_n cd_172_129 rfl ?_
  refine w_getfield cd_172_130 (show mt_f 12 490 = some (12, 47) by decide +kernel) h7 h8 h10 ?_
  exact w_if_icmpge cd_172_133 (by decide) h11 h12
theorem b_172_136 {d : Nat} {Q : (Option Value ⊕ Nat) → mi_H → Prop} (n sl : Nat) (f : Nat → mi_C) {l1 : Nat} {l2 : Int64} {l3 : Int64} {l4 : Int32} {l5 : Int32} {fs6 : List Value} {x9 : Nat} {fs11 : List Value} {x14 : Nat} (m16 i16 : Nat) (g16 : Nat → Int32) (m20 i20 : Nat) (g20 : Nat → Int32) {fs24 : List Value} {x27 : Nat} {fs29 : List Value} {x32 : Nat} (m34 i34 : Nat) (g34 : Nat → Int32) (m38 i38 : Nat) (g38 : Nat → Int32) (h7 : f l1 = .inr (12, fs6)) (h8 : l1 < n) (h10 : fs6[67]? = some (.ref x9)) (h12 : f l1 = .inr (12, fs11)) (h13 : l1 < n) (h15 : fs11[49]? = some (.ref x14)) (h17 : f x14 = .inl (0, m16, .inl g16)) (h18 : x14 < n ∨ x14 = mi_SC) (h19 : mi_ix l5 m16 i16) (h21 : f x9 = .inl (0, m20, .inl g20)) (h22 : x9 < n) (h23 : mi_ix l5 m20 i20) (h25 : (va_up f x9 (.inl (0, m20, .inl (upd g20 i20 (g16 i16))))) l1 = .inr (12, fs24)) (h26 : l1 < n) (h28 : fs24[68]? = some (.ref x27)) (h30 : (va_up f x9 (.inl (0, m20, .inl (upd g20 i20 (g16 i16))))) l1 = .inr (12, fs29)) (h31 : l1 < n) (h33 : fs29[50]? = some (.ref x32)) (h35 : (va_up f x9 (.inl (0, m20, .inl (upd g20 i20 (g16 i16))))) x32 = .inl (0, m34, .inl g34)) (h36 : x32 < n ∨ x32 = mi_SC) (h37 : mi_ix l5 m34 i34) (h39 : (va_up f x9 (.inl (0, m20, .inl (upd g20 i20 (g16 i16))))) x27 = .inl (0, m38, .inl g38)) (h40 : x27 < n) (h41 : mi_ix l5 m38 i38) (h42 : mi_W d 172 127 [some (.ref l1), some (.long l2), none, some (.long l3), none, some (.int l4), some (.int (l5 + 1))] [] (n, sl, (va_up (va_up f x9 (.inl (0, m20, .inl (upd g20 i20 (g16 i16))))) x27 (.inl (0, m38, .inl (upd g38 i38 (g34 i34)))))) Q) : mi_W d 172 136 [some (.ref l1), some (.long l2), none, some (.long l3), none, some (.int l4), some (.int l5)] [] (n, sl, f) Q := by
  refine w_aload_n cd_172_136 rfl ?_
  refine w_getfield cd_172_137 (show mt_f 12 193 = some (12, 67) by decide +kernel) h7 h8 h10 ?_
  refine w_iload cd_172_140 rfl ?_
  refine w_aload_n cd_172_142 rfl ?_
  refine w_getfield cd_172_143 (show mt_f 12 154 = some (12, 49) by decide +kernel) h12 h13 h15 ?_
  refine w_iload cd_172_146 rfl ?_
  refine w_iaload cd_172_148 h17 h18 h19 ?_
  refine w_iastore cd_172_149 h21 h22 h23 ?_
  refine w_aload_n cd_172_150 rfl ?_
  refine w_getfield cd_172_151 (show mt_f 12 196 = some (12, 68) by decide +kernel) h25 h26 h28 ?_
  refine w_iload cd_172_154 rfl ?_
  refine w_aload_n cd_172_156 rfl ?_
  refine w_getfield cd_172_157 (show mt_f 12 157 = some (12, 50) by decide +kernel) h30 h31 h33 ?_
  refine w_iload cd_172_160 rfl ?_
  refine w_iaload cd_172_162 h35 h36 h37 ?_
  refine w_iastore cd_172_163 h39 h40 h41 ?_
  refine w_iinc (v := 1) (ls' := [some (.ref l1), some (.long l2), none, some (.long l3), none, some (.int l4), some (.int (l5 + 1))]) cd_172_164 rfl (by decide) rfl ?_
  exact w_goto cd_172_167 (by decide) h42
theorem b_172_170 {d : Nat} {Q : (Option Value ⊕ Nat) → mi_H → Prop} (n sl : Nat) (f : Nat → mi_C) {l1 : Nat} {l2 : Int64} {l3 : Int64} {l4 : Int32} {l5 : Int32} (h6 : mi_W d 172 173 [some (.ref l1), some (.long l2), none, some (.long l3), none, some (.int l4), some (.int 0)] [] (n, sl, f) Q) : mi_W d 172 170 [some (.ref l1), some (.long l2), none, some (.long l3), none, some (.int l4), some (.int l5)] [] (n, sl, f) Q := by
  refine w_iconst (v := 0) cd_172_170 (by decide) ?_
  refine w_istore (ls' := [some (.ref l1), some (.long l2), none, some (.long l3), none, some (.int l4), some (.int 0)]) cd_172_171 (Nat.le_of_ble_eq_true rfl) rfl ?_
  exact h6
theorem b_172_173 {d : Nat} {Q : (Option Value ⊕ Nat) → mi_H → Prop} (n sl : Nat) (f : Nat → mi_C) {l1 : Nat} {l2 : Int64} {l3 : Int64} {l4 : Int32} {l5 : Int32} {fs6 : List Value} {x9 : Int32} (h7 : f l1 = .inr (12, fs6)) (h8 : l1 < n) (h10 : fs6[48]? = some (.int x9)) (h11 : x9 ≤ l5 → mi_W d 172 244 [some (.ref l1), some (.long l2), none, some (.long l3), none, some (.int l4), some (.int l5)] [] (n, sl, f) Q) (h12 : ¬ (x9 ≤ l5) → mi_W d 172 182 [some (.ref l1), some (.long l2), none, some (.long l3), none, some (.int l4), some (.int l5)] [] (n, sl, f) Q) : mi_W d 172 173 [some (.ref l1), some (.long l2), none, some (.long l3), none, some (.int l4), some (.int l5)] [] (n, sl, f) Q := by
  refine w_iload cd_172_173 rfl ?_
  refine w_aload_n cd_172_175 rfl ?_
  refine w_getfield cd_172_176 (show mt_f 12 493 = some (12, 48) by decide +kernel) h7 h8 h10 ?_
  exact w_if_icmpge cd_172_179 (by decide) h11 h12
theorem b_172_182 {d : Nat} {Q : (Option Value ⊕ Nat) → mi_H → Prop} (n sl : Nat) (f : Nat → mi_C) {l1 : Nat} {l2 : Int64} {l3 : Int64} {l4 : Int32} {l5 : Int32} {fs6 : List Value} {x9 : Nat} {fs11 : List Value} {x14 : Nat} (m16 i16 : Nat) (g16 : Nat → Int32) (m20 i20 : Nat) (g20 : Nat → Int32) {fs24 : List Value} {x27 : Nat} {fs29 : List Value} {x32 : Nat} (m34 i34 : Nat) (g34 : Nat → Int32) (m38 i38 : Nat) (g38 : Nat → Int32) {fs42 : List Value} {x45 : Nat} {fs47 : List Value} {x50 : Nat} (m52 i52 : Nat) (g52 : Nat → Int32) (m56 i56 : Nat) (g56 : Nat → Int32) {fs60 : List Value} {x63 : Nat} {fs65 : List Value} {x68 : Nat} (m70 i70 : Nat) (g70 : Nat → Int64) (m74 i74 : Nat) (g74 : Nat → Int64) (h7 : f l1 = .inr (12, fs6)) (h8 : l1 < n) (h10 : fs6[69]? = some (.ref x9)) (h12 : f l1 = .inr (12, fs11)) (h13 : l1 < n) (h15 : fs11[51]? = some (.ref x14)) (h17 : f x14 = .inl (0, m16, .inl g16)) (h18 : x14 < n ∨ x14 = mi_SC) (h19 : mi_ix l5 m16 i16) (h21 : f x9 = .inl (0, m20, .inl g20)) (h22 : x9 < n) (h23 : mi_ix l5 m20 i20) (h25 : (va_up f x9 (.inl (0, m20, .inl (upd g20 i20 (g16 i16))))) l1 = .inr (12, fs24)) (h26 : l1 < n) (h28 : fs24[70]? = some (.ref x27)) (h30 : (va_up f x9 (.inl (0, m20, .inl (upd g20 i20 (g16 i16))))) l1 = .inr (12, fs29)) (h31 : l1 < n) (h33 : fs29[52]? = some (.ref x32)) (h35 : (va_up f x9 (.inl (0, m20, .inl (upd g20 i20 (g16 i16))))) x32 = .inl (0, m34, .inl g34)) (h36 : x32 < n ∨ x32 = mi_SC) (h37 : mi_ix l5 m34 i34) (h39 : (va_up f x9 (.inl (0, m20, .inl (upd g20 i20 (g16 i16))))) x27 = .inl (0, m38, .inl g38)) (h40 : x27 < n) (h41 : mi_ix l5 m38 i38) (h43 : (va_up (va_up f x9 (.inl (0, m20, .inl (upd g20 i20 (g16 i16))))) x27 (.inl (0, m38, .inl (upd g38 i38 (g34 i34))))) l1 = .inr (12, fs42)) (h44 : l1 < n) (h46 : fs42[71]? = some (.ref x45)) (h48 : (va_up (va_up f x9 (.inl (0, m20, .inl (upd g20 i20 (g16 i16))))) x27 (.inl (0, m38, .inl (upd g38 i38 (g34 i34))))) l1 = .inr (12, fs47)) (h49 : l1 < n) (h51 : fs47[53]? = some (.ref x50)) (h53 : (va_up (va_up f x9 (.inl (0, m20, .inl (upd g20 i20 (g16 i16))))) x27 (.inl (0, m38, .inl (upd g38 i38 (g34 i34))))) x50 = .inl (0, m52, .inl g52)) (h54 : x50 < n ∨ x50 = mi_SC) (h55 : mi_ix l5 m52 i52) (h57 : (va_up (va_up f x9 (.inl (0, m20, .inl (upd g20 i20 (g16 i16))))) x27 (.inl (0, m38, .inl (upd g38 i38 (g34 i34))))) x45 = .inl (0, m56, .inl g56)) (h58 : x45 < n) (h59 : mi_ix l5 m56 i56) (h61 : (va_up (va_up (va_up f x9 (.inl (0, m20, .inl (upd g20 i20 (g16 i16))))) x27 (.inl (0, m38, .inl (upd g38 i38 (g34 i34))))) x45 (.inl (0, m56, .inl (upd g56 i56 (g52 i52))))) l1 = .inr (12, fs60)) (h62 : l1 < n) (h64 : fs60[72]? = some (.ref x63)) (h66 : (va_up (va_up (va_up f x9 (.inl (0, m20, .inl (upd g20 i20 (g16 i16))))) x27 (.inl (0, m38, .inl (upd g38 i38 (g34 i34))))) x45 (.inl (0, m56, .inl (upd g56 i56 (g52 i52))))) l1 = .inr (12, fs65)) (h67 : l1 < n) (h69 : fs65[54]? = some (.ref x68)) (h71 : (va_up (va_up (va_up f x9 (.inl (0, m20, .inl (upd g20 i20 (g16 i16))))) x27 (.inl (0, m38, .inl (upd g38 i38 (g34 i34))))) x45 (.inl (0, m56, .inl (upd g56 i56 (g52 i52))))) x68 = .inl (3, m70, .inr (.inl g70))) (h72 : x68 < n) (h73 : mi_ix l5 m70 i70) (h75 : (va_up (va_up (va_up f x9 (.inl (0, m20, .inl (upd g20 i20 (g16 i16))))) x27 (.inl (0, m38, .inl (upd g38 i38 (g34 i34))))) x45 (.inl (0, m56, .inl (upd g56 i56 (g52 i52))))) x63 = .inl (3, m74, .inr (.inl g74))) (h76 : x63 < n) (h77 : mi_ix l5 m74 i74) (h78 : mi_W d 172 173 [some (.ref l1), some (.long l2), none, some (.long l3), none, some (.int l4), some (.int (l5 + 1))] [] (n, sl, (va_up (va_up (va_up (va_up f x9 (.inl (0, m20, .inl (upd g20 i20 (g16 i16))))) x27 (.inl (0, m38, .inl (upd g38 i38 (g34 i34))))) x45 (.inl (0, m56, .inl (upd g56 i56 (g52 i52))))) x63 (.inl (3, m74, .inr (.inl (vp_updL g74 i74 (g70 i70))))))) Q) : mi_W d 172 182 [some (.ref l1), some (.long l2), none, some (.long l3), none, some (.int l4), some (.int l5)] [] (n, sl, f) Q := by
  refine w_aload_n cd_172_182 rfl ?_
  refine w_getfield cd_172_183 (show mt_f 12 199 = some (12, 69) by decide +kernel) h7 h8 h10 ?_
  refine w_iload cd_172_186 rfl ?_
  refine w_aload_n cd_172_188 rfl ?_
  refine w_getfield cd_172_189 (show mt_f 12 160 = some (12, 51) by decide +kernel) h12 h13 h15 ?_
  refine w_iload cd_172_192 rfl ?_
  refine w_iaload cd_172_194 h17 h18 h19 ?_
  refine w_iastore cd_172_195 h21 h22 h23 ?_
  refine w_aload_n cd_172_196 rfl ?_
  refine w_getfield cd_172_197 (show mt_f 12 202 = some (12, 70) by decide +kernel) h25 h26 h28 ?_
  refine w_iload cd_172_200 rfl ?_
  refine w_aload_n cd_172_202 rfl ?_
  refine w_getfield cd_172_203 (show mt_f 12 163 = some (12, 52) by decide +kernel) h30 h31 h33 ?_
  refine w_iload cd_172_206 rfl ?_
  refine w_iaload cd_172_208 h35 h36 h37 ?_
  refine w_iastore cd_172_209 h39 h40 h41 ?_
  refine w_aload_n cd_172_210 rfl ?_
  refine w_getfield cd_172_211 (show mt_f 12 205 = some (12, 71) by decide +kernel) h43 h44 h46 ?_
  refine w_iload cd_172_214 rfl ?_
  refine w_aload_n cd_172_216 rfl ?_
  refine w_getfield cd_172_217 (show mt_f 12 166 = some (12, 53) by decide +kernel) h48 h49 h51 ?_
  refine w_iload cd_172_220 rfl ?_
  refine w_iaload cd_172_222 h53 h54 h55 ?_
  refine w_iastore cd_172_223 h57 h58 h59 ?_
  refine w_aload_n cd_172_224 rfl ?_
  refine w_getfield cd_172_225 (show mt_f 12 208 = some (12, 72) by decide +kernel) h61 h62 h64 ?_
  refine w_iload cd_172_228 rfl ?_
  refine w_aload_n cd_172_230 rfl ?_
  refine w_getfield cd_172_231 (show mt_f 12 169 = some (12, 54) by decide +kernel) h66 h67 h69 ?_
  refine w_iload cd_172_234 rfl ?_
  refine w_laload cd_172_236 h71 h72 h73 ?_
  refine w_lastore cd_172_237 h75 h76 h77 ?_
  refine w_iinc (v := 1) (ls' := [some (.ref l1), some (.long l2), none, some (.long l3), none, some (.int l4), some (.int (l5 + 1))]) cd_172_238 rfl (by decide) rfl ?_
  exact w_goto cd_172_241 (by decide) h78
theorem b_172_244 {d : Nat} {Q : (Option Value ⊕ Nat) → mi_H → Prop} (n sl : Nat) (f : Nat → mi_C) {l1 : Nat} {l2 : Int64} {l3 : Int64} {l4 : Int32} {l5 : Int32} (h6 : Q (.inl (some (.int l4))) (n, sl, f)) : mi_W d 172 244 [some (.ref l1), some (.long l2), none, some (.long l3), none, some (.int l4), some (.int l5)] [] (n, sl, f) Q := by
  refine w_iload cd_172_244 rfl ?_
  exact w_ireturn_i cd_172_246 (by decide +kernel) h6
/-! MarloweHostModel$State.copy(LMarloweHostModel$State;)V -/
set_option maxRecDepth 100000 in
theorem mq_173 : mt_q 173 = my_173 := rfl
set_option maxRecDepth 100000 in
theorem ci_173 : mt_inc 0 my_173.cd = true := by decide +kernel
theorem cd_173_0 : mt_cd 173 0 = some (.aload_n 0) := mt_cd_of (q := (0, .aload_n 0, 1)) mq_173 ci_173 (List.mem_of_getElem? (i := 0) rfl)
theorem cd_173_1 : mt_cd 173 1 = some (.aload_n 1) := mt_cd_of (q := (1, .aload_n 1, 1)) mq_173 ci_173 (List.mem_of_getElem? (i := 1) rfl)
theorem cd_173_2 : mt_cd 173 2 = some (.getfield 28) := mt_cd_of (q := (2, .getfield 28, 3)) mq_173 ci_173 (List.mem_of_getElem? (i := 2) rfl)
theorem cd_173_5 : mt_cd 173 5 = some (.putfield 28) := mt_cd_of (q := (5, .putfield 28, 3)) mq_173 ci_173 (List.mem_of_getElem? (i := 3) rfl)
theorem cd_173_8 : mt_cd 173 8 = some (.aload_n 0) := mt_cd_of (q := (8, .aload_n 0, 1)) mq_173 ci_173 (List.mem_of_getElem? (i := 4) rfl)
theorem cd_173_9 : mt_cd 173 9 = some (.aload_n 1) := mt_cd_of (q := (9, .aload_n 1, 1)) mq_173 ci_173 (List.mem_of_getElem? (i := 5) rfl)
theorem cd_173_10 : mt_cd 173 10 = some (.getfield 32) := mt_cd_of (q := (10, .getfield 32, 3)) mq_173 ci_173 (List.mem_of_getElem? (i := 6) rfl)
theorem cd_173_13 : mt_cd 173 13 = some (.putfield 32) := mt_cd_of (q := (13, .putfield 32, 3)) mq_173 ci_173 (List.mem_of_getElem? (i := 7) rfl)
theorem cd_173_16 : mt_cd 173 16 = some (.iconst 0) := mt_cd_of (q := (16, .iconst 0, 1)) mq_173 ci_173 (List.mem_of_getElem? (i := 8) rfl)
theorem cd_173_17 : mt_cd 173 17 = some (.istore_n 2) := mt_cd_of (q := (17, .istore_n 2, 1)) mq_173 ci_173 (List.mem_of_getElem? (i := 9) rfl)
theorem cd_173_18 : mt_cd 173 18 = some (.iload_n 2) := mt_cd_of (q := (18, .iload_n 2, 1)) mq_173 ci_173 (List.mem_of_getElem? (i := 10) rfl)
theorem cd_173_19 : mt_cd 173 19 = some (.bipush 32) := mt_cd_of (q := (19, .bipush 32, 2)) mq_173 ci_173 (List.mem_of_getElem? (i := 11) rfl)
theorem cd_173_21 : mt_cd 173 21 = some (.if_icmp .ge 21) := mt_cd_of (q := (21, .if_icmp .ge 21, 3)) mq_173 ci_173 (List.mem_of_getElem? (i := 12) rfl)
theorem cd_173_24 : mt_cd 173 24 = some (.aload_n 0) := mt_cd_of (q := (24, .aload_n 0, 1)) mq_173 ci_173 (List.mem_of_getElem? (i := 13) rfl)
theorem cd_173_25 : mt_cd 173 25 = some (.getfield 9) := mt_cd_of (q := (25, .getfield 9, 3)) mq_173 ci_173 (List.mem_of_getElem? (i := 14) rfl)
theorem cd_173_28 : mt_cd 173 28 = some (.iload_n 2) := mt_cd_of (q := (28, .iload_n 2, 1)) mq_173 ci_173 (List.mem_of_getElem? (i := 15) rfl)
theorem cd_173_29 : mt_cd 173 29 = some (.aload_n 1) := mt_cd_of (q := (29, .aload_n 1, 1)) mq_173 ci_173 (List.mem_of_getElem? (i := 16) rfl)
theorem cd_173_30 : mt_cd 173 30 = some (.getfield 9) := mt_cd_of (q := (30, .getfield 9, 3)) mq_173 ci_173 (List.mem_of_getElem? (i := 17) rfl)
theorem cd_173_33 : mt_cd 173 33 = some (.iload_n 2) := mt_cd_of (q := (33, .iload_n 2, 1)) mq_173 ci_173 (List.mem_of_getElem? (i := 18) rfl)
theorem cd_173_34 : mt_cd 173 34 = some (.laload) := mt_cd_of (q := (34, .laload, 1)) mq_173 ci_173 (List.mem_of_getElem? (i := 19) rfl)
theorem cd_173_35 : mt_cd 173 35 = some (.lastore) := mt_cd_of (q := (35, .lastore, 1)) mq_173 ci_173 (List.mem_of_getElem? (i := 20) rfl)
theorem cd_173_36 : mt_cd 173 36 = some (.iinc 2 1) := mt_cd_of (q := (36, .iinc 2 1, 3)) mq_173 ci_173 (List.mem_of_getElem? (i := 21) rfl)
theorem cd_173_39 : mt_cd 173 39 = some (.goto (-21)) := mt_cd_of (q := (39, .goto (-21), 3)) mq_173 ci_173 (List.mem_of_getElem? (i := 22) rfl)
theorem cd_173_42 : mt_cd 173 42 = some (.iconst 0) := mt_cd_of (q := (42, .iconst 0, 1)) mq_173 ci_173 (List.mem_of_getElem? (i := 23) rfl)
theorem cd_173_43 : mt_cd 173 43 = some (.istore_n 2) := mt_cd_of (q := (43, .istore_n 2, 1)) mq_173 ci_173 (List.mem_of_getElem? (i := 24) rfl)
theorem cd_173_44 : mt_cd 173 44 = some (.iload_n 2) := mt_cd_of (q := (44, .iload_n 2, 1)) mq_173 ci_173 (List.mem_of_getElem? (i := 25) rfl)
theorem cd_173_45 : mt_cd 173 45 = some (.bipush 8) := mt_cd_of (q := (45, .bipush 8, 2)) mq_173 ci_173 (List.mem_of_getElem? (i := 26) rfl)
theorem cd_173_47 : mt_cd 173 47 = some (.if_icmp .ge 57) := mt_cd_of (q := (47, .if_icmp .ge 57, 3)) mq_173 ci_173 (List.mem_of_getElem? (i := 27) rfl)
theorem cd_173_50 : mt_cd 173 50 = some (.aload_n 0) := mt_cd_of (q := (50, .aload_n 0, 1)) mq_173 ci_173 (List.mem_of_getElem? (i := 28) rfl)
theorem cd_173_51 : mt_cd 173 51 = some (.getfield 15) := mt_cd_of (q := (51, .getfield 15, 3)) mq_173 ci_173 (List.mem_of_getElem? (i := 29) rfl)
theorem cd_173_54 : mt_cd 173 54 = some (.iload_n 2) := mt_cd_of (q := (54, .iload_n 2, 1)) mq_173 ci_173 (List.mem_of_getElem? (i := 30) rfl)
theorem cd_173_55 : mt_cd 173 55 = some (.aload_n 1) := mt_cd_of (q := (55, .aload_n 1, 1)) mq_173 ci_173 (List.mem_of_getElem? (i := 31) rfl)
theorem cd_173_56 : mt_cd 173 56 = some (.getfield 15) := mt_cd_of (q := (56, .getfield 15, 3)) mq_173 ci_173 (List.mem_of_getElem? (i := 32) rfl)
theorem cd_173_59 : mt_cd 173 59 = some (.iload_n 2) := mt_cd_of (q := (59, .iload_n 2, 1)) mq_173 ci_173 (List.mem_of_getElem? (i := 33) rfl)
theorem cd_173_60 : mt_cd 173 60 = some (.laload) := mt_cd_of (q := (60, .laload, 1)) mq_173 ci_173 (List.mem_of_getElem? (i := 34) rfl)
theorem cd_173_61 : mt_cd 173 61 = some (.lastore) := mt_cd_of (q := (61, .lastore, 1)) mq_173 ci_173 (List.mem_of_getElem? (i := 35) rfl)
theorem cd_173_62 : mt_cd 173 62 = some (.aload_n 0) := mt_cd_of (q := (62, .aload_n 0, 1)) mq_173 ci_173 (List.mem_of_getElem? (i := 36) rfl)
theorem cd_173_63 : mt_cd 173 63 = some (.getfield 18) := mt_cd_of (q := (63, .getfield 18, 3)) mq_173 ci_173 (List.mem_of_getElem? (i := 37) rfl)
theorem cd_173_66 : mt_cd 173 66 = some (.iload_n 2) := mt_cd_of (q := (66, .iload_n 2, 1)) mq_173 ci_173 (List.mem_of_getElem? (i := 38) rfl)
theorem cd_173_67 : mt_cd 173 67 = some (.aload_n 1) := mt_cd_of (q := (67, .aload_n 1, 1)) mq_173 ci_173 (List.mem_of_getElem? (i := 39) rfl)
theorem cd_173_68 : mt_cd 173 68 = some (.getfield 18) := mt_cd_of (q := (68, .getfield 18, 3)) mq_173 ci_173 (List.mem_of_getElem? (i := 40) rfl)
theorem cd_173_71 : mt_cd 173 71 = some (.iload_n 2) := mt_cd_of (q := (71, .iload_n 2, 1)) mq_173 ci_173 (List.mem_of_getElem? (i := 41) rfl)
theorem cd_173_72 : mt_cd 173 72 = some (.laload) := mt_cd_of (q := (72, .laload, 1)) mq_173 ci_173 (List.mem_of_getElem? (i := 42) rfl)
theorem cd_173_73 : mt_cd 173 73 = some (.lastore) := mt_cd_of (q := (73, .lastore, 1)) mq_173 ci_173 (List.mem_of_getElem? (i := 43) rfl)
theorem cd_173_74 : mt_cd 173 74 = some (.aload_n 0) := mt_cd_of (q := (74, .aload_n 0, 1)) mq_173 ci_173 (List.mem_of_getElem? (i := 44) rfl)
theorem cd_173_75 : mt_cd 173 75 = some (.getfield 21) := mt_cd_of (q := (75, .getfield 21, 3)) mq_173 ci_173 (List.mem_of_getElem? (i := 45) rfl)
theorem cd_173_78 : mt_cd 173 78 = some (.iload_n 2) := mt_cd_of (q := (78, .iload_n 2, 1)) mq_173 ci_173 (List.mem_of_getElem? (i := 46) rfl)
theorem cd_173_79 : mt_cd 173 79 = some (.aload_n 1) := mt_cd_of (q := (79, .aload_n 1, 1)) mq_173 ci_173 (List.mem_of_getElem? (i := 47) rfl)
theorem cd_173_80 : mt_cd 173 80 = some (.getfield 21) := mt_cd_of (q := (80, .getfield 21, 3)) mq_173 ci_173 (List.mem_of_getElem? (i := 48) rfl)
theorem cd_173_83 : mt_cd 173 83 = some (.iload_n 2) := mt_cd_of (q := (83, .iload_n 2, 1)) mq_173 ci_173 (List.mem_of_getElem? (i := 49) rfl)
theorem cd_173_84 : mt_cd 173 84 = some (.baload) := mt_cd_of (q := (84, .baload, 1)) mq_173 ci_173 (List.mem_of_getElem? (i := 50) rfl)
theorem cd_173_85 : mt_cd 173 85 = some (.bastore) := mt_cd_of (q := (85, .bastore, 1)) mq_173 ci_173 (List.mem_of_getElem? (i := 51) rfl)
theorem cd_173_86 : mt_cd 173 86 = some (.aload_n 0) := mt_cd_of (q := (86, .aload_n 0, 1)) mq_173 ci_173 (List.mem_of_getElem? (i := 52) rfl)
theorem cd_173_87 : mt_cd 173 87 = some (.getfield 25) := mt_cd_of (q := (87, .getfield 25, 3)) mq_173 ci_173 (List.mem_of_getElem? (i := 53) rfl)
theorem cd_173_90 : mt_cd 173 90 = some (.iload_n 2) := mt_cd_of (q := (90, .iload_n 2, 1)) mq_173 ci_173 (List.mem_of_getElem? (i := 54) rfl)
theorem cd_173_91 : mt_cd 173 91 = some (.aload_n 1) := mt_cd_of (q := (91, .aload_n 1, 1)) mq_173 ci_173 (List.mem_of_getElem? (i := 55) rfl)
theorem cd_173_92 : mt_cd 173 92 = some (.getfield 25) := mt_cd_of (q := (92, .getfield 25, 3)) mq_173 ci_173 (List.mem_of_getElem? (i := 56) rfl)
theorem cd_173_95 : mt_cd 173 95 = some (.iload_n 2) := mt_cd_of (q := (95, .iload_n 2, 1)) mq_173 ci_173 (List.mem_of_getElem? (i := 57) rfl)
theorem cd_173_96 : mt_cd 173 96 = some (.baload) := mt_cd_of (q := (96, .baload, 1)) mq_173 ci_173 (List.mem_of_getElem? (i := 58) rfl)
theorem cd_173_97 : mt_cd 173 97 = some (.bastore) := mt_cd_of (q := (97, .bastore, 1)) mq_173 ci_173 (List.mem_of_getElem? (i := 59) rfl)
theorem cd_173_98 : mt_cd 173 98 = some (.iinc 2 1) := mt_cd_of (q := (98, .iinc 2 1, 3)) mq_173 ci_173 (List.mem_of_getElem? (i := 60) rfl)
theorem cd_173_101 : mt_cd 173 101 = some (.goto (-57)) := mt_cd_of (q := (101, .goto (-57), 3)) mq_173 ci_173 (List.mem_of_getElem? (i := 61) rfl)
theorem cd_173_104 : mt_cd 173 104 = some (.return_) := mt_cd_of (q := (104, .return_, 1)) mq_173 ci_173 (List.mem_of_getElem? (i := 62) rfl)
theorem b_173_0 {d : Nat} {Q : (Option Value ⊕ Nat) → mi_H → Prop} (n sl : Nat) (f : Nat → mi_C) {l1 : Nat} {l2 : Nat} {o3 : Option Value} {fs4 : List Value} {x7 : Int32} {fs9 : List Value} {fs13 : List Value} {x16 : Int64} {fs18 : List Value} (h5 : f l2 = .inr (13, fs4)) (h6 : l2 < n) (h8 : fs4[0]? = some (.int x7)) (h10 : f l1 = .inr (13, fs9)) (h11 : l1 < n) (h12 : 0 < fs9.length) (h14 : (va_up f l1 (.inr (13, fs9.set 0 (.int x7)))) l2 = .inr (13, fs13)) (h15 : l2 < n) (h17 : fs13[1]? = some (.long x16)) (h19 : (va_up f l1 (.inr (13, fs9.set 0 (.int x7)))) l1 = .inr (13, fs18)) (h20 : l1 < n) (h21 : 1 < fs18.length) (h22 : mi_W d 173 18 [some (.ref l1), some (.ref l2), some (.int 0)] [] (n, sl, (va_up (va_up f l1 (.inr (13, fs9.set 0 (.int x7)))) l1 (.inr (13, fs18.set 1 (.long x16))))) Q) : mi_W d 173 0 [some (.ref l1), some (.ref l2), o3] [] (n, sl, f) Q := by
  refine w_aload_n cd_173_0 rfl ?_
  refine w_aload_n cd_173_1 rfl ?_
  refine w_getfield cd_173_2 (show mt_f 13 28 = some (13, 0) by decide +kernel) h5 h6 h8 ?_
  refine w_putfield (w := .int x7) cd_173_5 (show mt_f 13 28 = some (13, 0) by decide +kernel) h10 h11 ⟨h12, rfl, Or.inl (by decide)⟩ ?_
  refine w_aload_n cd_173_8 rfl ?_
  refine w_aload_n cd_173_9 rfl ?_
  refine w_getfield cd_173_10 (show mt_f 13 32 = some (13, 1) by decide +kernel) h14 h15 h17 ?_
  refine w_putfield (w := .long x16) cd_173_13 (show mt_f 13 32 = some (13, 1) by decide +kernel) h19 h20 ⟨h21, rfl, Or.inl (by decide)⟩ ?_
  refine w_iconst (v := 0) cd_173_16 (by decide) ?_
  refine w_istore_n (ls' := [some (.ref l1), some (.ref l2), some (.int 0)]) cd_173_17 (Nat.le_of_ble_eq_true rfl) rfl ?_
  exact h22
theorem b_173_18 {d : Nat} {Q : (Option Value ⊕ Nat) → mi_H → Prop} (n sl : Nat) (f : Nat → mi_C) {l1 : Nat} {l2 : Nat} {l3 : Int32} (h4 : 32 ≤ l3 → mi_W d 173 42 [some (.ref l1), some (.ref l2), some (.int l3)] [] (n, sl, f) Q) (h5 : ¬ (32 ≤ l3) → mi_W d 173 24 [some (.ref l1), some (.ref l2), some (.int l3)] [] (n, sl, f) Q) : mi_W d 173 18 [some (.ref l1), some (.ref l2), some (.int l3)] [] (n, sl, f) Q := by
  refine w_iload_n cd_173_18 rfl ?_
  refine w_bipush (v := 32) cd_173_19 (by decide) ?_
  exact w_if_icmpge cd_173_21 (by decide) h4 h5
theorem b_173_24 {d : Nat} {Q : (Option Value ⊕ Nat) → mi_H → Prop} (n sl : Nat) (f : Nat → mi_C) {l1 : Nat} {l2 : Nat} {l3 : Int32} {fs4 : List Value} {x7 : Nat} {fs9 : List Value} {x12 : Nat} (m14 i14 : Nat) (g14 : Nat → Int64) (m18 i18 : Nat) (g18 : Nat → Int64) (h5 : f l1 = .inr (13, fs4)) (h6 : l1 < n) (h8 : fs4[2]? = some (.ref x7)) (h10 : f l2 = .inr (13, fs9)) (h11 : l2 < n) (h13 : fs9[2]? = some (.ref x12)) (h15 : f x12 = .inl (3, m14, .inr (.inl g14))) (h16 : x12 < n) (h17 : mi_ix l3 m14 i14) (h19 : f x7 = .inl (3, m18, .inr (.inl g18))) (h20 : x7 < n) (h21 : mi_ix l3 m18 i18) (h22 : mi_W d 173 18 [some (.ref l1), some (.ref l2), some (.int (l3 + 1))] [] (n, sl, (va_up f x7 (.inl (3, m18, .inr (.inl (vp_updL g18 i18 (g14 i14))))))) Q) : mi_W d 173 24 [some (.ref l1), some (.ref l2), some (.int l3)] [] (n, sl, f) Q := by
  refine w_aload_n cd_173_24 rfl ?_
  refine w_getfield cd_173_25 (show mt_f 13 9 = some (13, 2) by decide +kernel) h5 h6 h8 ?_
  refine w_iload_n cd_173_28 rfl ?_
  refine w_aload_n cd_173_29 rfl ?_
  refine w_getfield cd_173_30 (show mt_f 13 9 = some (13, 2) by decide +kernel) h10 h11 h13 ?_
  refine w_iload_n cd_173_33 rfl ?_
  refine w_laload cd_173_34 h15 h16 h17 ?_
  refine w_lastore cd_173_35 h19 h20 h21 ?_
  refine w_iinc (v := 1) (ls' := [some (.ref l1), some (.ref l2), some (.int (l3 + 1))]) cd_173_36 rfl (by decide) rfl ?_
  exact w_goto cd_173_39 (by decide) h22
theorem b_173_42 {d : Nat} {Q : (Option Value ⊕ Nat) → mi_H → Prop} (n sl : Nat) (f : Nat → mi_C) {l1 : Nat} {l2 : Nat} {l3 : Int32} (h4 : mi_W d 173 44 [some (.ref l1), some (.ref l2), some (.int 0)] [] (n, sl, f) Q) : mi_W d 173 42 [some (.ref l1), some (.ref l2), some (.int l3)] [] (n, sl, f) Q := by
  refine w_iconst (v := 0) cd_173_42 (by decide) ?_
  refine w_istore_n (ls' := [some (.ref l1), some (.ref l2), some (.int 0)]) cd_173_43 (Nat.le_of_ble_eq_true rfl) rfl ?_
  exact h4
theorem b_173_44 {d : Nat} {Q : (Option Value ⊕ Nat) → mi_H → Prop} (n sl : Nat) (f : Nat → mi_C) {l1 : Nat} {l2 : Nat} {l3 : Int32} (h4 : 8 ≤ l3 → mi_W d 173 104 [some (.ref l1), some (.ref l2), some (.int l3)] [] (n, sl, f) Q) (h5 : ¬ (8 ≤ l3) → mi_W d 173 50 [some (.ref l1), some (.ref l2), some (.int l3)] [] (n, sl, f) Q) : mi_W d 173 44 [some (.ref l1), some (.ref l2), some (.int l3)] [] (n, sl, f) Q := by
  refine w_iload_n cd_173_44 rfl ?_
  refine w_bipush (v := 8) cd_173_45 (by decide) ?_
  exact w_if_icmpge cd_173_47 (by decide) h4 h5
theorem b_173_50 {d : Nat} {Q : (Option Value ⊕ Nat) → mi_H → Prop} (n sl : Nat) (f : Nat → mi_C) {l1 : Nat} {l2 : Nat} {l3 : Int32} {fs4 : List Value} {x7 : Nat} {fs9 : List Value} {x12 : Nat} (m14 i14 : Nat) (g14 : Nat → Int64) (m18 i18 : Nat) (g18 : Nat → Int64) {fs22 : List Value} {x25 : Nat} {fs27 : List Value} {x30 : Nat} (m32 i32 : Nat) (g32 : Nat → Int64) (m36 i36 : Nat) (g36 : Nat → Int64) {fs40 : List Value} {x43 : Nat} {fs45 : List Value} {x48 : Nat} (m50 i50 : Nat) (g50 : Nat → Int32) (m54 i54 : Nat) (g54 : Nat → Int32) {fs58 : List Value} {x61 : Nat} {fs63 : List Value} {x66 : Nat} (m68 i68 : Nat) (g68 : Nat → Int32) (m72 i72 : Nat) (g72 : Nat → Int32) (h5 : f l1 = .inr (13, fs4)) (h6 : l1 < n) (h8 : fs4[3]? = some (.ref x7)) (h10 : f l2 = .inr (13, fs9)) (h11 : l2 < n) (h13 : fs9[3]? = some (.ref x12)) (h15 : f x12 = .inl (3, m14, .inr (.inl g14))) (h16 : x12 < n) (h17 : mi_ix l3 m14 i14) (h19 : f x7 = .inl (3, m18, .inr (.inl g18))) (h20 : x7 < n) (h21 : mi_ix l3 m18 i18) (h23 : (va_up f x7 (.inl (3, m18, .inr (.inl (vp_updL g18 i18 (g14 i14)))))) l1 = .inr (13, fs22)) (h24 : l1 < n) (h26 : fs22[4]? = some (.ref x25)) (h28 : (va_up f x7 (.inl (3, m18, .inr (.inl (vp_updL g18 i18 (g14 i14)))))) l2 = .inr (13, fs27)) (h29 : l2 < n) (h31 : fs27[4]? = some (.ref x30)) (h33 : (va_up f x7 (.inl (3, m18, .inr (.inl (vp_updL g18 i18 (g14 i14)))))) x30 = .inl (3, m32, .inr (.inl g32))) (h34 : x30 < n) (h35 : mi_ix l3 m32 i32) (h37 : (va_up f x7 (.inl (3, m18, .inr (.inl (vp_updL g18 i18 (g14 i14)))))) x25 = .inl (3, m36, .inr (.inl g36))) (h38 : x25 < n) (h39 : mi_ix l3 m36 i36) (h41 : (va_up (va_up f x7 (.inl (3, m18, .inr (.inl (vp_updL g18 i18 (g14 i14)))))) x25 (.inl (3, m36, .inr (.inl (vp_updL g36 i36 (g32 i32)))))) l1 = .inr (13, fs40)) (h42 : l1 < n) (h44 : fs40[5]? = some (.ref x43)) (h46 : (va_up (va_up f x7 (.inl (3, m18, .inr (.inl (vp_updL g18 i18 (g14 i14)))))) x25 (.inl (3, m36, .inr (.inl (vp_updL g36 i36 (g32 i32)))))) l2 = .inr (13, fs45)) (h47 : l2 < n) (h49 : fs45[5]? = some (.ref x48)) (h51 : (va_up (va_up f x7 (.inl (3, m18, .inr (.inl (vp_updL g18 i18 (g14 i14)))))) x25 (.inl (3, m36, .inr (.inl (vp_updL g36 i36 (g32 i32)))))) x48 = .inl (2, m50, .inl g50)) (h52 : x48 < n) (h53 : mi_ix l3 m50 i50) (h55 : (va_up (va_up f x7 (.inl (3, m18, .inr (.inl (vp_updL g18 i18 (g14 i14)))))) x25 (.inl (3, m36, .inr (.inl (vp_updL g36 i36 (g32 i32)))))) x43 = .inl (2, m54, .inl g54)) (h56 : x43 < n) (h57 : mi_ix l3 m54 i54) (h59 : (va_up (va_up (va_up f x7 (.inl (3, m18, .inr (.inl (vp_updL g18 i18 (g14 i14)))))) x25 (.inl (3, m36, .inr (.inl (vp_updL g36 i36 (g32 i32)))))) x43 (.inl (2, m54, .inl (upd g54 i54 (vp_nar .boolean (g50 i50)))))) l1 = .inr (13, fs58)) (h60 : l1 < n) (h62 : fs58[6]? = some (.ref x61)) (h64 : (va_up (va_up (va_up f x7 (.inl (3, m18, .inr (.inl (vp_updL g18 i18 (g14 i14)))))) x25 (.inl (3, m36, .inr (.inl (vp_updL g36 i36 (g32 i32)))))) x43 (.inl (2, m54, .inl (upd g54 i54 (vp_nar .boolean (g50 i50)))))) l2 = .inr (13, fs63)) (h65 : l2 < n) (h67 : fs63[6]? = some (.ref x66)) (h69 : (va_up (va_up (va_up f x7 (.inl (3, m18, .inr (.inl (vp_updL g18 i18 (g14 i14)))))) x25 (.inl (3, m36, .inr (.inl (vp_updL g36 i36 (g32 i32)))))) x43 (.inl (2, m54, .inl (upd g54 i54 (vp_nar .boolean (g50 i50)))))) x66 = .inl (2, m68, .inl g68)) (h70 : x66 < n) (h71 : mi_ix l3 m68 i68) (h73 : (va_up (va_up (va_up f x7 (.inl (3, m18, .inr (.inl (vp_updL g18 i18 (g14 i14)))))) x25 (.inl (3, m36, .inr (.inl (vp_updL g36 i36 (g32 i32)))))) x43 (.inl (2, m54, .inl (upd g54 i54 (vp_nar .boolean (g50 i50)))))) x61 = .inl (2, m72, .inl g72)) (h74 : x61 < n) (h75 : mi_ix l3 m72 i72) (h76 : mi_W d 173 44 [some (.ref l1), some (.ref l2), some (.int (l3 + 1))] [] (n, sl, (va_up (va_up (va_up (va_up f x7 (.inl (3, m18, .inr (.inl (vp_updL g18 i18 (g14 i14)))))) x25 (.inl (3, m36, .inr (.inl (vp_updL g36 i36 (g32 i32)))))) x43 (.inl (2, m54, .inl (upd g54 i54 (vp_nar .boolean (g50 i50)))))) x61 (.inl (2, m72, .inl (upd g72 i72 (vp_nar .boolean (g68 i68))))))) Q) : mi_W d 173 50 [some (.ref l1), some (.ref l2), some (.int l3)] [] (n, sl, f) Q := by
  refine w_aload_n cd_173_50 rfl ?_
  refine w_getfield cd_173_51 (show mt_f 13 15 = some (13, 3) by decide +kernel) h5 h6 h8 ?_
  refine w_iload_n cd_173_54 rfl ?_
  refine w_aload_n cd_173_55 rfl ?_
  refine w_getfield cd_173_56 (show mt_f 13 15 = some (13, 3) by decide +kernel) h10 h11 h13 ?_
  refine w_iload_n cd_173_59 rfl ?_
  refine w_laload cd_173_60 h15 h16 h17 ?_
  refine w_lastore cd_173_61 h19 h20 h21 ?_
  refine w_aload_n cd_173_62 rfl ?_
  refine w_getfield cd_173_63 (show mt_f 13 18 = some (13, 4) by decide +kernel) h23 h24 h26 ?_
  refine w_iload_n cd_173_66 rfl ?_
  refine w_aload_n cd_173_67 rfl ?_
  refine w_getfield cd_173_68 (show mt_f 13 18 = some (13, 4) by decide +kernel) h28 h29 h31 ?_
  refine w_iload_n cd_173_71 rfl ?_
  refine w_laload cd_173_72 h33 h34 h35 ?_
  refine w_lastore cd_173_73 h37 h38 h39 ?_
  refine w_aload_n cd_173_74 rfl ?_
  refine w_getfield cd_173_75 (show mt_f 13 21 = some (13, 5) by decide +kernel) h41 h42 h44 ?_
  refine w_iload_n cd_173_78 rfl ?_
  refine w_aload_n cd_173_79 rfl ?_
  refine w_getfield cd_173_80 (show mt_f 13 21 = some (13, 5) by decide +kernel) h46 h47 h49 ?_
  refine w_iload_n cd_173_83 rfl ?_
  refine w_baload2 cd_173_84 h51 h52 h53 ?_
  refine w_bastore2 cd_173_85 h55 h56 h57 ?_
  refine w_aload_n cd_173_86 rfl ?_
  refine w_getfield cd_173_87 (show mt_f 13 25 = some (13, 6) by decide +kernel) h59 h60 h62 ?_
  refine w_iload_n cd_173_90 rfl ?_
  refine w_aload_n cd_173_91 rfl ?_
  refine w_getfield cd_173_92 (show mt_f 13 25 = some (13, 6) by decide +kernel) h64 h65 h67 ?_
  refine w_iload_n cd_173_95 rfl ?_
  refine w_baload2 cd_173_96 h69 h70 h71 ?_
  refine w_bastore2 cd_173_97 h73 h74 h75 ?_
  refine w_iinc (v := 1) (ls' := [some (.ref l1), some (.ref l2), some (.int (l3 + 1))]) cd_173_98 rfl (by decide) rfl ?_
  exact w_goto cd_173_101 (by decide) h76
theorem b_173_104 {d : Nat} {Q : (Option Value ⊕ Nat) → mi_H → Prop} (n sl : Nat) (f : Nat → mi_C) {l1 : Nat} {l2 : Nat} {l3 : Int32} (h4 : Q (.inl none) (n, sl, f)) : mi_W d 173 104 [some (.ref l1), some (.ref l2), some (.int l3)] [] (n, sl, f) Q := by
  exact w_return cd_173_104 (by decide +kernel) h4
/-! MarloweHostModel.transact(JJI)I -/
set_option maxRecDepth 100000 in
theorem mq_174 : mt_q 174 = my_174 := rfl
set_option maxRecDepth 100000 in
theorem ci_174 : mt_inc 0 my_174.cd = true := by decide +kernel
theorem cd_174_0 : mt_cd 174 0 = some (.aload_n 0) := mt_cd_of (q := (0, .aload_n 0, 1)) mq_174 ci_174 (List.mem_of_getElem? (i := 0) rfl)
theorem cd_174_1 : mt_cd 174 1 = some (.iconst 0) := mt_cd_of (q := (1, .iconst 0, 1)) mq_174 ci_174 (List.mem_of_getElem? (i := 1) rfl)
theorem cd_174_2 : mt_cd 174 2 = some (.putfield 490) := mt_cd_of (q := (2, .putfield 490, 3)) mq_174 ci_174 (List.mem_of_getElem? (i := 2) rfl)
theorem cd_174_5 : mt_cd 174 5 = some (.aload_n 0) := mt_cd_of (q := (5, .aload_n 0, 1)) mq_174 ci_174 (List.mem_of_getElem? (i := 3) rfl)
theorem cd_174_6 : mt_cd 174 6 = some (.iconst 0) := mt_cd_of (q := (6, .iconst 0, 1)) mq_174 ci_174 (List.mem_of_getElem? (i := 4) rfl)
theorem cd_174_7 : mt_cd 174 7 = some (.putfield 493) := mt_cd_of (q := (7, .putfield 493, 3)) mq_174 ci_174 (List.mem_of_getElem? (i := 5) rfl)
theorem cd_174_10 : mt_cd 174 10 = some (.aload_n 0) := mt_cd_of (q := (10, .aload_n 0, 1)) mq_174 ci_174 (List.mem_of_getElem? (i := 6) rfl)
theorem cd_174_11 : mt_cd 174 11 = some (.iconst 0) := mt_cd_of (q := (11, .iconst 0, 1)) mq_174 ci_174 (List.mem_of_getElem? (i := 7) rfl)
theorem cd_174_12 : mt_cd 174 12 = some (.putfield 506) := mt_cd_of (q := (12, .putfield 506, 3)) mq_174 ci_174 (List.mem_of_getElem? (i := 8) rfl)
theorem cd_174_15 : mt_cd 174 15 = some (.iconst 0) := mt_cd_of (q := (15, .iconst 0, 1)) mq_174 ci_174 (List.mem_of_getElem? (i := 9) rfl)
theorem cd_174_16 : mt_cd 174 16 = some (.istore 6) := mt_cd_of (q := (16, .istore 6, 2)) mq_174 ci_174 (List.mem_of_getElem? (i := 10) rfl)
theorem cd_174_18 : mt_cd 174 18 = some (.iload 6) := mt_cd_of (q := (18, .iload 6, 2)) mq_174 ci_174 (List.mem_of_getElem? (i := 11) rfl)
theorem cd_174_20 : mt_cd 174 20 = some (.bipush 32) := mt_cd_of (q := (20, .bipush 32, 2)) mq_174 ci_174 (List.mem_of_getElem? (i := 12) rfl)
theorem cd_174_22 : mt_cd 174 22 = some (.if_icmp .ge 17) := mt_cd_of (q := (22, .if_icmp .ge 17, 3)) mq_174 ci_174 (List.mem_of_getElem? (i := 13) rfl)
theorem cd_174_25 : mt_cd 174 25 = some (.aload_n 0) := mt_cd_of (q := (25, .aload_n 0, 1)) mq_174 ci_174 (List.mem_of_getElem? (i := 14) rfl)
theorem cd_174_26 : mt_cd 174 26 = some (.getfield 172) := mt_cd_of (q := (26, .getfield 172, 3)) mq_174 ci_174 (List.mem_of_getElem? (i := 15) rfl)
theorem cd_174_29 : mt_cd 174 29 = some (.iload 6) := mt_cd_of (q := (29, .iload 6, 2)) mq_174 ci_174 (List.mem_of_getElem? (i := 16) rfl)
theorem cd_174_31 : mt_cd 174 31 = some (.lconst 0) := mt_cd_of (q := (31, .lconst 0, 1)) mq_174 ci_174 (List.mem_of_getElem? (i := 17) rfl)
theorem cd_174_32 : mt_cd 174 32 = some (.lastore) := mt_cd_of (q := (32, .lastore, 1)) mq_174 ci_174 (List.mem_of_getElem? (i := 18) rfl)
theorem cd_174_33 : mt_cd 174 33 = some (.iinc 6 1) := mt_cd_of (q := (33, .iinc 6 1, 3)) mq_174 ci_174 (List.mem_of_getElem? (i := 19) rfl)
theorem cd_174_36 : mt_cd 174 36 = some (.goto (-18)) := mt_cd_of (q := (36, .goto (-18), 3)) mq_174 ci_174 (List.mem_of_getElem? (i := 20) rfl)
theorem cd_174_39 : mt_cd 174 39 = some (.lload_n 3) := mt_cd_of (q := (39, .lload_n 3, 1)) mq_174 ci_174 (List.mem_of_getElem? (i := 21) rfl)
theorem cd_174_40 : mt_cd 174 40 = some (.lload_n 1) := mt_cd_of (q := (40, .lload_n 1, 1)) mq_174 ci_174 (List.mem_of_getElem? (i := 22) rfl)
theorem cd_174_41 : mt_cd 174 41 = some (.lcmp) := mt_cd_of (q := (41, .lcmp, 1)) mq_174 ci_174 (List.mem_of_getElem? (i := 23) rfl)
theorem cd_174_42 : mt_cd 174 42 = some (.ifCond .ge 5) := mt_cd_of (q := (42, .ifCond .ge 5, 3)) mq_174 ci_174 (List.mem_of_getElem? (i := 24) rfl)
theorem cd_174_45 : mt_cd 174 45 = some (.iconst 1) := mt_cd_of (q := (45, .iconst 1, 1)) mq_174 ci_174 (List.mem_of_getElem? (i := 25) rfl)
theorem cd_174_46 : mt_cd 174 46 = some (.ireturn) := mt_cd_of (q := (46, .ireturn, 1)) mq_174 ci_174 (List.mem_of_getElem? (i := 26) rfl)
theorem cd_174_47 : mt_cd 174 47 = some (.lload_n 3) := mt_cd_of (q := (47, .lload_n 3, 1)) mq_174 ci_174 (List.mem_of_getElem? (i := 27) rfl)
theorem cd_174_48 : mt_cd 174 48 = some (.aload_n 0) := mt_cd_of (q := (48, .aload_n 0, 1)) mq_174 ci_174 (List.mem_of_getElem? (i := 28) rfl)
theorem cd_174_49 : mt_cd 174 49 = some (.getfield 445) := mt_cd_of (q := (49, .getfield 445, 3)) mq_174 ci_174 (List.mem_of_getElem? (i := 29) rfl)
theorem cd_174_52 : mt_cd 174 52 = some (.getfield 516) := mt_cd_of (q := (52, .getfield 516, 3)) mq_174 ci_174 (List.mem_of_getElem? (i := 30) rfl)
theorem cd_174_55 : mt_cd 174 55 = some (.lcmp) := mt_cd_of (q := (55, .lcmp, 1)) mq_174 ci_174 (List.mem_of_getElem? (i := 31) rfl)
theorem cd_174_56 : mt_cd 174 56 = some (.ifCond .ge 5) := mt_cd_of (q := (56, .ifCond .ge 5, 3)) mq_174 ci_174 (List.mem_of_getElem? (i := 32) rfl)
theorem cd_174_59 : mt_cd 174 59 = some (.iconst 2) := mt_cd_of (q := (59, .iconst 2, 1)) mq_174 ci_174 (List.mem_of_getElem? (i := 33) rfl)
theorem cd_174_60 : mt_cd 174 60 = some (.ireturn) := mt_cd_of (q := (60, .ireturn, 1)) mq_174 ci_174 (List.mem_of_getElem? (i := 34) rfl)
theorem cd_174_61 : mt_cd 174 61 = some (.aload_n 0) := mt_cd_of (q := (61, .aload_n 0, 1)) mq_174 ci_174 (List.mem_of_getElem? (i := 35) rfl)
theorem cd_174_62 : mt_cd 174 62 = some (.lload_n 1) := mt_cd_of (q := (62, .lload_n 1, 1)) mq_174 ci_174 (List.mem_of_getElem? (i := 36) rfl)
theorem cd_174_63 : mt_cd 174 63 = some (.aload_n 0) := mt_cd_of (q := (63, .aload_n 0, 1)) mq_174 ci_174 (List.mem_of_getElem? (i := 37) rfl)
theorem cd_174_64 : mt_cd 174 64 = some (.getfield 445) := mt_cd_of (q := (64, .getfield 445, 3)) mq_174 ci_174 (List.mem_of_getElem? (i := 38) rfl)
theorem cd_174_67 : mt_cd 174 67 = some (.getfield 516) := mt_cd_of (q := (67, .getfield 516, 3)) mq_174 ci_174 (List.mem_of_getElem? (i := 39) rfl)
theorem cd_174_70 : mt_cd 174 70 = some (.lcmp) := mt_cd_of (q := (70, .lcmp, 1)) mq_174 ci_174 (List.mem_of_getElem? (i := 40) rfl)
theorem cd_174_71 : mt_cd 174 71 = some (.ifCond .ge 13) := mt_cd_of (q := (71, .ifCond .ge 13, 3)) mq_174 ci_174 (List.mem_of_getElem? (i := 41) rfl)
theorem cd_174_74 : mt_cd 174 74 = some (.aload_n 0) := mt_cd_of (q := (74, .aload_n 0, 1)) mq_174 ci_174 (List.mem_of_getElem? (i := 42) rfl)
theorem cd_174_75 : mt_cd 174 75 = some (.getfield 445) := mt_cd_of (q := (75, .getfield 445, 3)) mq_174 ci_174 (List.mem_of_getElem? (i := 43) rfl)
theorem cd_174_78 : mt_cd 174 78 = some (.getfield 516) := mt_cd_of (q := (78, .getfield 516, 3)) mq_174 ci_174 (List.mem_of_getElem? (i := 44) rfl)
theorem cd_174_81 : mt_cd 174 81 = some (.goto 4) := mt_cd_of (q := (81, .goto 4, 3)) mq_174 ci_174 (List.mem_of_getElem? (i := 45) rfl)
theorem cd_174_84 : mt_cd 174 84 = some (.lload_n 1) := mt_cd_of (q := (84, .lload_n 1, 1)) mq_174 ci_174 (List.mem_of_getElem? (i := 46) rfl)
theorem cd_174_85 : mt_cd 174 85 = some (.putfield 471) := mt_cd_of (q := (85, .putfield 471, 3)) mq_174 ci_174 (List.mem_of_getElem? (i := 47) rfl)
theorem cd_174_88 : mt_cd 174 88 = some (.aload_n 0) := mt_cd_of (q := (88, .aload_n 0, 1)) mq_174 ci_174 (List.mem_of_getElem? (i := 48) rfl)
theorem cd_174_89 : mt_cd 174 89 = some (.lload_n 3) := mt_cd_of (q := (89, .lload_n 3, 1)) mq_174 ci_174 (List.mem_of_getElem? (i := 49) rfl)
theorem cd_174_90 : mt_cd 174 90 = some (.putfield 474) := mt_cd_of (q := (90, .putfield 474, 3)) mq_174 ci_174 (List.mem_of_getElem? (i := 50) rfl)
theorem cd_174_93 : mt_cd 174 93 = some (.aload_n 0) := mt_cd_of (q := (93, .aload_n 0, 1)) mq_174 ci_174 (List.mem_of_getElem? (i := 51) rfl)
theorem cd_174_94 : mt_cd 174 94 = some (.getfield 445) := mt_cd_of (q := (94, .getfield 445, 3)) mq_174 ci_174 (List.mem_of_getElem? (i := 52) rfl)
theorem cd_174_97 : mt_cd 174 97 = some (.aload_n 0) := mt_cd_of (q := (97, .aload_n 0, 1)) mq_174 ci_174 (List.mem_of_getElem? (i := 53) rfl)
theorem cd_174_98 : mt_cd 174 98 = some (.getfield 471) := mt_cd_of (q := (98, .getfield 471, 3)) mq_174 ci_174 (List.mem_of_getElem? (i := 54) rfl)
theorem cd_174_101 : mt_cd 174 101 = some (.putfield 516) := mt_cd_of (q := (101, .putfield 516, 3)) mq_174 ci_174 (List.mem_of_getElem? (i := 55) rfl)
theorem cd_174_104 : mt_cd 174 104 = some (.aload_n 0) := mt_cd_of (q := (104, .aload_n 0, 1)) mq_174 ci_174 (List.mem_of_getElem? (i := 56) rfl)
theorem cd_174_105 : mt_cd 174 105 = some (.invokevirtual 519) := mt_cd_of (q := (105, .invokevirtual 519, 3)) mq_174 ci_174 (List.mem_of_getElem? (i := 57) rfl)
theorem cd_174_108 : mt_cd 174 108 = some (.istore 6) := mt_cd_of (q := (108, .istore 6, 2)) mq_174 ci_174 (List.mem_of_getElem? (i := 58) rfl)
theorem cd_174_110 : mt_cd 174 110 = some (.iconst 0) := mt_cd_of (q := (110, .iconst 0, 1)) mq_174 ci_174 (List.mem_of_getElem? (i := 59) rfl)
theorem cd_174_111 : mt_cd 174 111 = some (.istore 7) := mt_cd_of (q := (111, .istore 7, 2)) mq_174 ci_174 (List.mem_of_getElem? (i := 60) rfl)
theorem cd_174_113 : mt_cd 174 113 = some (.iload 7) := mt_cd_of (q := (113, .iload 7, 2)) mq_174 ci_174 (List.mem_of_getElem? (i := 61) rfl)
theorem cd_174_115 : mt_cd 174 115 = some (.iload 5) := mt_cd_of (q := (115, .iload 5, 2)) mq_174 ci_174 (List.mem_of_getElem? (i := 62) rfl)
theorem cd_174_117 : mt_cd 174 117 = some (.if_icmp .ge 33) := mt_cd_of (q := (117, .if_icmp .ge 33, 3)) mq_174 ci_174 (List.mem_of_getElem? (i := 63) rfl)
theorem cd_174_120 : mt_cd 174 120 = some (.iload 6) := mt_cd_of (q := (120, .iload 6, 2)) mq_174 ci_174 (List.mem_of_getElem? (i := 64) rfl)
theorem cd_174_122 : mt_cd 174 122 = some (.ifCond .ne 28) := mt_cd_of (q := (122, .ifCond .ne 28, 3)) mq_174 ci_174 (List.mem_of_getElem? (i := 65) rfl)
theorem cd_174_125 : mt_cd 174 125 = some (.aload_n 0) := mt_cd_of (q := (125, .aload_n 0, 1)) mq_174 ci_174 (List.mem_of_getElem? (i := 66) rfl)
theorem cd_174_126 : mt_cd 174 126 = some (.iload 7) := mt_cd_of (q := (126, .iload 7, 2)) mq_174 ci_174 (List.mem_of_getElem? (i := 67) rfl)
theorem cd_174_128 : mt_cd 174 128 = some (.invokevirtual 522) := mt_cd_of (q := (128, .invokevirtual 522, 3)) mq_174 ci_174 (List.mem_of_getElem? (i := 68) rfl)
theorem cd_174_131 : mt_cd 174 131 = some (.istore 6) := mt_cd_of (q := (131, .istore 6, 2)) mq_174 ci_174 (List.mem_of_getElem? (i := 69) rfl)
theorem cd_174_133 : mt_cd 174 133 = some (.iload 6) := mt_cd_of (q := (133, .iload 6, 2)) mq_174 ci_174 (List.mem_of_getElem? (i := 70) rfl)
theorem cd_174_135 : mt_cd 174 135 = some (.ifCond .ne 9) := mt_cd_of (q := (135, .ifCond .ne 9, 3)) mq_174 ci_174 (List.mem_of_getElem? (i := 71) rfl)
theorem cd_174_138 : mt_cd 174 138 = some (.aload_n 0) := mt_cd_of (q := (138, .aload_n 0, 1)) mq_174 ci_174 (List.mem_of_getElem? (i := 72) rfl)
theorem cd_174_139 : mt_cd 174 139 = some (.invokevirtual 519) := mt_cd_of (q := (139, .invokevirtual 519, 3)) mq_174 ci_174 (List.mem_of_getElem? (i := 73) rfl)
theorem cd_174_142 : mt_cd 174 142 = some (.istore 6) := mt_cd_of (q := (142, .istore 6, 2)) mq_174 ci_174 (List.mem_of_getElem? (i := 74) rfl)
theorem cd_174_144 : mt_cd 174 144 = some (.iinc 7 1) := mt_cd_of (q := (144, .iinc 7 1, 3)) mq_174 ci_174 (List.mem_of_getElem? (i := 75) rfl)
theorem cd_174_147 : mt_cd 174 147 = some (.goto (-34)) := mt_cd_of (q := (147, .goto (-34), 3)) mq_174 ci_174 (List.mem_of_getElem? (i := 76) rfl)
theorem cd_174_150 : mt_cd 174 150 = some (.iload 6) := mt_cd_of (q := (150, .iload 6, 2)) mq_174 ci_174 (List.mem_of_getElem? (i := 77) rfl)
theorem cd_174_152 : mt_cd 174 152 = some (.ifCond .eq 8) := mt_cd_of (q := (152, .ifCond .eq 8, 3)) mq_174 ci_174 (List.mem_of_getElem? (i := 78) rfl)
theorem cd_174_155 : mt_cd 174 155 = some (.iload 6) := mt_cd_of (q := (155, .iload 6, 2)) mq_174 ci_174 (List.mem_of_getElem? (i := 79) rfl)
theorem cd_174_157 : mt_cd 174 157 = some (.goto 20) := mt_cd_of (q := (157, .goto 20, 3)) mq_174 ci_174 (List.mem_of_getElem? (i := 80) rfl)
theorem cd_174_160 : mt_cd 174 160 = some (.iload 5) := mt_cd_of (q := (160, .iload 5, 2)) mq_174 ci_174 (List.mem_of_getElem? (i := 81) rfl)
theorem cd_174_162 : mt_cd 174 162 = some (.ifCond .ne 14) := mt_cd_of (q := (162, .ifCond .ne 14, 3)) mq_174 ci_174 (List.mem_of_getElem? (i := 82) rfl)
theorem cd_174_165 : mt_cd 174 165 = some (.aload_n 0) := mt_cd_of (q := (165, .aload_n 0, 1)) mq_174 ci_174 (List.mem_of_getElem? (i := 83) rfl)
theorem cd_174_166 : mt_cd 174 166 = some (.getfield 506) := mt_cd_of (q := (166, .getfield 506, 3)) mq_174 ci_174 (List.mem_of_getElem? (i := 84) rfl)
theorem cd_174_169 : mt_cd 174 169 = some (.ifCond .ne 7) := mt_cd_of (q := (169, .ifCond .ne 7, 3)) mq_174 ci_174 (List.mem_of_getElem? (i := 85) rfl)
theorem cd_174_172 : mt_cd 174 172 = some (.iconst 5) := mt_cd_of (q := (172, .iconst 5, 1)) mq_174 ci_174 (List.mem_of_getElem? (i := 86) rfl)
theorem cd_174_173 : mt_cd 174 173 = some (.goto 4) := mt_cd_of (q := (173, .goto 4, 3)) mq_174 ci_174 (List.mem_of_getElem? (i := 87) rfl)
theorem cd_174_176 : mt_cd 174 176 = some (.iconst 0) := mt_cd_of (q := (176, .iconst 0, 1)) mq_174 ci_174 (List.mem_of_getElem? (i := 88) rfl)
theorem cd_174_177 : mt_cd 174 177 = some (.ireturn) := mt_cd_of (q := (177, .ireturn, 1)) mq_174 ci_174 (List.mem_of_getElem? (i := 89) rfl)
theorem b_174_0 {d : Nat} {Q : (Option Value ⊕ Nat) → mi_H → Prop} (n sl : Nat) (f : Nat → mi_C) {l1 : Nat} {l2 : Int64} {l3 : Int64} {l4 : Int32} {o5 : Option Value} {o6 : Option Value} {fs7 : List Value} {fs11 : List Value} {fs15 : List Value} (h8 : f l1 = .inr (12, fs7)) (h9 : l1 < n) (h10 : 47 < fs7.length) (h12 : (va_up f l1 (.inr (12, fs7.set 47 (.int 0)))) l1 = .inr (12, fs11)) (h13 : l1 < n) (h14 : 48 < fs11.length) (h16 : (va_up (va_up f l1 (.inr (12, fs7.set 47 (.int 0)))) l1 (.inr (12, fs11.set 48 (.int 0)))) l1 = .inr (12, fs15)) (h17 : l1 < n) (h18 : 58 < fs15.length) (h19 : mi_fk .boolean (.int 0) = true) (h20 : mi_W d 174 18 [some (.ref l1), some (.long l2), none, some (.long l3), none, some (.int l4), some (.int 0), o6] [] (n, sl, (va_up (va_up (va_up f l1 (.inr (12, fs7.set 47 (.int 0)))) l1 (.inr (12, fs11.set 48 (.int 0)))) l1 (.inr (12, fs15.set 58 (.int 0))))) Q) : mi_W d 174 0 [some (.ref l1), some (.long l2), none, some (.long l3), none, some (.int l4), o5, o6] [] (n, sl, f) Q := by
  refine w_aload_n cd_174_0 rfl ?_
  refine w_iconst (v := 0) cd_174_1 (by decide) ?_
  refine w_putfield (w := .int 0) cd_174_2 (show mt_f 12 490 = some (12, 47) by decide +kernel) h8 h9 ⟨h10, rfl, Or.inl (by decide)⟩ ?_
  refine w_aload_n cd_174_5 rfl ?_
  refine w_iconst (v := 0) cd_174_6 (by decide) ?_
  refine w_putfield (w := .int 0) cd_174_7 (show mt_f 12 493 = some (12, 48) by decide +kernel) h12 h13 ⟨h14, rfl, Or.inl (by decide)⟩ ?_
  refine w_aload_n cd_174_10 rfl ?_
  refine w_iconst (v := 0) cd_174_11 (by decide) ?_
  refine w_putfield (w := .int 0) cd_174_12 (show mt_f 12 506 = some (12, 58) by decide +kernel) h16 h17 ⟨h18, h19, Or.inl (by decide)⟩ ?_
  refine w_iconst (v := 0) cd_174_15 (by decide) ?_
  refine w_istore (ls' := [some (.ref l1), some (.long l2), none, some (.long l3), none, some (.int l4), some (.int 0), o6]) cd_174_16 (Nat.le_of_ble_eq_true rfl) rfl ?_
  exact h20
theorem b_174_18 {d : Nat} {Q : (Option Value ⊕ Nat) → mi_H → Prop} (n sl : Nat) (f : Nat → mi_C) {l1 : Nat} {l2 : Int64} {l3 : Int64} {l4 : Int32} {l5 : Int32} {o6 : Option Value} (h7 : 32 ≤ l5 → mi_W d 174 39 [some (.ref l1), some (.long l2), none, some (.long l3), none, some (.int l4), some (.int l5), o6] [] (n, sl, f) Q) (h8 : ¬ (32 ≤ l5) → mi_W d 174 25 [some (.ref l1), some (.long l2), none, some (.long l3), none, some (.int l4), some (.int l5), o6] [] (n, sl, f) Q) : mi_W d 174 18 [some (.ref l1), some (.long l2), none, some (.long l3), none, some (.int l4), some (.int l5), o6] [] (n, sl, f) Q := by
  refine w_iload cd_174_18 rfl ?_
  refine w_bipush (v := 32) cd_174_20 (by decide) ?_
  exact w_if_icmpge cd_174_22 (by decide) h7 h8
theorem b_174_25 {d : Nat} {Q : (Option Value ⊕ Nat) → mi_H → Prop} (n sl : Nat) (f : Nat → mi_C) {l1 : Nat} {l2 : Int64} {l3 : Int64} {l4 : Int32} {l5 : Int32} {o6 : Option Value} {fs7 : List Value} {x10 : Nat} (m12 i12 : Nat) (g12 : Nat → Int64) (h8 : f l1 = .inr (12, fs7)) (h9 : l1 < n) (h11 : fs7[55]? = some (.ref x10)) (h13 : f x10 = .inl (3, m12, .inr (.inl g12))) (h14 : x10 < n) (h15 : mi_ix l5 m12 i12) (h16 : mi_W d 174 18 [some (.ref l1), some (.long l2), none, some (.long l3), none, some (.int l4), some (.int (l5 + 1)), o6] [] (n, sl, (va_up f x10 (.inl (3, m12, .inr (.inl (vp_updL g12 i12 0)))))) Q) : mi_W d 174 25 [some (.ref l1), some (.long l2), none, some (.long l3), none, some (.int l4), some (.int l5), o6] [] (n, sl, f) Q := by
  refine w_aload_n cd_174_25 rfl ?_
  refine w_getfield cd_174_26 (show mt_f 12 172 = some (12, 55) by decide +kernel) h8 h9 h11 ?_
  refine w_iload cd_174_29 rfl ?_
  refine w_lconst (lv := 0) cd_174_31 (by decide) ?_
  refine w_lastore cd_174_32 h13 h14 h15 ?_
  refine w_iinc (v := 1) (ls' := [some (.ref l1), some (.long l2), none, some (.long l3), none, some (.int l4), some (.int (l5 + 1)), o6]) cd_174_33 rfl (by decide) rfl ?_
  exact w_goto cd_174_36 (by decide) h16
theorem b_174_39 {d : Nat} {Q : (Option Value ⊕ Nat) → mi_H → Prop} (n sl : Nat) (f : Nat → mi_C) {l1 : Nat} {l2 : Int64} {l3 : Int64} {l4 : Int32} {l5 : Int32} {o6 : Option Value} (h7 : (0 : Int32) ≤ (lg_cmp l3 l2) → mi_W d 174 47 [some (.ref l1), some (.long l2), none, some (.long l3), none, some (.int l4), some (.int l5), o6] [] (n, sl, f) Q) (h8 : ¬ ((0 : Int32) ≤ (lg_cmp l3 l2)) → mi_W d 174 45 [some (.ref l1), some (.long l2), none, some (.long l3), none, some (.int l4), some (.int l5), o6] [] (n, sl, f) Q) : mi_W d 174 39 [some (.ref l1), some (.long l2), none, some (.long l3), none, some (.int l4), some (.int l5), o6] [] (n, sl, f) Q := by
  refine w_lload_n cd_174_39 rfl ?_
  refine w_lload_n cd_174_40 rfl ?_
  refine w_lcmp cd_174_41 ?_
  exact w_ifge cd_174_42 (by decide) h7 h8
theorem b_174_45 {d : Nat} {Q : (Option Value ⊕ Nat) → mi_H → Prop} (n sl : Nat) (f : Nat → mi_C) {l1 : Nat} {l2 : Int64} {l3 : Int64} {l4 : Int32} {l5 : Int32} {o6 : Option Value} (h7 : Q (.inl (some (.int 1))) (n, sl, f)) : mi_W d 174 45 [some (.ref l1), some (.long l2), none, some (.long l3), none, some (.int l4), some (.int l5), o6] [] (n, sl, f) Q := by
  refine w_iconst (v := 1) cd_174_45 (by decide) ?_
  exact w_ireturn_i cd_174_46 (by decide +kernel) h7
theorem b_174_47 {d : Nat} {Q : (Option Value ⊕ Nat) → mi_H → Prop} (n sl : Nat) (f : Nat → mi_C) {l1 : Nat} {l2 : Int64} {l3 : Int64} {l4 : Int32} {l5 : Int32} {o6 : Option Value} {fs7 : List Value} {x10 : Nat} {fs12 : List Value} {x15 : Int64} (h8 : f l1 = .inr (12, fs7)) (h9 : l1 < n) (h11 : fs7[43]? = some (.ref x10)) (h13 : f x10 = .inr (13, fs12)) (h14 : x10 < n) (h16 : fs12[1]? = some (.long x15)) (h17 : (0 : Int32) ≤ (lg_cmp l3 x15) → mi_W d 174 61 [some (.ref l1), some (.long l2), none, some (.long l3), none, some (.int l4), some (.int l5), o6] [] (n, sl, f) Q) (h18 : ¬ ((0 : Int32) ≤ (lg_cmp l3 x15)) → mi_W d 174 59 [some (.ref l1), some (.long l2), none, some (.long l3), none, some (.int l4), some (.int l5), o6] [] (n, sl, f) Q) : mi_W d 174 47 [some (.ref l1), some (.long l2), none, some (.long l3), none, some (.int l4), some (.int l5), o6] [] (n, sl, f) Q := by
  refine w_lload_n cd_174_47 rfl ?_
  refine w_aload_n cd_174_48 rfl ?_
  refine w_getfield cd_174_49 (show mt_f 12 445 = some (12, 43) by decide +kernel) h8 h9 h11 ?_
  refine w_getfield cd_174_52 (show mt_f 12 516 = some (13, 1) by decide +kernel) h13 h14 h16 ?_
  refine w_lcmp cd_174_55 ?_
  exact w_ifge cd_174_56 (by decide) h17 h18
theorem b_174_59 {d : Nat} {Q : (Option Value ⊕ Nat) → mi_H → Prop} (n sl : Nat) (f : Nat → mi_C) {l1 : Nat} {l2 : Int64} {l3 : Int64} {l4 : Int32} {l5 : Int32} {o6 : Option Value} (h7 : Q (.inl (some (.int 2))) (n, sl, f)) : mi_W d 174 59 [some (.ref l1), some (.long l2), none, some (.long l3), none, some (.int l4), some (.int l5), o6] [] (n, sl, f) Q := by
  refine w_iconst (v := 2) cd_174_59 (by decide) ?_
  exact w_ireturn_i cd_174_60 (by decide +kernel) h7
theorem b_174_61 {d : Nat} {Q : (Option Value ⊕ Nat) → mi_H → Prop} (n sl : Nat) (f : Nat → mi_C) {l1 : Nat} {l2 : Int64} {l3 : Int64} {l4 : Int32} {l5 : Int32} {o6 : Option Value} {fs7 : List Value} {x10 : Nat} {fs12 : List Value} {x15 : Int64} (h8 : f l1 = .inr (12, fs7)) (h9 : l1 < n) (h11 : fs7[43]? = some (.ref x10)) (h13 : f x10 = .inr (13, fs12)) (h14 : x10 < n) (h16 : fs12[1]? = some (.long x15)) (h17 : (0 : Int32) ≤ (lg_cmp l2 x15) → mi_W d 174 84 [some (.ref l1), some (.long l2), none, some (.long l3), none, some (.int l4), some (.int l5), o6] [.ref l1] (n, sl, f) Q) (h18 : ¬ ((0 : Int32) ≤ (lg_cmp l2 x15)) → mi_W d 174 74 [some (.ref l1), some (.long l2), none, some (.long l3), none, some (.int l4), some (.int l5), o6] [.ref l1] (n, sl, f) Q) : mi_W d 174 61 [some (.ref l1), some (.long l2), none, some (.long l3), none, some (.int l4), some (.int l5), o6] [] (n, sl, f) Q := by
  refine w_aload_n cd_174_61 rfl ?_
  refine w_lload_n cd_174_62 rfl ?_
  refine w_aload_n cd_174_63 rfl ?_
  refine w_getfield cd_174_64 (show mt_f 12 445 = some (12, 43) by decide +kernel) h8 h9 h11 ?_
  refine w_getfield cd_174_67 (show mt_f 12 516 = some (13, 1) by decide +kernel) h13 h14 h16 ?_
  refine w_lcmp cd_174_70 ?_
  exact w_ifge cd_174_71 (by decide) h17 h18
theorem b_174_74 {d : Nat} {Q : (Option Value ⊕ Nat) → mi_H → Prop} (n sl : Nat) (f : Nat → mi_C) {l1 : Nat} {l2 : Int64} {l3 : Int64} {l4 : Int32} {l5 : Int32} {o6 : Option Value} {s7 : Nat} {fs8 : List Value} {x11 : Nat} {fs13 : List Value} {x16 : Int64} (h9 : f l1 = .inr (12, fs8)) (h10 : l1 < n) (h12 : fs8[43]? = some (.ref x11)) (h14 : f x11 = .inr (13, fs13)) (h15 : x11 < n) (h17 : fs13[1]? = some (.long x16)) (h18 : mi_W d 174 85 [some (.ref l1), some (.long l2), none, some (.long l3), none, some (.int l4), some (.int l5), o6] [.long x16, .ref s7] (n, sl, f) Q) : mi_W d 174 74 [some (.ref l1), some (.long l2), none, some (.long l3), none, some (.int l4), some (.int l5), o6] [.ref s7] (n, sl, f) Q := by
  refine w_aload_n cd_174_74 rfl ?_
  refine w_getfield cd_174_75 (show mt_f 12 445 = some (12, 43) by decide +kernel) h9 h10 h12 ?_
  refine w_getfield cd_174_78 (show mt_f 12 516 = some (13, 1) by decide +kernel) h14 h15 h17 ?_
  exact w_goto cd_174_81 (by decide) h18
theorem b_174_84 {d : Nat} {Q : (Option Value ⊕ Nat) → mi_H → Prop} (n sl : Nat) (f : Nat → mi_C) {l1 : Nat} {l2 : Int64} {l3 : Int64} {l4 : Int32} {l5 : Int32} {o6 : Option Value} {s7 : Nat} (h8 : mi_W d 174 85 [some (.ref l1), some (.long l2), none, some (.long l3), none, some (.int l4), some (.int l5), o6] [.long l2, .ref s7] (n, sl, f) Q) : mi_W d 174 84 [some (.ref l1), some (.long l2), none, some (.long l3), none, some (.int l4), some (.int l5), o6] [.ref s7] (n, sl, f) Q := by
  refine w_lload_n cd_174_84 rfl ?_
  exact h8
theorem b_174_85 {d : Nat} {Q : (Option Value ⊕ Nat) → mi_H → Prop} (n sl : Nat) (f : Nat → mi_C) {l1 : Nat} {l2 : Int64} {l3 : Int64} {l4 : Int32} {l5 : Int32} {o6 : Option Value} {s7 : Int64} {s8 : Nat} {fs9 : List Value} {fs13 : List Value} {fs17 : List Value} {x20 : Nat} {fs22 : List Value} {x25 : Int64} {fs27 : List Value} {fs31 : List Value} (h10 : f s8 = .inr (12, fs9)) (h11 : s8 < n) (h12 : 44 < fs9.length) (h14 : (va_up f s8 (.inr (12, fs9.set 44 (.long s7)))) l1 = .inr (12, fs13)) (h15 : l1 < n) (h16 : 45 < fs13.length) (h18 : (va_up (va_up f s8 (.inr (12, fs9.set 44 (.long s7)))) l1 (.inr (12, fs13.set 45 (.long l3)))) l1 = .inr (12, fs17)) (h19 : l1 < n) (h21 : fs17[43]? = some (.ref x20)) (h23 : (va_up (va_up f s8 (.inr (12, fs9.set 44 (.long s7)))) l1 (.inr (12, fs13.set 45 (.long l3)))) l1 = .inr (12, fs22)) (h24 : l1 < n) (h26 : fs22[44]? = some (.long x25)) (h28 : (va_up (va_up f s8 (.inr (12, fs9.set 44 (.long s7)))) l1 (.inr (12, fs13.set 45 (.long l3)))) x20 = .inr (13, fs27)) (h29 : x20 < n) (h30 : 1 < fs27.length) (h32 : (va_up (va_up (va_up f s8 (.inr (12, fs9.set 44 (.long s7)))) l1 (.inr (12, fs13.set 45 (.long l3)))) x20 (.inr (13, fs27.set 1 (.long x25)))) l1 = .inr (12, fs31)) (h33 : l1 < n) (h34 : mi_W d 175 0 (mi_en 8 [.ref l1]) [] (n, sl, (va_up (va_up (va_up f s8 (.inr (12, fs9.set 44 (.long s7)))) l1 (.inr (12, fs13.set 45 (.long l3)))) x20 (.inr (13, fs27.set 1 (.long x25))))) (mi_Kc d 174 105 [some (.ref l1), some (.long l2), none, some (.long l3), none, some (.int l4), some (.int l5), o6] [] Q)) : mi_W (d + 1) 174 85 [some (.ref l1), some (.long l2), none, some (.long l3), none, some (.int l4), some (.int l5), o6] [.long s7, .ref s8] (n, sl, f) Q := by
  refine w_putfield (w := .long s7) cd_174_85 (show mt_f 12 471 = some (12, 44) by decide +kernel) h10 h11 ⟨h12, rfl, Or.inl (by decide)⟩ ?_
  refine w_aload_n cd_174_88 rfl ?_
  refine w_lload_n cd_174_89 rfl ?_
  refine w_putfield (w := .long l3) cd_174_90 (show mt_f 12 474 = some (12, 45) by decide +kernel) h14 h15 ⟨h16, rfl, Or.inl (by decide)⟩ ?_
  refine w_aload_n cd_174_93 rfl ?_
  refine w_getfield cd_174_94 (show mt_f 12 445 = some (12, 43) by decide +kernel) h18 h19 h21 ?_
  refine w_aload_n cd_174_97 rfl ?_
  refine w_getfield cd_174_98 (show mt_f 12 471 = some (12, 44) by decide +kernel) h23 h24 h26 ?_
  refine w_putfield (w := .long x25) cd_174_101 (show mt_f 12 516 = some (13, 1) by decide +kernel) h28 h29 ⟨h30, rfl, Or.inl (by decide)⟩ ?_
  refine w_aload_n cd_174_104 rfl ?_
  exact w_invokevirtual cd_174_105 (show mt_m 12 519 = some (175, 0) by decide +kernel) (rest := []) rfl (as := [.ref l1]) rfl h32 (Or.inl h33) ⟨Nat.le_of_ble_eq_true rfl, Nat.le_of_ble_eq_true rfl, Nat.le_of_ble_eq_true rfl⟩ h34
theorem b_174_108 {d : Nat} {Q : (Option Value ⊕ Nat) → mi_H → Prop} (n sl : Nat) (f : Nat → mi_C) {l1 : Nat} {l2 : Int64} {l3 : Int64} {l4 : Int32} {l5 : Int32} {o6 : Option Value} {s7 : Int32} (h8 : mi_W d 174 113 [some (.ref l1), some (.long l2), none, some (.long l3), none, some (.int l4), some (.int s7), some (.int 0)] [] (n, sl, f) Q) : mi_W d 174 108 [some (.ref l1), some (.long l2), none, some (.long l3), none, some (.int l4), some (.int l5), o6] [.int s7] (n, sl, f) Q := by
  refine w_istore (ls' := [some (.ref l1), some (.long l2), none, some (.long l3), none, some (.int l4), some (.int s7), o6]) cd_174_108 (Nat.le_of_ble_eq_true rfl) rfl ?_
  refine w_iconst (v := 0) cd_174_110 (by decide) ?_
  refine w_istore (ls' := [some (.ref l1), some (.long l2), none, some (.long l3), none, some (.int l4), some (.int s7), some (.int 0)]) cd_174_111 (Nat.le_of_ble_eq_true rfl) rfl ?_
  exact h8
theorem b_174_113 {d : Nat} {Q : (Option Value ⊕ Nat) → mi_H → Prop} (n sl : Nat) (f : Nat → mi_C) {l1 : Nat} {l2 : Int64} {l3 : Int64} {l4 : Int32} {l5 : Int32} {l6 : Int32} (h7 : l4 ≤ l6 → mi_W d 174 150 [some (.ref l1), some (.long l2), none, some (.long l3), none, some (.int l4), some (.int l5), some (.int l6)] [] (n, sl, f) Q) (h8 : ¬ (l4 ≤ l6) → mi_W d 174 120 [some (.ref l1), some (.long l2), none, some (.long l3), none, some (.int l4), some (.int l5), some (.int l6)] [] (n, sl, f) Q) : mi_W d 174 113 [some (.ref l1), some (.long l2), none, some (.long l3), none, some (.int l4), some (.int l5), some (.int l6)] [] (n, sl, f) Q := by
  refine w_iload cd_174_113 rfl ?_
  refine w_iload cd_174_115 rfl ?_
  exact w_if_icmpge cd_174_117 (by decide) h7 h8
theorem b_174_120 {d : Nat} {Q : (Option Value ⊕ Nat) → mi_H → Prop} (n sl : Nat) (f : Nat → mi_C) {l1 : Nat} {l2 : Int64} {l3 : Int64} {l4 : Int32} {l5 : Int32} {l6 : Int32} (h7 : ¬ l5 = (0 : Int32) → mi_W d 174 150 [some (.ref l1), some (.long l2), none, some (.long l3), none, some (.int l4), some (.int l5), some (.int l6)] [] (n, sl, f) Q) (h8 : ¬ (¬ l5 = (0 : Int32)) → mi_W d 174 125 [some (.ref l1), some (.long l2), none, some (.long l3), none, some (.int l4), some (.int l5), some (.int l6)] [] (n, sl, f) Q) : mi_W d 174 120 [some (.ref l1), some (.long l2), none, some (.long l3), none, some (.int l4), some (.int l5), some (.int l6)] [] (n, sl, f) Q := by
  refine w_iload cd_174_120 rfl ?_
  exact w_ifne cd_174_122 (by decide) h7 h8
theorem b_174_125 {d : Nat} {Q : (Option Value ⊕ Nat) → mi_H → Prop} (n sl : Nat) (f : Nat → mi_C) {l1 : Nat} {l2 : Int64} {l3 : Int64} {l4 : Int32} {l5 : Int32} {l6 : Int32} {fs7 : List Value} (h8 : f l1 = .inr (12, fs7)) (h9 : l1 < n) (h10 : mi_W d 183 0 (mi_en 9 [.ref l1, .int l6]) [] (n, sl, f) (mi_Kc d 174 128 [some (.ref l1), some (.long l2), none, some (.long l3), none, some (.int l4), some (.int l5), some (.int l6)] [] Q)) : mi_W (d + 1) 174 125 [some (.ref l1), some (.long l2), none, some (.long l3), none, some (.int l4), some (.int l5), some (.int l6)] [] (n, sl, f) Q := by
  refine w_aload_n cd_174_125 rfl ?_
  refine w_iload cd_174_126 rfl ?_
  exact w_invokevirtual cd_174_128 (show mt_m 12 522 = some (183, 0) by decide +kernel) (rest := []) rfl (as := [.ref l1, .int l6]) rfl h8 (Or.inl h9) ⟨Nat.le_of_ble_eq_true rfl, Nat.le_of_ble_eq_true rfl, Nat.le_of_ble_eq_true rfl⟩ h10
theorem b_174_131 {d : Nat} {Q : (Option Value ⊕ Nat) → mi_H → Prop} (n sl : Nat) (f : Nat → mi_C) {l1 : Nat} {l2 : Int64} {l3 : Int64} {l4 : Int32} {l5 : Int32} {l6 : Int32} {s7 : Int32} (h8 : ¬ s7 = (0 : Int32) → mi_W d 174 144 [some (.ref l1), some (.long l2), none, some (.long l3), none, some (.int l4), some (.int s7), some (.int l6)] [] (n, sl, f) Q) (h9 : ¬ (¬ s7 = (0 : Int32)) → mi_W d 174 138 [some (.ref l1), some (.long l2), none, some (.long l3), none, some (.int l4), some (.int s7), some (.int l6)] [] (n, sl, f) Q) : mi_W d 174 131 [some (.ref l1), some (.long l2), none, some (.long l3), none, some (.int l4), some (.int l5), some (.int l6)] [.int s7] (n, sl, f) Q := by
  refine w_istore (ls' := [some (.ref l1), some (.long l2), none, some (.long l3), none, some (.int l4), some (.int s7), some (.int l6)]) cd_174_131 (Nat.le_of_ble_eq_true rfl) rfl ?_
  refine w_iload cd_174_133 rfl ?_
  exact w_ifne cd_174_135 (by decide) h8 h9
theorem b_174_138 {d : Nat} {Q : (Option Value ⊕ Nat) → mi_H → Prop} (n sl : Nat) (f : Nat → mi_C) {l1 : Nat} {l2 : Int64} {l3 : Int64} {l4 : Int32} {l5 : Int32} {l6 : Int32} {fs7 : List Value} (h8 : f l1 = .inr (12, fs7)) (h9 : l1 < n) (h10 : mi_W d 175 0 (mi_en 8 [.ref l1]) [] (n, sl, f) (mi_Kc d 174 139 [some (.ref l1), some (.long l2), none, some (.long l3), none, some (.int l4), some (.int l5), some (.int l6)] [] Q)) : mi_W (d + 1) 174 138 [some (.ref l1), some (.long l2), none, some (.long l3), none, some (.int l4), some (.int l5), some (.int l6)] [] (n, sl, f) Q := by
  refine w_aload_n cd_174_138 rfl ?_
  exact w_invokevirtual cd_174_139 (show mt_m 12 519 = some (175, 0) by decide +kernel) (rest := []) rfl (as := [.ref l1]) rfl h8 (Or.inl h9) ⟨Nat.le_of_ble_eq_true rfl, Nat.le_of_ble_eq_true rfl, Nat.le_of_ble_eq_true rfl⟩ h10
theorem b_174_142 {d : Nat} {Q : (Option Value ⊕ Nat) → mi_H → Prop} (n sl : Nat) (f : Nat → mi_C) {l1 : Nat} {l2 : Int64} {l3 : Int64} {l4 : Int32} {l5 : Int32} {l6 : Int32} {s7 : Int32} (h8 : mi_W d 174 144 [some (.ref l1), some (.long l2), none, some (.long l3), none, some (.int l4), some (.int s7), some (.int l6)] [] (n, sl, f) Q) : mi_W d 174 142 [some (.ref l1), some (.long l2), none, some (.long l3), none, some (.int l4), some (.int l5), some (.int l6)] [.int s7] (n, sl, f) Q := by
  refine w_istore (ls' := [some (.ref l1), some (.long l2), none, some (.long l3), none, some (.int l4), some (.int s7), some (.int l6)]) cd_174_142 (Nat.le_of_ble_eq_true rfl) rfl ?_
  exact h8
theorem b_174_144 {d : Nat} {Q : (Option Value ⊕ Nat) → mi_H → Prop} (n sl : Nat) (f : Nat → mi_C) {l1 : Nat} {l2 : Int64} {l3 : Int64} {l4 : Int32} {l5 : Int32} {l6 : Int32} (h7 : mi_W d 174 113 [some (.ref l1), some (.long l2), none, some (.long l3), none, some (.int l4), some (.int l5), some (.int (l6 + 1))] [] (n, sl, f) Q) : mi_W d 174 144 [some (.ref l1), some (.long l2), none, some (.long l3), none, some (.int l4), some (.int l5), some (.int l6)] [] (n, sl, f) Q := by
  refine w_iinc (v := 1) (ls' := [some (.ref l1), some (.long l2), none, some (.long l3), none, some (.int l4), some (.int l5), some (.int (l6 + 1))]) cd_174_144 rfl (by decide) rfl ?_
  exact w_goto cd_174_147 (by decide) h7
theorem b_174_150 {d : Nat} {Q : (Option Value ⊕ Nat) → mi_H → Prop} (n sl : Nat) (f : Nat → mi_C) {l1 : Nat} {l2 : Int64} {l3 : Int64} {l4 : Int32} {l5 : Int32} {l6 : Int32} (h7 : l5 = (0 : Int32) → mi_W d 174 160 [some (.ref l1), some (.long l2), none, some (.long l3), none, some (.int l4), some (.int l5), some (.int l6)] [] (n, sl, f) Q) (h8 : ¬ (l5 = (0 : Int32)) → mi_W d 174 155 [some (.ref l1), some (.long l2), none, some (.long l3), none, some (.int l4), some (.int l5), some (.int l6)] [] (n, sl, f) Q) : mi_W d 174 150 [some (.ref l1), some (.long l2), none, some (.long l3), none, some (.int l4), some (.int l5), some (.int l6)] [] (n, sl, f) Q := by
  refine w_iload cd_174_150 rfl ?_
  exact w_ifeq cd_174_152 (by decide) h7 h8
theorem b_174_155 {d : Nat} {Q : (Option Value ⊕ Nat) → mi_H → Prop} (n sl : Nat) (f : Nat → mi_C) {l1 : Nat} {l2 : Int64} {l3 : Int64} {l4 : Int32} {l5 : Int32} {l6 : Int32} (h7 : mi_W d 174 177 [some (.ref l1), some (.long l2), none, some (.long l3), none, some (.int l4), some (.int l5), some (.int l6)] [.int l5] (n, sl, f) Q) : mi_W d 174 155 [some (.ref l1), some (.long l2), none, some (.long l3), none, some (.int l4), some (.int l5), some (.int l6)] [] (n, sl, f) Q := by
  refine w_iload cd_174_155 rfl ?_
  exact w_goto cd_174_157 (by decide) h7
theorem b_174_160 {d : Nat} {Q : (Option Value ⊕ Nat) → mi_H → Prop} (n sl : Nat) (f : Nat → mi_C) {l1 : Nat} {l2 : Int64} {l3 : Int64} {l4 : Int32} {l5 : Int32} {l6 : Int32} (h7 : ¬ l4 = (0 : Int32) → mi_W d 174 176 [some (.ref l1), some (.long l2), none, some (.long l3), none, some (.int l4), some (.int l5), some (.int l6)] [] (n, sl, f) Q) (h8 : ¬ (¬ l4 = (0 : Int32)) → mi_W d 174 165 [some (.ref l1), some (.long l2), none, some (.long l3), none, some (.int l4), some (.int l5), some (.int l6)] [] (n, sl, f) Q) : mi_W d 174 160 [some (.ref l1), some (.long l2), none, some (.long l3), none, some (.int l4), some (.int l5), some (.int l6)] [] (n, sl, f) Q := by
  refine w_iload cd_174_160 rfl ?_
  exact w_ifne cd_174_162 (by decide) h7 h8
theorem b_174_165 {d : Nat} {Q : (Option Value ⊕ Nat) → mi_H → Prop} (n sl : Nat) (f : Nat → mi_C) {l1 : Nat} {l2 : Int64} {l3 : Int64} {l4 : Int32} {l5 : Int32} {l6 : Int32} {fs7 : List Value} {x10 : Int32} (h8 : f l1 = .inr (12, fs7)) (h9 : l1 < n) (h11 : fs7[58]? = some (.int x10)) (h12 : ¬ x10 = (0 : Int32) → mi_W d 174 176 [some (.ref l1), some (.long l2), none, some (.long l3), none, some (.int l4), some (.int l5), some (.int l6)] [] (n, sl, f) Q) (h13 : ¬ (¬ x10 = (0 : Int32)) → mi_W d 174 172 [some (.ref l1), some (.long l2), none, some (.long l3), none, some (.int l4), some (.int l5), some (.int l6)] [] (n, sl, f) Q) : mi_W d 174 165 [some (.ref l1), some (.long l2), none, some (.long l3), none, some (.int l4), some (.int l5), some (.int l6)] [] (n, sl, f) Q := by
  refine w_aload_n cd_174_165 rfl ?_
  refine w_getfield cd_174_166 (show mt_f 12 506 = some (12, 58) by decide +kernel) h8 h9 h11 ?_
  exact w_ifne cd_174_169 (by decide) h12 h13
theorem b_174_172 {d : Nat} {Q : (Option Value ⊕ Nat) → mi_H → Prop} (n sl : Nat) (f : Nat → mi_C) {l1 : Nat} {l2 : Int64} {l3 : Int64} {l4 : Int32} {l5 : Int32} {l6 : Int32} (h7 : mi_W d 174 177 [some (.ref l1), some (.long l2), none, some (.long l3), none, some (.int l4), some (.int l5), some (.int l6)] [.int 5] (n, sl, f) Q) : mi_W d 174 172 [some (.ref l1), some (.long l2), none, some (.long l3), none, some (.int l4), some (.int l5), some (.int l6)] [] (n, sl, f) Q := by
  refine w_iconst (v := 5) cd_174_172 (by decide) ?_
  exact w_goto cd_174_173 (by decide) h7
theorem b_174_176 {d : Nat} {Q : (Option Value ⊕ Nat) → mi_H → Prop} (n sl : Nat) (f : Nat → mi_C) {l1 : Nat} {l2 : Int64} {l3 : Int64} {l4 : Int32} {l5 : Int32} {l6 : Int32} (h7 : mi_W d 174 177 [some (.ref l1), some (.long l2), none, some (.long l3), none, some (.int l4), some (.int l5), some (.int l6)] [.int 0] (n, sl, f) Q) : mi_W d 174 176 [some (.ref l1), some (.long l2), none, some (.long l3), none, some (.int l4), some (.int l5), some (.int l6)] [] (n, sl, f) Q := by
  refine w_iconst (v := 0) cd_174_176 (by decide) ?_
  exact h7
theorem b_174_177 {d : Nat} {Q : (Option Value ⊕ Nat) → mi_H → Prop} (n sl : Nat) (f : Nat → mi_C) {l1 : Nat} {l2 : Int64} {l3 : Int64} {l4 : Int32} {l5 : Int32} {l6 : Int32} {s7 : Int32} (h8 : Q (.inl (some (.int s7))) (n, sl, f)) : mi_W d 174 177 [some (.ref l1), some (.long l2), none, some (.long l3), none, some (.int l4), some (.int l5), some (.int l6)] [.int s7] (n, sl, f) Q := by
  exact w_ireturn_i cd_174_177 (by decide +kernel) h8
/-! MarloweHostModel.reduce()I -/
set_option maxRecDepth 100000 in
theorem mq_175 : mt_q 175 = my_175 := rfl
set_option maxRecDepth 100000 in
theorem ci_175 : mt_inc 0 my_175.cd = true := by decide +kernel
theorem cd_175_0 : mt_cd 175 0 = some (.aload_n 0) := mt_cd_of (q := (0, .aload_n 0, 1)) mq_175 ci_175 (List.mem_append_left _ (show _ ∈ my_175_0 from List.mem_of_getElem? (i := 0) rfl))
theorem cd_175_1 : mt_cd 175 1 = some (.getfield 445) := mt_cd_of (q := (1, .getfield 445, 3)) mq_175 ci_175 (List.mem_append_left _ (show _ ∈ my_175_0 from List.mem_of_getElem? (i := 1) rfl))
theorem cd_175_4 : mt_cd 175 4 = some (.getfield 496) := mt_cd_of (q := (4, .getfield 496, 3)) mq_175 ci_175 (List.mem_append_left _ (show _ ∈ my_175_0 from List.mem_of_getElem? (i := 2) rfl))
theorem cd_175_7 : mt_cd 175 7 = some (.istore_n 1) := mt_cd_of (q := (7, .istore_n 1, 1)) mq_175 ci_175 (List.mem_append_left _ (show _ ∈ my_175_0 from List.mem_of_getElem? (i := 3) rfl))
theorem cd_175_8 : mt_cd 175 8 = some (.aload_n 0) := mt_cd_of (q := (8, .aload_n 0, 1)) mq_175 ci_175 (List.mem_append_left _ (show _ ∈ my_175_0 from List.mem_of_getElem? (i := 4) rfl))
theorem cd_175_9 : mt_cd 175 9 = some (.iconst 0) := mt_cd_of (q := (9, .iconst 0, 1)) mq_175 ci_175 (List.mem_append_left _ (show _ ∈ my_175_0 from List.mem_of_getElem? (i := 5) rfl))
theorem cd_175_10 : mt_cd 175 10 = some (.putfield 441) := mt_cd_of (q := (10, .putfield 441, 3)) mq_175 ci_175 (List.mem_append_left _ (show _ ∈ my_175_0 from List.mem_of_getElem? (i := 6) rfl))
theorem cd_175_13 : mt_cd 175 13 = some (.aload_n 0) := mt_cd_of (q := (13, .aload_n 0, 1)) mq_175 ci_175 (List.mem_append_left _ (show _ ∈ my_175_0 from List.mem_of_getElem? (i := 7) rfl))
theorem cd_175_14 : mt_cd 175 14 = some (.getfield 77) := mt_cd_of (q := (14, .getfield 77, 3)) mq_175 ci_175 (List.mem_append_left _ (show _ ∈ my_175_0 from List.mem_of_getElem? (i := 8) rfl))
theorem cd_175_17 : mt_cd 175 17 = some (.iload_n 1) := mt_cd_of (q := (17, .iload_n 1, 1)) mq_175 ci_175 (List.mem_append_left _ (show _ ∈ my_175_0 from List.mem_of_getElem? (i := 9) rfl))
theorem cd_175_18 : mt_cd 175 18 = some (.iaload) := mt_cd_of (q := (18, .iaload, 1)) mq_175 ci_175 (List.mem_append_left _ (show _ ∈ my_175_0 from List.mem_of_getElem? (i := 10) rfl))
theorem cd_175_19 : mt_cd 175 19 = some (.tableswitch 535 0 5 #[37, 108, 108, 347, 397, 445]) := mt_cd_of (q := (19, .tableswitch 535 0 5 #[37, 108, 108, 347, 397, 445], 37)) mq_175 ci_175 (List.mem_append_left _ (show _ ∈ my_175_0 from List.mem_of_getElem? (i := 11) rfl))
theorem cd_175_56 : mt_cd 175 56 = some (.iconst 0) := mt_cd_of (q := (56, .iconst 0, 1)) mq_175 ci_175 (List.mem_append_left _ (show _ ∈ my_175_0 from List.mem_of_getElem? (i := 12) rfl))
theorem cd_175_57 : mt_cd 175 57 = some (.istore_n 2) := mt_cd_of (q := (57, .istore_n 2, 1)) mq_175 ci_175 (List.mem_append_left _ (show _ ∈ my_175_0 from List.mem_of_getElem? (i := 13) rfl))
theorem cd_175_58 : mt_cd 175 58 = some (.iload_n 2) := mt_cd_of (q := (58, .iload_n 2, 1)) mq_175 ci_175 (List.mem_append_left _ (show _ ∈ my_175_0 from List.mem_of_getElem? (i := 14) rfl))
theorem cd_175_59 : mt_cd 175 59 = some (.bipush 32) := mt_cd_of (q := (59, .bipush 32, 2)) mq_175 ci_175 (List.mem_append_left _ (show _ ∈ my_175_0 from List.mem_of_getElem? (i := 15) rfl))
theorem cd_175_61 : mt_cd 175 61 = some (.if_icmp .ge 23) := mt_cd_of (q := (61, .if_icmp .ge 23, 3)) mq_175 ci_175 (List.mem_append_left _ (show _ ∈ my_175_0 from List.mem_of_getElem? (i := 16) rfl))
theorem cd_175_64 : mt_cd 175 64 = some (.aload_n 0) := mt_cd_of (q := (64, .aload_n 0, 1)) mq_175 ci_175 (List.mem_append_left _ (show _ ∈ my_175_0 from List.mem_of_getElem? (i := 17) rfl))
theorem cd_175_65 : mt_cd 175 65 = some (.getfield 445) := mt_cd_of (q := (65, .getfield 445, 3)) mq_175 ci_175 (List.mem_append_left _ (show _ ∈ my_175_0 from List.mem_of_getElem? (i := 18) rfl))
theorem cd_175_68 : mt_cd 175 68 = some (.getfield 448) := mt_cd_of (q := (68, .getfield 448, 3)) mq_175 ci_175 (List.mem_append_left _ (show _ ∈ my_175_0 from List.mem_of_getElem? (i := 19) rfl))
theorem cd_175_71 : mt_cd 175 71 = some (.iload_n 2) := mt_cd_of (q := (71, .iload_n 2, 1)) mq_175 ci_175 (List.mem_append_left _ (show _ ∈ my_175_0 from List.mem_of_getElem? (i := 20) rfl))
theorem cd_175_72 : mt_cd 175 72 = some (.laload) := mt_cd_of (q := (72, .laload, 1)) mq_175 ci_175 (List.mem_append_left _ (show _ ∈ my_175_0 from List.mem_of_getElem? (i := 21) rfl))
theorem cd_175_73 : mt_cd 175 73 = some (.lconst 0) := mt_cd_of (q := (73, .lconst 0, 1)) mq_175 ci_175 (List.mem_append_left _ (show _ ∈ my_175_0 from List.mem_of_getElem? (i := 22) rfl))
theorem cd_175_74 : mt_cd 175 74 = some (.lcmp) := mt_cd_of (q := (74, .lcmp, 1)) mq_175 ci_175 (List.mem_append_left _ (show _ ∈ my_175_0 from List.mem_of_getElem? (i := 23) rfl))
theorem cd_175_75 : mt_cd 175 75 = some (.ifCond .ne 9) := mt_cd_of (q := (75, .ifCond .ne 9, 3)) mq_175 ci_175 (List.mem_append_left _ (show _ ∈ my_175_0 from List.mem_of_getElem? (i := 24) rfl))
theorem cd_175_78 : mt_cd 175 78 = some (.iinc 2 1) := mt_cd_of (q := (78, .iinc 2 1, 3)) mq_175 ci_175 (List.mem_append_left _ (show _ ∈ my_175_0 from List.mem_of_getElem? (i := 25) rfl))
theorem cd_175_81 : mt_cd 175 81 = some (.goto (-23)) := mt_cd_of (q := (81, .goto (-23), 3)) mq_175 ci_175 (List.mem_append_left _ (show _ ∈ my_175_0 from List.mem_of_getElem? (i := 26) rfl))
theorem cd_175_84 : mt_cd 175 84 = some (.iload_n 2) := mt_cd_of (q := (84, .iload_n 2, 1)) mq_175 ci_175 (List.mem_append_left _ (show _ ∈ my_175_0 from List.mem_of_getElem? (i := 27) rfl))
theorem cd_175_85 : mt_cd 175 85 = some (.bipush 32) := mt_cd_of (q := (85, .bipush 32, 2)) mq_175 ci_175 (List.mem_append_left _ (show _ ∈ my_175_0 from List.mem_of_getElem? (i := 28) rfl))
theorem cd_175_87 : mt_cd 175 87 = some (.if_icmp .ne 5) := mt_cd_of (q := (87, .if_icmp .ne 5, 3)) mq_175 ci_175 (List.mem_append_left _ (show _ ∈ my_175_0 from List.mem_of_getElem? (i := 29) rfl))
theorem cd_175_90 : mt_cd 175 90 = some (.iconst 0) := mt_cd_of (q := (90, .iconst 0, 1)) mq_175 ci_175 (List.mem_append_left _ (show _ ∈ my_175_0 from List.mem_of_getElem? (i := 30) rfl))
theorem cd_175_91 : mt_cd 175 91 = some (.ireturn) := mt_cd_of (q := (91, .ireturn, 1)) mq_175 ci_175 (List.mem_append_left _ (show _ ∈ my_175_0 from List.mem_of_getElem? (i := 31) rfl))
theorem cd_175_92 : mt_cd 175 92 = some (.aload_n 0) := mt_cd_of (q := (92, .aload_n 0, 1)) mq_175 ci_175 (List.mem_append_left _ (show _ ∈ my_175_0 from List.mem_of_getElem? (i := 32) rfl))
theorem cd_175_93 : mt_cd 175 93 = some (.iload_n 2) := mt_cd_of (q := (93, .iload_n 2, 1)) mq_175 ci_175 (List.mem_append_left _ (show _ ∈ my_175_0 from List.mem_of_getElem? (i := 33) rfl))
theorem cd_175_94 : mt_cd 175 94 = some (.iconst 4) := mt_cd_of (q := (94, .iconst 4, 1)) mq_175 ci_175 (List.mem_append_left _ (show _ ∈ my_175_0 from List.mem_of_getElem? (i := 34) rfl))
theorem cd_175_95 : mt_cd 175 95 = some (.idiv) := mt_cd_of (q := (95, .idiv, 1)) mq_175 ci_175 (List.mem_append_left _ (show _ ∈ my_175_0 from List.mem_of_getElem? (i := 35) rfl))
theorem cd_175_96 : mt_cd 175 96 = some (.iload_n 2) := mt_cd_of (q := (96, .iload_n 2, 1)) mq_175 ci_175 (List.mem_append_left _ (show _ ∈ my_175_0 from List.mem_of_getElem? (i := 36) rfl))
theorem cd_175_97 : mt_cd 175 97 = some (.iconst 4) := mt_cd_of (q := (97, .iconst 4, 1)) mq_175 ci_175 (List.mem_append_left _ (show _ ∈ my_175_0 from List.mem_of_getElem? (i := 37) rfl))
theorem cd_175_98 : mt_cd 175 98 = some (.idiv) := mt_cd_of (q := (98, .idiv, 1)) mq_175 ci_175 (List.mem_append_left _ (show _ ∈ my_175_0 from List.mem_of_getElem? (i := 38) rfl))
theorem cd_175_99 : mt_cd 175 99 = some (.iload_n 2) := mt_cd_of (q := (99, .iload_n 2, 1)) mq_175 ci_175 (List.mem_append_left _ (show _ ∈ my_175_0 from List.mem_of_getElem? (i := 39) rfl))
theorem cd_175_100 : mt_cd 175 100 = some (.iconst 4) := mt_cd_of (q := (100, .iconst 4, 1)) mq_175 ci_175 (List.mem_append_left _ (show _ ∈ my_175_0 from List.mem_of_getElem? (i := 40) rfl))
theorem cd_175_101 : mt_cd 175 101 = some (.irem) := mt_cd_of (q := (101, .irem, 1)) mq_175 ci_175 (List.mem_append_left _ (show _ ∈ my_175_0 from List.mem_of_getElem? (i := 41) rfl))
theorem cd_175_102 : mt_cd 175 102 = some (.aload_n 0) := mt_cd_of (q := (102, .aload_n 0, 1)) mq_175 ci_175 (List.mem_append_left _ (show _ ∈ my_175_0 from List.mem_of_getElem? (i := 42) rfl))
theorem cd_175_103 : mt_cd 175 103 = some (.getfield 445) := mt_cd_of (q := (103, .getfield 445, 3)) mq_175 ci_175 (List.mem_append_left _ (show _ ∈ my_175_0 from List.mem_of_getElem? (i := 43) rfl))
theorem cd_175_106 : mt_cd 175 106 = some (.getfield 448) := mt_cd_of (q := (106, .getfield 448, 3)) mq_175 ci_175 (List.mem_append_left _ (show _ ∈ my_175_0 from List.mem_of_getElem? (i := 44) rfl))
theorem cd_175_109 : mt_cd 175 109 = some (.iload_n 2) := mt_cd_of (q := (109, .iload_n 2, 1)) mq_175 ci_175 (List.mem_append_left _ (show _ ∈ my_175_0 from List.mem_of_getElem? (i := 45) rfl))
theorem cd_175_110 : mt_cd 175 110 = some (.laload) := mt_cd_of (q := (110, .laload, 1)) mq_175 ci_175 (List.mem_append_left _ (show _ ∈ my_175_0 from List.mem_of_getElem? (i := 46) rfl))
theorem cd_175_111 : mt_cd 175 111 = some (.invokevirtual 499) := mt_cd_of (q := (111, .invokevirtual 499, 3)) mq_175 ci_175 (List.mem_append_left _ (show _ ∈ my_175_0 from List.mem_of_getElem? (i := 47) rfl))
theorem cd_175_114 : mt_cd 175 114 = some (.aload_n 0) := mt_cd_of (q := (114, .aload_n 0, 1)) mq_175 ci_175 (List.mem_append_left _ (show _ ∈ my_175_0 from List.mem_of_getElem? (i := 48) rfl))
theorem cd_175_115 : mt_cd 175 115 = some (.getfield 445) := mt_cd_of (q := (115, .getfield 445, 3)) mq_175 ci_175 (List.mem_append_left _ (show _ ∈ my_175_0 from List.mem_of_getElem? (i := 49) rfl))
theorem cd_175_118 : mt_cd 175 118 = some (.getfield 448) := mt_cd_of (q := (118, .getfield 448, 3)) mq_175 ci_175 (List.mem_append_left _ (show _ ∈ my_175_0 from List.mem_of_getElem? (i := 50) rfl))
theorem cd_175_121 : mt_cd 175 121 = some (.iload_n 2) := mt_cd_of (q := (121, .iload_n 2, 1)) mq_175 ci_175 (List.mem_append_left _ (show _ ∈ my_175_0 from List.mem_of_getElem? (i := 51) rfl))
theorem cd_175_122 : mt_cd 175 122 = some (.lconst 0) := mt_cd_of (q := (122, .lconst 0, 1)) mq_175 ci_175 (List.mem_append_left _ (show _ ∈ my_175_0 from List.mem_of_getElem? (i := 52) rfl))
theorem cd_175_123 : mt_cd 175 123 = some (.lastore) := mt_cd_of (q := (123, .lastore, 1)) mq_175 ci_175 (List.mem_append_left _ (show _ ∈ my_175_0 from List.mem_of_getElem? (i := 53) rfl))
theorem cd_175_124 : mt_cd 175 124 = some (.goto 474) := mt_cd_of (q := (124, .goto 474, 3)) mq_175 ci_175 (List.mem_append_left _ (show _ ∈ my_175_0 from List.mem_of_getElem? (i := 54) rfl))
theorem cd_175_127 : mt_cd 175 127 = some (.aload_n 0) := mt_cd_of (q := (127, .aload_n 0, 1)) mq_175 ci_175 (List.mem_append_left _ (show _ ∈ my_175_0 from List.mem_of_getElem? (i := 55) rfl))
theorem cd_175_128 : mt_cd 175 128 = some (.aload_n 0) := mt_cd_of (q := (128, .aload_n 0, 1)) mq_175 ci_175 (List.mem_append_left _ (show _ ∈ my_175_0 from List.mem_of_getElem? (i := 56) rfl))
theorem cd_175_129 : mt_cd 175 129 = some (.getfield 89) := mt_cd_of (q := (129, .getfield 89, 3)) mq_175 ci_175 (List.mem_append_left _ (show _ ∈ my_175_0 from List.mem_of_getElem? (i := 57) rfl))
theorem cd_175_132 : mt_cd 175 132 = some (.iload_n 1) := mt_cd_of (q := (132, .iload_n 1, 1)) mq_175 ci_175 (List.mem_append_left _ (show _ ∈ my_175_0 from List.mem_of_getElem? (i := 58) rfl))
theorem cd_175_133 : mt_cd 175 133 = some (.iaload) := mt_cd_of (q := (133, .iaload, 1)) mq_175 ci_175 (List.mem_append_left _ (show _ ∈ my_175_0 from List.mem_of_getElem? (i := 59) rfl))
theorem cd_175_134 : mt_cd 175 134 = some (.invokevirtual 451) := mt_cd_of (q := (134, .invokevirtual 451, 3)) mq_175 ci_175 (List.mem_append_right _ (List.mem_append_left _ (show _ ∈ my_175_1 from List.mem_of_getElem? (i := 0) rfl)))
theorem cd_175_137 : mt_cd 175 137 = some (.lstore_n 2) := mt_cd_of (q := (137, .lstore_n 2, 1)) mq_175 ci_175 (List.mem_append_right _ (List.mem_append_left _ (show _ ∈ my_175_1 from List.mem_of_getElem? (i := 1) rfl)))
theorem cd_175_138 : mt_cd 175 138 = some (.aload_n 0) := mt_cd_of (q := (138, .aload_n 0, 1)) mq_175 ci_175 (List.mem_append_right _ (List.mem_append_left _ (show _ ∈ my_175_1 from List.mem_of_getElem? (i := 2) rfl)))
theorem cd_175_139 : mt_cd 175 139 = some (.getfield 441) := mt_cd_of (q := (139, .getfield 441, 3)) mq_175 ci_175 (List.mem_append_right _ (List.mem_append_left _ (show _ ∈ my_175_1 from List.mem_of_getElem? (i := 3) rfl)))
theorem cd_175_142 : mt_cd 175 142 = some (.ifCond .eq 6) := mt_cd_of (q := (142, .ifCond .eq 6, 3)) mq_175 ci_175 (List.mem_append_right _ (List.mem_append_left _ (show _ ∈ my_175_1 from List.mem_of_getElem? (i := 4) rfl)))
theorem cd_175_145 : mt_cd 175 145 = some (.bipush 6) := mt_cd_of (q := (145, .bipush 6, 2)) mq_175 ci_175 (List.mem_append_right _ (List.mem_append_left _ (show _ ∈ my_175_1 from List.mem_of_getElem? (i := 5) rfl)))
theorem cd_175_147 : mt_cd 175 147 = some (.ireturn) := mt_cd_of (q := (147, .ireturn, 1)) mq_175 ci_175 (List.mem_append_right _ (List.mem_append_left _ (show _ ∈ my_175_1 from List.mem_of_getElem? (i := 6) rfl)))
theorem cd_175_148 : mt_cd 175 148 = some (.lload_n 2) := mt_cd_of (q := (148, .lload_n 2, 1)) mq_175 ci_175 (List.mem_append_right _ (List.mem_append_left _ (show _ ∈ my_175_1 from List.mem_of_getElem? (i := 7) rfl)))
theorem cd_175_149 : mt_cd 175 149 = some (.lconst 0) := mt_cd_of (q := (149, .lconst 0, 1)) mq_175 ci_175 (List.mem_append_right _ (List.mem_append_left _ (show _ ∈ my_175_1 from List.mem_of_getElem? (i := 8) rfl)))
theorem cd_175_150 : mt_cd 175 150 = some (.lcmp) := mt_cd_of (q := (150, .lcmp, 1)) mq_175 ci_175 (List.mem_append_right _ (List.mem_append_left _ (show _ ∈ my_175_1 from List.mem_of_getElem? (i := 9) rfl)))
theorem cd_175_151 : mt_cd 175 151 = some (.ifCond .gt 12) := mt_cd_of (q := (151, .ifCond .gt 12, 3)) mq_175 ci_175 (List.mem_append_right _ (List.mem_append_left _ (show _ ∈ my_175_1 from List.mem_of_getElem? (i := 10) rfl)))
theorem cd_175_154 : mt_cd 175 154 = some (.aload_n 0) := mt_cd_of (q := (154, .aload_n 0, 1)) mq_175 ci_175 (List.mem_append_right _ (List.mem_append_left _ (show _ ∈ my_175_1 from List.mem_of_getElem? (i := 11) rfl)))
theorem cd_175_155 : mt_cd 175 155 = some (.iconst 2) := mt_cd_of (q := (155, .iconst 2, 1)) mq_175 ci_175 (List.mem_append_right _ (List.mem_append_left _ (show _ ∈ my_175_1 from List.mem_of_getElem? (i := 12) rfl)))
theorem cd_175_156 : mt_cd 175 156 = some (.iload_n 1) := mt_cd_of (q := (156, .iload_n 1, 1)) mq_175 ci_175 (List.mem_append_right _ (List.mem_append_left _ (show _ ∈ my_175_1 from List.mem_of_getElem? (i := 13) rfl)))
theorem cd_175_157 : mt_cd 175 157 = some (.invokevirtual 502) := mt_cd_of (q := (157, .invokevirtual 502, 3)) mq_175 ci_175 (List.mem_append_right _ (List.mem_append_left _ (show _ ∈ my_175_1 from List.mem_of_getElem? (i := 14) rfl)))
theorem cd_175_160 : mt_cd 175 160 = some (.goto 190) := mt_cd_of (q := (160, .goto 190, 3)) mq_175 ci_175 (List.mem_append_right _ (List.mem_append_left _ (show _ ∈ my_175_1 from List.mem_of_getElem? (i := 15) rfl)))
theorem cd_175_163 : mt_cd 175 163 = some (.iconst 4) := mt_cd_of (q := (163, .iconst 4, 1)) mq_175 ci_175 (List.mem_append_right _ (List.mem_append_left _ (show _ ∈ my_175_1 from List.mem_of_getElem? (i := 16) rfl)))
theorem cd_175_164 : mt_cd 175 164 = some (.aload_n 0) := mt_cd_of (q := (164, .aload_n 0, 1)) mq_175 ci_175 (List.mem_append_right _ (List.mem_append_left _ (show _ ∈ my_175_1 from List.mem_of_getElem? (i := 17) rfl)))
theorem cd_175_165 : mt_cd 175 165 = some (.getfield 80) := mt_cd_of (q := (165, .getfield 80, 3)) mq_175 ci_175 (List.mem_append_right _ (List.mem_append_left _ (show _ ∈ my_175_1 from List.mem_of_getElem? (i := 18) rfl)))
theorem cd_175_168 : mt_cd 175 168 = some (.iload_n 1) := mt_cd_of (q := (168, .iload_n 1, 1)) mq_175 ci_175 (List.mem_append_right _ (List.mem_append_left _ (show _ ∈ my_175_1 from List.mem_of_getElem? (i := 19) rfl)))
theorem cd_175_169 : mt_cd 175 169 = some (.iaload) := mt_cd_of (q := (169, .iaload, 1)) mq_175 ci_175 (List.mem_append_right _ (List.mem_append_left _ (show _ ∈ my_175_1 from List.mem_of_getElem? (i := 20) rfl)))
theorem cd_175_170 : mt_cd 175 170 = some (.imul) := mt_cd_of (q := (170, .imul, 1)) mq_175 ci_175 (List.mem_append_right _ (List.mem_append_left _ (show _ ∈ my_175_1 from List.mem_of_getElem? (i := 21) rfl)))
theorem cd_175_171 : mt_cd 175 171 = some (.aload_n 0) := mt_cd_of (q := (171, .aload_n 0, 1)) mq_175 ci_175 (List.mem_append_right _ (List.mem_append_left _ (show _ ∈ my_175_1 from List.mem_of_getElem? (i := 22) rfl)))
theorem cd_175_172 : mt_cd 175 172 = some (.getfield 86) := mt_cd_of (q := (172, .getfield 86, 3)) mq_175 ci_175 (List.mem_append_right _ (List.mem_append_left _ (show _ ∈ my_175_1 from List.mem_of_getElem? (i := 23) rfl)))
theorem cd_175_175 : mt_cd 175 175 = some (.iload_n 1) := mt_cd_of (q := (175, .iload_n 1, 1)) mq_175 ci_175 (List.mem_append_right _ (List.mem_append_left _ (show _ ∈ my_175_1 from List.mem_of_getElem? (i := 24) rfl)))
theorem cd_175_176 : mt_cd 175 176 = some (.iaload) := mt_cd_of (q := (176, .iaload, 1)) mq_175 ci_175 (List.mem_append_right _ (List.mem_append_left _ (show _ ∈ my_175_1 from List.mem_of_getElem? (i := 25) rfl)))
theorem cd_175_177 : mt_cd 175 177 = some (.iadd) := mt_cd_of (q := (177, .iadd, 1)) mq_175 ci_175 (List.mem_append_right _ (List.mem_append_left _ (show _ ∈ my_175_1 from List.mem_of_getElem? (i := 26) rfl)))
theorem cd_175_178 : mt_cd 175 178 = some (.istore 4) := mt_cd_of (q := (178, .istore 4, 2)) mq_175 ci_175 (List.mem_append_right _ (List.mem_append_left _ (show _ ∈ my_175_1 from List.mem_of_getElem? (i := 27) rfl)))
theorem cd_175_180 : mt_cd 175 180 = some (.lload_n 2) := mt_cd_of (q := (180, .lload_n 2, 1)) mq_175 ci_175 (List.mem_append_right _ (List.mem_append_left _ (show _ ∈ my_175_1 from List.mem_of_getElem? (i := 28) rfl)))
theorem cd_175_181 : mt_cd 175 181 = some (.aload_n 0) := mt_cd_of (q := (181, .aload_n 0, 1)) mq_175 ci_175 (List.mem_append_right _ (List.mem_append_left _ (show _ ∈ my_175_1 from List.mem_of_getElem? (i := 29) rfl)))
theorem cd_175_182 : mt_cd 175 182 = some (.getfield 445) := mt_cd_of (q := (182, .getfield 445, 3)) mq_175 ci_175 (List.mem_append_right _ (List.mem_append_left _ (show _ ∈ my_175_1 from List.mem_of_getElem? (i := 30) rfl)))
theorem cd_175_185 : mt_cd 175 185 = some (.getfield 448) := mt_cd_of (q := (185, .getfield 448, 3)) mq_175 ci_175 (List.mem_append_right _ (List.mem_append_left _ (show _ ∈ my_175_1 from List.mem_of_getElem? (i := 31) rfl)))
theorem cd_175_188 : mt_cd 175 188 = some (.iload 4) := mt_cd_of (q := (188, .iload 4, 2)) mq_175 ci_175 (List.mem_append_right _ (List.mem_append_left _ (show _ ∈ my_175_1 from List.mem_of_getElem? (i := 32) rfl)))
theorem cd_175_190 : mt_cd 175 190 = some (.laload) := mt_cd_of (q := (190, .laload, 1)) mq_175 ci_175 (List.mem_append_right _ (List.mem_append_left _ (show _ ∈ my_175_1 from List.mem_of_getElem? (i := 33) rfl)))
theorem cd_175_191 : mt_cd 175 191 = some (.lcmp) := mt_cd_of (q := (191, .lcmp, 1)) mq_175 ci_175 (List.mem_append_right _ (List.mem_append_left _ (show _ ∈ my_175_1 from List.mem_of_getElem? (i := 34) rfl)))
theorem cd_175_192 : mt_cd 175 192 = some (.ifCond .ge 7) := mt_cd_of (q := (192, .ifCond .ge 7, 3)) mq_175 ci_175 (List.mem_append_right _ (List.mem_append_left _ (show _ ∈ my_175_1 from List.mem_of_getElem? (i := 35) rfl)))
theorem cd_175_195 : mt_cd 175 195 = some (.lload_n 2) := mt_cd_of (q := (195, .lload_n 2, 1)) mq_175 ci_175 (List.mem_append_right _ (List.mem_append_left _ (show _ ∈ my_175_1 from List.mem_of_getElem? (i := 36) rfl)))
theorem cd_175_196 : mt_cd 175 196 = some (.goto 13) := mt_cd_of (q := (196, .goto 13, 3)) mq_175 ci_175 (List.mem_append_right _ (List.mem_append_left _ (show _ ∈ my_175_1 from List.mem_of_getElem? (i := 37) rfl)))
theorem cd_175_199 : mt_cd 175 199 = some (.aload_n 0) := mt_cd_of (q := (199, .aload_n 0, 1)) mq_175 ci_175 (List.mem_append_right _ (List.mem_append_left _ (show _ ∈ my_175_1 from List.mem_of_getElem? (i := 38) rfl)))
theorem cd_175_200 : mt_cd 175 200 = some (.getfield 445) := mt_cd_of (q := (200, .getfield 445, 3)) mq_175 ci_175 (List.mem_append_right _ (List.mem_append_left _ (show _ ∈ my_175_1 from List.mem_of_getElem? (i := 39) rfl)))
theorem cd_175_203 : mt_cd 175 203 = some (.getfield 448) := mt_cd_of (q := (203, .getfield 448, 3)) mq_175 ci_175 (List.mem_append_right _ (List.mem_append_left _ (show _ ∈ my_175_1 from List.mem_of_getElem? (i := 40) rfl)))
theorem cd_175_206 : mt_cd 175 206 = some (.iload 4) := mt_cd_of (q := (206, .iload 4, 2)) mq_175 ci_175 (List.mem_append_right _ (List.mem_append_left _ (show _ ∈ my_175_1 from List.mem_of_getElem? (i := 41) rfl)))
theorem cd_175_208 : mt_cd 175 208 = some (.laload) := mt_cd_of (q := (208, .laload, 1)) mq_175 ci_175 (List.mem_append_right _ (List.mem_append_left _ (show _ ∈ my_175_1 from List.mem_of_getElem? (i := 42) rfl)))
theorem cd_175_209 : mt_cd 175 209 = some (.lstore 5) := mt_cd_of (q := (209, .lstore 5, 2)) mq_175 ci_175 (List.mem_append_right _ (List.mem_append_left _ (show _ ∈ my_175_1 from List.mem_of_getElem? (i := 43) rfl)))
theorem cd_175_211 : mt_cd 175 211 = some (.lload 5) := mt_cd_of (q := (211, .lload 5, 2)) mq_175 ci_175 (List.mem_append_right _ (List.mem_append_left _ (show _ ∈ my_175_1 from List.mem_of_getElem? (i := 44) rfl)))
theorem cd_175_213 : mt_cd 175 213 = some (.lload_n 2) := mt_cd_of (q := (213, .lload_n 2, 1)) mq_175 ci_175 (List.mem_append_right _ (List.mem_append_left _ (show _ ∈ my_175_1 from List.mem_of_getElem? (i := 45) rfl)))
theorem cd_175_214 : mt_cd 175 214 = some (.lcmp) := mt_cd_of (q := (214, .lcmp, 1)) mq_175 ci_175 (List.mem_append_right _ (List.mem_append_left _ (show _ ∈ my_175_1 from List.mem_of_getElem? (i := 46) rfl)))
theorem cd_175_215 : mt_cd 175 215 = some (.ifCond .ge 9) := mt_cd_of (q := (215, .ifCond .ge 9, 3)) mq_175 ci_175 (List.mem_append_right _ (List.mem_append_left _ (show _ ∈ my_175_1 from List.mem_of_getElem? (i := 47) rfl)))
theorem cd_175_218 : mt_cd 175 218 = some (.aload_n 0) := mt_cd_of (q := (218, .aload_n 0, 1)) mq_175 ci_175 (List.mem_append_right _ (List.mem_append_left _ (show _ ∈ my_175_1 from List.mem_of_getElem? (i := 48) rfl)))
theorem cd_175_219 : mt_cd 175 219 = some (.iconst 3) := mt_cd_of (q := (219, .iconst 3, 1)) mq_175 ci_175 (List.mem_append_right _ (List.mem_append_left _ (show _ ∈ my_175_1 from List.mem_of_getElem? (i := 49) rfl)))
theorem cd_175_220 : mt_cd 175 220 = some (.iload_n 1) := mt_cd_of (q := (220, .iload_n 1, 1)) mq_175 ci_175 (List.mem_append_right _ (List.mem_append_left _ (show _ ∈ my_175_1 from List.mem_of_getElem? (i := 50) rfl)))
theorem cd_175_221 : mt_cd 175 221 = some (.invokevirtual 502) := mt_cd_of (q := (221, .invokevirtual 502, 3)) mq_175 ci_175 (List.mem_append_right _ (List.mem_append_left _ (show _ ∈ my_175_1 from List.mem_of_getElem? (i := 51) rfl)))
theorem cd_175_224 : mt_cd 175 224 = some (.aload_n 0) := mt_cd_of (q := (224, .aload_n 0, 1)) mq_175 ci_175 (List.mem_append_right _ (List.mem_append_left _ (show _ ∈ my_175_1 from List.mem_of_getElem? (i := 52) rfl)))
theorem cd_175_225 : mt_cd 175 225 = some (.getfield 445) := mt_cd_of (q := (225, .getfield 445, 3)) mq_175 ci_175 (List.mem_append_right _ (List.mem_append_left _ (show _ ∈ my_175_1 from List.mem_of_getElem? (i := 53) rfl)))
theorem cd_175_228 : mt_cd 175 228 = some (.getfield 448) := mt_cd_of (q := (228, .getfield 448, 3)) mq_175 ci_175 (List.mem_append_right _ (List.mem_append_left _ (show _ ∈ my_175_1 from List.mem_of_getElem? (i := 54) rfl)))
theorem cd_175_231 : mt_cd 175 231 = some (.iload 4) := mt_cd_of (q := (231, .iload 4, 2)) mq_175 ci_175 (List.mem_append_right _ (List.mem_append_left _ (show _ ∈ my_175_1 from List.mem_of_getElem? (i := 55) rfl)))
theorem cd_175_233 : mt_cd 175 233 = some (.dup2) := mt_cd_of (q := (233, .dup2, 1)) mq_175 ci_175 (List.mem_append_right _ (List.mem_append_left _ (show _ ∈ my_175_1 from List.mem_of_getElem? (i := 56) rfl)))
theorem cd_175_234 : mt_cd 175 234 = some (.laload) := mt_cd_of (q := (234, .laload, 1)) mq_175 ci_175 (List.mem_append_right _ (List.mem_append_left _ (show _ ∈ my_175_1 from List.mem_of_getElem? (i := 57) rfl)))
theorem cd_175_235 : mt_cd 175 235 = some (.lload 5) := mt_cd_of (q := (235, .lload 5, 2)) mq_175 ci_175 (List.mem_append_right _ (List.mem_append_left _ (show _ ∈ my_175_1 from List.mem_of_getElem? (i := 58) rfl)))
theorem cd_175_237 : mt_cd 175 237 = some (.lsub) := mt_cd_of (q := (237, .lsub, 1)) mq_175 ci_175 (List.mem_append_right _ (List.mem_append_left _ (show _ ∈ my_175_1 from List.mem_of_getElem? (i := 59) rfl)))
theorem cd_175_238 : mt_cd 175 238 = some (.lastore) := mt_cd_of (q := (238, .lastore, 1)) mq_175 ci_175 (List.mem_append_right _ (List.mem_append_right _ (List.mem_append_left _ (show _ ∈ my_175_2 from List.mem_of_getElem? (i := 0) rfl))))
theorem cd_175_239 : mt_cd 175 239 = some (.aload_n 0) := mt_cd_of (q := (239, .aload_n 0, 1)) mq_175 ci_175 (List.mem_append_right _ (List.mem_append_right _ (List.mem_append_left _ (show _ ∈ my_175_2 from List.mem_of_getElem? (i := 1) rfl))))
theorem cd_175_240 : mt_cd 175 240 = some (.getfield 77) := mt_cd_of (q := (240, .getfield 77, 3)) mq_175 ci_175 (List.mem_append_right _ (List.mem_append_right _ (List.mem_append_left _ (show _ ∈ my_175_2 from List.mem_of_getElem? (i := 2) rfl))))
theorem cd_175_243 : mt_cd 175 243 = some (.iload_n 1) := mt_cd_of (q := (243, .iload_n 1, 1)) mq_175 ci_175 (List.mem_append_right _ (List.mem_append_right _ (List.mem_append_left _ (show _ ∈ my_175_2 from List.mem_of_getElem? (i := 3) rfl))))
theorem cd_175_244 : mt_cd 175 244 = some (.iaload) := mt_cd_of (q := (244, .iaload, 1)) mq_175 ci_175 (List.mem_append_right _ (List.mem_append_right _ (List.mem_append_left _ (show _ ∈ my_175_2 from List.mem_of_getElem? (i := 4) rfl))))
theorem cd_175_245 : mt_cd 175 245 = some (.iconst 1) := mt_cd_of (q := (245, .iconst 1, 1)) mq_175 ci_175 (List.mem_append_right _ (List.mem_append_right _ (List.mem_append_left _ (show _ ∈ my_175_2 from List.mem_of_getElem? (i := 5) rfl))))
theorem cd_175_246 : mt_cd 175 246 = some (.if_icmp .ne 37) := mt_cd_of (q := (246, .if_icmp .ne 37, 3)) mq_175 ci_175 (List.mem_append_right _ (List.mem_append_right _ (List.mem_append_left _ (show _ ∈ my_175_2 from List.mem_of_getElem? (i := 6) rfl))))
theorem cd_175_249 : mt_cd 175 249 = some (.lload 5) := mt_cd_of (q := (249, .lload 5, 2)) mq_175 ci_175 (List.mem_append_right _ (List.mem_append_right _ (List.mem_append_left _ (show _ ∈ my_175_2 from List.mem_of_getElem? (i := 7) rfl))))
theorem cd_175_251 : mt_cd 175 251 = some (.lconst 0) := mt_cd_of (q := (251, .lconst 0, 1)) mq_175 ci_175 (List.mem_append_right _ (List.mem_append_right _ (List.mem_append_left _ (show _ ∈ my_175_2 from List.mem_of_getElem? (i := 8) rfl))))
theorem cd_175_252 : mt_cd 175 252 = some (.lcmp) := mt_cd_of (q := (252, .lcmp, 1)) mq_175 ci_175 (List.mem_append_right _ (List.mem_append_right _ (List.mem_append_left _ (show _ ∈ my_175_2 from List.mem_of_getElem? (i := 9) rfl))))
theorem cd_175_253 : mt_cd 175 253 = some (.ifCond .le 97) := mt_cd_of (q := (253, .ifCond .le 97, 3)) mq_175 ci_175 (List.mem_append_right _ (List.mem_append_right _ (List.mem_append_left _ (show _ ∈ my_175_2 from List.mem_of_getElem? (i := 10) rfl))))
theorem cd_175_256 : mt_cd 175 256 = some (.aload_n 0) := mt_cd_of (q := (256, .aload_n 0, 1)) mq_175 ci_175 (List.mem_append_right _ (List.mem_append_right _ (List.mem_append_left _ (show _ ∈ my_175_2 from List.mem_of_getElem? (i := 11) rfl))))
theorem cd_175_257 : mt_cd 175 257 = some (.aload_n 0) := mt_cd_of (q := (257, .aload_n 0, 1)) mq_175 ci_175 (List.mem_append_right _ (List.mem_append_right _ (List.mem_append_left _ (show _ ∈ my_175_2 from List.mem_of_getElem? (i := 12) rfl))))
theorem cd_175_258 : mt_cd 175 258 = some (.getfield 80) := mt_cd_of (q := (258, .getfield 80, 3)) mq_175 ci_175 (List.mem_append_right _ (List.mem_append_right _ (List.mem_append_left _ (show _ ∈ my_175_2 from List.mem_of_getElem? (i := 13) rfl))))
theorem cd_175_261 : mt_cd 175 261 = some (.iload_n 1) := mt_cd_of (q := (261, .iload_n 1, 1)) mq_175 ci_175 (List.mem_append_right _ (List.mem_append_right _ (List.mem_append_left _ (show _ ∈ my_175_2 from List.mem_of_getElem? (i := 14) rfl))))
theorem cd_175_262 : mt_cd 175 262 = some (.iaload) := mt_cd_of (q := (262, .iaload, 1)) mq_175 ci_175 (List.mem_append_right _ (List.mem_append_right _ (List.mem_append_left _ (show _ ∈ my_175_2 from List.mem_of_getElem? (i := 15) rfl))))
theorem cd_175_263 : mt_cd 175 263 = some (.aload_n 0) := mt_cd_of (q := (263, .aload_n 0, 1)) mq_175 ci_175 (List.mem_append_right _ (List.mem_append_right _ (List.mem_append_left _ (show _ ∈ my_175_2 from List.mem_of_getElem? (i := 16) rfl))))
theorem cd_175_264 : mt_cd 175 264 = some (.getfield 83) := mt_cd_of (q := (264, .getfield 83, 3)) mq_175 ci_175 (List.mem_append_right _ (List.mem_append_right _ (List.mem_append_left _ (show _ ∈ my_175_2 from List.mem_of_getElem? (i := 17) rfl))))
theorem cd_175_267 : mt_cd 175 267 = some (.iload_n 1) := mt_cd_of (q := (267, .iload_n 1, 1)) mq_175 ci_175 (List.mem_append_right _ (List.mem_append_right _ (List.mem_append_left _ (show _ ∈ my_175_2 from List.mem_of_getElem? (i := 18) rfl))))
theorem cd_175_268 : mt_cd 175 268 = some (.iaload) := mt_cd_of (q := (268, .iaload, 1)) mq_175 ci_175 (List.mem_append_right _ (List.mem_append_right _ (List.mem_append_left _ (show _ ∈ my_175_2 from List.mem_of_getElem? (i := 19) rfl))))
theorem cd_175_269 : mt_cd 175 269 = some (.aload_n 0) := mt_cd_of (q := (269, .aload_n 0, 1)) mq_175 ci_175 (List.mem_append_right _ (List.mem_append_right _ (List.mem_append_left _ (show _ ∈ my_175_2 from List.mem_of_getElem? (i := 20) rfl))))
theorem cd_175_270 : mt_cd 175 270 = some (.getfield 86) := mt_cd_of (q := (270, .getfield 86, 3)) mq_175 ci_175 (List.mem_append_right _ (List.mem_append_right _ (List.mem_append_left _ (show _ ∈ my_175_2 from List.mem_of_getElem? (i := 21) rfl))))
theorem cd_175_273 : mt_cd 175 273 = some (.iload_n 1) := mt_cd_of (q := (273, .iload_n 1, 1)) mq_175 ci_175 (List.mem_append_right _ (List.mem_append_right _ (List.mem_append_left _ (show _ ∈ my_175_2 from List.mem_of_getElem? (i := 22) rfl))))
theorem cd_175_274 : mt_cd 175 274 = some (.iaload) := mt_cd_of (q := (274, .iaload, 1)) mq_175 ci_175 (List.mem_append_right _ (List.mem_append_right _ (List.mem_append_left _ (show _ ∈ my_175_2 from List.mem_of_getElem? (i := 23) rfl))))
theorem cd_175_275 : mt_cd 175 275 = some (.lload 5) := mt_cd_of (q := (275, .lload 5, 2)) mq_175 ci_175 (List.mem_append_right _ (List.mem_append_right _ (List.mem_append_left _ (show _ ∈ my_175_2 from List.mem_of_getElem? (i := 24) rfl))))
theorem cd_175_277 : mt_cd 175 277 = some (.invokevirtual 499) := mt_cd_of (q := (277, .invokevirtual 499, 3)) mq_175 ci_175 (List.mem_append_right _ (List.mem_append_right _ (List.mem_append_left _ (show _ ∈ my_175_2 from List.mem_of_getElem? (i := 25) rfl))))
theorem cd_175_280 : mt_cd 175 280 = some (.goto 70) := mt_cd_of (q := (280, .goto 70, 3)) mq_175 ci_175 (List.mem_append_right _ (List.mem_append_right _ (List.mem_append_left _ (show _ ∈ my_175_2 from List.mem_of_getElem? (i := 26) rfl))))
theorem cd_175_283 : mt_cd 175 283 = some (.iconst 4) := mt_cd_of (q := (283, .iconst 4, 1)) mq_175 ci_175 (List.mem_append_right _ (List.mem_append_right _ (List.mem_append_left _ (show _ ∈ my_175_2 from List.mem_of_getElem? (i := 27) rfl))))
theorem cd_175_284 : mt_cd 175 284 = some (.aload_n 0) := mt_cd_of (q := (284, .aload_n 0, 1)) mq_175 ci_175 (List.mem_append_right _ (List.mem_append_right _ (List.mem_append_left _ (show _ ∈ my_175_2 from List.mem_of_getElem? (i := 28) rfl))))
theorem cd_175_285 : mt_cd 175 285 = some (.getfield 83) := mt_cd_of (q := (285, .getfield 83, 3)) mq_175 ci_175 (List.mem_append_right _ (List.mem_append_right _ (List.mem_append_left _ (show _ ∈ my_175_2 from List.mem_of_getElem? (i := 29) rfl))))
theorem cd_175_288 : mt_cd 175 288 = some (.iload_n 1) := mt_cd_of (q := (288, .iload_n 1, 1)) mq_175 ci_175 (List.mem_append_right _ (List.mem_append_right _ (List.mem_append_left _ (show _ ∈ my_175_2 from List.mem_of_getElem? (i := 30) rfl))))
theorem cd_175_289 : mt_cd 175 289 = some (.iaload) := mt_cd_of (q := (289, .iaload, 1)) mq_175 ci_175 (List.mem_append_right _ (List.mem_append_right _ (List.mem_append_left _ (show _ ∈ my_175_2 from List.mem_of_getElem? (i := 31) rfl))))
theorem cd_175_290 : mt_cd 175 290 = some (.imul) := mt_cd_of (q := (290, .imul, 1)) mq_175 ci_175 (List.mem_append_right _ (List.mem_append_right _ (List.mem_append_left _ (show _ ∈ my_175_2 from List.mem_of_getElem? (i := 32) rfl))))
theorem cd_175_291 : mt_cd 175 291 = some (.aload_n 0) := mt_cd_of (q := (291, .aload_n 0, 1)) mq_175 ci_175 (List.mem_append_right _ (List.mem_append_right _ (List.mem_append_left _ (show _ ∈ my_175_2 from List.mem_of_getElem? (i := 33) rfl))))
theorem cd_175_292 : mt_cd 175 292 = some (.getfield 86) := mt_cd_of (q := (292, .getfield 86, 3)) mq_175 ci_175 (List.mem_append_right _ (List.mem_append_right _ (List.mem_append_left _ (show _ ∈ my_175_2 from List.mem_of_getElem? (i := 34) rfl))))
theorem cd_175_295 : mt_cd 175 295 = some (.iload_n 1) := mt_cd_of (q := (295, .iload_n 1, 1)) mq_175 ci_175 (List.mem_append_right _ (List.mem_append_right _ (List.mem_append_left _ (show _ ∈ my_175_2 from List.mem_of_getElem? (i := 35) rfl))))
theorem cd_175_296 : mt_cd 175 296 = some (.iaload) := mt_cd_of (q := (296, .iaload, 1)) mq_175 ci_175 (List.mem_append_right _ (List.mem_append_right _ (List.mem_append_left _ (show _ ∈ my_175_2 from List.mem_of_getElem? (i := 36) rfl))))
theorem cd_175_297 : mt_cd 175 297 = some (.iadd) := mt_cd_of (q := (297, .iadd, 1)) mq_175 ci_175 (List.mem_append_right _ (List.mem_append_right _ (List.mem_append_left _ (show _ ∈ my_175_2 from List.mem_of_getElem? (i := 37) rfl))))
theorem cd_175_298 : mt_cd 175 298 = some (.istore 7) := mt_cd_of (q := (298, .istore 7, 2)) mq_175 ci_175 (List.mem_append_right _ (List.mem_append_right _ (List.mem_append_left _ (show _ ∈ my_175_2 from List.mem_of_getElem? (i := 38) rfl))))
theorem cd_175_300 : mt_cd 175 300 = some (.aload_n 0) := mt_cd_of (q := (300, .aload_n 0, 1)) mq_175 ci_175 (List.mem_append_right _ (List.mem_append_right _ (List.mem_append_left _ (show _ ∈ my_175_2 from List.mem_of_getElem? (i := 39) rfl))))
theorem cd_175_301 : mt_cd 175 301 = some (.getfield 445) := mt_cd_of (q := (301, .getfield 445, 3)) mq_175 ci_175 (List.mem_append_right _ (List.mem_append_right _ (List.mem_append_left _ (show _ ∈ my_175_2 from List.mem_of_getElem? (i := 40) rfl))))
theorem cd_175_304 : mt_cd 175 304 = some (.getfield 448) := mt_cd_of (q := (304, .getfield 448, 3)) mq_175 ci_175 (List.mem_append_right _ (List.mem_append_right _ (List.mem_append_left _ (show _ ∈ my_175_2 from List.mem_of_getElem? (i := 41) rfl))))
theorem cd_175_307 : mt_cd 175 307 = some (.iload 7) := mt_cd_of (q := (307, .iload 7, 2)) mq_175 ci_175 (List.mem_append_right _ (List.mem_append_right _ (List.mem_append_left _ (show _ ∈ my_175_2 from List.mem_of_getElem? (i := 42) rfl))))
theorem cd_175_309 : mt_cd 175 309 = some (.dup2) := mt_cd_of (q := (309, .dup2, 1)) mq_175 ci_175 (List.mem_append_right _ (List.mem_append_right _ (List.mem_append_left _ (show _ ∈ my_175_2 from List.mem_of_getElem? (i := 43) rfl))))
theorem cd_175_310 : mt_cd 175 310 = some (.laload) := mt_cd_of (q := (310, .laload, 1)) mq_175 ci_175 (List.mem_append_right _ (List.mem_append_right _ (List.mem_append_left _ (show _ ∈ my_175_2 from List.mem_of_getElem? (i := 44) rfl))))
theorem cd_175_311 : mt_cd 175 311 = some (.lload 5) := mt_cd_of (q := (311, .lload 5, 2)) mq_175 ci_175 (List.mem_append_right _ (List.mem_append_right _ (List.mem_append_left _ (show _ ∈ my_175_2 from List.mem_of_getElem? (i := 45) rfl))))
theorem cd_175_313 : mt_cd 175 313 = some (.ladd) := mt_cd_of (q := (313, .ladd, 1)) mq_175 ci_175 (List.mem_append_right _ (List.mem_append_right _ (List.mem_append_left _ (show _ ∈ my_175_2 from List.mem_of_getElem? (i := 46) rfl))))
theorem cd_175_314 : mt_cd 175 314 = some (.lastore) := mt_cd_of (q := (314, .lastore, 1)) mq_175 ci_175 (List.mem_append_right _ (List.mem_append_right _ (List.mem_append_left _ (show _ ∈ my_175_2 from List.mem_of_getElem? (i := 47) rfl))))
theorem cd_175_315 : mt_cd 175 315 = some (.aload_n 0) := mt_cd_of (q := (315, .aload_n 0, 1)) mq_175 ci_175 (List.mem_append_right _ (List.mem_append_right _ (List.mem_append_left _ (show _ ∈ my_175_2 from List.mem_of_getElem? (i := 48) rfl))))
theorem cd_175_316 : mt_cd 175 316 = some (.getfield 445) := mt_cd_of (q := (316, .getfield 445, 3)) mq_175 ci_175 (List.mem_append_right _ (List.mem_append_right _ (List.mem_append_left _ (show _ ∈ my_175_2 from List.mem_of_getElem? (i := 49) rfl))))
theorem cd_175_319 : mt_cd 175 319 = some (.getfield 448) := mt_cd_of (q := (319, .getfield 448, 3)) mq_175 ci_175 (List.mem_append_right _ (List.mem_append_right _ (List.mem_append_left _ (show _ ∈ my_175_2 from List.mem_of_getElem? (i := 50) rfl))))
theorem cd_175_322 : mt_cd 175 322 = some (.iload 7) := mt_cd_of (q := (322, .iload 7, 2)) mq_175 ci_175 (List.mem_append_right _ (List.mem_append_right _ (List.mem_append_left _ (show _ ∈ my_175_2 from List.mem_of_getElem? (i := 51) rfl))))
theorem cd_175_324 : mt_cd 175 324 = some (.laload) := mt_cd_of (q := (324, .laload, 1)) mq_175 ci_175 (List.mem_append_right _ (List.mem_append_right _ (List.mem_append_left _ (show _ ∈ my_175_2 from List.mem_of_getElem? (i := 52) rfl))))
theorem cd_175_325 : mt_cd 175 325 = some (.ldc2_w 437) := mt_cd_of (q := (325, .ldc2_w 437, 3)) mq_175 ci_175 (List.mem_append_right _ (List.mem_append_right _ (List.mem_append_left _ (show _ ∈ my_175_2 from List.mem_of_getElem? (i := 53) rfl))))
theorem cd_175_328 : mt_cd 175 328 = some (.lcmp) := mt_cd_of (q := (328, .lcmp, 1)) mq_175 ci_175 (List.mem_append_right _ (List.mem_append_right _ (List.mem_append_left _ (show _ ∈ my_175_2 from List.mem_of_getElem? (i := 54) rfl))))
theorem cd_175_329 : mt_cd 175 329 = some (.ifCond .gt 18) := mt_cd_of (q := (329, .ifCond .gt 18, 3)) mq_175 ci_175 (List.mem_append_right _ (List.mem_append_right _ (List.mem_append_left _ (show _ ∈ my_175_2 from List.mem_of_getElem? (i := 55) rfl))))
theorem cd_175_332 : mt_cd 175 332 = some (.aload_n 0) := mt_cd_of (q := (332, .aload_n 0, 1)) mq_175 ci_175 (List.mem_append_right _ (List.mem_append_right _ (List.mem_append_left _ (show _ ∈ my_175_2 from List.mem_of_getElem? (i := 56) rfl))))
theorem cd_175_333 : mt_cd 175 333 = some (.getfield 445) := mt_cd_of (q := (333, .getfield 445, 3)) mq_175 ci_175 (List.mem_append_right _ (List.mem_append_right _ (List.mem_append_left _ (show _ ∈ my_175_2 from List.mem_of_getElem? (i := 57) rfl))))
theorem cd_175_336 : mt_cd 175 336 = some (.getfield 448) := mt_cd_of (q := (336, .getfield 448, 3)) mq_175 ci_175 (List.mem_append_right _ (List.mem_append_right _ (List.mem_append_left _ (show _ ∈ my_175_2 from List.mem_of_getElem? (i := 58) rfl))))
theorem cd_175_339 : mt_cd 175 339 = some (.iload 7) := mt_cd_of (q := (339, .iload 7, 2)) mq_175 ci_175 (List.mem_append_right _ (List.mem_append_right _ (List.mem_append_left _ (show _ ∈ my_175_2 from List.mem_of_getElem? (i := 59) rfl))))
theorem cd_175_341 : mt_cd 175 341 = some (.laload) := mt_cd_of (q := (341, .laload, 1)) mq_175 ci_175 (List.mem_append_right _ (List.mem_append_right _ (List.mem_append_right _ (List.mem_append_left _ (show _ ∈ my_175_3 from List.mem_of_getElem? (i := 0) rfl)))))
theorem cd_175_342 : mt_cd 175 342 = some (.lconst 0) := mt_cd_of (q := (342, .lconst 0, 1)) mq_175 ci_175 (List.mem_append_right _ (List.mem_append_right _ (List.mem_append_right _ (List.mem_append_left _ (show _ ∈ my_175_3 from List.mem_of_getElem? (i := 1) rfl)))))
theorem cd_175_343 : mt_cd 175 343 = some (.lcmp) := mt_cd_of (q := (343, .lcmp, 1)) mq_175 ci_175 (List.mem_append_right _ (List.mem_append_right _ (List.mem_append_right _ (List.mem_append_left _ (show _ ∈ my_175_3 from List.mem_of_getElem? (i := 2) rfl)))))
theorem cd_175_344 : mt_cd 175 344 = some (.ifCond .ge 6) := mt_cd_of (q := (344, .ifCond .ge 6, 3)) mq_175 ci_175 (List.mem_append_right _ (List.mem_append_right _ (List.mem_append_right _ (List.mem_append_left _ (show _ ∈ my_175_3 from List.mem_of_getElem? (i := 3) rfl)))))
theorem cd_175_347 : mt_cd 175 347 = some (.bipush 6) := mt_cd_of (q := (347, .bipush 6, 2)) mq_175 ci_175 (List.mem_append_right _ (List.mem_append_right _ (List.mem_append_right _ (List.mem_append_left _ (show _ ∈ my_175_3 from List.mem_of_getElem? (i := 4) rfl)))))
theorem cd_175_349 : mt_cd 175 349 = some (.ireturn) := mt_cd_of (q := (349, .ireturn, 1)) mq_175 ci_175 (List.mem_append_right _ (List.mem_append_right _ (List.mem_append_right _ (List.mem_append_left _ (show _ ∈ my_175_3 from List.mem_of_getElem? (i := 5) rfl)))))
theorem cd_175_350 : mt_cd 175 350 = some (.aload_n 0) := mt_cd_of (q := (350, .aload_n 0, 1)) mq_175 ci_175 (List.mem_append_right _ (List.mem_append_right _ (List.mem_append_right _ (List.mem_append_left _ (show _ ∈ my_175_3 from List.mem_of_getElem? (i := 6) rfl)))))
theorem cd_175_351 : mt_cd 175 351 = some (.getfield 445) := mt_cd_of (q := (351, .getfield 445, 3)) mq_175 ci_175 (List.mem_append_right _ (List.mem_append_right _ (List.mem_append_right _ (List.mem_append_left _ (show _ ∈ my_175_3 from List.mem_of_getElem? (i := 7) rfl)))))
theorem cd_175_354 : mt_cd 175 354 = some (.aload_n 0) := mt_cd_of (q := (354, .aload_n 0, 1)) mq_175 ci_175 (List.mem_append_right _ (List.mem_append_right _ (List.mem_append_right _ (List.mem_append_left _ (show _ ∈ my_175_3 from List.mem_of_getElem? (i := 8) rfl)))))
theorem cd_175_355 : mt_cd 175 355 = some (.getfield 98) := mt_cd_of (q := (355, .getfield 98, 3)) mq_175 ci_175 (List.mem_append_right _ (List.mem_append_right _ (List.mem_append_right _ (List.mem_append_left _ (show _ ∈ my_175_3 from List.mem_of_getElem? (i := 9) rfl)))))
theorem cd_175_358 : mt_cd 175 358 = some (.iload_n 1) := mt_cd_of (q := (358, .iload_n 1, 1)) mq_175 ci_175 (List.mem_append_right _ (List.mem_append_right _ (List.mem_append_right _ (List.mem_append_left _ (show _ ∈ my_175_3 from List.mem_of_getElem? (i := 10) rfl)))))
theorem cd_175_359 : mt_cd 175 359 = some (.iaload) := mt_cd_of (q := (359, .iaload, 1)) mq_175 ci_175 (List.mem_append_right _ (List.mem_append_right _ (List.mem_append_right _ (List.mem_append_left _ (show _ ∈ my_175_3 from List.mem_of_getElem? (i := 11) rfl)))))
theorem cd_175_360 : mt_cd 175 360 = some (.putfield 496) := mt_cd_of (q := (360, .putfield 496, 3)) mq_175 ci_175 (List.mem_append_right _ (List.mem_append_right _ (List.mem_append_right _ (List.mem_append_left _ (show _ ∈ my_175_3 from List.mem_of_getElem? (i := 12) rfl)))))
theorem cd_175_363 : mt_cd 175 363 = some (.goto 235) := mt_cd_of (q := (363, .goto 235, 3)) mq_175 ci_175 (List.mem_append_right _ (List.mem_append_right _ (List.mem_append_right _ (List.mem_append_left _ (show _ ∈ my_175_3 from List.mem_of_getElem? (i := 13) rfl)))))
theorem cd_175_366 : mt_cd 175 366 = some (.aload_n 0) := mt_cd_of (q := (366, .aload_n 0, 1)) mq_175 ci_175 (List.mem_append_right _ (List.mem_append_right _ (List.mem_append_right _ (List.mem_append_left _ (show _ ∈ my_175_3 from List.mem_of_getElem? (i := 14) rfl)))))
theorem cd_175_367 : mt_cd 175 367 = some (.aload_n 0) := mt_cd_of (q := (367, .aload_n 0, 1)) mq_175 ci_175 (List.mem_append_right _ (List.mem_append_right _ (List.mem_append_right _ (List.mem_append_left _ (show _ ∈ my_175_3 from List.mem_of_getElem? (i := 15) rfl)))))
theorem cd_175_368 : mt_cd 175 368 = some (.getfield 89) := mt_cd_of (q := (368, .getfield 89, 3)) mq_175 ci_175 (List.mem_append_right _ (List.mem_append_right _ (List.mem_append_right _ (List.mem_append_left _ (show _ ∈ my_175_3 from List.mem_of_getElem? (i := 16) rfl)))))
theorem cd_175_371 : mt_cd 175 371 = some (.iload_n 1) := mt_cd_of (q := (371, .iload_n 1, 1)) mq_175 ci_175 (List.mem_append_right _ (List.mem_append_right _ (List.mem_append_right _ (List.mem_append_left _ (show _ ∈ my_175_3 from List.mem_of_getElem? (i := 17) rfl)))))
theorem cd_175_372 : mt_cd 175 372 = some (.iaload) := mt_cd_of (q := (372, .iaload, 1)) mq_175 ci_175 (List.mem_append_right _ (List.mem_append_right _ (List.mem_append_right _ (List.mem_append_left _ (show _ ∈ my_175_3 from List.mem_of_getElem? (i := 18) rfl)))))
theorem cd_175_373 : mt_cd 175 373 = some (.invokevirtual 477) := mt_cd_of (q := (373, .invokevirtual 477, 3)) mq_175 ci_175 (List.mem_append_right _ (List.mem_append_right _ (List.mem_append_right _ (List.mem_append_left _ (show _ ∈ my_175_3 from List.mem_of_getElem? (i := 19) rfl)))))
theorem cd_175_376 : mt_cd 175 376 = some (.istore_n 2) := mt_cd_of (q := (376, .istore_n 2, 1)) mq_175 ci_175 (List.mem_append_right _ (List.mem_append_right _ (List.mem_append_right _ (List.mem_append_left _ (show _ ∈ my_175_3 from List.mem_of_getElem? (i := 20) rfl)))))
theorem cd_175_377 : mt_cd 175 377 = some (.aload_n 0) := mt_cd_of (q := (377, .aload_n 0, 1)) mq_175 ci_175 (List.mem_append_right _ (List.mem_append_right _ (List.mem_append_right _ (List.mem_append_left _ (show _ ∈ my_175_3 from List.mem_of_getElem? (i := 21) rfl)))))
theorem cd_175_378 : mt_cd 175 378 = some (.getfield 441) := mt_cd_of (q := (378, .getfield 441, 3)) mq_175 ci_175 (List.mem_append_right _ (List.mem_append_right _ (List.mem_append_right _ (List.mem_append_left _ (show _ ∈ my_175_3 from List.mem_of_getElem? (i := 22) rfl)))))
theorem cd_175_381 : mt_cd 175 381 = some (.ifCond .eq 6) := mt_cd_of (q := (381, .ifCond .eq 6, 3)) mq_175 ci_175 (List.mem_append_right _ (List.mem_append_right _ (List.mem_append_right _ (List.mem_append_left _ (show _ ∈ my_175_3 from List.mem_of_getElem? (i := 23) rfl)))))
theorem cd_175_384 : mt_cd 175 384 = some (.bipush 6) := mt_cd_of (q := (384, .bipush 6, 2)) mq_175 ci_175 (List.mem_append_right _ (List.mem_append_right _ (List.mem_append_right _ (List.mem_append_left _ (show _ ∈ my_175_3 from List.mem_of_getElem? (i := 24) rfl)))))
theorem cd_175_386 : mt_cd 175 386 = some (.ireturn) := mt_cd_of (q := (386, .ireturn, 1)) mq_175 ci_175 (List.mem_append_right _ (List.mem_append_right _ (List.mem_append_right _ (List.mem_append_left _ (show _ ∈ my_175_3 from List.mem_of_getElem? (i := 25) rfl)))))
theorem cd_175_387 : mt_cd 175 387 = some (.aload_n 0) := mt_cd_of (q := (387, .aload_n 0, 1)) mq_175 ci_175 (List.mem_append_right _ (List.mem_append_right _ (List.mem_append_right _ (List.mem_append_left _ (show _ ∈ my_175_3 from List.mem_of_getElem? (i := 26) rfl)))))
theorem cd_175_388 : mt_cd 175 388 = some (.getfield 445) := mt_cd_of (q := (388, .getfield 445, 3)) mq_175 ci_175 (List.mem_append_right _ (List.mem_append_right _ (List.mem_append_right _ (List.mem_append_left _ (show _ ∈ my_175_3 from List.mem_of_getElem? (i := 27) rfl)))))
theorem cd_175_391 : mt_cd 175 391 = some (.iload_n 2) := mt_cd_of (q := (391, .iload_n 2, 1)) mq_175 ci_175 (List.mem_append_right _ (List.mem_append_right _ (List.mem_append_right _ (List.mem_append_left _ (show _ ∈ my_175_3 from List.mem_of_getElem? (i := 28) rfl)))))
theorem cd_175_392 : mt_cd 175 392 = some (.ifCond .eq 12) := mt_cd_of (q := (392, .ifCond .eq 12, 3)) mq_175 ci_175 (List.mem_append_right _ (List.mem_append_right _ (List.mem_append_right _ (List.mem_append_left _ (show _ ∈ my_175_3 from List.mem_of_getElem? (i := 29) rfl)))))
theorem cd_175_395 : mt_cd 175 395 = some (.aload_n 0) := mt_cd_of (q := (395, .aload_n 0, 1)) mq_175 ci_175 (List.mem_append_right _ (List.mem_append_right _ (List.mem_append_right _ (List.mem_append_left _ (show _ ∈ my_175_3 from List.mem_of_getElem? (i := 30) rfl)))))
theorem cd_175_396 : mt_cd 175 396 = some (.getfield 80) := mt_cd_of (q := (396, .getfield 80, 3)) mq_175 ci_175 (List.mem_append_right _ (List.mem_append_right _ (List.mem_append_right _ (List.mem_append_left _ (show _ ∈ my_175_3 from List.mem_of_getElem? (i := 31) rfl)))))
theorem cd_175_399 : mt_cd 175 399 = some (.iload_n 1) := mt_cd_of (q := (399, .iload_n 1, 1)) mq_175 ci_175 (List.mem_append_right _ (List.mem_append_right _ (List.mem_append_right _ (List.mem_append_left _ (show _ ∈ my_175_3 from List.mem_of_getElem? (i := 32) rfl)))))
theorem cd_175_400 : mt_cd 175 400 = some (.iaload) := mt_cd_of (q := (400, .iaload, 1)) mq_175 ci_175 (List.mem_append_right _ (List.mem_append_right _ (List.mem_append_right _ (List.mem_append_left _ (show _ ∈ my_175_3 from List.mem_of_getElem? (i := 33) rfl)))))
theorem cd_175_401 : mt_cd 175 401 = some (.goto 9) := mt_cd_of (q := (401, .goto 9, 3)) mq_175 ci_175 (List.mem_append_right _ (List.mem_append_right _ (List.mem_append_right _ (List.mem_append_left _ (show _ ∈ my_175_3 from List.mem_of_getElem? (i := 34) rfl)))))
theorem cd_175_404 : mt_cd 175 404 = some (.aload_n 0) := mt_cd_of (q := (404, .aload_n 0, 1)) mq_175 ci_175 (List.mem_append_right _ (List.mem_append_right _ (List.mem_append_right _ (List.mem_append_left _ (show _ ∈ my_175_3 from List.mem_of_getElem? (i := 35) rfl)))))
theorem cd_175_405 : mt_cd 175 405 = some (.getfield 83) := mt_cd_of (q := (405, .getfield 83, 3)) mq_175 ci_175 (List.mem_append_right _ (List.mem_append_right _ (List.mem_append_right _ (List.mem_append_left _ (show _ ∈ my_175_3 from List.mem_of_getElem? (i := 36) rfl)))))
theorem cd_175_408 : mt_cd 175 408 = some (.iload_n 1) := mt_cd_of (q := (408, .iload_n 1, 1)) mq_175 ci_175 (List.mem_append_right _ (List.mem_append_right _ (List.mem_append_right _ (List.mem_append_left _ (show _ ∈ my_175_3 from List.mem_of_getElem? (i := 37) rfl)))))
theorem cd_175_409 : mt_cd 175 409 = some (.iaload) := mt_cd_of (q := (409, .iaload, 1)) mq_175 ci_175 (List.mem_append_right _ (List.mem_append_right _ (List.mem_append_right _ (List.mem_append_left _ (show _ ∈ my_175_3 from List.mem_of_getElem? (i := 38) rfl)))))
theorem cd_175_410 : mt_cd 175 410 = some (.putfield 496) := mt_cd_of (q := (410, .putfield 496, 3)) mq_175 ci_175 (List.mem_append_right _ (List.mem_append_right _ (List.mem_append_right _ (List.mem_append_left _ (show _ ∈ my_175_3 from List.mem_of_getElem? (i := 39) rfl)))))
theorem cd_175_413 : mt_cd 175 413 = some (.goto 185) := mt_cd_of (q := (413, .goto 185, 3)) mq_175 ci_175 (List.mem_append_right _ (List.mem_append_right _ (List.mem_append_right _ (List.mem_append_left _ (show _ ∈ my_175_3 from List.mem_of_getElem? (i := 40) rfl)))))
theorem cd_175_416 : mt_cd 175 416 = some (.aload_n 0) := mt_cd_of (q := (416, .aload_n 0, 1)) mq_175 ci_175 (List.mem_append_right _ (List.mem_append_right _ (List.mem_append_right _ (List.mem_append_left _ (show _ ∈ my_175_3 from List.mem_of_getElem? (i := 41) rfl)))))
theorem cd_175_417 : mt_cd 175 417 = some (.getfield 474) := mt_cd_of (q := (417, .getfield 474, 3)) mq_175 ci_175 (List.mem_append_right _ (List.mem_append_right _ (List.mem_append_right _ (List.mem_append_left _ (show _ ∈ my_175_3 from List.mem_of_getElem? (i := 42) rfl)))))
theorem cd_175_420 : mt_cd 175 420 = some (.aload_n 0) := mt_cd_of (q := (420, .aload_n 0, 1)) mq_175 ci_175 (List.mem_append_right _ (List.mem_append_right _ (List.mem_append_right _ (List.mem_append_left _ (show _ ∈ my_175_3 from List.mem_of_getElem? (i := 43) rfl)))))
theorem cd_175_421 : mt_cd 175 421 = some (.getfield 101) := mt_cd_of (q := (421, .getfield 101, 3)) mq_175 ci_175 (List.mem_append_right _ (List.mem_append_right _ (List.mem_append_right _ (List.mem_append_left _ (show _ ∈ my_175_3 from List.mem_of_getElem? (i := 44) rfl)))))
theorem cd_175_424 : mt_cd 175 424 = some (.iload_n 1) := mt_cd_of (q := (424, .iload_n 1, 1)) mq_175 ci_175 (List.mem_append_right _ (List.mem_append_right _ (List.mem_append_right _ (List.mem_append_left _ (show _ ∈ my_175_3 from List.mem_of_getElem? (i := 45) rfl)))))
theorem cd_175_425 : mt_cd 175 425 = some (.laload) := mt_cd_of (q := (425, .laload, 1)) mq_175 ci_175 (List.mem_append_right _ (List.mem_append_right _ (List.mem_append_right _ (List.mem_append_left _ (show _ ∈ my_175_3 from List.mem_of_getElem? (i := 46) rfl)))))
theorem cd_175_426 : mt_cd 175 426 = some (.lcmp) := mt_cd_of (q := (426, .lcmp, 1)) mq_175 ci_175 (List.mem_append_right _ (List.mem_append_right _ (List.mem_append_right _ (List.mem_append_left _ (show _ ∈ my_175_3 from List.mem_of_getElem? (i := 47) rfl)))))
theorem cd_175_427 : mt_cd 175 427 = some (.ifCond .ge 5) := mt_cd_of (q := (427, .ifCond .ge 5, 3)) mq_175 ci_175 (List.mem_append_right _ (List.mem_append_right _ (List.mem_append_right _ (List.mem_append_left _ (show _ ∈ my_175_3 from List.mem_of_getElem? (i := 48) rfl)))))
theorem cd_175_430 : mt_cd 175 430 = some (.iconst 0) := mt_cd_of (q := (430, .iconst 0, 1)) mq_175 ci_175 (List.mem_append_right _ (List.mem_append_right _ (List.mem_append_right _ (List.mem_append_left _ (show _ ∈ my_175_3 from List.mem_of_getElem? (i := 49) rfl)))))
theorem cd_175_431 : mt_cd 175 431 = some (.ireturn) := mt_cd_of (q := (431, .ireturn, 1)) mq_175 ci_175 (List.mem_append_right _ (List.mem_append_right _ (List.mem_append_right _ (List.mem_append_left _ (show _ ∈ my_175_3 from List.mem_of_getElem? (i := 50) rfl)))))
theorem cd_175_432 : mt_cd 175 432 = some (.aload_n 0) := mt_cd_of (q := (432, .aload_n 0, 1)) mq_175 ci_175 (List.mem_append_right _ (List.mem_append_right _ (List.mem_append_right _ (List.mem_append_left _ (show _ ∈ my_175_3 from List.mem_of_getElem? (i := 51) rfl)))))
theorem cd_175_433 : mt_cd 175 433 = some (.getfield 101) := mt_cd_of (q := (433, .getfield 101, 3)) mq_175 ci_175 (List.mem_append_right _ (List.mem_append_right _ (List.mem_append_right _ (List.mem_append_left _ (show _ ∈ my_175_3 from List.mem_of_getElem? (i := 52) rfl)))))
theorem cd_175_436 : mt_cd 175 436 = some (.iload_n 1) := mt_cd_of (q := (436, .iload_n 1, 1)) mq_175 ci_175 (List.mem_append_right _ (List.mem_append_right _ (List.mem_append_right _ (List.mem_append_left _ (show _ ∈ my_175_3 from List.mem_of_getElem? (i := 53) rfl)))))
theorem cd_175_437 : mt_cd 175 437 = some (.laload) := mt_cd_of (q := (437, .laload, 1)) mq_175 ci_175 (List.mem_append_right _ (List.mem_append_right _ (List.mem_append_right _ (List.mem_append_left _ (show _ ∈ my_175_3 from List.mem_of_getElem? (i := 54) rfl)))))
theorem cd_175_438 : mt_cd 175 438 = some (.aload_n 0) := mt_cd_of (q := (438, .aload_n 0, 1)) mq_175 ci_175 (List.mem_append_right _ (List.mem_append_right _ (List.mem_append_right _ (List.mem_append_left _ (show _ ∈ my_175_3 from List.mem_of_getElem? (i := 55) rfl)))))
theorem cd_175_439 : mt_cd 175 439 = some (.getfield 471) := mt_cd_of (q := (439, .getfield 471, 3)) mq_175 ci_175 (List.mem_append_right _ (List.mem_append_right _ (List.mem_append_right _ (List.mem_append_left _ (show _ ∈ my_175_3 from List.mem_of_getElem? (i := 56) rfl)))))
theorem cd_175_442 : mt_cd 175 442 = some (.lcmp) := mt_cd_of (q := (442, .lcmp, 1)) mq_175 ci_175 (List.mem_append_right _ (List.mem_append_right _ (List.mem_append_right _ (List.mem_append_left _ (show _ ∈ my_175_3 from List.mem_of_getElem? (i := 57) rfl)))))
theorem cd_175_443 : mt_cd 175 443 = some (.ifCond .le 5) := mt_cd_of (q := (443, .ifCond .le 5, 3)) mq_175 ci_175 (List.mem_append_right _ (List.mem_append_right _ (List.mem_append_right _ (List.mem_append_left _ (show _ ∈ my_175_3 from List.mem_of_getElem? (i := 58) rfl)))))
theorem cd_175_446 : mt_cd 175 446 = some (.iconst 3) := mt_cd_of (q := (446, .iconst 3, 1)) mq_175 ci_175 (List.mem_append_right _ (List.mem_append_right _ (List.mem_append_right _ (List.mem_append_left _ (show _ ∈ my_175_3 from List.mem_of_getElem? (i := 59) rfl)))))
theorem cd_175_447 : mt_cd 175 447 = some (.ireturn) := mt_cd_of (q := (447, .ireturn, 1)) mq_175 ci_175 (List.mem_append_right _ (List.mem_append_right _ (List.mem_append_right _ (List.mem_append_right _ (List.mem_append_left _ (show _ ∈ my_175_4 from List.mem_of_getElem? (i := 0) rfl))))))
theorem cd_175_448 : mt_cd 175 448 = some (.aload_n 0) := mt_cd_of (q := (448, .aload_n 0, 1)) mq_175 ci_175 (List.mem_append_right _ (List.mem_append_right _ (List.mem_append_right _ (List.mem_append_right _ (List.mem_append_left _ (show _ ∈ my_175_4 from List.mem_of_getElem? (i := 1) rfl))))))
theorem cd_175_449 : mt_cd 175 449 = some (.getfield 445) := mt_cd_of (q := (449, .getfield 445, 3)) mq_175 ci_175 (List.mem_append_right _ (List.mem_append_right _ (List.mem_append_right _ (List.mem_append_right _ (List.mem_append_left _ (show _ ∈ my_175_4 from List.mem_of_getElem? (i := 2) rfl))))))
theorem cd_175_452 : mt_cd 175 452 = some (.aload_n 0) := mt_cd_of (q := (452, .aload_n 0, 1)) mq_175 ci_175 (List.mem_append_right _ (List.mem_append_right _ (List.mem_append_right _ (List.mem_append_right _ (List.mem_append_left _ (show _ ∈ my_175_4 from List.mem_of_getElem? (i := 3) rfl))))))
theorem cd_175_453 : mt_cd 175 453 = some (.getfield 98) := mt_cd_of (q := (453, .getfield 98, 3)) mq_175 ci_175 (List.mem_append_right _ (List.mem_append_right _ (List.mem_append_right _ (List.mem_append_right _ (List.mem_append_left _ (show _ ∈ my_175_4 from List.mem_of_getElem? (i := 4) rfl))))))
theorem cd_175_456 : mt_cd 175 456 = some (.iload_n 1) := mt_cd_of (q := (456, .iload_n 1, 1)) mq_175 ci_175 (List.mem_append_right _ (List.mem_append_right _ (List.mem_append_right _ (List.mem_append_right _ (List.mem_append_left _ (show _ ∈ my_175_4 from List.mem_of_getElem? (i := 5) rfl))))))
theorem cd_175_457 : mt_cd 175 457 = some (.iaload) := mt_cd_of (q := (457, .iaload, 1)) mq_175 ci_175 (List.mem_append_right _ (List.mem_append_right _ (List.mem_append_right _ (List.mem_append_right _ (List.mem_append_left _ (show _ ∈ my_175_4 from List.mem_of_getElem? (i := 6) rfl))))))
theorem cd_175_458 : mt_cd 175 458 = some (.putfield 496) := mt_cd_of (q := (458, .putfield 496, 3)) mq_175 ci_175 (List.mem_append_right _ (List.mem_append_right _ (List.mem_append_right _ (List.mem_append_right _ (List.mem_append_left _ (show _ ∈ my_175_4 from List.mem_of_getElem? (i := 7) rfl))))))
theorem cd_175_461 : mt_cd 175 461 = some (.goto 137) := mt_cd_of (q := (461, .goto 137, 3)) mq_175 ci_175 (List.mem_append_right _ (List.mem_append_right _ (List.mem_append_right _ (List.mem_append_right _ (List.mem_append_left _ (show _ ∈ my_175_4 from List.mem_of_getElem? (i := 8) rfl))))))
theorem cd_175_464 : mt_cd 175 464 = some (.aload_n 0) := mt_cd_of (q := (464, .aload_n 0, 1)) mq_175 ci_175 (List.mem_append_right _ (List.mem_append_right _ (List.mem_append_right _ (List.mem_append_right _ (List.mem_append_left _ (show _ ∈ my_175_4 from List.mem_of_getElem? (i := 9) rfl))))))
theorem cd_175_465 : mt_cd 175 465 = some (.aload_n 0) := mt_cd_of (q := (465, .aload_n 0, 1)) mq_175 ci_175 (List.mem_append_right _ (List.mem_append_right _ (List.mem_append_right _ (List.mem_append_right _ (List.mem_append_left _ (show _ ∈ my_175_4 from List.mem_of_getElem? (i := 10) rfl))))))
theorem cd_175_466 : mt_cd 175 466 = some (.getfield 89) := mt_cd_of (q := (466, .getfield 89, 3)) mq_175 ci_175 (List.mem_append_right _ (List.mem_append_right _ (List.mem_append_right _ (List.mem_append_right _ (List.mem_append_left _ (show _ ∈ my_175_4 from List.mem_of_getElem? (i := 11) rfl))))))
theorem cd_175_469 : mt_cd 175 469 = some (.iload_n 1) := mt_cd_of (q := (469, .iload_n 1, 1)) mq_175 ci_175 (List.mem_append_right _ (List.mem_append_right _ (List.mem_append_right _ (List.mem_append_right _ (List.mem_append_left _ (show _ ∈ my_175_4 from List.mem_of_getElem? (i := 12) rfl))))))
theorem cd_175_470 : mt_cd 175 470 = some (.iaload) := mt_cd_of (q := (470, .iaload, 1)) mq_175 ci_175 (List.mem_append_right _ (List.mem_append_right _ (List.mem_append_right _ (List.mem_append_right _ (List.mem_append_left _ (show _ ∈ my_175_4 from List.mem_of_getElem? (i := 13) rfl))))))
theorem cd_175_471 : mt_cd 175 471 = some (.invokevirtual 451) := mt_cd_of (q := (471, .invokevirtual 451, 3)) mq_175 ci_175 (List.mem_append_right _ (List.mem_append_right _ (List.mem_append_right _ (List.mem_append_right _ (List.mem_append_left _ (show _ ∈ my_175_4 from List.mem_of_getElem? (i := 14) rfl))))))
theorem cd_175_474 : mt_cd 175 474 = some (.lstore_n 2) := mt_cd_of (q := (474, .lstore_n 2, 1)) mq_175 ci_175 (List.mem_append_right _ (List.mem_append_right _ (List.mem_append_right _ (List.mem_append_right _ (List.mem_append_left _ (show _ ∈ my_175_4 from List.mem_of_getElem? (i := 15) rfl))))))
theorem cd_175_475 : mt_cd 175 475 = some (.aload_n 0) := mt_cd_of (q := (475, .aload_n 0, 1)) mq_175 ci_175 (List.mem_append_right _ (List.mem_append_right _ (List.mem_append_right _ (List.mem_append_right _ (List.mem_append_left _ (show _ ∈ my_175_4 from List.mem_of_getElem? (i := 16) rfl))))))
theorem cd_175_476 : mt_cd 175 476 = some (.getfield 441) := mt_cd_of (q := (476, .getfield 441, 3)) mq_175 ci_175 (List.mem_append_right _ (List.mem_append_right _ (List.mem_append_right _ (List.mem_append_right _ (List.mem_append_left _ (show _ ∈ my_175_4 from List.mem_of_getElem? (i := 17) rfl))))))
theorem cd_175_479 : mt_cd 175 479 = some (.ifCond .eq 6) := mt_cd_of (q := (479, .ifCond .eq 6, 3)) mq_175 ci_175 (List.mem_append_right _ (List.mem_append_right _ (List.mem_append_right _ (List.mem_append_right _ (List.mem_append_left _ (show _ ∈ my_175_4 from List.mem_of_getElem? (i := 18) rfl))))))
theorem cd_175_482 : mt_cd 175 482 = some (.bipush 6) := mt_cd_of (q := (482, .bipush 6, 2)) mq_175 ci_175 (List.mem_append_right _ (List.mem_append_right _ (List.mem_append_right _ (List.mem_append_right _ (List.mem_append_left _ (show _ ∈ my_175_4 from List.mem_of_getElem? (i := 19) rfl))))))
theorem cd_175_484 : mt_cd 175 484 = some (.ireturn) := mt_cd_of (q := (484, .ireturn, 1)) mq_175 ci_175 (List.mem_append_right _ (List.mem_append_right _ (List.mem_append_right _ (List.mem_append_right _ (List.mem_append_left _ (show _ ∈ my_175_4 from List.mem_of_getElem? (i := 20) rfl))))))
theorem cd_175_485 : mt_cd 175 485 = some (.aload_n 0) := mt_cd_of (q := (485, .aload_n 0, 1)) mq_175 ci_175 (List.mem_append_right _ (List.mem_append_right _ (List.mem_append_right _ (List.mem_append_right _ (List.mem_append_left _ (show _ ∈ my_175_4 from List.mem_of_getElem? (i := 21) rfl))))))
theorem cd_175_486 : mt_cd 175 486 = some (.getfield 445) := mt_cd_of (q := (486, .getfield 445, 3)) mq_175 ci_175 (List.mem_append_right _ (List.mem_append_right _ (List.mem_append_right _ (List.mem_append_right _ (List.mem_append_left _ (show _ ∈ my_175_4 from List.mem_of_getElem? (i := 22) rfl))))))
theorem cd_175_489 : mt_cd 175 489 = some (.getfield 465) := mt_cd_of (q := (489, .getfield 465, 3)) mq_175 ci_175 (List.mem_append_right _ (List.mem_append_right _ (List.mem_append_right _ (List.mem_append_right _ (List.mem_append_left _ (show _ ∈ my_175_4 from List.mem_of_getElem? (i := 23) rfl))))))
theorem cd_175_492 : mt_cd 175 492 = some (.aload_n 0) := mt_cd_of (q := (492, .aload_n 0, 1)) mq_175 ci_175 (List.mem_append_right _ (List.mem_append_right _ (List.mem_append_right _ (List.mem_append_right _ (List.mem_append_left _ (show _ ∈ my_175_4 from List.mem_of_getElem? (i := 24) rfl))))))
theorem cd_175_493 : mt_cd 175 493 = some (.getfield 80) := mt_cd_of (q := (493, .getfield 80, 3)) mq_175 ci_175 (List.mem_append_right _ (List.mem_append_right _ (List.mem_append_right _ (List.mem_append_right _ (List.mem_append_left _ (show _ ∈ my_175_4 from List.mem_of_getElem? (i := 25) rfl))))))
theorem cd_175_496 : mt_cd 175 496 = some (.iload_n 1) := mt_cd_of (q := (496, .iload_n 1, 1)) mq_175 ci_175 (List.mem_append_right _ (List.mem_append_right _ (List.mem_append_right _ (List.mem_append_right _ (List.mem_append_left _ (show _ ∈ my_175_4 from List.mem_of_getElem? (i := 26) rfl))))))
theorem cd_175_497 : mt_cd 175 497 = some (.iaload) := mt_cd_of (q := (497, .iaload, 1)) mq_175 ci_175 (List.mem_append_right _ (List.mem_append_right _ (List.mem_append_right _ (List.mem_append_right _ (List.mem_append_left _ (show _ ∈ my_175_4 from List.mem_of_getElem? (i := 27) rfl))))))
theorem cd_175_498 : mt_cd 175 498 = some (.baload) := mt_cd_of (q := (498, .baload, 1)) mq_175 ci_175 (List.mem_append_right _ (List.mem_append_right _ (List.mem_append_right _ (List.mem_append_right _ (List.mem_append_left _ (show _ ∈ my_175_4 from List.mem_of_getElem? (i := 28) rfl))))))
theorem cd_175_499 : mt_cd 175 499 = some (.ifCond .eq 9) := mt_cd_of (q := (499, .ifCond .eq 9, 3)) mq_175 ci_175 (List.mem_append_right _ (List.mem_append_right _ (List.mem_append_right _ (List.mem_append_right _ (List.mem_append_left _ (show _ ∈ my_175_4 from List.mem_of_getElem? (i := 29) rfl))))))
theorem cd_175_502 : mt_cd 175 502 = some (.aload_n 0) := mt_cd_of (q := (502, .aload_n 0, 1)) mq_175 ci_175 (List.mem_append_right _ (List.mem_append_right _ (List.mem_append_right _ (List.mem_append_right _ (List.mem_append_left _ (show _ ∈ my_175_4 from List.mem_of_getElem? (i := 30) rfl))))))
theorem cd_175_503 : mt_cd 175 503 = some (.iconst 4) := mt_cd_of (q := (503, .iconst 4, 1)) mq_175 ci_175 (List.mem_append_right _ (List.mem_append_right _ (List.mem_append_right _ (List.mem_append_right _ (List.mem_append_left _ (show _ ∈ my_175_4 from List.mem_of_getElem? (i := 31) rfl))))))
theorem cd_175_504 : mt_cd 175 504 = some (.iload_n 1) := mt_cd_of (q := (504, .iload_n 1, 1)) mq_175 ci_175 (List.mem_append_right _ (List.mem_append_right _ (List.mem_append_right _ (List.mem_append_right _ (List.mem_append_left _ (show _ ∈ my_175_4 from List.mem_of_getElem? (i := 32) rfl))))))
theorem cd_175_505 : mt_cd 175 505 = some (.invokevirtual 502) := mt_cd_of (q := (505, .invokevirtual 502, 3)) mq_175 ci_175 (List.mem_append_right _ (List.mem_append_right _ (List.mem_append_right _ (List.mem_append_right _ (List.mem_append_left _ (show _ ∈ my_175_4 from List.mem_of_getElem? (i := 33) rfl))))))
theorem cd_175_508 : mt_cd 175 508 = some (.aload_n 0) := mt_cd_of (q := (508, .aload_n 0, 1)) mq_175 ci_175 (List.mem_append_right _ (List.mem_append_right _ (List.mem_append_right _ (List.mem_append_right _ (List.mem_append_left _ (show _ ∈ my_175_4 from List.mem_of_getElem? (i := 34) rfl))))))
theorem cd_175_509 : mt_cd 175 509 = some (.getfield 445) := mt_cd_of (q := (509, .getfield 445, 3)) mq_175 ci_175 (List.mem_append_right _ (List.mem_append_right _ (List.mem_append_right _ (List.mem_append_right _ (List.mem_append_left _ (show _ ∈ my_175_4 from List.mem_of_getElem? (i := 35) rfl))))))
theorem cd_175_512 : mt_cd 175 512 = some (.getfield 465) := mt_cd_of (q := (512, .getfield 465, 3)) mq_175 ci_175 (List.mem_append_right _ (List.mem_append_right _ (List.mem_append_right _ (List.mem_append_right _ (List.mem_append_left _ (show _ ∈ my_175_4 from List.mem_of_getElem? (i := 36) rfl))))))
theorem cd_175_515 : mt_cd 175 515 = some (.aload_n 0) := mt_cd_of (q := (515, .aload_n 0, 1)) mq_175 ci_175 (List.mem_append_right _ (List.mem_append_right _ (List.mem_append_right _ (List.mem_append_right _ (List.mem_append_left _ (show _ ∈ my_175_4 from List.mem_of_getElem? (i := 37) rfl))))))
theorem cd_175_516 : mt_cd 175 516 = some (.getfield 80) := mt_cd_of (q := (516, .getfield 80, 3)) mq_175 ci_175 (List.mem_append_right _ (List.mem_append_right _ (List.mem_append_right _ (List.mem_append_right _ (List.mem_append_left _ (show _ ∈ my_175_4 from List.mem_of_getElem? (i := 38) rfl))))))
theorem cd_175_519 : mt_cd 175 519 = some (.iload_n 1) := mt_cd_of (q := (519, .iload_n 1, 1)) mq_175 ci_175 (List.mem_append_right _ (List.mem_append_right _ (List.mem_append_right _ (List.mem_append_right _ (List.mem_append_left _ (show _ ∈ my_175_4 from List.mem_of_getElem? (i := 39) rfl))))))
theorem cd_175_520 : mt_cd 175 520 = some (.iaload) := mt_cd_of (q := (520, .iaload, 1)) mq_175 ci_175 (List.mem_append_right _ (List.mem_append_right _ (List.mem_append_right _ (List.mem_append_right _ (List.mem_append_left _ (show _ ∈ my_175_4 from List.mem_of_getElem? (i := 40) rfl))))))
theorem cd_175_521 : mt_cd 175 521 = some (.iconst 1) := mt_cd_of (q := (521, .iconst 1, 1)) mq_175 ci_175 (List.mem_append_right _ (List.mem_append_right _ (List.mem_append_right _ (List.mem_append_right _ (List.mem_append_left _ (show _ ∈ my_175_4 from List.mem_of_getElem? (i := 41) rfl))))))
theorem cd_175_522 : mt_cd 175 522 = some (.bastore) := mt_cd_of (q := (522, .bastore, 1)) mq_175 ci_175 (List.mem_append_right _ (List.mem_append_right _ (List.mem_append_right _ (List.mem_append_right _ (List.mem_append_left _ (show _ ∈ my_175_4 from List.mem_of_getElem? (i := 42) rfl))))))
theorem cd_175_523 : mt_cd 175 523 = some (.aload_n 0) := mt_cd_of (q := (523, .aload_n 0, 1)) mq_175 ci_175 (List.mem_append_right _ (List.mem_append_right _ (List.mem_append_right _ (List.mem_append_right _ (List.mem_append_left _ (show _ ∈ my_175_4 from List.mem_of_getElem? (i := 43) rfl))))))
theorem cd_175_524 : mt_cd 175 524 = some (.getfield 445) := mt_cd_of (q := (524, .getfield 445, 3)) mq_175 ci_175 (List.mem_append_right _ (List.mem_append_right _ (List.mem_append_right _ (List.mem_append_right _ (List.mem_append_left _ (show _ ∈ my_175_4 from List.mem_of_getElem? (i := 44) rfl))))))
theorem cd_175_527 : mt_cd 175 527 = some (.getfield 468) := mt_cd_of (q := (527, .getfield 468, 3)) mq_175 ci_175 (List.mem_append_right _ (List.mem_append_right _ (List.mem_append_right _ (List.mem_append_right _ (List.mem_append_left _ (show _ ∈ my_175_4 from List.mem_of_getElem? (i := 45) rfl))))))
theorem cd_175_530 : mt_cd 175 530 = some (.aload_n 0) := mt_cd_of (q := (530, .aload_n 0, 1)) mq_175 ci_175 (List.mem_append_right _ (List.mem_append_right _ (List.mem_append_right _ (List.mem_append_right _ (List.mem_append_left _ (show _ ∈ my_175_4 from List.mem_of_getElem? (i := 46) rfl))))))
theorem cd_175_531 : mt_cd 175 531 = some (.getfield 80) := mt_cd_of (q := (531, .getfield 80, 3)) mq_175 ci_175 (List.mem_append_right _ (List.mem_append_right _ (List.mem_append_right _ (List.mem_append_right _ (List.mem_append_left _ (show _ ∈ my_175_4 from List.mem_of_getElem? (i := 47) rfl))))))
theorem cd_175_534 : mt_cd 175 534 = some (.iload_n 1) := mt_cd_of (q := (534, .iload_n 1, 1)) mq_175 ci_175 (List.mem_append_right _ (List.mem_append_right _ (List.mem_append_right _ (List.mem_append_right _ (List.mem_append_left _ (show _ ∈ my_175_4 from List.mem_of_getElem? (i := 48) rfl))))))
theorem cd_175_535 : mt_cd 175 535 = some (.iaload) := mt_cd_of (q := (535, .iaload, 1)) mq_175 ci_175 (List.mem_append_right _ (List.mem_append_right _ (List.mem_append_right _ (List.mem_append_right _ (List.mem_append_left _ (show _ ∈ my_175_4 from List.mem_of_getElem? (i := 49) rfl))))))
theorem cd_175_536 : mt_cd 175 536 = some (.lload_n 2) := mt_cd_of (q := (536, .lload_n 2, 1)) mq_175 ci_175 (List.mem_append_right _ (List.mem_append_right _ (List.mem_append_right _ (List.mem_append_right _ (List.mem_append_left _ (show _ ∈ my_175_4 from List.mem_of_getElem? (i := 50) rfl))))))
theorem cd_175_537 : mt_cd 175 537 = some (.lastore) := mt_cd_of (q := (537, .lastore, 1)) mq_175 ci_175 (List.mem_append_right _ (List.mem_append_right _ (List.mem_append_right _ (List.mem_append_right _ (List.mem_append_left _ (show _ ∈ my_175_4 from List.mem_of_getElem? (i := 51) rfl))))))
theorem cd_175_538 : mt_cd 175 538 = some (.aload_n 0) := mt_cd_of (q := (538, .aload_n 0, 1)) mq_175 ci_175 (List.mem_append_right _ (List.mem_append_right _ (List.mem_append_right _ (List.mem_append_right _ (List.mem_append_left _ (show _ ∈ my_175_4 from List.mem_of_getElem? (i := 52) rfl))))))
theorem cd_175_539 : mt_cd 175 539 = some (.getfield 445) := mt_cd_of (q := (539, .getfield 445, 3)) mq_175 ci_175 (List.mem_append_right _ (List.mem_append_right _ (List.mem_append_right _ (List.mem_append_right _ (List.mem_append_left _ (show _ ∈ my_175_4 from List.mem_of_getElem? (i := 53) rfl))))))
theorem cd_175_542 : mt_cd 175 542 = some (.aload_n 0) := mt_cd_of (q := (542, .aload_n 0, 1)) mq_175 ci_175 (List.mem_append_right _ (List.mem_append_right _ (List.mem_append_right _ (List.mem_append_right _ (List.mem_append_left _ (show _ ∈ my_175_4 from List.mem_of_getElem? (i := 54) rfl))))))
theorem cd_175_543 : mt_cd 175 543 = some (.getfield 98) := mt_cd_of (q := (543, .getfield 98, 3)) mq_175 ci_175 (List.mem_append_right _ (List.mem_append_right _ (List.mem_append_right _ (List.mem_append_right _ (List.mem_append_left _ (show _ ∈ my_175_4 from List.mem_of_getElem? (i := 55) rfl))))))
theorem cd_175_546 : mt_cd 175 546 = some (.iload_n 1) := mt_cd_of (q := (546, .iload_n 1, 1)) mq_175 ci_175 (List.mem_append_right _ (List.mem_append_right _ (List.mem_append_right _ (List.mem_append_right _ (List.mem_append_left _ (show _ ∈ my_175_4 from List.mem_of_getElem? (i := 56) rfl))))))
theorem cd_175_547 : mt_cd 175 547 = some (.iaload) := mt_cd_of (q := (547, .iaload, 1)) mq_175 ci_175 (List.mem_append_right _ (List.mem_append_right _ (List.mem_append_right _ (List.mem_append_right _ (List.mem_append_left _ (show _ ∈ my_175_4 from List.mem_of_getElem? (i := 57) rfl))))))
theorem cd_175_548 : mt_cd 175 548 = some (.putfield 496) := mt_cd_of (q := (548, .putfield 496, 3)) mq_175 ci_175 (List.mem_append_right _ (List.mem_append_right _ (List.mem_append_right _ (List.mem_append_right _ (List.mem_append_left _ (show _ ∈ my_175_4 from List.mem_of_getElem? (i := 58) rfl))))))
theorem cd_175_551 : mt_cd 175 551 = some (.goto 47) := mt_cd_of (q := (551, .goto 47, 3)) mq_175 ci_175 (List.mem_append_right _ (List.mem_append_right _ (List.mem_append_right _ (List.mem_append_right _ (List.mem_append_left _ (show _ ∈ my_175_4 from List.mem_of_getElem? (i := 59) rfl))))))
theorem cd_175_554 : mt_cd 175 554 = some (.aload_n 0) := mt_cd_of (q := (554, .aload_n 0, 1)) mq_175 ci_175 (List.mem_append_right _ (List.mem_append_right _ (List.mem_append_right _ (List.mem_append_right _ (List.mem_append_right _ ((show _ ∈ my_175_5 from List.mem_of_getElem? (i := 0) rfl)))))))
theorem cd_175_555 : mt_cd 175 555 = some (.aload_n 0) := mt_cd_of (q := (555, .aload_n 0, 1)) mq_175 ci_175 (List.mem_append_right _ (List.mem_append_right _ (List.mem_append_right _ (List.mem_append_right _ (List.mem_append_right _ ((show _ ∈ my_175_5 from List.mem_of_getElem? (i := 1) rfl)))))))
theorem cd_175_556 : mt_cd 175 556 = some (.getfield 89) := mt_cd_of (q := (556, .getfield 89, 3)) mq_175 ci_175 (List.mem_append_right _ (List.mem_append_right _ (List.mem_append_right _ (List.mem_append_right _ (List.mem_append_right _ ((show _ ∈ my_175_5 from List.mem_of_getElem? (i := 2) rfl)))))))
theorem cd_175_559 : mt_cd 175 559 = some (.iload_n 1) := mt_cd_of (q := (559, .iload_n 1, 1)) mq_175 ci_175 (List.mem_append_right _ (List.mem_append_right _ (List.mem_append_right _ (List.mem_append_right _ (List.mem_append_right _ ((show _ ∈ my_175_5 from List.mem_of_getElem? (i := 3) rfl)))))))
theorem cd_175_560 : mt_cd 175 560 = some (.iaload) := mt_cd_of (q := (560, .iaload, 1)) mq_175 ci_175 (List.mem_append_right _ (List.mem_append_right _ (List.mem_append_right _ (List.mem_append_right _ (List.mem_append_right _ ((show _ ∈ my_175_5 from List.mem_of_getElem? (i := 4) rfl)))))))
theorem cd_175_561 : mt_cd 175 561 = some (.invokevirtual 477) := mt_cd_of (q := (561, .invokevirtual 477, 3)) mq_175 ci_175 (List.mem_append_right _ (List.mem_append_right _ (List.mem_append_right _ (List.mem_append_right _ (List.mem_append_right _ ((show _ ∈ my_175_5 from List.mem_of_getElem? (i := 5) rfl)))))))
theorem cd_175_564 : mt_cd 175 564 = some (.istore_n 2) := mt_cd_of (q := (564, .istore_n 2, 1)) mq_175 ci_175 (List.mem_append_right _ (List.mem_append_right _ (List.mem_append_right _ (List.mem_append_right _ (List.mem_append_right _ ((show _ ∈ my_175_5 from List.mem_of_getElem? (i := 6) rfl)))))))
theorem cd_175_565 : mt_cd 175 565 = some (.aload_n 0) := mt_cd_of (q := (565, .aload_n 0, 1)) mq_175 ci_175 (List.mem_append_right _ (List.mem_append_right _ (List.mem_append_right _ (List.mem_append_right _ (List.mem_append_right _ ((show _ ∈ my_175_5 from List.mem_of_getElem? (i := 7) rfl)))))))
theorem cd_175_566 : mt_cd 175 566 = some (.getfield 441) := mt_cd_of (q := (566, .getfield 441, 3)) mq_175 ci_175 (List.mem_append_right _ (List.mem_append_right _ (List.mem_append_right _ (List.mem_append_right _ (List.mem_append_right _ ((show _ ∈ my_175_5 from List.mem_of_getElem? (i := 8) rfl)))))))
theorem cd_175_569 : mt_cd 175 569 = some (.ifCond .eq 6) := mt_cd_of (q := (569, .ifCond .eq 6, 3)) mq_175 ci_175 (List.mem_append_right _ (List.mem_append_right _ (List.mem_append_right _ (List.mem_append_right _ (List.mem_append_right _ ((show _ ∈ my_175_5 from List.mem_of_getElem? (i := 9) rfl)))))))
theorem cd_175_572 : mt_cd 175 572 = some (.bipush 6) := mt_cd_of (q := (572, .bipush 6, 2)) mq_175 ci_175 (List.mem_append_right _ (List.mem_append_right _ (List.mem_append_right _ (List.mem_append_right _ (List.mem_append_right _ ((show _ ∈ my_175_5 from List.mem_of_getElem? (i := 10) rfl)))))))
theorem cd_175_574 : mt_cd 175 574 = some (.ireturn) := mt_cd_of (q := (574, .ireturn, 1)) mq_175 ci_175 (List.mem_append_right _ (List.mem_append_right _ (List.mem_append_right _ (List.mem_append_right _ (List.mem_append_right _ ((show _ ∈ my_175_5 from List.mem_of_getElem? (i := 11) rfl)))))))
theorem cd_175_575 : mt_cd 175 575 = some (.iload_n 2) := mt_cd_of (q := (575, .iload_n 2, 1)) mq_175 ci_175 (List.mem_append_right _ (List.mem_append_right _ (List.mem_append_right _ (List.mem_append_right _ (List.mem_append_right _ ((show _ ∈ my_175_5 from List.mem_of_getElem? (i := 12) rfl)))))))
theorem cd_175_576 : mt_cd 175 576 = some (.ifCond .ne 9) := mt_cd_of (q := (576, .ifCond .ne 9, 3)) mq_175 ci_175 (List.mem_append_right _ (List.mem_append_right _ (List.mem_append_right _ (List.mem_append_right _ (List.mem_append_right _ ((show _ ∈ my_175_5 from List.mem_of_getElem? (i := 13) rfl)))))))
theorem cd_175_579 : mt_cd 175 579 = some (.aload_n 0) := mt_cd_of (q := (579, .aload_n 0, 1)) mq_175 ci_175 (List.mem_append_right _ (List.mem_append_right _ (List.mem_append_right _ (List.mem_append_right _ (List.mem_append_right _ ((show _ ∈ my_175_5 from List.mem_of_getElem? (i := 14) rfl)))))))
theorem cd_175_580 : mt_cd 175 580 = some (.iconst 5) := mt_cd_of (q := (580, .iconst 5, 1)) mq_175 ci_175 (List.mem_append_right _ (List.mem_append_right _ (List.mem_append_right _ (List.mem_append_right _ (List.mem_append_right _ ((show _ ∈ my_175_5 from List.mem_of_getElem? (i := 15) rfl)))))))
theorem cd_175_581 : mt_cd 175 581 = some (.iload_n 1) := mt_cd_of (q := (581, .iload_n 1, 1)) mq_175 ci_175 (List.mem_append_right _ (List.mem_append_right _ (List.mem_append_right _ (List.mem_append_right _ (List.mem_append_right _ ((show _ ∈ my_175_5 from List.mem_of_getElem? (i := 16) rfl)))))))
theorem cd_175_582 : mt_cd 175 582 = some (.invokevirtual 502) := mt_cd_of (q := (582, .invokevirtual 502, 3)) mq_175 ci_175 (List.mem_append_right _ (List.mem_append_right _ (List.mem_append_right _ (List.mem_append_right _ (List.mem_append_right _ ((show _ ∈ my_175_5 from List.mem_of_getElem? (i := 17) rfl)))))))
theorem cd_175_585 : mt_cd 175 585 = some (.aload_n 0) := mt_cd_of (q := (585, .aload_n 0, 1)) mq_175 ci_175 (List.mem_append_right _ (List.mem_append_right _ (List.mem_append_right _ (List.mem_append_right _ (List.mem_append_right _ ((show _ ∈ my_175_5 from List.mem_of_getElem? (i := 18) rfl)))))))
theorem cd_175_586 : mt_cd 175 586 = some (.getfield 445) := mt_cd_of (q := (586, .getfield 445, 3)) mq_175 ci_175 (List.mem_append_right _ (List.mem_append_right _ (List.mem_append_right _ (List.mem_append_right _ (List.mem_append_right _ ((show _ ∈ my_175_5 from List.mem_of_getElem? (i := 19) rfl)))))))
theorem cd_175_589 : mt_cd 175 589 = some (.aload_n 0) := mt_cd_of (q := (589, .aload_n 0, 1)) mq_175 ci_175 (List.mem_append_right _ (List.mem_append_right _ (List.mem_append_right _ (List.mem_append_right _ (List.mem_append_right _ ((show _ ∈ my_175_5 from List.mem_of_getElem? (i := 20) rfl)))))))
theorem cd_175_590 : mt_cd 175 590 = some (.getfield 98) := mt_cd_of (q := (590, .getfield 98, 3)) mq_175 ci_175 (List.mem_append_right _ (List.mem_append_right _ (List.mem_append_right _ (List.mem_append_right _ (List.mem_append_right _ ((show _ ∈ my_175_5 from List.mem_of_getElem? (i := 21) rfl)))))))
theorem cd_175_593 : mt_cd 175 593 = some (.iload_n 1) := mt_cd_of (q := (593, .iload_n 1, 1)) mq_175 ci_175 (List.mem_append_right _ (List.mem_append_right _ (List.mem_append_right _ (List.mem_append_right _ (List.mem_append_right _ ((show _ ∈ my_175_5 from List.mem_of_getElem? (i := 22) rfl)))))))
theorem cd_175_594 : mt_cd 175 594 = some (.iaload) := mt_cd_of (q := (594, .iaload, 1)) mq_175 ci_175 (List.mem_append_right _ (List.mem_append_right _ (List.mem_append_right _ (List.mem_append_right _ (List.mem_append_right _ ((show _ ∈ my_175_5 from List.mem_of_getElem? (i := 23) rfl)))))))
theorem cd_175_595 : mt_cd 175 595 = some (.putfield 496) := mt_cd_of (q := (595, .putfield 496, 3)) mq_175 ci_175 (List.mem_append_right _ (List.mem_append_right _ (List.mem_append_right _ (List.mem_append_right _ (List.mem_append_right _ ((show _ ∈ my_175_5 from List.mem_of_getElem? (i := 24) rfl)))))))
theorem cd_175_598 : mt_cd 175 598 = some (.aload_n 0) := mt_cd_of (q := (598, .aload_n 0, 1)) mq_175 ci_175 (List.mem_append_right _ (List.mem_append_right _ (List.mem_append_right _ (List.mem_append_right _ (List.mem_append_right _ ((show _ ∈ my_175_5 from List.mem_of_getElem? (i := 25) rfl)))))))
theorem cd_175_599 : mt_cd 175 599 = some (.iconst 1) := mt_cd_of (q := (599, .iconst 1, 1)) mq_175 ci_175 (List.mem_append_right _ (List.mem_append_right _ (List.mem_append_right _ (List.mem_append_right _ (List.mem_append_right _ ((show _ ∈ my_175_5 from List.mem_of_getElem? (i := 26) rfl)))))))
theorem cd_175_600 : mt_cd 175 600 = some (.putfield 506) := mt_cd_of (q := (600, .putfield 506, 3)) mq_175 ci_175 (List.mem_append_right _ (List.mem_append_right _ (List.mem_append_right _ (List.mem_append_right _ (List.mem_append_right _ ((show _ ∈ my_175_5 from List.mem_of_getElem? (i := 27) rfl)))))))
theorem cd_175_603 : mt_cd 175 603 = some (.goto (-603)) := mt_cd_of (q := (603, .goto (-603), 3)) mq_175 ci_175 (List.mem_append_right _ (List.mem_append_right _ (List.mem_append_right _ (List.mem_append_right _ (List.mem_append_right _ ((show _ ∈ my_175_5 from List.mem_of_getElem? (i := 28) rfl)))))))
theorem b_175_0 {d : Nat} {Q : (Option Value ⊕ Nat) → mi_H → Prop} (n sl : Nat) (f : Nat → mi_C) {l1 : Nat} {o2 : Option Value} {o3 : Option Value} {o4 : Option Value} {o5 : Option Value} {o6 : Option Value} {o7 : Option Value} {o8 : Option Value} {fs9 : List Value} {x12 : Nat} {fs14 : List Value} {x17 : Int32} {fs19 : List Value} {fs24 : List Value} {x27 : Nat} (m29 i29 : Nat) (g29 : Nat → Int32) {t33 : Nat} (h10 : f l1 = .inr (12, fs9)) (h11 : l1 < n) (h13 : fs9[43]? = some (.ref x12)) (h15 : f x12 = .inr (13, fs14)) (h16 : x12 < n) (h18 : fs14[0]? = some (.int x17)) (h20 : f l1 = .inr (12, fs19)) (h21 : l1 < n) (h22 : 46 < fs19.length) (h23 : mi_fk .boolean (.int 0) = true) (h25 : (va_up f l1 (.inr (12, fs19.set 46 (.int 0)))) l1 = .inr (12, fs24)) (h26 : l1 < n) (h28 : fs24[12]? = some (.ref x27)) (h30 : (va_up f l1 (.inr (12, fs19.set 46 (.int 0)))) x27 = .inl (0, m29, .inl g29)) (h31 : x27 < n ∨ x27 = mi_SC) (h32 : mi_ix x17 m29 i29) (h34 : mi_ts 19 535 0 5 #[37, 108, 108, 347, 397, 445] ((g29 i29) : Int32).toInt = some t33) (h35 : mi_W d 175 t33 [some (.ref l1), some (.int x17), o3, o4, o5, o6, o7, o8] [] (n, sl, (va_up f l1 (.inr (12, fs19.set 46 (.int 0))))) Q) : mi_W d 175 0 [some (.ref l1), o2, o3, o4, o5, o6, o7, o8] [] (n, sl, f) Q := by
  refine w_aload_n cd_175_0 rfl ?_
  refine w_getfield cd_175_1 (show mt_f 12 445 = some (12, 43) by decide +kernel) h10 h11 h13 ?_
  refine w_getfield cd_175_4 (show mt_f 12 496 = some (13, 0) by decide +kernel) h15 h16 h18 ?_
  refine w_istore_n (ls' := [some (.ref l1), some (.int x17), o3, o4, o5, o6, o7, o8]) cd_175_7 (Nat.le_of_ble_eq_true rfl) rfl ?_
  refine w_aload_n cd_175_8 rfl ?_
  refine w_iconst (v := 0) cd_175_9 (by decide) ?_
  refine w_putfield (w := .int 0) cd_175_10 (show mt_f 12 441 = some (12, 46) by decide +kernel) h20 h21 ⟨h22, h23, Or.inl (by decide)⟩ ?_
  refine w_aload_n cd_175_13 rfl ?_
  refine w_getfield cd_175_14 (show mt_f 12 77 = some (12, 12) by decide +kernel) h25 h26 h28 ?_
  refine w_iload_n cd_175_17 rfl ?_
  refine w_iaload cd_175_18 h30 h31 h32 ?_
  exact w_tableswitch cd_175_19 h34 h35
theorem b_175_56 {d : Nat} {Q : (Option Value ⊕ Nat) → mi_H → Prop} (n sl : Nat) (f : Nat → mi_C) {l1 : Nat} {l2 : Int32} {o3 : Option Value} {o4 : Option Value} {o5 : Option Value} {o6 : Option Value} {o7 : Option Value} {o8 : Option Value} (h9 : mi_W d 175 58 [some (.ref l1), some (.int l2), some (.int 0), o4, o5, o6, o7, o8] [] (n, sl, f) Q) : mi_W d 175 56 [some (.ref l1), some (.int l2), o3, o4, o5, o6, o7, o8] [] (n, sl, f) Q := by
  refine w_iconst (v := 0) cd_175_56 (by decide) ?_
  refine w_istore_n (ls' := [some (.ref l1), some (.int l2), some (.int 0), o4, o5, o6, o7, o8]) cd_175_57 (Nat.le_of_ble_eq_true rfl) rfl ?_
  exact h9
theorem b_175_58 {d : Nat} {Q : (Option Value ⊕ Nat) → mi_H → Prop} (n sl : Nat) (f : Nat → mi_C) {l1 : Nat} {l2 : Int32} {l3 : Int32} {o4 : Option Value} {o5 : Option Value} {o6 : Option Value} {o7 : Option Value} {o8 : Option Value} (h9 : 32 ≤ l3 → mi_W d 175 84 [some (.ref l1), some (.int l2), some (.int l3), o4, o5, o6, o7, o8] [] (n, sl, f) Q) (h10 : ¬ (32 ≤ l3) → mi_W d 175 64 [some (.ref l1), some (.int l2), some (.int l3), o4, o5, o6, o7, o8] [] (n, sl, f) Q) : mi_W d 175 58 [some (.ref l1), some (.int l2), some (.int l3), o4, o5, o6, o7, o8] [] (n, sl, f) Q := by
  refine w_iload_n cd_175_58 rfl ?_
  refine w_bipush (v := 32) cd_175_59 (by decide) ?_
  exact w_if_icmpge cd_175_61 (by decide) h9 h10
theorem b_175_64 {d : Nat} {Q : (Option Value ⊕ Nat) → mi_H → Prop} (n sl : Nat) (f : Nat → mi_C) {l1 : Nat} {l2 : Int32} {l3 : Int32} {o4 : Option Value} {o5 : Option Value} {o6 : Option Value} {o7 : Option Value} {o8 : Option Value} {fs9 : List Value} {x12 : Nat} {fs14 : List Value} {x17 : Nat} (m19 i19 : Nat) (g19 : Nat → Int64) (h10 : f l1 = .inr (12, fs9)) (h11 : l1 < n) (h13 : fs9[43]? = some (.ref x12)) (h15 : f x12 = .inr (13, fs14)) (h16 : x12 < n) (h18 : fs14[2]? = some (.ref x17)) (h20 : f x17 = .inl (3, m19, .inr (.inl g19))) (h21 : x17 < n) (h22 : mi_ix l3 m19 i19) (h23 : ¬ (lg_cmp (g19 i19) 0) = (0 : Int32) → mi_W d 175 84 [some (.ref l1), some (.int l2), some (.int l3), o4, o5, o6, o7, o8] [] (n, sl, f) Q) (h24 : ¬ (¬ (lg_cmp (g19 i19) 0) = (0 : Int32)) → mi_W d 175 78 [some (.ref l1), some (.int l2), some (.int l3), o4, o5, o6, o7, o8] [] (n, sl, f) Q) : mi_W d 175 64 [some (.ref l1), some (.int l2), some (.int l3), o4, o5, o6, o7, o8] [] (n, sl, f) Q := by
  refine w_aload_n cd_175_64 rfl ?_
  refine w_getfield cd_175_65 (show mt_f 12 445 = some (12, 43) by decide +kernel) h10 h11 h13 ?_
  refine w_getfield cd_175_68 (show mt_f 12 448 = some (13, 2) by decide +kernel) h15 h16 h18 ?_
  refine w_iload_n cd_175_71 rfl ?_
  refine w_laload cd_175_72 h20 h21 h22 ?_
  refine w_lconst (lv := 0) cd_175_73 (by decide) ?_
  refine w_lcmp cd_175_74 ?_
  exact w_ifne cd_175_75 (by decide) h23 h24
theorem b_175_78 {d : Nat} {Q : (Option Value ⊕ Nat) → mi_H → Prop} (n sl : Nat) (f : Nat → mi_C) {l1 : Nat} {l2 : Int32} {l3 : Int32} {o4 : Option Value} {o5 : Option Value} {o6 : Option Value} {o7 : Option Value} {o8 : Option Value} (h9 : mi_W d 175 58 [some (.ref l1), some (.int l2), some (.int (l3 + 1)), o4, o5, o6, o7, o8] [] (n, sl, f) Q) : mi_W d 175 78 [some (.ref l1), some (.int l2), some (.int l3), o4, o5, o6, o7, o8] [] (n, sl, f) Q := by
  refine w_iinc (v := 1) (ls' := [some (.ref l1), some (.int l2), some (.int (l3 + 1)), o4, o5, o6, o7, o8]) cd_175_78 rfl (by decide) rfl ?_
  exact w_goto cd_175_81 (by decide) h9
theorem b_175_84 {d : Nat} {Q : (Option Value ⊕ Nat) → mi_H → Prop} (n sl : Nat) (f : Nat → mi_C) {l1 : Nat} {l2 : Int32} {l3 : Int32} {o4 : Option Value} {o5 : Option Value} {o6 : Option Value} {o7 : Option Value} {o8 : Option Value} (h9 : ¬ l3 = 32 → mi_W d 175 92 [some (.ref l1), some (.int l2), some (.int l3), o4, o5, o6, o7, o8] [] (n, sl, f) Q) (h10 : ¬ (¬ l3 = 32) → mi_W d 175 90 [some (.ref l1), some (.int l2), some (.int l3), o4, o5, o6, o7, o8] [] (n, sl, f) Q) : mi_W d 175 84 [some (.ref l1), some (.int l2), some (.int l3), o4, o5, o6, o7, o8] [] (n, sl, f) Q := by
  refine w_iload_n cd_175_84 rfl ?_
  refine w_bipush (v := 32) cd_175_85 (by decide) ?_
  exact w_if_icmpne cd_175_87 (by decide) h9 h10
theorem b_175_90 {d : Nat} {Q : (Option Value ⊕ Nat) → mi_H → Prop} (n sl : Nat) (f : Nat → mi_C) {l1 : Nat} {l2 : Int32} {l3 : Int32} {o4 : Option Value} {o5 : Option Value} {o6 : Option Value} {o7 : Option Value} {o8 : Option Value} (h9 : Q (.inl (some (.int 0))) (n, sl, f)) : mi_W d 175 90 [some (.ref l1), some (.int l2), some (.int l3), o4, o5, o6, o7, o8] [] (n, sl, f) Q := by
  refine w_iconst (v := 0) cd_175_90 (by decide) ?_
  exact w_ireturn_i cd_175_91 (by decide +kernel) h9
theorem b_175_92 {d : Nat} {Q : (Option Value ⊕ Nat) → mi_H → Prop} (n sl : Nat) (f : Nat → mi_C) {l1 : Nat} {l2 : Int32} {l3 : Int32} {o4 : Option Value} {o5 : Option Value} {o6 : Option Value} {o7 : Option Value} {o8 : Option Value} {fs9 : List Value} {x12 : Nat} {fs14 : List Value} {x17 : Nat} (m19 i19 : Nat) (g19 : Nat → Int64) {fs23 : List Value} (h10 : f l1 = .inr (12, fs9)) (h11 : l1 < n) (h13 : fs9[43]? = some (.ref x12)) (h15 : f x12 = .inr (13, fs14)) (h16 : x12 < n) (h18 : fs14[2]? = some (.ref x17)) (h20 : f x17 = .inl (3, m19, .inr (.inl g19))) (h21 : x17 < n) (h22 : mi_ix l3 m19 i19) (h24 : f l1 = .inr (12, fs23)) (h25 : l1 < n) (h26 : mi_W d 176 0 (mi_en 6 [.ref l1, .int (l3 / 4), .int (l3 / 4), .int (l3 - l3 / 4 * 4), .long (g19 i19)]) [] (n, sl, f) (mi_Kc d 175 111 [some (.ref l1), some (.int l2), some (.int l3), o4, o5, o6, o7, o8] [] Q)) : mi_W (d + 1) 175 92 [some (.ref l1), some (.int l2), some (.int l3), o4, o5, o6, o7, o8] [] (n, sl, f) Q := by
  refine w_aload_n cd_175_92 rfl ?_
  refine w_iload_n cd_175_93 rfl ?_
  refine w_iconst (v := 4) cd_175_94 (by decide) ?_
  refine w_idiv cd_175_95 (by decide) ?_
  refine w_iload_n cd_175_96 rfl ?_
  refine w_iconst (v := 4) cd_175_97 (by decide) ?_
  refine w_idiv cd_175_98 (by decide) ?_
  refine w_iload_n cd_175_99 rfl ?_
  refine w_iconst (v := 4) cd_175_100 (by decide) ?_
  refine w_irem cd_175_101 (by decide) ?_
  refine w_aload_n cd_175_102 rfl ?_
  refine w_getfield cd_175_103 (show mt_f 12 445 = some (12, 43) by decide +kernel) h10 h11 h13 ?_
  refine w_getfield cd_175_106 (show mt_f 12 448 = some (13, 2) by decide +kernel) h15 h16 h18 ?_
  refine w_iload_n cd_175_109 rfl ?_
  refine w_laload cd_175_110 h20 h21 h22 ?_
  exact w_invokevirtual cd_175_111 (show mt_m 12 499 = some (176, 0) by decide +kernel) (rest := []) rfl (as := [.ref l1, .int (l3 / 4), .int (l3 / 4), .int (l3 - l3 / 4 * 4), .long (g19 i19)]) rfl h24 (Or.inl h25) ⟨Nat.le_of_ble_eq_true rfl, Nat.le_of_ble_eq_true rfl, Nat.le_of_ble_eq_true rfl⟩ h26
theorem b_175_114 {d : Nat} {Q : (Option Value ⊕ Nat) → mi_H → Prop} (n sl : Nat) (f : Nat → mi_C) {l1 : Nat} {l2 : Int32} {l3 : Int32} {o4 : Option Value} {o5 : Option Value} {o6 : Option Value} {o7 : Option Value} {o8 : Option Value} {fs9 : List Value} {x12 : Nat} {fs14 : List Value} {x17 : Nat} (m19 i19 : Nat) (g19 : Nat → Int64) (h10 : f l1 = .inr (12, fs9)) (h11 : l1 < n) (h13 : fs9[43]? = some (.ref x12)) (h15 : f x12 = .inr (13, fs14)) (h16 : x12 < n) (h18 : fs14[2]? = some (.ref x17)) (h20 : f x17 = .inl (3, m19, .inr (.inl g19))) (h21 : x17 < n) (h22 : mi_ix l3 m19 i19) (h23 : mi_W d 175 598 [some (.ref l1), some (.int l2), some (.int l3), o4, o5, o6, o7, o8] [] (n, sl, (va_up f x17 (.inl (3, m19, .inr (.inl (vp_updL g19 i19 0)))))) Q) : mi_W d 175 114 [some (.ref l1), some (.int l2), some (.int l3), o4, o5, o6, o7, o8] [] (n, sl, f) Q := by
  refine w_aload_n cd_175_114 rfl ?_
  refine w_getfield cd_175_115 (show mt_f 12 445 = some (12, 43) by decide +kernel) h10 h11 h13 ?_
  refine w_getfield cd_175_118 (show mt_f 12 448 = some (13, 2) by decide +kernel) h15 h16 h18 ?_
  refine w_iload_n cd_175_121 rfl ?_
  refine w_lconst (lv := 0) cd_175_122 (by decide) ?_
  refine w_lastore cd_175_123 h20 h21 h22 ?_
  exact w_goto cd_175_124 (by decide) h23
theorem b_175_127 {d : Nat} {Q : (Option Value ⊕ Nat) → mi_H → Prop} (n sl : Nat) (f : Nat → mi_C) {l1 : Nat} {l2 : Int32} {o3 : Option Value} {o4 : Option Value} {o5 : Option Value} {o6 : Option Value} {o7 : Option Value} {o8 : Option Value} {fs9 : List Value} {x12 : Nat} (m14 i14 : Nat) (g14 : Nat → Int32) {fs18 : List Value} (h10 : f l1 = .inr (12, fs9)) (h11 : l1 < n) (h13 : fs9[16]? = some (.ref x12)) (h15 : f x12 = .inl (0, m14, .inl g14)) (h16 : x12 < n ∨ x12 = mi_SC) (h17 : mi_ix l2 m14 i14) (h19 : f l1 = .inr (12, fs18)) (h20 : l1 < n) (h21 : mi_W d 177 0 (mi_en 2 [.ref l1, .int (g14 i14)]) [] (n, sl, f) (mi_Kc d 175 134 [some (.ref l1), some (.int l2), o3, o4, o5, o6, o7, o8] [] Q)) : mi_W (d + 1) 175 127 [some (.ref l1), some (.int l2), o3, o4, o5, o6, o7, o8] [] (n, sl, f) Q := by
  refine w_aload_n cd_175_127 rfl ?_
  refine w_aload_n cd_175_128 rfl ?_
  refine w_getfield cd_175_129 (show mt_f 12 89 = some (12, 16) by decide +kernel) h10 h11 h13 ?_
  refine w_iload_n cd_175_132 rfl ?_
  refine w_iaload cd_175_133 h15 h16 h17 ?_
  exact w_invokevirtual cd_175_134 (show mt_m 12 451 = some (177, 0) by decide +kernel) (rest := []) rfl (as := [.ref l1, .int (g14 i14)]) rfl h19 (Or.inl h20) ⟨Nat.le_of_ble_eq_true rfl, Nat.le_of_ble_eq_true rfl, Nat.le_of_ble_eq_true rfl⟩ h21
theorem b_175_137 {d : Nat} {Q : (Option Value ⊕ Nat) → mi_H → Prop} (n sl : Nat) (f : Nat → mi_C) {l1 : Nat} {l2 : Int32} {o3 : Option Value} {o4 : Option Value} {o5 : Option Value} {o6 : Option Value} {o7 : Option Value} {o8 : Option Value} {s9 : Int64} {fs10 : List Value} {x13 : Int32} (h11 : f l1 = .inr (12, fs10)) (h12 : l1 < n) (h14 : fs10[46]? = some (.int x13)) (h15 : x13 = (0 : Int32) → mi_W d 175 148 [some (.ref l1), some (.int l2), some (.long s9), none, o5, o6, o7, o8] [] (n, sl, f) Q) (h16 : ¬ (x13 = (0 : Int32)) → mi_W d 175 145 [some (.ref l1), some (.int l2), some (.long s9), none, o5, o6, o7, o8] [] (n, sl, f) Q) : mi_W d 175 137 [some (.ref l1), some (.int l2), o3, o4, o5, o6, o7, o8] [.long s9] (n, sl, f) Q := by
  refine w_lstore_n (ls' := [some (.ref l1), some (.int l2), some (.long s9), none, o5, o6, o7, o8]) cd_175_137 (Nat.le_of_ble_eq_true rfl) rfl ?_
  refine w_aload_n cd_175_138 rfl ?_
  refine w_getfield cd_175_139 (show mt_f 12 441 = some (12, 46) by decide +kernel) h11 h12 h14 ?_
  exact w_ifeq cd_175_142 (by decide) h15 h16
theorem b_175_145 {d : Nat} {Q : (Option Value ⊕ Nat) → mi_H → Prop} (n sl : Nat) (f : Nat → mi_C) {l1 : Nat} {l2 : Int32} {l3 : Int64} {o4 : Option Value} {o5 : Option Value} {o6 : Option Value} {o7 : Option Value} (h8 : Q (.inl (some (.int 6))) (n, sl, f)) : mi_W d 175 145 [some (.ref l1), some (.int l2), some (.long l3), none, o4, o5, o6, o7] [] (n, sl, f) Q := by
  refine w_bipush (v := 6) cd_175_145 (by decide) ?_
  exact w_ireturn_i cd_175_147 (by decide +kernel) h8
theorem b_175_148 {d : Nat} {Q : (Option Value ⊕ Nat) → mi_H → Prop} (n sl : Nat) (f : Nat → mi_C) {l1 : Nat} {l2 : Int32} {l3 : Int64} {o4 : Option Value} {o5 : Option Value} {o6 : Option Value} {o7 : Option Value} (h8 : (0 : Int32) < (lg_cmp l3 0) → mi_W d 175 163 [some (.ref l1), some (.int l2), some (.long l3), none, o4, o5, o6, o7] [] (n, sl, f) Q) (h9 : ¬ ((0 : Int32) < (lg_cmp l3 0)) → mi_W d 175 154 [some (.ref l1), some (.int l2), some (.long l3), none, o4, o5, o6, o7] [] (n, sl, f) Q) : mi_W d 175 148 [some (.ref l1), some (.int l2), some (.long l3), none, o4, o5, o6, o7] [] (n, sl, f) Q := by
  refine w_lload_n cd_175_148 rfl ?_
  refine w_lconst (lv := 0) cd_175_149 (by decide) ?_
  refine w_lcmp cd_175_150 ?_
  exact w_ifgt cd_175_151 (by decide) h8 h9
theorem b_175_154 {d : Nat} {Q : (Option Value ⊕ Nat) → mi_H → Prop} (n sl : Nat) (f : Nat → mi_C) {l1 : Nat} {l2 : Int32} {l3 : Int64} {o4 : Option Value} {o5 : Option Value} {o6 : Option Value} {o7 : Option Value} {fs8 : List Value} (h9 : f l1 = .inr (12, fs8)) (h10 : l1 < n) (h11 : mi_W d 182 0 (mi_en 3 [.ref l1, .int 2, .int l2]) [] (n, sl, f) (mi_Kc d 175 157 [some (.ref l1), some (.int l2), some (.long l3), none, o4, o5, o6, o7] [] Q)) : mi_W (d + 1) 175 154 [some (.ref l1), some (.int l2), some (.long l3), none, o4, o5, o6, o7] [] (n, sl, f) Q := by
  refine w_aload_n cd_175_154 rfl ?_
  refine w_iconst (v := 2) cd_175_155 (by decide) ?_
  refine w_iload_n cd_175_156 rfl ?_
  exact w_invokevirtual cd_175_157 (show mt_m 12 502 = some (182, 0) by decide +kernel) (rest := []) rfl (as := [.ref l1, .int 2, .int l2]) rfl h9 (Or.inl h10) ⟨Nat.le_of_ble_eq_true rfl, Nat.le_of_ble_eq_true rfl, Nat.le_of_ble_eq_true rfl⟩ h11
theorem b_175_160 {d : Nat} {Q : (Option Value ⊕ Nat) → mi_H → Prop} (n sl : Nat) (f : Nat → mi_C) {l1 : Nat} {l2 : Int32} {l3 : Int64} {o4 : Option Value} {o5 : Option Value} {o6 : Option Value} {o7 : Option Value} (h8 : mi_W d 175 350 [some (.ref l1), some (.int l2), some (.long l3), none, o4, o5, o6, o7] [] (n, sl, f) Q) : mi_W d 175 160 [some (.ref l1), some (.int l2), some (.long l3), none, o4, o5, o6, o7] [] (n, sl, f) Q := by
  exact w_goto cd_175_160 (by decide) h8
theorem b_175_163 {d : Nat} {Q : (Option Value ⊕ Nat) → mi_H → Prop} (n sl : Nat) (f : Nat → mi_C) {l1 : Nat} {l2 : Int32} {l3 : Int64} {o4 : Option Value} {o5 : Option Value} {o6 : Option Value} {o7 : Option Value} {fs8 : List Value} {x11 : Nat} (m13 i13 : Nat) (g13 : Nat → Int32) {fs17 : List Value} {x20 : Nat} (m22 i22 : Nat) (g22 : Nat → Int32) {fs26 : List Value} {x29 : Nat} {fs31 : List Value} {x34 : Nat} (m36 i36 : Nat) (g36 : Nat → Int64) (h9 : f l1 = .inr (12, fs8)) (h10 : l1 < n) (h12 : fs8[13]? = some (.ref x11)) (h14 : f x11 = .inl (0, m13, .inl g13)) (h15 : x11 < n ∨ x11 = mi_SC) (h16 : mi_ix l2 m13 i13) (h18 : f l1 = .inr (12, fs17)) (h19 : l1 < n) (h21 : fs17[15]? = some (.ref x20)) (h23 : f x20 = .inl (0, m22, .inl g22)) (h24 : x20 < n ∨ x20 = mi_SC) (h25 : mi_ix l2 m22 i22) (h27 : f l1 = .inr (12, fs26)) (h28 : l1 < n) (h30 : fs26[43]? = some (.ref x29)) (h32 : f x29 = .inr (13, fs31)) (h33 : x29 < n) (h35 : fs31[2]? = some (.ref x34)) (h37 : f x34 = .inl (3, m36, .inr (.inl g36))) (h38 : x34 < n) (h39 : mi_ix ((4 * (g13 i13)) + (g22 i22)) m36 i36) (h40 : (0 : Int32) ≤ (lg_cmp l3 (g36 i36)) → mi_W d 175 199 [some (.ref l1), some (.int l2), some (.long l3), none, some (.int ((4 * (g13 i13)) + (g22 i22))), o5, o6, o7] [] (n, sl, f) Q) (h41 : ¬ ((0 : Int32) ≤ (lg_cmp l3 (g36 i36))) → mi_W d 175 195 [some (.ref l1), some (.int l2), some (.long l3), none, some (.int ((4 * (g13 i13)) + (g22 i22))), o5, o6, o7] [] (n, sl, f) Q) : mi_W d 175 163 [some (.ref l1), some (.int l2), some (.long l3), none, o4, o5, o6, o7] [] (n, sl, f) Q := by
  refine w_iconst (v := 4) cd_175_163 (by decide) ?_
  refine w_aload_n cd_175_164 rfl ?_
  refine w_getfield cd_175_165 (show mt_f 12 80 = some (12, 13) by decide +kernel) h9 h10 h12 ?_
  refine w_iload_n cd_175_168 rfl ?_
  refine w_iaload cd_175_169 h14 h15 h16 ?_
  refine w_imul cd_175_170 ?_
  refine w_aload_n cd_175_171 rfl ?_
  refine w_getfield cd_175_172 (show mt_f 12 86 = some (12, 15) by decide +kernel) h18 h19 h21 ?_
  refine w_iload_n cd_175_175 rfl ?_
  refine w_iaload cd_175_176 h23 h24 h25 ?_
  refine w_iadd cd_175_177 ?_
  refine w_istore (ls' := [some (.ref l1), some (.int l2), some (.long l3), none, some (.int ((4 * (g13 i13)) + (g22 i22))), o5, o6, o7]) cd_175_178 (Nat.le_of_ble_eq_true rfl) rfl ?_
  refine w_lload_n cd_175_180 rfl ?_
  refine w_aload_n cd_175_181 rfl ?_
  refine w_getfield cd_175_182 (show mt_f 12 445 = some (12, 43) by decide +kernel) h27 h28 h30 ?_
  refine w_getfield cd_175_185 (show mt_f 12 448 = some (13, 2) by decide +kernel) h32 h33 h35 ?_
  refine w_iload cd_175_188 rfl ?_
  refine w_laload cd_175_190 h37 h38 h39 ?_
  refine w_lcmp cd_175_191 ?_
  exact w_ifge cd_175_192 (by decide) h40 h41
theorem b_175_195 {d : Nat} {Q : (Option Value ⊕ Nat) → mi_H → Prop} (n sl : Nat) (f : Nat → mi_C) {l1 : Nat} {l2 : Int32} {l3 : Int64} {l4 : Int32} {o5 : Option Value} {o6 : Option Value} {o7 : Option Value} (h8 : mi_W d 175 209 [some (.ref l1), some (.int l2), some (.long l3), none, some (.int l4), o5, o6, o7] [.long l3] (n, sl, f) Q) : mi_W d 175 195 [some (.ref l1), some (.int l2), some (.long l3), none, some (.int l4), o5, o6, o7] [] (n, sl, f) Q := by
  refine w_lload_n cd_175_195 rfl ?_
  exact w_goto cd_175_196 (by decide) h8
theorem b_175_199 {d : Nat} {Q : (Option Value ⊕ Nat) → mi_H → Prop} (n sl : Nat) (f : Nat → mi_C) {l1 : Nat} {l2 : Int32} {l3 : Int64} {l4 : Int32} {o5 : Option Value} {o6 : Option Value} {o7 : Option Value} {fs8 : List Value} {x11 : Nat} {fs13 : List Value} {x16 : Nat} (m18 i18 : Nat) (g18 : Nat → Int64) (h9 : f l1 = .inr (12, fs8)) (h10 : l1 < n) (h12 : fs8[43]? = some (.ref x11)) (h14 : f x11 = .inr (13, fs13)) (h15 : x11 < n) (h17 : fs13[2]? = some (.ref x16)) (h19 : f x16 = .inl (3, m18, .inr (.inl g18))) (h20 : x16 < n) (h21 : mi_ix l4 m18 i18) (h22 : mi_W d 175 209 [some (.ref l1), some (.int l2), some (.long l3), none, some (.int l4), o5, o6, o7] [.long (g18 i18)] (n, sl, f) Q) : mi_W d 175 199 [some (.ref l1), some (.int l2), some (.long l3), none, some (.int l4), o5, o6, o7] [] (n, sl, f) Q := by
  refine w_aload_n cd_175_199 rfl ?_
  refine w_getfield cd_175_200 (show mt_f 12 445 = some (12, 43) by decide +kernel) h9 h10 h12 ?_
  refine w_getfield cd_175_203 (show mt_f 12 448 = some (13, 2) by decide +kernel) h14 h15 h17 ?_
  refine w_iload cd_175_206 rfl ?_
  refine w_laload cd_175_208 h19 h20 h21 ?_
  exact h22
theorem b_175_209 {d : Nat} {Q : (Option Value ⊕ Nat) → mi_H → Prop} (n sl : Nat) (f : Nat → mi_C) {l1 : Nat} {l2 : Int32} {l3 : Int64} {l4 : Int32} {o5 : Option Value} {o6 : Option Value} {o7 : Option Value} {s8 : Int64} (h9 : (0 : Int32) ≤ (lg_cmp s8 l3) → mi_W d 175 224 [some (.ref l1), some (.int l2), some (.long l3), none, some (.int l4), some (.long s8), none, o7] [] (n, sl, f) Q) (h10 : ¬ ((0 : Int32) ≤ (lg_cmp s8 l3)) → mi_W d 175 218 [some (.ref l1), some (.int l2), some (.long l3), none, some (.int l4), some (.long s8), none, o7] [] (n, sl, f) Q) : mi_W d 175 209 [some (.ref l1), some (.int l2), some (.long l3), none, some (.int l4), o5, o6, o7] [.long s8] (n, sl, f) Q := by
  refine w_lstore (ls' := [some (.ref l1), some (.int l2), some (.long l3), none, some (.int l4), some (.long s8), none, o7]) cd_175_209 (Nat.le_of_ble_eq_true rfl) rfl ?_
  refine w_lload cd_175_211 rfl ?_
  refine w_lload_n cd_175_213 rfl ?_
  refine w_lcmp cd_175_214 ?_
  exact w_ifge cd_175_215 (by decide) h9 h10
theorem b_175_218 {d : Nat} {Q : (Option Value ⊕ Nat) → mi_H → Prop} (n sl : Nat) (f : Nat → mi_C) {l1 : Nat} {l2 : Int32} {l3 : Int64} {l4 : Int32} {l5 : Int64} {o6 : Option Value} {fs7 : List Value} (h8 : f l1 = .inr (12, fs7)) (h9 : l1 < n) (h10 : mi_W d 182 0 (mi_en 3 [.ref l1, .int 3, .int l2]) [] (n, sl, f) (mi_Kc d 175 221 [some (.ref l1), some (.int l2), some (.long l3), none, some (.int l4), some (.long l5), none, o6] [] Q)) : mi_W (d + 1) 175 218 [some (.ref l1), some (.int l2), some (.long l3), none, some (.int l4), some (.long l5), none, o6] [] (n, sl, f) Q := by
  refine w_aload_n cd_175_218 rfl ?_
  refine w_iconst (v := 3) cd_175_219 (by decide) ?_
  refine w_iload_n cd_175_220 rfl ?_
  exact w_invokevirtual cd_175_221 (show mt_m 12 502 = some (182, 0) by decide +kernel) (rest := []) rfl (as := [.ref l1, .int 3, .int l2]) rfl h8 (Or.inl h9) ⟨Nat.le_of_ble_eq_true rfl, Nat.le_of_ble_eq_true rfl, Nat.le_of_ble_eq_true rfl⟩ h10
theorem b_175_224 {d : Nat} {Q : (Option Value ⊕ Nat) → mi_H → Prop} (n sl : Nat) (f : Nat → mi_C) {l1 : Nat} {l2 : Int32} {l3 : Int64} {l4 : Int32} {l5 : Int64} {o6 : Option Value} {fs7 : List Value} {x10 : Nat} {fs12 : List Value} {x15 : Nat} (m17 i17 : Nat) (g17 : Nat → Int64) (m21 i21 : Nat) (g21 : Nat → Int64) {fs25 : List Value} {x28 : Nat} (m30 i30 : Nat) (g30 : Nat → Int32) (h8 : f l1 = .inr (12, fs7)) (h9 : l1 < n) (h11 : fs7[43]? = some (.ref x10)) (h13 : f x10 = .inr (13, fs12)) (h14 : x10 < n) (h16 : fs12[2]? = some (.ref x15)) (h18 : f x15 = .inl (3, m17, .inr (.inl g17))) (h19 : x15 < n) (h20 : mi_ix l4 m17 i17) (h22 : f x15 = .inl (3, m21, .inr (.inl g21))) (h23 : x15 < n) (h24 : mi_ix l4 m21 i21) (h26 : (va_up f x15 (.inl (3, m21, .inr (.inl (vp_updL g21 i21 ((g17 i17) - l5)))))) l1 = .inr (12, fs25)) (h27 : l1 < n) (h29 : fs25[12]? = some (.ref x28)) (h31 : (va_up f x15 (.inl (3, m21, .inr (.inl (vp_updL g21 i21 ((g17 i17) - l5)))))) x28 = .inl (0, m30, .inl g30)) (h32 : x28 < n ∨ x28 = mi_SC) (h33 : mi_ix l2 m30 i30) (h34 : ¬ (g30 i30) = 1 → mi_W d 175 283 [some (.ref l1), some (.int l2), some (.long l3), none, some (.int l4), some (.long l5), none, o6] [] (n, sl, (va_up f x15 (.inl (3, m21, .inr (.inl (vp_updL g21 i21 ((g17 i17) - l5))))))) Q) (h35 : ¬ (¬ (g30 i30) = 1) → mi_W d 175 249 [some (.ref l1), some (.int l2), some (.long l3), none, some (.int l4), some (.long l5), none, o6] [] (n, sl, (va_up f x15 (.inl (3, m21, .inr (.inl (vp_updL g21 i21 ((g17 i17) - l5))))))) Q) : mi_W d 175 224 [some (.ref l1), some (.int l2), some (.long l3), none, some (.int l4), some (.long l5), none, o6] [] (n, sl, f) Q := by
  refine w_aload_n cd_175_224 rfl ?_
  refine w_getfield cd_175_225 (show mt_f 12 445 = some (12, 43) by decide +kernel) h8 h9 h11 ?_
  refine w_getfield cd_175_228 (show mt_f 12 448 = some (13, 2) by decide +kernel) h13 h14 h16 ?_
  refine w_iload cd_175_231 rfl ?_
  refine w_dup2_ir cd_175_233 ?_
  refine w_laload cd_175_234 h18 h19 h20 ?_
  refine w_lload cd_175_235 rfl ?_
  refine w_lsub cd_175_237 ?_
  refine w_lastore cd_175_238 h22 h23 h24 ?_
  refine w_aload_n cd_175_239 rfl ?_
  refine w_getfield cd_175_240 (show mt_f 12 77 = some (12, 12) by decide +kernel) h26 h27 h29 ?_
  refine w_iload_n cd_175_243 rfl ?_
  refine w_iaload cd_175_244 h31 h32 h33 ?_
  refine w_iconst (v := 1) cd_175_245 (by decide) ?_
  exact w_if_icmpne cd_175_246 (by decide) h34 h35
theorem b_175_249 {d : Nat} {Q : (Option Value ⊕ Nat) → mi_H → Prop} (n sl : Nat) (f : Nat → mi_C) {l1 : Nat} {l2 : Int32} {l3 : Int64} {l4 : Int32} {l5 : Int64} {o6 : Option Value} (h7 : (lg_cmp l5 0) ≤ (0 : Int32) → mi_W d 175 350 [some (.ref l1), some (.int l2), some (.long l3), none, some (.int l4), some (.long l5), none, o6] [] (n, sl, f) Q) (h8 : ¬ ((lg_cmp l5 0) ≤ (0 : Int32)) → mi_W d 175 256 [some (.ref l1), some (.int l2), some (.long l3), none, some (.int l4), some (.long l5), none, o6] [] (n, sl, f) Q) : mi_W d 175 249 [some (.ref l1), some (.int l2), some (.long l3), none, some (.int l4), some (.long l5), none, o6] [] (n, sl, f) Q := by
  refine w_lload cd_175_249 rfl ?_
  refine w_lconst (lv := 0) cd_175_251 (by decide) ?_
  refine w_lcmp cd_175_252 ?_
  exact w_ifle cd_175_253 (by decide) h7 h8
theorem b_175_256 {d : Nat} {Q : (Option Value ⊕ Nat) → mi_H → Prop} (n sl : Nat) (f : Nat → mi_C) {l1 : Nat} {l2 : Int32} {l3 : Int64} {l4 : Int32} {l5 : Int64} {o6 : Option Value} {fs7 : List Value} {x10 : Nat} (m12 i12 : Nat) (g12 : Nat → Int32) {fs16 : List Value} {x19 : Nat} (m21 i21 : Nat) (g21 : Nat → Int32) {fs25 : List Value} {x28 : Nat} (m30 i30 : Nat) (g30 : Nat → Int32) {fs34 : List Value} (h8 : f l1 = .inr (12, fs7)) (h9 : l1 < n) (h11 : fs7[13]? = some (.ref x10)) (h13 : f x10 = .inl (0, m12, .inl g12)) (h14 : x10 < n ∨ x10 = mi_SC) (h15 : mi_ix l2 m12 i12) (h17 : f l1 = .inr (12, fs16)) (h18 : l1 < n) (h20 : fs16[14]? = some (.ref x19)) (h22 : f x19 = .inl (0, m21, .inl g21)) (h23 : x19 < n ∨ x19 = mi_SC) (h24 : mi_ix l2 m21 i21) (h26 : f l1 = .inr (12, fs25)) (h27 : l1 < n) (h29 : fs25[15]? = some (.ref x28)) (h31 : f x28 = .inl (0, m30, .inl g30)) (h32 : x28 < n ∨ x28 = mi_SC) (h33 : mi_ix l2 m30 i30) (h35 : f l1 = .inr (12, fs34)) (h36 : l1 < n) (h37 : mi_W d 176 0 (mi_en 6 [.ref l1, .int (g12 i12), .int (g21 i21), .int (g30 i30), .long l5]) [] (n, sl, f) (mi_Kc d 175 277 [some (.ref l1), some (.int l2), some (.long l3), none, some (.int l4), some (.long l5), none, o6] [] Q)) : mi_W (d + 1) 175 256 [some (.ref l1), some (.int l2), some (.long l3), none, some (.int l4), some (.long l5), none, o6] [] (n, sl, f) Q := by
  refine w_aload_n cd_175_256 rfl ?_
  refine w_aload_n cd_175_257 rfl ?_
  refine w_getfield cd_175_258 (show mt_f 12 80 = some (12, 13) by decide +kernel) h8 h9 h11 ?_
  refine w_iload_n cd_175_261 rfl ?_
  refine w_iaload cd_175_262 h13 h14 h15 ?_
  refine w_aload_n cd_175_263 rfl ?_
  refine w_getfield cd_175_264 (show mt_f 12 83 = some (12, 14) by decide +kernel) h17 h18 h20 ?_
  refine w_iload_n cd_175_267 rfl ?_
  refine w_iaload cd_175_268 h22 h23 h24 ?_
  refine w_aload_n cd_175_269 rfl ?_
  refine w_getfield cd_175_270 (show mt_f 12 86 = some (12, 15) by decide +kernel) h26 h27 h29 ?_
  refine w_iload_n cd_175_273 rfl ?_
  refine w_iaload cd_175_274 h31 h32 h33 ?_
  refine w_lload cd_175_275 rfl ?_
  exact w_invokevirtual cd_175_277 (show mt_m 12 499 = some (176, 0) by decide +kernel) (rest := []) rfl (as := [.ref l1, .int (g12 i12), .int (g21 i21), .int (g30 i30), .long l5]) rfl h35 (Or.inl h36) ⟨Nat.le_of_ble_eq_true rfl, Nat.le_of_ble_eq_true rfl, Nat.le_of_ble_eq_true rfl⟩ h37
theorem b_175_280 {d : Nat} {Q : (Option Value ⊕ Nat) → mi_H → Prop} (n sl : Nat) (f : Nat → mi_C) {l1 : Nat} {l2 : Int32} {l3 : Int64} {l4 : Int32} {l5 : Int64} {o6 : Option Value} (h7 : mi_W d 175 350 [some (.ref l1), some (.int l2), some (.long l3), none, some (.int l4), some (.long l5), none, o6] [] (n, sl, f) Q) : mi_W d 175 280 [some (.ref l1), some (.int l2), some (.long l3), none, some (.int l4), some (.long l5), none, o6] [] (n, sl, f) Q := by
  exact w_goto cd_175_280 (by decide) h7
theorem b_175_283 {d : Nat} {Q : (Option Value ⊕ Nat) → mi_H → Prop} (n sl : Nat) (f : Nat → mi_C) {l1 : Nat} {l2 : Int32} {l3 : Int64} {l4 : Int32} {l5 : Int64} {o6 : Option Value} {fs7 : List Value} {x10 : Nat} (m12 i12 : Nat) (g12 : Nat → Int32) {fs16 : List Value} {x19 : Nat} (m21 i21 : Nat) (g21 : Nat → Int32) {fs25 : List Value} {x28 : Nat} {fs30 : List Value} {x33 : Nat} (m35 i35 : Nat) (g35 : Nat → Int64) (m39 i39 : Nat) (g39 : Nat → Int64) {fs43 : List Value} {x46 : Nat} {fs48 : List Value} {x51 : Nat} (m53 i53 : Nat) (g53 : Nat → Int64) (h8 : f l1 = .inr (12, fs7)) (h9 : l1 < n) (h11 : fs7[14]? = some (.ref x10)) (h13 : f x10 = .inl (0, m12, .inl g12)) (h14 : x10 < n ∨ x10 = mi_SC) (h15 : mi_ix l2 m12 i12) (h17 : f l1 = .inr (12, fs16)) (h18 : l1 < n) (h20 : fs16[15]? = some (.ref x19)) (h22 : f x19 = .inl (0, m21, .inl g21)) (h23 : x19 < n ∨ x19 = mi_SC) (h24 : mi_ix l2 m21 i21) (h26 : f l1 = .inr (12, fs25)) (h27 : l1 < n) (h29 : fs25[43]? = some (.ref x28)) (h31 : f x28 = .inr (13, fs30)) (h32 : x28 < n) (h34 : fs30[2]? = some (.ref x33)) (h36 : f x33 = .inl (3, m35, .inr (.inl g35))) (h37 : x33 < n) (h38 : mi_ix ((4 * (g12 i12)) + (g21 i21)) m35 i35) (h40 : f x33 = .inl (3, m39, .inr (.inl g39))) (h41 : x33 < n) (h42 : mi_ix ((4 * (g12 i12)) + (g21 i21)) m39 i39) (h44 : (va_up f x33 (.inl (3, m39, .inr (.inl (vp_updL g39 i39 ((g35 i35) + l5)))))) l1 = .inr (12, fs43)) (h45 : l1 < n) (h47 : fs43[43]? = some (.ref x46)) (h49 : (va_up f x33 (.inl (3, m39, .inr (.inl (vp_updL g39 i39 ((g35 i35) + l5)))))) x46 = .inr (13, fs48)) (h50 : x46 < n) (h52 : fs48[2]? = some (.ref x51)) (h54 : (va_up f x33 (.inl (3, m39, .inr (.inl (vp_updL g39 i39 ((g35 i35) + l5)))))) x51 = .inl (3, m53, .inr (.inl g53))) (h55 : x51 < n) (h56 : mi_ix ((4 * (g12 i12)) + (g21 i21)) m53 i53) (h57 : (0 : Int32) < (lg_cmp (g53 i53) 4611686018427387904) → mi_W d 175 347 [some (.ref l1), some (.int l2), some (.long l3), none, some (.int l4), some (.long l5), none, some (.int ((4 * (g12 i12)) + (g21 i21)))] [] (n, sl, (va_up f x33 (.inl (3, m39, .inr (.inl (vp_updL g39 i39 ((g35 i35) + l5))))))) Q) (h58 : ¬ ((0 : Int32) < (lg_cmp (g53 i53) 4611686018427387904)) → mi_W d 175 332 [some (.ref l1), some (.int l2), some (.long l3), none, some (.int l4), some (.long l5), none, some (.int ((4 * (g12 i12)) + (g21 i21)))] [] (n, sl, (va_up f x33 (.inl (3, m39, .inr (.inl (vp_updL g39 i39 ((g35 i35) + l5))))))) Q) : mi_W d 175 283 [some (.ref l1), some (.int l2), some (.long l3), none, some (.int l4), some (.long l5), none, o6] [] (n, sl, f) Q := by
  refine w_iconst (v := 4) cd_175_283 (by decide) ?_
  refine w_aload_n cd_175_284 rfl ?_
  refine w_getfield cd_175_285 (show mt_f 12 83 = some (12, 14) by decide +kernel) h8 h9 h11 ?_
  refine w_iload_n cd_175_288 rfl ?_
  refine w_iaload cd_175_289 h13 h14 h15 ?_
  refine w_imul cd_175_290 ?_
  refine w_aload_n cd_175_291 rfl ?_
  refine w_getfield cd_175_292 (show mt_f 12 86 = some (12, 15) by decide +kernel) h17 h18 h20 ?_
  refine w_iload_n cd_175_295 rfl ?_
  refine w_iaload cd_175_296 h22 h23 h24 ?_
  refine w_iadd cd_175_297 ?_
  refine w_istore (ls' := [some (.ref l1), some (.int l2), some (.long l3), none, some (.int l4), some (.long l5), none, some (.int ((4 * (g12 i12)) + (g21 i21)))]) cd_175_298 (Nat.le_of_ble_eq_true rfl) rfl ?_
  refine w_aload_n cd_175_300 rfl ?_
  refine w_getfield cd_175_301 (show mt_f 12 445 = some (12, 43) by decide +kernel) h26 h27 h29 ?_
  refine w_getfield cd_175_304 (show mt_f 12 448 = some (13, 2) by decide +kernel) h31 h32 h34 ?_
  refine w_iload cd_175_307 rfl ?_
  refine w_dup2_ir cd_175_309 ?_
  refine w_laload cd_175_310 h36 h37 h38 ?_
  refine w_lload cd_175_311 rfl ?_
  refine w_ladd cd_175_313 ?_
  refine w_lastore cd_175_314 h40 h41 h42 ?_
  refine w_aload_n cd_175_315 rfl ?_
  refine w_getfield cd_175_316 (show mt_f 12 445 = some (12, 43) by decide +kernel) h44 h45 h47 ?_
  refine w_getfield cd_175_319 (show mt_f 12 448 = some (13, 2) by decide +kernel) h49 h50 h52 ?_
  refine w_iload cd_175_322 rfl ?_
  refine w_laload cd_175_324 h54 h55 h56 ?_
  refine w_ldc2_w (lv := 4611686018427387904) cd_175_325 (by decide +kernel) ?_
  refine w_lcmp cd_175_328 ?_
  exact w_ifgt cd_175_329 (by decide) h57 h58
theorem b_175_332 {d : Nat} {Q : (Option Value ⊕ Nat) → mi_H → Prop} (n sl : Nat) (f : Nat → mi_C) {l1 : Nat} {l2 : Int32} {l3 : Int64} {l4 : Int32} {l5 : Int64} {l6 : Int32} {fs7 : List Value} {x10 : Nat} {fs12 : List Value} {x15 : Nat} (m17 i17 : Nat) (g17 : Nat → Int64) (h8 : f l1 = .inr (12, fs7)) (h9 : l1 < n) (h11 : fs7[43]? = some (.ref x10)) (h13 : f x10 = .inr (13, fs12)) (h14 : x10 < n) (h16 : fs12[2]? = some (.ref x15)) (h18 : f x15 = .inl (3, m17, .inr (.inl g17))) (h19 : x15 < n) (h20 : mi_ix l6 m17 i17) (h21 : (0 : Int32) ≤ (lg_cmp (g17 i17) 0) → mi_W d 175 350 [some (.ref l1), some (.int l2), some (.long l3), none, some (.int l4), some (.long l5), none, some (.int l6)] [] (n, sl, f) Q) (h22 : ¬ ((0 : Int32) ≤ (lg_cmp (g17 i17) 0)) → mi_W d 175 347 [some (.ref l1), some (.int l2), some (.long l3), none, some (.int l4), some (.long l5), none, some (.int l6)] [] (n, sl, f) Q) : mi_W d 175 332 [some (.ref l1), some (.int l2), some (.long l3), none, some (.int l4), some (.long l5), none, some (.int l6)] [] (n, sl, f) Q := by
  refine w_aload_n cd_175_332 rfl ?_
  refine w_getfield cd_175_333 (show mt_f 12 445 = some (12, 43) by decide +kernel) h8 h9 h11 ?_
  refine w_getfield cd_175_336 (show mt_f 12 448 = some (13, 2) by decide +kernel) h13 h14 h16 ?_
  refine w_iload cd_175_339 rfl ?_
  refine w_laload cd_175_341 h18 h19 h20 ?_
  refine w_lconst (lv := 0) cd_175_342 (by decide) ?_
  refine w_lcmp cd_175_343 ?_
  exact w_ifge cd_175_344 (by decide) h21 h22
theorem b_175_347 {d : Nat} {Q : (Option Value ⊕ Nat) → mi_H → Prop} (n sl : Nat) (f : Nat → mi_C) {l1 : Nat} {l2 : Int32} {l3 : Int64} {l4 : Int32} {l5 : Int64} {l6 : Int32} (h7 : Q (.inl (some (.int 6))) (n, sl, f)) : mi_W d 175 347 [some (.ref l1), some (.int l2), some (.long l3), none, some (.int l4), some (.long l5), none, some (.int l6)] [] (n, sl, f) Q := by
  refine w_bipush (v := 6) cd_175_347 (by decide) ?_
  exact w_ireturn_i cd_175_349 (by decide +kernel) h7
theorem b_175_350 {d : Nat} {Q : (Option Value ⊕ Nat) → mi_H → Prop} (n sl : Nat) (f : Nat → mi_C) {l1 : Nat} {l2 : Int32} {l3 : Int64} {o4 : Option Value} {o5 : Option Value} {o6 : Option Value} {o7 : Option Value} {fs8 : List Value} {x11 : Nat} {fs13 : List Value} {x16 : Nat} (m18 i18 : Nat) (g18 : Nat → Int32) {fs22 : List Value} (h9 : f l1 = .inr (12, fs8)) (h10 : l1 < n) (h12 : fs8[43]? = some (.ref x11)) (h14 : f l1 = .inr (12, fs13)) (h15 : l1 < n) (h17 : fs13[19]? = some (.ref x16)) (h19 : f x16 = .inl (0, m18, .inl g18)) (h20 : x16 < n ∨ x16 = mi_SC) (h21 : mi_ix l2 m18 i18) (h23 : f x11 = .inr (13, fs22)) (h24 : x11 < n) (h25 : 0 < fs22.length) (h26 : mi_W d 175 598 [some (.ref l1), some (.int l2), some (.long l3), none, o4, o5, o6, o7] [] (n, sl, (va_up f x11 (.inr (13, fs22.set 0 (.int (g18 i18)))))) Q) : mi_W d 175 350 [some (.ref l1), some (.int l2), some (.long l3), none, o4, o5, o6, o7] [] (n, sl, f) Q := by
  refine w_aload_n cd_175_350 rfl ?_
  refine w_getfield cd_175_351 (show mt_f 12 445 = some (12, 43) by decide +kernel) h9 h10 h12 ?_
  refine w_aload_n cd_175_354 rfl ?_
  refine w_getfield cd_175_355 (show mt_f 12 98 = some (12, 19) by decide +kernel) h14 h15 h17 ?_
  refine w_iload_n cd_175_358 rfl ?_
  refine w_iaload cd_175_359 h19 h20 h21 ?_
  refine w_putfield (w := .int (g18 i18)) cd_175_360 (show mt_f 12 496 = some (13, 0) by decide +kernel) h23 h24 ⟨h25, rfl, Or.inl (by decide)⟩ ?_
  exact w_goto cd_175_363 (by decide) h26
theorem b_175_366 {d : Nat} {Q : (Option Value ⊕ Nat) → mi_H → Prop} (n sl : Nat) (f : Nat → mi_C) {l1 : Nat} {l2 : Int32} {o3 : Option Value} {o4 : Option Value} {o5 : Option Value} {o6 : Option Value} {o7 : Option Value} {o8 : Option Value} {fs9 : List Value} {x12 : Nat} (m14 i14 : Nat) (g14 : Nat → Int32) {fs18 : List Value} (h10 : f l1 = .inr (12, fs9)) (h11 : l1 < n) (h13 : fs9[16]? = some (.ref x12)) (h15 : f x12 = .inl (0, m14, .inl g14)) (h16 : x12 < n ∨ x12 = mi_SC) (h17 : mi_ix l2 m14 i14) (h19 : f l1 = .inr (12, fs18)) (h20 : l1 < n) (h21 : mi_W d 179 0 (mi_en 6 [.ref l1, .int (g14 i14)]) [] (n, sl, f) (mi_Kc d 175 373 [some (.ref l1), some (.int l2), o3, o4, o5, o6, o7, o8] [] Q)) : mi_W (d + 1) 175 366 [some (.ref l1), some (.int l2), o3, o4, o5, o6, o7, o8] [] (n, sl, f) Q := by
  refine w_aload_n cd_175_366 rfl ?_
  refine w_aload_n cd_175_367 rfl ?_
  refine w_getfield cd_175_368 (show mt_f 12 89 = some (12, 16) by decide +kernel) h10 h11 h13 ?_
  refine w_iload_n cd_175_371 rfl ?_
  refine w_iaload cd_175_372 h15 h16 h17 ?_
  exact w_invokevirtual cd_175_373 (show mt_m 12 477 = some (179, 0) by decide +kernel) (rest := []) rfl (as := [.ref l1, .int (g14 i14)]) rfl h19 (Or.inl h20) ⟨Nat.le_of_ble_eq_true rfl, Nat.le_of_ble_eq_true rfl, Nat.le_of_ble_eq_true rfl⟩ h21
theorem b_175_376 {d : Nat} {Q : (Option Value ⊕ Nat) → mi_H → Prop} (n sl : Nat) (f : Nat → mi_C) {l1 : Nat} {l2 : Int32} {o3 : Option Value} {o4 : Option Value} {o5 : Option Value} {o6 : Option Value} {o7 : Option Value} {o8 : Option Value} {s9 : Int32} {fs10 : List Value} {x13 : Int32} (h11 : f l1 = .inr (12, fs10)) (h12 : l1 < n) (h14 : fs10[46]? = some (.int x13)) (h15 : x13 = (0 : Int32) → mi_W d 175 387 [some (.ref l1), some (.int l2), some (.int s9), o4, o5, o6, o7, o8] [] (n, sl, f) Q) (h16 : ¬ (x13 = (0 : Int32)) → mi_W d 175 384 [some (.ref l1), some (.int l2), some (.int s9), o4, o5, o6, o7, o8] [] (n, sl, f) Q) : mi_W d 175 376 [some (.ref l1), some (.int l2), o3, o4, o5, o6, o7, o8] [.int s9] (n, sl, f) Q := by
  refine w_istore_n (ls' := [some (.ref l1), some (.int l2), some (.int s9), o4, o5, o6, o7, o8]) cd_175_376 (Nat.le_of_ble_eq_true rfl) rfl ?_
  refine w_aload_n cd_175_377 rfl ?_
  refine w_getfield cd_175_378 (show mt_f 12 441 = some (12, 46) by decide +kernel) h11 h12 h14 ?_
  exact w_ifeq cd_175_381 (by decide) h15 h16
theorem b_175_384 {d : Nat} {Q : (Option Value ⊕ Nat) → mi_H → Prop} (n sl : Nat) (f : Nat → mi_C) {l1 : Nat} {l2 : Int32} {l3 : Int32} {o4 : Option Value} {o5 : Option Value} {o6 : Option Value} {o7 : Option Value} {o8 : Option Value} (h9 : Q (.inl (some (.int 6))) (n, sl, f)) : mi_W d 175 384 [some (.ref l1), some (.int l2), some (.int l3), o4, o5, o6, o7, o8] [] (n, sl, f) Q := by
  refine w_bipush (v := 6) cd_175_384 (by decide) ?_
  exact w_ireturn_i cd_175_386 (by decide +kernel) h9
theorem b_175_387 {d : Nat} {Q : (Option Value ⊕ Nat) → mi_H → Prop} (n sl : Nat) (f : Nat → mi_C) {l1 : Nat} {l2 : Int32} {l3 : Int32} {o4 : Option Value} {o5 : Option Value} {o6 : Option Value} {o7 : Option Value} {o8 : Option Value} {fs9 : List Value} {x12 : Nat} (h10 : f l1 = .inr (12, fs9)) (h11 : l1 < n) (h13 : fs9[43]? = some (.ref x12)) (h14 : l3 = (0 : Int32) → mi_W d 175 404 [some (.ref l1), some (.int l2), some (.int l3), o4, o5, o6, o7, o8] [.ref x12] (n, sl, f) Q) (h15 : ¬ (l3 = (0 : Int32)) → mi_W d 175 395 [some (.ref l1), some (.int l2), some (.int l3), o4, o5, o6, o7, o8] [.ref x12] (n, sl, f) Q) : mi_W d 175 387 [some (.ref l1), some (.int l2), some (.int l3), o4, o5, o6, o7, o8] [] (n, sl, f) Q := by
  refine w_aload_n cd_175_387 rfl ?_
  refine w_getfield cd_175_388 (show mt_f 12 445 = some (12, 43) by decide +kernel) h10 h11 h13 ?_
  refine w_iload_n cd_175_391 rfl ?_
  exact w_ifeq cd_175_392 (by decide) h14 h15
theorem b_175_395 {d : Nat} {Q : (Option Value ⊕ Nat) → mi_H → Prop} (n sl : Nat) (f : Nat → mi_C) {l1 : Nat} {l2 : Int32} {l3 : Int32} {o4 : Option Value} {o5 : Option Value} {o6 : Option Value} {o7 : Option Value} {o8 : Option Value} {s9 : Nat} {fs10 : List Value} {x13 : Nat} (m15 i15 : Nat) (g15 : Nat → Int32) (h11 : f l1 = .inr (12, fs10)) (h12 : l1 < n) (h14 : fs10[13]? = some (.ref x13)) (h16 : f x13 = .inl (0, m15, .inl g15)) (h17 : x13 < n ∨ x13 = mi_SC) (h18 : mi_ix l2 m15 i15) (h19 : mi_W d 175 410 [some (.ref l1), some (.int l2), some (.int l3), o4, o5, o6, o7, o8] [.int (g15 i15), .ref s9] (n, sl, f) Q) : mi_W d 175 395 [some (.ref l1), some (.int l2), some (.int l3), o4, o5, o6, o7, o8] [.ref s9] (n, sl, f) Q := by
  refine w_aload_n cd_175_395 rfl ?_
  refine w_getfield cd_175_396 (show mt_f 12 80 = some (12, 13) by decide +kernel) h11 h12 h14 ?_
  refine w_iload_n cd_175_399 rfl ?_
  refine w_iaload cd_175_400 h16 h17 h18 ?_
  exact w_goto cd_175_401 (by decide) h19
theorem b_175_404 {d : Nat} {Q : (Option Value ⊕ Nat) → mi_H → Prop} (n sl : Nat) (f : Nat → mi_C) {l1 : Nat} {l2 : Int32} {l3 : Int32} {o4 : Option Value} {o5 : Option Value} {o6 : Option Value} {o7 : Option Value} {o8 : Option Value} {s9 : Nat} {fs10 : List Value} {x13 : Nat} (m15 i15 : Nat) (g15 : Nat → Int32) (h11 : f l1 = .inr (12, fs10)) (h12 : l1 < n) (h14 : fs10[14]? = some (.ref x13)) (h16 : f x13 = .inl (0, m15, .inl g15)) (h17 : x13 < n ∨ x13 = mi_SC) (h18 : mi_ix l2 m15 i15) (h19 : mi_W d 175 410 [some (.ref l1), some (.int l2), some (.int l3), o4, o5, o6, o7, o8] [.int (g15 i15), .ref s9] (n, sl, f) Q) : mi_W d 175 404 [some (.ref l1), some (.int l2), some (.int l3), o4, o5, o6, o7, o8] [.ref s9] (n, sl, f) Q := by
  refine w_aload_n cd_175_404 rfl ?_
  refine w_getfield cd_175_405 (show mt_f 12 83 = some (12, 14) by decide +kernel) h11 h12 h14 ?_
  refine w_iload_n cd_175_408 rfl ?_
  refine w_iaload cd_175_409 h16 h17 h18 ?_
  exact h19
theorem b_175_410 {d : Nat} {Q : (Option Value ⊕ Nat) → mi_H → Prop} (n sl : Nat) (f : Nat → mi_C) {l1 : Nat} {l2 : Int32} {l3 : Int32} {o4 : Option Value} {o5 : Option Value} {o6 : Option Value} {o7 : Option Value} {o8 : Option Value} {s9 : Int32} {s10 : Nat} {fs11 : List Value} (h12 : f s10 = .inr (13, fs11)) (h13 : s10 < n) (h14 : 0 < fs11.length) (h15 : mi_W d 175 598 [some (.ref l1), some (.int l2), some (.int l3), o4, o5, o6, o7, o8] [] (n, sl, (va_up f s10 (.inr (13, fs11.set 0 (.int s9))))) Q) : mi_W d 175 410 [some (.ref l1), some (.int l2), some (.int l3), o4, o5, o6, o7, o8] [.int s9, .ref s10] (n, sl, f) Q := by
  refine w_putfield (w := .int s9) cd_175_410 (show mt_f 12 496 = some (13, 0) by decide +kernel) h12 h13 ⟨h14, rfl, Or.inl (by decide)⟩ ?_
  exact w_goto cd_175_413 (by decide) h15
theorem b_175_416 {d : Nat} {Q : (Option Value ⊕ Nat) → mi_H → Prop} (n sl : Nat) (f : Nat → mi_C) {l1 : Nat} {l2 : Int32} {o3 : Option Value} {o4 : Option Value} {o5 : Option Value} {o6 : Option Value} {o7 : Option Value} {o8 : Option Value} {fs9 : List Value} {x12 : Int64} {fs14 : List Value} {x17 : Nat} (m19 i19 : Nat) (g19 : Nat → Int64) (h10 : f l1 = .inr (12, fs9)) (h11 : l1 < n) (h13 : fs9[45]? = some (.long x12)) (h15 : f l1 = .inr (12, fs14)) (h16 : l1 < n) (h18 : fs14[20]? = some (.ref x17)) (h20 : f x17 = .inl (3, m19, .inr (.inl g19))) (h21 : x17 < n) (h22 : mi_ix l2 m19 i19) (h23 : (0 : Int32) ≤ (lg_cmp x12 (g19 i19)) → mi_W d 175 432 [some (.ref l1), some (.int l2), o3, o4, o5, o6, o7, o8] [] (n, sl, f) Q) (h24 : ¬ ((0 : Int32) ≤ (lg_cmp x12 (g19 i19))) → mi_W d 175 430 [some (.ref l1), some (.int l2), o3, o4, o5, o6, o7, o8] [] (n, sl, f) Q) : mi_W d 175 416 [some (.ref l1), some (.int l2), o3, o4, o5, o6, o7, o8] [] (n, sl, f) Q := by
  refine w_aload_n cd_175_416 rfl ?_
  refine w_getfield cd_175_417 (show mt_f 12 474 = some (12, 45) by decide +kernel) h10 h11 h13 ?_
  refine w_aload_n cd_175_420 rfl ?_
  refine w_getfield cd_175_421 (show mt_f 12 101 = some (12, 20) by decide +kernel) h15 h16 h18 ?_
  refine w_iload_n cd_175_424 rfl ?_
  refine w_laload cd_175_425 h20 h21 h22 ?_
  refine w_lcmp cd_175_426 ?_
  exact w_ifge cd_175_427 (by decide) h23 h24
theorem b_175_430 {d : Nat} {Q : (Option Value ⊕ Nat) → mi_H → Prop} (n sl : Nat) (f : Nat → mi_C) {l1 : Nat} {l2 : Int32} {o3 : Option Value} {o4 : Option Value} {o5 : Option Value} {o6 : Option Value} {o7 : Option Value} {o8 : Option Value} (h9 : Q (.inl (some (.int 0))) (n, sl, f)) : mi_W d 175 430 [some (.ref l1), some (.int l2), o3, o4, o5, o6, o7, o8] [] (n, sl, f) Q := by
  refine w_iconst (v := 0) cd_175_430 (by decide) ?_
  exact w_ireturn_i cd_175_431 (by decide +kernel) h9
theorem b_175_432 {d : Nat} {Q : (Option Value ⊕ Nat) → mi_H → Prop} (n sl : Nat) (f : Nat → mi_C) {l1 : Nat} {l2 : Int32} {o3 : Option Value} {o4 : Option Value} {o5 : Option Value} {o6 : Option Value} {o7 : Option Value} {o8 : Option Value} {fs9 : List Value} {x12 : Nat} (m14 i14 : Nat) (g14 : Nat → Int64) {fs18 : List Value} {x21 : Int64} (h10 : f l1 = .inr (12, fs9)) (h11 : l1 < n) (h13 : fs9[20]? = some (.ref x12)) (h15 : f x12 = .inl (3, m14, .inr (.inl g14))) (h16 : x12 < n) (h17 : mi_ix l2 m14 i14) (h19 : f l1 = .inr (12, fs18)) (h20 : l1 < n) (h22 : fs18[44]? = some (.long x21)) (h23 : (lg_cmp (g14 i14) x21) ≤ (0 : Int32) → mi_W d 175 448 [some (.ref l1), some (.int l2), o3, o4, o5, o6, o7, o8] [] (n, sl, f) Q) (h24 : ¬ ((lg_cmp (g14 i14) x21) ≤ (0 : Int32)) → mi_W d 175 446 [some (.ref l1), some (.int l2), o3, o4, o5, o6, o7, o8] [] (n, sl, f) Q) : mi_W d 175 432 [some (.ref l1), some (.int l2), o3, o4, o5, o6, o7, o8] [] (n, sl, f) Q := by
  refine w_aload_n cd_175_432 rfl ?_
  refine w_getfield cd_175_433 (show mt_f 12 101 = some (12, 20) by decide +kernel) h10 h11 h13 ?_
  refine w_iload_n cd_175_436 rfl ?_
  refine w_laload cd_175_437 h15 h16 h17 ?_
  refine w_aload_n cd_175_438 rfl ?_
  refine w_getfield cd_175_439 (show mt_f 12 471 = some (12, 44) by decide +kernel) h19 h20 h22 ?_
  refine w_lcmp cd_175_442 ?_
  exact w_ifle cd_175_443 (by decide) h23 h24
theorem b_175_446 {d : Nat} {Q : (Option Value ⊕ Nat) → mi_H → Prop} (n sl : Nat) (f : Nat → mi_C) {l1 : Nat} {l2 : Int32} {o3 : Option Value} {o4 : Option Value} {o5 : Option Value} {o6 : Option Value} {o7 : Option Value} {o8 : Option Value} (h9 : Q (.inl (some (.int 3))) (n, sl, f)) : mi_W d 175 446 [some (.ref l1), some (.int l2), o3, o4, o5, o6, o7, o8] [] (n, sl, f) Q := by
  refine w_iconst (v := 3) cd_175_446 (by decide) ?_
  exact w_ireturn_i cd_175_447 (by decide +kernel) h9
theorem b_175_448 {d : Nat} {Q : (Option Value ⊕ Nat) → mi_H → Prop} (n sl : Nat) (f : Nat → mi_C) {l1 : Nat} {l2 : Int32} {o3 : Option Value} {o4 : Option Value} {o5 : Option Value} {o6 : Option Value} {o7 : Option Value} {o8 : Option Value} {fs9 : List Value} {x12 : Nat} {fs14 : List Value} {x17 : Nat} (m19 i19 : Nat) (g19 : Nat → Int32) {fs23 : List Value} (h10 : f l1 = .inr (12, fs9)) (h11 : l1 < n) (h13 : fs9[43]? = some (.ref x12)) (h15 : f l1 = .inr (12, fs14)) (h16 : l1 < n) (h18 : fs14[19]? = some (.ref x17)) (h20 : f x17 = .inl (0, m19, .inl g19)) (h21 : x17 < n ∨ x17 = mi_SC) (h22 : mi_ix l2 m19 i19) (h24 : f x12 = .inr (13, fs23)) (h25 : x12 < n) (h26 : 0 < fs23.length) (h27 : mi_W d 175 598 [some (.ref l1), some (.int l2), o3, o4, o5, o6, o7, o8] [] (n, sl, (va_up f x12 (.inr (13, fs23.set 0 (.int (g19 i19)))))) Q) : mi_W d 175 448 [some (.ref l1), some (.int l2), o3, o4, o5, o6, o7, o8] [] (n, sl, f) Q := by
  refine w_aload_n cd_175_448 rfl ?_
  refine w_getfield cd_175_449 (show mt_f 12 445 = some (12, 43) by decide +kernel) h10 h11 h13 ?_
  refine w_aload_n cd_175_452 rfl ?_
  refine w_getfield cd_175_453 (show mt_f 12 98 = some (12, 19) by decide +kernel) h15 h16 h18 ?_
  refine w_iload_n cd_175_456 rfl ?_
  refine w_iaload cd_175_457 h20 h21 h22 ?_
  refine w_putfield (w := .int (g19 i19)) cd_175_458 (show mt_f 12 496 = some (13, 0) by decide +kernel) h24 h25 ⟨h26, rfl, Or.inl (by decide)⟩ ?_
  exact w_goto cd_175_461 (by decide) h27
theorem b_175_464 {d : Nat} {Q : (Option Value ⊕ Nat) → mi_H → Prop} (n sl : Nat) (f : Nat → mi_C) {l1 : Nat} {l2 : Int32} {o3 : Option Value} {o4 : Option Value} {o5 : Option Value} {o6 : Option Value} {o7 : Option Value} {o8 : Option Value} {fs9 : List Value} {x12 : Nat} (m14 i14 : Nat) (g14 : Nat → Int32) {fs18 : List Value} (h10 : f l1 = .inr (12, fs9)) (h11 : l1 < n) (h13 : fs9[16]? = some (.ref x12)) (h15 : f x12 = .inl (0, m14, .inl g14)) (h16 : x12 < n ∨ x12 = mi_SC) (h17 : mi_ix l2 m14 i14) (h19 : f l1 = .inr (12, fs18)) (h20 : l1 < n) (h21 : mi_W d 177 0 (mi_en 2 [.ref l1, .int (g14 i14)]) [] (n, sl, f) (mi_Kc d 175 471 [some (.ref l1), some (.int l2), o3, o4, o5, o6, o7, o8] [] Q)) : mi_W (d + 1) 175 464 [some (.ref l1), some (.int l2), o3, o4, o5, o6, o7, o8] [] (n, sl, f) Q := by
  refine w_aload_n cd_175_464 rfl ?_
  refine w_aload_n cd_175_465 rfl ?_
  refine w_getfield cd_175_466 (show mt_f 12 89 = some (12, 16) by decide +kernel) h10 h11 h13 ?_
  refine w_iload_n cd_175_469 rfl ?_
  refine w_iaload cd_175_470 h15 h16 h17 ?_
  exact w_invokevirtual cd_175_471 (show mt_m 12 451 = some (177, 0) by decide +kernel) (rest := []) rfl (as := [.ref l1, .int (g14 i14)]) rfl h19 (Or.inl h20) ⟨Nat.le_of_ble_eq_true rfl, Nat.le_of_ble_eq_true rfl, Nat.le_of_ble_eq_true rfl⟩ h21
theorem b_175_474 {d : Nat} {Q : (Option Value ⊕ Nat) → mi_H → Prop} (n sl : Nat) (f : Nat → mi_C) {l1 : Nat} {l2 : Int32} {o3 : Option Value} {o4 : Option Value} {o5 : Option Value} {o6 : Option Value} {o7 : Option Value} {o8 : Option Value} {s9 : Int64} {fs10 : List Value} {x13 : Int32} (h11 : f l1 = .inr (12, fs10)) (h12 : l1 < n) (h14 : fs10[46]? = some (.int x13)) (h15 : x13 = (0 : Int32) → mi_W d 175 485 [some (.ref l1), some (.int l2), some (.long s9), none, o5, o6, o7, o8] [] (n, sl, f) Q) (h16 : ¬ (x13 = (0 : Int32)) → mi_W d 175 482 [some (.ref l1), some (.int l2), some (.long s9), none, o5, o6, o7, o8] [] (n, sl, f) Q) : mi_W d 175 474 [some (.ref l1), some (.int l2), o3, o4, o5, o6, o7, o8] [.long s9] (n, sl, f) Q := by
  refine w_lstore_n (ls' := [some (.ref l1), some (.int l2), some (.long s9), none, o5, o6, o7, o8]) cd_175_474 (Nat.le_of_ble_eq_true rfl) rfl ?_
  refine w_aload_n cd_175_475 rfl ?_
  refine w_getfield cd_175_476 (show mt_f 12 441 = some (12, 46) by decide +kernel) h11 h12 h14 ?_
  exact w_ifeq cd_175_479 (by decide) h15 h16
theorem b_175_482 {d : Nat} {Q : (Option Value ⊕ Nat) → mi_H → Prop} (n sl : Nat) (f : Nat → mi_C) {l1 : Nat} {l2 : Int32} {l3 : Int64} {o4 : Option Value} {o5 : Option Value} {o6 : Option Value} {o7 : Option Value} (h8 : Q (.inl (some (.int 6))) (n, sl, f)) : mi_W d 175 482 [some (.ref l1), some (.int l2), some (.long l3), none, o4, o5, o6, o7] [] (n, sl, f) Q := by
  refine w_bipush (v := 6) cd_175_482 (by decide) ?_
  exact w_ireturn_i cd_175_484 (by decide +kernel) h8
theorem b_175_485 {d : Nat} {Q : (Option Value ⊕ Nat) → mi_H → Prop} (n sl : Nat) (f : Nat → mi_C) {l1 : Nat} {l2 : Int32} {l3 : Int64} {o4 : Option Value} {o5 : Option Value} {o6 : Option Value} {o7 : Option Value} {fs8 : List Value} {x11 : Nat} {fs13 : List Value} {x16 : Nat} {fs18 : List Value} {x21 : Nat} (m23 i23 : Nat) (g23 : Nat → Int32) (m27 i27 : Nat) (g27 : Nat → Int32) (h9 : f l1 = .inr (12, fs8)) (h10 : l1 < n) (h12 : fs8[43]? = some (.ref x11)) (h14 : f x11 = .inr (13, fs13)) (h15 : x11 < n) (h17 : fs13[6]? = some (.ref x16)) (h19 : f l1 = .inr (12, fs18)) (h20 : l1 < n) (h22 : fs18[13]? = some (.ref x21)) (h24 : f x21 = .inl (0, m23, .inl g23)) (h25 : x21 < n ∨ x21 = mi_SC) (h26 : mi_ix l2 m23 i23) (h28 : f x16 = .inl (2, m27, .inl g27)) (h29 : x16 < n) (h30 : mi_ix (g23 i23) m27 i27) (h31 : (g27 i27) = (0 : Int32) → mi_W d 175 508 [some (.ref l1), some (.int l2), some (.long l3), none, o4, o5, o6, o7] [] (n, sl, f) Q) (h32 : ¬ ((g27 i27) = (0 : Int32)) → mi_W d 175 502 [some (.ref l1), some (.int l2), some (.long l3), none, o4, o5, o6, o7] [] (n, sl, f) Q) : mi_W d 175 485 [some (.ref l1), some (.int l2), some (.long l3), none, o4, o5, o6, o7] [] (n, sl, f) Q := by
  refine w_aload_n cd_175_485 rfl ?_
  refine w_getfield cd_175_486 (show mt_f 12 445 = some (12, 43) by decide +kernel) h9 h10 h12 ?_
  refine w_getfield cd_175_489 (show mt_f 12 465 = some (13, 6) by decide +kernel) h14 h15 h17 ?_
  refine w_aload_n cd_175_492 rfl ?_
  refine w_getfield cd_175_493 (show mt_f 12 80 = some (12, 13) by decide +kernel) h19 h20 h22 ?_
  refine w_iload_n cd_175_496 rfl ?_
  refine w_iaload cd_175_497 h24 h25 h26 ?_
  refine w_baload2 cd_175_498 h28 h29 h30 ?_
  exact w_ifeq cd_175_499 (by decide) h31 h32
theorem b_175_502 {d : Nat} {Q : (Option Value ⊕ Nat) → mi_H → Prop} (n sl : Nat) (f : Nat → mi_C) {l1 : Nat} {l2 : Int32} {l3 : Int64} {o4 : Option Value} {o5 : Option Value} {o6 : Option Value} {o7 : Option Value} {fs8 : List Value} (h9 : f l1 = .inr (12, fs8)) (h10 : l1 < n) (h11 : mi_W d 182 0 (mi_en 3 [.ref l1, .int 4, .int l2]) [] (n, sl, f) (mi_Kc d 175 505 [some (.ref l1), some (.int l2), some (.long l3), none, o4, o5, o6, o7] [] Q)) : mi_W (d + 1) 175 502 [some (.ref l1), some (.int l2), some (.long l3), none, o4, o5, o6, o7] [] (n, sl, f) Q := by
  refine w_aload_n cd_175_502 rfl ?_
  refine w_iconst (v := 4) cd_175_503 (by decide) ?_
  refine w_iload_n cd_175_504 rfl ?_
  exact w_invokevirtual cd_175_505 (show mt_m 12 502 = some (182, 0) by decide +kernel) (rest := []) rfl (as := [.ref l1, .int 4, .int l2]) rfl h9 (Or.inl h10) ⟨Nat.le_of_ble_eq_true rfl, Nat.le_of_ble_eq_true rfl, Nat.le_of_ble_eq_true rfl⟩ h11
theorem b_175_508 {d : Nat} {Q : (Option Value ⊕ Nat) → mi_H → Prop} (n sl : Nat) (f : Nat → mi_C) {l1 : Nat} {l2 : Int32} {l3 : Int64} {o4 : Option Value} {o5 : Option Value} {o6 : Option Value} {o7 : Option Value} {fs8 : List Value} {x11 : Nat} {fs13 : List Value} {x16 : Nat} {fs18 : List Value} {x21 : Nat} (m23 i23 : Nat) (g23 : Nat → Int32) (m27 i27 : Nat) (g27 : Nat → Int32) {fs31 : List Value} {x34 : Nat} {fs36 : List Value} {x39 : Nat} {fs41 : List Value} {x44 : Nat} (m46 i46 : Nat) (g46 : Nat → Int32) (m50 i50 : Nat) (g50 : Nat → Int64) {fs54 : List Value} {x57 : Nat} {fs59 : List Value} {x62 : Nat} (m64 i64 : Nat) (g64 : Nat → Int32) {fs68 : List Value} (h9 : f l1 = .inr (12, fs8)) (h10 : l1 < n) (h12 : fs8[43]? = some (.ref x11)) (h14 : f x11 = .inr (13, fs13)) (h15 : x11 < n) (h17 : fs13[6]? = some (.ref x16)) (h19 : f l1 = .inr (12, fs18)) (h20 : l1 < n) (h22 : fs18[13]? = some (.ref x21)) (h24 : f x21 = .inl (0, m23, .inl g23)) (h25 : x21 < n ∨ x21 = mi_SC) (h26 : mi_ix l2 m23 i23) (h28 : f x16 = .inl (2, m27, .inl g27)) (h29 : x16 < n) (h30 : mi_ix (g23 i23) m27 i27) (h32 : (va_up f x16 (.inl (2, m27, .inl (upd g27 i27 (vp_nar .boolean 1))))) l1 = .inr (12, fs31)) (h33 : l1 < n) (h35 : fs31[43]? = some (.ref x34)) (h37 : (va_up f x16 (.inl (2, m27, .inl (upd g27 i27 (vp_nar .boolean 1))))) x34 = .inr (13, fs36)) (h38 : x34 < n) (h40 : fs36[4]? = some (.ref x39)) (h42 : (va_up f x16 (.inl (2, m27, .inl (upd g27 i27 (vp_nar .boolean 1))))) l1 = .inr (12, fs41)) (h43 : l1 < n) (h45 : fs41[13]? = some (.ref x44)) (h47 : (va_up f x16 (.inl (2, m27, .inl (upd g27 i27 (vp_nar .boolean 1))))) x44 = .inl (0, m46, .inl g46)) (h48 : x44 < n ∨ x44 = mi_SC) (h49 : mi_ix l2 m46 i46) (h51 : (va_up f x16 (.inl (2, m27, .inl (upd g27 i27 (vp_nar .boolean 1))))) x39 = .inl (3, m50, .inr (.inl g50))) (h52 : x39 < n) (h53 : mi_ix (g46 i46) m50 i50) (h55 : (va_up (va_up f x16 (.inl (2, m27, .inl (upd g27 i27 (vp_nar .boolean 1))))) x39 (.inl (3, m50, .inr (.inl (vp_updL g50 i50 l3))))) l1 = .inr (12, fs54)) (h56 : l1 < n) (h58 : fs54[43]? = some (.ref x57)) (h60 : (va_up (va_up f x16 (.inl (2, m27, .inl (upd g27 i27 (vp_nar .boolean 1))))) x39 (.inl (3, m50, .inr (.inl (vp_updL g50 i50 l3))))) l1 = .inr (12, fs59)) (h61 : l1 < n) (h63 : fs59[19]? = some (.ref x62)) (h65 : (va_up (va_up f x16 (.inl (2, m27, .inl (upd g27 i27 (vp_nar .boolean 1))))) x39 (.inl (3, m50, .inr (.inl (vp_updL g50 i50 l3))))) x62 = .inl (0, m64, .inl g64)) (h66 : x62 < n ∨ x62 = mi_SC) (h67 : mi_ix l2 m64 i64) (h69 : (va_up (va_up f x16 (.inl (2, m27, .inl (upd g27 i27 (vp_nar .boolean 1))))) x39 (.inl (3, m50, .inr (.inl (vp_updL g50 i50 l3))))) x57 = .inr (13, fs68)) (h70 : x57 < n) (h71 : 0 < fs68.length) (h72 : mi_W d 175 598 [some (.ref l1), some (.int l2), some (.long l3), none, o4, o5, o6, o7] [] (n, sl, (va_up (va_up (va_up f x16 (.inl (2, m27, .inl (upd g27 i27 (vp_nar .boolean 1))))) x39 (.inl (3, m50, .inr (.inl (vp_updL g50 i50 l3))))) x57 (.inr (13, fs68.set 0 (.int (g64 i64)))))) Q) : mi_W d 175 508 [some (.ref l1), some (.int l2), some (.long l3), none, o4, o5, o6, o7] [] (n, sl, f) Q := by
  refine w_aload_n cd_175_508 rfl ?_
  refine w_getfield cd_175_509 (show mt_f 12 445 = some (12, 43) by decide +kernel) h9 h10 h12 ?_
  refine w_getfield cd_175_512 (show mt_f 12 465 = some (13, 6) by decide +kernel) h14 h15 h17 ?_
  refine w_aload_n cd_175_515 rfl ?_
  refine w_getfield cd_175_516 (show mt_f 12 80 = some (12, 13) by decide +kernel) h19 h20 h22 ?_
  refine w_iload_n cd_175_519 rfl ?_
  refine w_iaload cd_175_520 h24 h25 h26 ?_
  refine w_iconst (v := 1) cd_175_521 (by decide) ?_
  refine w_bastore2 cd_175_522 h28 h29 h30 ?_
  refine w_aload_n cd_175_523 rfl ?_
  refine w_getfield cd_175_524 (show mt_f 12 445 = some (12, 43) by decide +kernel) h32 h33 h35 ?_
  refine w_getfield cd_175_527 (show mt_f 12 468 = some (13, 4) by decide +kernel) h37 h38 h40 ?_
  refine w_aload_n cd_175_530 rfl ?_
  refine w_getfield cd_175_531 (show mt_f 12 80 = some (12, 13) by decide +kernel) h42 h43 h45 ?_
  refine w_iload_n cd_175_534 rfl ?_
  refine w_iaload cd_175_535 h47 h48 h49 ?_
  refine w_lload_n cd_175_536 rfl ?_
  refine w_lastore cd_175_537 h51 h52 h53 ?_
  refine w_aload_n cd_175_538 rfl ?_
  refine w_getfield cd_175_539 (show mt_f 12 445 = some (12, 43) by decide +kernel) h55 h56 h58 ?_
  refine w_aload_n cd_175_542 rfl ?_
  refine w_getfield cd_175_543 (show mt_f 12 98 = some (12, 19) by decide +kernel) h60 h61 h63 ?_
  refine w_iload_n cd_175_546 rfl ?_
  refine w_iaload cd_175_547 h65 h66 h67 ?_
  refine w_putfield (w := .int (g64 i64)) cd_175_548 (show mt_f 12 496 = some (13, 0) by decide +kernel) h69 h70 ⟨h71, rfl, Or.inl (by decide)⟩ ?_
  exact w_goto cd_175_551 (by decide) h72
theorem b_175_554 {d : Nat} {Q : (Option Value ⊕ Nat) → mi_H → Prop} (n sl : Nat) (f : Nat → mi_C) {l1 : Nat} {l2 : Int32} {o3 : Option Value} {o4 : Option Value} {o5 : Option Value} {o6 : Option Value} {o7 : Option Value} {o8 : Option Value} {fs9 : List Value} {x12 : Nat} (m14 i14 : Nat) (g14 : Nat → Int32) {fs18 : List Value} (h10 : f l1 = .inr (12, fs9)) (h11 : l1 < n) (h13 : fs9[16]? = some (.ref x12)) (h15 : f x12 = .inl (0, m14, .inl g14)) (h16 : x12 < n ∨ x12 = mi_SC) (h17 : mi_ix l2 m14 i14) (h19 : f l1 = .inr (12, fs18)) (h20 : l1 < n) (h21 : mi_W d 179 0 (mi_en 6 [.ref l1, .int (g14 i14)]) [] (n, sl, f) (mi_Kc d 175 561 [some (.ref l1), some (.int l2), o3, o4, o5, o6, o7, o8] [] Q)) : mi_W (d + 1) 175 554 [some (.ref l1), some (.int l2), o3, o4, o5, o6, o7, o8] [] (n, sl, f) Q := by
  refine w_aload_n cd_175_554 rfl ?_
  refine w_aload_n cd_175_555 rfl ?_
  refine w_getfield cd_175_556 (show mt_f 12 89 = some (12, 16) by decide +kernel) h10 h11 h13 ?_
  refine w_iload_n cd_175_559 rfl ?_
  refine w_iaload cd_175_560 h15 h16 h17 ?_
  exact w_invokevirtual cd_175_561 (show mt_m 12 477 = some (179, 0) by decide +kernel) (rest := []) rfl (as := [.ref l1, .int (g14 i14)]) rfl h19 (Or.inl h20) ⟨Nat.le_of_ble_eq_true rfl, Nat.le_of_ble_eq_true rfl, Nat.le_of_ble_eq_true rfl⟩ h21
theorem b_175_564 {d : Nat} {Q : (Option Value ⊕ Nat) → mi_H → Prop} (n sl : Nat) (f : Nat → mi_C) {l1 : Nat} {l2 : Int32} {o3 : Option Value} {o4 : Option Value} {o5 : Option Value} {o6 : Option Value} {o7 : Option Value} {o8 : Option Value} {s9 : Int32} {fs10 : List Value} {x13 : Int32} (h11 : f l1 = .inr (12, fs10)) (h12 : l1 < n) (h14 : fs10[46]? = some (.int x13)) (h15 : x13 = (0 : Int32) → mi_W d 175 575 [some (.ref l1), some (.int l2), some (.int s9), o4, o5, o6, o7, o8] [] (n, sl, f) Q) (h16 : ¬ (x13 = (0 : Int32)) → mi_W d 175 572 [some (.ref l1), some (.int l2), some (.int s9), o4, o5, o6, o7, o8] [] (n, sl, f) Q) : mi_W d 175 564 [some (.ref l1), some (.int l2), o3, o4, o5, o6, o7, o8] [.int s9] (n, sl, f) Q := by
  refine w_istore_n (ls' := [some (.ref l1), some (.int l2), some (.int s9), o4, o5, o6, o7, o8]) cd_175_564 (Nat.le_of_ble_eq_true rfl) rfl ?_
  refine w_aload_n cd_175_565 rfl ?_
  refine w_getfield cd_175_566 (show mt_f 12 441 = some (12, 46) by decide +kernel) h11 h12 h14 ?_
  exact w_ifeq cd_175_569 (by decide) h15 h16
theorem b_175_572 {d : Nat} {Q : (Option Value ⊕ Nat) → mi_H → Prop} (n sl : Nat) (f : Nat → mi_C) {l1 : Nat} {l2 : Int32} {l3 : Int32} {o4 : Option Value} {o5 : Option Value} {o6 : Option Value} {o7 : Option Value} {o8 : Option Value} (h9 : Q (.inl (some (.int 6))) (n, sl, f)) : mi_W d 175 572 [some (.ref l1), some (.int l2), some (.int l3), o4, o5, o6, o7, o8] [] (n, sl, f) Q := by
  refine w_bipush (v := 6) cd_175_572 (by decide) ?_
  exact w_ireturn_i cd_175_574 (by decide +kernel) h9
theorem b_175_575 {d : Nat} {Q : (Option Value ⊕ Nat) → mi_H → Prop} (n sl : Nat) (f : Nat → mi_C) {l1 : Nat} {l2 : Int32} {l3 : Int32} {o4 : Option Value} {o5 : Option Value} {o6 : Option Value} {o7 : Option Value} {o8 : Option Value} (h9 : ¬ l3 = (0 : Int32) → mi_W d 175 585 [some (.ref l1), some (.int l2), some (.int l3), o4, o5, o6, o7, o8] [] (n, sl, f) Q) (h10 : ¬ (¬ l3 = (0 : Int32)) → mi_W d 175 579 [some (.ref l1), some (.int l2), some (.int l3), o4, o5, o6, o7, o8] [] (n, sl, f) Q) : mi_W d 175 575 [some (.ref l1), some (.int l2), some (.int l3), o4, o5, o6, o7, o8] [] (n, sl, f) Q := by
  refine w_iload_n cd_175_575 rfl ?_
  exact w_ifne cd_175_576 (by decide) h9 h10
theorem b_175_579 {d : Nat} {Q : (Option Value ⊕ Nat) → mi_H → Prop} (n sl : Nat) (f : Nat → mi_C) {l1 : Nat} {l2 : Int32} {l3 : Int32} {o4 : Option Value} {o5 : Option Value} {o6 : Option Value} {o7 : Option Value} {o8 : Option Value} {fs9 : List Value} (h10 : f l1 = .inr (12, fs9)) (h11 : l1 < n) (h12 : mi_W d 182 0 (mi_en 3 [.ref l1, .int 5, .int l2]) [] (n, sl, f) (mi_Kc d 175 582 [some (.ref l1), some (.int l2), some (.int l3), o4, o5, o6, o7, o8] [] Q)) : mi_W (d + 1) 175 579 [some (.ref l1), some (.int l2), some (.int l3), o4, o5, o6, o7, o8] [] (n, sl, f) Q := by
  refine w_aload_n cd_175_579 rfl ?_
  refine w_iconst (v := 5) cd_175_580 (by decide) ?_
  refine w_iload_n cd_175_581 rfl ?_
  exact w_invokevirtual cd_175_582 (show mt_m 12 502 = some (182, 0) by decide +kernel) (rest := []) rfl (as := [.ref l1, .int 5, .int l2]) rfl h10 (Or.inl h11) ⟨Nat.le_of_ble_eq_true rfl, Nat.le_of_ble_eq_true rfl, Nat.le_of_ble_eq_true rfl⟩ h12
theorem b_175_585 {d : Nat} {Q : (Option Value ⊕ Nat) → mi_H → Prop} (n sl : Nat) (f : Nat → mi_C) {l1 : Nat} {l2 : Int32} {l3 : Int32} {o4 : Option Value} {o5 : Option Value} {o6 : Option Value} {o7 : Option Value} {o8 : Option Value} {fs9 : List Value} {x12 : Nat} {fs14 : List Value} {x17 : Nat} (m19 i19 : Nat) (g19 : Nat → Int32) {fs23 : List Value} (h10 : f l1 = .inr (12, fs9)) (h11 : l1 < n) (h13 : fs9[43]? = some (.ref x12)) (h15 : f l1 = .inr (12, fs14)) (h16 : l1 < n) (h18 : fs14[19]? = some (.ref x17)) (h20 : f x17 = .inl (0, m19, .inl g19)) (h21 : x17 < n ∨ x17 = mi_SC) (h22 : mi_ix l2 m19 i19) (h24 : f x12 = .inr (13, fs23)) (h25 : x12 < n) (h26 : 0 < fs23.length) (h27 : mi_W d 175 598 [some (.ref l1), some (.int l2), some (.int l3), o4, o5, o6, o7, o8] [] (n, sl, (va_up f x12 (.inr (13, fs23.set 0 (.int (g19 i19)))))) Q) : mi_W d 175 585 [some (.ref l1), some (.int l2), some (.int l3), o4, o5, o6, o7, o8] [] (n, sl, f) Q := by
  refine w_aload_n cd_175_585 rfl ?_
  refine w_getfield cd_175_586 (show mt_f 12 445 = some (12, 43) by decide +kernel) h10 h11 h13 ?_
  refine w_aload_n cd_175_589 rfl ?_
  refine w_getfield cd_175_590 (show mt_f 12 98 = some (12, 19) by decide +kernel) h15 h16 h18 ?_
  refine w_iload_n cd_175_593 rfl ?_
  refine w_iaload cd_175_594 h20 h21 h22 ?_
  refine w_putfield (w := .int (g19 i19)) cd_175_595 (show mt_f 12 496 = some (13, 0) by decide +kernel) h24 h25 ⟨h26, rfl, Or.inl (by decide)⟩ ?_
  exact h27
theorem b_175_598 {d : Nat} {Q : (Option Value ⊕ Nat) → mi_H → Prop} (n sl : Nat) (f : Nat → mi_C) {l1 : Nat} {l2 : Int32} {o3 : Option Value} {o4 : Option Value} {o5 : Option Value} {o6 : Option Value} {o7 : Option Value} {o8 : Option Value} {fs9 : List Value} (h10 : f l1 = .inr (12, fs9)) (h11 : l1 < n) (h12 : 58 < fs9.length) (h13 : mi_fk .boolean (.int 1) = true) (h14 : mi_W d 175 0 [some (.ref l1), some (.int l2), o3, o4, o5, o6, o7, o8] [] (n, sl, (va_up f l1 (.inr (12, fs9.set 58 (.int 1))))) Q) : mi_W d 175 598 [some (.ref l1), some (.int l2), o3, o4, o5, o6, o7, o8] [] (n, sl, f) Q := by
  refine w_aload_n cd_175_598 rfl ?_
  refine w_iconst (v := 1) cd_175_599 (by decide) ?_
  refine w_putfield (w := .int 1) cd_175_600 (show mt_f 12 506 = some (12, 58) by decide +kernel) h10 h11 ⟨h12, h13, Or.inl (by decide)⟩ ?_
  exact w_goto cd_175_603 (by decide) h14
end
