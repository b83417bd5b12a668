section
/-! MarloweHostModel.analyse()I -/
set_option maxRecDepth 100000 in
theorem mq_194 : mt_q 194 = my_194 := rfl
set_option maxRecDepth 100000 in
theorem ci_194 : mt_inc 0 my_194.cd = true := by decide +kernel
theorem cd_194_0 : mt_cd 194 0 = some (.aload_n 0) := mt_cd_of (q := (0, .aload_n 0, 1)) mq_194 ci_194 (List.mem_append_left _ (show _ ∈ my_194_0 from List.mem_of_getElem? (i := 0) rfl))
theorem cd_194_1 : mt_cd 194 1 = some (.iconst 0) := mt_cd_of (q := (1, .iconst 0, 1)) mq_194 ci_194 (List.mem_append_left _ (show _ ∈ my_194_0 from List.mem_of_getElem? (i := 1) rfl))
theorem cd_194_2 : mt_cd 194 2 = some (.putfield 248) := mt_cd_of (q := (2, .putfield 248, 3)) mq_194 ci_194 (List.mem_append_left _ (show _ ∈ my_194_0 from List.mem_of_getElem? (i := 2) rfl))
theorem cd_194_5 : mt_cd 194 5 = some (.aload_n 0) := mt_cd_of (q := (5, .aload_n 0, 1)) mq_194 ci_194 (List.mem_append_left _ (show _ ∈ my_194_0 from List.mem_of_getElem? (i := 3) rfl))
theorem cd_194_6 : mt_cd 194 6 = some (.aload_n 0) := mt_cd_of (q := (6, .aload_n 0, 1)) mq_194 ci_194 (List.mem_append_left _ (show _ ∈ my_194_0 from List.mem_of_getElem? (i := 4) rfl))
theorem cd_194_7 : mt_cd 194 7 = some (.getfield 13) := mt_cd_of (q := (7, .getfield 13, 3)) mq_194 ci_194 (List.mem_append_left _ (show _ ∈ my_194_0 from List.mem_of_getElem? (i := 5) rfl))
theorem cd_194_10 : mt_cd 194 10 = some (.ifCond .ge 7) := mt_cd_of (q := (10, .ifCond .ge 7, 3)) mq_194 ci_194 (List.mem_append_left _ (show _ ∈ my_194_0 from List.mem_of_getElem? (i := 6) rfl))
theorem cd_194_13 : mt_cd 194 13 = some (.iconst 1) := mt_cd_of (q := (13, .iconst 1, 1)) mq_194 ci_194 (List.mem_append_left _ (show _ ∈ my_194_0 from List.mem_of_getElem? (i := 7) rfl))
theorem cd_194_14 : mt_cd 194 14 = some (.goto 4) := mt_cd_of (q := (14, .goto 4, 3)) mq_194 ci_194 (List.mem_append_left _ (show _ ∈ my_194_0 from List.mem_of_getElem? (i := 8) rfl))
theorem cd_194_17 : mt_cd 194 17 = some (.iconst 0) := mt_cd_of (q := (17, .iconst 0, 1)) mq_194 ci_194 (List.mem_append_left _ (show _ ∈ my_194_0 from List.mem_of_getElem? (i := 9) rfl))
theorem cd_194_18 : mt_cd 194 18 = some (.iconst 1) := mt_cd_of (q := (18, .iconst 1, 1)) mq_194 ci_194 (List.mem_append_left _ (show _ ∈ my_194_0 from List.mem_of_getElem? (i := 10) rfl))
theorem cd_194_19 : mt_cd 194 19 = some (.invokevirtual 254) := mt_cd_of (q := (19, .invokevirtual 254, 3)) mq_194 ci_194 (List.mem_append_left _ (show _ ∈ my_194_0 from List.mem_of_getElem? (i := 11) rfl))
theorem cd_194_22 : mt_cd 194 22 = some (.ifCond .eq 5) := mt_cd_of (q := (22, .ifCond .eq 5, 3)) mq_194 ci_194 (List.mem_append_left _ (show _ ∈ my_194_0 from List.mem_of_getElem? (i := 12) rfl))
theorem cd_194_25 : mt_cd 194 25 = some (.iconst 0) := mt_cd_of (q := (25, .iconst 0, 1)) mq_194 ci_194 (List.mem_append_left _ (show _ ∈ my_194_0 from List.mem_of_getElem? (i := 13) rfl))
theorem cd_194_26 : mt_cd 194 26 = some (.ireturn) := mt_cd_of (q := (26, .ireturn, 1)) mq_194 ci_194 (List.mem_append_left _ (show _ ∈ my_194_0 from List.mem_of_getElem? (i := 14) rfl))
theorem cd_194_27 : mt_cd 194 27 = some (.aload_n 0) := mt_cd_of (q := (27, .aload_n 0, 1)) mq_194 ci_194 (List.mem_append_left _ (show _ ∈ my_194_0 from List.mem_of_getElem? (i := 15) rfl))
theorem cd_194_28 : mt_cd 194 28 = some (.iconst 0) := mt_cd_of (q := (28, .iconst 0, 1)) mq_194 ci_194 (List.mem_append_left _ (show _ ∈ my_194_0 from List.mem_of_getElem? (i := 16) rfl))
theorem cd_194_29 : mt_cd 194 29 = some (.putfield 562) := mt_cd_of (q := (29, .putfield 562, 3)) mq_194 ci_194 (List.mem_append_left _ (show _ ∈ my_194_0 from List.mem_of_getElem? (i := 17) rfl))
theorem cd_194_32 : mt_cd 194 32 = some (.aload_n 0) := mt_cd_of (q := (32, .aload_n 0, 1)) mq_194 ci_194 (List.mem_append_left _ (show _ ∈ my_194_0 from List.mem_of_getElem? (i := 18) rfl))
theorem cd_194_33 : mt_cd 194 33 = some (.iconst 0) := mt_cd_of (q := (33, .iconst 0, 1)) mq_194 ci_194 (List.mem_append_left _ (show _ ∈ my_194_0 from List.mem_of_getElem? (i := 19) rfl))
theorem cd_194_34 : mt_cd 194 34 = some (.putfield 565) := mt_cd_of (q := (34, .putfield 565, 3)) mq_194 ci_194 (List.mem_append_left _ (show _ ∈ my_194_0 from List.mem_of_getElem? (i := 20) rfl))
theorem cd_194_37 : mt_cd 194 37 = some (.aload_n 0) := mt_cd_of (q := (37, .aload_n 0, 1)) mq_194 ci_194 (List.mem_append_left _ (show _ ∈ my_194_0 from List.mem_of_getElem? (i := 21) rfl))
theorem cd_194_38 : mt_cd 194 38 = some (.iconst 0) := mt_cd_of (q := (38, .iconst 0, 1)) mq_194 ci_194 (List.mem_append_left _ (show _ ∈ my_194_0 from List.mem_of_getElem? (i := 22) rfl))
theorem cd_194_39 : mt_cd 194 39 = some (.putfield 568) := mt_cd_of (q := (39, .putfield 568, 3)) mq_194 ci_194 (List.mem_append_left _ (show _ ∈ my_194_0 from List.mem_of_getElem? (i := 23) rfl))
theorem cd_194_42 : mt_cd 194 42 = some (.aload_n 0) := mt_cd_of (q := (42, .aload_n 0, 1)) mq_194 ci_194 (List.mem_append_left _ (show _ ∈ my_194_0 from List.mem_of_getElem? (i := 24) rfl))
theorem cd_194_43 : mt_cd 194 43 = some (.aload_n 0) := mt_cd_of (q := (43, .aload_n 0, 1)) mq_194 ci_194 (List.mem_append_left _ (show _ ∈ my_194_0 from List.mem_of_getElem? (i := 25) rfl))
theorem cd_194_44 : mt_cd 194 44 = some (.getfield 147) := mt_cd_of (q := (44, .getfield 147, 3)) mq_194 ci_194 (List.mem_append_left _ (show _ ∈ my_194_0 from List.mem_of_getElem? (i := 26) rfl))
theorem cd_194_47 : mt_cd 194 47 = some (.getfield 496) := mt_cd_of (q := (47, .getfield 496, 3)) mq_194 ci_194 (List.mem_append_left _ (show _ ∈ my_194_0 from List.mem_of_getElem? (i := 27) rfl))
theorem cd_194_50 : mt_cd 194 50 = some (.invokevirtual 557) := mt_cd_of (q := (50, .invokevirtual 557, 3)) mq_194 ci_194 (List.mem_append_left _ (show _ ∈ my_194_0 from List.mem_of_getElem? (i := 28) rfl))
theorem cd_194_53 : mt_cd 194 53 = some (.ifCond .eq 5) := mt_cd_of (q := (53, .ifCond .eq 5, 3)) mq_194 ci_194 (List.mem_append_left _ (show _ ∈ my_194_0 from List.mem_of_getElem? (i := 29) rfl))
theorem cd_194_56 : mt_cd 194 56 = some (.iconst 3) := mt_cd_of (q := (56, .iconst 3, 1)) mq_194 ci_194 (List.mem_append_left _ (show _ ∈ my_194_0 from List.mem_of_getElem? (i := 30) rfl))
theorem cd_194_57 : mt_cd 194 57 = some (.ireturn) := mt_cd_of (q := (57, .ireturn, 1)) mq_194 ci_194 (List.mem_append_left _ (show _ ∈ my_194_0 from List.mem_of_getElem? (i := 31) rfl))
theorem cd_194_58 : mt_cd 194 58 = some (.aload_n 0) := mt_cd_of (q := (58, .aload_n 0, 1)) mq_194 ci_194 (List.mem_append_left _ (show _ ∈ my_194_0 from List.mem_of_getElem? (i := 32) rfl))
theorem cd_194_59 : mt_cd 194 59 = some (.iconst 0) := mt_cd_of (q := (59, .iconst 0, 1)) mq_194 ci_194 (List.mem_append_left _ (show _ ∈ my_194_0 from List.mem_of_getElem? (i := 33) rfl))
theorem cd_194_60 : mt_cd 194 60 = some (.putfield 513) := mt_cd_of (q := (60, .putfield 513, 3)) mq_194 ci_194 (List.mem_append_left _ (show _ ∈ my_194_0 from List.mem_of_getElem? (i := 34) rfl))
theorem cd_194_63 : mt_cd 194 63 = some (.aload_n 0) := mt_cd_of (q := (63, .aload_n 0, 1)) mq_194 ci_194 (List.mem_append_left _ (show _ ∈ my_194_0 from List.mem_of_getElem? (i := 35) rfl))
theorem cd_194_64 : mt_cd 194 64 = some (.getfield 258) := mt_cd_of (q := (64, .getfield 258, 3)) mq_194 ci_194 (List.mem_append_left _ (show _ ∈ my_194_0 from List.mem_of_getElem? (i := 36) rfl))
theorem cd_194_67 : mt_cd 194 67 = some (.istore_n 1) := mt_cd_of (q := (67, .istore_n 1, 1)) mq_194 ci_194 (List.mem_append_left _ (show _ ∈ my_194_0 from List.mem_of_getElem? (i := 37) rfl))
theorem cd_194_68 : mt_cd 194 68 = some (.iconst 0) := mt_cd_of (q := (68, .iconst 0, 1)) mq_194 ci_194 (List.mem_append_left _ (show _ ∈ my_194_0 from List.mem_of_getElem? (i := 38) rfl))
theorem cd_194_69 : mt_cd 194 69 = some (.istore_n 2) := mt_cd_of (q := (69, .istore_n 2, 1)) mq_194 ci_194 (List.mem_append_left _ (show _ ∈ my_194_0 from List.mem_of_getElem? (i := 39) rfl))
theorem cd_194_70 : mt_cd 194 70 = some (.iload_n 2) := mt_cd_of (q := (70, .iload_n 2, 1)) mq_194 ci_194 (List.mem_append_left _ (show _ ∈ my_194_0 from List.mem_of_getElem? (i := 40) rfl))
theorem cd_194_71 : mt_cd 194 71 = some (.iload_n 1) := mt_cd_of (q := (71, .iload_n 1, 1)) mq_194 ci_194 (List.mem_append_left _ (show _ ∈ my_194_0 from List.mem_of_getElem? (i := 41) rfl))
theorem cd_194_72 : mt_cd 194 72 = some (.if_icmp .ge 69) := mt_cd_of (q := (72, .if_icmp .ge 69, 3)) mq_194 ci_194 (List.mem_append_left _ (show _ ∈ my_194_0 from List.mem_of_getElem? (i := 42) rfl))
theorem cd_194_75 : mt_cd 194 75 = some (.aload_n 0) := mt_cd_of (q := (75, .aload_n 0, 1)) mq_194 ci_194 (List.mem_append_left _ (show _ ∈ my_194_0 from List.mem_of_getElem? (i := 43) rfl))
theorem cd_194_76 : mt_cd 194 76 = some (.getfield 233) := mt_cd_of (q := (76, .getfield 233, 3)) mq_194 ci_194 (List.mem_append_left _ (show _ ∈ my_194_0 from List.mem_of_getElem? (i := 44) rfl))
theorem cd_194_79 : mt_cd 194 79 = some (.iload_n 2) := mt_cd_of (q := (79, .iload_n 2, 1)) mq_194 ci_194 (List.mem_append_left _ (show _ ∈ my_194_0 from List.mem_of_getElem? (i := 45) rfl))
theorem cd_194_80 : mt_cd 194 80 = some (.aload_n 0) := mt_cd_of (q := (80, .aload_n 0, 1)) mq_194 ci_194 (List.mem_append_left _ (show _ ∈ my_194_0 from List.mem_of_getElem? (i := 46) rfl))
theorem cd_194_81 : mt_cd 194 81 = some (.getfield 178) := mt_cd_of (q := (81, .getfield 178, 3)) mq_194 ci_194 (List.mem_append_left _ (show _ ∈ my_194_0 from List.mem_of_getElem? (i := 47) rfl))
theorem cd_194_84 : mt_cd 194 84 = some (.iload_n 2) := mt_cd_of (q := (84, .iload_n 2, 1)) mq_194 ci_194 (List.mem_append_left _ (show _ ∈ my_194_0 from List.mem_of_getElem? (i := 48) rfl))
theorem cd_194_85 : mt_cd 194 85 = some (.iaload) := mt_cd_of (q := (85, .iaload, 1)) mq_194 ci_194 (List.mem_append_left _ (show _ ∈ my_194_0 from List.mem_of_getElem? (i := 49) rfl))
theorem cd_194_86 : mt_cd 194 86 = some (.iastore) := mt_cd_of (q := (86, .iastore, 1)) mq_194 ci_194 (List.mem_append_left _ (show _ ∈ my_194_0 from List.mem_of_getElem? (i := 50) rfl))
theorem cd_194_87 : mt_cd 194 87 = some (.aload_n 0) := mt_cd_of (q := (87, .aload_n 0, 1)) mq_194 ci_194 (List.mem_append_left _ (show _ ∈ my_194_0 from List.mem_of_getElem? (i := 51) rfl))
theorem cd_194_88 : mt_cd 194 88 = some (.getfield 236) := mt_cd_of (q := (88, .getfield 236, 3)) mq_194 ci_194 (List.mem_append_left _ (show _ ∈ my_194_0 from List.mem_of_getElem? (i := 52) rfl))
theorem cd_194_91 : mt_cd 194 91 = some (.iload_n 2) := mt_cd_of (q := (91, .iload_n 2, 1)) mq_194 ci_194 (List.mem_append_left _ (show _ ∈ my_194_0 from List.mem_of_getElem? (i := 53) rfl))
theorem cd_194_92 : mt_cd 194 92 = some (.aload_n 0) := mt_cd_of (q := (92, .aload_n 0, 1)) mq_194 ci_194 (List.mem_append_left _ (show _ ∈ my_194_0 from List.mem_of_getElem? (i := 54) rfl))
theorem cd_194_93 : mt_cd 194 93 = some (.getfield 181) := mt_cd_of (q := (93, .getfield 181, 3)) mq_194 ci_194 (List.mem_append_left _ (show _ ∈ my_194_0 from List.mem_of_getElem? (i := 55) rfl))
theorem cd_194_96 : mt_cd 194 96 = some (.iload_n 2) := mt_cd_of (q := (96, .iload_n 2, 1)) mq_194 ci_194 (List.mem_append_left _ (show _ ∈ my_194_0 from List.mem_of_getElem? (i := 56) rfl))
theorem cd_194_97 : mt_cd 194 97 = some (.iaload) := mt_cd_of (q := (97, .iaload, 1)) mq_194 ci_194 (List.mem_append_left _ (show _ ∈ my_194_0 from List.mem_of_getElem? (i := 57) rfl))
theorem cd_194_98 : mt_cd 194 98 = some (.iastore) := mt_cd_of (q := (98, .iastore, 1)) mq_194 ci_194 (List.mem_append_left _ (show _ ∈ my_194_0 from List.mem_of_getElem? (i := 58) rfl))
theorem cd_194_99 : mt_cd 194 99 = some (.aload_n 0) := mt_cd_of (q := (99, .aload_n 0, 1)) mq_194 ci_194 (List.mem_append_left _ (show _ ∈ my_194_0 from List.mem_of_getElem? (i := 59) rfl))
theorem cd_194_100 : mt_cd 194 100 = some (.getfield 239) := mt_cd_of (q := (100, .getfield 239, 3)) mq_194 ci_194 (List.mem_append_right _ (List.mem_append_left _ (show _ ∈ my_194_1 from List.mem_of_getElem? (i := 0) rfl)))
theorem cd_194_103 : mt_cd 194 103 = some (.iload_n 2) := mt_cd_of (q := (103, .iload_n 2, 1)) mq_194 ci_194 (List.mem_append_right _ (List.mem_append_left _ (show _ ∈ my_194_1 from List.mem_of_getElem? (i := 1) rfl)))
theorem cd_194_104 : mt_cd 194 104 = some (.aload_n 0) := mt_cd_of (q := (104, .aload_n 0, 1)) mq_194 ci_194 (List.mem_append_right _ (List.mem_append_left _ (show _ ∈ my_194_1 from List.mem_of_getElem? (i := 2) rfl)))
theorem cd_194_105 : mt_cd 194 105 = some (.getfield 184) := mt_cd_of (q := (105, .getfield 184, 3)) mq_194 ci_194 (List.mem_append_right _ (List.mem_append_left _ (show _ ∈ my_194_1 from List.mem_of_getElem? (i := 3) rfl)))
theorem cd_194_108 : mt_cd 194 108 = some (.iload_n 2) := mt_cd_of (q := (108, .iload_n 2, 1)) mq_194 ci_194 (List.mem_append_right _ (List.mem_append_left _ (show _ ∈ my_194_1 from List.mem_of_getElem? (i := 4) rfl)))
theorem cd_194_109 : mt_cd 194 109 = some (.iaload) := mt_cd_of (q := (109, .iaload, 1)) mq_194 ci_194 (List.mem_append_right _ (List.mem_append_left _ (show _ ∈ my_194_1 from List.mem_of_getElem? (i := 5) rfl)))
theorem cd_194_110 : mt_cd 194 110 = some (.iastore) := mt_cd_of (q := (110, .iastore, 1)) mq_194 ci_194 (List.mem_append_right _ (List.mem_append_left _ (show _ ∈ my_194_1 from List.mem_of_getElem? (i := 6) rfl)))
theorem cd_194_111 : mt_cd 194 111 = some (.aload_n 0) := mt_cd_of (q := (111, .aload_n 0, 1)) mq_194 ci_194 (List.mem_append_right _ (List.mem_append_left _ (show _ ∈ my_194_1 from List.mem_of_getElem? (i := 7) rfl)))
theorem cd_194_112 : mt_cd 194 112 = some (.getfield 242) := mt_cd_of (q := (112, .getfield 242, 3)) mq_194 ci_194 (List.mem_append_right _ (List.mem_append_left _ (show _ ∈ my_194_1 from List.mem_of_getElem? (i := 8) rfl)))
theorem cd_194_115 : mt_cd 194 115 = some (.iload_n 2) := mt_cd_of (q := (115, .iload_n 2, 1)) mq_194 ci_194 (List.mem_append_right _ (List.mem_append_left _ (show _ ∈ my_194_1 from List.mem_of_getElem? (i := 9) rfl)))
theorem cd_194_116 : mt_cd 194 116 = some (.aload_n 0) := mt_cd_of (q := (116, .aload_n 0, 1)) mq_194 ci_194 (List.mem_append_right _ (List.mem_append_left _ (show _ ∈ my_194_1 from List.mem_of_getElem? (i := 10) rfl)))
theorem cd_194_117 : mt_cd 194 117 = some (.getfield 187) := mt_cd_of (q := (117, .getfield 187, 3)) mq_194 ci_194 (List.mem_append_right _ (List.mem_append_left _ (show _ ∈ my_194_1 from List.mem_of_getElem? (i := 11) rfl)))
theorem cd_194_120 : mt_cd 194 120 = some (.iload_n 2) := mt_cd_of (q := (120, .iload_n 2, 1)) mq_194 ci_194 (List.mem_append_right _ (List.mem_append_left _ (show _ ∈ my_194_1 from List.mem_of_getElem? (i := 12) rfl)))
theorem cd_194_121 : mt_cd 194 121 = some (.iaload) := mt_cd_of (q := (121, .iaload, 1)) mq_194 ci_194 (List.mem_append_right _ (List.mem_append_left _ (show _ ∈ my_194_1 from List.mem_of_getElem? (i := 13) rfl)))
theorem cd_194_122 : mt_cd 194 122 = some (.iastore) := mt_cd_of (q := (122, .iastore, 1)) mq_194 ci_194 (List.mem_append_right _ (List.mem_append_left _ (show _ ∈ my_194_1 from List.mem_of_getElem? (i := 14) rfl)))
theorem cd_194_123 : mt_cd 194 123 = some (.aload_n 0) := mt_cd_of (q := (123, .aload_n 0, 1)) mq_194 ci_194 (List.mem_append_right _ (List.mem_append_left _ (show _ ∈ my_194_1 from List.mem_of_getElem? (i := 15) rfl)))
theorem cd_194_124 : mt_cd 194 124 = some (.getfield 245) := mt_cd_of (q := (124, .getfield 245, 3)) mq_194 ci_194 (List.mem_append_right _ (List.mem_append_left _ (show _ ∈ my_194_1 from List.mem_of_getElem? (i := 16) rfl)))
theorem cd_194_127 : mt_cd 194 127 = some (.iload_n 2) := mt_cd_of (q := (127, .iload_n 2, 1)) mq_194 ci_194 (List.mem_append_right _ (List.mem_append_left _ (show _ ∈ my_194_1 from List.mem_of_getElem? (i := 17) rfl)))
theorem cd_194_128 : mt_cd 194 128 = some (.aload_n 0) := mt_cd_of (q := (128, .aload_n 0, 1)) mq_194 ci_194 (List.mem_append_right _ (List.mem_append_left _ (show _ ∈ my_194_1 from List.mem_of_getElem? (i := 18) rfl)))
theorem cd_194_129 : mt_cd 194 129 = some (.getfield 190) := mt_cd_of (q := (129, .getfield 190, 3)) mq_194 ci_194 (List.mem_append_right _ (List.mem_append_left _ (show _ ∈ my_194_1 from List.mem_of_getElem? (i := 19) rfl)))
theorem cd_194_132 : mt_cd 194 132 = some (.iload_n 2) := mt_cd_of (q := (132, .iload_n 2, 1)) mq_194 ci_194 (List.mem_append_right _ (List.mem_append_left _ (show _ ∈ my_194_1 from List.mem_of_getElem? (i := 20) rfl)))
theorem cd_194_133 : mt_cd 194 133 = some (.laload) := mt_cd_of (q := (133, .laload, 1)) mq_194 ci_194 (List.mem_append_right _ (List.mem_append_left _ (show _ ∈ my_194_1 from List.mem_of_getElem? (i := 21) rfl)))
theorem cd_194_134 : mt_cd 194 134 = some (.lastore) := mt_cd_of (q := (134, .lastore, 1)) mq_194 ci_194 (List.mem_append_right _ (List.mem_append_left _ (show _ ∈ my_194_1 from List.mem_of_getElem? (i := 22) rfl)))
theorem cd_194_135 : mt_cd 194 135 = some (.iinc 2 1) := mt_cd_of (q := (135, .iinc 2 1, 3)) mq_194 ci_194 (List.mem_append_right _ (List.mem_append_left _ (show _ ∈ my_194_1 from List.mem_of_getElem? (i := 23) rfl)))
theorem cd_194_138 : mt_cd 194 138 = some (.goto (-68)) := mt_cd_of (q := (138, .goto (-68), 3)) mq_194 ci_194 (List.mem_append_right _ (List.mem_append_left _ (show _ ∈ my_194_1 from List.mem_of_getElem? (i := 24) rfl)))
theorem cd_194_141 : mt_cd 194 141 = some (.aload_n 0) := mt_cd_of (q := (141, .aload_n 0, 1)) mq_194 ci_194 (List.mem_append_right _ (List.mem_append_left _ (show _ ∈ my_194_1 from List.mem_of_getElem? (i := 25) rfl)))
theorem cd_194_142 : mt_cd 194 142 = some (.aload_n 0) := mt_cd_of (q := (142, .aload_n 0, 1)) mq_194 ci_194 (List.mem_append_right _ (List.mem_append_left _ (show _ ∈ my_194_1 from List.mem_of_getElem? (i := 26) rfl)))
theorem cd_194_143 : mt_cd 194 143 = some (.getfield 147) := mt_cd_of (q := (143, .getfield 147, 3)) mq_194 ci_194 (List.mem_append_right _ (List.mem_append_left _ (show _ ∈ my_194_1 from List.mem_of_getElem? (i := 27) rfl)))
theorem cd_194_146 : mt_cd 194 146 = some (.invokevirtual 571) := mt_cd_of (q := (146, .invokevirtual 571, 3)) mq_194 ci_194 (List.mem_append_right _ (List.mem_append_left _ (show _ ∈ my_194_1 from List.mem_of_getElem? (i := 28) rfl)))
theorem cd_194_149 : mt_cd 194 149 = some (.istore_n 2) := mt_cd_of (q := (149, .istore_n 2, 1)) mq_194 ci_194 (List.mem_append_right _ (List.mem_append_left _ (show _ ∈ my_194_1 from List.mem_of_getElem? (i := 29) rfl)))
theorem cd_194_150 : mt_cd 194 150 = some (.aload_n 0) := mt_cd_of (q := (150, .aload_n 0, 1)) mq_194 ci_194 (List.mem_append_right _ (List.mem_append_left _ (show _ ∈ my_194_1 from List.mem_of_getElem? (i := 30) rfl)))
theorem cd_194_151 : mt_cd 194 151 = some (.iload_n 1) := mt_cd_of (q := (151, .iload_n 1, 1)) mq_194 ci_194 (List.mem_append_right _ (List.mem_append_left _ (show _ ∈ my_194_1 from List.mem_of_getElem? (i := 31) rfl)))
theorem cd_194_152 : mt_cd 194 152 = some (.putfield 258) := mt_cd_of (q := (152, .putfield 258, 3)) mq_194 ci_194 (List.mem_append_right _ (List.mem_append_left _ (show _ ∈ my_194_1 from List.mem_of_getElem? (i := 32) rfl)))
theorem cd_194_155 : mt_cd 194 155 = some (.iconst 0) := mt_cd_of (q := (155, .iconst 0, 1)) mq_194 ci_194 (List.mem_append_right _ (List.mem_append_left _ (show _ ∈ my_194_1 from List.mem_of_getElem? (i := 33) rfl)))
theorem cd_194_156 : mt_cd 194 156 = some (.istore_n 3) := mt_cd_of (q := (156, .istore_n 3, 1)) mq_194 ci_194 (List.mem_append_right _ (List.mem_append_left _ (show _ ∈ my_194_1 from List.mem_of_getElem? (i := 34) rfl)))
theorem cd_194_157 : mt_cd 194 157 = some (.iload_n 3) := mt_cd_of (q := (157, .iload_n 3, 1)) mq_194 ci_194 (List.mem_append_right _ (List.mem_append_left _ (show _ ∈ my_194_1 from List.mem_of_getElem? (i := 35) rfl)))
theorem cd_194_158 : mt_cd 194 158 = some (.iload_n 1) := mt_cd_of (q := (158, .iload_n 1, 1)) mq_194 ci_194 (List.mem_append_right _ (List.mem_append_left _ (show _ ∈ my_194_1 from List.mem_of_getElem? (i := 36) rfl)))
theorem cd_194_159 : mt_cd 194 159 = some (.if_icmp .ge 69) := mt_cd_of (q := (159, .if_icmp .ge 69, 3)) mq_194 ci_194 (List.mem_append_right _ (List.mem_append_left _ (show _ ∈ my_194_1 from List.mem_of_getElem? (i := 37) rfl)))
theorem cd_194_162 : mt_cd 194 162 = some (.aload_n 0) := mt_cd_of (q := (162, .aload_n 0, 1)) mq_194 ci_194 (List.mem_append_right _ (List.mem_append_left _ (show _ ∈ my_194_1 from List.mem_of_getElem? (i := 38) rfl)))
theorem cd_194_163 : mt_cd 194 163 = some (.getfield 178) := mt_cd_of (q := (163, .getfield 178, 3)) mq_194 ci_194 (List.mem_append_right _ (List.mem_append_left _ (show _ ∈ my_194_1 from List.mem_of_getElem? (i := 39) rfl)))
theorem cd_194_166 : mt_cd 194 166 = some (.iload_n 3) := mt_cd_of (q := (166, .iload_n 3, 1)) mq_194 ci_194 (List.mem_append_right _ (List.mem_append_left _ (show _ ∈ my_194_1 from List.mem_of_getElem? (i := 40) rfl)))
theorem cd_194_167 : mt_cd 194 167 = some (.aload_n 0) := mt_cd_of (q := (167, .aload_n 0, 1)) mq_194 ci_194 (List.mem_append_right _ (List.mem_append_left _ (show _ ∈ my_194_1 from List.mem_of_getElem? (i := 41) rfl)))
theorem cd_194_168 : mt_cd 194 168 = some (.getfield 233) := mt_cd_of (q := (168, .getfield 233, 3)) mq_194 ci_194 (List.mem_append_right _ (List.mem_append_left _ (show _ ∈ my_194_1 from List.mem_of_getElem? (i := 42) rfl)))
theorem cd_194_171 : mt_cd 194 171 = some (.iload_n 3) := mt_cd_of (q := (171, .iload_n 3, 1)) mq_194 ci_194 (List.mem_append_right _ (List.mem_append_left _ (show _ ∈ my_194_1 from List.mem_of_getElem? (i := 43) rfl)))
theorem cd_194_172 : mt_cd 194 172 = some (.iaload) := mt_cd_of (q := (172, .iaload, 1)) mq_194 ci_194 (List.mem_append_right _ (List.mem_append_left _ (show _ ∈ my_194_1 from List.mem_of_getElem? (i := 44) rfl)))
theorem cd_194_173 : mt_cd 194 173 = some (.iastore) := mt_cd_of (q := (173, .iastore, 1)) mq_194 ci_194 (List.mem_append_right _ (List.mem_append_left _ (show _ ∈ my_194_1 from List.mem_of_getElem? (i := 45) rfl)))
theorem cd_194_174 : mt_cd 194 174 = some (.aload_n 0) := mt_cd_of (q := (174, .aload_n 0, 1)) mq_194 ci_194 (List.mem_append_right _ (List.mem_append_left _ (show _ ∈ my_194_1 from List.mem_of_getElem? (i := 46) rfl)))
theorem cd_194_175 : mt_cd 194 175 = some (.getfield 181) := mt_cd_of (q := (175, .getfield 181, 3)) mq_194 ci_194 (List.mem_append_right _ (List.mem_append_left _ (show _ ∈ my_194_1 from List.mem_of_getElem? (i := 47) rfl)))
theorem cd_194_178 : mt_cd 194 178 = some (.iload_n 3) := mt_cd_of (q := (178, .iload_n 3, 1)) mq_194 ci_194 (List.mem_append_right _ (List.mem_append_left _ (show _ ∈ my_194_1 from List.mem_of_getElem? (i := 48) rfl)))
theorem cd_194_179 : mt_cd 194 179 = some (.aload_n 0) := mt_cd_of (q := (179, .aload_n 0, 1)) mq_194 ci_194 (List.mem_append_right _ (List.mem_append_left _ (show _ ∈ my_194_1 from List.mem_of_getElem? (i := 49) rfl)))
theorem cd_194_180 : mt_cd 194 180 = some (.getfield 236) := mt_cd_of (q := (180, .getfield 236, 3)) mq_194 ci_194 (List.mem_append_right _ (List.mem_append_left _ (show _ ∈ my_194_1 from List.mem_of_getElem? (i := 50) rfl)))
theorem cd_194_183 : mt_cd 194 183 = some (.iload_n 3) := mt_cd_of (q := (183, .iload_n 3, 1)) mq_194 ci_194 (List.mem_append_right _ (List.mem_append_left _ (show _ ∈ my_194_1 from List.mem_of_getElem? (i := 51) rfl)))
theorem cd_194_184 : mt_cd 194 184 = some (.iaload) := mt_cd_of (q := (184, .iaload, 1)) mq_194 ci_194 (List.mem_append_right _ (List.mem_append_left _ (show _ ∈ my_194_1 from List.mem_of_getElem? (i := 52) rfl)))
theorem cd_194_185 : mt_cd 194 185 = some (.iastore) := mt_cd_of (q := (185, .iastore, 1)) mq_194 ci_194 (List.mem_append_right _ (List.mem_append_left _ (show _ ∈ my_194_1 from List.mem_of_getElem? (i := 53) rfl)))
theorem cd_194_186 : mt_cd 194 186 = some (.aload_n 0) := mt_cd_of (q := (186, .aload_n 0, 1)) mq_194 ci_194 (List.mem_append_right _ (List.mem_append_left _ (show _ ∈ my_194_1 from List.mem_of_getElem? (i := 54) rfl)))
theorem cd_194_187 : mt_cd 194 187 = some (.getfield 184) := mt_cd_of (q := (187, .getfield 184, 3)) mq_194 ci_194 (List.mem_append_right _ (List.mem_append_left _ (show _ ∈ my_194_1 from List.mem_of_getElem? (i := 55) rfl)))
theorem cd_194_190 : mt_cd 194 190 = some (.iload_n 3) := mt_cd_of (q := (190, .iload_n 3, 1)) mq_194 ci_194 (List.mem_append_right _ (List.mem_append_left _ (show _ ∈ my_194_1 from List.mem_of_getElem? (i := 56) rfl)))
theorem cd_194_191 : mt_cd 194 191 = some (.aload_n 0) := mt_cd_of (q := (191, .aload_n 0, 1)) mq_194 ci_194 (List.mem_append_right _ (List.mem_append_left _ (show _ ∈ my_194_1 from List.mem_of_getElem? (i := 57) rfl)))
theorem cd_194_192 : mt_cd 194 192 = some (.getfield 239) := mt_cd_of (q := (192, .getfield 239, 3)) mq_194 ci_194 (List.mem_append_right _ (List.mem_append_left _ (show _ ∈ my_194_1 from List.mem_of_getElem? (i := 58) rfl)))
theorem cd_194_195 : mt_cd 194 195 = some (.iload_n 3) := mt_cd_of (q := (195, .iload_n 3, 1)) mq_194 ci_194 (List.mem_append_right _ (List.mem_append_left _ (show _ ∈ my_194_1 from List.mem_of_getElem? (i := 59) rfl)))
theorem cd_194_196 : mt_cd 194 196 = some (.iaload) := mt_cd_of (q := (196, .iaload, 1)) mq_194 ci_194 (List.mem_append_right _ (List.mem_append_right _ ((show _ ∈ my_194_2 from List.mem_of_getElem? (i := 0) rfl))))
theorem cd_194_197 : mt_cd 194 197 = some (.iastore) := mt_cd_of (q := (197, .iastore, 1)) mq_194 ci_194 (List.mem_append_right _ (List.mem_append_right _ ((show _ ∈ my_194_2 from List.mem_of_getElem? (i := 1) rfl))))
theorem cd_194_198 : mt_cd 194 198 = some (.aload_n 0) := mt_cd_of (q := (198, .aload_n 0, 1)) mq_194 ci_194 (List.mem_append_right _ (List.mem_append_right _ ((show _ ∈ my_194_2 from List.mem_of_getElem? (i := 2) rfl))))
theorem cd_194_199 : mt_cd 194 199 = some (.getfield 187) := mt_cd_of (q := (199, .getfield 187, 3)) mq_194 ci_194 (List.mem_append_right _ (List.mem_append_right _ ((show _ ∈ my_194_2 from List.mem_of_getElem? (i := 3) rfl))))
theorem cd_194_202 : mt_cd 194 202 = some (.iload_n 3) := mt_cd_of (q := (202, .iload_n 3, 1)) mq_194 ci_194 (List.mem_append_right _ (List.mem_append_right _ ((show _ ∈ my_194_2 from List.mem_of_getElem? (i := 4) rfl))))
theorem cd_194_203 : mt_cd 194 203 = some (.aload_n 0) := mt_cd_of (q := (203, .aload_n 0, 1)) mq_194 ci_194 (List.mem_append_right _ (List.mem_append_right _ ((show _ ∈ my_194_2 from List.mem_of_getElem? (i := 5) rfl))))
theorem cd_194_204 : mt_cd 194 204 = some (.getfield 242) := mt_cd_of (q := (204, .getfield 242, 3)) mq_194 ci_194 (List.mem_append_right _ (List.mem_append_right _ ((show _ ∈ my_194_2 from List.mem_of_getElem? (i := 6) rfl))))
theorem cd_194_207 : mt_cd 194 207 = some (.iload_n 3) := mt_cd_of (q := (207, .iload_n 3, 1)) mq_194 ci_194 (List.mem_append_right _ (List.mem_append_right _ ((show _ ∈ my_194_2 from List.mem_of_getElem? (i := 7) rfl))))
theorem cd_194_208 : mt_cd 194 208 = some (.iaload) := mt_cd_of (q := (208, .iaload, 1)) mq_194 ci_194 (List.mem_append_right _ (List.mem_append_right _ ((show _ ∈ my_194_2 from List.mem_of_getElem? (i := 8) rfl))))
theorem cd_194_209 : mt_cd 194 209 = some (.iastore) := mt_cd_of (q := (209, .iastore, 1)) mq_194 ci_194 (List.mem_append_right _ (List.mem_append_right _ ((show _ ∈ my_194_2 from List.mem_of_getElem? (i := 9) rfl))))
theorem cd_194_210 : mt_cd 194 210 = some (.aload_n 0) := mt_cd_of (q := (210, .aload_n 0, 1)) mq_194 ci_194 (List.mem_append_right _ (List.mem_append_right _ ((show _ ∈ my_194_2 from List.mem_of_getElem? (i := 10) rfl))))
theorem cd_194_211 : mt_cd 194 211 = some (.getfield 190) := mt_cd_of (q := (211, .getfield 190, 3)) mq_194 ci_194 (List.mem_append_right _ (List.mem_append_right _ ((show _ ∈ my_194_2 from List.mem_of_getElem? (i := 11) rfl))))
theorem cd_194_214 : mt_cd 194 214 = some (.iload_n 3) := mt_cd_of (q := (214, .iload_n 3, 1)) mq_194 ci_194 (List.mem_append_right _ (List.mem_append_right _ ((show _ ∈ my_194_2 from List.mem_of_getElem? (i := 12) rfl))))
theorem cd_194_215 : mt_cd 194 215 = some (.aload_n 0) := mt_cd_of (q := (215, .aload_n 0, 1)) mq_194 ci_194 (List.mem_append_right _ (List.mem_append_right _ ((show _ ∈ my_194_2 from List.mem_of_getElem? (i := 13) rfl))))
theorem cd_194_216 : mt_cd 194 216 = some (.getfield 245) := mt_cd_of (q := (216, .getfield 245, 3)) mq_194 ci_194 (List.mem_append_right _ (List.mem_append_right _ ((show _ ∈ my_194_2 from List.mem_of_getElem? (i := 14) rfl))))
theorem cd_194_219 : mt_cd 194 219 = some (.iload_n 3) := mt_cd_of (q := (219, .iload_n 3, 1)) mq_194 ci_194 (List.mem_append_right _ (List.mem_append_right _ ((show _ ∈ my_194_2 from List.mem_of_getElem? (i := 15) rfl))))
theorem cd_194_220 : mt_cd 194 220 = some (.laload) := mt_cd_of (q := (220, .laload, 1)) mq_194 ci_194 (List.mem_append_right _ (List.mem_append_right _ ((show _ ∈ my_194_2 from List.mem_of_getElem? (i := 16) rfl))))
theorem cd_194_221 : mt_cd 194 221 = some (.lastore) := mt_cd_of (q := (221, .lastore, 1)) mq_194 ci_194 (List.mem_append_right _ (List.mem_append_right _ ((show _ ∈ my_194_2 from List.mem_of_getElem? (i := 17) rfl))))
theorem cd_194_222 : mt_cd 194 222 = some (.iinc 3 1) := mt_cd_of (q := (222, .iinc 3 1, 3)) mq_194 ci_194 (List.mem_append_right _ (List.mem_append_right _ ((show _ ∈ my_194_2 from List.mem_of_getElem? (i := 18) rfl))))
theorem cd_194_225 : mt_cd 194 225 = some (.goto (-68)) := mt_cd_of (q := (225, .goto (-68), 3)) mq_194 ci_194 (List.mem_append_right _ (List.mem_append_right _ ((show _ ∈ my_194_2 from List.mem_of_getElem? (i := 19) rfl))))
theorem cd_194_228 : mt_cd 194 228 = some (.iload_n 2) := mt_cd_of (q := (228, .iload_n 2, 1)) mq_194 ci_194 (List.mem_append_right _ (List.mem_append_right _ ((show _ ∈ my_194_2 from List.mem_of_getElem? (i := 20) rfl))))
theorem cd_194_229 : mt_cd 194 229 = some (.ireturn) := mt_cd_of (q := (229, .ireturn, 1)) mq_194 ci_194 (List.mem_append_right _ (List.mem_append_right _ ((show _ ∈ my_194_2 from List.mem_of_getElem? (i := 21) rfl))))
theorem b_194_0 {d : Nat} {Q : (Option Value ⊕ Nat) → mi_H → Prop} (n sl : Nat) (f : Nat → mi_C) {l1 : Nat} {o2 : Option Value} {o3 : Option Value} {o4 : Option Value} {fs5 : List Value} {fs9 : List Value} {x12 : Int32} (h6 : f l1 = .inr (12, fs5)) (h7 : l1 < n) (h8 : 0 < fs5.length) (h10 : (va_up f l1 (.inr (12, fs5.set 0 (.int 0)))) l1 = .inr (12, fs9)) (h11 : l1 < n) (h13 : fs9[4]? = some (.int x12)) (h14 : (0 : Int32) ≤ x12 → mi_W d 194 17 [some (.ref l1), o2, o3, o4] [.ref l1] (n, sl, (va_up f l1 (.inr (12, fs5.set 0 (.int 0))))) Q) (h15 : ¬ ((0 : Int32) ≤ x12) → mi_W d 194 13 [some (.ref l1), o2, o3, o4] [.ref l1] (n, sl, (va_up f l1 (.inr (12, fs5.set 0 (.int 0))))) Q) : mi_W d 194 0 [some (.ref l1), o2, o3, o4] [] (n, sl, f) Q := by
  refine w_aload_n cd_194_0 rfl ?_
  refine w_iconst (v := 0) cd_194_1 (by decide) ?_
  refine w_putfield (w := .int 0) cd_194_2 (show mt_f 12 248 = some (12, 0) by decide +kernel) h6 h7 ⟨h8, rfl, Or.inl (by decide)⟩ ?_
  refine w_aload_n cd_194_5 rfl ?_
  refine w_aload_n cd_194_6 rfl ?_
  refine w_getfield cd_194_7 (show mt_f 12 13 = some (12, 4) by decide +kernel) h10 h11 h13 ?_
  exact w_ifge cd_194_10 (by decide) h14 h15
theorem b_194_13 {d : Nat} {Q : (Option Value ⊕ Nat) → mi_H → Prop} (n sl : Nat) (f : Nat → mi_C) {l1 : Nat} {o2 : Option Value} {o3 : Option Value} {o4 : Option Value} {s5 : Nat} (h6 : mi_W d 194 18 [some (.ref l1), o2, o3, o4] [.int 1, .ref s5] (n, sl, f) Q) : mi_W d 194 13 [some (.ref l1), o2, o3, o4] [.ref s5] (n, sl, f) Q := by
  refine w_iconst (v := 1) cd_194_13 (by decide) ?_
  exact w_goto cd_194_14 (by decide) h6
theorem b_194_17 {d : Nat} {Q : (Option Value ⊕ Nat) → mi_H → Prop} (n sl : Nat) (f : Nat → mi_C) {l1 : Nat} {o2 : Option Value} {o3 : Option Value} {o4 : Option Value} {s5 : Nat} (h6 : mi_W d 194 18 [some (.ref l1), o2, o3, o4] [.int 0, .ref s5] (n, sl, f) Q) : mi_W d 194 17 [some (.ref l1), o2, o3, o4] [.ref s5] (n, sl, f) Q := by
  refine w_iconst (v := 0) cd_194_17 (by decide) ?_
  exact h6
theorem b_194_18 {d : Nat} {Q : (Option Value ⊕ Nat) → mi_H → Prop} (n sl : Nat) (f : Nat → mi_C) {l1 : Nat} {o2 : Option Value} {o3 : Option Value} {o4 : Option Value} {s5 : Int32} {s6 : Nat} {fs7 : List Value} (h8 : f s6 = .inr (12, fs7)) (h9 : s6 < n) (h10 : mi_W d 140 0 (mi_en 3 [.ref s6, .int s5, .int 1]) [] (n, sl, f) (mi_Kc d 194 19 [some (.ref l1), o2, o3, o4] [] Q)) : mi_W (d + 1) 194 18 [some (.ref l1), o2, o3, o4] [.int s5, .ref s6] (n, sl, f) Q := by
  refine w_iconst (v := 1) cd_194_18 (by decide) ?_
  exact w_invokevirtual cd_194_19 (show mt_m 12 254 = some (140, 0) by decide +kernel) (rest := []) rfl (as := [.ref s6, .int s5, .int 1]) rfl h8 (Or.inl h9) ⟨Nat.le_of_ble_eq_true rfl, Nat.le_of_ble_eq_true rfl, Nat.le_of_ble_eq_true rfl⟩ h10
theorem b_194_22 {d : Nat} {Q : (Option Value ⊕ Nat) → mi_H → Prop} (n sl : Nat) (f : Nat → mi_C) {l1 : Nat} {o2 : Option Value} {o3 : Option Value} {o4 : Option Value} {s5 : Int32} (h6 : s5 = (0 : Int32) → mi_W d 194 27 [some (.ref l1), o2, o3, o4] [] (n, sl, f) Q) (h7 : ¬ (s5 = (0 : Int32)) → mi_W d 194 25 [some (.ref l1), o2, o3, o4] [] (n, sl, f) Q) : mi_W d 194 22 [some (.ref l1), o2, o3, o4] [.int s5] (n, sl, f) Q := by
  exact w_ifeq cd_194_22 (by decide) h6 h7
theorem b_194_25 {d : Nat} {Q : (Option Value ⊕ Nat) → mi_H → Prop} (n sl : Nat) (f : Nat → mi_C) {l1 : Nat} {o2 : Option Value} {o3 : Option Value} {o4 : Option Value} (h5 : Q (.inl (some (.int 0))) (n, sl, f)) : mi_W d 194 25 [some (.ref l1), o2, o3, o4] [] (n, sl, f) Q := by
  refine w_iconst (v := 0) cd_194_25 (by decide) ?_
  exact w_ireturn_i cd_194_26 (by decide +kernel) h5
theorem b_194_27 {d : Nat} {Q : (Option Value ⊕ Nat) → mi_H → Prop} (n sl : Nat) (f : Nat → mi_C) {l1 : Nat} {o2 : Option Value} {o3 : Option Value} {o4 : Option Value} {fs5 : List Value} {fs9 : List Value} {fs13 : List Value} {fs17 : List Value} {x20 : Nat} {fs22 : List Value} {x25 : Int32} {fs27 : List Value} (h6 : f l1 = .inr (12, fs5)) (h7 : l1 < n) (h8 : 73 < fs5.length) (h10 : (va_up f l1 (.inr (12, fs5.set 73 (.int 0)))) l1 = .inr (12, fs9)) (h11 : l1 < n) (h12 : 75 < fs9.length) (h14 : (va_up (va_up f l1 (.inr (12, fs5.set 73 (.int 0)))) l1 (.inr (12, fs9.set 75 (.int 0)))) l1 = .inr (12, fs13)) (h15 : l1 < n) (h16 : 74 < fs13.length) (h18 : (va_up (va_up (va_up f l1 (.inr (12, fs5.set 73 (.int 0)))) l1 (.inr (12, fs9.set 75 (.int 0)))) l1 (.inr (12, fs13.set 74 (.int 0)))) l1 = .inr (12, fs17)) (h19 : l1 < n) (h21 : fs17[41]? = some (.ref x20)) (h23 : (va_up (va_up (va_up f l1 (.inr (12, fs5.set 73 (.int 0)))) l1 (.inr (12, fs9.set 75 (.int 0)))) l1 (.inr (12, fs13.set 74 (.int 0)))) x20 = .inr (13, fs22)) (h24 : x20 < n) (h26 : fs22[0]? = some (.int x25)) (h28 : (va_up (va_up (va_up f l1 (.inr (12, fs5.set 73 (.int 0)))) l1 (.inr (12, fs9.set 75 (.int 0)))) l1 (.inr (12, fs13.set 74 (.int 0)))) l1 = .inr (12, fs27)) (h29 : l1 < n) (h30 : mi_W d 195 0 (mi_en 6 [.ref l1, .int x25]) [] (n, sl, (va_up (va_up (va_up f l1 (.inr (12, fs5.set 73 (.int 0)))) l1 (.inr (12, fs9.set 75 (.int 0)))) l1 (.inr (12, fs13.set 74 (.int 0))))) (mi_Kc d 194 50 [some (.ref l1), o2, o3, o4] [] Q)) : mi_W (d + 1) 194 27 [some (.ref l1), o2, o3, o4] [] (n, sl, f) Q := by
  refine w_aload_n cd_194_27 rfl ?_
  refine w_iconst (v := 0) cd_194_28 (by decide) ?_
  refine w_putfield (w := .int 0) cd_194_29 (show mt_f 12 562 = some (12, 73) by decide +kernel) h6 h7 ⟨h8, rfl, Or.inl (by decide)⟩ ?_
  refine w_aload_n cd_194_32 rfl ?_
  refine w_iconst (v := 0) cd_194_33 (by decide) ?_
  refine w_putfield (w := .int 0) cd_194_34 (show mt_f 12 565 = some (12, 75) by decide +kernel) h10 h11 ⟨h12, rfl, Or.inl (by decide)⟩ ?_
  refine w_aload_n cd_194_37 rfl ?_
  refine w_iconst (v := 0) cd_194_38 (by decide) ?_
  refine w_putfield (w := .int 0) cd_194_39 (show mt_f 12 568 = some (12, 74) by decide +kernel) h14 h15 ⟨h16, rfl, Or.inl (by decide)⟩ ?_
  refine w_aload_n cd_194_42 rfl ?_
  refine w_aload_n cd_194_43 rfl ?_
  refine w_getfield cd_194_44 (show mt_f 12 147 = some (12, 41) by decide +kernel) h18 h19 h21 ?_
  refine w_getfield cd_194_47 (show mt_f 12 496 = some (13, 0) by decide +kernel) h23 h24 h26 ?_
  exact w_invokevirtual cd_194_50 (show mt_m 12 557 = some (195, 0) by decide +kernel) (rest := []) rfl (as := [.ref l1, .int x25]) rfl h28 (Or.inl h29) ⟨Nat.le_of_ble_eq_true rfl, Nat.le_of_ble_eq_true rfl, Nat.le_of_ble_eq_true rfl⟩ h30
theorem b_194_53 {d : Nat} {Q : (Option Value ⊕ Nat) → mi_H → Prop} (n sl : Nat) (f : Nat → mi_C) {l1 : Nat} {o2 : Option Value} {o3 : Option Value} {o4 : Option Value} {s5 : Int32} (h6 : s5 = (0 : Int32) → mi_W d 194 58 [some (.ref l1), o2, o3, o4] [] (n, sl, f) Q) (h7 : ¬ (s5 = (0 : Int32)) → mi_W d 194 56 [some (.ref l1), o2, o3, o4] [] (n, sl, f) Q) : mi_W d 194 53 [some (.ref l1), o2, o3, o4] [.int s5] (n, sl, f) Q := by
  exact w_ifeq cd_194_53 (by decide) h6 h7
theorem b_194_56 {d : Nat} {Q : (Option Value ⊕ Nat) → mi_H → Prop} (n sl : Nat) (f : Nat → mi_C) {l1 : Nat} {o2 : Option Value} {o3 : Option Value} {o4 : Option Value} (h5 : Q (.inl (some (.int 3))) (n, sl, f)) : mi_W d 194 56 [some (.ref l1), o2, o3, o4] [] (n, sl, f) Q := by
  refine w_iconst (v := 3) cd_194_56 (by decide) ?_
  exact w_ireturn_i cd_194_57 (by decide +kernel) h5
theorem b_194_58 {d : Nat} {Q : (Option Value ⊕ Nat) → mi_H → Prop} (n sl : Nat) (f : Nat → mi_C) {l1 : Nat} {o2 : Option Value} {o3 : Option Value} {o4 : Option Value} {fs5 : List Value} {fs10 : List Value} {x13 : Int32} (h6 : f l1 = .inr (12, fs5)) (h7 : l1 < n) (h8 : 57 < fs5.length) (h9 : mi_fk .boolean (.int 0) = true) (h11 : (va_up f l1 (.inr (12, fs5.set 57 (.int 0)))) l1 = .inr (12, fs10)) (h12 : l1 < n) (h14 : fs10[59]? = some (.int x13)) (h15 : mi_W d 194 70 [some (.ref l1), some (.int x13), some (.int 0), o4] [] (n, sl, (va_up f l1 (.inr (12, fs5.set 57 (.int 0))))) Q) : mi_W d 194 58 [some (.ref l1), o2, o3, o4] [] (n, sl, f) Q := by
  refine w_aload_n cd_194_58 rfl ?_
  refine w_iconst (v := 0) cd_194_59 (by decide) ?_
  refine w_putfield (w := .int 0) cd_194_60 (show mt_f 12 513 = some (12, 57) by decide +kernel) h6 h7 ⟨h8, h9, Or.inl (by decide)⟩ ?_
  refine w_aload_n cd_194_63 rfl ?_
  refine w_getfield cd_194_64 (show mt_f 12 258 = some (12, 59) by decide +kernel) h11 h12 h14 ?_
  refine w_istore_n (ls' := [some (.ref l1), some (.int x13), o3, o4]) cd_194_67 (Nat.le_of_ble_eq_true rfl) rfl ?_
  refine w_iconst (v := 0) cd_194_68 (by decide) ?_
  refine w_istore_n (ls' := [some (.ref l1), some (.int x13), some (.int 0), o4]) cd_194_69 (Nat.le_of_ble_eq_true rfl) rfl ?_
  exact h15
theorem b_194_70 {d : Nat} {Q : (Option Value ⊕ Nat) → mi_H → Prop} (n sl : Nat) (f : Nat → mi_C) {l1 : Nat} {l2 : Int32} {l3 : Int32} {o4 : Option Value} (h5 : l2 ≤ l3 → mi_W d 194 141 [some (.ref l1), some (.int l2), some (.int l3), o4] [] (n, sl, f) Q) (h6 : ¬ (l2 ≤ l3) → mi_W d 194 75 [some (.ref l1), some (.int l2), some (.int l3), o4] [] (n, sl, f) Q) : mi_W d 194 70 [some (.ref l1), some (.int l2), some (.int l3), o4] [] (n, sl, f) Q := by
  refine w_iload_n cd_194_70 rfl ?_
  refine w_iload_n cd_194_71 rfl ?_
  exact w_if_icmpge cd_194_72 (by decide) h5 h6
theorem b_194_75 {d : Nat} {Q : (Option Value ⊕ Nat) → mi_H → Prop} (n sl : Nat) (f : Nat → mi_C) {l1 : Nat} {l2 : Int32} {l3 : Int32} {o4 : Option Value} {fs5 : List Value} {x8 : Nat} {fs10 : List Value} {x13 : Nat} (m15 i15 : Nat) (g15 : Nat → Int32) (m19 i19 : Nat) (g19 : Nat → Int32) {fs23 : List Value} {x26 : Nat} {fs28 : List Value} {x31 : Nat} (m33 i33 : Nat) (g33 : Nat → Int32) (m37 i37 : Nat) (g37 : Nat → Int32) {fs41 : List Value} {x44 : Nat} {fs46 : List Value} {x49 : Nat} (m51 i51 : Nat) (g51 : Nat → Int32) (m55 i55 : Nat) (g55 : Nat → Int32) {fs59 : List Value} {x62 : Nat} {fs64 : List Value} {x67 : Nat} (m69 i69 : Nat) (g69 : Nat → Int32) (m73 i73 : Nat) (g73 : Nat → Int32) {fs77 : List Value} {x80 : Nat} {fs82 : List Value} {x85 : Nat} (m87 i87 : Nat) (g87 : Nat → Int64) (m91 i91 : Nat) (g91 : Nat → Int64) (h6 : f l1 = .inr (12, fs5)) (h7 : l1 < n) (h9 : fs5[83]? = some (.ref x8)) (h11 : f l1 = .inr (12, fs10)) (h12 : l1 < n) (h14 : fs10[60]? = some (.ref x13)) (h16 : f x13 = .inl (0, m15, .inl g15)) (h17 : x13 < n ∨ x13 = mi_SC) (h18 : mi_ix l3 m15 i15) (h20 : f x8 = .inl (0, m19, .inl g19)) (h21 : x8 < n) (h22 : mi_ix l3 m19 i19) (h24 : (va_up f x8 (.inl (0, m19, .inl (upd g19 i19 (g15 i15))))) l1 = .inr (12, fs23)) (h25 : l1 < n) (h27 : fs23[84]? = some (.ref x26)) (h29 : (va_up f x8 (.inl (0, m19, .inl (upd g19 i19 (g15 i15))))) l1 = .inr (12, fs28)) (h30 : l1 < n) (h32 : fs28[61]? = some (.ref x31)) (h34 : (va_up f x8 (.inl (0, m19, .inl (upd g19 i19 (g15 i15))))) x31 = .inl (0, m33, .inl g33)) (h35 : x31 < n ∨ x31 = mi_SC) (h36 : mi_ix l3 m33 i33) (h38 : (va_up f x8 (.inl (0, m19, .inl (upd g19 i19 (g15 i15))))) x26 = .inl (0, m37, .inl g37)) (h39 : x26 < n) (h40 : mi_ix l3 m37 i37) (h42 : (va_up (va_up f x8 (.inl (0, m19, .inl (upd g19 i19 (g15 i15))))) x26 (.inl (0, m37, .inl (upd g37 i37 (g33 i33))))) l1 = .inr (12, fs41)) (h43 : l1 < n) (h45 : fs41[85]? = some (.ref x44)) (h47 : (va_up (va_up f x8 (.inl (0, m19, .inl (upd g19 i19 (g15 i15))))) x26 (.inl (0, m37, .inl (upd g37 i37 (g33 i33))))) l1 = .inr (12, fs46)) (h48 : l1 < n) (h50 : fs46[62]? = some (.ref x49)) (h52 : (va_up (va_up f x8 (.inl (0, m19, .inl (upd g19 i19 (g15 i15))))) x26 (.inl (0, m37, .inl (upd g37 i37 (g33 i33))))) x49 = .inl (0, m51, .inl g51)) (h53 : x49 < n ∨ x49 = mi_SC) (h54 : mi_ix l3 m51 i51) (h56 : (va_up (va_up f x8 (.inl (0, m19, .inl (upd g19 i19 (g15 i15))))) x26 (.inl (0, m37, .inl (upd g37 i37 (g33 i33))))) x44 = .inl (0, m55, .inl g55)) (h57 : x44 < n) (h58 : mi_ix l3 m55 i55) (h60 : (va_up (va_up (va_up f x8 (.inl (0, m19, .inl (upd g19 i19 (g15 i15))))) x26 (.inl (0, m37, .inl (upd g37 i37 (g33 i33))))) x44 (.inl (0, m55, .inl (upd g55 i55 (g51 i51))))) l1 = .inr (12, fs59)) (h61 : l1 < n) (h63 : fs59[86]? = some (.ref x62)) (h65 : (va_up (va_up (va_up f x8 (.inl (0, m19, .inl (upd g19 i19 (g15 i15))))) x26 (.inl (0, m37, .inl (upd g37 i37 (g33 i33))))) x44 (.inl (0, m55, .inl (upd g55 i55 (g51 i51))))) l1 = .inr (12, fs64)) (h66 : l1 < n) (h68 : fs64[63]? = some (.ref x67)) (h70 : (va_up (va_up (va_up f x8 (.inl (0, m19, .inl (upd g19 i19 (g15 i15))))) x26 (.inl (0, m37, .inl (upd g37 i37 (g33 i33))))) x44 (.inl (0, m55, .inl (upd g55 i55 (g51 i51))))) x67 = .inl (0, m69, .inl g69)) (h71 : x67 < n ∨ x67 = mi_SC) (h72 : mi_ix l3 m69 i69) (h74 : (va_up (va_up (va_up f x8 (.inl (0, m19, .inl (upd g19 i19 (g15 i15))))) x26 (.inl (0, m37, .inl (upd g37 i37 (g33 i33))))) x44 (.inl (0, m55, .inl (upd g55 i55 (g51 i51))))) x62 = .inl (0, m73, .inl g73)) (h75 : x62 < n) (h76 : mi_ix l3 m73 i73) (h78 : (va_up (va_up (va_up (va_up f x8 (.inl (0, m19, .inl (upd g19 i19 (g15 i15))))) x26 (.inl (0, m37, .inl (upd g37 i37 (g33 i33))))) x44 (.inl (0, m55, .inl (upd g55 i55 (g51 i51))))) x62 (.inl (0, m73, .inl (upd g73 i73 (g69 i69))))) l1 = .inr (12, fs77)) (h79 : l1 < n) (h81 : fs77[87]? = some (.ref x80)) (h83 : (va_up (va_up (va_up (va_up f x8 (.inl (0, m19, .inl (upd g19 i19 (g15 i15))))) x26 (.inl (0, m37, .inl (upd g37 i37 (g33 i33))))) x44 (.inl (0, m55, .inl (upd g55 i55 (g51 i51))))) x62 (.inl (0, m73, .inl (upd g73 i73 (g69 i69))))) l1 = .inr (12, fs82)) (h84 : l1 < n) (h86 : fs82[64]? = some (.ref x85)) (h88 : (va_up (va_up (va_up (va_up f x8 (.inl (0, m19, .inl (upd g19 i19 (g15 i15))))) x26 (.inl (0, m37, .inl (upd g37 i37 (g33 i33))))) x44 (.inl (0, m55, .inl (upd g55 i55 (g51 i51))))) x62 (.inl (0, m73, .inl (upd g73 i73 (g69 i69))))) x85 = .inl (3, m87, .inr (.inl g87))) (h89 : x85 < n) (h90 : mi_ix l3 m87 i87) (h92 : (va_up (va_up (va_up (va_up f x8 (.inl (0, m19, .inl (upd g19 i19 (g15 i15))))) x26 (.inl (0, m37, .inl (upd g37 i37 (g33 i33))))) x44 (.inl (0, m55, .inl (upd g55 i55 (g51 i51))))) x62 (.inl (0, m73, .inl (upd g73 i73 (g69 i69))))) x80 = .inl (3, m91, .inr (.inl g91))) (h93 : x80 < n) (h94 : mi_ix l3 m91 i91) (h95 : mi_W d 194 70 [some (.ref l1), some (.int l2), some (.int (l3 + 1)), o4] [] (n, sl, (va_up (va_up (va_up (va_up (va_up f x8 (.inl (0, m19, .inl (upd g19 i19 (g15 i15))))) x26 (.inl (0, m37, .inl (upd g37 i37 (g33 i33))))) x44 (.inl (0, m55, .inl (upd g55 i55 (g51 i51))))) x62 (.inl (0, m73, .inl (upd g73 i73 (g69 i69))))) x80 (.inl (3, m91, .inr (.inl (vp_updL g91 i91 (g87 i87))))))) Q) : mi_W d 194 75 [some (.ref l1), some (.int l2), some (.int l3), o4] [] (n, sl, f) Q := by
  refine w_aload_n cd_194_75 rfl ?_
  refine w_getfield cd_194_76 (show mt_f 12 233 = some (12, 83) by decide +kernel) h6 h7 h9 ?_
  refine w_iload_n cd_194_79 rfl ?_
  refine w_aload_n cd_194_80 rfl ?_
  refine w_getfield cd_194_81 (show mt_f 12 178 = some (12, 60) by decide +kernel) h11 h12 h14 ?_
  refine w_iload_n cd_194_84 rfl ?_
  refine w_iaload cd_194_85 h16 h17 h18 ?_
  refine w_iastore cd_194_86 h20 h21 h22 ?_
  refine w_aload_n cd_194_87 rfl ?_
  refine w_getfield cd_194_88 (show mt_f 12 236 = some (12, 84) by decide +kernel) h24 h25 h27 ?_
  refine w_iload_n cd_194_91 rfl ?_
  refine w_aload_n cd_194_92 rfl ?_
  refine w_getfield cd_194_93 (show mt_f 12 181 = some (12, 61) by decide +kernel) h29 h30 h32 ?_
  refine w_iload_n cd_194_96 rfl ?_
  refine w_iaload cd_194_97 h34 h35 h36 ?_
  refine w_iastore cd_194_98 h38 h39 h40 ?_
  refine w_aload_n cd_194_99 rfl ?_
  refine w_getfield cd_194_100 (show mt_f 12 239 = some (12, 85) by decide +kernel) h42 h43 h45 ?_
  refine w_iload_n cd_194_103 rfl ?_
  refine w_aload_n cd_194_104 rfl ?_
  refine w_getfield cd_194_105 (show mt_f 12 184 = some (12, 62) by decide +kernel) h47 h48 h50 ?_
  refine w_iload_n cd_194_108 rfl ?_
  refine w_iaload cd_194_109 h52 h53 h54 ?_
  refine w_iastore cd_194_110 h56 h57 h58 ?_
  refine w_aload_n cd_194_111 rfl ?_
  refine w_getfield cd_194_112 (show mt_f 12 242 = some (12, 86) by decide +kernel) h60 h61 h63 ?_
  refine w_iload_n cd_194_115 rfl ?_
  refine w_aload_n cd_194_116 rfl ?_
  refine w_getfield cd_194_117 (show mt_f 12 187 = some (12, 63) by decide +kernel) h65 h66 h68 ?_
  refine w_iload_n cd_194_120 rfl ?_
  refine w_iaload cd_194_121 h70 h71 h72 ?_
  refine w_iastore cd_194_122 h74 h75 h76 ?_
  refine w_aload_n cd_194_123 rfl ?_
  refine w_getfield cd_194_124 (show mt_f 12 245 = some (12, 87) by decide +kernel) h78 h79 h81 ?_
  refine w_iload_n cd_194_127 rfl ?_
  refine w_aload_n cd_194_128 rfl ?_
  refine w_getfield cd_194_129 (show mt_f 12 190 = some (12, 64) by decide +kernel) h83 h84 h86 ?_
  refine w_iload_n cd_194_132 rfl ?_
  refine w_laload cd_194_133 h88 h89 h90 ?_
  refine w_lastore cd_194_134 h92 h93 h94 ?_
  refine w_iinc (v := 1) (ls' := [some (.ref l1), some (.int l2), some (.int (l3 + 1)), o4]) cd_194_135 rfl (by decide) rfl ?_
  exact w_goto cd_194_138 (by decide) h95
theorem b_194_141 {d : Nat} {Q : (Option Value ⊕ Nat) → mi_H → Prop} (n sl : Nat) (f : Nat → mi_C) {l1 : Nat} {l2 : Int32} {l3 : Int32} {o4 : Option Value} {fs5 : List Value} {x8 : Nat} {fs10 : List Value} (h6 : f l1 = .inr (12, fs5)) (h7 : l1 < n) (h9 : fs5[41]? = some (.ref x8)) (h11 : f l1 = .inr (12, fs10)) (h12 : l1 < n) (h13 : mi_W d 197 0 (mi_en 6 [.ref l1, .ref x8]) [] (n, sl, f) (mi_Kc d 194 146 [some (.ref l1), some (.int l2), some (.int l3), o4] [] Q)) : mi_W (d + 1) 194 141 [some (.ref l1), some (.int l2), some (.int l3), o4] [] (n, sl, f) Q := by
  refine w_aload_n cd_194_141 rfl ?_
  refine w_aload_n cd_194_142 rfl ?_
  refine w_getfield cd_194_143 (show mt_f 12 147 = some (12, 41) by decide +kernel) h6 h7 h9 ?_
  exact w_invokevirtual cd_194_146 (show mt_m 12 571 = some (197, 0) by decide +kernel) (rest := []) rfl (as := [.ref l1, .ref x8]) rfl h11 (Or.inl h12) ⟨Nat.le_of_ble_eq_true rfl, Nat.le_of_ble_eq_true rfl, Nat.le_of_ble_eq_true rfl⟩ h13
theorem b_194_149 {d : Nat} {Q : (Option Value ⊕ Nat) → mi_H → Prop} (n sl : Nat) (f : Nat → mi_C) {l1 : Nat} {l2 : Int32} {l3 : Int32} {o4 : Option Value} {s5 : Int32} {fs6 : List Value} (h7 : f l1 = .inr (12, fs6)) (h8 : l1 < n) (h9 : 59 < fs6.length) (h10 : mi_W d 194 157 [some (.ref l1), some (.int l2), some (.int s5), some (.int 0)] [] (n, sl, (va_up f l1 (.inr (12, fs6.set 59 (.int l2))))) Q) : mi_W d 194 149 [some (.ref l1), some (.int l2), some (.int l3), o4] [.int s5] (n, sl, f) Q := by
  refine w_istore_n (ls' := [some (.ref l1), some (.int l2), some (.int s5), o4]) cd_194_149 (Nat.le_of_ble_eq_true rfl) rfl ?_
  refine w_aload_n cd_194_150 rfl ?_
  refine w_iload_n cd_194_151 rfl ?_
  refine w_putfield (w := .int l2) cd_194_152 (show mt_f 12 258 = some (12, 59) by decide +kernel) h7 h8 ⟨h9, rfl, Or.inl (by decide)⟩ ?_
  refine w_iconst (v := 0) cd_194_155 (by decide) ?_
  refine w_istore_n (ls' := [some (.ref l1), some (.int l2), some (.int s5), some (.int 0)]) cd_194_156 (Nat.le_of_ble_eq_true rfl) rfl ?_
  exact h10
theorem b_194_157 {d : Nat} {Q : (Option Value ⊕ Nat) → mi_H → Prop} (n sl : Nat) (f : Nat → mi_C) {l1 : Nat} {l2 : Int32} {l3 : Int32} {l4 : Int32} (h5 : l2 ≤ l4 → mi_W d 194 228 [some (.ref l1), some (.int l2), some (.int l3), some (.int l4)] [] (n, sl, f) Q) (h6 : ¬ (l2 ≤ l4) → mi_W d 194 162 [some (.ref l1), some (.int l2), some (.int l3), some (.int l4)] [] (n, sl, f) Q) : mi_W d 194 157 [some (.ref l1), some (.int l2), some (.int l3), some (.int l4)] [] (n, sl, f) Q := by
  refine w_iload_n cd_194_157 rfl ?_
  refine w_iload_n cd_194_158 rfl ?_
  exact w_if_icmpge cd_194_159 (by decide) h5 h6
theorem b_194_162 {d : Nat} {Q : (Option Value ⊕ Nat) → mi_H → Prop} (n sl : Nat) (f : Nat → mi_C) {l1 : Nat} {l2 : Int32} {l3 : Int32} {l4 : Int32} {fs5 : List Value} {x8 : Nat} {fs10 : List Value} {x13 : Nat} (m15 i15 : Nat) (g15 : Nat → Int32) (m19 i19 : Nat) (g19 : Nat → Int32) {fs23 : List Value} {x26 : Nat} {fs28 : List Value} {x31 : Nat} (m33 i33 : Nat) (g33 : Nat → Int32) (m37 i37 : Nat) (g37 : Nat → Int32) {fs41 : List Value} {x44 : Nat} {fs46 : List Value} {x49 : Nat} (m51 i51 : Nat) (g51 : Nat → Int32) (m55 i55 : Nat) (g55 : Nat → Int32) {fs59 : List Value} {x62 : Nat} {fs64 : List Value} {x67 : Nat} (m69 i69 : Nat) (g69 : Nat → Int32) (m73 i73 : Nat) (g73 : Nat → Int32) {fs77 : List Value} {x80 : Nat} {fs82 : List Value} {x85 : Nat} (m87 i87 : Nat) (g87 : Nat → Int64) (m91 i91 : Nat) (g91 : Nat → Int64) (h6 : f l1 = .inr (12, fs5)) (h7 : l1 < n) (h9 : fs5[60]? = some (.ref x8)) (h11 : f l1 = .inr (12, fs10)) (h12 : l1 < n) (h14 : fs10[83]? = some (.ref x13)) (h16 : f x13 = .inl (0, m15, .inl g15)) (h17 : x13 < n ∨ x13 = mi_SC) (h18 : mi_ix l4 m15 i15) (h20 : f x8 = .inl (0, m19, .inl g19)) (h21 : x8 < n) (h22 : mi_ix l4 m19 i19) (h24 : (va_up f x8 (.inl (0, m19, .inl (upd g19 i19 (g15 i15))))) l1 = .inr (12, fs23)) (h25 : l1 < n) (h27 : fs23[61]? = some (.ref x26)) (h29 : (va_up f x8 (.inl (0, m19, .inl (upd g19 i19 (g15 i15))))) l1 = .inr (12, fs28)) (h30 : l1 < n) (h32 : fs28[84]? = some (.ref x31)) (h34 : (va_up f x8 (.inl (0, m19, .inl (upd g19 i19 (g15 i15))))) x31 = .inl (0, m33, .inl g33)) (h35 : x31 < n ∨ x31 = mi_SC) (h36 : mi_ix l4 m33 i33) (h38 : (va_up f x8 (.inl (0, m19, .inl (upd g19 i19 (g15 i15))))) x26 = .inl (0, m37, .inl g37)) (h39 : x26 < n) (h40 : mi_ix l4 m37 i37) (h42 : (va_up (va_up f x8 (.inl (0, m19, .inl (upd g19 i19 (g15 i15))))) x26 (.inl (0, m37, .inl (upd g37 i37 (g33 i33))))) l1 = .inr (12, fs41)) (h43 : l1 < n) (h45 : fs41[62]? = some (.ref x44)) (h47 : (va_up (va_up f x8 (.inl (0, m19, .inl (upd g19 i19 (g15 i15))))) x26 (.inl (0, m37, .inl (upd g37 i37 (g33 i33))))) l1 = .inr (12, fs46)) (h48 : l1 < n) (h50 : fs46[85]? = some (.ref x49)) (h52 : (va_up (va_up f x8 (.inl (0, m19, .inl (upd g19 i19 (g15 i15))))) x26 (.inl (0, m37, .inl (upd g37 i37 (g33 i33))))) x49 = .inl (0, m51, .inl g51)) (h53 : x49 < n ∨ x49 = mi_SC) (h54 : mi_ix l4 m51 i51) (h56 : (va_up (va_up f x8 (.inl (0, m19, .inl (upd g19 i19 (g15 i15))))) x26 (.inl (0, m37, .inl (upd g37 i37 (g33 i33))))) x44 = .inl (0, m55, .inl g55)) (h57 : x44 < n) (h58 : mi_ix l4 m55 i55) (h60 : (va_up (va_up (va_up f x8 (.inl (0, m19, .inl (upd g19 i19 (g15 i15))))) x26 (.inl (0, m37, .inl (upd g37 i37 (g33 i33))))) x44 (.inl (0, m55, .inl (upd g55 i55 (g51 i51))))) l1 = .inr (12, fs59)) (h61 : l1 < n) (h63 : fs59[63]? = some (.ref x62)) (h65 : (va_up (va_up (va_up f x8 (.inl (0, m19, .inl (upd g19 i19 (g15 i15))))) x26 (.inl (0, m37, .inl (upd g37 i37 (g33 i33))))) x44 (.inl (0, m55, .inl (upd g55 i55 (g51 i51))))) l1 = .inr (12, fs64)) (h66 : l1 < n) (h68 : fs64[86]? = some (.ref x67)) (h70 : (va_up (va_up (va_up f x8 (.inl (0, m19, .inl (upd g19 i19 (g15 i15))))) x26 (.inl (0, m37, .inl (upd g37 i37 (g33 i33))))) x44 (.inl (0, m55, .inl (upd g55 i55 (g51 i51))))) x67 = .inl (0, m69, .inl g69)) (h71 : x67 < n ∨ x67 = mi_SC) (h72 : mi_ix l4 m69 i69) (h74 : (va_up (va_up (va_up f x8 (.inl (0, m19, .inl (upd g19 i19 (g15 i15))))) x26 (.inl (0, m37, .inl (upd g37 i37 (g33 i33))))) x44 (.inl (0, m55, .inl (upd g55 i55 (g51 i51))))) x62 = .inl (0, m73, .inl g73)) (h75 : x62 < n) (h76 : mi_ix l4 m73 i73) (h78 : (va_up (va_up (va_up (va_up f x8 (.inl (0, m19, .inl (upd g19 i19 (g15 i15))))) x26 (.inl (0, m37, .inl (upd g37 i37 (g33 i33))))) x44 (.inl (0, m55, .inl (upd g55 i55 (g51 i51))))) x62 (.inl (0, m73, .inl (upd g73 i73 (g69 i69))))) l1 = .inr (12, fs77)) (h79 : l1 < n) (h81 : fs77[64]? = some (.ref x80)) (h83 : (va_up (va_up (va_up (va_up f x8 (.inl (0, m19, .inl (upd g19 i19 (g15 i15))))) x26 (.inl (0, m37, .inl (upd g37 i37 (g33 i33))))) x44 (.inl (0, m55, .inl (upd g55 i55 (g51 i51))))) x62 (.inl (0, m73, .inl (upd g73 i73 (g69 i69))))) l1 = .inr (12, fs82)) (h84 : l1 < n) (h86 : fs82[87]? = some (.ref x85)) (h88 : (va_up (va_up (va_up (va_up f x8 (.inl (0, m19, .inl (upd g19 i19 (g15 i15))))) x26 (.inl (0, m37, .inl (upd g37 i37 (g33 i33))))) x44 (.inl (0, m55, .inl (upd g55 i55 (g51 i51))))) x62 (.inl (0, m73, .inl (upd g73 i73 (g69 i69))))) x85 = .inl (3, m87, .inr (.inl g87))) (h89 : x85 < n) (h90 : mi_ix l4 m87 i87) (h92 : (va_up (va_up (va_up (va_up f x8 (.inl (0, m19, .inl (upd g19 i19 (g15 i15))))) x26 (.inl (0, m37, .inl (upd g37 i37 (g33 i33))))) x44 (.inl (0, m55, .inl (upd g55 i55 (g51 i51))))) x62 (.inl (0, m73, .inl (upd g73 i73 (g69 i69))))) x80 = .inl (3, m91, .inr (.inl g91))) (h93 : x80 < n) (h94 : mi_ix l4 m91 i91) (h95 : mi_W d 194 157 [some (.ref l1), some (.int l2), some (.int l3), some (.int (l4 + 1))] [] (n, sl, (va_up (va_up (va_up (va_up (va_up f x8 (.inl (0, m19, .inl (upd g19 i19 (g15 i15))))) x26 (.inl (0, m37, .inl (upd g37 i37 (g33 i33))))) x44 (.inl (0, m55, .inl (upd g55 i55 (g51 i51))))) x62 (.inl (0, m73, .inl (upd g73 i73 (g69 i69))))) x80 (.inl (3, m91, .inr (.inl (vp_updL g91 i91 (g87 i87))))))) Q) : mi_W d 194 162 [some (.ref l1), some (.int l2), some (.int l3), some (.int l4)] [] (n, sl, f) Q := by
  refine w_aload_n cd_194_162 rfl ?_
  refine w_getfield cd_194_163 (show mt_f 12 178 = some (12, 60) by decide +kernel) h6 h7 h9 ?_
  refine w_iload_n cd_194_166 rfl ?_
  refine w_aload_n cd_194_167 rfl ?_
  refine w_getfield cd_194_168 (show mt_f 12 233 = some (12, 83) by decide +kernel) h11 h12 h14 ?_
  refine w_iload_n cd_194_171 rfl ?_
  refine w_iaload cd_194_172 h16 h17 h18 ?_
  refine w_iastore cd_194_173 h20 h21 h22 ?_
  refine w_aload_n cd_194_174 rfl ?_
  refine w_getfield cd_194_175 (show mt_f 12 181 = some (12, 61) by decide +kernel) h24 h25 h27 ?_
  refine w_iload_n cd_194_178 rfl ?_
  refine w_aload_n cd_194_179 rfl ?_
  refine w_getfield cd_194_180 (show mt_f 12 236 = some (12, 84) by decide +kernel) h29 h30 h32 ?_
  refine w_iload_n cd_194_183 rfl ?_
  refine w_iaload cd_194_184 h34 h35 h36 ?_
  refine w_iastore cd_194_185 h38 h39 h40 ?_
  refine w_aload_n cd_194_186 rfl ?_
  refine w_getfield cd_194_187 (show mt_f 12 184 = some (12, 62) by decide +kernel) h42 h43 h45 ?_
  refine w_iload_n cd_194_190 rfl ?_
  refine w_aload_n cd_194_191 rfl ?_
  refine w_getfield cd_194_192 (show mt_f 12 239 = some (12, 85) by decide +kernel) h47 h48 h50 ?_
  refine w_iload_n cd_194_195 rfl ?_
  refine w_iaload cd_194_196 h52 h53 h54 ?_
  refine w_iastore cd_194_197 h56 h57 h58 ?_
  refine w_aload_n cd_194_198 rfl ?_
  refine w_getfield cd_194_199 (show mt_f 12 187 = some (12, 63) by decide +kernel) h60 h61 h63 ?_
  refine w_iload_n cd_194_202 rfl ?_
  refine w_aload_n cd_194_203 rfl ?_
  refine w_getfield cd_194_204 (show mt_f 12 242 = some (12, 86) by decide +kernel) h65 h66 h68 ?_
  refine w_iload_n cd_194_207 rfl ?_
  refine w_iaload cd_194_208 h70 h71 h72 ?_
  refine w_iastore cd_194_209 h74 h75 h76 ?_
  refine w_aload_n cd_194_210 rfl ?_
  refine w_getfield cd_194_211 (show mt_f 12 190 = some (12, 64) by decide +kernel) h78 h79 h81 ?_
  refine w_iload_n cd_194_214 rfl ?_
  refine w_aload_n cd_194_215 rfl ?_
  refine w_getfield cd_194_216 (show mt_f 12 245 = some (12, 87) by decide +kernel) h83 h84 h86 ?_
  refine w_iload_n cd_194_219 rfl ?_
  refine w_laload cd_194_220 h88 h89 h90 ?_
  refine w_lastore cd_194_221 h92 h93 h94 ?_
  refine w_iinc (v := 1) (ls' := [some (.ref l1), some (.int l2), some (.int l3), some (.int (l4 + 1))]) cd_194_222 rfl (by decide) rfl ?_
  exact w_goto cd_194_225 (by decide) h95
theorem b_194_228 {d : Nat} {Q : (Option Value ⊕ Nat) → mi_H → Prop} (n sl : Nat) (f : Nat → mi_C) {l1 : Nat} {l2 : Int32} {l3 : Int32} {l4 : Int32} (h5 : Q (.inl (some (.int l3))) (n, sl, f)) : mi_W d 194 228 [some (.ref l1), some (.int l2), some (.int l3), some (.int l4)] [] (n, sl, f) Q := by
  refine w_iload_n cd_194_228 rfl ?_
  exact w_ireturn_i cd_194_229 (by decide +kernel) h5
/-! MarloweHostModel.feed(IIIII)I -/
set_option maxRecDepth 100000 in
theorem mq_139 : mt_q 139 = my_139 := rfl
set_option maxRecDepth 100000 in
theorem ci_139 : mt_inc 0 my_139.cd = true := by decide +kernel
theorem cd_139_0 : mt_cd 139 0 = some (.aload_n 0) := mt_cd_of (q := (0, .aload_n 0, 1)) mq_139 ci_139 (List.mem_of_getElem? (i := 0) rfl)
theorem cd_139_1 : mt_cd 139 1 = some (.iconst 0) := mt_cd_of (q := (1, .iconst 0, 1)) mq_139 ci_139 (List.mem_of_getElem? (i := 1) rfl)
theorem cd_139_2 : mt_cd 139 2 = some (.putfield 248) := mt_cd_of (q := (2, .putfield 248, 3)) mq_139 ci_139 (List.mem_of_getElem? (i := 2) rfl)
theorem cd_139_5 : mt_cd 139 5 = some (.aload_n 0) := mt_cd_of (q := (5, .aload_n 0, 1)) mq_139 ci_139 (List.mem_of_getElem? (i := 3) rfl)
theorem cd_139_6 : mt_cd 139 6 = some (.aload_n 0) := mt_cd_of (q := (6, .aload_n 0, 1)) mq_139 ci_139 (List.mem_of_getElem? (i := 4) rfl)
theorem cd_139_7 : mt_cd 139 7 = some (.getfield 251) := mt_cd_of (q := (7, .getfield 251, 3)) mq_139 ci_139 (List.mem_of_getElem? (i := 5) rfl)
theorem cd_139_10 : mt_cd 139 10 = some (.bipush 20) := mt_cd_of (q := (10, .bipush 20, 2)) mq_139 ci_139 (List.mem_of_getElem? (i := 6) rfl)
theorem cd_139_12 : mt_cd 139 12 = some (.iadd) := mt_cd_of (q := (12, .iadd, 1)) mq_139 ci_139 (List.mem_of_getElem? (i := 7) rfl)
theorem cd_139_13 : mt_cd 139 13 = some (.sipush 8200) := mt_cd_of (q := (13, .sipush 8200, 3)) mq_139 ci_139 (List.mem_of_getElem? (i := 8) rfl)
theorem cd_139_16 : mt_cd 139 16 = some (.if_icmp .le 7) := mt_cd_of (q := (16, .if_icmp .le 7, 3)) mq_139 ci_139 (List.mem_of_getElem? (i := 9) rfl)
theorem cd_139_19 : mt_cd 139 19 = some (.iconst 1) := mt_cd_of (q := (19, .iconst 1, 1)) mq_139 ci_139 (List.mem_of_getElem? (i := 10) rfl)
theorem cd_139_20 : mt_cd 139 20 = some (.goto 4) := mt_cd_of (q := (20, .goto 4, 3)) mq_139 ci_139 (List.mem_of_getElem? (i := 11) rfl)
theorem cd_139_23 : mt_cd 139 23 = some (.iconst 0) := mt_cd_of (q := (23, .iconst 0, 1)) mq_139 ci_139 (List.mem_of_getElem? (i := 12) rfl)
theorem cd_139_24 : mt_cd 139 24 = some (.iconst 1) := mt_cd_of (q := (24, .iconst 1, 1)) mq_139 ci_139 (List.mem_of_getElem? (i := 13) rfl)
theorem cd_139_25 : mt_cd 139 25 = some (.invokevirtual 254) := mt_cd_of (q := (25, .invokevirtual 254, 3)) mq_139 ci_139 (List.mem_of_getElem? (i := 14) rfl)
theorem cd_139_28 : mt_cd 139 28 = some (.ifCond .eq 5) := mt_cd_of (q := (28, .ifCond .eq 5, 3)) mq_139 ci_139 (List.mem_of_getElem? (i := 15) rfl)
theorem cd_139_31 : mt_cd 139 31 = some (.iconst 0) := mt_cd_of (q := (31, .iconst 0, 1)) mq_139 ci_139 (List.mem_of_getElem? (i := 16) rfl)
theorem cd_139_32 : mt_cd 139 32 = some (.ireturn) := mt_cd_of (q := (32, .ireturn, 1)) mq_139 ci_139 (List.mem_of_getElem? (i := 17) rfl)
theorem cd_139_33 : mt_cd 139 33 = some (.iconst 0) := mt_cd_of (q := (33, .iconst 0, 1)) mq_139 ci_139 (List.mem_of_getElem? (i := 18) rfl)
theorem cd_139_34 : mt_cd 139 34 = some (.istore 6) := mt_cd_of (q := (34, .istore 6, 2)) mq_139 ci_139 (List.mem_of_getElem? (i := 19) rfl)
theorem cd_139_36 : mt_cd 139 36 = some (.iload 6) := mt_cd_of (q := (36, .iload 6, 2)) mq_139 ci_139 (List.mem_of_getElem? (i := 20) rfl)
theorem cd_139_38 : mt_cd 139 38 = some (.bipush 20) := mt_cd_of (q := (38, .bipush 20, 2)) mq_139 ci_139 (List.mem_of_getElem? (i := 21) rfl)
theorem cd_139_40 : mt_cd 139 40 = some (.if_icmp .ge 90) := mt_cd_of (q := (40, .if_icmp .ge 90, 3)) mq_139 ci_139 (List.mem_of_getElem? (i := 22) rfl)
theorem cd_139_43 : mt_cd 139 43 = some (.iload 6) := mt_cd_of (q := (43, .iload 6, 2)) mq_139 ci_139 (List.mem_of_getElem? (i := 23) rfl)
theorem cd_139_45 : mt_cd 139 45 = some (.iconst 4) := mt_cd_of (q := (45, .iconst 4, 1)) mq_139 ci_139 (List.mem_of_getElem? (i := 24) rfl)
theorem cd_139_46 : mt_cd 139 46 = some (.if_icmp .ge 7) := mt_cd_of (q := (46, .if_icmp .ge 7, 3)) mq_139 ci_139 (List.mem_of_getElem? (i := 25) rfl)
theorem cd_139_49 : mt_cd 139 49 = some (.iload_n 1) := mt_cd_of (q := (49, .iload_n 1, 1)) mq_139 ci_139 (List.mem_of_getElem? (i := 26) rfl)
theorem cd_139_50 : mt_cd 139 50 = some (.goto 39) := mt_cd_of (q := (50, .goto 39, 3)) mq_139 ci_139 (List.mem_of_getElem? (i := 27) rfl)
theorem cd_139_53 : mt_cd 139 53 = some (.iload 6) := mt_cd_of (q := (53, .iload 6, 2)) mq_139 ci_139 (List.mem_of_getElem? (i := 28) rfl)
theorem cd_139_55 : mt_cd 139 55 = some (.bipush 8) := mt_cd_of (q := (55, .bipush 8, 2)) mq_139 ci_139 (List.mem_of_getElem? (i := 29) rfl)
theorem cd_139_57 : mt_cd 139 57 = some (.if_icmp .ge 7) := mt_cd_of (q := (57, .if_icmp .ge 7, 3)) mq_139 ci_139 (List.mem_of_getElem? (i := 30) rfl)
theorem cd_139_60 : mt_cd 139 60 = some (.iload_n 2) := mt_cd_of (q := (60, .iload_n 2, 1)) mq_139 ci_139 (List.mem_of_getElem? (i := 31) rfl)
theorem cd_139_61 : mt_cd 139 61 = some (.goto 28) := mt_cd_of (q := (61, .goto 28, 3)) mq_139 ci_139 (List.mem_of_getElem? (i := 32) rfl)
theorem cd_139_64 : mt_cd 139 64 = some (.iload 6) := mt_cd_of (q := (64, .iload 6, 2)) mq_139 ci_139 (List.mem_of_getElem? (i := 33) rfl)
theorem cd_139_66 : mt_cd 139 66 = some (.bipush 12) := mt_cd_of (q := (66, .bipush 12, 2)) mq_139 ci_139 (List.mem_of_getElem? (i := 34) rfl)
theorem cd_139_68 : mt_cd 139 68 = some (.if_icmp .ge 7) := mt_cd_of (q := (68, .if_icmp .ge 7, 3)) mq_139 ci_139 (List.mem_of_getElem? (i := 35) rfl)
theorem cd_139_71 : mt_cd 139 71 = some (.iload_n 3) := mt_cd_of (q := (71, .iload_n 3, 1)) mq_139 ci_139 (List.mem_of_getElem? (i := 36) rfl)
theorem cd_139_72 : mt_cd 139 72 = some (.goto 17) := mt_cd_of (q := (72, .goto 17, 3)) mq_139 ci_139 (List.mem_of_getElem? (i := 37) rfl)
theorem cd_139_75 : mt_cd 139 75 = some (.iload 6) := mt_cd_of (q := (75, .iload 6, 2)) mq_139 ci_139 (List.mem_of_getElem? (i := 38) rfl)
theorem cd_139_77 : mt_cd 139 77 = some (.bipush 16) := mt_cd_of (q := (77, .bipush 16, 2)) mq_139 ci_139 (List.mem_of_getElem? (i := 39) rfl)
theorem cd_139_79 : mt_cd 139 79 = some (.if_icmp .ge 8) := mt_cd_of (q := (79, .if_icmp .ge 8, 3)) mq_139 ci_139 (List.mem_of_getElem? (i := 40) rfl)
theorem cd_139_82 : mt_cd 139 82 = some (.iload 4) := mt_cd_of (q := (82, .iload 4, 2)) mq_139 ci_139 (List.mem_of_getElem? (i := 41) rfl)
theorem cd_139_84 : mt_cd 139 84 = some (.goto 5) := mt_cd_of (q := (84, .goto 5, 3)) mq_139 ci_139 (List.mem_of_getElem? (i := 42) rfl)
theorem cd_139_87 : mt_cd 139 87 = some (.iload 5) := mt_cd_of (q := (87, .iload 5, 2)) mq_139 ci_139 (List.mem_of_getElem? (i := 43) rfl)
theorem cd_139_89 : mt_cd 139 89 = some (.istore 7) := mt_cd_of (q := (89, .istore 7, 2)) mq_139 ci_139 (List.mem_of_getElem? (i := 44) rfl)
theorem cd_139_91 : mt_cd 139 91 = some (.aload_n 0) := mt_cd_of (q := (91, .aload_n 0, 1)) mq_139 ci_139 (List.mem_of_getElem? (i := 45) rfl)
theorem cd_139_92 : mt_cd 139 92 = some (.getfield 16) := mt_cd_of (q := (92, .getfield 16, 3)) mq_139 ci_139 (List.mem_of_getElem? (i := 46) rfl)
theorem cd_139_95 : mt_cd 139 95 = some (.aload_n 0) := mt_cd_of (q := (95, .aload_n 0, 1)) mq_139 ci_139 (List.mem_of_getElem? (i := 47) rfl)
theorem cd_139_96 : mt_cd 139 96 = some (.dup) := mt_cd_of (q := (96, .dup, 1)) mq_139 ci_139 (List.mem_of_getElem? (i := 48) rfl)
theorem cd_139_97 : mt_cd 139 97 = some (.getfield 251) := mt_cd_of (q := (97, .getfield 251, 3)) mq_139 ci_139 (List.mem_of_getElem? (i := 49) rfl)
theorem cd_139_100 : mt_cd 139 100 = some (.dup_x1) := mt_cd_of (q := (100, .dup_x1, 1)) mq_139 ci_139 (List.mem_of_getElem? (i := 50) rfl)
theorem cd_139_101 : mt_cd 139 101 = some (.iconst 1) := mt_cd_of (q := (101, .iconst 1, 1)) mq_139 ci_139 (List.mem_of_getElem? (i := 51) rfl)
theorem cd_139_102 : mt_cd 139 102 = some (.iadd) := mt_cd_of (q := (102, .iadd, 1)) mq_139 ci_139 (List.mem_of_getElem? (i := 52) rfl)
theorem cd_139_103 : mt_cd 139 103 = some (.putfield 251) := mt_cd_of (q := (103, .putfield 251, 3)) mq_139 ci_139 (List.mem_of_getElem? (i := 53) rfl)
theorem cd_139_106 : mt_cd 139 106 = some (.iload 7) := mt_cd_of (q := (106, .iload 7, 2)) mq_139 ci_139 (List.mem_of_getElem? (i := 54) rfl)
theorem cd_139_108 : mt_cd 139 108 = some (.bipush 24) := mt_cd_of (q := (108, .bipush 24, 2)) mq_139 ci_139 (List.mem_of_getElem? (i := 55) rfl)
theorem cd_139_110 : mt_cd 139 110 = some (.bipush 8) := mt_cd_of (q := (110, .bipush 8, 2)) mq_139 ci_139 (List.mem_of_getElem? (i := 56) rfl)
theorem cd_139_112 : mt_cd 139 112 = some (.iload 6) := mt_cd_of (q := (112, .iload 6, 2)) mq_139 ci_139 (List.mem_of_getElem? (i := 57) rfl)
theorem cd_139_114 : mt_cd 139 114 = some (.iconst 3) := mt_cd_of (q := (114, .iconst 3, 1)) mq_139 ci_139 (List.mem_of_getElem? (i := 58) rfl)
theorem cd_139_115 : mt_cd 139 115 = some (.iand) := mt_cd_of (q := (115, .iand, 1)) mq_139 ci_139 (List.mem_of_getElem? (i := 59) rfl)
theorem cd_139_116 : mt_cd 139 116 = some (.imul) := mt_cd_of (q := (116, .imul, 1)) mq_139 ci_139 (List.mem_of_getElem? (i := 60) rfl)
theorem cd_139_117 : mt_cd 139 117 = some (.isub) := mt_cd_of (q := (117, .isub, 1)) mq_139 ci_139 (List.mem_of_getElem? (i := 61) rfl)
theorem cd_139_118 : mt_cd 139 118 = some (.iushr) := mt_cd_of (q := (118, .iushr, 1)) mq_139 ci_139 (List.mem_of_getElem? (i := 62) rfl)
theorem cd_139_119 : mt_cd 139 119 = some (.sipush 255) := mt_cd_of (q := (119, .sipush 255, 3)) mq_139 ci_139 (List.mem_of_getElem? (i := 63) rfl)
theorem cd_139_122 : mt_cd 139 122 = some (.iand) := mt_cd_of (q := (122, .iand, 1)) mq_139 ci_139 (List.mem_of_getElem? (i := 64) rfl)
theorem cd_139_123 : mt_cd 139 123 = some (.iastore) := mt_cd_of (q := (123, .iastore, 1)) mq_139 ci_139 (List.mem_of_getElem? (i := 65) rfl)
theorem cd_139_124 : mt_cd 139 124 = some (.iinc 6 1) := mt_cd_of (q := (124, .iinc 6 1, 3)) mq_139 ci_139 (List.mem_of_getElem? (i := 66) rfl)
theorem cd_139_127 : mt_cd 139 127 = some (.goto (-91)) := mt_cd_of (q := (127, .goto (-91), 3)) mq_139 ci_139 (List.mem_of_getElem? (i := 67) rfl)
theorem cd_139_130 : mt_cd 139 130 = some (.aload_n 0) := mt_cd_of (q := (130, .aload_n 0, 1)) mq_139 ci_139 (List.mem_of_getElem? (i := 68) rfl)
theorem cd_139_131 : mt_cd 139 131 = some (.getfield 251) := mt_cd_of (q := (131, .getfield 251, 3)) mq_139 ci_139 (List.mem_of_getElem? (i := 69) rfl)
theorem cd_139_134 : mt_cd 139 134 = some (.ireturn) := mt_cd_of (q := (134, .ireturn, 1)) mq_139 ci_139 (List.mem_of_getElem? (i := 70) rfl)
theorem b_139_0 {d : Nat} {Q : (Option Value ⊕ Nat) → mi_H → Prop} (n sl : Nat) (f : Nat → mi_C) {l1 : Nat} {l2 : Int32} {l3 : Int32} {l4 : Int32} {l5 : Int32} {l6 : Int32} {o7 : Option Value} {o8 : Option Value} {fs9 : List Value} {fs13 : List Value} {x16 : Int32} (h10 : f l1 = .inr (12, fs9)) (h11 : l1 < n) (h12 : 0 < fs9.length) (h14 : (va_up f l1 (.inr (12, fs9.set 0 (.int 0)))) l1 = .inr (12, fs13)) (h15 : l1 < n) (h17 : fs13[1]? = some (.int x16)) (h18 : (x16 + 20) ≤ 8200 → mi_W d 139 23 [some (.ref l1), some (.int l2), some (.int l3), some (.int l4), some (.int l5), some (.int l6), o7, o8] [.ref l1] (n, sl, (va_up f l1 (.inr (12, fs9.set 0 (.int 0))))) Q) (h19 : ¬ ((x16 + 20) ≤ 8200) → mi_W d 139 19 [some (.ref l1), some (.int l2), some (.int l3), some (.int l4), some (.int l5), some (.int l6), o7, o8] [.ref l1] (n, sl, (va_up f l1 (.inr (12, fs9.set 0 (.int 0))))) Q) : mi_W d 139 0 [some (.ref l1), some (.int l2), some (.int l3), some (.int l4), some (.int l5), some (.int l6), o7, o8] [] (n, sl, f) Q := by
  refine w_aload_n cd_139_0 rfl ?_
  refine w_iconst (v := 0) cd_139_1 (by decide) ?_
  refine w_putfield (w := .int 0) cd_139_2 (show mt_f 12 248 = some (12, 0) by decide +kernel) h10 h11 ⟨h12, rfl, Or.inl (by decide)⟩ ?_
  refine w_aload_n cd_139_5 rfl ?_
  refine w_aload_n cd_139_6 rfl ?_
  refine w_getfield cd_139_7 (show mt_f 12 251 = some (12, 1) by decide +kernel) h14 h15 h17 ?_
  refine w_bipush (v := 20) cd_139_10 (by decide) ?_
  refine w_iadd cd_139_12 ?_
  refine w_sipush (v := 8200) cd_139_13 (by decide) ?_
  exact w_if_icmple cd_139_16 (by decide) h18 h19
theorem b_139_19 {d : Nat} {Q : (Option Value ⊕ Nat) → mi_H → Prop} (n sl : Nat) (f : Nat → mi_C) {l1 : Nat} {l2 : Int32} {l3 : Int32} {l4 : Int32} {l5 : Int32} {l6 : Int32} {o7 : Option Value} {o8 : Option Value} {s9 : Nat} (h10 : mi_W d 139 24 [some (.ref l1), some (.int l2), some (.int l3), some (.int l4), some (.int l5), some (.int l6), o7, o8] [.int 1, .ref s9] (n, sl, f) Q) : mi_W d 139 19 [some (.ref l1), some (.int l2), some (.int l3), some (.int l4), some (.int l5), some (.int l6), o7, o8] [.ref s9] (n, sl, f) Q := by
  refine w_iconst (v := 1) cd_139_19 (by decide) ?_
  exact w_goto cd_139_20 (by decide) h10
theorem b_139_23 {d : Nat} {Q : (Option Value ⊕ Nat) → mi_H → Prop} (n sl : Nat) (f : Nat → mi_C) {l1 : Nat} {l2 : Int32} {l3 : Int32} {l4 : Int32} {l5 : Int32} {l6 : Int32} {o7 : Option Value} {o8 : Option Value} {s9 : Nat} (h10 : mi_W d 139 24 [some (.ref l1), some (.int l2), some (.int l3), some (.int l4), some (.int l5), some (.int l6), o7, o8] [.int 0, .ref s9] (n, sl, f) Q) : mi_W d 139 23 [some (.ref l1), some (.int l2), some (.int l3), some (.int l4), some (.int l5), some (.int l6), o7, o8] [.ref s9] (n, sl, f) Q := by
  refine w_iconst (v := 0) cd_139_23 (by decide) ?_
  exact h10
theorem b_139_24 {d : Nat} {Q : (Option Value ⊕ Nat) → mi_H → Prop} (n sl : Nat) (f : Nat → mi_C) {l1 : Nat} {l2 : Int32} {l3 : Int32} {l4 : Int32} {l5 : Int32} {l6 : Int32} {o7 : Option Value} {o8 : Option Value} {s9 : Int32} {s10 : Nat} {fs11 : List Value} (h12 : f s10 = .inr (12, fs11)) (h13 : s10 < n) (h14 : mi_W d 140 0 (mi_en 3 [.ref s10, .int s9, .int 1]) [] (n, sl, f) (mi_Kc d 139 25 [some (.ref l1), some (.int l2), some (.int l3), some (.int l4), some (.int l5), some (.int l6), o7, o8] [] Q)) : mi_W (d + 1) 139 24 [some (.ref l1), some (.int l2), some (.int l3), some (.int l4), some (.int l5), some (.int l6), o7, o8] [.int s9, .ref s10] (n, sl, f) Q := by
  refine w_iconst (v := 1) cd_139_24 (by decide) ?_
  exact w_invokevirtual cd_139_25 (show mt_m 12 254 = some (140, 0) by decide +kernel) (rest := []) rfl (as := [.ref s10, .int s9, .int 1]) rfl h12 (Or.inl h13) ⟨Nat.le_of_ble_eq_true rfl, Nat.le_of_ble_eq_true rfl, Nat.le_of_ble_eq_true rfl⟩ h14
theorem b_139_28 {d : Nat} {Q : (Option Value ⊕ Nat) → mi_H → Prop} (n sl : Nat) (f : Nat → mi_C) {l1 : Nat} {l2 : Int32} {l3 : Int32} {l4 : Int32} {l5 : Int32} {l6 : Int32} {o7 : Option Value} {o8 : Option Value} {s9 : Int32} (h10 : s9 = (0 : Int32) → mi_W d 139 33 [some (.ref l1), some (.int l2), some (.int l3), some (.int l4), some (.int l5), some (.int l6), o7, o8] [] (n, sl, f) Q) (h11 : ¬ (s9 = (0 : Int32)) → mi_W d 139 31 [some (.ref l1), some (.int l2), some (.int l3), some (.int l4), some (.int l5), some (.int l6), o7, o8] [] (n, sl, f) Q) : mi_W d 139 28 [some (.ref l1), some (.int l2), some (.int l3), some (.int l4), some (.int l5), some (.int l6), o7, o8] [.int s9] (n, sl, f) Q := by
  exact w_ifeq cd_139_28 (by decide) h10 h11
theorem b_139_31 {d : Nat} {Q : (Option Value ⊕ Nat) → mi_H → Prop} (n sl : Nat) (f : Nat → mi_C) {l1 : Nat} {l2 : Int32} {l3 : Int32} {l4 : Int32} {l5 : Int32} {l6 : Int32} {o7 : Option Value} {o8 : Option Value} (h9 : Q (.inl (some (.int 0))) (n, sl, f)) : mi_W d 139 31 [some (.ref l1), some (.int l2), some (.int l3), some (.int l4), some (.int l5), some (.int l6), o7, o8] [] (n, sl, f) Q := by
  refine w_iconst (v := 0) cd_139_31 (by decide) ?_
  exact w_ireturn_i cd_139_32 (by decide +kernel) h9
theorem b_139_33 {d : Nat} {Q : (Option Value ⊕ Nat) → mi_H → Prop} (n sl : Nat) (f : Nat → mi_C) {l1 : Nat} {l2 : Int32} {l3 : Int32} {l4 : Int32} {l5 : Int32} {l6 : Int32} {o7 : Option Value} {o8 : Option Value} (h9 : mi_W d 139 36 [some (.ref l1), some (.int l2), some (.int l3), some (.int l4), some (.int l5), some (.int l6), some (.int 0), o8] [] (n, sl, f) Q) : mi_W d 139 33 [some (.ref l1), some (.int l2), some (.int l3), some (.int l4), some (.int l5), some (.int l6), o7, o8] [] (n, sl, f) Q := by
  refine w_iconst (v := 0) cd_139_33 (by decide) ?_
  refine w_istore (ls' := [some (.ref l1), some (.int l2), some (.int l3), some (.int l4), some (.int l5), some (.int l6), some (.int 0), o8]) cd_139_34 (Nat.le_of_ble_eq_true rfl) rfl ?_
  exact h9
theorem b_139_36 {d : Nat} {Q : (Option Value ⊕ Nat) → mi_H → Prop} (n sl : Nat) (f : Nat → mi_C) {l1 : Nat} {l2 : Int32} {l3 : Int32} {l4 : Int32} {l5 : Int32} {l6 : Int32} {l7 : Int32} {o8 : Option Value} (h9 : 20 ≤ l7 → mi_W d 139 130 [some (.ref l1), some (.int l2), some (.int l3), some (.int l4), some (.int l5), some (.int l6), some (.int l7), o8] [] (n, sl, f) Q) (h10 : ¬ (20 ≤ l7) → mi_W d 139 43 [some (.ref l1), some (.int l2), some (.int l3), some (.int l4), some (.int l5), some (.int l6), some (.int l7), o8] [] (n, sl, f) Q) : mi_W d 139 36 [some (.ref l1), some (.int l2), some (.int l3), some (.int l4), some (.int l5), some (.int l6), some (.int l7), o8] [] (n, sl, f) Q := by
  refine w_iload cd_139_36 rfl ?_
  refine w_bipush (v := 20) cd_139_38 (by decide) ?_
  exact w_if_icmpge cd_139_40 (by decide) h9 h10
theorem b_139_43 {d : Nat} {Q : (Option Value ⊕ Nat) → mi_H → Prop} (n sl : Nat) (f : Nat → mi_C) {l1 : Nat} {l2 : Int32} {l3 : Int32} {l4 : Int32} {l5 : Int32} {l6 : Int32} {l7 : Int32} {o8 : Option Value} (h9 : 4 ≤ l7 → mi_W d 139 53 [some (.ref l1), some (.int l2), some (.int l3), some (.int l4), some (.int l5), some (.int l6), some (.int l7), o8] [] (n, sl, f) Q) (h10 : ¬ (4 ≤ l7) → mi_W d 139 49 [some (.ref l1), some (.int l2), some (.int l3), some (.int l4), some (.int l5), some (.int l6), some (.int l7), o8] [] (n, sl, f) Q) : mi_W d 139 43 [some (.ref l1), some (.int l2), some (.int l3), some (.int l4), some (.int l5), some (.int l6), some (.int l7), o8] [] (n, sl, f) Q := by
  refine w_iload cd_139_43 rfl ?_
  refine w_iconst (v := 4) cd_139_45 (by decide) ?_
  exact w_if_icmpge cd_139_46 (by decide) h9 h10
theorem b_139_49 {d : Nat} {Q : (Option Value ⊕ Nat) → mi_H → Prop} (n sl : Nat) (f : Nat → mi_C) {l1 : Nat} {l2 : Int32} {l3 : Int32} {l4 : Int32} {l5 : Int32} {l6 : Int32} {l7 : Int32} {o8 : Option Value} (h9 : mi_W d 139 89 [some (.ref l1), some (.int l2), some (.int l3), some (.int l4), some (.int l5), some (.int l6), some (.int l7), o8] [.int l2] (n, sl, f) Q) : mi_W d 139 49 [some (.ref l1), some (.int l2), some (.int l3), some (.int l4), some (.int l5), some (.int l6), some (.int l7), o8] [] (n, sl, f) Q := by
  refine w_iload_n cd_139_49 rfl ?_
  exact w_goto cd_139_50 (by decide) h9
theorem b_139_53 {d : Nat} {Q : (Option Value ⊕ Nat) → mi_H → Prop} (n sl : Nat) (f : Nat → mi_C) {l1 : Nat} {l2 : Int32} {l3 : Int32} {l4 : Int32} {l5 : Int32} {l6 : Int32} {l7 : Int32} {o8 : Option Value} (h9 : 8 ≤ l7 → mi_W d 139 64 [some (.ref l1), some (.int l2), some (.int l3), some (.int l4), some (.int l5), some (.int l6), some (.int l7), o8] [] (n, sl, f) Q) (h10 : ¬ (8 ≤ l7) → mi_W d 139 60 [some (.ref l1), some (.int l2), some (.int l3), some (.int l4), some (.int l5), some (.int l6), some (.int l7), o8] [] (n, sl, f) Q) : mi_W d 139 53 [some (.ref l1), some (.int l2), some (.int l3), some (.int l4), some (.int l5), some (.int l6), some (.int l7), o8] [] (n, sl, f) Q := by
  refine w_iload cd_139_53 rfl ?_
  refine w_bipush (v := 8) cd_139_55 (by decide) ?_
  exact w_if_icmpge cd_139_57 (by decide) h9 h10
theorem b_139_60 {d : Nat} {Q : (Option Value ⊕ Nat) → mi_H → Prop} (n sl : Nat) (f : Nat → mi_C) {l1 : Nat} {l2 : Int32} {l3 : Int32} {l4 : Int32} {l5 : Int32} {l6 : Int32} {l7 : Int32} {o8 : Option Value} (h9 : mi_W d 139 89 [some (.ref l1), some (.int l2), some (.int l3), some (.int l4), some (.int l5), some (.int l6), some (.int l7), o8] [.int l3] (n, sl, f) Q) : mi_W d 139 60 [some (.ref l1), some (.int l2), some (.int l3), some (.int l4), some (.int l5), some (.int l6), some (.int l7), o8] [] (n, sl, f) Q := by
  refine w_iload_n cd_139_60 rfl ?_
  exact w_goto cd_139_61 (by decide) h9
theorem b_139_64 {d : Nat} {Q : (Option Value ⊕ Nat) → mi_H → Prop} (n sl : Nat) (f : Nat → mi_C) {l1 : Nat} {l2 : Int32} {l3 : Int32} {l4 : Int32} {l5 : Int32} {l6 : Int32} {l7 : Int32} {o8 : Option Value} (h9 : 12 ≤ l7 → mi_W d 139 75 [some (.ref l1), some (.int l2), some (.int l3), some (.int l4), some (.int l5), some (.int l6), some (.int l7), o8] [] (n, sl, f) Q) (h10 : ¬ (12 ≤ l7) → mi_W d 139 71 [some (.ref l1), some (.int l2), some (.int l3), some (.int l4), some (.int l5), some (.int l6), some (.int l7), o8] [] (n, sl, f) Q) : mi_W d 139 64 [some (.ref l1), some (.int l2), some (.int l3), some (.int l4), some (.int l5), some (.int l6), some (.int l7), o8] [] (n, sl, f) Q := by
  refine w_iload cd_139_64 rfl ?_
  refine w_bipush (v := 12) cd_139_66 (by decide) ?_
  exact w_if_icmpge cd_139_68 (by decide) h9 h10
theorem b_139_71 {d : Nat} {Q : (Option Value ⊕ Nat) → mi_H → Prop} (n sl : Nat) (f : Nat → mi_C) {l1 : Nat} {l2 : Int32} {l3 : Int32} {l4 : Int32} {l5 : Int32} {l6 : Int32} {l7 : Int32} {o8 : Option Value} (h9 : mi_W d 139 89 [some (.ref l1), some (.int l2), some (.int l3), some (.int l4), some (.int l5), some (.int l6), some (.int l7), o8] [.int l4] (n, sl, f) Q) : mi_W d 139 71 [some (.ref l1), some (.int l2), some (.int l3), some (.int l4), some (.int l5), some (.int l6), some (.int l7), o8] [] (n, sl, f) Q := by
  refine w_iload_n cd_139_71 rfl ?_
  exact w_goto cd_139_72 (by decide) h9
theorem b_139_75 {d : Nat} {Q : (Option Value ⊕ Nat) → mi_H → Prop} (n sl : Nat) (f : Nat → mi_C) {l1 : Nat} {l2 : Int32} {l3 : Int32} {l4 : Int32} {l5 : Int32} {l6 : Int32} {l7 : Int32} {o8 : Option Value} (h9 : 16 ≤ l7 → mi_W d 139 87 [some (.ref l1), some (.int l2), some (.int l3), some (.int l4), some (.int l5), some (.int l6), some (.int l7), o8] [] (n, sl, f) Q) (h10 : ¬ (16 ≤ l7) → mi_W d 139 82 [some (.ref l1), some (.int l2), some (.int l3), some (.int l4), some (.int l5), some (.int l6), some (.int l7), o8] [] (n, sl, f) Q) : mi_W d 139 75 [some (.ref l1), some (.int l2), some (.int l3), some (.int l4), some (.int l5), some (.int l6), some (.int l7), o8] [] (n, sl, f) Q := by
  refine w_iload cd_139_75 rfl ?_
  refine w_bipush (v := 16) cd_139_77 (by decide) ?_
  exact w_if_icmpge cd_139_79 (by decide) h9 h10
theorem b_139_82 {d : Nat} {Q : (Option Value ⊕ Nat) → mi_H → Prop} (n sl : Nat) (f : Nat → mi_C) {l1 : Nat} {l2 : Int32} {l3 : Int32} {l4 : Int32} {l5 : Int32} {l6 : Int32} {l7 : Int32} {o8 : Option Value} (h9 : mi_W d 139 89 [some (.ref l1), some (.int l2), some (.int l3), some (.int l4), some (.int l5), some (.int l6), some (.int l7), o8] [.int l5] (n, sl, f) Q) : mi_W d 139 82 [some (.ref l1), some (.int l2), some (.int l3), some (.int l4), some (.int l5), some (.int l6), some (.int l7), o8] [] (n, sl, f) Q := by
  refine w_iload cd_139_82 rfl ?_
  exact w_goto cd_139_84 (by decide) h9
theorem b_139_87 {d : Nat} {Q : (Option Value ⊕ Nat) → mi_H → Prop} (n sl : Nat) (f : Nat → mi_C) {l1 : Nat} {l2 : Int32} {l3 : Int32} {l4 : Int32} {l5 : Int32} {l6 : Int32} {l7 : Int32} {o8 : Option Value} (h9 : mi_W d 139 89 [some (.ref l1), some (.int l2), some (.int l3), some (.int l4), some (.int l5), some (.int l6), some (.int l7), o8] [.int l6] (n, sl, f) Q) : mi_W d 139 87 [some (.ref l1), some (.int l2), some (.int l3), some (.int l4), some (.int l5), some (.int l6), some (.int l7), o8] [] (n, sl, f) Q := by
  refine w_iload cd_139_87 rfl ?_
  exact h9
theorem b_139_89 {d : Nat} {Q : (Option Value ⊕ Nat) → mi_H → Prop} (n sl : Nat) (f : Nat → mi_C) {l1 : Nat} {l2 : Int32} {l3 : Int32} {l4 : Int32} {l5 : Int32} {l6 : Int32} {l7 : Int32} {o8 : Option Value} {s9 : Int32} {fs10 : List Value} {x13 : Nat} {fs15 : List Value} {x18 : Int32} {fs20 : List Value} (m24 i24 : Nat) (g24 : Nat → Int32) (h11 : f l1 = .inr (12, fs10)) (h12 : l1 < n) (h14 : fs10[5]? = some (.ref x13)) (h16 : f l1 = .inr (12, fs15)) (h17 : l1 < n) (h19 : fs15[1]? = some (.int x18)) (h21 : f l1 = .inr (12, fs20)) (h22 : l1 < n) (h23 : 1 < fs20.length) (h25 : (va_up f l1 (.inr (12, fs20.set 1 (.int (x18 + 1))))) x13 = .inl (0, m24, .inl g24)) (h26 : x13 < n) (h27 : mi_ix x18 m24 i24) (h28 : mi_W d 139 36 [some (.ref l1), some (.int l2), some (.int l3), some (.int l4), some (.int l5), some (.int l6), some (.int (l7 + 1)), some (.int s9)] [] (n, sl, (va_up (va_up f l1 (.inr (12, fs20.set 1 (.int (x18 + 1))))) x13 (.inl (0, m24, .inl (upd g24 i24 (((s9.toUInt32 >>> (((24 - (8 * (l7 &&& 3))) : Int32).toUInt32 &&& Int32.toUInt32 31)).toInt32) &&& 255)))))) Q) : mi_W d 139 89 [some (.ref l1), some (.int l2), some (.int l3), some (.int l4), some (.int l5), some (.int l6), some (.int l7), o8] [.int s9] (n, sl, f) Q := by
  refine w_istore (ls' := [some (.ref l1), some (.int l2), some (.int l3), some (.int l4), some (.int l5), some (.int l6), some (.int l7), some (.int s9)]) cd_139_89 (Nat.le_of_ble_eq_true rfl) rfl ?_
  refine w_aload_n cd_139_91 rfl ?_
  refine w_getfield cd_139_92 (show mt_f 12 16 = some (12, 5) by decide +kernel) h11 h12 h14 ?_
  refine w_aload_n cd_139_95 rfl ?_
  refine w_dup_r cd_139_96 ?_
  refine w_getfield cd_139_97 (show mt_f 12 251 = some (12, 1) by decide +kernel) h16 h17 h19 ?_
  refine w_dup_x1_ir cd_139_100 ?_
  refine w_iconst (v := 1) cd_139_101 (by decide) ?_
  refine w_iadd cd_139_102 ?_
  refine w_putfield (w := .int (x18 + 1)) cd_139_103 (show mt_f 12 251 = some (12, 1) by decide +kernel) h21 h22 ⟨h23, rfl, Or.inl (by decide)⟩ ?_
  refine w_iload cd_139_106 rfl ?_
  refine w_bipush (v := 24) cd_139_108 (by decide) ?_
  refine w_bipush (v := 8) cd_139_110 (by decide) ?_
  refine w_iload cd_139_112 rfl ?_
  refine w_iconst (v := 3) cd_139_114 (by decide) ?_
  refine w_iand cd_139_115 ?_
  refine w_imul cd_139_116 ?_
  refine w_isub cd_139_117 ?_
  refine w_iushr cd_139_118 ?_
  refine w_sipush (v := 255) cd_139_119 (by decide) ?_
  refine w_iand cd_139_122 ?_
  refine w_iastore cd_139_123 h25 h26 h27 ?_
  refine w_iinc (v := 1) (ls' := [some (.ref l1), some (.int l2), some (.int l3), some (.int l4), some (.int l5), some (.int l6), some (.int (l7 + 1)), some (.int s9)]) cd_139_124 rfl (by decide) rfl ?_
  exact w_goto cd_139_127 (by decide) h28
theorem b_139_130 {d : Nat} {Q : (Option Value ⊕ Nat) → mi_H → Prop} (n sl : Nat) (f : Nat → mi_C) {l1 : Nat} {l2 : Int32} {l3 : Int32} {l4 : Int32} {l5 : Int32} {l6 : Int32} {l7 : Int32} {o8 : Option Value} {fs9 : List Value} {x12 : Int32} (h10 : f l1 = .inr (12, fs9)) (h11 : l1 < n) (h13 : fs9[1]? = some (.int x12)) (h14 : Q (.inl (some (.int x12))) (n, sl, f)) : mi_W d 139 130 [some (.ref l1), some (.int l2), some (.int l3), some (.int l4), some (.int l5), some (.int l6), some (.int l7), o8] [] (n, sl, f) Q := by
  refine w_aload_n cd_139_130 rfl ?_
  refine w_getfield cd_139_131 (show mt_f 12 251 = some (12, 1) by decide +kernel) h10 h11 h13 ?_
  exact w_ireturn_i cd_139_134 (by decide +kernel) h14
/-! MarloweHostModel.step(II)J -/
set_option maxRecDepth 100000 in
theorem mq_202 : mt_q 202 = my_202 := rfl
set_option maxRecDepth 100000 in
theorem ci_202 : mt_inc 0 my_202.cd = true := by decide +kernel
theorem cd_202_0 : mt_cd 202 0 = some (.aload_n 0) := mt_cd_of (q := (0, .aload_n 0, 1)) mq_202 ci_202 (List.mem_of_getElem? (i := 0) rfl)
theorem cd_202_1 : mt_cd 202 1 = some (.iconst 0) := mt_cd_of (q := (1, .iconst 0, 1)) mq_202 ci_202 (List.mem_of_getElem? (i := 1) rfl)
theorem cd_202_2 : mt_cd 202 2 = some (.putfield 248) := mt_cd_of (q := (2, .putfield 248, 3)) mq_202 ci_202 (List.mem_of_getElem? (i := 2) rfl)
theorem cd_202_5 : mt_cd 202 5 = some (.aload_n 0) := mt_cd_of (q := (5, .aload_n 0, 1)) mq_202 ci_202 (List.mem_of_getElem? (i := 3) rfl)
theorem cd_202_6 : mt_cd 202 6 = some (.iload_n 2) := mt_cd_of (q := (6, .iload_n 2, 1)) mq_202 ci_202 (List.mem_of_getElem? (i := 4) rfl)
theorem cd_202_7 : mt_cd 202 7 = some (.i2l) := mt_cd_of (q := (7, .i2l, 1)) mq_202 ci_202 (List.mem_of_getElem? (i := 5) rfl)
theorem cd_202_8 : mt_cd 202 8 = some (.lconst 0) := mt_cd_of (q := (8, .lconst 0, 1)) mq_202 ci_202 (List.mem_of_getElem? (i := 6) rfl)
theorem cd_202_9 : mt_cd 202 9 = some (.ldc2_w 590) := mt_cd_of (q := (9, .ldc2_w 590, 3)) mq_202 ci_202 (List.mem_of_getElem? (i := 7) rfl)
theorem cd_202_12 : mt_cd 202 12 = some (.invokestatic 268) := mt_cd_of (q := (12, .invokestatic 268, 3)) mq_202 ci_202 (List.mem_of_getElem? (i := 8) rfl)
theorem cd_202_15 : mt_cd 202 15 = some (.ifCond .ne 7) := mt_cd_of (q := (15, .ifCond .ne 7, 3)) mq_202 ci_202 (List.mem_of_getElem? (i := 9) rfl)
theorem cd_202_18 : mt_cd 202 18 = some (.iconst 1) := mt_cd_of (q := (18, .iconst 1, 1)) mq_202 ci_202 (List.mem_of_getElem? (i := 10) rfl)
theorem cd_202_19 : mt_cd 202 19 = some (.goto 4) := mt_cd_of (q := (19, .goto 4, 3)) mq_202 ci_202 (List.mem_of_getElem? (i := 11) rfl)
theorem cd_202_22 : mt_cd 202 22 = some (.iconst 0) := mt_cd_of (q := (22, .iconst 0, 1)) mq_202 ci_202 (List.mem_of_getElem? (i := 12) rfl)
theorem cd_202_23 : mt_cd 202 23 = some (.iconst 1) := mt_cd_of (q := (23, .iconst 1, 1)) mq_202 ci_202 (List.mem_of_getElem? (i := 13) rfl)
theorem cd_202_24 : mt_cd 202 24 = some (.invokevirtual 254) := mt_cd_of (q := (24, .invokevirtual 254, 3)) mq_202 ci_202 (List.mem_of_getElem? (i := 14) rfl)
theorem cd_202_27 : mt_cd 202 27 = some (.ifCond .ne 32) := mt_cd_of (q := (27, .ifCond .ne 32, 3)) mq_202 ci_202 (List.mem_of_getElem? (i := 15) rfl)
theorem cd_202_30 : mt_cd 202 30 = some (.aload_n 0) := mt_cd_of (q := (30, .aload_n 0, 1)) mq_202 ci_202 (List.mem_of_getElem? (i := 16) rfl)
theorem cd_202_31 : mt_cd 202 31 = some (.iload_n 1) := mt_cd_of (q := (31, .iload_n 1, 1)) mq_202 ci_202 (List.mem_of_getElem? (i := 17) rfl)
theorem cd_202_32 : mt_cd 202 32 = some (.i2l) := mt_cd_of (q := (32, .i2l, 1)) mq_202 ci_202 (List.mem_of_getElem? (i := 18) rfl)
theorem cd_202_33 : mt_cd 202 33 = some (.lconst 0) := mt_cd_of (q := (33, .lconst 0, 1)) mq_202 ci_202 (List.mem_of_getElem? (i := 19) rfl)
theorem cd_202_34 : mt_cd 202 34 = some (.aload_n 0) := mt_cd_of (q := (34, .aload_n 0, 1)) mq_202 ci_202 (List.mem_of_getElem? (i := 20) rfl)
theorem cd_202_35 : mt_cd 202 35 = some (.getfield 565) := mt_cd_of (q := (35, .getfield 565, 3)) mq_202 ci_202 (List.mem_of_getElem? (i := 21) rfl)
theorem cd_202_38 : mt_cd 202 38 = some (.iconst 1) := mt_cd_of (q := (38, .iconst 1, 1)) mq_202 ci_202 (List.mem_of_getElem? (i := 22) rfl)
theorem cd_202_39 : mt_cd 202 39 = some (.isub) := mt_cd_of (q := (39, .isub, 1)) mq_202 ci_202 (List.mem_of_getElem? (i := 23) rfl)
theorem cd_202_40 : mt_cd 202 40 = some (.i2l) := mt_cd_of (q := (40, .i2l, 1)) mq_202 ci_202 (List.mem_of_getElem? (i := 24) rfl)
theorem cd_202_41 : mt_cd 202 41 = some (.invokestatic 268) := mt_cd_of (q := (41, .invokestatic 268, 3)) mq_202 ci_202 (List.mem_of_getElem? (i := 25) rfl)
theorem cd_202_44 : mt_cd 202 44 = some (.ifCond .ne 7) := mt_cd_of (q := (44, .ifCond .ne 7, 3)) mq_202 ci_202 (List.mem_of_getElem? (i := 26) rfl)
theorem cd_202_47 : mt_cd 202 47 = some (.iconst 1) := mt_cd_of (q := (47, .iconst 1, 1)) mq_202 ci_202 (List.mem_of_getElem? (i := 27) rfl)
theorem cd_202_48 : mt_cd 202 48 = some (.goto 4) := mt_cd_of (q := (48, .goto 4, 3)) mq_202 ci_202 (List.mem_of_getElem? (i := 28) rfl)
theorem cd_202_51 : mt_cd 202 51 = some (.iconst 0) := mt_cd_of (q := (51, .iconst 0, 1)) mq_202 ci_202 (List.mem_of_getElem? (i := 29) rfl)
theorem cd_202_52 : mt_cd 202 52 = some (.iconst 2) := mt_cd_of (q := (52, .iconst 2, 1)) mq_202 ci_202 (List.mem_of_getElem? (i := 30) rfl)
theorem cd_202_53 : mt_cd 202 53 = some (.invokevirtual 254) := mt_cd_of (q := (53, .invokevirtual 254, 3)) mq_202 ci_202 (List.mem_of_getElem? (i := 31) rfl)
theorem cd_202_56 : mt_cd 202 56 = some (.ifCond .eq 5) := mt_cd_of (q := (56, .ifCond .eq 5, 3)) mq_202 ci_202 (List.mem_of_getElem? (i := 32) rfl)
theorem cd_202_59 : mt_cd 202 59 = some (.lconst 0) := mt_cd_of (q := (59, .lconst 0, 1)) mq_202 ci_202 (List.mem_of_getElem? (i := 33) rfl)
theorem cd_202_60 : mt_cd 202 60 = some (.lreturn) := mt_cd_of (q := (60, .lreturn, 1)) mq_202 ci_202 (List.mem_of_getElem? (i := 34) rfl)
theorem cd_202_61 : mt_cd 202 61 = some (.iload_n 2) := mt_cd_of (q := (61, .iload_n 2, 1)) mq_202 ci_202 (List.mem_of_getElem? (i := 35) rfl)
theorem cd_202_62 : mt_cd 202 62 = some (.ifCond .ne 13) := mt_cd_of (q := (62, .ifCond .ne 13, 3)) mq_202 ci_202 (List.mem_of_getElem? (i := 36) rfl)
theorem cd_202_65 : mt_cd 202 65 = some (.aload_n 0) := mt_cd_of (q := (65, .aload_n 0, 1)) mq_202 ci_202 (List.mem_of_getElem? (i := 37) rfl)
theorem cd_202_66 : mt_cd 202 66 = some (.getfield 217) := mt_cd_of (q := (66, .getfield 217, 3)) mq_202 ci_202 (List.mem_of_getElem? (i := 38) rfl)
theorem cd_202_69 : mt_cd 202 69 = some (.iload_n 1) := mt_cd_of (q := (69, .iload_n 1, 1)) mq_202 ci_202 (List.mem_of_getElem? (i := 39) rfl)
theorem cd_202_70 : mt_cd 202 70 = some (.iaload) := mt_cd_of (q := (70, .iaload, 1)) mq_202 ci_202 (List.mem_of_getElem? (i := 40) rfl)
theorem cd_202_71 : mt_cd 202 71 = some (.i2l) := mt_cd_of (q := (71, .i2l, 1)) mq_202 ci_202 (List.mem_of_getElem? (i := 41) rfl)
theorem cd_202_72 : mt_cd 202 72 = some (.goto 24) := mt_cd_of (q := (72, .goto 24, 3)) mq_202 ci_202 (List.mem_of_getElem? (i := 42) rfl)
theorem cd_202_75 : mt_cd 202 75 = some (.iload_n 2) := mt_cd_of (q := (75, .iload_n 2, 1)) mq_202 ci_202 (List.mem_of_getElem? (i := 43) rfl)
theorem cd_202_76 : mt_cd 202 76 = some (.iconst 1) := mt_cd_of (q := (76, .iconst 1, 1)) mq_202 ci_202 (List.mem_of_getElem? (i := 44) rfl)
theorem cd_202_77 : mt_cd 202 77 = some (.if_icmp .ne 12) := mt_cd_of (q := (77, .if_icmp .ne 12, 3)) mq_202 ci_202 (List.mem_of_getElem? (i := 45) rfl)
theorem cd_202_80 : mt_cd 202 80 = some (.aload_n 0) := mt_cd_of (q := (80, .aload_n 0, 1)) mq_202 ci_202 (List.mem_of_getElem? (i := 46) rfl)
theorem cd_202_81 : mt_cd 202 81 = some (.getfield 226) := mt_cd_of (q := (81, .getfield 226, 3)) mq_202 ci_202 (List.mem_of_getElem? (i := 47) rfl)
theorem cd_202_84 : mt_cd 202 84 = some (.iload_n 1) := mt_cd_of (q := (84, .iload_n 1, 1)) mq_202 ci_202 (List.mem_of_getElem? (i := 48) rfl)
theorem cd_202_85 : mt_cd 202 85 = some (.laload) := mt_cd_of (q := (85, .laload, 1)) mq_202 ci_202 (List.mem_of_getElem? (i := 49) rfl)
theorem cd_202_86 : mt_cd 202 86 = some (.goto 10) := mt_cd_of (q := (86, .goto 10, 3)) mq_202 ci_202 (List.mem_of_getElem? (i := 50) rfl)
theorem cd_202_89 : mt_cd 202 89 = some (.aload_n 0) := mt_cd_of (q := (89, .aload_n 0, 1)) mq_202 ci_202 (List.mem_of_getElem? (i := 51) rfl)
theorem cd_202_90 : mt_cd 202 90 = some (.getfield 220) := mt_cd_of (q := (90, .getfield 220, 3)) mq_202 ci_202 (List.mem_of_getElem? (i := 52) rfl)
theorem cd_202_93 : mt_cd 202 93 = some (.iload_n 1) := mt_cd_of (q := (93, .iload_n 1, 1)) mq_202 ci_202 (List.mem_of_getElem? (i := 53) rfl)
theorem cd_202_94 : mt_cd 202 94 = some (.iaload) := mt_cd_of (q := (94, .iaload, 1)) mq_202 ci_202 (List.mem_of_getElem? (i := 54) rfl)
theorem cd_202_95 : mt_cd 202 95 = some (.i2l) := mt_cd_of (q := (95, .i2l, 1)) mq_202 ci_202 (List.mem_of_getElem? (i := 55) rfl)
theorem cd_202_96 : mt_cd 202 96 = some (.lreturn) := mt_cd_of (q := (96, .lreturn, 1)) mq_202 ci_202 (List.mem_of_getElem? (i := 56) rfl)
theorem b_202_0 {d : Nat} {Q : (Option Value ⊕ Nat) → mi_H → Prop} (n sl : Nat) (f : Nat → mi_C) {l1 : Nat} {l2 : Int32} {l3 : Int32} {fs4 : List Value} (h5 : f l1 = .inr (12, fs4)) (h6 : l1 < n) (h7 : 0 < fs4.length) (h8 : mi_W d 142 0 (mi_en 6 [.long ((l3 : Int32).toInt64), .long 0, .long 2]) [] (n, sl, (va_up f l1 (.inr (12, fs4.set 0 (.int 0))))) (mi_Kc d 202 12 [some (.ref l1), some (.int l2), some (.int l3)] [.ref l1] Q)) : mi_W (d + 1) 202 0 [some (.ref l1), some (.int l2), some (.int l3)] [] (n, sl, f) Q := by
  refine w_aload_n cd_202_0 rfl ?_
  refine w_iconst (v := 0) cd_202_1 (by decide) ?_
  refine w_putfield (w := .int 0) cd_202_2 (show mt_f 12 248 = some (12, 0) by decide +kernel) h5 h6 ⟨h7, rfl, Or.inl (by decide)⟩ ?_
  refine w_aload_n cd_202_5 rfl ?_
  refine w_iload_n cd_202_6 rfl ?_
  refine w_i2l cd_202_7 ?_
  refine w_lconst (lv := 0) cd_202_8 (by decide) ?_
  refine w_ldc2_w (lv := 2) cd_202_9 (by decide +kernel) ?_
  exact w_invokestatic cd_202_12 (show mt_m 12 268 = some (142, 4) by decide +kernel) (by decide) (rest := [.ref l1]) rfl (as := [.long ((l3 : Int32).toInt64), .long 0, .long 2]) rfl ⟨Nat.le_of_ble_eq_true rfl, Nat.le_of_ble_eq_true rfl, Nat.le_of_ble_eq_true rfl⟩ h8
theorem b_202_15 {d : Nat} {Q : (Option Value ⊕ Nat) → mi_H → Prop} (n sl : Nat) (f : Nat → mi_C) {l1 : Nat} {l2 : Int32} {l3 : Int32} {s4 : Int32} {s5 : Nat} (h6 : ¬ s4 = (0 : Int32) → mi_W d 202 22 [some (.ref l1), some (.int l2), some (.int l3)] [.ref s5] (n, sl, f) Q) (h7 : ¬ (¬ s4 = (0 : Int32)) → mi_W d 202 18 [some (.ref l1), some (.int l2), some (.int l3)] [.ref s5] (n, sl, f) Q) : mi_W d 202 15 [some (.ref l1), some (.int l2), some (.int l3)] [.int s4, .ref s5] (n, sl, f) Q := by
  exact w_ifne cd_202_15 (by decide) h6 h7
theorem b_202_18 {d : Nat} {Q : (Option Value ⊕ Nat) → mi_H → Prop} (n sl : Nat) (f : Nat → mi_C) {l1 : Nat} {l2 : Int32} {l3 : Int32} {s4 : Nat} (h5 : mi_W d 202 23 [some (.ref l1), some (.int l2), some (.int l3)] [.int 1, .ref s4] (n, sl, f) Q) : mi_W d 202 18 [some (.ref l1), some (.int l2), some (.int l3)] [.ref s4] (n, sl, f) Q := by
  refine w_iconst (v := 1) cd_202_18 (by decide) ?_
  exact w_goto cd_202_19 (by decide) h5
theorem b_202_22 {d : Nat} {Q : (Option Value ⊕ Nat) → mi_H → Prop} (n sl : Nat) (f : Nat → mi_C) {l1 : Nat} {l2 : Int32} {l3 : Int32} {s4 : Nat} (h5 : mi_W d 202 23 [some (.ref l1), some (.int l2), some (.int l3)] [.int 0, .ref s4] (n, sl, f) Q) : mi_W d 202 22 [some (.ref l1), some (.int l2), some (.int l3)] [.ref s4] (n, sl, f) Q := by
  refine w_iconst (v := 0) cd_202_22 (by decide) ?_
  exact h5
theorem b_202_23 {d : Nat} {Q : (Option Value ⊕ Nat) → mi_H → Prop} (n sl : Nat) (f : Nat → mi_C) {l1 : Nat} {l2 : Int32} {l3 : Int32} {s4 : Int32} {s5 : Nat} {fs6 : List Value} (h7 : f s5 = .inr (12, fs6)) (h8 : s5 < n) (h9 : mi_W d 140 0 (mi_en 3 [.ref s5, .int s4, .int 1]) [] (n, sl, f) (mi_Kc d 202 24 [some (.ref l1), some (.int l2), some (.int l3)] [] Q)) : mi_W (d + 1) 202 23 [some (.ref l1), some (.int l2), some (.int l3)] [.int s4, .ref s5] (n, sl, f) Q := by
  refine w_iconst (v := 1) cd_202_23 (by decide) ?_
  exact w_invokevirtual cd_202_24 (show mt_m 12 254 = some (140, 0) by decide +kernel) (rest := []) rfl (as := [.ref s5, .int s4, .int 1]) rfl h7 (Or.inl h8) ⟨Nat.le_of_ble_eq_true rfl, Nat.le_of_ble_eq_true rfl, Nat.le_of_ble_eq_true rfl⟩ h9
theorem b_202_27 {d : Nat} {Q : (Option Value ⊕ Nat) → mi_H → Prop} (n sl : Nat) (f : Nat → mi_C) {l1 : Nat} {l2 : Int32} {l3 : Int32} {s4 : Int32} (h5 : ¬ s4 = (0 : Int32) → mi_W d 202 59 [some (.ref l1), some (.int l2), some (.int l3)] [] (n, sl, f) Q) (h6 : ¬ (¬ s4 = (0 : Int32)) → mi_W d 202 30 [some (.ref l1), some (.int l2), some (.int l3)] [] (n, sl, f) Q) : mi_W d 202 27 [some (.ref l1), some (.int l2), some (.int l3)] [.int s4] (n, sl, f) Q := by
  exact w_ifne cd_202_27 (by decide) h5 h6
theorem b_202_30 {d : Nat} {Q : (Option Value ⊕ Nat) → mi_H → Prop} (n sl : Nat) (f : Nat → mi_C) {l1 : Nat} {l2 : Int32} {l3 : Int32} {fs4 : List Value} {x7 : Int32} (h5 : f l1 = .inr (12, fs4)) (h6 : l1 < n) (h8 : fs4[75]? = some (.int x7)) (h9 : mi_W d 142 0 (mi_en 6 [.long ((l2 : Int32).toInt64), .long 0, .long (((x7 - 1) : Int32).toInt64)]) [] (n, sl, f) (mi_Kc d 202 41 [some (.ref l1), some (.int l2), some (.int l3)] [.ref l1] Q)) : mi_W (d + 1) 202 30 [some (.ref l1), some (.int l2), some (.int l3)] [] (n, sl, f) Q := by
  refine w_aload_n cd_202_30 rfl ?_
  refine w_iload_n cd_202_31 rfl ?_
  refine w_i2l cd_202_32 ?_
  refine w_lconst (lv := 0) cd_202_33 (by decide) ?_
  refine w_aload_n cd_202_34 rfl ?_
  refine w_getfield cd_202_35 (show mt_f 12 565 = some (12, 75) by decide +kernel) h5 h6 h8 ?_
  refine w_iconst (v := 1) cd_202_38 (by decide) ?_
  refine w_isub cd_202_39 ?_
  refine w_i2l cd_202_40 ?_
  exact w_invokestatic cd_202_41 (show mt_m 12 268 = some (142, 4) by decide +kernel) (by decide) (rest := [.ref l1]) rfl (as := [.long ((l2 : Int32).toInt64), .long 0, .long (((x7 - 1) : Int32).toInt64)]) rfl ⟨Nat.le_of_ble_eq_true rfl, Nat.le_of_ble_eq_true rfl, Nat.le_of_ble_eq_true rfl⟩ h9
theorem b_202_44 {d : Nat} {Q : (Option Value ⊕ Nat) → mi_H → Prop} (n sl : Nat) (f : Nat → mi_C) {l1 : Nat} {l2 : Int32} {l3 : Int32} {s4 : Int32} {s5 : Nat} (h6 : ¬ s4 = (0 : Int32) → mi_W d 202 51 [some (.ref l1), some (.int l2), some (.int l3)] [.ref s5] (n, sl, f) Q) (h7 : ¬ (¬ s4 = (0 : Int32)) → mi_W d 202 47 [some (.ref l1), some (.int l2), some (.int l3)] [.ref s5] (n, sl, f) Q) : mi_W d 202 44 [some (.ref l1), some (.int l2), some (.int l3)] [.int s4, .ref s5] (n, sl, f) Q := by
  exact w_ifne cd_202_44 (by decide) h6 h7
theorem b_202_47 {d : Nat} {Q : (Option Value ⊕ Nat) → mi_H → Prop} (n sl : Nat) (f : Nat → mi_C) {l1 : Nat} {l2 : Int32} {l3 : Int32} {s4 : Nat} (h5 : mi_W d 202 52 [some (.ref l1), some (.int l2), some (.int l3)] [.int 1, .ref s4] (n, sl, f) Q) : mi_W d 202 47 [some (.ref l1), some (.int l2), some (.int l3)] [.ref s4] (n, sl, f) Q := by
  refine w_iconst (v := 1) cd_202_47 (by decide) ?_
  exact w_goto cd_202_48 (by decide) h5
theorem b_202_51 {d : Nat} {Q : (Option Value ⊕ Nat) → mi_H → Prop} (n sl : Nat) (f : Nat → mi_C) {l1 : Nat} {l2 : Int32} {l3 : Int32} {s4 : Nat} (h5 : mi_W d 202 52 [some (.ref l1), some (.int l2), some (.int l3)] [.int 0, .ref s4] (n, sl, f) Q) : mi_W d 202 51 [some (.ref l1), some (.int l2), some (.int l3)] [.ref s4] (n, sl, f) Q := by
  refine w_iconst (v := 0) cd_202_51 (by decide) ?_
  exact h5
theorem b_202_52 {d : Nat} {Q : (Option Value ⊕ Nat) → mi_H → Prop} (n sl : Nat) (f : Nat → mi_C) {l1 : Nat} {l2 : Int32} {l3 : Int32} {s4 : Int32} {s5 : Nat} {fs6 : List Value} (h7 : f s5 = .inr (12, fs6)) (h8 : s5 < n) (h9 : mi_W d 140 0 (mi_en 3 [.ref s5, .int s4, .int 2]) [] (n, sl, f) (mi_Kc d 202 53 [some (.ref l1), some (.int l2), some (.int l3)] [] Q)) : mi_W (d + 1) 202 52 [some (.ref l1), some (.int l2), some (.int l3)] [.int s4, .ref s5] (n, sl, f) Q := by
  refine w_iconst (v := 2) cd_202_52 (by decide) ?_
  exact w_invokevirtual cd_202_53 (show mt_m 12 254 = some (140, 0) by decide +kernel) (rest := []) rfl (as := [.ref s5, .int s4, .int 2]) rfl h7 (Or.inl h8) ⟨Nat.le_of_ble_eq_true rfl, Nat.le_of_ble_eq_true rfl, Nat.le_of_ble_eq_true rfl⟩ h9
theorem b_202_56 {d : Nat} {Q : (Option Value ⊕ Nat) → mi_H → Prop} (n sl : Nat) (f : Nat → mi_C) {l1 : Nat} {l2 : Int32} {l3 : Int32} {s4 : Int32} (h5 : s4 = (0 : Int32) → mi_W d 202 61 [some (.ref l1), some (.int l2), some (.int l3)] [] (n, sl, f) Q) (h6 : ¬ (s4 = (0 : Int32)) → mi_W d 202 59 [some (.ref l1), some (.int l2), some (.int l3)] [] (n, sl, f) Q) : mi_W d 202 56 [some (.ref l1), some (.int l2), some (.int l3)] [.int s4] (n, sl, f) Q := by
  exact w_ifeq cd_202_56 (by decide) h5 h6
theorem b_202_59 {d : Nat} {Q : (Option Value ⊕ Nat) → mi_H → Prop} (n sl : Nat) (f : Nat → mi_C) {l1 : Nat} {l2 : Int32} {l3 : Int32} (h4 : Q (.inl (some (.long 0))) (n, sl, f)) : mi_W d 202 59 [some (.ref l1), some (.int l2), some (.int l3)] [] (n, sl, f) Q := by
  refine w_lconst (lv := 0) cd_202_59 (by decide) ?_
  exact w_lreturn cd_202_60 (by decide +kernel) h4
theorem b_202_61 {d : Nat} {Q : (Option Value ⊕ Nat) → mi_H → Prop} (n sl : Nat) (f : Nat → mi_C) {l1 : Nat} {l2 : Int32} {l3 : Int32} (h4 : ¬ l3 = (0 : Int32) → mi_W d 202 75 [some (.ref l1), some (.int l2), some (.int l3)] [] (n, sl, f) Q) (h5 : ¬ (¬ l3 = (0 : Int32)) → mi_W d 202 65 [some (.ref l1), some (.int l2), some (.int l3)] [] (n, sl, f) Q) : mi_W d 202 61 [some (.ref l1), some (.int l2), some (.int l3)] [] (n, sl, f) Q := by
  refine w_iload_n cd_202_61 rfl ?_
  exact w_ifne cd_202_62 (by decide) h4 h5
theorem b_202_65 {d : Nat} {Q : (Option Value ⊕ Nat) → mi_H → Prop} (n sl : Nat) (f : Nat → mi_C) {l1 : Nat} {l2 : Int32} {l3 : Int32} {fs4 : List Value} {x7 : Nat} (m9 i9 : Nat) (g9 : Nat → Int32) (h5 : f l1 = .inr (12, fs4)) (h6 : l1 < n) (h8 : fs4[78]? = some (.ref x7)) (h10 : f x7 = .inl (0, m9, .inl g9)) (h11 : x7 < n ∨ x7 = mi_SC) (h12 : mi_ix l2 m9 i9) (h13 : mi_W d 202 96 [some (.ref l1), some (.int l2), some (.int l3)] [.long (((g9 i9) : Int32).toInt64)] (n, sl, f) Q) : mi_W d 202 65 [some (.ref l1), some (.int l2), some (.int l3)] [] (n, sl, f) Q := by
  refine w_aload_n cd_202_65 rfl ?_
  refine w_getfield cd_202_66 (show mt_f 12 217 = some (12, 78) by decide +kernel) h5 h6 h8 ?_
  refine w_iload_n cd_202_69 rfl ?_
  refine w_iaload cd_202_70 h10 h11 h12 ?_
  refine w_i2l cd_202_71 ?_
  exact w_goto cd_202_72 (by decide) h13
theorem b_202_75 {d : Nat} {Q : (Option Value ⊕ Nat) → mi_H → Prop} (n sl : Nat) (f : Nat → mi_C) {l1 : Nat} {l2 : Int32} {l3 : Int32} (h4 : ¬ l3 = 1 → mi_W d 202 89 [some (.ref l1), some (.int l2), some (.int l3)] [] (n, sl, f) Q) (h5 : ¬ (¬ l3 = 1) → mi_W d 202 80 [some (.ref l1), some (.int l2), some (.int l3)] [] (n, sl, f) Q) : mi_W d 202 75 [some (.ref l1), some (.int l2), some (.int l3)] [] (n, sl, f) Q := by
  refine w_iload_n cd_202_75 rfl ?_
  refine w_iconst (v := 1) cd_202_76 (by decide) ?_
  exact w_if_icmpne cd_202_77 (by decide) h4 h5
theorem b_202_80 {d : Nat} {Q : (Option Value ⊕ Nat) → mi_H → Prop} (n sl : Nat) (f : Nat → mi_C) {l1 : Nat} {l2 : Int32} {l3 : Int32} {fs4 : List Value} {x7 : Nat} (m9 i9 : Nat) (g9 : Nat → Int64) (h5 : f l1 = .inr (12, fs4)) (h6 : l1 < n) (h8 : fs4[81]? = some (.ref x7)) (h10 : f x7 = .inl (3, m9, .inr (.inl g9))) (h11 : x7 < n) (h12 : mi_ix l2 m9 i9) (h13 : mi_W d 202 96 [some (.ref l1), some (.int l2), some (.int l3)] [.long (g9 i9)] (n, sl, f) Q) : mi_W d 202 80 [some (.ref l1), some (.int l2), some (.int l3)] [] (n, sl, f) Q := by
  refine w_aload_n cd_202_80 rfl ?_
  refine w_getfield cd_202_81 (show mt_f 12 226 = some (12, 81) by decide +kernel) h5 h6 h8 ?_
  refine w_iload_n cd_202_84 rfl ?_
  refine w_laload cd_202_85 h10 h11 h12 ?_
  exact w_goto cd_202_86 (by decide) h13
theorem b_202_89 {d : Nat} {Q : (Option Value ⊕ Nat) → mi_H → Prop} (n sl : Nat) (f : Nat → mi_C) {l1 : Nat} {l2 : Int32} {l3 : Int32} {fs4 : List Value} {x7 : Nat} (m9 i9 : Nat) (g9 : Nat → Int32) (h5 : f l1 = .inr (12, fs4)) (h6 : l1 < n) (h8 : fs4[79]? = some (.ref x7)) (h10 : f x7 = .inl (0, m9, .inl g9)) (h11 : x7 < n ∨ x7 = mi_SC) (h12 : mi_ix l2 m9 i9) (h13 : mi_W d 202 96 [some (.ref l1), some (.int l2), some (.int l3)] [.long (((g9 i9) : Int32).toInt64)] (n, sl, f) Q) : mi_W d 202 89 [some (.ref l1), some (.int l2), some (.int l3)] [] (n, sl, f) Q := by
  refine w_aload_n cd_202_89 rfl ?_
  refine w_getfield cd_202_90 (show mt_f 12 220 = some (12, 79) by decide +kernel) h5 h6 h8 ?_
  refine w_iload_n cd_202_93 rfl ?_
  refine w_iaload cd_202_94 h10 h11 h12 ?_
  refine w_i2l cd_202_95 ?_
  exact h13
theorem b_202_96 {d : Nat} {Q : (Option Value ⊕ Nat) → mi_H → Prop} (n sl : Nat) (f : Nat → mi_C) {l1 : Nat} {l2 : Int32} {l3 : Int32} {s4 : Int64} (h5 : Q (.inl (some (.long s4))) (n, sl, f)) : mi_W d 202 96 [some (.ref l1), some (.int l2), some (.int l3)] [.long s4] (n, sl, f) Q := by
  exact w_lreturn cd_202_96 (by decide +kernel) h5
/-! MarloweHost.count(I)I -/
set_option maxRecDepth 100000 in
theorem mq_134 : mt_q 134 = my_134 := rfl
set_option maxRecDepth 100000 in
theorem ci_134 : mt_inc 0 my_134.cd = true := by decide +kernel
theorem cd_134_0 : mt_cd 134 0 = some (.iload_n 1) := mt_cd_of (q := (0, .iload_n 1, 1)) mq_134 ci_134 (List.mem_of_getElem? (i := 0) rfl)
theorem cd_134_1 : mt_cd 134 1 = some (.ifCond .lt 9) := mt_cd_of (q := (1, .ifCond .lt 9, 3)) mq_134 ci_134 (List.mem_of_getElem? (i := 1) rfl)
theorem cd_134_4 : mt_cd 134 4 = some (.iload_n 1) := mt_cd_of (q := (4, .iload_n 1, 1)) mq_134 ci_134 (List.mem_of_getElem? (i := 2) rfl)
theorem cd_134_5 : mt_cd 134 5 = some (.bipush 10) := mt_cd_of (q := (5, .bipush 10, 2)) mq_134 ci_134 (List.mem_of_getElem? (i := 3) rfl)
theorem cd_134_7 : mt_cd 134 7 = some (.if_icmp .le 13) := mt_cd_of (q := (7, .if_icmp .le 13, 3)) mq_134 ci_134 (List.mem_of_getElem? (i := 4) rfl)
theorem cd_134_10 : mt_cd 134 10 = some (.new 123) := mt_cd_of (q := (10, .new 123, 3)) mq_134 ci_134 (List.mem_of_getElem? (i := 5) rfl)
theorem cd_134_13 : mt_cd 134 13 = some (.dup) := mt_cd_of (q := (13, .dup, 1)) mq_134 ci_134 (List.mem_of_getElem? (i := 6) rfl)
theorem cd_134_14 : mt_cd 134 14 = some (.ldc 226) := mt_cd_of (q := (14, .ldc 226, 2)) mq_134 ci_134 (List.mem_of_getElem? (i := 7) rfl)
theorem cd_134_16 : mt_cd 134 16 = some (.invokespecial 127) := mt_cd_of (q := (16, .invokespecial 127, 3)) mq_134 ci_134 (List.mem_of_getElem? (i := 8) rfl)
theorem cd_134_19 : mt_cd 134 19 = some (.athrow) := mt_cd_of (q := (19, .athrow, 1)) mq_134 ci_134 (List.mem_of_getElem? (i := 9) rfl)
theorem cd_134_20 : mt_cd 134 20 = some (.iload_n 1) := mt_cd_of (q := (20, .iload_n 1, 1)) mq_134 ci_134 (List.mem_of_getElem? (i := 10) rfl)
theorem cd_134_21 : mt_cd 134 21 = some (.tableswitch 124 0 10 #[59, 124, 124, 124, 124, 124, 78, 86, 97, 108, 116]) := mt_cd_of (q := (21, .tableswitch 124 0 10 #[59, 124, 124, 124, 124, 124, 78, 86, 97, 108, 116], 59)) mq_134 ci_134 (List.mem_of_getElem? (i := 11) rfl)
theorem cd_134_80 : mt_cd 134 80 = some (.aload_n 0) := mt_cd_of (q := (80, .aload_n 0, 1)) mq_134 ci_134 (List.mem_of_getElem? (i := 12) rfl)
theorem cd_134_81 : mt_cd 134 81 = some (.getfield 94) := mt_cd_of (q := (81, .getfield 94, 3)) mq_134 ci_134 (List.mem_of_getElem? (i := 13) rfl)
theorem cd_134_84 : mt_cd 134 84 = some (.ifCond .eq 13) := mt_cd_of (q := (84, .ifCond .eq 13, 3)) mq_134 ci_134 (List.mem_of_getElem? (i := 14) rfl)
theorem cd_134_87 : mt_cd 134 87 = some (.aload_n 0) := mt_cd_of (q := (87, .aload_n 0, 1)) mq_134 ci_134 (List.mem_of_getElem? (i := 15) rfl)
theorem cd_134_88 : mt_cd 134 88 = some (.getfield 67) := mt_cd_of (q := (88, .getfield 67, 3)) mq_134 ci_134 (List.mem_of_getElem? (i := 16) rfl)
theorem cd_134_91 : mt_cd 134 91 = some (.getfield 228) := mt_cd_of (q := (91, .getfield 228, 3)) mq_134 ci_134 (List.mem_of_getElem? (i := 17) rfl)
theorem cd_134_94 : mt_cd 134 94 = some (.goto 4) := mt_cd_of (q := (94, .goto 4, 3)) mq_134 ci_134 (List.mem_of_getElem? (i := 18) rfl)
theorem cd_134_97 : mt_cd 134 97 = some (.iconst (-1)) := mt_cd_of (q := (97, .iconst (-1), 1)) mq_134 ci_134 (List.mem_of_getElem? (i := 19) rfl)
theorem cd_134_98 : mt_cd 134 98 = some (.ireturn) := mt_cd_of (q := (98, .ireturn, 1)) mq_134 ci_134 (List.mem_of_getElem? (i := 20) rfl)
theorem cd_134_99 : mt_cd 134 99 = some (.aload_n 0) := mt_cd_of (q := (99, .aload_n 0, 1)) mq_134 ci_134 (List.mem_of_getElem? (i := 21) rfl)
theorem cd_134_100 : mt_cd 134 100 = some (.getfield 42) := mt_cd_of (q := (100, .getfield 42, 3)) mq_134 ci_134 (List.mem_of_getElem? (i := 22) rfl)
theorem cd_134_103 : mt_cd 134 103 = some (.getfield 91) := mt_cd_of (q := (103, .getfield 91, 3)) mq_134 ci_134 (List.mem_of_getElem? (i := 23) rfl)
theorem cd_134_106 : mt_cd 134 106 = some (.ireturn) := mt_cd_of (q := (106, .ireturn, 1)) mq_134 ci_134 (List.mem_of_getElem? (i := 24) rfl)
theorem cd_134_107 : mt_cd 134 107 = some (.aload_n 0) := mt_cd_of (q := (107, .aload_n 0, 1)) mq_134 ci_134 (List.mem_of_getElem? (i := 25) rfl)
theorem cd_134_108 : mt_cd 134 108 = some (.getfield 51) := mt_cd_of (q := (108, .getfield 51, 3)) mq_134 ci_134 (List.mem_of_getElem? (i := 26) rfl)
theorem cd_134_111 : mt_cd 134 111 = some (.getfield 156) := mt_cd_of (q := (111, .getfield 156, 3)) mq_134 ci_134 (List.mem_of_getElem? (i := 27) rfl)
theorem cd_134_114 : mt_cd 134 114 = some (.getfield 160) := mt_cd_of (q := (114, .getfield 160, 3)) mq_134 ci_134 (List.mem_of_getElem? (i := 28) rfl)
theorem cd_134_117 : mt_cd 134 117 = some (.ireturn) := mt_cd_of (q := (117, .ireturn, 1)) mq_134 ci_134 (List.mem_of_getElem? (i := 29) rfl)
theorem cd_134_118 : mt_cd 134 118 = some (.aload_n 0) := mt_cd_of (q := (118, .aload_n 0, 1)) mq_134 ci_134 (List.mem_of_getElem? (i := 30) rfl)
theorem cd_134_119 : mt_cd 134 119 = some (.getfield 51) := mt_cd_of (q := (119, .getfield 51, 3)) mq_134 ci_134 (List.mem_of_getElem? (i := 31) rfl)
theorem cd_134_122 : mt_cd 134 122 = some (.getfield 156) := mt_cd_of (q := (122, .getfield 156, 3)) mq_134 ci_134 (List.mem_of_getElem? (i := 32) rfl)
theorem cd_134_125 : mt_cd 134 125 = some (.getfield 165) := mt_cd_of (q := (125, .getfield 165, 3)) mq_134 ci_134 (List.mem_of_getElem? (i := 33) rfl)
theorem cd_134_128 : mt_cd 134 128 = some (.ireturn) := mt_cd_of (q := (128, .ireturn, 1)) mq_134 ci_134 (List.mem_of_getElem? (i := 34) rfl)
theorem cd_134_129 : mt_cd 134 129 = some (.aload_n 0) := mt_cd_of (q := (129, .aload_n 0, 1)) mq_134 ci_134 (List.mem_of_getElem? (i := 35) rfl)
theorem cd_134_130 : mt_cd 134 130 = some (.getfield 60) := mt_cd_of (q := (130, .getfield 60, 3)) mq_134 ci_134 (List.mem_of_getElem? (i := 36) rfl)
theorem cd_134_133 : mt_cd 134 133 = some (.getfield 231) := mt_cd_of (q := (133, .getfield 231, 3)) mq_134 ci_134 (List.mem_of_getElem? (i := 37) rfl)
theorem cd_134_136 : mt_cd 134 136 = some (.ireturn) := mt_cd_of (q := (136, .ireturn, 1)) mq_134 ci_134 (List.mem_of_getElem? (i := 38) rfl)
theorem cd_134_137 : mt_cd 134 137 = some (.aload_n 0) := mt_cd_of (q := (137, .aload_n 0, 1)) mq_134 ci_134 (List.mem_of_getElem? (i := 39) rfl)
theorem cd_134_138 : mt_cd 134 138 = some (.getfield 60) := mt_cd_of (q := (138, .getfield 60, 3)) mq_134 ci_134 (List.mem_of_getElem? (i := 40) rfl)
theorem cd_134_141 : mt_cd 134 141 = some (.getfield 212) := mt_cd_of (q := (141, .getfield 212, 3)) mq_134 ci_134 (List.mem_of_getElem? (i := 41) rfl)
theorem cd_134_144 : mt_cd 134 144 = some (.ireturn) := mt_cd_of (q := (144, .ireturn, 1)) mq_134 ci_134 (List.mem_of_getElem? (i := 42) rfl)
theorem cd_134_145 : mt_cd 134 145 = some (.aload_n 0) := mt_cd_of (q := (145, .aload_n 0, 1)) mq_134 ci_134 (List.mem_of_getElem? (i := 43) rfl)
theorem cd_134_146 : mt_cd 134 146 = some (.getfield 94) := mt_cd_of (q := (146, .getfield 94, 3)) mq_134 ci_134 (List.mem_of_getElem? (i := 44) rfl)
theorem cd_134_149 : mt_cd 134 149 = some (.ifCond .eq 11) := mt_cd_of (q := (149, .ifCond .eq 11, 3)) mq_134 ci_134 (List.mem_of_getElem? (i := 45) rfl)
theorem cd_134_152 : mt_cd 134 152 = some (.aload_n 0) := mt_cd_of (q := (152, .aload_n 0, 1)) mq_134 ci_134 (List.mem_of_getElem? (i := 46) rfl)
theorem cd_134_153 : mt_cd 134 153 = some (.iload_n 1) := mt_cd_of (q := (153, .iload_n 1, 1)) mq_134 ci_134 (List.mem_of_getElem? (i := 47) rfl)
theorem cd_134_154 : mt_cd 134 154 = some (.invokevirtual 234) := mt_cd_of (q := (154, .invokevirtual 234, 3)) mq_134 ci_134 (List.mem_of_getElem? (i := 48) rfl)
theorem cd_134_157 : mt_cd 134 157 = some (.goto 4) := mt_cd_of (q := (157, .goto 4, 3)) mq_134 ci_134 (List.mem_of_getElem? (i := 49) rfl)
theorem cd_134_160 : mt_cd 134 160 = some (.iconst 0) := mt_cd_of (q := (160, .iconst 0, 1)) mq_134 ci_134 (List.mem_of_getElem? (i := 50) rfl)
theorem cd_134_161 : mt_cd 134 161 = some (.ireturn) := mt_cd_of (q := (161, .ireturn, 1)) mq_134 ci_134 (List.mem_of_getElem? (i := 51) rfl)
theorem b_134_0 {d : Nat} {Q : (Option Value ⊕ Nat) → mi_H → Prop} (n sl : Nat) (f : Nat → mi_C) {l1 : Nat} {l2 : Int32} (h3 : l2 < (0 : Int32) → mi_W d 134 10 [some (.ref l1), some (.int l2)] [] (n, sl, f) Q) (h4 : ¬ (l2 < (0 : Int32)) → mi_W d 134 4 [some (.ref l1), some (.int l2)] [] (n, sl, f) Q) : mi_W d 134 0 [some (.ref l1), some (.int l2)] [] (n, sl, f) Q := by
  refine w_iload_n cd_134_0 rfl ?_
  exact w_iflt cd_134_1 (by decide) h3 h4
theorem b_134_4 {d : Nat} {Q : (Option Value ⊕ Nat) → mi_H → Prop} (n sl : Nat) (f : Nat → mi_C) {l1 : Nat} {l2 : Int32} (h3 : l2 ≤ 10 → mi_W d 134 20 [some (.ref l1), some (.int l2)] [] (n, sl, f) Q) (h4 : ¬ (l2 ≤ 10) → mi_W d 134 10 [some (.ref l1), some (.int l2)] [] (n, sl, f) Q) : mi_W d 134 4 [some (.ref l1), some (.int l2)] [] (n, sl, f) Q := by
  refine w_iload_n cd_134_4 rfl ?_
  refine w_bipush (v := 10) cd_134_5 (by decide) ?_
  exact w_if_icmple cd_134_7 (by decide) h3 h4
theorem b_134_10 {d : Nat} {Q : (Option Value ⊕ Nat) → mi_H → Prop} (n sl : Nat) (f : Nat → mi_C) {l1 : Nat} {l2 : Int32} {h' : mi_H} (h3 : mi_t 134 10 (.new 123) [] (n, sl, f) = some h') (h4 : Q (.inr n) h') : mi_W d 134 10 [some (.ref l1), some (.int l2)] [] (n, sl, f) Q := by
  exact w_throw cd_134_10 (show mt_c 0 123 = some 15 by decide +kernel) (by decide) h3 h4
theorem b_134_20 {d : Nat} {Q : (Option Value ⊕ Nat) → mi_H → Prop} (n sl : Nat) (f : Nat → mi_C) {l1 : Nat} {l2 : Int32} {t3 : Nat} (h4 : mi_ts 21 124 0 10 #[59, 124, 124, 124, 124, 124, 78, 86, 97, 108, 116] (l2 : Int32).toInt = some t3) (h5 : mi_W d 134 t3 [some (.ref l1), some (.int l2)] [] (n, sl, f) Q) : mi_W d 134 20 [some (.ref l1), some (.int l2)] [] (n, sl, f) Q := by
  refine w_iload_n cd_134_20 rfl ?_
  exact w_tableswitch cd_134_21 h4 h5
theorem b_134_80 {d : Nat} {Q : (Option Value ⊕ Nat) → mi_H → Prop} (n sl : Nat) (f : Nat → mi_C) {l1 : Nat} {l2 : Int32} {fs3 : List Value} {x6 : Int32} (h4 : f l1 = .inr (0, fs3)) (h5 : l1 < n) (h7 : fs3[9]? = some (.int x6)) (h8 : x6 = (0 : Int32) → mi_W d 134 97 [some (.ref l1), some (.int l2)] [] (n, sl, f) Q) (h9 : ¬ (x6 = (0 : Int32)) → mi_W d 134 87 [some (.ref l1), some (.int l2)] [] (n, sl, f) Q) : mi_W d 134 80 [some (.ref l1), some (.int l2)] [] (n, sl, f) Q := by
  refine w_aload_n cd_134_80 rfl ?_
  refine w_getfield cd_134_81 (show mt_f 0 94 = some (0, 9) by decide +kernel) h4 h5 h7 ?_
  exact w_ifeq cd_134_84 (by decide) h8 h9
theorem b_134_87 {d : Nat} {Q : (Option Value ⊕ Nat) → mi_H → Prop} (n sl : Nat) (f : Nat → mi_C) {l1 : Nat} {l2 : Int32} {fs3 : List Value} {x6 : Nat} {fs8 : List Value} {x11 : Int32} (h4 : f l1 = .inr (0, fs3)) (h5 : l1 < n) (h7 : fs3[7]? = some (.ref x6)) (h9 : f x6 = .inr (9, fs8)) (h10 : x6 < n) (h12 : fs8[0]? = some (.int x11)) (h13 : mi_W d 134 98 [some (.ref l1), some (.int l2)] [.int x11] (n, sl, f) Q) : mi_W d 134 87 [some (.ref l1), some (.int l2)] [] (n, sl, f) Q := by
  refine w_aload_n cd_134_87 rfl ?_
  refine w_getfield cd_134_88 (show mt_f 0 67 = some (0, 7) by decide +kernel) h4 h5 h7 ?_
  refine w_getfield cd_134_91 (show mt_f 0 228 = some (9, 0) by decide +kernel) h9 h10 h12 ?_
  exact w_goto cd_134_94 (by decide) h13
theorem b_134_97 {d : Nat} {Q : (Option Value ⊕ Nat) → mi_H → Prop} (n sl : Nat) (f : Nat → mi_C) {l1 : Nat} {l2 : Int32} (h3 : mi_W d 134 98 [some (.ref l1), some (.int l2)] [.int (-1)] (n, sl, f) Q) : mi_W d 134 97 [some (.ref l1), some (.int l2)] [] (n, sl, f) Q := by
  refine w_iconst (v := (-1)) cd_134_97 (by decide) ?_
  exact h3
theorem b_134_98 {d : Nat} {Q : (Option Value ⊕ Nat) → mi_H → Prop} (n sl : Nat) (f : Nat → mi_C) {l1 : Nat} {l2 : Int32} {s3 : Int32} (h4 : Q (.inl (some (.int s3))) (n, sl, f)) : mi_W d 134 98 [some (.ref l1), some (.int l2)] [.int s3] (n, sl, f) Q := by
  exact w_ireturn_i cd_134_98 (by decide +kernel) h4
theorem b_134_99 {d : Nat} {Q : (Option Value ⊕ Nat) → mi_H → Prop} (n sl : Nat) (f : Nat → mi_C) {l1 : Nat} {l2 : Int32} {fs3 : List Value} {x6 : Nat} {fs8 : List Value} {x11 : Int32} (h4 : f l1 = .inr (0, fs3)) (h5 : l1 < n) (h7 : fs3[4]? = some (.ref x6)) (h9 : f x6 = .inr (6, fs8)) (h10 : x6 < n) (h12 : fs8[5]? = some (.int x11)) (h13 : Q (.inl (some (.int x11))) (n, sl, f)) : mi_W d 134 99 [some (.ref l1), some (.int l2)] [] (n, sl, f) Q := by
  refine w_aload_n cd_134_99 rfl ?_
  refine w_getfield cd_134_100 (show mt_f 0 42 = some (0, 4) by decide +kernel) h4 h5 h7 ?_
  refine w_getfield cd_134_103 (show mt_f 0 91 = some (6, 5) by decide +kernel) h9 h10 h12 ?_
  exact w_ireturn_i cd_134_106 (by decide +kernel) h13
theorem b_134_107 {d : Nat} {Q : (Option Value ⊕ Nat) → mi_H → Prop} (n sl : Nat) (f : Nat → mi_C) {l1 : Nat} {l2 : Int32} {fs3 : List Value} {x6 : Nat} {fs8 : List Value} {x11 : Nat} {fs13 : List Value} {x16 : Int32} (h4 : f l1 = .inr (0, fs3)) (h5 : l1 < n) (h7 : fs3[5]? = some (.ref x6)) (h9 : f x6 = .inr (7, fs8)) (h10 : x6 < n) (h12 : fs8[7]? = some (.ref x11)) (h14 : f x11 = .inr (8, fs13)) (h15 : x11 < n) (h17 : fs13[6]? = some (.int x16)) (h18 : Q (.inl (some (.int x16))) (n, sl, f)) : mi_W d 134 107 [some (.ref l1), some (.int l2)] [] (n, sl, f) Q := by
  refine w_aload_n cd_134_107 rfl ?_
  refine w_getfield cd_134_108 (show mt_f 0 51 = some (0, 5) by decide +kernel) h4 h5 h7 ?_
  refine w_getfield cd_134_111 (show mt_f 0 156 = some (7, 7) by decide +kernel) h9 h10 h12 ?_
  refine w_getfield cd_134_114 (show mt_f 0 160 = some (8, 6) by decide +kernel) h14 h15 h17 ?_
  exact w_ireturn_i cd_134_117 (by decide +kernel) h18
theorem b_134_118 {d : Nat} {Q : (Option Value ⊕ Nat) → mi_H → Prop} (n sl : Nat) (f : Nat → mi_C) {l1 : Nat} {l2 : Int32} {fs3 : List Value} {x6 : Nat} {fs8 : List Value} {x11 : Nat} {fs13 : List Value} {x16 : Int32} (h4 : f l1 = .inr (0, fs3)) (h5 : l1 < n) (h7 : fs3[5]? = some (.ref x6)) (h9 : f x6 = .inr (7, fs8)) (h10 : x6 < n) (h12 : fs8[7]? = some (.ref x11)) (h14 : f x11 = .inr (8, fs13)) (h15 : x11 < n) (h17 : fs13[7]? = some (.int x16)) (h18 : Q (.inl (some (.int x16))) (n, sl, f)) : mi_W d 134 118 [some (.ref l1), some (.int l2)] [] (n, sl, f) Q := by
  refine w_aload_n cd_134_118 rfl ?_
  refine w_getfield cd_134_119 (show mt_f 0 51 = some (0, 5) by decide +kernel) h4 h5 h7 ?_
  refine w_getfield cd_134_122 (show mt_f 0 156 = some (7, 7) by decide +kernel) h9 h10 h12 ?_
  refine w_getfield cd_134_125 (show mt_f 0 165 = some (8, 7) by decide +kernel) h14 h15 h17 ?_
  exact w_ireturn_i cd_134_128 (by decide +kernel) h18
theorem b_134_129 {d : Nat} {Q : (Option Value ⊕ Nat) → mi_H → Prop} (n sl : Nat) (f : Nat → mi_C) {l1 : Nat} {l2 : Int32} {fs3 : List Value} {x6 : Nat} {fs8 : List Value} {x11 : Int32} (h4 : f l1 = .inr (0, fs3)) (h5 : l1 < n) (h7 : fs3[6]? = some (.ref x6)) (h9 : f x6 = .inr (11, fs8)) (h10 : x6 < n) (h12 : fs8[10]? = some (.int x11)) (h13 : Q (.inl (some (.int x11))) (n, sl, f)) : mi_W d 134 129 [some (.ref l1), some (.int l2)] [] (n, sl, f) Q := by
  refine w_aload_n cd_134_129 rfl ?_
  refine w_getfield cd_134_130 (show mt_f 0 60 = some (0, 6) by decide +kernel) h4 h5 h7 ?_
  refine w_getfield cd_134_133 (show mt_f 0 231 = some (11, 10) by decide +kernel) h9 h10 h12 ?_
  exact w_ireturn_i cd_134_136 (by decide +kernel) h13
theorem b_134_137 {d : Nat} {Q : (Option Value ⊕ Nat) → mi_H → Prop} (n sl : Nat) (f : Nat → mi_C) {l1 : Nat} {l2 : Int32} {fs3 : List Value} {x6 : Nat} {fs8 : List Value} {x11 : Int32} (h4 : f l1 = .inr (0, fs3)) (h5 : l1 < n) (h7 : fs3[6]? = some (.ref x6)) (h9 : f x6 = .inr (11, fs8)) (h10 : x6 < n) (h12 : fs8[11]? = some (.int x11)) (h13 : Q (.inl (some (.int x11))) (n, sl, f)) : mi_W d 134 137 [some (.ref l1), some (.int l2)] [] (n, sl, f) Q := by
  refine w_aload_n cd_134_137 rfl ?_
  refine w_getfield cd_134_138 (show mt_f 0 60 = some (0, 6) by decide +kernel) h4 h5 h7 ?_
  refine w_getfield cd_134_141 (show mt_f 0 212 = some (11, 11) by decide +kernel) h9 h10 h12 ?_
  exact w_ireturn_i cd_134_144 (by decide +kernel) h13
theorem b_134_145 {d : Nat} {Q : (Option Value ⊕ Nat) → mi_H → Prop} (n sl : Nat) (f : Nat → mi_C) {l1 : Nat} {l2 : Int32} {fs3 : List Value} {x6 : Int32} (h4 : f l1 = .inr (0, fs3)) (h5 : l1 < n) (h7 : fs3[9]? = some (.int x6)) (h8 : x6 = (0 : Int32) → mi_W d 134 160 [some (.ref l1), some (.int l2)] [] (n, sl, f) Q) (h9 : ¬ (x6 = (0 : Int32)) → mi_W d 134 152 [some (.ref l1), some (.int l2)] [] (n, sl, f) Q) : mi_W d 134 145 [some (.ref l1), some (.int l2)] [] (n, sl, f) Q := by
  refine w_aload_n cd_134_145 rfl ?_
  refine w_getfield cd_134_146 (show mt_f 0 94 = some (0, 9) by decide +kernel) h4 h5 h7 ?_
  exact w_ifeq cd_134_149 (by decide) h8 h9
theorem b_134_152 {d : Nat} {Q : (Option Value ⊕ Nat) → mi_H → Prop} (n sl : Nat) (f : Nat → mi_C) {l1 : Nat} {l2 : Int32} {fs3 : List Value} (h4 : f l1 = .inr (0, fs3)) (h5 : l1 < n) (h6 : mi_W d 135 0 (mi_en 2 [.ref l1, .int l2]) [] (n, sl, f) (mi_Kc d 134 154 [some (.ref l1), some (.int l2)] [] Q)) : mi_W (d + 1) 134 152 [some (.ref l1), some (.int l2)] [] (n, sl, f) Q := by
  refine w_aload_n cd_134_152 rfl ?_
  refine w_iload_n cd_134_153 rfl ?_
  exact w_invokevirtual cd_134_154 (show mt_m 0 234 = some (135, 0) by decide +kernel) (rest := []) rfl (as := [.ref l1, .int l2]) rfl h4 (Or.inl h5) ⟨Nat.le_of_ble_eq_true rfl, Nat.le_of_ble_eq_true rfl, Nat.le_of_ble_eq_true rfl⟩ h6
theorem b_134_157 {d : Nat} {Q : (Option Value ⊕ Nat) → mi_H → Prop} (n sl : Nat) (f : Nat → mi_C) {l1 : Nat} {l2 : Int32} {s3 : Int32} (h4 : mi_W d 134 161 [some (.ref l1), some (.int l2)] [.int s3] (n, sl, f) Q) : mi_W d 134 157 [some (.ref l1), some (.int l2)] [.int s3] (n, sl, f) Q := by
  exact w_goto cd_134_157 (by decide) h4
theorem b_134_160 {d : Nat} {Q : (Option Value ⊕ Nat) → mi_H → Prop} (n sl : Nat) (f : Nat → mi_C) {l1 : Nat} {l2 : Int32} (h3 : mi_W d 134 161 [some (.ref l1), some (.int l2)] [.int 0] (n, sl, f) Q) : mi_W d 134 160 [some (.ref l1), some (.int l2)] [] (n, sl, f) Q := by
  refine w_iconst (v := 0) cd_134_160 (by decide) ?_
  exact h3
theorem b_134_161 {d : Nat} {Q : (Option Value ⊕ Nat) → mi_H → Prop} (n sl : Nat) (f : Nat → mi_C) {l1 : Nat} {l2 : Int32} {s3 : Int32} (h4 : Q (.inl (some (.int s3))) (n, sl, f)) : mi_W d 134 161 [some (.ref l1), some (.int l2)] [.int s3] (n, sl, f) Q := by
  exact w_ireturn_i cd_134_161 (by decide +kernel) h4
/-! MarloweHost.end(I)I -/
set_option maxRecDepth 100000 in
theorem mq_17 : mt_q 17 = my_17 := rfl
set_option maxRecDepth 100000 in
theorem ci_17 : mt_inc 0 my_17.cd = true := by decide +kernel
theorem cd_17_0 : mt_cd 17 0 = some (.iload_n 1) := mt_cd_of (q := (0, .iload_n 1, 1)) mq_17 ci_17 (List.mem_of_getElem? (i := 0) rfl)
theorem cd_17_1 : mt_cd 17 1 = some (.ifCond .lt 21) := mt_cd_of (q := (1, .ifCond .lt 21, 3)) mq_17 ci_17 (List.mem_of_getElem? (i := 1) rfl)
theorem cd_17_4 : mt_cd 17 4 = some (.iload_n 1) := mt_cd_of (q := (4, .iload_n 1, 1)) mq_17 ci_17 (List.mem_of_getElem? (i := 2) rfl)
theorem cd_17_5 : mt_cd 17 5 = some (.sipush 8192) := mt_cd_of (q := (5, .sipush 8192, 3)) mq_17 ci_17 (List.mem_of_getElem? (i := 3) rfl)
theorem cd_17_8 : mt_cd 17 8 = some (.if_icmp .gt 14) := mt_cd_of (q := (8, .if_icmp .gt 14, 3)) mq_17 ci_17 (List.mem_of_getElem? (i := 4) rfl)
theorem cd_17_11 : mt_cd 17 11 = some (.iload_n 1) := mt_cd_of (q := (11, .iload_n 1, 1)) mq_17 ci_17 (List.mem_of_getElem? (i := 5) rfl)
theorem cd_17_12 : mt_cd 17 12 = some (.aload_n 0) := mt_cd_of (q := (12, .aload_n 0, 1)) mq_17 ci_17 (List.mem_of_getElem? (i := 6) rfl)
theorem cd_17_13 : mt_cd 17 13 = some (.getfield 12) := mt_cd_of (q := (13, .getfield 12, 3)) mq_17 ci_17 (List.mem_of_getElem? (i := 7) rfl)
theorem cd_17_16 : mt_cd 17 16 = some (.getfield 74) := mt_cd_of (q := (16, .getfield 74, 3)) mq_17 ci_17 (List.mem_of_getElem? (i := 8) rfl)
theorem cd_17_19 : mt_cd 17 19 = some (.if_icmp .le 13) := mt_cd_of (q := (19, .if_icmp .le 13, 3)) mq_17 ci_17 (List.mem_of_getElem? (i := 9) rfl)
theorem cd_17_22 : mt_cd 17 22 = some (.new 78) := mt_cd_of (q := (22, .new 78, 3)) mq_17 ci_17 (List.mem_of_getElem? (i := 10) rfl)
theorem cd_17_25 : mt_cd 17 25 = some (.dup) := mt_cd_of (q := (25, .dup, 1)) mq_17 ci_17 (List.mem_of_getElem? (i := 11) rfl)
theorem cd_17_26 : mt_cd 17 26 = some (.ldc 89) := mt_cd_of (q := (26, .ldc 89, 2)) mq_17 ci_17 (List.mem_of_getElem? (i := 12) rfl)
theorem cd_17_28 : mt_cd 17 28 = some (.invokespecial 82) := mt_cd_of (q := (28, .invokespecial 82, 3)) mq_17 ci_17 (List.mem_of_getElem? (i := 13) rfl)
theorem cd_17_31 : mt_cd 17 31 = some (.athrow) := mt_cd_of (q := (31, .athrow, 1)) mq_17 ci_17 (List.mem_of_getElem? (i := 14) rfl)
theorem cd_17_32 : mt_cd 17 32 = some (.aload_n 0) := mt_cd_of (q := (32, .aload_n 0, 1)) mq_17 ci_17 (List.mem_of_getElem? (i := 15) rfl)
theorem cd_17_33 : mt_cd 17 33 = some (.getfield 12) := mt_cd_of (q := (33, .getfield 12, 3)) mq_17 ci_17 (List.mem_of_getElem? (i := 16) rfl)
theorem cd_17_36 : mt_cd 17 36 = some (.iconst 0) := mt_cd_of (q := (36, .iconst 0, 1)) mq_17 ci_17 (List.mem_of_getElem? (i := 17) rfl)
theorem cd_17_37 : mt_cd 17 37 = some (.putfield 74) := mt_cd_of (q := (37, .putfield 74, 3)) mq_17 ci_17 (List.mem_of_getElem? (i := 18) rfl)
theorem cd_17_40 : mt_cd 17 40 = some (.aload_n 0) := mt_cd_of (q := (40, .aload_n 0, 1)) mq_17 ci_17 (List.mem_of_getElem? (i := 19) rfl)
theorem cd_17_41 : mt_cd 17 41 = some (.getfield 42) := mt_cd_of (q := (41, .getfield 42, 3)) mq_17 ci_17 (List.mem_of_getElem? (i := 20) rfl)
theorem cd_17_44 : mt_cd 17 44 = some (.iconst 0) := mt_cd_of (q := (44, .iconst 0, 1)) mq_17 ci_17 (List.mem_of_getElem? (i := 21) rfl)
theorem cd_17_45 : mt_cd 17 45 = some (.putfield 91) := mt_cd_of (q := (45, .putfield 91, 3)) mq_17 ci_17 (List.mem_of_getElem? (i := 22) rfl)
theorem cd_17_48 : mt_cd 17 48 = some (.aload_n 0) := mt_cd_of (q := (48, .aload_n 0, 1)) mq_17 ci_17 (List.mem_of_getElem? (i := 23) rfl)
theorem cd_17_49 : mt_cd 17 49 = some (.iconst 0) := mt_cd_of (q := (49, .iconst 0, 1)) mq_17 ci_17 (List.mem_of_getElem? (i := 24) rfl)
theorem cd_17_50 : mt_cd 17 50 = some (.putfield 94) := mt_cd_of (q := (50, .putfield 94, 3)) mq_17 ci_17 (List.mem_of_getElem? (i := 25) rfl)
theorem cd_17_53 : mt_cd 17 53 = some (.aload_n 0) := mt_cd_of (q := (53, .aload_n 0, 1)) mq_17 ci_17 (List.mem_of_getElem? (i := 26) rfl)
theorem cd_17_54 : mt_cd 17 54 = some (.getfield 28) := mt_cd_of (q := (54, .getfield 28, 3)) mq_17 ci_17 (List.mem_of_getElem? (i := 27) rfl)
theorem cd_17_57 : mt_cd 17 57 = some (.iload_n 1) := mt_cd_of (q := (57, .iload_n 1, 1)) mq_17 ci_17 (List.mem_of_getElem? (i := 28) rfl)
theorem cd_17_58 : mt_cd 17 58 = some (.invokevirtual 98) := mt_cd_of (q := (58, .invokevirtual 98, 3)) mq_17 ci_17 (List.mem_of_getElem? (i := 29) rfl)
theorem cd_17_61 : mt_cd 17 61 = some (.aload_n 0) := mt_cd_of (q := (61, .aload_n 0, 1)) mq_17 ci_17 (List.mem_of_getElem? (i := 30) rfl)
theorem cd_17_62 : mt_cd 17 62 = some (.getfield 28) := mt_cd_of (q := (62, .getfield 28, 3)) mq_17 ci_17 (List.mem_of_getElem? (i := 31) rfl)
theorem cd_17_65 : mt_cd 17 65 = some (.iconst 1) := mt_cd_of (q := (65, .iconst 1, 1)) mq_17 ci_17 (List.mem_of_getElem? (i := 32) rfl)
theorem cd_17_66 : mt_cd 17 66 = some (.invokevirtual 101) := mt_cd_of (q := (66, .invokevirtual 101, 3)) mq_17 ci_17 (List.mem_of_getElem? (i := 33) rfl)
theorem cd_17_69 : mt_cd 17 69 = some (.pop) := mt_cd_of (q := (69, .pop, 1)) mq_17 ci_17 (List.mem_of_getElem? (i := 34) rfl)
theorem cd_17_70 : mt_cd 17 70 = some (.aload_n 0) := mt_cd_of (q := (70, .aload_n 0, 1)) mq_17 ci_17 (List.mem_of_getElem? (i := 35) rfl)
theorem cd_17_71 : mt_cd 17 71 = some (.getfield 28) := mt_cd_of (q := (71, .getfield 28, 3)) mq_17 ci_17 (List.mem_of_getElem? (i := 36) rfl)
theorem cd_17_74 : mt_cd 17 74 = some (.invokevirtual 105) := mt_cd_of (q := (74, .invokevirtual 105, 3)) mq_17 ci_17 (List.mem_of_getElem? (i := 37) rfl)
theorem cd_17_77 : mt_cd 17 77 = some (.aload_n 0) := mt_cd_of (q := (77, .aload_n 0, 1)) mq_17 ci_17 (List.mem_of_getElem? (i := 38) rfl)
theorem cd_17_78 : mt_cd 17 78 = some (.iconst 1) := mt_cd_of (q := (78, .iconst 1, 1)) mq_17 ci_17 (List.mem_of_getElem? (i := 39) rfl)
theorem cd_17_79 : mt_cd 17 79 = some (.putfield 94) := mt_cd_of (q := (79, .putfield 94, 3)) mq_17 ci_17 (List.mem_of_getElem? (i := 40) rfl)
theorem cd_17_82 : mt_cd 17 82 = some (.aload_n 0) := mt_cd_of (q := (82, .aload_n 0, 1)) mq_17 ci_17 (List.mem_of_getElem? (i := 41) rfl)
theorem cd_17_83 : mt_cd 17 83 = some (.getfield 67) := mt_cd_of (q := (83, .getfield 67, 3)) mq_17 ci_17 (List.mem_of_getElem? (i := 42) rfl)
theorem cd_17_86 : mt_cd 17 86 = some (.invokevirtual 108) := mt_cd_of (q := (86, .invokevirtual 108, 3)) mq_17 ci_17 (List.mem_of_getElem? (i := 43) rfl)
theorem cd_17_89 : mt_cd 17 89 = some (.aload_n 0) := mt_cd_of (q := (89, .aload_n 0, 1)) mq_17 ci_17 (List.mem_of_getElem? (i := 44) rfl)
theorem cd_17_90 : mt_cd 17 90 = some (.getfield 19) := mt_cd_of (q := (90, .getfield 19, 3)) mq_17 ci_17 (List.mem_of_getElem? (i := 45) rfl)
theorem cd_17_93 : mt_cd 17 93 = some (.getfield 110) := mt_cd_of (q := (93, .getfield 110, 3)) mq_17 ci_17 (List.mem_of_getElem? (i := 46) rfl)
theorem cd_17_96 : mt_cd 17 96 = some (.ireturn) := mt_cd_of (q := (96, .ireturn, 1)) mq_17 ci_17 (List.mem_of_getElem? (i := 47) rfl)
theorem b_17_0 {d : Nat} {Q : (Option Value ⊕ Nat) → mi_H → Prop} (n sl : Nat) (f : Nat → mi_C) {l1 : Nat} {l2 : Int32} (h3 : l2 < (0 : Int32) → mi_W d 17 22 [some (.ref l1), some (.int l2)] [] (n, sl, f) Q) (h4 : ¬ (l2 < (0 : Int32)) → mi_W d 17 4 [some (.ref l1), some (.int l2)] [] (n, sl, f) Q) : mi_W d 17 0 [some (.ref l1), some (.int l2)] [] (n, sl, f) Q := by
  refine w_iload_n cd_17_0 rfl ?_
  exact w_iflt cd_17_1 (by decide) h3 h4
theorem b_17_4 {d : Nat} {Q : (Option Value ⊕ Nat) → mi_H → Prop} (n sl : Nat) (f : Nat → mi_C) {l1 : Nat} {l2 : Int32} (h3 : 8192 < l2 → mi_W d 17 22 [some (.ref l1), some (.int l2)] [] (n, sl, f) Q) (h4 : ¬ (8192 < l2) → mi_W d 17 11 [some (.ref l1), some (.int l2)] [] (n, sl, f) Q) : mi_W d 17 4 [some (.ref l1), some (.int l2)] [] (n, sl, f) Q := by
  refine w_iload_n cd_17_4 rfl ?_
  refine w_sipush (v := 8192) cd_17_5 (by decide) ?_
  exact w_if_icmpgt cd_17_8 (by decide) h3 h4
theorem b_17_11 {d : Nat} {Q : (Option Value ⊕ Nat) → mi_H → Prop} (n sl : Nat) (f : Nat → mi_C) {l1 : Nat} {l2 : Int32} {fs3 : List Value} {x6 : Nat} {fs8 : List Value} {x11 : Int32} (h4 : f l1 = .inr (0, fs3)) (h5 : l1 < n) (h7 : fs3[0]? = some (.ref x6)) (h9 : f x6 = .inr (1, fs8)) (h10 : x6 < n) (h12 : fs8[1]? = some (.int x11)) (h13 : l2 ≤ x11 → mi_W d 17 32 [some (.ref l1), some (.int l2)] [] (n, sl, f) Q) (h14 : ¬ (l2 ≤ x11) → mi_W d 17 22 [some (.ref l1), some (.int l2)] [] (n, sl, f) Q) : mi_W d 17 11 [some (.ref l1), some (.int l2)] [] (n, sl, f) Q := by
  refine w_iload_n cd_17_11 rfl ?_
  refine w_aload_n cd_17_12 rfl ?_
  refine w_getfield cd_17_13 (show mt_f 0 12 = some (0, 0) by decide +kernel) h4 h5 h7 ?_
  refine w_getfield cd_17_16 (show mt_f 0 74 = some (1, 1) by decide +kernel) h9 h10 h12 ?_
  exact w_if_icmple cd_17_19 (by decide) h13 h14
theorem b_17_22 {d : Nat} {Q : (Option Value ⊕ Nat) → mi_H → Prop} (n sl : Nat) (f : Nat → mi_C) {l1 : Nat} {l2 : Int32} {h' : mi_H} (h3 : mi_t 17 22 (.new 78) [] (n, sl, f) = some h') (h4 : Q (.inr n) h') : mi_W d 17 22 [some (.ref l1), some (.int l2)] [] (n, sl, f) Q := by
  exact w_throw cd_17_22 (show mt_c 0 78 = some 14 by decide +kernel) (by decide) h3 h4
theorem b_17_32 {d : Nat} {Q : (Option Value ⊕ Nat) → mi_H → Prop} (n sl : Nat) (f : Nat → mi_C) {l1 : Nat} {l2 : Int32} {fs3 : List Value} {x6 : Nat} {fs8 : List Value} {fs12 : List Value} {x15 : Nat} {fs17 : List Value} {fs21 : List Value} {fs26 : List Value} {x29 : Nat} {fs31 : List Value} (h4 : f l1 = .inr (0, fs3)) (h5 : l1 < n) (h7 : fs3[0]? = some (.ref x6)) (h9 : f x6 = .inr (1, fs8)) (h10 : x6 < n) (h11 : 1 < fs8.length) (h13 : (va_up f x6 (.inr (1, fs8.set 1 (.int 0)))) l1 = .inr (0, fs12)) (h14 : l1 < n) (h16 : fs12[4]? = some (.ref x15)) (h18 : (va_up f x6 (.inr (1, fs8.set 1 (.int 0)))) x15 = .inr (6, fs17)) (h19 : x15 < n) (h20 : 5 < fs17.length) (h22 : (va_up (va_up f x6 (.inr (1, fs8.set 1 (.int 0)))) x15 (.inr (6, fs17.set 5 (.int 0)))) l1 = .inr (0, fs21)) (h23 : l1 < n) (h24 : 9 < fs21.length) (h25 : mi_fk .boolean (.int 0) = true) (h27 : (va_up (va_up (va_up f x6 (.inr (1, fs8.set 1 (.int 0)))) x15 (.inr (6, fs17.set 5 (.int 0)))) l1 (.inr (0, fs21.set 9 (.int 0)))) l1 = .inr (0, fs26)) (h28 : l1 < n) (h30 : fs26[2]? = some (.ref x29)) (h32 : (va_up (va_up (va_up f x6 (.inr (1, fs8.set 1 (.int 0)))) x15 (.inr (6, fs17.set 5 (.int 0)))) l1 (.inr (0, fs21.set 9 (.int 0)))) x29 = .inr (3, fs31)) (h33 : x29 < n) (h34 : mi_W d 18 0 (mi_en 3 [.ref x29, .int l2]) [] (n, sl, (va_up (va_up (va_up f x6 (.inr (1, fs8.set 1 (.int 0)))) x15 (.inr (6, fs17.set 5 (.int 0)))) l1 (.inr (0, fs21.set 9 (.int 0))))) (mi_Kc d 17 58 [some (.ref l1), some (.int l2)] [] Q)) : mi_W (d + 1) 17 32 [some (.ref l1), some (.int l2)] [] (n, sl, f) Q := by
  refine w_aload_n cd_17_32 rfl ?_
  refine w_getfield cd_17_33 (show mt_f 0 12 = some (0, 0) by decide +kernel) h4 h5 h7 ?_
  refine w_iconst (v := 0) cd_17_36 (by decide) ?_
  refine w_putfield (w := .int 0) cd_17_37 (show mt_f 0 74 = some (1, 1) by decide +kernel) h9 h10 ⟨h11, rfl, Or.inl (by decide)⟩ ?_
  refine w_aload_n cd_17_40 rfl ?_
  refine w_getfield cd_17_41 (show mt_f 0 42 = some (0, 4) by decide +kernel) h13 h14 h16 ?_
  refine w_iconst (v := 0) cd_17_44 (by decide) ?_
  refine w_putfield (w := .int 0) cd_17_45 (show mt_f 0 91 = some (6, 5) by decide +kernel) h18 h19 ⟨h20, rfl, Or.inl (by decide)⟩ ?_
  refine w_aload_n cd_17_48 rfl ?_
  refine w_iconst (v := 0) cd_17_49 (by decide) ?_
  refine w_putfield (w := .int 0) cd_17_50 (show mt_f 0 94 = some (0, 9) by decide +kernel) h22 h23 ⟨h24, h25, Or.inl (by decide)⟩ ?_
  refine w_aload_n cd_17_53 rfl ?_
  refine w_getfield cd_17_54 (show mt_f 0 28 = some (0, 2) by decide +kernel) h27 h28 h30 ?_
  refine w_iload_n cd_17_57 rfl ?_
  exact w_invokevirtual cd_17_58 (show mt_m 0 98 = some (18, 0) by decide +kernel) (rest := []) rfl (as := [.ref x29, .int l2]) rfl h32 (Or.inl h33) ⟨Nat.le_of_ble_eq_true rfl, Nat.le_of_ble_eq_true rfl, Nat.le_of_ble_eq_true rfl⟩ h34
theorem b_17_61 {d : Nat} {Q : (Option Value ⊕ Nat) → mi_H → Prop} (n sl : Nat) (f : Nat → mi_C) {l1 : Nat} {l2 : Int32} {fs3 : List Value} {x6 : Nat} {fs8 : List Value} (h4 : f l1 = .inr (0, fs3)) (h5 : l1 < n) (h7 : fs3[2]? = some (.ref x6)) (h9 : f x6 = .inr (3, fs8)) (h10 : x6 < n) (h11 : mi_W d 37 0 (mi_en 6 [.ref x6, .int 1]) [] (n, sl, f) (mi_Kc d 17 66 [some (.ref l1), some (.int l2)] [] Q)) : mi_W (d + 1) 17 61 [some (.ref l1), some (.int l2)] [] (n, sl, f) Q := by
  refine w_aload_n cd_17_61 rfl ?_
  refine w_getfield cd_17_62 (show mt_f 0 28 = some (0, 2) by decide +kernel) h4 h5 h7 ?_
  refine w_iconst (v := 1) cd_17_65 (by decide) ?_
  exact w_invokevirtual cd_17_66 (show mt_m 0 101 = some (37, 0) by decide +kernel) (rest := []) rfl (as := [.ref x6, .int 1]) rfl h9 (Or.inl h10) ⟨Nat.le_of_ble_eq_true rfl, Nat.le_of_ble_eq_true rfl, Nat.le_of_ble_eq_true rfl⟩ h11
theorem b_17_69 {d : Nat} {Q : (Option Value ⊕ Nat) → mi_H → Prop} (n sl : Nat) (f : Nat → mi_C) {l1 : Nat} {l2 : Int32} {s3 : Int32} {fs4 : List Value} {x7 : Nat} {fs9 : List Value} (h5 : f l1 = .inr (0, fs4)) (h6 : l1 < n) (h8 : fs4[2]? = some (.ref x7)) (h10 : f x7 = .inr (3, fs9)) (h11 : x7 < n) (h12 : mi_W d 55 0 (mi_en 1 [.ref x7]) [] (n, sl, f) (mi_Kc d 17 74 [some (.ref l1), some (.int l2)] [] Q)) : mi_W (d + 1) 17 69 [some (.ref l1), some (.int l2)] [.int s3] (n, sl, f) Q := by
  refine w_pop_i cd_17_69 ?_
  refine w_aload_n cd_17_70 rfl ?_
  refine w_getfield cd_17_71 (show mt_f 0 28 = some (0, 2) by decide +kernel) h5 h6 h8 ?_
  exact w_invokevirtual cd_17_74 (show mt_m 0 105 = some (55, 0) by decide +kernel) (rest := []) rfl (as := [.ref x7]) rfl h10 (Or.inl h11) ⟨Nat.le_of_ble_eq_true rfl, Nat.le_of_ble_eq_true rfl, Nat.le_of_ble_eq_true rfl⟩ h12
theorem b_17_77 {d : Nat} {Q : (Option Value ⊕ Nat) → mi_H → Prop} (n sl : Nat) (f : Nat → mi_C) {l1 : Nat} {l2 : Int32} {fs3 : List Value} {fs8 : List Value} {x11 : Nat} {fs13 : List Value} (h4 : f l1 = .inr (0, fs3)) (h5 : l1 < n) (h6 : 9 < fs3.length) (h7 : mi_fk .boolean (.int 1) = true) (h9 : (va_up f l1 (.inr (0, fs3.set 9 (.int 1)))) l1 = .inr (0, fs8)) (h10 : l1 < n) (h12 : fs8[7]? = some (.ref x11)) (h14 : (va_up f l1 (.inr (0, fs3.set 9 (.int 1)))) x11 = .inr (9, fs13)) (h15 : x11 < n) (h16 : mi_W d 56 0 (mi_en 1 [.ref x11]) [] (n, sl, (va_up f l1 (.inr (0, fs3.set 9 (.int 1))))) (mi_Kc d 17 86 [some (.ref l1), some (.int l2)] [] Q)) : mi_W (d + 1) 17 77 [some (.ref l1), some (.int l2)] [] (n, sl, f) Q := by
  refine w_aload_n cd_17_77 rfl ?_
  refine w_iconst (v := 1) cd_17_78 (by decide) ?_
  refine w_putfield (w := .int 1) cd_17_79 (show mt_f 0 94 = some (0, 9) by decide +kernel) h4 h5 ⟨h6, h7, Or.inl (by decide)⟩ ?_
  refine w_aload_n cd_17_82 rfl ?_
  refine w_getfield cd_17_83 (show mt_f 0 67 = some (0, 7) by decide +kernel) h9 h10 h12 ?_
  exact w_invokevirtual cd_17_86 (show mt_m 0 108 = some (56, 0) by decide +kernel) (rest := []) rfl (as := [.ref x11]) rfl h14 (Or.inl h15) ⟨Nat.le_of_ble_eq_true rfl, Nat.le_of_ble_eq_true rfl, Nat.le_of_ble_eq_true rfl⟩ h16
theorem b_17_89 {d : Nat} {Q : (Option Value ⊕ Nat) → mi_H → Prop} (n sl : Nat) (f : Nat → mi_C) {l1 : Nat} {l2 : Int32} {fs3 : List Value} {x6 : Nat} {fs8 : List Value} {x11 : Int32} (h4 : f l1 = .inr (0, fs3)) (h5 : l1 < n) (h7 : fs3[1]? = some (.ref x6)) (h9 : f x6 = .inr (2, fs8)) (h10 : x6 < n) (h12 : fs8[11]? = some (.int x11)) (h13 : Q (.inl (some (.int x11))) (n, sl, f)) : mi_W d 17 89 [some (.ref l1), some (.int l2)] [] (n, sl, f) Q := by
  refine w_aload_n cd_17_89 rfl ?_
  refine w_getfield cd_17_90 (show mt_f 0 19 = some (0, 1) by decide +kernel) h4 h5 h7 ?_
  refine w_getfield cd_17_93 (show mt_f 0 110 = some (2, 11) by decide +kernel) h9 h10 h12 ?_
  exact w_ireturn_i cd_17_96 (by decide +kernel) h13
/-! MarloweHost.feed(IIIII)I -/
set_option maxRecDepth 100000 in
theorem mq_14 : mt_q 14 = my_14 := rfl
set_option maxRecDepth 100000 in
theorem ci_14 : mt_inc 0 my_14.cd = true := by decide +kernel
theorem cd_14_0 : mt_cd 14 0 = some (.aload_n 0) := mt_cd_of (q := (0, .aload_n 0, 1)) mq_14 ci_14 (List.mem_of_getElem? (i := 0) rfl)
theorem cd_14_1 : mt_cd 14 1 = some (.getfield 12) := mt_cd_of (q := (1, .getfield 12, 3)) mq_14 ci_14 (List.mem_of_getElem? (i := 1) rfl)
theorem cd_14_4 : mt_cd 14 4 = some (.getfield 74) := mt_cd_of (q := (4, .getfield 74, 3)) mq_14 ci_14 (List.mem_of_getElem? (i := 2) rfl)
theorem cd_14_7 : mt_cd 14 7 = some (.bipush 20) := mt_cd_of (q := (7, .bipush 20, 2)) mq_14 ci_14 (List.mem_of_getElem? (i := 3) rfl)
theorem cd_14_9 : mt_cd 14 9 = some (.iadd) := mt_cd_of (q := (9, .iadd, 1)) mq_14 ci_14 (List.mem_of_getElem? (i := 4) rfl)
theorem cd_14_10 : mt_cd 14 10 = some (.sipush 8200) := mt_cd_of (q := (10, .sipush 8200, 3)) mq_14 ci_14 (List.mem_of_getElem? (i := 5) rfl)
theorem cd_14_13 : mt_cd 14 13 = some (.if_icmp .le 13) := mt_cd_of (q := (13, .if_icmp .le 13, 3)) mq_14 ci_14 (List.mem_of_getElem? (i := 6) rfl)
theorem cd_14_16 : mt_cd 14 16 = some (.new 78) := mt_cd_of (q := (16, .new 78, 3)) mq_14 ci_14 (List.mem_of_getElem? (i := 7) rfl)
theorem cd_14_19 : mt_cd 14 19 = some (.dup) := mt_cd_of (q := (19, .dup, 1)) mq_14 ci_14 (List.mem_of_getElem? (i := 8) rfl)
theorem cd_14_20 : mt_cd 14 20 = some (.ldc 80) := mt_cd_of (q := (20, .ldc 80, 2)) mq_14 ci_14 (List.mem_of_getElem? (i := 9) rfl)
theorem cd_14_22 : mt_cd 14 22 = some (.invokespecial 82) := mt_cd_of (q := (22, .invokespecial 82, 3)) mq_14 ci_14 (List.mem_of_getElem? (i := 10) rfl)
theorem cd_14_25 : mt_cd 14 25 = some (.athrow) := mt_cd_of (q := (25, .athrow, 1)) mq_14 ci_14 (List.mem_of_getElem? (i := 11) rfl)
theorem cd_14_26 : mt_cd 14 26 = some (.aload_n 0) := mt_cd_of (q := (26, .aload_n 0, 1)) mq_14 ci_14 (List.mem_of_getElem? (i := 12) rfl)
theorem cd_14_27 : mt_cd 14 27 = some (.getfield 12) := mt_cd_of (q := (27, .getfield 12, 3)) mq_14 ci_14 (List.mem_of_getElem? (i := 13) rfl)
theorem cd_14_30 : mt_cd 14 30 = some (.iload_n 1) := mt_cd_of (q := (30, .iload_n 1, 1)) mq_14 ci_14 (List.mem_of_getElem? (i := 14) rfl)
theorem cd_14_31 : mt_cd 14 31 = some (.invokevirtual 85) := mt_cd_of (q := (31, .invokevirtual 85, 3)) mq_14 ci_14 (List.mem_of_getElem? (i := 15) rfl)
theorem cd_14_34 : mt_cd 14 34 = some (.aload_n 0) := mt_cd_of (q := (34, .aload_n 0, 1)) mq_14 ci_14 (List.mem_of_getElem? (i := 16) rfl)
theorem cd_14_35 : mt_cd 14 35 = some (.getfield 12) := mt_cd_of (q := (35, .getfield 12, 3)) mq_14 ci_14 (List.mem_of_getElem? (i := 17) rfl)
theorem cd_14_38 : mt_cd 14 38 = some (.iload_n 2) := mt_cd_of (q := (38, .iload_n 2, 1)) mq_14 ci_14 (List.mem_of_getElem? (i := 18) rfl)
theorem cd_14_39 : mt_cd 14 39 = some (.invokevirtual 85) := mt_cd_of (q := (39, .invokevirtual 85, 3)) mq_14 ci_14 (List.mem_of_getElem? (i := 19) rfl)
theorem cd_14_42 : mt_cd 14 42 = some (.aload_n 0) := mt_cd_of (q := (42, .aload_n 0, 1)) mq_14 ci_14 (List.mem_of_getElem? (i := 20) rfl)
theorem cd_14_43 : mt_cd 14 43 = some (.getfield 12) := mt_cd_of (q := (43, .getfield 12, 3)) mq_14 ci_14 (List.mem_of_getElem? (i := 21) rfl)
theorem cd_14_46 : mt_cd 14 46 = some (.iload_n 3) := mt_cd_of (q := (46, .iload_n 3, 1)) mq_14 ci_14 (List.mem_of_getElem? (i := 22) rfl)
theorem cd_14_47 : mt_cd 14 47 = some (.invokevirtual 85) := mt_cd_of (q := (47, .invokevirtual 85, 3)) mq_14 ci_14 (List.mem_of_getElem? (i := 23) rfl)
theorem cd_14_50 : mt_cd 14 50 = some (.aload_n 0) := mt_cd_of (q := (50, .aload_n 0, 1)) mq_14 ci_14 (List.mem_of_getElem? (i := 24) rfl)
theorem cd_14_51 : mt_cd 14 51 = some (.getfield 12) := mt_cd_of (q := (51, .getfield 12, 3)) mq_14 ci_14 (List.mem_of_getElem? (i := 25) rfl)
theorem cd_14_54 : mt_cd 14 54 = some (.iload 4) := mt_cd_of (q := (54, .iload 4, 2)) mq_14 ci_14 (List.mem_of_getElem? (i := 26) rfl)
theorem cd_14_56 : mt_cd 14 56 = some (.invokevirtual 85) := mt_cd_of (q := (56, .invokevirtual 85, 3)) mq_14 ci_14 (List.mem_of_getElem? (i := 27) rfl)
theorem cd_14_59 : mt_cd 14 59 = some (.aload_n 0) := mt_cd_of (q := (59, .aload_n 0, 1)) mq_14 ci_14 (List.mem_of_getElem? (i := 28) rfl)
theorem cd_14_60 : mt_cd 14 60 = some (.getfield 12) := mt_cd_of (q := (60, .getfield 12, 3)) mq_14 ci_14 (List.mem_of_getElem? (i := 29) rfl)
theorem cd_14_63 : mt_cd 14 63 = some (.iload 5) := mt_cd_of (q := (63, .iload 5, 2)) mq_14 ci_14 (List.mem_of_getElem? (i := 30) rfl)
theorem cd_14_65 : mt_cd 14 65 = some (.invokevirtual 85) := mt_cd_of (q := (65, .invokevirtual 85, 3)) mq_14 ci_14 (List.mem_of_getElem? (i := 31) rfl)
theorem cd_14_68 : mt_cd 14 68 = some (.aload_n 0) := mt_cd_of (q := (68, .aload_n 0, 1)) mq_14 ci_14 (List.mem_of_getElem? (i := 32) rfl)
theorem cd_14_69 : mt_cd 14 69 = some (.getfield 12) := mt_cd_of (q := (69, .getfield 12, 3)) mq_14 ci_14 (List.mem_of_getElem? (i := 33) rfl)
theorem cd_14_72 : mt_cd 14 72 = some (.getfield 74) := mt_cd_of (q := (72, .getfield 74, 3)) mq_14 ci_14 (List.mem_of_getElem? (i := 34) rfl)
theorem cd_14_75 : mt_cd 14 75 = some (.ireturn) := mt_cd_of (q := (75, .ireturn, 1)) mq_14 ci_14 (List.mem_of_getElem? (i := 35) rfl)
theorem b_14_0 {d : Nat} {Q : (Option Value ⊕ Nat) → mi_H → Prop} (n sl : Nat) (f : Nat → mi_C) {l1 : Nat} {l2 : Int32} {l3 : Int32} {l4 : Int32} {l5 : Int32} {l6 : Int32} {fs7 : List Value} {x10 : Nat} {fs12 : List Value} {x15 : Int32} (h8 : f l1 = .inr (0, fs7)) (h9 : l1 < n) (h11 : fs7[0]? = some (.ref x10)) (h13 : f x10 = .inr (1, fs12)) (h14 : x10 < n) (h16 : fs12[1]? = some (.int x15)) (h17 : (x15 + 20) ≤ 8200 → mi_W d 14 26 [some (.ref l1), some (.int l2), some (.int l3), some (.int l4), some (.int l5), some (.int l6)] [] (n, sl, f) Q) (h18 : ¬ ((x15 + 20) ≤ 8200) → mi_W d 14 16 [some (.ref l1), some (.int l2), some (.int l3), some (.int l4), some (.int l5), some (.int l6)] [] (n, sl, f) Q) : mi_W d 14 0 [some (.ref l1), some (.int l2), some (.int l3), some (.int l4), some (.int l5), some (.int l6)] [] (n, sl, f) Q := by
  refine w_aload_n cd_14_0 rfl ?_
  refine w_getfield cd_14_1 (show mt_f 0 12 = some (0, 0) by decide +kernel) h8 h9 h11 ?_
  refine w_getfield cd_14_4 (show mt_f 0 74 = some (1, 1) by decide +kernel) h13 h14 h16 ?_
  refine w_bipush (v := 20) cd_14_7 (by decide) ?_
  refine w_iadd cd_14_9 ?_
  refine w_sipush (v := 8200) cd_14_10 (by decide) ?_
  exact w_if_icmple cd_14_13 (by decide) h17 h18
theorem b_14_16 {d : Nat} {Q : (Option Value ⊕ Nat) → mi_H → Prop} (n sl : Nat) (f : Nat → mi_C) {l1 : Nat} {l2 : Int32} {l3 : Int32} {l4 : Int32} {l5 : Int32} {l6 : Int32} {h' : mi_H} (h7 : mi_t 14 16 (.new 78) [] (n, sl, f) = some h') (h8 : Q (.inr n) h') : mi_W d 14 16 [some (.ref l1), some (.int l2), some (.int l3), some (.int l4), some (.int l5), some (.int l6)] [] (n, sl, f) Q := by
  exact w_throw cd_14_16 (show mt_c 0 78 = some 14 by decide +kernel) (by decide) h7 h8
theorem b_14_26 {d : Nat} {Q : (Option Value ⊕ Nat) → mi_H → Prop} (n sl : Nat) (f : Nat → mi_C) {l1 : Nat} {l2 : Int32} {l3 : Int32} {l4 : Int32} {l5 : Int32} {l6 : Int32} {fs7 : List Value} {x10 : Nat} {fs12 : List Value} (h8 : f l1 = .inr (0, fs7)) (h9 : l1 < n) (h11 : fs7[0]? = some (.ref x10)) (h13 : f x10 = .inr (1, fs12)) (h14 : x10 < n) (h15 : mi_W d 15 0 (mi_en 3 [.ref x10, .int l2]) [] (n, sl, f) (mi_Kc d 14 31 [some (.ref l1), some (.int l2), some (.int l3), some (.int l4), some (.int l5), some (.int l6)] [] Q)) : mi_W (d + 1) 14 26 [some (.ref l1), some (.int l2), some (.int l3), some (.int l4), some (.int l5), some (.int l6)] [] (n, sl, f) Q := by
  refine w_aload_n cd_14_26 rfl ?_
  refine w_getfield cd_14_27 (show mt_f 0 12 = some (0, 0) by decide +kernel) h8 h9 h11 ?_
  refine w_iload_n cd_14_30 rfl ?_
  exact w_invokevirtual cd_14_31 (show mt_m 0 85 = some (15, 0) by decide +kernel) (rest := []) rfl (as := [.ref x10, .int l2]) rfl h13 (Or.inl h14) ⟨Nat.le_of_ble_eq_true rfl, Nat.le_of_ble_eq_true rfl, Nat.le_of_ble_eq_true rfl⟩ h15
theorem b_14_34 {d : Nat} {Q : (Option Value ⊕ Nat) → mi_H → Prop} (n sl : Nat) (f : Nat → mi_C) {l1 : Nat} {l2 : Int32} {l3 : Int32} {l4 : Int32} {l5 : Int32} {l6 : Int32} {fs7 : List Value} {x10 : Nat} {fs12 : List Value} (h8 : f l1 = .inr (0, fs7)) (h9 : l1 < n) (h11 : fs7[0]? = some (.ref x10)) (h13 : f x10 = .inr (1, fs12)) (h14 : x10 < n) (h15 : mi_W d 15 0 (mi_en 3 [.ref x10, .int l3]) [] (n, sl, f) (mi_Kc d 14 39 [some (.ref l1), some (.int l2), some (.int l3), some (.int l4), some (.int l5), some (.int l6)] [] Q)) : mi_W (d + 1) 14 34 [some (.ref l1), some (.int l2), some (.int l3), some (.int l4), some (.int l5), some (.int l6)] [] (n, sl, f) Q := by
  refine w_aload_n cd_14_34 rfl ?_
  refine w_getfield cd_14_35 (show mt_f 0 12 = some (0, 0) by decide +kernel) h8 h9 h11 ?_
  refine w_iload_n cd_14_38 rfl ?_
  exact w_invokevirtual cd_14_39 (show mt_m 0 85 = some (15, 0) by decide +kernel) (rest := []) rfl (as := [.ref x10, .int l3]) rfl h13 (Or.inl h14) ⟨Nat.le_of_ble_eq_true rfl, Nat.le_of_ble_eq_true rfl, Nat.le_of_ble_eq_true rfl⟩ h15
theorem b_14_42 {d : Nat} {Q : (Option Value ⊕ Nat) → mi_H → Prop} (n sl : Nat) (f : Nat → mi_C) {l1 : Nat} {l2 : Int32} {l3 : Int32} {l4 : Int32} {l5 : Int32} {l6 : Int32} {fs7 : List Value} {x10 : Nat} {fs12 : List Value} (h8 : f l1 = .inr (0, fs7)) (h9 : l1 < n) (h11 : fs7[0]? = some (.ref x10)) (h13 : f x10 = .inr (1, fs12)) (h14 : x10 < n) (h15 : mi_W d 15 0 (mi_en 3 [.ref x10, .int l4]) [] (n, sl, f) (mi_Kc d 14 47 [some (.ref l1), some (.int l2), some (.int l3), some (.int l4), some (.int l5), some (.int l6)] [] Q)) : mi_W (d + 1) 14 42 [some (.ref l1), some (.int l2), some (.int l3), some (.int l4), some (.int l5), some (.int l6)] [] (n, sl, f) Q := by
  refine w_aload_n cd_14_42 rfl ?_
  refine w_getfield cd_14_43 (show mt_f 0 12 = some (0, 0) by decide +kernel) h8 h9 h11 ?_
  refine w_iload_n cd_14_46 rfl ?_
  exact w_invokevirtual cd_14_47 (show mt_m 0 85 = some (15, 0) by decide +kernel) (rest := []) rfl (as := [.ref x10, .int l4]) rfl h13 (Or.inl h14) ⟨Nat.le_of_ble_eq_true rfl, Nat.le_of_ble_eq_true rfl, Nat.le_of_ble_eq_true rfl⟩ h15
theorem b_14_50 {d : Nat} {Q : (Option Value ⊕ Nat) → mi_H → Prop} (n sl : Nat) (f : Nat → mi_C) {l1 : Nat} {l2 : Int32} {l3 : Int32} {l4 : Int32} {l5 : Int32} {l6 : Int32} {fs7 : List Value} {x10 : Nat} {fs12 : List Value} (h8 : f l1 = .inr (0, fs7)) (h9 : l1 < n) (h11 : fs7[0]? = some (.ref x10)) (h13 : f x10 = .inr (1, fs12)) (h14 : x10 < n) (h15 : mi_W d 15 0 (mi_en 3 [.ref x10, .int l5]) [] (n, sl, f) (mi_Kc d 14 56 [some (.ref l1), some (.int l2), some (.int l3), some (.int l4), some (.int l5), some (.int l6)] [] Q)) : mi_W (d + 1) 14 50 [some (.ref l1), some (.int l2), some (.int l3), some (.int l4), some (.int l5), some (.int l6)] [] (n, sl, f) Q := by
  refine w_aload_n cd_14_50 rfl ?_
  refine w_getfield cd_14_51 (show mt_f 0 12 = some (0, 0) by decide +kernel) h8 h9 h11 ?_
  refine w_iload cd_14_54 rfl ?_
  exact w_invokevirtual cd_14_56 (show mt_m 0 85 = some (15, 0) by decide +kernel) (rest := []) rfl (as := [.ref x10, .int l5]) rfl h13 (Or.inl h14) ⟨Nat.le_of_ble_eq_true rfl, Nat.le_of_ble_eq_true rfl, Nat.le_of_ble_eq_true rfl⟩ h15
theorem b_14_59 {d : Nat} {Q : (Option Value ⊕ Nat) → mi_H → Prop} (n sl : Nat) (f : Nat → mi_C) {l1 : Nat} {l2 : Int32} {l3 : Int32} {l4 : Int32} {l5 : Int32} {l6 : Int32} {fs7 : List Value} {x10 : Nat} {fs12 : List Value} (h8 : f l1 = .inr (0, fs7)) (h9 : l1 < n) (h11 : fs7[0]? = some (.ref x10)) (h13 : f x10 = .inr (1, fs12)) (h14 : x10 < n) (h15 : mi_W d 15 0 (mi_en 3 [.ref x10, .int l6]) [] (n, sl, f) (mi_Kc d 14 65 [some (.ref l1), some (.int l2), some (.int l3), some (.int l4), some (.int l5), some (.int l6)] [] Q)) : mi_W (d + 1) 14 59 [some (.ref l1), some (.int l2), some (.int l3), some (.int l4), some (.int l5), some (.int l6)] [] (n, sl, f) Q := by
  refine w_aload_n cd_14_59 rfl ?_
  refine w_getfield cd_14_60 (show mt_f 0 12 = some (0, 0) by decide +kernel) h8 h9 h11 ?_
  refine w_iload cd_14_63 rfl ?_
  exact w_invokevirtual cd_14_65 (show mt_m 0 85 = some (15, 0) by decide +kernel) (rest := []) rfl (as := [.ref x10, .int l6]) rfl h13 (Or.inl h14) ⟨Nat.le_of_ble_eq_true rfl, Nat.le_of_ble_eq_true rfl, Nat.le_of_ble_eq_true rfl⟩ h15
theorem b_14_68 {d : Nat} {Q : (Option Value ⊕ Nat) → mi_H → Prop} (n sl : Nat) (f : Nat → mi_C) {l1 : Nat} {l2 : Int32} {l3 : Int32} {l4 : Int32} {l5 : Int32} {l6 : Int32} {fs7 : List Value} {x10 : Nat} {fs12 : List Value} {x15 : Int32} (h8 : f l1 = .inr (0, fs7)) (h9 : l1 < n) (h11 : fs7[0]? = some (.ref x10)) (h13 : f x10 = .inr (1, fs12)) (h14 : x10 < n) (h16 : fs12[1]? = some (.int x15)) (h17 : Q (.inl (some (.int x15))) (n, sl, f)) : mi_W d 14 68 [some (.ref l1), some (.int l2), some (.int l3), some (.int l4), some (.int l5), some (.int l6)] [] (n, sl, f) Q := by
  refine w_aload_n cd_14_68 rfl ?_
  refine w_getfield cd_14_69 (show mt_f 0 12 = some (0, 0) by decide +kernel) h8 h9 h11 ?_
  refine w_getfield cd_14_72 (show mt_f 0 74 = some (1, 1) by decide +kernel) h13 h14 h16 ?_
  exact w_ireturn_i cd_14_75 (by decide +kernel) h17
/-! MarloweHost.apply(JJ)I -/
set_option maxRecDepth 100000 in
theorem mq_71 : mt_q 71 = my_71 := rfl
set_option maxRecDepth 100000 in
theorem ci_71 : mt_inc 0 my_71.cd = true := by decide +kernel
theorem cd_71_0 : mt_cd 71 0 = some (.aload_n 0) := mt_cd_of (q := (0, .aload_n 0, 1)) mq_71 ci_71 (List.mem_of_getElem? (i := 0) rfl)
theorem cd_71_1 : mt_cd 71 1 = some (.invokevirtual 143) := mt_cd_of (q := (1, .invokevirtual 143, 3)) mq_71 ci_71 (List.mem_of_getElem? (i := 1) rfl)
theorem cd_71_4 : mt_cd 71 4 = some (.aload_n 0) := mt_cd_of (q := (4, .aload_n 0, 1)) mq_71 ci_71 (List.mem_of_getElem? (i := 2) rfl)
theorem cd_71_5 : mt_cd 71 5 = some (.getfield 71) := mt_cd_of (q := (5, .getfield 71, 3)) mq_71 ci_71 (List.mem_of_getElem? (i := 3) rfl)
theorem cd_71_8 : mt_cd 71 8 = some (.aload_n 0) := mt_cd_of (q := (8, .aload_n 0, 1)) mq_71 ci_71 (List.mem_of_getElem? (i := 4) rfl)
theorem cd_71_9 : mt_cd 71 9 = some (.getfield 67) := mt_cd_of (q := (9, .getfield 67, 3)) mq_71 ci_71 (List.mem_of_getElem? (i := 5) rfl)
theorem cd_71_12 : mt_cd 71 12 = some (.invokevirtual 146) := mt_cd_of (q := (12, .invokevirtual 146, 3)) mq_71 ci_71 (List.mem_of_getElem? (i := 6) rfl)
theorem cd_71_15 : mt_cd 71 15 = some (.aload_n 0) := mt_cd_of (q := (15, .aload_n 0, 1)) mq_71 ci_71 (List.mem_of_getElem? (i := 7) rfl)
theorem cd_71_16 : mt_cd 71 16 = some (.getfield 51) := mt_cd_of (q := (16, .getfield 51, 3)) mq_71 ci_71 (List.mem_of_getElem? (i := 8) rfl)
theorem cd_71_19 : mt_cd 71 19 = some (.aload_n 0) := mt_cd_of (q := (19, .aload_n 0, 1)) mq_71 ci_71 (List.mem_of_getElem? (i := 9) rfl)
theorem cd_71_20 : mt_cd 71 20 = some (.getfield 71) := mt_cd_of (q := (20, .getfield 71, 3)) mq_71 ci_71 (List.mem_of_getElem? (i := 10) rfl)
theorem cd_71_23 : mt_cd 71 23 = some (.aload_n 0) := mt_cd_of (q := (23, .aload_n 0, 1)) mq_71 ci_71 (List.mem_of_getElem? (i := 11) rfl)
theorem cd_71_24 : mt_cd 71 24 = some (.getfield 42) := mt_cd_of (q := (24, .getfield 42, 3)) mq_71 ci_71 (List.mem_of_getElem? (i := 12) rfl)
theorem cd_71_27 : mt_cd 71 27 = some (.lload_n 1) := mt_cd_of (q := (27, .lload_n 1, 1)) mq_71 ci_71 (List.mem_of_getElem? (i := 13) rfl)
theorem cd_71_28 : mt_cd 71 28 = some (.lload_n 3) := mt_cd_of (q := (28, .lload_n 3, 1)) mq_71 ci_71 (List.mem_of_getElem? (i := 14) rfl)
theorem cd_71_29 : mt_cd 71 29 = some (.invokevirtual 150) := mt_cd_of (q := (29, .invokevirtual 150, 3)) mq_71 ci_71 (List.mem_of_getElem? (i := 15) rfl)
theorem cd_71_32 : mt_cd 71 32 = some (.istore 5) := mt_cd_of (q := (32, .istore 5, 2)) mq_71 ci_71 (List.mem_of_getElem? (i := 16) rfl)
theorem cd_71_34 : mt_cd 71 34 = some (.iload 5) := mt_cd_of (q := (34, .iload 5, 2)) mq_71 ci_71 (List.mem_of_getElem? (i := 17) rfl)
theorem cd_71_36 : mt_cd 71 36 = some (.ifCond .ne 14) := mt_cd_of (q := (36, .ifCond .ne 14, 3)) mq_71 ci_71 (List.mem_of_getElem? (i := 18) rfl)
theorem cd_71_39 : mt_cd 71 39 = some (.aload_n 0) := mt_cd_of (q := (39, .aload_n 0, 1)) mq_71 ci_71 (List.mem_of_getElem? (i := 19) rfl)
theorem cd_71_40 : mt_cd 71 40 = some (.getfield 67) := mt_cd_of (q := (40, .getfield 67, 3)) mq_71 ci_71 (List.mem_of_getElem? (i := 20) rfl)
theorem cd_71_43 : mt_cd 71 43 = some (.aload_n 0) := mt_cd_of (q := (43, .aload_n 0, 1)) mq_71 ci_71 (List.mem_of_getElem? (i := 21) rfl)
theorem cd_71_44 : mt_cd 71 44 = some (.getfield 71) := mt_cd_of (q := (44, .getfield 71, 3)) mq_71 ci_71 (List.mem_of_getElem? (i := 22) rfl)
theorem cd_71_47 : mt_cd 71 47 = some (.invokevirtual 146) := mt_cd_of (q := (47, .invokevirtual 146, 3)) mq_71 ci_71 (List.mem_of_getElem? (i := 23) rfl)
theorem cd_71_50 : mt_cd 71 50 = some (.aload_n 0) := mt_cd_of (q := (50, .aload_n 0, 1)) mq_71 ci_71 (List.mem_of_getElem? (i := 24) rfl)
theorem cd_71_51 : mt_cd 71 51 = some (.getfield 42) := mt_cd_of (q := (51, .getfield 42, 3)) mq_71 ci_71 (List.mem_of_getElem? (i := 25) rfl)
theorem cd_71_54 : mt_cd 71 54 = some (.iconst 0) := mt_cd_of (q := (54, .iconst 0, 1)) mq_71 ci_71 (List.mem_of_getElem? (i := 26) rfl)
theorem cd_71_55 : mt_cd 71 55 = some (.putfield 91) := mt_cd_of (q := (55, .putfield 91, 3)) mq_71 ci_71 (List.mem_of_getElem? (i := 27) rfl)
theorem cd_71_58 : mt_cd 71 58 = some (.iload 5) := mt_cd_of (q := (58, .iload 5, 2)) mq_71 ci_71 (List.mem_of_getElem? (i := 28) rfl)
theorem cd_71_60 : mt_cd 71 60 = some (.ireturn) := mt_cd_of (q := (60, .ireturn, 1)) mq_71 ci_71 (List.mem_of_getElem? (i := 29) rfl)
theorem b_71_0 {d : Nat} {Q : (Option Value ⊕ Nat) → mi_H → Prop} (n sl : Nat) (f : Nat → mi_C) {l1 : Nat} {l2 : Int64} {l3 : Int64} {o4 : Option Value} {fs5 : List Value} (h6 : f l1 = .inr (0, fs5)) (h7 : l1 < n) (h8 : mi_W d 72 0 (mi_en 1 [.ref l1]) [] (n, sl, f) (mi_Kc d 71 1 [some (.ref l1), some (.long l2), none, some (.long l3), none, o4] [] Q)) : mi_W (d + 1) 71 0 [some (.ref l1), some (.long l2), none, some (.long l3), none, o4] [] (n, sl, f) Q := by
  refine w_aload_n cd_71_0 rfl ?_
  exact w_invokevirtual cd_71_1 (show mt_m 0 143 = some (72, 0) by decide +kernel) (rest := []) rfl (as := [.ref l1]) rfl h6 (Or.inl h7) ⟨Nat.le_of_ble_eq_true rfl, Nat.le_of_ble_eq_true rfl, Nat.le_of_ble_eq_true rfl⟩ h8
theorem b_71_4 {d : Nat} {Q : (Option Value ⊕ Nat) → mi_H → Prop} (n sl : Nat) (f : Nat → mi_C) {l1 : Nat} {l2 : Int64} {l3 : Int64} {o4 : Option Value} {fs5 : List Value} {x8 : Nat} {fs10 : List Value} {x13 : Nat} {fs15 : List Value} (h6 : f l1 = .inr (0, fs5)) (h7 : l1 < n) (h9 : fs5[8]? = some (.ref x8)) (h11 : f l1 = .inr (0, fs10)) (h12 : l1 < n) (h14 : fs10[7]? = some (.ref x13)) (h16 : f x8 = .inr (9, fs15)) (h17 : x8 < n) (h18 : mi_W d 73 0 (mi_en 2 [.ref x8, .ref x13]) [] (n, sl, f) (mi_Kc d 71 12 [some (.ref l1), some (.long l2), none, some (.long l3), none, o4] [] Q)) : mi_W (d + 1) 71 4 [some (.ref l1), some (.long l2), none, some (.long l3), none, o4] [] (n, sl, f) Q := by
  refine w_aload_n cd_71_4 rfl ?_
  refine w_getfield cd_71_5 (show mt_f 0 71 = some (0, 8) by decide +kernel) h6 h7 h9 ?_
  refine w_aload_n cd_71_8 rfl ?_
  refine w_getfield cd_71_9 (show mt_f 0 67 = some (0, 7) by decide +kernel) h11 h12 h14 ?_
  exact w_invokevirtual cd_71_12 (show mt_m 0 146 = some (73, 0) by decide +kernel) (rest := []) rfl (as := [.ref x8, .ref x13]) rfl h16 (Or.inl h17) ⟨Nat.le_of_ble_eq_true rfl, Nat.le_of_ble_eq_true rfl, Nat.le_of_ble_eq_true rfl⟩ h18
theorem b_71_15 {d : Nat} {Q : (Option Value ⊕ Nat) → mi_H → Prop} (n sl : Nat) (f : Nat → mi_C) {l1 : Nat} {l2 : Int64} {l3 : Int64} {o4 : Option Value} {fs5 : List Value} {x8 : Nat} {fs10 : List Value} {x13 : Nat} {fs15 : List Value} {x18 : Nat} {fs20 : List Value} (h6 : f l1 = .inr (0, fs5)) (h7 : l1 < n) (h9 : fs5[5]? = some (.ref x8)) (h11 : f l1 = .inr (0, fs10)) (h12 : l1 < n) (h14 : fs10[8]? = some (.ref x13)) (h16 : f l1 = .inr (0, fs15)) (h17 : l1 < n) (h19 : fs15[4]? = some (.ref x18)) (h21 : f x8 = .inr (7, fs20)) (h22 : x8 < n) (h23 : mi_W d 74 0 (mi_en 8 [.ref x8, .ref x13, .ref x18, .long l2, .long l3]) [] (n, sl, f) (mi_Kc d 71 29 [some (.ref l1), some (.long l2), none, some (.long l3), none, o4] [] Q)) : mi_W (d + 1) 71 15 [some (.ref l1), some (.long l2), none, some (.long l3), none, o4] [] (n, sl, f) Q := by
  refine w_aload_n cd_71_15 rfl ?_
  refine w_getfield cd_71_16 (show mt_f 0 51 = some (0, 5) by decide +kernel) h6 h7 h9 ?_
  refine w_aload_n cd_71_19 rfl ?_
  refine w_getfield cd_71_20 (show mt_f 0 71 = some (0, 8) by decide +kernel) h11 h12 h14 ?_
  refine w_aload_n cd_71_23 rfl ?_
  refine w_getfield cd_71_24 (show mt_f 0 42 = some (0, 4) by decide +kernel) h16 h17 h19 ?_
  refine w_lload_n cd_71_27 rfl ?_
  refine w_lload_n cd_71_28 rfl ?_
  exact w_invokevirtual cd_71_29 (show mt_m 0 150 = some (74, 0) by decide +kernel) (rest := []) rfl (as := [.ref x8, .ref x13, .ref x18, .long l2, .long l3]) rfl h21 (Or.inl h22) ⟨Nat.le_of_ble_eq_true rfl, Nat.le_of_ble_eq_true rfl, Nat.le_of_ble_eq_true rfl⟩ h23
theorem b_71_32 {d : Nat} {Q : (Option Value ⊕ Nat) → mi_H → Prop} (n sl : Nat) (f : Nat → mi_C) {l1 : Nat} {l2 : Int64} {l3 : Int64} {o4 : Option Value} {s5 : Int32} (h6 : ¬ s5 = (0 : Int32) → mi_W d 71 50 [some (.ref l1), some (.long l2), none, some (.long l3), none, some (.int s5)] [] (n, sl, f) Q) (h7 : ¬ (¬ s5 = (0 : Int32)) → mi_W d 71 39 [some (.ref l1), some (.long l2), none, some (.long l3), none, some (.int s5)] [] (n, sl, f) Q) : mi_W d 71 32 [some (.ref l1), some (.long l2), none, some (.long l3), none, o4] [.int s5] (n, sl, f) Q := by
  refine w_istore (ls' := [some (.ref l1), some (.long l2), none, some (.long l3), none, some (.int s5)]) cd_71_32 (Nat.le_of_ble_eq_true rfl) rfl ?_
  refine w_iload cd_71_34 rfl ?_
  exact w_ifne cd_71_36 (by decide) h6 h7
theorem b_71_39 {d : Nat} {Q : (Option Value ⊕ Nat) → mi_H → Prop} (n sl : Nat) (f : Nat → mi_C) {l1 : Nat} {l2 : Int64} {l3 : Int64} {l4 : Int32} {fs5 : List Value} {x8 : Nat} {fs10 : List Value} {x13 : Nat} {fs15 : List Value} (h6 : f l1 = .inr (0, fs5)) (h7 : l1 < n) (h9 : fs5[7]? = some (.ref x8)) (h11 : f l1 = .inr (0, fs10)) (h12 : l1 < n) (h14 : fs10[8]? = some (.ref x13)) (h16 : f x8 = .inr (9, fs15)) (h17 : x8 < n) (h18 : mi_W d 73 0 (mi_en 2 [.ref x8, .ref x13]) [] (n, sl, f) (mi_Kc d 71 47 [some (.ref l1), some (.long l2), none, some (.long l3), none, some (.int l4)] [] Q)) : mi_W (d + 1) 71 39 [some (.ref l1), some (.long l2), none, some (.long l3), none, some (.int l4)] [] (n, sl, f) Q := by
  refine w_aload_n cd_71_39 rfl ?_
  refine w_getfield cd_71_40 (show mt_f 0 67 = some (0, 7) by decide +kernel) h6 h7 h9 ?_
  refine w_aload_n cd_71_43 rfl ?_
  refine w_getfield cd_71_44 (show mt_f 0 71 = some (0, 8) by decide +kernel) h11 h12 h14 ?_
  exact w_invokevirtual cd_71_47 (show mt_m 0 146 = some (73, 0) by decide +kernel) (rest := []) rfl (as := [.ref x8, .ref x13]) rfl h16 (Or.inl h17) ⟨Nat.le_of_ble_eq_true rfl, Nat.le_of_ble_eq_true rfl, Nat.le_of_ble_eq_true rfl⟩ h18
theorem b_71_50 {d : Nat} {Q : (Option Value ⊕ Nat) → mi_H → Prop} (n sl : Nat) (f : Nat → mi_C) {l1 : Nat} {l2 : Int64} {l3 : Int64} {l4 : Int32} {fs5 : List Value} {x8 : Nat} {fs10 : List Value} (h6 : f l1 = .inr (0, fs5)) (h7 : l1 < n) (h9 : fs5[4]? = some (.ref x8)) (h11 : f x8 = .inr (6, fs10)) (h12 : x8 < n) (h13 : 5 < fs10.length) (h14 : Q (.inl (some (.int l4))) (n, sl, (va_up f x8 (.inr (6, fs10.set 5 (.int 0)))))) : mi_W d 71 50 [some (.ref l1), some (.long l2), none, some (.long l3), none, some (.int l4)] [] (n, sl, f) Q := by
  refine w_aload_n cd_71_50 rfl ?_
  refine w_getfield cd_71_51 (show mt_f 0 42 = some (0, 4) by decide +kernel) h6 h7 h9 ?_
  refine w_iconst (v := 0) cd_71_54 (by decide) ?_
  refine w_putfield (w := .int 0) cd_71_55 (show mt_f 0 91 = some (6, 5) by decide +kernel) h11 h12 ⟨h13, rfl, Or.inl (by decide)⟩ ?_
  refine w_iload cd_71_58 rfl ?_
  exact w_ireturn_i cd_71_60 (by decide +kernel) h14
/-! MarloweHostModel.paid(I)J -/
set_option maxRecDepth 100000 in
theorem mq_192 : mt_q 192 = my_192 := rfl
set_option maxRecDepth 100000 in
theorem ci_192 : mt_inc 0 my_192.cd = true := by decide +kernel
theorem cd_192_0 : mt_cd 192 0 = some (.aload_n 0) := mt_cd_of (q := (0, .aload_n 0, 1)) mq_192 ci_192 (List.mem_of_getElem? (i := 0) rfl)
theorem cd_192_1 : mt_cd 192 1 = some (.iconst 0) := mt_cd_of (q := (1, .iconst 0, 1)) mq_192 ci_192 (List.mem_of_getElem? (i := 1) rfl)
theorem cd_192_2 : mt_cd 192 2 = some (.putfield 248) := mt_cd_of (q := (2, .putfield 248, 3)) mq_192 ci_192 (List.mem_of_getElem? (i := 2) rfl)
theorem cd_192_5 : mt_cd 192 5 = some (.aload_n 0) := mt_cd_of (q := (5, .aload_n 0, 1)) mq_192 ci_192 (List.mem_of_getElem? (i := 3) rfl)
theorem cd_192_6 : mt_cd 192 6 = some (.iload_n 1) := mt_cd_of (q := (6, .iload_n 1, 1)) mq_192 ci_192 (List.mem_of_getElem? (i := 4) rfl)
theorem cd_192_7 : mt_cd 192 7 = some (.i2l) := mt_cd_of (q := (7, .i2l, 1)) mq_192 ci_192 (List.mem_of_getElem? (i := 5) rfl)
theorem cd_192_8 : mt_cd 192 8 = some (.lconst 0) := mt_cd_of (q := (8, .lconst 0, 1)) mq_192 ci_192 (List.mem_of_getElem? (i := 6) rfl)
theorem cd_192_9 : mt_cd 192 9 = some (.aload_n 0) := mt_cd_of (q := (9, .aload_n 0, 1)) mq_192 ci_192 (List.mem_of_getElem? (i := 7) rfl)
theorem cd_192_10 : mt_cd 192 10 = some (.getfield 539) := mt_cd_of (q := (10, .getfield 539, 3)) mq_192 ci_192 (List.mem_of_getElem? (i := 8) rfl)
theorem cd_192_13 : mt_cd 192 13 = some (.iconst 1) := mt_cd_of (q := (13, .iconst 1, 1)) mq_192 ci_192 (List.mem_of_getElem? (i := 9) rfl)
theorem cd_192_14 : mt_cd 192 14 = some (.isub) := mt_cd_of (q := (14, .isub, 1)) mq_192 ci_192 (List.mem_of_getElem? (i := 10) rfl)
theorem cd_192_15 : mt_cd 192 15 = some (.i2l) := mt_cd_of (q := (15, .i2l, 1)) mq_192 ci_192 (List.mem_of_getElem? (i := 11) rfl)
theorem cd_192_16 : mt_cd 192 16 = some (.invokestatic 268) := mt_cd_of (q := (16, .invokestatic 268, 3)) mq_192 ci_192 (List.mem_of_getElem? (i := 12) rfl)
theorem cd_192_19 : mt_cd 192 19 = some (.ifCond .ne 7) := mt_cd_of (q := (19, .ifCond .ne 7, 3)) mq_192 ci_192 (List.mem_of_getElem? (i := 13) rfl)
theorem cd_192_22 : mt_cd 192 22 = some (.iconst 1) := mt_cd_of (q := (22, .iconst 1, 1)) mq_192 ci_192 (List.mem_of_getElem? (i := 14) rfl)
theorem cd_192_23 : mt_cd 192 23 = some (.goto 4) := mt_cd_of (q := (23, .goto 4, 3)) mq_192 ci_192 (List.mem_of_getElem? (i := 15) rfl)
theorem cd_192_26 : mt_cd 192 26 = some (.iconst 0) := mt_cd_of (q := (26, .iconst 0, 1)) mq_192 ci_192 (List.mem_of_getElem? (i := 16) rfl)
theorem cd_192_27 : mt_cd 192 27 = some (.iconst 1) := mt_cd_of (q := (27, .iconst 1, 1)) mq_192 ci_192 (List.mem_of_getElem? (i := 17) rfl)
theorem cd_192_28 : mt_cd 192 28 = some (.invokevirtual 254) := mt_cd_of (q := (28, .invokevirtual 254, 3)) mq_192 ci_192 (List.mem_of_getElem? (i := 18) rfl)
theorem cd_192_31 : mt_cd 192 31 = some (.ifCond .eq 7) := mt_cd_of (q := (31, .ifCond .eq 7, 3)) mq_192 ci_192 (List.mem_of_getElem? (i := 19) rfl)
theorem cd_192_34 : mt_cd 192 34 = some (.lconst 0) := mt_cd_of (q := (34, .lconst 0, 1)) mq_192 ci_192 (List.mem_of_getElem? (i := 20) rfl)
theorem cd_192_35 : mt_cd 192 35 = some (.goto 9) := mt_cd_of (q := (35, .goto 9, 3)) mq_192 ci_192 (List.mem_of_getElem? (i := 21) rfl)
theorem cd_192_38 : mt_cd 192 38 = some (.aload_n 0) := mt_cd_of (q := (38, .aload_n 0, 1)) mq_192 ci_192 (List.mem_of_getElem? (i := 22) rfl)
theorem cd_192_39 : mt_cd 192 39 = some (.getfield 208) := mt_cd_of (q := (39, .getfield 208, 3)) mq_192 ci_192 (List.mem_of_getElem? (i := 23) rfl)
theorem cd_192_42 : mt_cd 192 42 = some (.iload_n 1) := mt_cd_of (q := (42, .iload_n 1, 1)) mq_192 ci_192 (List.mem_of_getElem? (i := 24) rfl)
theorem cd_192_43 : mt_cd 192 43 = some (.laload) := mt_cd_of (q := (43, .laload, 1)) mq_192 ci_192 (List.mem_of_getElem? (i := 25) rfl)
theorem cd_192_44 : mt_cd 192 44 = some (.lreturn) := mt_cd_of (q := (44, .lreturn, 1)) mq_192 ci_192 (List.mem_of_getElem? (i := 26) rfl)
theorem b_192_0 {d : Nat} {Q : (Option Value ⊕ Nat) → mi_H → Prop} (n sl : Nat) (f : Nat → mi_C) {l1 : Nat} {l2 : Int32} {fs3 : List Value} {fs7 : List Value} {x10 : Int32} (h4 : f l1 = .inr (12, fs3)) (h5 : l1 < n) (h6 : 0 < fs3.length) (h8 : (va_up f l1 (.inr (12, fs3.set 0 (.int 0)))) l1 = .inr (12, fs7)) (h9 : l1 < n) (h11 : fs7[66]? = some (.int x10)) (h12 : mi_W d 142 0 (mi_en 6 [.long ((l2 : Int32).toInt64), .long 0, .long (((x10 - 1) : Int32).toInt64)]) [] (n, sl, (va_up f l1 (.inr (12, fs3.set 0 (.int 0))))) (mi_Kc d 192 16 [some (.ref l1), some (.int l2)] [.ref l1] Q)) : mi_W (d + 1) 192 0 [some (.ref l1), some (.int l2)] [] (n, sl, f) Q := by
  refine w_aload_n cd_192_0 rfl ?_
  refine w_iconst (v := 0) cd_192_1 (by decide) ?_
  refine w_putfield (w := .int 0) cd_192_2 (show mt_f 12 248 = some (12, 0) by decide +kernel) h4 h5 ⟨h6, rfl, Or.inl (by decide)⟩ ?_
  refine w_aload_n cd_192_5 rfl ?_
  refine w_iload_n cd_192_6 rfl ?_
  refine w_i2l cd_192_7 ?_
  refine w_lconst (lv := 0) cd_192_8 (by decide) ?_
  refine w_aload_n cd_192_9 rfl ?_
  refine w_getfield cd_192_10 (show mt_f 12 539 = some (12, 66) by decide +kernel) h8 h9 h11 ?_
  refine w_iconst (v := 1) cd_192_13 (by decide) ?_
  refine w_isub cd_192_14 ?_
  refine w_i2l cd_192_15 ?_
  exact w_invokestatic cd_192_16 (show mt_m 12 268 = some (142, 4) by decide +kernel) (by decide) (rest := [.ref l1]) rfl (as := [.long ((l2 : Int32).toInt64), .long 0, .long (((x10 - 1) : Int32).toInt64)]) rfl ⟨Nat.le_of_ble_eq_true rfl, Nat.le_of_ble_eq_true rfl, Nat.le_of_ble_eq_true rfl⟩ h12
theorem b_192_19 {d : Nat} {Q : (Option Value ⊕ Nat) → mi_H → Prop} (n sl : Nat) (f : Nat → mi_C) {l1 : Nat} {l2 : Int32} {s3 : Int32} {s4 : Nat} (h5 : ¬ s3 = (0 : Int32) → mi_W d 192 26 [some (.ref l1), some (.int l2)] [.ref s4] (n, sl, f) Q) (h6 : ¬ (¬ s3 = (0 : Int32)) → mi_W d 192 22 [some (.ref l1), some (.int l2)] [.ref s4] (n, sl, f) Q) : mi_W d 192 19 [some (.ref l1), some (.int l2)] [.int s3, .ref s4] (n, sl, f) Q := by
  exact w_ifne cd_192_19 (by decide) h5 h6
theorem b_192_22 {d : Nat} {Q : (Option Value ⊕ Nat) → mi_H → Prop} (n sl : Nat) (f : Nat → mi_C) {l1 : Nat} {l2 : Int32} {s3 : Nat} (h4 : mi_W d 192 27 [some (.ref l1), some (.int l2)] [.int 1, .ref s3] (n, sl, f) Q) : mi_W d 192 22 [some (.ref l1), some (.int l2)] [.ref s3] (n, sl, f) Q := by
  refine w_iconst (v := 1) cd_192_22 (by decide) ?_
  exact w_goto cd_192_23 (by decide) h4
theorem b_192_26 {d : Nat} {Q : (Option Value ⊕ Nat) → mi_H → Prop} (n sl : Nat) (f : Nat → mi_C) {l1 : Nat} {l2 : Int32} {s3 : Nat} (h4 : mi_W d 192 27 [some (.ref l1), some (.int l2)] [.int 0, .ref s3] (n, sl, f) Q) : mi_W d 192 26 [some (.ref l1), some (.int l2)] [.ref s3] (n, sl, f) Q := by
  refine w_iconst (v := 0) cd_192_26 (by decide) ?_
  exact h4
theorem b_192_27 {d : Nat} {Q : (Option Value ⊕ Nat) → mi_H → Prop} (n sl : Nat) (f : Nat → mi_C) {l1 : Nat} {l2 : Int32} {s3 : Int32} {s4 : Nat} {fs5 : List Value} (h6 : f s4 = .inr (12, fs5)) (h7 : s4 < n) (h8 : mi_W d 140 0 (mi_en 3 [.ref s4, .int s3, .int 1]) [] (n, sl, f) (mi_Kc d 192 28 [some (.ref l1), some (.int l2)] [] Q)) : mi_W (d + 1) 192 27 [some (.ref l1), some (.int l2)] [.int s3, .ref s4] (n, sl, f) Q := by
  refine w_iconst (v := 1) cd_192_27 (by decide) ?_
  exact w_invokevirtual cd_192_28 (show mt_m 12 254 = some (140, 0) by decide +kernel) (rest := []) rfl (as := [.ref s4, .int s3, .int 1]) rfl h6 (Or.inl h7) ⟨Nat.le_of_ble_eq_true rfl, Nat.le_of_ble_eq_true rfl, Nat.le_of_ble_eq_true rfl⟩ h8
theorem b_192_31 {d : Nat} {Q : (Option Value ⊕ Nat) → mi_H → Prop} (n sl : Nat) (f : Nat → mi_C) {l1 : Nat} {l2 : Int32} {s3 : Int32} (h4 : s3 = (0 : Int32) → mi_W d 192 38 [some (.ref l1), some (.int l2)] [] (n, sl, f) Q) (h5 : ¬ (s3 = (0 : Int32)) → mi_W d 192 34 [some (.ref l1), some (.int l2)] [] (n, sl, f) Q) : mi_W d 192 31 [some (.ref l1), some (.int l2)] [.int s3] (n, sl, f) Q := by
  exact w_ifeq cd_192_31 (by decide) h4 h5
theorem b_192_34 {d : Nat} {Q : (Option Value ⊕ Nat) → mi_H → Prop} (n sl : Nat) (f : Nat → mi_C) {l1 : Nat} {l2 : Int32} (h3 : mi_W d 192 44 [some (.ref l1), some (.int l2)] [.long 0] (n, sl, f) Q) : mi_W d 192 34 [some (.ref l1), some (.int l2)] [] (n, sl, f) Q := by
  refine w_lconst (lv := 0) cd_192_34 (by decide) ?_
  exact w_goto cd_192_35 (by decide) h3
theorem b_192_38 {d : Nat} {Q : (Option Value ⊕ Nat) → mi_H → Prop} (n sl : Nat) (f : Nat → mi_C) {l1 : Nat} {l2 : Int32} {fs3 : List Value} {x6 : Nat} (m8 i8 : Nat) (g8 : Nat → Int64) (h4 : f l1 = .inr (12, fs3)) (h5 : l1 < n) (h7 : fs3[72]? = some (.ref x6)) (h9 : f x6 = .inl (3, m8, .inr (.inl g8))) (h10 : x6 < n) (h11 : mi_ix l2 m8 i8) (h12 : mi_W d 192 44 [some (.ref l1), some (.int l2)] [.long (g8 i8)] (n, sl, f) Q) : mi_W d 192 38 [some (.ref l1), some (.int l2)] [] (n, sl, f) Q := by
  refine w_aload_n cd_192_38 rfl ?_
  refine w_getfield cd_192_39 (show mt_f 12 208 = some (12, 72) by decide +kernel) h4 h5 h7 ?_
  refine w_iload_n cd_192_42 rfl ?_
  refine w_laload cd_192_43 h9 h10 h11 ?_
  exact h12
theorem b_192_44 {d : Nat} {Q : (Option Value ⊕ Nat) → mi_H → Prop} (n sl : Nat) (f : Nat → mi_C) {l1 : Nat} {l2 : Int32} {s3 : Int64} (h4 : Q (.inl (some (.long s3))) (n, sl, f)) : mi_W d 192 44 [some (.ref l1), some (.int l2)] [.long s3] (n, sl, f) Q := by
  exact w_lreturn cd_192_44 (by decide +kernel) h4
/-! MarloweHost.choose(IJ)I -/
set_option maxRecDepth 100000 in
theorem mq_67 : mt_q 67 = my_67 := rfl
set_option maxRecDepth 100000 in
theorem ci_67 : mt_inc 0 my_67.cd = true := by decide +kernel
theorem cd_67_0 : mt_cd 67 0 = some (.iload_n 1) := mt_cd_of (q := (0, .iload_n 1, 1)) mq_67 ci_67 (List.mem_of_getElem? (i := 0) rfl)
theorem cd_67_1 : mt_cd 67 1 = some (.ifCond .lt 9) := mt_cd_of (q := (1, .ifCond .lt 9, 3)) mq_67 ci_67 (List.mem_of_getElem? (i := 1) rfl)
theorem cd_67_4 : mt_cd 67 4 = some (.iload_n 1) := mt_cd_of (q := (4, .iload_n 1, 1)) mq_67 ci_67 (List.mem_of_getElem? (i := 2) rfl)
theorem cd_67_5 : mt_cd 67 5 = some (.bipush 8) := mt_cd_of (q := (5, .bipush 8, 2)) mq_67 ci_67 (List.mem_of_getElem? (i := 3) rfl)
theorem cd_67_7 : mt_cd 67 7 = some (.if_icmp .lt 13) := mt_cd_of (q := (7, .if_icmp .lt 13, 3)) mq_67 ci_67 (List.mem_of_getElem? (i := 4) rfl)
theorem cd_67_10 : mt_cd 67 10 = some (.new 123) := mt_cd_of (q := (10, .new 123, 3)) mq_67 ci_67 (List.mem_of_getElem? (i := 5) rfl)
theorem cd_67_13 : mt_cd 67 13 = some (.dup) := mt_cd_of (q := (13, .dup, 1)) mq_67 ci_67 (List.mem_of_getElem? (i := 6) rfl)
theorem cd_67_14 : mt_cd 67 14 = some (.ldc 141) := mt_cd_of (q := (14, .ldc 141, 2)) mq_67 ci_67 (List.mem_of_getElem? (i := 7) rfl)
theorem cd_67_16 : mt_cd 67 16 = some (.invokespecial 127) := mt_cd_of (q := (16, .invokespecial 127, 3)) mq_67 ci_67 (List.mem_of_getElem? (i := 8) rfl)
theorem cd_67_19 : mt_cd 67 19 = some (.athrow) := mt_cd_of (q := (19, .athrow, 1)) mq_67 ci_67 (List.mem_of_getElem? (i := 9) rfl)
theorem cd_67_20 : mt_cd 67 20 = some (.aload_n 0) := mt_cd_of (q := (20, .aload_n 0, 1)) mq_67 ci_67 (List.mem_of_getElem? (i := 10) rfl)
theorem cd_67_21 : mt_cd 67 21 = some (.invokevirtual 134) := mt_cd_of (q := (21, .invokevirtual 134, 3)) mq_67 ci_67 (List.mem_of_getElem? (i := 11) rfl)
theorem cd_67_24 : mt_cd 67 24 = some (.aload_n 0) := mt_cd_of (q := (24, .aload_n 0, 1)) mq_67 ci_67 (List.mem_of_getElem? (i := 12) rfl)
theorem cd_67_25 : mt_cd 67 25 = some (.getfield 42) := mt_cd_of (q := (25, .getfield 42, 3)) mq_67 ci_67 (List.mem_of_getElem? (i := 13) rfl)
theorem cd_67_28 : mt_cd 67 28 = some (.bipush 9) := mt_cd_of (q := (28, .bipush 9, 2)) mq_67 ci_67 (List.mem_of_getElem? (i := 14) rfl)
theorem cd_67_30 : mt_cd 67 30 = some (.iload_n 1) := mt_cd_of (q := (30, .iload_n 1, 1)) mq_67 ci_67 (List.mem_of_getElem? (i := 15) rfl)
theorem cd_67_31 : mt_cd 67 31 = some (.iconst (-1)) := mt_cd_of (q := (31, .iconst (-1), 1)) mq_67 ci_67 (List.mem_of_getElem? (i := 16) rfl)
theorem cd_67_32 : mt_cd 67 32 = some (.iconst (-1)) := mt_cd_of (q := (32, .iconst (-1), 1)) mq_67 ci_67 (List.mem_of_getElem? (i := 17) rfl)
theorem cd_67_33 : mt_cd 67 33 = some (.lload_n 2) := mt_cd_of (q := (33, .lload_n 2, 1)) mq_67 ci_67 (List.mem_of_getElem? (i := 18) rfl)
theorem cd_67_34 : mt_cd 67 34 = some (.invokevirtual 137) := mt_cd_of (q := (34, .invokevirtual 137, 3)) mq_67 ci_67 (List.mem_of_getElem? (i := 19) rfl)
theorem cd_67_37 : mt_cd 67 37 = some (.ireturn) := mt_cd_of (q := (37, .ireturn, 1)) mq_67 ci_67 (List.mem_of_getElem? (i := 20) rfl)
theorem b_67_0 {d : Nat} {Q : (Option Value ⊕ Nat) → mi_H → Prop} (n sl : Nat) (f : Nat → mi_C) {l1 : Nat} {l2 : Int32} {l3 : Int64} (h4 : l2 < (0 : Int32) → mi_W d 67 10 [some (.ref l1), some (.int l2), some (.long l3), none] [] (n, sl, f) Q) (h5 : ¬ (l2 < (0 : Int32)) → mi_W d 67 4 [some (.ref l1), some (.int l2), some (.long l3), none] [] (n, sl, f) Q) : mi_W d 67 0 [some (.ref l1), some (.int l2), some (.long l3), none] [] (n, sl, f) Q := by
  refine w_iload_n cd_67_0 rfl ?_
  exact w_iflt cd_67_1 (by decide) h4 h5
theorem b_67_4 {d : Nat} {Q : (Option Value ⊕ Nat) → mi_H → Prop} (n sl : Nat) (f : Nat → mi_C) {l1 : Nat} {l2 : Int32} {l3 : Int64} (h4 : l2 < 8 → mi_W d 67 20 [some (.ref l1), some (.int l2), some (.long l3), none] [] (n, sl, f) Q) (h5 : ¬ (l2 < 8) → mi_W d 67 10 [some (.ref l1), some (.int l2), some (.long l3), none] [] (n, sl, f) Q) : mi_W d 67 4 [some (.ref l1), some (.int l2), some (.long l3), none] [] (n, sl, f) Q := by
  refine w_iload_n cd_67_4 rfl ?_
  refine w_bipush (v := 8) cd_67_5 (by decide) ?_
  exact w_if_icmplt cd_67_7 (by decide) h4 h5
theorem b_67_10 {d : Nat} {Q : (Option Value ⊕ Nat) → mi_H → Prop} (n sl : Nat) (f : Nat → mi_C) {l1 : Nat} {l2 : Int32} {l3 : Int64} {h' : mi_H} (h4 : mi_t 67 10 (.new 123) [] (n, sl, f) = some h') (h5 : Q (.inr n) h') : mi_W d 67 10 [some (.ref l1), some (.int l2), some (.long l3), none] [] (n, sl, f) Q := by
  exact w_throw cd_67_10 (show mt_c 0 123 = some 15 by decide +kernel) (by decide) h4 h5
theorem b_67_20 {d : Nat} {Q : (Option Value ⊕ Nat) → mi_H → Prop} (n sl : Nat) (f : Nat → mi_C) {l1 : Nat} {l2 : Int32} {l3 : Int64} {fs4 : List Value} (h5 : f l1 = .inr (0, fs4)) (h6 : l1 < n) (h7 : mi_W d 64 0 (mi_en 1 [.ref l1]) [] (n, sl, f) (mi_Kc d 67 21 [some (.ref l1), some (.int l2), some (.long l3), none] [] Q)) : mi_W (d + 1) 67 20 [some (.ref l1), some (.int l2), some (.long l3), none] [] (n, sl, f) Q := by
  refine w_aload_n cd_67_20 rfl ?_
  exact w_invokevirtual cd_67_21 (show mt_m 0 134 = some (64, 0) by decide +kernel) (rest := []) rfl (as := [.ref l1]) rfl h5 (Or.inl h6) ⟨Nat.le_of_ble_eq_true rfl, Nat.le_of_ble_eq_true rfl, Nat.le_of_ble_eq_true rfl⟩ h7
theorem b_67_24 {d : Nat} {Q : (Option Value ⊕ Nat) → mi_H → Prop} (n sl : Nat) (f : Nat → mi_C) {l1 : Nat} {l2 : Int32} {l3 : Int64} {fs4 : List Value} {x7 : Nat} {fs9 : List Value} (h5 : f l1 = .inr (0, fs4)) (h6 : l1 < n) (h8 : fs4[4]? = some (.ref x7)) (h10 : f x7 = .inr (6, fs9)) (h11 : x7 < n) (h12 : mi_W d 65 0 (mi_en 7 [.ref x7, .int 9, .int l2, .int (-1), .int (-1), .long l3]) [] (n, sl, f) (mi_Kc d 67 34 [some (.ref l1), some (.int l2), some (.long l3), none] [] Q)) : mi_W (d + 1) 67 24 [some (.ref l1), some (.int l2), some (.long l3), none] [] (n, sl, f) Q := by
  refine w_aload_n cd_67_24 rfl ?_
  refine w_getfield cd_67_25 (show mt_f 0 42 = some (0, 4) by decide +kernel) h5 h6 h8 ?_
  refine w_bipush (v := 9) cd_67_28 (by decide) ?_
  refine w_iload_n cd_67_30 rfl ?_
  refine w_iconst (v := (-1)) cd_67_31 (by decide) ?_
  refine w_iconst (v := (-1)) cd_67_32 (by decide) ?_
  refine w_lload_n cd_67_33 rfl ?_
  exact w_invokevirtual cd_67_34 (show mt_m 0 137 = some (65, 0) by decide +kernel) (rest := []) rfl (as := [.ref x7, .int 9, .int l2, .int (-1), .int (-1), .long l3]) rfl h10 (Or.inl h11) ⟨Nat.le_of_ble_eq_true rfl, Nat.le_of_ble_eq_true rfl, Nat.le_of_ble_eq_true rfl⟩ h12
theorem b_67_37 {d : Nat} {Q : (Option Value ⊕ Nat) → mi_H → Prop} (n sl : Nat) (f : Nat → mi_C) {l1 : Nat} {l2 : Int32} {l3 : Int64} {s4 : Int32} (h5 : Q (.inl (some (.int s4))) (n, sl, f)) : mi_W d 67 37 [some (.ref l1), some (.int l2), some (.long l3), none] [.int s4] (n, sl, f) Q := by
  exact w_ireturn_i cd_67_37 (by decide +kernel) h5
/-! MarloweHost.paid(I)J -/
set_option maxRecDepth 100000 in
theorem mq_116 : mt_q 116 = my_116 := rfl
set_option maxRecDepth 100000 in
theorem ci_116 : mt_inc 0 my_116.cd = true := by decide +kernel
theorem cd_116_0 : mt_cd 116 0 = some (.iload_n 1) := mt_cd_of (q := (0, .iload_n 1, 1)) mq_116 ci_116 (List.mem_of_getElem? (i := 0) rfl)
theorem cd_116_1 : mt_cd 116 1 = some (.ifCond .lt 17) := mt_cd_of (q := (1, .ifCond .lt 17, 3)) mq_116 ci_116 (List.mem_of_getElem? (i := 1) rfl)
theorem cd_116_4 : mt_cd 116 4 = some (.iload_n 1) := mt_cd_of (q := (4, .iload_n 1, 1)) mq_116 ci_116 (List.mem_of_getElem? (i := 2) rfl)
theorem cd_116_5 : mt_cd 116 5 = some (.aload_n 0) := mt_cd_of (q := (5, .aload_n 0, 1)) mq_116 ci_116 (List.mem_of_getElem? (i := 3) rfl)
theorem cd_116_6 : mt_cd 116 6 = some (.getfield 51) := mt_cd_of (q := (6, .getfield 51, 3)) mq_116 ci_116 (List.mem_of_getElem? (i := 4) rfl)
theorem cd_116_9 : mt_cd 116 9 = some (.getfield 156) := mt_cd_of (q := (9, .getfield 156, 3)) mq_116 ci_116 (List.mem_of_getElem? (i := 5) rfl)
theorem cd_116_12 : mt_cd 116 12 = some (.getfield 165) := mt_cd_of (q := (12, .getfield 165, 3)) mq_116 ci_116 (List.mem_of_getElem? (i := 6) rfl)
theorem cd_116_15 : mt_cd 116 15 = some (.if_icmp .lt 13) := mt_cd_of (q := (15, .if_icmp .lt 13, 3)) mq_116 ci_116 (List.mem_of_getElem? (i := 7) rfl)
theorem cd_116_18 : mt_cd 116 18 = some (.new 78) := mt_cd_of (q := (18, .new 78, 3)) mq_116 ci_116 (List.mem_of_getElem? (i := 8) rfl)
theorem cd_116_21 : mt_cd 116 21 = some (.dup) := mt_cd_of (q := (21, .dup, 1)) mq_116 ci_116 (List.mem_of_getElem? (i := 9) rfl)
theorem cd_116_22 : mt_cd 116 22 = some (.ldc 186) := mt_cd_of (q := (22, .ldc 186, 2)) mq_116 ci_116 (List.mem_of_getElem? (i := 10) rfl)
theorem cd_116_24 : mt_cd 116 24 = some (.invokespecial 82) := mt_cd_of (q := (24, .invokespecial 82, 3)) mq_116 ci_116 (List.mem_of_getElem? (i := 11) rfl)
theorem cd_116_27 : mt_cd 116 27 = some (.athrow) := mt_cd_of (q := (27, .athrow, 1)) mq_116 ci_116 (List.mem_of_getElem? (i := 12) rfl)
theorem cd_116_28 : mt_cd 116 28 = some (.aload_n 0) := mt_cd_of (q := (28, .aload_n 0, 1)) mq_116 ci_116 (List.mem_of_getElem? (i := 13) rfl)
theorem cd_116_29 : mt_cd 116 29 = some (.getfield 51) := mt_cd_of (q := (29, .getfield 51, 3)) mq_116 ci_116 (List.mem_of_getElem? (i := 14) rfl)
theorem cd_116_32 : mt_cd 116 32 = some (.getfield 156) := mt_cd_of (q := (32, .getfield 156, 3)) mq_116 ci_116 (List.mem_of_getElem? (i := 15) rfl)
theorem cd_116_35 : mt_cd 116 35 = some (.getfield 188) := mt_cd_of (q := (35, .getfield 188, 3)) mq_116 ci_116 (List.mem_of_getElem? (i := 16) rfl)
theorem cd_116_38 : mt_cd 116 38 = some (.iload_n 1) := mt_cd_of (q := (38, .iload_n 1, 1)) mq_116 ci_116 (List.mem_of_getElem? (i := 17) rfl)
theorem cd_116_39 : mt_cd 116 39 = some (.laload) := mt_cd_of (q := (39, .laload, 1)) mq_116 ci_116 (List.mem_of_getElem? (i := 18) rfl)
theorem cd_116_40 : mt_cd 116 40 = some (.lreturn) := mt_cd_of (q := (40, .lreturn, 1)) mq_116 ci_116 (List.mem_of_getElem? (i := 19) rfl)
theorem b_116_0 {d : Nat} {Q : (Option Value ⊕ Nat) → mi_H → Prop} (n sl : Nat) (f : Nat → mi_C) {l1 : Nat} {l2 : Int32} (h3 : l2 < (0 : Int32) → mi_W d 116 18 [some (.ref l1), some (.int l2)] [] (n, sl, f) Q) (h4 : ¬ (l2 < (0 : Int32)) → mi_W d 116 4 [some (.ref l1), some (.int l2)] [] (n, sl, f) Q) : mi_W d 116 0 [some (.ref l1), some (.int l2)] [] (n, sl, f) Q := by
  refine w_iload_n cd_116_0 rfl ?_
  exact w_iflt cd_116_1 (by decide) h3 h4
theorem b_116_4 {d : Nat} {Q : (Option Value ⊕ Nat) → mi_H → Prop} (n sl : Nat) (f : Nat → mi_C) {l1 : Nat} {l2 : Int32} {fs3 : List Value} {x6 : Nat} {fs8 : List Value} {x11 : Nat} {fs13 : List Value} {x16 : Int32} (h4 : f l1 = .inr (0, fs3)) (h5 : l1 < n) (h7 : fs3[5]? = some (.ref x6)) (h9 : f x6 = .inr (7, fs8)) (h10 : x6 < n) (h12 : fs8[7]? = some (.ref x11)) (h14 : f x11 = .inr (8, fs13)) (h15 : x11 < n) (h17 : fs13[7]? = some (.int x16)) (h18 : l2 < x16 → mi_W d 116 28 [some (.ref l1), some (.int l2)] [] (n, sl, f) Q) (h19 : ¬ (l2 < x16) → mi_W d 116 18 [some (.ref l1), some (.int l2)] [] (n, sl, f) Q) : mi_W d 116 4 [some (.ref l1), some (.int l2)] [] (n, sl, f) Q := by
  refine w_iload_n cd_116_4 rfl ?_
  refine w_aload_n cd_116_5 rfl ?_
  refine w_getfield cd_116_6 (show mt_f 0 51 = some (0, 5) by decide +kernel) h4 h5 h7 ?_
  refine w_getfield cd_116_9 (show mt_f 0 156 = some (7, 7) by decide +kernel) h9 h10 h12 ?_
  refine w_getfield cd_116_12 (show mt_f 0 165 = some (8, 7) by decide +kernel) h14 h15 h17 ?_
  exact w_if_icmplt cd_116_15 (by decide) h18 h19
theorem b_116_18 {d : Nat} {Q : (Option Value ⊕ Nat) → mi_H → Prop} (n sl : Nat) (f : Nat → mi_C) {l1 : Nat} {l2 : Int32} {h' : mi_H} (h3 : mi_t 116 18 (.new 78) [] (n, sl, f) = some h') (h4 : Q (.inr n) h') : mi_W d 116 18 [some (.ref l1), some (.int l2)] [] (n, sl, f) Q := by
  exact w_throw cd_116_18 (show mt_c 0 78 = some 14 by decide +kernel) (by decide) h3 h4
theorem b_116_28 {d : Nat} {Q : (Option Value ⊕ Nat) → mi_H → Prop} (n sl : Nat) (f : Nat → mi_C) {l1 : Nat} {l2 : Int32} {fs3 : List Value} {x6 : Nat} {fs8 : List Value} {x11 : Nat} {fs13 : List Value} {x16 : Nat} (m18 i18 : Nat) (g18 : Nat → Int64) (h4 : f l1 = .inr (0, fs3)) (h5 : l1 < n) (h7 : fs3[5]? = some (.ref x6)) (h9 : f x6 = .inr (7, fs8)) (h10 : x6 < n) (h12 : fs8[7]? = some (.ref x11)) (h14 : f x11 = .inr (8, fs13)) (h15 : x11 < n) (h17 : fs13[5]? = some (.ref x16)) (h19 : f x16 = .inl (3, m18, .inr (.inl g18))) (h20 : x16 < n) (h21 : mi_ix l2 m18 i18) (h22 : Q (.inl (some (.long (g18 i18)))) (n, sl, f)) : mi_W d 116 28 [some (.ref l1), some (.int l2)] [] (n, sl, f) Q := by
  refine w_aload_n cd_116_28 rfl ?_
  refine w_getfield cd_116_29 (show mt_f 0 51 = some (0, 5) by decide +kernel) h4 h5 h7 ?_
  refine w_getfield cd_116_32 (show mt_f 0 156 = some (7, 7) by decide +kernel) h9 h10 h12 ?_
  refine w_getfield cd_116_35 (show mt_f 0 188 = some (8, 5) by decide +kernel) h14 h15 h17 ?_
  refine w_iload_n cd_116_38 rfl ?_
  refine w_laload cd_116_39 h19 h20 h21 ?_
  exact w_lreturn cd_116_40 (by decide +kernel) h22
/-! MarloweHostLaw.feed(LMarloweHost;IIIII[J)I -/
set_option maxRecDepth 100000 in
theorem mq_13 : mt_q 13 = my_13 := rfl
set_option maxRecDepth 100000 in
theorem ci_13 : mt_inc 0 my_13.cd = true := by decide +kernel
theorem cd_13_0 : mt_cd 13 0 = some (.aload 6) := mt_cd_of (q := (0, .aload 6, 2)) mq_13 ci_13 (List.mem_of_getElem? (i := 0) rfl)
theorem cd_13_2 : mt_cd 13 2 = some (.iconst 0) := mt_cd_of (q := (2, .iconst 0, 1)) mq_13 ci_13 (List.mem_of_getElem? (i := 1) rfl)
theorem cd_13_3 : mt_cd 13 3 = some (.aload_n 0) := mt_cd_of (q := (3, .aload_n 0, 1)) mq_13 ci_13 (List.mem_of_getElem? (i := 2) rfl)
theorem cd_13_4 : mt_cd 13 4 = some (.iload_n 1) := mt_cd_of (q := (4, .iload_n 1, 1)) mq_13 ci_13 (List.mem_of_getElem? (i := 3) rfl)
theorem cd_13_5 : mt_cd 13 5 = some (.iload_n 2) := mt_cd_of (q := (5, .iload_n 2, 1)) mq_13 ci_13 (List.mem_of_getElem? (i := 4) rfl)
theorem cd_13_6 : mt_cd 13 6 = some (.iload_n 3) := mt_cd_of (q := (6, .iload_n 3, 1)) mq_13 ci_13 (List.mem_of_getElem? (i := 5) rfl)
theorem cd_13_7 : mt_cd 13 7 = some (.iload 4) := mt_cd_of (q := (7, .iload 4, 2)) mq_13 ci_13 (List.mem_of_getElem? (i := 6) rfl)
theorem cd_13_9 : mt_cd 13 9 = some (.iload 5) := mt_cd_of (q := (9, .iload 5, 2)) mq_13 ci_13 (List.mem_of_getElem? (i := 7) rfl)
theorem cd_13_11 : mt_cd 13 11 = some (.invokevirtual 7) := mt_cd_of (q := (11, .invokevirtual 7, 3)) mq_13 ci_13 (List.mem_of_getElem? (i := 8) rfl)
theorem cd_13_14 : mt_cd 13 14 = some (.i2l) := mt_cd_of (q := (14, .i2l, 1)) mq_13 ci_13 (List.mem_of_getElem? (i := 9) rfl)
theorem cd_13_15 : mt_cd 13 15 = some (.lastore) := mt_cd_of (q := (15, .lastore, 1)) mq_13 ci_13 (List.mem_of_getElem? (i := 10) rfl)
theorem cd_13_16 : mt_cd 13 16 = some (.goto 7) := mt_cd_of (q := (16, .goto 7, 3)) mq_13 ci_13 (List.mem_of_getElem? (i := 11) rfl)
theorem cd_13_19 : mt_cd 13 19 = some (.astore 7) := mt_cd_of (q := (19, .astore 7, 2)) mq_13 ci_13 (List.mem_of_getElem? (i := 12) rfl)
theorem cd_13_21 : mt_cd 13 21 = some (.iconst 1) := mt_cd_of (q := (21, .iconst 1, 1)) mq_13 ci_13 (List.mem_of_getElem? (i := 13) rfl)
theorem cd_13_22 : mt_cd 13 22 = some (.ireturn) := mt_cd_of (q := (22, .ireturn, 1)) mq_13 ci_13 (List.mem_of_getElem? (i := 14) rfl)
theorem cd_13_23 : mt_cd 13 23 = some (.iconst 0) := mt_cd_of (q := (23, .iconst 0, 1)) mq_13 ci_13 (List.mem_of_getElem? (i := 15) rfl)
theorem cd_13_24 : mt_cd 13 24 = some (.ireturn) := mt_cd_of (q := (24, .ireturn, 1)) mq_13 ci_13 (List.mem_of_getElem? (i := 16) rfl)
theorem b_13_0 {d : Nat} {Q : (Option Value ⊕ Nat) → mi_H → Prop} (n sl : Nat) (f : Nat → mi_C) {l1 : Nat} {l2 : Int32} {l3 : Int32} {l4 : Int32} {l5 : Int32} {l6 : Int32} {l7 : Nat} {o8 : Option Value} {fs9 : List Value} (h10 : f l1 = .inr (0, fs9)) (h11 : l1 < n) (h12 : mi_W d 14 0 (mi_en 6 [.ref l1, .int l2, .int l3, .int l4, .int l5, .int l6]) [] (n, sl, f) (mi_Kc d 13 11 [some (.ref l1), some (.int l2), some (.int l3), some (.int l4), some (.int l5), some (.int l6), some (.ref l7), o8] [.int 0, .ref l7] Q)) : mi_W (d + 1) 13 0 [some (.ref l1), some (.int l2), some (.int l3), some (.int l4), some (.int l5), some (.int l6), some (.ref l7), o8] [] (n, sl, f) Q := by
  refine w_aload cd_13_0 rfl ?_
  refine w_iconst (v := 0) cd_13_2 (by decide) ?_
  refine w_aload_n cd_13_3 rfl ?_
  refine w_iload_n cd_13_4 rfl ?_
  refine w_iload_n cd_13_5 rfl ?_
  refine w_iload_n cd_13_6 rfl ?_
  refine w_iload cd_13_7 rfl ?_
  refine w_iload cd_13_9 rfl ?_
  exact w_invokevirtual cd_13_11 (show mt_m 18 7 = some (14, 0) by decide +kernel) (rest := [.int 0, .ref l7]) rfl (as := [.ref l1, .int l2, .int l3, .int l4, .int l5, .int l6]) rfl h10 (Or.inl h11) ⟨Nat.le_of_ble_eq_true rfl, Nat.le_of_ble_eq_true rfl, Nat.le_of_ble_eq_true rfl⟩ h12
theorem b_13_14 {d : Nat} {Q : (Option Value ⊕ Nat) → mi_H → Prop} (n sl : Nat) (f : Nat → mi_C) {l1 : Nat} {l2 : Int32} {l3 : Int32} {l4 : Int32} {l5 : Int32} {l6 : Int32} {l7 : Nat} {o8 : Option Value} {s9 : Int32} {s10 : Int32} {s11 : Nat} (m12 i12 : Nat) (g12 : Nat → Int64) (h13 : f s11 = .inl (3, m12, .inr (.inl g12))) (h14 : s11 < n) (h15 : mi_ix s10 m12 i12) (h16 : mi_W d 13 23 [some (.ref l1), some (.int l2), some (.int l3), some (.int l4), some (.int l5), some (.int l6), some (.ref l7), o8] [] (n, sl, (va_up f s11 (.inl (3, m12, .inr (.inl (vp_updL g12 i12 ((s9 : Int32).toInt64))))))) Q) : mi_W d 13 14 [some (.ref l1), some (.int l2), some (.int l3), some (.int l4), some (.int l5), some (.int l6), some (.ref l7), o8] [.int s9, .int s10, .ref s11] (n, sl, f) Q := by
  refine w_i2l cd_13_14 ?_
  refine w_lastore cd_13_15 h13 h14 h15 ?_
  exact w_goto cd_13_16 (by decide) h16
theorem b_13_19 {d : Nat} {Q : (Option Value ⊕ Nat) → mi_H → Prop} (n sl : Nat) (f : Nat → mi_C) {l1 : Nat} {l2 : Int32} {l3 : Int32} {l4 : Int32} {l5 : Int32} {l6 : Int32} {l7 : Nat} {o8 : Option Value} {s9 : Nat} (h10 : Q (.inl (some (.int 1))) (n, sl, f)) : mi_W d 13 19 [some (.ref l1), some (.int l2), some (.int l3), some (.int l4), some (.int l5), some (.int l6), some (.ref l7), o8] [.ref s9] (n, sl, f) Q := by
  refine w_astore (ls' := [some (.ref l1), some (.int l2), some (.int l3), some (.int l4), some (.int l5), some (.int l6), some (.ref l7), some (.ref s9)]) cd_13_19 (Nat.le_of_ble_eq_true rfl) rfl ?_
  refine w_iconst (v := 1) cd_13_21 (by decide) ?_
  exact w_ireturn_i cd_13_22 (by decide +kernel) h10
theorem b_13_23 {d : Nat} {Q : (Option Value ⊕ Nat) → mi_H → Prop} (n sl : Nat) (f : Nat → mi_C) {l1 : Nat} {l2 : Int32} {l3 : Int32} {l4 : Int32} {l5 : Int32} {l6 : Int32} {l7 : Nat} {o8 : Option Value} (h9 : Q (.inl (some (.int 0))) (n, sl, f)) : mi_W d 13 23 [some (.ref l1), some (.int l2), some (.int l3), some (.int l4), some (.int l5), some (.int l6), some (.ref l7), o8] [] (n, sl, f) Q := by
  refine w_iconst (v := 0) cd_13_23 (by decide) ?_
  exact w_ireturn_i cd_13_24 (by decide +kernel) h9
/-! MarloweHostLaw.end(LMarloweHost;I[J)I -/
set_option maxRecDepth 100000 in
theorem mq_16 : mt_q 16 = my_16 := rfl
set_option maxRecDepth 100000 in
theorem ci_16 : mt_inc 0 my_16.cd = true := by decide +kernel
theorem cd_16_0 : mt_cd 16 0 = some (.aload_n 2) := mt_cd_of (q := (0, .aload_n 2, 1)) mq_16 ci_16 (List.mem_of_getElem? (i := 0) rfl)
theorem cd_16_1 : mt_cd 16 1 = some (.iconst 0) := mt_cd_of (q := (1, .iconst 0, 1)) mq_16 ci_16 (List.mem_of_getElem? (i := 1) rfl)
theorem cd_16_2 : mt_cd 16 2 = some (.aload_n 0) := mt_cd_of (q := (2, .aload_n 0, 1)) mq_16 ci_16 (List.mem_of_getElem? (i := 2) rfl)
theorem cd_16_3 : mt_cd 16 3 = some (.iload_n 1) := mt_cd_of (q := (3, .iload_n 1, 1)) mq_16 ci_16 (List.mem_of_getElem? (i := 3) rfl)
theorem cd_16_4 : mt_cd 16 4 = some (.invokevirtual 15) := mt_cd_of (q := (4, .invokevirtual 15, 3)) mq_16 ci_16 (List.mem_of_getElem? (i := 4) rfl)
theorem cd_16_7 : mt_cd 16 7 = some (.i2l) := mt_cd_of (q := (7, .i2l, 1)) mq_16 ci_16 (List.mem_of_getElem? (i := 5) rfl)
theorem cd_16_8 : mt_cd 16 8 = some (.lastore) := mt_cd_of (q := (8, .lastore, 1)) mq_16 ci_16 (List.mem_of_getElem? (i := 6) rfl)
theorem cd_16_9 : mt_cd 16 9 = some (.goto 9) := mt_cd_of (q := (9, .goto 9, 3)) mq_16 ci_16 (List.mem_of_getElem? (i := 7) rfl)
theorem cd_16_12 : mt_cd 16 12 = some (.astore_n 3) := mt_cd_of (q := (12, .astore_n 3, 1)) mq_16 ci_16 (List.mem_of_getElem? (i := 8) rfl)
theorem cd_16_13 : mt_cd 16 13 = some (.iconst 1) := mt_cd_of (q := (13, .iconst 1, 1)) mq_16 ci_16 (List.mem_of_getElem? (i := 9) rfl)
theorem cd_16_14 : mt_cd 16 14 = some (.ireturn) := mt_cd_of (q := (14, .ireturn, 1)) mq_16 ci_16 (List.mem_of_getElem? (i := 10) rfl)
theorem cd_16_15 : mt_cd 16 15 = some (.astore_n 3) := mt_cd_of (q := (15, .astore_n 3, 1)) mq_16 ci_16 (List.mem_of_getElem? (i := 11) rfl)
theorem cd_16_16 : mt_cd 16 16 = some (.iconst 2) := mt_cd_of (q := (16, .iconst 2, 1)) mq_16 ci_16 (List.mem_of_getElem? (i := 12) rfl)
theorem cd_16_17 : mt_cd 16 17 = some (.ireturn) := mt_cd_of (q := (17, .ireturn, 1)) mq_16 ci_16 (List.mem_of_getElem? (i := 13) rfl)
theorem cd_16_18 : mt_cd 16 18 = some (.iconst 0) := mt_cd_of (q := (18, .iconst 0, 1)) mq_16 ci_16 (List.mem_of_getElem? (i := 14) rfl)
theorem cd_16_19 : mt_cd 16 19 = some (.ireturn) := mt_cd_of (q := (19, .ireturn, 1)) mq_16 ci_16 (List.mem_of_getElem? (i := 15) rfl)
theorem b_16_0 {d : Nat} {Q : (Option Value ⊕ Nat) → mi_H → Prop} (n sl : Nat) (f : Nat → mi_C) {l1 : Nat} {l2 : Int32} {l3 : Nat} {o4 : Option Value} {fs5 : List Value} (h6 : f l1 = .inr (0, fs5)) (h7 : l1 < n) (h8 : mi_W d 17 0 (mi_en 2 [.ref l1, .int l2]) [] (n, sl, f) (mi_Kc d 16 4 [some (.ref l1), some (.int l2), some (.ref l3), o4] [.int 0, .ref l3] Q)) : mi_W (d + 1) 16 0 [some (.ref l1), some (.int l2), some (.ref l3), o4] [] (n, sl, f) Q := by
  refine w_aload_n cd_16_0 rfl ?_
  refine w_iconst (v := 0) cd_16_1 (by decide) ?_
  refine w_aload_n cd_16_2 rfl ?_
  refine w_iload_n cd_16_3 rfl ?_
  exact w_invokevirtual cd_16_4 (show mt_m 18 15 = some (17, 0) by decide +kernel) (rest := [.int 0, .ref l3]) rfl (as := [.ref l1, .int l2]) rfl h6 (Or.inl h7) ⟨Nat.le_of_ble_eq_true rfl, Nat.le_of_ble_eq_true rfl, Nat.le_of_ble_eq_true rfl⟩ h8
theorem b_16_7 {d : Nat} {Q : (Option Value ⊕ Nat) → mi_H → Prop} (n sl : Nat) (f : Nat → mi_C) {l1 : Nat} {l2 : Int32} {l3 : Nat} {o4 : Option Value} {s5 : Int32} {s6 : Int32} {s7 : Nat} (m8 i8 : Nat) (g8 : Nat → Int64) (h9 : f s7 = .inl (3, m8, .inr (.inl g8))) (h10 : s7 < n) (h11 : mi_ix s6 m8 i8) (h12 : mi_W d 16 18 [some (.ref l1), some (.int l2), some (.ref l3), o4] [] (n, sl, (va_up f s7 (.inl (3, m8, .inr (.inl (vp_updL g8 i8 ((s5 : Int32).toInt64))))))) Q) : mi_W d 16 7 [some (.ref l1), some (.int l2), some (.ref l3), o4] [.int s5, .int s6, .ref s7] (n, sl, f) Q := by
  refine w_i2l cd_16_7 ?_
  refine w_lastore cd_16_8 h9 h10 h11 ?_
  exact w_goto cd_16_9 (by decide) h12
theorem b_16_12 {d : Nat} {Q : (Option Value ⊕ Nat) → mi_H → Prop} (n sl : Nat) (f : Nat → mi_C) {l1 : Nat} {l2 : Int32} {l3 : Nat} {o4 : Option Value} {s5 : Nat} (h6 : Q (.inl (some (.int 1))) (n, sl, f)) : mi_W d 16 12 [some (.ref l1), some (.int l2), some (.ref l3), o4] [.ref s5] (n, sl, f) Q := by
  refine w_astore_n (ls' := [some (.ref l1), some (.int l2), some (.ref l3), some (.ref s5)]) cd_16_12 (Nat.le_of_ble_eq_true rfl) rfl ?_
  refine w_iconst (v := 1) cd_16_13 (by decide) ?_
  exact w_ireturn_i cd_16_14 (by decide +kernel) h6
theorem b_16_15 {d : Nat} {Q : (Option Value ⊕ Nat) → mi_H → Prop} (n sl : Nat) (f : Nat → mi_C) {l1 : Nat} {l2 : Int32} {l3 : Nat} {o4 : Option Value} {s5 : Nat} (h6 : Q (.inl (some (.int 2))) (n, sl, f)) : mi_W d 16 15 [some (.ref l1), some (.int l2), some (.ref l3), o4] [.ref s5] (n, sl, f) Q := by
  refine w_astore_n (ls' := [some (.ref l1), some (.int l2), some (.ref l3), some (.ref s5)]) cd_16_15 (Nat.le_of_ble_eq_true rfl) rfl ?_
  refine w_iconst (v := 2) cd_16_16 (by decide) ?_
  exact w_ireturn_i cd_16_17 (by decide +kernel) h6
theorem b_16_18 {d : Nat} {Q : (Option Value ⊕ Nat) → mi_H → Prop} (n sl : Nat) (f : Nat → mi_C) {l1 : Nat} {l2 : Int32} {l3 : Nat} {o4 : Option Value} (h5 : Q (.inl (some (.int 0))) (n, sl, f)) : mi_W d 16 18 [some (.ref l1), some (.int l2), some (.ref l3), o4] [] (n, sl, f) Q := by
  refine w_iconst (v := 0) cd_16_18 (by decide) ?_
  exact w_ireturn_i cd_16_19 (by decide +kernel) h5
/-! MarloweHostLaw.count(LMarloweHost;I[J)I -/
set_option maxRecDepth 100000 in
theorem mq_133 : mt_q 133 = my_133 := rfl
set_option maxRecDepth 100000 in
theorem ci_133 : mt_inc 0 my_133.cd = true := by decide +kernel
theorem cd_133_0 : mt_cd 133 0 = some (.aload_n 2) := mt_cd_of (q := (0, .aload_n 2, 1)) mq_133 ci_133 (List.mem_of_getElem? (i := 0) rfl)
theorem cd_133_1 : mt_cd 133 1 = some (.iconst 0) := mt_cd_of (q := (1, .iconst 0, 1)) mq_133 ci_133 (List.mem_of_getElem? (i := 1) rfl)
theorem cd_133_2 : mt_cd 133 2 = some (.aload_n 0) := mt_cd_of (q := (2, .aload_n 0, 1)) mq_133 ci_133 (List.mem_of_getElem? (i := 2) rfl)
theorem cd_133_3 : mt_cd 133 3 = some (.iload_n 1) := mt_cd_of (q := (3, .iload_n 1, 1)) mq_133 ci_133 (List.mem_of_getElem? (i := 3) rfl)
theorem cd_133_4 : mt_cd 133 4 = some (.invokevirtual 62) := mt_cd_of (q := (4, .invokevirtual 62, 3)) mq_133 ci_133 (List.mem_of_getElem? (i := 4) rfl)
theorem cd_133_7 : mt_cd 133 7 = some (.i2l) := mt_cd_of (q := (7, .i2l, 1)) mq_133 ci_133 (List.mem_of_getElem? (i := 5) rfl)
theorem cd_133_8 : mt_cd 133 8 = some (.lastore) := mt_cd_of (q := (8, .lastore, 1)) mq_133 ci_133 (List.mem_of_getElem? (i := 6) rfl)
theorem cd_133_9 : mt_cd 133 9 = some (.goto 6) := mt_cd_of (q := (9, .goto 6, 3)) mq_133 ci_133 (List.mem_of_getElem? (i := 7) rfl)
theorem cd_133_12 : mt_cd 133 12 = some (.astore_n 3) := mt_cd_of (q := (12, .astore_n 3, 1)) mq_133 ci_133 (List.mem_of_getElem? (i := 8) rfl)
theorem cd_133_13 : mt_cd 133 13 = some (.iconst 1) := mt_cd_of (q := (13, .iconst 1, 1)) mq_133 ci_133 (List.mem_of_getElem? (i := 9) rfl)
theorem cd_133_14 : mt_cd 133 14 = some (.ireturn) := mt_cd_of (q := (14, .ireturn, 1)) mq_133 ci_133 (List.mem_of_getElem? (i := 10) rfl)
theorem cd_133_15 : mt_cd 133 15 = some (.iconst 0) := mt_cd_of (q := (15, .iconst 0, 1)) mq_133 ci_133 (List.mem_of_getElem? (i := 11) rfl)
theorem cd_133_16 : mt_cd 133 16 = some (.ireturn) := mt_cd_of (q := (16, .ireturn, 1)) mq_133 ci_133 (List.mem_of_getElem? (i := 12) rfl)
theorem b_133_0 {d : Nat} {Q : (Option Value ⊕ Nat) → mi_H → Prop} (n sl : Nat) (f : Nat → mi_C) {l1 : Nat} {l2 : Int32} {l3 : Nat} {o4 : Option Value} {fs5 : List Value} (h6 : f l1 = .inr (0, fs5)) (h7 : l1 < n) (h8 : mi_W d 134 0 (mi_en 2 [.ref l1, .int l2]) [] (n, sl, f) (mi_Kc d 133 4 [some (.ref l1), some (.int l2), some (.ref l3), o4] [.int 0, .ref l3] Q)) : mi_W (d + 1) 133 0 [some (.ref l1), some (.int l2), some (.ref l3), o4] [] (n, sl, f) Q := by
  refine w_aload_n cd_133_0 rfl ?_
  refine w_iconst (v := 0) cd_133_1 (by decide) ?_
  refine w_aload_n cd_133_2 rfl ?_
  refine w_iload_n cd_133_3 rfl ?_
  exact w_invokevirtual cd_133_4 (show mt_m 18 62 = some (134, 0) by decide +kernel) (rest := [.int 0, .ref l3]) rfl (as := [.ref l1, .int l2]) rfl h6 (Or.inl h7) ⟨Nat.le_of_ble_eq_true rfl, Nat.le_of_ble_eq_true rfl, Nat.le_of_ble_eq_true rfl⟩ h8
theorem b_133_7 {d : Nat} {Q : (Option Value ⊕ Nat) → mi_H → Prop} (n sl : Nat) (f : Nat → mi_C) {l1 : Nat} {l2 : Int32} {l3 : Nat} {o4 : Option Value} {s5 : Int32} {s6 : Int32} {s7 : Nat} (m8 i8 : Nat) (g8 : Nat → Int64) (h9 : f s7 = .inl (3, m8, .inr (.inl g8))) (h10 : s7 < n) (h11 : mi_ix s6 m8 i8) (h12 : mi_W d 133 15 [some (.ref l1), some (.int l2), some (.ref l3), o4] [] (n, sl, (va_up f s7 (.inl (3, m8, .inr (.inl (vp_updL g8 i8 ((s5 : Int32).toInt64))))))) Q) : mi_W d 133 7 [some (.ref l1), some (.int l2), some (.ref l3), o4] [.int s5, .int s6, .ref s7] (n, sl, f) Q := by
  refine w_i2l cd_133_7 ?_
  refine w_lastore cd_133_8 h9 h10 h11 ?_
  exact w_goto cd_133_9 (by decide) h12
theorem b_133_12 {d : Nat} {Q : (Option Value ⊕ Nat) → mi_H → Prop} (n sl : Nat) (f : Nat → mi_C) {l1 : Nat} {l2 : Int32} {l3 : Nat} {o4 : Option Value} {s5 : Nat} (h6 : Q (.inl (some (.int 1))) (n, sl, f)) : mi_W d 133 12 [some (.ref l1), some (.int l2), some (.ref l3), o4] [.ref s5] (n, sl, f) Q := by
  refine w_astore_n (ls' := [some (.ref l1), some (.int l2), some (.ref l3), some (.ref s5)]) cd_133_12 (Nat.le_of_ble_eq_true rfl) rfl ?_
  refine w_iconst (v := 1) cd_133_13 (by decide) ?_
  exact w_ireturn_i cd_133_14 (by decide +kernel) h6
theorem b_133_15 {d : Nat} {Q : (Option Value ⊕ Nat) → mi_H → Prop} (n sl : Nat) (f : Nat → mi_C) {l1 : Nat} {l2 : Int32} {l3 : Nat} {o4 : Option Value} (h5 : Q (.inl (some (.int 0))) (n, sl, f)) : mi_W d 133 15 [some (.ref l1), some (.int l2), some (.ref l3), o4] [] (n, sl, f) Q := by
  refine w_iconst (v := 0) cd_133_15 (by decide) ?_
  exact w_ireturn_i cd_133_16 (by decide +kernel) h5
/-! MarloweHostLaw.analyse(LMarloweHost;[J)I -/
set_option maxRecDepth 100000 in
theorem mq_119 : mt_q 119 = my_119 := rfl
set_option maxRecDepth 100000 in
theorem ci_119 : mt_inc 0 my_119.cd = true := by decide +kernel
theorem cd_119_0 : mt_cd 119 0 = some (.aload_n 1) := mt_cd_of (q := (0, .aload_n 1, 1)) mq_119 ci_119 (List.mem_of_getElem? (i := 0) rfl)
theorem cd_119_1 : mt_cd 119 1 = some (.iconst 0) := mt_cd_of (q := (1, .iconst 0, 1)) mq_119 ci_119 (List.mem_of_getElem? (i := 1) rfl)
theorem cd_119_2 : mt_cd 119 2 = some (.aload_n 0) := mt_cd_of (q := (2, .aload_n 0, 1)) mq_119 ci_119 (List.mem_of_getElem? (i := 2) rfl)
theorem cd_119_3 : mt_cd 119 3 = some (.invokevirtual 55) := mt_cd_of (q := (3, .invokevirtual 55, 3)) mq_119 ci_119 (List.mem_of_getElem? (i := 3) rfl)
theorem cd_119_6 : mt_cd 119 6 = some (.i2l) := mt_cd_of (q := (6, .i2l, 1)) mq_119 ci_119 (List.mem_of_getElem? (i := 4) rfl)
theorem cd_119_7 : mt_cd 119 7 = some (.lastore) := mt_cd_of (q := (7, .lastore, 1)) mq_119 ci_119 (List.mem_of_getElem? (i := 5) rfl)
theorem cd_119_8 : mt_cd 119 8 = some (.goto 6) := mt_cd_of (q := (8, .goto 6, 3)) mq_119 ci_119 (List.mem_of_getElem? (i := 6) rfl)
theorem cd_119_11 : mt_cd 119 11 = some (.astore_n 2) := mt_cd_of (q := (11, .astore_n 2, 1)) mq_119 ci_119 (List.mem_of_getElem? (i := 7) rfl)
theorem cd_119_12 : mt_cd 119 12 = some (.iconst 1) := mt_cd_of (q := (12, .iconst 1, 1)) mq_119 ci_119 (List.mem_of_getElem? (i := 8) rfl)
theorem cd_119_13 : mt_cd 119 13 = some (.ireturn) := mt_cd_of (q := (13, .ireturn, 1)) mq_119 ci_119 (List.mem_of_getElem? (i := 9) rfl)
theorem cd_119_14 : mt_cd 119 14 = some (.iconst 0) := mt_cd_of (q := (14, .iconst 0, 1)) mq_119 ci_119 (List.mem_of_getElem? (i := 10) rfl)
theorem cd_119_15 : mt_cd 119 15 = some (.ireturn) := mt_cd_of (q := (15, .ireturn, 1)) mq_119 ci_119 (List.mem_of_getElem? (i := 11) rfl)
theorem b_119_0 {d : Nat} {Q : (Option Value ⊕ Nat) → mi_H → Prop} (n sl : Nat) (f : Nat → mi_C) {l1 : Nat} {l2 : Nat} {o3 : Option Value} {fs4 : List Value} (h5 : f l1 = .inr (0, fs4)) (h6 : l1 < n) (h7 : mi_W d 120 0 (mi_en 1 [.ref l1]) [] (n, sl, f) (mi_Kc d 119 3 [some (.ref l1), some (.ref l2), o3] [.int 0, .ref l2] Q)) : mi_W (d + 1) 119 0 [some (.ref l1), some (.ref l2), o3] [] (n, sl, f) Q := by
  refine w_aload_n cd_119_0 rfl ?_
  refine w_iconst (v := 0) cd_119_1 (by decide) ?_
  refine w_aload_n cd_119_2 rfl ?_
  exact w_invokevirtual cd_119_3 (show mt_m 18 55 = some (120, 0) by decide +kernel) (rest := [.int 0, .ref l2]) rfl (as := [.ref l1]) rfl h5 (Or.inl h6) ⟨Nat.le_of_ble_eq_true rfl, Nat.le_of_ble_eq_true rfl, Nat.le_of_ble_eq_true rfl⟩ h7
theorem b_119_6 {d : Nat} {Q : (Option Value ⊕ Nat) → mi_H → Prop} (n sl : Nat) (f : Nat → mi_C) {l1 : Nat} {l2 : Nat} {o3 : Option Value} {s4 : Int32} {s5 : Int32} {s6 : Nat} (m7 i7 : Nat) (g7 : Nat → Int64) (h8 : f s6 = .inl (3, m7, .inr (.inl g7))) (h9 : s6 < n) (h10 : mi_ix s5 m7 i7) (h11 : mi_W d 119 14 [some (.ref l1), some (.ref l2), o3] [] (n, sl, (va_up f s6 (.inl (3, m7, .inr (.inl (vp_updL g7 i7 ((s4 : Int32).toInt64))))))) Q) : mi_W d 119 6 [some (.ref l1), some (.ref l2), o3] [.int s4, .int s5, .ref s6] (n, sl, f) Q := by
  refine w_i2l cd_119_6 ?_
  refine w_lastore cd_119_7 h8 h9 h10 ?_
  exact w_goto cd_119_8 (by decide) h11
theorem b_119_11 {d : Nat} {Q : (Option Value ⊕ Nat) → mi_H → Prop} (n sl : Nat) (f : Nat → mi_C) {l1 : Nat} {l2 : Nat} {o3 : Option Value} {s4 : Nat} (h5 : Q (.inl (some (.int 1))) (n, sl, f)) : mi_W d 119 11 [some (.ref l1), some (.ref l2), o3] [.ref s4] (n, sl, f) Q := by
  refine w_astore_n (ls' := [some (.ref l1), some (.ref l2), some (.ref s4)]) cd_119_11 (Nat.le_of_ble_eq_true rfl) rfl ?_
  refine w_iconst (v := 1) cd_119_12 (by decide) ?_
  exact w_ireturn_i cd_119_13 (by decide +kernel) h5
theorem b_119_14 {d : Nat} {Q : (Option Value ⊕ Nat) → mi_H → Prop} (n sl : Nat) (f : Nat → mi_C) {l1 : Nat} {l2 : Nat} {o3 : Option Value} (h4 : Q (.inl (some (.int 0))) (n, sl, f)) : mi_W d 119 14 [some (.ref l1), some (.ref l2), o3] [] (n, sl, f) Q := by
  refine w_iconst (v := 0) cd_119_14 (by decide) ?_
  exact w_ireturn_i cd_119_15 (by decide +kernel) h4
/-! MarloweHost.analyse()I -/
set_option maxRecDepth 100000 in
theorem mq_120 : mt_q 120 = my_120 := rfl
set_option maxRecDepth 100000 in
theorem ci_120 : mt_inc 0 my_120.cd = true := by decide +kernel
theorem cd_120_0 : mt_cd 120 0 = some (.aload_n 0) := mt_cd_of (q := (0, .aload_n 0, 1)) mq_120 ci_120 (List.mem_of_getElem? (i := 0) rfl)
theorem cd_120_1 : mt_cd 120 1 = some (.invokevirtual 143) := mt_cd_of (q := (1, .invokevirtual 143, 3)) mq_120 ci_120 (List.mem_of_getElem? (i := 1) rfl)
theorem cd_120_4 : mt_cd 120 4 = some (.aload_n 0) := mt_cd_of (q := (4, .aload_n 0, 1)) mq_120 ci_120 (List.mem_of_getElem? (i := 2) rfl)
theorem cd_120_5 : mt_cd 120 5 = some (.getfield 60) := mt_cd_of (q := (5, .getfield 60, 3)) mq_120 ci_120 (List.mem_of_getElem? (i := 3) rfl)
theorem cd_120_8 : mt_cd 120 8 = some (.aload_n 0) := mt_cd_of (q := (8, .aload_n 0, 1)) mq_120 ci_120 (List.mem_of_getElem? (i := 4) rfl)
theorem cd_120_9 : mt_cd 120 9 = some (.getfield 67) := mt_cd_of (q := (9, .getfield 67, 3)) mq_120 ci_120 (List.mem_of_getElem? (i := 5) rfl)
theorem cd_120_12 : mt_cd 120 12 = some (.invokevirtual 206) := mt_cd_of (q := (12, .invokevirtual 206, 3)) mq_120 ci_120 (List.mem_of_getElem? (i := 6) rfl)
theorem cd_120_15 : mt_cd 120 15 = some (.ireturn) := mt_cd_of (q := (15, .ireturn, 1)) mq_120 ci_120 (List.mem_of_getElem? (i := 7) rfl)
theorem b_120_0 {d : Nat} {Q : (Option Value ⊕ Nat) → mi_H → Prop} (n sl : Nat) (f : Nat → mi_C) {l1 : Nat} {fs2 : List Value} (h3 : f l1 = .inr (0, fs2)) (h4 : l1 < n) (h5 : mi_W d 72 0 (mi_en 1 [.ref l1]) [] (n, sl, f) (mi_Kc d 120 1 [some (.ref l1)] [] Q)) : mi_W (d + 1) 120 0 [some (.ref l1)] [] (n, sl, f) Q := by
  refine w_aload_n cd_120_0 rfl ?_
  exact w_invokevirtual cd_120_1 (show mt_m 0 143 = some (72, 0) by decide +kernel) (rest := []) rfl (as := [.ref l1]) rfl h3 (Or.inl h4) ⟨Nat.le_of_ble_eq_true rfl, Nat.le_of_ble_eq_true rfl, Nat.le_of_ble_eq_true rfl⟩ h5
theorem b_120_4 {d : Nat} {Q : (Option Value ⊕ Nat) → mi_H → Prop} (n sl : Nat) (f : Nat → mi_C) {l1 : Nat} {fs2 : List Value} {x5 : Nat} {fs7 : List Value} {x10 : Nat} {fs12 : List Value} (h3 : f l1 = .inr (0, fs2)) (h4 : l1 < n) (h6 : fs2[6]? = some (.ref x5)) (h8 : f l1 = .inr (0, fs7)) (h9 : l1 < n) (h11 : fs7[7]? = some (.ref x10)) (h13 : f x5 = .inr (11, fs12)) (h14 : x5 < n) (h15 : mi_W d 121 0 (mi_en 4 [.ref x5, .ref x10]) [] (n, sl, f) (mi_Kc d 120 12 [some (.ref l1)] [] Q)) : mi_W (d + 1) 120 4 [some (.ref l1)] [] (n, sl, f) Q := by
  refine w_aload_n cd_120_4 rfl ?_
  refine w_getfield cd_120_5 (show mt_f 0 60 = some (0, 6) by decide +kernel) h3 h4 h6 ?_
  refine w_aload_n cd_120_8 rfl ?_
  refine w_getfield cd_120_9 (show mt_f 0 67 = some (0, 7) by decide +kernel) h8 h9 h11 ?_
  exact w_invokevirtual cd_120_12 (show mt_m 0 206 = some (121, 0) by decide +kernel) (rest := []) rfl (as := [.ref x5, .ref x10]) rfl h13 (Or.inl h14) ⟨Nat.le_of_ble_eq_true rfl, Nat.le_of_ble_eq_true rfl, Nat.le_of_ble_eq_true rfl⟩ h15
theorem b_120_15 {d : Nat} {Q : (Option Value ⊕ Nat) → mi_H → Prop} (n sl : Nat) (f : Nat → mi_C) {l1 : Nat} {s2 : Int32} (h3 : Q (.inl (some (.int s2))) (n, sl, f)) : mi_W d 120 15 [some (.ref l1)] [.int s2] (n, sl, f) Q := by
  exact w_ireturn_i cd_120_15 (by decide +kernel) h3
/-! MarloweHost.requireRoomForInput()V -/
set_option maxRecDepth 100000 in
theorem mq_64 : mt_q 64 = my_64 := rfl
set_option maxRecDepth 100000 in
theorem ci_64 : mt_inc 0 my_64.cd = true := by decide +kernel
theorem cd_64_0 : mt_cd 64 0 = some (.aload_n 0) := mt_cd_of (q := (0, .aload_n 0, 1)) mq_64 ci_64 (List.mem_of_getElem? (i := 0) rfl)
theorem cd_64_1 : mt_cd 64 1 = some (.getfield 42) := mt_cd_of (q := (1, .getfield 42, 3)) mq_64 ci_64 (List.mem_of_getElem? (i := 1) rfl)
theorem cd_64_4 : mt_cd 64 4 = some (.getfield 91) := mt_cd_of (q := (4, .getfield 91, 3)) mq_64 ci_64 (List.mem_of_getElem? (i := 2) rfl)
theorem cd_64_7 : mt_cd 64 7 = some (.bipush 16) := mt_cd_of (q := (7, .bipush 16, 2)) mq_64 ci_64 (List.mem_of_getElem? (i := 3) rfl)
theorem cd_64_9 : mt_cd 64 9 = some (.if_icmp .lt 14) := mt_cd_of (q := (9, .if_icmp .lt 14, 3)) mq_64 ci_64 (List.mem_of_getElem? (i := 4) rfl)
theorem cd_64_12 : mt_cd 64 12 = some (.new 78) := mt_cd_of (q := (12, .new 78, 3)) mq_64 ci_64 (List.mem_of_getElem? (i := 5) rfl)
theorem cd_64_15 : mt_cd 64 15 = some (.dup) := mt_cd_of (q := (15, .dup, 1)) mq_64 ci_64 (List.mem_of_getElem? (i := 6) rfl)
theorem cd_64_16 : mt_cd 64 16 = some (.ldc_w 258) := mt_cd_of (q := (16, .ldc_w 258, 3)) mq_64 ci_64 (List.mem_of_getElem? (i := 7) rfl)
theorem cd_64_19 : mt_cd 64 19 = some (.invokespecial 82) := mt_cd_of (q := (19, .invokespecial 82, 3)) mq_64 ci_64 (List.mem_of_getElem? (i := 8) rfl)
theorem cd_64_22 : mt_cd 64 22 = some (.athrow) := mt_cd_of (q := (22, .athrow, 1)) mq_64 ci_64 (List.mem_of_getElem? (i := 9) rfl)
theorem cd_64_23 : mt_cd 64 23 = some (.return_) := mt_cd_of (q := (23, .return_, 1)) mq_64 ci_64 (List.mem_of_getElem? (i := 10) rfl)
theorem b_64_0 {d : Nat} {Q : (Option Value ⊕ Nat) → mi_H → Prop} (n sl : Nat) (f : Nat → mi_C) {l1 : Nat} {fs2 : List Value} {x5 : Nat} {fs7 : List Value} {x10 : Int32} (h3 : f l1 = .inr (0, fs2)) (h4 : l1 < n) (h6 : fs2[4]? = some (.ref x5)) (h8 : f x5 = .inr (6, fs7)) (h9 : x5 < n) (h11 : fs7[5]? = some (.int x10)) (h12 : x10 < 16 → mi_W d 64 23 [some (.ref l1)] [] (n, sl, f) Q) (h13 : ¬ (x10 < 16) → mi_W d 64 12 [some (.ref l1)] [] (n, sl, f) Q) : mi_W d 64 0 [some (.ref l1)] [] (n, sl, f) Q := by
  refine w_aload_n cd_64_0 rfl ?_
  refine w_getfield cd_64_1 (show mt_f 0 42 = some (0, 4) by decide +kernel) h3 h4 h6 ?_
  refine w_getfield cd_64_4 (show mt_f 0 91 = some (6, 5) by decide +kernel) h8 h9 h11 ?_
  refine w_bipush (v := 16) cd_64_7 (by decide) ?_
  exact w_if_icmplt cd_64_9 (by decide) h12 h13
theorem b_64_12 {d : Nat} {Q : (Option Value ⊕ Nat) → mi_H → Prop} (n sl : Nat) (f : Nat → mi_C) {l1 : Nat} {h' : mi_H} (h2 : mi_t 64 12 (.new 78) [] (n, sl, f) = some h') (h3 : Q (.inr n) h') : mi_W d 64 12 [some (.ref l1)] [] (n, sl, f) Q := by
  exact w_throw cd_64_12 (show mt_c 0 78 = some 14 by decide +kernel) (by decide) h2 h3
theorem b_64_23 {d : Nat} {Q : (Option Value ⊕ Nat) → mi_H → Prop} (n sl : Nat) (f : Nat → mi_C) {l1 : Nat} (h2 : Q (.inl none) (n, sl, f)) : mi_W d 64 23 [some (.ref l1)] [] (n, sl, f) Q := by
  exact w_return cd_64_23 (by decide +kernel) h2
/-! MarloweHostModel.thrown()I -/
set_option maxRecDepth 100000 in
theorem mq_138 : mt_q 138 = my_138 := rfl
set_option maxRecDepth 100000 in
theorem ci_138 : mt_inc 0 my_138.cd = true := by decide +kernel
theorem cd_138_0 : mt_cd 138 0 = some (.aload_n 0) := mt_cd_of (q := (0, .aload_n 0, 1)) mq_138 ci_138 (List.mem_of_getElem? (i := 0) rfl)
theorem cd_138_1 : mt_cd 138 1 = some (.getfield 248) := mt_cd_of (q := (1, .getfield 248, 3)) mq_138 ci_138 (List.mem_of_getElem? (i := 1) rfl)
theorem cd_138_4 : mt_cd 138 4 = some (.ireturn) := mt_cd_of (q := (4, .ireturn, 1)) mq_138 ci_138 (List.mem_of_getElem? (i := 2) rfl)
theorem b_138_0 {d : Nat} {Q : (Option Value ⊕ Nat) → mi_H → Prop} (n sl : Nat) (f : Nat → mi_C) {l1 : Nat} {fs2 : List Value} {x5 : Int32} (h3 : f l1 = .inr (12, fs2)) (h4 : l1 < n) (h6 : fs2[0]? = some (.int x5)) (h7 : Q (.inl (some (.int x5))) (n, sl, f)) : mi_W d 138 0 [some (.ref l1)] [] (n, sl, f) Q := by
  refine w_aload_n cd_138_0 rfl ?_
  refine w_getfield cd_138_1 (show mt_f 12 248 = some (12, 0) by decide +kernel) h3 h4 h6 ?_
  exact w_ireturn_i cd_138_4 (by decide +kernel) h7
end
