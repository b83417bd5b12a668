section
/-! MarloweHostModel.end(I)I -/
set_option maxRecDepth 100000 in
theorem mq_139 : mt_q 139 = my_139 := rfl
set_option maxRecDepth 100000 in
theorem ci_139 : mt_inc 0 my_139.cd = true := by decide +kernel
theorem cd_139_0 : mt_cd 139 0 = some (.aload_n 0) := mt_cd_of (q := (0, .aload_n 0, 1)) mq_139 ci_139 (List.mem_of_getElem? (i := 0) rfl)
theorem cd_139_1 : mt_cd 139 1 = some (.iconst 0) := mt_cd_of (q := (1, .iconst 0, 1)) mq_139 ci_139 (List.mem_of_getElem? (i := 1) rfl)
theorem cd_139_2 : mt_cd 139 2 = some (.putfield 248) := mt_cd_of (q := (2, .putfield 248, 3)) mq_139 ci_139 (List.mem_of_getElem? (i := 2) rfl)
theorem cd_139_5 : mt_cd 139 5 = some (.aload_n 0) := mt_cd_of (q := (5, .aload_n 0, 1)) mq_139 ci_139 (List.mem_of_getElem? (i := 3) rfl)
theorem cd_139_6 : mt_cd 139 6 = some (.iload_n 1) := mt_cd_of (q := (6, .iload_n 1, 1)) mq_139 ci_139 (List.mem_of_getElem? (i := 4) rfl)
theorem cd_139_7 : mt_cd 139 7 = some (.ifCond .lt 18) := mt_cd_of (q := (7, .ifCond .lt 18, 3)) mq_139 ci_139 (List.mem_of_getElem? (i := 5) rfl)
theorem cd_139_10 : mt_cd 139 10 = some (.iload_n 1) := mt_cd_of (q := (10, .iload_n 1, 1)) mq_139 ci_139 (List.mem_of_getElem? (i := 6) rfl)
theorem cd_139_11 : mt_cd 139 11 = some (.sipush 8192) := mt_cd_of (q := (11, .sipush 8192, 3)) mq_139 ci_139 (List.mem_of_getElem? (i := 7) rfl)
theorem cd_139_14 : mt_cd 139 14 = some (.if_icmp .gt 11) := mt_cd_of (q := (14, .if_icmp .gt 11, 3)) mq_139 ci_139 (List.mem_of_getElem? (i := 8) rfl)
theorem cd_139_17 : mt_cd 139 17 = some (.iload_n 1) := mt_cd_of (q := (17, .iload_n 1, 1)) mq_139 ci_139 (List.mem_of_getElem? (i := 9) rfl)
theorem cd_139_18 : mt_cd 139 18 = some (.aload_n 0) := mt_cd_of (q := (18, .aload_n 0, 1)) mq_139 ci_139 (List.mem_of_getElem? (i := 10) rfl)
theorem cd_139_19 : mt_cd 139 19 = some (.getfield 251) := mt_cd_of (q := (19, .getfield 251, 3)) mq_139 ci_139 (List.mem_of_getElem? (i := 11) rfl)
theorem cd_139_22 : mt_cd 139 22 = some (.if_icmp .le 7) := mt_cd_of (q := (22, .if_icmp .le 7, 3)) mq_139 ci_139 (List.mem_of_getElem? (i := 12) rfl)
theorem cd_139_25 : mt_cd 139 25 = some (.iconst 1) := mt_cd_of (q := (25, .iconst 1, 1)) mq_139 ci_139 (List.mem_of_getElem? (i := 13) rfl)
theorem cd_139_26 : mt_cd 139 26 = some (.goto 4) := mt_cd_of (q := (26, .goto 4, 3)) mq_139 ci_139 (List.mem_of_getElem? (i := 14) rfl)
theorem cd_139_29 : mt_cd 139 29 = some (.iconst 0) := mt_cd_of (q := (29, .iconst 0, 1)) mq_139 ci_139 (List.mem_of_getElem? (i := 15) rfl)
theorem cd_139_30 : mt_cd 139 30 = some (.iconst 1) := mt_cd_of (q := (30, .iconst 1, 1)) mq_139 ci_139 (List.mem_of_getElem? (i := 16) rfl)
theorem cd_139_31 : mt_cd 139 31 = some (.invokevirtual 254) := mt_cd_of (q := (31, .invokevirtual 254, 3)) mq_139 ci_139 (List.mem_of_getElem? (i := 17) rfl)
theorem cd_139_34 : mt_cd 139 34 = some (.ifCond .eq 5) := mt_cd_of (q := (34, .ifCond .eq 5, 3)) mq_139 ci_139 (List.mem_of_getElem? (i := 18) rfl)
theorem cd_139_37 : mt_cd 139 37 = some (.iconst 0) := mt_cd_of (q := (37, .iconst 0, 1)) mq_139 ci_139 (List.mem_of_getElem? (i := 19) rfl)
theorem cd_139_38 : mt_cd 139 38 = some (.ireturn) := mt_cd_of (q := (38, .ireturn, 1)) mq_139 ci_139 (List.mem_of_getElem? (i := 20) rfl)
theorem cd_139_39 : mt_cd 139 39 = some (.aload_n 0) := mt_cd_of (q := (39, .aload_n 0, 1)) mq_139 ci_139 (List.mem_of_getElem? (i := 21) rfl)
theorem cd_139_40 : mt_cd 139 40 = some (.iconst 0) := mt_cd_of (q := (40, .iconst 0, 1)) mq_139 ci_139 (List.mem_of_getElem? (i := 22) rfl)
theorem cd_139_41 : mt_cd 139 41 = some (.putfield 251) := mt_cd_of (q := (41, .putfield 251, 3)) mq_139 ci_139 (List.mem_of_getElem? (i := 23) rfl)
theorem cd_139_44 : mt_cd 139 44 = some (.aload_n 0) := mt_cd_of (q := (44, .aload_n 0, 1)) mq_139 ci_139 (List.mem_of_getElem? (i := 24) rfl)
theorem cd_139_45 : mt_cd 139 45 = some (.iconst (-1)) := mt_cd_of (q := (45, .iconst (-1), 1)) mq_139 ci_139 (List.mem_of_getElem? (i := 25) rfl)
theorem cd_139_46 : mt_cd 139 46 = some (.putfield 7) := mt_cd_of (q := (46, .putfield 7, 3)) mq_139 ci_139 (List.mem_of_getElem? (i := 26) rfl)
theorem cd_139_49 : mt_cd 139 49 = some (.aload_n 0) := mt_cd_of (q := (49, .aload_n 0, 1)) mq_139 ci_139 (List.mem_of_getElem? (i := 27) rfl)
theorem cd_139_50 : mt_cd 139 50 = some (.iconst (-1)) := mt_cd_of (q := (50, .iconst (-1), 1)) mq_139 ci_139 (List.mem_of_getElem? (i := 28) rfl)
theorem cd_139_51 : mt_cd 139 51 = some (.putfield 13) := mt_cd_of (q := (51, .putfield 13, 3)) mq_139 ci_139 (List.mem_of_getElem? (i := 29) rfl)
theorem cd_139_54 : mt_cd 139 54 = some (.aload_n 0) := mt_cd_of (q := (54, .aload_n 0, 1)) mq_139 ci_139 (List.mem_of_getElem? (i := 30) rfl)
theorem cd_139_55 : mt_cd 139 55 = some (.iconst 0) := mt_cd_of (q := (55, .iconst 0, 1)) mq_139 ci_139 (List.mem_of_getElem? (i := 31) rfl)
theorem cd_139_56 : mt_cd 139 56 = some (.putfield 258) := mt_cd_of (q := (56, .putfield 258, 3)) mq_139 ci_139 (List.mem_of_getElem? (i := 32) rfl)
theorem cd_139_59 : mt_cd 139 59 = some (.aload_n 0) := mt_cd_of (q := (59, .aload_n 0, 1)) mq_139 ci_139 (List.mem_of_getElem? (i := 33) rfl)
theorem cd_139_60 : mt_cd 139 60 = some (.iload_n 1) := mt_cd_of (q := (60, .iload_n 1, 1)) mq_139 ci_139 (List.mem_of_getElem? (i := 34) rfl)
theorem cd_139_61 : mt_cd 139 61 = some (.putfield 261) := mt_cd_of (q := (61, .putfield 261, 3)) mq_139 ci_139 (List.mem_of_getElem? (i := 35) rfl)
theorem cd_139_64 : mt_cd 139 64 = some (.iconst 0) := mt_cd_of (q := (64, .iconst 0, 1)) mq_139 ci_139 (List.mem_of_getElem? (i := 36) rfl)
theorem cd_139_65 : mt_cd 139 65 = some (.istore_n 2) := mt_cd_of (q := (65, .istore_n 2, 1)) mq_139 ci_139 (List.mem_of_getElem? (i := 37) rfl)
theorem cd_139_66 : mt_cd 139 66 = some (.iload_n 2) := mt_cd_of (q := (66, .iload_n 2, 1)) mq_139 ci_139 (List.mem_of_getElem? (i := 38) rfl)
theorem cd_139_67 : mt_cd 139 67 = some (.iload_n 1) := mt_cd_of (q := (67, .iload_n 1, 1)) mq_139 ci_139 (List.mem_of_getElem? (i := 39) rfl)
theorem cd_139_68 : mt_cd 139 68 = some (.if_icmp .ge 57) := mt_cd_of (q := (68, .if_icmp .ge 57, 3)) mq_139 ci_139 (List.mem_of_getElem? (i := 40) rfl)
theorem cd_139_71 : mt_cd 139 71 = some (.aload_n 0) := mt_cd_of (q := (71, .aload_n 0, 1)) mq_139 ci_139 (List.mem_of_getElem? (i := 41) rfl)
theorem cd_139_72 : mt_cd 139 72 = some (.getfield 20) := mt_cd_of (q := (72, .getfield 20, 3)) mq_139 ci_139 (List.mem_of_getElem? (i := 42) rfl)
theorem cd_139_75 : mt_cd 139 75 = some (.iload_n 2) := mt_cd_of (q := (75, .iload_n 2, 1)) mq_139 ci_139 (List.mem_of_getElem? (i := 43) rfl)
theorem cd_139_76 : mt_cd 139 76 = some (.aload_n 0) := mt_cd_of (q := (76, .aload_n 0, 1)) mq_139 ci_139 (List.mem_of_getElem? (i := 44) rfl)
theorem cd_139_77 : mt_cd 139 77 = some (.getfield 16) := mt_cd_of (q := (77, .getfield 16, 3)) mq_139 ci_139 (List.mem_of_getElem? (i := 45) rfl)
theorem cd_139_80 : mt_cd 139 80 = some (.iload_n 2) := mt_cd_of (q := (80, .iload_n 2, 1)) mq_139 ci_139 (List.mem_of_getElem? (i := 46) rfl)
theorem cd_139_81 : mt_cd 139 81 = some (.iaload) := mt_cd_of (q := (81, .iaload, 1)) mq_139 ci_139 (List.mem_of_getElem? (i := 47) rfl)
theorem cd_139_82 : mt_cd 139 82 = some (.iastore) := mt_cd_of (q := (82, .iastore, 1)) mq_139 ci_139 (List.mem_of_getElem? (i := 48) rfl)
theorem cd_139_83 : mt_cd 139 83 = some (.aload_n 0) := mt_cd_of (q := (83, .aload_n 0, 1)) mq_139 ci_139 (List.mem_of_getElem? (i := 49) rfl)
theorem cd_139_84 : mt_cd 139 84 = some (.getfield 20) := mt_cd_of (q := (84, .getfield 20, 3)) mq_139 ci_139 (List.mem_of_getElem? (i := 50) rfl)
theorem cd_139_87 : mt_cd 139 87 = some (.iload_n 2) := mt_cd_of (q := (87, .iload_n 2, 1)) mq_139 ci_139 (List.mem_of_getElem? (i := 51) rfl)
theorem cd_139_88 : mt_cd 139 88 = some (.iaload) := mt_cd_of (q := (88, .iaload, 1)) mq_139 ci_139 (List.mem_of_getElem? (i := 52) rfl)
theorem cd_139_89 : mt_cd 139 89 = some (.bipush 10) := mt_cd_of (q := (89, .bipush 10, 2)) mq_139 ci_139 (List.mem_of_getElem? (i := 53) rfl)
theorem cd_139_91 : mt_cd 139 91 = some (.if_icmp .eq 28) := mt_cd_of (q := (91, .if_icmp .eq 28, 3)) mq_139 ci_139 (List.mem_of_getElem? (i := 54) rfl)
theorem cd_139_94 : mt_cd 139 94 = some (.aload_n 0) := mt_cd_of (q := (94, .aload_n 0, 1)) mq_139 ci_139 (List.mem_of_getElem? (i := 55) rfl)
theorem cd_139_95 : mt_cd 139 95 = some (.getfield 20) := mt_cd_of (q := (95, .getfield 20, 3)) mq_139 ci_139 (List.mem_of_getElem? (i := 56) rfl)
theorem cd_139_98 : mt_cd 139 98 = some (.iload_n 2) := mt_cd_of (q := (98, .iload_n 2, 1)) mq_139 ci_139 (List.mem_of_getElem? (i := 57) rfl)
theorem cd_139_99 : mt_cd 139 99 = some (.iaload) := mt_cd_of (q := (99, .iaload, 1)) mq_139 ci_139 (List.mem_of_getElem? (i := 58) rfl)
theorem cd_139_100 : mt_cd 139 100 = some (.i2l) := mt_cd_of (q := (100, .i2l, 1)) mq_139 ci_139 (List.mem_of_getElem? (i := 59) rfl)
theorem cd_139_101 : mt_cd 139 101 = some (.ldc2_w 264) := mt_cd_of (q := (101, .ldc2_w 264, 3)) mq_139 ci_139 (List.mem_of_getElem? (i := 60) rfl)
theorem cd_139_104 : mt_cd 139 104 = some (.ldc2_w 266) := mt_cd_of (q := (104, .ldc2_w 266, 3)) mq_139 ci_139 (List.mem_of_getElem? (i := 61) rfl)
theorem cd_139_107 : mt_cd 139 107 = some (.invokestatic 268) := mt_cd_of (q := (107, .invokestatic 268, 3)) mq_139 ci_139 (List.mem_of_getElem? (i := 62) rfl)
theorem cd_139_110 : mt_cd 139 110 = some (.ifCond .ne 9) := mt_cd_of (q := (110, .ifCond .ne 9, 3)) mq_139 ci_139 (List.mem_of_getElem? (i := 63) rfl)
theorem cd_139_113 : mt_cd 139 113 = some (.aload_n 0) := mt_cd_of (q := (113, .aload_n 0, 1)) mq_139 ci_139 (List.mem_of_getElem? (i := 64) rfl)
theorem cd_139_114 : mt_cd 139 114 = some (.iload_n 2) := mt_cd_of (q := (114, .iload_n 2, 1)) mq_139 ci_139 (List.mem_of_getElem? (i := 65) rfl)
theorem cd_139_115 : mt_cd 139 115 = some (.invokevirtual 272) := mt_cd_of (q := (115, .invokevirtual 272, 3)) mq_139 ci_139 (List.mem_of_getElem? (i := 66) rfl)
theorem cd_139_118 : mt_cd 139 118 = some (.pop) := mt_cd_of (q := (118, .pop, 1)) mq_139 ci_139 (List.mem_of_getElem? (i := 67) rfl)
theorem cd_139_119 : mt_cd 139 119 = some (.iinc 2 1) := mt_cd_of (q := (119, .iinc 2 1, 3)) mq_139 ci_139 (List.mem_of_getElem? (i := 68) rfl)
theorem cd_139_122 : mt_cd 139 122 = some (.goto (-56)) := mt_cd_of (q := (122, .goto (-56), 3)) mq_139 ci_139 (List.mem_of_getElem? (i := 69) rfl)
theorem cd_139_125 : mt_cd 139 125 = some (.aload_n 0) := mt_cd_of (q := (125, .aload_n 0, 1)) mq_139 ci_139 (List.mem_of_getElem? (i := 70) rfl)
theorem cd_139_126 : mt_cd 139 126 = some (.getfield 7) := mt_cd_of (q := (126, .getfield 7, 3)) mq_139 ci_139 (List.mem_of_getElem? (i := 71) rfl)
theorem cd_139_129 : mt_cd 139 129 = some (.ifCond .ge 7) := mt_cd_of (q := (129, .ifCond .ge 7, 3)) mq_139 ci_139 (List.mem_of_getElem? (i := 72) rfl)
theorem cd_139_132 : mt_cd 139 132 = some (.aload_n 0) := mt_cd_of (q := (132, .aload_n 0, 1)) mq_139 ci_139 (List.mem_of_getElem? (i := 73) rfl)
theorem cd_139_133 : mt_cd 139 133 = some (.invokevirtual 276) := mt_cd_of (q := (133, .invokevirtual 276, 3)) mq_139 ci_139 (List.mem_of_getElem? (i := 74) rfl)
theorem cd_139_136 : mt_cd 139 136 = some (.aload_n 0) := mt_cd_of (q := (136, .aload_n 0, 1)) mq_139 ci_139 (List.mem_of_getElem? (i := 75) rfl)
theorem cd_139_137 : mt_cd 139 137 = some (.aload_n 0) := mt_cd_of (q := (137, .aload_n 0, 1)) mq_139 ci_139 (List.mem_of_getElem? (i := 76) rfl)
theorem cd_139_138 : mt_cd 139 138 = some (.getfield 7) := mt_cd_of (q := (138, .getfield 7, 3)) mq_139 ci_139 (List.mem_of_getElem? (i := 77) rfl)
theorem cd_139_141 : mt_cd 139 141 = some (.ifCond .lt 7) := mt_cd_of (q := (141, .ifCond .lt 7, 3)) mq_139 ci_139 (List.mem_of_getElem? (i := 78) rfl)
theorem cd_139_144 : mt_cd 139 144 = some (.iconst 1) := mt_cd_of (q := (144, .iconst 1, 1)) mq_139 ci_139 (List.mem_of_getElem? (i := 79) rfl)
theorem cd_139_145 : mt_cd 139 145 = some (.goto 4) := mt_cd_of (q := (145, .goto 4, 3)) mq_139 ci_139 (List.mem_of_getElem? (i := 80) rfl)
theorem cd_139_148 : mt_cd 139 148 = some (.iconst 0) := mt_cd_of (q := (148, .iconst 0, 1)) mq_139 ci_139 (List.mem_of_getElem? (i := 81) rfl)
theorem cd_139_149 : mt_cd 139 149 = some (.iconst 2) := mt_cd_of (q := (149, .iconst 2, 1)) mq_139 ci_139 (List.mem_of_getElem? (i := 82) rfl)
theorem cd_139_150 : mt_cd 139 150 = some (.invokevirtual 254) := mt_cd_of (q := (150, .invokevirtual 254, 3)) mq_139 ci_139 (List.mem_of_getElem? (i := 83) rfl)
theorem cd_139_153 : mt_cd 139 153 = some (.ifCond .eq 5) := mt_cd_of (q := (153, .ifCond .eq 5, 3)) mq_139 ci_139 (List.mem_of_getElem? (i := 84) rfl)
theorem cd_139_156 : mt_cd 139 156 = some (.iconst 0) := mt_cd_of (q := (156, .iconst 0, 1)) mq_139 ci_139 (List.mem_of_getElem? (i := 85) rfl)
theorem cd_139_157 : mt_cd 139 157 = some (.ireturn) := mt_cd_of (q := (157, .ireturn, 1)) mq_139 ci_139 (List.mem_of_getElem? (i := 86) rfl)
theorem cd_139_158 : mt_cd 139 158 = some (.aload_n 0) := mt_cd_of (q := (158, .aload_n 0, 1)) mq_139 ci_139 (List.mem_of_getElem? (i := 87) rfl)
theorem cd_139_159 : mt_cd 139 159 = some (.iconst 0) := mt_cd_of (q := (159, .iconst 0, 1)) mq_139 ci_139 (List.mem_of_getElem? (i := 88) rfl)
theorem cd_139_160 : mt_cd 139 160 = some (.putfield 13) := mt_cd_of (q := (160, .putfield 13, 3)) mq_139 ci_139 (List.mem_of_getElem? (i := 89) rfl)
theorem cd_139_163 : mt_cd 139 163 = some (.aload_n 0) := mt_cd_of (q := (163, .aload_n 0, 1)) mq_139 ci_139 (List.mem_of_getElem? (i := 90) rfl)
theorem cd_139_164 : mt_cd 139 164 = some (.getfield 147) := mt_cd_of (q := (164, .getfield 147, 3)) mq_139 ci_139 (List.mem_of_getElem? (i := 91) rfl)
theorem cd_139_167 : mt_cd 139 167 = some (.invokevirtual 279) := mt_cd_of (q := (167, .invokevirtual 279, 3)) mq_139 ci_139 (List.mem_of_getElem? (i := 92) rfl)
theorem cd_139_170 : mt_cd 139 170 = some (.aload_n 0) := mt_cd_of (q := (170, .aload_n 0, 1)) mq_139 ci_139 (List.mem_of_getElem? (i := 93) rfl)
theorem cd_139_171 : mt_cd 139 171 = some (.getfield 282) := mt_cd_of (q := (171, .getfield 282, 3)) mq_139 ci_139 (List.mem_of_getElem? (i := 94) rfl)
theorem cd_139_174 : mt_cd 139 174 = some (.ireturn) := mt_cd_of (q := (174, .ireturn, 1)) mq_139 ci_139 (List.mem_of_getElem? (i := 95) rfl)
theorem b_139_0 {d : Nat} {Q : (Option Value ⊕ Nat) → mi_H → Prop} (n sl : Nat) (f : Nat → mi_C) {l1 : Nat} {l2 : Int32} {o3 : Option Value} {fs4 : List Value} (h5 : f l1 = .inr (12, fs4)) (h6 : l1 < n) (h7 : 0 < fs4.length) (h8 : l2 < (0 : Int32) → mi_W d 139 25 [some (.ref l1), some (.int l2), o3] [.ref l1] (n, sl, (va_up f l1 (.inr (12, fs4.set 0 (.int 0))))) Q) (h9 : ¬ (l2 < (0 : Int32)) → mi_W d 139 10 [some (.ref l1), some (.int l2), o3] [.ref l1] (n, sl, (va_up f l1 (.inr (12, fs4.set 0 (.int 0))))) Q) : mi_W d 139 0 [some (.ref l1), some (.int l2), o3] [] (n, sl, f) Q := by
  refine w_aload_n cd_139_0 rfl ?_
  refine w_iconst (v := 0) cd_139_1 (by decide) ?_
  refine w_putfield (w := .int 0) cd_139_2 (show mt_f 12 248 = some (12, 0) by decide +kernel) h5 h6 ⟨h7, rfl, Or.inl (by decide)⟩ ?_
  refine w_aload_n cd_139_5 rfl ?_
  refine w_iload_n cd_139_6 rfl ?_
  exact w_iflt cd_139_7 (by decide) h8 h9
theorem b_139_10 {d : Nat} {Q : (Option Value ⊕ Nat) → mi_H → Prop} (n sl : Nat) (f : Nat → mi_C) {l1 : Nat} {l2 : Int32} {o3 : Option Value} {s4 : Nat} (h5 : 8192 < l2 → mi_W d 139 25 [some (.ref l1), some (.int l2), o3] [.ref s4] (n, sl, f) Q) (h6 : ¬ (8192 < l2) → mi_W d 139 17 [some (.ref l1), some (.int l2), o3] [.ref s4] (n, sl, f) Q) : mi_W d 139 10 [some (.ref l1), some (.int l2), o3] [.ref s4] (n, sl, f) Q := by
  refine w_iload_n cd_139_10 rfl ?_
  refine w_sipush (v := 8192) cd_139_11 (by decide) ?_
  exact w_if_icmpgt cd_139_14 (by decide) h5 h6
theorem b_139_17 {d : Nat} {Q : (Option Value ⊕ Nat) → mi_H → Prop} (n sl : Nat) (f : Nat → mi_C) {l1 : Nat} {l2 : Int32} {o3 : Option Value} {s4 : Nat} {fs5 : List Value} {x8 : Int32} (h6 : f l1 = .inr (12, fs5)) (h7 : l1 < n) (h9 : fs5[1]? = some (.int x8)) (h10 : l2 ≤ x8 → mi_W d 139 29 [some (.ref l1), some (.int l2), o3] [.ref s4] (n, sl, f) Q) (h11 : ¬ (l2 ≤ x8) → mi_W d 139 25 [some (.ref l1), some (.int l2), o3] [.ref s4] (n, sl, f) Q) : mi_W d 139 17 [some (.ref l1), some (.int l2), o3] [.ref s4] (n, sl, f) Q := by
  refine w_iload_n cd_139_17 rfl ?_
  refine w_aload_n cd_139_18 rfl ?_
  refine w_getfield cd_139_19 (show mt_f 12 251 = some (12, 1) by decide +kernel) h6 h7 h9 ?_
  exact w_if_icmple cd_139_22 (by decide) h10 h11
theorem b_139_25 {d : Nat} {Q : (Option Value ⊕ Nat) → mi_H → Prop} (n sl : Nat) (f : Nat → mi_C) {l1 : Nat} {l2 : Int32} {o3 : Option Value} {s4 : Nat} (h5 : mi_W d 139 30 [some (.ref l1), some (.int l2), o3] [.int 1, .ref s4] (n, sl, f) Q) : mi_W d 139 25 [some (.ref l1), some (.int l2), o3] [.ref s4] (n, sl, f) Q := by
  refine w_iconst (v := 1) cd_139_25 (by decide) ?_
  exact w_goto cd_139_26 (by decide) h5
theorem b_139_29 {d : Nat} {Q : (Option Value ⊕ Nat) → mi_H → Prop} (n sl : Nat) (f : Nat → mi_C) {l1 : Nat} {l2 : Int32} {o3 : Option Value} {s4 : Nat} (h5 : mi_W d 139 30 [some (.ref l1), some (.int l2), o3] [.int 0, .ref s4] (n, sl, f) Q) : mi_W d 139 29 [some (.ref l1), some (.int l2), o3] [.ref s4] (n, sl, f) Q := by
  refine w_iconst (v := 0) cd_139_29 (by decide) ?_
  exact h5
theorem b_139_30 {d : Nat} {Q : (Option Value ⊕ Nat) → mi_H → Prop} (n sl : Nat) (f : Nat → mi_C) {l1 : Nat} {l2 : Int32} {o3 : Option Value} {s4 : Int32} {s5 : Nat} {fs6 : List Value} (h7 : f s5 = .inr (12, fs6)) (h8 : s5 < n) (h9 : mi_W d 138 0 (mi_en 3 [.ref s5, .int s4, .int 1]) [] (n, sl, f) (mi_Kc d 139 31 [some (.ref l1), some (.int l2), o3] [] Q)) : mi_W (d + 1) 139 30 [some (.ref l1), some (.int l2), o3] [.int s4, .ref s5] (n, sl, f) Q := by
  refine w_iconst (v := 1) cd_139_30 (by decide) ?_
  exact w_invokevirtual cd_139_31 (show mt_m 12 254 = some (138, 0) by decide +kernel) (rest := []) rfl (as := [.ref s5, .int s4, .int 1]) rfl h7 (Or.inl h8) ⟨Nat.le_of_ble_eq_true rfl, Nat.le_of_ble_eq_true rfl, Nat.le_of_ble_eq_true rfl⟩ h9
theorem b_139_34 {d : Nat} {Q : (Option Value ⊕ Nat) → mi_H → Prop} (n sl : Nat) (f : Nat → mi_C) {l1 : Nat} {l2 : Int32} {o3 : Option Value} {s4 : Int32} (h5 : s4 = (0 : Int32) → mi_W d 139 39 [some (.ref l1), some (.int l2), o3] [] (n, sl, f) Q) (h6 : ¬ (s4 = (0 : Int32)) → mi_W d 139 37 [some (.ref l1), some (.int l2), o3] [] (n, sl, f) Q) : mi_W d 139 34 [some (.ref l1), some (.int l2), o3] [.int s4] (n, sl, f) Q := by
  exact w_ifeq cd_139_34 (by decide) h5 h6
theorem b_139_37 {d : Nat} {Q : (Option Value ⊕ Nat) → mi_H → Prop} (n sl : Nat) (f : Nat → mi_C) {l1 : Nat} {l2 : Int32} {o3 : Option Value} (h4 : Q (.inl (some (.int 0))) (n, sl, f)) : mi_W d 139 37 [some (.ref l1), some (.int l2), o3] [] (n, sl, f) Q := by
  refine w_iconst (v := 0) cd_139_37 (by decide) ?_
  exact w_ireturn_i cd_139_38 (by decide +kernel) h4
theorem b_139_39 {d : Nat} {Q : (Option Value ⊕ Nat) → mi_H → Prop} (n sl : Nat) (f : Nat → mi_C) {l1 : Nat} {l2 : Int32} {o3 : Option Value} {fs4 : List Value} {fs8 : List Value} {fs12 : List Value} {fs16 : List Value} {fs20 : List Value} (h5 : f l1 = .inr (12, fs4)) (h6 : l1 < n) (h7 : 1 < fs4.length) (h9 : (va_up f l1 (.inr (12, fs4.set 1 (.int 0)))) l1 = .inr (12, fs8)) (h10 : l1 < n) (h11 : 3 < fs8.length) (h13 : (va_up (va_up f l1 (.inr (12, fs4.set 1 (.int 0)))) l1 (.inr (12, fs8.set 3 (.int (-1))))) l1 = .inr (12, fs12)) (h14 : l1 < n) (h15 : 4 < fs12.length) (h17 : (va_up (va_up (va_up f l1 (.inr (12, fs4.set 1 (.int 0)))) l1 (.inr (12, fs8.set 3 (.int (-1))))) l1 (.inr (12, fs12.set 4 (.int (-1))))) l1 = .inr (12, fs16)) (h18 : l1 < n) (h19 : 59 < fs16.length) (h21 : (va_up (va_up (va_up (va_up f l1 (.inr (12, fs4.set 1 (.int 0)))) l1 (.inr (12, fs8.set 3 (.int (-1))))) l1 (.inr (12, fs12.set 4 (.int (-1))))) l1 (.inr (12, fs16.set 59 (.int 0)))) l1 = .inr (12, fs20)) (h22 : l1 < n) (h23 : 2 < fs20.length) (h24 : mi_W d 139 66 [some (.ref l1), some (.int l2), some (.int 0)] [] (n, sl, (va_up (va_up (va_up (va_up (va_up f l1 (.inr (12, fs4.set 1 (.int 0)))) l1 (.inr (12, fs8.set 3 (.int (-1))))) l1 (.inr (12, fs12.set 4 (.int (-1))))) l1 (.inr (12, fs16.set 59 (.int 0)))) l1 (.inr (12, fs20.set 2 (.int l2))))) Q) : mi_W d 139 39 [some (.ref l1), some (.int l2), o3] [] (n, sl, f) Q := by
  refine w_aload_n cd_139_39 rfl ?_
  refine w_iconst (v := 0) cd_139_40 (by decide) ?_
  refine w_putfield (w := .int 0) cd_139_41 (show mt_f 12 251 = some (12, 1) by decide +kernel) h5 h6 ⟨h7, rfl, Or.inl (by decide)⟩ ?_
  refine w_aload_n cd_139_44 rfl ?_
  refine w_iconst (v := (-1)) cd_139_45 (by decide) ?_
  refine w_putfield (w := .int (-1)) cd_139_46 (show mt_f 12 7 = some (12, 3) by decide +kernel) h9 h10 ⟨h11, rfl, Or.inl (by decide)⟩ ?_
  refine w_aload_n cd_139_49 rfl ?_
  refine w_iconst (v := (-1)) cd_139_50 (by decide) ?_
  refine w_putfield (w := .int (-1)) cd_139_51 (show mt_f 12 13 = some (12, 4) by decide +kernel) h13 h14 ⟨h15, rfl, Or.inl (by decide)⟩ ?_
  refine w_aload_n cd_139_54 rfl ?_
  refine w_iconst (v := 0) cd_139_55 (by decide) ?_
  refine w_putfield (w := .int 0) cd_139_56 (show mt_f 12 258 = some (12, 59) by decide +kernel) h17 h18 ⟨h19, rfl, Or.inl (by decide)⟩ ?_
  refine w_aload_n cd_139_59 rfl ?_
  refine w_iload_n cd_139_60 rfl ?_
  refine w_putfield (w := .int l2) cd_139_61 (show mt_f 12 261 = some (12, 2) by decide +kernel) h21 h22 ⟨h23, rfl, Or.inl (by decide)⟩ ?_
  refine w_iconst (v := 0) cd_139_64 (by decide) ?_
  refine w_istore_n (ls' := [some (.ref l1), some (.int l2), some (.int 0)]) cd_139_65 (Nat.le_of_ble_eq_true rfl) rfl ?_
  exact h24
theorem b_139_66 {d : Nat} {Q : (Option Value ⊕ Nat) → mi_H → Prop} (n sl : Nat) (f : Nat → mi_C) {l1 : Nat} {l2 : Int32} {l3 : Int32} (h4 : l2 ≤ l3 → mi_W d 139 125 [some (.ref l1), some (.int l2), some (.int l3)] [] (n, sl, f) Q) (h5 : ¬ (l2 ≤ l3) → mi_W d 139 71 [some (.ref l1), some (.int l2), some (.int l3)] [] (n, sl, f) Q) : mi_W d 139 66 [some (.ref l1), some (.int l2), some (.int l3)] [] (n, sl, f) Q := by
  refine w_iload_n cd_139_66 rfl ?_
  refine w_iload_n cd_139_67 rfl ?_
  exact w_if_icmpge cd_139_68 (by decide) h4 h5
theorem b_139_71 {d : Nat} {Q : (Option Value ⊕ Nat) → mi_H → Prop} (n sl : Nat) (f : Nat → mi_C) {l1 : Nat} {l2 : Int32} {l3 : Int32} {fs4 : List Value} {x7 : Nat} {fs9 : List Value} {x12 : Nat} (m14 i14 : Nat) (g14 : Nat → Int32) (m18 i18 : Nat) (g18 : Nat → Int32) {fs22 : List Value} {x25 : Nat} (m27 i27 : Nat) (g27 : Nat → Int32) (h5 : f l1 = .inr (12, fs4)) (h6 : l1 < n) (h8 : fs4[6]? = some (.ref x7)) (h10 : f l1 = .inr (12, fs9)) (h11 : l1 < n) (h13 : fs9[5]? = some (.ref x12)) (h15 : f x12 = .inl (0, m14, .inl g14)) (h16 : x12 < n ∨ x12 = mi_SC) (h17 : mi_ix l3 m14 i14) (h19 : f x7 = .inl (0, m18, .inl g18)) (h20 : x7 < n) (h21 : mi_ix l3 m18 i18) (h23 : (va_up f x7 (.inl (0, m18, .inl (upd g18 i18 (g14 i14))))) l1 = .inr (12, fs22)) (h24 : l1 < n) (h26 : fs22[6]? = some (.ref x25)) (h28 : (va_up f x7 (.inl (0, m18, .inl (upd g18 i18 (g14 i14))))) x25 = .inl (0, m27, .inl g27)) (h29 : x25 < n ∨ x25 = mi_SC) (h30 : mi_ix l3 m27 i27) (h31 : (g27 i27) = 10 → mi_W d 139 119 [some (.ref l1), some (.int l2), some (.int l3)] [] (n, sl, (va_up f x7 (.inl (0, m18, .inl (upd g18 i18 (g14 i14)))))) Q) (h32 : ¬ ((g27 i27) = 10) → mi_W d 139 94 [some (.ref l1), some (.int l2), some (.int l3)] [] (n, sl, (va_up f x7 (.inl (0, m18, .inl (upd g18 i18 (g14 i14)))))) Q) : mi_W d 139 71 [some (.ref l1), some (.int l2), some (.int l3)] [] (n, sl, f) Q := by
  refine w_aload_n cd_139_71 rfl ?_
  refine w_getfield cd_139_72 (show mt_f 12 20 = some (12, 6) by decide +kernel) h5 h6 h8 ?_
  refine w_iload_n cd_139_75 rfl ?_
  refine w_aload_n cd_139_76 rfl ?_
  refine w_getfield cd_139_77 (show mt_f 12 16 = some (12, 5) by decide +kernel) h10 h11 h13 ?_
  refine w_iload_n cd_139_80 rfl ?_
  refine w_iaload cd_139_81 h15 h16 h17 ?_
  refine w_iastore cd_139_82 h19 h20 h21 ?_
  refine w_aload_n cd_139_83 rfl ?_
  refine w_getfield cd_139_84 (show mt_f 12 20 = some (12, 6) by decide +kernel) h23 h24 h26 ?_
  refine w_iload_n cd_139_87 rfl ?_
  refine w_iaload cd_139_88 h28 h29 h30 ?_
  refine w_bipush (v := 10) cd_139_89 (by decide) ?_
  exact w_if_icmpeq cd_139_91 (by decide) h31 h32
theorem b_139_94 {d : Nat} {Q : (Option Value ⊕ Nat) → mi_H → Prop} (n sl : Nat) (f : Nat → mi_C) {l1 : Nat} {l2 : Int32} {l3 : Int32} {fs4 : List Value} {x7 : Nat} (m9 i9 : Nat) (g9 : Nat → Int32) (h5 : f l1 = .inr (12, fs4)) (h6 : l1 < n) (h8 : fs4[6]? = some (.ref x7)) (h10 : f x7 = .inl (0, m9, .inl g9)) (h11 : x7 < n ∨ x7 = mi_SC) (h12 : mi_ix l3 m9 i9) (h13 : mi_W d 140 0 (mi_en 6 [.long (((g9 i9) : Int32).toInt64), .long 32, .long 126]) [] (n, sl, f) (mi_Kc d 139 107 [some (.ref l1), some (.int l2), some (.int l3)] [] Q)) : mi_W (d + 1) 139 94 [some (.ref l1), some (.int l2), some (.int l3)] [] (n, sl, f) Q := by
  refine w_aload_n cd_139_94 rfl ?_
  refine w_getfield cd_139_95 (show mt_f 12 20 = some (12, 6) by decide +kernel) h5 h6 h8 ?_
  refine w_iload_n cd_139_98 rfl ?_
  refine w_iaload cd_139_99 h10 h11 h12 ?_
  refine w_i2l cd_139_100 ?_
  refine w_ldc2_w (lv := 32) cd_139_101 (by decide +kernel) ?_
  refine w_ldc2_w (lv := 126) cd_139_104 (by decide +kernel) ?_
  exact w_invokestatic cd_139_107 (show mt_m 12 268 = some (140, 4) by decide +kernel) (by decide) (rest := []) rfl (as := [.long (((g9 i9) : Int32).toInt64), .long 32, .long 126]) rfl ⟨Nat.le_of_ble_eq_true rfl, Nat.le_of_ble_eq_true rfl, Nat.le_of_ble_eq_true rfl⟩ h13
theorem b_139_110 {d : Nat} {Q : (Option Value ⊕ Nat) → mi_H → Prop} (n sl : Nat) (f : Nat → mi_C) {l1 : Nat} {l2 : Int32} {l3 : Int32} {s4 : Int32} (h5 : ¬ s4 = (0 : Int32) → mi_W d 139 119 [some (.ref l1), some (.int l2), some (.int l3)] [] (n, sl, f) Q) (h6 : ¬ (¬ s4 = (0 : Int32)) → mi_W d 139 113 [some (.ref l1), some (.int l2), some (.int l3)] [] (n, sl, f) Q) : mi_W d 139 110 [some (.ref l1), some (.int l2), some (.int l3)] [.int s4] (n, sl, f) Q := by
  exact w_ifne cd_139_110 (by decide) h5 h6
theorem b_139_113 {d : Nat} {Q : (Option Value ⊕ Nat) → mi_H → Prop} (n sl : Nat) (f : Nat → mi_C) {l1 : Nat} {l2 : Int32} {l3 : Int32} {fs4 : List Value} (h5 : f l1 = .inr (12, fs4)) (h6 : l1 < n) (h7 : mi_W d 141 0 (mi_en 2 [.ref l1, .int l3]) [] (n, sl, f) (mi_Kc d 139 115 [some (.ref l1), some (.int l2), some (.int l3)] [] Q)) : mi_W (d + 1) 139 113 [some (.ref l1), some (.int l2), some (.int l3)] [] (n, sl, f) Q := by
  refine w_aload_n cd_139_113 rfl ?_
  refine w_iload_n cd_139_114 rfl ?_
  exact w_invokevirtual cd_139_115 (show mt_m 12 272 = some (141, 0) by decide +kernel) (rest := []) rfl (as := [.ref l1, .int l3]) rfl h5 (Or.inl h6) ⟨Nat.le_of_ble_eq_true rfl, Nat.le_of_ble_eq_true rfl, Nat.le_of_ble_eq_true rfl⟩ h7
theorem b_139_118 {d : Nat} {Q : (Option Value ⊕ Nat) → mi_H → Prop} (n sl : Nat) (f : Nat → mi_C) {l1 : Nat} {l2 : Int32} {l3 : Int32} {s4 : Int32} (h5 : mi_W d 139 119 [some (.ref l1), some (.int l2), some (.int l3)] [] (n, sl, f) Q) : mi_W d 139 118 [some (.ref l1), some (.int l2), some (.int l3)] [.int s4] (n, sl, f) Q := by
  refine w_pop_i cd_139_118 ?_
  exact h5
theorem b_139_119 {d : Nat} {Q : (Option Value ⊕ Nat) → mi_H → Prop} (n sl : Nat) (f : Nat → mi_C) {l1 : Nat} {l2 : Int32} {l3 : Int32} (h4 : mi_W d 139 66 [some (.ref l1), some (.int l2), some (.int (l3 + 1))] [] (n, sl, f) Q) : mi_W d 139 119 [some (.ref l1), some (.int l2), some (.int l3)] [] (n, sl, f) Q := by
  refine w_iinc (v := 1) (ls' := [some (.ref l1), some (.int l2), some (.int (l3 + 1))]) cd_139_119 rfl (by decide) rfl ?_
  exact w_goto cd_139_122 (by decide) h4
theorem b_139_125 {d : Nat} {Q : (Option Value ⊕ Nat) → mi_H → Prop} (n sl : Nat) (f : Nat → mi_C) {l1 : Nat} {l2 : Int32} {l3 : Int32} {fs4 : List Value} {x7 : Int32} (h5 : f l1 = .inr (12, fs4)) (h6 : l1 < n) (h8 : fs4[3]? = some (.int x7)) (h9 : (0 : Int32) ≤ x7 → mi_W d 139 136 [some (.ref l1), some (.int l2), some (.int l3)] [] (n, sl, f) Q) (h10 : ¬ ((0 : Int32) ≤ x7) → mi_W d 139 132 [some (.ref l1), some (.int l2), some (.int l3)] [] (n, sl, f) Q) : mi_W d 139 125 [some (.ref l1), some (.int l2), some (.int l3)] [] (n, sl, f) Q := by
  refine w_aload_n cd_139_125 rfl ?_
  refine w_getfield cd_139_126 (show mt_f 12 7 = some (12, 3) by decide +kernel) h5 h6 h8 ?_
  exact w_ifge cd_139_129 (by decide) h9 h10
theorem b_139_132 {d : Nat} {Q : (Option Value ⊕ Nat) → mi_H → Prop} (n sl : Nat) (f : Nat → mi_C) {l1 : Nat} {l2 : Int32} {l3 : Int32} {fs4 : List Value} (h5 : f l1 = .inr (12, fs4)) (h6 : l1 < n) (h7 : mi_W d 142 0 (mi_en 1 [.ref l1]) [] (n, sl, f) (mi_Kc d 139 133 [some (.ref l1), some (.int l2), some (.int l3)] [] Q)) : mi_W (d + 1) 139 132 [some (.ref l1), some (.int l2), some (.int l3)] [] (n, sl, f) Q := by
  refine w_aload_n cd_139_132 rfl ?_
  exact w_invokevirtual cd_139_133 (show mt_m 12 276 = some (142, 0) by decide +kernel) (rest := []) rfl (as := [.ref l1]) rfl h5 (Or.inl h6) ⟨Nat.le_of_ble_eq_true rfl, Nat.le_of_ble_eq_true rfl, Nat.le_of_ble_eq_true rfl⟩ h7
theorem b_139_136 {d : Nat} {Q : (Option Value ⊕ Nat) → mi_H → Prop} (n sl : Nat) (f : Nat → mi_C) {l1 : Nat} {l2 : Int32} {l3 : Int32} {fs4 : List Value} {x7 : Int32} (h5 : f l1 = .inr (12, fs4)) (h6 : l1 < n) (h8 : fs4[3]? = some (.int x7)) (h9 : x7 < (0 : Int32) → mi_W d 139 148 [some (.ref l1), some (.int l2), some (.int l3)] [.ref l1] (n, sl, f) Q) (h10 : ¬ (x7 < (0 : Int32)) → mi_W d 139 144 [some (.ref l1), some (.int l2), some (.int l3)] [.ref l1] (n, sl, f) Q) : mi_W d 139 136 [some (.ref l1), some (.int l2), some (.int l3)] [] (n, sl, f) Q := by
  refine w_aload_n cd_139_136 rfl ?_
  refine w_aload_n cd_139_137 rfl ?_
  refine w_getfield cd_139_138 (show mt_f 12 7 = some (12, 3) by decide +kernel) h5 h6 h8 ?_
  exact w_iflt cd_139_141 (by decide) h9 h10
theorem b_139_144 {d : Nat} {Q : (Option Value ⊕ Nat) → mi_H → Prop} (n sl : Nat) (f : Nat → mi_C) {l1 : Nat} {l2 : Int32} {l3 : Int32} {s4 : Nat} (h5 : mi_W d 139 149 [some (.ref l1), some (.int l2), some (.int l3)] [.int 1, .ref s4] (n, sl, f) Q) : mi_W d 139 144 [some (.ref l1), some (.int l2), some (.int l3)] [.ref s4] (n, sl, f) Q := by
  refine w_iconst (v := 1) cd_139_144 (by decide) ?_
  exact w_goto cd_139_145 (by decide) h5
theorem b_139_148 {d : Nat} {Q : (Option Value ⊕ Nat) → mi_H → Prop} (n sl : Nat) (f : Nat → mi_C) {l1 : Nat} {l2 : Int32} {l3 : Int32} {s4 : Nat} (h5 : mi_W d 139 149 [some (.ref l1), some (.int l2), some (.int l3)] [.int 0, .ref s4] (n, sl, f) Q) : mi_W d 139 148 [some (.ref l1), some (.int l2), some (.int l3)] [.ref s4] (n, sl, f) Q := by
  refine w_iconst (v := 0) cd_139_148 (by decide) ?_
  exact h5
theorem b_139_149 {d : Nat} {Q : (Option Value ⊕ Nat) → mi_H → Prop} (n sl : Nat) (f : Nat → mi_C) {l1 : Nat} {l2 : Int32} {l3 : Int32} {s4 : Int32} {s5 : Nat} {fs6 : List Value} (h7 : f s5 = .inr (12, fs6)) (h8 : s5 < n) (h9 : mi_W d 138 0 (mi_en 3 [.ref s5, .int s4, .int 2]) [] (n, sl, f) (mi_Kc d 139 150 [some (.ref l1), some (.int l2), some (.int l3)] [] Q)) : mi_W (d + 1) 139 149 [some (.ref l1), some (.int l2), some (.int l3)] [.int s4, .ref s5] (n, sl, f) Q := by
  refine w_iconst (v := 2) cd_139_149 (by decide) ?_
  exact w_invokevirtual cd_139_150 (show mt_m 12 254 = some (138, 0) by decide +kernel) (rest := []) rfl (as := [.ref s5, .int s4, .int 2]) rfl h7 (Or.inl h8) ⟨Nat.le_of_ble_eq_true rfl, Nat.le_of_ble_eq_true rfl, Nat.le_of_ble_eq_true rfl⟩ h9
theorem b_139_153 {d : Nat} {Q : (Option Value ⊕ Nat) → mi_H → Prop} (n sl : Nat) (f : Nat → mi_C) {l1 : Nat} {l2 : Int32} {l3 : Int32} {s4 : Int32} (h5 : s4 = (0 : Int32) → mi_W d 139 158 [some (.ref l1), some (.int l2), some (.int l3)] [] (n, sl, f) Q) (h6 : ¬ (s4 = (0 : Int32)) → mi_W d 139 156 [some (.ref l1), some (.int l2), some (.int l3)] [] (n, sl, f) Q) : mi_W d 139 153 [some (.ref l1), some (.int l2), some (.int l3)] [.int s4] (n, sl, f) Q := by
  exact w_ifeq cd_139_153 (by decide) h5 h6
theorem b_139_156 {d : Nat} {Q : (Option Value ⊕ Nat) → mi_H → Prop} (n sl : Nat) (f : Nat → mi_C) {l1 : Nat} {l2 : Int32} {l3 : Int32} (h4 : Q (.inl (some (.int 0))) (n, sl, f)) : mi_W d 139 156 [some (.ref l1), some (.int l2), some (.int l3)] [] (n, sl, f) Q := by
  refine w_iconst (v := 0) cd_139_156 (by decide) ?_
  exact w_ireturn_i cd_139_157 (by decide +kernel) h4
theorem b_139_158 {d : Nat} {Q : (Option Value ⊕ Nat) → mi_H → Prop} (n sl : Nat) (f : Nat → mi_C) {l1 : Nat} {l2 : Int32} {l3 : Int32} {fs4 : List Value} {fs8 : List Value} {x11 : Nat} {fs13 : List Value} (h5 : f l1 = .inr (12, fs4)) (h6 : l1 < n) (h7 : 4 < fs4.length) (h9 : (va_up f l1 (.inr (12, fs4.set 4 (.int 0)))) l1 = .inr (12, fs8)) (h10 : l1 < n) (h12 : fs8[41]? = some (.ref x11)) (h14 : (va_up f l1 (.inr (12, fs4.set 4 (.int 0)))) x11 = .inr (13, fs13)) (h15 : x11 < n) (h16 : mi_W d 168 0 (mi_en 2 [.ref x11]) [] (n, sl, (va_up f l1 (.inr (12, fs4.set 4 (.int 0))))) (mi_Kc d 139 167 [some (.ref l1), some (.int l2), some (.int l3)] [] Q)) : mi_W (d + 1) 139 158 [some (.ref l1), some (.int l2), some (.int l3)] [] (n, sl, f) Q := by
  refine w_aload_n cd_139_158 rfl ?_
  refine w_iconst (v := 0) cd_139_159 (by decide) ?_
  refine w_putfield (w := .int 0) cd_139_160 (show mt_f 12 13 = some (12, 4) by decide +kernel) h5 h6 ⟨h7, rfl, Or.inl (by decide)⟩ ?_
  refine w_aload_n cd_139_163 rfl ?_
  refine w_getfield cd_139_164 (show mt_f 12 147 = some (12, 41) by decide +kernel) h9 h10 h12 ?_
  exact w_invokevirtual cd_139_167 (show mt_m 12 279 = some (168, 0) by decide +kernel) (rest := []) rfl (as := [.ref x11]) rfl h14 (Or.inl h15) ⟨Nat.le_of_ble_eq_true rfl, Nat.le_of_ble_eq_true rfl, Nat.le_of_ble_eq_true rfl⟩ h16
theorem b_139_170 {d : Nat} {Q : (Option Value ⊕ Nat) → mi_H → Prop} (n sl : Nat) (f : Nat → mi_C) {l1 : Nat} {l2 : Int32} {l3 : Int32} {fs4 : List Value} {x7 : Int32} (h5 : f l1 = .inr (12, fs4)) (h6 : l1 < n) (h8 : fs4[21]? = some (.int x7)) (h9 : Q (.inl (some (.int x7))) (n, sl, f)) : mi_W d 139 170 [some (.ref l1), some (.int l2), some (.int l3)] [] (n, sl, f) Q := by
  refine w_aload_n cd_139_170 rfl ?_
  refine w_getfield cd_139_171 (show mt_f 12 282 = some (12, 21) by decide +kernel) h5 h6 h8 ?_
  exact w_ireturn_i cd_139_174 (by decide +kernel) h9
/-! MarloweHostModel.in(JJJ)Z -/
set_option maxRecDepth 100000 in
theorem mq_140 : mt_q 140 = my_140 := rfl
set_option maxRecDepth 100000 in
theorem ci_140 : mt_inc 0 my_140.cd = true := by decide +kernel
theorem cd_140_0 : mt_cd 140 0 = some (.lload_n 0) := mt_cd_of (q := (0, .lload_n 0, 1)) mq_140 ci_140 (List.mem_of_getElem? (i := 0) rfl)
theorem cd_140_1 : mt_cd 140 1 = some (.lload_n 2) := mt_cd_of (q := (1, .lload_n 2, 1)) mq_140 ci_140 (List.mem_of_getElem? (i := 1) rfl)
theorem cd_140_2 : mt_cd 140 2 = some (.lcmp) := mt_cd_of (q := (2, .lcmp, 1)) mq_140 ci_140 (List.mem_of_getElem? (i := 2) rfl)
theorem cd_140_3 : mt_cd 140 3 = some (.ifCond .lt 14) := mt_cd_of (q := (3, .ifCond .lt 14, 3)) mq_140 ci_140 (List.mem_of_getElem? (i := 3) rfl)
theorem cd_140_6 : mt_cd 140 6 = some (.lload_n 0) := mt_cd_of (q := (6, .lload_n 0, 1)) mq_140 ci_140 (List.mem_of_getElem? (i := 4) rfl)
theorem cd_140_7 : mt_cd 140 7 = some (.lload 4) := mt_cd_of (q := (7, .lload 4, 2)) mq_140 ci_140 (List.mem_of_getElem? (i := 5) rfl)
theorem cd_140_9 : mt_cd 140 9 = some (.lcmp) := mt_cd_of (q := (9, .lcmp, 1)) mq_140 ci_140 (List.mem_of_getElem? (i := 6) rfl)
theorem cd_140_10 : mt_cd 140 10 = some (.ifCond .gt 7) := mt_cd_of (q := (10, .ifCond .gt 7, 3)) mq_140 ci_140 (List.mem_of_getElem? (i := 7) rfl)
theorem cd_140_13 : mt_cd 140 13 = some (.iconst 1) := mt_cd_of (q := (13, .iconst 1, 1)) mq_140 ci_140 (List.mem_of_getElem? (i := 8) rfl)
theorem cd_140_14 : mt_cd 140 14 = some (.goto 4) := mt_cd_of (q := (14, .goto 4, 3)) mq_140 ci_140 (List.mem_of_getElem? (i := 9) rfl)
theorem cd_140_17 : mt_cd 140 17 = some (.iconst 0) := mt_cd_of (q := (17, .iconst 0, 1)) mq_140 ci_140 (List.mem_of_getElem? (i := 10) rfl)
theorem cd_140_18 : mt_cd 140 18 = some (.ireturn) := mt_cd_of (q := (18, .ireturn, 1)) mq_140 ci_140 (List.mem_of_getElem? (i := 11) rfl)
theorem b_140_0 {d : Nat} {Q : (Option Value ⊕ Nat) → mi_H → Prop} (n sl : Nat) (f : Nat → mi_C) {l1 : Int64} {l2 : Int64} {l3 : Int64} (h4 : (lg_cmp l1 l2) < (0 : Int32) → mi_W d 140 17 [some (.long l1), none, some (.long l2), none, some (.long l3), none] [] (n, sl, f) Q) (h5 : ¬ ((lg_cmp l1 l2) < (0 : Int32)) → mi_W d 140 6 [some (.long l1), none, some (.long l2), none, some (.long l3), none] [] (n, sl, f) Q) : mi_W d 140 0 [some (.long l1), none, some (.long l2), none, some (.long l3), none] [] (n, sl, f) Q := by
  refine w_lload_n cd_140_0 rfl ?_
  refine w_lload_n cd_140_1 rfl ?_
  refine w_lcmp cd_140_2 ?_
  exact w_iflt cd_140_3 (by decide) h4 h5
theorem b_140_6 {d : Nat} {Q : (Option Value ⊕ Nat) → mi_H → Prop} (n sl : Nat) (f : Nat → mi_C) {l1 : Int64} {l2 : Int64} {l3 : Int64} (h4 : (0 : Int32) < (lg_cmp l1 l3) → mi_W d 140 17 [some (.long l1), none, some (.long l2), none, some (.long l3), none] [] (n, sl, f) Q) (h5 : ¬ ((0 : Int32) < (lg_cmp l1 l3)) → mi_W d 140 13 [some (.long l1), none, some (.long l2), none, some (.long l3), none] [] (n, sl, f) Q) : mi_W d 140 6 [some (.long l1), none, some (.long l2), none, some (.long l3), none] [] (n, sl, f) Q := by
  refine w_lload_n cd_140_6 rfl ?_
  refine w_lload cd_140_7 rfl ?_
  refine w_lcmp cd_140_9 ?_
  exact w_ifgt cd_140_10 (by decide) h4 h5
theorem b_140_13 {d : Nat} {Q : (Option Value ⊕ Nat) → mi_H → Prop} (n sl : Nat) (f : Nat → mi_C) {l1 : Int64} {l2 : Int64} {l3 : Int64} (h4 : mi_W d 140 18 [some (.long l1), none, some (.long l2), none, some (.long l3), none] [.int 1] (n, sl, f) Q) : mi_W d 140 13 [some (.long l1), none, some (.long l2), none, some (.long l3), none] [] (n, sl, f) Q := by
  refine w_iconst (v := 1) cd_140_13 (by decide) ?_
  exact w_goto cd_140_14 (by decide) h4
theorem b_140_17 {d : Nat} {Q : (Option Value ⊕ Nat) → mi_H → Prop} (n sl : Nat) (f : Nat → mi_C) {l1 : Int64} {l2 : Int64} {l3 : Int64} (h4 : mi_W d 140 18 [some (.long l1), none, some (.long l2), none, some (.long l3), none] [.int 0] (n, sl, f) Q) : mi_W d 140 17 [some (.long l1), none, some (.long l2), none, some (.long l3), none] [] (n, sl, f) Q := by
  refine w_iconst (v := 0) cd_140_17 (by decide) ?_
  exact h4
theorem b_140_18 {d : Nat} {Q : (Option Value ⊕ Nat) → mi_H → Prop} (n sl : Nat) (f : Nat → mi_C) {l1 : Int64} {l2 : Int64} {l3 : Int64} {s4 : Int32} (h5 : s4 = 0 ∨ s4 = 1) (h6 : Q (.inl (some (.int s4))) (n, sl, f)) : mi_W d 140 18 [some (.long l1), none, some (.long l2), none, some (.long l3), none] [.int s4] (n, sl, f) Q := by
  exact w_ireturn_z cd_140_18 (by decide +kernel) h5 h6
/-! MarloweHostModel.bad(I)Z -/
set_option maxRecDepth 100000 in
theorem mq_141 : mt_q 141 = my_141 := rfl
set_option maxRecDepth 100000 in
theorem ci_141 : mt_inc 0 my_141.cd = true := by decide +kernel
theorem cd_141_0 : mt_cd 141 0 = some (.aload_n 0) := mt_cd_of (q := (0, .aload_n 0, 1)) mq_141 ci_141 (List.mem_of_getElem? (i := 0) rfl)
theorem cd_141_1 : mt_cd 141 1 = some (.getfield 7) := mt_cd_of (q := (1, .getfield 7, 3)) mq_141 ci_141 (List.mem_of_getElem? (i := 1) rfl)
theorem cd_141_4 : mt_cd 141 4 = some (.ifCond .ge 8) := mt_cd_of (q := (4, .ifCond .ge 8, 3)) mq_141 ci_141 (List.mem_of_getElem? (i := 2) rfl)
theorem cd_141_7 : mt_cd 141 7 = some (.aload_n 0) := mt_cd_of (q := (7, .aload_n 0, 1)) mq_141 ci_141 (List.mem_of_getElem? (i := 3) rfl)
theorem cd_141_8 : mt_cd 141 8 = some (.iload_n 1) := mt_cd_of (q := (8, .iload_n 1, 1)) mq_141 ci_141 (List.mem_of_getElem? (i := 4) rfl)
theorem cd_141_9 : mt_cd 141 9 = some (.putfield 7) := mt_cd_of (q := (9, .putfield 7, 3)) mq_141 ci_141 (List.mem_of_getElem? (i := 5) rfl)
theorem cd_141_12 : mt_cd 141 12 = some (.iconst 0) := mt_cd_of (q := (12, .iconst 0, 1)) mq_141 ci_141 (List.mem_of_getElem? (i := 6) rfl)
theorem cd_141_13 : mt_cd 141 13 = some (.ireturn) := mt_cd_of (q := (13, .ireturn, 1)) mq_141 ci_141 (List.mem_of_getElem? (i := 7) rfl)
theorem b_141_0 {d : Nat} {Q : (Option Value ⊕ Nat) → mi_H → Prop} (n sl : Nat) (f : Nat → mi_C) {l1 : Nat} {l2 : Int32} {fs3 : List Value} {x6 : Int32} (h4 : f l1 = .inr (12, fs3)) (h5 : l1 < n) (h7 : fs3[3]? = some (.int x6)) (h8 : (0 : Int32) ≤ x6 → mi_W d 141 12 [some (.ref l1), some (.int l2)] [] (n, sl, f) Q) (h9 : ¬ ((0 : Int32) ≤ x6) → mi_W d 141 7 [some (.ref l1), some (.int l2)] [] (n, sl, f) Q) : mi_W d 141 0 [some (.ref l1), some (.int l2)] [] (n, sl, f) Q := by
  refine w_aload_n cd_141_0 rfl ?_
  refine w_getfield cd_141_1 (show mt_f 12 7 = some (12, 3) by decide +kernel) h4 h5 h7 ?_
  exact w_ifge cd_141_4 (by decide) h8 h9
theorem b_141_7 {d : Nat} {Q : (Option Value ⊕ Nat) → mi_H → Prop} (n sl : Nat) (f : Nat → mi_C) {l1 : Nat} {l2 : Int32} {fs3 : List Value} (h4 : f l1 = .inr (12, fs3)) (h5 : l1 < n) (h6 : 3 < fs3.length) (h7 : mi_W d 141 12 [some (.ref l1), some (.int l2)] [] (n, sl, (va_up f l1 (.inr (12, fs3.set 3 (.int l2))))) Q) : mi_W d 141 7 [some (.ref l1), some (.int l2)] [] (n, sl, f) Q := by
  refine w_aload_n cd_141_7 rfl ?_
  refine w_iload_n cd_141_8 rfl ?_
  refine w_putfield (w := .int l2) cd_141_9 (show mt_f 12 7 = some (12, 3) by decide +kernel) h4 h5 ⟨h6, rfl, Or.inl (by decide)⟩ ?_
  exact h7
theorem b_141_12 {d : Nat} {Q : (Option Value ⊕ Nat) → mi_H → Prop} (n sl : Nat) (f : Nat → mi_C) {l1 : Nat} {l2 : Int32} (h3 : Q (.inl (some (.int 0))) (n, sl, f)) : mi_W d 141 12 [some (.ref l1), some (.int l2)] [] (n, sl, f) Q := by
  refine w_iconst (v := 0) cd_141_12 (by decide) ?_
  exact w_ireturn_z cd_141_13 (by decide +kernel) (by decide) h3
/-! MarloweHostModel.read()V -/
set_option maxRecDepth 100000 in
theorem mq_142 : mt_q 142 = my_142 := rfl
set_option maxRecDepth 100000 in
theorem ci_142 : mt_inc 0 my_142.cd = true := by decide +kernel
theorem cd_142_0 : mt_cd 142 0 = some (.aload_n 0) := mt_cd_of (q := (0, .aload_n 0, 1)) mq_142 ci_142 (List.mem_of_getElem? (i := 0) rfl)
theorem cd_142_1 : mt_cd 142 1 = some (.iconst 0) := mt_cd_of (q := (1, .iconst 0, 1)) mq_142 ci_142 (List.mem_of_getElem? (i := 1) rfl)
theorem cd_142_2 : mt_cd 142 2 = some (.putfield 282) := mt_cd_of (q := (2, .putfield 282, 3)) mq_142 ci_142 (List.mem_of_getElem? (i := 2) rfl)
theorem cd_142_5 : mt_cd 142 5 = some (.aload_n 0) := mt_cd_of (q := (5, .aload_n 0, 1)) mq_142 ci_142 (List.mem_of_getElem? (i := 3) rfl)
theorem cd_142_6 : mt_cd 142 6 = some (.iconst 0) := mt_cd_of (q := (6, .iconst 0, 1)) mq_142 ci_142 (List.mem_of_getElem? (i := 4) rfl)
theorem cd_142_7 : mt_cd 142 7 = some (.putfield 337) := mt_cd_of (q := (7, .putfield 337, 3)) mq_142 ci_142 (List.mem_of_getElem? (i := 5) rfl)
theorem cd_142_10 : mt_cd 142 10 = some (.aload_n 0) := mt_cd_of (q := (10, .aload_n 0, 1)) mq_142 ci_142 (List.mem_of_getElem? (i := 6) rfl)
theorem cd_142_11 : mt_cd 142 11 = some (.iconst 0) := mt_cd_of (q := (11, .iconst 0, 1)) mq_142 ci_142 (List.mem_of_getElem? (i := 7) rfl)
theorem cd_142_12 : mt_cd 142 12 = some (.putfield 340) := mt_cd_of (q := (12, .putfield 340, 3)) mq_142 ci_142 (List.mem_of_getElem? (i := 8) rfl)
theorem cd_142_15 : mt_cd 142 15 = some (.aload_n 0) := mt_cd_of (q := (15, .aload_n 0, 1)) mq_142 ci_142 (List.mem_of_getElem? (i := 9) rfl)
theorem cd_142_16 : mt_cd 142 16 = some (.iconst 0) := mt_cd_of (q := (16, .iconst 0, 1)) mq_142 ci_142 (List.mem_of_getElem? (i := 10) rfl)
theorem cd_142_17 : mt_cd 142 17 = some (.putfield 343) := mt_cd_of (q := (17, .putfield 343, 3)) mq_142 ci_142 (List.mem_of_getElem? (i := 11) rfl)
theorem cd_142_20 : mt_cd 142 20 = some (.aload_n 0) := mt_cd_of (q := (20, .aload_n 0, 1)) mq_142 ci_142 (List.mem_of_getElem? (i := 12) rfl)
theorem cd_142_21 : mt_cd 142 21 = some (.iconst 0) := mt_cd_of (q := (21, .iconst 0, 1)) mq_142 ci_142 (List.mem_of_getElem? (i := 13) rfl)
theorem cd_142_22 : mt_cd 142 22 = some (.putfield 346) := mt_cd_of (q := (22, .putfield 346, 3)) mq_142 ci_142 (List.mem_of_getElem? (i := 14) rfl)
theorem cd_142_25 : mt_cd 142 25 = some (.aload_n 0) := mt_cd_of (q := (25, .aload_n 0, 1)) mq_142 ci_142 (List.mem_of_getElem? (i := 15) rfl)
theorem cd_142_26 : mt_cd 142 26 = some (.iconst 0) := mt_cd_of (q := (26, .iconst 0, 1)) mq_142 ci_142 (List.mem_of_getElem? (i := 16) rfl)
theorem cd_142_27 : mt_cd 142 27 = some (.putfield 349) := mt_cd_of (q := (27, .putfield 349, 3)) mq_142 ci_142 (List.mem_of_getElem? (i := 17) rfl)
theorem cd_142_30 : mt_cd 142 30 = some (.aload_n 0) := mt_cd_of (q := (30, .aload_n 0, 1)) mq_142 ci_142 (List.mem_of_getElem? (i := 18) rfl)
theorem cd_142_31 : mt_cd 142 31 = some (.iconst 0) := mt_cd_of (q := (31, .iconst 0, 1)) mq_142 ci_142 (List.mem_of_getElem? (i := 19) rfl)
theorem cd_142_32 : mt_cd 142 32 = some (.putfield 352) := mt_cd_of (q := (32, .putfield 352, 3)) mq_142 ci_142 (List.mem_of_getElem? (i := 20) rfl)
theorem cd_142_35 : mt_cd 142 35 = some (.aload_n 0) := mt_cd_of (q := (35, .aload_n 0, 1)) mq_142 ci_142 (List.mem_of_getElem? (i := 21) rfl)
theorem cd_142_36 : mt_cd 142 36 = some (.iconst 0) := mt_cd_of (q := (36, .iconst 0, 1)) mq_142 ci_142 (List.mem_of_getElem? (i := 22) rfl)
theorem cd_142_37 : mt_cd 142 37 = some (.putfield 297) := mt_cd_of (q := (37, .putfield 297, 3)) mq_142 ci_142 (List.mem_of_getElem? (i := 23) rfl)
theorem cd_142_40 : mt_cd 142 40 = some (.aload_n 0) := mt_cd_of (q := (40, .aload_n 0, 1)) mq_142 ci_142 (List.mem_of_getElem? (i := 24) rfl)
theorem cd_142_41 : mt_cd 142 41 = some (.invokevirtual 333) := mt_cd_of (q := (41, .invokevirtual 333, 3)) mq_142 ci_142 (List.mem_of_getElem? (i := 25) rfl)
theorem cd_142_44 : mt_cd 142 44 = some (.ifCond .eq 26) := mt_cd_of (q := (44, .ifCond .eq 26, 3)) mq_142 ci_142 (List.mem_of_getElem? (i := 26) rfl)
theorem cd_142_47 : mt_cd 142 47 = some (.aload_n 0) := mt_cd_of (q := (47, .aload_n 0, 1)) mq_142 ci_142 (List.mem_of_getElem? (i := 27) rfl)
theorem cd_142_48 : mt_cd 142 48 = some (.invokevirtual 355) := mt_cd_of (q := (48, .invokevirtual 355, 3)) mq_142 ci_142 (List.mem_of_getElem? (i := 28) rfl)
theorem cd_142_51 : mt_cd 142 51 = some (.ifCond .lt 19) := mt_cd_of (q := (51, .ifCond .lt 19, 3)) mq_142 ci_142 (List.mem_of_getElem? (i := 29) rfl)
theorem cd_142_54 : mt_cd 142 54 = some (.aload_n 0) := mt_cd_of (q := (54, .aload_n 0, 1)) mq_142 ci_142 (List.mem_of_getElem? (i := 30) rfl)
theorem cd_142_55 : mt_cd 142 55 = some (.getfield 310) := mt_cd_of (q := (55, .getfield 310, 3)) mq_142 ci_142 (List.mem_of_getElem? (i := 31) rfl)
theorem cd_142_58 : mt_cd 142 58 = some (.ifCond .eq 12) := mt_cd_of (q := (58, .ifCond .eq 12, 3)) mq_142 ci_142 (List.mem_of_getElem? (i := 32) rfl)
theorem cd_142_61 : mt_cd 142 61 = some (.aload_n 0) := mt_cd_of (q := (61, .aload_n 0, 1)) mq_142 ci_142 (List.mem_of_getElem? (i := 33) rfl)
theorem cd_142_62 : mt_cd 142 62 = some (.aload_n 0) := mt_cd_of (q := (62, .aload_n 0, 1)) mq_142 ci_142 (List.mem_of_getElem? (i := 34) rfl)
theorem cd_142_63 : mt_cd 142 63 = some (.getfield 299) := mt_cd_of (q := (63, .getfield 299, 3)) mq_142 ci_142 (List.mem_of_getElem? (i := 35) rfl)
theorem cd_142_66 : mt_cd 142 66 = some (.invokevirtual 272) := mt_cd_of (q := (66, .invokevirtual 272, 3)) mq_142 ci_142 (List.mem_of_getElem? (i := 36) rfl)
theorem cd_142_69 : mt_cd 142 69 = some (.pop) := mt_cd_of (q := (69, .pop, 1)) mq_142 ci_142 (List.mem_of_getElem? (i := 37) rfl)
theorem cd_142_70 : mt_cd 142 70 = some (.return_) := mt_cd_of (q := (70, .return_, 1)) mq_142 ci_142 (List.mem_of_getElem? (i := 38) rfl)
theorem b_142_0 {d : Nat} {Q : (Option Value ⊕ Nat) → mi_H → Prop} (n sl : Nat) (f : Nat → mi_C) {l1 : Nat} {fs2 : List Value} {fs6 : List Value} {fs10 : List Value} {fs14 : List Value} {fs18 : List Value} {fs22 : List Value} (h3 : f l1 = .inr (12, fs2)) (h4 : l1 < n) (h5 : 21 < fs2.length) (h7 : (va_up f l1 (.inr (12, fs2.set 21 (.int 0)))) l1 = .inr (12, fs6)) (h8 : l1 < n) (h9 : 22 < fs6.length) (h11 : (va_up (va_up f l1 (.inr (12, fs2.set 21 (.int 0)))) l1 (.inr (12, fs6.set 22 (.int 0)))) l1 = .inr (12, fs10)) (h12 : l1 < n) (h13 : 23 < fs10.length) (h15 : (va_up (va_up (va_up f l1 (.inr (12, fs2.set 21 (.int 0)))) l1 (.inr (12, fs6.set 22 (.int 0)))) l1 (.inr (12, fs10.set 23 (.int 0)))) l1 = .inr (12, fs14)) (h16 : l1 < n) (h17 : 24 < fs14.length) (h19 : (va_up (va_up (va_up (va_up f l1 (.inr (12, fs2.set 21 (.int 0)))) l1 (.inr (12, fs6.set 22 (.int 0)))) l1 (.inr (12, fs10.set 23 (.int 0)))) l1 (.inr (12, fs14.set 24 (.int 0)))) l1 = .inr (12, fs18)) (h20 : l1 < n) (h21 : 25 < fs18.length) (h23 : (va_up (va_up (va_up (va_up (va_up f l1 (.inr (12, fs2.set 21 (.int 0)))) l1 (.inr (12, fs6.set 22 (.int 0)))) l1 (.inr (12, fs10.set 23 (.int 0)))) l1 (.inr (12, fs14.set 24 (.int 0)))) l1 (.inr (12, fs18.set 25 (.int 0)))) l1 = .inr (12, fs22)) (h24 : l1 < n) (h25 : 26 < fs22.length) (h26 : mi_W d 142 30 [some (.ref l1)] [] (n, sl, (va_up (va_up (va_up (va_up (va_up (va_up f l1 (.inr (12, fs2.set 21 (.int 0)))) l1 (.inr (12, fs6.set 22 (.int 0)))) l1 (.inr (12, fs10.set 23 (.int 0)))) l1 (.inr (12, fs14.set 24 (.int 0)))) l1 (.inr (12, fs18.set 25 (.int 0)))) l1 (.inr (12, fs22.set 26 (.int 0))))) Q) : mi_W d 142 0 [some (.ref l1)] [] (n, sl, f) Q := by
  refine w_aload_n cd_142_0 rfl ?_
  refine w_iconst (v := 0) cd_142_1 (by decide) ?_
  refine w_putfield (w := .int 0) cd_142_2 (show mt_f 12 282 = some (12, 21) by decide +kernel) h3 h4 ⟨h5, rfl, Or.inl (by decide)⟩ ?_
  refine w_aload_n cd_142_5 rfl ?_
  refine w_iconst (v := 0) cd_142_6 (by decide) ?_
  refine w_putfield (w := .int 0) cd_142_7 (show mt_f 12 337 = some (12, 22) by decide +kernel) h7 h8 ⟨h9, rfl, Or.inl (by decide)⟩ ?_
  refine w_aload_n cd_142_10 rfl ?_
  refine w_iconst (v := 0) cd_142_11 (by decide) ?_
  refine w_putfield (w := .int 0) cd_142_12 (show mt_f 12 340 = some (12, 23) by decide +kernel) h11 h12 ⟨h13, rfl, Or.inl (by decide)⟩ ?_
  refine w_aload_n cd_142_15 rfl ?_
  refine w_iconst (v := 0) cd_142_16 (by decide) ?_
  refine w_putfield (w := .int 0) cd_142_17 (show mt_f 12 343 = some (12, 24) by decide +kernel) h15 h16 ⟨h17, rfl, Or.inl (by decide)⟩ ?_
  refine w_aload_n cd_142_20 rfl ?_
  refine w_iconst (v := 0) cd_142_21 (by decide) ?_
  refine w_putfield (w := .int 0) cd_142_22 (show mt_f 12 346 = some (12, 25) by decide +kernel) h19 h20 ⟨h21, rfl, Or.inl (by decide)⟩ ?_
  refine w_aload_n cd_142_25 rfl ?_
  refine w_iconst (v := 0) cd_142_26 (by decide) ?_
  refine w_putfield (w := .int 0) cd_142_27 (show mt_f 12 349 = some (12, 26) by decide +kernel) h23 h24 ⟨h25, rfl, Or.inl (by decide)⟩ ?_
  exact h26
theorem b_142_30 {d : Nat} {Q : (Option Value ⊕ Nat) → mi_H → Prop} (n sl : Nat) (f : Nat → mi_C) {l1 : Nat} {fs2 : List Value} {fs6 : List Value} {fs10 : List Value} (h3 : f l1 = .inr (12, fs2)) (h4 : l1 < n) (h5 : 27 < fs2.length) (h7 : (va_up f l1 (.inr (12, fs2.set 27 (.int 0)))) l1 = .inr (12, fs6)) (h8 : l1 < n) (h9 : 10 < fs6.length) (h11 : (va_up (va_up f l1 (.inr (12, fs2.set 27 (.int 0)))) l1 (.inr (12, fs6.set 10 (.int 0)))) l1 = .inr (12, fs10)) (h12 : l1 < n) (h13 : mi_W d 143 0 (mi_en 4 [.ref l1]) [] (n, sl, (va_up (va_up f l1 (.inr (12, fs2.set 27 (.int 0)))) l1 (.inr (12, fs6.set 10 (.int 0))))) (mi_Kc d 142 41 [some (.ref l1)] [] Q)) : mi_W (d + 1) 142 30 [some (.ref l1)] [] (n, sl, f) Q := by
  refine w_aload_n cd_142_30 rfl ?_
  refine w_iconst (v := 0) cd_142_31 (by decide) ?_
  refine w_putfield (w := .int 0) cd_142_32 (show mt_f 12 352 = some (12, 27) by decide +kernel) h3 h4 ⟨h5, rfl, Or.inl (by decide)⟩ ?_
  refine w_aload_n cd_142_35 rfl ?_
  refine w_iconst (v := 0) cd_142_36 (by decide) ?_
  refine w_putfield (w := .int 0) cd_142_37 (show mt_f 12 297 = some (12, 10) by decide +kernel) h7 h8 ⟨h9, rfl, Or.inl (by decide)⟩ ?_
  refine w_aload_n cd_142_40 rfl ?_
  exact w_invokevirtual cd_142_41 (show mt_m 12 333 = some (143, 0) by decide +kernel) (rest := []) rfl (as := [.ref l1]) rfl h11 (Or.inl h12) ⟨Nat.le_of_ble_eq_true rfl, Nat.le_of_ble_eq_true rfl, Nat.le_of_ble_eq_true rfl⟩ h13
theorem b_142_44 {d : Nat} {Q : (Option Value ⊕ Nat) → mi_H → Prop} (n sl : Nat) (f : Nat → mi_C) {l1 : Nat} {s2 : Int32} (h3 : s2 = (0 : Int32) → mi_W d 142 70 [some (.ref l1)] [] (n, sl, f) Q) (h4 : ¬ (s2 = (0 : Int32)) → mi_W d 142 47 [some (.ref l1)] [] (n, sl, f) Q) : mi_W d 142 44 [some (.ref l1)] [.int s2] (n, sl, f) Q := by
  exact w_ifeq cd_142_44 (by decide) h3 h4
theorem b_142_47 {d : Nat} {Q : (Option Value ⊕ Nat) → mi_H → Prop} (n sl : Nat) (f : Nat → mi_C) {l1 : Nat} {fs2 : List Value} (h3 : f l1 = .inr (12, fs2)) (h4 : l1 < n) (h5 : mi_W d 150 0 (mi_en 4 [.ref l1]) [] (n, sl, f) (mi_Kc d 142 48 [some (.ref l1)] [] Q)) : mi_W (d + 1) 142 47 [some (.ref l1)] [] (n, sl, f) Q := by
  refine w_aload_n cd_142_47 rfl ?_
  exact w_invokevirtual cd_142_48 (show mt_m 12 355 = some (150, 0) by decide +kernel) (rest := []) rfl (as := [.ref l1]) rfl h3 (Or.inl h4) ⟨Nat.le_of_ble_eq_true rfl, Nat.le_of_ble_eq_true rfl, Nat.le_of_ble_eq_true rfl⟩ h5
theorem b_142_51 {d : Nat} {Q : (Option Value ⊕ Nat) → mi_H → Prop} (n sl : Nat) (f : Nat → mi_C) {l1 : Nat} {s2 : Int32} (h3 : s2 < (0 : Int32) → mi_W d 142 70 [some (.ref l1)] [] (n, sl, f) Q) (h4 : ¬ (s2 < (0 : Int32)) → mi_W d 142 54 [some (.ref l1)] [] (n, sl, f) Q) : mi_W d 142 51 [some (.ref l1)] [.int s2] (n, sl, f) Q := by
  exact w_iflt cd_142_51 (by decide) h3 h4
theorem b_142_54 {d : Nat} {Q : (Option Value ⊕ Nat) → mi_H → Prop} (n sl : Nat) (f : Nat → mi_C) {l1 : Nat} {fs2 : List Value} {x5 : Int32} (h3 : f l1 = .inr (12, fs2)) (h4 : l1 < n) (h6 : fs2[8]? = some (.int x5)) (h7 : x5 = (0 : Int32) → mi_W d 142 70 [some (.ref l1)] [] (n, sl, f) Q) (h8 : ¬ (x5 = (0 : Int32)) → mi_W d 142 61 [some (.ref l1)] [] (n, sl, f) Q) : mi_W d 142 54 [some (.ref l1)] [] (n, sl, f) Q := by
  refine w_aload_n cd_142_54 rfl ?_
  refine w_getfield cd_142_55 (show mt_f 12 310 = some (12, 8) by decide +kernel) h3 h4 h6 ?_
  exact w_ifeq cd_142_58 (by decide) h7 h8
theorem b_142_61 {d : Nat} {Q : (Option Value ⊕ Nat) → mi_H → Prop} (n sl : Nat) (f : Nat → mi_C) {l1 : Nat} {fs2 : List Value} {x5 : Int32} {fs7 : List Value} (h3 : f l1 = .inr (12, fs2)) (h4 : l1 < n) (h6 : fs2[9]? = some (.int x5)) (h8 : f l1 = .inr (12, fs7)) (h9 : l1 < n) (h10 : mi_W d 141 0 (mi_en 2 [.ref l1, .int x5]) [] (n, sl, f) (mi_Kc d 142 66 [some (.ref l1)] [] Q)) : mi_W (d + 1) 142 61 [some (.ref l1)] [] (n, sl, f) Q := by
  refine w_aload_n cd_142_61 rfl ?_
  refine w_aload_n cd_142_62 rfl ?_
  refine w_getfield cd_142_63 (show mt_f 12 299 = some (12, 9) by decide +kernel) h3 h4 h6 ?_
  exact w_invokevirtual cd_142_66 (show mt_m 12 272 = some (141, 0) by decide +kernel) (rest := []) rfl (as := [.ref l1, .int x5]) rfl h8 (Or.inl h9) ⟨Nat.le_of_ble_eq_true rfl, Nat.le_of_ble_eq_true rfl, Nat.le_of_ble_eq_true rfl⟩ h10
theorem b_142_69 {d : Nat} {Q : (Option Value ⊕ Nat) → mi_H → Prop} (n sl : Nat) (f : Nat → mi_C) {l1 : Nat} {s2 : Int32} (h3 : mi_W d 142 70 [some (.ref l1)] [] (n, sl, f) Q) : mi_W d 142 69 [some (.ref l1)] [.int s2] (n, sl, f) Q := by
  refine w_pop_i cd_142_69 ?_
  exact h3
theorem b_142_70 {d : Nat} {Q : (Option Value ⊕ Nat) → mi_H → Prop} (n sl : Nat) (f : Nat → mi_C) {l1 : Nat} (h2 : Q (.inl none) (n, sl, f)) : mi_W d 142 70 [some (.ref l1)] [] (n, sl, f) Q := by
  exact w_return cd_142_70 (by decide +kernel) h2
/-! MarloweHostModel.next()Z -/
set_option maxRecDepth 100000 in
theorem mq_143 : mt_q 143 = my_143 := rfl
set_option maxRecDepth 100000 in
theorem ci_143 : mt_inc 0 my_143.cd = true := by decide +kernel
theorem cd_143_0 : mt_cd 143 0 = some (.aload_n 0) := mt_cd_of (q := (0, .aload_n 0, 1)) mq_143 ci_143 (List.mem_append_left _ (show _ ∈ my_143_0 from List.mem_of_getElem? (i := 0) rfl))
theorem cd_143_1 : mt_cd 143 1 = some (.getfield 297) := mt_cd_of (q := (1, .getfield 297, 3)) mq_143 ci_143 (List.mem_append_left _ (show _ ∈ my_143_0 from List.mem_of_getElem? (i := 1) rfl))
theorem cd_143_4 : mt_cd 143 4 = some (.istore_n 1) := mt_cd_of (q := (4, .istore_n 1, 1)) mq_143 ci_143 (List.mem_append_left _ (show _ ∈ my_143_0 from List.mem_of_getElem? (i := 2) rfl))
theorem cd_143_5 : mt_cd 143 5 = some (.iload_n 1) := mt_cd_of (q := (5, .iload_n 1, 1)) mq_143 ci_143 (List.mem_append_left _ (show _ ∈ my_143_0 from List.mem_of_getElem? (i := 3) rfl))
theorem cd_143_6 : mt_cd 143 6 = some (.aload_n 0) := mt_cd_of (q := (6, .aload_n 0, 1)) mq_143 ci_143 (List.mem_append_left _ (show _ ∈ my_143_0 from List.mem_of_getElem? (i := 4) rfl))
theorem cd_143_7 : mt_cd 143 7 = some (.getfield 261) := mt_cd_of (q := (7, .getfield 261, 3)) mq_143 ci_143 (List.mem_append_left _ (show _ ∈ my_143_0 from List.mem_of_getElem? (i := 5) rfl))
theorem cd_143_10 : mt_cd 143 10 = some (.if_icmp .ge 31) := mt_cd_of (q := (10, .if_icmp .ge 31, 3)) mq_143 ci_143 (List.mem_append_left _ (show _ ∈ my_143_0 from List.mem_of_getElem? (i := 6) rfl))
theorem cd_143_13 : mt_cd 143 13 = some (.aload_n 0) := mt_cd_of (q := (13, .aload_n 0, 1)) mq_143 ci_143 (List.mem_append_left _ (show _ ∈ my_143_0 from List.mem_of_getElem? (i := 7) rfl))
theorem cd_143_14 : mt_cd 143 14 = some (.getfield 20) := mt_cd_of (q := (14, .getfield 20, 3)) mq_143 ci_143 (List.mem_append_left _ (show _ ∈ my_143_0 from List.mem_of_getElem? (i := 8) rfl))
theorem cd_143_17 : mt_cd 143 17 = some (.iload_n 1) := mt_cd_of (q := (17, .iload_n 1, 1)) mq_143 ci_143 (List.mem_append_left _ (show _ ∈ my_143_0 from List.mem_of_getElem? (i := 9) rfl))
theorem cd_143_18 : mt_cd 143 18 = some (.iaload) := mt_cd_of (q := (18, .iaload, 1)) mq_143 ci_143 (List.mem_append_left _ (show _ ∈ my_143_0 from List.mem_of_getElem? (i := 10) rfl))
theorem cd_143_19 : mt_cd 143 19 = some (.bipush 10) := mt_cd_of (q := (19, .bipush 10, 2)) mq_143 ci_143 (List.mem_append_left _ (show _ ∈ my_143_0 from List.mem_of_getElem? (i := 11) rfl))
theorem cd_143_21 : mt_cd 143 21 = some (.if_icmp .eq 14) := mt_cd_of (q := (21, .if_icmp .eq 14, 3)) mq_143 ci_143 (List.mem_append_left _ (show _ ∈ my_143_0 from List.mem_of_getElem? (i := 12) rfl))
theorem cd_143_24 : mt_cd 143 24 = some (.aload_n 0) := mt_cd_of (q := (24, .aload_n 0, 1)) mq_143 ci_143 (List.mem_append_left _ (show _ ∈ my_143_0 from List.mem_of_getElem? (i := 13) rfl))
theorem cd_143_25 : mt_cd 143 25 = some (.getfield 20) := mt_cd_of (q := (25, .getfield 20, 3)) mq_143 ci_143 (List.mem_append_left _ (show _ ∈ my_143_0 from List.mem_of_getElem? (i := 14) rfl))
theorem cd_143_28 : mt_cd 143 28 = some (.iload_n 1) := mt_cd_of (q := (28, .iload_n 1, 1)) mq_143 ci_143 (List.mem_append_left _ (show _ ∈ my_143_0 from List.mem_of_getElem? (i := 15) rfl))
theorem cd_143_29 : mt_cd 143 29 = some (.iaload) := mt_cd_of (q := (29, .iaload, 1)) mq_143 ci_143 (List.mem_append_left _ (show _ ∈ my_143_0 from List.mem_of_getElem? (i := 16) rfl))
theorem cd_143_30 : mt_cd 143 30 = some (.bipush 32) := mt_cd_of (q := (30, .bipush 32, 2)) mq_143 ci_143 (List.mem_append_left _ (show _ ∈ my_143_0 from List.mem_of_getElem? (i := 17) rfl))
theorem cd_143_32 : mt_cd 143 32 = some (.if_icmp .ne 9) := mt_cd_of (q := (32, .if_icmp .ne 9, 3)) mq_143 ci_143 (List.mem_append_left _ (show _ ∈ my_143_0 from List.mem_of_getElem? (i := 18) rfl))
theorem cd_143_35 : mt_cd 143 35 = some (.iinc 1 1) := mt_cd_of (q := (35, .iinc 1 1, 3)) mq_143 ci_143 (List.mem_append_left _ (show _ ∈ my_143_0 from List.mem_of_getElem? (i := 19) rfl))
theorem cd_143_38 : mt_cd 143 38 = some (.goto (-33)) := mt_cd_of (q := (38, .goto (-33), 3)) mq_143 ci_143 (List.mem_append_left _ (show _ ∈ my_143_0 from List.mem_of_getElem? (i := 20) rfl))
theorem cd_143_41 : mt_cd 143 41 = some (.aload_n 0) := mt_cd_of (q := (41, .aload_n 0, 1)) mq_143 ci_143 (List.mem_append_left _ (show _ ∈ my_143_0 from List.mem_of_getElem? (i := 21) rfl))
theorem cd_143_42 : mt_cd 143 42 = some (.iload_n 1) := mt_cd_of (q := (42, .iload_n 1, 1)) mq_143 ci_143 (List.mem_append_left _ (show _ ∈ my_143_0 from List.mem_of_getElem? (i := 22) rfl))
theorem cd_143_43 : mt_cd 143 43 = some (.putfield 299) := mt_cd_of (q := (43, .putfield 299, 3)) mq_143 ci_143 (List.mem_append_left _ (show _ ∈ my_143_0 from List.mem_of_getElem? (i := 23) rfl))
theorem cd_143_46 : mt_cd 143 46 = some (.aload_n 0) := mt_cd_of (q := (46, .aload_n 0, 1)) mq_143 ci_143 (List.mem_append_left _ (show _ ∈ my_143_0 from List.mem_of_getElem? (i := 24) rfl))
theorem cd_143_47 : mt_cd 143 47 = some (.iload_n 1) := mt_cd_of (q := (47, .iload_n 1, 1)) mq_143 ci_143 (List.mem_append_left _ (show _ ∈ my_143_0 from List.mem_of_getElem? (i := 25) rfl))
theorem cd_143_48 : mt_cd 143 48 = some (.putfield 297) := mt_cd_of (q := (48, .putfield 297, 3)) mq_143 ci_143 (List.mem_append_left _ (show _ ∈ my_143_0 from List.mem_of_getElem? (i := 26) rfl))
theorem cd_143_51 : mt_cd 143 51 = some (.iload_n 1) := mt_cd_of (q := (51, .iload_n 1, 1)) mq_143 ci_143 (List.mem_append_left _ (show _ ∈ my_143_0 from List.mem_of_getElem? (i := 27) rfl))
theorem cd_143_52 : mt_cd 143 52 = some (.aload_n 0) := mt_cd_of (q := (52, .aload_n 0, 1)) mq_143 ci_143 (List.mem_append_left _ (show _ ∈ my_143_0 from List.mem_of_getElem? (i := 28) rfl))
theorem cd_143_53 : mt_cd 143 53 = some (.getfield 261) := mt_cd_of (q := (53, .getfield 261, 3)) mq_143 ci_143 (List.mem_append_left _ (show _ ∈ my_143_0 from List.mem_of_getElem? (i := 29) rfl))
theorem cd_143_56 : mt_cd 143 56 = some (.if_icmp .ne 10) := mt_cd_of (q := (56, .if_icmp .ne 10, 3)) mq_143 ci_143 (List.mem_append_left _ (show _ ∈ my_143_0 from List.mem_of_getElem? (i := 30) rfl))
theorem cd_143_59 : mt_cd 143 59 = some (.aload_n 0) := mt_cd_of (q := (59, .aload_n 0, 1)) mq_143 ci_143 (List.mem_append_left _ (show _ ∈ my_143_0 from List.mem_of_getElem? (i := 31) rfl))
theorem cd_143_60 : mt_cd 143 60 = some (.iconst 0) := mt_cd_of (q := (60, .iconst 0, 1)) mq_143 ci_143 (List.mem_append_left _ (show _ ∈ my_143_0 from List.mem_of_getElem? (i := 32) rfl))
theorem cd_143_61 : mt_cd 143 61 = some (.putfield 310) := mt_cd_of (q := (61, .putfield 310, 3)) mq_143 ci_143 (List.mem_append_left _ (show _ ∈ my_143_0 from List.mem_of_getElem? (i := 33) rfl))
theorem cd_143_64 : mt_cd 143 64 = some (.iconst 1) := mt_cd_of (q := (64, .iconst 1, 1)) mq_143 ci_143 (List.mem_append_left _ (show _ ∈ my_143_0 from List.mem_of_getElem? (i := 34) rfl))
theorem cd_143_65 : mt_cd 143 65 = some (.ireturn) := mt_cd_of (q := (65, .ireturn, 1)) mq_143 ci_143 (List.mem_append_left _ (show _ ∈ my_143_0 from List.mem_of_getElem? (i := 35) rfl))
theorem cd_143_66 : mt_cd 143 66 = some (.aload_n 0) := mt_cd_of (q := (66, .aload_n 0, 1)) mq_143 ci_143 (List.mem_append_left _ (show _ ∈ my_143_0 from List.mem_of_getElem? (i := 36) rfl))
theorem cd_143_67 : mt_cd 143 67 = some (.iload_n 1) := mt_cd_of (q := (67, .iload_n 1, 1)) mq_143 ci_143 (List.mem_append_left _ (show _ ∈ my_143_0 from List.mem_of_getElem? (i := 37) rfl))
theorem cd_143_68 : mt_cd 143 68 = some (.invokevirtual 313) := mt_cd_of (q := (68, .invokevirtual 313, 3)) mq_143 ci_143 (List.mem_append_left _ (show _ ∈ my_143_0 from List.mem_of_getElem? (i := 38) rfl))
theorem cd_143_71 : mt_cd 143 71 = some (.invokestatic 317) := mt_cd_of (q := (71, .invokestatic 317, 3)) mq_143 ci_143 (List.mem_append_left _ (show _ ∈ my_143_0 from List.mem_of_getElem? (i := 39) rfl))
theorem cd_143_74 : mt_cd 143 74 = some (.ifCond .eq 100) := mt_cd_of (q := (74, .ifCond .eq 100, 3)) mq_143 ci_143 (List.mem_append_left _ (show _ ∈ my_143_0 from List.mem_of_getElem? (i := 40) rfl))
theorem cd_143_77 : mt_cd 143 77 = some (.aload_n 0) := mt_cd_of (q := (77, .aload_n 0, 1)) mq_143 ci_143 (List.mem_append_left _ (show _ ∈ my_143_0 from List.mem_of_getElem? (i := 41) rfl))
theorem cd_143_78 : mt_cd 143 78 = some (.getfield 297) := mt_cd_of (q := (78, .getfield 297, 3)) mq_143 ci_143 (List.mem_append_left _ (show _ ∈ my_143_0 from List.mem_of_getElem? (i := 42) rfl))
theorem cd_143_81 : mt_cd 143 81 = some (.aload_n 0) := mt_cd_of (q := (81, .aload_n 0, 1)) mq_143 ci_143 (List.mem_append_left _ (show _ ∈ my_143_0 from List.mem_of_getElem? (i := 43) rfl))
theorem cd_143_82 : mt_cd 143 82 = some (.getfield 299) := mt_cd_of (q := (82, .getfield 299, 3)) mq_143 ci_143 (List.mem_append_left _ (show _ ∈ my_143_0 from List.mem_of_getElem? (i := 44) rfl))
theorem cd_143_85 : mt_cd 143 85 = some (.isub) := mt_cd_of (q := (85, .isub, 1)) mq_143 ci_143 (List.mem_append_left _ (show _ ∈ my_143_0 from List.mem_of_getElem? (i := 45) rfl))
theorem cd_143_86 : mt_cd 143 86 = some (.bipush 16) := mt_cd_of (q := (86, .bipush 16, 2)) mq_143 ci_143 (List.mem_append_left _ (show _ ∈ my_143_0 from List.mem_of_getElem? (i := 46) rfl))
theorem cd_143_88 : mt_cd 143 88 = some (.if_icmp .ge 44) := mt_cd_of (q := (88, .if_icmp .ge 44, 3)) mq_143 ci_143 (List.mem_append_left _ (show _ ∈ my_143_0 from List.mem_of_getElem? (i := 47) rfl))
theorem cd_143_91 : mt_cd 143 91 = some (.aload_n 0) := mt_cd_of (q := (91, .aload_n 0, 1)) mq_143 ci_143 (List.mem_append_left _ (show _ ∈ my_143_0 from List.mem_of_getElem? (i := 48) rfl))
theorem cd_143_92 : mt_cd 143 92 = some (.aload_n 0) := mt_cd_of (q := (92, .aload_n 0, 1)) mq_143 ci_143 (List.mem_append_left _ (show _ ∈ my_143_0 from List.mem_of_getElem? (i := 49) rfl))
theorem cd_143_93 : mt_cd 143 93 = some (.getfield 297) := mt_cd_of (q := (93, .getfield 297, 3)) mq_143 ci_143 (List.mem_append_left _ (show _ ∈ my_143_0 from List.mem_of_getElem? (i := 50) rfl))
theorem cd_143_96 : mt_cd 143 96 = some (.invokevirtual 313) := mt_cd_of (q := (96, .invokevirtual 313, 3)) mq_143 ci_143 (List.mem_append_left _ (show _ ∈ my_143_0 from List.mem_of_getElem? (i := 51) rfl))
theorem cd_143_99 : mt_cd 143 99 = some (.invokestatic 317) := mt_cd_of (q := (99, .invokestatic 317, 3)) mq_143 ci_143 (List.mem_append_left _ (show _ ∈ my_143_0 from List.mem_of_getElem? (i := 52) rfl))
theorem cd_143_102 : mt_cd 143 102 = some (.ifCond .ne 17) := mt_cd_of (q := (102, .ifCond .ne 17, 3)) mq_143 ci_143 (List.mem_append_left _ (show _ ∈ my_143_0 from List.mem_of_getElem? (i := 53) rfl))
theorem cd_143_105 : mt_cd 143 105 = some (.aload_n 0) := mt_cd_of (q := (105, .aload_n 0, 1)) mq_143 ci_143 (List.mem_append_left _ (show _ ∈ my_143_0 from List.mem_of_getElem? (i := 54) rfl))
theorem cd_143_106 : mt_cd 143 106 = some (.aload_n 0) := mt_cd_of (q := (106, .aload_n 0, 1)) mq_143 ci_143 (List.mem_append_left _ (show _ ∈ my_143_0 from List.mem_of_getElem? (i := 55) rfl))
theorem cd_143_107 : mt_cd 143 107 = some (.getfield 297) := mt_cd_of (q := (107, .getfield 297, 3)) mq_143 ci_143 (List.mem_append_left _ (show _ ∈ my_143_0 from List.mem_of_getElem? (i := 56) rfl))
theorem cd_143_110 : mt_cd 143 110 = some (.invokevirtual 313) := mt_cd_of (q := (110, .invokevirtual 313, 3)) mq_143 ci_143 (List.mem_append_left _ (show _ ∈ my_143_0 from List.mem_of_getElem? (i := 57) rfl))
theorem cd_143_113 : mt_cd 143 113 = some (.invokestatic 320) := mt_cd_of (q := (113, .invokestatic 320, 3)) mq_143 ci_143 (List.mem_append_left _ (show _ ∈ my_143_0 from List.mem_of_getElem? (i := 58) rfl))
theorem cd_143_116 : mt_cd 143 116 = some (.ifCond .eq 16) := mt_cd_of (q := (116, .ifCond .eq 16, 3)) mq_143 ci_143 (List.mem_append_left _ (show _ ∈ my_143_0 from List.mem_of_getElem? (i := 59) rfl))
theorem cd_143_119 : mt_cd 143 119 = some (.aload_n 0) := mt_cd_of (q := (119, .aload_n 0, 1)) mq_143 ci_143 (List.mem_append_right _ (List.mem_append_left _ (show _ ∈ my_143_1 from List.mem_of_getElem? (i := 0) rfl)))
theorem cd_143_120 : mt_cd 143 120 = some (.dup) := mt_cd_of (q := (120, .dup, 1)) mq_143 ci_143 (List.mem_append_right _ (List.mem_append_left _ (show _ ∈ my_143_1 from List.mem_of_getElem? (i := 1) rfl)))
theorem cd_143_121 : mt_cd 143 121 = some (.getfield 297) := mt_cd_of (q := (121, .getfield 297, 3)) mq_143 ci_143 (List.mem_append_right _ (List.mem_append_left _ (show _ ∈ my_143_1 from List.mem_of_getElem? (i := 2) rfl)))
theorem cd_143_124 : mt_cd 143 124 = some (.iconst 1) := mt_cd_of (q := (124, .iconst 1, 1)) mq_143 ci_143 (List.mem_append_right _ (List.mem_append_left _ (show _ ∈ my_143_1 from List.mem_of_getElem? (i := 3) rfl)))
theorem cd_143_125 : mt_cd 143 125 = some (.iadd) := mt_cd_of (q := (125, .iadd, 1)) mq_143 ci_143 (List.mem_append_right _ (List.mem_append_left _ (show _ ∈ my_143_1 from List.mem_of_getElem? (i := 4) rfl)))
theorem cd_143_126 : mt_cd 143 126 = some (.putfield 297) := mt_cd_of (q := (126, .putfield 297, 3)) mq_143 ci_143 (List.mem_append_right _ (List.mem_append_left _ (show _ ∈ my_143_1 from List.mem_of_getElem? (i := 5) rfl)))
theorem cd_143_129 : mt_cd 143 129 = some (.goto (-52)) := mt_cd_of (q := (129, .goto (-52), 3)) mq_143 ci_143 (List.mem_append_right _ (List.mem_append_left _ (show _ ∈ my_143_1 from List.mem_of_getElem? (i := 6) rfl)))
theorem cd_143_132 : mt_cd 143 132 = some (.aload_n 0) := mt_cd_of (q := (132, .aload_n 0, 1)) mq_143 ci_143 (List.mem_append_right _ (List.mem_append_left _ (show _ ∈ my_143_1 from List.mem_of_getElem? (i := 7) rfl)))
theorem cd_143_133 : mt_cd 143 133 = some (.iconst 1) := mt_cd_of (q := (133, .iconst 1, 1)) mq_143 ci_143 (List.mem_append_right _ (List.mem_append_left _ (show _ ∈ my_143_1 from List.mem_of_getElem? (i := 8) rfl)))
theorem cd_143_134 : mt_cd 143 134 = some (.putfield 310) := mt_cd_of (q := (134, .putfield 310, 3)) mq_143 ci_143 (List.mem_append_right _ (List.mem_append_left _ (show _ ∈ my_143_1 from List.mem_of_getElem? (i := 9) rfl)))
theorem cd_143_137 : mt_cd 143 137 = some (.iconst 0) := mt_cd_of (q := (137, .iconst 0, 1)) mq_143 ci_143 (List.mem_append_right _ (List.mem_append_left _ (show _ ∈ my_143_1 from List.mem_of_getElem? (i := 10) rfl)))
theorem cd_143_138 : mt_cd 143 138 = some (.istore_n 2) := mt_cd_of (q := (138, .istore_n 2, 1)) mq_143 ci_143 (List.mem_append_right _ (List.mem_append_left _ (show _ ∈ my_143_1 from List.mem_of_getElem? (i := 11) rfl)))
theorem cd_143_139 : mt_cd 143 139 = some (.iload_n 2) := mt_cd_of (q := (139, .iload_n 2, 1)) mq_143 ci_143 (List.mem_append_right _ (List.mem_append_left _ (show _ ∈ my_143_1 from List.mem_of_getElem? (i := 12) rfl)))
theorem cd_143_140 : mt_cd 143 140 = some (.aload_n 0) := mt_cd_of (q := (140, .aload_n 0, 1)) mq_143 ci_143 (List.mem_append_right _ (List.mem_append_left _ (show _ ∈ my_143_1 from List.mem_of_getElem? (i := 13) rfl)))
theorem cd_143_141 : mt_cd 143 141 = some (.getfield 73) := mt_cd_of (q := (141, .getfield 73, 3)) mq_143 ci_143 (List.mem_append_right _ (List.mem_append_left _ (show _ ∈ my_143_1 from List.mem_of_getElem? (i := 14) rfl)))
theorem cd_143_144 : mt_cd 143 144 = some (.arraylength) := mt_cd_of (q := (144, .arraylength, 1)) mq_143 ci_143 (List.mem_append_right _ (List.mem_append_left _ (show _ ∈ my_143_1 from List.mem_of_getElem? (i := 15) rfl)))
theorem cd_143_145 : mt_cd 143 145 = some (.if_icmp .ge 27) := mt_cd_of (q := (145, .if_icmp .ge 27, 3)) mq_143 ci_143 (List.mem_append_right _ (List.mem_append_left _ (show _ ∈ my_143_1 from List.mem_of_getElem? (i := 16) rfl)))
theorem cd_143_148 : mt_cd 143 148 = some (.aload_n 0) := mt_cd_of (q := (148, .aload_n 0, 1)) mq_143 ci_143 (List.mem_append_right _ (List.mem_append_left _ (show _ ∈ my_143_1 from List.mem_of_getElem? (i := 17) rfl)))
theorem cd_143_149 : mt_cd 143 149 = some (.aload_n 0) := mt_cd_of (q := (149, .aload_n 0, 1)) mq_143 ci_143 (List.mem_append_right _ (List.mem_append_left _ (show _ ∈ my_143_1 from List.mem_of_getElem? (i := 18) rfl)))
theorem cd_143_150 : mt_cd 143 150 = some (.getfield 73) := mt_cd_of (q := (150, .getfield 73, 3)) mq_143 ci_143 (List.mem_append_right _ (List.mem_append_left _ (show _ ∈ my_143_1 from List.mem_of_getElem? (i := 19) rfl)))
theorem cd_143_153 : mt_cd 143 153 = some (.iload_n 2) := mt_cd_of (q := (153, .iload_n 2, 1)) mq_143 ci_143 (List.mem_append_right _ (List.mem_append_left _ (show _ ∈ my_143_1 from List.mem_of_getElem? (i := 20) rfl)))
theorem cd_143_154 : mt_cd 143 154 = some (.aaload) := mt_cd_of (q := (154, .aaload, 1)) mq_143 ci_143 (List.mem_append_right _ (List.mem_append_left _ (show _ ∈ my_143_1 from List.mem_of_getElem? (i := 21) rfl)))
theorem cd_143_155 : mt_cd 143 155 = some (.invokevirtual 323) := mt_cd_of (q := (155, .invokevirtual 323, 3)) mq_143 ci_143 (List.mem_append_right _ (List.mem_append_left _ (show _ ∈ my_143_1 from List.mem_of_getElem? (i := 22) rfl)))
theorem cd_143_158 : mt_cd 143 158 = some (.ifCond .eq 8) := mt_cd_of (q := (158, .ifCond .eq 8, 3)) mq_143 ci_143 (List.mem_append_right _ (List.mem_append_left _ (show _ ∈ my_143_1 from List.mem_of_getElem? (i := 23) rfl)))
theorem cd_143_161 : mt_cd 143 161 = some (.aload_n 0) := mt_cd_of (q := (161, .aload_n 0, 1)) mq_143 ci_143 (List.mem_append_right _ (List.mem_append_left _ (show _ ∈ my_143_1 from List.mem_of_getElem? (i := 24) rfl)))
theorem cd_143_162 : mt_cd 143 162 = some (.iconst 4) := mt_cd_of (q := (162, .iconst 4, 1)) mq_143 ci_143 (List.mem_append_right _ (List.mem_append_left _ (show _ ∈ my_143_1 from List.mem_of_getElem? (i := 25) rfl)))
theorem cd_143_163 : mt_cd 143 163 = some (.putfield 310) := mt_cd_of (q := (163, .putfield 310, 3)) mq_143 ci_143 (List.mem_append_right _ (List.mem_append_left _ (show _ ∈ my_143_1 from List.mem_of_getElem? (i := 26) rfl)))
theorem cd_143_166 : mt_cd 143 166 = some (.iinc 2 1) := mt_cd_of (q := (166, .iinc 2 1, 3)) mq_143 ci_143 (List.mem_append_right _ (List.mem_append_left _ (show _ ∈ my_143_1 from List.mem_of_getElem? (i := 27) rfl)))
theorem cd_143_169 : mt_cd 143 169 = some (.goto (-30)) := mt_cd_of (q := (169, .goto (-30), 3)) mq_143 ci_143 (List.mem_append_right _ (List.mem_append_left _ (show _ ∈ my_143_1 from List.mem_of_getElem? (i := 28) rfl)))
theorem cd_143_172 : mt_cd 143 172 = some (.iconst 1) := mt_cd_of (q := (172, .iconst 1, 1)) mq_143 ci_143 (List.mem_append_right _ (List.mem_append_left _ (show _ ∈ my_143_1 from List.mem_of_getElem? (i := 29) rfl)))
theorem cd_143_173 : mt_cd 143 173 = some (.ireturn) := mt_cd_of (q := (173, .ireturn, 1)) mq_143 ci_143 (List.mem_append_right _ (List.mem_append_left _ (show _ ∈ my_143_1 from List.mem_of_getElem? (i := 30) rfl)))
theorem cd_143_174 : mt_cd 143 174 = some (.aload_n 0) := mt_cd_of (q := (174, .aload_n 0, 1)) mq_143 ci_143 (List.mem_append_right _ (List.mem_append_left _ (show _ ∈ my_143_1 from List.mem_of_getElem? (i := 31) rfl)))
theorem cd_143_175 : mt_cd 143 175 = some (.iload_n 1) := mt_cd_of (q := (175, .iload_n 1, 1)) mq_143 ci_143 (List.mem_append_right _ (List.mem_append_left _ (show _ ∈ my_143_1 from List.mem_of_getElem? (i := 32) rfl)))
theorem cd_143_176 : mt_cd 143 176 = some (.invokevirtual 313) := mt_cd_of (q := (176, .invokevirtual 313, 3)) mq_143 ci_143 (List.mem_append_right _ (List.mem_append_left _ (show _ ∈ my_143_1 from List.mem_of_getElem? (i := 33) rfl)))
theorem cd_143_179 : mt_cd 143 179 = some (.bipush 45) := mt_cd_of (q := (179, .bipush 45, 2)) mq_143 ci_143 (List.mem_append_right _ (List.mem_append_left _ (show _ ∈ my_143_1 from List.mem_of_getElem? (i := 34) rfl)))
theorem cd_143_181 : mt_cd 143 181 = some (.if_icmp .ne 7) := mt_cd_of (q := (181, .if_icmp .ne 7, 3)) mq_143 ci_143 (List.mem_append_right _ (List.mem_append_left _ (show _ ∈ my_143_1 from List.mem_of_getElem? (i := 35) rfl)))
theorem cd_143_184 : mt_cd 143 184 = some (.iconst 1) := mt_cd_of (q := (184, .iconst 1, 1)) mq_143 ci_143 (List.mem_append_right _ (List.mem_append_left _ (show _ ∈ my_143_1 from List.mem_of_getElem? (i := 36) rfl)))
theorem cd_143_185 : mt_cd 143 185 = some (.goto 4) := mt_cd_of (q := (185, .goto 4, 3)) mq_143 ci_143 (List.mem_append_right _ (List.mem_append_left _ (show _ ∈ my_143_1 from List.mem_of_getElem? (i := 37) rfl)))
theorem cd_143_188 : mt_cd 143 188 = some (.iconst 0) := mt_cd_of (q := (188, .iconst 0, 1)) mq_143 ci_143 (List.mem_append_right _ (List.mem_append_left _ (show _ ∈ my_143_1 from List.mem_of_getElem? (i := 38) rfl)))
theorem cd_143_189 : mt_cd 143 189 = some (.istore_n 2) := mt_cd_of (q := (189, .istore_n 2, 1)) mq_143 ci_143 (List.mem_append_right _ (List.mem_append_left _ (show _ ∈ my_143_1 from List.mem_of_getElem? (i := 39) rfl)))
theorem cd_143_190 : mt_cd 143 190 = some (.aload_n 0) := mt_cd_of (q := (190, .aload_n 0, 1)) mq_143 ci_143 (List.mem_append_right _ (List.mem_append_left _ (show _ ∈ my_143_1 from List.mem_of_getElem? (i := 40) rfl)))
theorem cd_143_191 : mt_cd 143 191 = some (.iload_n 1) := mt_cd_of (q := (191, .iload_n 1, 1)) mq_143 ci_143 (List.mem_append_right _ (List.mem_append_left _ (show _ ∈ my_143_1 from List.mem_of_getElem? (i := 41) rfl)))
theorem cd_143_192 : mt_cd 143 192 = some (.invokevirtual 313) := mt_cd_of (q := (192, .invokevirtual 313, 3)) mq_143 ci_143 (List.mem_append_right _ (List.mem_append_left _ (show _ ∈ my_143_1 from List.mem_of_getElem? (i := 42) rfl)))
theorem cd_143_195 : mt_cd 143 195 = some (.invokestatic 320) := mt_cd_of (q := (195, .invokestatic 320, 3)) mq_143 ci_143 (List.mem_append_right _ (List.mem_append_left _ (show _ ∈ my_143_1 from List.mem_of_getElem? (i := 43) rfl)))
theorem cd_143_198 : mt_cd 143 198 = some (.ifCond .ne 20) := mt_cd_of (q := (198, .ifCond .ne 20, 3)) mq_143 ci_143 (List.mem_append_right _ (List.mem_append_left _ (show _ ∈ my_143_1 from List.mem_of_getElem? (i := 44) rfl)))
theorem cd_143_201 : mt_cd 143 201 = some (.iload_n 2) := mt_cd_of (q := (201, .iload_n 2, 1)) mq_143 ci_143 (List.mem_append_right _ (List.mem_append_left _ (show _ ∈ my_143_1 from List.mem_of_getElem? (i := 45) rfl)))
theorem cd_143_202 : mt_cd 143 202 = some (.ifCond .eq 117) := mt_cd_of (q := (202, .ifCond .eq 117, 3)) mq_143 ci_143 (List.mem_append_right _ (List.mem_append_left _ (show _ ∈ my_143_1 from List.mem_of_getElem? (i := 46) rfl)))
theorem cd_143_205 : mt_cd 143 205 = some (.aload_n 0) := mt_cd_of (q := (205, .aload_n 0, 1)) mq_143 ci_143 (List.mem_append_right _ (List.mem_append_left _ (show _ ∈ my_143_1 from List.mem_of_getElem? (i := 47) rfl)))
theorem cd_143_206 : mt_cd 143 206 = some (.iload_n 1) := mt_cd_of (q := (206, .iload_n 1, 1)) mq_143 ci_143 (List.mem_append_right _ (List.mem_append_left _ (show _ ∈ my_143_1 from List.mem_of_getElem? (i := 48) rfl)))
theorem cd_143_207 : mt_cd 143 207 = some (.iconst 1) := mt_cd_of (q := (207, .iconst 1, 1)) mq_143 ci_143 (List.mem_append_right _ (List.mem_append_left _ (show _ ∈ my_143_1 from List.mem_of_getElem? (i := 49) rfl)))
theorem cd_143_208 : mt_cd 143 208 = some (.iadd) := mt_cd_of (q := (208, .iadd, 1)) mq_143 ci_143 (List.mem_append_right _ (List.mem_append_left _ (show _ ∈ my_143_1 from List.mem_of_getElem? (i := 50) rfl)))
theorem cd_143_209 : mt_cd 143 209 = some (.invokevirtual 313) := mt_cd_of (q := (209, .invokevirtual 313, 3)) mq_143 ci_143 (List.mem_append_right _ (List.mem_append_left _ (show _ ∈ my_143_1 from List.mem_of_getElem? (i := 51) rfl)))
theorem cd_143_212 : mt_cd 143 212 = some (.invokestatic 320) := mt_cd_of (q := (212, .invokestatic 320, 3)) mq_143 ci_143 (List.mem_append_right _ (List.mem_append_left _ (show _ ∈ my_143_1 from List.mem_of_getElem? (i := 52) rfl)))
theorem cd_143_215 : mt_cd 143 215 = some (.ifCond .eq 104) := mt_cd_of (q := (215, .ifCond .eq 104, 3)) mq_143 ci_143 (List.mem_append_right _ (List.mem_append_left _ (show _ ∈ my_143_1 from List.mem_of_getElem? (i := 53) rfl)))
theorem cd_143_218 : mt_cd 143 218 = some (.aload_n 0) := mt_cd_of (q := (218, .aload_n 0, 1)) mq_143 ci_143 (List.mem_append_right _ (List.mem_append_left _ (show _ ∈ my_143_1 from List.mem_of_getElem? (i := 54) rfl)))
theorem cd_143_219 : mt_cd 143 219 = some (.iconst 2) := mt_cd_of (q := (219, .iconst 2, 1)) mq_143 ci_143 (List.mem_append_right _ (List.mem_append_left _ (show _ ∈ my_143_1 from List.mem_of_getElem? (i := 55) rfl)))
theorem cd_143_220 : mt_cd 143 220 = some (.putfield 310) := mt_cd_of (q := (220, .putfield 310, 3)) mq_143 ci_143 (List.mem_append_right _ (List.mem_append_left _ (show _ ∈ my_143_1 from List.mem_of_getElem? (i := 56) rfl)))
theorem cd_143_223 : mt_cd 143 223 = some (.aload_n 0) := mt_cd_of (q := (223, .aload_n 0, 1)) mq_143 ci_143 (List.mem_append_right _ (List.mem_append_left _ (show _ ∈ my_143_1 from List.mem_of_getElem? (i := 57) rfl)))
theorem cd_143_224 : mt_cd 143 224 = some (.iload_n 2) := mt_cd_of (q := (224, .iload_n 2, 1)) mq_143 ci_143 (List.mem_append_right _ (List.mem_append_left _ (show _ ∈ my_143_1 from List.mem_of_getElem? (i := 58) rfl)))
theorem cd_143_225 : mt_cd 143 225 = some (.ifCond .eq 9) := mt_cd_of (q := (225, .ifCond .eq 9, 3)) mq_143 ci_143 (List.mem_append_right _ (List.mem_append_left _ (show _ ∈ my_143_1 from List.mem_of_getElem? (i := 59) rfl)))
theorem cd_143_228 : mt_cd 143 228 = some (.iload_n 1) := mt_cd_of (q := (228, .iload_n 1, 1)) mq_143 ci_143 (List.mem_append_right _ (List.mem_append_right _ (List.mem_append_left _ (show _ ∈ my_143_2 from List.mem_of_getElem? (i := 0) rfl))))
theorem cd_143_229 : mt_cd 143 229 = some (.iconst 1) := mt_cd_of (q := (229, .iconst 1, 1)) mq_143 ci_143 (List.mem_append_right _ (List.mem_append_right _ (List.mem_append_left _ (show _ ∈ my_143_2 from List.mem_of_getElem? (i := 1) rfl))))
theorem cd_143_230 : mt_cd 143 230 = some (.iadd) := mt_cd_of (q := (230, .iadd, 1)) mq_143 ci_143 (List.mem_append_right _ (List.mem_append_right _ (List.mem_append_left _ (show _ ∈ my_143_2 from List.mem_of_getElem? (i := 2) rfl))))
theorem cd_143_231 : mt_cd 143 231 = some (.goto 4) := mt_cd_of (q := (231, .goto 4, 3)) mq_143 ci_143 (List.mem_append_right _ (List.mem_append_right _ (List.mem_append_left _ (show _ ∈ my_143_2 from List.mem_of_getElem? (i := 3) rfl))))
theorem cd_143_234 : mt_cd 143 234 = some (.iload_n 1) := mt_cd_of (q := (234, .iload_n 1, 1)) mq_143 ci_143 (List.mem_append_right _ (List.mem_append_right _ (List.mem_append_left _ (show _ ∈ my_143_2 from List.mem_of_getElem? (i := 4) rfl))))
theorem cd_143_235 : mt_cd 143 235 = some (.putfield 297) := mt_cd_of (q := (235, .putfield 297, 3)) mq_143 ci_143 (List.mem_append_right _ (List.mem_append_right _ (List.mem_append_left _ (show _ ∈ my_143_2 from List.mem_of_getElem? (i := 5) rfl))))
theorem cd_143_238 : mt_cd 143 238 = some (.aload_n 0) := mt_cd_of (q := (238, .aload_n 0, 1)) mq_143 ci_143 (List.mem_append_right _ (List.mem_append_right _ (List.mem_append_left _ (show _ ∈ my_143_2 from List.mem_of_getElem? (i := 6) rfl))))
theorem cd_143_239 : mt_cd 143 239 = some (.lconst 0) := mt_cd_of (q := (239, .lconst 0, 1)) mq_143 ci_143 (List.mem_append_right _ (List.mem_append_right _ (List.mem_append_left _ (show _ ∈ my_143_2 from List.mem_of_getElem? (i := 7) rfl))))
theorem cd_143_240 : mt_cd 143 240 = some (.putfield 327) := mt_cd_of (q := (240, .putfield 327, 3)) mq_143 ci_143 (List.mem_append_right _ (List.mem_append_right _ (List.mem_append_left _ (show _ ∈ my_143_2 from List.mem_of_getElem? (i := 8) rfl))))
theorem cd_143_243 : mt_cd 143 243 = some (.iconst 0) := mt_cd_of (q := (243, .iconst 0, 1)) mq_143 ci_143 (List.mem_append_right _ (List.mem_append_right _ (List.mem_append_left _ (show _ ∈ my_143_2 from List.mem_of_getElem? (i := 9) rfl))))
theorem cd_143_244 : mt_cd 143 244 = some (.istore_n 3) := mt_cd_of (q := (244, .istore_n 3, 1)) mq_143 ci_143 (List.mem_append_right _ (List.mem_append_right _ (List.mem_append_left _ (show _ ∈ my_143_2 from List.mem_of_getElem? (i := 10) rfl))))
theorem cd_143_245 : mt_cd 143 245 = some (.aload_n 0) := mt_cd_of (q := (245, .aload_n 0, 1)) mq_143 ci_143 (List.mem_append_right _ (List.mem_append_right _ (List.mem_append_left _ (show _ ∈ my_143_2 from List.mem_of_getElem? (i := 11) rfl))))
theorem cd_143_246 : mt_cd 143 246 = some (.aload_n 0) := mt_cd_of (q := (246, .aload_n 0, 1)) mq_143 ci_143 (List.mem_append_right _ (List.mem_append_right _ (List.mem_append_left _ (show _ ∈ my_143_2 from List.mem_of_getElem? (i := 12) rfl))))
theorem cd_143_247 : mt_cd 143 247 = some (.getfield 297) := mt_cd_of (q := (247, .getfield 297, 3)) mq_143 ci_143 (List.mem_append_right _ (List.mem_append_right _ (List.mem_append_left _ (show _ ∈ my_143_2 from List.mem_of_getElem? (i := 13) rfl))))
theorem cd_143_250 : mt_cd 143 250 = some (.invokevirtual 313) := mt_cd_of (q := (250, .invokevirtual 313, 3)) mq_143 ci_143 (List.mem_append_right _ (List.mem_append_right _ (List.mem_append_left _ (show _ ∈ my_143_2 from List.mem_of_getElem? (i := 14) rfl))))
theorem cd_143_253 : mt_cd 143 253 = some (.invokestatic 320) := mt_cd_of (q := (253, .invokestatic 320, 3)) mq_143 ci_143 (List.mem_append_right _ (List.mem_append_right _ (List.mem_append_left _ (show _ ∈ my_143_2 from List.mem_of_getElem? (i := 15) rfl))))
theorem cd_143_256 : mt_cd 143 256 = some (.ifCond .eq 48) := mt_cd_of (q := (256, .ifCond .eq 48, 3)) mq_143 ci_143 (List.mem_append_right _ (List.mem_append_right _ (List.mem_append_left _ (show _ ∈ my_143_2 from List.mem_of_getElem? (i := 16) rfl))))
theorem cd_143_259 : mt_cd 143 259 = some (.iload_n 3) := mt_cd_of (q := (259, .iload_n 3, 1)) mq_143 ci_143 (List.mem_append_right _ (List.mem_append_right _ (List.mem_append_left _ (show _ ∈ my_143_2 from List.mem_of_getElem? (i := 17) rfl))))
theorem cd_143_260 : mt_cd 143 260 = some (.bipush 17) := mt_cd_of (q := (260, .bipush 17, 2)) mq_143 ci_143 (List.mem_append_right _ (List.mem_append_right _ (List.mem_append_left _ (show _ ∈ my_143_2 from List.mem_of_getElem? (i := 18) rfl))))
theorem cd_143_262 : mt_cd 143 262 = some (.if_icmp .ge 42) := mt_cd_of (q := (262, .if_icmp .ge 42, 3)) mq_143 ci_143 (List.mem_append_right _ (List.mem_append_right _ (List.mem_append_left _ (show _ ∈ my_143_2 from List.mem_of_getElem? (i := 19) rfl))))
theorem cd_143_265 : mt_cd 143 265 = some (.aload_n 0) := mt_cd_of (q := (265, .aload_n 0, 1)) mq_143 ci_143 (List.mem_append_right _ (List.mem_append_right _ (List.mem_append_left _ (show _ ∈ my_143_2 from List.mem_of_getElem? (i := 20) rfl))))
theorem cd_143_266 : mt_cd 143 266 = some (.ldc2_w 331) := mt_cd_of (q := (266, .ldc2_w 331, 3)) mq_143 ci_143 (List.mem_append_right _ (List.mem_append_right _ (List.mem_append_left _ (show _ ∈ my_143_2 from List.mem_of_getElem? (i := 21) rfl))))
theorem cd_143_269 : mt_cd 143 269 = some (.aload_n 0) := mt_cd_of (q := (269, .aload_n 0, 1)) mq_143 ci_143 (List.mem_append_right _ (List.mem_append_right _ (List.mem_append_left _ (show _ ∈ my_143_2 from List.mem_of_getElem? (i := 22) rfl))))
theorem cd_143_270 : mt_cd 143 270 = some (.getfield 327) := mt_cd_of (q := (270, .getfield 327, 3)) mq_143 ci_143 (List.mem_append_right _ (List.mem_append_right _ (List.mem_append_left _ (show _ ∈ my_143_2 from List.mem_of_getElem? (i := 23) rfl))))
theorem cd_143_273 : mt_cd 143 273 = some (.lmul) := mt_cd_of (q := (273, .lmul, 1)) mq_143 ci_143 (List.mem_append_right _ (List.mem_append_right _ (List.mem_append_left _ (show _ ∈ my_143_2 from List.mem_of_getElem? (i := 24) rfl))))
theorem cd_143_274 : mt_cd 143 274 = some (.aload_n 0) := mt_cd_of (q := (274, .aload_n 0, 1)) mq_143 ci_143 (List.mem_append_right _ (List.mem_append_right _ (List.mem_append_left _ (show _ ∈ my_143_2 from List.mem_of_getElem? (i := 25) rfl))))
theorem cd_143_275 : mt_cd 143 275 = some (.aload_n 0) := mt_cd_of (q := (275, .aload_n 0, 1)) mq_143 ci_143 (List.mem_append_right _ (List.mem_append_right _ (List.mem_append_left _ (show _ ∈ my_143_2 from List.mem_of_getElem? (i := 26) rfl))))
theorem cd_143_276 : mt_cd 143 276 = some (.dup) := mt_cd_of (q := (276, .dup, 1)) mq_143 ci_143 (List.mem_append_right _ (List.mem_append_right _ (List.mem_append_left _ (show _ ∈ my_143_2 from List.mem_of_getElem? (i := 27) rfl))))
theorem cd_143_277 : mt_cd 143 277 = some (.getfield 297) := mt_cd_of (q := (277, .getfield 297, 3)) mq_143 ci_143 (List.mem_append_right _ (List.mem_append_right _ (List.mem_append_left _ (show _ ∈ my_143_2 from List.mem_of_getElem? (i := 28) rfl))))
theorem cd_143_280 : mt_cd 143 280 = some (.dup_x1) := mt_cd_of (q := (280, .dup_x1, 1)) mq_143 ci_143 (List.mem_append_right _ (List.mem_append_right _ (List.mem_append_left _ (show _ ∈ my_143_2 from List.mem_of_getElem? (i := 29) rfl))))
theorem cd_143_281 : mt_cd 143 281 = some (.iconst 1) := mt_cd_of (q := (281, .iconst 1, 1)) mq_143 ci_143 (List.mem_append_right _ (List.mem_append_right _ (List.mem_append_left _ (show _ ∈ my_143_2 from List.mem_of_getElem? (i := 30) rfl))))
theorem cd_143_282 : mt_cd 143 282 = some (.iadd) := mt_cd_of (q := (282, .iadd, 1)) mq_143 ci_143 (List.mem_append_right _ (List.mem_append_right _ (List.mem_append_left _ (show _ ∈ my_143_2 from List.mem_of_getElem? (i := 31) rfl))))
theorem cd_143_283 : mt_cd 143 283 = some (.putfield 297) := mt_cd_of (q := (283, .putfield 297, 3)) mq_143 ci_143 (List.mem_append_right _ (List.mem_append_right _ (List.mem_append_left _ (show _ ∈ my_143_2 from List.mem_of_getElem? (i := 32) rfl))))
theorem cd_143_286 : mt_cd 143 286 = some (.invokevirtual 313) := mt_cd_of (q := (286, .invokevirtual 313, 3)) mq_143 ci_143 (List.mem_append_right _ (List.mem_append_right _ (List.mem_append_left _ (show _ ∈ my_143_2 from List.mem_of_getElem? (i := 33) rfl))))
theorem cd_143_289 : mt_cd 143 289 = some (.i2l) := mt_cd_of (q := (289, .i2l, 1)) mq_143 ci_143 (List.mem_append_right _ (List.mem_append_right _ (List.mem_append_left _ (show _ ∈ my_143_2 from List.mem_of_getElem? (i := 34) rfl))))
theorem cd_143_290 : mt_cd 143 290 = some (.ladd) := mt_cd_of (q := (290, .ladd, 1)) mq_143 ci_143 (List.mem_append_right _ (List.mem_append_right _ (List.mem_append_left _ (show _ ∈ my_143_2 from List.mem_of_getElem? (i := 35) rfl))))
theorem cd_143_291 : mt_cd 143 291 = some (.ldc2_w 293) := mt_cd_of (q := (291, .ldc2_w 293, 3)) mq_143 ci_143 (List.mem_append_right _ (List.mem_append_right _ (List.mem_append_left _ (show _ ∈ my_143_2 from List.mem_of_getElem? (i := 36) rfl))))
theorem cd_143_294 : mt_cd 143 294 = some (.lsub) := mt_cd_of (q := (294, .lsub, 1)) mq_143 ci_143 (List.mem_append_right _ (List.mem_append_right _ (List.mem_append_left _ (show _ ∈ my_143_2 from List.mem_of_getElem? (i := 37) rfl))))
theorem cd_143_295 : mt_cd 143 295 = some (.putfield 327) := mt_cd_of (q := (295, .putfield 327, 3)) mq_143 ci_143 (List.mem_append_right _ (List.mem_append_right _ (List.mem_append_left _ (show _ ∈ my_143_2 from List.mem_of_getElem? (i := 38) rfl))))
theorem cd_143_298 : mt_cd 143 298 = some (.iinc 3 1) := mt_cd_of (q := (298, .iinc 3 1, 3)) mq_143 ci_143 (List.mem_append_right _ (List.mem_append_right _ (List.mem_append_left _ (show _ ∈ my_143_2 from List.mem_of_getElem? (i := 39) rfl))))
theorem cd_143_301 : mt_cd 143 301 = some (.goto (-56)) := mt_cd_of (q := (301, .goto (-56), 3)) mq_143 ci_143 (List.mem_append_right _ (List.mem_append_right _ (List.mem_append_left _ (show _ ∈ my_143_2 from List.mem_of_getElem? (i := 40) rfl))))
theorem cd_143_304 : mt_cd 143 304 = some (.iload_n 2) := mt_cd_of (q := (304, .iload_n 2, 1)) mq_143 ci_143 (List.mem_append_right _ (List.mem_append_right _ (List.mem_append_left _ (show _ ∈ my_143_2 from List.mem_of_getElem? (i := 41) rfl))))
theorem cd_143_305 : mt_cd 143 305 = some (.ifCond .eq 12) := mt_cd_of (q := (305, .ifCond .eq 12, 3)) mq_143 ci_143 (List.mem_append_right _ (List.mem_append_right _ (List.mem_append_left _ (show _ ∈ my_143_2 from List.mem_of_getElem? (i := 42) rfl))))
theorem cd_143_308 : mt_cd 143 308 = some (.aload_n 0) := mt_cd_of (q := (308, .aload_n 0, 1)) mq_143 ci_143 (List.mem_append_right _ (List.mem_append_right _ (List.mem_append_left _ (show _ ∈ my_143_2 from List.mem_of_getElem? (i := 43) rfl))))
theorem cd_143_309 : mt_cd 143 309 = some (.aload_n 0) := mt_cd_of (q := (309, .aload_n 0, 1)) mq_143 ci_143 (List.mem_append_right _ (List.mem_append_right _ (List.mem_append_left _ (show _ ∈ my_143_2 from List.mem_of_getElem? (i := 44) rfl))))
theorem cd_143_310 : mt_cd 143 310 = some (.getfield 327) := mt_cd_of (q := (310, .getfield 327, 3)) mq_143 ci_143 (List.mem_append_right _ (List.mem_append_right _ (List.mem_append_left _ (show _ ∈ my_143_2 from List.mem_of_getElem? (i := 45) rfl))))
theorem cd_143_313 : mt_cd 143 313 = some (.lneg) := mt_cd_of (q := (313, .lneg, 1)) mq_143 ci_143 (List.mem_append_right _ (List.mem_append_right _ (List.mem_append_left _ (show _ ∈ my_143_2 from List.mem_of_getElem? (i := 46) rfl))))
theorem cd_143_314 : mt_cd 143 314 = some (.putfield 327) := mt_cd_of (q := (314, .putfield 327, 3)) mq_143 ci_143 (List.mem_append_right _ (List.mem_append_right _ (List.mem_append_left _ (show _ ∈ my_143_2 from List.mem_of_getElem? (i := 47) rfl))))
theorem cd_143_317 : mt_cd 143 317 = some (.iconst 1) := mt_cd_of (q := (317, .iconst 1, 1)) mq_143 ci_143 (List.mem_append_right _ (List.mem_append_right _ (List.mem_append_left _ (show _ ∈ my_143_2 from List.mem_of_getElem? (i := 48) rfl))))
theorem cd_143_318 : mt_cd 143 318 = some (.ireturn) := mt_cd_of (q := (318, .ireturn, 1)) mq_143 ci_143 (List.mem_append_right _ (List.mem_append_right _ (List.mem_append_left _ (show _ ∈ my_143_2 from List.mem_of_getElem? (i := 49) rfl))))
theorem cd_143_319 : mt_cd 143 319 = some (.aload_n 0) := mt_cd_of (q := (319, .aload_n 0, 1)) mq_143 ci_143 (List.mem_append_right _ (List.mem_append_right _ (List.mem_append_left _ (show _ ∈ my_143_2 from List.mem_of_getElem? (i := 50) rfl))))
theorem cd_143_320 : mt_cd 143 320 = some (.iconst 3) := mt_cd_of (q := (320, .iconst 3, 1)) mq_143 ci_143 (List.mem_append_right _ (List.mem_append_right _ (List.mem_append_left _ (show _ ∈ my_143_2 from List.mem_of_getElem? (i := 51) rfl))))
theorem cd_143_321 : mt_cd 143 321 = some (.putfield 310) := mt_cd_of (q := (321, .putfield 310, 3)) mq_143 ci_143 (List.mem_append_right _ (List.mem_append_right _ (List.mem_append_left _ (show _ ∈ my_143_2 from List.mem_of_getElem? (i := 52) rfl))))
theorem cd_143_324 : mt_cd 143 324 = some (.aload_n 0) := mt_cd_of (q := (324, .aload_n 0, 1)) mq_143 ci_143 (List.mem_append_right _ (List.mem_append_right _ (List.mem_append_left _ (show _ ∈ my_143_2 from List.mem_of_getElem? (i := 53) rfl))))
theorem cd_143_325 : mt_cd 143 325 = some (.iload_n 1) := mt_cd_of (q := (325, .iload_n 1, 1)) mq_143 ci_143 (List.mem_append_right _ (List.mem_append_right _ (List.mem_append_left _ (show _ ∈ my_143_2 from List.mem_of_getElem? (i := 54) rfl))))
theorem cd_143_326 : mt_cd 143 326 = some (.invokevirtual 313) := mt_cd_of (q := (326, .invokevirtual 313, 3)) mq_143 ci_143 (List.mem_append_right _ (List.mem_append_right _ (List.mem_append_left _ (show _ ∈ my_143_2 from List.mem_of_getElem? (i := 55) rfl))))
theorem cd_143_329 : mt_cd 143 329 = some (.istore_n 3) := mt_cd_of (q := (329, .istore_n 3, 1)) mq_143 ci_143 (List.mem_append_right _ (List.mem_append_right _ (List.mem_append_left _ (show _ ∈ my_143_2 from List.mem_of_getElem? (i := 56) rfl))))
theorem cd_143_330 : mt_cd 143 330 = some (.aload_n 0) := mt_cd_of (q := (330, .aload_n 0, 1)) mq_143 ci_143 (List.mem_append_right _ (List.mem_append_right _ (List.mem_append_left _ (show _ ∈ my_143_2 from List.mem_of_getElem? (i := 57) rfl))))
theorem cd_143_331 : mt_cd 143 331 = some (.iload_n 1) := mt_cd_of (q := (331, .iload_n 1, 1)) mq_143 ci_143 (List.mem_append_right _ (List.mem_append_right _ (List.mem_append_left _ (show _ ∈ my_143_2 from List.mem_of_getElem? (i := 58) rfl))))
theorem cd_143_332 : mt_cd 143 332 = some (.iload_n 3) := mt_cd_of (q := (332, .iload_n 3, 1)) mq_143 ci_143 (List.mem_append_right _ (List.mem_append_right _ (List.mem_append_left _ (show _ ∈ my_143_2 from List.mem_of_getElem? (i := 59) rfl))))
theorem cd_143_333 : mt_cd 143 333 = some (.bipush 60) := mt_cd_of (q := (333, .bipush 60, 2)) mq_143 ci_143 (List.mem_append_right _ (List.mem_append_right _ (List.mem_append_right _ ((show _ ∈ my_143_3 from List.mem_of_getElem? (i := 0) rfl)))))
theorem cd_143_335 : mt_cd 143 335 = some (.if_icmp .eq 9) := mt_cd_of (q := (335, .if_icmp .eq 9, 3)) mq_143 ci_143 (List.mem_append_right _ (List.mem_append_right _ (List.mem_append_right _ ((show _ ∈ my_143_3 from List.mem_of_getElem? (i := 1) rfl)))))
theorem cd_143_338 : mt_cd 143 338 = some (.iload_n 3) := mt_cd_of (q := (338, .iload_n 3, 1)) mq_143 ci_143 (List.mem_append_right _ (List.mem_append_right _ (List.mem_append_right _ ((show _ ∈ my_143_3 from List.mem_of_getElem? (i := 2) rfl)))))
theorem cd_143_339 : mt_cd 143 339 = some (.bipush 62) := mt_cd_of (q := (339, .bipush 62, 2)) mq_143 ci_143 (List.mem_append_right _ (List.mem_append_right _ (List.mem_append_right _ ((show _ ∈ my_143_3 from List.mem_of_getElem? (i := 3) rfl)))))
theorem cd_143_341 : mt_cd 143 341 = some (.if_icmp .ne 19) := mt_cd_of (q := (341, .if_icmp .ne 19, 3)) mq_143 ci_143 (List.mem_append_right _ (List.mem_append_right _ (List.mem_append_right _ ((show _ ∈ my_143_3 from List.mem_of_getElem? (i := 4) rfl)))))
theorem cd_143_344 : mt_cd 143 344 = some (.aload_n 0) := mt_cd_of (q := (344, .aload_n 0, 1)) mq_143 ci_143 (List.mem_append_right _ (List.mem_append_right _ (List.mem_append_right _ ((show _ ∈ my_143_3 from List.mem_of_getElem? (i := 5) rfl)))))
theorem cd_143_345 : mt_cd 143 345 = some (.iload_n 1) := mt_cd_of (q := (345, .iload_n 1, 1)) mq_143 ci_143 (List.mem_append_right _ (List.mem_append_right _ (List.mem_append_right _ ((show _ ∈ my_143_3 from List.mem_of_getElem? (i := 6) rfl)))))
theorem cd_143_346 : mt_cd 143 346 = some (.iconst 1) := mt_cd_of (q := (346, .iconst 1, 1)) mq_143 ci_143 (List.mem_append_right _ (List.mem_append_right _ (List.mem_append_right _ ((show _ ∈ my_143_3 from List.mem_of_getElem? (i := 7) rfl)))))
theorem cd_143_347 : mt_cd 143 347 = some (.iadd) := mt_cd_of (q := (347, .iadd, 1)) mq_143 ci_143 (List.mem_append_right _ (List.mem_append_right _ (List.mem_append_right _ ((show _ ∈ my_143_3 from List.mem_of_getElem? (i := 8) rfl)))))
theorem cd_143_348 : mt_cd 143 348 = some (.invokevirtual 313) := mt_cd_of (q := (348, .invokevirtual 313, 3)) mq_143 ci_143 (List.mem_append_right _ (List.mem_append_right _ (List.mem_append_right _ ((show _ ∈ my_143_3 from List.mem_of_getElem? (i := 9) rfl)))))
theorem cd_143_351 : mt_cd 143 351 = some (.bipush 61) := mt_cd_of (q := (351, .bipush 61, 2)) mq_143 ci_143 (List.mem_append_right _ (List.mem_append_right _ (List.mem_append_right _ ((show _ ∈ my_143_3 from List.mem_of_getElem? (i := 10) rfl)))))
theorem cd_143_353 : mt_cd 143 353 = some (.if_icmp .ne 7) := mt_cd_of (q := (353, .if_icmp .ne 7, 3)) mq_143 ci_143 (List.mem_append_right _ (List.mem_append_right _ (List.mem_append_right _ ((show _ ∈ my_143_3 from List.mem_of_getElem? (i := 11) rfl)))))
theorem cd_143_356 : mt_cd 143 356 = some (.iconst 2) := mt_cd_of (q := (356, .iconst 2, 1)) mq_143 ci_143 (List.mem_append_right _ (List.mem_append_right _ (List.mem_append_right _ ((show _ ∈ my_143_3 from List.mem_of_getElem? (i := 12) rfl)))))
theorem cd_143_357 : mt_cd 143 357 = some (.goto 4) := mt_cd_of (q := (357, .goto 4, 3)) mq_143 ci_143 (List.mem_append_right _ (List.mem_append_right _ (List.mem_append_right _ ((show _ ∈ my_143_3 from List.mem_of_getElem? (i := 13) rfl)))))
theorem cd_143_360 : mt_cd 143 360 = some (.iconst 1) := mt_cd_of (q := (360, .iconst 1, 1)) mq_143 ci_143 (List.mem_append_right _ (List.mem_append_right _ (List.mem_append_right _ ((show _ ∈ my_143_3 from List.mem_of_getElem? (i := 14) rfl)))))
theorem cd_143_361 : mt_cd 143 361 = some (.iadd) := mt_cd_of (q := (361, .iadd, 1)) mq_143 ci_143 (List.mem_append_right _ (List.mem_append_right _ (List.mem_append_right _ ((show _ ∈ my_143_3 from List.mem_of_getElem? (i := 15) rfl)))))
theorem cd_143_362 : mt_cd 143 362 = some (.putfield 297) := mt_cd_of (q := (362, .putfield 297, 3)) mq_143 ci_143 (List.mem_append_right _ (List.mem_append_right _ (List.mem_append_right _ ((show _ ∈ my_143_3 from List.mem_of_getElem? (i := 16) rfl)))))
theorem cd_143_365 : mt_cd 143 365 = some (.iload_n 3) := mt_cd_of (q := (365, .iload_n 3, 1)) mq_143 ci_143 (List.mem_append_right _ (List.mem_append_right _ (List.mem_append_right _ ((show _ ∈ my_143_3 from List.mem_of_getElem? (i := 17) rfl)))))
theorem cd_143_366 : mt_cd 143 366 = some (.bipush 40) := mt_cd_of (q := (366, .bipush 40, 2)) mq_143 ci_143 (List.mem_append_right _ (List.mem_append_right _ (List.mem_append_right _ ((show _ ∈ my_143_3 from List.mem_of_getElem? (i := 18) rfl)))))
theorem cd_143_368 : mt_cd 143 368 = some (.if_icmp .eq 69) := mt_cd_of (q := (368, .if_icmp .eq 69, 3)) mq_143 ci_143 (List.mem_append_right _ (List.mem_append_right _ (List.mem_append_right _ ((show _ ∈ my_143_3 from List.mem_of_getElem? (i := 19) rfl)))))
theorem cd_143_371 : mt_cd 143 371 = some (.iload_n 3) := mt_cd_of (q := (371, .iload_n 3, 1)) mq_143 ci_143 (List.mem_append_right _ (List.mem_append_right _ (List.mem_append_right _ ((show _ ∈ my_143_3 from List.mem_of_getElem? (i := 20) rfl)))))
theorem cd_143_372 : mt_cd 143 372 = some (.bipush 41) := mt_cd_of (q := (372, .bipush 41, 2)) mq_143 ci_143 (List.mem_append_right _ (List.mem_append_right _ (List.mem_append_right _ ((show _ ∈ my_143_3 from List.mem_of_getElem? (i := 21) rfl)))))
theorem cd_143_374 : mt_cd 143 374 = some (.if_icmp .eq 63) := mt_cd_of (q := (374, .if_icmp .eq 63, 3)) mq_143 ci_143 (List.mem_append_right _ (List.mem_append_right _ (List.mem_append_right _ ((show _ ∈ my_143_3 from List.mem_of_getElem? (i := 22) rfl)))))
theorem cd_143_377 : mt_cd 143 377 = some (.iload_n 3) := mt_cd_of (q := (377, .iload_n 3, 1)) mq_143 ci_143 (List.mem_append_right _ (List.mem_append_right _ (List.mem_append_right _ ((show _ ∈ my_143_3 from List.mem_of_getElem? (i := 23) rfl)))))
theorem cd_143_378 : mt_cd 143 378 = some (.bipush 91) := mt_cd_of (q := (378, .bipush 91, 2)) mq_143 ci_143 (List.mem_append_right _ (List.mem_append_right _ (List.mem_append_right _ ((show _ ∈ my_143_3 from List.mem_of_getElem? (i := 24) rfl)))))
theorem cd_143_380 : mt_cd 143 380 = some (.if_icmp .eq 57) := mt_cd_of (q := (380, .if_icmp .eq 57, 3)) mq_143 ci_143 (List.mem_append_right _ (List.mem_append_right _ (List.mem_append_right _ ((show _ ∈ my_143_3 from List.mem_of_getElem? (i := 25) rfl)))))
theorem cd_143_383 : mt_cd 143 383 = some (.iload_n 3) := mt_cd_of (q := (383, .iload_n 3, 1)) mq_143 ci_143 (List.mem_append_right _ (List.mem_append_right _ (List.mem_append_right _ ((show _ ∈ my_143_3 from List.mem_of_getElem? (i := 26) rfl)))))
theorem cd_143_384 : mt_cd 143 384 = some (.bipush 93) := mt_cd_of (q := (384, .bipush 93, 2)) mq_143 ci_143 (List.mem_append_right _ (List.mem_append_right _ (List.mem_append_right _ ((show _ ∈ my_143_3 from List.mem_of_getElem? (i := 27) rfl)))))
theorem cd_143_386 : mt_cd 143 386 = some (.if_icmp .eq 51) := mt_cd_of (q := (386, .if_icmp .eq 51, 3)) mq_143 ci_143 (List.mem_append_right _ (List.mem_append_right _ (List.mem_append_right _ ((show _ ∈ my_143_3 from List.mem_of_getElem? (i := 28) rfl)))))
theorem cd_143_389 : mt_cd 143 389 = some (.iload_n 3) := mt_cd_of (q := (389, .iload_n 3, 1)) mq_143 ci_143 (List.mem_append_right _ (List.mem_append_right _ (List.mem_append_right _ ((show _ ∈ my_143_3 from List.mem_of_getElem? (i := 29) rfl)))))
theorem cd_143_390 : mt_cd 143 390 = some (.bipush 43) := mt_cd_of (q := (390, .bipush 43, 2)) mq_143 ci_143 (List.mem_append_right _ (List.mem_append_right _ (List.mem_append_right _ ((show _ ∈ my_143_3 from List.mem_of_getElem? (i := 30) rfl)))))
theorem cd_143_392 : mt_cd 143 392 = some (.if_icmp .eq 45) := mt_cd_of (q := (392, .if_icmp .eq 45, 3)) mq_143 ci_143 (List.mem_append_right _ (List.mem_append_right _ (List.mem_append_right _ ((show _ ∈ my_143_3 from List.mem_of_getElem? (i := 31) rfl)))))
theorem cd_143_395 : mt_cd 143 395 = some (.iload_n 2) := mt_cd_of (q := (395, .iload_n 2, 1)) mq_143 ci_143 (List.mem_append_right _ (List.mem_append_right _ (List.mem_append_right _ ((show _ ∈ my_143_3 from List.mem_of_getElem? (i := 32) rfl)))))
theorem cd_143_396 : mt_cd 143 396 = some (.ifCond .ne 41) := mt_cd_of (q := (396, .ifCond .ne 41, 3)) mq_143 ci_143 (List.mem_append_right _ (List.mem_append_right _ (List.mem_append_right _ ((show _ ∈ my_143_3 from List.mem_of_getElem? (i := 33) rfl)))))
theorem cd_143_399 : mt_cd 143 399 = some (.iload_n 3) := mt_cd_of (q := (399, .iload_n 3, 1)) mq_143 ci_143 (List.mem_append_right _ (List.mem_append_right _ (List.mem_append_right _ ((show _ ∈ my_143_3 from List.mem_of_getElem? (i := 34) rfl)))))
theorem cd_143_400 : mt_cd 143 400 = some (.bipush 42) := mt_cd_of (q := (400, .bipush 42, 2)) mq_143 ci_143 (List.mem_append_right _ (List.mem_append_right _ (List.mem_append_right _ ((show _ ∈ my_143_3 from List.mem_of_getElem? (i := 35) rfl)))))
theorem cd_143_402 : mt_cd 143 402 = some (.if_icmp .eq 35) := mt_cd_of (q := (402, .if_icmp .eq 35, 3)) mq_143 ci_143 (List.mem_append_right _ (List.mem_append_right _ (List.mem_append_right _ ((show _ ∈ my_143_3 from List.mem_of_getElem? (i := 36) rfl)))))
theorem cd_143_405 : mt_cd 143 405 = some (.iload_n 3) := mt_cd_of (q := (405, .iload_n 3, 1)) mq_143 ci_143 (List.mem_append_right _ (List.mem_append_right _ (List.mem_append_right _ ((show _ ∈ my_143_3 from List.mem_of_getElem? (i := 37) rfl)))))
theorem cd_143_406 : mt_cd 143 406 = some (.bipush 47) := mt_cd_of (q := (406, .bipush 47, 2)) mq_143 ci_143 (List.mem_append_right _ (List.mem_append_right _ (List.mem_append_right _ ((show _ ∈ my_143_3 from List.mem_of_getElem? (i := 38) rfl)))))
theorem cd_143_408 : mt_cd 143 408 = some (.if_icmp .eq 29) := mt_cd_of (q := (408, .if_icmp .eq 29, 3)) mq_143 ci_143 (List.mem_append_right _ (List.mem_append_right _ (List.mem_append_right _ ((show _ ∈ my_143_3 from List.mem_of_getElem? (i := 39) rfl)))))
theorem cd_143_411 : mt_cd 143 411 = some (.iload_n 3) := mt_cd_of (q := (411, .iload_n 3, 1)) mq_143 ci_143 (List.mem_append_right _ (List.mem_append_right _ (List.mem_append_right _ ((show _ ∈ my_143_3 from List.mem_of_getElem? (i := 40) rfl)))))
theorem cd_143_412 : mt_cd 143 412 = some (.bipush 60) := mt_cd_of (q := (412, .bipush 60, 2)) mq_143 ci_143 (List.mem_append_right _ (List.mem_append_right _ (List.mem_append_right _ ((show _ ∈ my_143_3 from List.mem_of_getElem? (i := 41) rfl)))))
theorem cd_143_414 : mt_cd 143 414 = some (.if_icmp .eq 23) := mt_cd_of (q := (414, .if_icmp .eq 23, 3)) mq_143 ci_143 (List.mem_append_right _ (List.mem_append_right _ (List.mem_append_right _ ((show _ ∈ my_143_3 from List.mem_of_getElem? (i := 42) rfl)))))
theorem cd_143_417 : mt_cd 143 417 = some (.iload_n 3) := mt_cd_of (q := (417, .iload_n 3, 1)) mq_143 ci_143 (List.mem_append_right _ (List.mem_append_right _ (List.mem_append_right _ ((show _ ∈ my_143_3 from List.mem_of_getElem? (i := 43) rfl)))))
theorem cd_143_418 : mt_cd 143 418 = some (.bipush 62) := mt_cd_of (q := (418, .bipush 62, 2)) mq_143 ci_143 (List.mem_append_right _ (List.mem_append_right _ (List.mem_append_right _ ((show _ ∈ my_143_3 from List.mem_of_getElem? (i := 44) rfl)))))
theorem cd_143_420 : mt_cd 143 420 = some (.if_icmp .eq 17) := mt_cd_of (q := (420, .if_icmp .eq 17, 3)) mq_143 ci_143 (List.mem_append_right _ (List.mem_append_right _ (List.mem_append_right _ ((show _ ∈ my_143_3 from List.mem_of_getElem? (i := 45) rfl)))))
theorem cd_143_423 : mt_cd 143 423 = some (.iload_n 3) := mt_cd_of (q := (423, .iload_n 3, 1)) mq_143 ci_143 (List.mem_append_right _ (List.mem_append_right _ (List.mem_append_right _ ((show _ ∈ my_143_3 from List.mem_of_getElem? (i := 46) rfl)))))
theorem cd_143_424 : mt_cd 143 424 = some (.bipush 61) := mt_cd_of (q := (424, .bipush 61, 2)) mq_143 ci_143 (List.mem_append_right _ (List.mem_append_right _ (List.mem_append_right _ ((show _ ∈ my_143_3 from List.mem_of_getElem? (i := 47) rfl)))))
theorem cd_143_426 : mt_cd 143 426 = some (.if_icmp .eq 11) := mt_cd_of (q := (426, .if_icmp .eq 11, 3)) mq_143 ci_143 (List.mem_append_right _ (List.mem_append_right _ (List.mem_append_right _ ((show _ ∈ my_143_3 from List.mem_of_getElem? (i := 48) rfl)))))
theorem cd_143_429 : mt_cd 143 429 = some (.aload_n 0) := mt_cd_of (q := (429, .aload_n 0, 1)) mq_143 ci_143 (List.mem_append_right _ (List.mem_append_right _ (List.mem_append_right _ ((show _ ∈ my_143_3 from List.mem_of_getElem? (i := 49) rfl)))))
theorem cd_143_430 : mt_cd 143 430 = some (.iload_n 1) := mt_cd_of (q := (430, .iload_n 1, 1)) mq_143 ci_143 (List.mem_append_right _ (List.mem_append_right _ (List.mem_append_right _ ((show _ ∈ my_143_3 from List.mem_of_getElem? (i := 50) rfl)))))
theorem cd_143_431 : mt_cd 143 431 = some (.invokevirtual 272) := mt_cd_of (q := (431, .invokevirtual 272, 3)) mq_143 ci_143 (List.mem_append_right _ (List.mem_append_right _ (List.mem_append_right _ ((show _ ∈ my_143_3 from List.mem_of_getElem? (i := 51) rfl)))))
theorem cd_143_434 : mt_cd 143 434 = some (.ifCond .eq 7) := mt_cd_of (q := (434, .ifCond .eq 7, 3)) mq_143 ci_143 (List.mem_append_right _ (List.mem_append_right _ (List.mem_append_right _ ((show _ ∈ my_143_3 from List.mem_of_getElem? (i := 52) rfl)))))
theorem cd_143_437 : mt_cd 143 437 = some (.iconst 1) := mt_cd_of (q := (437, .iconst 1, 1)) mq_143 ci_143 (List.mem_append_right _ (List.mem_append_right _ (List.mem_append_right _ ((show _ ∈ my_143_3 from List.mem_of_getElem? (i := 53) rfl)))))
theorem cd_143_438 : mt_cd 143 438 = some (.goto 4) := mt_cd_of (q := (438, .goto 4, 3)) mq_143 ci_143 (List.mem_append_right _ (List.mem_append_right _ (List.mem_append_right _ ((show _ ∈ my_143_3 from List.mem_of_getElem? (i := 54) rfl)))))
theorem cd_143_441 : mt_cd 143 441 = some (.iconst 0) := mt_cd_of (q := (441, .iconst 0, 1)) mq_143 ci_143 (List.mem_append_right _ (List.mem_append_right _ (List.mem_append_right _ ((show _ ∈ my_143_3 from List.mem_of_getElem? (i := 55) rfl)))))
theorem cd_143_442 : mt_cd 143 442 = some (.ireturn) := mt_cd_of (q := (442, .ireturn, 1)) mq_143 ci_143 (List.mem_append_right _ (List.mem_append_right _ (List.mem_append_right _ ((show _ ∈ my_143_3 from List.mem_of_getElem? (i := 56) rfl)))))
theorem b_143_0 {d : Nat} {Q : (Option Value ⊕ Nat) → mi_H → Prop} (n sl : Nat) (f : Nat → mi_C) {l1 : Nat} {o2 : Option Value} {o3 : Option Value} {o4 : Option Value} {fs5 : List Value} {x8 : Int32} (h6 : f l1 = .inr (12, fs5)) (h7 : l1 < n) (h9 : fs5[10]? = some (.int x8)) (h10 : mi_W d 143 5 [some (.ref l1), some (.int x8), o3, o4] [] (n, sl, f) Q) : mi_W d 143 0 [some (.ref l1), o2, o3, o4] [] (n, sl, f) Q := by
  refine w_aload_n cd_143_0 rfl ?_
  refine w_getfield cd_143_1 (show mt_f 12 297 = some (12, 10) by decide +kernel) h6 h7 h9 ?_
  refine w_istore_n (ls' := [some (.ref l1), some (.int x8), o3, o4]) cd_143_4 (Nat.le_of_ble_eq_true rfl) rfl ?_
  exact h10
theorem b_143_5 {d : Nat} {Q : (Option Value ⊕ Nat) → mi_H → Prop} (n sl : Nat) (f : Nat → mi_C) {l1 : Nat} {l2 : Int32} {o3 : Option Value} {o4 : Option Value} {fs5 : List Value} {x8 : Int32} (h6 : f l1 = .inr (12, fs5)) (h7 : l1 < n) (h9 : fs5[2]? = some (.int x8)) (h10 : x8 ≤ l2 → mi_W d 143 41 [some (.ref l1), some (.int l2), o3, o4] [] (n, sl, f) Q) (h11 : ¬ (x8 ≤ l2) → mi_W d 143 13 [some (.ref l1), some (.int l2), o3, o4] [] (n, sl, f) Q) : mi_W d 143 5 [some (.ref l1), some (.int l2), o3, o4] [] (n, sl, f) Q := by
  refine w_iload_n cd_143_5 rfl ?_
  refine w_aload_n cd_143_6 rfl ?_
  refine w_getfield cd_143_7 (show mt_f 12 261 = some (12, 2) by decide +kernel) h6 h7 h9 ?_
  exact w_if_icmpge cd_143_10 (by decide) h10 h11
theorem b_143_13 {d : Nat} {Q : (Option Value ⊕ Nat) → mi_H → Prop} (n sl : Nat) (f : Nat → mi_C) {l1 : Nat} {l2 : Int32} {o3 : Option Value} {o4 : Option Value} {fs5 : List Value} {x8 : Nat} (m10 i10 : Nat) (g10 : Nat → Int32) (h6 : f l1 = .inr (12, fs5)) (h7 : l1 < n) (h9 : fs5[6]? = some (.ref x8)) (h11 : f x8 = .inl (0, m10, .inl g10)) (h12 : x8 < n ∨ x8 = mi_SC) (h13 : mi_ix l2 m10 i10) (h14 : (g10 i10) = 10 → mi_W d 143 35 [some (.ref l1), some (.int l2), o3, o4] [] (n, sl, f) Q) (h15 : ¬ ((g10 i10) = 10) → mi_W d 143 24 [some (.ref l1), some (.int l2), o3, o4] [] (n, sl, f) Q) : mi_W d 143 13 [some (.ref l1), some (.int l2), o3, o4] [] (n, sl, f) Q := by
  refine w_aload_n cd_143_13 rfl ?_
  refine w_getfield cd_143_14 (show mt_f 12 20 = some (12, 6) by decide +kernel) h6 h7 h9 ?_
  refine w_iload_n cd_143_17 rfl ?_
  refine w_iaload cd_143_18 h11 h12 h13 ?_
  refine w_bipush (v := 10) cd_143_19 (by decide) ?_
  exact w_if_icmpeq cd_143_21 (by decide) h14 h15
theorem b_143_24 {d : Nat} {Q : (Option Value ⊕ Nat) → mi_H → Prop} (n sl : Nat) (f : Nat → mi_C) {l1 : Nat} {l2 : Int32} {o3 : Option Value} {o4 : Option Value} {fs5 : List Value} {x8 : Nat} (m10 i10 : Nat) (g10 : Nat → Int32) (h6 : f l1 = .inr (12, fs5)) (h7 : l1 < n) (h9 : fs5[6]? = some (.ref x8)) (h11 : f x8 = .inl (0, m10, .inl g10)) (h12 : x8 < n ∨ x8 = mi_SC) (h13 : mi_ix l2 m10 i10) (h14 : ¬ (g10 i10) = 32 → mi_W d 143 41 [some (.ref l1), some (.int l2), o3, o4] [] (n, sl, f) Q) (h15 : ¬ (¬ (g10 i10) = 32) → mi_W d 143 35 [some (.ref l1), some (.int l2), o3, o4] [] (n, sl, f) Q) : mi_W d 143 24 [some (.ref l1), some (.int l2), o3, o4] [] (n, sl, f) Q := by
  refine w_aload_n cd_143_24 rfl ?_
  refine w_getfield cd_143_25 (show mt_f 12 20 = some (12, 6) by decide +kernel) h6 h7 h9 ?_
  refine w_iload_n cd_143_28 rfl ?_
  refine w_iaload cd_143_29 h11 h12 h13 ?_
  refine w_bipush (v := 32) cd_143_30 (by decide) ?_
  exact w_if_icmpne cd_143_32 (by decide) h14 h15
theorem b_143_35 {d : Nat} {Q : (Option Value ⊕ Nat) → mi_H → Prop} (n sl : Nat) (f : Nat → mi_C) {l1 : Nat} {l2 : Int32} {o3 : Option Value} {o4 : Option Value} (h5 : mi_W d 143 5 [some (.ref l1), some (.int (l2 + 1)), o3, o4] [] (n, sl, f) Q) : mi_W d 143 35 [some (.ref l1), some (.int l2), o3, o4] [] (n, sl, f) Q := by
  refine w_iinc (v := 1) (ls' := [some (.ref l1), some (.int (l2 + 1)), o3, o4]) cd_143_35 rfl (by decide) rfl ?_
  exact w_goto cd_143_38 (by decide) h5
theorem b_143_41 {d : Nat} {Q : (Option Value ⊕ Nat) → mi_H → Prop} (n sl : Nat) (f : Nat → mi_C) {l1 : Nat} {l2 : Int32} {o3 : Option Value} {o4 : Option Value} {fs5 : List Value} {fs9 : List Value} {fs13 : List Value} {x16 : Int32} (h6 : f l1 = .inr (12, fs5)) (h7 : l1 < n) (h8 : 9 < fs5.length) (h10 : (va_up f l1 (.inr (12, fs5.set 9 (.int l2)))) l1 = .inr (12, fs9)) (h11 : l1 < n) (h12 : 10 < fs9.length) (h14 : (va_up (va_up f l1 (.inr (12, fs5.set 9 (.int l2)))) l1 (.inr (12, fs9.set 10 (.int l2)))) l1 = .inr (12, fs13)) (h15 : l1 < n) (h17 : fs13[2]? = some (.int x16)) (h18 : ¬ l2 = x16 → mi_W d 143 66 [some (.ref l1), some (.int l2), o3, o4] [] (n, sl, (va_up (va_up f l1 (.inr (12, fs5.set 9 (.int l2)))) l1 (.inr (12, fs9.set 10 (.int l2))))) Q) (h19 : ¬ (¬ l2 = x16) → mi_W d 143 59 [some (.ref l1), some (.int l2), o3, o4] [] (n, sl, (va_up (va_up f l1 (.inr (12, fs5.set 9 (.int l2)))) l1 (.inr (12, fs9.set 10 (.int l2))))) Q) : mi_W d 143 41 [some (.ref l1), some (.int l2), o3, o4] [] (n, sl, f) Q := by
  refine w_aload_n cd_143_41 rfl ?_
  refine w_iload_n cd_143_42 rfl ?_
  refine w_putfield (w := .int l2) cd_143_43 (show mt_f 12 299 = some (12, 9) by decide +kernel) h6 h7 ⟨h8, rfl, Or.inl (by decide)⟩ ?_
  refine w_aload_n cd_143_46 rfl ?_
  refine w_iload_n cd_143_47 rfl ?_
  refine w_putfield (w := .int l2) cd_143_48 (show mt_f 12 297 = some (12, 10) by decide +kernel) h10 h11 ⟨h12, rfl, Or.inl (by decide)⟩ ?_
  refine w_iload_n cd_143_51 rfl ?_
  refine w_aload_n cd_143_52 rfl ?_
  refine w_getfield cd_143_53 (show mt_f 12 261 = some (12, 2) by decide +kernel) h14 h15 h17 ?_
  exact w_if_icmpne cd_143_56 (by decide) h18 h19
theorem b_143_59 {d : Nat} {Q : (Option Value ⊕ Nat) → mi_H → Prop} (n sl : Nat) (f : Nat → mi_C) {l1 : Nat} {l2 : Int32} {o3 : Option Value} {o4 : Option Value} {fs5 : List Value} (h6 : f l1 = .inr (12, fs5)) (h7 : l1 < n) (h8 : 8 < fs5.length) (h9 : Q (.inl (some (.int 1))) (n, sl, (va_up f l1 (.inr (12, fs5.set 8 (.int 0)))))) : mi_W d 143 59 [some (.ref l1), some (.int l2), o3, o4] [] (n, sl, f) Q := by
  refine w_aload_n cd_143_59 rfl ?_
  refine w_iconst (v := 0) cd_143_60 (by decide) ?_
  refine w_putfield (w := .int 0) cd_143_61 (show mt_f 12 310 = some (12, 8) by decide +kernel) h6 h7 ⟨h8, rfl, Or.inl (by decide)⟩ ?_
  refine w_iconst (v := 1) cd_143_64 (by decide) ?_
  exact w_ireturn_z cd_143_65 (by decide +kernel) (by decide) h9
theorem b_143_66 {d : Nat} {Q : (Option Value ⊕ Nat) → mi_H → Prop} (n sl : Nat) (f : Nat → mi_C) {l1 : Nat} {l2 : Int32} {o3 : Option Value} {o4 : Option Value} {fs5 : List Value} (h6 : f l1 = .inr (12, fs5)) (h7 : l1 < n) (h8 : mi_W d 144 0 (mi_en 2 [.ref l1, .int l2]) [] (n, sl, f) (mi_Kc d 143 68 [some (.ref l1), some (.int l2), o3, o4] [] Q)) : mi_W (d + 1) 143 66 [some (.ref l1), some (.int l2), o3, o4] [] (n, sl, f) Q := by
  refine w_aload_n cd_143_66 rfl ?_
  refine w_iload_n cd_143_67 rfl ?_
  exact w_invokevirtual cd_143_68 (show mt_m 12 313 = some (144, 0) by decide +kernel) (rest := []) rfl (as := [.ref l1, .int l2]) rfl h6 (Or.inl h7) ⟨Nat.le_of_ble_eq_true rfl, Nat.le_of_ble_eq_true rfl, Nat.le_of_ble_eq_true rfl⟩ h8
theorem b_143_71 {d : Nat} {Q : (Option Value ⊕ Nat) → mi_H → Prop} (n sl : Nat) (f : Nat → mi_C) {l1 : Nat} {l2 : Int32} {o3 : Option Value} {o4 : Option Value} {s5 : Int32} (h6 : mi_W d 145 0 (mi_en 1 [.int s5]) [] (n, sl, f) (mi_Kc d 143 71 [some (.ref l1), some (.int l2), o3, o4] [] Q)) : mi_W (d + 1) 143 71 [some (.ref l1), some (.int l2), o3, o4] [.int s5] (n, sl, f) Q := by
  exact w_invokestatic cd_143_71 (show mt_m 12 317 = some (145, 4) by decide +kernel) (by decide) (rest := []) rfl (as := [.int s5]) rfl ⟨Nat.le_of_ble_eq_true rfl, Nat.le_of_ble_eq_true rfl, Nat.le_of_ble_eq_true rfl⟩ h6
theorem b_143_74 {d : Nat} {Q : (Option Value ⊕ Nat) → mi_H → Prop} (n sl : Nat) (f : Nat → mi_C) {l1 : Nat} {l2 : Int32} {o3 : Option Value} {o4 : Option Value} {s5 : Int32} (h6 : s5 = (0 : Int32) → mi_W d 143 174 [some (.ref l1), some (.int l2), o3, o4] [] (n, sl, f) Q) (h7 : ¬ (s5 = (0 : Int32)) → mi_W d 143 77 [some (.ref l1), some (.int l2), o3, o4] [] (n, sl, f) Q) : mi_W d 143 74 [some (.ref l1), some (.int l2), o3, o4] [.int s5] (n, sl, f) Q := by
  exact w_ifeq cd_143_74 (by decide) h6 h7
theorem b_143_77 {d : Nat} {Q : (Option Value ⊕ Nat) → mi_H → Prop} (n sl : Nat) (f : Nat → mi_C) {l1 : Nat} {l2 : Int32} {o3 : Option Value} {o4 : Option Value} {fs5 : List Value} {x8 : Int32} {fs10 : List Value} {x13 : Int32} (h6 : f l1 = .inr (12, fs5)) (h7 : l1 < n) (h9 : fs5[10]? = some (.int x8)) (h11 : f l1 = .inr (12, fs10)) (h12 : l1 < n) (h14 : fs10[9]? = some (.int x13)) (h15 : 16 ≤ (x8 - x13) → mi_W d 143 132 [some (.ref l1), some (.int l2), o3, o4] [] (n, sl, f) Q) (h16 : ¬ (16 ≤ (x8 - x13)) → mi_W d 143 91 [some (.ref l1), some (.int l2), o3, o4] [] (n, sl, f) Q) : mi_W d 143 77 [some (.ref l1), some (.int l2), o3, o4] [] (n, sl, f) Q := by
  refine w_aload_n cd_143_77 rfl ?_
  refine w_getfield cd_143_78 (show mt_f 12 297 = some (12, 10) by decide +kernel) h6 h7 h9 ?_
  refine w_aload_n cd_143_81 rfl ?_
  refine w_getfield cd_143_82 (show mt_f 12 299 = some (12, 9) by decide +kernel) h11 h12 h14 ?_
  refine w_isub cd_143_85 ?_
  refine w_bipush (v := 16) cd_143_86 (by decide) ?_
  exact w_if_icmpge cd_143_88 (by decide) h15 h16
theorem b_143_91 {d : Nat} {Q : (Option Value ⊕ Nat) → mi_H → Prop} (n sl : Nat) (f : Nat → mi_C) {l1 : Nat} {l2 : Int32} {o3 : Option Value} {o4 : Option Value} {fs5 : List Value} {x8 : Int32} {fs10 : List Value} (h6 : f l1 = .inr (12, fs5)) (h7 : l1 < n) (h9 : fs5[10]? = some (.int x8)) (h11 : f l1 = .inr (12, fs10)) (h12 : l1 < n) (h13 : mi_W d 144 0 (mi_en 2 [.ref l1, .int x8]) [] (n, sl, f) (mi_Kc d 143 96 [some (.ref l1), some (.int l2), o3, o4] [] Q)) : mi_W (d + 1) 143 91 [some (.ref l1), some (.int l2), o3, o4] [] (n, sl, f) Q := by
  refine w_aload_n cd_143_91 rfl ?_
  refine w_aload_n cd_143_92 rfl ?_
  refine w_getfield cd_143_93 (show mt_f 12 297 = some (12, 10) by decide +kernel) h6 h7 h9 ?_
  exact w_invokevirtual cd_143_96 (show mt_m 12 313 = some (144, 0) by decide +kernel) (rest := []) rfl (as := [.ref l1, .int x8]) rfl h11 (Or.inl h12) ⟨Nat.le_of_ble_eq_true rfl, Nat.le_of_ble_eq_true rfl, Nat.le_of_ble_eq_true rfl⟩ h13
theorem b_143_99 {d : Nat} {Q : (Option Value ⊕ Nat) → mi_H → Prop} (n sl : Nat) (f : Nat → mi_C) {l1 : Nat} {l2 : Int32} {o3 : Option Value} {o4 : Option Value} {s5 : Int32} (h6 : mi_W d 145 0 (mi_en 1 [.int s5]) [] (n, sl, f) (mi_Kc d 143 99 [some (.ref l1), some (.int l2), o3, o4] [] Q)) : mi_W (d + 1) 143 99 [some (.ref l1), some (.int l2), o3, o4] [.int s5] (n, sl, f) Q := by
  exact w_invokestatic cd_143_99 (show mt_m 12 317 = some (145, 4) by decide +kernel) (by decide) (rest := []) rfl (as := [.int s5]) rfl ⟨Nat.le_of_ble_eq_true rfl, Nat.le_of_ble_eq_true rfl, Nat.le_of_ble_eq_true rfl⟩ h6
theorem b_143_102 {d : Nat} {Q : (Option Value ⊕ Nat) → mi_H → Prop} (n sl : Nat) (f : Nat → mi_C) {l1 : Nat} {l2 : Int32} {o3 : Option Value} {o4 : Option Value} {s5 : Int32} (h6 : ¬ s5 = (0 : Int32) → mi_W d 143 119 [some (.ref l1), some (.int l2), o3, o4] [] (n, sl, f) Q) (h7 : ¬ (¬ s5 = (0 : Int32)) → mi_W d 143 105 [some (.ref l1), some (.int l2), o3, o4] [] (n, sl, f) Q) : mi_W d 143 102 [some (.ref l1), some (.int l2), o3, o4] [.int s5] (n, sl, f) Q := by
  exact w_ifne cd_143_102 (by decide) h6 h7
theorem b_143_105 {d : Nat} {Q : (Option Value ⊕ Nat) → mi_H → Prop} (n sl : Nat) (f : Nat → mi_C) {l1 : Nat} {l2 : Int32} {o3 : Option Value} {o4 : Option Value} {fs5 : List Value} {x8 : Int32} {fs10 : List Value} (h6 : f l1 = .inr (12, fs5)) (h7 : l1 < n) (h9 : fs5[10]? = some (.int x8)) (h11 : f l1 = .inr (12, fs10)) (h12 : l1 < n) (h13 : mi_W d 144 0 (mi_en 2 [.ref l1, .int x8]) [] (n, sl, f) (mi_Kc d 143 110 [some (.ref l1), some (.int l2), o3, o4] [] Q)) : mi_W (d + 1) 143 105 [some (.ref l1), some (.int l2), o3, o4] [] (n, sl, f) Q := by
  refine w_aload_n cd_143_105 rfl ?_
  refine w_aload_n cd_143_106 rfl ?_
  refine w_getfield cd_143_107 (show mt_f 12 297 = some (12, 10) by decide +kernel) h6 h7 h9 ?_
  exact w_invokevirtual cd_143_110 (show mt_m 12 313 = some (144, 0) by decide +kernel) (rest := []) rfl (as := [.ref l1, .int x8]) rfl h11 (Or.inl h12) ⟨Nat.le_of_ble_eq_true rfl, Nat.le_of_ble_eq_true rfl, Nat.le_of_ble_eq_true rfl⟩ h13
theorem b_143_113 {d : Nat} {Q : (Option Value ⊕ Nat) → mi_H → Prop} (n sl : Nat) (f : Nat → mi_C) {l1 : Nat} {l2 : Int32} {o3 : Option Value} {o4 : Option Value} {s5 : Int32} (h6 : mi_W d 146 0 (mi_en 1 [.int s5]) [] (n, sl, f) (mi_Kc d 143 113 [some (.ref l1), some (.int l2), o3, o4] [] Q)) : mi_W (d + 1) 143 113 [some (.ref l1), some (.int l2), o3, o4] [.int s5] (n, sl, f) Q := by
  exact w_invokestatic cd_143_113 (show mt_m 12 320 = some (146, 4) by decide +kernel) (by decide) (rest := []) rfl (as := [.int s5]) rfl ⟨Nat.le_of_ble_eq_true rfl, Nat.le_of_ble_eq_true rfl, Nat.le_of_ble_eq_true rfl⟩ h6
theorem b_143_116 {d : Nat} {Q : (Option Value ⊕ Nat) → mi_H → Prop} (n sl : Nat) (f : Nat → mi_C) {l1 : Nat} {l2 : Int32} {o3 : Option Value} {o4 : Option Value} {s5 : Int32} (h6 : s5 = (0 : Int32) → mi_W d 143 132 [some (.ref l1), some (.int l2), o3, o4] [] (n, sl, f) Q) (h7 : ¬ (s5 = (0 : Int32)) → mi_W d 143 119 [some (.ref l1), some (.int l2), o3, o4] [] (n, sl, f) Q) : mi_W d 143 116 [some (.ref l1), some (.int l2), o3, o4] [.int s5] (n, sl, f) Q := by
  exact w_ifeq cd_143_116 (by decide) h6 h7
theorem b_143_119 {d : Nat} {Q : (Option Value ⊕ Nat) → mi_H → Prop} (n sl : Nat) (f : Nat → mi_C) {l1 : Nat} {l2 : Int32} {o3 : Option Value} {o4 : Option Value} {fs5 : List Value} {x8 : Int32} {fs10 : List Value} (h6 : f l1 = .inr (12, fs5)) (h7 : l1 < n) (h9 : fs5[10]? = some (.int x8)) (h11 : f l1 = .inr (12, fs10)) (h12 : l1 < n) (h13 : 10 < fs10.length) (h14 : mi_W d 143 77 [some (.ref l1), some (.int l2), o3, o4] [] (n, sl, (va_up f l1 (.inr (12, fs10.set 10 (.int (x8 + 1)))))) Q) : mi_W d 143 119 [some (.ref l1), some (.int l2), o3, o4] [] (n, sl, f) Q := by
  refine w_aload_n cd_143_119 rfl ?_
  refine w_dup_r cd_143_120 ?_
  refine w_getfield cd_143_121 (show mt_f 12 297 = some (12, 10) by decide +kernel) h6 h7 h9 ?_
  refine w_iconst (v := 1) cd_143_124 (by decide) ?_
  refine w_iadd cd_143_125 ?_
  refine w_putfield (w := .int (x8 + 1)) cd_143_126 (show mt_f 12 297 = some (12, 10) by decide +kernel) h11 h12 ⟨h13, rfl, Or.inl (by decide)⟩ ?_
  exact w_goto cd_143_129 (by decide) h14
theorem b_143_132 {d : Nat} {Q : (Option Value ⊕ Nat) → mi_H → Prop} (n sl : Nat) (f : Nat → mi_C) {l1 : Nat} {l2 : Int32} {o3 : Option Value} {o4 : Option Value} {fs5 : List Value} (h6 : f l1 = .inr (12, fs5)) (h7 : l1 < n) (h8 : 8 < fs5.length) (h9 : mi_W d 143 139 [some (.ref l1), some (.int l2), some (.int 0), o4] [] (n, sl, (va_up f l1 (.inr (12, fs5.set 8 (.int 1))))) Q) : mi_W d 143 132 [some (.ref l1), some (.int l2), o3, o4] [] (n, sl, f) Q := by
  refine w_aload_n cd_143_132 rfl ?_
  refine w_iconst (v := 1) cd_143_133 (by decide) ?_
  refine w_putfield (w := .int 1) cd_143_134 (show mt_f 12 310 = some (12, 8) by decide +kernel) h6 h7 ⟨h8, rfl, Or.inl (by decide)⟩ ?_
  refine w_iconst (v := 0) cd_143_137 (by decide) ?_
  refine w_istore_n (ls' := [some (.ref l1), some (.int l2), some (.int 0), o4]) cd_143_138 (Nat.le_of_ble_eq_true rfl) rfl ?_
  exact h9
theorem b_143_139 {d : Nat} {Q : (Option Value ⊕ Nat) → mi_H → Prop} (n sl : Nat) (f : Nat → mi_C) {l1 : Nat} {l2 : Int32} {l3 : Int32} {o4 : Option Value} {fs5 : List Value} {x8 : Nat} (m10 ka10 : Nat) (g10 : (Nat → Int32) ⊕ (Nat → Int64) ⊕ (Nat → UInt32) ⊕ (Nat → UInt64) ⊕ (Nat → Option Nat)) (h6 : f l1 = .inr (12, fs5)) (h7 : l1 < n) (h9 : fs5[7]? = some (.ref x8)) (h11 : f x8 = .inl (ka10, m10, g10)) (h12 : x8 < n ∧ ka10 < mt_na) (h13 : (Int32.ofNat m10) ≤ l3 → mi_W d 143 172 [some (.ref l1), some (.int l2), some (.int l3), o4] [] (n, sl, f) Q) (h14 : ¬ ((Int32.ofNat m10) ≤ l3) → mi_W d 143 148 [some (.ref l1), some (.int l2), some (.int l3), o4] [] (n, sl, f) Q) : mi_W d 143 139 [some (.ref l1), some (.int l2), some (.int l3), o4] [] (n, sl, f) Q := by
  refine w_iload_n cd_143_139 rfl ?_
  refine w_aload_n cd_143_140 rfl ?_
  refine w_getfield cd_143_141 (show mt_f 12 73 = some (12, 7) by decide +kernel) h6 h7 h9 ?_
  refine w_arraylength cd_143_144 h11 h12 ?_
  exact w_if_icmpge cd_143_145 (by decide) h13 h14
theorem b_143_148 {d : Nat} {Q : (Option Value ⊕ Nat) → mi_H → Prop} (n sl : Nat) (f : Nat → mi_C) {l1 : Nat} {l2 : Int32} {l3 : Int32} {o4 : Option Value} {fs5 : List Value} {x8 : Nat} (m10 i10 ka10 : Nat) (g10 : Nat → Option Nat) {x15 : Nat} {fs17 : List Value} (h6 : f l1 = .inr (12, fs5)) (h7 : l1 < n) (h9 : fs5[7]? = some (.ref x8)) (h11 : f x8 = .inl (ka10, m10, .inr (.inr (.inr (.inr g10))))) (h12 : x8 < n) (h13 : 4 ≤ ka10 ∧ ka10 < mt_na) (h14 : mi_ix l3 m10 i10) (h16 : g10 i10 = some x15) (h18 : f l1 = .inr (12, fs17)) (h19 : l1 < n) (h20 : mi_W d 147 0 (mi_en 3 [.ref l1, .ref x15]) [] (n, sl, f) (mi_Kc d 143 155 [some (.ref l1), some (.int l2), some (.int l3), o4] [] Q)) : mi_W (d + 1) 143 148 [some (.ref l1), some (.int l2), some (.int l3), o4] [] (n, sl, f) Q := by
  refine w_aload_n cd_143_148 rfl ?_
  refine w_aload_n cd_143_149 rfl ?_
  refine w_getfield cd_143_150 (show mt_f 12 73 = some (12, 7) by decide +kernel) h6 h7 h9 ?_
  refine w_iload_n cd_143_153 rfl ?_
  refine w_aaload (w := .ref x15) cd_143_154 h11 h12 h13 h14 (by rw [h16]; rfl) ?_
  exact w_invokevirtual cd_143_155 (show mt_m 12 323 = some (147, 0) by decide +kernel) (rest := []) rfl (as := [.ref l1, .ref x15]) rfl h18 (Or.inl h19) ⟨Nat.le_of_ble_eq_true rfl, Nat.le_of_ble_eq_true rfl, Nat.le_of_ble_eq_true rfl⟩ h20
theorem b_143_158 {d : Nat} {Q : (Option Value ⊕ Nat) → mi_H → Prop} (n sl : Nat) (f : Nat → mi_C) {l1 : Nat} {l2 : Int32} {l3 : Int32} {o4 : Option Value} {s5 : Int32} (h6 : s5 = (0 : Int32) → mi_W d 143 166 [some (.ref l1), some (.int l2), some (.int l3), o4] [] (n, sl, f) Q) (h7 : ¬ (s5 = (0 : Int32)) → mi_W d 143 161 [some (.ref l1), some (.int l2), some (.int l3), o4] [] (n, sl, f) Q) : mi_W d 143 158 [some (.ref l1), some (.int l2), some (.int l3), o4] [.int s5] (n, sl, f) Q := by
  exact w_ifeq cd_143_158 (by decide) h6 h7
theorem b_143_161 {d : Nat} {Q : (Option Value ⊕ Nat) → mi_H → Prop} (n sl : Nat) (f : Nat → mi_C) {l1 : Nat} {l2 : Int32} {l3 : Int32} {o4 : Option Value} {fs5 : List Value} (h6 : f l1 = .inr (12, fs5)) (h7 : l1 < n) (h8 : 8 < fs5.length) (h9 : mi_W d 143 166 [some (.ref l1), some (.int l2), some (.int l3), o4] [] (n, sl, (va_up f l1 (.inr (12, fs5.set 8 (.int 4))))) Q) : mi_W d 143 161 [some (.ref l1), some (.int l2), some (.int l3), o4] [] (n, sl, f) Q := by
  refine w_aload_n cd_143_161 rfl ?_
  refine w_iconst (v := 4) cd_143_162 (by decide) ?_
  refine w_putfield (w := .int 4) cd_143_163 (show mt_f 12 310 = some (12, 8) by decide +kernel) h6 h7 ⟨h8, rfl, Or.inl (by decide)⟩ ?_
  exact h9
theorem b_143_166 {d : Nat} {Q : (Option Value ⊕ Nat) → mi_H → Prop} (n sl : Nat) (f : Nat → mi_C) {l1 : Nat} {l2 : Int32} {l3 : Int32} {o4 : Option Value} (h5 : mi_W d 143 139 [some (.ref l1), some (.int l2), some (.int (l3 + 1)), o4] [] (n, sl, f) Q) : mi_W d 143 166 [some (.ref l1), some (.int l2), some (.int l3), o4] [] (n, sl, f) Q := by
  refine w_iinc (v := 1) (ls' := [some (.ref l1), some (.int l2), some (.int (l3 + 1)), o4]) cd_143_166 rfl (by decide) rfl ?_
  exact w_goto cd_143_169 (by decide) h5
theorem b_143_172 {d : Nat} {Q : (Option Value ⊕ Nat) → mi_H → Prop} (n sl : Nat) (f : Nat → mi_C) {l1 : Nat} {l2 : Int32} {l3 : Int32} {o4 : Option Value} (h5 : Q (.inl (some (.int 1))) (n, sl, f)) : mi_W d 143 172 [some (.ref l1), some (.int l2), some (.int l3), o4] [] (n, sl, f) Q := by
  refine w_iconst (v := 1) cd_143_172 (by decide) ?_
  exact w_ireturn_z cd_143_173 (by decide +kernel) (by decide) h5
theorem b_143_174 {d : Nat} {Q : (Option Value ⊕ Nat) → mi_H → Prop} (n sl : Nat) (f : Nat → mi_C) {l1 : Nat} {l2 : Int32} {o3 : Option Value} {o4 : Option Value} {fs5 : List Value} (h6 : f l1 = .inr (12, fs5)) (h7 : l1 < n) (h8 : mi_W d 144 0 (mi_en 2 [.ref l1, .int l2]) [] (n, sl, f) (mi_Kc d 143 176 [some (.ref l1), some (.int l2), o3, o4] [] Q)) : mi_W (d + 1) 143 174 [some (.ref l1), some (.int l2), o3, o4] [] (n, sl, f) Q := by
  refine w_aload_n cd_143_174 rfl ?_
  refine w_iload_n cd_143_175 rfl ?_
  exact w_invokevirtual cd_143_176 (show mt_m 12 313 = some (144, 0) by decide +kernel) (rest := []) rfl (as := [.ref l1, .int l2]) rfl h6 (Or.inl h7) ⟨Nat.le_of_ble_eq_true rfl, Nat.le_of_ble_eq_true rfl, Nat.le_of_ble_eq_true rfl⟩ h8
theorem b_143_179 {d : Nat} {Q : (Option Value ⊕ Nat) → mi_H → Prop} (n sl : Nat) (f : Nat → mi_C) {l1 : Nat} {l2 : Int32} {o3 : Option Value} {o4 : Option Value} {s5 : Int32} (h6 : ¬ s5 = 45 → mi_W d 143 188 [some (.ref l1), some (.int l2), o3, o4] [] (n, sl, f) Q) (h7 : ¬ (¬ s5 = 45) → mi_W d 143 184 [some (.ref l1), some (.int l2), o3, o4] [] (n, sl, f) Q) : mi_W d 143 179 [some (.ref l1), some (.int l2), o3, o4] [.int s5] (n, sl, f) Q := by
  refine w_bipush (v := 45) cd_143_179 (by decide) ?_
  exact w_if_icmpne cd_143_181 (by decide) h6 h7
theorem b_143_184 {d : Nat} {Q : (Option Value ⊕ Nat) → mi_H → Prop} (n sl : Nat) (f : Nat → mi_C) {l1 : Nat} {l2 : Int32} {o3 : Option Value} {o4 : Option Value} (h5 : mi_W d 143 189 [some (.ref l1), some (.int l2), o3, o4] [.int 1] (n, sl, f) Q) : mi_W d 143 184 [some (.ref l1), some (.int l2), o3, o4] [] (n, sl, f) Q := by
  refine w_iconst (v := 1) cd_143_184 (by decide) ?_
  exact w_goto cd_143_185 (by decide) h5
theorem b_143_188 {d : Nat} {Q : (Option Value ⊕ Nat) → mi_H → Prop} (n sl : Nat) (f : Nat → mi_C) {l1 : Nat} {l2 : Int32} {o3 : Option Value} {o4 : Option Value} (h5 : mi_W d 143 189 [some (.ref l1), some (.int l2), o3, o4] [.int 0] (n, sl, f) Q) : mi_W d 143 188 [some (.ref l1), some (.int l2), o3, o4] [] (n, sl, f) Q := by
  refine w_iconst (v := 0) cd_143_188 (by decide) ?_
  exact h5
theorem b_143_189 {d : Nat} {Q : (Option Value ⊕ Nat) → mi_H → Prop} (n sl : Nat) (f : Nat → mi_C) {l1 : Nat} {l2 : Int32} {o3 : Option Value} {o4 : Option Value} {s5 : Int32} {fs6 : List Value} (h7 : f l1 = .inr (12, fs6)) (h8 : l1 < n) (h9 : mi_W d 144 0 (mi_en 2 [.ref l1, .int l2]) [] (n, sl, f) (mi_Kc d 143 192 [some (.ref l1), some (.int l2), some (.int s5), o4] [] Q)) : mi_W (d + 1) 143 189 [some (.ref l1), some (.int l2), o3, o4] [.int s5] (n, sl, f) Q := by
  refine w_istore_n (ls' := [some (.ref l1), some (.int l2), some (.int s5), o4]) cd_143_189 (Nat.le_of_ble_eq_true rfl) rfl ?_
  refine w_aload_n cd_143_190 rfl ?_
  refine w_iload_n cd_143_191 rfl ?_
  exact w_invokevirtual cd_143_192 (show mt_m 12 313 = some (144, 0) by decide +kernel) (rest := []) rfl (as := [.ref l1, .int l2]) rfl h7 (Or.inl h8) ⟨Nat.le_of_ble_eq_true rfl, Nat.le_of_ble_eq_true rfl, Nat.le_of_ble_eq_true rfl⟩ h9
theorem b_143_195 {d : Nat} {Q : (Option Value ⊕ Nat) → mi_H → Prop} (n sl : Nat) (f : Nat → mi_C) {l1 : Nat} {l2 : Int32} {l3 : Int32} {o4 : Option Value} {s5 : Int32} (h6 : mi_W d 146 0 (mi_en 1 [.int s5]) [] (n, sl, f) (mi_Kc d 143 195 [some (.ref l1), some (.int l2), some (.int l3), o4] [] Q)) : mi_W (d + 1) 143 195 [some (.ref l1), some (.int l2), some (.int l3), o4] [.int s5] (n, sl, f) Q := by
  exact w_invokestatic cd_143_195 (show mt_m 12 320 = some (146, 4) by decide +kernel) (by decide) (rest := []) rfl (as := [.int s5]) rfl ⟨Nat.le_of_ble_eq_true rfl, Nat.le_of_ble_eq_true rfl, Nat.le_of_ble_eq_true rfl⟩ h6
theorem b_143_198 {d : Nat} {Q : (Option Value ⊕ Nat) → mi_H → Prop} (n sl : Nat) (f : Nat → mi_C) {l1 : Nat} {l2 : Int32} {l3 : Int32} {o4 : Option Value} {s5 : Int32} (h6 : ¬ s5 = (0 : Int32) → mi_W d 143 218 [some (.ref l1), some (.int l2), some (.int l3), o4] [] (n, sl, f) Q) (h7 : ¬ (¬ s5 = (0 : Int32)) → mi_W d 143 201 [some (.ref l1), some (.int l2), some (.int l3), o4] [] (n, sl, f) Q) : mi_W d 143 198 [some (.ref l1), some (.int l2), some (.int l3), o4] [.int s5] (n, sl, f) Q := by
  exact w_ifne cd_143_198 (by decide) h6 h7
theorem b_143_201 {d : Nat} {Q : (Option Value ⊕ Nat) → mi_H → Prop} (n sl : Nat) (f : Nat → mi_C) {l1 : Nat} {l2 : Int32} {l3 : Int32} {o4 : Option Value} (h5 : l3 = (0 : Int32) → mi_W d 143 319 [some (.ref l1), some (.int l2), some (.int l3), o4] [] (n, sl, f) Q) (h6 : ¬ (l3 = (0 : Int32)) → mi_W d 143 205 [some (.ref l1), some (.int l2), some (.int l3), o4] [] (n, sl, f) Q) : mi_W d 143 201 [some (.ref l1), some (.int l2), some (.int l3), o4] [] (n, sl, f) Q := by
  refine w_iload_n cd_143_201 rfl ?_
  exact w_ifeq cd_143_202 (by decide) h5 h6
theorem b_143_205 {d : Nat} {Q : (Option Value ⊕ Nat) → mi_H → Prop} (n sl : Nat) (f : Nat → mi_C) {l1 : Nat} {l2 : Int32} {l3 : Int32} {o4 : Option Value} {fs5 : List Value} (h6 : f l1 = .inr (12, fs5)) (h7 : l1 < n) (h8 : mi_W d 144 0 (mi_en 2 [.ref l1, .int (l2 + 1)]) [] (n, sl, f) (mi_Kc d 143 209 [some (.ref l1), some (.int l2), some (.int l3), o4] [] Q)) : mi_W (d + 1) 143 205 [some (.ref l1), some (.int l2), some (.int l3), o4] [] (n, sl, f) Q := by
  refine w_aload_n cd_143_205 rfl ?_
  refine w_iload_n cd_143_206 rfl ?_
  refine w_iconst (v := 1) cd_143_207 (by decide) ?_
  refine w_iadd cd_143_208 ?_
  exact w_invokevirtual cd_143_209 (show mt_m 12 313 = some (144, 0) by decide +kernel) (rest := []) rfl (as := [.ref l1, .int (l2 + 1)]) rfl h6 (Or.inl h7) ⟨Nat.le_of_ble_eq_true rfl, Nat.le_of_ble_eq_true rfl, Nat.le_of_ble_eq_true rfl⟩ h8
theorem b_143_212 {d : Nat} {Q : (Option Value ⊕ Nat) → mi_H → Prop} (n sl : Nat) (f : Nat → mi_C) {l1 : Nat} {l2 : Int32} {l3 : Int32} {o4 : Option Value} {s5 : Int32} (h6 : mi_W d 146 0 (mi_en 1 [.int s5]) [] (n, sl, f) (mi_Kc d 143 212 [some (.ref l1), some (.int l2), some (.int l3), o4] [] Q)) : mi_W (d + 1) 143 212 [some (.ref l1), some (.int l2), some (.int l3), o4] [.int s5] (n, sl, f) Q := by
  exact w_invokestatic cd_143_212 (show mt_m 12 320 = some (146, 4) by decide +kernel) (by decide) (rest := []) rfl (as := [.int s5]) rfl ⟨Nat.le_of_ble_eq_true rfl, Nat.le_of_ble_eq_true rfl, Nat.le_of_ble_eq_true rfl⟩ h6
theorem b_143_215 {d : Nat} {Q : (Option Value ⊕ Nat) → mi_H → Prop} (n sl : Nat) (f : Nat → mi_C) {l1 : Nat} {l2 : Int32} {l3 : Int32} {o4 : Option Value} {s5 : Int32} (h6 : s5 = (0 : Int32) → mi_W d 143 319 [some (.ref l1), some (.int l2), some (.int l3), o4] [] (n, sl, f) Q) (h7 : ¬ (s5 = (0 : Int32)) → mi_W d 143 218 [some (.ref l1), some (.int l2), some (.int l3), o4] [] (n, sl, f) Q) : mi_W d 143 215 [some (.ref l1), some (.int l2), some (.int l3), o4] [.int s5] (n, sl, f) Q := by
  exact w_ifeq cd_143_215 (by decide) h6 h7
theorem b_143_218 {d : Nat} {Q : (Option Value ⊕ Nat) → mi_H → Prop} (n sl : Nat) (f : Nat → mi_C) {l1 : Nat} {l2 : Int32} {l3 : Int32} {o4 : Option Value} {fs5 : List Value} (h6 : f l1 = .inr (12, fs5)) (h7 : l1 < n) (h8 : 8 < fs5.length) (h9 : l3 = (0 : Int32) → mi_W d 143 234 [some (.ref l1), some (.int l2), some (.int l3), o4] [.ref l1] (n, sl, (va_up f l1 (.inr (12, fs5.set 8 (.int 2))))) Q) (h10 : ¬ (l3 = (0 : Int32)) → mi_W d 143 228 [some (.ref l1), some (.int l2), some (.int l3), o4] [.ref l1] (n, sl, (va_up f l1 (.inr (12, fs5.set 8 (.int 2))))) Q) : mi_W d 143 218 [some (.ref l1), some (.int l2), some (.int l3), o4] [] (n, sl, f) Q := by
  refine w_aload_n cd_143_218 rfl ?_
  refine w_iconst (v := 2) cd_143_219 (by decide) ?_
  refine w_putfield (w := .int 2) cd_143_220 (show mt_f 12 310 = some (12, 8) by decide +kernel) h6 h7 ⟨h8, rfl, Or.inl (by decide)⟩ ?_
  refine w_aload_n cd_143_223 rfl ?_
  refine w_iload_n cd_143_224 rfl ?_
  exact w_ifeq cd_143_225 (by decide) h9 h10
theorem b_143_228 {d : Nat} {Q : (Option Value ⊕ Nat) → mi_H → Prop} (n sl : Nat) (f : Nat → mi_C) {l1 : Nat} {l2 : Int32} {l3 : Int32} {o4 : Option Value} {s5 : Nat} (h6 : mi_W d 143 235 [some (.ref l1), some (.int l2), some (.int l3), o4] [.int (l2 + 1), .ref s5] (n, sl, f) Q) : mi_W d 143 228 [some (.ref l1), some (.int l2), some (.int l3), o4] [.ref s5] (n, sl, f) Q := by
  refine w_iload_n cd_143_228 rfl ?_
  refine w_iconst (v := 1) cd_143_229 (by decide) ?_
  refine w_iadd cd_143_230 ?_
  exact w_goto cd_143_231 (by decide) h6
theorem b_143_234 {d : Nat} {Q : (Option Value ⊕ Nat) → mi_H → Prop} (n sl : Nat) (f : Nat → mi_C) {l1 : Nat} {l2 : Int32} {l3 : Int32} {o4 : Option Value} {s5 : Nat} (h6 : mi_W d 143 235 [some (.ref l1), some (.int l2), some (.int l3), o4] [.int l2, .ref s5] (n, sl, f) Q) : mi_W d 143 234 [some (.ref l1), some (.int l2), some (.int l3), o4] [.ref s5] (n, sl, f) Q := by
  refine w_iload_n cd_143_234 rfl ?_
  exact h6
theorem b_143_235 {d : Nat} {Q : (Option Value ⊕ Nat) → mi_H → Prop} (n sl : Nat) (f : Nat → mi_C) {l1 : Nat} {l2 : Int32} {l3 : Int32} {o4 : Option Value} {s5 : Int32} {s6 : Nat} {fs7 : List Value} {fs11 : List Value} (h8 : f s6 = .inr (12, fs7)) (h9 : s6 < n) (h10 : 10 < fs7.length) (h12 : (va_up f s6 (.inr (12, fs7.set 10 (.int s5)))) l1 = .inr (12, fs11)) (h13 : l1 < n) (h14 : 11 < fs11.length) (h15 : mi_W d 143 245 [some (.ref l1), some (.int l2), some (.int l3), some (.int 0)] [] (n, sl, (va_up (va_up f s6 (.inr (12, fs7.set 10 (.int s5)))) l1 (.inr (12, fs11.set 11 (.long 0))))) Q) : mi_W d 143 235 [some (.ref l1), some (.int l2), some (.int l3), o4] [.int s5, .ref s6] (n, sl, f) Q := by
  refine w_putfield (w := .int s5) cd_143_235 (show mt_f 12 297 = some (12, 10) by decide +kernel) h8 h9 ⟨h10, rfl, Or.inl (by decide)⟩ ?_
  refine w_aload_n cd_143_238 rfl ?_
  refine w_lconst (lv := 0) cd_143_239 (by decide) ?_
  refine w_putfield (w := .long 0) cd_143_240 (show mt_f 12 327 = some (12, 11) by decide +kernel) h12 h13 ⟨h14, rfl, Or.inl (by decide)⟩ ?_
  refine w_iconst (v := 0) cd_143_243 (by decide) ?_
  refine w_istore_n (ls' := [some (.ref l1), some (.int l2), some (.int l3), some (.int 0)]) cd_143_244 (Nat.le_of_ble_eq_true rfl) rfl ?_
  exact h15
theorem b_143_245 {d : Nat} {Q : (Option Value ⊕ Nat) → mi_H → Prop} (n sl : Nat) (f : Nat → mi_C) {l1 : Nat} {l2 : Int32} {l3 : Int32} {l4 : Int32} {fs5 : List Value} {x8 : Int32} {fs10 : List Value} (h6 : f l1 = .inr (12, fs5)) (h7 : l1 < n) (h9 : fs5[10]? = some (.int x8)) (h11 : f l1 = .inr (12, fs10)) (h12 : l1 < n) (h13 : mi_W d 144 0 (mi_en 2 [.ref l1, .int x8]) [] (n, sl, f) (mi_Kc d 143 250 [some (.ref l1), some (.int l2), some (.int l3), some (.int l4)] [] Q)) : mi_W (d + 1) 143 245 [some (.ref l1), some (.int l2), some (.int l3), some (.int l4)] [] (n, sl, f) Q := by
  refine w_aload_n cd_143_245 rfl ?_
  refine w_aload_n cd_143_246 rfl ?_
  refine w_getfield cd_143_247 (show mt_f 12 297 = some (12, 10) by decide +kernel) h6 h7 h9 ?_
  exact w_invokevirtual cd_143_250 (show mt_m 12 313 = some (144, 0) by decide +kernel) (rest := []) rfl (as := [.ref l1, .int x8]) rfl h11 (Or.inl h12) ⟨Nat.le_of_ble_eq_true rfl, Nat.le_of_ble_eq_true rfl, Nat.le_of_ble_eq_true rfl⟩ h13
theorem b_143_253 {d : Nat} {Q : (Option Value ⊕ Nat) → mi_H → Prop} (n sl : Nat) (f : Nat → mi_C) {l1 : Nat} {l2 : Int32} {l3 : Int32} {l4 : Int32} {s5 : Int32} (h6 : mi_W d 146 0 (mi_en 1 [.int s5]) [] (n, sl, f) (mi_Kc d 143 253 [some (.ref l1), some (.int l2), some (.int l3), some (.int l4)] [] Q)) : mi_W (d + 1) 143 253 [some (.ref l1), some (.int l2), some (.int l3), some (.int l4)] [.int s5] (n, sl, f) Q := by
  exact w_invokestatic cd_143_253 (show mt_m 12 320 = some (146, 4) by decide +kernel) (by decide) (rest := []) rfl (as := [.int s5]) rfl ⟨Nat.le_of_ble_eq_true rfl, Nat.le_of_ble_eq_true rfl, Nat.le_of_ble_eq_true rfl⟩ h6
theorem b_143_256 {d : Nat} {Q : (Option Value ⊕ Nat) → mi_H → Prop} (n sl : Nat) (f : Nat → mi_C) {l1 : Nat} {l2 : Int32} {l3 : Int32} {l4 : Int32} {s5 : Int32} (h6 : s5 = (0 : Int32) → mi_W d 143 304 [some (.ref l1), some (.int l2), some (.int l3), some (.int l4)] [] (n, sl, f) Q) (h7 : ¬ (s5 = (0 : Int32)) → mi_W d 143 259 [some (.ref l1), some (.int l2), some (.int l3), some (.int l4)] [] (n, sl, f) Q) : mi_W d 143 256 [some (.ref l1), some (.int l2), some (.int l3), some (.int l4)] [.int s5] (n, sl, f) Q := by
  exact w_ifeq cd_143_256 (by decide) h6 h7
theorem b_143_259 {d : Nat} {Q : (Option Value ⊕ Nat) → mi_H → Prop} (n sl : Nat) (f : Nat → mi_C) {l1 : Nat} {l2 : Int32} {l3 : Int32} {l4 : Int32} (h5 : 17 ≤ l4 → mi_W d 143 304 [some (.ref l1), some (.int l2), some (.int l3), some (.int l4)] [] (n, sl, f) Q) (h6 : ¬ (17 ≤ l4) → mi_W d 143 265 [some (.ref l1), some (.int l2), some (.int l3), some (.int l4)] [] (n, sl, f) Q) : mi_W d 143 259 [some (.ref l1), some (.int l2), some (.int l3), some (.int l4)] [] (n, sl, f) Q := by
  refine w_iload_n cd_143_259 rfl ?_
  refine w_bipush (v := 17) cd_143_260 (by decide) ?_
  exact w_if_icmpge cd_143_262 (by decide) h5 h6
theorem b_143_265 {d : Nat} {Q : (Option Value ⊕ Nat) → mi_H → Prop} (n sl : Nat) (f : Nat → mi_C) {l1 : Nat} {l2 : Int32} {l3 : Int32} {l4 : Int32} {fs5 : List Value} {x8 : Int64} {fs10 : List Value} {x13 : Int32} {fs15 : List Value} {fs19 : List Value} (h6 : f l1 = .inr (12, fs5)) (h7 : l1 < n) (h9 : fs5[11]? = some (.long x8)) (h11 : f l1 = .inr (12, fs10)) (h12 : l1 < n) (h14 : fs10[10]? = some (.int x13)) (h16 : f l1 = .inr (12, fs15)) (h17 : l1 < n) (h18 : 10 < fs15.length) (h20 : (va_up f l1 (.inr (12, fs15.set 10 (.int (x13 + 1))))) l1 = .inr (12, fs19)) (h21 : l1 < n) (h22 : mi_W d 144 0 (mi_en 2 [.ref l1, .int x13]) [] (n, sl, (va_up f l1 (.inr (12, fs15.set 10 (.int (x13 + 1)))))) (mi_Kc d 143 286 [some (.ref l1), some (.int l2), some (.int l3), some (.int l4)] [.long (10 * x8), .ref l1] Q)) : mi_W (d + 1) 143 265 [some (.ref l1), some (.int l2), some (.int l3), some (.int l4)] [] (n, sl, f) Q := by
  refine w_aload_n cd_143_265 rfl ?_
  refine w_ldc2_w (lv := 10) cd_143_266 (by decide +kernel) ?_
  refine w_aload_n cd_143_269 rfl ?_
  refine w_getfield cd_143_270 (show mt_f 12 327 = some (12, 11) by decide +kernel) h6 h7 h9 ?_
  refine w_lmul cd_143_273 ?_
  refine w_aload_n cd_143_274 rfl ?_
  refine w_aload_n cd_143_275 rfl ?_
  refine w_dup_r cd_143_276 ?_
  refine w_getfield cd_143_277 (show mt_f 12 297 = some (12, 10) by decide +kernel) h11 h12 h14 ?_
  refine w_dup_x1_ir cd_143_280 ?_
  refine w_iconst (v := 1) cd_143_281 (by decide) ?_
  refine w_iadd cd_143_282 ?_
  refine w_putfield (w := .int (x13 + 1)) cd_143_283 (show mt_f 12 297 = some (12, 10) by decide +kernel) h16 h17 ⟨h18, rfl, Or.inl (by decide)⟩ ?_
  exact w_invokevirtual cd_143_286 (show mt_m 12 313 = some (144, 0) by decide +kernel) (rest := [.long (10 * x8), .ref l1]) rfl (as := [.ref l1, .int x13]) rfl h20 (Or.inl h21) ⟨Nat.le_of_ble_eq_true rfl, Nat.le_of_ble_eq_true rfl, Nat.le_of_ble_eq_true rfl⟩ h22
theorem b_143_289 {d : Nat} {Q : (Option Value ⊕ Nat) → mi_H → Prop} (n sl : Nat) (f : Nat → mi_C) {l1 : Nat} {l2 : Int32} {l3 : Int32} {l4 : Int32} {s5 : Int32} {s6 : Int64} {s7 : Nat} {fs8 : List Value} (h9 : f s7 = .inr (12, fs8)) (h10 : s7 < n) (h11 : 11 < fs8.length) (h12 : mi_W d 143 245 [some (.ref l1), some (.int l2), some (.int l3), some (.int (l4 + 1))] [] (n, sl, (va_up f s7 (.inr (12, fs8.set 11 (.long ((s6 + ((s5 : Int32).toInt64)) - 48)))))) Q) : mi_W d 143 289 [some (.ref l1), some (.int l2), some (.int l3), some (.int l4)] [.int s5, .long s6, .ref s7] (n, sl, f) Q := by
  refine w_i2l cd_143_289 ?_
  refine w_ladd cd_143_290 ?_
  refine w_ldc2_w (lv := 48) cd_143_291 (by decide +kernel) ?_
  refine w_lsub cd_143_294 ?_
  refine w_putfield (w := .long ((s6 + ((s5 : Int32).toInt64)) - 48)) cd_143_295 (show mt_f 12 327 = some (12, 11) by decide +kernel) h9 h10 ⟨h11, rfl, Or.inl (by decide)⟩ ?_
  refine w_iinc (v := 1) (ls' := [some (.ref l1), some (.int l2), some (.int l3), some (.int (l4 + 1))]) cd_143_298 rfl (by decide) rfl ?_
  exact w_goto cd_143_301 (by decide) h12
theorem b_143_304 {d : Nat} {Q : (Option Value ⊕ Nat) → mi_H → Prop} (n sl : Nat) (f : Nat → mi_C) {l1 : Nat} {l2 : Int32} {l3 : Int32} {l4 : Int32} (h5 : l3 = (0 : Int32) → mi_W d 143 317 [some (.ref l1), some (.int l2), some (.int l3), some (.int l4)] [] (n, sl, f) Q) (h6 : ¬ (l3 = (0 : Int32)) → mi_W d 143 308 [some (.ref l1), some (.int l2), some (.int l3), some (.int l4)] [] (n, sl, f) Q) : mi_W d 143 304 [some (.ref l1), some (.int l2), some (.int l3), some (.int l4)] [] (n, sl, f) Q := by
  refine w_iload_n cd_143_304 rfl ?_
  exact w_ifeq cd_143_305 (by decide) h5 h6
theorem b_143_308 {d : Nat} {Q : (Option Value ⊕ Nat) → mi_H → Prop} (n sl : Nat) (f : Nat → mi_C) {l1 : Nat} {l2 : Int32} {l3 : Int32} {l4 : Int32} {fs5 : List Value} {x8 : Int64} {fs10 : List Value} (h6 : f l1 = .inr (12, fs5)) (h7 : l1 < n) (h9 : fs5[11]? = some (.long x8)) (h11 : f l1 = .inr (12, fs10)) (h12 : l1 < n) (h13 : 11 < fs10.length) (h14 : mi_W d 143 317 [some (.ref l1), some (.int l2), some (.int l3), some (.int l4)] [] (n, sl, (va_up f l1 (.inr (12, fs10.set 11 (.long (-x8)))))) Q) : mi_W d 143 308 [some (.ref l1), some (.int l2), some (.int l3), some (.int l4)] [] (n, sl, f) Q := by
  refine w_aload_n cd_143_308 rfl ?_
  refine w_aload_n cd_143_309 rfl ?_
  refine w_getfield cd_143_310 (show mt_f 12 327 = some (12, 11) by decide +kernel) h6 h7 h9 ?_
  refine w_lneg cd_143_313 ?_
  refine w_putfield (w := .long (-x8)) cd_143_314 (show mt_f 12 327 = some (12, 11) by decide +kernel) h11 h12 ⟨h13, rfl, Or.inl (by decide)⟩ ?_
  exact h14
theorem b_143_317 {d : Nat} {Q : (Option Value ⊕ Nat) → mi_H → Prop} (n sl : Nat) (f : Nat → mi_C) {l1 : Nat} {l2 : Int32} {l3 : Int32} {l4 : Int32} (h5 : Q (.inl (some (.int 1))) (n, sl, f)) : mi_W d 143 317 [some (.ref l1), some (.int l2), some (.int l3), some (.int l4)] [] (n, sl, f) Q := by
  refine w_iconst (v := 1) cd_143_317 (by decide) ?_
  exact w_ireturn_z cd_143_318 (by decide +kernel) (by decide) h5
theorem b_143_319 {d : Nat} {Q : (Option Value ⊕ Nat) → mi_H → Prop} (n sl : Nat) (f : Nat → mi_C) {l1 : Nat} {l2 : Int32} {l3 : Int32} {o4 : Option Value} {fs5 : List Value} {fs9 : List Value} (h6 : f l1 = .inr (12, fs5)) (h7 : l1 < n) (h8 : 8 < fs5.length) (h10 : (va_up f l1 (.inr (12, fs5.set 8 (.int 3)))) l1 = .inr (12, fs9)) (h11 : l1 < n) (h12 : mi_W d 144 0 (mi_en 2 [.ref l1, .int l2]) [] (n, sl, (va_up f l1 (.inr (12, fs5.set 8 (.int 3))))) (mi_Kc d 143 326 [some (.ref l1), some (.int l2), some (.int l3), o4] [] Q)) : mi_W (d + 1) 143 319 [some (.ref l1), some (.int l2), some (.int l3), o4] [] (n, sl, f) Q := by
  refine w_aload_n cd_143_319 rfl ?_
  refine w_iconst (v := 3) cd_143_320 (by decide) ?_
  refine w_putfield (w := .int 3) cd_143_321 (show mt_f 12 310 = some (12, 8) by decide +kernel) h6 h7 ⟨h8, rfl, Or.inl (by decide)⟩ ?_
  refine w_aload_n cd_143_324 rfl ?_
  refine w_iload_n cd_143_325 rfl ?_
  exact w_invokevirtual cd_143_326 (show mt_m 12 313 = some (144, 0) by decide +kernel) (rest := []) rfl (as := [.ref l1, .int l2]) rfl h10 (Or.inl h11) ⟨Nat.le_of_ble_eq_true rfl, Nat.le_of_ble_eq_true rfl, Nat.le_of_ble_eq_true rfl⟩ h12
theorem b_143_329 {d : Nat} {Q : (Option Value ⊕ Nat) → mi_H → Prop} (n sl : Nat) (f : Nat → mi_C) {l1 : Nat} {l2 : Int32} {l3 : Int32} {o4 : Option Value} {s5 : Int32} (h6 : s5 = 60 → mi_W d 143 344 [some (.ref l1), some (.int l2), some (.int l3), some (.int s5)] [.int l2, .ref l1] (n, sl, f) Q) (h7 : ¬ (s5 = 60) → mi_W d 143 338 [some (.ref l1), some (.int l2), some (.int l3), some (.int s5)] [.int l2, .ref l1] (n, sl, f) Q) : mi_W d 143 329 [some (.ref l1), some (.int l2), some (.int l3), o4] [.int s5] (n, sl, f) Q := by
  refine w_istore_n (ls' := [some (.ref l1), some (.int l2), some (.int l3), some (.int s5)]) cd_143_329 (Nat.le_of_ble_eq_true rfl) rfl ?_
  refine w_aload_n cd_143_330 rfl ?_
  refine w_iload_n cd_143_331 rfl ?_
  refine w_iload_n cd_143_332 rfl ?_
  refine w_bipush (v := 60) cd_143_333 (by decide) ?_
  exact w_if_icmpeq cd_143_335 (by decide) h6 h7
theorem b_143_338 {d : Nat} {Q : (Option Value ⊕ Nat) → mi_H → Prop} (n sl : Nat) (f : Nat → mi_C) {l1 : Nat} {l2 : Int32} {l3 : Int32} {l4 : Int32} {s5 : Int32} {s6 : Nat} (h7 : ¬ l4 = 62 → mi_W d 143 360 [some (.ref l1), some (.int l2), some (.int l3), some (.int l4)] [.int s5, .ref s6] (n, sl, f) Q) (h8 : ¬ (¬ l4 = 62) → mi_W d 143 344 [some (.ref l1), some (.int l2), some (.int l3), some (.int l4)] [.int s5, .ref s6] (n, sl, f) Q) : mi_W d 143 338 [some (.ref l1), some (.int l2), some (.int l3), some (.int l4)] [.int s5, .ref s6] (n, sl, f) Q := by
  refine w_iload_n cd_143_338 rfl ?_
  refine w_bipush (v := 62) cd_143_339 (by decide) ?_
  exact w_if_icmpne cd_143_341 (by decide) h7 h8
theorem b_143_344 {d : Nat} {Q : (Option Value ⊕ Nat) → mi_H → Prop} (n sl : Nat) (f : Nat → mi_C) {l1 : Nat} {l2 : Int32} {l3 : Int32} {l4 : Int32} {s5 : Int32} {s6 : Nat} {fs7 : List Value} (h8 : f l1 = .inr (12, fs7)) (h9 : l1 < n) (h10 : mi_W d 144 0 (mi_en 2 [.ref l1, .int (l2 + 1)]) [] (n, sl, f) (mi_Kc d 143 348 [some (.ref l1), some (.int l2), some (.int l3), some (.int l4)] [.int s5, .ref s6] Q)) : mi_W (d + 1) 143 344 [some (.ref l1), some (.int l2), some (.int l3), some (.int l4)] [.int s5, .ref s6] (n, sl, f) Q := by
  refine w_aload_n cd_143_344 rfl ?_
  refine w_iload_n cd_143_345 rfl ?_
  refine w_iconst (v := 1) cd_143_346 (by decide) ?_
  refine w_iadd cd_143_347 ?_
  exact w_invokevirtual cd_143_348 (show mt_m 12 313 = some (144, 0) by decide +kernel) (rest := [.int s5, .ref s6]) rfl (as := [.ref l1, .int (l2 + 1)]) rfl h8 (Or.inl h9) ⟨Nat.le_of_ble_eq_true rfl, Nat.le_of_ble_eq_true rfl, Nat.le_of_ble_eq_true rfl⟩ h10
theorem b_143_351 {d : Nat} {Q : (Option Value ⊕ Nat) → mi_H → Prop} (n sl : Nat) (f : Nat → mi_C) {l1 : Nat} {l2 : Int32} {l3 : Int32} {l4 : Int32} {s5 : Int32} {s6 : Int32} {s7 : Nat} (h8 : ¬ s5 = 61 → mi_W d 143 360 [some (.ref l1), some (.int l2), some (.int l3), some (.int l4)] [.int s6, .ref s7] (n, sl, f) Q) (h9 : ¬ (¬ s5 = 61) → mi_W d 143 356 [some (.ref l1), some (.int l2), some (.int l3), some (.int l4)] [.int s6, .ref s7] (n, sl, f) Q) : mi_W d 143 351 [some (.ref l1), some (.int l2), some (.int l3), some (.int l4)] [.int s5, .int s6, .ref s7] (n, sl, f) Q := by
  refine w_bipush (v := 61) cd_143_351 (by decide) ?_
  exact w_if_icmpne cd_143_353 (by decide) h8 h9
theorem b_143_356 {d : Nat} {Q : (Option Value ⊕ Nat) → mi_H → Prop} (n sl : Nat) (f : Nat → mi_C) {l1 : Nat} {l2 : Int32} {l3 : Int32} {l4 : Int32} {s5 : Int32} {s6 : Nat} (h7 : mi_W d 143 361 [some (.ref l1), some (.int l2), some (.int l3), some (.int l4)] [.int 2, .int s5, .ref s6] (n, sl, f) Q) : mi_W d 143 356 [some (.ref l1), some (.int l2), some (.int l3), some (.int l4)] [.int s5, .ref s6] (n, sl, f) Q := by
  refine w_iconst (v := 2) cd_143_356 (by decide) ?_
  exact w_goto cd_143_357 (by decide) h7
theorem b_143_360 {d : Nat} {Q : (Option Value ⊕ Nat) → mi_H → Prop} (n sl : Nat) (f : Nat → mi_C) {l1 : Nat} {l2 : Int32} {l3 : Int32} {l4 : Int32} {s5 : Int32} {s6 : Nat} (h7 : mi_W d 143 361 [some (.ref l1), some (.int l2), some (.int l3), some (.int l4)] [.int 1, .int s5, .ref s6] (n, sl, f) Q) : mi_W d 143 360 [some (.ref l1), some (.int l2), some (.int l3), some (.int l4)] [.int s5, .ref s6] (n, sl, f) Q := by
  refine w_iconst (v := 1) cd_143_360 (by decide) ?_
  exact h7
theorem b_143_361 {d : Nat} {Q : (Option Value ⊕ Nat) → mi_H → Prop} (n sl : Nat) (f : Nat → mi_C) {l1 : Nat} {l2 : Int32} {l3 : Int32} {l4 : Int32} {s5 : Int32} {s6 : Int32} {s7 : Nat} {fs8 : List Value} (h9 : f s7 = .inr (12, fs8)) (h10 : s7 < n) (h11 : 10 < fs8.length) (h12 : l4 = 40 → mi_W d 143 437 [some (.ref l1), some (.int l2), some (.int l3), some (.int l4)] [] (n, sl, (va_up f s7 (.inr (12, fs8.set 10 (.int (s6 + s5)))))) Q) (h13 : ¬ (l4 = 40) → mi_W d 143 371 [some (.ref l1), some (.int l2), some (.int l3), some (.int l4)] [] (n, sl, (va_up f s7 (.inr (12, fs8.set 10 (.int (s6 + s5)))))) Q) : mi_W d 143 361 [some (.ref l1), some (.int l2), some (.int l3), some (.int l4)] [.int s5, .int s6, .ref s7] (n, sl, f) Q := by
  refine w_iadd cd_143_361 ?_
  refine w_putfield (w := .int (s6 + s5)) cd_143_362 (show mt_f 12 297 = some (12, 10) by decide +kernel) h9 h10 ⟨h11, rfl, Or.inl (by decide)⟩ ?_
  refine w_iload_n cd_143_365 rfl ?_
  refine w_bipush (v := 40) cd_143_366 (by decide) ?_
  exact w_if_icmpeq cd_143_368 (by decide) h12 h13
theorem b_143_371 {d : Nat} {Q : (Option Value ⊕ Nat) → mi_H → Prop} (n sl : Nat) (f : Nat → mi_C) {l1 : Nat} {l2 : Int32} {l3 : Int32} {l4 : Int32} (h5 : l4 = 41 → mi_W d 143 437 [some (.ref l1), some (.int l2), some (.int l3), some (.int l4)] [] (n, sl, f) Q) (h6 : ¬ (l4 = 41) → mi_W d 143 377 [some (.ref l1), some (.int l2), some (.int l3), some (.int l4)] [] (n, sl, f) Q) : mi_W d 143 371 [some (.ref l1), some (.int l2), some (.int l3), some (.int l4)] [] (n, sl, f) Q := by
  refine w_iload_n cd_143_371 rfl ?_
  refine w_bipush (v := 41) cd_143_372 (by decide) ?_
  exact w_if_icmpeq cd_143_374 (by decide) h5 h6
theorem b_143_377 {d : Nat} {Q : (Option Value ⊕ Nat) → mi_H → Prop} (n sl : Nat) (f : Nat → mi_C) {l1 : Nat} {l2 : Int32} {l3 : Int32} {l4 : Int32} (h5 : l4 = 91 → mi_W d 143 437 [some (.ref l1), some (.int l2), some (.int l3), some (.int l4)] [] (n, sl, f) Q) (h6 : ¬ (l4 = 91) → mi_W d 143 383 [some (.ref l1), some (.int l2), some (.int l3), some (.int l4)] [] (n, sl, f) Q) : mi_W d 143 377 [some (.ref l1), some (.int l2), some (.int l3), some (.int l4)] [] (n, sl, f) Q := by
  refine w_iload_n cd_143_377 rfl ?_
  refine w_bipush (v := 91) cd_143_378 (by decide) ?_
  exact w_if_icmpeq cd_143_380 (by decide) h5 h6
theorem b_143_383 {d : Nat} {Q : (Option Value ⊕ Nat) → mi_H → Prop} (n sl : Nat) (f : Nat → mi_C) {l1 : Nat} {l2 : Int32} {l3 : Int32} {l4 : Int32} (h5 : l4 = 93 → mi_W d 143 437 [some (.ref l1), some (.int l2), some (.int l3), some (.int l4)] [] (n, sl, f) Q) (h6 : ¬ (l4 = 93) → mi_W d 143 389 [some (.ref l1), some (.int l2), some (.int l3), some (.int l4)] [] (n, sl, f) Q) : mi_W d 143 383 [some (.ref l1), some (.int l2), some (.int l3), some (.int l4)] [] (n, sl, f) Q := by
  refine w_iload_n cd_143_383 rfl ?_
  refine w_bipush (v := 93) cd_143_384 (by decide) ?_
  exact w_if_icmpeq cd_143_386 (by decide) h5 h6
theorem b_143_389 {d : Nat} {Q : (Option Value ⊕ Nat) → mi_H → Prop} (n sl : Nat) (f : Nat → mi_C) {l1 : Nat} {l2 : Int32} {l3 : Int32} {l4 : Int32} (h5 : l4 = 43 → mi_W d 143 437 [some (.ref l1), some (.int l2), some (.int l3), some (.int l4)] [] (n, sl, f) Q) (h6 : ¬ (l4 = 43) → mi_W d 143 395 [some (.ref l1), some (.int l2), some (.int l3), some (.int l4)] [] (n, sl, f) Q) : mi_W d 143 389 [some (.ref l1), some (.int l2), some (.int l3), some (.int l4)] [] (n, sl, f) Q := by
  refine w_iload_n cd_143_389 rfl ?_
  refine w_bipush (v := 43) cd_143_390 (by decide) ?_
  exact w_if_icmpeq cd_143_392 (by decide) h5 h6
theorem b_143_395 {d : Nat} {Q : (Option Value ⊕ Nat) → mi_H → Prop} (n sl : Nat) (f : Nat → mi_C) {l1 : Nat} {l2 : Int32} {l3 : Int32} {l4 : Int32} (h5 : ¬ l3 = (0 : Int32) → mi_W d 143 437 [some (.ref l1), some (.int l2), some (.int l3), some (.int l4)] [] (n, sl, f) Q) (h6 : ¬ (¬ l3 = (0 : Int32)) → mi_W d 143 399 [some (.ref l1), some (.int l2), some (.int l3), some (.int l4)] [] (n, sl, f) Q) : mi_W d 143 395 [some (.ref l1), some (.int l2), some (.int l3), some (.int l4)] [] (n, sl, f) Q := by
  refine w_iload_n cd_143_395 rfl ?_
  exact w_ifne cd_143_396 (by decide) h5 h6
theorem b_143_399 {d : Nat} {Q : (Option Value ⊕ Nat) → mi_H → Prop} (n sl : Nat) (f : Nat → mi_C) {l1 : Nat} {l2 : Int32} {l3 : Int32} {l4 : Int32} (h5 : l4 = 42 → mi_W d 143 437 [some (.ref l1), some (.int l2), some (.int l3), some (.int l4)] [] (n, sl, f) Q) (h6 : ¬ (l4 = 42) → mi_W d 143 405 [some (.ref l1), some (.int l2), some (.int l3), some (.int l4)] [] (n, sl, f) Q) : mi_W d 143 399 [some (.ref l1), some (.int l2), some (.int l3), some (.int l4)] [] (n, sl, f) Q := by
  refine w_iload_n cd_143_399 rfl ?_
  refine w_bipush (v := 42) cd_143_400 (by decide) ?_
  exact w_if_icmpeq cd_143_402 (by decide) h5 h6
theorem b_143_405 {d : Nat} {Q : (Option Value ⊕ Nat) → mi_H → Prop} (n sl : Nat) (f : Nat → mi_C) {l1 : Nat} {l2 : Int32} {l3 : Int32} {l4 : Int32} (h5 : l4 = 47 → mi_W d 143 437 [some (.ref l1), some (.int l2), some (.int l3), some (.int l4)] [] (n, sl, f) Q) (h6 : ¬ (l4 = 47) → mi_W d 143 411 [some (.ref l1), some (.int l2), some (.int l3), some (.int l4)] [] (n, sl, f) Q) : mi_W d 143 405 [some (.ref l1), some (.int l2), some (.int l3), some (.int l4)] [] (n, sl, f) Q := by
  refine w_iload_n cd_143_405 rfl ?_
  refine w_bipush (v := 47) cd_143_406 (by decide) ?_
  exact w_if_icmpeq cd_143_408 (by decide) h5 h6
theorem b_143_411 {d : Nat} {Q : (Option Value ⊕ Nat) → mi_H → Prop} (n sl : Nat) (f : Nat → mi_C) {l1 : Nat} {l2 : Int32} {l3 : Int32} {l4 : Int32} (h5 : l4 = 60 → mi_W d 143 437 [some (.ref l1), some (.int l2), some (.int l3), some (.int l4)] [] (n, sl, f) Q) (h6 : ¬ (l4 = 60) → mi_W d 143 417 [some (.ref l1), some (.int l2), some (.int l3), some (.int l4)] [] (n, sl, f) Q) : mi_W d 143 411 [some (.ref l1), some (.int l2), some (.int l3), some (.int l4)] [] (n, sl, f) Q := by
  refine w_iload_n cd_143_411 rfl ?_
  refine w_bipush (v := 60) cd_143_412 (by decide) ?_
  exact w_if_icmpeq cd_143_414 (by decide) h5 h6
theorem b_143_417 {d : Nat} {Q : (Option Value ⊕ Nat) → mi_H → Prop} (n sl : Nat) (f : Nat → mi_C) {l1 : Nat} {l2 : Int32} {l3 : Int32} {l4 : Int32} (h5 : l4 = 62 → mi_W d 143 437 [some (.ref l1), some (.int l2), some (.int l3), some (.int l4)] [] (n, sl, f) Q) (h6 : ¬ (l4 = 62) → mi_W d 143 423 [some (.ref l1), some (.int l2), some (.int l3), some (.int l4)] [] (n, sl, f) Q) : mi_W d 143 417 [some (.ref l1), some (.int l2), some (.int l3), some (.int l4)] [] (n, sl, f) Q := by
  refine w_iload_n cd_143_417 rfl ?_
  refine w_bipush (v := 62) cd_143_418 (by decide) ?_
  exact w_if_icmpeq cd_143_420 (by decide) h5 h6
theorem b_143_423 {d : Nat} {Q : (Option Value ⊕ Nat) → mi_H → Prop} (n sl : Nat) (f : Nat → mi_C) {l1 : Nat} {l2 : Int32} {l3 : Int32} {l4 : Int32} (h5 : l4 = 61 → mi_W d 143 437 [some (.ref l1), some (.int l2), some (.int l3), some (.int l4)] [] (n, sl, f) Q) (h6 : ¬ (l4 = 61) → mi_W d 143 429 [some (.ref l1), some (.int l2), some (.int l3), some (.int l4)] [] (n, sl, f) Q) : mi_W d 143 423 [some (.ref l1), some (.int l2), some (.int l3), some (.int l4)] [] (n, sl, f) Q := by
  refine w_iload_n cd_143_423 rfl ?_
  refine w_bipush (v := 61) cd_143_424 (by decide) ?_
  exact w_if_icmpeq cd_143_426 (by decide) h5 h6
theorem b_143_429 {d : Nat} {Q : (Option Value ⊕ Nat) → mi_H → Prop} (n sl : Nat) (f : Nat → mi_C) {l1 : Nat} {l2 : Int32} {l3 : Int32} {l4 : Int32} {fs5 : List Value} (h6 : f l1 = .inr (12, fs5)) (h7 : l1 < n) (h8 : mi_W d 141 0 (mi_en 2 [.ref l1, .int l2]) [] (n, sl, f) (mi_Kc d 143 431 [some (.ref l1), some (.int l2), some (.int l3), some (.int l4)] [] Q)) : mi_W (d + 1) 143 429 [some (.ref l1), some (.int l2), some (.int l3), some (.int l4)] [] (n, sl, f) Q := by
  refine w_aload_n cd_143_429 rfl ?_
  refine w_iload_n cd_143_430 rfl ?_
  exact w_invokevirtual cd_143_431 (show mt_m 12 272 = some (141, 0) by decide +kernel) (rest := []) rfl (as := [.ref l1, .int l2]) rfl h6 (Or.inl h7) ⟨Nat.le_of_ble_eq_true rfl, Nat.le_of_ble_eq_true rfl, Nat.le_of_ble_eq_true rfl⟩ h8
theorem b_143_434 {d : Nat} {Q : (Option Value ⊕ Nat) → mi_H → Prop} (n sl : Nat) (f : Nat → mi_C) {l1 : Nat} {l2 : Int32} {l3 : Int32} {l4 : Int32} {s5 : Int32} (h6 : s5 = (0 : Int32) → mi_W d 143 441 [some (.ref l1), some (.int l2), some (.int l3), some (.int l4)] [] (n, sl, f) Q) (h7 : ¬ (s5 = (0 : Int32)) → mi_W d 143 437 [some (.ref l1), some (.int l2), some (.int l3), some (.int l4)] [] (n, sl, f) Q) : mi_W d 143 434 [some (.ref l1), some (.int l2), some (.int l3), some (.int l4)] [.int s5] (n, sl, f) Q := by
  exact w_ifeq cd_143_434 (by decide) h6 h7
theorem b_143_437 {d : Nat} {Q : (Option Value ⊕ Nat) → mi_H → Prop} (n sl : Nat) (f : Nat → mi_C) {l1 : Nat} {l2 : Int32} {l3 : Int32} {l4 : Int32} (h5 : mi_W d 143 442 [some (.ref l1), some (.int l2), some (.int l3), some (.int l4)] [.int 1] (n, sl, f) Q) : mi_W d 143 437 [some (.ref l1), some (.int l2), some (.int l3), some (.int l4)] [] (n, sl, f) Q := by
  refine w_iconst (v := 1) cd_143_437 (by decide) ?_
  exact w_goto cd_143_438 (by decide) h5
theorem b_143_441 {d : Nat} {Q : (Option Value ⊕ Nat) → mi_H → Prop} (n sl : Nat) (f : Nat → mi_C) {l1 : Nat} {l2 : Int32} {l3 : Int32} {l4 : Int32} (h5 : mi_W d 143 442 [some (.ref l1), some (.int l2), some (.int l3), some (.int l4)] [.int 0] (n, sl, f) Q) : mi_W d 143 441 [some (.ref l1), some (.int l2), some (.int l3), some (.int l4)] [] (n, sl, f) Q := by
  refine w_iconst (v := 0) cd_143_441 (by decide) ?_
  exact h5
theorem b_143_442 {d : Nat} {Q : (Option Value ⊕ Nat) → mi_H → Prop} (n sl : Nat) (f : Nat → mi_C) {l1 : Nat} {l2 : Int32} {l3 : Int32} {l4 : Int32} {s5 : Int32} (h6 : s5 = 0 ∨ s5 = 1) (h7 : Q (.inl (some (.int s5))) (n, sl, f)) : mi_W d 143 442 [some (.ref l1), some (.int l2), some (.int l3), some (.int l4)] [.int s5] (n, sl, f) Q := by
  exact w_ireturn_z cd_143_442 (by decide +kernel) h6 h7
/-! MarloweHostModel.c(I)I -/
set_option maxRecDepth 100000 in
theorem mq_144 : mt_q 144 = my_144 := rfl
set_option maxRecDepth 100000 in
theorem ci_144 : mt_inc 0 my_144.cd = true := by decide +kernel
theorem cd_144_0 : mt_cd 144 0 = some (.iload_n 1) := mt_cd_of (q := (0, .iload_n 1, 1)) mq_144 ci_144 (List.mem_of_getElem? (i := 0) rfl)
theorem cd_144_1 : mt_cd 144 1 = some (.aload_n 0) := mt_cd_of (q := (1, .aload_n 0, 1)) mq_144 ci_144 (List.mem_of_getElem? (i := 1) rfl)
theorem cd_144_2 : mt_cd 144 2 = some (.getfield 261) := mt_cd_of (q := (2, .getfield 261, 3)) mq_144 ci_144 (List.mem_of_getElem? (i := 2) rfl)
theorem cd_144_5 : mt_cd 144 5 = some (.if_icmp .ge 12) := mt_cd_of (q := (5, .if_icmp .ge 12, 3)) mq_144 ci_144 (List.mem_of_getElem? (i := 3) rfl)
theorem cd_144_8 : mt_cd 144 8 = some (.aload_n 0) := mt_cd_of (q := (8, .aload_n 0, 1)) mq_144 ci_144 (List.mem_of_getElem? (i := 4) rfl)
theorem cd_144_9 : mt_cd 144 9 = some (.getfield 20) := mt_cd_of (q := (9, .getfield 20, 3)) mq_144 ci_144 (List.mem_of_getElem? (i := 5) rfl)
theorem cd_144_12 : mt_cd 144 12 = some (.iload_n 1) := mt_cd_of (q := (12, .iload_n 1, 1)) mq_144 ci_144 (List.mem_of_getElem? (i := 6) rfl)
theorem cd_144_13 : mt_cd 144 13 = some (.iaload) := mt_cd_of (q := (13, .iaload, 1)) mq_144 ci_144 (List.mem_of_getElem? (i := 7) rfl)
theorem cd_144_14 : mt_cd 144 14 = some (.goto 4) := mt_cd_of (q := (14, .goto 4, 3)) mq_144 ci_144 (List.mem_of_getElem? (i := 8) rfl)
theorem cd_144_17 : mt_cd 144 17 = some (.iconst 0) := mt_cd_of (q := (17, .iconst 0, 1)) mq_144 ci_144 (List.mem_of_getElem? (i := 9) rfl)
theorem cd_144_18 : mt_cd 144 18 = some (.ireturn) := mt_cd_of (q := (18, .ireturn, 1)) mq_144 ci_144 (List.mem_of_getElem? (i := 10) rfl)
theorem b_144_0 {d : Nat} {Q : (Option Value ⊕ Nat) → mi_H → Prop} (n sl : Nat) (f : Nat → mi_C) {l1 : Nat} {l2 : Int32} {fs3 : List Value} {x6 : Int32} (h4 : f l1 = .inr (12, fs3)) (h5 : l1 < n) (h7 : fs3[2]? = some (.int x6)) (h8 : x6 ≤ l2 → mi_W d 144 17 [some (.ref l1), some (.int l2)] [] (n, sl, f) Q) (h9 : ¬ (x6 ≤ l2) → mi_W d 144 8 [some (.ref l1), some (.int l2)] [] (n, sl, f) Q) : mi_W d 144 0 [some (.ref l1), some (.int l2)] [] (n, sl, f) Q := by
  refine w_iload_n cd_144_0 rfl ?_
  refine w_aload_n cd_144_1 rfl ?_
  refine w_getfield cd_144_2 (show mt_f 12 261 = some (12, 2) by decide +kernel) h4 h5 h7 ?_
  exact w_if_icmpge cd_144_5 (by decide) h8 h9
theorem b_144_8 {d : Nat} {Q : (Option Value ⊕ Nat) → mi_H → Prop} (n sl : Nat) (f : Nat → mi_C) {l1 : Nat} {l2 : Int32} {fs3 : List Value} {x6 : Nat} (m8 i8 : Nat) (g8 : Nat → Int32) (h4 : f l1 = .inr (12, fs3)) (h5 : l1 < n) (h7 : fs3[6]? = some (.ref x6)) (h9 : f x6 = .inl (0, m8, .inl g8)) (h10 : x6 < n ∨ x6 = mi_SC) (h11 : mi_ix l2 m8 i8) (h12 : mi_W d 144 18 [some (.ref l1), some (.int l2)] [.int (g8 i8)] (n, sl, f) Q) : mi_W d 144 8 [some (.ref l1), some (.int l2)] [] (n, sl, f) Q := by
  refine w_aload_n cd_144_8 rfl ?_
  refine w_getfield cd_144_9 (show mt_f 12 20 = some (12, 6) by decide +kernel) h4 h5 h7 ?_
  refine w_iload_n cd_144_12 rfl ?_
  refine w_iaload cd_144_13 h9 h10 h11 ?_
  exact w_goto cd_144_14 (by decide) h12
theorem b_144_17 {d : Nat} {Q : (Option Value ⊕ Nat) → mi_H → Prop} (n sl : Nat) (f : Nat → mi_C) {l1 : Nat} {l2 : Int32} (h3 : mi_W d 144 18 [some (.ref l1), some (.int l2)] [.int 0] (n, sl, f) Q) : mi_W d 144 17 [some (.ref l1), some (.int l2)] [] (n, sl, f) Q := by
  refine w_iconst (v := 0) cd_144_17 (by decide) ?_
  exact h3
theorem b_144_18 {d : Nat} {Q : (Option Value ⊕ Nat) → mi_H → Prop} (n sl : Nat) (f : Nat → mi_C) {l1 : Nat} {l2 : Int32} {s3 : Int32} (h4 : Q (.inl (some (.int s3))) (n, sl, f)) : mi_W d 144 18 [some (.ref l1), some (.int l2)] [.int s3] (n, sl, f) Q := by
  exact w_ireturn_i cd_144_18 (by decide +kernel) h4
/-! MarloweHostModel.isLetter(I)Z -/
set_option maxRecDepth 100000 in
theorem mq_145 : mt_q 145 = my_145 := rfl
set_option maxRecDepth 100000 in
theorem ci_145 : mt_inc 0 my_145.cd = true := by decide +kernel
theorem cd_145_0 : mt_cd 145 0 = some (.iload_n 0) := mt_cd_of (q := (0, .iload_n 0, 1)) mq_145 ci_145 (List.mem_of_getElem? (i := 0) rfl)
theorem cd_145_1 : mt_cd 145 1 = some (.i2l) := mt_cd_of (q := (1, .i2l, 1)) mq_145 ci_145 (List.mem_of_getElem? (i := 1) rfl)
theorem cd_145_2 : mt_cd 145 2 = some (.ldc2_w 285) := mt_cd_of (q := (2, .ldc2_w 285, 3)) mq_145 ci_145 (List.mem_of_getElem? (i := 2) rfl)
theorem cd_145_5 : mt_cd 145 5 = some (.ldc2_w 287) := mt_cd_of (q := (5, .ldc2_w 287, 3)) mq_145 ci_145 (List.mem_of_getElem? (i := 3) rfl)
theorem cd_145_8 : mt_cd 145 8 = some (.invokestatic 268) := mt_cd_of (q := (8, .invokestatic 268, 3)) mq_145 ci_145 (List.mem_of_getElem? (i := 4) rfl)
theorem cd_145_11 : mt_cd 145 11 = some (.ifCond .ne 23) := mt_cd_of (q := (11, .ifCond .ne 23, 3)) mq_145 ci_145 (List.mem_of_getElem? (i := 5) rfl)
theorem cd_145_14 : mt_cd 145 14 = some (.iload_n 0) := mt_cd_of (q := (14, .iload_n 0, 1)) mq_145 ci_145 (List.mem_of_getElem? (i := 6) rfl)
theorem cd_145_15 : mt_cd 145 15 = some (.i2l) := mt_cd_of (q := (15, .i2l, 1)) mq_145 ci_145 (List.mem_of_getElem? (i := 7) rfl)
theorem cd_145_16 : mt_cd 145 16 = some (.ldc2_w 289) := mt_cd_of (q := (16, .ldc2_w 289, 3)) mq_145 ci_145 (List.mem_of_getElem? (i := 8) rfl)
theorem cd_145_19 : mt_cd 145 19 = some (.ldc2_w 291) := mt_cd_of (q := (19, .ldc2_w 291, 3)) mq_145 ci_145 (List.mem_of_getElem? (i := 9) rfl)
theorem cd_145_22 : mt_cd 145 22 = some (.invokestatic 268) := mt_cd_of (q := (22, .invokestatic 268, 3)) mq_145 ci_145 (List.mem_of_getElem? (i := 10) rfl)
theorem cd_145_25 : mt_cd 145 25 = some (.ifCond .ne 9) := mt_cd_of (q := (25, .ifCond .ne 9, 3)) mq_145 ci_145 (List.mem_of_getElem? (i := 11) rfl)
theorem cd_145_28 : mt_cd 145 28 = some (.iload_n 0) := mt_cd_of (q := (28, .iload_n 0, 1)) mq_145 ci_145 (List.mem_of_getElem? (i := 12) rfl)
theorem cd_145_29 : mt_cd 145 29 = some (.bipush 95) := mt_cd_of (q := (29, .bipush 95, 2)) mq_145 ci_145 (List.mem_of_getElem? (i := 13) rfl)
theorem cd_145_31 : mt_cd 145 31 = some (.if_icmp .ne 7) := mt_cd_of (q := (31, .if_icmp .ne 7, 3)) mq_145 ci_145 (List.mem_of_getElem? (i := 14) rfl)
theorem cd_145_34 : mt_cd 145 34 = some (.iconst 1) := mt_cd_of (q := (34, .iconst 1, 1)) mq_145 ci_145 (List.mem_of_getElem? (i := 15) rfl)
theorem cd_145_35 : mt_cd 145 35 = some (.goto 4) := mt_cd_of (q := (35, .goto 4, 3)) mq_145 ci_145 (List.mem_of_getElem? (i := 16) rfl)
theorem cd_145_38 : mt_cd 145 38 = some (.iconst 0) := mt_cd_of (q := (38, .iconst 0, 1)) mq_145 ci_145 (List.mem_of_getElem? (i := 17) rfl)
theorem cd_145_39 : mt_cd 145 39 = some (.ireturn) := mt_cd_of (q := (39, .ireturn, 1)) mq_145 ci_145 (List.mem_of_getElem? (i := 18) rfl)
theorem b_145_0 {d : Nat} {Q : (Option Value ⊕ Nat) → mi_H → Prop} (n sl : Nat) (f : Nat → mi_C) {l1 : Int32} (h2 : mi_W d 140 0 (mi_en 6 [.long ((l1 : Int32).toInt64), .long 97, .long 122]) [] (n, sl, f) (mi_Kc d 145 8 [some (.int l1)] [] Q)) : mi_W (d + 1) 145 0 [some (.int l1)] [] (n, sl, f) Q := by
  refine w_iload_n cd_145_0 rfl ?_
  refine w_i2l cd_145_1 ?_
  refine w_ldc2_w (lv := 97) cd_145_2 (by decide +kernel) ?_
  refine w_ldc2_w (lv := 122) cd_145_5 (by decide +kernel) ?_
  exact w_invokestatic cd_145_8 (show mt_m 12 268 = some (140, 4) by decide +kernel) (by decide) (rest := []) rfl (as := [.long ((l1 : Int32).toInt64), .long 97, .long 122]) rfl ⟨Nat.le_of_ble_eq_true rfl, Nat.le_of_ble_eq_true rfl, Nat.le_of_ble_eq_true rfl⟩ h2
theorem b_145_11 {d : Nat} {Q : (Option Value ⊕ Nat) → mi_H → Prop} (n sl : Nat) (f : Nat → mi_C) {l1 : Int32} {s2 : Int32} (h3 : ¬ s2 = (0 : Int32) → mi_W d 145 34 [some (.int l1)] [] (n, sl, f) Q) (h4 : ¬ (¬ s2 = (0 : Int32)) → mi_W d 145 14 [some (.int l1)] [] (n, sl, f) Q) : mi_W d 145 11 [some (.int l1)] [.int s2] (n, sl, f) Q := by
  exact w_ifne cd_145_11 (by decide) h3 h4
theorem b_145_14 {d : Nat} {Q : (Option Value ⊕ Nat) → mi_H → Prop} (n sl : Nat) (f : Nat → mi_C) {l1 : Int32} (h2 : mi_W d 140 0 (mi_en 6 [.long ((l1 : Int32).toInt64), .long 65, .long 90]) [] (n, sl, f) (mi_Kc d 145 22 [some (.int l1)] [] Q)) : mi_W (d + 1) 145 14 [some (.int l1)] [] (n, sl, f) Q := by
  refine w_iload_n cd_145_14 rfl ?_
  refine w_i2l cd_145_15 ?_
  refine w_ldc2_w (lv := 65) cd_145_16 (by decide +kernel) ?_
  refine w_ldc2_w (lv := 90) cd_145_19 (by decide +kernel) ?_
  exact w_invokestatic cd_145_22 (show mt_m 12 268 = some (140, 4) by decide +kernel) (by decide) (rest := []) rfl (as := [.long ((l1 : Int32).toInt64), .long 65, .long 90]) rfl ⟨Nat.le_of_ble_eq_true rfl, Nat.le_of_ble_eq_true rfl, Nat.le_of_ble_eq_true rfl⟩ h2
theorem b_145_25 {d : Nat} {Q : (Option Value ⊕ Nat) → mi_H → Prop} (n sl : Nat) (f : Nat → mi_C) {l1 : Int32} {s2 : Int32} (h3 : ¬ s2 = (0 : Int32) → mi_W d 145 34 [some (.int l1)] [] (n, sl, f) Q) (h4 : ¬ (¬ s2 = (0 : Int32)) → mi_W d 145 28 [some (.int l1)] [] (n, sl, f) Q) : mi_W d 145 25 [some (.int l1)] [.int s2] (n, sl, f) Q := by
  exact w_ifne cd_145_25 (by decide) h3 h4
theorem b_145_28 {d : Nat} {Q : (Option Value ⊕ Nat) → mi_H → Prop} (n sl : Nat) (f : Nat → mi_C) {l1 : Int32} (h2 : ¬ l1 = 95 → mi_W d 145 38 [some (.int l1)] [] (n, sl, f) Q) (h3 : ¬ (¬ l1 = 95) → mi_W d 145 34 [some (.int l1)] [] (n, sl, f) Q) : mi_W d 145 28 [some (.int l1)] [] (n, sl, f) Q := by
  refine w_iload_n cd_145_28 rfl ?_
  refine w_bipush (v := 95) cd_145_29 (by decide) ?_
  exact w_if_icmpne cd_145_31 (by decide) h2 h3
theorem b_145_34 {d : Nat} {Q : (Option Value ⊕ Nat) → mi_H → Prop} (n sl : Nat) (f : Nat → mi_C) {l1 : Int32} (h2 : mi_W d 145 39 [some (.int l1)] [.int 1] (n, sl, f) Q) : mi_W d 145 34 [some (.int l1)] [] (n, sl, f) Q := by
  refine w_iconst (v := 1) cd_145_34 (by decide) ?_
  exact w_goto cd_145_35 (by decide) h2
theorem b_145_38 {d : Nat} {Q : (Option Value ⊕ Nat) → mi_H → Prop} (n sl : Nat) (f : Nat → mi_C) {l1 : Int32} (h2 : mi_W d 145 39 [some (.int l1)] [.int 0] (n, sl, f) Q) : mi_W d 145 38 [some (.int l1)] [] (n, sl, f) Q := by
  refine w_iconst (v := 0) cd_145_38 (by decide) ?_
  exact h2
theorem b_145_39 {d : Nat} {Q : (Option Value ⊕ Nat) → mi_H → Prop} (n sl : Nat) (f : Nat → mi_C) {l1 : Int32} {s2 : Int32} (h3 : s2 = 0 ∨ s2 = 1) (h4 : Q (.inl (some (.int s2))) (n, sl, f)) : mi_W d 145 39 [some (.int l1)] [.int s2] (n, sl, f) Q := by
  exact w_ireturn_z cd_145_39 (by decide +kernel) h3 h4
/-! MarloweHostModel.isDigit(I)Z -/
set_option maxRecDepth 100000 in
theorem mq_146 : mt_q 146 = my_146 := rfl
set_option maxRecDepth 100000 in
theorem ci_146 : mt_inc 0 my_146.cd = true := by decide +kernel
theorem cd_146_0 : mt_cd 146 0 = some (.iload_n 0) := mt_cd_of (q := (0, .iload_n 0, 1)) mq_146 ci_146 (List.mem_of_getElem? (i := 0) rfl)
theorem cd_146_1 : mt_cd 146 1 = some (.i2l) := mt_cd_of (q := (1, .i2l, 1)) mq_146 ci_146 (List.mem_of_getElem? (i := 1) rfl)
theorem cd_146_2 : mt_cd 146 2 = some (.ldc2_w 293) := mt_cd_of (q := (2, .ldc2_w 293, 3)) mq_146 ci_146 (List.mem_of_getElem? (i := 2) rfl)
theorem cd_146_5 : mt_cd 146 5 = some (.ldc2_w 295) := mt_cd_of (q := (5, .ldc2_w 295, 3)) mq_146 ci_146 (List.mem_of_getElem? (i := 3) rfl)
theorem cd_146_8 : mt_cd 146 8 = some (.invokestatic 268) := mt_cd_of (q := (8, .invokestatic 268, 3)) mq_146 ci_146 (List.mem_of_getElem? (i := 4) rfl)
theorem cd_146_11 : mt_cd 146 11 = some (.ireturn) := mt_cd_of (q := (11, .ireturn, 1)) mq_146 ci_146 (List.mem_of_getElem? (i := 5) rfl)
theorem b_146_0 {d : Nat} {Q : (Option Value ⊕ Nat) → mi_H → Prop} (n sl : Nat) (f : Nat → mi_C) {l1 : Int32} (h2 : mi_W d 140 0 (mi_en 6 [.long ((l1 : Int32).toInt64), .long 48, .long 57]) [] (n, sl, f) (mi_Kc d 146 8 [some (.int l1)] [] Q)) : mi_W (d + 1) 146 0 [some (.int l1)] [] (n, sl, f) Q := by
  refine w_iload_n cd_146_0 rfl ?_
  refine w_i2l cd_146_1 ?_
  refine w_ldc2_w (lv := 48) cd_146_2 (by decide +kernel) ?_
  refine w_ldc2_w (lv := 57) cd_146_5 (by decide +kernel) ?_
  exact w_invokestatic cd_146_8 (show mt_m 12 268 = some (140, 4) by decide +kernel) (by decide) (rest := []) rfl (as := [.long ((l1 : Int32).toInt64), .long 48, .long 57]) rfl ⟨Nat.le_of_ble_eq_true rfl, Nat.le_of_ble_eq_true rfl, Nat.le_of_ble_eq_true rfl⟩ h2
theorem b_146_11 {d : Nat} {Q : (Option Value ⊕ Nat) → mi_H → Prop} (n sl : Nat) (f : Nat → mi_C) {l1 : Int32} {s2 : Int32} (h3 : s2 = 0 ∨ s2 = 1) (h4 : Q (.inl (some (.int s2))) (n, sl, f)) : mi_W d 146 11 [some (.int l1)] [.int s2] (n, sl, f) Q := by
  exact w_ireturn_z cd_146_11 (by decide +kernel) h3 h4
/-! MarloweHostModel.is(Ljava/lang/String;)Z -/
set_option maxRecDepth 100000 in
theorem mq_147 : mt_q 147 = my_147 := rfl
set_option maxRecDepth 100000 in
theorem ci_147 : mt_inc 0 my_147.cd = true := by decide +kernel
theorem cd_147_0 : mt_cd 147 0 = some (.aload_n 0) := mt_cd_of (q := (0, .aload_n 0, 1)) mq_147 ci_147 (List.mem_of_getElem? (i := 0) rfl)
theorem cd_147_1 : mt_cd 147 1 = some (.getfield 297) := mt_cd_of (q := (1, .getfield 297, 3)) mq_147 ci_147 (List.mem_of_getElem? (i := 1) rfl)
theorem cd_147_4 : mt_cd 147 4 = some (.aload_n 0) := mt_cd_of (q := (4, .aload_n 0, 1)) mq_147 ci_147 (List.mem_of_getElem? (i := 2) rfl)
theorem cd_147_5 : mt_cd 147 5 = some (.getfield 299) := mt_cd_of (q := (5, .getfield 299, 3)) mq_147 ci_147 (List.mem_of_getElem? (i := 3) rfl)
theorem cd_147_8 : mt_cd 147 8 = some (.isub) := mt_cd_of (q := (8, .isub, 1)) mq_147 ci_147 (List.mem_of_getElem? (i := 4) rfl)
theorem cd_147_9 : mt_cd 147 9 = some (.aload_n 1) := mt_cd_of (q := (9, .aload_n 1, 1)) mq_147 ci_147 (List.mem_of_getElem? (i := 5) rfl)
theorem cd_147_10 : mt_cd 147 10 = some (.invokevirtual 302) := mt_cd_of (q := (10, .invokevirtual 302, 3)) mq_147 ci_147 (List.mem_of_getElem? (i := 6) rfl)
theorem cd_147_13 : mt_cd 147 13 = some (.if_icmp .eq 5) := mt_cd_of (q := (13, .if_icmp .eq 5, 3)) mq_147 ci_147 (List.mem_of_getElem? (i := 7) rfl)
theorem cd_147_16 : mt_cd 147 16 = some (.iconst 0) := mt_cd_of (q := (16, .iconst 0, 1)) mq_147 ci_147 (List.mem_of_getElem? (i := 8) rfl)
theorem cd_147_17 : mt_cd 147 17 = some (.ireturn) := mt_cd_of (q := (17, .ireturn, 1)) mq_147 ci_147 (List.mem_of_getElem? (i := 9) rfl)
theorem cd_147_18 : mt_cd 147 18 = some (.iconst 0) := mt_cd_of (q := (18, .iconst 0, 1)) mq_147 ci_147 (List.mem_of_getElem? (i := 10) rfl)
theorem cd_147_19 : mt_cd 147 19 = some (.istore_n 2) := mt_cd_of (q := (19, .istore_n 2, 1)) mq_147 ci_147 (List.mem_of_getElem? (i := 11) rfl)
theorem cd_147_20 : mt_cd 147 20 = some (.iload_n 2) := mt_cd_of (q := (20, .iload_n 2, 1)) mq_147 ci_147 (List.mem_of_getElem? (i := 12) rfl)
theorem cd_147_21 : mt_cd 147 21 = some (.aload_n 1) := mt_cd_of (q := (21, .aload_n 1, 1)) mq_147 ci_147 (List.mem_of_getElem? (i := 13) rfl)
theorem cd_147_22 : mt_cd 147 22 = some (.invokevirtual 302) := mt_cd_of (q := (22, .invokevirtual 302, 3)) mq_147 ci_147 (List.mem_of_getElem? (i := 14) rfl)
theorem cd_147_25 : mt_cd 147 25 = some (.if_icmp .ge 30) := mt_cd_of (q := (25, .if_icmp .ge 30, 3)) mq_147 ci_147 (List.mem_of_getElem? (i := 15) rfl)
theorem cd_147_28 : mt_cd 147 28 = some (.aload_n 0) := mt_cd_of (q := (28, .aload_n 0, 1)) mq_147 ci_147 (List.mem_of_getElem? (i := 16) rfl)
theorem cd_147_29 : mt_cd 147 29 = some (.getfield 20) := mt_cd_of (q := (29, .getfield 20, 3)) mq_147 ci_147 (List.mem_of_getElem? (i := 17) rfl)
theorem cd_147_32 : mt_cd 147 32 = some (.aload_n 0) := mt_cd_of (q := (32, .aload_n 0, 1)) mq_147 ci_147 (List.mem_of_getElem? (i := 18) rfl)
theorem cd_147_33 : mt_cd 147 33 = some (.getfield 299) := mt_cd_of (q := (33, .getfield 299, 3)) mq_147 ci_147 (List.mem_of_getElem? (i := 19) rfl)
theorem cd_147_36 : mt_cd 147 36 = some (.iload_n 2) := mt_cd_of (q := (36, .iload_n 2, 1)) mq_147 ci_147 (List.mem_of_getElem? (i := 20) rfl)
theorem cd_147_37 : mt_cd 147 37 = some (.iadd) := mt_cd_of (q := (37, .iadd, 1)) mq_147 ci_147 (List.mem_of_getElem? (i := 21) rfl)
theorem cd_147_38 : mt_cd 147 38 = some (.iaload) := mt_cd_of (q := (38, .iaload, 1)) mq_147 ci_147 (List.mem_of_getElem? (i := 22) rfl)
theorem cd_147_39 : mt_cd 147 39 = some (.aload_n 1) := mt_cd_of (q := (39, .aload_n 1, 1)) mq_147 ci_147 (List.mem_of_getElem? (i := 23) rfl)
theorem cd_147_40 : mt_cd 147 40 = some (.iload_n 2) := mt_cd_of (q := (40, .iload_n 2, 1)) mq_147 ci_147 (List.mem_of_getElem? (i := 24) rfl)
theorem cd_147_41 : mt_cd 147 41 = some (.invokevirtual 306) := mt_cd_of (q := (41, .invokevirtual 306, 3)) mq_147 ci_147 (List.mem_of_getElem? (i := 25) rfl)
theorem cd_147_44 : mt_cd 147 44 = some (.if_icmp .eq 5) := mt_cd_of (q := (44, .if_icmp .eq 5, 3)) mq_147 ci_147 (List.mem_of_getElem? (i := 26) rfl)
theorem cd_147_47 : mt_cd 147 47 = some (.iconst 0) := mt_cd_of (q := (47, .iconst 0, 1)) mq_147 ci_147 (List.mem_of_getElem? (i := 27) rfl)
theorem cd_147_48 : mt_cd 147 48 = some (.ireturn) := mt_cd_of (q := (48, .ireturn, 1)) mq_147 ci_147 (List.mem_of_getElem? (i := 28) rfl)
theorem cd_147_49 : mt_cd 147 49 = some (.iinc 2 1) := mt_cd_of (q := (49, .iinc 2 1, 3)) mq_147 ci_147 (List.mem_of_getElem? (i := 29) rfl)
theorem cd_147_52 : mt_cd 147 52 = some (.goto (-32)) := mt_cd_of (q := (52, .goto (-32), 3)) mq_147 ci_147 (List.mem_of_getElem? (i := 30) rfl)
theorem cd_147_55 : mt_cd 147 55 = some (.iconst 1) := mt_cd_of (q := (55, .iconst 1, 1)) mq_147 ci_147 (List.mem_of_getElem? (i := 31) rfl)
theorem cd_147_56 : mt_cd 147 56 = some (.ireturn) := mt_cd_of (q := (56, .ireturn, 1)) mq_147 ci_147 (List.mem_of_getElem? (i := 32) rfl)
theorem b_147_0 {d : Nat} {Q : (Option Value ⊕ Nat) → mi_H → Prop} (n sl : Nat) (f : Nat → mi_C) {l1 : Nat} {l2 : Nat} {o3 : Option Value} {fs4 : List Value} {x7 : Int32} {fs9 : List Value} {x12 : Int32} {fs14 : List Value} (h5 : f l1 = .inr (12, fs4)) (h6 : l1 < n) (h8 : fs4[10]? = some (.int x7)) (h10 : f l1 = .inr (12, fs9)) (h11 : l1 < n) (h13 : fs9[9]? = some (.int x12)) (h15 : f l2 = .inr (17, fs14)) (h16 : l2 < n ∨ (mi_SC < l2 ∧ (l2 - mi_SC - 1) / 2 < mt_ns)) (h17 : mi_W d 148 0 (mi_en 1 [.ref l2]) [] (n, sl, f) (mi_Kc d 147 10 [some (.ref l1), some (.ref l2), o3] [.int (x7 - x12)] Q)) : mi_W (d + 1) 147 0 [some (.ref l1), some (.ref l2), o3] [] (n, sl, f) Q := by
  refine w_aload_n cd_147_0 rfl ?_
  refine w_getfield cd_147_1 (show mt_f 12 297 = some (12, 10) by decide +kernel) h5 h6 h8 ?_
  refine w_aload_n cd_147_4 rfl ?_
  refine w_getfield cd_147_5 (show mt_f 12 299 = some (12, 9) by decide +kernel) h10 h11 h13 ?_
  refine w_isub cd_147_8 ?_
  refine w_aload_n cd_147_9 rfl ?_
  exact w_invokevirtual cd_147_10 (show mt_m 12 302 = some (148, 0) by decide +kernel) (rest := [.int (x7 - x12)]) rfl (as := [.ref l2]) rfl h15 h16 ⟨Nat.le_of_ble_eq_true rfl, Nat.le_of_ble_eq_true rfl, Nat.le_of_ble_eq_true rfl⟩ h17
theorem b_147_13 {d : Nat} {Q : (Option Value ⊕ Nat) → mi_H → Prop} (n sl : Nat) (f : Nat → mi_C) {l1 : Nat} {l2 : Nat} {o3 : Option Value} {s4 : Int32} {s5 : Int32} (h6 : s5 = s4 → mi_W d 147 18 [some (.ref l1), some (.ref l2), o3] [] (n, sl, f) Q) (h7 : ¬ (s5 = s4) → mi_W d 147 16 [some (.ref l1), some (.ref l2), o3] [] (n, sl, f) Q) : mi_W d 147 13 [some (.ref l1), some (.ref l2), o3] [.int s4, .int s5] (n, sl, f) Q := by
  exact w_if_icmpeq cd_147_13 (by decide) h6 h7
theorem b_147_16 {d : Nat} {Q : (Option Value ⊕ Nat) → mi_H → Prop} (n sl : Nat) (f : Nat → mi_C) {l1 : Nat} {l2 : Nat} {o3 : Option Value} (h4 : Q (.inl (some (.int 0))) (n, sl, f)) : mi_W d 147 16 [some (.ref l1), some (.ref l2), o3] [] (n, sl, f) Q := by
  refine w_iconst (v := 0) cd_147_16 (by decide) ?_
  exact w_ireturn_z cd_147_17 (by decide +kernel) (by decide) h4
theorem b_147_18 {d : Nat} {Q : (Option Value ⊕ Nat) → mi_H → Prop} (n sl : Nat) (f : Nat → mi_C) {l1 : Nat} {l2 : Nat} {o3 : Option Value} (h4 : mi_W d 147 20 [some (.ref l1), some (.ref l2), some (.int 0)] [] (n, sl, f) Q) : mi_W d 147 18 [some (.ref l1), some (.ref l2), o3] [] (n, sl, f) Q := by
  refine w_iconst (v := 0) cd_147_18 (by decide) ?_
  refine w_istore_n (ls' := [some (.ref l1), some (.ref l2), some (.int 0)]) cd_147_19 (Nat.le_of_ble_eq_true rfl) rfl ?_
  exact h4
theorem b_147_20 {d : Nat} {Q : (Option Value ⊕ Nat) → mi_H → Prop} (n sl : Nat) (f : Nat → mi_C) {l1 : Nat} {l2 : Nat} {l3 : Int32} {fs4 : List Value} (h5 : f l2 = .inr (17, fs4)) (h6 : l2 < n ∨ (mi_SC < l2 ∧ (l2 - mi_SC - 1) / 2 < mt_ns)) (h7 : mi_W d 148 0 (mi_en 1 [.ref l2]) [] (n, sl, f) (mi_Kc d 147 22 [some (.ref l1), some (.ref l2), some (.int l3)] [.int l3] Q)) : mi_W (d + 1) 147 20 [some (.ref l1), some (.ref l2), some (.int l3)] [] (n, sl, f) Q := by
  refine w_iload_n cd_147_20 rfl ?_
  refine w_aload_n cd_147_21 rfl ?_
  exact w_invokevirtual cd_147_22 (show mt_m 12 302 = some (148, 0) by decide +kernel) (rest := [.int l3]) rfl (as := [.ref l2]) rfl h5 h6 ⟨Nat.le_of_ble_eq_true rfl, Nat.le_of_ble_eq_true rfl, Nat.le_of_ble_eq_true rfl⟩ h7
theorem b_147_25 {d : Nat} {Q : (Option Value ⊕ Nat) → mi_H → Prop} (n sl : Nat) (f : Nat → mi_C) {l1 : Nat} {l2 : Nat} {l3 : Int32} {s4 : Int32} {s5 : Int32} (h6 : s4 ≤ s5 → mi_W d 147 55 [some (.ref l1), some (.ref l2), some (.int l3)] [] (n, sl, f) Q) (h7 : ¬ (s4 ≤ s5) → mi_W d 147 28 [some (.ref l1), some (.ref l2), some (.int l3)] [] (n, sl, f) Q) : mi_W d 147 25 [some (.ref l1), some (.ref l2), some (.int l3)] [.int s4, .int s5] (n, sl, f) Q := by
  exact w_if_icmpge cd_147_25 (by decide) h6 h7
theorem b_147_28 {d : Nat} {Q : (Option Value ⊕ Nat) → mi_H → Prop} (n sl : Nat) (f : Nat → mi_C) {l1 : Nat} {l2 : Nat} {l3 : Int32} {fs4 : List Value} {x7 : Nat} {fs9 : List Value} {x12 : Int32} (m14 i14 : Nat) (g14 : Nat → Int32) {fs18 : List Value} (h5 : f l1 = .inr (12, fs4)) (h6 : l1 < n) (h8 : fs4[6]? = some (.ref x7)) (h10 : f l1 = .inr (12, fs9)) (h11 : l1 < n) (h13 : fs9[9]? = some (.int x12)) (h15 : f x7 = .inl (0, m14, .inl g14)) (h16 : x7 < n ∨ x7 = mi_SC) (h17 : mi_ix (x12 + l3) m14 i14) (h19 : f l2 = .inr (17, fs18)) (h20 : l2 < n ∨ (mi_SC < l2 ∧ (l2 - mi_SC - 1) / 2 < mt_ns)) (h21 : mi_W d 29 0 (mi_en 2 [.ref l2, .int l3]) [] (n, sl, f) (mi_Kc d 147 41 [some (.ref l1), some (.ref l2), some (.int l3)] [.int (g14 i14)] Q)) : mi_W (d + 1) 147 28 [some (.ref l1), some (.ref l2), some (.int l3)] [] (n, sl, f) Q := by
  refine w_aload_n cd_147_28 rfl ?_
  refine w_getfield cd_147_29 (show mt_f 12 20 = some (12, 6) by decide +kernel) h5 h6 h8 ?_
  refine w_aload_n cd_147_32 rfl ?_
  refine w_getfield cd_147_33 (show mt_f 12 299 = some (12, 9) by decide +kernel) h10 h11 h13 ?_
  refine w_iload_n cd_147_36 rfl ?_
  refine w_iadd cd_147_37 ?_
  refine w_iaload cd_147_38 h15 h16 h17 ?_
  refine w_aload_n cd_147_39 rfl ?_
  refine w_iload_n cd_147_40 rfl ?_
  exact w_invokevirtual cd_147_41 (show mt_m 12 306 = some (29, 0) by decide +kernel) (rest := [.int (g14 i14)]) rfl (as := [.ref l2, .int l3]) rfl h19 h20 ⟨Nat.le_of_ble_eq_true rfl, Nat.le_of_ble_eq_true rfl, Nat.le_of_ble_eq_true rfl⟩ h21
theorem b_147_44 {d : Nat} {Q : (Option Value ⊕ Nat) → mi_H → Prop} (n sl : Nat) (f : Nat → mi_C) {l1 : Nat} {l2 : Nat} {l3 : Int32} {s4 : Int32} {s5 : Int32} (h6 : s5 = s4 → mi_W d 147 49 [some (.ref l1), some (.ref l2), some (.int l3)] [] (n, sl, f) Q) (h7 : ¬ (s5 = s4) → mi_W d 147 47 [some (.ref l1), some (.ref l2), some (.int l3)] [] (n, sl, f) Q) : mi_W d 147 44 [some (.ref l1), some (.ref l2), some (.int l3)] [.int s4, .int s5] (n, sl, f) Q := by
  exact w_if_icmpeq cd_147_44 (by decide) h6 h7
theorem b_147_47 {d : Nat} {Q : (Option Value ⊕ Nat) → mi_H → Prop} (n sl : Nat) (f : Nat → mi_C) {l1 : Nat} {l2 : Nat} {l3 : Int32} (h4 : Q (.inl (some (.int 0))) (n, sl, f)) : mi_W d 147 47 [some (.ref l1), some (.ref l2), some (.int l3)] [] (n, sl, f) Q := by
  refine w_iconst (v := 0) cd_147_47 (by decide) ?_
  exact w_ireturn_z cd_147_48 (by decide +kernel) (by decide) h4
theorem b_147_49 {d : Nat} {Q : (Option Value ⊕ Nat) → mi_H → Prop} (n sl : Nat) (f : Nat → mi_C) {l1 : Nat} {l2 : Nat} {l3 : Int32} (h4 : mi_W d 147 20 [some (.ref l1), some (.ref l2), some (.int (l3 + 1))] [] (n, sl, f) Q) : mi_W d 147 49 [some (.ref l1), some (.ref l2), some (.int l3)] [] (n, sl, f) Q := by
  refine w_iinc (v := 1) (ls' := [some (.ref l1), some (.ref l2), some (.int (l3 + 1))]) cd_147_49 rfl (by decide) rfl ?_
  exact w_goto cd_147_52 (by decide) h4
theorem b_147_55 {d : Nat} {Q : (Option Value ⊕ Nat) → mi_H → Prop} (n sl : Nat) (f : Nat → mi_C) {l1 : Nat} {l2 : Nat} {l3 : Int32} (h4 : Q (.inl (some (.int 1))) (n, sl, f)) : mi_W d 147 55 [some (.ref l1), some (.ref l2), some (.int l3)] [] (n, sl, f) Q := by
  refine w_iconst (v := 1) cd_147_55 (by decide) ?_
  exact w_ireturn_z cd_147_56 (by decide +kernel) (by decide) h4
/-! MarloweHostModel.contract()I -/
set_option maxRecDepth 100000 in
theorem mq_150 : mt_q 150 = my_150 := rfl
set_option maxRecDepth 100000 in
theorem ci_150 : mt_inc 0 my_150.cd = true := by decide +kernel
theorem cd_150_0 : mt_cd 150 0 = some (.aload_n 0) := mt_cd_of (q := (0, .aload_n 0, 1)) mq_150 ci_150 (List.mem_append_left _ (show _ ∈ my_150_0 from List.mem_of_getElem? (i := 0) rfl))
theorem cd_150_1 : mt_cd 150 1 = some (.ldc_w 373) := mt_cd_of (q := (1, .ldc_w 373, 3)) mq_150 ci_150 (List.mem_append_left _ (show _ ∈ my_150_0 from List.mem_of_getElem? (i := 1) rfl))
theorem cd_150_4 : mt_cd 150 4 = some (.invokevirtual 375) := mt_cd_of (q := (4, .invokevirtual 375, 3)) mq_150 ci_150 (List.mem_append_left _ (show _ ∈ my_150_0 from List.mem_of_getElem? (i := 2) rfl))
theorem cd_150_7 : mt_cd 150 7 = some (.ifCond .eq 58) := mt_cd_of (q := (7, .ifCond .eq 58, 3)) mq_150 ci_150 (List.mem_append_left _ (show _ ∈ my_150_0 from List.mem_of_getElem? (i := 3) rfl))
theorem cd_150_10 : mt_cd 150 10 = some (.aload_n 0) := mt_cd_of (q := (10, .aload_n 0, 1)) mq_150 ci_150 (List.mem_append_left _ (show _ ∈ my_150_0 from List.mem_of_getElem? (i := 4) rfl))
theorem cd_150_11 : mt_cd 150 11 = some (.invokevirtual 378) := mt_cd_of (q := (11, .invokevirtual 378, 3)) mq_150 ci_150 (List.mem_append_left _ (show _ ∈ my_150_0 from List.mem_of_getElem? (i := 5) rfl))
theorem cd_150_14 : mt_cd 150 14 = some (.ifCond .eq 10) := mt_cd_of (q := (14, .ifCond .eq 10, 3)) mq_150 ci_150 (List.mem_append_left _ (show _ ∈ my_150_0 from List.mem_of_getElem? (i := 6) rfl))
theorem cd_150_17 : mt_cd 150 17 = some (.aload_n 0) := mt_cd_of (q := (17, .aload_n 0, 1)) mq_150 ci_150 (List.mem_append_left _ (show _ ∈ my_150_0 from List.mem_of_getElem? (i := 7) rfl))
theorem cd_150_18 : mt_cd 150 18 = some (.invokevirtual 333) := mt_cd_of (q := (18, .invokevirtual 333, 3)) mq_150 ci_150 (List.mem_append_left _ (show _ ∈ my_150_0 from List.mem_of_getElem? (i := 8) rfl))
theorem cd_150_21 : mt_cd 150 21 = some (.ifCond .ne 5) := mt_cd_of (q := (21, .ifCond .ne 5, 3)) mq_150 ci_150 (List.mem_append_left _ (show _ ∈ my_150_0 from List.mem_of_getElem? (i := 9) rfl))
theorem cd_150_24 : mt_cd 150 24 = some (.iconst (-1)) := mt_cd_of (q := (24, .iconst (-1), 1)) mq_150 ci_150 (List.mem_append_left _ (show _ ∈ my_150_0 from List.mem_of_getElem? (i := 10) rfl))
theorem cd_150_25 : mt_cd 150 25 = some (.ireturn) := mt_cd_of (q := (25, .ireturn, 1)) mq_150 ci_150 (List.mem_append_left _ (show _ ∈ my_150_0 from List.mem_of_getElem? (i := 11) rfl))
theorem cd_150_26 : mt_cd 150 26 = some (.aload_n 0) := mt_cd_of (q := (26, .aload_n 0, 1)) mq_150 ci_150 (List.mem_append_left _ (show _ ∈ my_150_0 from List.mem_of_getElem? (i := 12) rfl))
theorem cd_150_27 : mt_cd 150 27 = some (.invokevirtual 355) := mt_cd_of (q := (27, .invokevirtual 355, 3)) mq_150 ci_150 (List.mem_append_left _ (show _ ∈ my_150_0 from List.mem_of_getElem? (i := 13) rfl))
theorem cd_150_30 : mt_cd 150 30 = some (.istore_n 1) := mt_cd_of (q := (30, .istore_n 1, 1)) mq_150 ci_150 (List.mem_append_left _ (show _ ∈ my_150_0 from List.mem_of_getElem? (i := 14) rfl))
theorem cd_150_31 : mt_cd 150 31 = some (.aload_n 0) := mt_cd_of (q := (31, .aload_n 0, 1)) mq_150 ci_150 (List.mem_append_left _ (show _ ∈ my_150_0 from List.mem_of_getElem? (i := 15) rfl))
theorem cd_150_32 : mt_cd 150 32 = some (.dup) := mt_cd_of (q := (32, .dup, 1)) mq_150 ci_150 (List.mem_append_left _ (show _ ∈ my_150_0 from List.mem_of_getElem? (i := 16) rfl))
theorem cd_150_33 : mt_cd 150 33 = some (.getfield 337) := mt_cd_of (q := (33, .getfield 337, 3)) mq_150 ci_150 (List.mem_append_left _ (show _ ∈ my_150_0 from List.mem_of_getElem? (i := 17) rfl))
theorem cd_150_36 : mt_cd 150 36 = some (.iconst 1) := mt_cd_of (q := (36, .iconst 1, 1)) mq_150 ci_150 (List.mem_append_left _ (show _ ∈ my_150_0 from List.mem_of_getElem? (i := 18) rfl))
theorem cd_150_37 : mt_cd 150 37 = some (.isub) := mt_cd_of (q := (37, .isub, 1)) mq_150 ci_150 (List.mem_append_left _ (show _ ∈ my_150_0 from List.mem_of_getElem? (i := 19) rfl))
theorem cd_150_38 : mt_cd 150 38 = some (.putfield 337) := mt_cd_of (q := (38, .putfield 337, 3)) mq_150 ci_150 (List.mem_append_left _ (show _ ∈ my_150_0 from List.mem_of_getElem? (i := 20) rfl))
theorem cd_150_41 : mt_cd 150 41 = some (.iload_n 1) := mt_cd_of (q := (41, .iload_n 1, 1)) mq_150 ci_150 (List.mem_append_left _ (show _ ∈ my_150_0 from List.mem_of_getElem? (i := 21) rfl))
theorem cd_150_42 : mt_cd 150 42 = some (.ifCond .lt 21) := mt_cd_of (q := (42, .ifCond .lt 21, 3)) mq_150 ci_150 (List.mem_append_left _ (show _ ∈ my_150_0 from List.mem_of_getElem? (i := 22) rfl))
theorem cd_150_45 : mt_cd 150 45 = some (.aload_n 0) := mt_cd_of (q := (45, .aload_n 0, 1)) mq_150 ci_150 (List.mem_append_left _ (show _ ∈ my_150_0 from List.mem_of_getElem? (i := 23) rfl))
theorem cd_150_46 : mt_cd 150 46 = some (.aload_n 0) := mt_cd_of (q := (46, .aload_n 0, 1)) mq_150 ci_150 (List.mem_append_left _ (show _ ∈ my_150_0 from List.mem_of_getElem? (i := 24) rfl))
theorem cd_150_47 : mt_cd 150 47 = some (.ldc_w 381) := mt_cd_of (q := (47, .ldc_w 381, 3)) mq_150 ci_150 (List.mem_append_left _ (show _ ∈ my_150_0 from List.mem_of_getElem? (i := 25) rfl))
theorem cd_150_50 : mt_cd 150 50 = some (.invokevirtual 375) := mt_cd_of (q := (50, .invokevirtual 375, 3)) mq_150 ci_150 (List.mem_append_left _ (show _ ∈ my_150_0 from List.mem_of_getElem? (i := 26) rfl))
theorem cd_150_53 : mt_cd 150 53 = some (.invokevirtual 383) := mt_cd_of (q := (53, .invokevirtual 383, 3)) mq_150 ci_150 (List.mem_append_left _ (show _ ∈ my_150_0 from List.mem_of_getElem? (i := 27) rfl))
theorem cd_150_56 : mt_cd 150 56 = some (.ifCond .eq 7) := mt_cd_of (q := (56, .ifCond .eq 7, 3)) mq_150 ci_150 (List.mem_append_left _ (show _ ∈ my_150_0 from List.mem_of_getElem? (i := 28) rfl))
theorem cd_150_59 : mt_cd 150 59 = some (.iload_n 1) := mt_cd_of (q := (59, .iload_n 1, 1)) mq_150 ci_150 (List.mem_append_left _ (show _ ∈ my_150_0 from List.mem_of_getElem? (i := 29) rfl))
theorem cd_150_60 : mt_cd 150 60 = some (.goto 4) := mt_cd_of (q := (60, .goto 4, 3)) mq_150 ci_150 (List.mem_append_left _ (show _ ∈ my_150_0 from List.mem_of_getElem? (i := 30) rfl))
theorem cd_150_63 : mt_cd 150 63 = some (.iconst (-1)) := mt_cd_of (q := (63, .iconst (-1), 1)) mq_150 ci_150 (List.mem_append_left _ (show _ ∈ my_150_0 from List.mem_of_getElem? (i := 31) rfl))
theorem cd_150_64 : mt_cd 150 64 = some (.ireturn) := mt_cd_of (q := (64, .ireturn, 1)) mq_150 ci_150 (List.mem_append_left _ (show _ ∈ my_150_0 from List.mem_of_getElem? (i := 32) rfl))
theorem cd_150_65 : mt_cd 150 65 = some (.aload_n 0) := mt_cd_of (q := (65, .aload_n 0, 1)) mq_150 ci_150 (List.mem_append_left _ (show _ ∈ my_150_0 from List.mem_of_getElem? (i := 33) rfl))
theorem cd_150_66 : mt_cd 150 66 = some (.ldc 25) := mt_cd_of (q := (66, .ldc 25, 2)) mq_150 ci_150 (List.mem_append_left _ (show _ ∈ my_150_0 from List.mem_of_getElem? (i := 34) rfl))
theorem cd_150_68 : mt_cd 150 68 = some (.invokevirtual 387) := mt_cd_of (q := (68, .invokevirtual 387, 3)) mq_150 ci_150 (List.mem_append_left _ (show _ ∈ my_150_0 from List.mem_of_getElem? (i := 35) rfl))
theorem cd_150_71 : mt_cd 150 71 = some (.ifCond .eq 7) := mt_cd_of (q := (71, .ifCond .eq 7, 3)) mq_150 ci_150 (List.mem_append_left _ (show _ ∈ my_150_0 from List.mem_of_getElem? (i := 36) rfl))
theorem cd_150_74 : mt_cd 150 74 = some (.iconst 0) := mt_cd_of (q := (74, .iconst 0, 1)) mq_150 ci_150 (List.mem_append_left _ (show _ ∈ my_150_0 from List.mem_of_getElem? (i := 37) rfl))
theorem cd_150_75 : mt_cd 150 75 = some (.goto 70) := mt_cd_of (q := (75, .goto 70, 3)) mq_150 ci_150 (List.mem_append_left _ (show _ ∈ my_150_0 from List.mem_of_getElem? (i := 38) rfl))
theorem cd_150_78 : mt_cd 150 78 = some (.aload_n 0) := mt_cd_of (q := (78, .aload_n 0, 1)) mq_150 ci_150 (List.mem_append_left _ (show _ ∈ my_150_0 from List.mem_of_getElem? (i := 39) rfl))
theorem cd_150_79 : mt_cd 150 79 = some (.ldc 27) := mt_cd_of (q := (79, .ldc 27, 2)) mq_150 ci_150 (List.mem_append_left _ (show _ ∈ my_150_0 from List.mem_of_getElem? (i := 40) rfl))
theorem cd_150_81 : mt_cd 150 81 = some (.invokevirtual 387) := mt_cd_of (q := (81, .invokevirtual 387, 3)) mq_150 ci_150 (List.mem_append_left _ (show _ ∈ my_150_0 from List.mem_of_getElem? (i := 41) rfl))
theorem cd_150_84 : mt_cd 150 84 = some (.ifCond .eq 7) := mt_cd_of (q := (84, .ifCond .eq 7, 3)) mq_150 ci_150 (List.mem_append_left _ (show _ ∈ my_150_0 from List.mem_of_getElem? (i := 42) rfl))
theorem cd_150_87 : mt_cd 150 87 = some (.iconst 1) := mt_cd_of (q := (87, .iconst 1, 1)) mq_150 ci_150 (List.mem_append_left _ (show _ ∈ my_150_0 from List.mem_of_getElem? (i := 43) rfl))
theorem cd_150_88 : mt_cd 150 88 = some (.goto 57) := mt_cd_of (q := (88, .goto 57, 3)) mq_150 ci_150 (List.mem_append_left _ (show _ ∈ my_150_0 from List.mem_of_getElem? (i := 44) rfl))
theorem cd_150_91 : mt_cd 150 91 = some (.aload_n 0) := mt_cd_of (q := (91, .aload_n 0, 1)) mq_150 ci_150 (List.mem_append_left _ (show _ ∈ my_150_0 from List.mem_of_getElem? (i := 45) rfl))
theorem cd_150_92 : mt_cd 150 92 = some (.ldc 33) := mt_cd_of (q := (92, .ldc 33, 2)) mq_150 ci_150 (List.mem_append_left _ (show _ ∈ my_150_0 from List.mem_of_getElem? (i := 46) rfl))
theorem cd_150_94 : mt_cd 150 94 = some (.invokevirtual 387) := mt_cd_of (q := (94, .invokevirtual 387, 3)) mq_150 ci_150 (List.mem_append_left _ (show _ ∈ my_150_0 from List.mem_of_getElem? (i := 47) rfl))
theorem cd_150_97 : mt_cd 150 97 = some (.ifCond .eq 7) := mt_cd_of (q := (97, .ifCond .eq 7, 3)) mq_150 ci_150 (List.mem_append_left _ (show _ ∈ my_150_0 from List.mem_of_getElem? (i := 48) rfl))
theorem cd_150_100 : mt_cd 150 100 = some (.iconst 3) := mt_cd_of (q := (100, .iconst 3, 1)) mq_150 ci_150 (List.mem_append_left _ (show _ ∈ my_150_0 from List.mem_of_getElem? (i := 49) rfl))
theorem cd_150_101 : mt_cd 150 101 = some (.goto 44) := mt_cd_of (q := (101, .goto 44, 3)) mq_150 ci_150 (List.mem_append_left _ (show _ ∈ my_150_0 from List.mem_of_getElem? (i := 50) rfl))
theorem cd_150_104 : mt_cd 150 104 = some (.aload_n 0) := mt_cd_of (q := (104, .aload_n 0, 1)) mq_150 ci_150 (List.mem_append_left _ (show _ ∈ my_150_0 from List.mem_of_getElem? (i := 51) rfl))
theorem cd_150_105 : mt_cd 150 105 = some (.ldc 35) := mt_cd_of (q := (105, .ldc 35, 2)) mq_150 ci_150 (List.mem_append_left _ (show _ ∈ my_150_0 from List.mem_of_getElem? (i := 52) rfl))
theorem cd_150_107 : mt_cd 150 107 = some (.invokevirtual 387) := mt_cd_of (q := (107, .invokevirtual 387, 3)) mq_150 ci_150 (List.mem_append_left _ (show _ ∈ my_150_0 from List.mem_of_getElem? (i := 53) rfl))
theorem cd_150_110 : mt_cd 150 110 = some (.ifCond .eq 7) := mt_cd_of (q := (110, .ifCond .eq 7, 3)) mq_150 ci_150 (List.mem_append_left _ (show _ ∈ my_150_0 from List.mem_of_getElem? (i := 54) rfl))
theorem cd_150_113 : mt_cd 150 113 = some (.iconst 4) := mt_cd_of (q := (113, .iconst 4, 1)) mq_150 ci_150 (List.mem_append_left _ (show _ ∈ my_150_0 from List.mem_of_getElem? (i := 55) rfl))
theorem cd_150_114 : mt_cd 150 114 = some (.goto 31) := mt_cd_of (q := (114, .goto 31, 3)) mq_150 ci_150 (List.mem_append_left _ (show _ ∈ my_150_0 from List.mem_of_getElem? (i := 56) rfl))
theorem cd_150_117 : mt_cd 150 117 = some (.aload_n 0) := mt_cd_of (q := (117, .aload_n 0, 1)) mq_150 ci_150 (List.mem_append_left _ (show _ ∈ my_150_0 from List.mem_of_getElem? (i := 57) rfl))
theorem cd_150_118 : mt_cd 150 118 = some (.ldc 37) := mt_cd_of (q := (118, .ldc 37, 2)) mq_150 ci_150 (List.mem_append_left _ (show _ ∈ my_150_0 from List.mem_of_getElem? (i := 58) rfl))
theorem cd_150_120 : mt_cd 150 120 = some (.invokevirtual 387) := mt_cd_of (q := (120, .invokevirtual 387, 3)) mq_150 ci_150 (List.mem_append_left _ (show _ ∈ my_150_0 from List.mem_of_getElem? (i := 59) rfl))
theorem cd_150_123 : mt_cd 150 123 = some (.ifCond .eq 7) := mt_cd_of (q := (123, .ifCond .eq 7, 3)) mq_150 ci_150 (List.mem_append_right _ ((show _ ∈ my_150_1 from List.mem_of_getElem? (i := 0) rfl)))
theorem cd_150_126 : mt_cd 150 126 = some (.iconst 5) := mt_cd_of (q := (126, .iconst 5, 1)) mq_150 ci_150 (List.mem_append_right _ ((show _ ∈ my_150_1 from List.mem_of_getElem? (i := 1) rfl)))
theorem cd_150_127 : mt_cd 150 127 = some (.goto 18) := mt_cd_of (q := (127, .goto 18, 3)) mq_150 ci_150 (List.mem_append_right _ ((show _ ∈ my_150_1 from List.mem_of_getElem? (i := 2) rfl)))
theorem cd_150_130 : mt_cd 150 130 = some (.aload_n 0) := mt_cd_of (q := (130, .aload_n 0, 1)) mq_150 ci_150 (List.mem_append_right _ ((show _ ∈ my_150_1 from List.mem_of_getElem? (i := 3) rfl)))
theorem cd_150_131 : mt_cd 150 131 = some (.ldc 39) := mt_cd_of (q := (131, .ldc 39, 2)) mq_150 ci_150 (List.mem_append_right _ ((show _ ∈ my_150_1 from List.mem_of_getElem? (i := 4) rfl)))
theorem cd_150_133 : mt_cd 150 133 = some (.invokevirtual 387) := mt_cd_of (q := (133, .invokevirtual 387, 3)) mq_150 ci_150 (List.mem_append_right _ ((show _ ∈ my_150_1 from List.mem_of_getElem? (i := 5) rfl)))
theorem cd_150_136 : mt_cd 150 136 = some (.ifCond .eq 8) := mt_cd_of (q := (136, .ifCond .eq 8, 3)) mq_150 ci_150 (List.mem_append_right _ ((show _ ∈ my_150_1 from List.mem_of_getElem? (i := 6) rfl)))
theorem cd_150_139 : mt_cd 150 139 = some (.bipush 6) := mt_cd_of (q := (139, .bipush 6, 2)) mq_150 ci_150 (List.mem_append_right _ ((show _ ∈ my_150_1 from List.mem_of_getElem? (i := 7) rfl)))
theorem cd_150_141 : mt_cd 150 141 = some (.goto 4) := mt_cd_of (q := (141, .goto 4, 3)) mq_150 ci_150 (List.mem_append_right _ ((show _ ∈ my_150_1 from List.mem_of_getElem? (i := 8) rfl)))
theorem cd_150_144 : mt_cd 150 144 = some (.iconst (-1)) := mt_cd_of (q := (144, .iconst (-1), 1)) mq_150 ci_150 (List.mem_append_right _ ((show _ ∈ my_150_1 from List.mem_of_getElem? (i := 9) rfl)))
theorem cd_150_145 : mt_cd 150 145 = some (.istore_n 1) := mt_cd_of (q := (145, .istore_n 1, 1)) mq_150 ci_150 (List.mem_append_right _ ((show _ ∈ my_150_1 from List.mem_of_getElem? (i := 10) rfl)))
theorem cd_150_146 : mt_cd 150 146 = some (.iload_n 1) := mt_cd_of (q := (146, .iload_n 1, 1)) mq_150 ci_150 (List.mem_append_right _ ((show _ ∈ my_150_1 from List.mem_of_getElem? (i := 11) rfl)))
theorem cd_150_147 : mt_cd 150 147 = some (.ifCond .ge 14) := mt_cd_of (q := (147, .ifCond .ge 14, 3)) mq_150 ci_150 (List.mem_append_right _ ((show _ ∈ my_150_1 from List.mem_of_getElem? (i := 12) rfl)))
theorem cd_150_150 : mt_cd 150 150 = some (.aload_n 0) := mt_cd_of (q := (150, .aload_n 0, 1)) mq_150 ci_150 (List.mem_append_right _ ((show _ ∈ my_150_1 from List.mem_of_getElem? (i := 13) rfl)))
theorem cd_150_151 : mt_cd 150 151 = some (.aload_n 0) := mt_cd_of (q := (151, .aload_n 0, 1)) mq_150 ci_150 (List.mem_append_right _ ((show _ ∈ my_150_1 from List.mem_of_getElem? (i := 14) rfl)))
theorem cd_150_152 : mt_cd 150 152 = some (.getfield 299) := mt_cd_of (q := (152, .getfield 299, 3)) mq_150 ci_150 (List.mem_append_right _ ((show _ ∈ my_150_1 from List.mem_of_getElem? (i := 15) rfl)))
theorem cd_150_155 : mt_cd 150 155 = some (.invokevirtual 272) := mt_cd_of (q := (155, .invokevirtual 272, 3)) mq_150 ci_150 (List.mem_append_right _ ((show _ ∈ my_150_1 from List.mem_of_getElem? (i := 16) rfl)))
theorem cd_150_158 : mt_cd 150 158 = some (.pop) := mt_cd_of (q := (158, .pop, 1)) mq_150 ci_150 (List.mem_append_right _ ((show _ ∈ my_150_1 from List.mem_of_getElem? (i := 17) rfl)))
theorem cd_150_159 : mt_cd 150 159 = some (.iconst (-1)) := mt_cd_of (q := (159, .iconst (-1), 1)) mq_150 ci_150 (List.mem_append_right _ ((show _ ∈ my_150_1 from List.mem_of_getElem? (i := 18) rfl)))
theorem cd_150_160 : mt_cd 150 160 = some (.ireturn) := mt_cd_of (q := (160, .ireturn, 1)) mq_150 ci_150 (List.mem_append_right _ ((show _ ∈ my_150_1 from List.mem_of_getElem? (i := 19) rfl)))
theorem cd_150_161 : mt_cd 150 161 = some (.aload_n 0) := mt_cd_of (q := (161, .aload_n 0, 1)) mq_150 ci_150 (List.mem_append_right _ ((show _ ∈ my_150_1 from List.mem_of_getElem? (i := 20) rfl)))
theorem cd_150_162 : mt_cd 150 162 = some (.invokevirtual 378) := mt_cd_of (q := (162, .invokevirtual 378, 3)) mq_150 ci_150 (List.mem_append_right _ ((show _ ∈ my_150_1 from List.mem_of_getElem? (i := 21) rfl)))
theorem cd_150_165 : mt_cd 150 165 = some (.ifCond .ne 5) := mt_cd_of (q := (165, .ifCond .ne 5, 3)) mq_150 ci_150 (List.mem_append_right _ ((show _ ∈ my_150_1 from List.mem_of_getElem? (i := 22) rfl)))
theorem cd_150_168 : mt_cd 150 168 = some (.iconst (-1)) := mt_cd_of (q := (168, .iconst (-1), 1)) mq_150 ci_150 (List.mem_append_right _ ((show _ ∈ my_150_1 from List.mem_of_getElem? (i := 23) rfl)))
theorem cd_150_169 : mt_cd 150 169 = some (.ireturn) := mt_cd_of (q := (169, .ireturn, 1)) mq_150 ci_150 (List.mem_append_right _ ((show _ ∈ my_150_1 from List.mem_of_getElem? (i := 24) rfl)))
theorem cd_150_170 : mt_cd 150 170 = some (.aload_n 0) := mt_cd_of (q := (170, .aload_n 0, 1)) mq_150 ci_150 (List.mem_append_right _ ((show _ ∈ my_150_1 from List.mem_of_getElem? (i := 25) rfl)))
theorem cd_150_171 : mt_cd 150 171 = some (.iload_n 1) := mt_cd_of (q := (171, .iload_n 1, 1)) mq_150 ci_150 (List.mem_append_right _ ((show _ ∈ my_150_1 from List.mem_of_getElem? (i := 26) rfl)))
theorem cd_150_172 : mt_cd 150 172 = some (.invokevirtual 390) := mt_cd_of (q := (172, .invokevirtual 390, 3)) mq_150 ci_150 (List.mem_append_right _ ((show _ ∈ my_150_1 from List.mem_of_getElem? (i := 27) rfl)))
theorem cd_150_175 : mt_cd 150 175 = some (.istore_n 2) := mt_cd_of (q := (175, .istore_n 2, 1)) mq_150 ci_150 (List.mem_append_right _ ((show _ ∈ my_150_1 from List.mem_of_getElem? (i := 28) rfl)))
theorem cd_150_176 : mt_cd 150 176 = some (.iload_n 2) := mt_cd_of (q := (176, .iload_n 2, 1)) mq_150 ci_150 (List.mem_append_right _ ((show _ ∈ my_150_1 from List.mem_of_getElem? (i := 29) rfl)))
theorem cd_150_177 : mt_cd 150 177 = some (.ifCond .lt 22) := mt_cd_of (q := (177, .ifCond .lt 22, 3)) mq_150 ci_150 (List.mem_append_right _ ((show _ ∈ my_150_1 from List.mem_of_getElem? (i := 30) rfl)))
theorem cd_150_180 : mt_cd 150 180 = some (.aload_n 0) := mt_cd_of (q := (180, .aload_n 0, 1)) mq_150 ci_150 (List.mem_append_right _ ((show _ ∈ my_150_1 from List.mem_of_getElem? (i := 31) rfl)))
theorem cd_150_181 : mt_cd 150 181 = some (.invokevirtual 333) := mt_cd_of (q := (181, .invokevirtual 333, 3)) mq_150 ci_150 (List.mem_append_right _ ((show _ ∈ my_150_1 from List.mem_of_getElem? (i := 32) rfl)))
theorem cd_150_184 : mt_cd 150 184 = some (.ifCond .eq 15) := mt_cd_of (q := (184, .ifCond .eq 15, 3)) mq_150 ci_150 (List.mem_append_right _ ((show _ ∈ my_150_1 from List.mem_of_getElem? (i := 33) rfl)))
theorem cd_150_187 : mt_cd 150 187 = some (.aload_n 0) := mt_cd_of (q := (187, .aload_n 0, 1)) mq_150 ci_150 (List.mem_append_right _ ((show _ ∈ my_150_1 from List.mem_of_getElem? (i := 34) rfl)))
theorem cd_150_188 : mt_cd 150 188 = some (.iload_n 2) := mt_cd_of (q := (188, .iload_n 2, 1)) mq_150 ci_150 (List.mem_append_right _ ((show _ ∈ my_150_1 from List.mem_of_getElem? (i := 35) rfl)))
theorem cd_150_189 : mt_cd 150 189 = some (.invokevirtual 393) := mt_cd_of (q := (189, .invokevirtual 393, 3)) mq_150 ci_150 (List.mem_append_right _ ((show _ ∈ my_150_1 from List.mem_of_getElem? (i := 36) rfl)))
theorem cd_150_192 : mt_cd 150 192 = some (.ifCond .eq 7) := mt_cd_of (q := (192, .ifCond .eq 7, 3)) mq_150 ci_150 (List.mem_append_right _ ((show _ ∈ my_150_1 from List.mem_of_getElem? (i := 37) rfl)))
theorem cd_150_195 : mt_cd 150 195 = some (.iconst 1) := mt_cd_of (q := (195, .iconst 1, 1)) mq_150 ci_150 (List.mem_append_right _ ((show _ ∈ my_150_1 from List.mem_of_getElem? (i := 38) rfl)))
theorem cd_150_196 : mt_cd 150 196 = some (.goto 4) := mt_cd_of (q := (196, .goto 4, 3)) mq_150 ci_150 (List.mem_append_right _ ((show _ ∈ my_150_1 from List.mem_of_getElem? (i := 39) rfl)))
theorem cd_150_199 : mt_cd 150 199 = some (.iconst 0) := mt_cd_of (q := (199, .iconst 0, 1)) mq_150 ci_150 (List.mem_append_right _ ((show _ ∈ my_150_1 from List.mem_of_getElem? (i := 40) rfl)))
theorem cd_150_200 : mt_cd 150 200 = some (.istore_n 3) := mt_cd_of (q := (200, .istore_n 3, 1)) mq_150 ci_150 (List.mem_append_right _ ((show _ ∈ my_150_1 from List.mem_of_getElem? (i := 41) rfl)))
theorem cd_150_201 : mt_cd 150 201 = some (.aload_n 0) := mt_cd_of (q := (201, .aload_n 0, 1)) mq_150 ci_150 (List.mem_append_right _ ((show _ ∈ my_150_1 from List.mem_of_getElem? (i := 42) rfl)))
theorem cd_150_202 : mt_cd 150 202 = some (.dup) := mt_cd_of (q := (202, .dup, 1)) mq_150 ci_150 (List.mem_append_right _ ((show _ ∈ my_150_1 from List.mem_of_getElem? (i := 43) rfl)))
theorem cd_150_203 : mt_cd 150 203 = some (.getfield 337) := mt_cd_of (q := (203, .getfield 337, 3)) mq_150 ci_150 (List.mem_append_right _ ((show _ ∈ my_150_1 from List.mem_of_getElem? (i := 44) rfl)))
theorem cd_150_206 : mt_cd 150 206 = some (.iconst 1) := mt_cd_of (q := (206, .iconst 1, 1)) mq_150 ci_150 (List.mem_append_right _ ((show _ ∈ my_150_1 from List.mem_of_getElem? (i := 45) rfl)))
theorem cd_150_207 : mt_cd 150 207 = some (.isub) := mt_cd_of (q := (207, .isub, 1)) mq_150 ci_150 (List.mem_append_right _ ((show _ ∈ my_150_1 from List.mem_of_getElem? (i := 46) rfl)))
theorem cd_150_208 : mt_cd 150 208 = some (.putfield 337) := mt_cd_of (q := (208, .putfield 337, 3)) mq_150 ci_150 (List.mem_append_right _ ((show _ ∈ my_150_1 from List.mem_of_getElem? (i := 47) rfl)))
theorem cd_150_211 : mt_cd 150 211 = some (.iload_n 3) := mt_cd_of (q := (211, .iload_n 3, 1)) mq_150 ci_150 (List.mem_append_right _ ((show _ ∈ my_150_1 from List.mem_of_getElem? (i := 48) rfl)))
theorem cd_150_212 : mt_cd 150 212 = some (.ifCond .eq 7) := mt_cd_of (q := (212, .ifCond .eq 7, 3)) mq_150 ci_150 (List.mem_append_right _ ((show _ ∈ my_150_1 from List.mem_of_getElem? (i := 49) rfl)))
theorem cd_150_215 : mt_cd 150 215 = some (.iload_n 2) := mt_cd_of (q := (215, .iload_n 2, 1)) mq_150 ci_150 (List.mem_append_right _ ((show _ ∈ my_150_1 from List.mem_of_getElem? (i := 50) rfl)))
theorem cd_150_216 : mt_cd 150 216 = some (.goto 4) := mt_cd_of (q := (216, .goto 4, 3)) mq_150 ci_150 (List.mem_append_right _ ((show _ ∈ my_150_1 from List.mem_of_getElem? (i := 51) rfl)))
theorem cd_150_219 : mt_cd 150 219 = some (.iconst (-1)) := mt_cd_of (q := (219, .iconst (-1), 1)) mq_150 ci_150 (List.mem_append_right _ ((show _ ∈ my_150_1 from List.mem_of_getElem? (i := 52) rfl)))
theorem cd_150_220 : mt_cd 150 220 = some (.ireturn) := mt_cd_of (q := (220, .ireturn, 1)) mq_150 ci_150 (List.mem_append_right _ ((show _ ∈ my_150_1 from List.mem_of_getElem? (i := 53) rfl)))
theorem b_150_0 {d : Nat} {Q : (Option Value ⊕ Nat) → mi_H → Prop} (n sl : Nat) (f : Nat → mi_C) {l1 : Nat} {o2 : Option Value} {o3 : Option Value} {o4 : Option Value} {fs5 : List Value} (h6 : f l1 = .inr (12, fs5)) (h7 : l1 < n) (h8 : mi_W d 151 0 (mi_en 2 [.ref l1, .ref (mi_SC + 1 + 2 * 40)]) [] (n, sl, f) (mi_Kc d 150 4 [some (.ref l1), o2, o3, o4] [] Q)) : mi_W (d + 1) 150 0 [some (.ref l1), o2, o3, o4] [] (n, sl, f) Q := by
  refine w_aload_n cd_150_0 rfl ?_
  refine w_ldc_w (n := 40) cd_150_1 (by decide +kernel) ?_
  exact w_invokevirtual cd_150_4 (show mt_m 12 375 = some (151, 0) by decide +kernel) (rest := []) rfl (as := [.ref l1, .ref (mi_SC + 1 + 2 * 40)]) rfl h6 (Or.inl h7) ⟨Nat.le_of_ble_eq_true rfl, Nat.le_of_ble_eq_true rfl, Nat.le_of_ble_eq_true rfl⟩ h8
theorem b_150_7 {d : Nat} {Q : (Option Value ⊕ Nat) → mi_H → Prop} (n sl : Nat) (f : Nat → mi_C) {l1 : Nat} {o2 : Option Value} {o3 : Option Value} {o4 : Option Value} {s5 : Int32} (h6 : s5 = (0 : Int32) → mi_W d 150 65 [some (.ref l1), o2, o3, o4] [] (n, sl, f) Q) (h7 : ¬ (s5 = (0 : Int32)) → mi_W d 150 10 [some (.ref l1), o2, o3, o4] [] (n, sl, f) Q) : mi_W d 150 7 [some (.ref l1), o2, o3, o4] [.int s5] (n, sl, f) Q := by
  exact w_ifeq cd_150_7 (by decide) h6 h7
theorem b_150_10 {d : Nat} {Q : (Option Value ⊕ Nat) → mi_H → Prop} (n sl : Nat) (f : Nat → mi_C) {l1 : Nat} {o2 : Option Value} {o3 : Option Value} {o4 : Option Value} {fs5 : List Value} (h6 : f l1 = .inr (12, fs5)) (h7 : l1 < n) (h8 : mi_W d 152 0 (mi_en 1 [.ref l1]) [] (n, sl, f) (mi_Kc d 150 11 [some (.ref l1), o2, o3, o4] [] Q)) : mi_W (d + 1) 150 10 [some (.ref l1), o2, o3, o4] [] (n, sl, f) Q := by
  refine w_aload_n cd_150_10 rfl ?_
  exact w_invokevirtual cd_150_11 (show mt_m 12 378 = some (152, 0) by decide +kernel) (rest := []) rfl (as := [.ref l1]) rfl h6 (Or.inl h7) ⟨Nat.le_of_ble_eq_true rfl, Nat.le_of_ble_eq_true rfl, Nat.le_of_ble_eq_true rfl⟩ h8
theorem b_150_14 {d : Nat} {Q : (Option Value ⊕ Nat) → mi_H → Prop} (n sl : Nat) (f : Nat → mi_C) {l1 : Nat} {o2 : Option Value} {o3 : Option Value} {o4 : Option Value} {s5 : Int32} (h6 : s5 = (0 : Int32) → mi_W d 150 24 [some (.ref l1), o2, o3, o4] [] (n, sl, f) Q) (h7 : ¬ (s5 = (0 : Int32)) → mi_W d 150 17 [some (.ref l1), o2, o3, o4] [] (n, sl, f) Q) : mi_W d 150 14 [some (.ref l1), o2, o3, o4] [.int s5] (n, sl, f) Q := by
  exact w_ifeq cd_150_14 (by decide) h6 h7
theorem b_150_17 {d : Nat} {Q : (Option Value ⊕ Nat) → mi_H → Prop} (n sl : Nat) (f : Nat → mi_C) {l1 : Nat} {o2 : Option Value} {o3 : Option Value} {o4 : Option Value} {fs5 : List Value} (h6 : f l1 = .inr (12, fs5)) (h7 : l1 < n) (h8 : mi_W d 143 0 (mi_en 4 [.ref l1]) [] (n, sl, f) (mi_Kc d 150 18 [some (.ref l1), o2, o3, o4] [] Q)) : mi_W (d + 1) 150 17 [some (.ref l1), o2, o3, o4] [] (n, sl, f) Q := by
  refine w_aload_n cd_150_17 rfl ?_
  exact w_invokevirtual cd_150_18 (show mt_m 12 333 = some (143, 0) by decide +kernel) (rest := []) rfl (as := [.ref l1]) rfl h6 (Or.inl h7) ⟨Nat.le_of_ble_eq_true rfl, Nat.le_of_ble_eq_true rfl, Nat.le_of_ble_eq_true rfl⟩ h8
theorem b_150_21 {d : Nat} {Q : (Option Value ⊕ Nat) → mi_H → Prop} (n sl : Nat) (f : Nat → mi_C) {l1 : Nat} {o2 : Option Value} {o3 : Option Value} {o4 : Option Value} {s5 : Int32} (h6 : ¬ s5 = (0 : Int32) → mi_W d 150 26 [some (.ref l1), o2, o3, o4] [] (n, sl, f) Q) (h7 : ¬ (¬ s5 = (0 : Int32)) → mi_W d 150 24 [some (.ref l1), o2, o3, o4] [] (n, sl, f) Q) : mi_W d 150 21 [some (.ref l1), o2, o3, o4] [.int s5] (n, sl, f) Q := by
  exact w_ifne cd_150_21 (by decide) h6 h7
theorem b_150_24 {d : Nat} {Q : (Option Value ⊕ Nat) → mi_H → Prop} (n sl : Nat) (f : Nat → mi_C) {l1 : Nat} {o2 : Option Value} {o3 : Option Value} {o4 : Option Value} (h5 : Q (.inl (some (.int (-1)))) (n, sl, f)) : mi_W d 150 24 [some (.ref l1), o2, o3, o4] [] (n, sl, f) Q := by
  refine w_iconst (v := (-1)) cd_150_24 (by decide) ?_
  exact w_ireturn_i cd_150_25 (by decide +kernel) h5
theorem b_150_26 {d : Nat} {Q : (Option Value ⊕ Nat) → mi_H → Prop} (n sl : Nat) (f : Nat → mi_C) {l1 : Nat} {o2 : Option Value} {o3 : Option Value} {o4 : Option Value} {fs5 : List Value} (h6 : f l1 = .inr (12, fs5)) (h7 : l1 < n) (h8 : mi_W d 150 0 (mi_en 4 [.ref l1]) [] (n, sl, f) (mi_Kc d 150 27 [some (.ref l1), o2, o3, o4] [] Q)) : mi_W (d + 1) 150 26 [some (.ref l1), o2, o3, o4] [] (n, sl, f) Q := by
  refine w_aload_n cd_150_26 rfl ?_
  exact w_invokevirtual cd_150_27 (show mt_m 12 355 = some (150, 0) by decide +kernel) (rest := []) rfl (as := [.ref l1]) rfl h6 (Or.inl h7) ⟨Nat.le_of_ble_eq_true rfl, Nat.le_of_ble_eq_true rfl, Nat.le_of_ble_eq_true rfl⟩ h8
theorem b_150_30 {d : Nat} {Q : (Option Value ⊕ Nat) → mi_H → Prop} (n sl : Nat) (f : Nat → mi_C) {l1 : Nat} {o2 : Option Value} {o3 : Option Value} {o4 : Option Value} {s5 : Int32} {fs6 : List Value} {x9 : Int32} {fs11 : List Value} (h7 : f l1 = .inr (12, fs6)) (h8 : l1 < n) (h10 : fs6[22]? = some (.int x9)) (h12 : f l1 = .inr (12, fs11)) (h13 : l1 < n) (h14 : 22 < fs11.length) (h15 : s5 < (0 : Int32) → mi_W d 150 63 [some (.ref l1), some (.int s5), o3, o4] [] (n, sl, (va_up f l1 (.inr (12, fs11.set 22 (.int (x9 - 1)))))) Q) (h16 : ¬ (s5 < (0 : Int32)) → mi_W d 150 45 [some (.ref l1), some (.int s5), o3, o4] [] (n, sl, (va_up f l1 (.inr (12, fs11.set 22 (.int (x9 - 1)))))) Q) : mi_W d 150 30 [some (.ref l1), o2, o3, o4] [.int s5] (n, sl, f) Q := by
  refine w_istore_n (ls' := [some (.ref l1), some (.int s5), o3, o4]) cd_150_30 (Nat.le_of_ble_eq_true rfl) rfl ?_
  refine w_aload_n cd_150_31 rfl ?_
  refine w_dup_r cd_150_32 ?_
  refine w_getfield cd_150_33 (show mt_f 12 337 = some (12, 22) by decide +kernel) h7 h8 h10 ?_
  refine w_iconst (v := 1) cd_150_36 (by decide) ?_
  refine w_isub cd_150_37 ?_
  refine w_putfield (w := .int (x9 - 1)) cd_150_38 (show mt_f 12 337 = some (12, 22) by decide +kernel) h12 h13 ⟨h14, rfl, Or.inl (by decide)⟩ ?_
  refine w_iload_n cd_150_41 rfl ?_
  exact w_iflt cd_150_42 (by decide) h15 h16
theorem b_150_45 {d : Nat} {Q : (Option Value ⊕ Nat) → mi_H → Prop} (n sl : Nat) (f : Nat → mi_C) {l1 : Nat} {l2 : Int32} {o3 : Option Value} {o4 : Option Value} {fs5 : List Value} (h6 : f l1 = .inr (12, fs5)) (h7 : l1 < n) (h8 : mi_W d 151 0 (mi_en 2 [.ref l1, .ref (mi_SC + 1 + 2 * 41)]) [] (n, sl, f) (mi_Kc d 150 50 [some (.ref l1), some (.int l2), o3, o4] [.ref l1] Q)) : mi_W (d + 1) 150 45 [some (.ref l1), some (.int l2), o3, o4] [] (n, sl, f) Q := by
  refine w_aload_n cd_150_45 rfl ?_
  refine w_aload_n cd_150_46 rfl ?_
  refine w_ldc_w (n := 41) cd_150_47 (by decide +kernel) ?_
  exact w_invokevirtual cd_150_50 (show mt_m 12 375 = some (151, 0) by decide +kernel) (rest := [.ref l1]) rfl (as := [.ref l1, .ref (mi_SC + 1 + 2 * 41)]) rfl h6 (Or.inl h7) ⟨Nat.le_of_ble_eq_true rfl, Nat.le_of_ble_eq_true rfl, Nat.le_of_ble_eq_true rfl⟩ h8
theorem b_150_53 {d : Nat} {Q : (Option Value ⊕ Nat) → mi_H → Prop} (n sl : Nat) (f : Nat → mi_C) {l1 : Nat} {l2 : Int32} {o3 : Option Value} {o4 : Option Value} {s5 : Int32} {s6 : Nat} {fs7 : List Value} (h8 : f s6 = .inr (12, fs7)) (h9 : s6 < n) (h10 : mi_W d 153 0 (mi_en 2 [.ref s6, .int s5]) [] (n, sl, f) (mi_Kc d 150 53 [some (.ref l1), some (.int l2), o3, o4] [] Q)) : mi_W (d + 1) 150 53 [some (.ref l1), some (.int l2), o3, o4] [.int s5, .ref s6] (n, sl, f) Q := by
  exact w_invokevirtual cd_150_53 (show mt_m 12 383 = some (153, 0) by decide +kernel) (rest := []) rfl (as := [.ref s6, .int s5]) rfl h8 (Or.inl h9) ⟨Nat.le_of_ble_eq_true rfl, Nat.le_of_ble_eq_true rfl, Nat.le_of_ble_eq_true rfl⟩ h10
theorem b_150_56 {d : Nat} {Q : (Option Value ⊕ Nat) → mi_H → Prop} (n sl : Nat) (f : Nat → mi_C) {l1 : Nat} {l2 : Int32} {o3 : Option Value} {o4 : Option Value} {s5 : Int32} (h6 : s5 = (0 : Int32) → mi_W d 150 63 [some (.ref l1), some (.int l2), o3, o4] [] (n, sl, f) Q) (h7 : ¬ (s5 = (0 : Int32)) → mi_W d 150 59 [some (.ref l1), some (.int l2), o3, o4] [] (n, sl, f) Q) : mi_W d 150 56 [some (.ref l1), some (.int l2), o3, o4] [.int s5] (n, sl, f) Q := by
  exact w_ifeq cd_150_56 (by decide) h6 h7
theorem b_150_59 {d : Nat} {Q : (Option Value ⊕ Nat) → mi_H → Prop} (n sl : Nat) (f : Nat → mi_C) {l1 : Nat} {l2 : Int32} {o3 : Option Value} {o4 : Option Value} (h5 : mi_W d 150 64 [some (.ref l1), some (.int l2), o3, o4] [.int l2] (n, sl, f) Q) : mi_W d 150 59 [some (.ref l1), some (.int l2), o3, o4] [] (n, sl, f) Q := by
  refine w_iload_n cd_150_59 rfl ?_
  exact w_goto cd_150_60 (by decide) h5
theorem b_150_63 {d : Nat} {Q : (Option Value ⊕ Nat) → mi_H → Prop} (n sl : Nat) (f : Nat → mi_C) {l1 : Nat} {l2 : Int32} {o3 : Option Value} {o4 : Option Value} (h5 : mi_W d 150 64 [some (.ref l1), some (.int l2), o3, o4] [.int (-1)] (n, sl, f) Q) : mi_W d 150 63 [some (.ref l1), some (.int l2), o3, o4] [] (n, sl, f) Q := by
  refine w_iconst (v := (-1)) cd_150_63 (by decide) ?_
  exact h5
theorem b_150_64 {d : Nat} {Q : (Option Value ⊕ Nat) → mi_H → Prop} (n sl : Nat) (f : Nat → mi_C) {l1 : Nat} {l2 : Int32} {o3 : Option Value} {o4 : Option Value} {s5 : Int32} (h6 : Q (.inl (some (.int s5))) (n, sl, f)) : mi_W d 150 64 [some (.ref l1), some (.int l2), o3, o4] [.int s5] (n, sl, f) Q := by
  exact w_ireturn_i cd_150_64 (by decide +kernel) h6
theorem b_150_65 {d : Nat} {Q : (Option Value ⊕ Nat) → mi_H → Prop} (n sl : Nat) (f : Nat → mi_C) {l1 : Nat} {o2 : Option Value} {o3 : Option Value} {o4 : Option Value} {fs5 : List Value} (h6 : f l1 = .inr (12, fs5)) (h7 : l1 < n) (h8 : mi_W d 154 0 (mi_en 2 [.ref l1, .ref (mi_SC + 1 + 2 * 16)]) [] (n, sl, f) (mi_Kc d 150 68 [some (.ref l1), o2, o3, o4] [] Q)) : mi_W (d + 1) 150 65 [some (.ref l1), o2, o3, o4] [] (n, sl, f) Q := by
  refine w_aload_n cd_150_65 rfl ?_
  refine w_ldc (n := 16) cd_150_66 (by decide +kernel) ?_
  exact w_invokevirtual cd_150_68 (show mt_m 12 387 = some (154, 0) by decide +kernel) (rest := []) rfl (as := [.ref l1, .ref (mi_SC + 1 + 2 * 16)]) rfl h6 (Or.inl h7) ⟨Nat.le_of_ble_eq_true rfl, Nat.le_of_ble_eq_true rfl, Nat.le_of_ble_eq_true rfl⟩ h8
theorem b_150_71 {d : Nat} {Q : (Option Value ⊕ Nat) → mi_H → Prop} (n sl : Nat) (f : Nat → mi_C) {l1 : Nat} {o2 : Option Value} {o3 : Option Value} {o4 : Option Value} {s5 : Int32} (h6 : s5 = (0 : Int32) → mi_W d 150 78 [some (.ref l1), o2, o3, o4] [] (n, sl, f) Q) (h7 : ¬ (s5 = (0 : Int32)) → mi_W d 150 74 [some (.ref l1), o2, o3, o4] [] (n, sl, f) Q) : mi_W d 150 71 [some (.ref l1), o2, o3, o4] [.int s5] (n, sl, f) Q := by
  exact w_ifeq cd_150_71 (by decide) h6 h7
theorem b_150_74 {d : Nat} {Q : (Option Value ⊕ Nat) → mi_H → Prop} (n sl : Nat) (f : Nat → mi_C) {l1 : Nat} {o2 : Option Value} {o3 : Option Value} {o4 : Option Value} (h5 : mi_W d 150 145 [some (.ref l1), o2, o3, o4] [.int 0] (n, sl, f) Q) : mi_W d 150 74 [some (.ref l1), o2, o3, o4] [] (n, sl, f) Q := by
  refine w_iconst (v := 0) cd_150_74 (by decide) ?_
  exact w_goto cd_150_75 (by decide) h5
theorem b_150_78 {d : Nat} {Q : (Option Value ⊕ Nat) → mi_H → Prop} (n sl : Nat) (f : Nat → mi_C) {l1 : Nat} {o2 : Option Value} {o3 : Option Value} {o4 : Option Value} {fs5 : List Value} (h6 : f l1 = .inr (12, fs5)) (h7 : l1 < n) (h8 : mi_W d 154 0 (mi_en 2 [.ref l1, .ref (mi_SC + 1 + 2 * 17)]) [] (n, sl, f) (mi_Kc d 150 81 [some (.ref l1), o2, o3, o4] [] Q)) : mi_W (d + 1) 150 78 [some (.ref l1), o2, o3, o4] [] (n, sl, f) Q := by
  refine w_aload_n cd_150_78 rfl ?_
  refine w_ldc (n := 17) cd_150_79 (by decide +kernel) ?_
  exact w_invokevirtual cd_150_81 (show mt_m 12 387 = some (154, 0) by decide +kernel) (rest := []) rfl (as := [.ref l1, .ref (mi_SC + 1 + 2 * 17)]) rfl h6 (Or.inl h7) ⟨Nat.le_of_ble_eq_true rfl, Nat.le_of_ble_eq_true rfl, Nat.le_of_ble_eq_true rfl⟩ h8
theorem b_150_84 {d : Nat} {Q : (Option Value ⊕ Nat) → mi_H → Prop} (n sl : Nat) (f : Nat → mi_C) {l1 : Nat} {o2 : Option Value} {o3 : Option Value} {o4 : Option Value} {s5 : Int32} (h6 : s5 = (0 : Int32) → mi_W d 150 91 [some (.ref l1), o2, o3, o4] [] (n, sl, f) Q) (h7 : ¬ (s5 = (0 : Int32)) → mi_W d 150 87 [some (.ref l1), o2, o3, o4] [] (n, sl, f) Q) : mi_W d 150 84 [some (.ref l1), o2, o3, o4] [.int s5] (n, sl, f) Q := by
  exact w_ifeq cd_150_84 (by decide) h6 h7
theorem b_150_87 {d : Nat} {Q : (Option Value ⊕ Nat) → mi_H → Prop} (n sl : Nat) (f : Nat → mi_C) {l1 : Nat} {o2 : Option Value} {o3 : Option Value} {o4 : Option Value} (h5 : mi_W d 150 145 [some (.ref l1), o2, o3, o4] [.int 1] (n, sl, f) Q) : mi_W d 150 87 [some (.ref l1), o2, o3, o4] [] (n, sl, f) Q := by
  refine w_iconst (v := 1) cd_150_87 (by decide) ?_
  exact w_goto cd_150_88 (by decide) h5
theorem b_150_91 {d : Nat} {Q : (Option Value ⊕ Nat) → mi_H → Prop} (n sl : Nat) (f : Nat → mi_C) {l1 : Nat} {o2 : Option Value} {o3 : Option Value} {o4 : Option Value} {fs5 : List Value} (h6 : f l1 = .inr (12, fs5)) (h7 : l1 < n) (h8 : mi_W d 154 0 (mi_en 2 [.ref l1, .ref (mi_SC + 1 + 2 * 20)]) [] (n, sl, f) (mi_Kc d 150 94 [some (.ref l1), o2, o3, o4] [] Q)) : mi_W (d + 1) 150 91 [some (.ref l1), o2, o3, o4] [] (n, sl, f) Q := by
  refine w_aload_n cd_150_91 rfl ?_
  refine w_ldc (n := 20) cd_150_92 (by decide +kernel) ?_
  exact w_invokevirtual cd_150_94 (show mt_m 12 387 = some (154, 0) by decide +kernel) (rest := []) rfl (as := [.ref l1, .ref (mi_SC + 1 + 2 * 20)]) rfl h6 (Or.inl h7) ⟨Nat.le_of_ble_eq_true rfl, Nat.le_of_ble_eq_true rfl, Nat.le_of_ble_eq_true rfl⟩ h8
theorem b_150_97 {d : Nat} {Q : (Option Value ⊕ Nat) → mi_H → Prop} (n sl : Nat) (f : Nat → mi_C) {l1 : Nat} {o2 : Option Value} {o3 : Option Value} {o4 : Option Value} {s5 : Int32} (h6 : s5 = (0 : Int32) → mi_W d 150 104 [some (.ref l1), o2, o3, o4] [] (n, sl, f) Q) (h7 : ¬ (s5 = (0 : Int32)) → mi_W d 150 100 [some (.ref l1), o2, o3, o4] [] (n, sl, f) Q) : mi_W d 150 97 [some (.ref l1), o2, o3, o4] [.int s5] (n, sl, f) Q := by
  exact w_ifeq cd_150_97 (by decide) h6 h7
theorem b_150_100 {d : Nat} {Q : (Option Value ⊕ Nat) → mi_H → Prop} (n sl : Nat) (f : Nat → mi_C) {l1 : Nat} {o2 : Option Value} {o3 : Option Value} {o4 : Option Value} (h5 : mi_W d 150 145 [some (.ref l1), o2, o3, o4] [.int 3] (n, sl, f) Q) : mi_W d 150 100 [some (.ref l1), o2, o3, o4] [] (n, sl, f) Q := by
  refine w_iconst (v := 3) cd_150_100 (by decide) ?_
  exact w_goto cd_150_101 (by decide) h5
theorem b_150_104 {d : Nat} {Q : (Option Value ⊕ Nat) → mi_H → Prop} (n sl : Nat) (f : Nat → mi_C) {l1 : Nat} {o2 : Option Value} {o3 : Option Value} {o4 : Option Value} {fs5 : List Value} (h6 : f l1 = .inr (12, fs5)) (h7 : l1 < n) (h8 : mi_W d 154 0 (mi_en 2 [.ref l1, .ref (mi_SC + 1 + 2 * 21)]) [] (n, sl, f) (mi_Kc d 150 107 [some (.ref l1), o2, o3, o4] [] Q)) : mi_W (d + 1) 150 104 [some (.ref l1), o2, o3, o4] [] (n, sl, f) Q := by
  refine w_aload_n cd_150_104 rfl ?_
  refine w_ldc (n := 21) cd_150_105 (by decide +kernel) ?_
  exact w_invokevirtual cd_150_107 (show mt_m 12 387 = some (154, 0) by decide +kernel) (rest := []) rfl (as := [.ref l1, .ref (mi_SC + 1 + 2 * 21)]) rfl h6 (Or.inl h7) ⟨Nat.le_of_ble_eq_true rfl, Nat.le_of_ble_eq_true rfl, Nat.le_of_ble_eq_true rfl⟩ h8
theorem b_150_110 {d : Nat} {Q : (Option Value ⊕ Nat) → mi_H → Prop} (n sl : Nat) (f : Nat → mi_C) {l1 : Nat} {o2 : Option Value} {o3 : Option Value} {o4 : Option Value} {s5 : Int32} (h6 : s5 = (0 : Int32) → mi_W d 150 117 [some (.ref l1), o2, o3, o4] [] (n, sl, f) Q) (h7 : ¬ (s5 = (0 : Int32)) → mi_W d 150 113 [some (.ref l1), o2, o3, o4] [] (n, sl, f) Q) : mi_W d 150 110 [some (.ref l1), o2, o3, o4] [.int s5] (n, sl, f) Q := by
  exact w_ifeq cd_150_110 (by decide) h6 h7
theorem b_150_113 {d : Nat} {Q : (Option Value ⊕ Nat) → mi_H → Prop} (n sl : Nat) (f : Nat → mi_C) {l1 : Nat} {o2 : Option Value} {o3 : Option Value} {o4 : Option Value} (h5 : mi_W d 150 145 [some (.ref l1), o2, o3, o4] [.int 4] (n, sl, f) Q) : mi_W d 150 113 [some (.ref l1), o2, o3, o4] [] (n, sl, f) Q := by
  refine w_iconst (v := 4) cd_150_113 (by decide) ?_
  exact w_goto cd_150_114 (by decide) h5
theorem b_150_117 {d : Nat} {Q : (Option Value ⊕ Nat) → mi_H → Prop} (n sl : Nat) (f : Nat → mi_C) {l1 : Nat} {o2 : Option Value} {o3 : Option Value} {o4 : Option Value} {fs5 : List Value} (h6 : f l1 = .inr (12, fs5)) (h7 : l1 < n) (h8 : mi_W d 154 0 (mi_en 2 [.ref l1, .ref (mi_SC + 1 + 2 * 22)]) [] (n, sl, f) (mi_Kc d 150 120 [some (.ref l1), o2, o3, o4] [] Q)) : mi_W (d + 1) 150 117 [some (.ref l1), o2, o3, o4] [] (n, sl, f) Q := by
  refine w_aload_n cd_150_117 rfl ?_
  refine w_ldc (n := 22) cd_150_118 (by decide +kernel) ?_
  exact w_invokevirtual cd_150_120 (show mt_m 12 387 = some (154, 0) by decide +kernel) (rest := []) rfl (as := [.ref l1, .ref (mi_SC + 1 + 2 * 22)]) rfl h6 (Or.inl h7) ⟨Nat.le_of_ble_eq_true rfl, Nat.le_of_ble_eq_true rfl, Nat.le_of_ble_eq_true rfl⟩ h8
theorem b_150_123 {d : Nat} {Q : (Option Value ⊕ Nat) → mi_H → Prop} (n sl : Nat) (f : Nat → mi_C) {l1 : Nat} {o2 : Option Value} {o3 : Option Value} {o4 : Option Value} {s5 : Int32} (h6 : s5 = (0 : Int32) → mi_W d 150 130 [some (.ref l1), o2, o3, o4] [] (n, sl, f) Q) (h7 : ¬ (s5 = (0 : Int32)) → mi_W d 150 126 [some (.ref l1), o2, o3, o4] [] (n, sl, f) Q) : mi_W d 150 123 [some (.ref l1), o2, o3, o4] [.int s5] (n, sl, f) Q := by
  exact w_ifeq cd_150_123 (by decide) h6 h7
theorem b_150_126 {d : Nat} {Q : (Option Value ⊕ Nat) → mi_H → Prop} (n sl : Nat) (f : Nat → mi_C) {l1 : Nat} {o2 : Option Value} {o3 : Option Value} {o4 : Option Value} (h5 : mi_W d 150 145 [some (.ref l1), o2, o3, o4] [.int 5] (n, sl, f) Q) : mi_W d 150 126 [some (.ref l1), o2, o3, o4] [] (n, sl, f) Q := by
  refine w_iconst (v := 5) cd_150_126 (by decide) ?_
  exact w_goto cd_150_127 (by decide) h5
theorem b_150_130 {d : Nat} {Q : (Option Value ⊕ Nat) → mi_H → Prop} (n sl : Nat) (f : Nat → mi_C) {l1 : Nat} {o2 : Option Value} {o3 : Option Value} {o4 : Option Value} {fs5 : List Value} (h6 : f l1 = .inr (12, fs5)) (h7 : l1 < n) (h8 : mi_W d 154 0 (mi_en 2 [.ref l1, .ref (mi_SC + 1 + 2 * 23)]) [] (n, sl, f) (mi_Kc d 150 133 [some (.ref l1), o2, o3, o4] [] Q)) : mi_W (d + 1) 150 130 [some (.ref l1), o2, o3, o4] [] (n, sl, f) Q := by
  refine w_aload_n cd_150_130 rfl ?_
  refine w_ldc (n := 23) cd_150_131 (by decide +kernel) ?_
  exact w_invokevirtual cd_150_133 (show mt_m 12 387 = some (154, 0) by decide +kernel) (rest := []) rfl (as := [.ref l1, .ref (mi_SC + 1 + 2 * 23)]) rfl h6 (Or.inl h7) ⟨Nat.le_of_ble_eq_true rfl, Nat.le_of_ble_eq_true rfl, Nat.le_of_ble_eq_true rfl⟩ h8
theorem b_150_136 {d : Nat} {Q : (Option Value ⊕ Nat) → mi_H → Prop} (n sl : Nat) (f : Nat → mi_C) {l1 : Nat} {o2 : Option Value} {o3 : Option Value} {o4 : Option Value} {s5 : Int32} (h6 : s5 = (0 : Int32) → mi_W d 150 144 [some (.ref l1), o2, o3, o4] [] (n, sl, f) Q) (h7 : ¬ (s5 = (0 : Int32)) → mi_W d 150 139 [some (.ref l1), o2, o3, o4] [] (n, sl, f) Q) : mi_W d 150 136 [some (.ref l1), o2, o3, o4] [.int s5] (n, sl, f) Q := by
  exact w_ifeq cd_150_136 (by decide) h6 h7
theorem b_150_139 {d : Nat} {Q : (Option Value ⊕ Nat) → mi_H → Prop} (n sl : Nat) (f : Nat → mi_C) {l1 : Nat} {o2 : Option Value} {o3 : Option Value} {o4 : Option Value} (h5 : mi_W d 150 145 [some (.ref l1), o2, o3, o4] [.int 6] (n, sl, f) Q) : mi_W d 150 139 [some (.ref l1), o2, o3, o4] [] (n, sl, f) Q := by
  refine w_bipush (v := 6) cd_150_139 (by decide) ?_
  exact w_goto cd_150_141 (by decide) h5
theorem b_150_144 {d : Nat} {Q : (Option Value ⊕ Nat) → mi_H → Prop} (n sl : Nat) (f : Nat → mi_C) {l1 : Nat} {o2 : Option Value} {o3 : Option Value} {o4 : Option Value} (h5 : mi_W d 150 145 [some (.ref l1), o2, o3, o4] [.int (-1)] (n, sl, f) Q) : mi_W d 150 144 [some (.ref l1), o2, o3, o4] [] (n, sl, f) Q := by
  refine w_iconst (v := (-1)) cd_150_144 (by decide) ?_
  exact h5
theorem b_150_145 {d : Nat} {Q : (Option Value ⊕ Nat) → mi_H → Prop} (n sl : Nat) (f : Nat → mi_C) {l1 : Nat} {o2 : Option Value} {o3 : Option Value} {o4 : Option Value} {s5 : Int32} (h6 : (0 : Int32) ≤ s5 → mi_W d 150 161 [some (.ref l1), some (.int s5), o3, o4] [] (n, sl, f) Q) (h7 : ¬ ((0 : Int32) ≤ s5) → mi_W d 150 150 [some (.ref l1), some (.int s5), o3, o4] [] (n, sl, f) Q) : mi_W d 150 145 [some (.ref l1), o2, o3, o4] [.int s5] (n, sl, f) Q := by
  refine w_istore_n (ls' := [some (.ref l1), some (.int s5), o3, o4]) cd_150_145 (Nat.le_of_ble_eq_true rfl) rfl ?_
  refine w_iload_n cd_150_146 rfl ?_
  exact w_ifge cd_150_147 (by decide) h6 h7
theorem b_150_150 {d : Nat} {Q : (Option Value ⊕ Nat) → mi_H → Prop} (n sl : Nat) (f : Nat → mi_C) {l1 : Nat} {l2 : Int32} {o3 : Option Value} {o4 : Option Value} {fs5 : List Value} {x8 : Int32} {fs10 : List Value} (h6 : f l1 = .inr (12, fs5)) (h7 : l1 < n) (h9 : fs5[9]? = some (.int x8)) (h11 : f l1 = .inr (12, fs10)) (h12 : l1 < n) (h13 : mi_W d 141 0 (mi_en 2 [.ref l1, .int x8]) [] (n, sl, f) (mi_Kc d 150 155 [some (.ref l1), some (.int l2), o3, o4] [] Q)) : mi_W (d + 1) 150 150 [some (.ref l1), some (.int l2), o3, o4] [] (n, sl, f) Q := by
  refine w_aload_n cd_150_150 rfl ?_
  refine w_aload_n cd_150_151 rfl ?_
  refine w_getfield cd_150_152 (show mt_f 12 299 = some (12, 9) by decide +kernel) h6 h7 h9 ?_
  exact w_invokevirtual cd_150_155 (show mt_m 12 272 = some (141, 0) by decide +kernel) (rest := []) rfl (as := [.ref l1, .int x8]) rfl h11 (Or.inl h12) ⟨Nat.le_of_ble_eq_true rfl, Nat.le_of_ble_eq_true rfl, Nat.le_of_ble_eq_true rfl⟩ h13
theorem b_150_158 {d : Nat} {Q : (Option Value ⊕ Nat) → mi_H → Prop} (n sl : Nat) (f : Nat → mi_C) {l1 : Nat} {l2 : Int32} {o3 : Option Value} {o4 : Option Value} {s5 : Int32} (h6 : Q (.inl (some (.int (-1)))) (n, sl, f)) : mi_W d 150 158 [some (.ref l1), some (.int l2), o3, o4] [.int s5] (n, sl, f) Q := by
  refine w_pop_i cd_150_158 ?_
  refine w_iconst (v := (-1)) cd_150_159 (by decide) ?_
  exact w_ireturn_i cd_150_160 (by decide +kernel) h6
theorem b_150_161 {d : Nat} {Q : (Option Value ⊕ Nat) → mi_H → Prop} (n sl : Nat) (f : Nat → mi_C) {l1 : Nat} {l2 : Int32} {o3 : Option Value} {o4 : Option Value} {fs5 : List Value} (h6 : f l1 = .inr (12, fs5)) (h7 : l1 < n) (h8 : mi_W d 152 0 (mi_en 1 [.ref l1]) [] (n, sl, f) (mi_Kc d 150 162 [some (.ref l1), some (.int l2), o3, o4] [] Q)) : mi_W (d + 1) 150 161 [some (.ref l1), some (.int l2), o3, o4] [] (n, sl, f) Q := by
  refine w_aload_n cd_150_161 rfl ?_
  exact w_invokevirtual cd_150_162 (show mt_m 12 378 = some (152, 0) by decide +kernel) (rest := []) rfl (as := [.ref l1]) rfl h6 (Or.inl h7) ⟨Nat.le_of_ble_eq_true rfl, Nat.le_of_ble_eq_true rfl, Nat.le_of_ble_eq_true rfl⟩ h8
theorem b_150_165 {d : Nat} {Q : (Option Value ⊕ Nat) → mi_H → Prop} (n sl : Nat) (f : Nat → mi_C) {l1 : Nat} {l2 : Int32} {o3 : Option Value} {o4 : Option Value} {s5 : Int32} (h6 : ¬ s5 = (0 : Int32) → mi_W d 150 170 [some (.ref l1), some (.int l2), o3, o4] [] (n, sl, f) Q) (h7 : ¬ (¬ s5 = (0 : Int32)) → mi_W d 150 168 [some (.ref l1), some (.int l2), o3, o4] [] (n, sl, f) Q) : mi_W d 150 165 [some (.ref l1), some (.int l2), o3, o4] [.int s5] (n, sl, f) Q := by
  exact w_ifne cd_150_165 (by decide) h6 h7
theorem b_150_168 {d : Nat} {Q : (Option Value ⊕ Nat) → mi_H → Prop} (n sl : Nat) (f : Nat → mi_C) {l1 : Nat} {l2 : Int32} {o3 : Option Value} {o4 : Option Value} (h5 : Q (.inl (some (.int (-1)))) (n, sl, f)) : mi_W d 150 168 [some (.ref l1), some (.int l2), o3, o4] [] (n, sl, f) Q := by
  refine w_iconst (v := (-1)) cd_150_168 (by decide) ?_
  exact w_ireturn_i cd_150_169 (by decide +kernel) h5
theorem b_150_170 {d : Nat} {Q : (Option Value ⊕ Nat) → mi_H → Prop} (n sl : Nat) (f : Nat → mi_C) {l1 : Nat} {l2 : Int32} {o3 : Option Value} {o4 : Option Value} {fs5 : List Value} (h6 : f l1 = .inr (12, fs5)) (h7 : l1 < n) (h8 : mi_W d 155 0 (mi_en 2 [.ref l1, .int l2]) [] (n, sl, f) (mi_Kc d 150 172 [some (.ref l1), some (.int l2), o3, o4] [] Q)) : mi_W (d + 1) 150 170 [some (.ref l1), some (.int l2), o3, o4] [] (n, sl, f) Q := by
  refine w_aload_n cd_150_170 rfl ?_
  refine w_iload_n cd_150_171 rfl ?_
  exact w_invokevirtual cd_150_172 (show mt_m 12 390 = some (155, 0) by decide +kernel) (rest := []) rfl (as := [.ref l1, .int l2]) rfl h6 (Or.inl h7) ⟨Nat.le_of_ble_eq_true rfl, Nat.le_of_ble_eq_true rfl, Nat.le_of_ble_eq_true rfl⟩ h8
theorem b_150_175 {d : Nat} {Q : (Option Value ⊕ Nat) → mi_H → Prop} (n sl : Nat) (f : Nat → mi_C) {l1 : Nat} {l2 : Int32} {o3 : Option Value} {o4 : Option Value} {s5 : Int32} (h6 : s5 < (0 : Int32) → mi_W d 150 199 [some (.ref l1), some (.int l2), some (.int s5), o4] [] (n, sl, f) Q) (h7 : ¬ (s5 < (0 : Int32)) → mi_W d 150 180 [some (.ref l1), some (.int l2), some (.int s5), o4] [] (n, sl, f) Q) : mi_W d 150 175 [some (.ref l1), some (.int l2), o3, o4] [.int s5] (n, sl, f) Q := by
  refine w_istore_n (ls' := [some (.ref l1), some (.int l2), some (.int s5), o4]) cd_150_175 (Nat.le_of_ble_eq_true rfl) rfl ?_
  refine w_iload_n cd_150_176 rfl ?_
  exact w_iflt cd_150_177 (by decide) h6 h7
theorem b_150_180 {d : Nat} {Q : (Option Value ⊕ Nat) → mi_H → Prop} (n sl : Nat) (f : Nat → mi_C) {l1 : Nat} {l2 : Int32} {l3 : Int32} {o4 : Option Value} {fs5 : List Value} (h6 : f l1 = .inr (12, fs5)) (h7 : l1 < n) (h8 : mi_W d 143 0 (mi_en 4 [.ref l1]) [] (n, sl, f) (mi_Kc d 150 181 [some (.ref l1), some (.int l2), some (.int l3), o4] [] Q)) : mi_W (d + 1) 150 180 [some (.ref l1), some (.int l2), some (.int l3), o4] [] (n, sl, f) Q := by
  refine w_aload_n cd_150_180 rfl ?_
  exact w_invokevirtual cd_150_181 (show mt_m 12 333 = some (143, 0) by decide +kernel) (rest := []) rfl (as := [.ref l1]) rfl h6 (Or.inl h7) ⟨Nat.le_of_ble_eq_true rfl, Nat.le_of_ble_eq_true rfl, Nat.le_of_ble_eq_true rfl⟩ h8
theorem b_150_184 {d : Nat} {Q : (Option Value ⊕ Nat) → mi_H → Prop} (n sl : Nat) (f : Nat → mi_C) {l1 : Nat} {l2 : Int32} {l3 : Int32} {o4 : Option Value} {s5 : Int32} (h6 : s5 = (0 : Int32) → mi_W d 150 199 [some (.ref l1), some (.int l2), some (.int l3), o4] [] (n, sl, f) Q) (h7 : ¬ (s5 = (0 : Int32)) → mi_W d 150 187 [some (.ref l1), some (.int l2), some (.int l3), o4] [] (n, sl, f) Q) : mi_W d 150 184 [some (.ref l1), some (.int l2), some (.int l3), o4] [.int s5] (n, sl, f) Q := by
  exact w_ifeq cd_150_184 (by decide) h6 h7
theorem b_150_187 {d : Nat} {Q : (Option Value ⊕ Nat) → mi_H → Prop} (n sl : Nat) (f : Nat → mi_C) {l1 : Nat} {l2 : Int32} {l3 : Int32} {o4 : Option Value} {fs5 : List Value} (h6 : f l1 = .inr (12, fs5)) (h7 : l1 < n) (h8 : mi_W d 156 0 (mi_en 2 [.ref l1, .int l3]) [] (n, sl, f) (mi_Kc d 150 189 [some (.ref l1), some (.int l2), some (.int l3), o4] [] Q)) : mi_W (d + 1) 150 187 [some (.ref l1), some (.int l2), some (.int l3), o4] [] (n, sl, f) Q := by
  refine w_aload_n cd_150_187 rfl ?_
  refine w_iload_n cd_150_188 rfl ?_
  exact w_invokevirtual cd_150_189 (show mt_m 12 393 = some (156, 0) by decide +kernel) (rest := []) rfl (as := [.ref l1, .int l3]) rfl h6 (Or.inl h7) ⟨Nat.le_of_ble_eq_true rfl, Nat.le_of_ble_eq_true rfl, Nat.le_of_ble_eq_true rfl⟩ h8
theorem b_150_192 {d : Nat} {Q : (Option Value ⊕ Nat) → mi_H → Prop} (n sl : Nat) (f : Nat → mi_C) {l1 : Nat} {l2 : Int32} {l3 : Int32} {o4 : Option Value} {s5 : Int32} (h6 : s5 = (0 : Int32) → mi_W d 150 199 [some (.ref l1), some (.int l2), some (.int l3), o4] [] (n, sl, f) Q) (h7 : ¬ (s5 = (0 : Int32)) → mi_W d 150 195 [some (.ref l1), some (.int l2), some (.int l3), o4] [] (n, sl, f) Q) : mi_W d 150 192 [some (.ref l1), some (.int l2), some (.int l3), o4] [.int s5] (n, sl, f) Q := by
  exact w_ifeq cd_150_192 (by decide) h6 h7
theorem b_150_195 {d : Nat} {Q : (Option Value ⊕ Nat) → mi_H → Prop} (n sl : Nat) (f : Nat → mi_C) {l1 : Nat} {l2 : Int32} {l3 : Int32} {o4 : Option Value} (h5 : mi_W d 150 200 [some (.ref l1), some (.int l2), some (.int l3), o4] [.int 1] (n, sl, f) Q) : mi_W d 150 195 [some (.ref l1), some (.int l2), some (.int l3), o4] [] (n, sl, f) Q := by
  refine w_iconst (v := 1) cd_150_195 (by decide) ?_
  exact w_goto cd_150_196 (by decide) h5
theorem b_150_199 {d : Nat} {Q : (Option Value ⊕ Nat) → mi_H → Prop} (n sl : Nat) (f : Nat → mi_C) {l1 : Nat} {l2 : Int32} {l3 : Int32} {o4 : Option Value} (h5 : mi_W d 150 200 [some (.ref l1), some (.int l2), some (.int l3), o4] [.int 0] (n, sl, f) Q) : mi_W d 150 199 [some (.ref l1), some (.int l2), some (.int l3), o4] [] (n, sl, f) Q := by
  refine w_iconst (v := 0) cd_150_199 (by decide) ?_
  exact h5
theorem b_150_200 {d : Nat} {Q : (Option Value ⊕ Nat) → mi_H → Prop} (n sl : Nat) (f : Nat → mi_C) {l1 : Nat} {l2 : Int32} {l3 : Int32} {o4 : Option Value} {s5 : Int32} {fs6 : List Value} {x9 : Int32} {fs11 : List Value} (h7 : f l1 = .inr (12, fs6)) (h8 : l1 < n) (h10 : fs6[22]? = some (.int x9)) (h12 : f l1 = .inr (12, fs11)) (h13 : l1 < n) (h14 : 22 < fs11.length) (h15 : s5 = (0 : Int32) → mi_W d 150 219 [some (.ref l1), some (.int l2), some (.int l3), some (.int s5)] [] (n, sl, (va_up f l1 (.inr (12, fs11.set 22 (.int (x9 - 1)))))) Q) (h16 : ¬ (s5 = (0 : Int32)) → mi_W d 150 215 [some (.ref l1), some (.int l2), some (.int l3), some (.int s5)] [] (n, sl, (va_up f l1 (.inr (12, fs11.set 22 (.int (x9 - 1)))))) Q) : mi_W d 150 200 [some (.ref l1), some (.int l2), some (.int l3), o4] [.int s5] (n, sl, f) Q := by
  refine w_istore_n (ls' := [some (.ref l1), some (.int l2), some (.int l3), some (.int s5)]) cd_150_200 (Nat.le_of_ble_eq_true rfl) rfl ?_
  refine w_aload_n cd_150_201 rfl ?_
  refine w_dup_r cd_150_202 ?_
  refine w_getfield cd_150_203 (show mt_f 12 337 = some (12, 22) by decide +kernel) h7 h8 h10 ?_
  refine w_iconst (v := 1) cd_150_206 (by decide) ?_
  refine w_isub cd_150_207 ?_
  refine w_putfield (w := .int (x9 - 1)) cd_150_208 (show mt_f 12 337 = some (12, 22) by decide +kernel) h12 h13 ⟨h14, rfl, Or.inl (by decide)⟩ ?_
  refine w_iload_n cd_150_211 rfl ?_
  exact w_ifeq cd_150_212 (by decide) h15 h16
theorem b_150_215 {d : Nat} {Q : (Option Value ⊕ Nat) → mi_H → Prop} (n sl : Nat) (f : Nat → mi_C) {l1 : Nat} {l2 : Int32} {l3 : Int32} {l4 : Int32} (h5 : mi_W d 150 220 [some (.ref l1), some (.int l2), some (.int l3), some (.int l4)] [.int l3] (n, sl, f) Q) : mi_W d 150 215 [some (.ref l1), some (.int l2), some (.int l3), some (.int l4)] [] (n, sl, f) Q := by
  refine w_iload_n cd_150_215 rfl ?_
  exact w_goto cd_150_216 (by decide) h5
theorem b_150_219 {d : Nat} {Q : (Option Value ⊕ Nat) → mi_H → Prop} (n sl : Nat) (f : Nat → mi_C) {l1 : Nat} {l2 : Int32} {l3 : Int32} {l4 : Int32} (h5 : mi_W d 150 220 [some (.ref l1), some (.int l2), some (.int l3), some (.int l4)] [.int (-1)] (n, sl, f) Q) : mi_W d 150 219 [some (.ref l1), some (.int l2), some (.int l3), some (.int l4)] [] (n, sl, f) Q := by
  refine w_iconst (v := (-1)) cd_150_219 (by decide) ?_
  exact h5
theorem b_150_220 {d : Nat} {Q : (Option Value ⊕ Nat) → mi_H → Prop} (n sl : Nat) (f : Nat → mi_C) {l1 : Nat} {l2 : Int32} {l3 : Int32} {l4 : Int32} {s5 : Int32} (h6 : Q (.inl (some (.int s5))) (n, sl, f)) : mi_W d 150 220 [some (.ref l1), some (.int l2), some (.int l3), some (.int l4)] [.int s5] (n, sl, f) Q := by
  exact w_ireturn_i cd_150_220 (by decide +kernel) h6
/-! MarloweHostModel.sign(Ljava/lang/String;)Z -/
set_option maxRecDepth 100000 in
theorem mq_151 : mt_q 151 = my_151 := rfl
set_option maxRecDepth 100000 in
theorem ci_151 : mt_inc 0 my_151.cd = true := by decide +kernel
theorem cd_151_0 : mt_cd 151 0 = some (.aload_n 0) := mt_cd_of (q := (0, .aload_n 0, 1)) mq_151 ci_151 (List.mem_of_getElem? (i := 0) rfl)
theorem cd_151_1 : mt_cd 151 1 = some (.getfield 310) := mt_cd_of (q := (1, .getfield 310, 3)) mq_151 ci_151 (List.mem_of_getElem? (i := 1) rfl)
theorem cd_151_4 : mt_cd 151 4 = some (.iconst 3) := mt_cd_of (q := (4, .iconst 3, 1)) mq_151 ci_151 (List.mem_of_getElem? (i := 2) rfl)
theorem cd_151_5 : mt_cd 151 5 = some (.if_icmp .ne 15) := mt_cd_of (q := (5, .if_icmp .ne 15, 3)) mq_151 ci_151 (List.mem_of_getElem? (i := 3) rfl)
theorem cd_151_8 : mt_cd 151 8 = some (.aload_n 0) := mt_cd_of (q := (8, .aload_n 0, 1)) mq_151 ci_151 (List.mem_of_getElem? (i := 4) rfl)
theorem cd_151_9 : mt_cd 151 9 = some (.aload_n 1) := mt_cd_of (q := (9, .aload_n 1, 1)) mq_151 ci_151 (List.mem_of_getElem? (i := 5) rfl)
theorem cd_151_10 : mt_cd 151 10 = some (.invokevirtual 323) := mt_cd_of (q := (10, .invokevirtual 323, 3)) mq_151 ci_151 (List.mem_of_getElem? (i := 6) rfl)
theorem cd_151_13 : mt_cd 151 13 = some (.ifCond .eq 7) := mt_cd_of (q := (13, .ifCond .eq 7, 3)) mq_151 ci_151 (List.mem_of_getElem? (i := 7) rfl)
theorem cd_151_16 : mt_cd 151 16 = some (.iconst 1) := mt_cd_of (q := (16, .iconst 1, 1)) mq_151 ci_151 (List.mem_of_getElem? (i := 8) rfl)
theorem cd_151_17 : mt_cd 151 17 = some (.goto 4) := mt_cd_of (q := (17, .goto 4, 3)) mq_151 ci_151 (List.mem_of_getElem? (i := 9) rfl)
theorem cd_151_20 : mt_cd 151 20 = some (.iconst 0) := mt_cd_of (q := (20, .iconst 0, 1)) mq_151 ci_151 (List.mem_of_getElem? (i := 10) rfl)
theorem cd_151_21 : mt_cd 151 21 = some (.ireturn) := mt_cd_of (q := (21, .ireturn, 1)) mq_151 ci_151 (List.mem_of_getElem? (i := 11) rfl)
theorem b_151_0 {d : Nat} {Q : (Option Value ⊕ Nat) → mi_H → Prop} (n sl : Nat) (f : Nat → mi_C) {l1 : Nat} {l2 : Nat} {fs3 : List Value} {x6 : Int32} (h4 : f l1 = .inr (12, fs3)) (h5 : l1 < n) (h7 : fs3[8]? = some (.int x6)) (h8 : ¬ x6 = 3 → mi_W d 151 20 [some (.ref l1), some (.ref l2)] [] (n, sl, f) Q) (h9 : ¬ (¬ x6 = 3) → mi_W d 151 8 [some (.ref l1), some (.ref l2)] [] (n, sl, f) Q) : mi_W d 151 0 [some (.ref l1), some (.ref l2)] [] (n, sl, f) Q := by
  refine w_aload_n cd_151_0 rfl ?_
  refine w_getfield cd_151_1 (show mt_f 12 310 = some (12, 8) by decide +kernel) h4 h5 h7 ?_
  refine w_iconst (v := 3) cd_151_4 (by decide) ?_
  exact w_if_icmpne cd_151_5 (by decide) h8 h9
theorem b_151_8 {d : Nat} {Q : (Option Value ⊕ Nat) → mi_H → Prop} (n sl : Nat) (f : Nat → mi_C) {l1 : Nat} {l2 : Nat} {fs3 : List Value} (h4 : f l1 = .inr (12, fs3)) (h5 : l1 < n) (h6 : mi_W d 147 0 (mi_en 3 [.ref l1, .ref l2]) [] (n, sl, f) (mi_Kc d 151 10 [some (.ref l1), some (.ref l2)] [] Q)) : mi_W (d + 1) 151 8 [some (.ref l1), some (.ref l2)] [] (n, sl, f) Q := by
  refine w_aload_n cd_151_8 rfl ?_
  refine w_aload_n cd_151_9 rfl ?_
  exact w_invokevirtual cd_151_10 (show mt_m 12 323 = some (147, 0) by decide +kernel) (rest := []) rfl (as := [.ref l1, .ref l2]) rfl h4 (Or.inl h5) ⟨Nat.le_of_ble_eq_true rfl, Nat.le_of_ble_eq_true rfl, Nat.le_of_ble_eq_true rfl⟩ h6
theorem b_151_13 {d : Nat} {Q : (Option Value ⊕ Nat) → mi_H → Prop} (n sl : Nat) (f : Nat → mi_C) {l1 : Nat} {l2 : Nat} {s3 : Int32} (h4 : s3 = (0 : Int32) → mi_W d 151 20 [some (.ref l1), some (.ref l2)] [] (n, sl, f) Q) (h5 : ¬ (s3 = (0 : Int32)) → mi_W d 151 16 [some (.ref l1), some (.ref l2)] [] (n, sl, f) Q) : mi_W d 151 13 [some (.ref l1), some (.ref l2)] [.int s3] (n, sl, f) Q := by
  exact w_ifeq cd_151_13 (by decide) h4 h5
theorem b_151_16 {d : Nat} {Q : (Option Value ⊕ Nat) → mi_H → Prop} (n sl : Nat) (f : Nat → mi_C) {l1 : Nat} {l2 : Nat} (h3 : mi_W d 151 21 [some (.ref l1), some (.ref l2)] [.int 1] (n, sl, f) Q) : mi_W d 151 16 [some (.ref l1), some (.ref l2)] [] (n, sl, f) Q := by
  refine w_iconst (v := 1) cd_151_16 (by decide) ?_
  exact w_goto cd_151_17 (by decide) h3
theorem b_151_20 {d : Nat} {Q : (Option Value ⊕ Nat) → mi_H → Prop} (n sl : Nat) (f : Nat → mi_C) {l1 : Nat} {l2 : Nat} (h3 : mi_W d 151 21 [some (.ref l1), some (.ref l2)] [.int 0] (n, sl, f) Q) : mi_W d 151 20 [some (.ref l1), some (.ref l2)] [] (n, sl, f) Q := by
  refine w_iconst (v := 0) cd_151_20 (by decide) ?_
  exact h3
theorem b_151_21 {d : Nat} {Q : (Option Value ⊕ Nat) → mi_H → Prop} (n sl : Nat) (f : Nat → mi_C) {l1 : Nat} {l2 : Nat} {s3 : Int32} (h4 : s3 = 0 ∨ s3 = 1) (h5 : Q (.inl (some (.int s3))) (n, sl, f)) : mi_W d 151 21 [some (.ref l1), some (.ref l2)] [.int s3] (n, sl, f) Q := by
  exact w_ireturn_z cd_151_21 (by decide +kernel) h4 h5
/-! MarloweHostModel.open()Z -/
set_option maxRecDepth 100000 in
theorem mq_152 : mt_q 152 = my_152 := rfl
set_option maxRecDepth 100000 in
theorem ci_152 : mt_inc 0 my_152.cd = true := by decide +kernel
theorem cd_152_0 : mt_cd 152 0 = some (.aload_n 0) := mt_cd_of (q := (0, .aload_n 0, 1)) mq_152 ci_152 (List.mem_of_getElem? (i := 0) rfl)
theorem cd_152_1 : mt_cd 152 1 = some (.dup) := mt_cd_of (q := (1, .dup, 1)) mq_152 ci_152 (List.mem_of_getElem? (i := 1) rfl)
theorem cd_152_2 : mt_cd 152 2 = some (.getfield 337) := mt_cd_of (q := (2, .getfield 337, 3)) mq_152 ci_152 (List.mem_of_getElem? (i := 2) rfl)
theorem cd_152_5 : mt_cd 152 5 = some (.dup_x1) := mt_cd_of (q := (5, .dup_x1, 1)) mq_152 ci_152 (List.mem_of_getElem? (i := 3) rfl)
theorem cd_152_6 : mt_cd 152 6 = some (.iconst 1) := mt_cd_of (q := (6, .iconst 1, 1)) mq_152 ci_152 (List.mem_of_getElem? (i := 4) rfl)
theorem cd_152_7 : mt_cd 152 7 = some (.iadd) := mt_cd_of (q := (7, .iadd, 1)) mq_152 ci_152 (List.mem_of_getElem? (i := 5) rfl)
theorem cd_152_8 : mt_cd 152 8 = some (.putfield 337) := mt_cd_of (q := (8, .putfield 337, 3)) mq_152 ci_152 (List.mem_of_getElem? (i := 6) rfl)
theorem cd_152_11 : mt_cd 152 11 = some (.bipush 100) := mt_cd_of (q := (11, .bipush 100, 2)) mq_152 ci_152 (List.mem_of_getElem? (i := 7) rfl)
theorem cd_152_13 : mt_cd 152 13 = some (.if_icmp .lt 14) := mt_cd_of (q := (13, .if_icmp .lt 14, 3)) mq_152 ci_152 (List.mem_of_getElem? (i := 8) rfl)
theorem cd_152_16 : mt_cd 152 16 = some (.aload_n 0) := mt_cd_of (q := (16, .aload_n 0, 1)) mq_152 ci_152 (List.mem_of_getElem? (i := 9) rfl)
theorem cd_152_17 : mt_cd 152 17 = some (.aload_n 0) := mt_cd_of (q := (17, .aload_n 0, 1)) mq_152 ci_152 (List.mem_of_getElem? (i := 10) rfl)
theorem cd_152_18 : mt_cd 152 18 = some (.getfield 299) := mt_cd_of (q := (18, .getfield 299, 3)) mq_152 ci_152 (List.mem_of_getElem? (i := 11) rfl)
theorem cd_152_21 : mt_cd 152 21 = some (.invokevirtual 272) := mt_cd_of (q := (21, .invokevirtual 272, 3)) mq_152 ci_152 (List.mem_of_getElem? (i := 12) rfl)
theorem cd_152_24 : mt_cd 152 24 = some (.ifCond .eq 7) := mt_cd_of (q := (24, .ifCond .eq 7, 3)) mq_152 ci_152 (List.mem_of_getElem? (i := 13) rfl)
theorem cd_152_27 : mt_cd 152 27 = some (.iconst 1) := mt_cd_of (q := (27, .iconst 1, 1)) mq_152 ci_152 (List.mem_of_getElem? (i := 14) rfl)
theorem cd_152_28 : mt_cd 152 28 = some (.goto 4) := mt_cd_of (q := (28, .goto 4, 3)) mq_152 ci_152 (List.mem_of_getElem? (i := 15) rfl)
theorem cd_152_31 : mt_cd 152 31 = some (.iconst 0) := mt_cd_of (q := (31, .iconst 0, 1)) mq_152 ci_152 (List.mem_of_getElem? (i := 16) rfl)
theorem cd_152_32 : mt_cd 152 32 = some (.ireturn) := mt_cd_of (q := (32, .ireturn, 1)) mq_152 ci_152 (List.mem_of_getElem? (i := 17) rfl)
theorem b_152_0 {d : Nat} {Q : (Option Value ⊕ Nat) → mi_H → Prop} (n sl : Nat) (f : Nat → mi_C) {l1 : Nat} {fs2 : List Value} {x5 : Int32} {fs7 : List Value} (h3 : f l1 = .inr (12, fs2)) (h4 : l1 < n) (h6 : fs2[22]? = some (.int x5)) (h8 : f l1 = .inr (12, fs7)) (h9 : l1 < n) (h10 : 22 < fs7.length) (h11 : x5 < 100 → mi_W d 152 27 [some (.ref l1)] [] (n, sl, (va_up f l1 (.inr (12, fs7.set 22 (.int (x5 + 1)))))) Q) (h12 : ¬ (x5 < 100) → mi_W d 152 16 [some (.ref l1)] [] (n, sl, (va_up f l1 (.inr (12, fs7.set 22 (.int (x5 + 1)))))) Q) : mi_W d 152 0 [some (.ref l1)] [] (n, sl, f) Q := by
  refine w_aload_n cd_152_0 rfl ?_
  refine w_dup_r cd_152_1 ?_
  refine w_getfield cd_152_2 (show mt_f 12 337 = some (12, 22) by decide +kernel) h3 h4 h6 ?_
  refine w_dup_x1_ir cd_152_5 ?_
  refine w_iconst (v := 1) cd_152_6 (by decide) ?_
  refine w_iadd cd_152_7 ?_
  refine w_putfield (w := .int (x5 + 1)) cd_152_8 (show mt_f 12 337 = some (12, 22) by decide +kernel) h8 h9 ⟨h10, rfl, Or.inl (by decide)⟩ ?_
  refine w_bipush (v := 100) cd_152_11 (by decide) ?_
  exact w_if_icmplt cd_152_13 (by decide) h11 h12
theorem b_152_16 {d : Nat} {Q : (Option Value ⊕ Nat) → mi_H → Prop} (n sl : Nat) (f : Nat → mi_C) {l1 : Nat} {fs2 : List Value} {x5 : Int32} {fs7 : List Value} (h3 : f l1 = .inr (12, fs2)) (h4 : l1 < n) (h6 : fs2[9]? = some (.int x5)) (h8 : f l1 = .inr (12, fs7)) (h9 : l1 < n) (h10 : mi_W d 141 0 (mi_en 2 [.ref l1, .int x5]) [] (n, sl, f) (mi_Kc d 152 21 [some (.ref l1)] [] Q)) : mi_W (d + 1) 152 16 [some (.ref l1)] [] (n, sl, f) Q := by
  refine w_aload_n cd_152_16 rfl ?_
  refine w_aload_n cd_152_17 rfl ?_
  refine w_getfield cd_152_18 (show mt_f 12 299 = some (12, 9) by decide +kernel) h3 h4 h6 ?_
  exact w_invokevirtual cd_152_21 (show mt_m 12 272 = some (141, 0) by decide +kernel) (rest := []) rfl (as := [.ref l1, .int x5]) rfl h8 (Or.inl h9) ⟨Nat.le_of_ble_eq_true rfl, Nat.le_of_ble_eq_true rfl, Nat.le_of_ble_eq_true rfl⟩ h10
theorem b_152_24 {d : Nat} {Q : (Option Value ⊕ Nat) → mi_H → Prop} (n sl : Nat) (f : Nat → mi_C) {l1 : Nat} {s2 : Int32} (h3 : s2 = (0 : Int32) → mi_W d 152 31 [some (.ref l1)] [] (n, sl, f) Q) (h4 : ¬ (s2 = (0 : Int32)) → mi_W d 152 27 [some (.ref l1)] [] (n, sl, f) Q) : mi_W d 152 24 [some (.ref l1)] [.int s2] (n, sl, f) Q := by
  exact w_ifeq cd_152_24 (by decide) h3 h4
theorem b_152_27 {d : Nat} {Q : (Option Value ⊕ Nat) → mi_H → Prop} (n sl : Nat) (f : Nat → mi_C) {l1 : Nat} (h2 : mi_W d 152 32 [some (.ref l1)] [.int 1] (n, sl, f) Q) : mi_W d 152 27 [some (.ref l1)] [] (n, sl, f) Q := by
  refine w_iconst (v := 1) cd_152_27 (by decide) ?_
  exact w_goto cd_152_28 (by decide) h2
theorem b_152_31 {d : Nat} {Q : (Option Value ⊕ Nat) → mi_H → Prop} (n sl : Nat) (f : Nat → mi_C) {l1 : Nat} (h2 : mi_W d 152 32 [some (.ref l1)] [.int 0] (n, sl, f) Q) : mi_W d 152 31 [some (.ref l1)] [] (n, sl, f) Q := by
  refine w_iconst (v := 0) cd_152_31 (by decide) ?_
  exact h2
theorem b_152_32 {d : Nat} {Q : (Option Value ⊕ Nat) → mi_H → Prop} (n sl : Nat) (f : Nat → mi_C) {l1 : Nat} {s2 : Int32} (h3 : s2 = 0 ∨ s2 = 1) (h4 : Q (.inl (some (.int s2))) (n, sl, f)) : mi_W d 152 32 [some (.ref l1)] [.int s2] (n, sl, f) Q := by
  exact w_ireturn_z cd_152_32 (by decide +kernel) h3 h4
/-! MarloweHostModel.need(Z)Z -/
set_option maxRecDepth 100000 in
theorem mq_153 : mt_q 153 = my_153 := rfl
set_option maxRecDepth 100000 in
theorem ci_153 : mt_inc 0 my_153.cd = true := by decide +kernel
theorem cd_153_0 : mt_cd 153 0 = some (.iload_n 1) := mt_cd_of (q := (0, .iload_n 1, 1)) mq_153 ci_153 (List.mem_of_getElem? (i := 0) rfl)
theorem cd_153_1 : mt_cd 153 1 = some (.ifCond .eq 10) := mt_cd_of (q := (1, .ifCond .eq 10, 3)) mq_153 ci_153 (List.mem_of_getElem? (i := 1) rfl)
theorem cd_153_4 : mt_cd 153 4 = some (.aload_n 0) := mt_cd_of (q := (4, .aload_n 0, 1)) mq_153 ci_153 (List.mem_of_getElem? (i := 2) rfl)
theorem cd_153_5 : mt_cd 153 5 = some (.invokevirtual 333) := mt_cd_of (q := (5, .invokevirtual 333, 3)) mq_153 ci_153 (List.mem_of_getElem? (i := 3) rfl)
theorem cd_153_8 : mt_cd 153 8 = some (.goto 11) := mt_cd_of (q := (8, .goto 11, 3)) mq_153 ci_153 (List.mem_of_getElem? (i := 4) rfl)
theorem cd_153_11 : mt_cd 153 11 = some (.aload_n 0) := mt_cd_of (q := (11, .aload_n 0, 1)) mq_153 ci_153 (List.mem_of_getElem? (i := 5) rfl)
theorem cd_153_12 : mt_cd 153 12 = some (.aload_n 0) := mt_cd_of (q := (12, .aload_n 0, 1)) mq_153 ci_153 (List.mem_of_getElem? (i := 6) rfl)
theorem cd_153_13 : mt_cd 153 13 = some (.getfield 299) := mt_cd_of (q := (13, .getfield 299, 3)) mq_153 ci_153 (List.mem_of_getElem? (i := 7) rfl)
theorem cd_153_16 : mt_cd 153 16 = some (.invokevirtual 272) := mt_cd_of (q := (16, .invokevirtual 272, 3)) mq_153 ci_153 (List.mem_of_getElem? (i := 8) rfl)
theorem cd_153_19 : mt_cd 153 19 = some (.ireturn) := mt_cd_of (q := (19, .ireturn, 1)) mq_153 ci_153 (List.mem_of_getElem? (i := 9) rfl)
theorem b_153_0 {d : Nat} {Q : (Option Value ⊕ Nat) → mi_H → Prop} (n sl : Nat) (f : Nat → mi_C) {l1 : Nat} {l2 : Int32} (h3 : l2 = (0 : Int32) → mi_W d 153 11 [some (.ref l1), some (.int l2)] [] (n, sl, f) Q) (h4 : ¬ (l2 = (0 : Int32)) → mi_W d 153 4 [some (.ref l1), some (.int l2)] [] (n, sl, f) Q) : mi_W d 153 0 [some (.ref l1), some (.int l2)] [] (n, sl, f) Q := by
  refine w_iload_n cd_153_0 rfl ?_
  exact w_ifeq cd_153_1 (by decide) h3 h4
theorem b_153_4 {d : Nat} {Q : (Option Value ⊕ Nat) → mi_H → Prop} (n sl : Nat) (f : Nat → mi_C) {l1 : Nat} {l2 : Int32} {fs3 : List Value} (h4 : f l1 = .inr (12, fs3)) (h5 : l1 < n) (h6 : mi_W d 143 0 (mi_en 4 [.ref l1]) [] (n, sl, f) (mi_Kc d 153 5 [some (.ref l1), some (.int l2)] [] Q)) : mi_W (d + 1) 153 4 [some (.ref l1), some (.int l2)] [] (n, sl, f) Q := by
  refine w_aload_n cd_153_4 rfl ?_
  exact w_invokevirtual cd_153_5 (show mt_m 12 333 = some (143, 0) by decide +kernel) (rest := []) rfl (as := [.ref l1]) rfl h4 (Or.inl h5) ⟨Nat.le_of_ble_eq_true rfl, Nat.le_of_ble_eq_true rfl, Nat.le_of_ble_eq_true rfl⟩ h6
theorem b_153_8 {d : Nat} {Q : (Option Value ⊕ Nat) → mi_H → Prop} (n sl : Nat) (f : Nat → mi_C) {l1 : Nat} {l2 : Int32} {s3 : Int32} (h4 : mi_W d 153 19 [some (.ref l1), some (.int l2)] [.int s3] (n, sl, f) Q) : mi_W d 153 8 [some (.ref l1), some (.int l2)] [.int s3] (n, sl, f) Q := by
  exact w_goto cd_153_8 (by decide) h4
theorem b_153_11 {d : Nat} {Q : (Option Value ⊕ Nat) → mi_H → Prop} (n sl : Nat) (f : Nat → mi_C) {l1 : Nat} {l2 : Int32} {fs3 : List Value} {x6 : Int32} {fs8 : List Value} (h4 : f l1 = .inr (12, fs3)) (h5 : l1 < n) (h7 : fs3[9]? = some (.int x6)) (h9 : f l1 = .inr (12, fs8)) (h10 : l1 < n) (h11 : mi_W d 141 0 (mi_en 2 [.ref l1, .int x6]) [] (n, sl, f) (mi_Kc d 153 16 [some (.ref l1), some (.int l2)] [] Q)) : mi_W (d + 1) 153 11 [some (.ref l1), some (.int l2)] [] (n, sl, f) Q := by
  refine w_aload_n cd_153_11 rfl ?_
  refine w_aload_n cd_153_12 rfl ?_
  refine w_getfield cd_153_13 (show mt_f 12 299 = some (12, 9) by decide +kernel) h4 h5 h7 ?_
  exact w_invokevirtual cd_153_16 (show mt_m 12 272 = some (141, 0) by decide +kernel) (rest := []) rfl (as := [.ref l1, .int x6]) rfl h9 (Or.inl h10) ⟨Nat.le_of_ble_eq_true rfl, Nat.le_of_ble_eq_true rfl, Nat.le_of_ble_eq_true rfl⟩ h11
theorem b_153_19 {d : Nat} {Q : (Option Value ⊕ Nat) → mi_H → Prop} (n sl : Nat) (f : Nat → mi_C) {l1 : Nat} {l2 : Int32} {s3 : Int32} (h4 : s3 = 0 ∨ s3 = 1) (h5 : Q (.inl (some (.int s3))) (n, sl, f)) : mi_W d 153 19 [some (.ref l1), some (.int l2)] [.int s3] (n, sl, f) Q := by
  exact w_ireturn_z cd_153_19 (by decide +kernel) h4 h5
/-! MarloweHostModel.key(Ljava/lang/String;)Z -/
set_option maxRecDepth 100000 in
theorem mq_154 : mt_q 154 = my_154 := rfl
set_option maxRecDepth 100000 in
theorem ci_154 : mt_inc 0 my_154.cd = true := by decide +kernel
theorem cd_154_0 : mt_cd 154 0 = some (.aload_n 0) := mt_cd_of (q := (0, .aload_n 0, 1)) mq_154 ci_154 (List.mem_of_getElem? (i := 0) rfl)
theorem cd_154_1 : mt_cd 154 1 = some (.getfield 310) := mt_cd_of (q := (1, .getfield 310, 3)) mq_154 ci_154 (List.mem_of_getElem? (i := 1) rfl)
theorem cd_154_4 : mt_cd 154 4 = some (.iconst 4) := mt_cd_of (q := (4, .iconst 4, 1)) mq_154 ci_154 (List.mem_of_getElem? (i := 2) rfl)
theorem cd_154_5 : mt_cd 154 5 = some (.if_icmp .ne 15) := mt_cd_of (q := (5, .if_icmp .ne 15, 3)) mq_154 ci_154 (List.mem_of_getElem? (i := 3) rfl)
theorem cd_154_8 : mt_cd 154 8 = some (.aload_n 0) := mt_cd_of (q := (8, .aload_n 0, 1)) mq_154 ci_154 (List.mem_of_getElem? (i := 4) rfl)
theorem cd_154_9 : mt_cd 154 9 = some (.aload_n 1) := mt_cd_of (q := (9, .aload_n 1, 1)) mq_154 ci_154 (List.mem_of_getElem? (i := 5) rfl)
theorem cd_154_10 : mt_cd 154 10 = some (.invokevirtual 323) := mt_cd_of (q := (10, .invokevirtual 323, 3)) mq_154 ci_154 (List.mem_of_getElem? (i := 6) rfl)
theorem cd_154_13 : mt_cd 154 13 = some (.ifCond .eq 7) := mt_cd_of (q := (13, .ifCond .eq 7, 3)) mq_154 ci_154 (List.mem_of_getElem? (i := 7) rfl)
theorem cd_154_16 : mt_cd 154 16 = some (.iconst 1) := mt_cd_of (q := (16, .iconst 1, 1)) mq_154 ci_154 (List.mem_of_getElem? (i := 8) rfl)
theorem cd_154_17 : mt_cd 154 17 = some (.goto 4) := mt_cd_of (q := (17, .goto 4, 3)) mq_154 ci_154 (List.mem_of_getElem? (i := 9) rfl)
theorem cd_154_20 : mt_cd 154 20 = some (.iconst 0) := mt_cd_of (q := (20, .iconst 0, 1)) mq_154 ci_154 (List.mem_of_getElem? (i := 10) rfl)
theorem cd_154_21 : mt_cd 154 21 = some (.ireturn) := mt_cd_of (q := (21, .ireturn, 1)) mq_154 ci_154 (List.mem_of_getElem? (i := 11) rfl)
theorem b_154_0 {d : Nat} {Q : (Option Value ⊕ Nat) → mi_H → Prop} (n sl : Nat) (f : Nat → mi_C) {l1 : Nat} {l2 : Nat} {fs3 : List Value} {x6 : Int32} (h4 : f l1 = .inr (12, fs3)) (h5 : l1 < n) (h7 : fs3[8]? = some (.int x6)) (h8 : ¬ x6 = 4 → mi_W d 154 20 [some (.ref l1), some (.ref l2)] [] (n, sl, f) Q) (h9 : ¬ (¬ x6 = 4) → mi_W d 154 8 [some (.ref l1), some (.ref l2)] [] (n, sl, f) Q) : mi_W d 154 0 [some (.ref l1), some (.ref l2)] [] (n, sl, f) Q := by
  refine w_aload_n cd_154_0 rfl ?_
  refine w_getfield cd_154_1 (show mt_f 12 310 = some (12, 8) by decide +kernel) h4 h5 h7 ?_
  refine w_iconst (v := 4) cd_154_4 (by decide) ?_
  exact w_if_icmpne cd_154_5 (by decide) h8 h9
theorem b_154_8 {d : Nat} {Q : (Option Value ⊕ Nat) → mi_H → Prop} (n sl : Nat) (f : Nat → mi_C) {l1 : Nat} {l2 : Nat} {fs3 : List Value} (h4 : f l1 = .inr (12, fs3)) (h5 : l1 < n) (h6 : mi_W d 147 0 (mi_en 3 [.ref l1, .ref l2]) [] (n, sl, f) (mi_Kc d 154 10 [some (.ref l1), some (.ref l2)] [] Q)) : mi_W (d + 1) 154 8 [some (.ref l1), some (.ref l2)] [] (n, sl, f) Q := by
  refine w_aload_n cd_154_8 rfl ?_
  refine w_aload_n cd_154_9 rfl ?_
  exact w_invokevirtual cd_154_10 (show mt_m 12 323 = some (147, 0) by decide +kernel) (rest := []) rfl (as := [.ref l1, .ref l2]) rfl h4 (Or.inl h5) ⟨Nat.le_of_ble_eq_true rfl, Nat.le_of_ble_eq_true rfl, Nat.le_of_ble_eq_true rfl⟩ h6
theorem b_154_13 {d : Nat} {Q : (Option Value ⊕ Nat) → mi_H → Prop} (n sl : Nat) (f : Nat → mi_C) {l1 : Nat} {l2 : Nat} {s3 : Int32} (h4 : s3 = (0 : Int32) → mi_W d 154 20 [some (.ref l1), some (.ref l2)] [] (n, sl, f) Q) (h5 : ¬ (s3 = (0 : Int32)) → mi_W d 154 16 [some (.ref l1), some (.ref l2)] [] (n, sl, f) Q) : mi_W d 154 13 [some (.ref l1), some (.ref l2)] [.int s3] (n, sl, f) Q := by
  exact w_ifeq cd_154_13 (by decide) h4 h5
theorem b_154_16 {d : Nat} {Q : (Option Value ⊕ Nat) → mi_H → Prop} (n sl : Nat) (f : Nat → mi_C) {l1 : Nat} {l2 : Nat} (h3 : mi_W d 154 21 [some (.ref l1), some (.ref l2)] [.int 1] (n, sl, f) Q) : mi_W d 154 16 [some (.ref l1), some (.ref l2)] [] (n, sl, f) Q := by
  refine w_iconst (v := 1) cd_154_16 (by decide) ?_
  exact w_goto cd_154_17 (by decide) h3
theorem b_154_20 {d : Nat} {Q : (Option Value ⊕ Nat) → mi_H → Prop} (n sl : Nat) (f : Nat → mi_C) {l1 : Nat} {l2 : Nat} (h3 : mi_W d 154 21 [some (.ref l1), some (.ref l2)] [.int 0] (n, sl, f) Q) : mi_W d 154 20 [some (.ref l1), some (.ref l2)] [] (n, sl, f) Q := by
  refine w_iconst (v := 0) cd_154_20 (by decide) ?_
  exact h3
theorem b_154_21 {d : Nat} {Q : (Option Value ⊕ Nat) → mi_H → Prop} (n sl : Nat) (f : Nat → mi_C) {l1 : Nat} {l2 : Nat} {s3 : Int32} (h4 : s3 = 0 ∨ s3 = 1) (h5 : Q (.inl (some (.int s3))) (n, sl, f)) : mi_W d 154 21 [some (.ref l1), some (.ref l2)] [.int s3] (n, sl, f) Q := by
  exact w_ireturn_z cd_154_21 (by decide +kernel) h4 h5
/-! MarloweHostModel.node(I)I -/
set_option maxRecDepth 100000 in
theorem mq_155 : mt_q 155 = my_155 := rfl
set_option maxRecDepth 100000 in
theorem ci_155 : mt_inc 0 my_155.cd = true := by decide +kernel
theorem cd_155_0 : mt_cd 155 0 = some (.aload_n 0) := mt_cd_of (q := (0, .aload_n 0, 1)) mq_155 ci_155 (List.mem_of_getElem? (i := 0) rfl)
theorem cd_155_1 : mt_cd 155 1 = some (.getfield 282) := mt_cd_of (q := (1, .getfield 282, 3)) mq_155 ci_155 (List.mem_of_getElem? (i := 1) rfl)
theorem cd_155_4 : mt_cd 155 4 = some (.sipush 800) := mt_cd_of (q := (4, .sipush 800, 3)) mq_155 ci_155 (List.mem_of_getElem? (i := 2) rfl)
theorem cd_155_7 : mt_cd 155 7 = some (.if_icmp .ne 14) := mt_cd_of (q := (7, .if_icmp .ne 14, 3)) mq_155 ci_155 (List.mem_of_getElem? (i := 3) rfl)
theorem cd_155_10 : mt_cd 155 10 = some (.aload_n 0) := mt_cd_of (q := (10, .aload_n 0, 1)) mq_155 ci_155 (List.mem_of_getElem? (i := 4) rfl)
theorem cd_155_11 : mt_cd 155 11 = some (.aload_n 0) := mt_cd_of (q := (11, .aload_n 0, 1)) mq_155 ci_155 (List.mem_of_getElem? (i := 5) rfl)
theorem cd_155_12 : mt_cd 155 12 = some (.getfield 299) := mt_cd_of (q := (12, .getfield 299, 3)) mq_155 ci_155 (List.mem_of_getElem? (i := 6) rfl)
theorem cd_155_15 : mt_cd 155 15 = some (.invokevirtual 272) := mt_cd_of (q := (15, .invokevirtual 272, 3)) mq_155 ci_155 (List.mem_of_getElem? (i := 7) rfl)
theorem cd_155_18 : mt_cd 155 18 = some (.pop) := mt_cd_of (q := (18, .pop, 1)) mq_155 ci_155 (List.mem_of_getElem? (i := 8) rfl)
theorem cd_155_19 : mt_cd 155 19 = some (.iconst (-1)) := mt_cd_of (q := (19, .iconst (-1), 1)) mq_155 ci_155 (List.mem_of_getElem? (i := 9) rfl)
theorem cd_155_20 : mt_cd 155 20 = some (.ireturn) := mt_cd_of (q := (20, .ireturn, 1)) mq_155 ci_155 (List.mem_of_getElem? (i := 10) rfl)
theorem cd_155_21 : mt_cd 155 21 = some (.aload_n 0) := mt_cd_of (q := (21, .aload_n 0, 1)) mq_155 ci_155 (List.mem_of_getElem? (i := 11) rfl)
theorem cd_155_22 : mt_cd 155 22 = some (.getfield 77) := mt_cd_of (q := (22, .getfield 77, 3)) mq_155 ci_155 (List.mem_of_getElem? (i := 12) rfl)
theorem cd_155_25 : mt_cd 155 25 = some (.aload_n 0) := mt_cd_of (q := (25, .aload_n 0, 1)) mq_155 ci_155 (List.mem_of_getElem? (i := 13) rfl)
theorem cd_155_26 : mt_cd 155 26 = some (.getfield 282) := mt_cd_of (q := (26, .getfield 282, 3)) mq_155 ci_155 (List.mem_of_getElem? (i := 14) rfl)
theorem cd_155_29 : mt_cd 155 29 = some (.iload_n 1) := mt_cd_of (q := (29, .iload_n 1, 1)) mq_155 ci_155 (List.mem_of_getElem? (i := 15) rfl)
theorem cd_155_30 : mt_cd 155 30 = some (.iastore) := mt_cd_of (q := (30, .iastore, 1)) mq_155 ci_155 (List.mem_of_getElem? (i := 16) rfl)
theorem cd_155_31 : mt_cd 155 31 = some (.aload_n 0) := mt_cd_of (q := (31, .aload_n 0, 1)) mq_155 ci_155 (List.mem_of_getElem? (i := 17) rfl)
theorem cd_155_32 : mt_cd 155 32 = some (.dup) := mt_cd_of (q := (32, .dup, 1)) mq_155 ci_155 (List.mem_of_getElem? (i := 18) rfl)
theorem cd_155_33 : mt_cd 155 33 = some (.getfield 282) := mt_cd_of (q := (33, .getfield 282, 3)) mq_155 ci_155 (List.mem_of_getElem? (i := 19) rfl)
theorem cd_155_36 : mt_cd 155 36 = some (.dup_x1) := mt_cd_of (q := (36, .dup_x1, 1)) mq_155 ci_155 (List.mem_of_getElem? (i := 20) rfl)
theorem cd_155_37 : mt_cd 155 37 = some (.iconst 1) := mt_cd_of (q := (37, .iconst 1, 1)) mq_155 ci_155 (List.mem_of_getElem? (i := 21) rfl)
theorem cd_155_38 : mt_cd 155 38 = some (.iadd) := mt_cd_of (q := (38, .iadd, 1)) mq_155 ci_155 (List.mem_of_getElem? (i := 22) rfl)
theorem cd_155_39 : mt_cd 155 39 = some (.putfield 282) := mt_cd_of (q := (39, .putfield 282, 3)) mq_155 ci_155 (List.mem_of_getElem? (i := 23) rfl)
theorem cd_155_42 : mt_cd 155 42 = some (.ireturn) := mt_cd_of (q := (42, .ireturn, 1)) mq_155 ci_155 (List.mem_of_getElem? (i := 24) rfl)
theorem b_155_0 {d : Nat} {Q : (Option Value ⊕ Nat) → mi_H → Prop} (n sl : Nat) (f : Nat → mi_C) {l1 : Nat} {l2 : Int32} {fs3 : List Value} {x6 : Int32} (h4 : f l1 = .inr (12, fs3)) (h5 : l1 < n) (h7 : fs3[21]? = some (.int x6)) (h8 : ¬ x6 = 800 → mi_W d 155 21 [some (.ref l1), some (.int l2)] [] (n, sl, f) Q) (h9 : ¬ (¬ x6 = 800) → mi_W d 155 10 [some (.ref l1), some (.int l2)] [] (n, sl, f) Q) : mi_W d 155 0 [some (.ref l1), some (.int l2)] [] (n, sl, f) Q := by
  refine w_aload_n cd_155_0 rfl ?_
  refine w_getfield cd_155_1 (show mt_f 12 282 = some (12, 21) by decide +kernel) h4 h5 h7 ?_
  refine w_sipush (v := 800) cd_155_4 (by decide) ?_
  exact w_if_icmpne cd_155_7 (by decide) h8 h9
theorem b_155_10 {d : Nat} {Q : (Option Value ⊕ Nat) → mi_H → Prop} (n sl : Nat) (f : Nat → mi_C) {l1 : Nat} {l2 : Int32} {fs3 : List Value} {x6 : Int32} {fs8 : List Value} (h4 : f l1 = .inr (12, fs3)) (h5 : l1 < n) (h7 : fs3[9]? = some (.int x6)) (h9 : f l1 = .inr (12, fs8)) (h10 : l1 < n) (h11 : mi_W d 141 0 (mi_en 2 [.ref l1, .int x6]) [] (n, sl, f) (mi_Kc d 155 15 [some (.ref l1), some (.int l2)] [] Q)) : mi_W (d + 1) 155 10 [some (.ref l1), some (.int l2)] [] (n, sl, f) Q := by
  refine w_aload_n cd_155_10 rfl ?_
  refine w_aload_n cd_155_11 rfl ?_
  refine w_getfield cd_155_12 (show mt_f 12 299 = some (12, 9) by decide +kernel) h4 h5 h7 ?_
  exact w_invokevirtual cd_155_15 (show mt_m 12 272 = some (141, 0) by decide +kernel) (rest := []) rfl (as := [.ref l1, .int x6]) rfl h9 (Or.inl h10) ⟨Nat.le_of_ble_eq_true rfl, Nat.le_of_ble_eq_true rfl, Nat.le_of_ble_eq_true rfl⟩ h11
theorem b_155_18 {d : Nat} {Q : (Option Value ⊕ Nat) → mi_H → Prop} (n sl : Nat) (f : Nat → mi_C) {l1 : Nat} {l2 : Int32} {s3 : Int32} (h4 : Q (.inl (some (.int (-1)))) (n, sl, f)) : mi_W d 155 18 [some (.ref l1), some (.int l2)] [.int s3] (n, sl, f) Q := by
  refine w_pop_i cd_155_18 ?_
  refine w_iconst (v := (-1)) cd_155_19 (by decide) ?_
  exact w_ireturn_i cd_155_20 (by decide +kernel) h4
theorem b_155_21 {d : Nat} {Q : (Option Value ⊕ Nat) → mi_H → Prop} (n sl : Nat) (f : Nat → mi_C) {l1 : Nat} {l2 : Int32} {fs3 : List Value} {x6 : Nat} {fs8 : List Value} {x11 : Int32} (m13 i13 : Nat) (g13 : Nat → Int32) {fs17 : List Value} {x20 : Int32} {fs22 : List Value} (h4 : f l1 = .inr (12, fs3)) (h5 : l1 < n) (h7 : fs3[12]? = some (.ref x6)) (h9 : f l1 = .inr (12, fs8)) (h10 : l1 < n) (h12 : fs8[21]? = some (.int x11)) (h14 : f x6 = .inl (0, m13, .inl g13)) (h15 : x6 < n) (h16 : mi_ix x11 m13 i13) (h18 : (va_up f x6 (.inl (0, m13, .inl (upd g13 i13 l2)))) l1 = .inr (12, fs17)) (h19 : l1 < n) (h21 : fs17[21]? = some (.int x20)) (h23 : (va_up f x6 (.inl (0, m13, .inl (upd g13 i13 l2)))) l1 = .inr (12, fs22)) (h24 : l1 < n) (h25 : 21 < fs22.length) (h26 : Q (.inl (some (.int x20))) (n, sl, (va_up (va_up f x6 (.inl (0, m13, .inl (upd g13 i13 l2)))) l1 (.inr (12, fs22.set 21 (.int (x20 + 1))))))) : mi_W d 155 21 [some (.ref l1), some (.int l2)] [] (n, sl, f) Q := by
  refine w_aload_n cd_155_21 rfl ?_
  refine w_getfield cd_155_22 (show mt_f 12 77 = some (12, 12) by decide +kernel) h4 h5 h7 ?_
  refine w_aload_n cd_155_25 rfl ?_
  refine w_getfield cd_155_26 (show mt_f 12 282 = some (12, 21) by decide +kernel) h9 h10 h12 ?_
  refine w_iload_n cd_155_29 rfl ?_
  refine w_iastore cd_155_30 h14 h15 h16 ?_
  refine w_aload_n cd_155_31 rfl ?_
  refine w_dup_r cd_155_32 ?_
  refine w_getfield cd_155_33 (show mt_f 12 282 = some (12, 21) by decide +kernel) h18 h19 h21 ?_
  refine w_dup_x1_ir cd_155_36 ?_
  refine w_iconst (v := 1) cd_155_37 (by decide) ?_
  refine w_iadd cd_155_38 ?_
  refine w_putfield (w := .int (x20 + 1)) cd_155_39 (show mt_f 12 282 = some (12, 21) by decide +kernel) h23 h24 ⟨h25, rfl, Or.inl (by decide)⟩ ?_
  exact w_ireturn_i cd_155_42 (by decide +kernel) h26
/-! MarloweHostModel.parts(I)Z -/
set_option maxRecDepth 100000 in
theorem mq_156 : mt_q 156 = my_156 := rfl
set_option maxRecDepth 100000 in
theorem ci_156 : mt_inc 0 my_156.cd = true := by decide +kernel
theorem cd_156_0 : mt_cd 156 0 = some (.aload_n 0) := mt_cd_of (q := (0, .aload_n 0, 1)) mq_156 ci_156 (List.mem_append_left _ (show _ ∈ my_156_0 from List.mem_of_getElem? (i := 0) rfl))
theorem cd_156_1 : mt_cd 156 1 = some (.getfield 77) := mt_cd_of (q := (1, .getfield 77, 3)) mq_156 ci_156 (List.mem_append_left _ (show _ ∈ my_156_0 from List.mem_of_getElem? (i := 1) rfl))
theorem cd_156_4 : mt_cd 156 4 = some (.iload_n 1) := mt_cd_of (q := (4, .iload_n 1, 1)) mq_156 ci_156 (List.mem_append_left _ (show _ ∈ my_156_0 from List.mem_of_getElem? (i := 2) rfl))
theorem cd_156_5 : mt_cd 156 5 = some (.iaload) := mt_cd_of (q := (5, .iaload, 1)) mq_156 ci_156 (List.mem_append_left _ (show _ ∈ my_156_0 from List.mem_of_getElem? (i := 3) rfl))
theorem cd_156_6 : mt_cd 156 6 = some (.tableswitch 266 0 5 #[38, 40, 266, 164, 212, 218]) := mt_cd_of (q := (6, .tableswitch 266 0 5 #[38, 40, 266, 164, 212, 218], 38)) mq_156 ci_156 (List.mem_append_left _ (show _ ∈ my_156_0 from List.mem_of_getElem? (i := 4) rfl))
theorem cd_156_44 : mt_cd 156 44 = some (.iconst 1) := mt_cd_of (q := (44, .iconst 1, 1)) mq_156 ci_156 (List.mem_append_left _ (show _ ∈ my_156_0 from List.mem_of_getElem? (i := 5) rfl))
theorem cd_156_45 : mt_cd 156 45 = some (.ireturn) := mt_cd_of (q := (45, .ireturn, 1)) mq_156 ci_156 (List.mem_append_left _ (show _ ∈ my_156_0 from List.mem_of_getElem? (i := 6) rfl))
theorem cd_156_46 : mt_cd 156 46 = some (.aload_n 0) := mt_cd_of (q := (46, .aload_n 0, 1)) mq_156 ci_156 (List.mem_append_left _ (show _ ∈ my_156_0 from List.mem_of_getElem? (i := 7) rfl))
theorem cd_156_47 : mt_cd 156 47 = some (.getfield 80) := mt_cd_of (q := (47, .getfield 80, 3)) mq_156 ci_156 (List.mem_append_left _ (show _ ∈ my_156_0 from List.mem_of_getElem? (i := 8) rfl))
theorem cd_156_50 : mt_cd 156 50 = some (.iload_n 1) := mt_cd_of (q := (50, .iload_n 1, 1)) mq_156 ci_156 (List.mem_append_left _ (show _ ∈ my_156_0 from List.mem_of_getElem? (i := 9) rfl))
theorem cd_156_51 : mt_cd 156 51 = some (.aload_n 0) := mt_cd_of (q := (51, .aload_n 0, 1)) mq_156 ci_156 (List.mem_append_left _ (show _ ∈ my_156_0 from List.mem_of_getElem? (i := 10) rfl))
theorem cd_156_52 : mt_cd 156 52 = some (.invokevirtual 370) := mt_cd_of (q := (52, .invokevirtual 370, 3)) mq_156 ci_156 (List.mem_append_left _ (show _ ∈ my_156_0 from List.mem_of_getElem? (i := 11) rfl))
theorem cd_156_55 : mt_cd 156 55 = some (.dup_x2) := mt_cd_of (q := (55, .dup_x2, 1)) mq_156 ci_156 (List.mem_append_left _ (show _ ∈ my_156_0 from List.mem_of_getElem? (i := 12) rfl))
theorem cd_156_56 : mt_cd 156 56 = some (.iastore) := mt_cd_of (q := (56, .iastore, 1)) mq_156 ci_156 (List.mem_append_left _ (show _ ∈ my_156_0 from List.mem_of_getElem? (i := 13) rfl))
theorem cd_156_57 : mt_cd 156 57 = some (.ifCond .ge 5) := mt_cd_of (q := (57, .ifCond .ge 5, 3)) mq_156 ci_156 (List.mem_append_left _ (show _ ∈ my_156_0 from List.mem_of_getElem? (i := 14) rfl))
theorem cd_156_60 : mt_cd 156 60 = some (.iconst 0) := mt_cd_of (q := (60, .iconst 0, 1)) mq_156 ci_156 (List.mem_append_left _ (show _ ∈ my_156_0 from List.mem_of_getElem? (i := 15) rfl))
theorem cd_156_61 : mt_cd 156 61 = some (.ireturn) := mt_cd_of (q := (61, .ireturn, 1)) mq_156 ci_156 (List.mem_append_left _ (show _ ∈ my_156_0 from List.mem_of_getElem? (i := 16) rfl))
theorem cd_156_62 : mt_cd 156 62 = some (.aload_n 0) := mt_cd_of (q := (62, .aload_n 0, 1)) mq_156 ci_156 (List.mem_append_left _ (show _ ∈ my_156_0 from List.mem_of_getElem? (i := 17) rfl))
theorem cd_156_63 : mt_cd 156 63 = some (.ldc 31) := mt_cd_of (q := (63, .ldc 31, 2)) mq_156 ci_156 (List.mem_append_left _ (show _ ∈ my_156_0 from List.mem_of_getElem? (i := 18) rfl))
theorem cd_156_65 : mt_cd 156 65 = some (.invokevirtual 387) := mt_cd_of (q := (65, .invokevirtual 387, 3)) mq_156 ci_156 (List.mem_append_left _ (show _ ∈ my_156_0 from List.mem_of_getElem? (i := 19) rfl))
theorem cd_156_68 : mt_cd 156 68 = some (.ifCond .eq 10) := mt_cd_of (q := (68, .ifCond .eq 10, 3)) mq_156 ci_156 (List.mem_append_left _ (show _ ∈ my_156_0 from List.mem_of_getElem? (i := 20) rfl))
theorem cd_156_71 : mt_cd 156 71 = some (.aload_n 0) := mt_cd_of (q := (71, .aload_n 0, 1)) mq_156 ci_156 (List.mem_append_left _ (show _ ∈ my_156_0 from List.mem_of_getElem? (i := 21) rfl))
theorem cd_156_72 : mt_cd 156 72 = some (.getfield 77) := mt_cd_of (q := (72, .getfield 77, 3)) mq_156 ci_156 (List.mem_append_left _ (show _ ∈ my_156_0 from List.mem_of_getElem? (i := 22) rfl))
theorem cd_156_75 : mt_cd 156 75 = some (.iload_n 1) := mt_cd_of (q := (75, .iload_n 1, 1)) mq_156 ci_156 (List.mem_append_left _ (show _ ∈ my_156_0 from List.mem_of_getElem? (i := 23) rfl))
theorem cd_156_76 : mt_cd 156 76 = some (.iconst 2) := mt_cd_of (q := (76, .iconst 2, 1)) mq_156 ci_156 (List.mem_append_left _ (show _ ∈ my_156_0 from List.mem_of_getElem? (i := 24) rfl))
theorem cd_156_77 : mt_cd 156 77 = some (.iastore) := mt_cd_of (q := (77, .iastore, 1)) mq_156 ci_156 (List.mem_append_left _ (show _ ∈ my_156_0 from List.mem_of_getElem? (i := 25) rfl))
theorem cd_156_78 : mt_cd 156 78 = some (.aload_n 0) := mt_cd_of (q := (78, .aload_n 0, 1)) mq_156 ci_156 (List.mem_append_left _ (show _ ∈ my_156_0 from List.mem_of_getElem? (i := 26) rfl))
theorem cd_156_79 : mt_cd 156 79 = some (.aload_n 0) := mt_cd_of (q := (79, .aload_n 0, 1)) mq_156 ci_156 (List.mem_append_left _ (show _ ∈ my_156_0 from List.mem_of_getElem? (i := 27) rfl))
theorem cd_156_80 : mt_cd 156 80 = some (.ldc 29) := mt_cd_of (q := (80, .ldc 29, 2)) mq_156 ci_156 (List.mem_append_left _ (show _ ∈ my_156_0 from List.mem_of_getElem? (i := 28) rfl))
theorem cd_156_82 : mt_cd 156 82 = some (.invokevirtual 387) := mt_cd_of (q := (82, .invokevirtual 387, 3)) mq_156 ci_156 (List.mem_append_left _ (show _ ∈ my_156_0 from List.mem_of_getElem? (i := 29) rfl))
theorem cd_156_85 : mt_cd 156 85 = some (.ifCond .ne 12) := mt_cd_of (q := (85, .ifCond .ne 12, 3)) mq_156 ci_156 (List.mem_append_left _ (show _ ∈ my_156_0 from List.mem_of_getElem? (i := 30) rfl))
theorem cd_156_88 : mt_cd 156 88 = some (.aload_n 0) := mt_cd_of (q := (88, .aload_n 0, 1)) mq_156 ci_156 (List.mem_append_left _ (show _ ∈ my_156_0 from List.mem_of_getElem? (i := 31) rfl))
theorem cd_156_89 : mt_cd 156 89 = some (.ldc 31) := mt_cd_of (q := (89, .ldc 31, 2)) mq_156 ci_156 (List.mem_append_left _ (show _ ∈ my_156_0 from List.mem_of_getElem? (i := 32) rfl))
theorem cd_156_91 : mt_cd 156 91 = some (.invokevirtual 387) := mt_cd_of (q := (91, .invokevirtual 387, 3)) mq_156 ci_156 (List.mem_append_left _ (show _ ∈ my_156_0 from List.mem_of_getElem? (i := 33) rfl))
theorem cd_156_94 : mt_cd 156 94 = some (.ifCond .eq 7) := mt_cd_of (q := (94, .ifCond .eq 7, 3)) mq_156 ci_156 (List.mem_append_left _ (show _ ∈ my_156_0 from List.mem_of_getElem? (i := 34) rfl))
theorem cd_156_97 : mt_cd 156 97 = some (.iconst 1) := mt_cd_of (q := (97, .iconst 1, 1)) mq_156 ci_156 (List.mem_append_left _ (show _ ∈ my_156_0 from List.mem_of_getElem? (i := 35) rfl))
theorem cd_156_98 : mt_cd 156 98 = some (.goto 4) := mt_cd_of (q := (98, .goto 4, 3)) mq_156 ci_156 (List.mem_append_left _ (show _ ∈ my_156_0 from List.mem_of_getElem? (i := 36) rfl))
theorem cd_156_101 : mt_cd 156 101 = some (.iconst 0) := mt_cd_of (q := (101, .iconst 0, 1)) mq_156 ci_156 (List.mem_append_left _ (show _ ∈ my_156_0 from List.mem_of_getElem? (i := 37) rfl))
theorem cd_156_102 : mt_cd 156 102 = some (.invokevirtual 383) := mt_cd_of (q := (102, .invokevirtual 383, 3)) mq_156 ci_156 (List.mem_append_left _ (show _ ∈ my_156_0 from List.mem_of_getElem? (i := 38) rfl))
theorem cd_156_105 : mt_cd 156 105 = some (.ifCond .eq 63) := mt_cd_of (q := (105, .ifCond .eq 63, 3)) mq_156 ci_156 (List.mem_append_left _ (show _ ∈ my_156_0 from List.mem_of_getElem? (i := 39) rfl))
theorem cd_156_108 : mt_cd 156 108 = some (.aload_n 0) := mt_cd_of (q := (108, .aload_n 0, 1)) mq_156 ci_156 (List.mem_append_left _ (show _ ∈ my_156_0 from List.mem_of_getElem? (i := 40) rfl))
theorem cd_156_109 : mt_cd 156 109 = some (.getfield 83) := mt_cd_of (q := (109, .getfield 83, 3)) mq_156 ci_156 (List.mem_append_left _ (show _ ∈ my_156_0 from List.mem_of_getElem? (i := 41) rfl))
theorem cd_156_112 : mt_cd 156 112 = some (.iload_n 1) := mt_cd_of (q := (112, .iload_n 1, 1)) mq_156 ci_156 (List.mem_append_left _ (show _ ∈ my_156_0 from List.mem_of_getElem? (i := 42) rfl))
theorem cd_156_113 : mt_cd 156 113 = some (.aload_n 0) := mt_cd_of (q := (113, .aload_n 0, 1)) mq_156 ci_156 (List.mem_append_left _ (show _ ∈ my_156_0 from List.mem_of_getElem? (i := 43) rfl))
theorem cd_156_114 : mt_cd 156 114 = some (.invokevirtual 370) := mt_cd_of (q := (114, .invokevirtual 370, 3)) mq_156 ci_156 (List.mem_append_left _ (show _ ∈ my_156_0 from List.mem_of_getElem? (i := 44) rfl))
theorem cd_156_117 : mt_cd 156 117 = some (.dup_x2) := mt_cd_of (q := (117, .dup_x2, 1)) mq_156 ci_156 (List.mem_append_left _ (show _ ∈ my_156_0 from List.mem_of_getElem? (i := 45) rfl))
theorem cd_156_118 : mt_cd 156 118 = some (.iastore) := mt_cd_of (q := (118, .iastore, 1)) mq_156 ci_156 (List.mem_append_left _ (show _ ∈ my_156_0 from List.mem_of_getElem? (i := 46) rfl))
theorem cd_156_119 : mt_cd 156 119 = some (.ifCond .lt 49) := mt_cd_of (q := (119, .ifCond .lt 49, 3)) mq_156 ci_156 (List.mem_append_left _ (show _ ∈ my_156_0 from List.mem_of_getElem? (i := 47) rfl))
theorem cd_156_122 : mt_cd 156 122 = some (.aload_n 0) := mt_cd_of (q := (122, .aload_n 0, 1)) mq_156 ci_156 (List.mem_append_left _ (show _ ∈ my_156_0 from List.mem_of_getElem? (i := 48) rfl))
theorem cd_156_123 : mt_cd 156 123 = some (.getfield 86) := mt_cd_of (q := (123, .getfield 86, 3)) mq_156 ci_156 (List.mem_append_left _ (show _ ∈ my_156_0 from List.mem_of_getElem? (i := 49) rfl))
theorem cd_156_126 : mt_cd 156 126 = some (.iload_n 1) := mt_cd_of (q := (126, .iload_n 1, 1)) mq_156 ci_156 (List.mem_append_left _ (show _ ∈ my_156_0 from List.mem_of_getElem? (i := 50) rfl))
theorem cd_156_127 : mt_cd 156 127 = some (.aload_n 0) := mt_cd_of (q := (127, .aload_n 0, 1)) mq_156 ci_156 (List.mem_append_left _ (show _ ∈ my_156_0 from List.mem_of_getElem? (i := 51) rfl))
theorem cd_156_128 : mt_cd 156 128 = some (.invokevirtual 396) := mt_cd_of (q := (128, .invokevirtual 396, 3)) mq_156 ci_156 (List.mem_append_left _ (show _ ∈ my_156_0 from List.mem_of_getElem? (i := 52) rfl))
theorem cd_156_131 : mt_cd 156 131 = some (.dup_x2) := mt_cd_of (q := (131, .dup_x2, 1)) mq_156 ci_156 (List.mem_append_left _ (show _ ∈ my_156_0 from List.mem_of_getElem? (i := 53) rfl))
theorem cd_156_132 : mt_cd 156 132 = some (.iastore) := mt_cd_of (q := (132, .iastore, 1)) mq_156 ci_156 (List.mem_append_left _ (show _ ∈ my_156_0 from List.mem_of_getElem? (i := 54) rfl))
theorem cd_156_133 : mt_cd 156 133 = some (.ifCond .lt 35) := mt_cd_of (q := (133, .ifCond .lt 35, 3)) mq_156 ci_156 (List.mem_append_left _ (show _ ∈ my_156_0 from List.mem_of_getElem? (i := 55) rfl))
theorem cd_156_136 : mt_cd 156 136 = some (.aload_n 0) := mt_cd_of (q := (136, .aload_n 0, 1)) mq_156 ci_156 (List.mem_append_left _ (show _ ∈ my_156_0 from List.mem_of_getElem? (i := 56) rfl))
theorem cd_156_137 : mt_cd 156 137 = some (.getfield 89) := mt_cd_of (q := (137, .getfield 89, 3)) mq_156 ci_156 (List.mem_append_left _ (show _ ∈ my_156_0 from List.mem_of_getElem? (i := 57) rfl))
theorem cd_156_140 : mt_cd 156 140 = some (.iload_n 1) := mt_cd_of (q := (140, .iload_n 1, 1)) mq_156 ci_156 (List.mem_append_left _ (show _ ∈ my_156_0 from List.mem_of_getElem? (i := 58) rfl))
theorem cd_156_141 : mt_cd 156 141 = some (.aload_n 0) := mt_cd_of (q := (141, .aload_n 0, 1)) mq_156 ci_156 (List.mem_append_left _ (show _ ∈ my_156_0 from List.mem_of_getElem? (i := 59) rfl))
theorem cd_156_142 : mt_cd 156 142 = some (.invokevirtual 399) := mt_cd_of (q := (142, .invokevirtual 399, 3)) mq_156 ci_156 (List.mem_append_right _ (List.mem_append_left _ (show _ ∈ my_156_1 from List.mem_of_getElem? (i := 0) rfl)))
theorem cd_156_145 : mt_cd 156 145 = some (.dup_x2) := mt_cd_of (q := (145, .dup_x2, 1)) mq_156 ci_156 (List.mem_append_right _ (List.mem_append_left _ (show _ ∈ my_156_1 from List.mem_of_getElem? (i := 1) rfl)))
theorem cd_156_146 : mt_cd 156 146 = some (.iastore) := mt_cd_of (q := (146, .iastore, 1)) mq_156 ci_156 (List.mem_append_right _ (List.mem_append_left _ (show _ ∈ my_156_1 from List.mem_of_getElem? (i := 2) rfl)))
theorem cd_156_147 : mt_cd 156 147 = some (.ifCond .lt 21) := mt_cd_of (q := (147, .ifCond .lt 21, 3)) mq_156 ci_156 (List.mem_append_right _ (List.mem_append_left _ (show _ ∈ my_156_1 from List.mem_of_getElem? (i := 3) rfl)))
theorem cd_156_150 : mt_cd 156 150 = some (.aload_n 0) := mt_cd_of (q := (150, .aload_n 0, 1)) mq_156 ci_156 (List.mem_append_right _ (List.mem_append_left _ (show _ ∈ my_156_1 from List.mem_of_getElem? (i := 4) rfl)))
theorem cd_156_151 : mt_cd 156 151 = some (.getfield 98) := mt_cd_of (q := (151, .getfield 98, 3)) mq_156 ci_156 (List.mem_append_right _ (List.mem_append_left _ (show _ ∈ my_156_1 from List.mem_of_getElem? (i := 5) rfl)))
theorem cd_156_154 : mt_cd 156 154 = some (.iload_n 1) := mt_cd_of (q := (154, .iload_n 1, 1)) mq_156 ci_156 (List.mem_append_right _ (List.mem_append_left _ (show _ ∈ my_156_1 from List.mem_of_getElem? (i := 6) rfl)))
theorem cd_156_155 : mt_cd 156 155 = some (.aload_n 0) := mt_cd_of (q := (155, .aload_n 0, 1)) mq_156 ci_156 (List.mem_append_right _ (List.mem_append_left _ (show _ ∈ my_156_1 from List.mem_of_getElem? (i := 7) rfl)))
theorem cd_156_156 : mt_cd 156 156 = some (.invokevirtual 355) := mt_cd_of (q := (156, .invokevirtual 355, 3)) mq_156 ci_156 (List.mem_append_right _ (List.mem_append_left _ (show _ ∈ my_156_1 from List.mem_of_getElem? (i := 8) rfl)))
theorem cd_156_159 : mt_cd 156 159 = some (.dup_x2) := mt_cd_of (q := (159, .dup_x2, 1)) mq_156 ci_156 (List.mem_append_right _ (List.mem_append_left _ (show _ ∈ my_156_1 from List.mem_of_getElem? (i := 9) rfl)))
theorem cd_156_160 : mt_cd 156 160 = some (.iastore) := mt_cd_of (q := (160, .iastore, 1)) mq_156 ci_156 (List.mem_append_right _ (List.mem_append_left _ (show _ ∈ my_156_1 from List.mem_of_getElem? (i := 10) rfl)))
theorem cd_156_161 : mt_cd 156 161 = some (.ifCond .lt 7) := mt_cd_of (q := (161, .ifCond .lt 7, 3)) mq_156 ci_156 (List.mem_append_right _ (List.mem_append_left _ (show _ ∈ my_156_1 from List.mem_of_getElem? (i := 11) rfl)))
theorem cd_156_164 : mt_cd 156 164 = some (.iconst 1) := mt_cd_of (q := (164, .iconst 1, 1)) mq_156 ci_156 (List.mem_append_right _ (List.mem_append_left _ (show _ ∈ my_156_1 from List.mem_of_getElem? (i := 12) rfl)))
theorem cd_156_165 : mt_cd 156 165 = some (.goto 4) := mt_cd_of (q := (165, .goto 4, 3)) mq_156 ci_156 (List.mem_append_right _ (List.mem_append_left _ (show _ ∈ my_156_1 from List.mem_of_getElem? (i := 13) rfl)))
theorem cd_156_168 : mt_cd 156 168 = some (.iconst 0) := mt_cd_of (q := (168, .iconst 0, 1)) mq_156 ci_156 (List.mem_append_right _ (List.mem_append_left _ (show _ ∈ my_156_1 from List.mem_of_getElem? (i := 14) rfl)))
theorem cd_156_169 : mt_cd 156 169 = some (.ireturn) := mt_cd_of (q := (169, .ireturn, 1)) mq_156 ci_156 (List.mem_append_right _ (List.mem_append_left _ (show _ ∈ my_156_1 from List.mem_of_getElem? (i := 15) rfl)))
theorem cd_156_170 : mt_cd 156 170 = some (.aload_n 0) := mt_cd_of (q := (170, .aload_n 0, 1)) mq_156 ci_156 (List.mem_append_right _ (List.mem_append_left _ (show _ ∈ my_156_1 from List.mem_of_getElem? (i := 16) rfl)))
theorem cd_156_171 : mt_cd 156 171 = some (.getfield 89) := mt_cd_of (q := (171, .getfield 89, 3)) mq_156 ci_156 (List.mem_append_right _ (List.mem_append_left _ (show _ ∈ my_156_1 from List.mem_of_getElem? (i := 17) rfl)))
theorem cd_156_174 : mt_cd 156 174 = some (.iload_n 1) := mt_cd_of (q := (174, .iload_n 1, 1)) mq_156 ci_156 (List.mem_append_right _ (List.mem_append_left _ (show _ ∈ my_156_1 from List.mem_of_getElem? (i := 18) rfl)))
theorem cd_156_175 : mt_cd 156 175 = some (.aload_n 0) := mt_cd_of (q := (175, .aload_n 0, 1)) mq_156 ci_156 (List.mem_append_right _ (List.mem_append_left _ (show _ ∈ my_156_1 from List.mem_of_getElem? (i := 19) rfl)))
theorem cd_156_176 : mt_cd 156 176 = some (.invokevirtual 401) := mt_cd_of (q := (176, .invokevirtual 401, 3)) mq_156 ci_156 (List.mem_append_right _ (List.mem_append_left _ (show _ ∈ my_156_1 from List.mem_of_getElem? (i := 20) rfl)))
theorem cd_156_179 : mt_cd 156 179 = some (.dup_x2) := mt_cd_of (q := (179, .dup_x2, 1)) mq_156 ci_156 (List.mem_append_right _ (List.mem_append_left _ (show _ ∈ my_156_1 from List.mem_of_getElem? (i := 21) rfl)))
theorem cd_156_180 : mt_cd 156 180 = some (.iastore) := mt_cd_of (q := (180, .iastore, 1)) mq_156 ci_156 (List.mem_append_right _ (List.mem_append_left _ (show _ ∈ my_156_1 from List.mem_of_getElem? (i := 22) rfl)))
theorem cd_156_181 : mt_cd 156 181 = some (.ifCond .lt 35) := mt_cd_of (q := (181, .ifCond .lt 35, 3)) mq_156 ci_156 (List.mem_append_right _ (List.mem_append_left _ (show _ ∈ my_156_1 from List.mem_of_getElem? (i := 23) rfl)))
theorem cd_156_184 : mt_cd 156 184 = some (.aload_n 0) := mt_cd_of (q := (184, .aload_n 0, 1)) mq_156 ci_156 (List.mem_append_right _ (List.mem_append_left _ (show _ ∈ my_156_1 from List.mem_of_getElem? (i := 24) rfl)))
theorem cd_156_185 : mt_cd 156 185 = some (.getfield 80) := mt_cd_of (q := (185, .getfield 80, 3)) mq_156 ci_156 (List.mem_append_right _ (List.mem_append_left _ (show _ ∈ my_156_1 from List.mem_of_getElem? (i := 25) rfl)))
theorem cd_156_188 : mt_cd 156 188 = some (.iload_n 1) := mt_cd_of (q := (188, .iload_n 1, 1)) mq_156 ci_156 (List.mem_append_right _ (List.mem_append_left _ (show _ ∈ my_156_1 from List.mem_of_getElem? (i := 26) rfl)))
theorem cd_156_189 : mt_cd 156 189 = some (.aload_n 0) := mt_cd_of (q := (189, .aload_n 0, 1)) mq_156 ci_156 (List.mem_append_right _ (List.mem_append_left _ (show _ ∈ my_156_1 from List.mem_of_getElem? (i := 27) rfl)))
theorem cd_156_190 : mt_cd 156 190 = some (.invokevirtual 355) := mt_cd_of (q := (190, .invokevirtual 355, 3)) mq_156 ci_156 (List.mem_append_right _ (List.mem_append_left _ (show _ ∈ my_156_1 from List.mem_of_getElem? (i := 28) rfl)))
theorem cd_156_193 : mt_cd 156 193 = some (.dup_x2) := mt_cd_of (q := (193, .dup_x2, 1)) mq_156 ci_156 (List.mem_append_right _ (List.mem_append_left _ (show _ ∈ my_156_1 from List.mem_of_getElem? (i := 29) rfl)))
theorem cd_156_194 : mt_cd 156 194 = some (.iastore) := mt_cd_of (q := (194, .iastore, 1)) mq_156 ci_156 (List.mem_append_right _ (List.mem_append_left _ (show _ ∈ my_156_1 from List.mem_of_getElem? (i := 30) rfl)))
theorem cd_156_195 : mt_cd 156 195 = some (.ifCond .lt 21) := mt_cd_of (q := (195, .ifCond .lt 21, 3)) mq_156 ci_156 (List.mem_append_right _ (List.mem_append_left _ (show _ ∈ my_156_1 from List.mem_of_getElem? (i := 31) rfl)))
theorem cd_156_198 : mt_cd 156 198 = some (.aload_n 0) := mt_cd_of (q := (198, .aload_n 0, 1)) mq_156 ci_156 (List.mem_append_right _ (List.mem_append_left _ (show _ ∈ my_156_1 from List.mem_of_getElem? (i := 32) rfl)))
theorem cd_156_199 : mt_cd 156 199 = some (.getfield 83) := mt_cd_of (q := (199, .getfield 83, 3)) mq_156 ci_156 (List.mem_append_right _ (List.mem_append_left _ (show _ ∈ my_156_1 from List.mem_of_getElem? (i := 33) rfl)))
theorem cd_156_202 : mt_cd 156 202 = some (.iload_n 1) := mt_cd_of (q := (202, .iload_n 1, 1)) mq_156 ci_156 (List.mem_append_right _ (List.mem_append_left _ (show _ ∈ my_156_1 from List.mem_of_getElem? (i := 34) rfl)))
theorem cd_156_203 : mt_cd 156 203 = some (.aload_n 0) := mt_cd_of (q := (203, .aload_n 0, 1)) mq_156 ci_156 (List.mem_append_right _ (List.mem_append_left _ (show _ ∈ my_156_1 from List.mem_of_getElem? (i := 35) rfl)))
theorem cd_156_204 : mt_cd 156 204 = some (.invokevirtual 355) := mt_cd_of (q := (204, .invokevirtual 355, 3)) mq_156 ci_156 (List.mem_append_right _ (List.mem_append_left _ (show _ ∈ my_156_1 from List.mem_of_getElem? (i := 36) rfl)))
theorem cd_156_207 : mt_cd 156 207 = some (.dup_x2) := mt_cd_of (q := (207, .dup_x2, 1)) mq_156 ci_156 (List.mem_append_right _ (List.mem_append_left _ (show _ ∈ my_156_1 from List.mem_of_getElem? (i := 37) rfl)))
theorem cd_156_208 : mt_cd 156 208 = some (.iastore) := mt_cd_of (q := (208, .iastore, 1)) mq_156 ci_156 (List.mem_append_right _ (List.mem_append_left _ (show _ ∈ my_156_1 from List.mem_of_getElem? (i := 38) rfl)))
theorem cd_156_209 : mt_cd 156 209 = some (.ifCond .lt 7) := mt_cd_of (q := (209, .ifCond .lt 7, 3)) mq_156 ci_156 (List.mem_append_right _ (List.mem_append_left _ (show _ ∈ my_156_1 from List.mem_of_getElem? (i := 39) rfl)))
theorem cd_156_212 : mt_cd 156 212 = some (.iconst 1) := mt_cd_of (q := (212, .iconst 1, 1)) mq_156 ci_156 (List.mem_append_right _ (List.mem_append_left _ (show _ ∈ my_156_1 from List.mem_of_getElem? (i := 40) rfl)))
theorem cd_156_213 : mt_cd 156 213 = some (.goto 4) := mt_cd_of (q := (213, .goto 4, 3)) mq_156 ci_156 (List.mem_append_right _ (List.mem_append_left _ (show _ ∈ my_156_1 from List.mem_of_getElem? (i := 41) rfl)))
theorem cd_156_216 : mt_cd 156 216 = some (.iconst 0) := mt_cd_of (q := (216, .iconst 0, 1)) mq_156 ci_156 (List.mem_append_right _ (List.mem_append_left _ (show _ ∈ my_156_1 from List.mem_of_getElem? (i := 42) rfl)))
theorem cd_156_217 : mt_cd 156 217 = some (.ireturn) := mt_cd_of (q := (217, .ireturn, 1)) mq_156 ci_156 (List.mem_append_right _ (List.mem_append_left _ (show _ ∈ my_156_1 from List.mem_of_getElem? (i := 43) rfl)))
theorem cd_156_218 : mt_cd 156 218 = some (.aload_n 0) := mt_cd_of (q := (218, .aload_n 0, 1)) mq_156 ci_156 (List.mem_append_right _ (List.mem_append_left _ (show _ ∈ my_156_1 from List.mem_of_getElem? (i := 44) rfl)))
theorem cd_156_219 : mt_cd 156 219 = some (.iload_n 1) := mt_cd_of (q := (219, .iload_n 1, 1)) mq_156 ci_156 (List.mem_append_right _ (List.mem_append_left _ (show _ ∈ my_156_1 from List.mem_of_getElem? (i := 45) rfl)))
theorem cd_156_220 : mt_cd 156 220 = some (.invokevirtual 404) := mt_cd_of (q := (220, .invokevirtual 404, 3)) mq_156 ci_156 (List.mem_append_right _ (List.mem_append_left _ (show _ ∈ my_156_1 from List.mem_of_getElem? (i := 46) rfl)))
theorem cd_156_223 : mt_cd 156 223 = some (.ireturn) := mt_cd_of (q := (223, .ireturn, 1)) mq_156 ci_156 (List.mem_append_right _ (List.mem_append_left _ (show _ ∈ my_156_1 from List.mem_of_getElem? (i := 47) rfl)))
theorem cd_156_224 : mt_cd 156 224 = some (.aload_n 0) := mt_cd_of (q := (224, .aload_n 0, 1)) mq_156 ci_156 (List.mem_append_right _ (List.mem_append_left _ (show _ ∈ my_156_1 from List.mem_of_getElem? (i := 48) rfl)))
theorem cd_156_225 : mt_cd 156 225 = some (.getfield 80) := mt_cd_of (q := (225, .getfield 80, 3)) mq_156 ci_156 (List.mem_append_right _ (List.mem_append_left _ (show _ ∈ my_156_1 from List.mem_of_getElem? (i := 49) rfl)))
theorem cd_156_228 : mt_cd 156 228 = some (.iload_n 1) := mt_cd_of (q := (228, .iload_n 1, 1)) mq_156 ci_156 (List.mem_append_right _ (List.mem_append_left _ (show _ ∈ my_156_1 from List.mem_of_getElem? (i := 50) rfl)))
theorem cd_156_229 : mt_cd 156 229 = some (.aload_n 0) := mt_cd_of (q := (229, .aload_n 0, 1)) mq_156 ci_156 (List.mem_append_right _ (List.mem_append_left _ (show _ ∈ my_156_1 from List.mem_of_getElem? (i := 51) rfl)))
theorem cd_156_230 : mt_cd 156 230 = some (.invokevirtual 406) := mt_cd_of (q := (230, .invokevirtual 406, 3)) mq_156 ci_156 (List.mem_append_right _ (List.mem_append_left _ (show _ ∈ my_156_1 from List.mem_of_getElem? (i := 52) rfl)))
theorem cd_156_233 : mt_cd 156 233 = some (.dup_x2) := mt_cd_of (q := (233, .dup_x2, 1)) mq_156 ci_156 (List.mem_append_right _ (List.mem_append_left _ (show _ ∈ my_156_1 from List.mem_of_getElem? (i := 53) rfl)))
theorem cd_156_234 : mt_cd 156 234 = some (.iastore) := mt_cd_of (q := (234, .iastore, 1)) mq_156 ci_156 (List.mem_append_right _ (List.mem_append_left _ (show _ ∈ my_156_1 from List.mem_of_getElem? (i := 54) rfl)))
theorem cd_156_235 : mt_cd 156 235 = some (.ifCond .lt 35) := mt_cd_of (q := (235, .ifCond .lt 35, 3)) mq_156 ci_156 (List.mem_append_right _ (List.mem_append_left _ (show _ ∈ my_156_1 from List.mem_of_getElem? (i := 55) rfl)))
theorem cd_156_238 : mt_cd 156 238 = some (.aload_n 0) := mt_cd_of (q := (238, .aload_n 0, 1)) mq_156 ci_156 (List.mem_append_right _ (List.mem_append_left _ (show _ ∈ my_156_1 from List.mem_of_getElem? (i := 56) rfl)))
theorem cd_156_239 : mt_cd 156 239 = some (.getfield 89) := mt_cd_of (q := (239, .getfield 89, 3)) mq_156 ci_156 (List.mem_append_right _ (List.mem_append_left _ (show _ ∈ my_156_1 from List.mem_of_getElem? (i := 57) rfl)))
theorem cd_156_242 : mt_cd 156 242 = some (.iload_n 1) := mt_cd_of (q := (242, .iload_n 1, 1)) mq_156 ci_156 (List.mem_append_right _ (List.mem_append_left _ (show _ ∈ my_156_1 from List.mem_of_getElem? (i := 58) rfl)))
theorem cd_156_243 : mt_cd 156 243 = some (.aload_n 0) := mt_cd_of (q := (243, .aload_n 0, 1)) mq_156 ci_156 (List.mem_append_right _ (List.mem_append_left _ (show _ ∈ my_156_1 from List.mem_of_getElem? (i := 59) rfl)))
theorem cd_156_244 : mt_cd 156 244 = some (.invokevirtual 399) := mt_cd_of (q := (244, .invokevirtual 399, 3)) mq_156 ci_156 (List.mem_append_right _ (List.mem_append_right _ ((show _ ∈ my_156_2 from List.mem_of_getElem? (i := 0) rfl))))
theorem cd_156_247 : mt_cd 156 247 = some (.dup_x2) := mt_cd_of (q := (247, .dup_x2, 1)) mq_156 ci_156 (List.mem_append_right _ (List.mem_append_right _ ((show _ ∈ my_156_2 from List.mem_of_getElem? (i := 1) rfl))))
theorem cd_156_248 : mt_cd 156 248 = some (.iastore) := mt_cd_of (q := (248, .iastore, 1)) mq_156 ci_156 (List.mem_append_right _ (List.mem_append_right _ ((show _ ∈ my_156_2 from List.mem_of_getElem? (i := 2) rfl))))
theorem cd_156_249 : mt_cd 156 249 = some (.ifCond .lt 21) := mt_cd_of (q := (249, .ifCond .lt 21, 3)) mq_156 ci_156 (List.mem_append_right _ (List.mem_append_right _ ((show _ ∈ my_156_2 from List.mem_of_getElem? (i := 3) rfl))))
theorem cd_156_252 : mt_cd 156 252 = some (.aload_n 0) := mt_cd_of (q := (252, .aload_n 0, 1)) mq_156 ci_156 (List.mem_append_right _ (List.mem_append_right _ ((show _ ∈ my_156_2 from List.mem_of_getElem? (i := 4) rfl))))
theorem cd_156_253 : mt_cd 156 253 = some (.getfield 98) := mt_cd_of (q := (253, .getfield 98, 3)) mq_156 ci_156 (List.mem_append_right _ (List.mem_append_right _ ((show _ ∈ my_156_2 from List.mem_of_getElem? (i := 5) rfl))))
theorem cd_156_256 : mt_cd 156 256 = some (.iload_n 1) := mt_cd_of (q := (256, .iload_n 1, 1)) mq_156 ci_156 (List.mem_append_right _ (List.mem_append_right _ ((show _ ∈ my_156_2 from List.mem_of_getElem? (i := 6) rfl))))
theorem cd_156_257 : mt_cd 156 257 = some (.aload_n 0) := mt_cd_of (q := (257, .aload_n 0, 1)) mq_156 ci_156 (List.mem_append_right _ (List.mem_append_right _ ((show _ ∈ my_156_2 from List.mem_of_getElem? (i := 7) rfl))))
theorem cd_156_258 : mt_cd 156 258 = some (.invokevirtual 355) := mt_cd_of (q := (258, .invokevirtual 355, 3)) mq_156 ci_156 (List.mem_append_right _ (List.mem_append_right _ ((show _ ∈ my_156_2 from List.mem_of_getElem? (i := 8) rfl))))
theorem cd_156_261 : mt_cd 156 261 = some (.dup_x2) := mt_cd_of (q := (261, .dup_x2, 1)) mq_156 ci_156 (List.mem_append_right _ (List.mem_append_right _ ((show _ ∈ my_156_2 from List.mem_of_getElem? (i := 9) rfl))))
theorem cd_156_262 : mt_cd 156 262 = some (.iastore) := mt_cd_of (q := (262, .iastore, 1)) mq_156 ci_156 (List.mem_append_right _ (List.mem_append_right _ ((show _ ∈ my_156_2 from List.mem_of_getElem? (i := 10) rfl))))
theorem cd_156_263 : mt_cd 156 263 = some (.ifCond .lt 7) := mt_cd_of (q := (263, .ifCond .lt 7, 3)) mq_156 ci_156 (List.mem_append_right _ (List.mem_append_right _ ((show _ ∈ my_156_2 from List.mem_of_getElem? (i := 11) rfl))))
theorem cd_156_266 : mt_cd 156 266 = some (.iconst 1) := mt_cd_of (q := (266, .iconst 1, 1)) mq_156 ci_156 (List.mem_append_right _ (List.mem_append_right _ ((show _ ∈ my_156_2 from List.mem_of_getElem? (i := 12) rfl))))
theorem cd_156_267 : mt_cd 156 267 = some (.goto 4) := mt_cd_of (q := (267, .goto 4, 3)) mq_156 ci_156 (List.mem_append_right _ (List.mem_append_right _ ((show _ ∈ my_156_2 from List.mem_of_getElem? (i := 13) rfl))))
theorem cd_156_270 : mt_cd 156 270 = some (.iconst 0) := mt_cd_of (q := (270, .iconst 0, 1)) mq_156 ci_156 (List.mem_append_right _ (List.mem_append_right _ ((show _ ∈ my_156_2 from List.mem_of_getElem? (i := 14) rfl))))
theorem cd_156_271 : mt_cd 156 271 = some (.ireturn) := mt_cd_of (q := (271, .ireturn, 1)) mq_156 ci_156 (List.mem_append_right _ (List.mem_append_right _ ((show _ ∈ my_156_2 from List.mem_of_getElem? (i := 15) rfl))))
theorem cd_156_272 : mt_cd 156 272 = some (.aload_n 0) := mt_cd_of (q := (272, .aload_n 0, 1)) mq_156 ci_156 (List.mem_append_right _ (List.mem_append_right _ ((show _ ∈ my_156_2 from List.mem_of_getElem? (i := 16) rfl))))
theorem cd_156_273 : mt_cd 156 273 = some (.getfield 89) := mt_cd_of (q := (273, .getfield 89, 3)) mq_156 ci_156 (List.mem_append_right _ (List.mem_append_right _ ((show _ ∈ my_156_2 from List.mem_of_getElem? (i := 17) rfl))))
theorem cd_156_276 : mt_cd 156 276 = some (.iload_n 1) := mt_cd_of (q := (276, .iload_n 1, 1)) mq_156 ci_156 (List.mem_append_right _ (List.mem_append_right _ ((show _ ∈ my_156_2 from List.mem_of_getElem? (i := 18) rfl))))
theorem cd_156_277 : mt_cd 156 277 = some (.aload_n 0) := mt_cd_of (q := (277, .aload_n 0, 1)) mq_156 ci_156 (List.mem_append_right _ (List.mem_append_right _ ((show _ ∈ my_156_2 from List.mem_of_getElem? (i := 19) rfl))))
theorem cd_156_278 : mt_cd 156 278 = some (.invokevirtual 401) := mt_cd_of (q := (278, .invokevirtual 401, 3)) mq_156 ci_156 (List.mem_append_right _ (List.mem_append_right _ ((show _ ∈ my_156_2 from List.mem_of_getElem? (i := 20) rfl))))
theorem cd_156_281 : mt_cd 156 281 = some (.dup_x2) := mt_cd_of (q := (281, .dup_x2, 1)) mq_156 ci_156 (List.mem_append_right _ (List.mem_append_right _ ((show _ ∈ my_156_2 from List.mem_of_getElem? (i := 21) rfl))))
theorem cd_156_282 : mt_cd 156 282 = some (.iastore) := mt_cd_of (q := (282, .iastore, 1)) mq_156 ci_156 (List.mem_append_right _ (List.mem_append_right _ ((show _ ∈ my_156_2 from List.mem_of_getElem? (i := 22) rfl))))
theorem cd_156_283 : mt_cd 156 283 = some (.ifCond .lt 21) := mt_cd_of (q := (283, .ifCond .lt 21, 3)) mq_156 ci_156 (List.mem_append_right _ (List.mem_append_right _ ((show _ ∈ my_156_2 from List.mem_of_getElem? (i := 23) rfl))))
theorem cd_156_286 : mt_cd 156 286 = some (.aload_n 0) := mt_cd_of (q := (286, .aload_n 0, 1)) mq_156 ci_156 (List.mem_append_right _ (List.mem_append_right _ ((show _ ∈ my_156_2 from List.mem_of_getElem? (i := 24) rfl))))
theorem cd_156_287 : mt_cd 156 287 = some (.getfield 98) := mt_cd_of (q := (287, .getfield 98, 3)) mq_156 ci_156 (List.mem_append_right _ (List.mem_append_right _ ((show _ ∈ my_156_2 from List.mem_of_getElem? (i := 25) rfl))))
theorem cd_156_290 : mt_cd 156 290 = some (.iload_n 1) := mt_cd_of (q := (290, .iload_n 1, 1)) mq_156 ci_156 (List.mem_append_right _ (List.mem_append_right _ ((show _ ∈ my_156_2 from List.mem_of_getElem? (i := 26) rfl))))
theorem cd_156_291 : mt_cd 156 291 = some (.aload_n 0) := mt_cd_of (q := (291, .aload_n 0, 1)) mq_156 ci_156 (List.mem_append_right _ (List.mem_append_right _ ((show _ ∈ my_156_2 from List.mem_of_getElem? (i := 27) rfl))))
theorem cd_156_292 : mt_cd 156 292 = some (.invokevirtual 355) := mt_cd_of (q := (292, .invokevirtual 355, 3)) mq_156 ci_156 (List.mem_append_right _ (List.mem_append_right _ ((show _ ∈ my_156_2 from List.mem_of_getElem? (i := 28) rfl))))
theorem cd_156_295 : mt_cd 156 295 = some (.dup_x2) := mt_cd_of (q := (295, .dup_x2, 1)) mq_156 ci_156 (List.mem_append_right _ (List.mem_append_right _ ((show _ ∈ my_156_2 from List.mem_of_getElem? (i := 29) rfl))))
theorem cd_156_296 : mt_cd 156 296 = some (.iastore) := mt_cd_of (q := (296, .iastore, 1)) mq_156 ci_156 (List.mem_append_right _ (List.mem_append_right _ ((show _ ∈ my_156_2 from List.mem_of_getElem? (i := 30) rfl))))
theorem cd_156_297 : mt_cd 156 297 = some (.ifCond .lt 7) := mt_cd_of (q := (297, .ifCond .lt 7, 3)) mq_156 ci_156 (List.mem_append_right _ (List.mem_append_right _ ((show _ ∈ my_156_2 from List.mem_of_getElem? (i := 31) rfl))))
theorem cd_156_300 : mt_cd 156 300 = some (.iconst 1) := mt_cd_of (q := (300, .iconst 1, 1)) mq_156 ci_156 (List.mem_append_right _ (List.mem_append_right _ ((show _ ∈ my_156_2 from List.mem_of_getElem? (i := 32) rfl))))
theorem cd_156_301 : mt_cd 156 301 = some (.goto 4) := mt_cd_of (q := (301, .goto 4, 3)) mq_156 ci_156 (List.mem_append_right _ (List.mem_append_right _ ((show _ ∈ my_156_2 from List.mem_of_getElem? (i := 33) rfl))))
theorem cd_156_304 : mt_cd 156 304 = some (.iconst 0) := mt_cd_of (q := (304, .iconst 0, 1)) mq_156 ci_156 (List.mem_append_right _ (List.mem_append_right _ ((show _ ∈ my_156_2 from List.mem_of_getElem? (i := 34) rfl))))
theorem cd_156_305 : mt_cd 156 305 = some (.ireturn) := mt_cd_of (q := (305, .ireturn, 1)) mq_156 ci_156 (List.mem_append_right _ (List.mem_append_right _ ((show _ ∈ my_156_2 from List.mem_of_getElem? (i := 35) rfl))))
theorem b_156_0 {d : Nat} {Q : (Option Value ⊕ Nat) → mi_H → Prop} (n sl : Nat) (f : Nat → mi_C) {l1 : Nat} {l2 : Int32} {fs3 : List Value} {x6 : Nat} (m8 i8 : Nat) (g8 : Nat → Int32) {t12 : Nat} (h4 : f l1 = .inr (12, fs3)) (h5 : l1 < n) (h7 : fs3[12]? = some (.ref x6)) (h9 : f x6 = .inl (0, m8, .inl g8)) (h10 : x6 < n ∨ x6 = mi_SC) (h11 : mi_ix l2 m8 i8) (h13 : mi_ts 6 266 0 5 #[38, 40, 266, 164, 212, 218] ((g8 i8) : Int32).toInt = some t12) (h14 : mi_W d 156 t12 [some (.ref l1), some (.int l2)] [] (n, sl, f) Q) : mi_W d 156 0 [some (.ref l1), some (.int l2)] [] (n, sl, f) Q := by
  refine w_aload_n cd_156_0 rfl ?_
  refine w_getfield cd_156_1 (show mt_f 12 77 = some (12, 12) by decide +kernel) h4 h5 h7 ?_
  refine w_iload_n cd_156_4 rfl ?_
  refine w_iaload cd_156_5 h9 h10 h11 ?_
  exact w_tableswitch cd_156_6 h13 h14
theorem b_156_44 {d : Nat} {Q : (Option Value ⊕ Nat) → mi_H → Prop} (n sl : Nat) (f : Nat → mi_C) {l1 : Nat} {l2 : Int32} (h3 : Q (.inl (some (.int 1))) (n, sl, f)) : mi_W d 156 44 [some (.ref l1), some (.int l2)] [] (n, sl, f) Q := by
  refine w_iconst (v := 1) cd_156_44 (by decide) ?_
  exact w_ireturn_z cd_156_45 (by decide +kernel) (by decide) h3
theorem b_156_46 {d : Nat} {Q : (Option Value ⊕ Nat) → mi_H → Prop} (n sl : Nat) (f : Nat → mi_C) {l1 : Nat} {l2 : Int32} {fs3 : List Value} {x6 : Nat} {fs8 : List Value} (h4 : f l1 = .inr (12, fs3)) (h5 : l1 < n) (h7 : fs3[13]? = some (.ref x6)) (h9 : f l1 = .inr (12, fs8)) (h10 : l1 < n) (h11 : mi_W d 157 0 (mi_en 2 [.ref l1]) [] (n, sl, f) (mi_Kc d 156 52 [some (.ref l1), some (.int l2)] [.int l2, .ref x6] Q)) : mi_W (d + 1) 156 46 [some (.ref l1), some (.int l2)] [] (n, sl, f) Q := by
  refine w_aload_n cd_156_46 rfl ?_
  refine w_getfield cd_156_47 (show mt_f 12 80 = some (12, 13) by decide +kernel) h4 h5 h7 ?_
  refine w_iload_n cd_156_50 rfl ?_
  refine w_aload_n cd_156_51 rfl ?_
  exact w_invokevirtual cd_156_52 (show mt_m 12 370 = some (157, 0) by decide +kernel) (rest := [.int l2, .ref x6]) rfl (as := [.ref l1]) rfl h9 (Or.inl h10) ⟨Nat.le_of_ble_eq_true rfl, Nat.le_of_ble_eq_true rfl, Nat.le_of_ble_eq_true rfl⟩ h11
theorem b_156_55 {d : Nat} {Q : (Option Value ⊕ Nat) → mi_H → Prop} (n sl : Nat) (f : Nat → mi_C) {l1 : Nat} {l2 : Int32} {s3 : Int32} {s4 : Int32} {s5 : Nat} (m6 i6 : Nat) (g6 : Nat → Int32) (h7 : f s5 = .inl (0, m6, .inl g6)) (h8 : s5 < n) (h9 : mi_ix s4 m6 i6) (h10 : (0 : Int32) ≤ s3 → mi_W d 156 62 [some (.ref l1), some (.int l2)] [] (n, sl, (va_up f s5 (.inl (0, m6, .inl (upd g6 i6 s3))))) Q) (h11 : ¬ ((0 : Int32) ≤ s3) → mi_W d 156 60 [some (.ref l1), some (.int l2)] [] (n, sl, (va_up f s5 (.inl (0, m6, .inl (upd g6 i6 s3))))) Q) : mi_W d 156 55 [some (.ref l1), some (.int l2)] [.int s3, .int s4, .ref s5] (n, sl, f) Q := by
  refine w_dup_x2_iir cd_156_55 ?_
  refine w_iastore cd_156_56 h7 h8 h9 ?_
  exact w_ifge cd_156_57 (by decide) h10 h11
theorem b_156_60 {d : Nat} {Q : (Option Value ⊕ Nat) → mi_H → Prop} (n sl : Nat) (f : Nat → mi_C) {l1 : Nat} {l2 : Int32} (h3 : Q (.inl (some (.int 0))) (n, sl, f)) : mi_W d 156 60 [some (.ref l1), some (.int l2)] [] (n, sl, f) Q := by
  refine w_iconst (v := 0) cd_156_60 (by decide) ?_
  exact w_ireturn_z cd_156_61 (by decide +kernel) (by decide) h3
theorem b_156_62 {d : Nat} {Q : (Option Value ⊕ Nat) → mi_H → Prop} (n sl : Nat) (f : Nat → mi_C) {l1 : Nat} {l2 : Int32} {fs3 : List Value} (h4 : f l1 = .inr (12, fs3)) (h5 : l1 < n) (h6 : mi_W d 154 0 (mi_en 2 [.ref l1, .ref (mi_SC + 1 + 2 * 19)]) [] (n, sl, f) (mi_Kc d 156 65 [some (.ref l1), some (.int l2)] [] Q)) : mi_W (d + 1) 156 62 [some (.ref l1), some (.int l2)] [] (n, sl, f) Q := by
  refine w_aload_n cd_156_62 rfl ?_
  refine w_ldc (n := 19) cd_156_63 (by decide +kernel) ?_
  exact w_invokevirtual cd_156_65 (show mt_m 12 387 = some (154, 0) by decide +kernel) (rest := []) rfl (as := [.ref l1, .ref (mi_SC + 1 + 2 * 19)]) rfl h4 (Or.inl h5) ⟨Nat.le_of_ble_eq_true rfl, Nat.le_of_ble_eq_true rfl, Nat.le_of_ble_eq_true rfl⟩ h6
theorem b_156_68 {d : Nat} {Q : (Option Value ⊕ Nat) → mi_H → Prop} (n sl : Nat) (f : Nat → mi_C) {l1 : Nat} {l2 : Int32} {s3 : Int32} (h4 : s3 = (0 : Int32) → mi_W d 156 78 [some (.ref l1), some (.int l2)] [] (n, sl, f) Q) (h5 : ¬ (s3 = (0 : Int32)) → mi_W d 156 71 [some (.ref l1), some (.int l2)] [] (n, sl, f) Q) : mi_W d 156 68 [some (.ref l1), some (.int l2)] [.int s3] (n, sl, f) Q := by
  exact w_ifeq cd_156_68 (by decide) h4 h5
theorem b_156_71 {d : Nat} {Q : (Option Value ⊕ Nat) → mi_H → Prop} (n sl : Nat) (f : Nat → mi_C) {l1 : Nat} {l2 : Int32} {fs3 : List Value} {x6 : Nat} (m8 i8 : Nat) (g8 : Nat → Int32) (h4 : f l1 = .inr (12, fs3)) (h5 : l1 < n) (h7 : fs3[12]? = some (.ref x6)) (h9 : f x6 = .inl (0, m8, .inl g8)) (h10 : x6 < n) (h11 : mi_ix l2 m8 i8) (h12 : mi_W d 156 78 [some (.ref l1), some (.int l2)] [] (n, sl, (va_up f x6 (.inl (0, m8, .inl (upd g8 i8 2))))) Q) : mi_W d 156 71 [some (.ref l1), some (.int l2)] [] (n, sl, f) Q := by
  refine w_aload_n cd_156_71 rfl ?_
  refine w_getfield cd_156_72 (show mt_f 12 77 = some (12, 12) by decide +kernel) h4 h5 h7 ?_
  refine w_iload_n cd_156_75 rfl ?_
  refine w_iconst (v := 2) cd_156_76 (by decide) ?_
  refine w_iastore cd_156_77 h9 h10 h11 ?_
  exact h12
theorem b_156_78 {d : Nat} {Q : (Option Value ⊕ Nat) → mi_H → Prop} (n sl : Nat) (f : Nat → mi_C) {l1 : Nat} {l2 : Int32} {fs3 : List Value} (h4 : f l1 = .inr (12, fs3)) (h5 : l1 < n) (h6 : mi_W d 154 0 (mi_en 2 [.ref l1, .ref (mi_SC + 1 + 2 * 18)]) [] (n, sl, f) (mi_Kc d 156 82 [some (.ref l1), some (.int l2)] [.ref l1] Q)) : mi_W (d + 1) 156 78 [some (.ref l1), some (.int l2)] [] (n, sl, f) Q := by
  refine w_aload_n cd_156_78 rfl ?_
  refine w_aload_n cd_156_79 rfl ?_
  refine w_ldc (n := 18) cd_156_80 (by decide +kernel) ?_
  exact w_invokevirtual cd_156_82 (show mt_m 12 387 = some (154, 0) by decide +kernel) (rest := [.ref l1]) rfl (as := [.ref l1, .ref (mi_SC + 1 + 2 * 18)]) rfl h4 (Or.inl h5) ⟨Nat.le_of_ble_eq_true rfl, Nat.le_of_ble_eq_true rfl, Nat.le_of_ble_eq_true rfl⟩ h6
theorem b_156_85 {d : Nat} {Q : (Option Value ⊕ Nat) → mi_H → Prop} (n sl : Nat) (f : Nat → mi_C) {l1 : Nat} {l2 : Int32} {s3 : Int32} {s4 : Nat} (h5 : ¬ s3 = (0 : Int32) → mi_W d 156 97 [some (.ref l1), some (.int l2)] [.ref s4] (n, sl, f) Q) (h6 : ¬ (¬ s3 = (0 : Int32)) → mi_W d 156 88 [some (.ref l1), some (.int l2)] [.ref s4] (n, sl, f) Q) : mi_W d 156 85 [some (.ref l1), some (.int l2)] [.int s3, .ref s4] (n, sl, f) Q := by
  exact w_ifne cd_156_85 (by decide) h5 h6
theorem b_156_88 {d : Nat} {Q : (Option Value ⊕ Nat) → mi_H → Prop} (n sl : Nat) (f : Nat → mi_C) {l1 : Nat} {l2 : Int32} {s3 : Nat} {fs4 : List Value} (h5 : f l1 = .inr (12, fs4)) (h6 : l1 < n) (h7 : mi_W d 154 0 (mi_en 2 [.ref l1, .ref (mi_SC + 1 + 2 * 19)]) [] (n, sl, f) (mi_Kc d 156 91 [some (.ref l1), some (.int l2)] [.ref s3] Q)) : mi_W (d + 1) 156 88 [some (.ref l1), some (.int l2)] [.ref s3] (n, sl, f) Q := by
  refine w_aload_n cd_156_88 rfl ?_
  refine w_ldc (n := 19) cd_156_89 (by decide +kernel) ?_
  exact w_invokevirtual cd_156_91 (show mt_m 12 387 = some (154, 0) by decide +kernel) (rest := [.ref s3]) rfl (as := [.ref l1, .ref (mi_SC + 1 + 2 * 19)]) rfl h5 (Or.inl h6) ⟨Nat.le_of_ble_eq_true rfl, Nat.le_of_ble_eq_true rfl, Nat.le_of_ble_eq_true rfl⟩ h7
theorem b_156_94 {d : Nat} {Q : (Option Value ⊕ Nat) → mi_H → Prop} (n sl : Nat) (f : Nat → mi_C) {l1 : Nat} {l2 : Int32} {s3 : Int32} {s4 : Nat} (h5 : s3 = (0 : Int32) → mi_W d 156 101 [some (.ref l1), some (.int l2)] [.ref s4] (n, sl, f) Q) (h6 : ¬ (s3 = (0 : Int32)) → mi_W d 156 97 [some (.ref l1), some (.int l2)] [.ref s4] (n, sl, f) Q) : mi_W d 156 94 [some (.ref l1), some (.int l2)] [.int s3, .ref s4] (n, sl, f) Q := by
  exact w_ifeq cd_156_94 (by decide) h5 h6
theorem b_156_97 {d : Nat} {Q : (Option Value ⊕ Nat) → mi_H → Prop} (n sl : Nat) (f : Nat → mi_C) {l1 : Nat} {l2 : Int32} {s3 : Nat} (h4 : mi_W d 156 102 [some (.ref l1), some (.int l2)] [.int 1, .ref s3] (n, sl, f) Q) : mi_W d 156 97 [some (.ref l1), some (.int l2)] [.ref s3] (n, sl, f) Q := by
  refine w_iconst (v := 1) cd_156_97 (by decide) ?_
  exact w_goto cd_156_98 (by decide) h4
theorem b_156_101 {d : Nat} {Q : (Option Value ⊕ Nat) → mi_H → Prop} (n sl : Nat) (f : Nat → mi_C) {l1 : Nat} {l2 : Int32} {s3 : Nat} (h4 : mi_W d 156 102 [some (.ref l1), some (.int l2)] [.int 0, .ref s3] (n, sl, f) Q) : mi_W d 156 101 [some (.ref l1), some (.int l2)] [.ref s3] (n, sl, f) Q := by
  refine w_iconst (v := 0) cd_156_101 (by decide) ?_
  exact h4
theorem b_156_102 {d : Nat} {Q : (Option Value ⊕ Nat) → mi_H → Prop} (n sl : Nat) (f : Nat → mi_C) {l1 : Nat} {l2 : Int32} {s3 : Int32} {s4 : Nat} {fs5 : List Value} (h6 : f s4 = .inr (12, fs5)) (h7 : s4 < n) (h8 : mi_W d 153 0 (mi_en 2 [.ref s4, .int s3]) [] (n, sl, f) (mi_Kc d 156 102 [some (.ref l1), some (.int l2)] [] Q)) : mi_W (d + 1) 156 102 [some (.ref l1), some (.int l2)] [.int s3, .ref s4] (n, sl, f) Q := by
  exact w_invokevirtual cd_156_102 (show mt_m 12 383 = some (153, 0) by decide +kernel) (rest := []) rfl (as := [.ref s4, .int s3]) rfl h6 (Or.inl h7) ⟨Nat.le_of_ble_eq_true rfl, Nat.le_of_ble_eq_true rfl, Nat.le_of_ble_eq_true rfl⟩ h8
theorem b_156_105 {d : Nat} {Q : (Option Value ⊕ Nat) → mi_H → Prop} (n sl : Nat) (f : Nat → mi_C) {l1 : Nat} {l2 : Int32} {s3 : Int32} (h4 : s3 = (0 : Int32) → mi_W d 156 168 [some (.ref l1), some (.int l2)] [] (n, sl, f) Q) (h5 : ¬ (s3 = (0 : Int32)) → mi_W d 156 108 [some (.ref l1), some (.int l2)] [] (n, sl, f) Q) : mi_W d 156 105 [some (.ref l1), some (.int l2)] [.int s3] (n, sl, f) Q := by
  exact w_ifeq cd_156_105 (by decide) h4 h5
theorem b_156_108 {d : Nat} {Q : (Option Value ⊕ Nat) → mi_H → Prop} (n sl : Nat) (f : Nat → mi_C) {l1 : Nat} {l2 : Int32} {fs3 : List Value} {x6 : Nat} {fs8 : List Value} (h4 : f l1 = .inr (12, fs3)) (h5 : l1 < n) (h7 : fs3[14]? = some (.ref x6)) (h9 : f l1 = .inr (12, fs8)) (h10 : l1 < n) (h11 : mi_W d 157 0 (mi_en 2 [.ref l1]) [] (n, sl, f) (mi_Kc d 156 114 [some (.ref l1), some (.int l2)] [.int l2, .ref x6] Q)) : mi_W (d + 1) 156 108 [some (.ref l1), some (.int l2)] [] (n, sl, f) Q := by
  refine w_aload_n cd_156_108 rfl ?_
  refine w_getfield cd_156_109 (show mt_f 12 83 = some (12, 14) by decide +kernel) h4 h5 h7 ?_
  refine w_iload_n cd_156_112 rfl ?_
  refine w_aload_n cd_156_113 rfl ?_
  exact w_invokevirtual cd_156_114 (show mt_m 12 370 = some (157, 0) by decide +kernel) (rest := [.int l2, .ref x6]) rfl (as := [.ref l1]) rfl h9 (Or.inl h10) ⟨Nat.le_of_ble_eq_true rfl, Nat.le_of_ble_eq_true rfl, Nat.le_of_ble_eq_true rfl⟩ h11
theorem b_156_117 {d : Nat} {Q : (Option Value ⊕ Nat) → mi_H → Prop} (n sl : Nat) (f : Nat → mi_C) {l1 : Nat} {l2 : Int32} {s3 : Int32} {s4 : Int32} {s5 : Nat} (m6 i6 : Nat) (g6 : Nat → Int32) (h7 : f s5 = .inl (0, m6, .inl g6)) (h8 : s5 < n) (h9 : mi_ix s4 m6 i6) (h10 : s3 < (0 : Int32) → mi_W d 156 168 [some (.ref l1), some (.int l2)] [] (n, sl, (va_up f s5 (.inl (0, m6, .inl (upd g6 i6 s3))))) Q) (h11 : ¬ (s3 < (0 : Int32)) → mi_W d 156 122 [some (.ref l1), some (.int l2)] [] (n, sl, (va_up f s5 (.inl (0, m6, .inl (upd g6 i6 s3))))) Q) : mi_W d 156 117 [some (.ref l1), some (.int l2)] [.int s3, .int s4, .ref s5] (n, sl, f) Q := by
  refine w_dup_x2_iir cd_156_117 ?_
  refine w_iastore cd_156_118 h7 h8 h9 ?_
  exact w_iflt cd_156_119 (by decide) h10 h11
theorem b_156_122 {d : Nat} {Q : (Option Value ⊕ Nat) → mi_H → Prop} (n sl : Nat) (f : Nat → mi_C) {l1 : Nat} {l2 : Int32} {fs3 : List Value} {x6 : Nat} {fs8 : List Value} (h4 : f l1 = .inr (12, fs3)) (h5 : l1 < n) (h7 : fs3[15]? = some (.ref x6)) (h9 : f l1 = .inr (12, fs8)) (h10 : l1 < n) (h11 : mi_W d 160 0 (mi_en 2 [.ref l1]) [] (n, sl, f) (mi_Kc d 156 128 [some (.ref l1), some (.int l2)] [.int l2, .ref x6] Q)) : mi_W (d + 1) 156 122 [some (.ref l1), some (.int l2)] [] (n, sl, f) Q := by
  refine w_aload_n cd_156_122 rfl ?_
  refine w_getfield cd_156_123 (show mt_f 12 86 = some (12, 15) by decide +kernel) h4 h5 h7 ?_
  refine w_iload_n cd_156_126 rfl ?_
  refine w_aload_n cd_156_127 rfl ?_
  exact w_invokevirtual cd_156_128 (show mt_m 12 396 = some (160, 0) by decide +kernel) (rest := [.int l2, .ref x6]) rfl (as := [.ref l1]) rfl h9 (Or.inl h10) ⟨Nat.le_of_ble_eq_true rfl, Nat.le_of_ble_eq_true rfl, Nat.le_of_ble_eq_true rfl⟩ h11
theorem b_156_131 {d : Nat} {Q : (Option Value ⊕ Nat) → mi_H → Prop} (n sl : Nat) (f : Nat → mi_C) {l1 : Nat} {l2 : Int32} {s3 : Int32} {s4 : Int32} {s5 : Nat} (m6 i6 : Nat) (g6 : Nat → Int32) (h7 : f s5 = .inl (0, m6, .inl g6)) (h8 : s5 < n) (h9 : mi_ix s4 m6 i6) (h10 : s3 < (0 : Int32) → mi_W d 156 168 [some (.ref l1), some (.int l2)] [] (n, sl, (va_up f s5 (.inl (0, m6, .inl (upd g6 i6 s3))))) Q) (h11 : ¬ (s3 < (0 : Int32)) → mi_W d 156 136 [some (.ref l1), some (.int l2)] [] (n, sl, (va_up f s5 (.inl (0, m6, .inl (upd g6 i6 s3))))) Q) : mi_W d 156 131 [some (.ref l1), some (.int l2)] [.int s3, .int s4, .ref s5] (n, sl, f) Q := by
  refine w_dup_x2_iir cd_156_131 ?_
  refine w_iastore cd_156_132 h7 h8 h9 ?_
  exact w_iflt cd_156_133 (by decide) h10 h11
theorem b_156_136 {d : Nat} {Q : (Option Value ⊕ Nat) → mi_H → Prop} (n sl : Nat) (f : Nat → mi_C) {l1 : Nat} {l2 : Int32} {fs3 : List Value} {x6 : Nat} {fs8 : List Value} (h4 : f l1 = .inr (12, fs3)) (h5 : l1 < n) (h7 : fs3[16]? = some (.ref x6)) (h9 : f l1 = .inr (12, fs8)) (h10 : l1 < n) (h11 : mi_W d 161 0 (mi_en 4 [.ref l1]) [] (n, sl, f) (mi_Kc d 156 142 [some (.ref l1), some (.int l2)] [.int l2, .ref x6] Q)) : mi_W (d + 1) 156 136 [some (.ref l1), some (.int l2)] [] (n, sl, f) Q := by
  refine w_aload_n cd_156_136 rfl ?_
  refine w_getfield cd_156_137 (show mt_f 12 89 = some (12, 16) by decide +kernel) h4 h5 h7 ?_
  refine w_iload_n cd_156_140 rfl ?_
  refine w_aload_n cd_156_141 rfl ?_
  exact w_invokevirtual cd_156_142 (show mt_m 12 399 = some (161, 0) by decide +kernel) (rest := [.int l2, .ref x6]) rfl (as := [.ref l1]) rfl h9 (Or.inl h10) ⟨Nat.le_of_ble_eq_true rfl, Nat.le_of_ble_eq_true rfl, Nat.le_of_ble_eq_true rfl⟩ h11
theorem b_156_145 {d : Nat} {Q : (Option Value ⊕ Nat) → mi_H → Prop} (n sl : Nat) (f : Nat → mi_C) {l1 : Nat} {l2 : Int32} {s3 : Int32} {s4 : Int32} {s5 : Nat} (m6 i6 : Nat) (g6 : Nat → Int32) (h7 : f s5 = .inl (0, m6, .inl g6)) (h8 : s5 < n) (h9 : mi_ix s4 m6 i6) (h10 : s3 < (0 : Int32) → mi_W d 156 168 [some (.ref l1), some (.int l2)] [] (n, sl, (va_up f s5 (.inl (0, m6, .inl (upd g6 i6 s3))))) Q) (h11 : ¬ (s3 < (0 : Int32)) → mi_W d 156 150 [some (.ref l1), some (.int l2)] [] (n, sl, (va_up f s5 (.inl (0, m6, .inl (upd g6 i6 s3))))) Q) : mi_W d 156 145 [some (.ref l1), some (.int l2)] [.int s3, .int s4, .ref s5] (n, sl, f) Q := by
  refine w_dup_x2_iir cd_156_145 ?_
  refine w_iastore cd_156_146 h7 h8 h9 ?_
  exact w_iflt cd_156_147 (by decide) h10 h11
theorem b_156_150 {d : Nat} {Q : (Option Value ⊕ Nat) → mi_H → Prop} (n sl : Nat) (f : Nat → mi_C) {l1 : Nat} {l2 : Int32} {fs3 : List Value} {x6 : Nat} {fs8 : List Value} (h4 : f l1 = .inr (12, fs3)) (h5 : l1 < n) (h7 : fs3[19]? = some (.ref x6)) (h9 : f l1 = .inr (12, fs8)) (h10 : l1 < n) (h11 : mi_W d 150 0 (mi_en 4 [.ref l1]) [] (n, sl, f) (mi_Kc d 156 156 [some (.ref l1), some (.int l2)] [.int l2, .ref x6] Q)) : mi_W (d + 1) 156 150 [some (.ref l1), some (.int l2)] [] (n, sl, f) Q := by
  refine w_aload_n cd_156_150 rfl ?_
  refine w_getfield cd_156_151 (show mt_f 12 98 = some (12, 19) by decide +kernel) h4 h5 h7 ?_
  refine w_iload_n cd_156_154 rfl ?_
  refine w_aload_n cd_156_155 rfl ?_
  exact w_invokevirtual cd_156_156 (show mt_m 12 355 = some (150, 0) by decide +kernel) (rest := [.int l2, .ref x6]) rfl (as := [.ref l1]) rfl h9 (Or.inl h10) ⟨Nat.le_of_ble_eq_true rfl, Nat.le_of_ble_eq_true rfl, Nat.le_of_ble_eq_true rfl⟩ h11
theorem b_156_159 {d : Nat} {Q : (Option Value ⊕ Nat) → mi_H → Prop} (n sl : Nat) (f : Nat → mi_C) {l1 : Nat} {l2 : Int32} {s3 : Int32} {s4 : Int32} {s5 : Nat} (m6 i6 : Nat) (g6 : Nat → Int32) (h7 : f s5 = .inl (0, m6, .inl g6)) (h8 : s5 < n) (h9 : mi_ix s4 m6 i6) (h10 : s3 < (0 : Int32) → mi_W d 156 168 [some (.ref l1), some (.int l2)] [] (n, sl, (va_up f s5 (.inl (0, m6, .inl (upd g6 i6 s3))))) Q) (h11 : ¬ (s3 < (0 : Int32)) → mi_W d 156 164 [some (.ref l1), some (.int l2)] [] (n, sl, (va_up f s5 (.inl (0, m6, .inl (upd g6 i6 s3))))) Q) : mi_W d 156 159 [some (.ref l1), some (.int l2)] [.int s3, .int s4, .ref s5] (n, sl, f) Q := by
  refine w_dup_x2_iir cd_156_159 ?_
  refine w_iastore cd_156_160 h7 h8 h9 ?_
  exact w_iflt cd_156_161 (by decide) h10 h11
theorem b_156_164 {d : Nat} {Q : (Option Value ⊕ Nat) → mi_H → Prop} (n sl : Nat) (f : Nat → mi_C) {l1 : Nat} {l2 : Int32} (h3 : mi_W d 156 169 [some (.ref l1), some (.int l2)] [.int 1] (n, sl, f) Q) : mi_W d 156 164 [some (.ref l1), some (.int l2)] [] (n, sl, f) Q := by
  refine w_iconst (v := 1) cd_156_164 (by decide) ?_
  exact w_goto cd_156_165 (by decide) h3
theorem b_156_168 {d : Nat} {Q : (Option Value ⊕ Nat) → mi_H → Prop} (n sl : Nat) (f : Nat → mi_C) {l1 : Nat} {l2 : Int32} (h3 : mi_W d 156 169 [some (.ref l1), some (.int l2)] [.int 0] (n, sl, f) Q) : mi_W d 156 168 [some (.ref l1), some (.int l2)] [] (n, sl, f) Q := by
  refine w_iconst (v := 0) cd_156_168 (by decide) ?_
  exact h3
theorem b_156_169 {d : Nat} {Q : (Option Value ⊕ Nat) → mi_H → Prop} (n sl : Nat) (f : Nat → mi_C) {l1 : Nat} {l2 : Int32} {s3 : Int32} (h4 : s3 = 0 ∨ s3 = 1) (h5 : Q (.inl (some (.int s3))) (n, sl, f)) : mi_W d 156 169 [some (.ref l1), some (.int l2)] [.int s3] (n, sl, f) Q := by
  exact w_ireturn_z cd_156_169 (by decide +kernel) h4 h5
theorem b_156_170 {d : Nat} {Q : (Option Value ⊕ Nat) → mi_H → Prop} (n sl : Nat) (f : Nat → mi_C) {l1 : Nat} {l2 : Int32} {fs3 : List Value} {x6 : Nat} {fs8 : List Value} (h4 : f l1 = .inr (12, fs3)) (h5 : l1 < n) (h7 : fs3[16]? = some (.ref x6)) (h9 : f l1 = .inr (12, fs8)) (h10 : l1 < n) (h11 : mi_W d 165 0 (mi_en 4 [.ref l1]) [] (n, sl, f) (mi_Kc d 156 176 [some (.ref l1), some (.int l2)] [.int l2, .ref x6] Q)) : mi_W (d + 1) 156 170 [some (.ref l1), some (.int l2)] [] (n, sl, f) Q := by
  refine w_aload_n cd_156_170 rfl ?_
  refine w_getfield cd_156_171 (show mt_f 12 89 = some (12, 16) by decide +kernel) h4 h5 h7 ?_
  refine w_iload_n cd_156_174 rfl ?_
  refine w_aload_n cd_156_175 rfl ?_
  exact w_invokevirtual cd_156_176 (show mt_m 12 401 = some (165, 0) by decide +kernel) (rest := [.int l2, .ref x6]) rfl (as := [.ref l1]) rfl h9 (Or.inl h10) ⟨Nat.le_of_ble_eq_true rfl, Nat.le_of_ble_eq_true rfl, Nat.le_of_ble_eq_true rfl⟩ h11
theorem b_156_179 {d : Nat} {Q : (Option Value ⊕ Nat) → mi_H → Prop} (n sl : Nat) (f : Nat → mi_C) {l1 : Nat} {l2 : Int32} {s3 : Int32} {s4 : Int32} {s5 : Nat} (m6 i6 : Nat) (g6 : Nat → Int32) (h7 : f s5 = .inl (0, m6, .inl g6)) (h8 : s5 < n) (h9 : mi_ix s4 m6 i6) (h10 : s3 < (0 : Int32) → mi_W d 156 216 [some (.ref l1), some (.int l2)] [] (n, sl, (va_up f s5 (.inl (0, m6, .inl (upd g6 i6 s3))))) Q) (h11 : ¬ (s3 < (0 : Int32)) → mi_W d 156 184 [some (.ref l1), some (.int l2)] [] (n, sl, (va_up f s5 (.inl (0, m6, .inl (upd g6 i6 s3))))) Q) : mi_W d 156 179 [some (.ref l1), some (.int l2)] [.int s3, .int s4, .ref s5] (n, sl, f) Q := by
  refine w_dup_x2_iir cd_156_179 ?_
  refine w_iastore cd_156_180 h7 h8 h9 ?_
  exact w_iflt cd_156_181 (by decide) h10 h11
theorem b_156_184 {d : Nat} {Q : (Option Value ⊕ Nat) → mi_H → Prop} (n sl : Nat) (f : Nat → mi_C) {l1 : Nat} {l2 : Int32} {fs3 : List Value} {x6 : Nat} {fs8 : List Value} (h4 : f l1 = .inr (12, fs3)) (h5 : l1 < n) (h7 : fs3[13]? = some (.ref x6)) (h9 : f l1 = .inr (12, fs8)) (h10 : l1 < n) (h11 : mi_W d 150 0 (mi_en 4 [.ref l1]) [] (n, sl, f) (mi_Kc d 156 190 [some (.ref l1), some (.int l2)] [.int l2, .ref x6] Q)) : mi_W (d + 1) 156 184 [some (.ref l1), some (.int l2)] [] (n, sl, f) Q := by
  refine w_aload_n cd_156_184 rfl ?_
  refine w_getfield cd_156_185 (show mt_f 12 80 = some (12, 13) by decide +kernel) h4 h5 h7 ?_
  refine w_iload_n cd_156_188 rfl ?_
  refine w_aload_n cd_156_189 rfl ?_
  exact w_invokevirtual cd_156_190 (show mt_m 12 355 = some (150, 0) by decide +kernel) (rest := [.int l2, .ref x6]) rfl (as := [.ref l1]) rfl h9 (Or.inl h10) ⟨Nat.le_of_ble_eq_true rfl, Nat.le_of_ble_eq_true rfl, Nat.le_of_ble_eq_true rfl⟩ h11
theorem b_156_193 {d : Nat} {Q : (Option Value ⊕ Nat) → mi_H → Prop} (n sl : Nat) (f : Nat → mi_C) {l1 : Nat} {l2 : Int32} {s3 : Int32} {s4 : Int32} {s5 : Nat} (m6 i6 : Nat) (g6 : Nat → Int32) (h7 : f s5 = .inl (0, m6, .inl g6)) (h8 : s5 < n) (h9 : mi_ix s4 m6 i6) (h10 : s3 < (0 : Int32) → mi_W d 156 216 [some (.ref l1), some (.int l2)] [] (n, sl, (va_up f s5 (.inl (0, m6, .inl (upd g6 i6 s3))))) Q) (h11 : ¬ (s3 < (0 : Int32)) → mi_W d 156 198 [some (.ref l1), some (.int l2)] [] (n, sl, (va_up f s5 (.inl (0, m6, .inl (upd g6 i6 s3))))) Q) : mi_W d 156 193 [some (.ref l1), some (.int l2)] [.int s3, .int s4, .ref s5] (n, sl, f) Q := by
  refine w_dup_x2_iir cd_156_193 ?_
  refine w_iastore cd_156_194 h7 h8 h9 ?_
  exact w_iflt cd_156_195 (by decide) h10 h11
theorem b_156_198 {d : Nat} {Q : (Option Value ⊕ Nat) → mi_H → Prop} (n sl : Nat) (f : Nat → mi_C) {l1 : Nat} {l2 : Int32} {fs3 : List Value} {x6 : Nat} {fs8 : List Value} (h4 : f l1 = .inr (12, fs3)) (h5 : l1 < n) (h7 : fs3[14]? = some (.ref x6)) (h9 : f l1 = .inr (12, fs8)) (h10 : l1 < n) (h11 : mi_W d 150 0 (mi_en 4 [.ref l1]) [] (n, sl, f) (mi_Kc d 156 204 [some (.ref l1), some (.int l2)] [.int l2, .ref x6] Q)) : mi_W (d + 1) 156 198 [some (.ref l1), some (.int l2)] [] (n, sl, f) Q := by
  refine w_aload_n cd_156_198 rfl ?_
  refine w_getfield cd_156_199 (show mt_f 12 83 = some (12, 14) by decide +kernel) h4 h5 h7 ?_
  refine w_iload_n cd_156_202 rfl ?_
  refine w_aload_n cd_156_203 rfl ?_
  exact w_invokevirtual cd_156_204 (show mt_m 12 355 = some (150, 0) by decide +kernel) (rest := [.int l2, .ref x6]) rfl (as := [.ref l1]) rfl h9 (Or.inl h10) ⟨Nat.le_of_ble_eq_true rfl, Nat.le_of_ble_eq_true rfl, Nat.le_of_ble_eq_true rfl⟩ h11
theorem b_156_207 {d : Nat} {Q : (Option Value ⊕ Nat) → mi_H → Prop} (n sl : Nat) (f : Nat → mi_C) {l1 : Nat} {l2 : Int32} {s3 : Int32} {s4 : Int32} {s5 : Nat} (m6 i6 : Nat) (g6 : Nat → Int32) (h7 : f s5 = .inl (0, m6, .inl g6)) (h8 : s5 < n) (h9 : mi_ix s4 m6 i6) (h10 : s3 < (0 : Int32) → mi_W d 156 216 [some (.ref l1), some (.int l2)] [] (n, sl, (va_up f s5 (.inl (0, m6, .inl (upd g6 i6 s3))))) Q) (h11 : ¬ (s3 < (0 : Int32)) → mi_W d 156 212 [some (.ref l1), some (.int l2)] [] (n, sl, (va_up f s5 (.inl (0, m6, .inl (upd g6 i6 s3))))) Q) : mi_W d 156 207 [some (.ref l1), some (.int l2)] [.int s3, .int s4, .ref s5] (n, sl, f) Q := by
  refine w_dup_x2_iir cd_156_207 ?_
  refine w_iastore cd_156_208 h7 h8 h9 ?_
  exact w_iflt cd_156_209 (by decide) h10 h11
theorem b_156_212 {d : Nat} {Q : (Option Value ⊕ Nat) → mi_H → Prop} (n sl : Nat) (f : Nat → mi_C) {l1 : Nat} {l2 : Int32} (h3 : mi_W d 156 217 [some (.ref l1), some (.int l2)] [.int 1] (n, sl, f) Q) : mi_W d 156 212 [some (.ref l1), some (.int l2)] [] (n, sl, f) Q := by
  refine w_iconst (v := 1) cd_156_212 (by decide) ?_
  exact w_goto cd_156_213 (by decide) h3
theorem b_156_216 {d : Nat} {Q : (Option Value ⊕ Nat) → mi_H → Prop} (n sl : Nat) (f : Nat → mi_C) {l1 : Nat} {l2 : Int32} (h3 : mi_W d 156 217 [some (.ref l1), some (.int l2)] [.int 0] (n, sl, f) Q) : mi_W d 156 216 [some (.ref l1), some (.int l2)] [] (n, sl, f) Q := by
  refine w_iconst (v := 0) cd_156_216 (by decide) ?_
  exact h3
theorem b_156_217 {d : Nat} {Q : (Option Value ⊕ Nat) → mi_H → Prop} (n sl : Nat) (f : Nat → mi_C) {l1 : Nat} {l2 : Int32} {s3 : Int32} (h4 : s3 = 0 ∨ s3 = 1) (h5 : Q (.inl (some (.int s3))) (n, sl, f)) : mi_W d 156 217 [some (.ref l1), some (.int l2)] [.int s3] (n, sl, f) Q := by
  exact w_ireturn_z cd_156_217 (by decide +kernel) h4 h5
theorem b_156_218 {d : Nat} {Q : (Option Value ⊕ Nat) → mi_H → Prop} (n sl : Nat) (f : Nat → mi_C) {l1 : Nat} {l2 : Int32} {fs3 : List Value} (h4 : f l1 = .inr (12, fs3)) (h5 : l1 < n) (h6 : mi_W d 166 0 (mi_en 6 [.ref l1, .int l2]) [] (n, sl, f) (mi_Kc d 156 220 [some (.ref l1), some (.int l2)] [] Q)) : mi_W (d + 1) 156 218 [some (.ref l1), some (.int l2)] [] (n, sl, f) Q := by
  refine w_aload_n cd_156_218 rfl ?_
  refine w_iload_n cd_156_219 rfl ?_
  exact w_invokevirtual cd_156_220 (show mt_m 12 404 = some (166, 0) by decide +kernel) (rest := []) rfl (as := [.ref l1, .int l2]) rfl h4 (Or.inl h5) ⟨Nat.le_of_ble_eq_true rfl, Nat.le_of_ble_eq_true rfl, Nat.le_of_ble_eq_true rfl⟩ h6
theorem b_156_223 {d : Nat} {Q : (Option Value ⊕ Nat) → mi_H → Prop} (n sl : Nat) (f : Nat → mi_C) {l1 : Nat} {l2 : Int32} {s3 : Int32} (h4 : s3 = 0 ∨ s3 = 1) (h5 : Q (.inl (some (.int s3))) (n, sl, f)) : mi_W d 156 223 [some (.ref l1), some (.int l2)] [.int s3] (n, sl, f) Q := by
  exact w_ireturn_z cd_156_223 (by decide +kernel) h4 h5
theorem b_156_224 {d : Nat} {Q : (Option Value ⊕ Nat) → mi_H → Prop} (n sl : Nat) (f : Nat → mi_C) {l1 : Nat} {l2 : Int32} {fs3 : List Value} {x6 : Nat} {fs8 : List Value} (h4 : f l1 = .inr (12, fs3)) (h5 : l1 < n) (h7 : fs3[13]? = some (.ref x6)) (h9 : f l1 = .inr (12, fs8)) (h10 : l1 < n) (h11 : mi_W d 164 0 (mi_en 2 [.ref l1]) [] (n, sl, f) (mi_Kc d 156 230 [some (.ref l1), some (.int l2)] [.int l2, .ref x6] Q)) : mi_W (d + 1) 156 224 [some (.ref l1), some (.int l2)] [] (n, sl, f) Q := by
  refine w_aload_n cd_156_224 rfl ?_
  refine w_getfield cd_156_225 (show mt_f 12 80 = some (12, 13) by decide +kernel) h4 h5 h7 ?_
  refine w_iload_n cd_156_228 rfl ?_
  refine w_aload_n cd_156_229 rfl ?_
  exact w_invokevirtual cd_156_230 (show mt_m 12 406 = some (164, 0) by decide +kernel) (rest := [.int l2, .ref x6]) rfl (as := [.ref l1]) rfl h9 (Or.inl h10) ⟨Nat.le_of_ble_eq_true rfl, Nat.le_of_ble_eq_true rfl, Nat.le_of_ble_eq_true rfl⟩ h11
theorem b_156_233 {d : Nat} {Q : (Option Value ⊕ Nat) → mi_H → Prop} (n sl : Nat) (f : Nat → mi_C) {l1 : Nat} {l2 : Int32} {s3 : Int32} {s4 : Int32} {s5 : Nat} (m6 i6 : Nat) (g6 : Nat → Int32) (h7 : f s5 = .inl (0, m6, .inl g6)) (h8 : s5 < n) (h9 : mi_ix s4 m6 i6) (h10 : s3 < (0 : Int32) → mi_W d 156 270 [some (.ref l1), some (.int l2)] [] (n, sl, (va_up f s5 (.inl (0, m6, .inl (upd g6 i6 s3))))) Q) (h11 : ¬ (s3 < (0 : Int32)) → mi_W d 156 238 [some (.ref l1), some (.int l2)] [] (n, sl, (va_up f s5 (.inl (0, m6, .inl (upd g6 i6 s3))))) Q) : mi_W d 156 233 [some (.ref l1), some (.int l2)] [.int s3, .int s4, .ref s5] (n, sl, f) Q := by
  refine w_dup_x2_iir cd_156_233 ?_
  refine w_iastore cd_156_234 h7 h8 h9 ?_
  exact w_iflt cd_156_235 (by decide) h10 h11
theorem b_156_238 {d : Nat} {Q : (Option Value ⊕ Nat) → mi_H → Prop} (n sl : Nat) (f : Nat → mi_C) {l1 : Nat} {l2 : Int32} {fs3 : List Value} {x6 : Nat} {fs8 : List Value} (h4 : f l1 = .inr (12, fs3)) (h5 : l1 < n) (h7 : fs3[16]? = some (.ref x6)) (h9 : f l1 = .inr (12, fs8)) (h10 : l1 < n) (h11 : mi_W d 161 0 (mi_en 4 [.ref l1]) [] (n, sl, f) (mi_Kc d 156 244 [some (.ref l1), some (.int l2)] [.int l2, .ref x6] Q)) : mi_W (d + 1) 156 238 [some (.ref l1), some (.int l2)] [] (n, sl, f) Q := by
  refine w_aload_n cd_156_238 rfl ?_
  refine w_getfield cd_156_239 (show mt_f 12 89 = some (12, 16) by decide +kernel) h4 h5 h7 ?_
  refine w_iload_n cd_156_242 rfl ?_
  refine w_aload_n cd_156_243 rfl ?_
  exact w_invokevirtual cd_156_244 (show mt_m 12 399 = some (161, 0) by decide +kernel) (rest := [.int l2, .ref x6]) rfl (as := [.ref l1]) rfl h9 (Or.inl h10) ⟨Nat.le_of_ble_eq_true rfl, Nat.le_of_ble_eq_true rfl, Nat.le_of_ble_eq_true rfl⟩ h11
theorem b_156_247 {d : Nat} {Q : (Option Value ⊕ Nat) → mi_H → Prop} (n sl : Nat) (f : Nat → mi_C) {l1 : Nat} {l2 : Int32} {s3 : Int32} {s4 : Int32} {s5 : Nat} (m6 i6 : Nat) (g6 : Nat → Int32) (h7 : f s5 = .inl (0, m6, .inl g6)) (h8 : s5 < n) (h9 : mi_ix s4 m6 i6) (h10 : s3 < (0 : Int32) → mi_W d 156 270 [some (.ref l1), some (.int l2)] [] (n, sl, (va_up f s5 (.inl (0, m6, .inl (upd g6 i6 s3))))) Q) (h11 : ¬ (s3 < (0 : Int32)) → mi_W d 156 252 [some (.ref l1), some (.int l2)] [] (n, sl, (va_up f s5 (.inl (0, m6, .inl (upd g6 i6 s3))))) Q) : mi_W d 156 247 [some (.ref l1), some (.int l2)] [.int s3, .int s4, .ref s5] (n, sl, f) Q := by
  refine w_dup_x2_iir cd_156_247 ?_
  refine w_iastore cd_156_248 h7 h8 h9 ?_
  exact w_iflt cd_156_249 (by decide) h10 h11
theorem b_156_252 {d : Nat} {Q : (Option Value ⊕ Nat) → mi_H → Prop} (n sl : Nat) (f : Nat → mi_C) {l1 : Nat} {l2 : Int32} {fs3 : List Value} {x6 : Nat} {fs8 : List Value} (h4 : f l1 = .inr (12, fs3)) (h5 : l1 < n) (h7 : fs3[19]? = some (.ref x6)) (h9 : f l1 = .inr (12, fs8)) (h10 : l1 < n) (h11 : mi_W d 150 0 (mi_en 4 [.ref l1]) [] (n, sl, f) (mi_Kc d 156 258 [some (.ref l1), some (.int l2)] [.int l2, .ref x6] Q)) : mi_W (d + 1) 156 252 [some (.ref l1), some (.int l2)] [] (n, sl, f) Q := by
  refine w_aload_n cd_156_252 rfl ?_
  refine w_getfield cd_156_253 (show mt_f 12 98 = some (12, 19) by decide +kernel) h4 h5 h7 ?_
  refine w_iload_n cd_156_256 rfl ?_
  refine w_aload_n cd_156_257 rfl ?_
  exact w_invokevirtual cd_156_258 (show mt_m 12 355 = some (150, 0) by decide +kernel) (rest := [.int l2, .ref x6]) rfl (as := [.ref l1]) rfl h9 (Or.inl h10) ⟨Nat.le_of_ble_eq_true rfl, Nat.le_of_ble_eq_true rfl, Nat.le_of_ble_eq_true rfl⟩ h11
theorem b_156_261 {d : Nat} {Q : (Option Value ⊕ Nat) → mi_H → Prop} (n sl : Nat) (f : Nat → mi_C) {l1 : Nat} {l2 : Int32} {s3 : Int32} {s4 : Int32} {s5 : Nat} (m6 i6 : Nat) (g6 : Nat → Int32) (h7 : f s5 = .inl (0, m6, .inl g6)) (h8 : s5 < n) (h9 : mi_ix s4 m6 i6) (h10 : s3 < (0 : Int32) → mi_W d 156 270 [some (.ref l1), some (.int l2)] [] (n, sl, (va_up f s5 (.inl (0, m6, .inl (upd g6 i6 s3))))) Q) (h11 : ¬ (s3 < (0 : Int32)) → mi_W d 156 266 [some (.ref l1), some (.int l2)] [] (n, sl, (va_up f s5 (.inl (0, m6, .inl (upd g6 i6 s3))))) Q) : mi_W d 156 261 [some (.ref l1), some (.int l2)] [.int s3, .int s4, .ref s5] (n, sl, f) Q := by
  refine w_dup_x2_iir cd_156_261 ?_
  refine w_iastore cd_156_262 h7 h8 h9 ?_
  exact w_iflt cd_156_263 (by decide) h10 h11
theorem b_156_266 {d : Nat} {Q : (Option Value ⊕ Nat) → mi_H → Prop} (n sl : Nat) (f : Nat → mi_C) {l1 : Nat} {l2 : Int32} (h3 : mi_W d 156 271 [some (.ref l1), some (.int l2)] [.int 1] (n, sl, f) Q) : mi_W d 156 266 [some (.ref l1), some (.int l2)] [] (n, sl, f) Q := by
  refine w_iconst (v := 1) cd_156_266 (by decide) ?_
  exact w_goto cd_156_267 (by decide) h3
theorem b_156_270 {d : Nat} {Q : (Option Value ⊕ Nat) → mi_H → Prop} (n sl : Nat) (f : Nat → mi_C) {l1 : Nat} {l2 : Int32} (h3 : mi_W d 156 271 [some (.ref l1), some (.int l2)] [.int 0] (n, sl, f) Q) : mi_W d 156 270 [some (.ref l1), some (.int l2)] [] (n, sl, f) Q := by
  refine w_iconst (v := 0) cd_156_270 (by decide) ?_
  exact h3
theorem b_156_271 {d : Nat} {Q : (Option Value ⊕ Nat) → mi_H → Prop} (n sl : Nat) (f : Nat → mi_C) {l1 : Nat} {l2 : Int32} {s3 : Int32} (h4 : s3 = 0 ∨ s3 = 1) (h5 : Q (.inl (some (.int s3))) (n, sl, f)) : mi_W d 156 271 [some (.ref l1), some (.int l2)] [.int s3] (n, sl, f) Q := by
  exact w_ireturn_z cd_156_271 (by decide +kernel) h4 h5
theorem b_156_272 {d : Nat} {Q : (Option Value ⊕ Nat) → mi_H → Prop} (n sl : Nat) (f : Nat → mi_C) {l1 : Nat} {l2 : Int32} {fs3 : List Value} {x6 : Nat} {fs8 : List Value} (h4 : f l1 = .inr (12, fs3)) (h5 : l1 < n) (h7 : fs3[16]? = some (.ref x6)) (h9 : f l1 = .inr (12, fs8)) (h10 : l1 < n) (h11 : mi_W d 165 0 (mi_en 4 [.ref l1]) [] (n, sl, f) (mi_Kc d 156 278 [some (.ref l1), some (.int l2)] [.int l2, .ref x6] Q)) : mi_W (d + 1) 156 272 [some (.ref l1), some (.int l2)] [] (n, sl, f) Q := by
  refine w_aload_n cd_156_272 rfl ?_
  refine w_getfield cd_156_273 (show mt_f 12 89 = some (12, 16) by decide +kernel) h4 h5 h7 ?_
  refine w_iload_n cd_156_276 rfl ?_
  refine w_aload_n cd_156_277 rfl ?_
  exact w_invokevirtual cd_156_278 (show mt_m 12 401 = some (165, 0) by decide +kernel) (rest := [.int l2, .ref x6]) rfl (as := [.ref l1]) rfl h9 (Or.inl h10) ⟨Nat.le_of_ble_eq_true rfl, Nat.le_of_ble_eq_true rfl, Nat.le_of_ble_eq_true rfl⟩ h11
theorem b_156_281 {d : Nat} {Q : (Option Value ⊕ Nat) → mi_H → Prop} (n sl : Nat) (f : Nat → mi_C) {l1 : Nat} {l2 : Int32} {s3 : Int32} {s4 : Int32} {s5 : Nat} (m6 i6 : Nat) (g6 : Nat → Int32) (h7 : f s5 = .inl (0, m6, .inl g6)) (h8 : s5 < n) (h9 : mi_ix s4 m6 i6) (h10 : s3 < (0 : Int32) → mi_W d 156 304 [some (.ref l1), some (.int l2)] [] (n, sl, (va_up f s5 (.inl (0, m6, .inl (upd g6 i6 s3))))) Q) (h11 : ¬ (s3 < (0 : Int32)) → mi_W d 156 286 [some (.ref l1), some (.int l2)] [] (n, sl, (va_up f s5 (.inl (0, m6, .inl (upd g6 i6 s3))))) Q) : mi_W d 156 281 [some (.ref l1), some (.int l2)] [.int s3, .int s4, .ref s5] (n, sl, f) Q := by
  refine w_dup_x2_iir cd_156_281 ?_
  refine w_iastore cd_156_282 h7 h8 h9 ?_
  exact w_iflt cd_156_283 (by decide) h10 h11
theorem b_156_286 {d : Nat} {Q : (Option Value ⊕ Nat) → mi_H → Prop} (n sl : Nat) (f : Nat → mi_C) {l1 : Nat} {l2 : Int32} {fs3 : List Value} {x6 : Nat} {fs8 : List Value} (h4 : f l1 = .inr (12, fs3)) (h5 : l1 < n) (h7 : fs3[19]? = some (.ref x6)) (h9 : f l1 = .inr (12, fs8)) (h10 : l1 < n) (h11 : mi_W d 150 0 (mi_en 4 [.ref l1]) [] (n, sl, f) (mi_Kc d 156 292 [some (.ref l1), some (.int l2)] [.int l2, .ref x6] Q)) : mi_W (d + 1) 156 286 [some (.ref l1), some (.int l2)] [] (n, sl, f) Q := by
  refine w_aload_n cd_156_286 rfl ?_
  refine w_getfield cd_156_287 (show mt_f 12 98 = some (12, 19) by decide +kernel) h4 h5 h7 ?_
  refine w_iload_n cd_156_290 rfl ?_
  refine w_aload_n cd_156_291 rfl ?_
  exact w_invokevirtual cd_156_292 (show mt_m 12 355 = some (150, 0) by decide +kernel) (rest := [.int l2, .ref x6]) rfl (as := [.ref l1]) rfl h9 (Or.inl h10) ⟨Nat.le_of_ble_eq_true rfl, Nat.le_of_ble_eq_true rfl, Nat.le_of_ble_eq_true rfl⟩ h11
theorem b_156_295 {d : Nat} {Q : (Option Value ⊕ Nat) → mi_H → Prop} (n sl : Nat) (f : Nat → mi_C) {l1 : Nat} {l2 : Int32} {s3 : Int32} {s4 : Int32} {s5 : Nat} (m6 i6 : Nat) (g6 : Nat → Int32) (h7 : f s5 = .inl (0, m6, .inl g6)) (h8 : s5 < n) (h9 : mi_ix s4 m6 i6) (h10 : s3 < (0 : Int32) → mi_W d 156 304 [some (.ref l1), some (.int l2)] [] (n, sl, (va_up f s5 (.inl (0, m6, .inl (upd g6 i6 s3))))) Q) (h11 : ¬ (s3 < (0 : Int32)) → mi_W d 156 300 [some (.ref l1), some (.int l2)] [] (n, sl, (va_up f s5 (.inl (0, m6, .inl (upd g6 i6 s3))))) Q) : mi_W d 156 295 [some (.ref l1), some (.int l2)] [.int s3, .int s4, .ref s5] (n, sl, f) Q := by
  refine w_dup_x2_iir cd_156_295 ?_
  refine w_iastore cd_156_296 h7 h8 h9 ?_
  exact w_iflt cd_156_297 (by decide) h10 h11
theorem b_156_300 {d : Nat} {Q : (Option Value ⊕ Nat) → mi_H → Prop} (n sl : Nat) (f : Nat → mi_C) {l1 : Nat} {l2 : Int32} (h3 : mi_W d 156 305 [some (.ref l1), some (.int l2)] [.int 1] (n, sl, f) Q) : mi_W d 156 300 [some (.ref l1), some (.int l2)] [] (n, sl, f) Q := by
  refine w_iconst (v := 1) cd_156_300 (by decide) ?_
  exact w_goto cd_156_301 (by decide) h3
theorem b_156_304 {d : Nat} {Q : (Option Value ⊕ Nat) → mi_H → Prop} (n sl : Nat) (f : Nat → mi_C) {l1 : Nat} {l2 : Int32} (h3 : mi_W d 156 305 [some (.ref l1), some (.int l2)] [.int 0] (n, sl, f) Q) : mi_W d 156 304 [some (.ref l1), some (.int l2)] [] (n, sl, f) Q := by
  refine w_iconst (v := 0) cd_156_304 (by decide) ?_
  exact h3
theorem b_156_305 {d : Nat} {Q : (Option Value ⊕ Nat) → mi_H → Prop} (n sl : Nat) (f : Nat → mi_C) {l1 : Nat} {l2 : Int32} {s3 : Int32} (h4 : s3 = 0 ∨ s3 = 1) (h5 : Q (.inl (some (.int s3))) (n, sl, f)) : mi_W d 156 305 [some (.ref l1), some (.int l2)] [.int s3] (n, sl, f) Q := by
  exact w_ireturn_z cd_156_305 (by decide +kernel) h4 h5
/-! MarloweHostModel.party()I -/
set_option maxRecDepth 100000 in
theorem mq_157 : mt_q 157 = my_157 := rfl
set_option maxRecDepth 100000 in
theorem ci_157 : mt_inc 0 my_157.cd = true := by decide +kernel
theorem cd_157_0 : mt_cd 157 0 = some (.aload_n 0) := mt_cd_of (q := (0, .aload_n 0, 1)) mq_157 ci_157 (List.mem_of_getElem? (i := 0) rfl)
theorem cd_157_1 : mt_cd 157 1 = some (.aload_n 0) := mt_cd_of (q := (1, .aload_n 0, 1)) mq_157 ci_157 (List.mem_of_getElem? (i := 1) rfl)
theorem cd_157_2 : mt_cd 157 2 = some (.getfield 111) := mt_cd_of (q := (2, .getfield 111, 3)) mq_157 ci_157 (List.mem_of_getElem? (i := 2) rfl)
theorem cd_157_5 : mt_cd 157 5 = some (.aload_n 0) := mt_cd_of (q := (5, .aload_n 0, 1)) mq_157 ci_157 (List.mem_of_getElem? (i := 3) rfl)
theorem cd_157_6 : mt_cd 157 6 = some (.getfield 114) := mt_cd_of (q := (6, .getfield 114, 3)) mq_157 ci_157 (List.mem_of_getElem? (i := 4) rfl)
theorem cd_157_9 : mt_cd 157 9 = some (.aload_n 0) := mt_cd_of (q := (9, .aload_n 0, 1)) mq_157 ci_157 (List.mem_of_getElem? (i := 5) rfl)
theorem cd_157_10 : mt_cd 157 10 = some (.getfield 343) := mt_cd_of (q := (10, .getfield 343, 3)) mq_157 ci_157 (List.mem_of_getElem? (i := 6) rfl)
theorem cd_157_13 : mt_cd 157 13 = some (.bipush 8) := mt_cd_of (q := (13, .bipush 8, 2)) mq_157 ci_157 (List.mem_of_getElem? (i := 7) rfl)
theorem cd_157_15 : mt_cd 157 15 = some (.invokevirtual 362) := mt_cd_of (q := (15, .invokevirtual 362, 3)) mq_157 ci_157 (List.mem_of_getElem? (i := 8) rfl)
theorem cd_157_18 : mt_cd 157 18 = some (.istore_n 1) := mt_cd_of (q := (18, .istore_n 1, 1)) mq_157 ci_157 (List.mem_of_getElem? (i := 9) rfl)
theorem cd_157_19 : mt_cd 157 19 = some (.iload_n 1) := mt_cd_of (q := (19, .iload_n 1, 1)) mq_157 ci_157 (List.mem_of_getElem? (i := 10) rfl)
theorem cd_157_20 : mt_cd 157 20 = some (.aload_n 0) := mt_cd_of (q := (20, .aload_n 0, 1)) mq_157 ci_157 (List.mem_of_getElem? (i := 11) rfl)
theorem cd_157_21 : mt_cd 157 21 = some (.getfield 343) := mt_cd_of (q := (21, .getfield 343, 3)) mq_157 ci_157 (List.mem_of_getElem? (i := 12) rfl)
theorem cd_157_24 : mt_cd 157 24 = some (.if_icmp .ne 13) := mt_cd_of (q := (24, .if_icmp .ne 13, 3)) mq_157 ci_157 (List.mem_of_getElem? (i := 13) rfl)
theorem cd_157_27 : mt_cd 157 27 = some (.aload_n 0) := mt_cd_of (q := (27, .aload_n 0, 1)) mq_157 ci_157 (List.mem_of_getElem? (i := 14) rfl)
theorem cd_157_28 : mt_cd 157 28 = some (.dup) := mt_cd_of (q := (28, .dup, 1)) mq_157 ci_157 (List.mem_of_getElem? (i := 15) rfl)
theorem cd_157_29 : mt_cd 157 29 = some (.getfield 343) := mt_cd_of (q := (29, .getfield 343, 3)) mq_157 ci_157 (List.mem_of_getElem? (i := 16) rfl)
theorem cd_157_32 : mt_cd 157 32 = some (.iconst 1) := mt_cd_of (q := (32, .iconst 1, 1)) mq_157 ci_157 (List.mem_of_getElem? (i := 17) rfl)
theorem cd_157_33 : mt_cd 157 33 = some (.iadd) := mt_cd_of (q := (33, .iadd, 1)) mq_157 ci_157 (List.mem_of_getElem? (i := 18) rfl)
theorem cd_157_34 : mt_cd 157 34 = some (.putfield 343) := mt_cd_of (q := (34, .putfield 343, 3)) mq_157 ci_157 (List.mem_of_getElem? (i := 19) rfl)
theorem cd_157_37 : mt_cd 157 37 = some (.iload_n 1) := mt_cd_of (q := (37, .iload_n 1, 1)) mq_157 ci_157 (List.mem_of_getElem? (i := 20) rfl)
theorem cd_157_38 : mt_cd 157 38 = some (.ireturn) := mt_cd_of (q := (38, .ireturn, 1)) mq_157 ci_157 (List.mem_of_getElem? (i := 21) rfl)
theorem b_157_0 {d : Nat} {Q : (Option Value ⊕ Nat) → mi_H → Prop} (n sl : Nat) (f : Nat → mi_C) {l1 : Nat} {o2 : Option Value} {fs3 : List Value} {x6 : Nat} {fs8 : List Value} {x11 : Nat} {fs13 : List Value} {x16 : Int32} {fs18 : List Value} (h4 : f l1 = .inr (12, fs3)) (h5 : l1 < n) (h7 : fs3[30]? = some (.ref x6)) (h9 : f l1 = .inr (12, fs8)) (h10 : l1 < n) (h12 : fs8[31]? = some (.ref x11)) (h14 : f l1 = .inr (12, fs13)) (h15 : l1 < n) (h17 : fs13[24]? = some (.int x16)) (h19 : f l1 = .inr (12, fs18)) (h20 : l1 < n) (h21 : mi_W d 158 0 (mi_en 6 [.ref l1, .ref x6, .ref x11, .int x16, .int 8]) [] (n, sl, f) (mi_Kc d 157 15 [some (.ref l1), o2] [] Q)) : mi_W (d + 1) 157 0 [some (.ref l1), o2] [] (n, sl, f) Q := by
  refine w_aload_n cd_157_0 rfl ?_
  refine w_aload_n cd_157_1 rfl ?_
  refine w_getfield cd_157_2 (show mt_f 12 111 = some (12, 30) by decide +kernel) h4 h5 h7 ?_
  refine w_aload_n cd_157_5 rfl ?_
  refine w_getfield cd_157_6 (show mt_f 12 114 = some (12, 31) by decide +kernel) h9 h10 h12 ?_
  refine w_aload_n cd_157_9 rfl ?_
  refine w_getfield cd_157_10 (show mt_f 12 343 = some (12, 24) by decide +kernel) h14 h15 h17 ?_
  refine w_bipush (v := 8) cd_157_13 (by decide) ?_
  exact w_invokevirtual cd_157_15 (show mt_m 12 362 = some (158, 0) by decide +kernel) (rest := []) rfl (as := [.ref l1, .ref x6, .ref x11, .int x16, .int 8]) rfl h19 (Or.inl h20) ⟨Nat.le_of_ble_eq_true rfl, Nat.le_of_ble_eq_true rfl, Nat.le_of_ble_eq_true rfl⟩ h21
theorem b_157_18 {d : Nat} {Q : (Option Value ⊕ Nat) → mi_H → Prop} (n sl : Nat) (f : Nat → mi_C) {l1 : Nat} {o2 : Option Value} {s3 : Int32} {fs4 : List Value} {x7 : Int32} (h5 : f l1 = .inr (12, fs4)) (h6 : l1 < n) (h8 : fs4[24]? = some (.int x7)) (h9 : ¬ s3 = x7 → mi_W d 157 37 [some (.ref l1), some (.int s3)] [] (n, sl, f) Q) (h10 : ¬ (¬ s3 = x7) → mi_W d 157 27 [some (.ref l1), some (.int s3)] [] (n, sl, f) Q) : mi_W d 157 18 [some (.ref l1), o2] [.int s3] (n, sl, f) Q := by
  refine w_istore_n (ls' := [some (.ref l1), some (.int s3)]) cd_157_18 (Nat.le_of_ble_eq_true rfl) rfl ?_
  refine w_iload_n cd_157_19 rfl ?_
  refine w_aload_n cd_157_20 rfl ?_
  refine w_getfield cd_157_21 (show mt_f 12 343 = some (12, 24) by decide +kernel) h5 h6 h8 ?_
  exact w_if_icmpne cd_157_24 (by decide) h9 h10
theorem b_157_27 {d : Nat} {Q : (Option Value ⊕ Nat) → mi_H → Prop} (n sl : Nat) (f : Nat → mi_C) {l1 : Nat} {l2 : Int32} {fs3 : List Value} {x6 : Int32} {fs8 : List Value} (h4 : f l1 = .inr (12, fs3)) (h5 : l1 < n) (h7 : fs3[24]? = some (.int x6)) (h9 : f l1 = .inr (12, fs8)) (h10 : l1 < n) (h11 : 24 < fs8.length) (h12 : mi_W d 157 37 [some (.ref l1), some (.int l2)] [] (n, sl, (va_up f l1 (.inr (12, fs8.set 24 (.int (x6 + 1)))))) Q) : mi_W d 157 27 [some (.ref l1), some (.int l2)] [] (n, sl, f) Q := by
  refine w_aload_n cd_157_27 rfl ?_
  refine w_dup_r cd_157_28 ?_
  refine w_getfield cd_157_29 (show mt_f 12 343 = some (12, 24) by decide +kernel) h4 h5 h7 ?_
  refine w_iconst (v := 1) cd_157_32 (by decide) ?_
  refine w_iadd cd_157_33 ?_
  refine w_putfield (w := .int (x6 + 1)) cd_157_34 (show mt_f 12 343 = some (12, 24) by decide +kernel) h9 h10 ⟨h11, rfl, Or.inl (by decide)⟩ ?_
  exact h12
theorem b_157_37 {d : Nat} {Q : (Option Value ⊕ Nat) → mi_H → Prop} (n sl : Nat) (f : Nat → mi_C) {l1 : Nat} {l2 : Int32} (h3 : Q (.inl (some (.int l2))) (n, sl, f)) : mi_W d 157 37 [some (.ref l1), some (.int l2)] [] (n, sl, f) Q := by
  refine w_iload_n cd_157_37 rfl ?_
  exact w_ireturn_i cd_157_38 (by decide +kernel) h3
/-! MarloweHostModel.named([I[III)I -/
set_option maxRecDepth 100000 in
theorem mq_158 : mt_q 158 = my_158 := rfl
set_option maxRecDepth 100000 in
theorem ci_158 : mt_inc 0 my_158.cd = true := by decide +kernel
theorem cd_158_0 : mt_cd 158 0 = some (.aload_n 0) := mt_cd_of (q := (0, .aload_n 0, 1)) mq_158 ci_158 (List.mem_of_getElem? (i := 0) rfl)
theorem cd_158_1 : mt_cd 158 1 = some (.getfield 310) := mt_cd_of (q := (1, .getfield 310, 3)) mq_158 ci_158 (List.mem_of_getElem? (i := 1) rfl)
theorem cd_158_4 : mt_cd 158 4 = some (.iconst 1) := mt_cd_of (q := (4, .iconst 1, 1)) mq_158 ci_158 (List.mem_of_getElem? (i := 2) rfl)
theorem cd_158_5 : mt_cd 158 5 = some (.if_icmp .eq 14) := mt_cd_of (q := (5, .if_icmp .eq 14, 3)) mq_158 ci_158 (List.mem_of_getElem? (i := 3) rfl)
theorem cd_158_8 : mt_cd 158 8 = some (.aload_n 0) := mt_cd_of (q := (8, .aload_n 0, 1)) mq_158 ci_158 (List.mem_of_getElem? (i := 4) rfl)
theorem cd_158_9 : mt_cd 158 9 = some (.aload_n 0) := mt_cd_of (q := (9, .aload_n 0, 1)) mq_158 ci_158 (List.mem_of_getElem? (i := 5) rfl)
theorem cd_158_10 : mt_cd 158 10 = some (.getfield 299) := mt_cd_of (q := (10, .getfield 299, 3)) mq_158 ci_158 (List.mem_of_getElem? (i := 6) rfl)
theorem cd_158_13 : mt_cd 158 13 = some (.invokevirtual 272) := mt_cd_of (q := (13, .invokevirtual 272, 3)) mq_158 ci_158 (List.mem_of_getElem? (i := 7) rfl)
theorem cd_158_16 : mt_cd 158 16 = some (.pop) := mt_cd_of (q := (16, .pop, 1)) mq_158 ci_158 (List.mem_of_getElem? (i := 8) rfl)
theorem cd_158_17 : mt_cd 158 17 = some (.iconst (-1)) := mt_cd_of (q := (17, .iconst (-1), 1)) mq_158 ci_158 (List.mem_of_getElem? (i := 9) rfl)
theorem cd_158_18 : mt_cd 158 18 = some (.ireturn) := mt_cd_of (q := (18, .ireturn, 1)) mq_158 ci_158 (List.mem_of_getElem? (i := 10) rfl)
theorem cd_158_19 : mt_cd 158 19 = some (.iconst 0) := mt_cd_of (q := (19, .iconst 0, 1)) mq_158 ci_158 (List.mem_of_getElem? (i := 11) rfl)
theorem cd_158_20 : mt_cd 158 20 = some (.istore 5) := mt_cd_of (q := (20, .istore 5, 2)) mq_158 ci_158 (List.mem_of_getElem? (i := 12) rfl)
theorem cd_158_22 : mt_cd 158 22 = some (.iload 5) := mt_cd_of (q := (22, .iload 5, 2)) mq_158 ci_158 (List.mem_of_getElem? (i := 13) rfl)
theorem cd_158_24 : mt_cd 158 24 = some (.iload_n 3) := mt_cd_of (q := (24, .iload_n 3, 1)) mq_158 ci_158 (List.mem_of_getElem? (i := 14) rfl)
theorem cd_158_25 : mt_cd 158 25 = some (.if_icmp .ge 24) := mt_cd_of (q := (25, .if_icmp .ge 24, 3)) mq_158 ci_158 (List.mem_of_getElem? (i := 15) rfl)
theorem cd_158_28 : mt_cd 158 28 = some (.aload_n 0) := mt_cd_of (q := (28, .aload_n 0, 1)) mq_158 ci_158 (List.mem_of_getElem? (i := 16) rfl)
theorem cd_158_29 : mt_cd 158 29 = some (.aload_n 1) := mt_cd_of (q := (29, .aload_n 1, 1)) mq_158 ci_158 (List.mem_of_getElem? (i := 17) rfl)
theorem cd_158_30 : mt_cd 158 30 = some (.iload 5) := mt_cd_of (q := (30, .iload 5, 2)) mq_158 ci_158 (List.mem_of_getElem? (i := 18) rfl)
theorem cd_158_32 : mt_cd 158 32 = some (.iaload) := mt_cd_of (q := (32, .iaload, 1)) mq_158 ci_158 (List.mem_of_getElem? (i := 19) rfl)
theorem cd_158_33 : mt_cd 158 33 = some (.aload_n 2) := mt_cd_of (q := (33, .aload_n 2, 1)) mq_158 ci_158 (List.mem_of_getElem? (i := 20) rfl)
theorem cd_158_34 : mt_cd 158 34 = some (.iload 5) := mt_cd_of (q := (34, .iload 5, 2)) mq_158 ci_158 (List.mem_of_getElem? (i := 21) rfl)
theorem cd_158_36 : mt_cd 158 36 = some (.iaload) := mt_cd_of (q := (36, .iaload, 1)) mq_158 ci_158 (List.mem_of_getElem? (i := 22) rfl)
theorem cd_158_37 : mt_cd 158 37 = some (.invokevirtual 358) := mt_cd_of (q := (37, .invokevirtual 358, 3)) mq_158 ci_158 (List.mem_of_getElem? (i := 23) rfl)
theorem cd_158_40 : mt_cd 158 40 = some (.ifCond .ne 9) := mt_cd_of (q := (40, .ifCond .ne 9, 3)) mq_158 ci_158 (List.mem_of_getElem? (i := 24) rfl)
theorem cd_158_43 : mt_cd 158 43 = some (.iinc 5 1) := mt_cd_of (q := (43, .iinc 5 1, 3)) mq_158 ci_158 (List.mem_of_getElem? (i := 25) rfl)
theorem cd_158_46 : mt_cd 158 46 = some (.goto (-24)) := mt_cd_of (q := (46, .goto (-24), 3)) mq_158 ci_158 (List.mem_of_getElem? (i := 26) rfl)
theorem cd_158_49 : mt_cd 158 49 = some (.iload 5) := mt_cd_of (q := (49, .iload 5, 2)) mq_158 ci_158 (List.mem_of_getElem? (i := 27) rfl)
theorem cd_158_51 : mt_cd 158 51 = some (.iload 4) := mt_cd_of (q := (51, .iload 4, 2)) mq_158 ci_158 (List.mem_of_getElem? (i := 28) rfl)
theorem cd_158_53 : mt_cd 158 53 = some (.if_icmp .ne 14) := mt_cd_of (q := (53, .if_icmp .ne 14, 3)) mq_158 ci_158 (List.mem_of_getElem? (i := 29) rfl)
theorem cd_158_56 : mt_cd 158 56 = some (.aload_n 0) := mt_cd_of (q := (56, .aload_n 0, 1)) mq_158 ci_158 (List.mem_of_getElem? (i := 30) rfl)
theorem cd_158_57 : mt_cd 158 57 = some (.aload_n 0) := mt_cd_of (q := (57, .aload_n 0, 1)) mq_158 ci_158 (List.mem_of_getElem? (i := 31) rfl)
theorem cd_158_58 : mt_cd 158 58 = some (.getfield 299) := mt_cd_of (q := (58, .getfield 299, 3)) mq_158 ci_158 (List.mem_of_getElem? (i := 32) rfl)
theorem cd_158_61 : mt_cd 158 61 = some (.invokevirtual 272) := mt_cd_of (q := (61, .invokevirtual 272, 3)) mq_158 ci_158 (List.mem_of_getElem? (i := 33) rfl)
theorem cd_158_64 : mt_cd 158 64 = some (.pop) := mt_cd_of (q := (64, .pop, 1)) mq_158 ci_158 (List.mem_of_getElem? (i := 34) rfl)
theorem cd_158_65 : mt_cd 158 65 = some (.iconst (-1)) := mt_cd_of (q := (65, .iconst (-1), 1)) mq_158 ci_158 (List.mem_of_getElem? (i := 35) rfl)
theorem cd_158_66 : mt_cd 158 66 = some (.ireturn) := mt_cd_of (q := (66, .ireturn, 1)) mq_158 ci_158 (List.mem_of_getElem? (i := 36) rfl)
theorem cd_158_67 : mt_cd 158 67 = some (.iload 5) := mt_cd_of (q := (67, .iload 5, 2)) mq_158 ci_158 (List.mem_of_getElem? (i := 37) rfl)
theorem cd_158_69 : mt_cd 158 69 = some (.iload_n 3) := mt_cd_of (q := (69, .iload_n 3, 1)) mq_158 ci_158 (List.mem_of_getElem? (i := 38) rfl)
theorem cd_158_70 : mt_cd 158 70 = some (.if_icmp .ne 24) := mt_cd_of (q := (70, .if_icmp .ne 24, 3)) mq_158 ci_158 (List.mem_of_getElem? (i := 39) rfl)
theorem cd_158_73 : mt_cd 158 73 = some (.aload_n 1) := mt_cd_of (q := (73, .aload_n 1, 1)) mq_158 ci_158 (List.mem_of_getElem? (i := 40) rfl)
theorem cd_158_74 : mt_cd 158 74 = some (.iload 5) := mt_cd_of (q := (74, .iload 5, 2)) mq_158 ci_158 (List.mem_of_getElem? (i := 41) rfl)
theorem cd_158_76 : mt_cd 158 76 = some (.aload_n 0) := mt_cd_of (q := (76, .aload_n 0, 1)) mq_158 ci_158 (List.mem_of_getElem? (i := 42) rfl)
theorem cd_158_77 : mt_cd 158 77 = some (.getfield 299) := mt_cd_of (q := (77, .getfield 299, 3)) mq_158 ci_158 (List.mem_of_getElem? (i := 43) rfl)
theorem cd_158_80 : mt_cd 158 80 = some (.iastore) := mt_cd_of (q := (80, .iastore, 1)) mq_158 ci_158 (List.mem_of_getElem? (i := 44) rfl)
theorem cd_158_81 : mt_cd 158 81 = some (.aload_n 2) := mt_cd_of (q := (81, .aload_n 2, 1)) mq_158 ci_158 (List.mem_of_getElem? (i := 45) rfl)
theorem cd_158_82 : mt_cd 158 82 = some (.iload 5) := mt_cd_of (q := (82, .iload 5, 2)) mq_158 ci_158 (List.mem_of_getElem? (i := 46) rfl)
theorem cd_158_84 : mt_cd 158 84 = some (.aload_n 0) := mt_cd_of (q := (84, .aload_n 0, 1)) mq_158 ci_158 (List.mem_of_getElem? (i := 47) rfl)
theorem cd_158_85 : mt_cd 158 85 = some (.getfield 297) := mt_cd_of (q := (85, .getfield 297, 3)) mq_158 ci_158 (List.mem_of_getElem? (i := 48) rfl)
theorem cd_158_88 : mt_cd 158 88 = some (.aload_n 0) := mt_cd_of (q := (88, .aload_n 0, 1)) mq_158 ci_158 (List.mem_of_getElem? (i := 49) rfl)
theorem cd_158_89 : mt_cd 158 89 = some (.getfield 299) := mt_cd_of (q := (89, .getfield 299, 3)) mq_158 ci_158 (List.mem_of_getElem? (i := 50) rfl)
theorem cd_158_92 : mt_cd 158 92 = some (.isub) := mt_cd_of (q := (92, .isub, 1)) mq_158 ci_158 (List.mem_of_getElem? (i := 51) rfl)
theorem cd_158_93 : mt_cd 158 93 = some (.iastore) := mt_cd_of (q := (93, .iastore, 1)) mq_158 ci_158 (List.mem_of_getElem? (i := 52) rfl)
theorem cd_158_94 : mt_cd 158 94 = some (.aload_n 0) := mt_cd_of (q := (94, .aload_n 0, 1)) mq_158 ci_158 (List.mem_of_getElem? (i := 53) rfl)
theorem cd_158_95 : mt_cd 158 95 = some (.invokevirtual 333) := mt_cd_of (q := (95, .invokevirtual 333, 3)) mq_158 ci_158 (List.mem_of_getElem? (i := 54) rfl)
theorem cd_158_98 : mt_cd 158 98 = some (.ifCond .eq 8) := mt_cd_of (q := (98, .ifCond .eq 8, 3)) mq_158 ci_158 (List.mem_of_getElem? (i := 55) rfl)
theorem cd_158_101 : mt_cd 158 101 = some (.iload 5) := mt_cd_of (q := (101, .iload 5, 2)) mq_158 ci_158 (List.mem_of_getElem? (i := 56) rfl)
theorem cd_158_103 : mt_cd 158 103 = some (.goto 4) := mt_cd_of (q := (103, .goto 4, 3)) mq_158 ci_158 (List.mem_of_getElem? (i := 57) rfl)
theorem cd_158_106 : mt_cd 158 106 = some (.iconst (-1)) := mt_cd_of (q := (106, .iconst (-1), 1)) mq_158 ci_158 (List.mem_of_getElem? (i := 58) rfl)
theorem cd_158_107 : mt_cd 158 107 = some (.ireturn) := mt_cd_of (q := (107, .ireturn, 1)) mq_158 ci_158 (List.mem_of_getElem? (i := 59) rfl)
theorem b_158_0 {d : Nat} {Q : (Option Value ⊕ Nat) → mi_H → Prop} (n sl : Nat) (f : Nat → mi_C) {l1 : Nat} {l2 : Nat} {l3 : Nat} {l4 : Int32} {l5 : Int32} {o6 : Option Value} {fs7 : List Value} {x10 : Int32} (h8 : f l1 = .inr (12, fs7)) (h9 : l1 < n) (h11 : fs7[8]? = some (.int x10)) (h12 : x10 = 1 → mi_W d 158 19 [some (.ref l1), some (.ref l2), some (.ref l3), some (.int l4), some (.int l5), o6] [] (n, sl, f) Q) (h13 : ¬ (x10 = 1) → mi_W d 158 8 [some (.ref l1), some (.ref l2), some (.ref l3), some (.int l4), some (.int l5), o6] [] (n, sl, f) Q) : mi_W d 158 0 [some (.ref l1), some (.ref l2), some (.ref l3), some (.int l4), some (.int l5), o6] [] (n, sl, f) Q := by
  refine w_aload_n cd_158_0 rfl ?_
  refine w_getfield cd_158_1 (show mt_f 12 310 = some (12, 8) by decide +kernel) h8 h9 h11 ?_
  refine w_iconst (v := 1) cd_158_4 (by decide) ?_
  exact w_if_icmpeq cd_158_5 (by decide) h12 h13
theorem b_158_8 {d : Nat} {Q : (Option Value ⊕ Nat) → mi_H → Prop} (n sl : Nat) (f : Nat → mi_C) {l1 : Nat} {l2 : Nat} {l3 : Nat} {l4 : Int32} {l5 : Int32} {o6 : Option Value} {fs7 : List Value} {x10 : Int32} {fs12 : List Value} (h8 : f l1 = .inr (12, fs7)) (h9 : l1 < n) (h11 : fs7[9]? = some (.int x10)) (h13 : f l1 = .inr (12, fs12)) (h14 : l1 < n) (h15 : mi_W d 141 0 (mi_en 2 [.ref l1, .int x10]) [] (n, sl, f) (mi_Kc d 158 13 [some (.ref l1), some (.ref l2), some (.ref l3), some (.int l4), some (.int l5), o6] [] Q)) : mi_W (d + 1) 158 8 [some (.ref l1), some (.ref l2), some (.ref l3), some (.int l4), some (.int l5), o6] [] (n, sl, f) Q := by
  refine w_aload_n cd_158_8 rfl ?_
  refine w_aload_n cd_158_9 rfl ?_
  refine w_getfield cd_158_10 (show mt_f 12 299 = some (12, 9) by decide +kernel) h8 h9 h11 ?_
  exact w_invokevirtual cd_158_13 (show mt_m 12 272 = some (141, 0) by decide +kernel) (rest := []) rfl (as := [.ref l1, .int x10]) rfl h13 (Or.inl h14) ⟨Nat.le_of_ble_eq_true rfl, Nat.le_of_ble_eq_true rfl, Nat.le_of_ble_eq_true rfl⟩ h15
theorem b_158_16 {d : Nat} {Q : (Option Value ⊕ Nat) → mi_H → Prop} (n sl : Nat) (f : Nat → mi_C) {l1 : Nat} {l2 : Nat} {l3 : Nat} {l4 : Int32} {l5 : Int32} {o6 : Option Value} {s7 : Int32} (h8 : Q (.inl (some (.int (-1)))) (n, sl, f)) : mi_W d 158 16 [some (.ref l1), some (.ref l2), some (.ref l3), some (.int l4), some (.int l5), o6] [.int s7] (n, sl, f) Q := by
  refine w_pop_i cd_158_16 ?_
  refine w_iconst (v := (-1)) cd_158_17 (by decide) ?_
  exact w_ireturn_i cd_158_18 (by decide +kernel) h8
theorem b_158_19 {d : Nat} {Q : (Option Value ⊕ Nat) → mi_H → Prop} (n sl : Nat) (f : Nat → mi_C) {l1 : Nat} {l2 : Nat} {l3 : Nat} {l4 : Int32} {l5 : Int32} {o6 : Option Value} (h7 : mi_W d 158 22 [some (.ref l1), some (.ref l2), some (.ref l3), some (.int l4), some (.int l5), some (.int 0)] [] (n, sl, f) Q) : mi_W d 158 19 [some (.ref l1), some (.ref l2), some (.ref l3), some (.int l4), some (.int l5), o6] [] (n, sl, f) Q := by
  refine w_iconst (v := 0) cd_158_19 (by decide) ?_
  refine w_istore (ls' := [some (.ref l1), some (.ref l2), some (.ref l3), some (.int l4), some (.int l5), some (.int 0)]) cd_158_20 (Nat.le_of_ble_eq_true rfl) rfl ?_
  exact h7
theorem b_158_22 {d : Nat} {Q : (Option Value ⊕ Nat) → mi_H → Prop} (n sl : Nat) (f : Nat → mi_C) {l1 : Nat} {l2 : Nat} {l3 : Nat} {l4 : Int32} {l5 : Int32} {l6 : Int32} (h7 : l4 ≤ l6 → mi_W d 158 49 [some (.ref l1), some (.ref l2), some (.ref l3), some (.int l4), some (.int l5), some (.int l6)] [] (n, sl, f) Q) (h8 : ¬ (l4 ≤ l6) → mi_W d 158 28 [some (.ref l1), some (.ref l2), some (.ref l3), some (.int l4), some (.int l5), some (.int l6)] [] (n, sl, f) Q) : mi_W d 158 22 [some (.ref l1), some (.ref l2), some (.ref l3), some (.int l4), some (.int l5), some (.int l6)] [] (n, sl, f) Q := by
  refine w_iload cd_158_22 rfl ?_
  refine w_iload_n cd_158_24 rfl ?_
  exact w_if_icmpge cd_158_25 (by decide) h7 h8
theorem b_158_28 {d : Nat} {Q : (Option Value ⊕ Nat) → mi_H → Prop} (n sl : Nat) (f : Nat → mi_C) {l1 : Nat} {l2 : Nat} {l3 : Nat} {l4 : Int32} {l5 : Int32} {l6 : Int32} (m7 i7 : Nat) (g7 : Nat → Int32) (m11 i11 : Nat) (g11 : Nat → Int32) {fs15 : List Value} (h8 : f l2 = .inl (0, m7, .inl g7)) (h9 : l2 < n ∨ l2 = mi_SC) (h10 : mi_ix l6 m7 i7) (h12 : f l3 = .inl (0, m11, .inl g11)) (h13 : l3 < n ∨ l3 = mi_SC) (h14 : mi_ix l6 m11 i11) (h16 : f l1 = .inr (12, fs15)) (h17 : l1 < n) (h18 : mi_W d 159 0 (mi_en 4 [.ref l1, .int (g7 i7), .int (g11 i11)]) [] (n, sl, f) (mi_Kc d 158 37 [some (.ref l1), some (.ref l2), some (.ref l3), some (.int l4), some (.int l5), some (.int l6)] [] Q)) : mi_W (d + 1) 158 28 [some (.ref l1), some (.ref l2), some (.ref l3), some (.int l4), some (.int l5), some (.int l6)] [] (n, sl, f) Q := by
  refine w_aload_n cd_158_28 rfl ?_
  refine w_aload_n cd_158_29 rfl ?_
  refine w_iload cd_158_30 rfl ?_
  refine w_iaload cd_158_32 h8 h9 h10 ?_
  refine w_aload_n cd_158_33 rfl ?_
  refine w_iload cd_158_34 rfl ?_
  refine w_iaload cd_158_36 h12 h13 h14 ?_
  exact w_invokevirtual cd_158_37 (show mt_m 12 358 = some (159, 0) by decide +kernel) (rest := []) rfl (as := [.ref l1, .int (g7 i7), .int (g11 i11)]) rfl h16 (Or.inl h17) ⟨Nat.le_of_ble_eq_true rfl, Nat.le_of_ble_eq_true rfl, Nat.le_of_ble_eq_true rfl⟩ h18
theorem b_158_40 {d : Nat} {Q : (Option Value ⊕ Nat) → mi_H → Prop} (n sl : Nat) (f : Nat → mi_C) {l1 : Nat} {l2 : Nat} {l3 : Nat} {l4 : Int32} {l5 : Int32} {l6 : Int32} {s7 : Int32} (h8 : ¬ s7 = (0 : Int32) → mi_W d 158 49 [some (.ref l1), some (.ref l2), some (.ref l3), some (.int l4), some (.int l5), some (.int l6)] [] (n, sl, f) Q) (h9 : ¬ (¬ s7 = (0 : Int32)) → mi_W d 158 43 [some (.ref l1), some (.ref l2), some (.ref l3), some (.int l4), some (.int l5), some (.int l6)] [] (n, sl, f) Q) : mi_W d 158 40 [some (.ref l1), some (.ref l2), some (.ref l3), some (.int l4), some (.int l5), some (.int l6)] [.int s7] (n, sl, f) Q := by
  exact w_ifne cd_158_40 (by decide) h8 h9
theorem b_158_43 {d : Nat} {Q : (Option Value ⊕ Nat) → mi_H → Prop} (n sl : Nat) (f : Nat → mi_C) {l1 : Nat} {l2 : Nat} {l3 : Nat} {l4 : Int32} {l5 : Int32} {l6 : Int32} (h7 : mi_W d 158 22 [some (.ref l1), some (.ref l2), some (.ref l3), some (.int l4), some (.int l5), some (.int (l6 + 1))] [] (n, sl, f) Q) : mi_W d 158 43 [some (.ref l1), some (.ref l2), some (.ref l3), some (.int l4), some (.int l5), some (.int l6)] [] (n, sl, f) Q := by
  refine w_iinc (v := 1) (ls' := [some (.ref l1), some (.ref l2), some (.ref l3), some (.int l4), some (.int l5), some (.int (l6 + 1))]) cd_158_43 rfl (by decide) rfl ?_
  exact w_goto cd_158_46 (by decide) h7
theorem b_158_49 {d : Nat} {Q : (Option Value ⊕ Nat) → mi_H → Prop} (n sl : Nat) (f : Nat → mi_C) {l1 : Nat} {l2 : Nat} {l3 : Nat} {l4 : Int32} {l5 : Int32} {l6 : Int32} (h7 : ¬ l6 = l5 → mi_W d 158 67 [some (.ref l1), some (.ref l2), some (.ref l3), some (.int l4), some (.int l5), some (.int l6)] [] (n, sl, f) Q) (h8 : ¬ (¬ l6 = l5) → mi_W d 158 56 [some (.ref l1), some (.ref l2), some (.ref l3), some (.int l4), some (.int l5), some (.int l6)] [] (n, sl, f) Q) : mi_W d 158 49 [some (.ref l1), some (.ref l2), some (.ref l3), some (.int l4), some (.int l5), some (.int l6)] [] (n, sl, f) Q := by
  refine w_iload cd_158_49 rfl ?_
  refine w_iload cd_158_51 rfl ?_
  exact w_if_icmpne cd_158_53 (by decide) h7 h8
theorem b_158_56 {d : Nat} {Q : (Option Value ⊕ Nat) → mi_H → Prop} (n sl : Nat) (f : Nat → mi_C) {l1 : Nat} {l2 : Nat} {l3 : Nat} {l4 : Int32} {l5 : Int32} {l6 : Int32} {fs7 : List Value} {x10 : Int32} {fs12 : List Value} (h8 : f l1 = .inr (12, fs7)) (h9 : l1 < n) (h11 : fs7[9]? = some (.int x10)) (h13 : f l1 = .inr (12, fs12)) (h14 : l1 < n) (h15 : mi_W d 141 0 (mi_en 2 [.ref l1, .int x10]) [] (n, sl, f) (mi_Kc d 158 61 [some (.ref l1), some (.ref l2), some (.ref l3), some (.int l4), some (.int l5), some (.int l6)] [] Q)) : mi_W (d + 1) 158 56 [some (.ref l1), some (.ref l2), some (.ref l3), some (.int l4), some (.int l5), some (.int l6)] [] (n, sl, f) Q := by
  refine w_aload_n cd_158_56 rfl ?_
  refine w_aload_n cd_158_57 rfl ?_
  refine w_getfield cd_158_58 (show mt_f 12 299 = some (12, 9) by decide +kernel) h8 h9 h11 ?_
  exact w_invokevirtual cd_158_61 (show mt_m 12 272 = some (141, 0) by decide +kernel) (rest := []) rfl (as := [.ref l1, .int x10]) rfl h13 (Or.inl h14) ⟨Nat.le_of_ble_eq_true rfl, Nat.le_of_ble_eq_true rfl, Nat.le_of_ble_eq_true rfl⟩ h15
theorem b_158_64 {d : Nat} {Q : (Option Value ⊕ Nat) → mi_H → Prop} (n sl : Nat) (f : Nat → mi_C) {l1 : Nat} {l2 : Nat} {l3 : Nat} {l4 : Int32} {l5 : Int32} {l6 : Int32} {s7 : Int32} (h8 : Q (.inl (some (.int (-1)))) (n, sl, f)) : mi_W d 158 64 [some (.ref l1), some (.ref l2), some (.ref l3), some (.int l4), some (.int l5), some (.int l6)] [.int s7] (n, sl, f) Q := by
  refine w_pop_i cd_158_64 ?_
  refine w_iconst (v := (-1)) cd_158_65 (by decide) ?_
  exact w_ireturn_i cd_158_66 (by decide +kernel) h8
theorem b_158_67 {d : Nat} {Q : (Option Value ⊕ Nat) → mi_H → Prop} (n sl : Nat) (f : Nat → mi_C) {l1 : Nat} {l2 : Nat} {l3 : Nat} {l4 : Int32} {l5 : Int32} {l6 : Int32} (h7 : ¬ l6 = l4 → mi_W d 158 94 [some (.ref l1), some (.ref l2), some (.ref l3), some (.int l4), some (.int l5), some (.int l6)] [] (n, sl, f) Q) (h8 : ¬ (¬ l6 = l4) → mi_W d 158 73 [some (.ref l1), some (.ref l2), some (.ref l3), some (.int l4), some (.int l5), some (.int l6)] [] (n, sl, f) Q) : mi_W d 158 67 [some (.ref l1), some (.ref l2), some (.ref l3), some (.int l4), some (.int l5), some (.int l6)] [] (n, sl, f) Q := by
  refine w_iload cd_158_67 rfl ?_
  refine w_iload_n cd_158_69 rfl ?_
  exact w_if_icmpne cd_158_70 (by decide) h7 h8
theorem b_158_73 {d : Nat} {Q : (Option Value ⊕ Nat) → mi_H → Prop} (n sl : Nat) (f : Nat → mi_C) {l1 : Nat} {l2 : Nat} {l3 : Nat} {l4 : Int32} {l5 : Int32} {l6 : Int32} {fs7 : List Value} {x10 : Int32} (m12 i12 : Nat) (g12 : Nat → Int32) {fs16 : List Value} {x19 : Int32} {fs21 : List Value} {x24 : Int32} (m26 i26 : Nat) (g26 : Nat → Int32) (h8 : f l1 = .inr (12, fs7)) (h9 : l1 < n) (h11 : fs7[9]? = some (.int x10)) (h13 : f l2 = .inl (0, m12, .inl g12)) (h14 : l2 < n) (h15 : mi_ix l6 m12 i12) (h17 : (va_up f l2 (.inl (0, m12, .inl (upd g12 i12 x10)))) l1 = .inr (12, fs16)) (h18 : l1 < n) (h20 : fs16[10]? = some (.int x19)) (h22 : (va_up f l2 (.inl (0, m12, .inl (upd g12 i12 x10)))) l1 = .inr (12, fs21)) (h23 : l1 < n) (h25 : fs21[9]? = some (.int x24)) (h27 : (va_up f l2 (.inl (0, m12, .inl (upd g12 i12 x10)))) l3 = .inl (0, m26, .inl g26)) (h28 : l3 < n) (h29 : mi_ix l6 m26 i26) (h30 : mi_W d 158 94 [some (.ref l1), some (.ref l2), some (.ref l3), some (.int l4), some (.int l5), some (.int l6)] [] (n, sl, (va_up (va_up f l2 (.inl (0, m12, .inl (upd g12 i12 x10)))) l3 (.inl (0, m26, .inl (upd g26 i26 (x19 - x24)))))) Q) : mi_W d 158 73 [some (.ref l1), some (.ref l2), some (.ref l3), some (.int l4), some (.int l5), some (.int l6)] [] (n, sl, f) Q := by
  refine w_aload_n cd_158_73 rfl ?_
  refine w_iload cd_158_74 rfl ?_
  refine w_aload_n cd_158_76 rfl ?_
  refine w_getfield cd_158_77 (show mt_f 12 299 = some (12, 9) by decide +kernel) h8 h9 h11 ?_
  refine w_iastore cd_158_80 h13 h14 h15 ?_
  refine w_aload_n cd_158_81 rfl ?_
  refine w_iload cd_158_82 rfl ?_
  refine w_aload_n cd_158_84 rfl ?_
  refine w_getfield cd_158_85 (show mt_f 12 297 = some (12, 10) by decide +kernel) h17 h18 h20 ?_
  refine w_aload_n cd_158_88 rfl ?_
  refine w_getfield cd_158_89 (show mt_f 12 299 = some (12, 9) by decide +kernel) h22 h23 h25 ?_
  refine w_isub cd_158_92 ?_
  refine w_iastore cd_158_93 h27 h28 h29 ?_
  exact h30
theorem b_158_94 {d : Nat} {Q : (Option Value ⊕ Nat) → mi_H → Prop} (n sl : Nat) (f : Nat → mi_C) {l1 : Nat} {l2 : Nat} {l3 : Nat} {l4 : Int32} {l5 : Int32} {l6 : Int32} {fs7 : List Value} (h8 : f l1 = .inr (12, fs7)) (h9 : l1 < n) (h10 : mi_W d 143 0 (mi_en 4 [.ref l1]) [] (n, sl, f) (mi_Kc d 158 95 [some (.ref l1), some (.ref l2), some (.ref l3), some (.int l4), some (.int l5), some (.int l6)] [] Q)) : mi_W (d + 1) 158 94 [some (.ref l1), some (.ref l2), some (.ref l3), some (.int l4), some (.int l5), some (.int l6)] [] (n, sl, f) Q := by
  refine w_aload_n cd_158_94 rfl ?_
  exact w_invokevirtual cd_158_95 (show mt_m 12 333 = some (143, 0) by decide +kernel) (rest := []) rfl (as := [.ref l1]) rfl h8 (Or.inl h9) ⟨Nat.le_of_ble_eq_true rfl, Nat.le_of_ble_eq_true rfl, Nat.le_of_ble_eq_true rfl⟩ h10
theorem b_158_98 {d : Nat} {Q : (Option Value ⊕ Nat) → mi_H → Prop} (n sl : Nat) (f : Nat → mi_C) {l1 : Nat} {l2 : Nat} {l3 : Nat} {l4 : Int32} {l5 : Int32} {l6 : Int32} {s7 : Int32} (h8 : s7 = (0 : Int32) → mi_W d 158 106 [some (.ref l1), some (.ref l2), some (.ref l3), some (.int l4), some (.int l5), some (.int l6)] [] (n, sl, f) Q) (h9 : ¬ (s7 = (0 : Int32)) → mi_W d 158 101 [some (.ref l1), some (.ref l2), some (.ref l3), some (.int l4), some (.int l5), some (.int l6)] [] (n, sl, f) Q) : mi_W d 158 98 [some (.ref l1), some (.ref l2), some (.ref l3), some (.int l4), some (.int l5), some (.int l6)] [.int s7] (n, sl, f) Q := by
  exact w_ifeq cd_158_98 (by decide) h8 h9
theorem b_158_101 {d : Nat} {Q : (Option Value ⊕ Nat) → mi_H → Prop} (n sl : Nat) (f : Nat → mi_C) {l1 : Nat} {l2 : Nat} {l3 : Nat} {l4 : Int32} {l5 : Int32} {l6 : Int32} (h7 : mi_W d 158 107 [some (.ref l1), some (.ref l2), some (.ref l3), some (.int l4), some (.int l5), some (.int l6)] [.int l6] (n, sl, f) Q) : mi_W d 158 101 [some (.ref l1), some (.ref l2), some (.ref l3), some (.int l4), some (.int l5), some (.int l6)] [] (n, sl, f) Q := by
  refine w_iload cd_158_101 rfl ?_
  exact w_goto cd_158_103 (by decide) h7
theorem b_158_106 {d : Nat} {Q : (Option Value ⊕ Nat) → mi_H → Prop} (n sl : Nat) (f : Nat → mi_C) {l1 : Nat} {l2 : Nat} {l3 : Nat} {l4 : Int32} {l5 : Int32} {l6 : Int32} (h7 : mi_W d 158 107 [some (.ref l1), some (.ref l2), some (.ref l3), some (.int l4), some (.int l5), some (.int l6)] [.int (-1)] (n, sl, f) Q) : mi_W d 158 106 [some (.ref l1), some (.ref l2), some (.ref l3), some (.int l4), some (.int l5), some (.int l6)] [] (n, sl, f) Q := by
  refine w_iconst (v := (-1)) cd_158_106 (by decide) ?_
  exact h7
theorem b_158_107 {d : Nat} {Q : (Option Value ⊕ Nat) → mi_H → Prop} (n sl : Nat) (f : Nat → mi_C) {l1 : Nat} {l2 : Nat} {l3 : Nat} {l4 : Int32} {l5 : Int32} {l6 : Int32} {s7 : Int32} (h8 : Q (.inl (some (.int s7))) (n, sl, f)) : mi_W d 158 107 [some (.ref l1), some (.ref l2), some (.ref l3), some (.int l4), some (.int l5), some (.int l6)] [.int s7] (n, sl, f) Q := by
  exact w_ireturn_i cd_158_107 (by decide +kernel) h8
/-! MarloweHostModel.same(II)Z -/
set_option maxRecDepth 100000 in
theorem mq_159 : mt_q 159 = my_159 := rfl
set_option maxRecDepth 100000 in
theorem ci_159 : mt_inc 0 my_159.cd = true := by decide +kernel
theorem cd_159_0 : mt_cd 159 0 = some (.iload_n 2) := mt_cd_of (q := (0, .iload_n 2, 1)) mq_159 ci_159 (List.mem_of_getElem? (i := 0) rfl)
theorem cd_159_1 : mt_cd 159 1 = some (.aload_n 0) := mt_cd_of (q := (1, .aload_n 0, 1)) mq_159 ci_159 (List.mem_of_getElem? (i := 1) rfl)
theorem cd_159_2 : mt_cd 159 2 = some (.getfield 297) := mt_cd_of (q := (2, .getfield 297, 3)) mq_159 ci_159 (List.mem_of_getElem? (i := 2) rfl)
theorem cd_159_5 : mt_cd 159 5 = some (.aload_n 0) := mt_cd_of (q := (5, .aload_n 0, 1)) mq_159 ci_159 (List.mem_of_getElem? (i := 3) rfl)
theorem cd_159_6 : mt_cd 159 6 = some (.getfield 299) := mt_cd_of (q := (6, .getfield 299, 3)) mq_159 ci_159 (List.mem_of_getElem? (i := 4) rfl)
theorem cd_159_9 : mt_cd 159 9 = some (.isub) := mt_cd_of (q := (9, .isub, 1)) mq_159 ci_159 (List.mem_of_getElem? (i := 5) rfl)
theorem cd_159_10 : mt_cd 159 10 = some (.if_icmp .eq 5) := mt_cd_of (q := (10, .if_icmp .eq 5, 3)) mq_159 ci_159 (List.mem_of_getElem? (i := 6) rfl)
theorem cd_159_13 : mt_cd 159 13 = some (.iconst 0) := mt_cd_of (q := (13, .iconst 0, 1)) mq_159 ci_159 (List.mem_of_getElem? (i := 7) rfl)
theorem cd_159_14 : mt_cd 159 14 = some (.ireturn) := mt_cd_of (q := (14, .ireturn, 1)) mq_159 ci_159 (List.mem_of_getElem? (i := 8) rfl)
theorem cd_159_15 : mt_cd 159 15 = some (.iconst 0) := mt_cd_of (q := (15, .iconst 0, 1)) mq_159 ci_159 (List.mem_of_getElem? (i := 9) rfl)
theorem cd_159_16 : mt_cd 159 16 = some (.istore_n 3) := mt_cd_of (q := (16, .istore_n 3, 1)) mq_159 ci_159 (List.mem_of_getElem? (i := 10) rfl)
theorem cd_159_17 : mt_cd 159 17 = some (.iload_n 3) := mt_cd_of (q := (17, .iload_n 3, 1)) mq_159 ci_159 (List.mem_of_getElem? (i := 11) rfl)
theorem cd_159_18 : mt_cd 159 18 = some (.iload_n 2) := mt_cd_of (q := (18, .iload_n 2, 1)) mq_159 ci_159 (List.mem_of_getElem? (i := 12) rfl)
theorem cd_159_19 : mt_cd 159 19 = some (.if_icmp .ge 33) := mt_cd_of (q := (19, .if_icmp .ge 33, 3)) mq_159 ci_159 (List.mem_of_getElem? (i := 13) rfl)
theorem cd_159_22 : mt_cd 159 22 = some (.aload_n 0) := mt_cd_of (q := (22, .aload_n 0, 1)) mq_159 ci_159 (List.mem_of_getElem? (i := 14) rfl)
theorem cd_159_23 : mt_cd 159 23 = some (.getfield 20) := mt_cd_of (q := (23, .getfield 20, 3)) mq_159 ci_159 (List.mem_of_getElem? (i := 15) rfl)
theorem cd_159_26 : mt_cd 159 26 = some (.iload_n 1) := mt_cd_of (q := (26, .iload_n 1, 1)) mq_159 ci_159 (List.mem_of_getElem? (i := 16) rfl)
theorem cd_159_27 : mt_cd 159 27 = some (.iload_n 3) := mt_cd_of (q := (27, .iload_n 3, 1)) mq_159 ci_159 (List.mem_of_getElem? (i := 17) rfl)
theorem cd_159_28 : mt_cd 159 28 = some (.iadd) := mt_cd_of (q := (28, .iadd, 1)) mq_159 ci_159 (List.mem_of_getElem? (i := 18) rfl)
theorem cd_159_29 : mt_cd 159 29 = some (.iaload) := mt_cd_of (q := (29, .iaload, 1)) mq_159 ci_159 (List.mem_of_getElem? (i := 19) rfl)
theorem cd_159_30 : mt_cd 159 30 = some (.aload_n 0) := mt_cd_of (q := (30, .aload_n 0, 1)) mq_159 ci_159 (List.mem_of_getElem? (i := 20) rfl)
theorem cd_159_31 : mt_cd 159 31 = some (.getfield 20) := mt_cd_of (q := (31, .getfield 20, 3)) mq_159 ci_159 (List.mem_of_getElem? (i := 21) rfl)
theorem cd_159_34 : mt_cd 159 34 = some (.aload_n 0) := mt_cd_of (q := (34, .aload_n 0, 1)) mq_159 ci_159 (List.mem_of_getElem? (i := 22) rfl)
theorem cd_159_35 : mt_cd 159 35 = some (.getfield 299) := mt_cd_of (q := (35, .getfield 299, 3)) mq_159 ci_159 (List.mem_of_getElem? (i := 23) rfl)
theorem cd_159_38 : mt_cd 159 38 = some (.iload_n 3) := mt_cd_of (q := (38, .iload_n 3, 1)) mq_159 ci_159 (List.mem_of_getElem? (i := 24) rfl)
theorem cd_159_39 : mt_cd 159 39 = some (.iadd) := mt_cd_of (q := (39, .iadd, 1)) mq_159 ci_159 (List.mem_of_getElem? (i := 25) rfl)
theorem cd_159_40 : mt_cd 159 40 = some (.iaload) := mt_cd_of (q := (40, .iaload, 1)) mq_159 ci_159 (List.mem_of_getElem? (i := 26) rfl)
theorem cd_159_41 : mt_cd 159 41 = some (.if_icmp .eq 5) := mt_cd_of (q := (41, .if_icmp .eq 5, 3)) mq_159 ci_159 (List.mem_of_getElem? (i := 27) rfl)
theorem cd_159_44 : mt_cd 159 44 = some (.iconst 0) := mt_cd_of (q := (44, .iconst 0, 1)) mq_159 ci_159 (List.mem_of_getElem? (i := 28) rfl)
theorem cd_159_45 : mt_cd 159 45 = some (.ireturn) := mt_cd_of (q := (45, .ireturn, 1)) mq_159 ci_159 (List.mem_of_getElem? (i := 29) rfl)
theorem cd_159_46 : mt_cd 159 46 = some (.iinc 3 1) := mt_cd_of (q := (46, .iinc 3 1, 3)) mq_159 ci_159 (List.mem_of_getElem? (i := 30) rfl)
theorem cd_159_49 : mt_cd 159 49 = some (.goto (-32)) := mt_cd_of (q := (49, .goto (-32), 3)) mq_159 ci_159 (List.mem_of_getElem? (i := 31) rfl)
theorem cd_159_52 : mt_cd 159 52 = some (.iconst 1) := mt_cd_of (q := (52, .iconst 1, 1)) mq_159 ci_159 (List.mem_of_getElem? (i := 32) rfl)
theorem cd_159_53 : mt_cd 159 53 = some (.ireturn) := mt_cd_of (q := (53, .ireturn, 1)) mq_159 ci_159 (List.mem_of_getElem? (i := 33) rfl)
theorem b_159_0 {d : Nat} {Q : (Option Value ⊕ Nat) → mi_H → Prop} (n sl : Nat) (f : Nat → mi_C) {l1 : Nat} {l2 : Int32} {l3 : Int32} {o4 : Option Value} {fs5 : List Value} {x8 : Int32} {fs10 : List Value} {x13 : Int32} (h6 : f l1 = .inr (12, fs5)) (h7 : l1 < n) (h9 : fs5[10]? = some (.int x8)) (h11 : f l1 = .inr (12, fs10)) (h12 : l1 < n) (h14 : fs10[9]? = some (.int x13)) (h15 : l3 = (x8 - x13) → mi_W d 159 15 [some (.ref l1), some (.int l2), some (.int l3), o4] [] (n, sl, f) Q) (h16 : ¬ (l3 = (x8 - x13)) → mi_W d 159 13 [some (.ref l1), some (.int l2), some (.int l3), o4] [] (n, sl, f) Q) : mi_W d 159 0 [some (.ref l1), some (.int l2), some (.int l3), o4] [] (n, sl, f) Q := by
  refine w_iload_n cd_159_0 rfl ?_
  refine w_aload_n cd_159_1 rfl ?_
  refine w_getfield cd_159_2 (show mt_f 12 297 = some (12, 10) by decide +kernel) h6 h7 h9 ?_
  refine w_aload_n cd_159_5 rfl ?_
  refine w_getfield cd_159_6 (show mt_f 12 299 = some (12, 9) by decide +kernel) h11 h12 h14 ?_
  refine w_isub cd_159_9 ?_
  exact w_if_icmpeq cd_159_10 (by decide) h15 h16
theorem b_159_13 {d : Nat} {Q : (Option Value ⊕ Nat) → mi_H → Prop} (n sl : Nat) (f : Nat → mi_C) {l1 : Nat} {l2 : Int32} {l3 : Int32} {o4 : Option Value} (h5 : Q (.inl (some (.int 0))) (n, sl, f)) : mi_W d 159 13 [some (.ref l1), some (.int l2), some (.int l3), o4] [] (n, sl, f) Q := by
  refine w_iconst (v := 0) cd_159_13 (by decide) ?_
  exact w_ireturn_z cd_159_14 (by decide +kernel) (by decide) h5
theorem b_159_15 {d : Nat} {Q : (Option Value ⊕ Nat) → mi_H → Prop} (n sl : Nat) (f : Nat → mi_C) {l1 : Nat} {l2 : Int32} {l3 : Int32} {o4 : Option Value} (h5 : mi_W d 159 17 [some (.ref l1), some (.int l2), some (.int l3), some (.int 0)] [] (n, sl, f) Q) : mi_W d 159 15 [some (.ref l1), some (.int l2), some (.int l3), o4] [] (n, sl, f) Q := by
  refine w_iconst (v := 0) cd_159_15 (by decide) ?_
  refine w_istore_n (ls' := [some (.ref l1), some (.int l2), some (.int l3), some (.int 0)]) cd_159_16 (Nat.le_of_ble_eq_true rfl) rfl ?_
  exact h5
theorem b_159_17 {d : Nat} {Q : (Option Value ⊕ Nat) → mi_H → Prop} (n sl : Nat) (f : Nat → mi_C) {l1 : Nat} {l2 : Int32} {l3 : Int32} {l4 : Int32} (h5 : l3 ≤ l4 → mi_W d 159 52 [some (.ref l1), some (.int l2), some (.int l3), some (.int l4)] [] (n, sl, f) Q) (h6 : ¬ (l3 ≤ l4) → mi_W d 159 22 [some (.ref l1), some (.int l2), some (.int l3), some (.int l4)] [] (n, sl, f) Q) : mi_W d 159 17 [some (.ref l1), some (.int l2), some (.int l3), some (.int l4)] [] (n, sl, f) Q := by
  refine w_iload_n cd_159_17 rfl ?_
  refine w_iload_n cd_159_18 rfl ?_
  exact w_if_icmpge cd_159_19 (by decide) h5 h6
theorem b_159_22 {d : Nat} {Q : (Option Value ⊕ Nat) → mi_H → Prop} (n sl : Nat) (f : Nat → mi_C) {l1 : Nat} {l2 : Int32} {l3 : Int32} {l4 : Int32} {fs5 : List Value} {x8 : Nat} (m10 i10 : Nat) (g10 : Nat → Int32) {fs14 : List Value} {x17 : Nat} {fs19 : List Value} {x22 : Int32} (m24 i24 : Nat) (g24 : Nat → Int32) (h6 : f l1 = .inr (12, fs5)) (h7 : l1 < n) (h9 : fs5[6]? = some (.ref x8)) (h11 : f x8 = .inl (0, m10, .inl g10)) (h12 : x8 < n ∨ x8 = mi_SC) (h13 : mi_ix (l2 + l4) m10 i10) (h15 : f l1 = .inr (12, fs14)) (h16 : l1 < n) (h18 : fs14[6]? = some (.ref x17)) (h20 : f l1 = .inr (12, fs19)) (h21 : l1 < n) (h23 : fs19[9]? = some (.int x22)) (h25 : f x17 = .inl (0, m24, .inl g24)) (h26 : x17 < n ∨ x17 = mi_SC) (h27 : mi_ix (x22 + l4) m24 i24) (h28 : (g10 i10) = (g24 i24) → mi_W d 159 46 [some (.ref l1), some (.int l2), some (.int l3), some (.int l4)] [] (n, sl, f) Q) (h29 : ¬ ((g10 i10) = (g24 i24)) → mi_W d 159 44 [some (.ref l1), some (.int l2), some (.int l3), some (.int l4)] [] (n, sl, f) Q) : mi_W d 159 22 [some (.ref l1), some (.int l2), some (.int l3), some (.int l4)] [] (n, sl, f) Q := by
  refine w_aload_n cd_159_22 rfl ?_
  refine w_getfield cd_159_23 (show mt_f 12 20 = some (12, 6) by decide +kernel) h6 h7 h9 ?_
  refine w_iload_n cd_159_26 rfl ?_
  refine w_iload_n cd_159_27 rfl ?_
  refine w_iadd cd_159_28 ?_
  refine w_iaload cd_159_29 h11 h12 h13 ?_
  refine w_aload_n cd_159_30 rfl ?_
  refine w_getfield cd_159_31 (show mt_f 12 20 = some (12, 6) by decide +kernel) h15 h16 h18 ?_
  refine w_aload_n cd_159_34 rfl ?_
  refine w_getfield cd_159_35 (show mt_f 12 299 = some (12, 9) by decide +kernel) h20 h21 h23 ?_
  refine w_iload_n cd_159_38 rfl ?_
  refine w_iadd cd_159_39 ?_
  refine w_iaload cd_159_40 h25 h26 h27 ?_
  exact w_if_icmpeq cd_159_41 (by decide) h28 h29
theorem b_159_44 {d : Nat} {Q : (Option Value ⊕ Nat) → mi_H → Prop} (n sl : Nat) (f : Nat → mi_C) {l1 : Nat} {l2 : Int32} {l3 : Int32} {l4 : Int32} (h5 : Q (.inl (some (.int 0))) (n, sl, f)) : mi_W d 159 44 [some (.ref l1), some (.int l2), some (.int l3), some (.int l4)] [] (n, sl, f) Q := by
  refine w_iconst (v := 0) cd_159_44 (by decide) ?_
  exact w_ireturn_z cd_159_45 (by decide +kernel) (by decide) h5
theorem b_159_46 {d : Nat} {Q : (Option Value ⊕ Nat) → mi_H → Prop} (n sl : Nat) (f : Nat → mi_C) {l1 : Nat} {l2 : Int32} {l3 : Int32} {l4 : Int32} (h5 : mi_W d 159 17 [some (.ref l1), some (.int l2), some (.int l3), some (.int (l4 + 1))] [] (n, sl, f) Q) : mi_W d 159 46 [some (.ref l1), some (.int l2), some (.int l3), some (.int l4)] [] (n, sl, f) Q := by
  refine w_iinc (v := 1) (ls' := [some (.ref l1), some (.int l2), some (.int l3), some (.int (l4 + 1))]) cd_159_46 rfl (by decide) rfl ?_
  exact w_goto cd_159_49 (by decide) h5
theorem b_159_52 {d : Nat} {Q : (Option Value ⊕ Nat) → mi_H → Prop} (n sl : Nat) (f : Nat → mi_C) {l1 : Nat} {l2 : Int32} {l3 : Int32} {l4 : Int32} (h5 : Q (.inl (some (.int 1))) (n, sl, f)) : mi_W d 159 52 [some (.ref l1), some (.int l2), some (.int l3), some (.int l4)] [] (n, sl, f) Q := by
  refine w_iconst (v := 1) cd_159_52 (by decide) ?_
  exact w_ireturn_z cd_159_53 (by decide +kernel) (by decide) h5
/-! MarloweHostModel.token()I -/
set_option maxRecDepth 100000 in
theorem mq_160 : mt_q 160 = my_160 := rfl
set_option maxRecDepth 100000 in
theorem ci_160 : mt_inc 0 my_160.cd = true := by decide +kernel
theorem cd_160_0 : mt_cd 160 0 = some (.aload_n 0) := mt_cd_of (q := (0, .aload_n 0, 1)) mq_160 ci_160 (List.mem_of_getElem? (i := 0) rfl)
theorem cd_160_1 : mt_cd 160 1 = some (.aload_n 0) := mt_cd_of (q := (1, .aload_n 0, 1)) mq_160 ci_160 (List.mem_of_getElem? (i := 1) rfl)
theorem cd_160_2 : mt_cd 160 2 = some (.getfield 117) := mt_cd_of (q := (2, .getfield 117, 3)) mq_160 ci_160 (List.mem_of_getElem? (i := 2) rfl)
theorem cd_160_5 : mt_cd 160 5 = some (.aload_n 0) := mt_cd_of (q := (5, .aload_n 0, 1)) mq_160 ci_160 (List.mem_of_getElem? (i := 3) rfl)
theorem cd_160_6 : mt_cd 160 6 = some (.getfield 120) := mt_cd_of (q := (6, .getfield 120, 3)) mq_160 ci_160 (List.mem_of_getElem? (i := 4) rfl)
theorem cd_160_9 : mt_cd 160 9 = some (.aload_n 0) := mt_cd_of (q := (9, .aload_n 0, 1)) mq_160 ci_160 (List.mem_of_getElem? (i := 5) rfl)
theorem cd_160_10 : mt_cd 160 10 = some (.getfield 346) := mt_cd_of (q := (10, .getfield 346, 3)) mq_160 ci_160 (List.mem_of_getElem? (i := 6) rfl)
theorem cd_160_13 : mt_cd 160 13 = some (.iconst 4) := mt_cd_of (q := (13, .iconst 4, 1)) mq_160 ci_160 (List.mem_of_getElem? (i := 7) rfl)
theorem cd_160_14 : mt_cd 160 14 = some (.invokevirtual 362) := mt_cd_of (q := (14, .invokevirtual 362, 3)) mq_160 ci_160 (List.mem_of_getElem? (i := 8) rfl)
theorem cd_160_17 : mt_cd 160 17 = some (.istore_n 1) := mt_cd_of (q := (17, .istore_n 1, 1)) mq_160 ci_160 (List.mem_of_getElem? (i := 9) rfl)
theorem cd_160_18 : mt_cd 160 18 = some (.iload_n 1) := mt_cd_of (q := (18, .iload_n 1, 1)) mq_160 ci_160 (List.mem_of_getElem? (i := 10) rfl)
theorem cd_160_19 : mt_cd 160 19 = some (.aload_n 0) := mt_cd_of (q := (19, .aload_n 0, 1)) mq_160 ci_160 (List.mem_of_getElem? (i := 11) rfl)
theorem cd_160_20 : mt_cd 160 20 = some (.getfield 346) := mt_cd_of (q := (20, .getfield 346, 3)) mq_160 ci_160 (List.mem_of_getElem? (i := 12) rfl)
theorem cd_160_23 : mt_cd 160 23 = some (.if_icmp .ne 13) := mt_cd_of (q := (23, .if_icmp .ne 13, 3)) mq_160 ci_160 (List.mem_of_getElem? (i := 13) rfl)
theorem cd_160_26 : mt_cd 160 26 = some (.aload_n 0) := mt_cd_of (q := (26, .aload_n 0, 1)) mq_160 ci_160 (List.mem_of_getElem? (i := 14) rfl)
theorem cd_160_27 : mt_cd 160 27 = some (.dup) := mt_cd_of (q := (27, .dup, 1)) mq_160 ci_160 (List.mem_of_getElem? (i := 15) rfl)
theorem cd_160_28 : mt_cd 160 28 = some (.getfield 346) := mt_cd_of (q := (28, .getfield 346, 3)) mq_160 ci_160 (List.mem_of_getElem? (i := 16) rfl)
theorem cd_160_31 : mt_cd 160 31 = some (.iconst 1) := mt_cd_of (q := (31, .iconst 1, 1)) mq_160 ci_160 (List.mem_of_getElem? (i := 17) rfl)
theorem cd_160_32 : mt_cd 160 32 = some (.iadd) := mt_cd_of (q := (32, .iadd, 1)) mq_160 ci_160 (List.mem_of_getElem? (i := 18) rfl)
theorem cd_160_33 : mt_cd 160 33 = some (.putfield 346) := mt_cd_of (q := (33, .putfield 346, 3)) mq_160 ci_160 (List.mem_of_getElem? (i := 19) rfl)
theorem cd_160_36 : mt_cd 160 36 = some (.iload_n 1) := mt_cd_of (q := (36, .iload_n 1, 1)) mq_160 ci_160 (List.mem_of_getElem? (i := 20) rfl)
theorem cd_160_37 : mt_cd 160 37 = some (.ireturn) := mt_cd_of (q := (37, .ireturn, 1)) mq_160 ci_160 (List.mem_of_getElem? (i := 21) rfl)
theorem b_160_0 {d : Nat} {Q : (Option Value ⊕ Nat) → mi_H → Prop} (n sl : Nat) (f : Nat → mi_C) {l1 : Nat} {o2 : Option Value} {fs3 : List Value} {x6 : Nat} {fs8 : List Value} {x11 : Nat} {fs13 : List Value} {x16 : Int32} {fs18 : List Value} (h4 : f l1 = .inr (12, fs3)) (h5 : l1 < n) (h7 : fs3[32]? = some (.ref x6)) (h9 : f l1 = .inr (12, fs8)) (h10 : l1 < n) (h12 : fs8[33]? = some (.ref x11)) (h14 : f l1 = .inr (12, fs13)) (h15 : l1 < n) (h17 : fs13[25]? = some (.int x16)) (h19 : f l1 = .inr (12, fs18)) (h20 : l1 < n) (h21 : mi_W d 158 0 (mi_en 6 [.ref l1, .ref x6, .ref x11, .int x16, .int 4]) [] (n, sl, f) (mi_Kc d 160 14 [some (.ref l1), o2] [] Q)) : mi_W (d + 1) 160 0 [some (.ref l1), o2] [] (n, sl, f) Q := by
  refine w_aload_n cd_160_0 rfl ?_
  refine w_aload_n cd_160_1 rfl ?_
  refine w_getfield cd_160_2 (show mt_f 12 117 = some (12, 32) by decide +kernel) h4 h5 h7 ?_
  refine w_aload_n cd_160_5 rfl ?_
  refine w_getfield cd_160_6 (show mt_f 12 120 = some (12, 33) by decide +kernel) h9 h10 h12 ?_
  refine w_aload_n cd_160_9 rfl ?_
  refine w_getfield cd_160_10 (show mt_f 12 346 = some (12, 25) by decide +kernel) h14 h15 h17 ?_
  refine w_iconst (v := 4) cd_160_13 (by decide) ?_
  exact w_invokevirtual cd_160_14 (show mt_m 12 362 = some (158, 0) by decide +kernel) (rest := []) rfl (as := [.ref l1, .ref x6, .ref x11, .int x16, .int 4]) rfl h19 (Or.inl h20) ⟨Nat.le_of_ble_eq_true rfl, Nat.le_of_ble_eq_true rfl, Nat.le_of_ble_eq_true rfl⟩ h21
theorem b_160_17 {d : Nat} {Q : (Option Value ⊕ Nat) → mi_H → Prop} (n sl : Nat) (f : Nat → mi_C) {l1 : Nat} {o2 : Option Value} {s3 : Int32} {fs4 : List Value} {x7 : Int32} (h5 : f l1 = .inr (12, fs4)) (h6 : l1 < n) (h8 : fs4[25]? = some (.int x7)) (h9 : ¬ s3 = x7 → mi_W d 160 36 [some (.ref l1), some (.int s3)] [] (n, sl, f) Q) (h10 : ¬ (¬ s3 = x7) → mi_W d 160 26 [some (.ref l1), some (.int s3)] [] (n, sl, f) Q) : mi_W d 160 17 [some (.ref l1), o2] [.int s3] (n, sl, f) Q := by
  refine w_istore_n (ls' := [some (.ref l1), some (.int s3)]) cd_160_17 (Nat.le_of_ble_eq_true rfl) rfl ?_
  refine w_iload_n cd_160_18 rfl ?_
  refine w_aload_n cd_160_19 rfl ?_
  refine w_getfield cd_160_20 (show mt_f 12 346 = some (12, 25) by decide +kernel) h5 h6 h8 ?_
  exact w_if_icmpne cd_160_23 (by decide) h9 h10
theorem b_160_26 {d : Nat} {Q : (Option Value ⊕ Nat) → mi_H → Prop} (n sl : Nat) (f : Nat → mi_C) {l1 : Nat} {l2 : Int32} {fs3 : List Value} {x6 : Int32} {fs8 : List Value} (h4 : f l1 = .inr (12, fs3)) (h5 : l1 < n) (h7 : fs3[25]? = some (.int x6)) (h9 : f l1 = .inr (12, fs8)) (h10 : l1 < n) (h11 : 25 < fs8.length) (h12 : mi_W d 160 36 [some (.ref l1), some (.int l2)] [] (n, sl, (va_up f l1 (.inr (12, fs8.set 25 (.int (x6 + 1)))))) Q) : mi_W d 160 26 [some (.ref l1), some (.int l2)] [] (n, sl, f) Q := by
  refine w_aload_n cd_160_26 rfl ?_
  refine w_dup_r cd_160_27 ?_
  refine w_getfield cd_160_28 (show mt_f 12 346 = some (12, 25) by decide +kernel) h4 h5 h7 ?_
  refine w_iconst (v := 1) cd_160_31 (by decide) ?_
  refine w_iadd cd_160_32 ?_
  refine w_putfield (w := .int (x6 + 1)) cd_160_33 (show mt_f 12 346 = some (12, 25) by decide +kernel) h9 h10 ⟨h11, rfl, Or.inl (by decide)⟩ ?_
  exact h12
theorem b_160_36 {d : Nat} {Q : (Option Value ⊕ Nat) → mi_H → Prop} (n sl : Nat) (f : Nat → mi_C) {l1 : Nat} {l2 : Int32} (h3 : Q (.inl (some (.int l2))) (n, sl, f)) : mi_W d 160 36 [some (.ref l1), some (.int l2)] [] (n, sl, f) Q := by
  refine w_iload_n cd_160_36 rfl ?_
  exact w_ireturn_i cd_160_37 (by decide +kernel) h3
/-! MarloweHostModel.number()I -/
set_option maxRecDepth 100000 in
theorem mq_161 : mt_q 161 = my_161 := rfl
set_option maxRecDepth 100000 in
theorem ci_161 : mt_inc 0 my_161.cd = true := by decide +kernel
theorem cd_161_0 : mt_cd 161 0 = some (.aload_n 0) := mt_cd_of (q := (0, .aload_n 0, 1)) mq_161 ci_161 (List.mem_append_left _ (show _ ∈ my_161_0 from List.mem_of_getElem? (i := 0) rfl))
theorem cd_161_1 : mt_cd 161 1 = some (.ldc_w 373) := mt_cd_of (q := (1, .ldc_w 373, 3)) mq_161 ci_161 (List.mem_append_left _ (show _ ∈ my_161_0 from List.mem_of_getElem? (i := 1) rfl))
theorem cd_161_4 : mt_cd 161 4 = some (.invokevirtual 375) := mt_cd_of (q := (4, .invokevirtual 375, 3)) mq_161 ci_161 (List.mem_append_left _ (show _ ∈ my_161_0 from List.mem_of_getElem? (i := 2) rfl))
theorem cd_161_7 : mt_cd 161 7 = some (.ifCond .eq 58) := mt_cd_of (q := (7, .ifCond .eq 58, 3)) mq_161 ci_161 (List.mem_append_left _ (show _ ∈ my_161_0 from List.mem_of_getElem? (i := 3) rfl))
theorem cd_161_10 : mt_cd 161 10 = some (.aload_n 0) := mt_cd_of (q := (10, .aload_n 0, 1)) mq_161 ci_161 (List.mem_append_left _ (show _ ∈ my_161_0 from List.mem_of_getElem? (i := 4) rfl))
theorem cd_161_11 : mt_cd 161 11 = some (.invokevirtual 378) := mt_cd_of (q := (11, .invokevirtual 378, 3)) mq_161 ci_161 (List.mem_append_left _ (show _ ∈ my_161_0 from List.mem_of_getElem? (i := 5) rfl))
theorem cd_161_14 : mt_cd 161 14 = some (.ifCond .eq 10) := mt_cd_of (q := (14, .ifCond .eq 10, 3)) mq_161 ci_161 (List.mem_append_left _ (show _ ∈ my_161_0 from List.mem_of_getElem? (i := 6) rfl))
theorem cd_161_17 : mt_cd 161 17 = some (.aload_n 0) := mt_cd_of (q := (17, .aload_n 0, 1)) mq_161 ci_161 (List.mem_append_left _ (show _ ∈ my_161_0 from List.mem_of_getElem? (i := 7) rfl))
theorem cd_161_18 : mt_cd 161 18 = some (.invokevirtual 333) := mt_cd_of (q := (18, .invokevirtual 333, 3)) mq_161 ci_161 (List.mem_append_left _ (show _ ∈ my_161_0 from List.mem_of_getElem? (i := 8) rfl))
theorem cd_161_21 : mt_cd 161 21 = some (.ifCond .ne 5) := mt_cd_of (q := (21, .ifCond .ne 5, 3)) mq_161 ci_161 (List.mem_append_left _ (show _ ∈ my_161_0 from List.mem_of_getElem? (i := 9) rfl))
theorem cd_161_24 : mt_cd 161 24 = some (.iconst (-1)) := mt_cd_of (q := (24, .iconst (-1), 1)) mq_161 ci_161 (List.mem_append_left _ (show _ ∈ my_161_0 from List.mem_of_getElem? (i := 10) rfl))
theorem cd_161_25 : mt_cd 161 25 = some (.ireturn) := mt_cd_of (q := (25, .ireturn, 1)) mq_161 ci_161 (List.mem_append_left _ (show _ ∈ my_161_0 from List.mem_of_getElem? (i := 11) rfl))
theorem cd_161_26 : mt_cd 161 26 = some (.aload_n 0) := mt_cd_of (q := (26, .aload_n 0, 1)) mq_161 ci_161 (List.mem_append_left _ (show _ ∈ my_161_0 from List.mem_of_getElem? (i := 12) rfl))
theorem cd_161_27 : mt_cd 161 27 = some (.invokevirtual 399) := mt_cd_of (q := (27, .invokevirtual 399, 3)) mq_161 ci_161 (List.mem_append_left _ (show _ ∈ my_161_0 from List.mem_of_getElem? (i := 13) rfl))
theorem cd_161_30 : mt_cd 161 30 = some (.istore_n 1) := mt_cd_of (q := (30, .istore_n 1, 1)) mq_161 ci_161 (List.mem_append_left _ (show _ ∈ my_161_0 from List.mem_of_getElem? (i := 14) rfl))
theorem cd_161_31 : mt_cd 161 31 = some (.aload_n 0) := mt_cd_of (q := (31, .aload_n 0, 1)) mq_161 ci_161 (List.mem_append_left _ (show _ ∈ my_161_0 from List.mem_of_getElem? (i := 15) rfl))
theorem cd_161_32 : mt_cd 161 32 = some (.dup) := mt_cd_of (q := (32, .dup, 1)) mq_161 ci_161 (List.mem_append_left _ (show _ ∈ my_161_0 from List.mem_of_getElem? (i := 16) rfl))
theorem cd_161_33 : mt_cd 161 33 = some (.getfield 337) := mt_cd_of (q := (33, .getfield 337, 3)) mq_161 ci_161 (List.mem_append_left _ (show _ ∈ my_161_0 from List.mem_of_getElem? (i := 17) rfl))
theorem cd_161_36 : mt_cd 161 36 = some (.iconst 1) := mt_cd_of (q := (36, .iconst 1, 1)) mq_161 ci_161 (List.mem_append_left _ (show _ ∈ my_161_0 from List.mem_of_getElem? (i := 18) rfl))
theorem cd_161_37 : mt_cd 161 37 = some (.isub) := mt_cd_of (q := (37, .isub, 1)) mq_161 ci_161 (List.mem_append_left _ (show _ ∈ my_161_0 from List.mem_of_getElem? (i := 19) rfl))
theorem cd_161_38 : mt_cd 161 38 = some (.putfield 337) := mt_cd_of (q := (38, .putfield 337, 3)) mq_161 ci_161 (List.mem_append_left _ (show _ ∈ my_161_0 from List.mem_of_getElem? (i := 20) rfl))
theorem cd_161_41 : mt_cd 161 41 = some (.iload_n 1) := mt_cd_of (q := (41, .iload_n 1, 1)) mq_161 ci_161 (List.mem_append_left _ (show _ ∈ my_161_0 from List.mem_of_getElem? (i := 21) rfl))
theorem cd_161_42 : mt_cd 161 42 = some (.ifCond .lt 21) := mt_cd_of (q := (42, .ifCond .lt 21, 3)) mq_161 ci_161 (List.mem_append_left _ (show _ ∈ my_161_0 from List.mem_of_getElem? (i := 22) rfl))
theorem cd_161_45 : mt_cd 161 45 = some (.aload_n 0) := mt_cd_of (q := (45, .aload_n 0, 1)) mq_161 ci_161 (List.mem_append_left _ (show _ ∈ my_161_0 from List.mem_of_getElem? (i := 23) rfl))
theorem cd_161_46 : mt_cd 161 46 = some (.aload_n 0) := mt_cd_of (q := (46, .aload_n 0, 1)) mq_161 ci_161 (List.mem_append_left _ (show _ ∈ my_161_0 from List.mem_of_getElem? (i := 24) rfl))
theorem cd_161_47 : mt_cd 161 47 = some (.ldc_w 381) := mt_cd_of (q := (47, .ldc_w 381, 3)) mq_161 ci_161 (List.mem_append_left _ (show _ ∈ my_161_0 from List.mem_of_getElem? (i := 25) rfl))
theorem cd_161_50 : mt_cd 161 50 = some (.invokevirtual 375) := mt_cd_of (q := (50, .invokevirtual 375, 3)) mq_161 ci_161 (List.mem_append_left _ (show _ ∈ my_161_0 from List.mem_of_getElem? (i := 26) rfl))
theorem cd_161_53 : mt_cd 161 53 = some (.invokevirtual 383) := mt_cd_of (q := (53, .invokevirtual 383, 3)) mq_161 ci_161 (List.mem_append_left _ (show _ ∈ my_161_0 from List.mem_of_getElem? (i := 27) rfl))
theorem cd_161_56 : mt_cd 161 56 = some (.ifCond .eq 7) := mt_cd_of (q := (56, .ifCond .eq 7, 3)) mq_161 ci_161 (List.mem_append_left _ (show _ ∈ my_161_0 from List.mem_of_getElem? (i := 28) rfl))
theorem cd_161_59 : mt_cd 161 59 = some (.iload_n 1) := mt_cd_of (q := (59, .iload_n 1, 1)) mq_161 ci_161 (List.mem_append_left _ (show _ ∈ my_161_0 from List.mem_of_getElem? (i := 29) rfl))
theorem cd_161_60 : mt_cd 161 60 = some (.goto 4) := mt_cd_of (q := (60, .goto 4, 3)) mq_161 ci_161 (List.mem_append_left _ (show _ ∈ my_161_0 from List.mem_of_getElem? (i := 30) rfl))
theorem cd_161_63 : mt_cd 161 63 = some (.iconst (-1)) := mt_cd_of (q := (63, .iconst (-1), 1)) mq_161 ci_161 (List.mem_append_left _ (show _ ∈ my_161_0 from List.mem_of_getElem? (i := 31) rfl))
theorem cd_161_64 : mt_cd 161 64 = some (.ireturn) := mt_cd_of (q := (64, .ireturn, 1)) mq_161 ci_161 (List.mem_append_left _ (show _ ∈ my_161_0 from List.mem_of_getElem? (i := 32) rfl))
theorem cd_161_65 : mt_cd 161 65 = some (.aload_n 0) := mt_cd_of (q := (65, .aload_n 0, 1)) mq_161 ci_161 (List.mem_append_left _ (show _ ∈ my_161_0 from List.mem_of_getElem? (i := 33) rfl))
theorem cd_161_66 : mt_cd 161 66 = some (.getfield 310) := mt_cd_of (q := (66, .getfield 310, 3)) mq_161 ci_161 (List.mem_append_left _ (show _ ∈ my_161_0 from List.mem_of_getElem? (i := 34) rfl))
theorem cd_161_69 : mt_cd 161 69 = some (.iconst 2) := mt_cd_of (q := (69, .iconst 2, 1)) mq_161 ci_161 (List.mem_append_left _ (show _ ∈ my_161_0 from List.mem_of_getElem? (i := 35) rfl))
theorem cd_161_70 : mt_cd 161 70 = some (.if_icmp .ne 8) := mt_cd_of (q := (70, .if_icmp .ne 8, 3)) mq_161 ci_161 (List.mem_append_left _ (show _ ∈ my_161_0 from List.mem_of_getElem? (i := 36) rfl))
theorem cd_161_73 : mt_cd 161 73 = some (.bipush 10) := mt_cd_of (q := (73, .bipush 10, 2)) mq_161 ci_161 (List.mem_append_left _ (show _ ∈ my_161_0 from List.mem_of_getElem? (i := 37) rfl))
theorem cd_161_75 : mt_cd 161 75 = some (.goto 162) := mt_cd_of (q := (75, .goto 162, 3)) mq_161 ci_161 (List.mem_append_left _ (show _ ∈ my_161_0 from List.mem_of_getElem? (i := 38) rfl))
theorem cd_161_78 : mt_cd 161 78 = some (.aload_n 0) := mt_cd_of (q := (78, .aload_n 0, 1)) mq_161 ci_161 (List.mem_append_left _ (show _ ∈ my_161_0 from List.mem_of_getElem? (i := 39) rfl))
theorem cd_161_79 : mt_cd 161 79 = some (.ldc 47) := mt_cd_of (q := (79, .ldc 47, 2)) mq_161 ci_161 (List.mem_append_left _ (show _ ∈ my_161_0 from List.mem_of_getElem? (i := 40) rfl))
theorem cd_161_81 : mt_cd 161 81 = some (.invokevirtual 387) := mt_cd_of (q := (81, .invokevirtual 387, 3)) mq_161 ci_161 (List.mem_append_left _ (show _ ∈ my_161_0 from List.mem_of_getElem? (i := 41) rfl))
theorem cd_161_84 : mt_cd 161 84 = some (.ifCond .eq 8) := mt_cd_of (q := (84, .ifCond .eq 8, 3)) mq_161 ci_161 (List.mem_append_left _ (show _ ∈ my_161_0 from List.mem_of_getElem? (i := 42) rfl))
theorem cd_161_87 : mt_cd 161 87 = some (.bipush 11) := mt_cd_of (q := (87, .bipush 11, 2)) mq_161 ci_161 (List.mem_append_left _ (show _ ∈ my_161_0 from List.mem_of_getElem? (i := 43) rfl))
theorem cd_161_89 : mt_cd 161 89 = some (.goto 148) := mt_cd_of (q := (89, .goto 148, 3)) mq_161 ci_161 (List.mem_append_left _ (show _ ∈ my_161_0 from List.mem_of_getElem? (i := 44) rfl))
theorem cd_161_92 : mt_cd 161 92 = some (.aload_n 0) := mt_cd_of (q := (92, .aload_n 0, 1)) mq_161 ci_161 (List.mem_append_left _ (show _ ∈ my_161_0 from List.mem_of_getElem? (i := 45) rfl))
theorem cd_161_93 : mt_cd 161 93 = some (.ldc 49) := mt_cd_of (q := (93, .ldc 49, 2)) mq_161 ci_161 (List.mem_append_left _ (show _ ∈ my_161_0 from List.mem_of_getElem? (i := 46) rfl))
theorem cd_161_95 : mt_cd 161 95 = some (.invokevirtual 387) := mt_cd_of (q := (95, .invokevirtual 387, 3)) mq_161 ci_161 (List.mem_append_left _ (show _ ∈ my_161_0 from List.mem_of_getElem? (i := 47) rfl))
theorem cd_161_98 : mt_cd 161 98 = some (.ifCond .eq 8) := mt_cd_of (q := (98, .ifCond .eq 8, 3)) mq_161 ci_161 (List.mem_append_left _ (show _ ∈ my_161_0 from List.mem_of_getElem? (i := 48) rfl))
theorem cd_161_101 : mt_cd 161 101 = some (.bipush 12) := mt_cd_of (q := (101, .bipush 12, 2)) mq_161 ci_161 (List.mem_append_left _ (show _ ∈ my_161_0 from List.mem_of_getElem? (i := 49) rfl))
theorem cd_161_103 : mt_cd 161 103 = some (.goto 134) := mt_cd_of (q := (103, .goto 134, 3)) mq_161 ci_161 (List.mem_append_left _ (show _ ∈ my_161_0 from List.mem_of_getElem? (i := 50) rfl))
theorem cd_161_106 : mt_cd 161 106 = some (.aload_n 0) := mt_cd_of (q := (106, .aload_n 0, 1)) mq_161 ci_161 (List.mem_append_left _ (show _ ∈ my_161_0 from List.mem_of_getElem? (i := 51) rfl))
theorem cd_161_107 : mt_cd 161 107 = some (.ldc_w 419) := mt_cd_of (q := (107, .ldc_w 419, 3)) mq_161 ci_161 (List.mem_append_left _ (show _ ∈ my_161_0 from List.mem_of_getElem? (i := 52) rfl))
theorem cd_161_110 : mt_cd 161 110 = some (.invokevirtual 375) := mt_cd_of (q := (110, .invokevirtual 375, 3)) mq_161 ci_161 (List.mem_append_left _ (show _ ∈ my_161_0 from List.mem_of_getElem? (i := 53) rfl))
theorem cd_161_113 : mt_cd 161 113 = some (.ifCond .eq 8) := mt_cd_of (q := (113, .ifCond .eq 8, 3)) mq_161 ci_161 (List.mem_append_left _ (show _ ∈ my_161_0 from List.mem_of_getElem? (i := 54) rfl))
theorem cd_161_116 : mt_cd 161 116 = some (.bipush 13) := mt_cd_of (q := (116, .bipush 13, 2)) mq_161 ci_161 (List.mem_append_left _ (show _ ∈ my_161_0 from List.mem_of_getElem? (i := 55) rfl))
theorem cd_161_118 : mt_cd 161 118 = some (.goto 119) := mt_cd_of (q := (118, .goto 119, 3)) mq_161 ci_161 (List.mem_append_left _ (show _ ∈ my_161_0 from List.mem_of_getElem? (i := 56) rfl))
theorem cd_161_121 : mt_cd 161 121 = some (.aload_n 0) := mt_cd_of (q := (121, .aload_n 0, 1)) mq_161 ci_161 (List.mem_append_left _ (show _ ∈ my_161_0 from List.mem_of_getElem? (i := 57) rfl))
theorem cd_161_122 : mt_cd 161 122 = some (.ldc_w 421) := mt_cd_of (q := (122, .ldc_w 421, 3)) mq_161 ci_161 (List.mem_append_left _ (show _ ∈ my_161_0 from List.mem_of_getElem? (i := 58) rfl))
theorem cd_161_125 : mt_cd 161 125 = some (.invokevirtual 375) := mt_cd_of (q := (125, .invokevirtual 375, 3)) mq_161 ci_161 (List.mem_append_left _ (show _ ∈ my_161_0 from List.mem_of_getElem? (i := 59) rfl))
theorem cd_161_128 : mt_cd 161 128 = some (.ifCond .eq 8) := mt_cd_of (q := (128, .ifCond .eq 8, 3)) mq_161 ci_161 (List.mem_append_right _ (List.mem_append_left _ (show _ ∈ my_161_1 from List.mem_of_getElem? (i := 0) rfl)))
theorem cd_161_131 : mt_cd 161 131 = some (.bipush 14) := mt_cd_of (q := (131, .bipush 14, 2)) mq_161 ci_161 (List.mem_append_right _ (List.mem_append_left _ (show _ ∈ my_161_1 from List.mem_of_getElem? (i := 1) rfl)))
theorem cd_161_133 : mt_cd 161 133 = some (.goto 104) := mt_cd_of (q := (133, .goto 104, 3)) mq_161 ci_161 (List.mem_append_right _ (List.mem_append_left _ (show _ ∈ my_161_1 from List.mem_of_getElem? (i := 2) rfl)))
theorem cd_161_136 : mt_cd 161 136 = some (.aload_n 0) := mt_cd_of (q := (136, .aload_n 0, 1)) mq_161 ci_161 (List.mem_append_right _ (List.mem_append_left _ (show _ ∈ my_161_1 from List.mem_of_getElem? (i := 3) rfl)))
theorem cd_161_137 : mt_cd 161 137 = some (.ldc_w 423) := mt_cd_of (q := (137, .ldc_w 423, 3)) mq_161 ci_161 (List.mem_append_right _ (List.mem_append_left _ (show _ ∈ my_161_1 from List.mem_of_getElem? (i := 4) rfl)))
theorem cd_161_140 : mt_cd 161 140 = some (.invokevirtual 375) := mt_cd_of (q := (140, .invokevirtual 375, 3)) mq_161 ci_161 (List.mem_append_right _ (List.mem_append_left _ (show _ ∈ my_161_1 from List.mem_of_getElem? (i := 5) rfl)))
theorem cd_161_143 : mt_cd 161 143 = some (.ifCond .eq 8) := mt_cd_of (q := (143, .ifCond .eq 8, 3)) mq_161 ci_161 (List.mem_append_right _ (List.mem_append_left _ (show _ ∈ my_161_1 from List.mem_of_getElem? (i := 6) rfl)))
theorem cd_161_146 : mt_cd 161 146 = some (.bipush 15) := mt_cd_of (q := (146, .bipush 15, 2)) mq_161 ci_161 (List.mem_append_right _ (List.mem_append_left _ (show _ ∈ my_161_1 from List.mem_of_getElem? (i := 7) rfl)))
theorem cd_161_148 : mt_cd 161 148 = some (.goto 89) := mt_cd_of (q := (148, .goto 89, 3)) mq_161 ci_161 (List.mem_append_right _ (List.mem_append_left _ (show _ ∈ my_161_1 from List.mem_of_getElem? (i := 8) rfl)))
theorem cd_161_151 : mt_cd 161 151 = some (.aload_n 0) := mt_cd_of (q := (151, .aload_n 0, 1)) mq_161 ci_161 (List.mem_append_right _ (List.mem_append_left _ (show _ ∈ my_161_1 from List.mem_of_getElem? (i := 9) rfl)))
theorem cd_161_152 : mt_cd 161 152 = some (.ldc_w 425) := mt_cd_of (q := (152, .ldc_w 425, 3)) mq_161 ci_161 (List.mem_append_right _ (List.mem_append_left _ (show _ ∈ my_161_1 from List.mem_of_getElem? (i := 10) rfl)))
theorem cd_161_155 : mt_cd 161 155 = some (.invokevirtual 375) := mt_cd_of (q := (155, .invokevirtual 375, 3)) mq_161 ci_161 (List.mem_append_right _ (List.mem_append_left _ (show _ ∈ my_161_1 from List.mem_of_getElem? (i := 11) rfl)))
theorem cd_161_158 : mt_cd 161 158 = some (.ifCond .eq 8) := mt_cd_of (q := (158, .ifCond .eq 8, 3)) mq_161 ci_161 (List.mem_append_right _ (List.mem_append_left _ (show _ ∈ my_161_1 from List.mem_of_getElem? (i := 12) rfl)))
theorem cd_161_161 : mt_cd 161 161 = some (.bipush 16) := mt_cd_of (q := (161, .bipush 16, 2)) mq_161 ci_161 (List.mem_append_right _ (List.mem_append_left _ (show _ ∈ my_161_1 from List.mem_of_getElem? (i := 13) rfl)))
theorem cd_161_163 : mt_cd 161 163 = some (.goto 74) := mt_cd_of (q := (163, .goto 74, 3)) mq_161 ci_161 (List.mem_append_right _ (List.mem_append_left _ (show _ ∈ my_161_1 from List.mem_of_getElem? (i := 14) rfl)))
theorem cd_161_166 : mt_cd 161 166 = some (.aload_n 0) := mt_cd_of (q := (166, .aload_n 0, 1)) mq_161 ci_161 (List.mem_append_right _ (List.mem_append_left _ (show _ ∈ my_161_1 from List.mem_of_getElem? (i := 15) rfl)))
theorem cd_161_167 : mt_cd 161 167 = some (.ldc 51) := mt_cd_of (q := (167, .ldc 51, 2)) mq_161 ci_161 (List.mem_append_right _ (List.mem_append_left _ (show _ ∈ my_161_1 from List.mem_of_getElem? (i := 16) rfl)))
theorem cd_161_169 : mt_cd 161 169 = some (.invokevirtual 387) := mt_cd_of (q := (169, .invokevirtual 387, 3)) mq_161 ci_161 (List.mem_append_right _ (List.mem_append_left _ (show _ ∈ my_161_1 from List.mem_of_getElem? (i := 17) rfl)))
theorem cd_161_172 : mt_cd 161 172 = some (.ifCond .eq 8) := mt_cd_of (q := (172, .ifCond .eq 8, 3)) mq_161 ci_161 (List.mem_append_right _ (List.mem_append_left _ (show _ ∈ my_161_1 from List.mem_of_getElem? (i := 18) rfl)))
theorem cd_161_175 : mt_cd 161 175 = some (.bipush 17) := mt_cd_of (q := (175, .bipush 17, 2)) mq_161 ci_161 (List.mem_append_right _ (List.mem_append_left _ (show _ ∈ my_161_1 from List.mem_of_getElem? (i := 19) rfl)))
theorem cd_161_177 : mt_cd 161 177 = some (.goto 60) := mt_cd_of (q := (177, .goto 60, 3)) mq_161 ci_161 (List.mem_append_right _ (List.mem_append_left _ (show _ ∈ my_161_1 from List.mem_of_getElem? (i := 20) rfl)))
theorem cd_161_180 : mt_cd 161 180 = some (.aload_n 0) := mt_cd_of (q := (180, .aload_n 0, 1)) mq_161 ci_161 (List.mem_append_right _ (List.mem_append_left _ (show _ ∈ my_161_1 from List.mem_of_getElem? (i := 21) rfl)))
theorem cd_161_181 : mt_cd 161 181 = some (.ldc 53) := mt_cd_of (q := (181, .ldc 53, 2)) mq_161 ci_161 (List.mem_append_right _ (List.mem_append_left _ (show _ ∈ my_161_1 from List.mem_of_getElem? (i := 22) rfl)))
theorem cd_161_183 : mt_cd 161 183 = some (.invokevirtual 387) := mt_cd_of (q := (183, .invokevirtual 387, 3)) mq_161 ci_161 (List.mem_append_right _ (List.mem_append_left _ (show _ ∈ my_161_1 from List.mem_of_getElem? (i := 23) rfl)))
theorem cd_161_186 : mt_cd 161 186 = some (.ifCond .eq 8) := mt_cd_of (q := (186, .ifCond .eq 8, 3)) mq_161 ci_161 (List.mem_append_right _ (List.mem_append_left _ (show _ ∈ my_161_1 from List.mem_of_getElem? (i := 24) rfl)))
theorem cd_161_189 : mt_cd 161 189 = some (.bipush 18) := mt_cd_of (q := (189, .bipush 18, 2)) mq_161 ci_161 (List.mem_append_right _ (List.mem_append_left _ (show _ ∈ my_161_1 from List.mem_of_getElem? (i := 25) rfl)))
theorem cd_161_191 : mt_cd 161 191 = some (.goto 46) := mt_cd_of (q := (191, .goto 46, 3)) mq_161 ci_161 (List.mem_append_right _ (List.mem_append_left _ (show _ ∈ my_161_1 from List.mem_of_getElem? (i := 26) rfl)))
theorem cd_161_194 : mt_cd 161 194 = some (.aload_n 0) := mt_cd_of (q := (194, .aload_n 0, 1)) mq_161 ci_161 (List.mem_append_right _ (List.mem_append_left _ (show _ ∈ my_161_1 from List.mem_of_getElem? (i := 27) rfl)))
theorem cd_161_195 : mt_cd 161 195 = some (.ldc 55) := mt_cd_of (q := (195, .ldc 55, 2)) mq_161 ci_161 (List.mem_append_right _ (List.mem_append_left _ (show _ ∈ my_161_1 from List.mem_of_getElem? (i := 28) rfl)))
theorem cd_161_197 : mt_cd 161 197 = some (.invokevirtual 387) := mt_cd_of (q := (197, .invokevirtual 387, 3)) mq_161 ci_161 (List.mem_append_right _ (List.mem_append_left _ (show _ ∈ my_161_1 from List.mem_of_getElem? (i := 29) rfl)))
theorem cd_161_200 : mt_cd 161 200 = some (.ifCond .eq 8) := mt_cd_of (q := (200, .ifCond .eq 8, 3)) mq_161 ci_161 (List.mem_append_right _ (List.mem_append_left _ (show _ ∈ my_161_1 from List.mem_of_getElem? (i := 30) rfl)))
theorem cd_161_203 : mt_cd 161 203 = some (.bipush 19) := mt_cd_of (q := (203, .bipush 19, 2)) mq_161 ci_161 (List.mem_append_right _ (List.mem_append_left _ (show _ ∈ my_161_1 from List.mem_of_getElem? (i := 31) rfl)))
theorem cd_161_205 : mt_cd 161 205 = some (.goto 32) := mt_cd_of (q := (205, .goto 32, 3)) mq_161 ci_161 (List.mem_append_right _ (List.mem_append_left _ (show _ ∈ my_161_1 from List.mem_of_getElem? (i := 32) rfl)))
theorem cd_161_208 : mt_cd 161 208 = some (.aload_n 0) := mt_cd_of (q := (208, .aload_n 0, 1)) mq_161 ci_161 (List.mem_append_right _ (List.mem_append_left _ (show _ ∈ my_161_1 from List.mem_of_getElem? (i := 33) rfl)))
theorem cd_161_209 : mt_cd 161 209 = some (.ldc 57) := mt_cd_of (q := (209, .ldc 57, 2)) mq_161 ci_161 (List.mem_append_right _ (List.mem_append_left _ (show _ ∈ my_161_1 from List.mem_of_getElem? (i := 34) rfl)))
theorem cd_161_211 : mt_cd 161 211 = some (.invokevirtual 387) := mt_cd_of (q := (211, .invokevirtual 387, 3)) mq_161 ci_161 (List.mem_append_right _ (List.mem_append_left _ (show _ ∈ my_161_1 from List.mem_of_getElem? (i := 35) rfl)))
theorem cd_161_214 : mt_cd 161 214 = some (.ifCond .eq 8) := mt_cd_of (q := (214, .ifCond .eq 8, 3)) mq_161 ci_161 (List.mem_append_right _ (List.mem_append_left _ (show _ ∈ my_161_1 from List.mem_of_getElem? (i := 36) rfl)))
theorem cd_161_217 : mt_cd 161 217 = some (.bipush 20) := mt_cd_of (q := (217, .bipush 20, 2)) mq_161 ci_161 (List.mem_append_right _ (List.mem_append_left _ (show _ ∈ my_161_1 from List.mem_of_getElem? (i := 37) rfl)))
theorem cd_161_219 : mt_cd 161 219 = some (.goto 18) := mt_cd_of (q := (219, .goto 18, 3)) mq_161 ci_161 (List.mem_append_right _ (List.mem_append_left _ (show _ ∈ my_161_1 from List.mem_of_getElem? (i := 38) rfl)))
theorem cd_161_222 : mt_cd 161 222 = some (.aload_n 0) := mt_cd_of (q := (222, .aload_n 0, 1)) mq_161 ci_161 (List.mem_append_right _ (List.mem_append_left _ (show _ ∈ my_161_1 from List.mem_of_getElem? (i := 39) rfl)))
theorem cd_161_223 : mt_cd 161 223 = some (.ldc 59) := mt_cd_of (q := (223, .ldc 59, 2)) mq_161 ci_161 (List.mem_append_right _ (List.mem_append_left _ (show _ ∈ my_161_1 from List.mem_of_getElem? (i := 40) rfl)))
theorem cd_161_225 : mt_cd 161 225 = some (.invokevirtual 387) := mt_cd_of (q := (225, .invokevirtual 387, 3)) mq_161 ci_161 (List.mem_append_right _ (List.mem_append_left _ (show _ ∈ my_161_1 from List.mem_of_getElem? (i := 41) rfl)))
theorem cd_161_228 : mt_cd 161 228 = some (.ifCond .eq 8) := mt_cd_of (q := (228, .ifCond .eq 8, 3)) mq_161 ci_161 (List.mem_append_right _ (List.mem_append_left _ (show _ ∈ my_161_1 from List.mem_of_getElem? (i := 42) rfl)))
theorem cd_161_231 : mt_cd 161 231 = some (.bipush 21) := mt_cd_of (q := (231, .bipush 21, 2)) mq_161 ci_161 (List.mem_append_right _ (List.mem_append_left _ (show _ ∈ my_161_1 from List.mem_of_getElem? (i := 43) rfl)))
theorem cd_161_233 : mt_cd 161 233 = some (.goto 4) := mt_cd_of (q := (233, .goto 4, 3)) mq_161 ci_161 (List.mem_append_right _ (List.mem_append_left _ (show _ ∈ my_161_1 from List.mem_of_getElem? (i := 44) rfl)))
theorem cd_161_236 : mt_cd 161 236 = some (.iconst (-1)) := mt_cd_of (q := (236, .iconst (-1), 1)) mq_161 ci_161 (List.mem_append_right _ (List.mem_append_left _ (show _ ∈ my_161_1 from List.mem_of_getElem? (i := 45) rfl)))
theorem cd_161_237 : mt_cd 161 237 = some (.istore_n 1) := mt_cd_of (q := (237, .istore_n 1, 1)) mq_161 ci_161 (List.mem_append_right _ (List.mem_append_left _ (show _ ∈ my_161_1 from List.mem_of_getElem? (i := 46) rfl)))
theorem cd_161_238 : mt_cd 161 238 = some (.iload_n 1) := mt_cd_of (q := (238, .iload_n 1, 1)) mq_161 ci_161 (List.mem_append_right _ (List.mem_append_left _ (show _ ∈ my_161_1 from List.mem_of_getElem? (i := 47) rfl)))
theorem cd_161_239 : mt_cd 161 239 = some (.ifCond .ge 14) := mt_cd_of (q := (239, .ifCond .ge 14, 3)) mq_161 ci_161 (List.mem_append_right _ (List.mem_append_left _ (show _ ∈ my_161_1 from List.mem_of_getElem? (i := 48) rfl)))
theorem cd_161_242 : mt_cd 161 242 = some (.aload_n 0) := mt_cd_of (q := (242, .aload_n 0, 1)) mq_161 ci_161 (List.mem_append_right _ (List.mem_append_left _ (show _ ∈ my_161_1 from List.mem_of_getElem? (i := 49) rfl)))
theorem cd_161_243 : mt_cd 161 243 = some (.aload_n 0) := mt_cd_of (q := (243, .aload_n 0, 1)) mq_161 ci_161 (List.mem_append_right _ (List.mem_append_left _ (show _ ∈ my_161_1 from List.mem_of_getElem? (i := 50) rfl)))
theorem cd_161_244 : mt_cd 161 244 = some (.getfield 299) := mt_cd_of (q := (244, .getfield 299, 3)) mq_161 ci_161 (List.mem_append_right _ (List.mem_append_left _ (show _ ∈ my_161_1 from List.mem_of_getElem? (i := 51) rfl)))
theorem cd_161_247 : mt_cd 161 247 = some (.invokevirtual 272) := mt_cd_of (q := (247, .invokevirtual 272, 3)) mq_161 ci_161 (List.mem_append_right _ (List.mem_append_left _ (show _ ∈ my_161_1 from List.mem_of_getElem? (i := 52) rfl)))
theorem cd_161_250 : mt_cd 161 250 = some (.pop) := mt_cd_of (q := (250, .pop, 1)) mq_161 ci_161 (List.mem_append_right _ (List.mem_append_left _ (show _ ∈ my_161_1 from List.mem_of_getElem? (i := 53) rfl)))
theorem cd_161_251 : mt_cd 161 251 = some (.iconst (-1)) := mt_cd_of (q := (251, .iconst (-1), 1)) mq_161 ci_161 (List.mem_append_right _ (List.mem_append_left _ (show _ ∈ my_161_1 from List.mem_of_getElem? (i := 54) rfl)))
theorem cd_161_252 : mt_cd 161 252 = some (.ireturn) := mt_cd_of (q := (252, .ireturn, 1)) mq_161 ci_161 (List.mem_append_right _ (List.mem_append_left _ (show _ ∈ my_161_1 from List.mem_of_getElem? (i := 55) rfl)))
theorem cd_161_253 : mt_cd 161 253 = some (.aload_n 0) := mt_cd_of (q := (253, .aload_n 0, 1)) mq_161 ci_161 (List.mem_append_right _ (List.mem_append_left _ (show _ ∈ my_161_1 from List.mem_of_getElem? (i := 56) rfl)))
theorem cd_161_254 : mt_cd 161 254 = some (.invokevirtual 378) := mt_cd_of (q := (254, .invokevirtual 378, 3)) mq_161 ci_161 (List.mem_append_right _ (List.mem_append_left _ (show _ ∈ my_161_1 from List.mem_of_getElem? (i := 57) rfl)))
theorem cd_161_257 : mt_cd 161 257 = some (.ifCond .ne 5) := mt_cd_of (q := (257, .ifCond .ne 5, 3)) mq_161 ci_161 (List.mem_append_right _ (List.mem_append_left _ (show _ ∈ my_161_1 from List.mem_of_getElem? (i := 58) rfl)))
theorem cd_161_260 : mt_cd 161 260 = some (.iconst (-1)) := mt_cd_of (q := (260, .iconst (-1), 1)) mq_161 ci_161 (List.mem_append_right _ (List.mem_append_left _ (show _ ∈ my_161_1 from List.mem_of_getElem? (i := 59) rfl)))
theorem cd_161_261 : mt_cd 161 261 = some (.ireturn) := mt_cd_of (q := (261, .ireturn, 1)) mq_161 ci_161 (List.mem_append_right _ (List.mem_append_right _ (List.mem_append_left _ (show _ ∈ my_161_2 from List.mem_of_getElem? (i := 0) rfl))))
theorem cd_161_262 : mt_cd 161 262 = some (.aload_n 0) := mt_cd_of (q := (262, .aload_n 0, 1)) mq_161 ci_161 (List.mem_append_right _ (List.mem_append_right _ (List.mem_append_left _ (show _ ∈ my_161_2 from List.mem_of_getElem? (i := 1) rfl))))
theorem cd_161_263 : mt_cd 161 263 = some (.iload_n 1) := mt_cd_of (q := (263, .iload_n 1, 1)) mq_161 ci_161 (List.mem_append_right _ (List.mem_append_right _ (List.mem_append_left _ (show _ ∈ my_161_2 from List.mem_of_getElem? (i := 2) rfl))))
theorem cd_161_264 : mt_cd 161 264 = some (.invokevirtual 390) := mt_cd_of (q := (264, .invokevirtual 390, 3)) mq_161 ci_161 (List.mem_append_right _ (List.mem_append_right _ (List.mem_append_left _ (show _ ∈ my_161_2 from List.mem_of_getElem? (i := 3) rfl))))
theorem cd_161_267 : mt_cd 161 267 = some (.istore_n 2) := mt_cd_of (q := (267, .istore_n 2, 1)) mq_161 ci_161 (List.mem_append_right _ (List.mem_append_right _ (List.mem_append_left _ (show _ ∈ my_161_2 from List.mem_of_getElem? (i := 4) rfl))))
theorem cd_161_268 : mt_cd 161 268 = some (.iload_n 2) := mt_cd_of (q := (268, .iload_n 2, 1)) mq_161 ci_161 (List.mem_append_right _ (List.mem_append_right _ (List.mem_append_left _ (show _ ∈ my_161_2 from List.mem_of_getElem? (i := 5) rfl))))
theorem cd_161_269 : mt_cd 161 269 = some (.ifCond .lt 13) := mt_cd_of (q := (269, .ifCond .lt 13, 3)) mq_161 ci_161 (List.mem_append_right _ (List.mem_append_right _ (List.mem_append_left _ (show _ ∈ my_161_2 from List.mem_of_getElem? (i := 6) rfl))))
theorem cd_161_272 : mt_cd 161 272 = some (.aload_n 0) := mt_cd_of (q := (272, .aload_n 0, 1)) mq_161 ci_161 (List.mem_append_right _ (List.mem_append_right _ (List.mem_append_left _ (show _ ∈ my_161_2 from List.mem_of_getElem? (i := 7) rfl))))
theorem cd_161_273 : mt_cd 161 273 = some (.getfield 101) := mt_cd_of (q := (273, .getfield 101, 3)) mq_161 ci_161 (List.mem_append_right _ (List.mem_append_right _ (List.mem_append_left _ (show _ ∈ my_161_2 from List.mem_of_getElem? (i := 8) rfl))))
theorem cd_161_276 : mt_cd 161 276 = some (.iload_n 2) := mt_cd_of (q := (276, .iload_n 2, 1)) mq_161 ci_161 (List.mem_append_right _ (List.mem_append_right _ (List.mem_append_left _ (show _ ∈ my_161_2 from List.mem_of_getElem? (i := 9) rfl))))
theorem cd_161_277 : mt_cd 161 277 = some (.aload_n 0) := mt_cd_of (q := (277, .aload_n 0, 1)) mq_161 ci_161 (List.mem_append_right _ (List.mem_append_right _ (List.mem_append_left _ (show _ ∈ my_161_2 from List.mem_of_getElem? (i := 10) rfl))))
theorem cd_161_278 : mt_cd 161 278 = some (.getfield 327) := mt_cd_of (q := (278, .getfield 327, 3)) mq_161 ci_161 (List.mem_append_right _ (List.mem_append_right _ (List.mem_append_left _ (show _ ∈ my_161_2 from List.mem_of_getElem? (i := 11) rfl))))
theorem cd_161_281 : mt_cd 161 281 = some (.lastore) := mt_cd_of (q := (281, .lastore, 1)) mq_161 ci_161 (List.mem_append_right _ (List.mem_append_right _ (List.mem_append_left _ (show _ ∈ my_161_2 from List.mem_of_getElem? (i := 12) rfl))))
theorem cd_161_282 : mt_cd 161 282 = some (.iload_n 2) := mt_cd_of (q := (282, .iload_n 2, 1)) mq_161 ci_161 (List.mem_append_right _ (List.mem_append_right _ (List.mem_append_left _ (show _ ∈ my_161_2 from List.mem_of_getElem? (i := 13) rfl))))
theorem cd_161_283 : mt_cd 161 283 = some (.ifCond .lt 14) := mt_cd_of (q := (283, .ifCond .lt 14, 3)) mq_161 ci_161 (List.mem_append_right _ (List.mem_append_right _ (List.mem_append_left _ (show _ ∈ my_161_2 from List.mem_of_getElem? (i := 14) rfl))))
theorem cd_161_286 : mt_cd 161 286 = some (.aload_n 0) := mt_cd_of (q := (286, .aload_n 0, 1)) mq_161 ci_161 (List.mem_append_right _ (List.mem_append_right _ (List.mem_append_left _ (show _ ∈ my_161_2 from List.mem_of_getElem? (i := 15) rfl))))
theorem cd_161_287 : mt_cd 161 287 = some (.invokevirtual 333) := mt_cd_of (q := (287, .invokevirtual 333, 3)) mq_161 ci_161 (List.mem_append_right _ (List.mem_append_right _ (List.mem_append_left _ (show _ ∈ my_161_2 from List.mem_of_getElem? (i := 16) rfl))))
theorem cd_161_290 : mt_cd 161 290 = some (.ifCond .eq 7) := mt_cd_of (q := (290, .ifCond .eq 7, 3)) mq_161 ci_161 (List.mem_append_right _ (List.mem_append_right _ (List.mem_append_left _ (show _ ∈ my_161_2 from List.mem_of_getElem? (i := 17) rfl))))
theorem cd_161_293 : mt_cd 161 293 = some (.iconst 1) := mt_cd_of (q := (293, .iconst 1, 1)) mq_161 ci_161 (List.mem_append_right _ (List.mem_append_right _ (List.mem_append_left _ (show _ ∈ my_161_2 from List.mem_of_getElem? (i := 18) rfl))))
theorem cd_161_294 : mt_cd 161 294 = some (.goto 4) := mt_cd_of (q := (294, .goto 4, 3)) mq_161 ci_161 (List.mem_append_right _ (List.mem_append_right _ (List.mem_append_left _ (show _ ∈ my_161_2 from List.mem_of_getElem? (i := 19) rfl))))
theorem cd_161_297 : mt_cd 161 297 = some (.iconst 0) := mt_cd_of (q := (297, .iconst 0, 1)) mq_161 ci_161 (List.mem_append_right _ (List.mem_append_right _ (List.mem_append_left _ (show _ ∈ my_161_2 from List.mem_of_getElem? (i := 20) rfl))))
theorem cd_161_298 : mt_cd 161 298 = some (.istore_n 3) := mt_cd_of (q := (298, .istore_n 3, 1)) mq_161 ci_161 (List.mem_append_right _ (List.mem_append_right _ (List.mem_append_left _ (show _ ∈ my_161_2 from List.mem_of_getElem? (i := 21) rfl))))
theorem cd_161_299 : mt_cd 161 299 = some (.iload_n 3) := mt_cd_of (q := (299, .iload_n 3, 1)) mq_161 ci_161 (List.mem_append_right _ (List.mem_append_right _ (List.mem_append_left _ (show _ ∈ my_161_2 from List.mem_of_getElem? (i := 22) rfl))))
theorem cd_161_300 : mt_cd 161 300 = some (.ifCond .eq 258) := mt_cd_of (q := (300, .ifCond .eq 258, 3)) mq_161 ci_161 (List.mem_append_right _ (List.mem_append_right _ (List.mem_append_left _ (show _ ∈ my_161_2 from List.mem_of_getElem? (i := 23) rfl))))
theorem cd_161_303 : mt_cd 161 303 = some (.iload_n 1) := mt_cd_of (q := (303, .iload_n 1, 1)) mq_161 ci_161 (List.mem_append_right _ (List.mem_append_right _ (List.mem_append_left _ (show _ ∈ my_161_2 from List.mem_of_getElem? (i := 24) rfl))))
theorem cd_161_304 : mt_cd 161 304 = some (.tableswitch 254 11 21 #[60, 97, 120, 120, 120, 120, 157, 180, 254, 254, 203]) := mt_cd_of (q := (304, .tableswitch 254 11 21 #[60, 97, 120, 120, 120, 120, 157, 180, 254, 254, 203], 60)) mq_161 ci_161 (List.mem_append_right _ (List.mem_append_right _ (List.mem_append_left _ (show _ ∈ my_161_2 from List.mem_of_getElem? (i := 25) rfl))))
theorem cd_161_364 : mt_cd 161 364 = some (.aload_n 0) := mt_cd_of (q := (364, .aload_n 0, 1)) mq_161 ci_161 (List.mem_append_right _ (List.mem_append_right _ (List.mem_append_left _ (show _ ∈ my_161_2 from List.mem_of_getElem? (i := 26) rfl))))
theorem cd_161_365 : mt_cd 161 365 = some (.getfield 80) := mt_cd_of (q := (365, .getfield 80, 3)) mq_161 ci_161 (List.mem_append_right _ (List.mem_append_right _ (List.mem_append_left _ (show _ ∈ my_161_2 from List.mem_of_getElem? (i := 27) rfl))))
theorem cd_161_368 : mt_cd 161 368 = some (.iload_n 2) := mt_cd_of (q := (368, .iload_n 2, 1)) mq_161 ci_161 (List.mem_append_right _ (List.mem_append_right _ (List.mem_append_left _ (show _ ∈ my_161_2 from List.mem_of_getElem? (i := 28) rfl))))
theorem cd_161_369 : mt_cd 161 369 = some (.aload_n 0) := mt_cd_of (q := (369, .aload_n 0, 1)) mq_161 ci_161 (List.mem_append_right _ (List.mem_append_right _ (List.mem_append_left _ (show _ ∈ my_161_2 from List.mem_of_getElem? (i := 29) rfl))))
theorem cd_161_370 : mt_cd 161 370 = some (.invokevirtual 370) := mt_cd_of (q := (370, .invokevirtual 370, 3)) mq_161 ci_161 (List.mem_append_right _ (List.mem_append_right _ (List.mem_append_left _ (show _ ∈ my_161_2 from List.mem_of_getElem? (i := 30) rfl))))
theorem cd_161_373 : mt_cd 161 373 = some (.dup_x2) := mt_cd_of (q := (373, .dup_x2, 1)) mq_161 ci_161 (List.mem_append_right _ (List.mem_append_right _ (List.mem_append_left _ (show _ ∈ my_161_2 from List.mem_of_getElem? (i := 31) rfl))))
theorem cd_161_374 : mt_cd 161 374 = some (.iastore) := mt_cd_of (q := (374, .iastore, 1)) mq_161 ci_161 (List.mem_append_right _ (List.mem_append_right _ (List.mem_append_left _ (show _ ∈ my_161_2 from List.mem_of_getElem? (i := 32) rfl))))
theorem cd_161_375 : mt_cd 161 375 = some (.ifCond .lt 21) := mt_cd_of (q := (375, .ifCond .lt 21, 3)) mq_161 ci_161 (List.mem_append_right _ (List.mem_append_right _ (List.mem_append_left _ (show _ ∈ my_161_2 from List.mem_of_getElem? (i := 33) rfl))))
theorem cd_161_378 : mt_cd 161 378 = some (.aload_n 0) := mt_cd_of (q := (378, .aload_n 0, 1)) mq_161 ci_161 (List.mem_append_right _ (List.mem_append_right _ (List.mem_append_left _ (show _ ∈ my_161_2 from List.mem_of_getElem? (i := 34) rfl))))
theorem cd_161_379 : mt_cd 161 379 = some (.getfield 86) := mt_cd_of (q := (379, .getfield 86, 3)) mq_161 ci_161 (List.mem_append_right _ (List.mem_append_right _ (List.mem_append_left _ (show _ ∈ my_161_2 from List.mem_of_getElem? (i := 35) rfl))))
theorem cd_161_382 : mt_cd 161 382 = some (.iload_n 2) := mt_cd_of (q := (382, .iload_n 2, 1)) mq_161 ci_161 (List.mem_append_right _ (List.mem_append_right _ (List.mem_append_left _ (show _ ∈ my_161_2 from List.mem_of_getElem? (i := 36) rfl))))
theorem cd_161_383 : mt_cd 161 383 = some (.aload_n 0) := mt_cd_of (q := (383, .aload_n 0, 1)) mq_161 ci_161 (List.mem_append_right _ (List.mem_append_right _ (List.mem_append_left _ (show _ ∈ my_161_2 from List.mem_of_getElem? (i := 37) rfl))))
theorem cd_161_384 : mt_cd 161 384 = some (.invokevirtual 396) := mt_cd_of (q := (384, .invokevirtual 396, 3)) mq_161 ci_161 (List.mem_append_right _ (List.mem_append_right _ (List.mem_append_left _ (show _ ∈ my_161_2 from List.mem_of_getElem? (i := 38) rfl))))
theorem cd_161_387 : mt_cd 161 387 = some (.dup_x2) := mt_cd_of (q := (387, .dup_x2, 1)) mq_161 ci_161 (List.mem_append_right _ (List.mem_append_right _ (List.mem_append_left _ (show _ ∈ my_161_2 from List.mem_of_getElem? (i := 39) rfl))))
theorem cd_161_388 : mt_cd 161 388 = some (.iastore) := mt_cd_of (q := (388, .iastore, 1)) mq_161 ci_161 (List.mem_append_right _ (List.mem_append_right _ (List.mem_append_left _ (show _ ∈ my_161_2 from List.mem_of_getElem? (i := 40) rfl))))
theorem cd_161_389 : mt_cd 161 389 = some (.ifCond .lt 7) := mt_cd_of (q := (389, .ifCond .lt 7, 3)) mq_161 ci_161 (List.mem_append_right _ (List.mem_append_right _ (List.mem_append_left _ (show _ ∈ my_161_2 from List.mem_of_getElem? (i := 41) rfl))))
theorem cd_161_392 : mt_cd 161 392 = some (.iconst 1) := mt_cd_of (q := (392, .iconst 1, 1)) mq_161 ci_161 (List.mem_append_right _ (List.mem_append_right _ (List.mem_append_left _ (show _ ∈ my_161_2 from List.mem_of_getElem? (i := 42) rfl))))
theorem cd_161_393 : mt_cd 161 393 = some (.goto 4) := mt_cd_of (q := (393, .goto 4, 3)) mq_161 ci_161 (List.mem_append_right _ (List.mem_append_right _ (List.mem_append_left _ (show _ ∈ my_161_2 from List.mem_of_getElem? (i := 43) rfl))))
theorem cd_161_396 : mt_cd 161 396 = some (.iconst 0) := mt_cd_of (q := (396, .iconst 0, 1)) mq_161 ci_161 (List.mem_append_right _ (List.mem_append_right _ (List.mem_append_left _ (show _ ∈ my_161_2 from List.mem_of_getElem? (i := 44) rfl))))
theorem cd_161_397 : mt_cd 161 397 = some (.istore_n 3) := mt_cd_of (q := (397, .istore_n 3, 1)) mq_161 ci_161 (List.mem_append_right _ (List.mem_append_right _ (List.mem_append_left _ (show _ ∈ my_161_2 from List.mem_of_getElem? (i := 45) rfl))))
theorem cd_161_398 : mt_cd 161 398 = some (.goto 160) := mt_cd_of (q := (398, .goto 160, 3)) mq_161 ci_161 (List.mem_append_right _ (List.mem_append_right _ (List.mem_append_left _ (show _ ∈ my_161_2 from List.mem_of_getElem? (i := 46) rfl))))
theorem cd_161_401 : mt_cd 161 401 = some (.aload_n 0) := mt_cd_of (q := (401, .aload_n 0, 1)) mq_161 ci_161 (List.mem_append_right _ (List.mem_append_right _ (List.mem_append_left _ (show _ ∈ my_161_2 from List.mem_of_getElem? (i := 47) rfl))))
theorem cd_161_402 : mt_cd 161 402 = some (.getfield 80) := mt_cd_of (q := (402, .getfield 80, 3)) mq_161 ci_161 (List.mem_append_right _ (List.mem_append_right _ (List.mem_append_left _ (show _ ∈ my_161_2 from List.mem_of_getElem? (i := 48) rfl))))
theorem cd_161_405 : mt_cd 161 405 = some (.iload_n 2) := mt_cd_of (q := (405, .iload_n 2, 1)) mq_161 ci_161 (List.mem_append_right _ (List.mem_append_right _ (List.mem_append_left _ (show _ ∈ my_161_2 from List.mem_of_getElem? (i := 49) rfl))))
theorem cd_161_406 : mt_cd 161 406 = some (.aload_n 0) := mt_cd_of (q := (406, .aload_n 0, 1)) mq_161 ci_161 (List.mem_append_right _ (List.mem_append_right _ (List.mem_append_left _ (show _ ∈ my_161_2 from List.mem_of_getElem? (i := 50) rfl))))
theorem cd_161_407 : mt_cd 161 407 = some (.invokevirtual 399) := mt_cd_of (q := (407, .invokevirtual 399, 3)) mq_161 ci_161 (List.mem_append_right _ (List.mem_append_right _ (List.mem_append_left _ (show _ ∈ my_161_2 from List.mem_of_getElem? (i := 51) rfl))))
theorem cd_161_410 : mt_cd 161 410 = some (.dup_x2) := mt_cd_of (q := (410, .dup_x2, 1)) mq_161 ci_161 (List.mem_append_right _ (List.mem_append_right _ (List.mem_append_left _ (show _ ∈ my_161_2 from List.mem_of_getElem? (i := 52) rfl))))
theorem cd_161_411 : mt_cd 161 411 = some (.iastore) := mt_cd_of (q := (411, .iastore, 1)) mq_161 ci_161 (List.mem_append_right _ (List.mem_append_right _ (List.mem_append_left _ (show _ ∈ my_161_2 from List.mem_of_getElem? (i := 53) rfl))))
theorem cd_161_412 : mt_cd 161 412 = some (.ifCond .lt 7) := mt_cd_of (q := (412, .ifCond .lt 7, 3)) mq_161 ci_161 (List.mem_append_right _ (List.mem_append_right _ (List.mem_append_left _ (show _ ∈ my_161_2 from List.mem_of_getElem? (i := 54) rfl))))
theorem cd_161_415 : mt_cd 161 415 = some (.iconst 1) := mt_cd_of (q := (415, .iconst 1, 1)) mq_161 ci_161 (List.mem_append_right _ (List.mem_append_right _ (List.mem_append_left _ (show _ ∈ my_161_2 from List.mem_of_getElem? (i := 55) rfl))))
theorem cd_161_416 : mt_cd 161 416 = some (.goto 4) := mt_cd_of (q := (416, .goto 4, 3)) mq_161 ci_161 (List.mem_append_right _ (List.mem_append_right _ (List.mem_append_left _ (show _ ∈ my_161_2 from List.mem_of_getElem? (i := 56) rfl))))
theorem cd_161_419 : mt_cd 161 419 = some (.iconst 0) := mt_cd_of (q := (419, .iconst 0, 1)) mq_161 ci_161 (List.mem_append_right _ (List.mem_append_right _ (List.mem_append_left _ (show _ ∈ my_161_2 from List.mem_of_getElem? (i := 57) rfl))))
theorem cd_161_420 : mt_cd 161 420 = some (.istore_n 3) := mt_cd_of (q := (420, .istore_n 3, 1)) mq_161 ci_161 (List.mem_append_right _ (List.mem_append_right _ (List.mem_append_left _ (show _ ∈ my_161_2 from List.mem_of_getElem? (i := 58) rfl))))
theorem cd_161_421 : mt_cd 161 421 = some (.goto 137) := mt_cd_of (q := (421, .goto 137, 3)) mq_161 ci_161 (List.mem_append_right _ (List.mem_append_right _ (List.mem_append_left _ (show _ ∈ my_161_2 from List.mem_of_getElem? (i := 59) rfl))))
theorem cd_161_424 : mt_cd 161 424 = some (.aload_n 0) := mt_cd_of (q := (424, .aload_n 0, 1)) mq_161 ci_161 (List.mem_append_right _ (List.mem_append_right _ (List.mem_append_right _ (List.mem_append_left _ (show _ ∈ my_161_3 from List.mem_of_getElem? (i := 0) rfl)))))
theorem cd_161_425 : mt_cd 161 425 = some (.getfield 80) := mt_cd_of (q := (425, .getfield 80, 3)) mq_161 ci_161 (List.mem_append_right _ (List.mem_append_right _ (List.mem_append_right _ (List.mem_append_left _ (show _ ∈ my_161_3 from List.mem_of_getElem? (i := 1) rfl)))))
theorem cd_161_428 : mt_cd 161 428 = some (.iload_n 2) := mt_cd_of (q := (428, .iload_n 2, 1)) mq_161 ci_161 (List.mem_append_right _ (List.mem_append_right _ (List.mem_append_right _ (List.mem_append_left _ (show _ ∈ my_161_3 from List.mem_of_getElem? (i := 2) rfl)))))
theorem cd_161_429 : mt_cd 161 429 = some (.aload_n 0) := mt_cd_of (q := (429, .aload_n 0, 1)) mq_161 ci_161 (List.mem_append_right _ (List.mem_append_right _ (List.mem_append_right _ (List.mem_append_left _ (show _ ∈ my_161_3 from List.mem_of_getElem? (i := 3) rfl)))))
theorem cd_161_430 : mt_cd 161 430 = some (.invokevirtual 399) := mt_cd_of (q := (430, .invokevirtual 399, 3)) mq_161 ci_161 (List.mem_append_right _ (List.mem_append_right _ (List.mem_append_right _ (List.mem_append_left _ (show _ ∈ my_161_3 from List.mem_of_getElem? (i := 4) rfl)))))
theorem cd_161_433 : mt_cd 161 433 = some (.dup_x2) := mt_cd_of (q := (433, .dup_x2, 1)) mq_161 ci_161 (List.mem_append_right _ (List.mem_append_right _ (List.mem_append_right _ (List.mem_append_left _ (show _ ∈ my_161_3 from List.mem_of_getElem? (i := 5) rfl)))))
theorem cd_161_434 : mt_cd 161 434 = some (.iastore) := mt_cd_of (q := (434, .iastore, 1)) mq_161 ci_161 (List.mem_append_right _ (List.mem_append_right _ (List.mem_append_right _ (List.mem_append_left _ (show _ ∈ my_161_3 from List.mem_of_getElem? (i := 6) rfl)))))
theorem cd_161_435 : mt_cd 161 435 = some (.ifCond .lt 21) := mt_cd_of (q := (435, .ifCond .lt 21, 3)) mq_161 ci_161 (List.mem_append_right _ (List.mem_append_right _ (List.mem_append_right _ (List.mem_append_left _ (show _ ∈ my_161_3 from List.mem_of_getElem? (i := 7) rfl)))))
theorem cd_161_438 : mt_cd 161 438 = some (.aload_n 0) := mt_cd_of (q := (438, .aload_n 0, 1)) mq_161 ci_161 (List.mem_append_right _ (List.mem_append_right _ (List.mem_append_right _ (List.mem_append_left _ (show _ ∈ my_161_3 from List.mem_of_getElem? (i := 8) rfl)))))
theorem cd_161_439 : mt_cd 161 439 = some (.getfield 83) := mt_cd_of (q := (439, .getfield 83, 3)) mq_161 ci_161 (List.mem_append_right _ (List.mem_append_right _ (List.mem_append_right _ (List.mem_append_left _ (show _ ∈ my_161_3 from List.mem_of_getElem? (i := 9) rfl)))))
theorem cd_161_442 : mt_cd 161 442 = some (.iload_n 2) := mt_cd_of (q := (442, .iload_n 2, 1)) mq_161 ci_161 (List.mem_append_right _ (List.mem_append_right _ (List.mem_append_right _ (List.mem_append_left _ (show _ ∈ my_161_3 from List.mem_of_getElem? (i := 10) rfl)))))
theorem cd_161_443 : mt_cd 161 443 = some (.aload_n 0) := mt_cd_of (q := (443, .aload_n 0, 1)) mq_161 ci_161 (List.mem_append_right _ (List.mem_append_right _ (List.mem_append_right _ (List.mem_append_left _ (show _ ∈ my_161_3 from List.mem_of_getElem? (i := 11) rfl)))))
theorem cd_161_444 : mt_cd 161 444 = some (.invokevirtual 399) := mt_cd_of (q := (444, .invokevirtual 399, 3)) mq_161 ci_161 (List.mem_append_right _ (List.mem_append_right _ (List.mem_append_right _ (List.mem_append_left _ (show _ ∈ my_161_3 from List.mem_of_getElem? (i := 12) rfl)))))
theorem cd_161_447 : mt_cd 161 447 = some (.dup_x2) := mt_cd_of (q := (447, .dup_x2, 1)) mq_161 ci_161 (List.mem_append_right _ (List.mem_append_right _ (List.mem_append_right _ (List.mem_append_left _ (show _ ∈ my_161_3 from List.mem_of_getElem? (i := 13) rfl)))))
theorem cd_161_448 : mt_cd 161 448 = some (.iastore) := mt_cd_of (q := (448, .iastore, 1)) mq_161 ci_161 (List.mem_append_right _ (List.mem_append_right _ (List.mem_append_right _ (List.mem_append_left _ (show _ ∈ my_161_3 from List.mem_of_getElem? (i := 14) rfl)))))
theorem cd_161_449 : mt_cd 161 449 = some (.ifCond .lt 7) := mt_cd_of (q := (449, .ifCond .lt 7, 3)) mq_161 ci_161 (List.mem_append_right _ (List.mem_append_right _ (List.mem_append_right _ (List.mem_append_left _ (show _ ∈ my_161_3 from List.mem_of_getElem? (i := 15) rfl)))))
theorem cd_161_452 : mt_cd 161 452 = some (.iconst 1) := mt_cd_of (q := (452, .iconst 1, 1)) mq_161 ci_161 (List.mem_append_right _ (List.mem_append_right _ (List.mem_append_right _ (List.mem_append_left _ (show _ ∈ my_161_3 from List.mem_of_getElem? (i := 16) rfl)))))
theorem cd_161_453 : mt_cd 161 453 = some (.goto 4) := mt_cd_of (q := (453, .goto 4, 3)) mq_161 ci_161 (List.mem_append_right _ (List.mem_append_right _ (List.mem_append_right _ (List.mem_append_left _ (show _ ∈ my_161_3 from List.mem_of_getElem? (i := 17) rfl)))))
theorem cd_161_456 : mt_cd 161 456 = some (.iconst 0) := mt_cd_of (q := (456, .iconst 0, 1)) mq_161 ci_161 (List.mem_append_right _ (List.mem_append_right _ (List.mem_append_right _ (List.mem_append_left _ (show _ ∈ my_161_3 from List.mem_of_getElem? (i := 18) rfl)))))
theorem cd_161_457 : mt_cd 161 457 = some (.istore_n 3) := mt_cd_of (q := (457, .istore_n 3, 1)) mq_161 ci_161 (List.mem_append_right _ (List.mem_append_right _ (List.mem_append_right _ (List.mem_append_left _ (show _ ∈ my_161_3 from List.mem_of_getElem? (i := 19) rfl)))))
theorem cd_161_458 : mt_cd 161 458 = some (.goto 100) := mt_cd_of (q := (458, .goto 100, 3)) mq_161 ci_161 (List.mem_append_right _ (List.mem_append_right _ (List.mem_append_right _ (List.mem_append_left _ (show _ ∈ my_161_3 from List.mem_of_getElem? (i := 20) rfl)))))
theorem cd_161_461 : mt_cd 161 461 = some (.aload_n 0) := mt_cd_of (q := (461, .aload_n 0, 1)) mq_161 ci_161 (List.mem_append_right _ (List.mem_append_right _ (List.mem_append_right _ (List.mem_append_left _ (show _ ∈ my_161_3 from List.mem_of_getElem? (i := 21) rfl)))))
theorem cd_161_462 : mt_cd 161 462 = some (.getfield 80) := mt_cd_of (q := (462, .getfield 80, 3)) mq_161 ci_161 (List.mem_append_right _ (List.mem_append_right _ (List.mem_append_right _ (List.mem_append_left _ (show _ ∈ my_161_3 from List.mem_of_getElem? (i := 22) rfl)))))
theorem cd_161_465 : mt_cd 161 465 = some (.iload_n 2) := mt_cd_of (q := (465, .iload_n 2, 1)) mq_161 ci_161 (List.mem_append_right _ (List.mem_append_right _ (List.mem_append_right _ (List.mem_append_left _ (show _ ∈ my_161_3 from List.mem_of_getElem? (i := 23) rfl)))))
theorem cd_161_466 : mt_cd 161 466 = some (.aload_n 0) := mt_cd_of (q := (466, .aload_n 0, 1)) mq_161 ci_161 (List.mem_append_right _ (List.mem_append_right _ (List.mem_append_right _ (List.mem_append_left _ (show _ ∈ my_161_3 from List.mem_of_getElem? (i := 24) rfl)))))
theorem cd_161_467 : mt_cd 161 467 = some (.invokevirtual 416) := mt_cd_of (q := (467, .invokevirtual 416, 3)) mq_161 ci_161 (List.mem_append_right _ (List.mem_append_right _ (List.mem_append_right _ (List.mem_append_left _ (show _ ∈ my_161_3 from List.mem_of_getElem? (i := 25) rfl)))))
theorem cd_161_470 : mt_cd 161 470 = some (.dup_x2) := mt_cd_of (q := (470, .dup_x2, 1)) mq_161 ci_161 (List.mem_append_right _ (List.mem_append_right _ (List.mem_append_right _ (List.mem_append_left _ (show _ ∈ my_161_3 from List.mem_of_getElem? (i := 26) rfl)))))
theorem cd_161_471 : mt_cd 161 471 = some (.iastore) := mt_cd_of (q := (471, .iastore, 1)) mq_161 ci_161 (List.mem_append_right _ (List.mem_append_right _ (List.mem_append_right _ (List.mem_append_left _ (show _ ∈ my_161_3 from List.mem_of_getElem? (i := 27) rfl)))))
theorem cd_161_472 : mt_cd 161 472 = some (.ifCond .lt 7) := mt_cd_of (q := (472, .ifCond .lt 7, 3)) mq_161 ci_161 (List.mem_append_right _ (List.mem_append_right _ (List.mem_append_right _ (List.mem_append_left _ (show _ ∈ my_161_3 from List.mem_of_getElem? (i := 28) rfl)))))
theorem cd_161_475 : mt_cd 161 475 = some (.iconst 1) := mt_cd_of (q := (475, .iconst 1, 1)) mq_161 ci_161 (List.mem_append_right _ (List.mem_append_right _ (List.mem_append_right _ (List.mem_append_left _ (show _ ∈ my_161_3 from List.mem_of_getElem? (i := 29) rfl)))))
theorem cd_161_476 : mt_cd 161 476 = some (.goto 4) := mt_cd_of (q := (476, .goto 4, 3)) mq_161 ci_161 (List.mem_append_right _ (List.mem_append_right _ (List.mem_append_right _ (List.mem_append_left _ (show _ ∈ my_161_3 from List.mem_of_getElem? (i := 30) rfl)))))
theorem cd_161_479 : mt_cd 161 479 = some (.iconst 0) := mt_cd_of (q := (479, .iconst 0, 1)) mq_161 ci_161 (List.mem_append_right _ (List.mem_append_right _ (List.mem_append_right _ (List.mem_append_left _ (show _ ∈ my_161_3 from List.mem_of_getElem? (i := 31) rfl)))))
theorem cd_161_480 : mt_cd 161 480 = some (.istore_n 3) := mt_cd_of (q := (480, .istore_n 3, 1)) mq_161 ci_161 (List.mem_append_right _ (List.mem_append_right _ (List.mem_append_right _ (List.mem_append_left _ (show _ ∈ my_161_3 from List.mem_of_getElem? (i := 32) rfl)))))
theorem cd_161_481 : mt_cd 161 481 = some (.goto 77) := mt_cd_of (q := (481, .goto 77, 3)) mq_161 ci_161 (List.mem_append_right _ (List.mem_append_right _ (List.mem_append_right _ (List.mem_append_left _ (show _ ∈ my_161_3 from List.mem_of_getElem? (i := 33) rfl)))))
theorem cd_161_484 : mt_cd 161 484 = some (.aload_n 0) := mt_cd_of (q := (484, .aload_n 0, 1)) mq_161 ci_161 (List.mem_append_right _ (List.mem_append_right _ (List.mem_append_right _ (List.mem_append_left _ (show _ ∈ my_161_3 from List.mem_of_getElem? (i := 34) rfl)))))
theorem cd_161_485 : mt_cd 161 485 = some (.getfield 80) := mt_cd_of (q := (485, .getfield 80, 3)) mq_161 ci_161 (List.mem_append_right _ (List.mem_append_right _ (List.mem_append_right _ (List.mem_append_left _ (show _ ∈ my_161_3 from List.mem_of_getElem? (i := 35) rfl)))))
theorem cd_161_488 : mt_cd 161 488 = some (.iload_n 2) := mt_cd_of (q := (488, .iload_n 2, 1)) mq_161 ci_161 (List.mem_append_right _ (List.mem_append_right _ (List.mem_append_right _ (List.mem_append_left _ (show _ ∈ my_161_3 from List.mem_of_getElem? (i := 36) rfl)))))
theorem cd_161_489 : mt_cd 161 489 = some (.aload_n 0) := mt_cd_of (q := (489, .aload_n 0, 1)) mq_161 ci_161 (List.mem_append_right _ (List.mem_append_right _ (List.mem_append_right _ (List.mem_append_left _ (show _ ∈ my_161_3 from List.mem_of_getElem? (i := 37) rfl)))))
theorem cd_161_490 : mt_cd 161 490 = some (.invokevirtual 406) := mt_cd_of (q := (490, .invokevirtual 406, 3)) mq_161 ci_161 (List.mem_append_right _ (List.mem_append_right _ (List.mem_append_right _ (List.mem_append_left _ (show _ ∈ my_161_3 from List.mem_of_getElem? (i := 38) rfl)))))
theorem cd_161_493 : mt_cd 161 493 = some (.dup_x2) := mt_cd_of (q := (493, .dup_x2, 1)) mq_161 ci_161 (List.mem_append_right _ (List.mem_append_right _ (List.mem_append_right _ (List.mem_append_left _ (show _ ∈ my_161_3 from List.mem_of_getElem? (i := 39) rfl)))))
theorem cd_161_494 : mt_cd 161 494 = some (.iastore) := mt_cd_of (q := (494, .iastore, 1)) mq_161 ci_161 (List.mem_append_right _ (List.mem_append_right _ (List.mem_append_right _ (List.mem_append_left _ (show _ ∈ my_161_3 from List.mem_of_getElem? (i := 40) rfl)))))
theorem cd_161_495 : mt_cd 161 495 = some (.ifCond .lt 7) := mt_cd_of (q := (495, .ifCond .lt 7, 3)) mq_161 ci_161 (List.mem_append_right _ (List.mem_append_right _ (List.mem_append_right _ (List.mem_append_left _ (show _ ∈ my_161_3 from List.mem_of_getElem? (i := 41) rfl)))))
theorem cd_161_498 : mt_cd 161 498 = some (.iconst 1) := mt_cd_of (q := (498, .iconst 1, 1)) mq_161 ci_161 (List.mem_append_right _ (List.mem_append_right _ (List.mem_append_right _ (List.mem_append_left _ (show _ ∈ my_161_3 from List.mem_of_getElem? (i := 42) rfl)))))
theorem cd_161_499 : mt_cd 161 499 = some (.goto 4) := mt_cd_of (q := (499, .goto 4, 3)) mq_161 ci_161 (List.mem_append_right _ (List.mem_append_right _ (List.mem_append_right _ (List.mem_append_left _ (show _ ∈ my_161_3 from List.mem_of_getElem? (i := 43) rfl)))))
theorem cd_161_502 : mt_cd 161 502 = some (.iconst 0) := mt_cd_of (q := (502, .iconst 0, 1)) mq_161 ci_161 (List.mem_append_right _ (List.mem_append_right _ (List.mem_append_right _ (List.mem_append_left _ (show _ ∈ my_161_3 from List.mem_of_getElem? (i := 44) rfl)))))
theorem cd_161_503 : mt_cd 161 503 = some (.istore_n 3) := mt_cd_of (q := (503, .istore_n 3, 1)) mq_161 ci_161 (List.mem_append_right _ (List.mem_append_right _ (List.mem_append_right _ (List.mem_append_left _ (show _ ∈ my_161_3 from List.mem_of_getElem? (i := 45) rfl)))))
theorem cd_161_504 : mt_cd 161 504 = some (.goto 54) := mt_cd_of (q := (504, .goto 54, 3)) mq_161 ci_161 (List.mem_append_right _ (List.mem_append_right _ (List.mem_append_right _ (List.mem_append_left _ (show _ ∈ my_161_3 from List.mem_of_getElem? (i := 46) rfl)))))
theorem cd_161_507 : mt_cd 161 507 = some (.aload_n 0) := mt_cd_of (q := (507, .aload_n 0, 1)) mq_161 ci_161 (List.mem_append_right _ (List.mem_append_right _ (List.mem_append_right _ (List.mem_append_left _ (show _ ∈ my_161_3 from List.mem_of_getElem? (i := 47) rfl)))))
theorem cd_161_508 : mt_cd 161 508 = some (.getfield 89) := mt_cd_of (q := (508, .getfield 89, 3)) mq_161 ci_161 (List.mem_append_right _ (List.mem_append_right _ (List.mem_append_right _ (List.mem_append_left _ (show _ ∈ my_161_3 from List.mem_of_getElem? (i := 48) rfl)))))
theorem cd_161_511 : mt_cd 161 511 = some (.iload_n 2) := mt_cd_of (q := (511, .iload_n 2, 1)) mq_161 ci_161 (List.mem_append_right _ (List.mem_append_right _ (List.mem_append_right _ (List.mem_append_left _ (show _ ∈ my_161_3 from List.mem_of_getElem? (i := 49) rfl)))))
theorem cd_161_512 : mt_cd 161 512 = some (.aload_n 0) := mt_cd_of (q := (512, .aload_n 0, 1)) mq_161 ci_161 (List.mem_append_right _ (List.mem_append_right _ (List.mem_append_right _ (List.mem_append_left _ (show _ ∈ my_161_3 from List.mem_of_getElem? (i := 50) rfl)))))
theorem cd_161_513 : mt_cd 161 513 = some (.invokevirtual 401) := mt_cd_of (q := (513, .invokevirtual 401, 3)) mq_161 ci_161 (List.mem_append_right _ (List.mem_append_right _ (List.mem_append_right _ (List.mem_append_left _ (show _ ∈ my_161_3 from List.mem_of_getElem? (i := 51) rfl)))))
theorem cd_161_516 : mt_cd 161 516 = some (.dup_x2) := mt_cd_of (q := (516, .dup_x2, 1)) mq_161 ci_161 (List.mem_append_right _ (List.mem_append_right _ (List.mem_append_right _ (List.mem_append_left _ (show _ ∈ my_161_3 from List.mem_of_getElem? (i := 52) rfl)))))
theorem cd_161_517 : mt_cd 161 517 = some (.iastore) := mt_cd_of (q := (517, .iastore, 1)) mq_161 ci_161 (List.mem_append_right _ (List.mem_append_right _ (List.mem_append_right _ (List.mem_append_left _ (show _ ∈ my_161_3 from List.mem_of_getElem? (i := 53) rfl)))))
theorem cd_161_518 : mt_cd 161 518 = some (.ifCond .lt 35) := mt_cd_of (q := (518, .ifCond .lt 35, 3)) mq_161 ci_161 (List.mem_append_right _ (List.mem_append_right _ (List.mem_append_right _ (List.mem_append_left _ (show _ ∈ my_161_3 from List.mem_of_getElem? (i := 54) rfl)))))
theorem cd_161_521 : mt_cd 161 521 = some (.aload_n 0) := mt_cd_of (q := (521, .aload_n 0, 1)) mq_161 ci_161 (List.mem_append_right _ (List.mem_append_right _ (List.mem_append_right _ (List.mem_append_left _ (show _ ∈ my_161_3 from List.mem_of_getElem? (i := 55) rfl)))))
theorem cd_161_522 : mt_cd 161 522 = some (.getfield 80) := mt_cd_of (q := (522, .getfield 80, 3)) mq_161 ci_161 (List.mem_append_right _ (List.mem_append_right _ (List.mem_append_right _ (List.mem_append_left _ (show _ ∈ my_161_3 from List.mem_of_getElem? (i := 56) rfl)))))
theorem cd_161_525 : mt_cd 161 525 = some (.iload_n 2) := mt_cd_of (q := (525, .iload_n 2, 1)) mq_161 ci_161 (List.mem_append_right _ (List.mem_append_right _ (List.mem_append_right _ (List.mem_append_left _ (show _ ∈ my_161_3 from List.mem_of_getElem? (i := 57) rfl)))))
theorem cd_161_526 : mt_cd 161 526 = some (.aload_n 0) := mt_cd_of (q := (526, .aload_n 0, 1)) mq_161 ci_161 (List.mem_append_right _ (List.mem_append_right _ (List.mem_append_right _ (List.mem_append_left _ (show _ ∈ my_161_3 from List.mem_of_getElem? (i := 58) rfl)))))
theorem cd_161_527 : mt_cd 161 527 = some (.invokevirtual 399) := mt_cd_of (q := (527, .invokevirtual 399, 3)) mq_161 ci_161 (List.mem_append_right _ (List.mem_append_right _ (List.mem_append_right _ (List.mem_append_left _ (show _ ∈ my_161_3 from List.mem_of_getElem? (i := 59) rfl)))))
theorem cd_161_530 : mt_cd 161 530 = some (.dup_x2) := mt_cd_of (q := (530, .dup_x2, 1)) mq_161 ci_161 (List.mem_append_right _ (List.mem_append_right _ (List.mem_append_right _ (List.mem_append_right _ ((show _ ∈ my_161_4 from List.mem_of_getElem? (i := 0) rfl))))))
theorem cd_161_531 : mt_cd 161 531 = some (.iastore) := mt_cd_of (q := (531, .iastore, 1)) mq_161 ci_161 (List.mem_append_right _ (List.mem_append_right _ (List.mem_append_right _ (List.mem_append_right _ ((show _ ∈ my_161_4 from List.mem_of_getElem? (i := 1) rfl))))))
theorem cd_161_532 : mt_cd 161 532 = some (.ifCond .lt 21) := mt_cd_of (q := (532, .ifCond .lt 21, 3)) mq_161 ci_161 (List.mem_append_right _ (List.mem_append_right _ (List.mem_append_right _ (List.mem_append_right _ ((show _ ∈ my_161_4 from List.mem_of_getElem? (i := 2) rfl))))))
theorem cd_161_535 : mt_cd 161 535 = some (.aload_n 0) := mt_cd_of (q := (535, .aload_n 0, 1)) mq_161 ci_161 (List.mem_append_right _ (List.mem_append_right _ (List.mem_append_right _ (List.mem_append_right _ ((show _ ∈ my_161_4 from List.mem_of_getElem? (i := 3) rfl))))))
theorem cd_161_536 : mt_cd 161 536 = some (.getfield 83) := mt_cd_of (q := (536, .getfield 83, 3)) mq_161 ci_161 (List.mem_append_right _ (List.mem_append_right _ (List.mem_append_right _ (List.mem_append_right _ ((show _ ∈ my_161_4 from List.mem_of_getElem? (i := 4) rfl))))))
theorem cd_161_539 : mt_cd 161 539 = some (.iload_n 2) := mt_cd_of (q := (539, .iload_n 2, 1)) mq_161 ci_161 (List.mem_append_right _ (List.mem_append_right _ (List.mem_append_right _ (List.mem_append_right _ ((show _ ∈ my_161_4 from List.mem_of_getElem? (i := 5) rfl))))))
theorem cd_161_540 : mt_cd 161 540 = some (.aload_n 0) := mt_cd_of (q := (540, .aload_n 0, 1)) mq_161 ci_161 (List.mem_append_right _ (List.mem_append_right _ (List.mem_append_right _ (List.mem_append_right _ ((show _ ∈ my_161_4 from List.mem_of_getElem? (i := 6) rfl))))))
theorem cd_161_541 : mt_cd 161 541 = some (.invokevirtual 399) := mt_cd_of (q := (541, .invokevirtual 399, 3)) mq_161 ci_161 (List.mem_append_right _ (List.mem_append_right _ (List.mem_append_right _ (List.mem_append_right _ ((show _ ∈ my_161_4 from List.mem_of_getElem? (i := 7) rfl))))))
theorem cd_161_544 : mt_cd 161 544 = some (.dup_x2) := mt_cd_of (q := (544, .dup_x2, 1)) mq_161 ci_161 (List.mem_append_right _ (List.mem_append_right _ (List.mem_append_right _ (List.mem_append_right _ ((show _ ∈ my_161_4 from List.mem_of_getElem? (i := 8) rfl))))))
theorem cd_161_545 : mt_cd 161 545 = some (.iastore) := mt_cd_of (q := (545, .iastore, 1)) mq_161 ci_161 (List.mem_append_right _ (List.mem_append_right _ (List.mem_append_right _ (List.mem_append_right _ ((show _ ∈ my_161_4 from List.mem_of_getElem? (i := 9) rfl))))))
theorem cd_161_546 : mt_cd 161 546 = some (.ifCond .lt 7) := mt_cd_of (q := (546, .ifCond .lt 7, 3)) mq_161 ci_161 (List.mem_append_right _ (List.mem_append_right _ (List.mem_append_right _ (List.mem_append_right _ ((show _ ∈ my_161_4 from List.mem_of_getElem? (i := 10) rfl))))))
theorem cd_161_549 : mt_cd 161 549 = some (.iconst 1) := mt_cd_of (q := (549, .iconst 1, 1)) mq_161 ci_161 (List.mem_append_right _ (List.mem_append_right _ (List.mem_append_right _ (List.mem_append_right _ ((show _ ∈ my_161_4 from List.mem_of_getElem? (i := 11) rfl))))))
theorem cd_161_550 : mt_cd 161 550 = some (.goto 4) := mt_cd_of (q := (550, .goto 4, 3)) mq_161 ci_161 (List.mem_append_right _ (List.mem_append_right _ (List.mem_append_right _ (List.mem_append_right _ ((show _ ∈ my_161_4 from List.mem_of_getElem? (i := 12) rfl))))))
theorem cd_161_553 : mt_cd 161 553 = some (.iconst 0) := mt_cd_of (q := (553, .iconst 0, 1)) mq_161 ci_161 (List.mem_append_right _ (List.mem_append_right _ (List.mem_append_right _ (List.mem_append_right _ ((show _ ∈ my_161_4 from List.mem_of_getElem? (i := 13) rfl))))))
theorem cd_161_554 : mt_cd 161 554 = some (.istore_n 3) := mt_cd_of (q := (554, .istore_n 3, 1)) mq_161 ci_161 (List.mem_append_right _ (List.mem_append_right _ (List.mem_append_right _ (List.mem_append_right _ ((show _ ∈ my_161_4 from List.mem_of_getElem? (i := 14) rfl))))))
theorem cd_161_555 : mt_cd 161 555 = some (.goto 3) := mt_cd_of (q := (555, .goto 3, 3)) mq_161 ci_161 (List.mem_append_right _ (List.mem_append_right _ (List.mem_append_right _ (List.mem_append_right _ ((show _ ∈ my_161_4 from List.mem_of_getElem? (i := 15) rfl))))))
theorem cd_161_558 : mt_cd 161 558 = some (.aload_n 0) := mt_cd_of (q := (558, .aload_n 0, 1)) mq_161 ci_161 (List.mem_append_right _ (List.mem_append_right _ (List.mem_append_right _ (List.mem_append_right _ ((show _ ∈ my_161_4 from List.mem_of_getElem? (i := 16) rfl))))))
theorem cd_161_559 : mt_cd 161 559 = some (.dup) := mt_cd_of (q := (559, .dup, 1)) mq_161 ci_161 (List.mem_append_right _ (List.mem_append_right _ (List.mem_append_right _ (List.mem_append_right _ ((show _ ∈ my_161_4 from List.mem_of_getElem? (i := 17) rfl))))))
theorem cd_161_560 : mt_cd 161 560 = some (.getfield 337) := mt_cd_of (q := (560, .getfield 337, 3)) mq_161 ci_161 (List.mem_append_right _ (List.mem_append_right _ (List.mem_append_right _ (List.mem_append_right _ ((show _ ∈ my_161_4 from List.mem_of_getElem? (i := 18) rfl))))))
theorem cd_161_563 : mt_cd 161 563 = some (.iconst 1) := mt_cd_of (q := (563, .iconst 1, 1)) mq_161 ci_161 (List.mem_append_right _ (List.mem_append_right _ (List.mem_append_right _ (List.mem_append_right _ ((show _ ∈ my_161_4 from List.mem_of_getElem? (i := 19) rfl))))))
theorem cd_161_564 : mt_cd 161 564 = some (.isub) := mt_cd_of (q := (564, .isub, 1)) mq_161 ci_161 (List.mem_append_right _ (List.mem_append_right _ (List.mem_append_right _ (List.mem_append_right _ ((show _ ∈ my_161_4 from List.mem_of_getElem? (i := 20) rfl))))))
theorem cd_161_565 : mt_cd 161 565 = some (.putfield 337) := mt_cd_of (q := (565, .putfield 337, 3)) mq_161 ci_161 (List.mem_append_right _ (List.mem_append_right _ (List.mem_append_right _ (List.mem_append_right _ ((show _ ∈ my_161_4 from List.mem_of_getElem? (i := 21) rfl))))))
theorem cd_161_568 : mt_cd 161 568 = some (.iload_n 3) := mt_cd_of (q := (568, .iload_n 3, 1)) mq_161 ci_161 (List.mem_append_right _ (List.mem_append_right _ (List.mem_append_right _ (List.mem_append_right _ ((show _ ∈ my_161_4 from List.mem_of_getElem? (i := 22) rfl))))))
theorem cd_161_569 : mt_cd 161 569 = some (.ifCond .eq 7) := mt_cd_of (q := (569, .ifCond .eq 7, 3)) mq_161 ci_161 (List.mem_append_right _ (List.mem_append_right _ (List.mem_append_right _ (List.mem_append_right _ ((show _ ∈ my_161_4 from List.mem_of_getElem? (i := 23) rfl))))))
theorem cd_161_572 : mt_cd 161 572 = some (.iload_n 2) := mt_cd_of (q := (572, .iload_n 2, 1)) mq_161 ci_161 (List.mem_append_right _ (List.mem_append_right _ (List.mem_append_right _ (List.mem_append_right _ ((show _ ∈ my_161_4 from List.mem_of_getElem? (i := 24) rfl))))))
theorem cd_161_573 : mt_cd 161 573 = some (.goto 4) := mt_cd_of (q := (573, .goto 4, 3)) mq_161 ci_161 (List.mem_append_right _ (List.mem_append_right _ (List.mem_append_right _ (List.mem_append_right _ ((show _ ∈ my_161_4 from List.mem_of_getElem? (i := 25) rfl))))))
theorem cd_161_576 : mt_cd 161 576 = some (.iconst (-1)) := mt_cd_of (q := (576, .iconst (-1), 1)) mq_161 ci_161 (List.mem_append_right _ (List.mem_append_right _ (List.mem_append_right _ (List.mem_append_right _ ((show _ ∈ my_161_4 from List.mem_of_getElem? (i := 26) rfl))))))
theorem cd_161_577 : mt_cd 161 577 = some (.ireturn) := mt_cd_of (q := (577, .ireturn, 1)) mq_161 ci_161 (List.mem_append_right _ (List.mem_append_right _ (List.mem_append_right _ (List.mem_append_right _ ((show _ ∈ my_161_4 from List.mem_of_getElem? (i := 27) rfl))))))
theorem b_161_0 {d : Nat} {Q : (Option Value ⊕ Nat) → mi_H → Prop} (n sl : Nat) (f : Nat → mi_C) {l1 : Nat} {o2 : Option Value} {o3 : Option Value} {o4 : Option Value} {fs5 : List Value} (h6 : f l1 = .inr (12, fs5)) (h7 : l1 < n) (h8 : mi_W d 151 0 (mi_en 2 [.ref l1, .ref (mi_SC + 1 + 2 * 40)]) [] (n, sl, f) (mi_Kc d 161 4 [some (.ref l1), o2, o3, o4] [] Q)) : mi_W (d + 1) 161 0 [some (.ref l1), o2, o3, o4] [] (n, sl, f) Q := by
  refine w_aload_n cd_161_0 rfl ?_
  refine w_ldc_w (n := 40) cd_161_1 (by decide +kernel) ?_
  exact w_invokevirtual cd_161_4 (show mt_m 12 375 = some (151, 0) by decide +kernel) (rest := []) rfl (as := [.ref l1, .ref (mi_SC + 1 + 2 * 40)]) rfl h6 (Or.inl h7) ⟨Nat.le_of_ble_eq_true rfl, Nat.le_of_ble_eq_true rfl, Nat.le_of_ble_eq_true rfl⟩ h8
theorem b_161_7 {d : Nat} {Q : (Option Value ⊕ Nat) → mi_H → Prop} (n sl : Nat) (f : Nat → mi_C) {l1 : Nat} {o2 : Option Value} {o3 : Option Value} {o4 : Option Value} {s5 : Int32} (h6 : s5 = (0 : Int32) → mi_W d 161 65 [some (.ref l1), o2, o3, o4] [] (n, sl, f) Q) (h7 : ¬ (s5 = (0 : Int32)) → mi_W d 161 10 [some (.ref l1), o2, o3, o4] [] (n, sl, f) Q) : mi_W d 161 7 [some (.ref l1), o2, o3, o4] [.int s5] (n, sl, f) Q := by
  exact w_ifeq cd_161_7 (by decide) h6 h7
theorem b_161_10 {d : Nat} {Q : (Option Value ⊕ Nat) → mi_H → Prop} (n sl : Nat) (f : Nat → mi_C) {l1 : Nat} {o2 : Option Value} {o3 : Option Value} {o4 : Option Value} {fs5 : List Value} (h6 : f l1 = .inr (12, fs5)) (h7 : l1 < n) (h8 : mi_W d 152 0 (mi_en 1 [.ref l1]) [] (n, sl, f) (mi_Kc d 161 11 [some (.ref l1), o2, o3, o4] [] Q)) : mi_W (d + 1) 161 10 [some (.ref l1), o2, o3, o4] [] (n, sl, f) Q := by
  refine w_aload_n cd_161_10 rfl ?_
  exact w_invokevirtual cd_161_11 (show mt_m 12 378 = some (152, 0) by decide +kernel) (rest := []) rfl (as := [.ref l1]) rfl h6 (Or.inl h7) ⟨Nat.le_of_ble_eq_true rfl, Nat.le_of_ble_eq_true rfl, Nat.le_of_ble_eq_true rfl⟩ h8
theorem b_161_14 {d : Nat} {Q : (Option Value ⊕ Nat) → mi_H → Prop} (n sl : Nat) (f : Nat → mi_C) {l1 : Nat} {o2 : Option Value} {o3 : Option Value} {o4 : Option Value} {s5 : Int32} (h6 : s5 = (0 : Int32) → mi_W d 161 24 [some (.ref l1), o2, o3, o4] [] (n, sl, f) Q) (h7 : ¬ (s5 = (0 : Int32)) → mi_W d 161 17 [some (.ref l1), o2, o3, o4] [] (n, sl, f) Q) : mi_W d 161 14 [some (.ref l1), o2, o3, o4] [.int s5] (n, sl, f) Q := by
  exact w_ifeq cd_161_14 (by decide) h6 h7
theorem b_161_17 {d : Nat} {Q : (Option Value ⊕ Nat) → mi_H → Prop} (n sl : Nat) (f : Nat → mi_C) {l1 : Nat} {o2 : Option Value} {o3 : Option Value} {o4 : Option Value} {fs5 : List Value} (h6 : f l1 = .inr (12, fs5)) (h7 : l1 < n) (h8 : mi_W d 143 0 (mi_en 4 [.ref l1]) [] (n, sl, f) (mi_Kc d 161 18 [some (.ref l1), o2, o3, o4] [] Q)) : mi_W (d + 1) 161 17 [some (.ref l1), o2, o3, o4] [] (n, sl, f) Q := by
  refine w_aload_n cd_161_17 rfl ?_
  exact w_invokevirtual cd_161_18 (show mt_m 12 333 = some (143, 0) by decide +kernel) (rest := []) rfl (as := [.ref l1]) rfl h6 (Or.inl h7) ⟨Nat.le_of_ble_eq_true rfl, Nat.le_of_ble_eq_true rfl, Nat.le_of_ble_eq_true rfl⟩ h8
theorem b_161_21 {d : Nat} {Q : (Option Value ⊕ Nat) → mi_H → Prop} (n sl : Nat) (f : Nat → mi_C) {l1 : Nat} {o2 : Option Value} {o3 : Option Value} {o4 : Option Value} {s5 : Int32} (h6 : ¬ s5 = (0 : Int32) → mi_W d 161 26 [some (.ref l1), o2, o3, o4] [] (n, sl, f) Q) (h7 : ¬ (¬ s5 = (0 : Int32)) → mi_W d 161 24 [some (.ref l1), o2, o3, o4] [] (n, sl, f) Q) : mi_W d 161 21 [some (.ref l1), o2, o3, o4] [.int s5] (n, sl, f) Q := by
  exact w_ifne cd_161_21 (by decide) h6 h7
theorem b_161_24 {d : Nat} {Q : (Option Value ⊕ Nat) → mi_H → Prop} (n sl : Nat) (f : Nat → mi_C) {l1 : Nat} {o2 : Option Value} {o3 : Option Value} {o4 : Option Value} (h5 : Q (.inl (some (.int (-1)))) (n, sl, f)) : mi_W d 161 24 [some (.ref l1), o2, o3, o4] [] (n, sl, f) Q := by
  refine w_iconst (v := (-1)) cd_161_24 (by decide) ?_
  exact w_ireturn_i cd_161_25 (by decide +kernel) h5
theorem b_161_26 {d : Nat} {Q : (Option Value ⊕ Nat) → mi_H → Prop} (n sl : Nat) (f : Nat → mi_C) {l1 : Nat} {o2 : Option Value} {o3 : Option Value} {o4 : Option Value} {fs5 : List Value} (h6 : f l1 = .inr (12, fs5)) (h7 : l1 < n) (h8 : mi_W d 161 0 (mi_en 4 [.ref l1]) [] (n, sl, f) (mi_Kc d 161 27 [some (.ref l1), o2, o3, o4] [] Q)) : mi_W (d + 1) 161 26 [some (.ref l1), o2, o3, o4] [] (n, sl, f) Q := by
  refine w_aload_n cd_161_26 rfl ?_
  exact w_invokevirtual cd_161_27 (show mt_m 12 399 = some (161, 0) by decide +kernel) (rest := []) rfl (as := [.ref l1]) rfl h6 (Or.inl h7) ⟨Nat.le_of_ble_eq_true rfl, Nat.le_of_ble_eq_true rfl, Nat.le_of_ble_eq_true rfl⟩ h8
theorem b_161_30 {d : Nat} {Q : (Option Value ⊕ Nat) → mi_H → Prop} (n sl : Nat) (f : Nat → mi_C) {l1 : Nat} {o2 : Option Value} {o3 : Option Value} {o4 : Option Value} {s5 : Int32} {fs6 : List Value} {x9 : Int32} {fs11 : List Value} (h7 : f l1 = .inr (12, fs6)) (h8 : l1 < n) (h10 : fs6[22]? = some (.int x9)) (h12 : f l1 = .inr (12, fs11)) (h13 : l1 < n) (h14 : 22 < fs11.length) (h15 : s5 < (0 : Int32) → mi_W d 161 63 [some (.ref l1), some (.int s5), o3, o4] [] (n, sl, (va_up f l1 (.inr (12, fs11.set 22 (.int (x9 - 1)))))) Q) (h16 : ¬ (s5 < (0 : Int32)) → mi_W d 161 45 [some (.ref l1), some (.int s5), o3, o4] [] (n, sl, (va_up f l1 (.inr (12, fs11.set 22 (.int (x9 - 1)))))) Q) : mi_W d 161 30 [some (.ref l1), o2, o3, o4] [.int s5] (n, sl, f) Q := by
  refine w_istore_n (ls' := [some (.ref l1), some (.int s5), o3, o4]) cd_161_30 (Nat.le_of_ble_eq_true rfl) rfl ?_
  refine w_aload_n cd_161_31 rfl ?_
  refine w_dup_r cd_161_32 ?_
  refine w_getfield cd_161_33 (show mt_f 12 337 = some (12, 22) by decide +kernel) h7 h8 h10 ?_
  refine w_iconst (v := 1) cd_161_36 (by decide) ?_
  refine w_isub cd_161_37 ?_
  refine w_putfield (w := .int (x9 - 1)) cd_161_38 (show mt_f 12 337 = some (12, 22) by decide +kernel) h12 h13 ⟨h14, rfl, Or.inl (by decide)⟩ ?_
  refine w_iload_n cd_161_41 rfl ?_
  exact w_iflt cd_161_42 (by decide) h15 h16
theorem b_161_45 {d : Nat} {Q : (Option Value ⊕ Nat) → mi_H → Prop} (n sl : Nat) (f : Nat → mi_C) {l1 : Nat} {l2 : Int32} {o3 : Option Value} {o4 : Option Value} {fs5 : List Value} (h6 : f l1 = .inr (12, fs5)) (h7 : l1 < n) (h8 : mi_W d 151 0 (mi_en 2 [.ref l1, .ref (mi_SC + 1 + 2 * 41)]) [] (n, sl, f) (mi_Kc d 161 50 [some (.ref l1), some (.int l2), o3, o4] [.ref l1] Q)) : mi_W (d + 1) 161 45 [some (.ref l1), some (.int l2), o3, o4] [] (n, sl, f) Q := by
  refine w_aload_n cd_161_45 rfl ?_
  refine w_aload_n cd_161_46 rfl ?_
  refine w_ldc_w (n := 41) cd_161_47 (by decide +kernel) ?_
  exact w_invokevirtual cd_161_50 (show mt_m 12 375 = some (151, 0) by decide +kernel) (rest := [.ref l1]) rfl (as := [.ref l1, .ref (mi_SC + 1 + 2 * 41)]) rfl h6 (Or.inl h7) ⟨Nat.le_of_ble_eq_true rfl, Nat.le_of_ble_eq_true rfl, Nat.le_of_ble_eq_true rfl⟩ h8
theorem b_161_53 {d : Nat} {Q : (Option Value ⊕ Nat) → mi_H → Prop} (n sl : Nat) (f : Nat → mi_C) {l1 : Nat} {l2 : Int32} {o3 : Option Value} {o4 : Option Value} {s5 : Int32} {s6 : Nat} {fs7 : List Value} (h8 : f s6 = .inr (12, fs7)) (h9 : s6 < n) (h10 : mi_W d 153 0 (mi_en 2 [.ref s6, .int s5]) [] (n, sl, f) (mi_Kc d 161 53 [some (.ref l1), some (.int l2), o3, o4] [] Q)) : mi_W (d + 1) 161 53 [some (.ref l1), some (.int l2), o3, o4] [.int s5, .ref s6] (n, sl, f) Q := by
  exact w_invokevirtual cd_161_53 (show mt_m 12 383 = some (153, 0) by decide +kernel) (rest := []) rfl (as := [.ref s6, .int s5]) rfl h8 (Or.inl h9) ⟨Nat.le_of_ble_eq_true rfl, Nat.le_of_ble_eq_true rfl, Nat.le_of_ble_eq_true rfl⟩ h10
theorem b_161_56 {d : Nat} {Q : (Option Value ⊕ Nat) → mi_H → Prop} (n sl : Nat) (f : Nat → mi_C) {l1 : Nat} {l2 : Int32} {o3 : Option Value} {o4 : Option Value} {s5 : Int32} (h6 : s5 = (0 : Int32) → mi_W d 161 63 [some (.ref l1), some (.int l2), o3, o4] [] (n, sl, f) Q) (h7 : ¬ (s5 = (0 : Int32)) → mi_W d 161 59 [some (.ref l1), some (.int l2), o3, o4] [] (n, sl, f) Q) : mi_W d 161 56 [some (.ref l1), some (.int l2), o3, o4] [.int s5] (n, sl, f) Q := by
  exact w_ifeq cd_161_56 (by decide) h6 h7
theorem b_161_59 {d : Nat} {Q : (Option Value ⊕ Nat) → mi_H → Prop} (n sl : Nat) (f : Nat → mi_C) {l1 : Nat} {l2 : Int32} {o3 : Option Value} {o4 : Option Value} (h5 : mi_W d 161 64 [some (.ref l1), some (.int l2), o3, o4] [.int l2] (n, sl, f) Q) : mi_W d 161 59 [some (.ref l1), some (.int l2), o3, o4] [] (n, sl, f) Q := by
  refine w_iload_n cd_161_59 rfl ?_
  exact w_goto cd_161_60 (by decide) h5
theorem b_161_63 {d : Nat} {Q : (Option Value ⊕ Nat) → mi_H → Prop} (n sl : Nat) (f : Nat → mi_C) {l1 : Nat} {l2 : Int32} {o3 : Option Value} {o4 : Option Value} (h5 : mi_W d 161 64 [some (.ref l1), some (.int l2), o3, o4] [.int (-1)] (n, sl, f) Q) : mi_W d 161 63 [some (.ref l1), some (.int l2), o3, o4] [] (n, sl, f) Q := by
  refine w_iconst (v := (-1)) cd_161_63 (by decide) ?_
  exact h5
theorem b_161_64 {d : Nat} {Q : (Option Value ⊕ Nat) → mi_H → Prop} (n sl : Nat) (f : Nat → mi_C) {l1 : Nat} {l2 : Int32} {o3 : Option Value} {o4 : Option Value} {s5 : Int32} (h6 : Q (.inl (some (.int s5))) (n, sl, f)) : mi_W d 161 64 [some (.ref l1), some (.int l2), o3, o4] [.int s5] (n, sl, f) Q := by
  exact w_ireturn_i cd_161_64 (by decide +kernel) h6
theorem b_161_65 {d : Nat} {Q : (Option Value ⊕ Nat) → mi_H → Prop} (n sl : Nat) (f : Nat → mi_C) {l1 : Nat} {o2 : Option Value} {o3 : Option Value} {o4 : Option Value} {fs5 : List Value} {x8 : Int32} (h6 : f l1 = .inr (12, fs5)) (h7 : l1 < n) (h9 : fs5[8]? = some (.int x8)) (h10 : ¬ x8 = 2 → mi_W d 161 78 [some (.ref l1), o2, o3, o4] [] (n, sl, f) Q) (h11 : ¬ (¬ x8 = 2) → mi_W d 161 73 [some (.ref l1), o2, o3, o4] [] (n, sl, f) Q) : mi_W d 161 65 [some (.ref l1), o2, o3, o4] [] (n, sl, f) Q := by
  refine w_aload_n cd_161_65 rfl ?_
  refine w_getfield cd_161_66 (show mt_f 12 310 = some (12, 8) by decide +kernel) h6 h7 h9 ?_
  refine w_iconst (v := 2) cd_161_69 (by decide) ?_
  exact w_if_icmpne cd_161_70 (by decide) h10 h11
theorem b_161_73 {d : Nat} {Q : (Option Value ⊕ Nat) → mi_H → Prop} (n sl : Nat) (f : Nat → mi_C) {l1 : Nat} {o2 : Option Value} {o3 : Option Value} {o4 : Option Value} (h5 : mi_W d 161 237 [some (.ref l1), o2, o3, o4] [.int 10] (n, sl, f) Q) : mi_W d 161 73 [some (.ref l1), o2, o3, o4] [] (n, sl, f) Q := by
  refine w_bipush (v := 10) cd_161_73 (by decide) ?_
  exact w_goto cd_161_75 (by decide) h5
theorem b_161_78 {d : Nat} {Q : (Option Value ⊕ Nat) → mi_H → Prop} (n sl : Nat) (f : Nat → mi_C) {l1 : Nat} {o2 : Option Value} {o3 : Option Value} {o4 : Option Value} {fs5 : List Value} (h6 : f l1 = .inr (12, fs5)) (h7 : l1 < n) (h8 : mi_W d 154 0 (mi_en 2 [.ref l1, .ref (mi_SC + 1 + 2 * 27)]) [] (n, sl, f) (mi_Kc d 161 81 [some (.ref l1), o2, o3, o4] [] Q)) : mi_W (d + 1) 161 78 [some (.ref l1), o2, o3, o4] [] (n, sl, f) Q := by
  refine w_aload_n cd_161_78 rfl ?_
  refine w_ldc (n := 27) cd_161_79 (by decide +kernel) ?_
  exact w_invokevirtual cd_161_81 (show mt_m 12 387 = some (154, 0) by decide +kernel) (rest := []) rfl (as := [.ref l1, .ref (mi_SC + 1 + 2 * 27)]) rfl h6 (Or.inl h7) ⟨Nat.le_of_ble_eq_true rfl, Nat.le_of_ble_eq_true rfl, Nat.le_of_ble_eq_true rfl⟩ h8
theorem b_161_84 {d : Nat} {Q : (Option Value ⊕ Nat) → mi_H → Prop} (n sl : Nat) (f : Nat → mi_C) {l1 : Nat} {o2 : Option Value} {o3 : Option Value} {o4 : Option Value} {s5 : Int32} (h6 : s5 = (0 : Int32) → mi_W d 161 92 [some (.ref l1), o2, o3, o4] [] (n, sl, f) Q) (h7 : ¬ (s5 = (0 : Int32)) → mi_W d 161 87 [some (.ref l1), o2, o3, o4] [] (n, sl, f) Q) : mi_W d 161 84 [some (.ref l1), o2, o3, o4] [.int s5] (n, sl, f) Q := by
  exact w_ifeq cd_161_84 (by decide) h6 h7
theorem b_161_87 {d : Nat} {Q : (Option Value ⊕ Nat) → mi_H → Prop} (n sl : Nat) (f : Nat → mi_C) {l1 : Nat} {o2 : Option Value} {o3 : Option Value} {o4 : Option Value} (h5 : mi_W d 161 237 [some (.ref l1), o2, o3, o4] [.int 11] (n, sl, f) Q) : mi_W d 161 87 [some (.ref l1), o2, o3, o4] [] (n, sl, f) Q := by
  refine w_bipush (v := 11) cd_161_87 (by decide) ?_
  exact w_goto cd_161_89 (by decide) h5
theorem b_161_92 {d : Nat} {Q : (Option Value ⊕ Nat) → mi_H → Prop} (n sl : Nat) (f : Nat → mi_C) {l1 : Nat} {o2 : Option Value} {o3 : Option Value} {o4 : Option Value} {fs5 : List Value} (h6 : f l1 = .inr (12, fs5)) (h7 : l1 < n) (h8 : mi_W d 154 0 (mi_en 2 [.ref l1, .ref (mi_SC + 1 + 2 * 28)]) [] (n, sl, f) (mi_Kc d 161 95 [some (.ref l1), o2, o3, o4] [] Q)) : mi_W (d + 1) 161 92 [some (.ref l1), o2, o3, o4] [] (n, sl, f) Q := by
  refine w_aload_n cd_161_92 rfl ?_
  refine w_ldc (n := 28) cd_161_93 (by decide +kernel) ?_
  exact w_invokevirtual cd_161_95 (show mt_m 12 387 = some (154, 0) by decide +kernel) (rest := []) rfl (as := [.ref l1, .ref (mi_SC + 1 + 2 * 28)]) rfl h6 (Or.inl h7) ⟨Nat.le_of_ble_eq_true rfl, Nat.le_of_ble_eq_true rfl, Nat.le_of_ble_eq_true rfl⟩ h8
theorem b_161_98 {d : Nat} {Q : (Option Value ⊕ Nat) → mi_H → Prop} (n sl : Nat) (f : Nat → mi_C) {l1 : Nat} {o2 : Option Value} {o3 : Option Value} {o4 : Option Value} {s5 : Int32} (h6 : s5 = (0 : Int32) → mi_W d 161 106 [some (.ref l1), o2, o3, o4] [] (n, sl, f) Q) (h7 : ¬ (s5 = (0 : Int32)) → mi_W d 161 101 [some (.ref l1), o2, o3, o4] [] (n, sl, f) Q) : mi_W d 161 98 [some (.ref l1), o2, o3, o4] [.int s5] (n, sl, f) Q := by
  exact w_ifeq cd_161_98 (by decide) h6 h7
theorem b_161_101 {d : Nat} {Q : (Option Value ⊕ Nat) → mi_H → Prop} (n sl : Nat) (f : Nat → mi_C) {l1 : Nat} {o2 : Option Value} {o3 : Option Value} {o4 : Option Value} (h5 : mi_W d 161 237 [some (.ref l1), o2, o3, o4] [.int 12] (n, sl, f) Q) : mi_W d 161 101 [some (.ref l1), o2, o3, o4] [] (n, sl, f) Q := by
  refine w_bipush (v := 12) cd_161_101 (by decide) ?_
  exact w_goto cd_161_103 (by decide) h5
theorem b_161_106 {d : Nat} {Q : (Option Value ⊕ Nat) → mi_H → Prop} (n sl : Nat) (f : Nat → mi_C) {l1 : Nat} {o2 : Option Value} {o3 : Option Value} {o4 : Option Value} {fs5 : List Value} (h6 : f l1 = .inr (12, fs5)) (h7 : l1 < n) (h8 : mi_W d 151 0 (mi_en 2 [.ref l1, .ref (mi_SC + 1 + 2 * 42)]) [] (n, sl, f) (mi_Kc d 161 110 [some (.ref l1), o2, o3, o4] [] Q)) : mi_W (d + 1) 161 106 [some (.ref l1), o2, o3, o4] [] (n, sl, f) Q := by
  refine w_aload_n cd_161_106 rfl ?_
  refine w_ldc_w (n := 42) cd_161_107 (by decide +kernel) ?_
  exact w_invokevirtual cd_161_110 (show mt_m 12 375 = some (151, 0) by decide +kernel) (rest := []) rfl (as := [.ref l1, .ref (mi_SC + 1 + 2 * 42)]) rfl h6 (Or.inl h7) ⟨Nat.le_of_ble_eq_true rfl, Nat.le_of_ble_eq_true rfl, Nat.le_of_ble_eq_true rfl⟩ h8
theorem b_161_113 {d : Nat} {Q : (Option Value ⊕ Nat) → mi_H → Prop} (n sl : Nat) (f : Nat → mi_C) {l1 : Nat} {o2 : Option Value} {o3 : Option Value} {o4 : Option Value} {s5 : Int32} (h6 : s5 = (0 : Int32) → mi_W d 161 121 [some (.ref l1), o2, o3, o4] [] (n, sl, f) Q) (h7 : ¬ (s5 = (0 : Int32)) → mi_W d 161 116 [some (.ref l1), o2, o3, o4] [] (n, sl, f) Q) : mi_W d 161 113 [some (.ref l1), o2, o3, o4] [.int s5] (n, sl, f) Q := by
  exact w_ifeq cd_161_113 (by decide) h6 h7
theorem b_161_116 {d : Nat} {Q : (Option Value ⊕ Nat) → mi_H → Prop} (n sl : Nat) (f : Nat → mi_C) {l1 : Nat} {o2 : Option Value} {o3 : Option Value} {o4 : Option Value} (h5 : mi_W d 161 237 [some (.ref l1), o2, o3, o4] [.int 13] (n, sl, f) Q) : mi_W d 161 116 [some (.ref l1), o2, o3, o4] [] (n, sl, f) Q := by
  refine w_bipush (v := 13) cd_161_116 (by decide) ?_
  exact w_goto cd_161_118 (by decide) h5
theorem b_161_121 {d : Nat} {Q : (Option Value ⊕ Nat) → mi_H → Prop} (n sl : Nat) (f : Nat → mi_C) {l1 : Nat} {o2 : Option Value} {o3 : Option Value} {o4 : Option Value} {fs5 : List Value} (h6 : f l1 = .inr (12, fs5)) (h7 : l1 < n) (h8 : mi_W d 151 0 (mi_en 2 [.ref l1, .ref (mi_SC + 1 + 2 * 43)]) [] (n, sl, f) (mi_Kc d 161 125 [some (.ref l1), o2, o3, o4] [] Q)) : mi_W (d + 1) 161 121 [some (.ref l1), o2, o3, o4] [] (n, sl, f) Q := by
  refine w_aload_n cd_161_121 rfl ?_
  refine w_ldc_w (n := 43) cd_161_122 (by decide +kernel) ?_
  exact w_invokevirtual cd_161_125 (show mt_m 12 375 = some (151, 0) by decide +kernel) (rest := []) rfl (as := [.ref l1, .ref (mi_SC + 1 + 2 * 43)]) rfl h6 (Or.inl h7) ⟨Nat.le_of_ble_eq_true rfl, Nat.le_of_ble_eq_true rfl, Nat.le_of_ble_eq_true rfl⟩ h8
theorem b_161_128 {d : Nat} {Q : (Option Value ⊕ Nat) → mi_H → Prop} (n sl : Nat) (f : Nat → mi_C) {l1 : Nat} {o2 : Option Value} {o3 : Option Value} {o4 : Option Value} {s5 : Int32} (h6 : s5 = (0 : Int32) → mi_W d 161 136 [some (.ref l1), o2, o3, o4] [] (n, sl, f) Q) (h7 : ¬ (s5 = (0 : Int32)) → mi_W d 161 131 [some (.ref l1), o2, o3, o4] [] (n, sl, f) Q) : mi_W d 161 128 [some (.ref l1), o2, o3, o4] [.int s5] (n, sl, f) Q := by
  exact w_ifeq cd_161_128 (by decide) h6 h7
theorem b_161_131 {d : Nat} {Q : (Option Value ⊕ Nat) → mi_H → Prop} (n sl : Nat) (f : Nat → mi_C) {l1 : Nat} {o2 : Option Value} {o3 : Option Value} {o4 : Option Value} (h5 : mi_W d 161 237 [some (.ref l1), o2, o3, o4] [.int 14] (n, sl, f) Q) : mi_W d 161 131 [some (.ref l1), o2, o3, o4] [] (n, sl, f) Q := by
  refine w_bipush (v := 14) cd_161_131 (by decide) ?_
  exact w_goto cd_161_133 (by decide) h5
theorem b_161_136 {d : Nat} {Q : (Option Value ⊕ Nat) → mi_H → Prop} (n sl : Nat) (f : Nat → mi_C) {l1 : Nat} {o2 : Option Value} {o3 : Option Value} {o4 : Option Value} {fs5 : List Value} (h6 : f l1 = .inr (12, fs5)) (h7 : l1 < n) (h8 : mi_W d 151 0 (mi_en 2 [.ref l1, .ref (mi_SC + 1 + 2 * 44)]) [] (n, sl, f) (mi_Kc d 161 140 [some (.ref l1), o2, o3, o4] [] Q)) : mi_W (d + 1) 161 136 [some (.ref l1), o2, o3, o4] [] (n, sl, f) Q := by
  refine w_aload_n cd_161_136 rfl ?_
  refine w_ldc_w (n := 44) cd_161_137 (by decide +kernel) ?_
  exact w_invokevirtual cd_161_140 (show mt_m 12 375 = some (151, 0) by decide +kernel) (rest := []) rfl (as := [.ref l1, .ref (mi_SC + 1 + 2 * 44)]) rfl h6 (Or.inl h7) ⟨Nat.le_of_ble_eq_true rfl, Nat.le_of_ble_eq_true rfl, Nat.le_of_ble_eq_true rfl⟩ h8
theorem b_161_143 {d : Nat} {Q : (Option Value ⊕ Nat) → mi_H → Prop} (n sl : Nat) (f : Nat → mi_C) {l1 : Nat} {o2 : Option Value} {o3 : Option Value} {o4 : Option Value} {s5 : Int32} (h6 : s5 = (0 : Int32) → mi_W d 161 151 [some (.ref l1), o2, o3, o4] [] (n, sl, f) Q) (h7 : ¬ (s5 = (0 : Int32)) → mi_W d 161 146 [some (.ref l1), o2, o3, o4] [] (n, sl, f) Q) : mi_W d 161 143 [some (.ref l1), o2, o3, o4] [.int s5] (n, sl, f) Q := by
  exact w_ifeq cd_161_143 (by decide) h6 h7
theorem b_161_146 {d : Nat} {Q : (Option Value ⊕ Nat) → mi_H → Prop} (n sl : Nat) (f : Nat → mi_C) {l1 : Nat} {o2 : Option Value} {o3 : Option Value} {o4 : Option Value} (h5 : mi_W d 161 237 [some (.ref l1), o2, o3, o4] [.int 15] (n, sl, f) Q) : mi_W d 161 146 [some (.ref l1), o2, o3, o4] [] (n, sl, f) Q := by
  refine w_bipush (v := 15) cd_161_146 (by decide) ?_
  exact w_goto cd_161_148 (by decide) h5
theorem b_161_151 {d : Nat} {Q : (Option Value ⊕ Nat) → mi_H → Prop} (n sl : Nat) (f : Nat → mi_C) {l1 : Nat} {o2 : Option Value} {o3 : Option Value} {o4 : Option Value} {fs5 : List Value} (h6 : f l1 = .inr (12, fs5)) (h7 : l1 < n) (h8 : mi_W d 151 0 (mi_en 2 [.ref l1, .ref (mi_SC + 1 + 2 * 45)]) [] (n, sl, f) (mi_Kc d 161 155 [some (.ref l1), o2, o3, o4] [] Q)) : mi_W (d + 1) 161 151 [some (.ref l1), o2, o3, o4] [] (n, sl, f) Q := by
  refine w_aload_n cd_161_151 rfl ?_
  refine w_ldc_w (n := 45) cd_161_152 (by decide +kernel) ?_
  exact w_invokevirtual cd_161_155 (show mt_m 12 375 = some (151, 0) by decide +kernel) (rest := []) rfl (as := [.ref l1, .ref (mi_SC + 1 + 2 * 45)]) rfl h6 (Or.inl h7) ⟨Nat.le_of_ble_eq_true rfl, Nat.le_of_ble_eq_true rfl, Nat.le_of_ble_eq_true rfl⟩ h8
theorem b_161_158 {d : Nat} {Q : (Option Value ⊕ Nat) → mi_H → Prop} (n sl : Nat) (f : Nat → mi_C) {l1 : Nat} {o2 : Option Value} {o3 : Option Value} {o4 : Option Value} {s5 : Int32} (h6 : s5 = (0 : Int32) → mi_W d 161 166 [some (.ref l1), o2, o3, o4] [] (n, sl, f) Q) (h7 : ¬ (s5 = (0 : Int32)) → mi_W d 161 161 [some (.ref l1), o2, o3, o4] [] (n, sl, f) Q) : mi_W d 161 158 [some (.ref l1), o2, o3, o4] [.int s5] (n, sl, f) Q := by
  exact w_ifeq cd_161_158 (by decide) h6 h7
theorem b_161_161 {d : Nat} {Q : (Option Value ⊕ Nat) → mi_H → Prop} (n sl : Nat) (f : Nat → mi_C) {l1 : Nat} {o2 : Option Value} {o3 : Option Value} {o4 : Option Value} (h5 : mi_W d 161 237 [some (.ref l1), o2, o3, o4] [.int 16] (n, sl, f) Q) : mi_W d 161 161 [some (.ref l1), o2, o3, o4] [] (n, sl, f) Q := by
  refine w_bipush (v := 16) cd_161_161 (by decide) ?_
  exact w_goto cd_161_163 (by decide) h5
theorem b_161_166 {d : Nat} {Q : (Option Value ⊕ Nat) → mi_H → Prop} (n sl : Nat) (f : Nat → mi_C) {l1 : Nat} {o2 : Option Value} {o3 : Option Value} {o4 : Option Value} {fs5 : List Value} (h6 : f l1 = .inr (12, fs5)) (h7 : l1 < n) (h8 : mi_W d 154 0 (mi_en 2 [.ref l1, .ref (mi_SC + 1 + 2 * 29)]) [] (n, sl, f) (mi_Kc d 161 169 [some (.ref l1), o2, o3, o4] [] Q)) : mi_W (d + 1) 161 166 [some (.ref l1), o2, o3, o4] [] (n, sl, f) Q := by
  refine w_aload_n cd_161_166 rfl ?_
  refine w_ldc (n := 29) cd_161_167 (by decide +kernel) ?_
  exact w_invokevirtual cd_161_169 (show mt_m 12 387 = some (154, 0) by decide +kernel) (rest := []) rfl (as := [.ref l1, .ref (mi_SC + 1 + 2 * 29)]) rfl h6 (Or.inl h7) ⟨Nat.le_of_ble_eq_true rfl, Nat.le_of_ble_eq_true rfl, Nat.le_of_ble_eq_true rfl⟩ h8
theorem b_161_172 {d : Nat} {Q : (Option Value ⊕ Nat) → mi_H → Prop} (n sl : Nat) (f : Nat → mi_C) {l1 : Nat} {o2 : Option Value} {o3 : Option Value} {o4 : Option Value} {s5 : Int32} (h6 : s5 = (0 : Int32) → mi_W d 161 180 [some (.ref l1), o2, o3, o4] [] (n, sl, f) Q) (h7 : ¬ (s5 = (0 : Int32)) → mi_W d 161 175 [some (.ref l1), o2, o3, o4] [] (n, sl, f) Q) : mi_W d 161 172 [some (.ref l1), o2, o3, o4] [.int s5] (n, sl, f) Q := by
  exact w_ifeq cd_161_172 (by decide) h6 h7
theorem b_161_175 {d : Nat} {Q : (Option Value ⊕ Nat) → mi_H → Prop} (n sl : Nat) (f : Nat → mi_C) {l1 : Nat} {o2 : Option Value} {o3 : Option Value} {o4 : Option Value} (h5 : mi_W d 161 237 [some (.ref l1), o2, o3, o4] [.int 17] (n, sl, f) Q) : mi_W d 161 175 [some (.ref l1), o2, o3, o4] [] (n, sl, f) Q := by
  refine w_bipush (v := 17) cd_161_175 (by decide) ?_
  exact w_goto cd_161_177 (by decide) h5
theorem b_161_180 {d : Nat} {Q : (Option Value ⊕ Nat) → mi_H → Prop} (n sl : Nat) (f : Nat → mi_C) {l1 : Nat} {o2 : Option Value} {o3 : Option Value} {o4 : Option Value} {fs5 : List Value} (h6 : f l1 = .inr (12, fs5)) (h7 : l1 < n) (h8 : mi_W d 154 0 (mi_en 2 [.ref l1, .ref (mi_SC + 1 + 2 * 30)]) [] (n, sl, f) (mi_Kc d 161 183 [some (.ref l1), o2, o3, o4] [] Q)) : mi_W (d + 1) 161 180 [some (.ref l1), o2, o3, o4] [] (n, sl, f) Q := by
  refine w_aload_n cd_161_180 rfl ?_
  refine w_ldc (n := 30) cd_161_181 (by decide +kernel) ?_
  exact w_invokevirtual cd_161_183 (show mt_m 12 387 = some (154, 0) by decide +kernel) (rest := []) rfl (as := [.ref l1, .ref (mi_SC + 1 + 2 * 30)]) rfl h6 (Or.inl h7) ⟨Nat.le_of_ble_eq_true rfl, Nat.le_of_ble_eq_true rfl, Nat.le_of_ble_eq_true rfl⟩ h8
theorem b_161_186 {d : Nat} {Q : (Option Value ⊕ Nat) → mi_H → Prop} (n sl : Nat) (f : Nat → mi_C) {l1 : Nat} {o2 : Option Value} {o3 : Option Value} {o4 : Option Value} {s5 : Int32} (h6 : s5 = (0 : Int32) → mi_W d 161 194 [some (.ref l1), o2, o3, o4] [] (n, sl, f) Q) (h7 : ¬ (s5 = (0 : Int32)) → mi_W d 161 189 [some (.ref l1), o2, o3, o4] [] (n, sl, f) Q) : mi_W d 161 186 [some (.ref l1), o2, o3, o4] [.int s5] (n, sl, f) Q := by
  exact w_ifeq cd_161_186 (by decide) h6 h7
theorem b_161_189 {d : Nat} {Q : (Option Value ⊕ Nat) → mi_H → Prop} (n sl : Nat) (f : Nat → mi_C) {l1 : Nat} {o2 : Option Value} {o3 : Option Value} {o4 : Option Value} (h5 : mi_W d 161 237 [some (.ref l1), o2, o3, o4] [.int 18] (n, sl, f) Q) : mi_W d 161 189 [some (.ref l1), o2, o3, o4] [] (n, sl, f) Q := by
  refine w_bipush (v := 18) cd_161_189 (by decide) ?_
  exact w_goto cd_161_191 (by decide) h5
theorem b_161_194 {d : Nat} {Q : (Option Value ⊕ Nat) → mi_H → Prop} (n sl : Nat) (f : Nat → mi_C) {l1 : Nat} {o2 : Option Value} {o3 : Option Value} {o4 : Option Value} {fs5 : List Value} (h6 : f l1 = .inr (12, fs5)) (h7 : l1 < n) (h8 : mi_W d 154 0 (mi_en 2 [.ref l1, .ref (mi_SC + 1 + 2 * 31)]) [] (n, sl, f) (mi_Kc d 161 197 [some (.ref l1), o2, o3, o4] [] Q)) : mi_W (d + 1) 161 194 [some (.ref l1), o2, o3, o4] [] (n, sl, f) Q := by
  refine w_aload_n cd_161_194 rfl ?_
  refine w_ldc (n := 31) cd_161_195 (by decide +kernel) ?_
  exact w_invokevirtual cd_161_197 (show mt_m 12 387 = some (154, 0) by decide +kernel) (rest := []) rfl (as := [.ref l1, .ref (mi_SC + 1 + 2 * 31)]) rfl h6 (Or.inl h7) ⟨Nat.le_of_ble_eq_true rfl, Nat.le_of_ble_eq_true rfl, Nat.le_of_ble_eq_true rfl⟩ h8
theorem b_161_200 {d : Nat} {Q : (Option Value ⊕ Nat) → mi_H → Prop} (n sl : Nat) (f : Nat → mi_C) {l1 : Nat} {o2 : Option Value} {o3 : Option Value} {o4 : Option Value} {s5 : Int32} (h6 : s5 = (0 : Int32) → mi_W d 161 208 [some (.ref l1), o2, o3, o4] [] (n, sl, f) Q) (h7 : ¬ (s5 = (0 : Int32)) → mi_W d 161 203 [some (.ref l1), o2, o3, o4] [] (n, sl, f) Q) : mi_W d 161 200 [some (.ref l1), o2, o3, o4] [.int s5] (n, sl, f) Q := by
  exact w_ifeq cd_161_200 (by decide) h6 h7
theorem b_161_203 {d : Nat} {Q : (Option Value ⊕ Nat) → mi_H → Prop} (n sl : Nat) (f : Nat → mi_C) {l1 : Nat} {o2 : Option Value} {o3 : Option Value} {o4 : Option Value} (h5 : mi_W d 161 237 [some (.ref l1), o2, o3, o4] [.int 19] (n, sl, f) Q) : mi_W d 161 203 [some (.ref l1), o2, o3, o4] [] (n, sl, f) Q := by
  refine w_bipush (v := 19) cd_161_203 (by decide) ?_
  exact w_goto cd_161_205 (by decide) h5
theorem b_161_208 {d : Nat} {Q : (Option Value ⊕ Nat) → mi_H → Prop} (n sl : Nat) (f : Nat → mi_C) {l1 : Nat} {o2 : Option Value} {o3 : Option Value} {o4 : Option Value} {fs5 : List Value} (h6 : f l1 = .inr (12, fs5)) (h7 : l1 < n) (h8 : mi_W d 154 0 (mi_en 2 [.ref l1, .ref (mi_SC + 1 + 2 * 32)]) [] (n, sl, f) (mi_Kc d 161 211 [some (.ref l1), o2, o3, o4] [] Q)) : mi_W (d + 1) 161 208 [some (.ref l1), o2, o3, o4] [] (n, sl, f) Q := by
  refine w_aload_n cd_161_208 rfl ?_
  refine w_ldc (n := 32) cd_161_209 (by decide +kernel) ?_
  exact w_invokevirtual cd_161_211 (show mt_m 12 387 = some (154, 0) by decide +kernel) (rest := []) rfl (as := [.ref l1, .ref (mi_SC + 1 + 2 * 32)]) rfl h6 (Or.inl h7) ⟨Nat.le_of_ble_eq_true rfl, Nat.le_of_ble_eq_true rfl, Nat.le_of_ble_eq_true rfl⟩ h8
theorem b_161_214 {d : Nat} {Q : (Option Value ⊕ Nat) → mi_H → Prop} (n sl : Nat) (f : Nat → mi_C) {l1 : Nat} {o2 : Option Value} {o3 : Option Value} {o4 : Option Value} {s5 : Int32} (h6 : s5 = (0 : Int32) → mi_W d 161 222 [some (.ref l1), o2, o3, o4] [] (n, sl, f) Q) (h7 : ¬ (s5 = (0 : Int32)) → mi_W d 161 217 [some (.ref l1), o2, o3, o4] [] (n, sl, f) Q) : mi_W d 161 214 [some (.ref l1), o2, o3, o4] [.int s5] (n, sl, f) Q := by
  exact w_ifeq cd_161_214 (by decide) h6 h7
theorem b_161_217 {d : Nat} {Q : (Option Value ⊕ Nat) → mi_H → Prop} (n sl : Nat) (f : Nat → mi_C) {l1 : Nat} {o2 : Option Value} {o3 : Option Value} {o4 : Option Value} (h5 : mi_W d 161 237 [some (.ref l1), o2, o3, o4] [.int 20] (n, sl, f) Q) : mi_W d 161 217 [some (.ref l1), o2, o3, o4] [] (n, sl, f) Q := by
  refine w_bipush (v := 20) cd_161_217 (by decide) ?_
  exact w_goto cd_161_219 (by decide) h5
theorem b_161_222 {d : Nat} {Q : (Option Value ⊕ Nat) → mi_H → Prop} (n sl : Nat) (f : Nat → mi_C) {l1 : Nat} {o2 : Option Value} {o3 : Option Value} {o4 : Option Value} {fs5 : List Value} (h6 : f l1 = .inr (12, fs5)) (h7 : l1 < n) (h8 : mi_W d 154 0 (mi_en 2 [.ref l1, .ref (mi_SC + 1 + 2 * 33)]) [] (n, sl, f) (mi_Kc d 161 225 [some (.ref l1), o2, o3, o4] [] Q)) : mi_W (d + 1) 161 222 [some (.ref l1), o2, o3, o4] [] (n, sl, f) Q := by
  refine w_aload_n cd_161_222 rfl ?_
  refine w_ldc (n := 33) cd_161_223 (by decide +kernel) ?_
  exact w_invokevirtual cd_161_225 (show mt_m 12 387 = some (154, 0) by decide +kernel) (rest := []) rfl (as := [.ref l1, .ref (mi_SC + 1 + 2 * 33)]) rfl h6 (Or.inl h7) ⟨Nat.le_of_ble_eq_true rfl, Nat.le_of_ble_eq_true rfl, Nat.le_of_ble_eq_true rfl⟩ h8
theorem b_161_228 {d : Nat} {Q : (Option Value ⊕ Nat) → mi_H → Prop} (n sl : Nat) (f : Nat → mi_C) {l1 : Nat} {o2 : Option Value} {o3 : Option Value} {o4 : Option Value} {s5 : Int32} (h6 : s5 = (0 : Int32) → mi_W d 161 236 [some (.ref l1), o2, o3, o4] [] (n, sl, f) Q) (h7 : ¬ (s5 = (0 : Int32)) → mi_W d 161 231 [some (.ref l1), o2, o3, o4] [] (n, sl, f) Q) : mi_W d 161 228 [some (.ref l1), o2, o3, o4] [.int s5] (n, sl, f) Q := by
  exact w_ifeq cd_161_228 (by decide) h6 h7
theorem b_161_231 {d : Nat} {Q : (Option Value ⊕ Nat) → mi_H → Prop} (n sl : Nat) (f : Nat → mi_C) {l1 : Nat} {o2 : Option Value} {o3 : Option Value} {o4 : Option Value} (h5 : mi_W d 161 237 [some (.ref l1), o2, o3, o4] [.int 21] (n, sl, f) Q) : mi_W d 161 231 [some (.ref l1), o2, o3, o4] [] (n, sl, f) Q := by
  refine w_bipush (v := 21) cd_161_231 (by decide) ?_
  exact w_goto cd_161_233 (by decide) h5
theorem b_161_236 {d : Nat} {Q : (Option Value ⊕ Nat) → mi_H → Prop} (n sl : Nat) (f : Nat → mi_C) {l1 : Nat} {o2 : Option Value} {o3 : Option Value} {o4 : Option Value} (h5 : mi_W d 161 237 [some (.ref l1), o2, o3, o4] [.int (-1)] (n, sl, f) Q) : mi_W d 161 236 [some (.ref l1), o2, o3, o4] [] (n, sl, f) Q := by
  refine w_iconst (v := (-1)) cd_161_236 (by decide) ?_
  exact h5
theorem b_161_237 {d : Nat} {Q : (Option Value ⊕ Nat) → mi_H → Prop} (n sl : Nat) (f : Nat → mi_C) {l1 : Nat} {o2 : Option Value} {o3 : Option Value} {o4 : Option Value} {s5 : Int32} (h6 : (0 : Int32) ≤ s5 → mi_W d 161 253 [some (.ref l1), some (.int s5), o3, o4] [] (n, sl, f) Q) (h7 : ¬ ((0 : Int32) ≤ s5) → mi_W d 161 242 [some (.ref l1), some (.int s5), o3, o4] [] (n, sl, f) Q) : mi_W d 161 237 [some (.ref l1), o2, o3, o4] [.int s5] (n, sl, f) Q := by
  refine w_istore_n (ls' := [some (.ref l1), some (.int s5), o3, o4]) cd_161_237 (Nat.le_of_ble_eq_true rfl) rfl ?_
  refine w_iload_n cd_161_238 rfl ?_
  exact w_ifge cd_161_239 (by decide) h6 h7
theorem b_161_242 {d : Nat} {Q : (Option Value ⊕ Nat) → mi_H → Prop} (n sl : Nat) (f : Nat → mi_C) {l1 : Nat} {l2 : Int32} {o3 : Option Value} {o4 : Option Value} {fs5 : List Value} {x8 : Int32} {fs10 : List Value} (h6 : f l1 = .inr (12, fs5)) (h7 : l1 < n) (h9 : fs5[9]? = some (.int x8)) (h11 : f l1 = .inr (12, fs10)) (h12 : l1 < n) (h13 : mi_W d 141 0 (mi_en 2 [.ref l1, .int x8]) [] (n, sl, f) (mi_Kc d 161 247 [some (.ref l1), some (.int l2), o3, o4] [] Q)) : mi_W (d + 1) 161 242 [some (.ref l1), some (.int l2), o3, o4] [] (n, sl, f) Q := by
  refine w_aload_n cd_161_242 rfl ?_
  refine w_aload_n cd_161_243 rfl ?_
  refine w_getfield cd_161_244 (show mt_f 12 299 = some (12, 9) by decide +kernel) h6 h7 h9 ?_
  exact w_invokevirtual cd_161_247 (show mt_m 12 272 = some (141, 0) by decide +kernel) (rest := []) rfl (as := [.ref l1, .int x8]) rfl h11 (Or.inl h12) ⟨Nat.le_of_ble_eq_true rfl, Nat.le_of_ble_eq_true rfl, Nat.le_of_ble_eq_true rfl⟩ h13
theorem b_161_250 {d : Nat} {Q : (Option Value ⊕ Nat) → mi_H → Prop} (n sl : Nat) (f : Nat → mi_C) {l1 : Nat} {l2 : Int32} {o3 : Option Value} {o4 : Option Value} {s5 : Int32} (h6 : Q (.inl (some (.int (-1)))) (n, sl, f)) : mi_W d 161 250 [some (.ref l1), some (.int l2), o3, o4] [.int s5] (n, sl, f) Q := by
  refine w_pop_i cd_161_250 ?_
  refine w_iconst (v := (-1)) cd_161_251 (by decide) ?_
  exact w_ireturn_i cd_161_252 (by decide +kernel) h6
theorem b_161_253 {d : Nat} {Q : (Option Value ⊕ Nat) → mi_H → Prop} (n sl : Nat) (f : Nat → mi_C) {l1 : Nat} {l2 : Int32} {o3 : Option Value} {o4 : Option Value} {fs5 : List Value} (h6 : f l1 = .inr (12, fs5)) (h7 : l1 < n) (h8 : mi_W d 152 0 (mi_en 1 [.ref l1]) [] (n, sl, f) (mi_Kc d 161 254 [some (.ref l1), some (.int l2), o3, o4] [] Q)) : mi_W (d + 1) 161 253 [some (.ref l1), some (.int l2), o3, o4] [] (n, sl, f) Q := by
  refine w_aload_n cd_161_253 rfl ?_
  exact w_invokevirtual cd_161_254 (show mt_m 12 378 = some (152, 0) by decide +kernel) (rest := []) rfl (as := [.ref l1]) rfl h6 (Or.inl h7) ⟨Nat.le_of_ble_eq_true rfl, Nat.le_of_ble_eq_true rfl, Nat.le_of_ble_eq_true rfl⟩ h8
theorem b_161_257 {d : Nat} {Q : (Option Value ⊕ Nat) → mi_H → Prop} (n sl : Nat) (f : Nat → mi_C) {l1 : Nat} {l2 : Int32} {o3 : Option Value} {o4 : Option Value} {s5 : Int32} (h6 : ¬ s5 = (0 : Int32) → mi_W d 161 262 [some (.ref l1), some (.int l2), o3, o4] [] (n, sl, f) Q) (h7 : ¬ (¬ s5 = (0 : Int32)) → mi_W d 161 260 [some (.ref l1), some (.int l2), o3, o4] [] (n, sl, f) Q) : mi_W d 161 257 [some (.ref l1), some (.int l2), o3, o4] [.int s5] (n, sl, f) Q := by
  exact w_ifne cd_161_257 (by decide) h6 h7
theorem b_161_260 {d : Nat} {Q : (Option Value ⊕ Nat) → mi_H → Prop} (n sl : Nat) (f : Nat → mi_C) {l1 : Nat} {l2 : Int32} {o3 : Option Value} {o4 : Option Value} (h5 : Q (.inl (some (.int (-1)))) (n, sl, f)) : mi_W d 161 260 [some (.ref l1), some (.int l2), o3, o4] [] (n, sl, f) Q := by
  refine w_iconst (v := (-1)) cd_161_260 (by decide) ?_
  exact w_ireturn_i cd_161_261 (by decide +kernel) h5
theorem b_161_262 {d : Nat} {Q : (Option Value ⊕ Nat) → mi_H → Prop} (n sl : Nat) (f : Nat → mi_C) {l1 : Nat} {l2 : Int32} {o3 : Option Value} {o4 : Option Value} {fs5 : List Value} (h6 : f l1 = .inr (12, fs5)) (h7 : l1 < n) (h8 : mi_W d 155 0 (mi_en 2 [.ref l1, .int l2]) [] (n, sl, f) (mi_Kc d 161 264 [some (.ref l1), some (.int l2), o3, o4] [] Q)) : mi_W (d + 1) 161 262 [some (.ref l1), some (.int l2), o3, o4] [] (n, sl, f) Q := by
  refine w_aload_n cd_161_262 rfl ?_
  refine w_iload_n cd_161_263 rfl ?_
  exact w_invokevirtual cd_161_264 (show mt_m 12 390 = some (155, 0) by decide +kernel) (rest := []) rfl (as := [.ref l1, .int l2]) rfl h6 (Or.inl h7) ⟨Nat.le_of_ble_eq_true rfl, Nat.le_of_ble_eq_true rfl, Nat.le_of_ble_eq_true rfl⟩ h8
theorem b_161_267 {d : Nat} {Q : (Option Value ⊕ Nat) → mi_H → Prop} (n sl : Nat) (f : Nat → mi_C) {l1 : Nat} {l2 : Int32} {o3 : Option Value} {o4 : Option Value} {s5 : Int32} (h6 : s5 < (0 : Int32) → mi_W d 161 282 [some (.ref l1), some (.int l2), some (.int s5), o4] [] (n, sl, f) Q) (h7 : ¬ (s5 < (0 : Int32)) → mi_W d 161 272 [some (.ref l1), some (.int l2), some (.int s5), o4] [] (n, sl, f) Q) : mi_W d 161 267 [some (.ref l1), some (.int l2), o3, o4] [.int s5] (n, sl, f) Q := by
  refine w_istore_n (ls' := [some (.ref l1), some (.int l2), some (.int s5), o4]) cd_161_267 (Nat.le_of_ble_eq_true rfl) rfl ?_
  refine w_iload_n cd_161_268 rfl ?_
  exact w_iflt cd_161_269 (by decide) h6 h7
theorem b_161_272 {d : Nat} {Q : (Option Value ⊕ Nat) → mi_H → Prop} (n sl : Nat) (f : Nat → mi_C) {l1 : Nat} {l2 : Int32} {l3 : Int32} {o4 : Option Value} {fs5 : List Value} {x8 : Nat} {fs10 : List Value} {x13 : Int64} (m15 i15 : Nat) (g15 : Nat → Int64) (h6 : f l1 = .inr (12, fs5)) (h7 : l1 < n) (h9 : fs5[20]? = some (.ref x8)) (h11 : f l1 = .inr (12, fs10)) (h12 : l1 < n) (h14 : fs10[11]? = some (.long x13)) (h16 : f x8 = .inl (3, m15, .inr (.inl g15))) (h17 : x8 < n) (h18 : mi_ix l3 m15 i15) (h19 : mi_W d 161 282 [some (.ref l1), some (.int l2), some (.int l3), o4] [] (n, sl, (va_up f x8 (.inl (3, m15, .inr (.inl (vp_updL g15 i15 x13)))))) Q) : mi_W d 161 272 [some (.ref l1), some (.int l2), some (.int l3), o4] [] (n, sl, f) Q := by
  refine w_aload_n cd_161_272 rfl ?_
  refine w_getfield cd_161_273 (show mt_f 12 101 = some (12, 20) by decide +kernel) h6 h7 h9 ?_
  refine w_iload_n cd_161_276 rfl ?_
  refine w_aload_n cd_161_277 rfl ?_
  refine w_getfield cd_161_278 (show mt_f 12 327 = some (12, 11) by decide +kernel) h11 h12 h14 ?_
  refine w_lastore cd_161_281 h16 h17 h18 ?_
  exact h19
theorem b_161_282 {d : Nat} {Q : (Option Value ⊕ Nat) → mi_H → Prop} (n sl : Nat) (f : Nat → mi_C) {l1 : Nat} {l2 : Int32} {l3 : Int32} {o4 : Option Value} (h5 : l3 < (0 : Int32) → mi_W d 161 297 [some (.ref l1), some (.int l2), some (.int l3), o4] [] (n, sl, f) Q) (h6 : ¬ (l3 < (0 : Int32)) → mi_W d 161 286 [some (.ref l1), some (.int l2), some (.int l3), o4] [] (n, sl, f) Q) : mi_W d 161 282 [some (.ref l1), some (.int l2), some (.int l3), o4] [] (n, sl, f) Q := by
  refine w_iload_n cd_161_282 rfl ?_
  exact w_iflt cd_161_283 (by decide) h5 h6
theorem b_161_286 {d : Nat} {Q : (Option Value ⊕ Nat) → mi_H → Prop} (n sl : Nat) (f : Nat → mi_C) {l1 : Nat} {l2 : Int32} {l3 : Int32} {o4 : Option Value} {fs5 : List Value} (h6 : f l1 = .inr (12, fs5)) (h7 : l1 < n) (h8 : mi_W d 143 0 (mi_en 4 [.ref l1]) [] (n, sl, f) (mi_Kc d 161 287 [some (.ref l1), some (.int l2), some (.int l3), o4] [] Q)) : mi_W (d + 1) 161 286 [some (.ref l1), some (.int l2), some (.int l3), o4] [] (n, sl, f) Q := by
  refine w_aload_n cd_161_286 rfl ?_
  exact w_invokevirtual cd_161_287 (show mt_m 12 333 = some (143, 0) by decide +kernel) (rest := []) rfl (as := [.ref l1]) rfl h6 (Or.inl h7) ⟨Nat.le_of_ble_eq_true rfl, Nat.le_of_ble_eq_true rfl, Nat.le_of_ble_eq_true rfl⟩ h8
theorem b_161_290 {d : Nat} {Q : (Option Value ⊕ Nat) → mi_H → Prop} (n sl : Nat) (f : Nat → mi_C) {l1 : Nat} {l2 : Int32} {l3 : Int32} {o4 : Option Value} {s5 : Int32} (h6 : s5 = (0 : Int32) → mi_W d 161 297 [some (.ref l1), some (.int l2), some (.int l3), o4] [] (n, sl, f) Q) (h7 : ¬ (s5 = (0 : Int32)) → mi_W d 161 293 [some (.ref l1), some (.int l2), some (.int l3), o4] [] (n, sl, f) Q) : mi_W d 161 290 [some (.ref l1), some (.int l2), some (.int l3), o4] [.int s5] (n, sl, f) Q := by
  exact w_ifeq cd_161_290 (by decide) h6 h7
theorem b_161_293 {d : Nat} {Q : (Option Value ⊕ Nat) → mi_H → Prop} (n sl : Nat) (f : Nat → mi_C) {l1 : Nat} {l2 : Int32} {l3 : Int32} {o4 : Option Value} (h5 : mi_W d 161 298 [some (.ref l1), some (.int l2), some (.int l3), o4] [.int 1] (n, sl, f) Q) : mi_W d 161 293 [some (.ref l1), some (.int l2), some (.int l3), o4] [] (n, sl, f) Q := by
  refine w_iconst (v := 1) cd_161_293 (by decide) ?_
  exact w_goto cd_161_294 (by decide) h5
theorem b_161_297 {d : Nat} {Q : (Option Value ⊕ Nat) → mi_H → Prop} (n sl : Nat) (f : Nat → mi_C) {l1 : Nat} {l2 : Int32} {l3 : Int32} {o4 : Option Value} (h5 : mi_W d 161 298 [some (.ref l1), some (.int l2), some (.int l3), o4] [.int 0] (n, sl, f) Q) : mi_W d 161 297 [some (.ref l1), some (.int l2), some (.int l3), o4] [] (n, sl, f) Q := by
  refine w_iconst (v := 0) cd_161_297 (by decide) ?_
  exact h5
theorem b_161_298 {d : Nat} {Q : (Option Value ⊕ Nat) → mi_H → Prop} (n sl : Nat) (f : Nat → mi_C) {l1 : Nat} {l2 : Int32} {l3 : Int32} {o4 : Option Value} {s5 : Int32} (h6 : s5 = (0 : Int32) → mi_W d 161 558 [some (.ref l1), some (.int l2), some (.int l3), some (.int s5)] [] (n, sl, f) Q) (h7 : ¬ (s5 = (0 : Int32)) → mi_W d 161 303 [some (.ref l1), some (.int l2), some (.int l3), some (.int s5)] [] (n, sl, f) Q) : mi_W d 161 298 [some (.ref l1), some (.int l2), some (.int l3), o4] [.int s5] (n, sl, f) Q := by
  refine w_istore_n (ls' := [some (.ref l1), some (.int l2), some (.int l3), some (.int s5)]) cd_161_298 (Nat.le_of_ble_eq_true rfl) rfl ?_
  refine w_iload_n cd_161_299 rfl ?_
  exact w_ifeq cd_161_300 (by decide) h6 h7
theorem b_161_303 {d : Nat} {Q : (Option Value ⊕ Nat) → mi_H → Prop} (n sl : Nat) (f : Nat → mi_C) {l1 : Nat} {l2 : Int32} {l3 : Int32} {l4 : Int32} {t5 : Nat} (h6 : mi_ts 304 254 11 21 #[60, 97, 120, 120, 120, 120, 157, 180, 254, 254, 203] (l2 : Int32).toInt = some t5) (h7 : mi_W d 161 t5 [some (.ref l1), some (.int l2), some (.int l3), some (.int l4)] [] (n, sl, f) Q) : mi_W d 161 303 [some (.ref l1), some (.int l2), some (.int l3), some (.int l4)] [] (n, sl, f) Q := by
  refine w_iload_n cd_161_303 rfl ?_
  exact w_tableswitch cd_161_304 h6 h7
theorem b_161_364 {d : Nat} {Q : (Option Value ⊕ Nat) → mi_H → Prop} (n sl : Nat) (f : Nat → mi_C) {l1 : Nat} {l2 : Int32} {l3 : Int32} {l4 : Int32} {fs5 : List Value} {x8 : Nat} {fs10 : List Value} (h6 : f l1 = .inr (12, fs5)) (h7 : l1 < n) (h9 : fs5[13]? = some (.ref x8)) (h11 : f l1 = .inr (12, fs10)) (h12 : l1 < n) (h13 : mi_W d 157 0 (mi_en 2 [.ref l1]) [] (n, sl, f) (mi_Kc d 161 370 [some (.ref l1), some (.int l2), some (.int l3), some (.int l4)] [.int l3, .ref x8] Q)) : mi_W (d + 1) 161 364 [some (.ref l1), some (.int l2), some (.int l3), some (.int l4)] [] (n, sl, f) Q := by
  refine w_aload_n cd_161_364 rfl ?_
  refine w_getfield cd_161_365 (show mt_f 12 80 = some (12, 13) by decide +kernel) h6 h7 h9 ?_
  refine w_iload_n cd_161_368 rfl ?_
  refine w_aload_n cd_161_369 rfl ?_
  exact w_invokevirtual cd_161_370 (show mt_m 12 370 = some (157, 0) by decide +kernel) (rest := [.int l3, .ref x8]) rfl (as := [.ref l1]) rfl h11 (Or.inl h12) ⟨Nat.le_of_ble_eq_true rfl, Nat.le_of_ble_eq_true rfl, Nat.le_of_ble_eq_true rfl⟩ h13
theorem b_161_373 {d : Nat} {Q : (Option Value ⊕ Nat) → mi_H → Prop} (n sl : Nat) (f : Nat → mi_C) {l1 : Nat} {l2 : Int32} {l3 : Int32} {l4 : Int32} {s5 : Int32} {s6 : Int32} {s7 : Nat} (m8 i8 : Nat) (g8 : Nat → Int32) (h9 : f s7 = .inl (0, m8, .inl g8)) (h10 : s7 < n) (h11 : mi_ix s6 m8 i8) (h12 : s5 < (0 : Int32) → mi_W d 161 396 [some (.ref l1), some (.int l2), some (.int l3), some (.int l4)] [] (n, sl, (va_up f s7 (.inl (0, m8, .inl (upd g8 i8 s5))))) Q) (h13 : ¬ (s5 < (0 : Int32)) → mi_W d 161 378 [some (.ref l1), some (.int l2), some (.int l3), some (.int l4)] [] (n, sl, (va_up f s7 (.inl (0, m8, .inl (upd g8 i8 s5))))) Q) : mi_W d 161 373 [some (.ref l1), some (.int l2), some (.int l3), some (.int l4)] [.int s5, .int s6, .ref s7] (n, sl, f) Q := by
  refine w_dup_x2_iir cd_161_373 ?_
  refine w_iastore cd_161_374 h9 h10 h11 ?_
  exact w_iflt cd_161_375 (by decide) h12 h13
theorem b_161_378 {d : Nat} {Q : (Option Value ⊕ Nat) → mi_H → Prop} (n sl : Nat) (f : Nat → mi_C) {l1 : Nat} {l2 : Int32} {l3 : Int32} {l4 : Int32} {fs5 : List Value} {x8 : Nat} {fs10 : List Value} (h6 : f l1 = .inr (12, fs5)) (h7 : l1 < n) (h9 : fs5[15]? = some (.ref x8)) (h11 : f l1 = .inr (12, fs10)) (h12 : l1 < n) (h13 : mi_W d 160 0 (mi_en 2 [.ref l1]) [] (n, sl, f) (mi_Kc d 161 384 [some (.ref l1), some (.int l2), some (.int l3), some (.int l4)] [.int l3, .ref x8] Q)) : mi_W (d + 1) 161 378 [some (.ref l1), some (.int l2), some (.int l3), some (.int l4)] [] (n, sl, f) Q := by
  refine w_aload_n cd_161_378 rfl ?_
  refine w_getfield cd_161_379 (show mt_f 12 86 = some (12, 15) by decide +kernel) h6 h7 h9 ?_
  refine w_iload_n cd_161_382 rfl ?_
  refine w_aload_n cd_161_383 rfl ?_
  exact w_invokevirtual cd_161_384 (show mt_m 12 396 = some (160, 0) by decide +kernel) (rest := [.int l3, .ref x8]) rfl (as := [.ref l1]) rfl h11 (Or.inl h12) ⟨Nat.le_of_ble_eq_true rfl, Nat.le_of_ble_eq_true rfl, Nat.le_of_ble_eq_true rfl⟩ h13
theorem b_161_387 {d : Nat} {Q : (Option Value ⊕ Nat) → mi_H → Prop} (n sl : Nat) (f : Nat → mi_C) {l1 : Nat} {l2 : Int32} {l3 : Int32} {l4 : Int32} {s5 : Int32} {s6 : Int32} {s7 : Nat} (m8 i8 : Nat) (g8 : Nat → Int32) (h9 : f s7 = .inl (0, m8, .inl g8)) (h10 : s7 < n) (h11 : mi_ix s6 m8 i8) (h12 : s5 < (0 : Int32) → mi_W d 161 396 [some (.ref l1), some (.int l2), some (.int l3), some (.int l4)] [] (n, sl, (va_up f s7 (.inl (0, m8, .inl (upd g8 i8 s5))))) Q) (h13 : ¬ (s5 < (0 : Int32)) → mi_W d 161 392 [some (.ref l1), some (.int l2), some (.int l3), some (.int l4)] [] (n, sl, (va_up f s7 (.inl (0, m8, .inl (upd g8 i8 s5))))) Q) : mi_W d 161 387 [some (.ref l1), some (.int l2), some (.int l3), some (.int l4)] [.int s5, .int s6, .ref s7] (n, sl, f) Q := by
  refine w_dup_x2_iir cd_161_387 ?_
  refine w_iastore cd_161_388 h9 h10 h11 ?_
  exact w_iflt cd_161_389 (by decide) h12 h13
theorem b_161_392 {d : Nat} {Q : (Option Value ⊕ Nat) → mi_H → Prop} (n sl : Nat) (f : Nat → mi_C) {l1 : Nat} {l2 : Int32} {l3 : Int32} {l4 : Int32} (h5 : mi_W d 161 397 [some (.ref l1), some (.int l2), some (.int l3), some (.int l4)] [.int 1] (n, sl, f) Q) : mi_W d 161 392 [some (.ref l1), some (.int l2), some (.int l3), some (.int l4)] [] (n, sl, f) Q := by
  refine w_iconst (v := 1) cd_161_392 (by decide) ?_
  exact w_goto cd_161_393 (by decide) h5
theorem b_161_396 {d : Nat} {Q : (Option Value ⊕ Nat) → mi_H → Prop} (n sl : Nat) (f : Nat → mi_C) {l1 : Nat} {l2 : Int32} {l3 : Int32} {l4 : Int32} (h5 : mi_W d 161 397 [some (.ref l1), some (.int l2), some (.int l3), some (.int l4)] [.int 0] (n, sl, f) Q) : mi_W d 161 396 [some (.ref l1), some (.int l2), some (.int l3), some (.int l4)] [] (n, sl, f) Q := by
  refine w_iconst (v := 0) cd_161_396 (by decide) ?_
  exact h5
theorem b_161_397 {d : Nat} {Q : (Option Value ⊕ Nat) → mi_H → Prop} (n sl : Nat) (f : Nat → mi_C) {l1 : Nat} {l2 : Int32} {l3 : Int32} {l4 : Int32} {s5 : Int32} (h6 : mi_W d 161 558 [some (.ref l1), some (.int l2), some (.int l3), some (.int s5)] [] (n, sl, f) Q) : mi_W d 161 397 [some (.ref l1), some (.int l2), some (.int l3), some (.int l4)] [.int s5] (n, sl, f) Q := by
  refine w_istore_n (ls' := [some (.ref l1), some (.int l2), some (.int l3), some (.int s5)]) cd_161_397 (Nat.le_of_ble_eq_true rfl) rfl ?_
  exact w_goto cd_161_398 (by decide) h6
theorem b_161_401 {d : Nat} {Q : (Option Value ⊕ Nat) → mi_H → Prop} (n sl : Nat) (f : Nat → mi_C) {l1 : Nat} {l2 : Int32} {l3 : Int32} {l4 : Int32} {fs5 : List Value} {x8 : Nat} {fs10 : List Value} (h6 : f l1 = .inr (12, fs5)) (h7 : l1 < n) (h9 : fs5[13]? = some (.ref x8)) (h11 : f l1 = .inr (12, fs10)) (h12 : l1 < n) (h13 : mi_W d 161 0 (mi_en 4 [.ref l1]) [] (n, sl, f) (mi_Kc d 161 407 [some (.ref l1), some (.int l2), some (.int l3), some (.int l4)] [.int l3, .ref x8] Q)) : mi_W (d + 1) 161 401 [some (.ref l1), some (.int l2), some (.int l3), some (.int l4)] [] (n, sl, f) Q := by
  refine w_aload_n cd_161_401 rfl ?_
  refine w_getfield cd_161_402 (show mt_f 12 80 = some (12, 13) by decide +kernel) h6 h7 h9 ?_
  refine w_iload_n cd_161_405 rfl ?_
  refine w_aload_n cd_161_406 rfl ?_
  exact w_invokevirtual cd_161_407 (show mt_m 12 399 = some (161, 0) by decide +kernel) (rest := [.int l3, .ref x8]) rfl (as := [.ref l1]) rfl h11 (Or.inl h12) ⟨Nat.le_of_ble_eq_true rfl, Nat.le_of_ble_eq_true rfl, Nat.le_of_ble_eq_true rfl⟩ h13
theorem b_161_410 {d : Nat} {Q : (Option Value ⊕ Nat) → mi_H → Prop} (n sl : Nat) (f : Nat → mi_C) {l1 : Nat} {l2 : Int32} {l3 : Int32} {l4 : Int32} {s5 : Int32} {s6 : Int32} {s7 : Nat} (m8 i8 : Nat) (g8 : Nat → Int32) (h9 : f s7 = .inl (0, m8, .inl g8)) (h10 : s7 < n) (h11 : mi_ix s6 m8 i8) (h12 : s5 < (0 : Int32) → mi_W d 161 419 [some (.ref l1), some (.int l2), some (.int l3), some (.int l4)] [] (n, sl, (va_up f s7 (.inl (0, m8, .inl (upd g8 i8 s5))))) Q) (h13 : ¬ (s5 < (0 : Int32)) → mi_W d 161 415 [some (.ref l1), some (.int l2), some (.int l3), some (.int l4)] [] (n, sl, (va_up f s7 (.inl (0, m8, .inl (upd g8 i8 s5))))) Q) : mi_W d 161 410 [some (.ref l1), some (.int l2), some (.int l3), some (.int l4)] [.int s5, .int s6, .ref s7] (n, sl, f) Q := by
  refine w_dup_x2_iir cd_161_410 ?_
  refine w_iastore cd_161_411 h9 h10 h11 ?_
  exact w_iflt cd_161_412 (by decide) h12 h13
theorem b_161_415 {d : Nat} {Q : (Option Value ⊕ Nat) → mi_H → Prop} (n sl : Nat) (f : Nat → mi_C) {l1 : Nat} {l2 : Int32} {l3 : Int32} {l4 : Int32} (h5 : mi_W d 161 420 [some (.ref l1), some (.int l2), some (.int l3), some (.int l4)] [.int 1] (n, sl, f) Q) : mi_W d 161 415 [some (.ref l1), some (.int l2), some (.int l3), some (.int l4)] [] (n, sl, f) Q := by
  refine w_iconst (v := 1) cd_161_415 (by decide) ?_
  exact w_goto cd_161_416 (by decide) h5
theorem b_161_419 {d : Nat} {Q : (Option Value ⊕ Nat) → mi_H → Prop} (n sl : Nat) (f : Nat → mi_C) {l1 : Nat} {l2 : Int32} {l3 : Int32} {l4 : Int32} (h5 : mi_W d 161 420 [some (.ref l1), some (.int l2), some (.int l3), some (.int l4)] [.int 0] (n, sl, f) Q) : mi_W d 161 419 [some (.ref l1), some (.int l2), some (.int l3), some (.int l4)] [] (n, sl, f) Q := by
  refine w_iconst (v := 0) cd_161_419 (by decide) ?_
  exact h5
theorem b_161_420 {d : Nat} {Q : (Option Value ⊕ Nat) → mi_H → Prop} (n sl : Nat) (f : Nat → mi_C) {l1 : Nat} {l2 : Int32} {l3 : Int32} {l4 : Int32} {s5 : Int32} (h6 : mi_W d 161 558 [some (.ref l1), some (.int l2), some (.int l3), some (.int s5)] [] (n, sl, f) Q) : mi_W d 161 420 [some (.ref l1), some (.int l2), some (.int l3), some (.int l4)] [.int s5] (n, sl, f) Q := by
  refine w_istore_n (ls' := [some (.ref l1), some (.int l2), some (.int l3), some (.int s5)]) cd_161_420 (Nat.le_of_ble_eq_true rfl) rfl ?_
  exact w_goto cd_161_421 (by decide) h6
theorem b_161_424 {d : Nat} {Q : (Option Value ⊕ Nat) → mi_H → Prop} (n sl : Nat) (f : Nat → mi_C) {l1 : Nat} {l2 : Int32} {l3 : Int32} {l4 : Int32} {fs5 : List Value} {x8 : Nat} {fs10 : List Value} (h6 : f l1 = .inr (12, fs5)) (h7 : l1 < n) (h9 : fs5[13]? = some (.ref x8)) (h11 : f l1 = .inr (12, fs10)) (h12 : l1 < n) (h13 : mi_W d 161 0 (mi_en 4 [.ref l1]) [] (n, sl, f) (mi_Kc d 161 430 [some (.ref l1), some (.int l2), some (.int l3), some (.int l4)] [.int l3, .ref x8] Q)) : mi_W (d + 1) 161 424 [some (.ref l1), some (.int l2), some (.int l3), some (.int l4)] [] (n, sl, f) Q := by
  refine w_aload_n cd_161_424 rfl ?_
  refine w_getfield cd_161_425 (show mt_f 12 80 = some (12, 13) by decide +kernel) h6 h7 h9 ?_
  refine w_iload_n cd_161_428 rfl ?_
  refine w_aload_n cd_161_429 rfl ?_
  exact w_invokevirtual cd_161_430 (show mt_m 12 399 = some (161, 0) by decide +kernel) (rest := [.int l3, .ref x8]) rfl (as := [.ref l1]) rfl h11 (Or.inl h12) ⟨Nat.le_of_ble_eq_true rfl, Nat.le_of_ble_eq_true rfl, Nat.le_of_ble_eq_true rfl⟩ h13
theorem b_161_433 {d : Nat} {Q : (Option Value ⊕ Nat) → mi_H → Prop} (n sl : Nat) (f : Nat → mi_C) {l1 : Nat} {l2 : Int32} {l3 : Int32} {l4 : Int32} {s5 : Int32} {s6 : Int32} {s7 : Nat} (m8 i8 : Nat) (g8 : Nat → Int32) (h9 : f s7 = .inl (0, m8, .inl g8)) (h10 : s7 < n) (h11 : mi_ix s6 m8 i8) (h12 : s5 < (0 : Int32) → mi_W d 161 456 [some (.ref l1), some (.int l2), some (.int l3), some (.int l4)] [] (n, sl, (va_up f s7 (.inl (0, m8, .inl (upd g8 i8 s5))))) Q) (h13 : ¬ (s5 < (0 : Int32)) → mi_W d 161 438 [some (.ref l1), some (.int l2), some (.int l3), some (.int l4)] [] (n, sl, (va_up f s7 (.inl (0, m8, .inl (upd g8 i8 s5))))) Q) : mi_W d 161 433 [some (.ref l1), some (.int l2), some (.int l3), some (.int l4)] [.int s5, .int s6, .ref s7] (n, sl, f) Q := by
  refine w_dup_x2_iir cd_161_433 ?_
  refine w_iastore cd_161_434 h9 h10 h11 ?_
  exact w_iflt cd_161_435 (by decide) h12 h13
theorem b_161_438 {d : Nat} {Q : (Option Value ⊕ Nat) → mi_H → Prop} (n sl : Nat) (f : Nat → mi_C) {l1 : Nat} {l2 : Int32} {l3 : Int32} {l4 : Int32} {fs5 : List Value} {x8 : Nat} {fs10 : List Value} (h6 : f l1 = .inr (12, fs5)) (h7 : l1 < n) (h9 : fs5[14]? = some (.ref x8)) (h11 : f l1 = .inr (12, fs10)) (h12 : l1 < n) (h13 : mi_W d 161 0 (mi_en 4 [.ref l1]) [] (n, sl, f) (mi_Kc d 161 444 [some (.ref l1), some (.int l2), some (.int l3), some (.int l4)] [.int l3, .ref x8] Q)) : mi_W (d + 1) 161 438 [some (.ref l1), some (.int l2), some (.int l3), some (.int l4)] [] (n, sl, f) Q := by
  refine w_aload_n cd_161_438 rfl ?_
  refine w_getfield cd_161_439 (show mt_f 12 83 = some (12, 14) by decide +kernel) h6 h7 h9 ?_
  refine w_iload_n cd_161_442 rfl ?_
  refine w_aload_n cd_161_443 rfl ?_
  exact w_invokevirtual cd_161_444 (show mt_m 12 399 = some (161, 0) by decide +kernel) (rest := [.int l3, .ref x8]) rfl (as := [.ref l1]) rfl h11 (Or.inl h12) ⟨Nat.le_of_ble_eq_true rfl, Nat.le_of_ble_eq_true rfl, Nat.le_of_ble_eq_true rfl⟩ h13
theorem b_161_447 {d : Nat} {Q : (Option Value ⊕ Nat) → mi_H → Prop} (n sl : Nat) (f : Nat → mi_C) {l1 : Nat} {l2 : Int32} {l3 : Int32} {l4 : Int32} {s5 : Int32} {s6 : Int32} {s7 : Nat} (m8 i8 : Nat) (g8 : Nat → Int32) (h9 : f s7 = .inl (0, m8, .inl g8)) (h10 : s7 < n) (h11 : mi_ix s6 m8 i8) (h12 : s5 < (0 : Int32) → mi_W d 161 456 [some (.ref l1), some (.int l2), some (.int l3), some (.int l4)] [] (n, sl, (va_up f s7 (.inl (0, m8, .inl (upd g8 i8 s5))))) Q) (h13 : ¬ (s5 < (0 : Int32)) → mi_W d 161 452 [some (.ref l1), some (.int l2), some (.int l3), some (.int l4)] [] (n, sl, (va_up f s7 (.inl (0, m8, .inl (upd g8 i8 s5))))) Q) : mi_W d 161 447 [some (.ref l1), some (.int l2), some (.int l3), some (.int l4)] [.int s5, .int s6, .ref s7] (n, sl, f) Q := by
  refine w_dup_x2_iir cd_161_447 ?_
  refine w_iastore cd_161_448 h9 h10 h11 ?_
  exact w_iflt cd_161_449 (by decide) h12 h13
theorem b_161_452 {d : Nat} {Q : (Option Value ⊕ Nat) → mi_H → Prop} (n sl : Nat) (f : Nat → mi_C) {l1 : Nat} {l2 : Int32} {l3 : Int32} {l4 : Int32} (h5 : mi_W d 161 457 [some (.ref l1), some (.int l2), some (.int l3), some (.int l4)] [.int 1] (n, sl, f) Q) : mi_W d 161 452 [some (.ref l1), some (.int l2), some (.int l3), some (.int l4)] [] (n, sl, f) Q := by
  refine w_iconst (v := 1) cd_161_452 (by decide) ?_
  exact w_goto cd_161_453 (by decide) h5
theorem b_161_456 {d : Nat} {Q : (Option Value ⊕ Nat) → mi_H → Prop} (n sl : Nat) (f : Nat → mi_C) {l1 : Nat} {l2 : Int32} {l3 : Int32} {l4 : Int32} (h5 : mi_W d 161 457 [some (.ref l1), some (.int l2), some (.int l3), some (.int l4)] [.int 0] (n, sl, f) Q) : mi_W d 161 456 [some (.ref l1), some (.int l2), some (.int l3), some (.int l4)] [] (n, sl, f) Q := by
  refine w_iconst (v := 0) cd_161_456 (by decide) ?_
  exact h5
theorem b_161_457 {d : Nat} {Q : (Option Value ⊕ Nat) → mi_H → Prop} (n sl : Nat) (f : Nat → mi_C) {l1 : Nat} {l2 : Int32} {l3 : Int32} {l4 : Int32} {s5 : Int32} (h6 : mi_W d 161 558 [some (.ref l1), some (.int l2), some (.int l3), some (.int s5)] [] (n, sl, f) Q) : mi_W d 161 457 [some (.ref l1), some (.int l2), some (.int l3), some (.int l4)] [.int s5] (n, sl, f) Q := by
  refine w_istore_n (ls' := [some (.ref l1), some (.int l2), some (.int l3), some (.int s5)]) cd_161_457 (Nat.le_of_ble_eq_true rfl) rfl ?_
  exact w_goto cd_161_458 (by decide) h6
theorem b_161_461 {d : Nat} {Q : (Option Value ⊕ Nat) → mi_H → Prop} (n sl : Nat) (f : Nat → mi_C) {l1 : Nat} {l2 : Int32} {l3 : Int32} {l4 : Int32} {fs5 : List Value} {x8 : Nat} {fs10 : List Value} (h6 : f l1 = .inr (12, fs5)) (h7 : l1 < n) (h9 : fs5[13]? = some (.ref x8)) (h11 : f l1 = .inr (12, fs10)) (h12 : l1 < n) (h13 : mi_W d 162 0 (mi_en 5 [.ref l1]) [] (n, sl, f) (mi_Kc d 161 467 [some (.ref l1), some (.int l2), some (.int l3), some (.int l4)] [.int l3, .ref x8] Q)) : mi_W (d + 1) 161 461 [some (.ref l1), some (.int l2), some (.int l3), some (.int l4)] [] (n, sl, f) Q := by
  refine w_aload_n cd_161_461 rfl ?_
  refine w_getfield cd_161_462 (show mt_f 12 80 = some (12, 13) by decide +kernel) h6 h7 h9 ?_
  refine w_iload_n cd_161_465 rfl ?_
  refine w_aload_n cd_161_466 rfl ?_
  exact w_invokevirtual cd_161_467 (show mt_m 12 416 = some (162, 0) by decide +kernel) (rest := [.int l3, .ref x8]) rfl (as := [.ref l1]) rfl h11 (Or.inl h12) ⟨Nat.le_of_ble_eq_true rfl, Nat.le_of_ble_eq_true rfl, Nat.le_of_ble_eq_true rfl⟩ h13
theorem b_161_470 {d : Nat} {Q : (Option Value ⊕ Nat) → mi_H → Prop} (n sl : Nat) (f : Nat → mi_C) {l1 : Nat} {l2 : Int32} {l3 : Int32} {l4 : Int32} {s5 : Int32} {s6 : Int32} {s7 : Nat} (m8 i8 : Nat) (g8 : Nat → Int32) (h9 : f s7 = .inl (0, m8, .inl g8)) (h10 : s7 < n) (h11 : mi_ix s6 m8 i8) (h12 : s5 < (0 : Int32) → mi_W d 161 479 [some (.ref l1), some (.int l2), some (.int l3), some (.int l4)] [] (n, sl, (va_up f s7 (.inl (0, m8, .inl (upd g8 i8 s5))))) Q) (h13 : ¬ (s5 < (0 : Int32)) → mi_W d 161 475 [some (.ref l1), some (.int l2), some (.int l3), some (.int l4)] [] (n, sl, (va_up f s7 (.inl (0, m8, .inl (upd g8 i8 s5))))) Q) : mi_W d 161 470 [some (.ref l1), some (.int l2), some (.int l3), some (.int l4)] [.int s5, .int s6, .ref s7] (n, sl, f) Q := by
  refine w_dup_x2_iir cd_161_470 ?_
  refine w_iastore cd_161_471 h9 h10 h11 ?_
  exact w_iflt cd_161_472 (by decide) h12 h13
theorem b_161_475 {d : Nat} {Q : (Option Value ⊕ Nat) → mi_H → Prop} (n sl : Nat) (f : Nat → mi_C) {l1 : Nat} {l2 : Int32} {l3 : Int32} {l4 : Int32} (h5 : mi_W d 161 480 [some (.ref l1), some (.int l2), some (.int l3), some (.int l4)] [.int 1] (n, sl, f) Q) : mi_W d 161 475 [some (.ref l1), some (.int l2), some (.int l3), some (.int l4)] [] (n, sl, f) Q := by
  refine w_iconst (v := 1) cd_161_475 (by decide) ?_
  exact w_goto cd_161_476 (by decide) h5
theorem b_161_479 {d : Nat} {Q : (Option Value ⊕ Nat) → mi_H → Prop} (n sl : Nat) (f : Nat → mi_C) {l1 : Nat} {l2 : Int32} {l3 : Int32} {l4 : Int32} (h5 : mi_W d 161 480 [some (.ref l1), some (.int l2), some (.int l3), some (.int l4)] [.int 0] (n, sl, f) Q) : mi_W d 161 479 [some (.ref l1), some (.int l2), some (.int l3), some (.int l4)] [] (n, sl, f) Q := by
  refine w_iconst (v := 0) cd_161_479 (by decide) ?_
  exact h5
theorem b_161_480 {d : Nat} {Q : (Option Value ⊕ Nat) → mi_H → Prop} (n sl : Nat) (f : Nat → mi_C) {l1 : Nat} {l2 : Int32} {l3 : Int32} {l4 : Int32} {s5 : Int32} (h6 : mi_W d 161 558 [some (.ref l1), some (.int l2), some (.int l3), some (.int s5)] [] (n, sl, f) Q) : mi_W d 161 480 [some (.ref l1), some (.int l2), some (.int l3), some (.int l4)] [.int s5] (n, sl, f) Q := by
  refine w_istore_n (ls' := [some (.ref l1), some (.int l2), some (.int l3), some (.int s5)]) cd_161_480 (Nat.le_of_ble_eq_true rfl) rfl ?_
  exact w_goto cd_161_481 (by decide) h6
theorem b_161_484 {d : Nat} {Q : (Option Value ⊕ Nat) → mi_H → Prop} (n sl : Nat) (f : Nat → mi_C) {l1 : Nat} {l2 : Int32} {l3 : Int32} {l4 : Int32} {fs5 : List Value} {x8 : Nat} {fs10 : List Value} (h6 : f l1 = .inr (12, fs5)) (h7 : l1 < n) (h9 : fs5[13]? = some (.ref x8)) (h11 : f l1 = .inr (12, fs10)) (h12 : l1 < n) (h13 : mi_W d 164 0 (mi_en 2 [.ref l1]) [] (n, sl, f) (mi_Kc d 161 490 [some (.ref l1), some (.int l2), some (.int l3), some (.int l4)] [.int l3, .ref x8] Q)) : mi_W (d + 1) 161 484 [some (.ref l1), some (.int l2), some (.int l3), some (.int l4)] [] (n, sl, f) Q := by
  refine w_aload_n cd_161_484 rfl ?_
  refine w_getfield cd_161_485 (show mt_f 12 80 = some (12, 13) by decide +kernel) h6 h7 h9 ?_
  refine w_iload_n cd_161_488 rfl ?_
  refine w_aload_n cd_161_489 rfl ?_
  exact w_invokevirtual cd_161_490 (show mt_m 12 406 = some (164, 0) by decide +kernel) (rest := [.int l3, .ref x8]) rfl (as := [.ref l1]) rfl h11 (Or.inl h12) ⟨Nat.le_of_ble_eq_true rfl, Nat.le_of_ble_eq_true rfl, Nat.le_of_ble_eq_true rfl⟩ h13
theorem b_161_493 {d : Nat} {Q : (Option Value ⊕ Nat) → mi_H → Prop} (n sl : Nat) (f : Nat → mi_C) {l1 : Nat} {l2 : Int32} {l3 : Int32} {l4 : Int32} {s5 : Int32} {s6 : Int32} {s7 : Nat} (m8 i8 : Nat) (g8 : Nat → Int32) (h9 : f s7 = .inl (0, m8, .inl g8)) (h10 : s7 < n) (h11 : mi_ix s6 m8 i8) (h12 : s5 < (0 : Int32) → mi_W d 161 502 [some (.ref l1), some (.int l2), some (.int l3), some (.int l4)] [] (n, sl, (va_up f s7 (.inl (0, m8, .inl (upd g8 i8 s5))))) Q) (h13 : ¬ (s5 < (0 : Int32)) → mi_W d 161 498 [some (.ref l1), some (.int l2), some (.int l3), some (.int l4)] [] (n, sl, (va_up f s7 (.inl (0, m8, .inl (upd g8 i8 s5))))) Q) : mi_W d 161 493 [some (.ref l1), some (.int l2), some (.int l3), some (.int l4)] [.int s5, .int s6, .ref s7] (n, sl, f) Q := by
  refine w_dup_x2_iir cd_161_493 ?_
  refine w_iastore cd_161_494 h9 h10 h11 ?_
  exact w_iflt cd_161_495 (by decide) h12 h13
theorem b_161_498 {d : Nat} {Q : (Option Value ⊕ Nat) → mi_H → Prop} (n sl : Nat) (f : Nat → mi_C) {l1 : Nat} {l2 : Int32} {l3 : Int32} {l4 : Int32} (h5 : mi_W d 161 503 [some (.ref l1), some (.int l2), some (.int l3), some (.int l4)] [.int 1] (n, sl, f) Q) : mi_W d 161 498 [some (.ref l1), some (.int l2), some (.int l3), some (.int l4)] [] (n, sl, f) Q := by
  refine w_iconst (v := 1) cd_161_498 (by decide) ?_
  exact w_goto cd_161_499 (by decide) h5
theorem b_161_502 {d : Nat} {Q : (Option Value ⊕ Nat) → mi_H → Prop} (n sl : Nat) (f : Nat → mi_C) {l1 : Nat} {l2 : Int32} {l3 : Int32} {l4 : Int32} (h5 : mi_W d 161 503 [some (.ref l1), some (.int l2), some (.int l3), some (.int l4)] [.int 0] (n, sl, f) Q) : mi_W d 161 502 [some (.ref l1), some (.int l2), some (.int l3), some (.int l4)] [] (n, sl, f) Q := by
  refine w_iconst (v := 0) cd_161_502 (by decide) ?_
  exact h5
theorem b_161_503 {d : Nat} {Q : (Option Value ⊕ Nat) → mi_H → Prop} (n sl : Nat) (f : Nat → mi_C) {l1 : Nat} {l2 : Int32} {l3 : Int32} {l4 : Int32} {s5 : Int32} (h6 : mi_W d 161 558 [some (.ref l1), some (.int l2), some (.int l3), some (.int s5)] [] (n, sl, f) Q) : mi_W d 161 503 [some (.ref l1), some (.int l2), some (.int l3), some (.int l4)] [.int s5] (n, sl, f) Q := by
  refine w_istore_n (ls' := [some (.ref l1), some (.int l2), some (.int l3), some (.int s5)]) cd_161_503 (Nat.le_of_ble_eq_true rfl) rfl ?_
  exact w_goto cd_161_504 (by decide) h6
theorem b_161_507 {d : Nat} {Q : (Option Value ⊕ Nat) → mi_H → Prop} (n sl : Nat) (f : Nat → mi_C) {l1 : Nat} {l2 : Int32} {l3 : Int32} {l4 : Int32} {fs5 : List Value} {x8 : Nat} {fs10 : List Value} (h6 : f l1 = .inr (12, fs5)) (h7 : l1 < n) (h9 : fs5[16]? = some (.ref x8)) (h11 : f l1 = .inr (12, fs10)) (h12 : l1 < n) (h13 : mi_W d 165 0 (mi_en 4 [.ref l1]) [] (n, sl, f) (mi_Kc d 161 513 [some (.ref l1), some (.int l2), some (.int l3), some (.int l4)] [.int l3, .ref x8] Q)) : mi_W (d + 1) 161 507 [some (.ref l1), some (.int l2), some (.int l3), some (.int l4)] [] (n, sl, f) Q := by
  refine w_aload_n cd_161_507 rfl ?_
  refine w_getfield cd_161_508 (show mt_f 12 89 = some (12, 16) by decide +kernel) h6 h7 h9 ?_
  refine w_iload_n cd_161_511 rfl ?_
  refine w_aload_n cd_161_512 rfl ?_
  exact w_invokevirtual cd_161_513 (show mt_m 12 401 = some (165, 0) by decide +kernel) (rest := [.int l3, .ref x8]) rfl (as := [.ref l1]) rfl h11 (Or.inl h12) ⟨Nat.le_of_ble_eq_true rfl, Nat.le_of_ble_eq_true rfl, Nat.le_of_ble_eq_true rfl⟩ h13
theorem b_161_516 {d : Nat} {Q : (Option Value ⊕ Nat) → mi_H → Prop} (n sl : Nat) (f : Nat → mi_C) {l1 : Nat} {l2 : Int32} {l3 : Int32} {l4 : Int32} {s5 : Int32} {s6 : Int32} {s7 : Nat} (m8 i8 : Nat) (g8 : Nat → Int32) (h9 : f s7 = .inl (0, m8, .inl g8)) (h10 : s7 < n) (h11 : mi_ix s6 m8 i8) (h12 : s5 < (0 : Int32) → mi_W d 161 553 [some (.ref l1), some (.int l2), some (.int l3), some (.int l4)] [] (n, sl, (va_up f s7 (.inl (0, m8, .inl (upd g8 i8 s5))))) Q) (h13 : ¬ (s5 < (0 : Int32)) → mi_W d 161 521 [some (.ref l1), some (.int l2), some (.int l3), some (.int l4)] [] (n, sl, (va_up f s7 (.inl (0, m8, .inl (upd g8 i8 s5))))) Q) : mi_W d 161 516 [some (.ref l1), some (.int l2), some (.int l3), some (.int l4)] [.int s5, .int s6, .ref s7] (n, sl, f) Q := by
  refine w_dup_x2_iir cd_161_516 ?_
  refine w_iastore cd_161_517 h9 h10 h11 ?_
  exact w_iflt cd_161_518 (by decide) h12 h13
theorem b_161_521 {d : Nat} {Q : (Option Value ⊕ Nat) → mi_H → Prop} (n sl : Nat) (f : Nat → mi_C) {l1 : Nat} {l2 : Int32} {l3 : Int32} {l4 : Int32} {fs5 : List Value} {x8 : Nat} {fs10 : List Value} (h6 : f l1 = .inr (12, fs5)) (h7 : l1 < n) (h9 : fs5[13]? = some (.ref x8)) (h11 : f l1 = .inr (12, fs10)) (h12 : l1 < n) (h13 : mi_W d 161 0 (mi_en 4 [.ref l1]) [] (n, sl, f) (mi_Kc d 161 527 [some (.ref l1), some (.int l2), some (.int l3), some (.int l4)] [.int l3, .ref x8] Q)) : mi_W (d + 1) 161 521 [some (.ref l1), some (.int l2), some (.int l3), some (.int l4)] [] (n, sl, f) Q := by
  refine w_aload_n cd_161_521 rfl ?_
  refine w_getfield cd_161_522 (show mt_f 12 80 = some (12, 13) by decide +kernel) h6 h7 h9 ?_
  refine w_iload_n cd_161_525 rfl ?_
  refine w_aload_n cd_161_526 rfl ?_
  exact w_invokevirtual cd_161_527 (show mt_m 12 399 = some (161, 0) by decide +kernel) (rest := [.int l3, .ref x8]) rfl (as := [.ref l1]) rfl h11 (Or.inl h12) ⟨Nat.le_of_ble_eq_true rfl, Nat.le_of_ble_eq_true rfl, Nat.le_of_ble_eq_true rfl⟩ h13
theorem b_161_530 {d : Nat} {Q : (Option Value ⊕ Nat) → mi_H → Prop} (n sl : Nat) (f : Nat → mi_C) {l1 : Nat} {l2 : Int32} {l3 : Int32} {l4 : Int32} {s5 : Int32} {s6 : Int32} {s7 : Nat} (m8 i8 : Nat) (g8 : Nat → Int32) (h9 : f s7 = .inl (0, m8, .inl g8)) (h10 : s7 < n) (h11 : mi_ix s6 m8 i8) (h12 : s5 < (0 : Int32) → mi_W d 161 553 [some (.ref l1), some (.int l2), some (.int l3), some (.int l4)] [] (n, sl, (va_up f s7 (.inl (0, m8, .inl (upd g8 i8 s5))))) Q) (h13 : ¬ (s5 < (0 : Int32)) → mi_W d 161 535 [some (.ref l1), some (.int l2), some (.int l3), some (.int l4)] [] (n, sl, (va_up f s7 (.inl (0, m8, .inl (upd g8 i8 s5))))) Q) : mi_W d 161 530 [some (.ref l1), some (.int l2), some (.int l3), some (.int l4)] [.int s5, .int s6, .ref s7] (n, sl, f) Q := by
  refine w_dup_x2_iir cd_161_530 ?_
  refine w_iastore cd_161_531 h9 h10 h11 ?_
  exact w_iflt cd_161_532 (by decide) h12 h13
theorem b_161_535 {d : Nat} {Q : (Option Value ⊕ Nat) → mi_H → Prop} (n sl : Nat) (f : Nat → mi_C) {l1 : Nat} {l2 : Int32} {l3 : Int32} {l4 : Int32} {fs5 : List Value} {x8 : Nat} {fs10 : List Value} (h6 : f l1 = .inr (12, fs5)) (h7 : l1 < n) (h9 : fs5[14]? = some (.ref x8)) (h11 : f l1 = .inr (12, fs10)) (h12 : l1 < n) (h13 : mi_W d 161 0 (mi_en 4 [.ref l1]) [] (n, sl, f) (mi_Kc d 161 541 [some (.ref l1), some (.int l2), some (.int l3), some (.int l4)] [.int l3, .ref x8] Q)) : mi_W (d + 1) 161 535 [some (.ref l1), some (.int l2), some (.int l3), some (.int l4)] [] (n, sl, f) Q := by
  refine w_aload_n cd_161_535 rfl ?_
  refine w_getfield cd_161_536 (show mt_f 12 83 = some (12, 14) by decide +kernel) h6 h7 h9 ?_
  refine w_iload_n cd_161_539 rfl ?_
  refine w_aload_n cd_161_540 rfl ?_
  exact w_invokevirtual cd_161_541 (show mt_m 12 399 = some (161, 0) by decide +kernel) (rest := [.int l3, .ref x8]) rfl (as := [.ref l1]) rfl h11 (Or.inl h12) ⟨Nat.le_of_ble_eq_true rfl, Nat.le_of_ble_eq_true rfl, Nat.le_of_ble_eq_true rfl⟩ h13
theorem b_161_544 {d : Nat} {Q : (Option Value ⊕ Nat) → mi_H → Prop} (n sl : Nat) (f : Nat → mi_C) {l1 : Nat} {l2 : Int32} {l3 : Int32} {l4 : Int32} {s5 : Int32} {s6 : Int32} {s7 : Nat} (m8 i8 : Nat) (g8 : Nat → Int32) (h9 : f s7 = .inl (0, m8, .inl g8)) (h10 : s7 < n) (h11 : mi_ix s6 m8 i8) (h12 : s5 < (0 : Int32) → mi_W d 161 553 [some (.ref l1), some (.int l2), some (.int l3), some (.int l4)] [] (n, sl, (va_up f s7 (.inl (0, m8, .inl (upd g8 i8 s5))))) Q) (h13 : ¬ (s5 < (0 : Int32)) → mi_W d 161 549 [some (.ref l1), some (.int l2), some (.int l3), some (.int l4)] [] (n, sl, (va_up f s7 (.inl (0, m8, .inl (upd g8 i8 s5))))) Q) : mi_W d 161 544 [some (.ref l1), some (.int l2), some (.int l3), some (.int l4)] [.int s5, .int s6, .ref s7] (n, sl, f) Q := by
  refine w_dup_x2_iir cd_161_544 ?_
  refine w_iastore cd_161_545 h9 h10 h11 ?_
  exact w_iflt cd_161_546 (by decide) h12 h13
theorem b_161_549 {d : Nat} {Q : (Option Value ⊕ Nat) → mi_H → Prop} (n sl : Nat) (f : Nat → mi_C) {l1 : Nat} {l2 : Int32} {l3 : Int32} {l4 : Int32} (h5 : mi_W d 161 554 [some (.ref l1), some (.int l2), some (.int l3), some (.int l4)] [.int 1] (n, sl, f) Q) : mi_W d 161 549 [some (.ref l1), some (.int l2), some (.int l3), some (.int l4)] [] (n, sl, f) Q := by
  refine w_iconst (v := 1) cd_161_549 (by decide) ?_
  exact w_goto cd_161_550 (by decide) h5
theorem b_161_553 {d : Nat} {Q : (Option Value ⊕ Nat) → mi_H → Prop} (n sl : Nat) (f : Nat → mi_C) {l1 : Nat} {l2 : Int32} {l3 : Int32} {l4 : Int32} (h5 : mi_W d 161 554 [some (.ref l1), some (.int l2), some (.int l3), some (.int l4)] [.int 0] (n, sl, f) Q) : mi_W d 161 553 [some (.ref l1), some (.int l2), some (.int l3), some (.int l4)] [] (n, sl, f) Q := by
  refine w_iconst (v := 0) cd_161_553 (by decide) ?_
  exact h5
theorem b_161_554 {d : Nat} {Q : (Option Value ⊕ Nat) → mi_H → Prop} (n sl : Nat) (f : Nat → mi_C) {l1 : Nat} {l2 : Int32} {l3 : Int32} {l4 : Int32} {s5 : Int32} (h6 : mi_W d 161 558 [some (.ref l1), some (.int l2), some (.int l3), some (.int s5)] [] (n, sl, f) Q) : mi_W d 161 554 [some (.ref l1), some (.int l2), some (.int l3), some (.int l4)] [.int s5] (n, sl, f) Q := by
  refine w_istore_n (ls' := [some (.ref l1), some (.int l2), some (.int l3), some (.int s5)]) cd_161_554 (Nat.le_of_ble_eq_true rfl) rfl ?_
  exact w_goto cd_161_555 (by decide) h6
theorem b_161_558 {d : Nat} {Q : (Option Value ⊕ Nat) → mi_H → Prop} (n sl : Nat) (f : Nat → mi_C) {l1 : Nat} {l2 : Int32} {l3 : Int32} {l4 : Int32} {fs5 : List Value} {x8 : Int32} {fs10 : List Value} (h6 : f l1 = .inr (12, fs5)) (h7 : l1 < n) (h9 : fs5[22]? = some (.int x8)) (h11 : f l1 = .inr (12, fs10)) (h12 : l1 < n) (h13 : 22 < fs10.length) (h14 : l4 = (0 : Int32) → mi_W d 161 576 [some (.ref l1), some (.int l2), some (.int l3), some (.int l4)] [] (n, sl, (va_up f l1 (.inr (12, fs10.set 22 (.int (x8 - 1)))))) Q) (h15 : ¬ (l4 = (0 : Int32)) → mi_W d 161 572 [some (.ref l1), some (.int l2), some (.int l3), some (.int l4)] [] (n, sl, (va_up f l1 (.inr (12, fs10.set 22 (.int (x8 - 1)))))) Q) : mi_W d 161 558 [some (.ref l1), some (.int l2), some (.int l3), some (.int l4)] [] (n, sl, f) Q := by
  refine w_aload_n cd_161_558 rfl ?_
  refine w_dup_r cd_161_559 ?_
  refine w_getfield cd_161_560 (show mt_f 12 337 = some (12, 22) by decide +kernel) h6 h7 h9 ?_
  refine w_iconst (v := 1) cd_161_563 (by decide) ?_
  refine w_isub cd_161_564 ?_
  refine w_putfield (w := .int (x8 - 1)) cd_161_565 (show mt_f 12 337 = some (12, 22) by decide +kernel) h11 h12 ⟨h13, rfl, Or.inl (by decide)⟩ ?_
  refine w_iload_n cd_161_568 rfl ?_
  exact w_ifeq cd_161_569 (by decide) h14 h15
theorem b_161_572 {d : Nat} {Q : (Option Value ⊕ Nat) → mi_H → Prop} (n sl : Nat) (f : Nat → mi_C) {l1 : Nat} {l2 : Int32} {l3 : Int32} {l4 : Int32} (h5 : mi_W d 161 577 [some (.ref l1), some (.int l2), some (.int l3), some (.int l4)] [.int l3] (n, sl, f) Q) : mi_W d 161 572 [some (.ref l1), some (.int l2), some (.int l3), some (.int l4)] [] (n, sl, f) Q := by
  refine w_iload_n cd_161_572 rfl ?_
  exact w_goto cd_161_573 (by decide) h5
theorem b_161_576 {d : Nat} {Q : (Option Value ⊕ Nat) → mi_H → Prop} (n sl : Nat) (f : Nat → mi_C) {l1 : Nat} {l2 : Int32} {l3 : Int32} {l4 : Int32} (h5 : mi_W d 161 577 [some (.ref l1), some (.int l2), some (.int l3), some (.int l4)] [.int (-1)] (n, sl, f) Q) : mi_W d 161 576 [some (.ref l1), some (.int l2), some (.int l3), some (.int l4)] [] (n, sl, f) Q := by
  refine w_iconst (v := (-1)) cd_161_576 (by decide) ?_
  exact h5
theorem b_161_577 {d : Nat} {Q : (Option Value ⊕ Nat) → mi_H → Prop} (n sl : Nat) (f : Nat → mi_C) {l1 : Nat} {l2 : Int32} {l3 : Int32} {l4 : Int32} {s5 : Int32} (h6 : Q (.inl (some (.int s5))) (n, sl, f)) : mi_W d 161 577 [some (.ref l1), some (.int l2), some (.int l3), some (.int l4)] [.int s5] (n, sl, f) Q := by
  exact w_ireturn_i cd_161_577 (by decide +kernel) h6
/-! MarloweHostModel.choiceOf()I -/
set_option maxRecDepth 100000 in
theorem mq_162 : mt_q 162 = my_162 := rfl
set_option maxRecDepth 100000 in
theorem ci_162 : mt_inc 0 my_162.cd = true := by decide +kernel
theorem cd_162_0 : mt_cd 162 0 = some (.aload_n 0) := mt_cd_of (q := (0, .aload_n 0, 1)) mq_162 ci_162 (List.mem_append_left _ (show _ ∈ my_162_0 from List.mem_of_getElem? (i := 0) rfl))
theorem cd_162_1 : mt_cd 162 1 = some (.getfield 310) := mt_cd_of (q := (1, .getfield 310, 3)) mq_162 ci_162 (List.mem_append_left _ (show _ ∈ my_162_0 from List.mem_of_getElem? (i := 1) rfl))
theorem cd_162_4 : mt_cd 162 4 = some (.iconst 1) := mt_cd_of (q := (4, .iconst 1, 1)) mq_162 ci_162 (List.mem_append_left _ (show _ ∈ my_162_0 from List.mem_of_getElem? (i := 2) rfl))
theorem cd_162_5 : mt_cd 162 5 = some (.if_icmp .eq 14) := mt_cd_of (q := (5, .if_icmp .eq 14, 3)) mq_162 ci_162 (List.mem_append_left _ (show _ ∈ my_162_0 from List.mem_of_getElem? (i := 3) rfl))
theorem cd_162_8 : mt_cd 162 8 = some (.aload_n 0) := mt_cd_of (q := (8, .aload_n 0, 1)) mq_162 ci_162 (List.mem_append_left _ (show _ ∈ my_162_0 from List.mem_of_getElem? (i := 4) rfl))
theorem cd_162_9 : mt_cd 162 9 = some (.aload_n 0) := mt_cd_of (q := (9, .aload_n 0, 1)) mq_162 ci_162 (List.mem_append_left _ (show _ ∈ my_162_0 from List.mem_of_getElem? (i := 5) rfl))
theorem cd_162_10 : mt_cd 162 10 = some (.getfield 299) := mt_cd_of (q := (10, .getfield 299, 3)) mq_162 ci_162 (List.mem_append_left _ (show _ ∈ my_162_0 from List.mem_of_getElem? (i := 6) rfl))
theorem cd_162_13 : mt_cd 162 13 = some (.invokevirtual 272) := mt_cd_of (q := (13, .invokevirtual 272, 3)) mq_162 ci_162 (List.mem_append_left _ (show _ ∈ my_162_0 from List.mem_of_getElem? (i := 7) rfl))
theorem cd_162_16 : mt_cd 162 16 = some (.pop) := mt_cd_of (q := (16, .pop, 1)) mq_162 ci_162 (List.mem_append_left _ (show _ ∈ my_162_0 from List.mem_of_getElem? (i := 8) rfl))
theorem cd_162_17 : mt_cd 162 17 = some (.iconst (-1)) := mt_cd_of (q := (17, .iconst (-1), 1)) mq_162 ci_162 (List.mem_append_left _ (show _ ∈ my_162_0 from List.mem_of_getElem? (i := 9) rfl))
theorem cd_162_18 : mt_cd 162 18 = some (.ireturn) := mt_cd_of (q := (18, .ireturn, 1)) mq_162 ci_162 (List.mem_append_left _ (show _ ∈ my_162_0 from List.mem_of_getElem? (i := 10) rfl))
theorem cd_162_19 : mt_cd 162 19 = some (.aload_n 0) := mt_cd_of (q := (19, .aload_n 0, 1)) mq_162 ci_162 (List.mem_append_left _ (show _ ∈ my_162_0 from List.mem_of_getElem? (i := 11) rfl))
theorem cd_162_20 : mt_cd 162 20 = some (.getfield 299) := mt_cd_of (q := (20, .getfield 299, 3)) mq_162 ci_162 (List.mem_append_left _ (show _ ∈ my_162_0 from List.mem_of_getElem? (i := 12) rfl))
theorem cd_162_23 : mt_cd 162 23 = some (.istore_n 1) := mt_cd_of (q := (23, .istore_n 1, 1)) mq_162 ci_162 (List.mem_append_left _ (show _ ∈ my_162_0 from List.mem_of_getElem? (i := 13) rfl))
theorem cd_162_24 : mt_cd 162 24 = some (.aload_n 0) := mt_cd_of (q := (24, .aload_n 0, 1)) mq_162 ci_162 (List.mem_append_left _ (show _ ∈ my_162_0 from List.mem_of_getElem? (i := 14) rfl))
theorem cd_162_25 : mt_cd 162 25 = some (.getfield 297) := mt_cd_of (q := (25, .getfield 297, 3)) mq_162 ci_162 (List.mem_append_left _ (show _ ∈ my_162_0 from List.mem_of_getElem? (i := 15) rfl))
theorem cd_162_28 : mt_cd 162 28 = some (.aload_n 0) := mt_cd_of (q := (28, .aload_n 0, 1)) mq_162 ci_162 (List.mem_append_left _ (show _ ∈ my_162_0 from List.mem_of_getElem? (i := 16) rfl))
theorem cd_162_29 : mt_cd 162 29 = some (.getfield 299) := mt_cd_of (q := (29, .getfield 299, 3)) mq_162 ci_162 (List.mem_append_left _ (show _ ∈ my_162_0 from List.mem_of_getElem? (i := 17) rfl))
theorem cd_162_32 : mt_cd 162 32 = some (.isub) := mt_cd_of (q := (32, .isub, 1)) mq_162 ci_162 (List.mem_append_left _ (show _ ∈ my_162_0 from List.mem_of_getElem? (i := 18) rfl))
theorem cd_162_33 : mt_cd 162 33 = some (.istore_n 2) := mt_cd_of (q := (33, .istore_n 2, 1)) mq_162 ci_162 (List.mem_append_left _ (show _ ∈ my_162_0 from List.mem_of_getElem? (i := 19) rfl))
theorem cd_162_34 : mt_cd 162 34 = some (.aload_n 0) := mt_cd_of (q := (34, .aload_n 0, 1)) mq_162 ci_162 (List.mem_append_left _ (show _ ∈ my_162_0 from List.mem_of_getElem? (i := 20) rfl))
theorem cd_162_35 : mt_cd 162 35 = some (.invokevirtual 333) := mt_cd_of (q := (35, .invokevirtual 333, 3)) mq_162 ci_162 (List.mem_append_left _ (show _ ∈ my_162_0 from List.mem_of_getElem? (i := 21) rfl))
theorem cd_162_38 : mt_cd 162 38 = some (.ifCond .ne 5) := mt_cd_of (q := (38, .ifCond .ne 5, 3)) mq_162 ci_162 (List.mem_append_left _ (show _ ∈ my_162_0 from List.mem_of_getElem? (i := 22) rfl))
theorem cd_162_41 : mt_cd 162 41 = some (.iconst (-1)) := mt_cd_of (q := (41, .iconst (-1), 1)) mq_162 ci_162 (List.mem_append_left _ (show _ ∈ my_162_0 from List.mem_of_getElem? (i := 23) rfl))
theorem cd_162_42 : mt_cd 162 42 = some (.ireturn) := mt_cd_of (q := (42, .ireturn, 1)) mq_162 ci_162 (List.mem_append_left _ (show _ ∈ my_162_0 from List.mem_of_getElem? (i := 24) rfl))
theorem cd_162_43 : mt_cd 162 43 = some (.aload_n 0) := mt_cd_of (q := (43, .aload_n 0, 1)) mq_162 ci_162 (List.mem_append_left _ (show _ ∈ my_162_0 from List.mem_of_getElem? (i := 25) rfl))
theorem cd_162_44 : mt_cd 162 44 = some (.getfield 310) := mt_cd_of (q := (44, .getfield 310, 3)) mq_162 ci_162 (List.mem_append_left _ (show _ ∈ my_162_0 from List.mem_of_getElem? (i := 26) rfl))
theorem cd_162_47 : mt_cd 162 47 = some (.iconst 1) := mt_cd_of (q := (47, .iconst 1, 1)) mq_162 ci_162 (List.mem_append_left _ (show _ ∈ my_162_0 from List.mem_of_getElem? (i := 27) rfl))
theorem cd_162_48 : mt_cd 162 48 = some (.if_icmp .eq 14) := mt_cd_of (q := (48, .if_icmp .eq 14, 3)) mq_162 ci_162 (List.mem_append_left _ (show _ ∈ my_162_0 from List.mem_of_getElem? (i := 28) rfl))
theorem cd_162_51 : mt_cd 162 51 = some (.aload_n 0) := mt_cd_of (q := (51, .aload_n 0, 1)) mq_162 ci_162 (List.mem_append_left _ (show _ ∈ my_162_0 from List.mem_of_getElem? (i := 29) rfl))
theorem cd_162_52 : mt_cd 162 52 = some (.aload_n 0) := mt_cd_of (q := (52, .aload_n 0, 1)) mq_162 ci_162 (List.mem_append_left _ (show _ ∈ my_162_0 from List.mem_of_getElem? (i := 30) rfl))
theorem cd_162_53 : mt_cd 162 53 = some (.getfield 299) := mt_cd_of (q := (53, .getfield 299, 3)) mq_162 ci_162 (List.mem_append_left _ (show _ ∈ my_162_0 from List.mem_of_getElem? (i := 31) rfl))
theorem cd_162_56 : mt_cd 162 56 = some (.invokevirtual 272) := mt_cd_of (q := (56, .invokevirtual 272, 3)) mq_162 ci_162 (List.mem_append_left _ (show _ ∈ my_162_0 from List.mem_of_getElem? (i := 32) rfl))
theorem cd_162_59 : mt_cd 162 59 = some (.pop) := mt_cd_of (q := (59, .pop, 1)) mq_162 ci_162 (List.mem_append_left _ (show _ ∈ my_162_0 from List.mem_of_getElem? (i := 33) rfl))
theorem cd_162_60 : mt_cd 162 60 = some (.iconst (-1)) := mt_cd_of (q := (60, .iconst (-1), 1)) mq_162 ci_162 (List.mem_append_left _ (show _ ∈ my_162_0 from List.mem_of_getElem? (i := 34) rfl))
theorem cd_162_61 : mt_cd 162 61 = some (.ireturn) := mt_cd_of (q := (61, .ireturn, 1)) mq_162 ci_162 (List.mem_append_left _ (show _ ∈ my_162_0 from List.mem_of_getElem? (i := 35) rfl))
theorem cd_162_62 : mt_cd 162 62 = some (.iconst 0) := mt_cd_of (q := (62, .iconst 0, 1)) mq_162 ci_162 (List.mem_append_left _ (show _ ∈ my_162_0 from List.mem_of_getElem? (i := 36) rfl))
theorem cd_162_63 : mt_cd 162 63 = some (.istore_n 3) := mt_cd_of (q := (63, .istore_n 3, 1)) mq_162 ci_162 (List.mem_append_left _ (show _ ∈ my_162_0 from List.mem_of_getElem? (i := 37) rfl))
theorem cd_162_64 : mt_cd 162 64 = some (.iload_n 3) := mt_cd_of (q := (64, .iload_n 3, 1)) mq_162 ci_162 (List.mem_append_left _ (show _ ∈ my_162_0 from List.mem_of_getElem? (i := 38) rfl))
theorem cd_162_65 : mt_cd 162 65 = some (.aload_n 0) := mt_cd_of (q := (65, .aload_n 0, 1)) mq_162 ci_162 (List.mem_append_left _ (show _ ∈ my_162_0 from List.mem_of_getElem? (i := 39) rfl))
theorem cd_162_66 : mt_cd 162 66 = some (.getfield 343) := mt_cd_of (q := (66, .getfield 343, 3)) mq_162 ci_162 (List.mem_append_left _ (show _ ∈ my_162_0 from List.mem_of_getElem? (i := 40) rfl))
theorem cd_162_69 : mt_cd 162 69 = some (.if_icmp .ge 28) := mt_cd_of (q := (69, .if_icmp .ge 28, 3)) mq_162 ci_162 (List.mem_append_left _ (show _ ∈ my_162_0 from List.mem_of_getElem? (i := 41) rfl))
theorem cd_162_72 : mt_cd 162 72 = some (.aload_n 0) := mt_cd_of (q := (72, .aload_n 0, 1)) mq_162 ci_162 (List.mem_append_left _ (show _ ∈ my_162_0 from List.mem_of_getElem? (i := 42) rfl))
theorem cd_162_73 : mt_cd 162 73 = some (.aload_n 0) := mt_cd_of (q := (73, .aload_n 0, 1)) mq_162 ci_162 (List.mem_append_left _ (show _ ∈ my_162_0 from List.mem_of_getElem? (i := 43) rfl))
theorem cd_162_74 : mt_cd 162 74 = some (.getfield 111) := mt_cd_of (q := (74, .getfield 111, 3)) mq_162 ci_162 (List.mem_append_left _ (show _ ∈ my_162_0 from List.mem_of_getElem? (i := 44) rfl))
theorem cd_162_77 : mt_cd 162 77 = some (.iload_n 3) := mt_cd_of (q := (77, .iload_n 3, 1)) mq_162 ci_162 (List.mem_append_left _ (show _ ∈ my_162_0 from List.mem_of_getElem? (i := 45) rfl))
theorem cd_162_78 : mt_cd 162 78 = some (.iaload) := mt_cd_of (q := (78, .iaload, 1)) mq_162 ci_162 (List.mem_append_left _ (show _ ∈ my_162_0 from List.mem_of_getElem? (i := 46) rfl))
theorem cd_162_79 : mt_cd 162 79 = some (.aload_n 0) := mt_cd_of (q := (79, .aload_n 0, 1)) mq_162 ci_162 (List.mem_append_left _ (show _ ∈ my_162_0 from List.mem_of_getElem? (i := 47) rfl))
theorem cd_162_80 : mt_cd 162 80 = some (.getfield 114) := mt_cd_of (q := (80, .getfield 114, 3)) mq_162 ci_162 (List.mem_append_left _ (show _ ∈ my_162_0 from List.mem_of_getElem? (i := 48) rfl))
theorem cd_162_83 : mt_cd 162 83 = some (.iload_n 3) := mt_cd_of (q := (83, .iload_n 3, 1)) mq_162 ci_162 (List.mem_append_left _ (show _ ∈ my_162_0 from List.mem_of_getElem? (i := 49) rfl))
theorem cd_162_84 : mt_cd 162 84 = some (.iaload) := mt_cd_of (q := (84, .iaload, 1)) mq_162 ci_162 (List.mem_append_left _ (show _ ∈ my_162_0 from List.mem_of_getElem? (i := 50) rfl))
theorem cd_162_85 : mt_cd 162 85 = some (.invokevirtual 358) := mt_cd_of (q := (85, .invokevirtual 358, 3)) mq_162 ci_162 (List.mem_append_left _ (show _ ∈ my_162_0 from List.mem_of_getElem? (i := 51) rfl))
theorem cd_162_88 : mt_cd 162 88 = some (.ifCond .ne 9) := mt_cd_of (q := (88, .ifCond .ne 9, 3)) mq_162 ci_162 (List.mem_append_left _ (show _ ∈ my_162_0 from List.mem_of_getElem? (i := 52) rfl))
theorem cd_162_91 : mt_cd 162 91 = some (.iinc 3 1) := mt_cd_of (q := (91, .iinc 3 1, 3)) mq_162 ci_162 (List.mem_append_left _ (show _ ∈ my_162_0 from List.mem_of_getElem? (i := 53) rfl))
theorem cd_162_94 : mt_cd 162 94 = some (.goto (-30)) := mt_cd_of (q := (94, .goto (-30), 3)) mq_162 ci_162 (List.mem_append_left _ (show _ ∈ my_162_0 from List.mem_of_getElem? (i := 54) rfl))
theorem cd_162_97 : mt_cd 162 97 = some (.iconst 0) := mt_cd_of (q := (97, .iconst 0, 1)) mq_162 ci_162 (List.mem_append_left _ (show _ ∈ my_162_0 from List.mem_of_getElem? (i := 55) rfl))
theorem cd_162_98 : mt_cd 162 98 = some (.istore 4) := mt_cd_of (q := (98, .istore 4, 2)) mq_162 ci_162 (List.mem_append_left _ (show _ ∈ my_162_0 from List.mem_of_getElem? (i := 56) rfl))
theorem cd_162_100 : mt_cd 162 100 = some (.iload 4) := mt_cd_of (q := (100, .iload 4, 2)) mq_162 ci_162 (List.mem_append_left _ (show _ ∈ my_162_0 from List.mem_of_getElem? (i := 57) rfl))
theorem cd_162_102 : mt_cd 162 102 = some (.aload_n 0) := mt_cd_of (q := (102, .aload_n 0, 1)) mq_162 ci_162 (List.mem_append_left _ (show _ ∈ my_162_0 from List.mem_of_getElem? (i := 58) rfl))
theorem cd_162_103 : mt_cd 162 103 = some (.getfield 349) := mt_cd_of (q := (103, .getfield 349, 3)) mq_162 ci_162 (List.mem_append_left _ (show _ ∈ my_162_0 from List.mem_of_getElem? (i := 59) rfl))
theorem cd_162_106 : mt_cd 162 106 = some (.if_icmp .ge 43) := mt_cd_of (q := (106, .if_icmp .ge 43, 3)) mq_162 ci_162 (List.mem_append_right _ (List.mem_append_left _ (show _ ∈ my_162_1 from List.mem_of_getElem? (i := 0) rfl)))
theorem cd_162_109 : mt_cd 162 109 = some (.aload_n 0) := mt_cd_of (q := (109, .aload_n 0, 1)) mq_162 ci_162 (List.mem_append_right _ (List.mem_append_left _ (show _ ∈ my_162_1 from List.mem_of_getElem? (i := 1) rfl)))
theorem cd_162_110 : mt_cd 162 110 = some (.getfield 135) := mt_cd_of (q := (110, .getfield 135, 3)) mq_162 ci_162 (List.mem_append_right _ (List.mem_append_left _ (show _ ∈ my_162_1 from List.mem_of_getElem? (i := 2) rfl)))
theorem cd_162_113 : mt_cd 162 113 = some (.iload 4) := mt_cd_of (q := (113, .iload 4, 2)) mq_162 ci_162 (List.mem_append_right _ (List.mem_append_left _ (show _ ∈ my_162_1 from List.mem_of_getElem? (i := 3) rfl)))
theorem cd_162_115 : mt_cd 162 115 = some (.iaload) := mt_cd_of (q := (115, .iaload, 1)) mq_162 ci_162 (List.mem_append_right _ (List.mem_append_left _ (show _ ∈ my_162_1 from List.mem_of_getElem? (i := 4) rfl)))
theorem cd_162_116 : mt_cd 162 116 = some (.iload_n 3) := mt_cd_of (q := (116, .iload_n 3, 1)) mq_162 ci_162 (List.mem_append_right _ (List.mem_append_left _ (show _ ∈ my_162_1 from List.mem_of_getElem? (i := 5) rfl)))
theorem cd_162_117 : mt_cd 162 117 = some (.if_icmp .ne 26) := mt_cd_of (q := (117, .if_icmp .ne 26, 3)) mq_162 ci_162 (List.mem_append_right _ (List.mem_append_left _ (show _ ∈ my_162_1 from List.mem_of_getElem? (i := 6) rfl)))
theorem cd_162_120 : mt_cd 162 120 = some (.aload_n 0) := mt_cd_of (q := (120, .aload_n 0, 1)) mq_162 ci_162 (List.mem_append_right _ (List.mem_append_left _ (show _ ∈ my_162_1 from List.mem_of_getElem? (i := 7) rfl)))
theorem cd_162_121 : mt_cd 162 121 = some (.aload_n 0) := mt_cd_of (q := (121, .aload_n 0, 1)) mq_162 ci_162 (List.mem_append_right _ (List.mem_append_left _ (show _ ∈ my_162_1 from List.mem_of_getElem? (i := 8) rfl)))
theorem cd_162_122 : mt_cd 162 122 = some (.getfield 129) := mt_cd_of (q := (122, .getfield 129, 3)) mq_162 ci_162 (List.mem_append_right _ (List.mem_append_left _ (show _ ∈ my_162_1 from List.mem_of_getElem? (i := 9) rfl)))
theorem cd_162_125 : mt_cd 162 125 = some (.iload 4) := mt_cd_of (q := (125, .iload 4, 2)) mq_162 ci_162 (List.mem_append_right _ (List.mem_append_left _ (show _ ∈ my_162_1 from List.mem_of_getElem? (i := 10) rfl)))
theorem cd_162_127 : mt_cd 162 127 = some (.iaload) := mt_cd_of (q := (127, .iaload, 1)) mq_162 ci_162 (List.mem_append_right _ (List.mem_append_left _ (show _ ∈ my_162_1 from List.mem_of_getElem? (i := 11) rfl)))
theorem cd_162_128 : mt_cd 162 128 = some (.aload_n 0) := mt_cd_of (q := (128, .aload_n 0, 1)) mq_162 ci_162 (List.mem_append_right _ (List.mem_append_left _ (show _ ∈ my_162_1 from List.mem_of_getElem? (i := 12) rfl)))
theorem cd_162_129 : mt_cd 162 129 = some (.getfield 132) := mt_cd_of (q := (129, .getfield 132, 3)) mq_162 ci_162 (List.mem_append_right _ (List.mem_append_left _ (show _ ∈ my_162_1 from List.mem_of_getElem? (i := 13) rfl)))
theorem cd_162_132 : mt_cd 162 132 = some (.iload 4) := mt_cd_of (q := (132, .iload 4, 2)) mq_162 ci_162 (List.mem_append_right _ (List.mem_append_left _ (show _ ∈ my_162_1 from List.mem_of_getElem? (i := 14) rfl)))
theorem cd_162_134 : mt_cd 162 134 = some (.iaload) := mt_cd_of (q := (134, .iaload, 1)) mq_162 ci_162 (List.mem_append_right _ (List.mem_append_left _ (show _ ∈ my_162_1 from List.mem_of_getElem? (i := 15) rfl)))
theorem cd_162_135 : mt_cd 162 135 = some (.iload_n 1) := mt_cd_of (q := (135, .iload_n 1, 1)) mq_162 ci_162 (List.mem_append_right _ (List.mem_append_left _ (show _ ∈ my_162_1 from List.mem_of_getElem? (i := 16) rfl)))
theorem cd_162_136 : mt_cd 162 136 = some (.iload_n 2) := mt_cd_of (q := (136, .iload_n 2, 1)) mq_162 ci_162 (List.mem_append_right _ (List.mem_append_left _ (show _ ∈ my_162_1 from List.mem_of_getElem? (i := 17) rfl)))
theorem cd_162_137 : mt_cd 162 137 = some (.invokevirtual 366) := mt_cd_of (q := (137, .invokevirtual 366, 3)) mq_162 ci_162 (List.mem_append_right _ (List.mem_append_left _ (show _ ∈ my_162_1 from List.mem_of_getElem? (i := 18) rfl)))
theorem cd_162_140 : mt_cd 162 140 = some (.ifCond .ne 9) := mt_cd_of (q := (140, .ifCond .ne 9, 3)) mq_162 ci_162 (List.mem_append_right _ (List.mem_append_left _ (show _ ∈ my_162_1 from List.mem_of_getElem? (i := 19) rfl)))
theorem cd_162_143 : mt_cd 162 143 = some (.iinc 4 1) := mt_cd_of (q := (143, .iinc 4 1, 3)) mq_162 ci_162 (List.mem_append_right _ (List.mem_append_left _ (show _ ∈ my_162_1 from List.mem_of_getElem? (i := 20) rfl)))
theorem cd_162_146 : mt_cd 162 146 = some (.goto (-46)) := mt_cd_of (q := (146, .goto (-46), 3)) mq_162 ci_162 (List.mem_append_right _ (List.mem_append_left _ (show _ ∈ my_162_1 from List.mem_of_getElem? (i := 21) rfl)))
theorem cd_162_149 : mt_cd 162 149 = some (.iload 4) := mt_cd_of (q := (149, .iload 4, 2)) mq_162 ci_162 (List.mem_append_right _ (List.mem_append_left _ (show _ ∈ my_162_1 from List.mem_of_getElem? (i := 22) rfl)))
theorem cd_162_151 : mt_cd 162 151 = some (.bipush 8) := mt_cd_of (q := (151, .bipush 8, 2)) mq_162 ci_162 (List.mem_append_right _ (List.mem_append_left _ (show _ ∈ my_162_1 from List.mem_of_getElem? (i := 23) rfl)))
theorem cd_162_153 : mt_cd 162 153 = some (.if_icmp .ne 11) := mt_cd_of (q := (153, .if_icmp .ne 11, 3)) mq_162 ci_162 (List.mem_append_right _ (List.mem_append_left _ (show _ ∈ my_162_1 from List.mem_of_getElem? (i := 24) rfl)))
theorem cd_162_156 : mt_cd 162 156 = some (.aload_n 0) := mt_cd_of (q := (156, .aload_n 0, 1)) mq_162 ci_162 (List.mem_append_right _ (List.mem_append_left _ (show _ ∈ my_162_1 from List.mem_of_getElem? (i := 25) rfl)))
theorem cd_162_157 : mt_cd 162 157 = some (.iload_n 1) := mt_cd_of (q := (157, .iload_n 1, 1)) mq_162 ci_162 (List.mem_append_right _ (List.mem_append_left _ (show _ ∈ my_162_1 from List.mem_of_getElem? (i := 26) rfl)))
theorem cd_162_158 : mt_cd 162 158 = some (.invokevirtual 272) := mt_cd_of (q := (158, .invokevirtual 272, 3)) mq_162 ci_162 (List.mem_append_right _ (List.mem_append_left _ (show _ ∈ my_162_1 from List.mem_of_getElem? (i := 27) rfl)))
theorem cd_162_161 : mt_cd 162 161 = some (.pop) := mt_cd_of (q := (161, .pop, 1)) mq_162 ci_162 (List.mem_append_right _ (List.mem_append_left _ (show _ ∈ my_162_1 from List.mem_of_getElem? (i := 28) rfl)))
theorem cd_162_162 : mt_cd 162 162 = some (.iconst (-1)) := mt_cd_of (q := (162, .iconst (-1), 1)) mq_162 ci_162 (List.mem_append_right _ (List.mem_append_left _ (show _ ∈ my_162_1 from List.mem_of_getElem? (i := 29) rfl)))
theorem cd_162_163 : mt_cd 162 163 = some (.ireturn) := mt_cd_of (q := (163, .ireturn, 1)) mq_162 ci_162 (List.mem_append_right _ (List.mem_append_left _ (show _ ∈ my_162_1 from List.mem_of_getElem? (i := 30) rfl)))
theorem cd_162_164 : mt_cd 162 164 = some (.aload_n 0) := mt_cd_of (q := (164, .aload_n 0, 1)) mq_162 ci_162 (List.mem_append_right _ (List.mem_append_left _ (show _ ∈ my_162_1 from List.mem_of_getElem? (i := 31) rfl)))
theorem cd_162_165 : mt_cd 162 165 = some (.invokevirtual 370) := mt_cd_of (q := (165, .invokevirtual 370, 3)) mq_162 ci_162 (List.mem_append_right _ (List.mem_append_left _ (show _ ∈ my_162_1 from List.mem_of_getElem? (i := 32) rfl)))
theorem cd_162_168 : mt_cd 162 168 = some (.ifCond .ge 5) := mt_cd_of (q := (168, .ifCond .ge 5, 3)) mq_162 ci_162 (List.mem_append_right _ (List.mem_append_left _ (show _ ∈ my_162_1 from List.mem_of_getElem? (i := 33) rfl)))
theorem cd_162_171 : mt_cd 162 171 = some (.iconst (-1)) := mt_cd_of (q := (171, .iconst (-1), 1)) mq_162 ci_162 (List.mem_append_right _ (List.mem_append_left _ (show _ ∈ my_162_1 from List.mem_of_getElem? (i := 34) rfl)))
theorem cd_162_172 : mt_cd 162 172 = some (.ireturn) := mt_cd_of (q := (172, .ireturn, 1)) mq_162 ci_162 (List.mem_append_right _ (List.mem_append_left _ (show _ ∈ my_162_1 from List.mem_of_getElem? (i := 35) rfl)))
theorem cd_162_173 : mt_cd 162 173 = some (.iload 4) := mt_cd_of (q := (173, .iload 4, 2)) mq_162 ci_162 (List.mem_append_right _ (List.mem_append_left _ (show _ ∈ my_162_1 from List.mem_of_getElem? (i := 36) rfl)))
theorem cd_162_175 : mt_cd 162 175 = some (.aload_n 0) := mt_cd_of (q := (175, .aload_n 0, 1)) mq_162 ci_162 (List.mem_append_right _ (List.mem_append_left _ (show _ ∈ my_162_1 from List.mem_of_getElem? (i := 37) rfl)))
theorem cd_162_176 : mt_cd 162 176 = some (.getfield 349) := mt_cd_of (q := (176, .getfield 349, 3)) mq_162 ci_162 (List.mem_append_right _ (List.mem_append_left _ (show _ ∈ my_162_1 from List.mem_of_getElem? (i := 38) rfl)))
theorem cd_162_179 : mt_cd 162 179 = some (.if_icmp .ne 37) := mt_cd_of (q := (179, .if_icmp .ne 37, 3)) mq_162 ci_162 (List.mem_append_right _ (List.mem_append_left _ (show _ ∈ my_162_1 from List.mem_of_getElem? (i := 39) rfl)))
theorem cd_162_182 : mt_cd 162 182 = some (.aload_n 0) := mt_cd_of (q := (182, .aload_n 0, 1)) mq_162 ci_162 (List.mem_append_right _ (List.mem_append_left _ (show _ ∈ my_162_1 from List.mem_of_getElem? (i := 40) rfl)))
theorem cd_162_183 : mt_cd 162 183 = some (.getfield 129) := mt_cd_of (q := (183, .getfield 129, 3)) mq_162 ci_162 (List.mem_append_right _ (List.mem_append_left _ (show _ ∈ my_162_1 from List.mem_of_getElem? (i := 41) rfl)))
theorem cd_162_186 : mt_cd 162 186 = some (.iload 4) := mt_cd_of (q := (186, .iload 4, 2)) mq_162 ci_162 (List.mem_append_right _ (List.mem_append_left _ (show _ ∈ my_162_1 from List.mem_of_getElem? (i := 42) rfl)))
theorem cd_162_188 : mt_cd 162 188 = some (.iload_n 1) := mt_cd_of (q := (188, .iload_n 1, 1)) mq_162 ci_162 (List.mem_append_right _ (List.mem_append_left _ (show _ ∈ my_162_1 from List.mem_of_getElem? (i := 43) rfl)))
theorem cd_162_189 : mt_cd 162 189 = some (.iastore) := mt_cd_of (q := (189, .iastore, 1)) mq_162 ci_162 (List.mem_append_right _ (List.mem_append_left _ (show _ ∈ my_162_1 from List.mem_of_getElem? (i := 44) rfl)))
theorem cd_162_190 : mt_cd 162 190 = some (.aload_n 0) := mt_cd_of (q := (190, .aload_n 0, 1)) mq_162 ci_162 (List.mem_append_right _ (List.mem_append_left _ (show _ ∈ my_162_1 from List.mem_of_getElem? (i := 45) rfl)))
theorem cd_162_191 : mt_cd 162 191 = some (.getfield 132) := mt_cd_of (q := (191, .getfield 132, 3)) mq_162 ci_162 (List.mem_append_right _ (List.mem_append_left _ (show _ ∈ my_162_1 from List.mem_of_getElem? (i := 46) rfl)))
theorem cd_162_194 : mt_cd 162 194 = some (.iload 4) := mt_cd_of (q := (194, .iload 4, 2)) mq_162 ci_162 (List.mem_append_right _ (List.mem_append_left _ (show _ ∈ my_162_1 from List.mem_of_getElem? (i := 47) rfl)))
theorem cd_162_196 : mt_cd 162 196 = some (.iload_n 2) := mt_cd_of (q := (196, .iload_n 2, 1)) mq_162 ci_162 (List.mem_append_right _ (List.mem_append_left _ (show _ ∈ my_162_1 from List.mem_of_getElem? (i := 48) rfl)))
theorem cd_162_197 : mt_cd 162 197 = some (.iastore) := mt_cd_of (q := (197, .iastore, 1)) mq_162 ci_162 (List.mem_append_right _ (List.mem_append_left _ (show _ ∈ my_162_1 from List.mem_of_getElem? (i := 49) rfl)))
theorem cd_162_198 : mt_cd 162 198 = some (.aload_n 0) := mt_cd_of (q := (198, .aload_n 0, 1)) mq_162 ci_162 (List.mem_append_right _ (List.mem_append_left _ (show _ ∈ my_162_1 from List.mem_of_getElem? (i := 50) rfl)))
theorem cd_162_199 : mt_cd 162 199 = some (.getfield 135) := mt_cd_of (q := (199, .getfield 135, 3)) mq_162 ci_162 (List.mem_append_right _ (List.mem_append_left _ (show _ ∈ my_162_1 from List.mem_of_getElem? (i := 51) rfl)))
theorem cd_162_202 : mt_cd 162 202 = some (.iload 4) := mt_cd_of (q := (202, .iload 4, 2)) mq_162 ci_162 (List.mem_append_right _ (List.mem_append_left _ (show _ ∈ my_162_1 from List.mem_of_getElem? (i := 52) rfl)))
theorem cd_162_204 : mt_cd 162 204 = some (.iload_n 3) := mt_cd_of (q := (204, .iload_n 3, 1)) mq_162 ci_162 (List.mem_append_right _ (List.mem_append_left _ (show _ ∈ my_162_1 from List.mem_of_getElem? (i := 53) rfl)))
theorem cd_162_205 : mt_cd 162 205 = some (.iastore) := mt_cd_of (q := (205, .iastore, 1)) mq_162 ci_162 (List.mem_append_right _ (List.mem_append_left _ (show _ ∈ my_162_1 from List.mem_of_getElem? (i := 54) rfl)))
theorem cd_162_206 : mt_cd 162 206 = some (.aload_n 0) := mt_cd_of (q := (206, .aload_n 0, 1)) mq_162 ci_162 (List.mem_append_right _ (List.mem_append_left _ (show _ ∈ my_162_1 from List.mem_of_getElem? (i := 55) rfl)))
theorem cd_162_207 : mt_cd 162 207 = some (.dup) := mt_cd_of (q := (207, .dup, 1)) mq_162 ci_162 (List.mem_append_right _ (List.mem_append_left _ (show _ ∈ my_162_1 from List.mem_of_getElem? (i := 56) rfl)))
theorem cd_162_208 : mt_cd 162 208 = some (.getfield 349) := mt_cd_of (q := (208, .getfield 349, 3)) mq_162 ci_162 (List.mem_append_right _ (List.mem_append_left _ (show _ ∈ my_162_1 from List.mem_of_getElem? (i := 57) rfl)))
theorem cd_162_211 : mt_cd 162 211 = some (.iconst 1) := mt_cd_of (q := (211, .iconst 1, 1)) mq_162 ci_162 (List.mem_append_right _ (List.mem_append_left _ (show _ ∈ my_162_1 from List.mem_of_getElem? (i := 58) rfl)))
theorem cd_162_212 : mt_cd 162 212 = some (.iadd) := mt_cd_of (q := (212, .iadd, 1)) mq_162 ci_162 (List.mem_append_right _ (List.mem_append_left _ (show _ ∈ my_162_1 from List.mem_of_getElem? (i := 59) rfl)))
theorem cd_162_213 : mt_cd 162 213 = some (.putfield 349) := mt_cd_of (q := (213, .putfield 349, 3)) mq_162 ci_162 (List.mem_append_right _ (List.mem_append_right _ ((show _ ∈ my_162_2 from List.mem_of_getElem? (i := 0) rfl))))
theorem cd_162_216 : mt_cd 162 216 = some (.iload 4) := mt_cd_of (q := (216, .iload 4, 2)) mq_162 ci_162 (List.mem_append_right _ (List.mem_append_right _ ((show _ ∈ my_162_2 from List.mem_of_getElem? (i := 1) rfl))))
theorem cd_162_218 : mt_cd 162 218 = some (.ireturn) := mt_cd_of (q := (218, .ireturn, 1)) mq_162 ci_162 (List.mem_append_right _ (List.mem_append_right _ ((show _ ∈ my_162_2 from List.mem_of_getElem? (i := 2) rfl))))
theorem b_162_0 {d : Nat} {Q : (Option Value ⊕ Nat) → mi_H → Prop} (n sl : Nat) (f : Nat → mi_C) {l1 : Nat} {o2 : Option Value} {o3 : Option Value} {o4 : Option Value} {o5 : Option Value} {fs6 : List Value} {x9 : Int32} (h7 : f l1 = .inr (12, fs6)) (h8 : l1 < n) (h10 : fs6[8]? = some (.int x9)) (h11 : x9 = 1 → mi_W d 162 19 [some (.ref l1), o2, o3, o4, o5] [] (n, sl, f) Q) (h12 : ¬ (x9 = 1) → mi_W d 162 8 [some (.ref l1), o2, o3, o4, o5] [] (n, sl, f) Q) : mi_W d 162 0 [some (.ref l1), o2, o3, o4, o5] [] (n, sl, f) Q := by
  refine w_aload_n cd_162_0 rfl ?_
  refine w_getfield cd_162_1 (show mt_f 12 310 = some (12, 8) by decide +kernel) h7 h8 h10 ?_
  refine w_iconst (v := 1) cd_162_4 (by decide) ?_
  exact w_if_icmpeq cd_162_5 (by decide) h11 h12
theorem b_162_8 {d : Nat} {Q : (Option Value ⊕ Nat) → mi_H → Prop} (n sl : Nat) (f : Nat → mi_C) {l1 : Nat} {o2 : Option Value} {o3 : Option Value} {o4 : Option Value} {o5 : Option Value} {fs6 : List Value} {x9 : Int32} {fs11 : List Value} (h7 : f l1 = .inr (12, fs6)) (h8 : l1 < n) (h10 : fs6[9]? = some (.int x9)) (h12 : f l1 = .inr (12, fs11)) (h13 : l1 < n) (h14 : mi_W d 141 0 (mi_en 2 [.ref l1, .int x9]) [] (n, sl, f) (mi_Kc d 162 13 [some (.ref l1), o2, o3, o4, o5] [] Q)) : mi_W (d + 1) 162 8 [some (.ref l1), o2, o3, o4, o5] [] (n, sl, f) Q := by
  refine w_aload_n cd_162_8 rfl ?_
  refine w_aload_n cd_162_9 rfl ?_
  refine w_getfield cd_162_10 (show mt_f 12 299 = some (12, 9) by decide +kernel) h7 h8 h10 ?_
  exact w_invokevirtual cd_162_13 (show mt_m 12 272 = some (141, 0) by decide +kernel) (rest := []) rfl (as := [.ref l1, .int x9]) rfl h12 (Or.inl h13) ⟨Nat.le_of_ble_eq_true rfl, Nat.le_of_ble_eq_true rfl, Nat.le_of_ble_eq_true rfl⟩ h14
theorem b_162_16 {d : Nat} {Q : (Option Value ⊕ Nat) → mi_H → Prop} (n sl : Nat) (f : Nat → mi_C) {l1 : Nat} {o2 : Option Value} {o3 : Option Value} {o4 : Option Value} {o5 : Option Value} {s6 : Int32} (h7 : Q (.inl (some (.int (-1)))) (n, sl, f)) : mi_W d 162 16 [some (.ref l1), o2, o3, o4, o5] [.int s6] (n, sl, f) Q := by
  refine w_pop_i cd_162_16 ?_
  refine w_iconst (v := (-1)) cd_162_17 (by decide) ?_
  exact w_ireturn_i cd_162_18 (by decide +kernel) h7
theorem b_162_19 {d : Nat} {Q : (Option Value ⊕ Nat) → mi_H → Prop} (n sl : Nat) (f : Nat → mi_C) {l1 : Nat} {o2 : Option Value} {o3 : Option Value} {o4 : Option Value} {o5 : Option Value} {fs6 : List Value} {x9 : Int32} {fs11 : List Value} {x14 : Int32} {fs16 : List Value} {x19 : Int32} {fs21 : List Value} (h7 : f l1 = .inr (12, fs6)) (h8 : l1 < n) (h10 : fs6[9]? = some (.int x9)) (h12 : f l1 = .inr (12, fs11)) (h13 : l1 < n) (h15 : fs11[10]? = some (.int x14)) (h17 : f l1 = .inr (12, fs16)) (h18 : l1 < n) (h20 : fs16[9]? = some (.int x19)) (h22 : f l1 = .inr (12, fs21)) (h23 : l1 < n) (h24 : mi_W d 143 0 (mi_en 4 [.ref l1]) [] (n, sl, f) (mi_Kc d 162 35 [some (.ref l1), some (.int x9), some (.int (x14 - x19)), o4, o5] [] Q)) : mi_W (d + 1) 162 19 [some (.ref l1), o2, o3, o4, o5] [] (n, sl, f) Q := by
  refine w_aload_n cd_162_19 rfl ?_
  refine w_getfield cd_162_20 (show mt_f 12 299 = some (12, 9) by decide +kernel) h7 h8 h10 ?_
  refine w_istore_n (ls' := [some (.ref l1), some (.int x9), o3, o4, o5]) cd_162_23 (Nat.le_of_ble_eq_true rfl) rfl ?_
  refine w_aload_n cd_162_24 rfl ?_
  refine w_getfield cd_162_25 (show mt_f 12 297 = some (12, 10) by decide +kernel) h12 h13 h15 ?_
  refine w_aload_n cd_162_28 rfl ?_
  refine w_getfield cd_162_29 (show mt_f 12 299 = some (12, 9) by decide +kernel) h17 h18 h20 ?_
  refine w_isub cd_162_32 ?_
  refine w_istore_n (ls' := [some (.ref l1), some (.int x9), some (.int (x14 - x19)), o4, o5]) cd_162_33 (Nat.le_of_ble_eq_true rfl) rfl ?_
  refine w_aload_n cd_162_34 rfl ?_
  exact w_invokevirtual cd_162_35 (show mt_m 12 333 = some (143, 0) by decide +kernel) (rest := []) rfl (as := [.ref l1]) rfl h22 (Or.inl h23) ⟨Nat.le_of_ble_eq_true rfl, Nat.le_of_ble_eq_true rfl, Nat.le_of_ble_eq_true rfl⟩ h24
theorem b_162_38 {d : Nat} {Q : (Option Value ⊕ Nat) → mi_H → Prop} (n sl : Nat) (f : Nat → mi_C) {l1 : Nat} {l2 : Int32} {l3 : Int32} {o4 : Option Value} {o5 : Option Value} {s6 : Int32} (h7 : ¬ s6 = (0 : Int32) → mi_W d 162 43 [some (.ref l1), some (.int l2), some (.int l3), o4, o5] [] (n, sl, f) Q) (h8 : ¬ (¬ s6 = (0 : Int32)) → mi_W d 162 41 [some (.ref l1), some (.int l2), some (.int l3), o4, o5] [] (n, sl, f) Q) : mi_W d 162 38 [some (.ref l1), some (.int l2), some (.int l3), o4, o5] [.int s6] (n, sl, f) Q := by
  exact w_ifne cd_162_38 (by decide) h7 h8
theorem b_162_41 {d : Nat} {Q : (Option Value ⊕ Nat) → mi_H → Prop} (n sl : Nat) (f : Nat → mi_C) {l1 : Nat} {l2 : Int32} {l3 : Int32} {o4 : Option Value} {o5 : Option Value} (h6 : Q (.inl (some (.int (-1)))) (n, sl, f)) : mi_W d 162 41 [some (.ref l1), some (.int l2), some (.int l3), o4, o5] [] (n, sl, f) Q := by
  refine w_iconst (v := (-1)) cd_162_41 (by decide) ?_
  exact w_ireturn_i cd_162_42 (by decide +kernel) h6
theorem b_162_43 {d : Nat} {Q : (Option Value ⊕ Nat) → mi_H → Prop} (n sl : Nat) (f : Nat → mi_C) {l1 : Nat} {l2 : Int32} {l3 : Int32} {o4 : Option Value} {o5 : Option Value} {fs6 : List Value} {x9 : Int32} (h7 : f l1 = .inr (12, fs6)) (h8 : l1 < n) (h10 : fs6[8]? = some (.int x9)) (h11 : x9 = 1 → mi_W d 162 62 [some (.ref l1), some (.int l2), some (.int l3), o4, o5] [] (n, sl, f) Q) (h12 : ¬ (x9 = 1) → mi_W d 162 51 [some (.ref l1), some (.int l2), some (.int l3), o4, o5] [] (n, sl, f) Q) : mi_W d 162 43 [some (.ref l1), some (.int l2), some (.int l3), o4, o5] [] (n, sl, f) Q := by
  refine w_aload_n cd_162_43 rfl ?_
  refine w_getfield cd_162_44 (show mt_f 12 310 = some (12, 8) by decide +kernel) h7 h8 h10 ?_
  refine w_iconst (v := 1) cd_162_47 (by decide) ?_
  exact w_if_icmpeq cd_162_48 (by decide) h11 h12
theorem b_162_51 {d : Nat} {Q : (Option Value ⊕ Nat) → mi_H → Prop} (n sl : Nat) (f : Nat → mi_C) {l1 : Nat} {l2 : Int32} {l3 : Int32} {o4 : Option Value} {o5 : Option Value} {fs6 : List Value} {x9 : Int32} {fs11 : List Value} (h7 : f l1 = .inr (12, fs6)) (h8 : l1 < n) (h10 : fs6[9]? = some (.int x9)) (h12 : f l1 = .inr (12, fs11)) (h13 : l1 < n) (h14 : mi_W d 141 0 (mi_en 2 [.ref l1, .int x9]) [] (n, sl, f) (mi_Kc d 162 56 [some (.ref l1), some (.int l2), some (.int l3), o4, o5] [] Q)) : mi_W (d + 1) 162 51 [some (.ref l1), some (.int l2), some (.int l3), o4, o5] [] (n, sl, f) Q := by
  refine w_aload_n cd_162_51 rfl ?_
  refine w_aload_n cd_162_52 rfl ?_
  refine w_getfield cd_162_53 (show mt_f 12 299 = some (12, 9) by decide +kernel) h7 h8 h10 ?_
  exact w_invokevirtual cd_162_56 (show mt_m 12 272 = some (141, 0) by decide +kernel) (rest := []) rfl (as := [.ref l1, .int x9]) rfl h12 (Or.inl h13) ⟨Nat.le_of_ble_eq_true rfl, Nat.le_of_ble_eq_true rfl, Nat.le_of_ble_eq_true rfl⟩ h14
theorem b_162_59 {d : Nat} {Q : (Option Value ⊕ Nat) → mi_H → Prop} (n sl : Nat) (f : Nat → mi_C) {l1 : Nat} {l2 : Int32} {l3 : Int32} {o4 : Option Value} {o5 : Option Value} {s6 : Int32} (h7 : Q (.inl (some (.int (-1)))) (n, sl, f)) : mi_W d 162 59 [some (.ref l1), some (.int l2), some (.int l3), o4, o5] [.int s6] (n, sl, f) Q := by
  refine w_pop_i cd_162_59 ?_
  refine w_iconst (v := (-1)) cd_162_60 (by decide) ?_
  exact w_ireturn_i cd_162_61 (by decide +kernel) h7
theorem b_162_62 {d : Nat} {Q : (Option Value ⊕ Nat) → mi_H → Prop} (n sl : Nat) (f : Nat → mi_C) {l1 : Nat} {l2 : Int32} {l3 : Int32} {o4 : Option Value} {o5 : Option Value} (h6 : mi_W d 162 64 [some (.ref l1), some (.int l2), some (.int l3), some (.int 0), o5] [] (n, sl, f) Q) : mi_W d 162 62 [some (.ref l1), some (.int l2), some (.int l3), o4, o5] [] (n, sl, f) Q := by
  refine w_iconst (v := 0) cd_162_62 (by decide) ?_
  refine w_istore_n (ls' := [some (.ref l1), some (.int l2), some (.int l3), some (.int 0), o5]) cd_162_63 (Nat.le_of_ble_eq_true rfl) rfl ?_
  exact h6
theorem b_162_64 {d : Nat} {Q : (Option Value ⊕ Nat) → mi_H → Prop} (n sl : Nat) (f : Nat → mi_C) {l1 : Nat} {l2 : Int32} {l3 : Int32} {l4 : Int32} {o5 : Option Value} {fs6 : List Value} {x9 : Int32} (h7 : f l1 = .inr (12, fs6)) (h8 : l1 < n) (h10 : fs6[24]? = some (.int x9)) (h11 : x9 ≤ l4 → mi_W d 162 97 [some (.ref l1), some (.int l2), some (.int l3), some (.int l4), o5] [] (n, sl, f) Q) (h12 : ¬ (x9 ≤ l4) → mi_W d 162 72 [some (.ref l1), some (.int l2), some (.int l3), some (.int l4), o5] [] (n, sl, f) Q) : mi_W d 162 64 [some (.ref l1), some (.int l2), some (.int l3), some (.int l4), o5] [] (n, sl, f) Q := by
  refine w_iload_n cd_162_64 rfl ?_
  refine w_aload_n cd_162_65 rfl ?_
  refine w_getfield cd_162_66 (show mt_f 12 343 = some (12, 24) by decide +kernel) h7 h8 h10 ?_
  exact w_if_icmpge cd_162_69 (by decide) h11 h12
theorem b_162_72 {d : Nat} {Q : (Option Value ⊕ Nat) → mi_H → Prop} (n sl : Nat) (f : Nat → mi_C) {l1 : Nat} {l2 : Int32} {l3 : Int32} {l4 : Int32} {o5 : Option Value} {fs6 : List Value} {x9 : Nat} (m11 i11 : Nat) (g11 : Nat → Int32) {fs15 : List Value} {x18 : Nat} (m20 i20 : Nat) (g20 : Nat → Int32) {fs24 : List Value} (h7 : f l1 = .inr (12, fs6)) (h8 : l1 < n) (h10 : fs6[30]? = some (.ref x9)) (h12 : f x9 = .inl (0, m11, .inl g11)) (h13 : x9 < n ∨ x9 = mi_SC) (h14 : mi_ix l4 m11 i11) (h16 : f l1 = .inr (12, fs15)) (h17 : l1 < n) (h19 : fs15[31]? = some (.ref x18)) (h21 : f x18 = .inl (0, m20, .inl g20)) (h22 : x18 < n ∨ x18 = mi_SC) (h23 : mi_ix l4 m20 i20) (h25 : f l1 = .inr (12, fs24)) (h26 : l1 < n) (h27 : mi_W d 159 0 (mi_en 4 [.ref l1, .int (g11 i11), .int (g20 i20)]) [] (n, sl, f) (mi_Kc d 162 85 [some (.ref l1), some (.int l2), some (.int l3), some (.int l4), o5] [] Q)) : mi_W (d + 1) 162 72 [some (.ref l1), some (.int l2), some (.int l3), some (.int l4), o5] [] (n, sl, f) Q := by
  refine w_aload_n cd_162_72 rfl ?_
  refine w_aload_n cd_162_73 rfl ?_
  refine w_getfield cd_162_74 (show mt_f 12 111 = some (12, 30) by decide +kernel) h7 h8 h10 ?_
  refine w_iload_n cd_162_77 rfl ?_
  refine w_iaload cd_162_78 h12 h13 h14 ?_
  refine w_aload_n cd_162_79 rfl ?_
  refine w_getfield cd_162_80 (show mt_f 12 114 = some (12, 31) by decide +kernel) h16 h17 h19 ?_
  refine w_iload_n cd_162_83 rfl ?_
  refine w_iaload cd_162_84 h21 h22 h23 ?_
  exact w_invokevirtual cd_162_85 (show mt_m 12 358 = some (159, 0) by decide +kernel) (rest := []) rfl (as := [.ref l1, .int (g11 i11), .int (g20 i20)]) rfl h25 (Or.inl h26) ⟨Nat.le_of_ble_eq_true rfl, Nat.le_of_ble_eq_true rfl, Nat.le_of_ble_eq_true rfl⟩ h27
theorem b_162_88 {d : Nat} {Q : (Option Value ⊕ Nat) → mi_H → Prop} (n sl : Nat) (f : Nat → mi_C) {l1 : Nat} {l2 : Int32} {l3 : Int32} {l4 : Int32} {o5 : Option Value} {s6 : Int32} (h7 : ¬ s6 = (0 : Int32) → mi_W d 162 97 [some (.ref l1), some (.int l2), some (.int l3), some (.int l4), o5] [] (n, sl, f) Q) (h8 : ¬ (¬ s6 = (0 : Int32)) → mi_W d 162 91 [some (.ref l1), some (.int l2), some (.int l3), some (.int l4), o5] [] (n, sl, f) Q) : mi_W d 162 88 [some (.ref l1), some (.int l2), some (.int l3), some (.int l4), o5] [.int s6] (n, sl, f) Q := by
  exact w_ifne cd_162_88 (by decide) h7 h8
theorem b_162_91 {d : Nat} {Q : (Option Value ⊕ Nat) → mi_H → Prop} (n sl : Nat) (f : Nat → mi_C) {l1 : Nat} {l2 : Int32} {l3 : Int32} {l4 : Int32} {o5 : Option Value} (h6 : mi_W d 162 64 [some (.ref l1), some (.int l2), some (.int l3), some (.int (l4 + 1)), o5] [] (n, sl, f) Q) : mi_W d 162 91 [some (.ref l1), some (.int l2), some (.int l3), some (.int l4), o5] [] (n, sl, f) Q := by
  refine w_iinc (v := 1) (ls' := [some (.ref l1), some (.int l2), some (.int l3), some (.int (l4 + 1)), o5]) cd_162_91 rfl (by decide) rfl ?_
  exact w_goto cd_162_94 (by decide) h6
theorem b_162_97 {d : Nat} {Q : (Option Value ⊕ Nat) → mi_H → Prop} (n sl : Nat) (f : Nat → mi_C) {l1 : Nat} {l2 : Int32} {l3 : Int32} {l4 : Int32} {o5 : Option Value} (h6 : mi_W d 162 100 [some (.ref l1), some (.int l2), some (.int l3), some (.int l4), some (.int 0)] [] (n, sl, f) Q) : mi_W d 162 97 [some (.ref l1), some (.int l2), some (.int l3), some (.int l4), o5] [] (n, sl, f) Q := by
  refine w_iconst (v := 0) cd_162_97 (by decide) ?_
  refine w_istore (ls' := [some (.ref l1), some (.int l2), some (.int l3), some (.int l4), some (.int 0)]) cd_162_98 (Nat.le_of_ble_eq_true rfl) rfl ?_
  exact h6
theorem b_162_100 {d : Nat} {Q : (Option Value ⊕ Nat) → mi_H → Prop} (n sl : Nat) (f : Nat → mi_C) {l1 : Nat} {l2 : Int32} {l3 : Int32} {l4 : Int32} {l5 : Int32} {fs6 : List Value} {x9 : Int32} (h7 : f l1 = .inr (12, fs6)) (h8 : l1 < n) (h10 : fs6[26]? = some (.int x9)) (h11 : x9 ≤ l5 → mi_W d 162 149 [some (.ref l1), some (.int l2), some (.int l3), some (.int l4), some (.int l5)] [] (n, sl, f) Q) (h12 : ¬ (x9 ≤ l5) → mi_W d 162 109 [some (.ref l1), some (.int l2), some (.int l3), some (.int l4), some (.int l5)] [] (n, sl, f) Q) : mi_W d 162 100 [some (.ref l1), some (.int l2), some (.int l3), some (.int l4), some (.int l5)] [] (n, sl, f) Q := by
  refine w_iload cd_162_100 rfl ?_
  refine w_aload_n cd_162_102 rfl ?_
  refine w_getfield cd_162_103 (show mt_f 12 349 = some (12, 26) by decide +kernel) h7 h8 h10 ?_
  exact w_if_icmpge cd_162_106 (by decide) h11 h12
theorem b_162_109 {d : Nat} {Q : (Option Value ⊕ Nat) → mi_H → Prop} (n sl : Nat) (f : Nat → mi_C) {l1 : Nat} {l2 : Int32} {l3 : Int32} {l4 : Int32} {l5 : Int32} {fs6 : List Value} {x9 : Nat} (m11 i11 : Nat) (g11 : Nat → Int32) (h7 : f l1 = .inr (12, fs6)) (h8 : l1 < n) (h10 : fs6[38]? = some (.ref x9)) (h12 : f x9 = .inl (0, m11, .inl g11)) (h13 : x9 < n ∨ x9 = mi_SC) (h14 : mi_ix l5 m11 i11) (h15 : ¬ (g11 i11) = l4 → mi_W d 162 143 [some (.ref l1), some (.int l2), some (.int l3), some (.int l4), some (.int l5)] [] (n, sl, f) Q) (h16 : ¬ (¬ (g11 i11) = l4) → mi_W d 162 120 [some (.ref l1), some (.int l2), some (.int l3), some (.int l4), some (.int l5)] [] (n, sl, f) Q) : mi_W d 162 109 [some (.ref l1), some (.int l2), some (.int l3), some (.int l4), some (.int l5)] [] (n, sl, f) Q := by
  refine w_aload_n cd_162_109 rfl ?_
  refine w_getfield cd_162_110 (show mt_f 12 135 = some (12, 38) by decide +kernel) h7 h8 h10 ?_
  refine w_iload cd_162_113 rfl ?_
  refine w_iaload cd_162_115 h12 h13 h14 ?_
  refine w_iload_n cd_162_116 rfl ?_
  exact w_if_icmpne cd_162_117 (by decide) h15 h16
theorem b_162_120 {d : Nat} {Q : (Option Value ⊕ Nat) → mi_H → Prop} (n sl : Nat) (f : Nat → mi_C) {l1 : Nat} {l2 : Int32} {l3 : Int32} {l4 : Int32} {l5 : Int32} {fs6 : List Value} {x9 : Nat} (m11 i11 : Nat) (g11 : Nat → Int32) {fs15 : List Value} {x18 : Nat} (m20 i20 : Nat) (g20 : Nat → Int32) {fs24 : List Value} (h7 : f l1 = .inr (12, fs6)) (h8 : l1 < n) (h10 : fs6[36]? = some (.ref x9)) (h12 : f x9 = .inl (0, m11, .inl g11)) (h13 : x9 < n ∨ x9 = mi_SC) (h14 : mi_ix l5 m11 i11) (h16 : f l1 = .inr (12, fs15)) (h17 : l1 < n) (h19 : fs15[37]? = some (.ref x18)) (h21 : f x18 = .inl (0, m20, .inl g20)) (h22 : x18 < n ∨ x18 = mi_SC) (h23 : mi_ix l5 m20 i20) (h25 : f l1 = .inr (12, fs24)) (h26 : l1 < n) (h27 : mi_W d 163 0 (mi_en 6 [.ref l1, .int (g11 i11), .int (g20 i20), .int l2, .int l3]) [] (n, sl, f) (mi_Kc d 162 137 [some (.ref l1), some (.int l2), some (.int l3), some (.int l4), some (.int l5)] [] Q)) : mi_W (d + 1) 162 120 [some (.ref l1), some (.int l2), some (.int l3), some (.int l4), some (.int l5)] [] (n, sl, f) Q := by
  refine w_aload_n cd_162_120 rfl ?_
  refine w_aload_n cd_162_121 rfl ?_
  refine w_getfield cd_162_122 (show mt_f 12 129 = some (12, 36) by decide +kernel) h7 h8 h10 ?_
  refine w_iload cd_162_125 rfl ?_
  refine w_iaload cd_162_127 h12 h13 h14 ?_
  refine w_aload_n cd_162_128 rfl ?_
  refine w_getfield cd_162_129 (show mt_f 12 132 = some (12, 37) by decide +kernel) h16 h17 h19 ?_
  refine w_iload cd_162_132 rfl ?_
  refine w_iaload cd_162_134 h21 h22 h23 ?_
  refine w_iload_n cd_162_135 rfl ?_
  refine w_iload_n cd_162_136 rfl ?_
  exact w_invokevirtual cd_162_137 (show mt_m 12 366 = some (163, 0) by decide +kernel) (rest := []) rfl (as := [.ref l1, .int (g11 i11), .int (g20 i20), .int l2, .int l3]) rfl h25 (Or.inl h26) ⟨Nat.le_of_ble_eq_true rfl, Nat.le_of_ble_eq_true rfl, Nat.le_of_ble_eq_true rfl⟩ h27
theorem b_162_140 {d : Nat} {Q : (Option Value ⊕ Nat) → mi_H → Prop} (n sl : Nat) (f : Nat → mi_C) {l1 : Nat} {l2 : Int32} {l3 : Int32} {l4 : Int32} {l5 : Int32} {s6 : Int32} (h7 : ¬ s6 = (0 : Int32) → mi_W d 162 149 [some (.ref l1), some (.int l2), some (.int l3), some (.int l4), some (.int l5)] [] (n, sl, f) Q) (h8 : ¬ (¬ s6 = (0 : Int32)) → mi_W d 162 143 [some (.ref l1), some (.int l2), some (.int l3), some (.int l4), some (.int l5)] [] (n, sl, f) Q) : mi_W d 162 140 [some (.ref l1), some (.int l2), some (.int l3), some (.int l4), some (.int l5)] [.int s6] (n, sl, f) Q := by
  exact w_ifne cd_162_140 (by decide) h7 h8
theorem b_162_143 {d : Nat} {Q : (Option Value ⊕ Nat) → mi_H → Prop} (n sl : Nat) (f : Nat → mi_C) {l1 : Nat} {l2 : Int32} {l3 : Int32} {l4 : Int32} {l5 : Int32} (h6 : mi_W d 162 100 [some (.ref l1), some (.int l2), some (.int l3), some (.int l4), some (.int (l5 + 1))] [] (n, sl, f) Q) : mi_W d 162 143 [some (.ref l1), some (.int l2), some (.int l3), some (.int l4), some (.int l5)] [] (n, sl, f) Q := by
  refine w_iinc (v := 1) (ls' := [some (.ref l1), some (.int l2), some (.int l3), some (.int l4), some (.int (l5 + 1))]) cd_162_143 rfl (by decide) rfl ?_
  exact w_goto cd_162_146 (by decide) h6
theorem b_162_149 {d : Nat} {Q : (Option Value ⊕ Nat) → mi_H → Prop} (n sl : Nat) (f : Nat → mi_C) {l1 : Nat} {l2 : Int32} {l3 : Int32} {l4 : Int32} {l5 : Int32} (h6 : ¬ l5 = 8 → mi_W d 162 164 [some (.ref l1), some (.int l2), some (.int l3), some (.int l4), some (.int l5)] [] (n, sl, f) Q) (h7 : ¬ (¬ l5 = 8) → mi_W d 162 156 [some (.ref l1), some (.int l2), some (.int l3), some (.int l4), some (.int l5)] [] (n, sl, f) Q) : mi_W d 162 149 [some (.ref l1), some (.int l2), some (.int l3), some (.int l4), some (.int l5)] [] (n, sl, f) Q := by
  refine w_iload cd_162_149 rfl ?_
  refine w_bipush (v := 8) cd_162_151 (by decide) ?_
  exact w_if_icmpne cd_162_153 (by decide) h6 h7
theorem b_162_156 {d : Nat} {Q : (Option Value ⊕ Nat) → mi_H → Prop} (n sl : Nat) (f : Nat → mi_C) {l1 : Nat} {l2 : Int32} {l3 : Int32} {l4 : Int32} {l5 : Int32} {fs6 : List Value} (h7 : f l1 = .inr (12, fs6)) (h8 : l1 < n) (h9 : mi_W d 141 0 (mi_en 2 [.ref l1, .int l2]) [] (n, sl, f) (mi_Kc d 162 158 [some (.ref l1), some (.int l2), some (.int l3), some (.int l4), some (.int l5)] [] Q)) : mi_W (d + 1) 162 156 [some (.ref l1), some (.int l2), some (.int l3), some (.int l4), some (.int l5)] [] (n, sl, f) Q := by
  refine w_aload_n cd_162_156 rfl ?_
  refine w_iload_n cd_162_157 rfl ?_
  exact w_invokevirtual cd_162_158 (show mt_m 12 272 = some (141, 0) by decide +kernel) (rest := []) rfl (as := [.ref l1, .int l2]) rfl h7 (Or.inl h8) ⟨Nat.le_of_ble_eq_true rfl, Nat.le_of_ble_eq_true rfl, Nat.le_of_ble_eq_true rfl⟩ h9
theorem b_162_161 {d : Nat} {Q : (Option Value ⊕ Nat) → mi_H → Prop} (n sl : Nat) (f : Nat → mi_C) {l1 : Nat} {l2 : Int32} {l3 : Int32} {l4 : Int32} {l5 : Int32} {s6 : Int32} (h7 : Q (.inl (some (.int (-1)))) (n, sl, f)) : mi_W d 162 161 [some (.ref l1), some (.int l2), some (.int l3), some (.int l4), some (.int l5)] [.int s6] (n, sl, f) Q := by
  refine w_pop_i cd_162_161 ?_
  refine w_iconst (v := (-1)) cd_162_162 (by decide) ?_
  exact w_ireturn_i cd_162_163 (by decide +kernel) h7
theorem b_162_164 {d : Nat} {Q : (Option Value ⊕ Nat) → mi_H → Prop} (n sl : Nat) (f : Nat → mi_C) {l1 : Nat} {l2 : Int32} {l3 : Int32} {l4 : Int32} {l5 : Int32} {fs6 : List Value} (h7 : f l1 = .inr (12, fs6)) (h8 : l1 < n) (h9 : mi_W d 157 0 (mi_en 2 [.ref l1]) [] (n, sl, f) (mi_Kc d 162 165 [some (.ref l1), some (.int l2), some (.int l3), some (.int l4), some (.int l5)] [] Q)) : mi_W (d + 1) 162 164 [some (.ref l1), some (.int l2), some (.int l3), some (.int l4), some (.int l5)] [] (n, sl, f) Q := by
  refine w_aload_n cd_162_164 rfl ?_
  exact w_invokevirtual cd_162_165 (show mt_m 12 370 = some (157, 0) by decide +kernel) (rest := []) rfl (as := [.ref l1]) rfl h7 (Or.inl h8) ⟨Nat.le_of_ble_eq_true rfl, Nat.le_of_ble_eq_true rfl, Nat.le_of_ble_eq_true rfl⟩ h9
theorem b_162_168 {d : Nat} {Q : (Option Value ⊕ Nat) → mi_H → Prop} (n sl : Nat) (f : Nat → mi_C) {l1 : Nat} {l2 : Int32} {l3 : Int32} {l4 : Int32} {l5 : Int32} {s6 : Int32} (h7 : (0 : Int32) ≤ s6 → mi_W d 162 173 [some (.ref l1), some (.int l2), some (.int l3), some (.int l4), some (.int l5)] [] (n, sl, f) Q) (h8 : ¬ ((0 : Int32) ≤ s6) → mi_W d 162 171 [some (.ref l1), some (.int l2), some (.int l3), some (.int l4), some (.int l5)] [] (n, sl, f) Q) : mi_W d 162 168 [some (.ref l1), some (.int l2), some (.int l3), some (.int l4), some (.int l5)] [.int s6] (n, sl, f) Q := by
  exact w_ifge cd_162_168 (by decide) h7 h8
theorem b_162_171 {d : Nat} {Q : (Option Value ⊕ Nat) → mi_H → Prop} (n sl : Nat) (f : Nat → mi_C) {l1 : Nat} {l2 : Int32} {l3 : Int32} {l4 : Int32} {l5 : Int32} (h6 : Q (.inl (some (.int (-1)))) (n, sl, f)) : mi_W d 162 171 [some (.ref l1), some (.int l2), some (.int l3), some (.int l4), some (.int l5)] [] (n, sl, f) Q := by
  refine w_iconst (v := (-1)) cd_162_171 (by decide) ?_
  exact w_ireturn_i cd_162_172 (by decide +kernel) h6
theorem b_162_173 {d : Nat} {Q : (Option Value ⊕ Nat) → mi_H → Prop} (n sl : Nat) (f : Nat → mi_C) {l1 : Nat} {l2 : Int32} {l3 : Int32} {l4 : Int32} {l5 : Int32} {fs6 : List Value} {x9 : Int32} (h7 : f l1 = .inr (12, fs6)) (h8 : l1 < n) (h10 : fs6[26]? = some (.int x9)) (h11 : ¬ l5 = x9 → mi_W d 162 216 [some (.ref l1), some (.int l2), some (.int l3), some (.int l4), some (.int l5)] [] (n, sl, f) Q) (h12 : ¬ (¬ l5 = x9) → mi_W d 162 182 [some (.ref l1), some (.int l2), some (.int l3), some (.int l4), some (.int l5)] [] (n, sl, f) Q) : mi_W d 162 173 [some (.ref l1), some (.int l2), some (.int l3), some (.int l4), some (.int l5)] [] (n, sl, f) Q := by
  refine w_iload cd_162_173 rfl ?_
  refine w_aload_n cd_162_175 rfl ?_
  refine w_getfield cd_162_176 (show mt_f 12 349 = some (12, 26) by decide +kernel) h7 h8 h10 ?_
  exact w_if_icmpne cd_162_179 (by decide) h11 h12
theorem b_162_182 {d : Nat} {Q : (Option Value ⊕ Nat) → mi_H → Prop} (n sl : Nat) (f : Nat → mi_C) {l1 : Nat} {l2 : Int32} {l3 : Int32} {l4 : Int32} {l5 : Int32} {fs6 : List Value} {x9 : Nat} (m11 i11 : Nat) (g11 : Nat → Int32) {fs15 : List Value} {x18 : Nat} (m20 i20 : Nat) (g20 : Nat → Int32) {fs24 : List Value} {x27 : Nat} (m29 i29 : Nat) (g29 : Nat → Int32) {fs33 : List Value} {x36 : Int32} {fs38 : List Value} (h7 : f l1 = .inr (12, fs6)) (h8 : l1 < n) (h10 : fs6[36]? = some (.ref x9)) (h12 : f x9 = .inl (0, m11, .inl g11)) (h13 : x9 < n) (h14 : mi_ix l5 m11 i11) (h16 : (va_up f x9 (.inl (0, m11, .inl (upd g11 i11 l2)))) l1 = .inr (12, fs15)) (h17 : l1 < n) (h19 : fs15[37]? = some (.ref x18)) (h21 : (va_up f x9 (.inl (0, m11, .inl (upd g11 i11 l2)))) x18 = .inl (0, m20, .inl g20)) (h22 : x18 < n) (h23 : mi_ix l5 m20 i20) (h25 : (va_up (va_up f x9 (.inl (0, m11, .inl (upd g11 i11 l2)))) x18 (.inl (0, m20, .inl (upd g20 i20 l3)))) l1 = .inr (12, fs24)) (h26 : l1 < n) (h28 : fs24[38]? = some (.ref x27)) (h30 : (va_up (va_up f x9 (.inl (0, m11, .inl (upd g11 i11 l2)))) x18 (.inl (0, m20, .inl (upd g20 i20 l3)))) x27 = .inl (0, m29, .inl g29)) (h31 : x27 < n) (h32 : mi_ix l5 m29 i29) (h34 : (va_up (va_up (va_up f x9 (.inl (0, m11, .inl (upd g11 i11 l2)))) x18 (.inl (0, m20, .inl (upd g20 i20 l3)))) x27 (.inl (0, m29, .inl (upd g29 i29 l4)))) l1 = .inr (12, fs33)) (h35 : l1 < n) (h37 : fs33[26]? = some (.int x36)) (h39 : (va_up (va_up (va_up f x9 (.inl (0, m11, .inl (upd g11 i11 l2)))) x18 (.inl (0, m20, .inl (upd g20 i20 l3)))) x27 (.inl (0, m29, .inl (upd g29 i29 l4)))) l1 = .inr (12, fs38)) (h40 : l1 < n) (h41 : 26 < fs38.length) (h42 : mi_W d 162 216 [some (.ref l1), some (.int l2), some (.int l3), some (.int l4), some (.int l5)] [] (n, sl, (va_up (va_up (va_up (va_up f x9 (.inl (0, m11, .inl (upd g11 i11 l2)))) x18 (.inl (0, m20, .inl (upd g20 i20 l3)))) x27 (.inl (0, m29, .inl (upd g29 i29 l4)))) l1 (.inr (12, fs38.set 26 (.int (x36 + 1)))))) Q) : mi_W d 162 182 [some (.ref l1), some (.int l2), some (.int l3), some (.int l4), some (.int l5)] [] (n, sl, f) Q := by
  refine w_aload_n cd_162_182 rfl ?_
  refine w_getfield cd_162_183 (show mt_f 12 129 = some (12, 36) by decide +kernel) h7 h8 h10 ?_
  refine w_iload cd_162_186 rfl ?_
  refine w_iload_n cd_162_188 rfl ?_
  refine w_iastore cd_162_189 h12 h13 h14 ?_
  refine w_aload_n cd_162_190 rfl ?_
  refine w_getfield cd_162_191 (show mt_f 12 132 = some (12, 37) by decide +kernel) h16 h17 h19 ?_
  refine w_iload cd_162_194 rfl ?_
  refine w_iload_n cd_162_196 rfl ?_
  refine w_iastore cd_162_197 h21 h22 h23 ?_
  refine w_aload_n cd_162_198 rfl ?_
  refine w_getfield cd_162_199 (show mt_f 12 135 = some (12, 38) by decide +kernel) h25 h26 h28 ?_
  refine w_iload cd_162_202 rfl ?_
  refine w_iload_n cd_162_204 rfl ?_
  refine w_iastore cd_162_205 h30 h31 h32 ?_
  refine w_aload_n cd_162_206 rfl ?_
  refine w_dup_r cd_162_207 ?_
  refine w_getfield cd_162_208 (show mt_f 12 349 = some (12, 26) by decide +kernel) h34 h35 h37 ?_
  refine w_iconst (v := 1) cd_162_211 (by decide) ?_
  refine w_iadd cd_162_212 ?_
  refine w_putfield (w := .int (x36 + 1)) cd_162_213 (show mt_f 12 349 = some (12, 26) by decide +kernel) h39 h40 ⟨h41, rfl, Or.inl (by decide)⟩ ?_
  exact h42
theorem b_162_216 {d : Nat} {Q : (Option Value ⊕ Nat) → mi_H → Prop} (n sl : Nat) (f : Nat → mi_C) {l1 : Nat} {l2 : Int32} {l3 : Int32} {l4 : Int32} {l5 : Int32} (h6 : Q (.inl (some (.int l5))) (n, sl, f)) : mi_W d 162 216 [some (.ref l1), some (.int l2), some (.int l3), some (.int l4), some (.int l5)] [] (n, sl, f) Q := by
  refine w_iload cd_162_216 rfl ?_
  exact w_ireturn_i cd_162_218 (by decide +kernel) h6
end
