section
/-! MarloweHostModel.end(I)I -/
set_option maxRecDepth 100000 in
theorem mq_140 : mt_q 140 = my_140 := rfl
set_option maxRecDepth 100000 in
theorem ci_140 : mt_inc 0 my_140.cd = true := by decide +kernel
theorem cd_140_0 : mt_cd 140 0 = some (.aload_n 0) := mt_cd_of (q := (0, .aload_n 0, 1)) mq_140 ci_140 (List.mem_of_getElem? (i := 0) rfl)
theorem cd_140_1 : mt_cd 140 1 = some (.iconst 0) := mt_cd_of (q := (1, .iconst 0, 1)) mq_140 ci_140 (List.mem_of_getElem? (i := 1) rfl)
theorem cd_140_2 : mt_cd 140 2 = some (.putfield 248) := mt_cd_of (q := (2, .putfield 248, 3)) mq_140 ci_140 (List.mem_of_getElem? (i := 2) rfl)
theorem cd_140_5 : mt_cd 140 5 = some (.aload_n 0) := mt_cd_of (q := (5, .aload_n 0, 1)) mq_140 ci_140 (List.mem_of_getElem? (i := 3) rfl)
theorem cd_140_6 : mt_cd 140 6 = some (.iload_n 1) := mt_cd_of (q := (6, .iload_n 1, 1)) mq_140 ci_140 (List.mem_of_getElem? (i := 4) rfl)
theorem cd_140_7 : mt_cd 140 7 = some (.ifCond .lt 18) := mt_cd_of (q := (7, .ifCond .lt 18, 3)) mq_140 ci_140 (List.mem_of_getElem? (i := 5) rfl)
theorem cd_140_10 : mt_cd 140 10 = some (.iload_n 1) := mt_cd_of (q := (10, .iload_n 1, 1)) mq_140 ci_140 (List.mem_of_getElem? (i := 6) rfl)
theorem cd_140_11 : mt_cd 140 11 = some (.sipush 8192) := mt_cd_of (q := (11, .sipush 8192, 3)) mq_140 ci_140 (List.mem_of_getElem? (i := 7) rfl)
theorem cd_140_14 : mt_cd 140 14 = some (.if_icmp .gt 11) := mt_cd_of (q := (14, .if_icmp .gt 11, 3)) mq_140 ci_140 (List.mem_of_getElem? (i := 8) rfl)
theorem cd_140_17 : mt_cd 140 17 = some (.iload_n 1) := mt_cd_of (q := (17, .iload_n 1, 1)) mq_140 ci_140 (List.mem_of_getElem? (i := 9) rfl)
theorem cd_140_18 : mt_cd 140 18 = some (.aload_n 0) := mt_cd_of (q := (18, .aload_n 0, 1)) mq_140 ci_140 (List.mem_of_getElem? (i := 10) rfl)
theorem cd_140_19 : mt_cd 140 19 = some (.getfield 251) := mt_cd_of (q := (19, .getfield 251, 3)) mq_140 ci_140 (List.mem_of_getElem? (i := 11) rfl)
theorem cd_140_22 : mt_cd 140 22 = some (.if_icmp .le 7) := mt_cd_of (q := (22, .if_icmp .le 7, 3)) mq_140 ci_140 (List.mem_of_getElem? (i := 12) rfl)
theorem cd_140_25 : mt_cd 140 25 = some (.iconst 1) := mt_cd_of (q := (25, .iconst 1, 1)) mq_140 ci_140 (List.mem_of_getElem? (i := 13) rfl)
theorem cd_140_26 : mt_cd 140 26 = some (.goto 4) := mt_cd_of (q := (26, .goto 4, 3)) mq_140 ci_140 (List.mem_of_getElem? (i := 14) rfl)
theorem cd_140_29 : mt_cd 140 29 = some (.iconst 0) := mt_cd_of (q := (29, .iconst 0, 1)) mq_140 ci_140 (List.mem_of_getElem? (i := 15) rfl)
theorem cd_140_30 : mt_cd 140 30 = some (.iconst 1) := mt_cd_of (q := (30, .iconst 1, 1)) mq_140 ci_140 (List.mem_of_getElem? (i := 16) rfl)
theorem cd_140_31 : mt_cd 140 31 = some (.invokevirtual 254) := mt_cd_of (q := (31, .invokevirtual 254, 3)) mq_140 ci_140 (List.mem_of_getElem? (i := 17) rfl)
theorem cd_140_34 : mt_cd 140 34 = some (.ifCond .eq 5) := mt_cd_of (q := (34, .ifCond .eq 5, 3)) mq_140 ci_140 (List.mem_of_getElem? (i := 18) rfl)
theorem cd_140_37 : mt_cd 140 37 = some (.iconst 0) := mt_cd_of (q := (37, .iconst 0, 1)) mq_140 ci_140 (List.mem_of_getElem? (i := 19) rfl)
theorem cd_140_38 : mt_cd 140 38 = some (.ireturn) := mt_cd_of (q := (38, .ireturn, 1)) mq_140 ci_140 (List.mem_of_getElem? (i := 20) rfl)
theorem cd_140_39 : mt_cd 140 39 = some (.aload_n 0) := mt_cd_of (q := (39, .aload_n 0, 1)) mq_140 ci_140 (List.mem_of_getElem? (i := 21) rfl)
theorem cd_140_40 : mt_cd 140 40 = some (.iconst 0) := mt_cd_of (q := (40, .iconst 0, 1)) mq_140 ci_140 (List.mem_of_getElem? (i := 22) rfl)
theorem cd_140_41 : mt_cd 140 41 = some (.putfield 251) := mt_cd_of (q := (41, .putfield 251, 3)) mq_140 ci_140 (List.mem_of_getElem? (i := 23) rfl)
theorem cd_140_44 : mt_cd 140 44 = some (.aload_n 0) := mt_cd_of (q := (44, .aload_n 0, 1)) mq_140 ci_140 (List.mem_of_getElem? (i := 24) rfl)
theorem cd_140_45 : mt_cd 140 45 = some (.iconst (-1)) := mt_cd_of (q := (45, .iconst (-1), 1)) mq_140 ci_140 (List.mem_of_getElem? (i := 25) rfl)
theorem cd_140_46 : mt_cd 140 46 = some (.putfield 7) := mt_cd_of (q := (46, .putfield 7, 3)) mq_140 ci_140 (List.mem_of_getElem? (i := 26) rfl)
theorem cd_140_49 : mt_cd 140 49 = some (.aload_n 0) := mt_cd_of (q := (49, .aload_n 0, 1)) mq_140 ci_140 (List.mem_of_getElem? (i := 27) rfl)
theorem cd_140_50 : mt_cd 140 50 = some (.iconst (-1)) := mt_cd_of (q := (50, .iconst (-1), 1)) mq_140 ci_140 (List.mem_of_getElem? (i := 28) rfl)
theorem cd_140_51 : mt_cd 140 51 = some (.putfield 13) := mt_cd_of (q := (51, .putfield 13, 3)) mq_140 ci_140 (List.mem_of_getElem? (i := 29) rfl)
theorem cd_140_54 : mt_cd 140 54 = some (.aload_n 0) := mt_cd_of (q := (54, .aload_n 0, 1)) mq_140 ci_140 (List.mem_of_getElem? (i := 30) rfl)
theorem cd_140_55 : mt_cd 140 55 = some (.iconst 0) := mt_cd_of (q := (55, .iconst 0, 1)) mq_140 ci_140 (List.mem_of_getElem? (i := 31) rfl)
theorem cd_140_56 : mt_cd 140 56 = some (.putfield 258) := mt_cd_of (q := (56, .putfield 258, 3)) mq_140 ci_140 (List.mem_of_getElem? (i := 32) rfl)
theorem cd_140_59 : mt_cd 140 59 = some (.aload_n 0) := mt_cd_of (q := (59, .aload_n 0, 1)) mq_140 ci_140 (List.mem_of_getElem? (i := 33) rfl)
theorem cd_140_60 : mt_cd 140 60 = some (.iload_n 1) := mt_cd_of (q := (60, .iload_n 1, 1)) mq_140 ci_140 (List.mem_of_getElem? (i := 34) rfl)
theorem cd_140_61 : mt_cd 140 61 = some (.putfield 261) := mt_cd_of (q := (61, .putfield 261, 3)) mq_140 ci_140 (List.mem_of_getElem? (i := 35) rfl)
theorem cd_140_64 : mt_cd 140 64 = some (.iconst 0) := mt_cd_of (q := (64, .iconst 0, 1)) mq_140 ci_140 (List.mem_of_getElem? (i := 36) rfl)
theorem cd_140_65 : mt_cd 140 65 = some (.istore_n 2) := mt_cd_of (q := (65, .istore_n 2, 1)) mq_140 ci_140 (List.mem_of_getElem? (i := 37) rfl)
theorem cd_140_66 : mt_cd 140 66 = some (.iload_n 2) := mt_cd_of (q := (66, .iload_n 2, 1)) mq_140 ci_140 (List.mem_of_getElem? (i := 38) rfl)
theorem cd_140_67 : mt_cd 140 67 = some (.iload_n 1) := mt_cd_of (q := (67, .iload_n 1, 1)) mq_140 ci_140 (List.mem_of_getElem? (i := 39) rfl)
theorem cd_140_68 : mt_cd 140 68 = some (.if_icmp .ge 57) := mt_cd_of (q := (68, .if_icmp .ge 57, 3)) mq_140 ci_140 (List.mem_of_getElem? (i := 40) rfl)
theorem cd_140_71 : mt_cd 140 71 = some (.aload_n 0) := mt_cd_of (q := (71, .aload_n 0, 1)) mq_140 ci_140 (List.mem_of_getElem? (i := 41) rfl)
theorem cd_140_72 : mt_cd 140 72 = some (.getfield 20) := mt_cd_of (q := (72, .getfield 20, 3)) mq_140 ci_140 (List.mem_of_getElem? (i := 42) rfl)
theorem cd_140_75 : mt_cd 140 75 = some (.iload_n 2) := mt_cd_of (q := (75, .iload_n 2, 1)) mq_140 ci_140 (List.mem_of_getElem? (i := 43) rfl)
theorem cd_140_76 : mt_cd 140 76 = some (.aload_n 0) := mt_cd_of (q := (76, .aload_n 0, 1)) mq_140 ci_140 (List.mem_of_getElem? (i := 44) rfl)
theorem cd_140_77 : mt_cd 140 77 = some (.getfield 16) := mt_cd_of (q := (77, .getfield 16, 3)) mq_140 ci_140 (List.mem_of_getElem? (i := 45) rfl)
theorem cd_140_80 : mt_cd 140 80 = some (.iload_n 2) := mt_cd_of (q := (80, .iload_n 2, 1)) mq_140 ci_140 (List.mem_of_getElem? (i := 46) rfl)
theorem cd_140_81 : mt_cd 140 81 = some (.iaload) := mt_cd_of (q := (81, .iaload, 1)) mq_140 ci_140 (List.mem_of_getElem? (i := 47) rfl)
theorem cd_140_82 : mt_cd 140 82 = some (.iastore) := mt_cd_of (q := (82, .iastore, 1)) mq_140 ci_140 (List.mem_of_getElem? (i := 48) rfl)
theorem cd_140_83 : mt_cd 140 83 = some (.aload_n 0) := mt_cd_of (q := (83, .aload_n 0, 1)) mq_140 ci_140 (List.mem_of_getElem? (i := 49) rfl)
theorem cd_140_84 : mt_cd 140 84 = some (.getfield 20) := mt_cd_of (q := (84, .getfield 20, 3)) mq_140 ci_140 (List.mem_of_getElem? (i := 50) rfl)
theorem cd_140_87 : mt_cd 140 87 = some (.iload_n 2) := mt_cd_of (q := (87, .iload_n 2, 1)) mq_140 ci_140 (List.mem_of_getElem? (i := 51) rfl)
theorem cd_140_88 : mt_cd 140 88 = some (.iaload) := mt_cd_of (q := (88, .iaload, 1)) mq_140 ci_140 (List.mem_of_getElem? (i := 52) rfl)
theorem cd_140_89 : mt_cd 140 89 = some (.bipush 10) := mt_cd_of (q := (89, .bipush 10, 2)) mq_140 ci_140 (List.mem_of_getElem? (i := 53) rfl)
theorem cd_140_91 : mt_cd 140 91 = some (.if_icmp .eq 28) := mt_cd_of (q := (91, .if_icmp .eq 28, 3)) mq_140 ci_140 (List.mem_of_getElem? (i := 54) rfl)
theorem cd_140_94 : mt_cd 140 94 = some (.aload_n 0) := mt_cd_of (q := (94, .aload_n 0, 1)) mq_140 ci_140 (List.mem_of_getElem? (i := 55) rfl)
theorem cd_140_95 : mt_cd 140 95 = some (.getfield 20) := mt_cd_of (q := (95, .getfield 20, 3)) mq_140 ci_140 (List.mem_of_getElem? (i := 56) rfl)
theorem cd_140_98 : mt_cd 140 98 = some (.iload_n 2) := mt_cd_of (q := (98, .iload_n 2, 1)) mq_140 ci_140 (List.mem_of_getElem? (i := 57) rfl)
theorem cd_140_99 : mt_cd 140 99 = some (.iaload) := mt_cd_of (q := (99, .iaload, 1)) mq_140 ci_140 (List.mem_of_getElem? (i := 58) rfl)
theorem cd_140_100 : mt_cd 140 100 = some (.i2l) := mt_cd_of (q := (100, .i2l, 1)) mq_140 ci_140 (List.mem_of_getElem? (i := 59) rfl)
theorem cd_140_101 : mt_cd 140 101 = some (.ldc2_w 264) := mt_cd_of (q := (101, .ldc2_w 264, 3)) mq_140 ci_140 (List.mem_of_getElem? (i := 60) rfl)
theorem cd_140_104 : mt_cd 140 104 = some (.ldc2_w 266) := mt_cd_of (q := (104, .ldc2_w 266, 3)) mq_140 ci_140 (List.mem_of_getElem? (i := 61) rfl)
theorem cd_140_107 : mt_cd 140 107 = some (.invokestatic 268) := mt_cd_of (q := (107, .invokestatic 268, 3)) mq_140 ci_140 (List.mem_of_getElem? (i := 62) rfl)
theorem cd_140_110 : mt_cd 140 110 = some (.ifCond .ne 9) := mt_cd_of (q := (110, .ifCond .ne 9, 3)) mq_140 ci_140 (List.mem_of_getElem? (i := 63) rfl)
theorem cd_140_113 : mt_cd 140 113 = some (.aload_n 0) := mt_cd_of (q := (113, .aload_n 0, 1)) mq_140 ci_140 (List.mem_of_getElem? (i := 64) rfl)
theorem cd_140_114 : mt_cd 140 114 = some (.iload_n 2) := mt_cd_of (q := (114, .iload_n 2, 1)) mq_140 ci_140 (List.mem_of_getElem? (i := 65) rfl)
theorem cd_140_115 : mt_cd 140 115 = some (.invokevirtual 272) := mt_cd_of (q := (115, .invokevirtual 272, 3)) mq_140 ci_140 (List.mem_of_getElem? (i := 66) rfl)
theorem cd_140_118 : mt_cd 140 118 = some (.pop) := mt_cd_of (q := (118, .pop, 1)) mq_140 ci_140 (List.mem_of_getElem? (i := 67) rfl)
theorem cd_140_119 : mt_cd 140 119 = some (.iinc 2 1) := mt_cd_of (q := (119, .iinc 2 1, 3)) mq_140 ci_140 (List.mem_of_getElem? (i := 68) rfl)
theorem cd_140_122 : mt_cd 140 122 = some (.goto (-56)) := mt_cd_of (q := (122, .goto (-56), 3)) mq_140 ci_140 (List.mem_of_getElem? (i := 69) rfl)
theorem cd_140_125 : mt_cd 140 125 = some (.aload_n 0) := mt_cd_of (q := (125, .aload_n 0, 1)) mq_140 ci_140 (List.mem_of_getElem? (i := 70) rfl)
theorem cd_140_126 : mt_cd 140 126 = some (.getfield 7) := mt_cd_of (q := (126, .getfield 7, 3)) mq_140 ci_140 (List.mem_of_getElem? (i := 71) rfl)
theorem cd_140_129 : mt_cd 140 129 = some (.ifCond .ge 7) := mt_cd_of (q := (129, .ifCond .ge 7, 3)) mq_140 ci_140 (List.mem_of_getElem? (i := 72) rfl)
theorem cd_140_132 : mt_cd 140 132 = some (.aload_n 0) := mt_cd_of (q := (132, .aload_n 0, 1)) mq_140 ci_140 (List.mem_of_getElem? (i := 73) rfl)
theorem cd_140_133 : mt_cd 140 133 = some (.invokevirtual 276) := mt_cd_of (q := (133, .invokevirtual 276, 3)) mq_140 ci_140 (List.mem_of_getElem? (i := 74) rfl)
theorem cd_140_136 : mt_cd 140 136 = some (.aload_n 0) := mt_cd_of (q := (136, .aload_n 0, 1)) mq_140 ci_140 (List.mem_of_getElem? (i := 75) rfl)
theorem cd_140_137 : mt_cd 140 137 = some (.aload_n 0) := mt_cd_of (q := (137, .aload_n 0, 1)) mq_140 ci_140 (List.mem_of_getElem? (i := 76) rfl)
theorem cd_140_138 : mt_cd 140 138 = some (.getfield 7) := mt_cd_of (q := (138, .getfield 7, 3)) mq_140 ci_140 (List.mem_of_getElem? (i := 77) rfl)
theorem cd_140_141 : mt_cd 140 141 = some (.ifCond .lt 7) := mt_cd_of (q := (141, .ifCond .lt 7, 3)) mq_140 ci_140 (List.mem_of_getElem? (i := 78) rfl)
theorem cd_140_144 : mt_cd 140 144 = some (.iconst 1) := mt_cd_of (q := (144, .iconst 1, 1)) mq_140 ci_140 (List.mem_of_getElem? (i := 79) rfl)
theorem cd_140_145 : mt_cd 140 145 = some (.goto 4) := mt_cd_of (q := (145, .goto 4, 3)) mq_140 ci_140 (List.mem_of_getElem? (i := 80) rfl)
theorem cd_140_148 : mt_cd 140 148 = some (.iconst 0) := mt_cd_of (q := (148, .iconst 0, 1)) mq_140 ci_140 (List.mem_of_getElem? (i := 81) rfl)
theorem cd_140_149 : mt_cd 140 149 = some (.iconst 2) := mt_cd_of (q := (149, .iconst 2, 1)) mq_140 ci_140 (List.mem_of_getElem? (i := 82) rfl)
theorem cd_140_150 : mt_cd 140 150 = some (.invokevirtual 254) := mt_cd_of (q := (150, .invokevirtual 254, 3)) mq_140 ci_140 (List.mem_of_getElem? (i := 83) rfl)
theorem cd_140_153 : mt_cd 140 153 = some (.ifCond .eq 5) := mt_cd_of (q := (153, .ifCond .eq 5, 3)) mq_140 ci_140 (List.mem_of_getElem? (i := 84) rfl)
theorem cd_140_156 : mt_cd 140 156 = some (.iconst 0) := mt_cd_of (q := (156, .iconst 0, 1)) mq_140 ci_140 (List.mem_of_getElem? (i := 85) rfl)
theorem cd_140_157 : mt_cd 140 157 = some (.ireturn) := mt_cd_of (q := (157, .ireturn, 1)) mq_140 ci_140 (List.mem_of_getElem? (i := 86) rfl)
theorem cd_140_158 : mt_cd 140 158 = some (.aload_n 0) := mt_cd_of (q := (158, .aload_n 0, 1)) mq_140 ci_140 (List.mem_of_getElem? (i := 87) rfl)
theorem cd_140_159 : mt_cd 140 159 = some (.iconst 0) := mt_cd_of (q := (159, .iconst 0, 1)) mq_140 ci_140 (List.mem_of_getElem? (i := 88) rfl)
theorem cd_140_160 : mt_cd 140 160 = some (.putfield 13) := mt_cd_of (q := (160, .putfield 13, 3)) mq_140 ci_140 (List.mem_of_getElem? (i := 89) rfl)
theorem cd_140_163 : mt_cd 140 163 = some (.aload_n 0) := mt_cd_of (q := (163, .aload_n 0, 1)) mq_140 ci_140 (List.mem_of_getElem? (i := 90) rfl)
theorem cd_140_164 : mt_cd 140 164 = some (.getfield 147) := mt_cd_of (q := (164, .getfield 147, 3)) mq_140 ci_140 (List.mem_of_getElem? (i := 91) rfl)
theorem cd_140_167 : mt_cd 140 167 = some (.invokevirtual 279) := mt_cd_of (q := (167, .invokevirtual 279, 3)) mq_140 ci_140 (List.mem_of_getElem? (i := 92) rfl)
theorem cd_140_170 : mt_cd 140 170 = some (.aload_n 0) := mt_cd_of (q := (170, .aload_n 0, 1)) mq_140 ci_140 (List.mem_of_getElem? (i := 93) rfl)
theorem cd_140_171 : mt_cd 140 171 = some (.getfield 282) := mt_cd_of (q := (171, .getfield 282, 3)) mq_140 ci_140 (List.mem_of_getElem? (i := 94) rfl)
theorem cd_140_174 : mt_cd 140 174 = some (.ireturn) := mt_cd_of (q := (174, .ireturn, 1)) mq_140 ci_140 (List.mem_of_getElem? (i := 95) rfl)
theorem b_140_0 {d : Nat} {Q : (Option Value ⊕ Nat) → mi_H → Prop} (n sl : Nat) (f : Nat → mi_C) {l1 : Nat} {l2 : Int32} {o3 : Option Value} {fs4 : List Value} (h5 : f l1 = .inr (12, fs4)) (h6 : l1 < n) (h7 : 0 < fs4.length) (h8 : l2 < (0 : Int32) → mi_W d 140 25 [some (.ref l1), some (.int l2), o3] [.ref l1] (n, sl, (va_up f l1 (.inr (12, fs4.set 0 (.int 0))))) Q) (h9 : ¬ (l2 < (0 : Int32)) → mi_W d 140 10 [some (.ref l1), some (.int l2), o3] [.ref l1] (n, sl, (va_up f l1 (.inr (12, fs4.set 0 (.int 0))))) Q) : mi_W d 140 0 [some (.ref l1), some (.int l2), o3] [] (n, sl, f) Q := by
  refine w_aload_n cd_140_0 rfl ?_
  refine w_iconst (v := 0) cd_140_1 (by decide) ?_
  refine w_putfield (w := .int 0) cd_140_2 (show mt_f 12 248 = some (12, 0) by decide +kernel) h5 h6 ⟨h7, rfl, Or.inl (by decide)⟩ ?_
  refine w_aload_n cd_140_5 rfl ?_
  refine w_iload_n cd_140_6 rfl ?_
  exact w_iflt cd_140_7 (by decide) h8 h9
theorem b_140_10 {d : Nat} {Q : (Option Value ⊕ Nat) → mi_H → Prop} (n sl : Nat) (f : Nat → mi_C) {l1 : Nat} {l2 : Int32} {o3 : Option Value} {s4 : Nat} (h5 : 8192 < l2 → mi_W d 140 25 [some (.ref l1), some (.int l2), o3] [.ref s4] (n, sl, f) Q) (h6 : ¬ (8192 < l2) → mi_W d 140 17 [some (.ref l1), some (.int l2), o3] [.ref s4] (n, sl, f) Q) : mi_W d 140 10 [some (.ref l1), some (.int l2), o3] [.ref s4] (n, sl, f) Q := by
  refine w_iload_n cd_140_10 rfl ?_
  refine w_sipush (v := 8192) cd_140_11 (by decide) ?_
  exact w_if_icmpgt cd_140_14 (by decide) h5 h6
theorem b_140_17 {d : Nat} {Q : (Option Value ⊕ Nat) → mi_H → Prop} (n sl : Nat) (f : Nat → mi_C) {l1 : Nat} {l2 : Int32} {o3 : Option Value} {s4 : Nat} {fs5 : List Value} {x8 : Int32} (h6 : f l1 = .inr (12, fs5)) (h7 : l1 < n) (h9 : fs5[1]? = some (.int x8)) (h10 : l2 ≤ x8 → mi_W d 140 29 [some (.ref l1), some (.int l2), o3] [.ref s4] (n, sl, f) Q) (h11 : ¬ (l2 ≤ x8) → mi_W d 140 25 [some (.ref l1), some (.int l2), o3] [.ref s4] (n, sl, f) Q) : mi_W d 140 17 [some (.ref l1), some (.int l2), o3] [.ref s4] (n, sl, f) Q := by
  refine w_iload_n cd_140_17 rfl ?_
  refine w_aload_n cd_140_18 rfl ?_
  refine w_getfield cd_140_19 (show mt_f 12 251 = some (12, 1) by decide +kernel) h6 h7 h9 ?_
  exact w_if_icmple cd_140_22 (by decide) h10 h11
theorem b_140_25 {d : Nat} {Q : (Option Value ⊕ Nat) → mi_H → Prop} (n sl : Nat) (f : Nat → mi_C) {l1 : Nat} {l2 : Int32} {o3 : Option Value} {s4 : Nat} (h5 : mi_W d 140 30 [some (.ref l1), some (.int l2), o3] [.int 1, .ref s4] (n, sl, f) Q) : mi_W d 140 25 [some (.ref l1), some (.int l2), o3] [.ref s4] (n, sl, f) Q := by
  refine w_iconst (v := 1) cd_140_25 (by decide) ?_
  exact w_goto cd_140_26 (by decide) h5
theorem b_140_29 {d : Nat} {Q : (Option Value ⊕ Nat) → mi_H → Prop} (n sl : Nat) (f : Nat → mi_C) {l1 : Nat} {l2 : Int32} {o3 : Option Value} {s4 : Nat} (h5 : mi_W d 140 30 [some (.ref l1), some (.int l2), o3] [.int 0, .ref s4] (n, sl, f) Q) : mi_W d 140 29 [some (.ref l1), some (.int l2), o3] [.ref s4] (n, sl, f) Q := by
  refine w_iconst (v := 0) cd_140_29 (by decide) ?_
  exact h5
theorem b_140_30 {d : Nat} {Q : (Option Value ⊕ Nat) → mi_H → Prop} (n sl : Nat) (f : Nat → mi_C) {l1 : Nat} {l2 : Int32} {o3 : Option Value} {s4 : Int32} {s5 : Nat} {fs6 : List Value} (h7 : f s5 = .inr (12, fs6)) (h8 : s5 < n) (h9 : mi_W d 139 0 (mi_en 3 [.ref s5, .int s4, .int 1]) [] (n, sl, f) (mi_Kc d 140 31 [some (.ref l1), some (.int l2), o3] [] Q)) : mi_W (d + 1) 140 30 [some (.ref l1), some (.int l2), o3] [.int s4, .ref s5] (n, sl, f) Q := by
  refine w_iconst (v := 1) cd_140_30 (by decide) ?_
  exact w_invokevirtual cd_140_31 (show mt_m 12 254 = some (139, 0) by decide +kernel) (rest := []) rfl (as := [.ref s5, .int s4, .int 1]) rfl h7 (Or.inl h8) ⟨Nat.le_of_ble_eq_true rfl, Nat.le_of_ble_eq_true rfl, Nat.le_of_ble_eq_true rfl⟩ h9
theorem b_140_34 {d : Nat} {Q : (Option Value ⊕ Nat) → mi_H → Prop} (n sl : Nat) (f : Nat → mi_C) {l1 : Nat} {l2 : Int32} {o3 : Option Value} {s4 : Int32} (h5 : s4 = (0 : Int32) → mi_W d 140 39 [some (.ref l1), some (.int l2), o3] [] (n, sl, f) Q) (h6 : ¬ (s4 = (0 : Int32)) → mi_W d 140 37 [some (.ref l1), some (.int l2), o3] [] (n, sl, f) Q) : mi_W d 140 34 [some (.ref l1), some (.int l2), o3] [.int s4] (n, sl, f) Q := by
  exact w_ifeq cd_140_34 (by decide) h5 h6
theorem b_140_37 {d : Nat} {Q : (Option Value ⊕ Nat) → mi_H → Prop} (n sl : Nat) (f : Nat → mi_C) {l1 : Nat} {l2 : Int32} {o3 : Option Value} (h4 : Q (.inl (some (.int 0))) (n, sl, f)) : mi_W d 140 37 [some (.ref l1), some (.int l2), o3] [] (n, sl, f) Q := by
  refine w_iconst (v := 0) cd_140_37 (by decide) ?_
  exact w_ireturn_i cd_140_38 (by decide +kernel) h4
theorem b_140_39 {d : Nat} {Q : (Option Value ⊕ Nat) → mi_H → Prop} (n sl : Nat) (f : Nat → mi_C) {l1 : Nat} {l2 : Int32} {o3 : Option Value} {fs4 : List Value} {fs8 : List Value} {fs12 : List Value} {fs16 : List Value} {fs20 : List Value} (h5 : f l1 = .inr (12, fs4)) (h6 : l1 < n) (h7 : 1 < fs4.length) (h9 : (va_up f l1 (.inr (12, fs4.set 1 (.int 0)))) l1 = .inr (12, fs8)) (h10 : l1 < n) (h11 : 3 < fs8.length) (h13 : (va_up (va_up f l1 (.inr (12, fs4.set 1 (.int 0)))) l1 (.inr (12, fs8.set 3 (.int (-1))))) l1 = .inr (12, fs12)) (h14 : l1 < n) (h15 : 4 < fs12.length) (h17 : (va_up (va_up (va_up f l1 (.inr (12, fs4.set 1 (.int 0)))) l1 (.inr (12, fs8.set 3 (.int (-1))))) l1 (.inr (12, fs12.set 4 (.int (-1))))) l1 = .inr (12, fs16)) (h18 : l1 < n) (h19 : 59 < fs16.length) (h21 : (va_up (va_up (va_up (va_up f l1 (.inr (12, fs4.set 1 (.int 0)))) l1 (.inr (12, fs8.set 3 (.int (-1))))) l1 (.inr (12, fs12.set 4 (.int (-1))))) l1 (.inr (12, fs16.set 59 (.int 0)))) l1 = .inr (12, fs20)) (h22 : l1 < n) (h23 : 2 < fs20.length) (h24 : mi_W d 140 66 [some (.ref l1), some (.int l2), some (.int 0)] [] (n, sl, (va_up (va_up (va_up (va_up (va_up f l1 (.inr (12, fs4.set 1 (.int 0)))) l1 (.inr (12, fs8.set 3 (.int (-1))))) l1 (.inr (12, fs12.set 4 (.int (-1))))) l1 (.inr (12, fs16.set 59 (.int 0)))) l1 (.inr (12, fs20.set 2 (.int l2))))) Q) : mi_W d 140 39 [some (.ref l1), some (.int l2), o3] [] (n, sl, f) Q := by
  refine w_aload_n cd_140_39 rfl ?_
  refine w_iconst (v := 0) cd_140_40 (by decide) ?_
  refine w_putfield (w := .int 0) cd_140_41 (show mt_f 12 251 = some (12, 1) by decide +kernel) h5 h6 ⟨h7, rfl, Or.inl (by decide)⟩ ?_
  refine w_aload_n cd_140_44 rfl ?_
  refine w_iconst (v := (-1)) cd_140_45 (by decide) ?_
  refine w_putfield (w := .int (-1)) cd_140_46 (show mt_f 12 7 = some (12, 3) by decide +kernel) h9 h10 ⟨h11, rfl, Or.inl (by decide)⟩ ?_
  refine w_aload_n cd_140_49 rfl ?_
  refine w_iconst (v := (-1)) cd_140_50 (by decide) ?_
  refine w_putfield (w := .int (-1)) cd_140_51 (show mt_f 12 13 = some (12, 4) by decide +kernel) h13 h14 ⟨h15, rfl, Or.inl (by decide)⟩ ?_
  refine w_aload_n cd_140_54 rfl ?_
  refine w_iconst (v := 0) cd_140_55 (by decide) ?_
  refine w_putfield (w := .int 0) cd_140_56 (show mt_f 12 258 = some (12, 59) by decide +kernel) h17 h18 ⟨h19, rfl, Or.inl (by decide)⟩ ?_
  refine w_aload_n cd_140_59 rfl ?_
  refine w_iload_n cd_140_60 rfl ?_
  refine w_putfield (w := .int l2) cd_140_61 (show mt_f 12 261 = some (12, 2) by decide +kernel) h21 h22 ⟨h23, rfl, Or.inl (by decide)⟩ ?_
  refine w_iconst (v := 0) cd_140_64 (by decide) ?_
  refine w_istore_n (ls' := [some (.ref l1), some (.int l2), some (.int 0)]) cd_140_65 (Nat.le_of_ble_eq_true rfl) rfl ?_
  exact h24
theorem b_140_66 {d : Nat} {Q : (Option Value ⊕ Nat) → mi_H → Prop} (n sl : Nat) (f : Nat → mi_C) {l1 : Nat} {l2 : Int32} {l3 : Int32} (h4 : l2 ≤ l3 → mi_W d 140 125 [some (.ref l1), some (.int l2), some (.int l3)] [] (n, sl, f) Q) (h5 : ¬ (l2 ≤ l3) → mi_W d 140 71 [some (.ref l1), some (.int l2), some (.int l3)] [] (n, sl, f) Q) : mi_W d 140 66 [some (.ref l1), some (.int l2), some (.int l3)] [] (n, sl, f) Q := by
  refine w_iload_n cd_140_66 rfl ?_
  refine w_iload_n cd_140_67 rfl ?_
  exact w_if_icmpge cd_140_68 (by decide) h4 h5
theorem b_140_71 {d : Nat} {Q : (Option Value ⊕ Nat) → mi_H → Prop} (n sl : Nat) (f : Nat → mi_C) {l1 : Nat} {l2 : Int32} {l3 : Int32} {fs4 : List Value} {x7 : Nat} {fs9 : List Value} {x12 : Nat} (m14 i14 : Nat) (g14 : Nat → Int32) (m18 i18 : Nat) (g18 : Nat → Int32) {fs22 : List Value} {x25 : Nat} (m27 i27 : Nat) (g27 : Nat → Int32) (h5 : f l1 = .inr (12, fs4)) (h6 : l1 < n) (h8 : fs4[6]? = some (.ref x7)) (h10 : f l1 = .inr (12, fs9)) (h11 : l1 < n) (h13 : fs9[5]? = some (.ref x12)) (h15 : f x12 = .inl (0, m14, .inl g14)) (h16 : x12 < n ∨ x12 = mi_SC) (h17 : mi_ix l3 m14 i14) (h19 : f x7 = .inl (0, m18, .inl g18)) (h20 : x7 < n) (h21 : mi_ix l3 m18 i18) (h23 : (va_up f x7 (.inl (0, m18, .inl (upd g18 i18 (g14 i14))))) l1 = .inr (12, fs22)) (h24 : l1 < n) (h26 : fs22[6]? = some (.ref x25)) (h28 : (va_up f x7 (.inl (0, m18, .inl (upd g18 i18 (g14 i14))))) x25 = .inl (0, m27, .inl g27)) (h29 : x25 < n ∨ x25 = mi_SC) (h30 : mi_ix l3 m27 i27) (h31 : (g27 i27) = 10 → mi_W d 140 119 [some (.ref l1), some (.int l2), some (.int l3)] [] (n, sl, (va_up f x7 (.inl (0, m18, .inl (upd g18 i18 (g14 i14)))))) Q) (h32 : ¬ ((g27 i27) = 10) → mi_W d 140 94 [some (.ref l1), some (.int l2), some (.int l3)] [] (n, sl, (va_up f x7 (.inl (0, m18, .inl (upd g18 i18 (g14 i14)))))) Q) : mi_W d 140 71 [some (.ref l1), some (.int l2), some (.int l3)] [] (n, sl, f) Q := by
  refine w_aload_n cd_140_71 rfl ?_
  refine w_getfield cd_140_72 (show mt_f 12 20 = some (12, 6) by decide +kernel) h5 h6 h8 ?_
  refine w_iload_n cd_140_75 rfl ?_
  refine w_aload_n cd_140_76 rfl ?_
  refine w_getfield cd_140_77 (show mt_f 12 16 = some (12, 5) by decide +kernel) h10 h11 h13 ?_
  refine w_iload_n cd_140_80 rfl ?_
  refine w_iaload cd_140_81 h15 h16 h17 ?_
  refine w_iastore cd_140_82 h19 h20 h21 ?_
  refine w_aload_n cd_140_83 rfl ?_
  refine w_getfield cd_140_84 (show mt_f 12 20 = some (12, 6) by decide +kernel) h23 h24 h26 ?_
  refine w_iload_n cd_140_87 rfl ?_
  refine w_iaload cd_140_88 h28 h29 h30 ?_
  refine w_bipush (v := 10) cd_140_89 (by decide) ?_
  exact w_if_icmpeq cd_140_91 (by decide) h31 h32
theorem b_140_94 {d : Nat} {Q : (Option Value ⊕ Nat) → mi_H → Prop} (n sl : Nat) (f : Nat → mi_C) {l1 : Nat} {l2 : Int32} {l3 : Int32} {fs4 : List Value} {x7 : Nat} (m9 i9 : Nat) (g9 : Nat → Int32) (h5 : f l1 = .inr (12, fs4)) (h6 : l1 < n) (h8 : fs4[6]? = some (.ref x7)) (h10 : f x7 = .inl (0, m9, .inl g9)) (h11 : x7 < n ∨ x7 = mi_SC) (h12 : mi_ix l3 m9 i9) (h13 : mi_W d 141 0 (mi_en 6 [.long (((g9 i9) : Int32).toInt64), .long 32, .long 126]) [] (n, sl, f) (mi_Kc d 140 107 [some (.ref l1), some (.int l2), some (.int l3)] [] Q)) : mi_W (d + 1) 140 94 [some (.ref l1), some (.int l2), some (.int l3)] [] (n, sl, f) Q := by
  refine w_aload_n cd_140_94 rfl ?_
  refine w_getfield cd_140_95 (show mt_f 12 20 = some (12, 6) by decide +kernel) h5 h6 h8 ?_
  refine w_iload_n cd_140_98 rfl ?_
  refine w_iaload cd_140_99 h10 h11 h12 ?_
  refine w_i2l cd_140_100 ?_
  refine w_ldc2_w (lv := 32) cd_140_101 (by decide +kernel) ?_
  refine w_ldc2_w (lv := 126) cd_140_104 (by decide +kernel) ?_
  exact w_invokestatic cd_140_107 (show mt_m 12 268 = some (141, 4) by decide +kernel) (by decide) (rest := []) rfl (as := [.long (((g9 i9) : Int32).toInt64), .long 32, .long 126]) rfl ⟨Nat.le_of_ble_eq_true rfl, Nat.le_of_ble_eq_true rfl, Nat.le_of_ble_eq_true rfl⟩ h13
theorem b_140_110 {d : Nat} {Q : (Option Value ⊕ Nat) → mi_H → Prop} (n sl : Nat) (f : Nat → mi_C) {l1 : Nat} {l2 : Int32} {l3 : Int32} {s4 : Int32} (h5 : ¬ s4 = (0 : Int32) → mi_W d 140 119 [some (.ref l1), some (.int l2), some (.int l3)] [] (n, sl, f) Q) (h6 : ¬ (¬ s4 = (0 : Int32)) → mi_W d 140 113 [some (.ref l1), some (.int l2), some (.int l3)] [] (n, sl, f) Q) : mi_W d 140 110 [some (.ref l1), some (.int l2), some (.int l3)] [.int s4] (n, sl, f) Q := by
  exact w_ifne cd_140_110 (by decide) h5 h6
theorem b_140_113 {d : Nat} {Q : (Option Value ⊕ Nat) → mi_H → Prop} (n sl : Nat) (f : Nat → mi_C) {l1 : Nat} {l2 : Int32} {l3 : Int32} {fs4 : List Value} (h5 : f l1 = .inr (12, fs4)) (h6 : l1 < n) (h7 : mi_W d 142 0 (mi_en 2 [.ref l1, .int l3]) [] (n, sl, f) (mi_Kc d 140 115 [some (.ref l1), some (.int l2), some (.int l3)] [] Q)) : mi_W (d + 1) 140 113 [some (.ref l1), some (.int l2), some (.int l3)] [] (n, sl, f) Q := by
  refine w_aload_n cd_140_113 rfl ?_
  refine w_iload_n cd_140_114 rfl ?_
  exact w_invokevirtual cd_140_115 (show mt_m 12 272 = some (142, 0) by decide +kernel) (rest := []) rfl (as := [.ref l1, .int l3]) rfl h5 (Or.inl h6) ⟨Nat.le_of_ble_eq_true rfl, Nat.le_of_ble_eq_true rfl, Nat.le_of_ble_eq_true rfl⟩ h7
theorem b_140_118 {d : Nat} {Q : (Option Value ⊕ Nat) → mi_H → Prop} (n sl : Nat) (f : Nat → mi_C) {l1 : Nat} {l2 : Int32} {l3 : Int32} {s4 : Int32} (h5 : mi_W d 140 119 [some (.ref l1), some (.int l2), some (.int l3)] [] (n, sl, f) Q) : mi_W d 140 118 [some (.ref l1), some (.int l2), some (.int l3)] [.int s4] (n, sl, f) Q := by
  refine w_pop_i cd_140_118 ?_
  exact h5
theorem b_140_119 {d : Nat} {Q : (Option Value ⊕ Nat) → mi_H → Prop} (n sl : Nat) (f : Nat → mi_C) {l1 : Nat} {l2 : Int32} {l3 : Int32} (h4 : mi_W d 140 66 [some (.ref l1), some (.int l2), some (.int (l3 + 1))] [] (n, sl, f) Q) : mi_W d 140 119 [some (.ref l1), some (.int l2), some (.int l3)] [] (n, sl, f) Q := by
  refine w_iinc (v := 1) (ls' := [some (.ref l1), some (.int l2), some (.int (l3 + 1))]) cd_140_119 rfl (by decide) rfl ?_
  exact w_goto cd_140_122 (by decide) h4
theorem b_140_125 {d : Nat} {Q : (Option Value ⊕ Nat) → mi_H → Prop} (n sl : Nat) (f : Nat → mi_C) {l1 : Nat} {l2 : Int32} {l3 : Int32} {fs4 : List Value} {x7 : Int32} (h5 : f l1 = .inr (12, fs4)) (h6 : l1 < n) (h8 : fs4[3]? = some (.int x7)) (h9 : (0 : Int32) ≤ x7 → mi_W d 140 136 [some (.ref l1), some (.int l2), some (.int l3)] [] (n, sl, f) Q) (h10 : ¬ ((0 : Int32) ≤ x7) → mi_W d 140 132 [some (.ref l1), some (.int l2), some (.int l3)] [] (n, sl, f) Q) : mi_W d 140 125 [some (.ref l1), some (.int l2), some (.int l3)] [] (n, sl, f) Q := by
  refine w_aload_n cd_140_125 rfl ?_
  refine w_getfield cd_140_126 (show mt_f 12 7 = some (12, 3) by decide +kernel) h5 h6 h8 ?_
  exact w_ifge cd_140_129 (by decide) h9 h10
theorem b_140_132 {d : Nat} {Q : (Option Value ⊕ Nat) → mi_H → Prop} (n sl : Nat) (f : Nat → mi_C) {l1 : Nat} {l2 : Int32} {l3 : Int32} {fs4 : List Value} (h5 : f l1 = .inr (12, fs4)) (h6 : l1 < n) (h7 : mi_W d 143 0 (mi_en 1 [.ref l1]) [] (n, sl, f) (mi_Kc d 140 133 [some (.ref l1), some (.int l2), some (.int l3)] [] Q)) : mi_W (d + 1) 140 132 [some (.ref l1), some (.int l2), some (.int l3)] [] (n, sl, f) Q := by
  refine w_aload_n cd_140_132 rfl ?_
  exact w_invokevirtual cd_140_133 (show mt_m 12 276 = some (143, 0) by decide +kernel) (rest := []) rfl (as := [.ref l1]) rfl h5 (Or.inl h6) ⟨Nat.le_of_ble_eq_true rfl, Nat.le_of_ble_eq_true rfl, Nat.le_of_ble_eq_true rfl⟩ h7
theorem b_140_136 {d : Nat} {Q : (Option Value ⊕ Nat) → mi_H → Prop} (n sl : Nat) (f : Nat → mi_C) {l1 : Nat} {l2 : Int32} {l3 : Int32} {fs4 : List Value} {x7 : Int32} (h5 : f l1 = .inr (12, fs4)) (h6 : l1 < n) (h8 : fs4[3]? = some (.int x7)) (h9 : x7 < (0 : Int32) → mi_W d 140 148 [some (.ref l1), some (.int l2), some (.int l3)] [.ref l1] (n, sl, f) Q) (h10 : ¬ (x7 < (0 : Int32)) → mi_W d 140 144 [some (.ref l1), some (.int l2), some (.int l3)] [.ref l1] (n, sl, f) Q) : mi_W d 140 136 [some (.ref l1), some (.int l2), some (.int l3)] [] (n, sl, f) Q := by
  refine w_aload_n cd_140_136 rfl ?_
  refine w_aload_n cd_140_137 rfl ?_
  refine w_getfield cd_140_138 (show mt_f 12 7 = some (12, 3) by decide +kernel) h5 h6 h8 ?_
  exact w_iflt cd_140_141 (by decide) h9 h10
theorem b_140_144 {d : Nat} {Q : (Option Value ⊕ Nat) → mi_H → Prop} (n sl : Nat) (f : Nat → mi_C) {l1 : Nat} {l2 : Int32} {l3 : Int32} {s4 : Nat} (h5 : mi_W d 140 149 [some (.ref l1), some (.int l2), some (.int l3)] [.int 1, .ref s4] (n, sl, f) Q) : mi_W d 140 144 [some (.ref l1), some (.int l2), some (.int l3)] [.ref s4] (n, sl, f) Q := by
  refine w_iconst (v := 1) cd_140_144 (by decide) ?_
  exact w_goto cd_140_145 (by decide) h5
theorem b_140_148 {d : Nat} {Q : (Option Value ⊕ Nat) → mi_H → Prop} (n sl : Nat) (f : Nat → mi_C) {l1 : Nat} {l2 : Int32} {l3 : Int32} {s4 : Nat} (h5 : mi_W d 140 149 [some (.ref l1), some (.int l2), some (.int l3)] [.int 0, .ref s4] (n, sl, f) Q) : mi_W d 140 148 [some (.ref l1), some (.int l2), some (.int l3)] [.ref s4] (n, sl, f) Q := by
  refine w_iconst (v := 0) cd_140_148 (by decide) ?_
  exact h5
theorem b_140_149 {d : Nat} {Q : (Option Value ⊕ Nat) → mi_H → Prop} (n sl : Nat) (f : Nat → mi_C) {l1 : Nat} {l2 : Int32} {l3 : Int32} {s4 : Int32} {s5 : Nat} {fs6 : List Value} (h7 : f s5 = .inr (12, fs6)) (h8 : s5 < n) (h9 : mi_W d 139 0 (mi_en 3 [.ref s5, .int s4, .int 2]) [] (n, sl, f) (mi_Kc d 140 150 [some (.ref l1), some (.int l2), some (.int l3)] [] Q)) : mi_W (d + 1) 140 149 [some (.ref l1), some (.int l2), some (.int l3)] [.int s4, .ref s5] (n, sl, f) Q := by
  refine w_iconst (v := 2) cd_140_149 (by decide) ?_
  exact w_invokevirtual cd_140_150 (show mt_m 12 254 = some (139, 0) by decide +kernel) (rest := []) rfl (as := [.ref s5, .int s4, .int 2]) rfl h7 (Or.inl h8) ⟨Nat.le_of_ble_eq_true rfl, Nat.le_of_ble_eq_true rfl, Nat.le_of_ble_eq_true rfl⟩ h9
theorem b_140_153 {d : Nat} {Q : (Option Value ⊕ Nat) → mi_H → Prop} (n sl : Nat) (f : Nat → mi_C) {l1 : Nat} {l2 : Int32} {l3 : Int32} {s4 : Int32} (h5 : s4 = (0 : Int32) → mi_W d 140 158 [some (.ref l1), some (.int l2), some (.int l3)] [] (n, sl, f) Q) (h6 : ¬ (s4 = (0 : Int32)) → mi_W d 140 156 [some (.ref l1), some (.int l2), some (.int l3)] [] (n, sl, f) Q) : mi_W d 140 153 [some (.ref l1), some (.int l2), some (.int l3)] [.int s4] (n, sl, f) Q := by
  exact w_ifeq cd_140_153 (by decide) h5 h6
theorem b_140_156 {d : Nat} {Q : (Option Value ⊕ Nat) → mi_H → Prop} (n sl : Nat) (f : Nat → mi_C) {l1 : Nat} {l2 : Int32} {l3 : Int32} (h4 : Q (.inl (some (.int 0))) (n, sl, f)) : mi_W d 140 156 [some (.ref l1), some (.int l2), some (.int l3)] [] (n, sl, f) Q := by
  refine w_iconst (v := 0) cd_140_156 (by decide) ?_
  exact w_ireturn_i cd_140_157 (by decide +kernel) h4
theorem b_140_158 {d : Nat} {Q : (Option Value ⊕ Nat) → mi_H → Prop} (n sl : Nat) (f : Nat → mi_C) {l1 : Nat} {l2 : Int32} {l3 : Int32} {fs4 : List Value} {fs8 : List Value} {x11 : Nat} {fs13 : List Value} (h5 : f l1 = .inr (12, fs4)) (h6 : l1 < n) (h7 : 4 < fs4.length) (h9 : (va_up f l1 (.inr (12, fs4.set 4 (.int 0)))) l1 = .inr (12, fs8)) (h10 : l1 < n) (h12 : fs8[41]? = some (.ref x11)) (h14 : (va_up f l1 (.inr (12, fs4.set 4 (.int 0)))) x11 = .inr (13, fs13)) (h15 : x11 < n) (h16 : mi_W d 169 0 (mi_en 2 [.ref x11]) [] (n, sl, (va_up f l1 (.inr (12, fs4.set 4 (.int 0))))) (mi_Kc d 140 167 [some (.ref l1), some (.int l2), some (.int l3)] [] Q)) : mi_W (d + 1) 140 158 [some (.ref l1), some (.int l2), some (.int l3)] [] (n, sl, f) Q := by
  refine w_aload_n cd_140_158 rfl ?_
  refine w_iconst (v := 0) cd_140_159 (by decide) ?_
  refine w_putfield (w := .int 0) cd_140_160 (show mt_f 12 13 = some (12, 4) by decide +kernel) h5 h6 ⟨h7, rfl, Or.inl (by decide)⟩ ?_
  refine w_aload_n cd_140_163 rfl ?_
  refine w_getfield cd_140_164 (show mt_f 12 147 = some (12, 41) by decide +kernel) h9 h10 h12 ?_
  exact w_invokevirtual cd_140_167 (show mt_m 12 279 = some (169, 0) by decide +kernel) (rest := []) rfl (as := [.ref x11]) rfl h14 (Or.inl h15) ⟨Nat.le_of_ble_eq_true rfl, Nat.le_of_ble_eq_true rfl, Nat.le_of_ble_eq_true rfl⟩ h16
theorem b_140_170 {d : Nat} {Q : (Option Value ⊕ Nat) → mi_H → Prop} (n sl : Nat) (f : Nat → mi_C) {l1 : Nat} {l2 : Int32} {l3 : Int32} {fs4 : List Value} {x7 : Int32} (h5 : f l1 = .inr (12, fs4)) (h6 : l1 < n) (h8 : fs4[21]? = some (.int x7)) (h9 : Q (.inl (some (.int x7))) (n, sl, f)) : mi_W d 140 170 [some (.ref l1), some (.int l2), some (.int l3)] [] (n, sl, f) Q := by
  refine w_aload_n cd_140_170 rfl ?_
  refine w_getfield cd_140_171 (show mt_f 12 282 = some (12, 21) by decide +kernel) h5 h6 h8 ?_
  exact w_ireturn_i cd_140_174 (by decide +kernel) h9
/-! MarloweHostModel.in(JJJ)Z -/
set_option maxRecDepth 100000 in
theorem mq_141 : mt_q 141 = my_141 := rfl
set_option maxRecDepth 100000 in
theorem ci_141 : mt_inc 0 my_141.cd = true := by decide +kernel
theorem cd_141_0 : mt_cd 141 0 = some (.lload_n 0) := mt_cd_of (q := (0, .lload_n 0, 1)) mq_141 ci_141 (List.mem_of_getElem? (i := 0) rfl)
theorem cd_141_1 : mt_cd 141 1 = some (.lload_n 2) := mt_cd_of (q := (1, .lload_n 2, 1)) mq_141 ci_141 (List.mem_of_getElem? (i := 1) rfl)
theorem cd_141_2 : mt_cd 141 2 = some (.lcmp) := mt_cd_of (q := (2, .lcmp, 1)) mq_141 ci_141 (List.mem_of_getElem? (i := 2) rfl)
theorem cd_141_3 : mt_cd 141 3 = some (.ifCond .lt 14) := mt_cd_of (q := (3, .ifCond .lt 14, 3)) mq_141 ci_141 (List.mem_of_getElem? (i := 3) rfl)
theorem cd_141_6 : mt_cd 141 6 = some (.lload_n 0) := mt_cd_of (q := (6, .lload_n 0, 1)) mq_141 ci_141 (List.mem_of_getElem? (i := 4) rfl)
theorem cd_141_7 : mt_cd 141 7 = some (.lload 4) := mt_cd_of (q := (7, .lload 4, 2)) mq_141 ci_141 (List.mem_of_getElem? (i := 5) rfl)
theorem cd_141_9 : mt_cd 141 9 = some (.lcmp) := mt_cd_of (q := (9, .lcmp, 1)) mq_141 ci_141 (List.mem_of_getElem? (i := 6) rfl)
theorem cd_141_10 : mt_cd 141 10 = some (.ifCond .gt 7) := mt_cd_of (q := (10, .ifCond .gt 7, 3)) mq_141 ci_141 (List.mem_of_getElem? (i := 7) rfl)
theorem cd_141_13 : mt_cd 141 13 = some (.iconst 1) := mt_cd_of (q := (13, .iconst 1, 1)) mq_141 ci_141 (List.mem_of_getElem? (i := 8) rfl)
theorem cd_141_14 : mt_cd 141 14 = some (.goto 4) := mt_cd_of (q := (14, .goto 4, 3)) mq_141 ci_141 (List.mem_of_getElem? (i := 9) rfl)
theorem cd_141_17 : mt_cd 141 17 = some (.iconst 0) := mt_cd_of (q := (17, .iconst 0, 1)) mq_141 ci_141 (List.mem_of_getElem? (i := 10) rfl)
theorem cd_141_18 : mt_cd 141 18 = some (.ireturn) := mt_cd_of (q := (18, .ireturn, 1)) mq_141 ci_141 (List.mem_of_getElem? (i := 11) rfl)
theorem b_141_0 {d : Nat} {Q : (Option Value ⊕ Nat) → mi_H → Prop} (n sl : Nat) (f : Nat → mi_C) {l1 : Int64} {l2 : Int64} {l3 : Int64} (h4 : (lg_cmp l1 l2) < (0 : Int32) → mi_W d 141 17 [some (.long l1), none, some (.long l2), none, some (.long l3), none] [] (n, sl, f) Q) (h5 : ¬ ((lg_cmp l1 l2) < (0 : Int32)) → mi_W d 141 6 [some (.long l1), none, some (.long l2), none, some (.long l3), none] [] (n, sl, f) Q) : mi_W d 141 0 [some (.long l1), none, some (.long l2), none, some (.long l3), none] [] (n, sl, f) Q := by
  refine w_lload_n cd_141_0 rfl ?_
  refine w_lload_n cd_141_1 rfl ?_
  refine w_lcmp cd_141_2 ?_
  exact w_iflt cd_141_3 (by decide) h4 h5
theorem b_141_6 {d : Nat} {Q : (Option Value ⊕ Nat) → mi_H → Prop} (n sl : Nat) (f : Nat → mi_C) {l1 : Int64} {l2 : Int64} {l3 : Int64} (h4 : (0 : Int32) < (lg_cmp l1 l3) → mi_W d 141 17 [some (.long l1), none, some (.long l2), none, some (.long l3), none] [] (n, sl, f) Q) (h5 : ¬ ((0 : Int32) < (lg_cmp l1 l3)) → mi_W d 141 13 [some (.long l1), none, some (.long l2), none, some (.long l3), none] [] (n, sl, f) Q) : mi_W d 141 6 [some (.long l1), none, some (.long l2), none, some (.long l3), none] [] (n, sl, f) Q := by
  refine w_lload_n cd_141_6 rfl ?_
  refine w_lload cd_141_7 rfl ?_
  refine w_lcmp cd_141_9 ?_
  exact w_ifgt cd_141_10 (by decide) h4 h5
theorem b_141_13 {d : Nat} {Q : (Option Value ⊕ Nat) → mi_H → Prop} (n sl : Nat) (f : Nat → mi_C) {l1 : Int64} {l2 : Int64} {l3 : Int64} (h4 : mi_W d 141 18 [some (.long l1), none, some (.long l2), none, some (.long l3), none] [.int 1] (n, sl, f) Q) : mi_W d 141 13 [some (.long l1), none, some (.long l2), none, some (.long l3), none] [] (n, sl, f) Q := by
  refine w_iconst (v := 1) cd_141_13 (by decide) ?_
  exact w_goto cd_141_14 (by decide) h4
theorem b_141_17 {d : Nat} {Q : (Option Value ⊕ Nat) → mi_H → Prop} (n sl : Nat) (f : Nat → mi_C) {l1 : Int64} {l2 : Int64} {l3 : Int64} (h4 : mi_W d 141 18 [some (.long l1), none, some (.long l2), none, some (.long l3), none] [.int 0] (n, sl, f) Q) : mi_W d 141 17 [some (.long l1), none, some (.long l2), none, some (.long l3), none] [] (n, sl, f) Q := by
  refine w_iconst (v := 0) cd_141_17 (by decide) ?_
  exact h4
theorem b_141_18 {d : Nat} {Q : (Option Value ⊕ Nat) → mi_H → Prop} (n sl : Nat) (f : Nat → mi_C) {l1 : Int64} {l2 : Int64} {l3 : Int64} {s4 : Int32} (h5 : s4 = 0 ∨ s4 = 1) (h6 : Q (.inl (some (.int s4))) (n, sl, f)) : mi_W d 141 18 [some (.long l1), none, some (.long l2), none, some (.long l3), none] [.int s4] (n, sl, f) Q := by
  exact w_ireturn_z cd_141_18 (by decide +kernel) h5 h6
/-! MarloweHostModel.bad(I)Z -/
set_option maxRecDepth 100000 in
theorem mq_142 : mt_q 142 = my_142 := rfl
set_option maxRecDepth 100000 in
theorem ci_142 : mt_inc 0 my_142.cd = true := by decide +kernel
theorem cd_142_0 : mt_cd 142 0 = some (.aload_n 0) := mt_cd_of (q := (0, .aload_n 0, 1)) mq_142 ci_142 (List.mem_of_getElem? (i := 0) rfl)
theorem cd_142_1 : mt_cd 142 1 = some (.getfield 7) := mt_cd_of (q := (1, .getfield 7, 3)) mq_142 ci_142 (List.mem_of_getElem? (i := 1) rfl)
theorem cd_142_4 : mt_cd 142 4 = some (.ifCond .ge 8) := mt_cd_of (q := (4, .ifCond .ge 8, 3)) mq_142 ci_142 (List.mem_of_getElem? (i := 2) rfl)
theorem cd_142_7 : mt_cd 142 7 = some (.aload_n 0) := mt_cd_of (q := (7, .aload_n 0, 1)) mq_142 ci_142 (List.mem_of_getElem? (i := 3) rfl)
theorem cd_142_8 : mt_cd 142 8 = some (.iload_n 1) := mt_cd_of (q := (8, .iload_n 1, 1)) mq_142 ci_142 (List.mem_of_getElem? (i := 4) rfl)
theorem cd_142_9 : mt_cd 142 9 = some (.putfield 7) := mt_cd_of (q := (9, .putfield 7, 3)) mq_142 ci_142 (List.mem_of_getElem? (i := 5) rfl)
theorem cd_142_12 : mt_cd 142 12 = some (.iconst 0) := mt_cd_of (q := (12, .iconst 0, 1)) mq_142 ci_142 (List.mem_of_getElem? (i := 6) rfl)
theorem cd_142_13 : mt_cd 142 13 = some (.ireturn) := mt_cd_of (q := (13, .ireturn, 1)) mq_142 ci_142 (List.mem_of_getElem? (i := 7) rfl)
theorem b_142_0 {d : Nat} {Q : (Option Value ⊕ Nat) → mi_H → Prop} (n sl : Nat) (f : Nat → mi_C) {l1 : Nat} {l2 : Int32} {fs3 : List Value} {x6 : Int32} (h4 : f l1 = .inr (12, fs3)) (h5 : l1 < n) (h7 : fs3[3]? = some (.int x6)) (h8 : (0 : Int32) ≤ x6 → mi_W d 142 12 [some (.ref l1), some (.int l2)] [] (n, sl, f) Q) (h9 : ¬ ((0 : Int32) ≤ x6) → mi_W d 142 7 [some (.ref l1), some (.int l2)] [] (n, sl, f) Q) : mi_W d 142 0 [some (.ref l1), some (.int l2)] [] (n, sl, f) Q := by
  refine w_aload_n cd_142_0 rfl ?_
  refine w_getfield cd_142_1 (show mt_f 12 7 = some (12, 3) by decide +kernel) h4 h5 h7 ?_
  exact w_ifge cd_142_4 (by decide) h8 h9
theorem b_142_7 {d : Nat} {Q : (Option Value ⊕ Nat) → mi_H → Prop} (n sl : Nat) (f : Nat → mi_C) {l1 : Nat} {l2 : Int32} {fs3 : List Value} (h4 : f l1 = .inr (12, fs3)) (h5 : l1 < n) (h6 : 3 < fs3.length) (h7 : mi_W d 142 12 [some (.ref l1), some (.int l2)] [] (n, sl, (va_up f l1 (.inr (12, fs3.set 3 (.int l2))))) Q) : mi_W d 142 7 [some (.ref l1), some (.int l2)] [] (n, sl, f) Q := by
  refine w_aload_n cd_142_7 rfl ?_
  refine w_iload_n cd_142_8 rfl ?_
  refine w_putfield (w := .int l2) cd_142_9 (show mt_f 12 7 = some (12, 3) by decide +kernel) h4 h5 ⟨h6, rfl, Or.inl (by decide)⟩ ?_
  exact h7
theorem b_142_12 {d : Nat} {Q : (Option Value ⊕ Nat) → mi_H → Prop} (n sl : Nat) (f : Nat → mi_C) {l1 : Nat} {l2 : Int32} (h3 : Q (.inl (some (.int 0))) (n, sl, f)) : mi_W d 142 12 [some (.ref l1), some (.int l2)] [] (n, sl, f) Q := by
  refine w_iconst (v := 0) cd_142_12 (by decide) ?_
  exact w_ireturn_z cd_142_13 (by decide +kernel) (by decide) h3
/-! MarloweHostModel.read()V -/
set_option maxRecDepth 100000 in
theorem mq_143 : mt_q 143 = my_143 := rfl
set_option maxRecDepth 100000 in
theorem ci_143 : mt_inc 0 my_143.cd = true := by decide +kernel
theorem cd_143_0 : mt_cd 143 0 = some (.aload_n 0) := mt_cd_of (q := (0, .aload_n 0, 1)) mq_143 ci_143 (List.mem_of_getElem? (i := 0) rfl)
theorem cd_143_1 : mt_cd 143 1 = some (.iconst 0) := mt_cd_of (q := (1, .iconst 0, 1)) mq_143 ci_143 (List.mem_of_getElem? (i := 1) rfl)
theorem cd_143_2 : mt_cd 143 2 = some (.putfield 282) := mt_cd_of (q := (2, .putfield 282, 3)) mq_143 ci_143 (List.mem_of_getElem? (i := 2) rfl)
theorem cd_143_5 : mt_cd 143 5 = some (.aload_n 0) := mt_cd_of (q := (5, .aload_n 0, 1)) mq_143 ci_143 (List.mem_of_getElem? (i := 3) rfl)
theorem cd_143_6 : mt_cd 143 6 = some (.iconst 0) := mt_cd_of (q := (6, .iconst 0, 1)) mq_143 ci_143 (List.mem_of_getElem? (i := 4) rfl)
theorem cd_143_7 : mt_cd 143 7 = some (.putfield 337) := mt_cd_of (q := (7, .putfield 337, 3)) mq_143 ci_143 (List.mem_of_getElem? (i := 5) rfl)
theorem cd_143_10 : mt_cd 143 10 = some (.aload_n 0) := mt_cd_of (q := (10, .aload_n 0, 1)) mq_143 ci_143 (List.mem_of_getElem? (i := 6) rfl)
theorem cd_143_11 : mt_cd 143 11 = some (.iconst 0) := mt_cd_of (q := (11, .iconst 0, 1)) mq_143 ci_143 (List.mem_of_getElem? (i := 7) rfl)
theorem cd_143_12 : mt_cd 143 12 = some (.putfield 340) := mt_cd_of (q := (12, .putfield 340, 3)) mq_143 ci_143 (List.mem_of_getElem? (i := 8) rfl)
theorem cd_143_15 : mt_cd 143 15 = some (.aload_n 0) := mt_cd_of (q := (15, .aload_n 0, 1)) mq_143 ci_143 (List.mem_of_getElem? (i := 9) rfl)
theorem cd_143_16 : mt_cd 143 16 = some (.iconst 0) := mt_cd_of (q := (16, .iconst 0, 1)) mq_143 ci_143 (List.mem_of_getElem? (i := 10) rfl)
theorem cd_143_17 : mt_cd 143 17 = some (.putfield 343) := mt_cd_of (q := (17, .putfield 343, 3)) mq_143 ci_143 (List.mem_of_getElem? (i := 11) rfl)
theorem cd_143_20 : mt_cd 143 20 = some (.aload_n 0) := mt_cd_of (q := (20, .aload_n 0, 1)) mq_143 ci_143 (List.mem_of_getElem? (i := 12) rfl)
theorem cd_143_21 : mt_cd 143 21 = some (.iconst 0) := mt_cd_of (q := (21, .iconst 0, 1)) mq_143 ci_143 (List.mem_of_getElem? (i := 13) rfl)
theorem cd_143_22 : mt_cd 143 22 = some (.putfield 346) := mt_cd_of (q := (22, .putfield 346, 3)) mq_143 ci_143 (List.mem_of_getElem? (i := 14) rfl)
theorem cd_143_25 : mt_cd 143 25 = some (.aload_n 0) := mt_cd_of (q := (25, .aload_n 0, 1)) mq_143 ci_143 (List.mem_of_getElem? (i := 15) rfl)
theorem cd_143_26 : mt_cd 143 26 = some (.iconst 0) := mt_cd_of (q := (26, .iconst 0, 1)) mq_143 ci_143 (List.mem_of_getElem? (i := 16) rfl)
theorem cd_143_27 : mt_cd 143 27 = some (.putfield 349) := mt_cd_of (q := (27, .putfield 349, 3)) mq_143 ci_143 (List.mem_of_getElem? (i := 17) rfl)
theorem cd_143_30 : mt_cd 143 30 = some (.aload_n 0) := mt_cd_of (q := (30, .aload_n 0, 1)) mq_143 ci_143 (List.mem_of_getElem? (i := 18) rfl)
theorem cd_143_31 : mt_cd 143 31 = some (.iconst 0) := mt_cd_of (q := (31, .iconst 0, 1)) mq_143 ci_143 (List.mem_of_getElem? (i := 19) rfl)
theorem cd_143_32 : mt_cd 143 32 = some (.putfield 352) := mt_cd_of (q := (32, .putfield 352, 3)) mq_143 ci_143 (List.mem_of_getElem? (i := 20) rfl)
theorem cd_143_35 : mt_cd 143 35 = some (.aload_n 0) := mt_cd_of (q := (35, .aload_n 0, 1)) mq_143 ci_143 (List.mem_of_getElem? (i := 21) rfl)
theorem cd_143_36 : mt_cd 143 36 = some (.iconst 0) := mt_cd_of (q := (36, .iconst 0, 1)) mq_143 ci_143 (List.mem_of_getElem? (i := 22) rfl)
theorem cd_143_37 : mt_cd 143 37 = some (.putfield 297) := mt_cd_of (q := (37, .putfield 297, 3)) mq_143 ci_143 (List.mem_of_getElem? (i := 23) rfl)
theorem cd_143_40 : mt_cd 143 40 = some (.aload_n 0) := mt_cd_of (q := (40, .aload_n 0, 1)) mq_143 ci_143 (List.mem_of_getElem? (i := 24) rfl)
theorem cd_143_41 : mt_cd 143 41 = some (.invokevirtual 333) := mt_cd_of (q := (41, .invokevirtual 333, 3)) mq_143 ci_143 (List.mem_of_getElem? (i := 25) rfl)
theorem cd_143_44 : mt_cd 143 44 = some (.ifCond .eq 26) := mt_cd_of (q := (44, .ifCond .eq 26, 3)) mq_143 ci_143 (List.mem_of_getElem? (i := 26) rfl)
theorem cd_143_47 : mt_cd 143 47 = some (.aload_n 0) := mt_cd_of (q := (47, .aload_n 0, 1)) mq_143 ci_143 (List.mem_of_getElem? (i := 27) rfl)
theorem cd_143_48 : mt_cd 143 48 = some (.invokevirtual 355) := mt_cd_of (q := (48, .invokevirtual 355, 3)) mq_143 ci_143 (List.mem_of_getElem? (i := 28) rfl)
theorem cd_143_51 : mt_cd 143 51 = some (.ifCond .lt 19) := mt_cd_of (q := (51, .ifCond .lt 19, 3)) mq_143 ci_143 (List.mem_of_getElem? (i := 29) rfl)
theorem cd_143_54 : mt_cd 143 54 = some (.aload_n 0) := mt_cd_of (q := (54, .aload_n 0, 1)) mq_143 ci_143 (List.mem_of_getElem? (i := 30) rfl)
theorem cd_143_55 : mt_cd 143 55 = some (.getfield 310) := mt_cd_of (q := (55, .getfield 310, 3)) mq_143 ci_143 (List.mem_of_getElem? (i := 31) rfl)
theorem cd_143_58 : mt_cd 143 58 = some (.ifCond .eq 12) := mt_cd_of (q := (58, .ifCond .eq 12, 3)) mq_143 ci_143 (List.mem_of_getElem? (i := 32) rfl)
theorem cd_143_61 : mt_cd 143 61 = some (.aload_n 0) := mt_cd_of (q := (61, .aload_n 0, 1)) mq_143 ci_143 (List.mem_of_getElem? (i := 33) rfl)
theorem cd_143_62 : mt_cd 143 62 = some (.aload_n 0) := mt_cd_of (q := (62, .aload_n 0, 1)) mq_143 ci_143 (List.mem_of_getElem? (i := 34) rfl)
theorem cd_143_63 : mt_cd 143 63 = some (.getfield 299) := mt_cd_of (q := (63, .getfield 299, 3)) mq_143 ci_143 (List.mem_of_getElem? (i := 35) rfl)
theorem cd_143_66 : mt_cd 143 66 = some (.invokevirtual 272) := mt_cd_of (q := (66, .invokevirtual 272, 3)) mq_143 ci_143 (List.mem_of_getElem? (i := 36) rfl)
theorem cd_143_69 : mt_cd 143 69 = some (.pop) := mt_cd_of (q := (69, .pop, 1)) mq_143 ci_143 (List.mem_of_getElem? (i := 37) rfl)
theorem cd_143_70 : mt_cd 143 70 = some (.return_) := mt_cd_of (q := (70, .return_, 1)) mq_143 ci_143 (List.mem_of_getElem? (i := 38) rfl)
theorem b_143_0 {d : Nat} {Q : (Option Value ⊕ Nat) → mi_H → Prop} (n sl : Nat) (f : Nat → mi_C) {l1 : Nat} {fs2 : List Value} {fs6 : List Value} {fs10 : List Value} {fs14 : List Value} {fs18 : List Value} {fs22 : List Value} (h3 : f l1 = .inr (12, fs2)) (h4 : l1 < n) (h5 : 21 < fs2.length) (h7 : (va_up f l1 (.inr (12, fs2.set 21 (.int 0)))) l1 = .inr (12, fs6)) (h8 : l1 < n) (h9 : 22 < fs6.length) (h11 : (va_up (va_up f l1 (.inr (12, fs2.set 21 (.int 0)))) l1 (.inr (12, fs6.set 22 (.int 0)))) l1 = .inr (12, fs10)) (h12 : l1 < n) (h13 : 23 < fs10.length) (h15 : (va_up (va_up (va_up f l1 (.inr (12, fs2.set 21 (.int 0)))) l1 (.inr (12, fs6.set 22 (.int 0)))) l1 (.inr (12, fs10.set 23 (.int 0)))) l1 = .inr (12, fs14)) (h16 : l1 < n) (h17 : 24 < fs14.length) (h19 : (va_up (va_up (va_up (va_up f l1 (.inr (12, fs2.set 21 (.int 0)))) l1 (.inr (12, fs6.set 22 (.int 0)))) l1 (.inr (12, fs10.set 23 (.int 0)))) l1 (.inr (12, fs14.set 24 (.int 0)))) l1 = .inr (12, fs18)) (h20 : l1 < n) (h21 : 25 < fs18.length) (h23 : (va_up (va_up (va_up (va_up (va_up f l1 (.inr (12, fs2.set 21 (.int 0)))) l1 (.inr (12, fs6.set 22 (.int 0)))) l1 (.inr (12, fs10.set 23 (.int 0)))) l1 (.inr (12, fs14.set 24 (.int 0)))) l1 (.inr (12, fs18.set 25 (.int 0)))) l1 = .inr (12, fs22)) (h24 : l1 < n) (h25 : 26 < fs22.length) (h26 : mi_W d 143 30 [some (.ref l1)] [] (n, sl, (va_up (va_up (va_up (va_up (va_up (va_up f l1 (.inr (12, fs2.set 21 (.int 0)))) l1 (.inr (12, fs6.set 22 (.int 0)))) l1 (.inr (12, fs10.set 23 (.int 0)))) l1 (.inr (12, fs14.set 24 (.int 0)))) l1 (.inr (12, fs18.set 25 (.int 0)))) l1 (.inr (12, fs22.set 26 (.int 0))))) Q) : mi_W d 143 0 [some (.ref l1)] [] (n, sl, f) Q := by
  refine w_aload_n cd_143_0 rfl ?_
  refine w_iconst (v := 0) cd_143_1 (by decide) ?_
  refine w_putfield (w := .int 0) cd_143_2 (show mt_f 12 282 = some (12, 21) by decide +kernel) h3 h4 ⟨h5, rfl, Or.inl (by decide)⟩ ?_
  refine w_aload_n cd_143_5 rfl ?_
  refine w_iconst (v := 0) cd_143_6 (by decide) ?_
  refine w_putfield (w := .int 0) cd_143_7 (show mt_f 12 337 = some (12, 22) by decide +kernel) h7 h8 ⟨h9, rfl, Or.inl (by decide)⟩ ?_
  refine w_aload_n cd_143_10 rfl ?_
  refine w_iconst (v := 0) cd_143_11 (by decide) ?_
  refine w_putfield (w := .int 0) cd_143_12 (show mt_f 12 340 = some (12, 23) by decide +kernel) h11 h12 ⟨h13, rfl, Or.inl (by decide)⟩ ?_
  refine w_aload_n cd_143_15 rfl ?_
  refine w_iconst (v := 0) cd_143_16 (by decide) ?_
  refine w_putfield (w := .int 0) cd_143_17 (show mt_f 12 343 = some (12, 24) by decide +kernel) h15 h16 ⟨h17, rfl, Or.inl (by decide)⟩ ?_
  refine w_aload_n cd_143_20 rfl ?_
  refine w_iconst (v := 0) cd_143_21 (by decide) ?_
  refine w_putfield (w := .int 0) cd_143_22 (show mt_f 12 346 = some (12, 25) by decide +kernel) h19 h20 ⟨h21, rfl, Or.inl (by decide)⟩ ?_
  refine w_aload_n cd_143_25 rfl ?_
  refine w_iconst (v := 0) cd_143_26 (by decide) ?_
  refine w_putfield (w := .int 0) cd_143_27 (show mt_f 12 349 = some (12, 26) by decide +kernel) h23 h24 ⟨h25, rfl, Or.inl (by decide)⟩ ?_
  exact h26
theorem b_143_30 {d : Nat} {Q : (Option Value ⊕ Nat) → mi_H → Prop} (n sl : Nat) (f : Nat → mi_C) {l1 : Nat} {fs2 : List Value} {fs6 : List Value} {fs10 : List Value} (h3 : f l1 = .inr (12, fs2)) (h4 : l1 < n) (h5 : 27 < fs2.length) (h7 : (va_up f l1 (.inr (12, fs2.set 27 (.int 0)))) l1 = .inr (12, fs6)) (h8 : l1 < n) (h9 : 10 < fs6.length) (h11 : (va_up (va_up f l1 (.inr (12, fs2.set 27 (.int 0)))) l1 (.inr (12, fs6.set 10 (.int 0)))) l1 = .inr (12, fs10)) (h12 : l1 < n) (h13 : mi_W d 144 0 (mi_en 4 [.ref l1]) [] (n, sl, (va_up (va_up f l1 (.inr (12, fs2.set 27 (.int 0)))) l1 (.inr (12, fs6.set 10 (.int 0))))) (mi_Kc d 143 41 [some (.ref l1)] [] Q)) : mi_W (d + 1) 143 30 [some (.ref l1)] [] (n, sl, f) Q := by
  refine w_aload_n cd_143_30 rfl ?_
  refine w_iconst (v := 0) cd_143_31 (by decide) ?_
  refine w_putfield (w := .int 0) cd_143_32 (show mt_f 12 352 = some (12, 27) by decide +kernel) h3 h4 ⟨h5, rfl, Or.inl (by decide)⟩ ?_
  refine w_aload_n cd_143_35 rfl ?_
  refine w_iconst (v := 0) cd_143_36 (by decide) ?_
  refine w_putfield (w := .int 0) cd_143_37 (show mt_f 12 297 = some (12, 10) by decide +kernel) h7 h8 ⟨h9, rfl, Or.inl (by decide)⟩ ?_
  refine w_aload_n cd_143_40 rfl ?_
  exact w_invokevirtual cd_143_41 (show mt_m 12 333 = some (144, 0) by decide +kernel) (rest := []) rfl (as := [.ref l1]) rfl h11 (Or.inl h12) ⟨Nat.le_of_ble_eq_true rfl, Nat.le_of_ble_eq_true rfl, Nat.le_of_ble_eq_true rfl⟩ h13
theorem b_143_44 {d : Nat} {Q : (Option Value ⊕ Nat) → mi_H → Prop} (n sl : Nat) (f : Nat → mi_C) {l1 : Nat} {s2 : Int32} (h3 : s2 = (0 : Int32) → mi_W d 143 70 [some (.ref l1)] [] (n, sl, f) Q) (h4 : ¬ (s2 = (0 : Int32)) → mi_W d 143 47 [some (.ref l1)] [] (n, sl, f) Q) : mi_W d 143 44 [some (.ref l1)] [.int s2] (n, sl, f) Q := by
  exact w_ifeq cd_143_44 (by decide) h3 h4
theorem b_143_47 {d : Nat} {Q : (Option Value ⊕ Nat) → mi_H → Prop} (n sl : Nat) (f : Nat → mi_C) {l1 : Nat} {fs2 : List Value} (h3 : f l1 = .inr (12, fs2)) (h4 : l1 < n) (h5 : mi_W d 151 0 (mi_en 4 [.ref l1]) [] (n, sl, f) (mi_Kc d 143 48 [some (.ref l1)] [] Q)) : mi_W (d + 1) 143 47 [some (.ref l1)] [] (n, sl, f) Q := by
  refine w_aload_n cd_143_47 rfl ?_
  exact w_invokevirtual cd_143_48 (show mt_m 12 355 = some (151, 0) by decide +kernel) (rest := []) rfl (as := [.ref l1]) rfl h3 (Or.inl h4) ⟨Nat.le_of_ble_eq_true rfl, Nat.le_of_ble_eq_true rfl, Nat.le_of_ble_eq_true rfl⟩ h5
theorem b_143_51 {d : Nat} {Q : (Option Value ⊕ Nat) → mi_H → Prop} (n sl : Nat) (f : Nat → mi_C) {l1 : Nat} {s2 : Int32} (h3 : s2 < (0 : Int32) → mi_W d 143 70 [some (.ref l1)] [] (n, sl, f) Q) (h4 : ¬ (s2 < (0 : Int32)) → mi_W d 143 54 [some (.ref l1)] [] (n, sl, f) Q) : mi_W d 143 51 [some (.ref l1)] [.int s2] (n, sl, f) Q := by
  exact w_iflt cd_143_51 (by decide) h3 h4
theorem b_143_54 {d : Nat} {Q : (Option Value ⊕ Nat) → mi_H → Prop} (n sl : Nat) (f : Nat → mi_C) {l1 : Nat} {fs2 : List Value} {x5 : Int32} (h3 : f l1 = .inr (12, fs2)) (h4 : l1 < n) (h6 : fs2[8]? = some (.int x5)) (h7 : x5 = (0 : Int32) → mi_W d 143 70 [some (.ref l1)] [] (n, sl, f) Q) (h8 : ¬ (x5 = (0 : Int32)) → mi_W d 143 61 [some (.ref l1)] [] (n, sl, f) Q) : mi_W d 143 54 [some (.ref l1)] [] (n, sl, f) Q := by
  refine w_aload_n cd_143_54 rfl ?_
  refine w_getfield cd_143_55 (show mt_f 12 310 = some (12, 8) by decide +kernel) h3 h4 h6 ?_
  exact w_ifeq cd_143_58 (by decide) h7 h8
theorem b_143_61 {d : Nat} {Q : (Option Value ⊕ Nat) → mi_H → Prop} (n sl : Nat) (f : Nat → mi_C) {l1 : Nat} {fs2 : List Value} {x5 : Int32} {fs7 : List Value} (h3 : f l1 = .inr (12, fs2)) (h4 : l1 < n) (h6 : fs2[9]? = some (.int x5)) (h8 : f l1 = .inr (12, fs7)) (h9 : l1 < n) (h10 : mi_W d 142 0 (mi_en 2 [.ref l1, .int x5]) [] (n, sl, f) (mi_Kc d 143 66 [some (.ref l1)] [] Q)) : mi_W (d + 1) 143 61 [some (.ref l1)] [] (n, sl, f) Q := by
  refine w_aload_n cd_143_61 rfl ?_
  refine w_aload_n cd_143_62 rfl ?_
  refine w_getfield cd_143_63 (show mt_f 12 299 = some (12, 9) by decide +kernel) h3 h4 h6 ?_
  exact w_invokevirtual cd_143_66 (show mt_m 12 272 = some (142, 0) by decide +kernel) (rest := []) rfl (as := [.ref l1, .int x5]) rfl h8 (Or.inl h9) ⟨Nat.le_of_ble_eq_true rfl, Nat.le_of_ble_eq_true rfl, Nat.le_of_ble_eq_true rfl⟩ h10
theorem b_143_69 {d : Nat} {Q : (Option Value ⊕ Nat) → mi_H → Prop} (n sl : Nat) (f : Nat → mi_C) {l1 : Nat} {s2 : Int32} (h3 : mi_W d 143 70 [some (.ref l1)] [] (n, sl, f) Q) : mi_W d 143 69 [some (.ref l1)] [.int s2] (n, sl, f) Q := by
  refine w_pop_i cd_143_69 ?_
  exact h3
theorem b_143_70 {d : Nat} {Q : (Option Value ⊕ Nat) → mi_H → Prop} (n sl : Nat) (f : Nat → mi_C) {l1 : Nat} (h2 : Q (.inl none) (n, sl, f)) : mi_W d 143 70 [some (.ref l1)] [] (n, sl, f) Q := by
  exact w_return cd_143_70 (by decide +kernel) h2
/-! MarloweHostModel.next()Z -/
set_option maxRecDepth 100000 in
theorem mq_144 : mt_q 144 = my_144 := rfl
set_option maxRecDepth 100000 in
theorem ci_144 : mt_inc 0 my_144.cd = true := by decide +kernel
theorem cd_144_0 : mt_cd 144 0 = some (.aload_n 0) := mt_cd_of (q := (0, .aload_n 0, 1)) mq_144 ci_144 (List.mem_append_left _ (show _ ∈ my_144_0 from List.mem_of_getElem? (i := 0) rfl))
theorem cd_144_1 : mt_cd 144 1 = some (.getfield 297) := mt_cd_of (q := (1, .getfield 297, 3)) mq_144 ci_144 (List.mem_append_left _ (show _ ∈ my_144_0 from List.mem_of_getElem? (i := 1) rfl))
theorem cd_144_4 : mt_cd 144 4 = some (.istore_n 1) := mt_cd_of (q := (4, .istore_n 1, 1)) mq_144 ci_144 (List.mem_append_left _ (show _ ∈ my_144_0 from List.mem_of_getElem? (i := 2) rfl))
theorem cd_144_5 : mt_cd 144 5 = some (.iload_n 1) := mt_cd_of (q := (5, .iload_n 1, 1)) mq_144 ci_144 (List.mem_append_left _ (show _ ∈ my_144_0 from List.mem_of_getElem? (i := 3) rfl))
theorem cd_144_6 : mt_cd 144 6 = some (.aload_n 0) := mt_cd_of (q := (6, .aload_n 0, 1)) mq_144 ci_144 (List.mem_append_left _ (show _ ∈ my_144_0 from List.mem_of_getElem? (i := 4) rfl))
theorem cd_144_7 : mt_cd 144 7 = some (.getfield 261) := mt_cd_of (q := (7, .getfield 261, 3)) mq_144 ci_144 (List.mem_append_left _ (show _ ∈ my_144_0 from List.mem_of_getElem? (i := 5) rfl))
theorem cd_144_10 : mt_cd 144 10 = some (.if_icmp .ge 31) := mt_cd_of (q := (10, .if_icmp .ge 31, 3)) mq_144 ci_144 (List.mem_append_left _ (show _ ∈ my_144_0 from List.mem_of_getElem? (i := 6) rfl))
theorem cd_144_13 : mt_cd 144 13 = some (.aload_n 0) := mt_cd_of (q := (13, .aload_n 0, 1)) mq_144 ci_144 (List.mem_append_left _ (show _ ∈ my_144_0 from List.mem_of_getElem? (i := 7) rfl))
theorem cd_144_14 : mt_cd 144 14 = some (.getfield 20) := mt_cd_of (q := (14, .getfield 20, 3)) mq_144 ci_144 (List.mem_append_left _ (show _ ∈ my_144_0 from List.mem_of_getElem? (i := 8) rfl))
theorem cd_144_17 : mt_cd 144 17 = some (.iload_n 1) := mt_cd_of (q := (17, .iload_n 1, 1)) mq_144 ci_144 (List.mem_append_left _ (show _ ∈ my_144_0 from List.mem_of_getElem? (i := 9) rfl))
theorem cd_144_18 : mt_cd 144 18 = some (.iaload) := mt_cd_of (q := (18, .iaload, 1)) mq_144 ci_144 (List.mem_append_left _ (show _ ∈ my_144_0 from List.mem_of_getElem? (i := 10) rfl))
theorem cd_144_19 : mt_cd 144 19 = some (.bipush 10) := mt_cd_of (q := (19, .bipush 10, 2)) mq_144 ci_144 (List.mem_append_left _ (show _ ∈ my_144_0 from List.mem_of_getElem? (i := 11) rfl))
theorem cd_144_21 : mt_cd 144 21 = some (.if_icmp .eq 14) := mt_cd_of (q := (21, .if_icmp .eq 14, 3)) mq_144 ci_144 (List.mem_append_left _ (show _ ∈ my_144_0 from List.mem_of_getElem? (i := 12) rfl))
theorem cd_144_24 : mt_cd 144 24 = some (.aload_n 0) := mt_cd_of (q := (24, .aload_n 0, 1)) mq_144 ci_144 (List.mem_append_left _ (show _ ∈ my_144_0 from List.mem_of_getElem? (i := 13) rfl))
theorem cd_144_25 : mt_cd 144 25 = some (.getfield 20) := mt_cd_of (q := (25, .getfield 20, 3)) mq_144 ci_144 (List.mem_append_left _ (show _ ∈ my_144_0 from List.mem_of_getElem? (i := 14) rfl))
theorem cd_144_28 : mt_cd 144 28 = some (.iload_n 1) := mt_cd_of (q := (28, .iload_n 1, 1)) mq_144 ci_144 (List.mem_append_left _ (show _ ∈ my_144_0 from List.mem_of_getElem? (i := 15) rfl))
theorem cd_144_29 : mt_cd 144 29 = some (.iaload) := mt_cd_of (q := (29, .iaload, 1)) mq_144 ci_144 (List.mem_append_left _ (show _ ∈ my_144_0 from List.mem_of_getElem? (i := 16) rfl))
theorem cd_144_30 : mt_cd 144 30 = some (.bipush 32) := mt_cd_of (q := (30, .bipush 32, 2)) mq_144 ci_144 (List.mem_append_left _ (show _ ∈ my_144_0 from List.mem_of_getElem? (i := 17) rfl))
theorem cd_144_32 : mt_cd 144 32 = some (.if_icmp .ne 9) := mt_cd_of (q := (32, .if_icmp .ne 9, 3)) mq_144 ci_144 (List.mem_append_left _ (show _ ∈ my_144_0 from List.mem_of_getElem? (i := 18) rfl))
theorem cd_144_35 : mt_cd 144 35 = some (.iinc 1 1) := mt_cd_of (q := (35, .iinc 1 1, 3)) mq_144 ci_144 (List.mem_append_left _ (show _ ∈ my_144_0 from List.mem_of_getElem? (i := 19) rfl))
theorem cd_144_38 : mt_cd 144 38 = some (.goto (-33)) := mt_cd_of (q := (38, .goto (-33), 3)) mq_144 ci_144 (List.mem_append_left _ (show _ ∈ my_144_0 from List.mem_of_getElem? (i := 20) rfl))
theorem cd_144_41 : mt_cd 144 41 = some (.aload_n 0) := mt_cd_of (q := (41, .aload_n 0, 1)) mq_144 ci_144 (List.mem_append_left _ (show _ ∈ my_144_0 from List.mem_of_getElem? (i := 21) rfl))
theorem cd_144_42 : mt_cd 144 42 = some (.iload_n 1) := mt_cd_of (q := (42, .iload_n 1, 1)) mq_144 ci_144 (List.mem_append_left _ (show _ ∈ my_144_0 from List.mem_of_getElem? (i := 22) rfl))
theorem cd_144_43 : mt_cd 144 43 = some (.putfield 299) := mt_cd_of (q := (43, .putfield 299, 3)) mq_144 ci_144 (List.mem_append_left _ (show _ ∈ my_144_0 from List.mem_of_getElem? (i := 23) rfl))
theorem cd_144_46 : mt_cd 144 46 = some (.aload_n 0) := mt_cd_of (q := (46, .aload_n 0, 1)) mq_144 ci_144 (List.mem_append_left _ (show _ ∈ my_144_0 from List.mem_of_getElem? (i := 24) rfl))
theorem cd_144_47 : mt_cd 144 47 = some (.iload_n 1) := mt_cd_of (q := (47, .iload_n 1, 1)) mq_144 ci_144 (List.mem_append_left _ (show _ ∈ my_144_0 from List.mem_of_getElem? (i := 25) rfl))
theorem cd_144_48 : mt_cd 144 48 = some (.putfield 297) := mt_cd_of (q := (48, .putfield 297, 3)) mq_144 ci_144 (List.mem_append_left _ (show _ ∈ my_144_0 from List.mem_of_getElem? (i := 26) rfl))
theorem cd_144_51 : mt_cd 144 51 = some (.iload_n 1) := mt_cd_of (q := (51, .iload_n 1, 1)) mq_144 ci_144 (List.mem_append_left _ (show _ ∈ my_144_0 from List.mem_of_getElem? (i := 27) rfl))
theorem cd_144_52 : mt_cd 144 52 = some (.aload_n 0) := mt_cd_of (q := (52, .aload_n 0, 1)) mq_144 ci_144 (List.mem_append_left _ (show _ ∈ my_144_0 from List.mem_of_getElem? (i := 28) rfl))
theorem cd_144_53 : mt_cd 144 53 = some (.getfield 261) := mt_cd_of (q := (53, .getfield 261, 3)) mq_144 ci_144 (List.mem_append_left _ (show _ ∈ my_144_0 from List.mem_of_getElem? (i := 29) rfl))
theorem cd_144_56 : mt_cd 144 56 = some (.if_icmp .ne 10) := mt_cd_of (q := (56, .if_icmp .ne 10, 3)) mq_144 ci_144 (List.mem_append_left _ (show _ ∈ my_144_0 from List.mem_of_getElem? (i := 30) rfl))
theorem cd_144_59 : mt_cd 144 59 = some (.aload_n 0) := mt_cd_of (q := (59, .aload_n 0, 1)) mq_144 ci_144 (List.mem_append_left _ (show _ ∈ my_144_0 from List.mem_of_getElem? (i := 31) rfl))
theorem cd_144_60 : mt_cd 144 60 = some (.iconst 0) := mt_cd_of (q := (60, .iconst 0, 1)) mq_144 ci_144 (List.mem_append_left _ (show _ ∈ my_144_0 from List.mem_of_getElem? (i := 32) rfl))
theorem cd_144_61 : mt_cd 144 61 = some (.putfield 310) := mt_cd_of (q := (61, .putfield 310, 3)) mq_144 ci_144 (List.mem_append_left _ (show _ ∈ my_144_0 from List.mem_of_getElem? (i := 33) rfl))
theorem cd_144_64 : mt_cd 144 64 = some (.iconst 1) := mt_cd_of (q := (64, .iconst 1, 1)) mq_144 ci_144 (List.mem_append_left _ (show _ ∈ my_144_0 from List.mem_of_getElem? (i := 34) rfl))
theorem cd_144_65 : mt_cd 144 65 = some (.ireturn) := mt_cd_of (q := (65, .ireturn, 1)) mq_144 ci_144 (List.mem_append_left _ (show _ ∈ my_144_0 from List.mem_of_getElem? (i := 35) rfl))
theorem cd_144_66 : mt_cd 144 66 = some (.aload_n 0) := mt_cd_of (q := (66, .aload_n 0, 1)) mq_144 ci_144 (List.mem_append_left _ (show _ ∈ my_144_0 from List.mem_of_getElem? (i := 36) rfl))
theorem cd_144_67 : mt_cd 144 67 = some (.iload_n 1) := mt_cd_of (q := (67, .iload_n 1, 1)) mq_144 ci_144 (List.mem_append_left _ (show _ ∈ my_144_0 from List.mem_of_getElem? (i := 37) rfl))
theorem cd_144_68 : mt_cd 144 68 = some (.invokevirtual 313) := mt_cd_of (q := (68, .invokevirtual 313, 3)) mq_144 ci_144 (List.mem_append_left _ (show _ ∈ my_144_0 from List.mem_of_getElem? (i := 38) rfl))
theorem cd_144_71 : mt_cd 144 71 = some (.invokestatic 317) := mt_cd_of (q := (71, .invokestatic 317, 3)) mq_144 ci_144 (List.mem_append_left _ (show _ ∈ my_144_0 from List.mem_of_getElem? (i := 39) rfl))
theorem cd_144_74 : mt_cd 144 74 = some (.ifCond .eq 100) := mt_cd_of (q := (74, .ifCond .eq 100, 3)) mq_144 ci_144 (List.mem_append_left _ (show _ ∈ my_144_0 from List.mem_of_getElem? (i := 40) rfl))
theorem cd_144_77 : mt_cd 144 77 = some (.aload_n 0) := mt_cd_of (q := (77, .aload_n 0, 1)) mq_144 ci_144 (List.mem_append_left _ (show _ ∈ my_144_0 from List.mem_of_getElem? (i := 41) rfl))
theorem cd_144_78 : mt_cd 144 78 = some (.getfield 297) := mt_cd_of (q := (78, .getfield 297, 3)) mq_144 ci_144 (List.mem_append_left _ (show _ ∈ my_144_0 from List.mem_of_getElem? (i := 42) rfl))
theorem cd_144_81 : mt_cd 144 81 = some (.aload_n 0) := mt_cd_of (q := (81, .aload_n 0, 1)) mq_144 ci_144 (List.mem_append_left _ (show _ ∈ my_144_0 from List.mem_of_getElem? (i := 43) rfl))
theorem cd_144_82 : mt_cd 144 82 = some (.getfield 299) := mt_cd_of (q := (82, .getfield 299, 3)) mq_144 ci_144 (List.mem_append_left _ (show _ ∈ my_144_0 from List.mem_of_getElem? (i := 44) rfl))
theorem cd_144_85 : mt_cd 144 85 = some (.isub) := mt_cd_of (q := (85, .isub, 1)) mq_144 ci_144 (List.mem_append_left _ (show _ ∈ my_144_0 from List.mem_of_getElem? (i := 45) rfl))
theorem cd_144_86 : mt_cd 144 86 = some (.bipush 16) := mt_cd_of (q := (86, .bipush 16, 2)) mq_144 ci_144 (List.mem_append_left _ (show _ ∈ my_144_0 from List.mem_of_getElem? (i := 46) rfl))
theorem cd_144_88 : mt_cd 144 88 = some (.if_icmp .ge 44) := mt_cd_of (q := (88, .if_icmp .ge 44, 3)) mq_144 ci_144 (List.mem_append_left _ (show _ ∈ my_144_0 from List.mem_of_getElem? (i := 47) rfl))
theorem cd_144_91 : mt_cd 144 91 = some (.aload_n 0) := mt_cd_of (q := (91, .aload_n 0, 1)) mq_144 ci_144 (List.mem_append_left _ (show _ ∈ my_144_0 from List.mem_of_getElem? (i := 48) rfl))
theorem cd_144_92 : mt_cd 144 92 = some (.aload_n 0) := mt_cd_of (q := (92, .aload_n 0, 1)) mq_144 ci_144 (List.mem_append_left _ (show _ ∈ my_144_0 from List.mem_of_getElem? (i := 49) rfl))
theorem cd_144_93 : mt_cd 144 93 = some (.getfield 297) := mt_cd_of (q := (93, .getfield 297, 3)) mq_144 ci_144 (List.mem_append_left _ (show _ ∈ my_144_0 from List.mem_of_getElem? (i := 50) rfl))
theorem cd_144_96 : mt_cd 144 96 = some (.invokevirtual 313) := mt_cd_of (q := (96, .invokevirtual 313, 3)) mq_144 ci_144 (List.mem_append_left _ (show _ ∈ my_144_0 from List.mem_of_getElem? (i := 51) rfl))
theorem cd_144_99 : mt_cd 144 99 = some (.invokestatic 317) := mt_cd_of (q := (99, .invokestatic 317, 3)) mq_144 ci_144 (List.mem_append_left _ (show _ ∈ my_144_0 from List.mem_of_getElem? (i := 52) rfl))
theorem cd_144_102 : mt_cd 144 102 = some (.ifCond .ne 17) := mt_cd_of (q := (102, .ifCond .ne 17, 3)) mq_144 ci_144 (List.mem_append_left _ (show _ ∈ my_144_0 from List.mem_of_getElem? (i := 53) rfl))
theorem cd_144_105 : mt_cd 144 105 = some (.aload_n 0) := mt_cd_of (q := (105, .aload_n 0, 1)) mq_144 ci_144 (List.mem_append_left _ (show _ ∈ my_144_0 from List.mem_of_getElem? (i := 54) rfl))
theorem cd_144_106 : mt_cd 144 106 = some (.aload_n 0) := mt_cd_of (q := (106, .aload_n 0, 1)) mq_144 ci_144 (List.mem_append_left _ (show _ ∈ my_144_0 from List.mem_of_getElem? (i := 55) rfl))
theorem cd_144_107 : mt_cd 144 107 = some (.getfield 297) := mt_cd_of (q := (107, .getfield 297, 3)) mq_144 ci_144 (List.mem_append_left _ (show _ ∈ my_144_0 from List.mem_of_getElem? (i := 56) rfl))
theorem cd_144_110 : mt_cd 144 110 = some (.invokevirtual 313) := mt_cd_of (q := (110, .invokevirtual 313, 3)) mq_144 ci_144 (List.mem_append_left _ (show _ ∈ my_144_0 from List.mem_of_getElem? (i := 57) rfl))
theorem cd_144_113 : mt_cd 144 113 = some (.invokestatic 320) := mt_cd_of (q := (113, .invokestatic 320, 3)) mq_144 ci_144 (List.mem_append_left _ (show _ ∈ my_144_0 from List.mem_of_getElem? (i := 58) rfl))
theorem cd_144_116 : mt_cd 144 116 = some (.ifCond .eq 16) := mt_cd_of (q := (116, .ifCond .eq 16, 3)) mq_144 ci_144 (List.mem_append_left _ (show _ ∈ my_144_0 from List.mem_of_getElem? (i := 59) rfl))
theorem cd_144_119 : mt_cd 144 119 = some (.aload_n 0) := mt_cd_of (q := (119, .aload_n 0, 1)) mq_144 ci_144 (List.mem_append_right _ (List.mem_append_left _ (show _ ∈ my_144_1 from List.mem_of_getElem? (i := 0) rfl)))
theorem cd_144_120 : mt_cd 144 120 = some (.dup) := mt_cd_of (q := (120, .dup, 1)) mq_144 ci_144 (List.mem_append_right _ (List.mem_append_left _ (show _ ∈ my_144_1 from List.mem_of_getElem? (i := 1) rfl)))
theorem cd_144_121 : mt_cd 144 121 = some (.getfield 297) := mt_cd_of (q := (121, .getfield 297, 3)) mq_144 ci_144 (List.mem_append_right _ (List.mem_append_left _ (show _ ∈ my_144_1 from List.mem_of_getElem? (i := 2) rfl)))
theorem cd_144_124 : mt_cd 144 124 = some (.iconst 1) := mt_cd_of (q := (124, .iconst 1, 1)) mq_144 ci_144 (List.mem_append_right _ (List.mem_append_left _ (show _ ∈ my_144_1 from List.mem_of_getElem? (i := 3) rfl)))
theorem cd_144_125 : mt_cd 144 125 = some (.iadd) := mt_cd_of (q := (125, .iadd, 1)) mq_144 ci_144 (List.mem_append_right _ (List.mem_append_left _ (show _ ∈ my_144_1 from List.mem_of_getElem? (i := 4) rfl)))
theorem cd_144_126 : mt_cd 144 126 = some (.putfield 297) := mt_cd_of (q := (126, .putfield 297, 3)) mq_144 ci_144 (List.mem_append_right _ (List.mem_append_left _ (show _ ∈ my_144_1 from List.mem_of_getElem? (i := 5) rfl)))
theorem cd_144_129 : mt_cd 144 129 = some (.goto (-52)) := mt_cd_of (q := (129, .goto (-52), 3)) mq_144 ci_144 (List.mem_append_right _ (List.mem_append_left _ (show _ ∈ my_144_1 from List.mem_of_getElem? (i := 6) rfl)))
theorem cd_144_132 : mt_cd 144 132 = some (.aload_n 0) := mt_cd_of (q := (132, .aload_n 0, 1)) mq_144 ci_144 (List.mem_append_right _ (List.mem_append_left _ (show _ ∈ my_144_1 from List.mem_of_getElem? (i := 7) rfl)))
theorem cd_144_133 : mt_cd 144 133 = some (.iconst 1) := mt_cd_of (q := (133, .iconst 1, 1)) mq_144 ci_144 (List.mem_append_right _ (List.mem_append_left _ (show _ ∈ my_144_1 from List.mem_of_getElem? (i := 8) rfl)))
theorem cd_144_134 : mt_cd 144 134 = some (.putfield 310) := mt_cd_of (q := (134, .putfield 310, 3)) mq_144 ci_144 (List.mem_append_right _ (List.mem_append_left _ (show _ ∈ my_144_1 from List.mem_of_getElem? (i := 9) rfl)))
theorem cd_144_137 : mt_cd 144 137 = some (.iconst 0) := mt_cd_of (q := (137, .iconst 0, 1)) mq_144 ci_144 (List.mem_append_right _ (List.mem_append_left _ (show _ ∈ my_144_1 from List.mem_of_getElem? (i := 10) rfl)))
theorem cd_144_138 : mt_cd 144 138 = some (.istore_n 2) := mt_cd_of (q := (138, .istore_n 2, 1)) mq_144 ci_144 (List.mem_append_right _ (List.mem_append_left _ (show _ ∈ my_144_1 from List.mem_of_getElem? (i := 11) rfl)))
theorem cd_144_139 : mt_cd 144 139 = some (.iload_n 2) := mt_cd_of (q := (139, .iload_n 2, 1)) mq_144 ci_144 (List.mem_append_right _ (List.mem_append_left _ (show _ ∈ my_144_1 from List.mem_of_getElem? (i := 12) rfl)))
theorem cd_144_140 : mt_cd 144 140 = some (.aload_n 0) := mt_cd_of (q := (140, .aload_n 0, 1)) mq_144 ci_144 (List.mem_append_right _ (List.mem_append_left _ (show _ ∈ my_144_1 from List.mem_of_getElem? (i := 13) rfl)))
theorem cd_144_141 : mt_cd 144 141 = some (.getfield 73) := mt_cd_of (q := (141, .getfield 73, 3)) mq_144 ci_144 (List.mem_append_right _ (List.mem_append_left _ (show _ ∈ my_144_1 from List.mem_of_getElem? (i := 14) rfl)))
theorem cd_144_144 : mt_cd 144 144 = some (.arraylength) := mt_cd_of (q := (144, .arraylength, 1)) mq_144 ci_144 (List.mem_append_right _ (List.mem_append_left _ (show _ ∈ my_144_1 from List.mem_of_getElem? (i := 15) rfl)))
theorem cd_144_145 : mt_cd 144 145 = some (.if_icmp .ge 27) := mt_cd_of (q := (145, .if_icmp .ge 27, 3)) mq_144 ci_144 (List.mem_append_right _ (List.mem_append_left _ (show _ ∈ my_144_1 from List.mem_of_getElem? (i := 16) rfl)))
theorem cd_144_148 : mt_cd 144 148 = some (.aload_n 0) := mt_cd_of (q := (148, .aload_n 0, 1)) mq_144 ci_144 (List.mem_append_right _ (List.mem_append_left _ (show _ ∈ my_144_1 from List.mem_of_getElem? (i := 17) rfl)))
theorem cd_144_149 : mt_cd 144 149 = some (.aload_n 0) := mt_cd_of (q := (149, .aload_n 0, 1)) mq_144 ci_144 (List.mem_append_right _ (List.mem_append_left _ (show _ ∈ my_144_1 from List.mem_of_getElem? (i := 18) rfl)))
theorem cd_144_150 : mt_cd 144 150 = some (.getfield 73) := mt_cd_of (q := (150, .getfield 73, 3)) mq_144 ci_144 (List.mem_append_right _ (List.mem_append_left _ (show _ ∈ my_144_1 from List.mem_of_getElem? (i := 19) rfl)))
theorem cd_144_153 : mt_cd 144 153 = some (.iload_n 2) := mt_cd_of (q := (153, .iload_n 2, 1)) mq_144 ci_144 (List.mem_append_right _ (List.mem_append_left _ (show _ ∈ my_144_1 from List.mem_of_getElem? (i := 20) rfl)))
theorem cd_144_154 : mt_cd 144 154 = some (.aaload) := mt_cd_of (q := (154, .aaload, 1)) mq_144 ci_144 (List.mem_append_right _ (List.mem_append_left _ (show _ ∈ my_144_1 from List.mem_of_getElem? (i := 21) rfl)))
theorem cd_144_155 : mt_cd 144 155 = some (.invokevirtual 323) := mt_cd_of (q := (155, .invokevirtual 323, 3)) mq_144 ci_144 (List.mem_append_right _ (List.mem_append_left _ (show _ ∈ my_144_1 from List.mem_of_getElem? (i := 22) rfl)))
theorem cd_144_158 : mt_cd 144 158 = some (.ifCond .eq 8) := mt_cd_of (q := (158, .ifCond .eq 8, 3)) mq_144 ci_144 (List.mem_append_right _ (List.mem_append_left _ (show _ ∈ my_144_1 from List.mem_of_getElem? (i := 23) rfl)))
theorem cd_144_161 : mt_cd 144 161 = some (.aload_n 0) := mt_cd_of (q := (161, .aload_n 0, 1)) mq_144 ci_144 (List.mem_append_right _ (List.mem_append_left _ (show _ ∈ my_144_1 from List.mem_of_getElem? (i := 24) rfl)))
theorem cd_144_162 : mt_cd 144 162 = some (.iconst 4) := mt_cd_of (q := (162, .iconst 4, 1)) mq_144 ci_144 (List.mem_append_right _ (List.mem_append_left _ (show _ ∈ my_144_1 from List.mem_of_getElem? (i := 25) rfl)))
theorem cd_144_163 : mt_cd 144 163 = some (.putfield 310) := mt_cd_of (q := (163, .putfield 310, 3)) mq_144 ci_144 (List.mem_append_right _ (List.mem_append_left _ (show _ ∈ my_144_1 from List.mem_of_getElem? (i := 26) rfl)))
theorem cd_144_166 : mt_cd 144 166 = some (.iinc 2 1) := mt_cd_of (q := (166, .iinc 2 1, 3)) mq_144 ci_144 (List.mem_append_right _ (List.mem_append_left _ (show _ ∈ my_144_1 from List.mem_of_getElem? (i := 27) rfl)))
theorem cd_144_169 : mt_cd 144 169 = some (.goto (-30)) := mt_cd_of (q := (169, .goto (-30), 3)) mq_144 ci_144 (List.mem_append_right _ (List.mem_append_left _ (show _ ∈ my_144_1 from List.mem_of_getElem? (i := 28) rfl)))
theorem cd_144_172 : mt_cd 144 172 = some (.iconst 1) := mt_cd_of (q := (172, .iconst 1, 1)) mq_144 ci_144 (List.mem_append_right _ (List.mem_append_left _ (show _ ∈ my_144_1 from List.mem_of_getElem? (i := 29) rfl)))
theorem cd_144_173 : mt_cd 144 173 = some (.ireturn) := mt_cd_of (q := (173, .ireturn, 1)) mq_144 ci_144 (List.mem_append_right _ (List.mem_append_left _ (show _ ∈ my_144_1 from List.mem_of_getElem? (i := 30) rfl)))
theorem cd_144_174 : mt_cd 144 174 = some (.aload_n 0) := mt_cd_of (q := (174, .aload_n 0, 1)) mq_144 ci_144 (List.mem_append_right _ (List.mem_append_left _ (show _ ∈ my_144_1 from List.mem_of_getElem? (i := 31) rfl)))
theorem cd_144_175 : mt_cd 144 175 = some (.iload_n 1) := mt_cd_of (q := (175, .iload_n 1, 1)) mq_144 ci_144 (List.mem_append_right _ (List.mem_append_left _ (show _ ∈ my_144_1 from List.mem_of_getElem? (i := 32) rfl)))
theorem cd_144_176 : mt_cd 144 176 = some (.invokevirtual 313) := mt_cd_of (q := (176, .invokevirtual 313, 3)) mq_144 ci_144 (List.mem_append_right _ (List.mem_append_left _ (show _ ∈ my_144_1 from List.mem_of_getElem? (i := 33) rfl)))
theorem cd_144_179 : mt_cd 144 179 = some (.bipush 45) := mt_cd_of (q := (179, .bipush 45, 2)) mq_144 ci_144 (List.mem_append_right _ (List.mem_append_left _ (show _ ∈ my_144_1 from List.mem_of_getElem? (i := 34) rfl)))
theorem cd_144_181 : mt_cd 144 181 = some (.if_icmp .ne 7) := mt_cd_of (q := (181, .if_icmp .ne 7, 3)) mq_144 ci_144 (List.mem_append_right _ (List.mem_append_left _ (show _ ∈ my_144_1 from List.mem_of_getElem? (i := 35) rfl)))
theorem cd_144_184 : mt_cd 144 184 = some (.iconst 1) := mt_cd_of (q := (184, .iconst 1, 1)) mq_144 ci_144 (List.mem_append_right _ (List.mem_append_left _ (show _ ∈ my_144_1 from List.mem_of_getElem? (i := 36) rfl)))
theorem cd_144_185 : mt_cd 144 185 = some (.goto 4) := mt_cd_of (q := (185, .goto 4, 3)) mq_144 ci_144 (List.mem_append_right _ (List.mem_append_left _ (show _ ∈ my_144_1 from List.mem_of_getElem? (i := 37) rfl)))
theorem cd_144_188 : mt_cd 144 188 = some (.iconst 0) := mt_cd_of (q := (188, .iconst 0, 1)) mq_144 ci_144 (List.mem_append_right _ (List.mem_append_left _ (show _ ∈ my_144_1 from List.mem_of_getElem? (i := 38) rfl)))
theorem cd_144_189 : mt_cd 144 189 = some (.istore_n 2) := mt_cd_of (q := (189, .istore_n 2, 1)) mq_144 ci_144 (List.mem_append_right _ (List.mem_append_left _ (show _ ∈ my_144_1 from List.mem_of_getElem? (i := 39) rfl)))
theorem cd_144_190 : mt_cd 144 190 = some (.aload_n 0) := mt_cd_of (q := (190, .aload_n 0, 1)) mq_144 ci_144 (List.mem_append_right _ (List.mem_append_left _ (show _ ∈ my_144_1 from List.mem_of_getElem? (i := 40) rfl)))
theorem cd_144_191 : mt_cd 144 191 = some (.iload_n 1) := mt_cd_of (q := (191, .iload_n 1, 1)) mq_144 ci_144 (List.mem_append_right _ (List.mem_append_left _ (show _ ∈ my_144_1 from List.mem_of_getElem? (i := 41) rfl)))
theorem cd_144_192 : mt_cd 144 192 = some (.invokevirtual 313) := mt_cd_of (q := (192, .invokevirtual 313, 3)) mq_144 ci_144 (List.mem_append_right _ (List.mem_append_left _ (show _ ∈ my_144_1 from List.mem_of_getElem? (i := 42) rfl)))
theorem cd_144_195 : mt_cd 144 195 = some (.invokestatic 320) := mt_cd_of (q := (195, .invokestatic 320, 3)) mq_144 ci_144 (List.mem_append_right _ (List.mem_append_left _ (show _ ∈ my_144_1 from List.mem_of_getElem? (i := 43) rfl)))
theorem cd_144_198 : mt_cd 144 198 = some (.ifCond .ne 20) := mt_cd_of (q := (198, .ifCond .ne 20, 3)) mq_144 ci_144 (List.mem_append_right _ (List.mem_append_left _ (show _ ∈ my_144_1 from List.mem_of_getElem? (i := 44) rfl)))
theorem cd_144_201 : mt_cd 144 201 = some (.iload_n 2) := mt_cd_of (q := (201, .iload_n 2, 1)) mq_144 ci_144 (List.mem_append_right _ (List.mem_append_left _ (show _ ∈ my_144_1 from List.mem_of_getElem? (i := 45) rfl)))
theorem cd_144_202 : mt_cd 144 202 = some (.ifCond .eq 117) := mt_cd_of (q := (202, .ifCond .eq 117, 3)) mq_144 ci_144 (List.mem_append_right _ (List.mem_append_left _ (show _ ∈ my_144_1 from List.mem_of_getElem? (i := 46) rfl)))
theorem cd_144_205 : mt_cd 144 205 = some (.aload_n 0) := mt_cd_of (q := (205, .aload_n 0, 1)) mq_144 ci_144 (List.mem_append_right _ (List.mem_append_left _ (show _ ∈ my_144_1 from List.mem_of_getElem? (i := 47) rfl)))
theorem cd_144_206 : mt_cd 144 206 = some (.iload_n 1) := mt_cd_of (q := (206, .iload_n 1, 1)) mq_144 ci_144 (List.mem_append_right _ (List.mem_append_left _ (show _ ∈ my_144_1 from List.mem_of_getElem? (i := 48) rfl)))
theorem cd_144_207 : mt_cd 144 207 = some (.iconst 1) := mt_cd_of (q := (207, .iconst 1, 1)) mq_144 ci_144 (List.mem_append_right _ (List.mem_append_left _ (show _ ∈ my_144_1 from List.mem_of_getElem? (i := 49) rfl)))
theorem cd_144_208 : mt_cd 144 208 = some (.iadd) := mt_cd_of (q := (208, .iadd, 1)) mq_144 ci_144 (List.mem_append_right _ (List.mem_append_left _ (show _ ∈ my_144_1 from List.mem_of_getElem? (i := 50) rfl)))
theorem cd_144_209 : mt_cd 144 209 = some (.invokevirtual 313) := mt_cd_of (q := (209, .invokevirtual 313, 3)) mq_144 ci_144 (List.mem_append_right _ (List.mem_append_left _ (show _ ∈ my_144_1 from List.mem_of_getElem? (i := 51) rfl)))
theorem cd_144_212 : mt_cd 144 212 = some (.invokestatic 320) := mt_cd_of (q := (212, .invokestatic 320, 3)) mq_144 ci_144 (List.mem_append_right _ (List.mem_append_left _ (show _ ∈ my_144_1 from List.mem_of_getElem? (i := 52) rfl)))
theorem cd_144_215 : mt_cd 144 215 = some (.ifCond .eq 104) := mt_cd_of (q := (215, .ifCond .eq 104, 3)) mq_144 ci_144 (List.mem_append_right _ (List.mem_append_left _ (show _ ∈ my_144_1 from List.mem_of_getElem? (i := 53) rfl)))
theorem cd_144_218 : mt_cd 144 218 = some (.aload_n 0) := mt_cd_of (q := (218, .aload_n 0, 1)) mq_144 ci_144 (List.mem_append_right _ (List.mem_append_left _ (show _ ∈ my_144_1 from List.mem_of_getElem? (i := 54) rfl)))
theorem cd_144_219 : mt_cd 144 219 = some (.iconst 2) := mt_cd_of (q := (219, .iconst 2, 1)) mq_144 ci_144 (List.mem_append_right _ (List.mem_append_left _ (show _ ∈ my_144_1 from List.mem_of_getElem? (i := 55) rfl)))
theorem cd_144_220 : mt_cd 144 220 = some (.putfield 310) := mt_cd_of (q := (220, .putfield 310, 3)) mq_144 ci_144 (List.mem_append_right _ (List.mem_append_left _ (show _ ∈ my_144_1 from List.mem_of_getElem? (i := 56) rfl)))
theorem cd_144_223 : mt_cd 144 223 = some (.aload_n 0) := mt_cd_of (q := (223, .aload_n 0, 1)) mq_144 ci_144 (List.mem_append_right _ (List.mem_append_left _ (show _ ∈ my_144_1 from List.mem_of_getElem? (i := 57) rfl)))
theorem cd_144_224 : mt_cd 144 224 = some (.iload_n 2) := mt_cd_of (q := (224, .iload_n 2, 1)) mq_144 ci_144 (List.mem_append_right _ (List.mem_append_left _ (show _ ∈ my_144_1 from List.mem_of_getElem? (i := 58) rfl)))
theorem cd_144_225 : mt_cd 144 225 = some (.ifCond .eq 9) := mt_cd_of (q := (225, .ifCond .eq 9, 3)) mq_144 ci_144 (List.mem_append_right _ (List.mem_append_left _ (show _ ∈ my_144_1 from List.mem_of_getElem? (i := 59) rfl)))
theorem cd_144_228 : mt_cd 144 228 = some (.iload_n 1) := mt_cd_of (q := (228, .iload_n 1, 1)) mq_144 ci_144 (List.mem_append_right _ (List.mem_append_right _ (List.mem_append_left _ (show _ ∈ my_144_2 from List.mem_of_getElem? (i := 0) rfl))))
theorem cd_144_229 : mt_cd 144 229 = some (.iconst 1) := mt_cd_of (q := (229, .iconst 1, 1)) mq_144 ci_144 (List.mem_append_right _ (List.mem_append_right _ (List.mem_append_left _ (show _ ∈ my_144_2 from List.mem_of_getElem? (i := 1) rfl))))
theorem cd_144_230 : mt_cd 144 230 = some (.iadd) := mt_cd_of (q := (230, .iadd, 1)) mq_144 ci_144 (List.mem_append_right _ (List.mem_append_right _ (List.mem_append_left _ (show _ ∈ my_144_2 from List.mem_of_getElem? (i := 2) rfl))))
theorem cd_144_231 : mt_cd 144 231 = some (.goto 4) := mt_cd_of (q := (231, .goto 4, 3)) mq_144 ci_144 (List.mem_append_right _ (List.mem_append_right _ (List.mem_append_left _ (show _ ∈ my_144_2 from List.mem_of_getElem? (i := 3) rfl))))
theorem cd_144_234 : mt_cd 144 234 = some (.iload_n 1) := mt_cd_of (q := (234, .iload_n 1, 1)) mq_144 ci_144 (List.mem_append_right _ (List.mem_append_right _ (List.mem_append_left _ (show _ ∈ my_144_2 from List.mem_of_getElem? (i := 4) rfl))))
theorem cd_144_235 : mt_cd 144 235 = some (.putfield 297) := mt_cd_of (q := (235, .putfield 297, 3)) mq_144 ci_144 (List.mem_append_right _ (List.mem_append_right _ (List.mem_append_left _ (show _ ∈ my_144_2 from List.mem_of_getElem? (i := 5) rfl))))
theorem cd_144_238 : mt_cd 144 238 = some (.aload_n 0) := mt_cd_of (q := (238, .aload_n 0, 1)) mq_144 ci_144 (List.mem_append_right _ (List.mem_append_right _ (List.mem_append_left _ (show _ ∈ my_144_2 from List.mem_of_getElem? (i := 6) rfl))))
theorem cd_144_239 : mt_cd 144 239 = some (.lconst 0) := mt_cd_of (q := (239, .lconst 0, 1)) mq_144 ci_144 (List.mem_append_right _ (List.mem_append_right _ (List.mem_append_left _ (show _ ∈ my_144_2 from List.mem_of_getElem? (i := 7) rfl))))
theorem cd_144_240 : mt_cd 144 240 = some (.putfield 327) := mt_cd_of (q := (240, .putfield 327, 3)) mq_144 ci_144 (List.mem_append_right _ (List.mem_append_right _ (List.mem_append_left _ (show _ ∈ my_144_2 from List.mem_of_getElem? (i := 8) rfl))))
theorem cd_144_243 : mt_cd 144 243 = some (.iconst 0) := mt_cd_of (q := (243, .iconst 0, 1)) mq_144 ci_144 (List.mem_append_right _ (List.mem_append_right _ (List.mem_append_left _ (show _ ∈ my_144_2 from List.mem_of_getElem? (i := 9) rfl))))
theorem cd_144_244 : mt_cd 144 244 = some (.istore_n 3) := mt_cd_of (q := (244, .istore_n 3, 1)) mq_144 ci_144 (List.mem_append_right _ (List.mem_append_right _ (List.mem_append_left _ (show _ ∈ my_144_2 from List.mem_of_getElem? (i := 10) rfl))))
theorem cd_144_245 : mt_cd 144 245 = some (.aload_n 0) := mt_cd_of (q := (245, .aload_n 0, 1)) mq_144 ci_144 (List.mem_append_right _ (List.mem_append_right _ (List.mem_append_left _ (show _ ∈ my_144_2 from List.mem_of_getElem? (i := 11) rfl))))
theorem cd_144_246 : mt_cd 144 246 = some (.aload_n 0) := mt_cd_of (q := (246, .aload_n 0, 1)) mq_144 ci_144 (List.mem_append_right _ (List.mem_append_right _ (List.mem_append_left _ (show _ ∈ my_144_2 from List.mem_of_getElem? (i := 12) rfl))))
theorem cd_144_247 : mt_cd 144 247 = some (.getfield 297) := mt_cd_of (q := (247, .getfield 297, 3)) mq_144 ci_144 (List.mem_append_right _ (List.mem_append_right _ (List.mem_append_left _ (show _ ∈ my_144_2 from List.mem_of_getElem? (i := 13) rfl))))
theorem cd_144_250 : mt_cd 144 250 = some (.invokevirtual 313) := mt_cd_of (q := (250, .invokevirtual 313, 3)) mq_144 ci_144 (List.mem_append_right _ (List.mem_append_right _ (List.mem_append_left _ (show _ ∈ my_144_2 from List.mem_of_getElem? (i := 14) rfl))))
theorem cd_144_253 : mt_cd 144 253 = some (.invokestatic 320) := mt_cd_of (q := (253, .invokestatic 320, 3)) mq_144 ci_144 (List.mem_append_right _ (List.mem_append_right _ (List.mem_append_left _ (show _ ∈ my_144_2 from List.mem_of_getElem? (i := 15) rfl))))
theorem cd_144_256 : mt_cd 144 256 = some (.ifCond .eq 48) := mt_cd_of (q := (256, .ifCond .eq 48, 3)) mq_144 ci_144 (List.mem_append_right _ (List.mem_append_right _ (List.mem_append_left _ (show _ ∈ my_144_2 from List.mem_of_getElem? (i := 16) rfl))))
theorem cd_144_259 : mt_cd 144 259 = some (.iload_n 3) := mt_cd_of (q := (259, .iload_n 3, 1)) mq_144 ci_144 (List.mem_append_right _ (List.mem_append_right _ (List.mem_append_left _ (show _ ∈ my_144_2 from List.mem_of_getElem? (i := 17) rfl))))
theorem cd_144_260 : mt_cd 144 260 = some (.bipush 17) := mt_cd_of (q := (260, .bipush 17, 2)) mq_144 ci_144 (List.mem_append_right _ (List.mem_append_right _ (List.mem_append_left _ (show _ ∈ my_144_2 from List.mem_of_getElem? (i := 18) rfl))))
theorem cd_144_262 : mt_cd 144 262 = some (.if_icmp .ge 42) := mt_cd_of (q := (262, .if_icmp .ge 42, 3)) mq_144 ci_144 (List.mem_append_right _ (List.mem_append_right _ (List.mem_append_left _ (show _ ∈ my_144_2 from List.mem_of_getElem? (i := 19) rfl))))
theorem cd_144_265 : mt_cd 144 265 = some (.aload_n 0) := mt_cd_of (q := (265, .aload_n 0, 1)) mq_144 ci_144 (List.mem_append_right _ (List.mem_append_right _ (List.mem_append_left _ (show _ ∈ my_144_2 from List.mem_of_getElem? (i := 20) rfl))))
theorem cd_144_266 : mt_cd 144 266 = some (.ldc2_w 331) := mt_cd_of (q := (266, .ldc2_w 331, 3)) mq_144 ci_144 (List.mem_append_right _ (List.mem_append_right _ (List.mem_append_left _ (show _ ∈ my_144_2 from List.mem_of_getElem? (i := 21) rfl))))
theorem cd_144_269 : mt_cd 144 269 = some (.aload_n 0) := mt_cd_of (q := (269, .aload_n 0, 1)) mq_144 ci_144 (List.mem_append_right _ (List.mem_append_right _ (List.mem_append_left _ (show _ ∈ my_144_2 from List.mem_of_getElem? (i := 22) rfl))))
theorem cd_144_270 : mt_cd 144 270 = some (.getfield 327) := mt_cd_of (q := (270, .getfield 327, 3)) mq_144 ci_144 (List.mem_append_right _ (List.mem_append_right _ (List.mem_append_left _ (show _ ∈ my_144_2 from List.mem_of_getElem? (i := 23) rfl))))
theorem cd_144_273 : mt_cd 144 273 = some (.lmul) := mt_cd_of (q := (273, .lmul, 1)) mq_144 ci_144 (List.mem_append_right _ (List.mem_append_right _ (List.mem_append_left _ (show _ ∈ my_144_2 from List.mem_of_getElem? (i := 24) rfl))))
theorem cd_144_274 : mt_cd 144 274 = some (.aload_n 0) := mt_cd_of (q := (274, .aload_n 0, 1)) mq_144 ci_144 (List.mem_append_right _ (List.mem_append_right _ (List.mem_append_left _ (show _ ∈ my_144_2 from List.mem_of_getElem? (i := 25) rfl))))
theorem cd_144_275 : mt_cd 144 275 = some (.aload_n 0) := mt_cd_of (q := (275, .aload_n 0, 1)) mq_144 ci_144 (List.mem_append_right _ (List.mem_append_right _ (List.mem_append_left _ (show _ ∈ my_144_2 from List.mem_of_getElem? (i := 26) rfl))))
theorem cd_144_276 : mt_cd 144 276 = some (.dup) := mt_cd_of (q := (276, .dup, 1)) mq_144 ci_144 (List.mem_append_right _ (List.mem_append_right _ (List.mem_append_left _ (show _ ∈ my_144_2 from List.mem_of_getElem? (i := 27) rfl))))
theorem cd_144_277 : mt_cd 144 277 = some (.getfield 297) := mt_cd_of (q := (277, .getfield 297, 3)) mq_144 ci_144 (List.mem_append_right _ (List.mem_append_right _ (List.mem_append_left _ (show _ ∈ my_144_2 from List.mem_of_getElem? (i := 28) rfl))))
theorem cd_144_280 : mt_cd 144 280 = some (.dup_x1) := mt_cd_of (q := (280, .dup_x1, 1)) mq_144 ci_144 (List.mem_append_right _ (List.mem_append_right _ (List.mem_append_left _ (show _ ∈ my_144_2 from List.mem_of_getElem? (i := 29) rfl))))
theorem cd_144_281 : mt_cd 144 281 = some (.iconst 1) := mt_cd_of (q := (281, .iconst 1, 1)) mq_144 ci_144 (List.mem_append_right _ (List.mem_append_right _ (List.mem_append_left _ (show _ ∈ my_144_2 from List.mem_of_getElem? (i := 30) rfl))))
theorem cd_144_282 : mt_cd 144 282 = some (.iadd) := mt_cd_of (q := (282, .iadd, 1)) mq_144 ci_144 (List.mem_append_right _ (List.mem_append_right _ (List.mem_append_left _ (show _ ∈ my_144_2 from List.mem_of_getElem? (i := 31) rfl))))
theorem cd_144_283 : mt_cd 144 283 = some (.putfield 297) := mt_cd_of (q := (283, .putfield 297, 3)) mq_144 ci_144 (List.mem_append_right _ (List.mem_append_right _ (List.mem_append_left _ (show _ ∈ my_144_2 from List.mem_of_getElem? (i := 32) rfl))))
theorem cd_144_286 : mt_cd 144 286 = some (.invokevirtual 313) := mt_cd_of (q := (286, .invokevirtual 313, 3)) mq_144 ci_144 (List.mem_append_right _ (List.mem_append_right _ (List.mem_append_left _ (show _ ∈ my_144_2 from List.mem_of_getElem? (i := 33) rfl))))
theorem cd_144_289 : mt_cd 144 289 = some (.i2l) := mt_cd_of (q := (289, .i2l, 1)) mq_144 ci_144 (List.mem_append_right _ (List.mem_append_right _ (List.mem_append_left _ (show _ ∈ my_144_2 from List.mem_of_getElem? (i := 34) rfl))))
theorem cd_144_290 : mt_cd 144 290 = some (.ladd) := mt_cd_of (q := (290, .ladd, 1)) mq_144 ci_144 (List.mem_append_right _ (List.mem_append_right _ (List.mem_append_left _ (show _ ∈ my_144_2 from List.mem_of_getElem? (i := 35) rfl))))
theorem cd_144_291 : mt_cd 144 291 = some (.ldc2_w 293) := mt_cd_of (q := (291, .ldc2_w 293, 3)) mq_144 ci_144 (List.mem_append_right _ (List.mem_append_right _ (List.mem_append_left _ (show _ ∈ my_144_2 from List.mem_of_getElem? (i := 36) rfl))))
theorem cd_144_294 : mt_cd 144 294 = some (.lsub) := mt_cd_of (q := (294, .lsub, 1)) mq_144 ci_144 (List.mem_append_right _ (List.mem_append_right _ (List.mem_append_left _ (show _ ∈ my_144_2 from List.mem_of_getElem? (i := 37) rfl))))
theorem cd_144_295 : mt_cd 144 295 = some (.putfield 327) := mt_cd_of (q := (295, .putfield 327, 3)) mq_144 ci_144 (List.mem_append_right _ (List.mem_append_right _ (List.mem_append_left _ (show _ ∈ my_144_2 from List.mem_of_getElem? (i := 38) rfl))))
theorem cd_144_298 : mt_cd 144 298 = some (.iinc 3 1) := mt_cd_of (q := (298, .iinc 3 1, 3)) mq_144 ci_144 (List.mem_append_right _ (List.mem_append_right _ (List.mem_append_left _ (show _ ∈ my_144_2 from List.mem_of_getElem? (i := 39) rfl))))
theorem cd_144_301 : mt_cd 144 301 = some (.goto (-56)) := mt_cd_of (q := (301, .goto (-56), 3)) mq_144 ci_144 (List.mem_append_right _ (List.mem_append_right _ (List.mem_append_left _ (show _ ∈ my_144_2 from List.mem_of_getElem? (i := 40) rfl))))
theorem cd_144_304 : mt_cd 144 304 = some (.iload_n 2) := mt_cd_of (q := (304, .iload_n 2, 1)) mq_144 ci_144 (List.mem_append_right _ (List.mem_append_right _ (List.mem_append_left _ (show _ ∈ my_144_2 from List.mem_of_getElem? (i := 41) rfl))))
theorem cd_144_305 : mt_cd 144 305 = some (.ifCond .eq 12) := mt_cd_of (q := (305, .ifCond .eq 12, 3)) mq_144 ci_144 (List.mem_append_right _ (List.mem_append_right _ (List.mem_append_left _ (show _ ∈ my_144_2 from List.mem_of_getElem? (i := 42) rfl))))
theorem cd_144_308 : mt_cd 144 308 = some (.aload_n 0) := mt_cd_of (q := (308, .aload_n 0, 1)) mq_144 ci_144 (List.mem_append_right _ (List.mem_append_right _ (List.mem_append_left _ (show _ ∈ my_144_2 from List.mem_of_getElem? (i := 43) rfl))))
theorem cd_144_309 : mt_cd 144 309 = some (.aload_n 0) := mt_cd_of (q := (309, .aload_n 0, 1)) mq_144 ci_144 (List.mem_append_right _ (List.mem_append_right _ (List.mem_append_left _ (show _ ∈ my_144_2 from List.mem_of_getElem? (i := 44) rfl))))
theorem cd_144_310 : mt_cd 144 310 = some (.getfield 327) := mt_cd_of (q := (310, .getfield 327, 3)) mq_144 ci_144 (List.mem_append_right _ (List.mem_append_right _ (List.mem_append_left _ (show _ ∈ my_144_2 from List.mem_of_getElem? (i := 45) rfl))))
theorem cd_144_313 : mt_cd 144 313 = some (.lneg) := mt_cd_of (q := (313, .lneg, 1)) mq_144 ci_144 (List.mem_append_right _ (List.mem_append_right _ (List.mem_append_left _ (show _ ∈ my_144_2 from List.mem_of_getElem? (i := 46) rfl))))
theorem cd_144_314 : mt_cd 144 314 = some (.putfield 327) := mt_cd_of (q := (314, .putfield 327, 3)) mq_144 ci_144 (List.mem_append_right _ (List.mem_append_right _ (List.mem_append_left _ (show _ ∈ my_144_2 from List.mem_of_getElem? (i := 47) rfl))))
theorem cd_144_317 : mt_cd 144 317 = some (.iconst 1) := mt_cd_of (q := (317, .iconst 1, 1)) mq_144 ci_144 (List.mem_append_right _ (List.mem_append_right _ (List.mem_append_left _ (show _ ∈ my_144_2 from List.mem_of_getElem? (i := 48) rfl))))
theorem cd_144_318 : mt_cd 144 318 = some (.ireturn) := mt_cd_of (q := (318, .ireturn, 1)) mq_144 ci_144 (List.mem_append_right _ (List.mem_append_right _ (List.mem_append_left _ (show _ ∈ my_144_2 from List.mem_of_getElem? (i := 49) rfl))))
theorem cd_144_319 : mt_cd 144 319 = some (.aload_n 0) := mt_cd_of (q := (319, .aload_n 0, 1)) mq_144 ci_144 (List.mem_append_right _ (List.mem_append_right _ (List.mem_append_left _ (show _ ∈ my_144_2 from List.mem_of_getElem? (i := 50) rfl))))
theorem cd_144_320 : mt_cd 144 320 = some (.iconst 3) := mt_cd_of (q := (320, .iconst 3, 1)) mq_144 ci_144 (List.mem_append_right _ (List.mem_append_right _ (List.mem_append_left _ (show _ ∈ my_144_2 from List.mem_of_getElem? (i := 51) rfl))))
theorem cd_144_321 : mt_cd 144 321 = some (.putfield 310) := mt_cd_of (q := (321, .putfield 310, 3)) mq_144 ci_144 (List.mem_append_right _ (List.mem_append_right _ (List.mem_append_left _ (show _ ∈ my_144_2 from List.mem_of_getElem? (i := 52) rfl))))
theorem cd_144_324 : mt_cd 144 324 = some (.aload_n 0) := mt_cd_of (q := (324, .aload_n 0, 1)) mq_144 ci_144 (List.mem_append_right _ (List.mem_append_right _ (List.mem_append_left _ (show _ ∈ my_144_2 from List.mem_of_getElem? (i := 53) rfl))))
theorem cd_144_325 : mt_cd 144 325 = some (.iload_n 1) := mt_cd_of (q := (325, .iload_n 1, 1)) mq_144 ci_144 (List.mem_append_right _ (List.mem_append_right _ (List.mem_append_left _ (show _ ∈ my_144_2 from List.mem_of_getElem? (i := 54) rfl))))
theorem cd_144_326 : mt_cd 144 326 = some (.invokevirtual 313) := mt_cd_of (q := (326, .invokevirtual 313, 3)) mq_144 ci_144 (List.mem_append_right _ (List.mem_append_right _ (List.mem_append_left _ (show _ ∈ my_144_2 from List.mem_of_getElem? (i := 55) rfl))))
theorem cd_144_329 : mt_cd 144 329 = some (.istore_n 3) := mt_cd_of (q := (329, .istore_n 3, 1)) mq_144 ci_144 (List.mem_append_right _ (List.mem_append_right _ (List.mem_append_left _ (show _ ∈ my_144_2 from List.mem_of_getElem? (i := 56) rfl))))
theorem cd_144_330 : mt_cd 144 330 = some (.aload_n 0) := mt_cd_of (q := (330, .aload_n 0, 1)) mq_144 ci_144 (List.mem_append_right _ (List.mem_append_right _ (List.mem_append_left _ (show _ ∈ my_144_2 from List.mem_of_getElem? (i := 57) rfl))))
theorem cd_144_331 : mt_cd 144 331 = some (.iload_n 1) := mt_cd_of (q := (331, .iload_n 1, 1)) mq_144 ci_144 (List.mem_append_right _ (List.mem_append_right _ (List.mem_append_left _ (show _ ∈ my_144_2 from List.mem_of_getElem? (i := 58) rfl))))
theorem cd_144_332 : mt_cd 144 332 = some (.iload_n 3) := mt_cd_of (q := (332, .iload_n 3, 1)) mq_144 ci_144 (List.mem_append_right _ (List.mem_append_right _ (List.mem_append_left _ (show _ ∈ my_144_2 from List.mem_of_getElem? (i := 59) rfl))))
theorem cd_144_333 : mt_cd 144 333 = some (.bipush 60) := mt_cd_of (q := (333, .bipush 60, 2)) mq_144 ci_144 (List.mem_append_right _ (List.mem_append_right _ (List.mem_append_right _ ((show _ ∈ my_144_3 from List.mem_of_getElem? (i := 0) rfl)))))
theorem cd_144_335 : mt_cd 144 335 = some (.if_icmp .eq 9) := mt_cd_of (q := (335, .if_icmp .eq 9, 3)) mq_144 ci_144 (List.mem_append_right _ (List.mem_append_right _ (List.mem_append_right _ ((show _ ∈ my_144_3 from List.mem_of_getElem? (i := 1) rfl)))))
theorem cd_144_338 : mt_cd 144 338 = some (.iload_n 3) := mt_cd_of (q := (338, .iload_n 3, 1)) mq_144 ci_144 (List.mem_append_right _ (List.mem_append_right _ (List.mem_append_right _ ((show _ ∈ my_144_3 from List.mem_of_getElem? (i := 2) rfl)))))
theorem cd_144_339 : mt_cd 144 339 = some (.bipush 62) := mt_cd_of (q := (339, .bipush 62, 2)) mq_144 ci_144 (List.mem_append_right _ (List.mem_append_right _ (List.mem_append_right _ ((show _ ∈ my_144_3 from List.mem_of_getElem? (i := 3) rfl)))))
theorem cd_144_341 : mt_cd 144 341 = some (.if_icmp .ne 19) := mt_cd_of (q := (341, .if_icmp .ne 19, 3)) mq_144 ci_144 (List.mem_append_right _ (List.mem_append_right _ (List.mem_append_right _ ((show _ ∈ my_144_3 from List.mem_of_getElem? (i := 4) rfl)))))
theorem cd_144_344 : mt_cd 144 344 = some (.aload_n 0) := mt_cd_of (q := (344, .aload_n 0, 1)) mq_144 ci_144 (List.mem_append_right _ (List.mem_append_right _ (List.mem_append_right _ ((show _ ∈ my_144_3 from List.mem_of_getElem? (i := 5) rfl)))))
theorem cd_144_345 : mt_cd 144 345 = some (.iload_n 1) := mt_cd_of (q := (345, .iload_n 1, 1)) mq_144 ci_144 (List.mem_append_right _ (List.mem_append_right _ (List.mem_append_right _ ((show _ ∈ my_144_3 from List.mem_of_getElem? (i := 6) rfl)))))
theorem cd_144_346 : mt_cd 144 346 = some (.iconst 1) := mt_cd_of (q := (346, .iconst 1, 1)) mq_144 ci_144 (List.mem_append_right _ (List.mem_append_right _ (List.mem_append_right _ ((show _ ∈ my_144_3 from List.mem_of_getElem? (i := 7) rfl)))))
theorem cd_144_347 : mt_cd 144 347 = some (.iadd) := mt_cd_of (q := (347, .iadd, 1)) mq_144 ci_144 (List.mem_append_right _ (List.mem_append_right _ (List.mem_append_right _ ((show _ ∈ my_144_3 from List.mem_of_getElem? (i := 8) rfl)))))
theorem cd_144_348 : mt_cd 144 348 = some (.invokevirtual 313) := mt_cd_of (q := (348, .invokevirtual 313, 3)) mq_144 ci_144 (List.mem_append_right _ (List.mem_append_right _ (List.mem_append_right _ ((show _ ∈ my_144_3 from List.mem_of_getElem? (i := 9) rfl)))))
theorem cd_144_351 : mt_cd 144 351 = some (.bipush 61) := mt_cd_of (q := (351, .bipush 61, 2)) mq_144 ci_144 (List.mem_append_right _ (List.mem_append_right _ (List.mem_append_right _ ((show _ ∈ my_144_3 from List.mem_of_getElem? (i := 10) rfl)))))
theorem cd_144_353 : mt_cd 144 353 = some (.if_icmp .ne 7) := mt_cd_of (q := (353, .if_icmp .ne 7, 3)) mq_144 ci_144 (List.mem_append_right _ (List.mem_append_right _ (List.mem_append_right _ ((show _ ∈ my_144_3 from List.mem_of_getElem? (i := 11) rfl)))))
theorem cd_144_356 : mt_cd 144 356 = some (.iconst 2) := mt_cd_of (q := (356, .iconst 2, 1)) mq_144 ci_144 (List.mem_append_right _ (List.mem_append_right _ (List.mem_append_right _ ((show _ ∈ my_144_3 from List.mem_of_getElem? (i := 12) rfl)))))
theorem cd_144_357 : mt_cd 144 357 = some (.goto 4) := mt_cd_of (q := (357, .goto 4, 3)) mq_144 ci_144 (List.mem_append_right _ (List.mem_append_right _ (List.mem_append_right _ ((show _ ∈ my_144_3 from List.mem_of_getElem? (i := 13) rfl)))))
theorem cd_144_360 : mt_cd 144 360 = some (.iconst 1) := mt_cd_of (q := (360, .iconst 1, 1)) mq_144 ci_144 (List.mem_append_right _ (List.mem_append_right _ (List.mem_append_right _ ((show _ ∈ my_144_3 from List.mem_of_getElem? (i := 14) rfl)))))
theorem cd_144_361 : mt_cd 144 361 = some (.iadd) := mt_cd_of (q := (361, .iadd, 1)) mq_144 ci_144 (List.mem_append_right _ (List.mem_append_right _ (List.mem_append_right _ ((show _ ∈ my_144_3 from List.mem_of_getElem? (i := 15) rfl)))))
theorem cd_144_362 : mt_cd 144 362 = some (.putfield 297) := mt_cd_of (q := (362, .putfield 297, 3)) mq_144 ci_144 (List.mem_append_right _ (List.mem_append_right _ (List.mem_append_right _ ((show _ ∈ my_144_3 from List.mem_of_getElem? (i := 16) rfl)))))
theorem cd_144_365 : mt_cd 144 365 = some (.iload_n 3) := mt_cd_of (q := (365, .iload_n 3, 1)) mq_144 ci_144 (List.mem_append_right _ (List.mem_append_right _ (List.mem_append_right _ ((show _ ∈ my_144_3 from List.mem_of_getElem? (i := 17) rfl)))))
theorem cd_144_366 : mt_cd 144 366 = some (.bipush 40) := mt_cd_of (q := (366, .bipush 40, 2)) mq_144 ci_144 (List.mem_append_right _ (List.mem_append_right _ (List.mem_append_right _ ((show _ ∈ my_144_3 from List.mem_of_getElem? (i := 18) rfl)))))
theorem cd_144_368 : mt_cd 144 368 = some (.if_icmp .eq 69) := mt_cd_of (q := (368, .if_icmp .eq 69, 3)) mq_144 ci_144 (List.mem_append_right _ (List.mem_append_right _ (List.mem_append_right _ ((show _ ∈ my_144_3 from List.mem_of_getElem? (i := 19) rfl)))))
theorem cd_144_371 : mt_cd 144 371 = some (.iload_n 3) := mt_cd_of (q := (371, .iload_n 3, 1)) mq_144 ci_144 (List.mem_append_right _ (List.mem_append_right _ (List.mem_append_right _ ((show _ ∈ my_144_3 from List.mem_of_getElem? (i := 20) rfl)))))
theorem cd_144_372 : mt_cd 144 372 = some (.bipush 41) := mt_cd_of (q := (372, .bipush 41, 2)) mq_144 ci_144 (List.mem_append_right _ (List.mem_append_right _ (List.mem_append_right _ ((show _ ∈ my_144_3 from List.mem_of_getElem? (i := 21) rfl)))))
theorem cd_144_374 : mt_cd 144 374 = some (.if_icmp .eq 63) := mt_cd_of (q := (374, .if_icmp .eq 63, 3)) mq_144 ci_144 (List.mem_append_right _ (List.mem_append_right _ (List.mem_append_right _ ((show _ ∈ my_144_3 from List.mem_of_getElem? (i := 22) rfl)))))
theorem cd_144_377 : mt_cd 144 377 = some (.iload_n 3) := mt_cd_of (q := (377, .iload_n 3, 1)) mq_144 ci_144 (List.mem_append_right _ (List.mem_append_right _ (List.mem_append_right _ ((show _ ∈ my_144_3 from List.mem_of_getElem? (i := 23) rfl)))))
theorem cd_144_378 : mt_cd 144 378 = some (.bipush 91) := mt_cd_of (q := (378, .bipush 91, 2)) mq_144 ci_144 (List.mem_append_right _ (List.mem_append_right _ (List.mem_append_right _ ((show _ ∈ my_144_3 from List.mem_of_getElem? (i := 24) rfl)))))
theorem cd_144_380 : mt_cd 144 380 = some (.if_icmp .eq 57) := mt_cd_of (q := (380, .if_icmp .eq 57, 3)) mq_144 ci_144 (List.mem_append_right _ (List.mem_append_right _ (List.mem_append_right _ ((show _ ∈ my_144_3 from List.mem_of_getElem? (i := 25) rfl)))))
theorem cd_144_383 : mt_cd 144 383 = some (.iload_n 3) := mt_cd_of (q := (383, .iload_n 3, 1)) mq_144 ci_144 (List.mem_append_right _ (List.mem_append_right _ (List.mem_append_right _ ((show _ ∈ my_144_3 from List.mem_of_getElem? (i := 26) rfl)))))
theorem cd_144_384 : mt_cd 144 384 = some (.bipush 93) := mt_cd_of (q := (384, .bipush 93, 2)) mq_144 ci_144 (List.mem_append_right _ (List.mem_append_right _ (List.mem_append_right _ ((show _ ∈ my_144_3 from List.mem_of_getElem? (i := 27) rfl)))))
theorem cd_144_386 : mt_cd 144 386 = some (.if_icmp .eq 51) := mt_cd_of (q := (386, .if_icmp .eq 51, 3)) mq_144 ci_144 (List.mem_append_right _ (List.mem_append_right _ (List.mem_append_right _ ((show _ ∈ my_144_3 from List.mem_of_getElem? (i := 28) rfl)))))
theorem cd_144_389 : mt_cd 144 389 = some (.iload_n 3) := mt_cd_of (q := (389, .iload_n 3, 1)) mq_144 ci_144 (List.mem_append_right _ (List.mem_append_right _ (List.mem_append_right _ ((show _ ∈ my_144_3 from List.mem_of_getElem? (i := 29) rfl)))))
theorem cd_144_390 : mt_cd 144 390 = some (.bipush 43) := mt_cd_of (q := (390, .bipush 43, 2)) mq_144 ci_144 (List.mem_append_right _ (List.mem_append_right _ (List.mem_append_right _ ((show _ ∈ my_144_3 from List.mem_of_getElem? (i := 30) rfl)))))
theorem cd_144_392 : mt_cd 144 392 = some (.if_icmp .eq 45) := mt_cd_of (q := (392, .if_icmp .eq 45, 3)) mq_144 ci_144 (List.mem_append_right _ (List.mem_append_right _ (List.mem_append_right _ ((show _ ∈ my_144_3 from List.mem_of_getElem? (i := 31) rfl)))))
theorem cd_144_395 : mt_cd 144 395 = some (.iload_n 2) := mt_cd_of (q := (395, .iload_n 2, 1)) mq_144 ci_144 (List.mem_append_right _ (List.mem_append_right _ (List.mem_append_right _ ((show _ ∈ my_144_3 from List.mem_of_getElem? (i := 32) rfl)))))
theorem cd_144_396 : mt_cd 144 396 = some (.ifCond .ne 41) := mt_cd_of (q := (396, .ifCond .ne 41, 3)) mq_144 ci_144 (List.mem_append_right _ (List.mem_append_right _ (List.mem_append_right _ ((show _ ∈ my_144_3 from List.mem_of_getElem? (i := 33) rfl)))))
theorem cd_144_399 : mt_cd 144 399 = some (.iload_n 3) := mt_cd_of (q := (399, .iload_n 3, 1)) mq_144 ci_144 (List.mem_append_right _ (List.mem_append_right _ (List.mem_append_right _ ((show _ ∈ my_144_3 from List.mem_of_getElem? (i := 34) rfl)))))
theorem cd_144_400 : mt_cd 144 400 = some (.bipush 42) := mt_cd_of (q := (400, .bipush 42, 2)) mq_144 ci_144 (List.mem_append_right _ (List.mem_append_right _ (List.mem_append_right _ ((show _ ∈ my_144_3 from List.mem_of_getElem? (i := 35) rfl)))))
theorem cd_144_402 : mt_cd 144 402 = some (.if_icmp .eq 35) := mt_cd_of (q := (402, .if_icmp .eq 35, 3)) mq_144 ci_144 (List.mem_append_right _ (List.mem_append_right _ (List.mem_append_right _ ((show _ ∈ my_144_3 from List.mem_of_getElem? (i := 36) rfl)))))
theorem cd_144_405 : mt_cd 144 405 = some (.iload_n 3) := mt_cd_of (q := (405, .iload_n 3, 1)) mq_144 ci_144 (List.mem_append_right _ (List.mem_append_right _ (List.mem_append_right _ ((show _ ∈ my_144_3 from List.mem_of_getElem? (i := 37) rfl)))))
theorem cd_144_406 : mt_cd 144 406 = some (.bipush 47) := mt_cd_of (q := (406, .bipush 47, 2)) mq_144 ci_144 (List.mem_append_right _ (List.mem_append_right _ (List.mem_append_right _ ((show _ ∈ my_144_3 from List.mem_of_getElem? (i := 38) rfl)))))
theorem cd_144_408 : mt_cd 144 408 = some (.if_icmp .eq 29) := mt_cd_of (q := (408, .if_icmp .eq 29, 3)) mq_144 ci_144 (List.mem_append_right _ (List.mem_append_right _ (List.mem_append_right _ ((show _ ∈ my_144_3 from List.mem_of_getElem? (i := 39) rfl)))))
theorem cd_144_411 : mt_cd 144 411 = some (.iload_n 3) := mt_cd_of (q := (411, .iload_n 3, 1)) mq_144 ci_144 (List.mem_append_right _ (List.mem_append_right _ (List.mem_append_right _ ((show _ ∈ my_144_3 from List.mem_of_getElem? (i := 40) rfl)))))
theorem cd_144_412 : mt_cd 144 412 = some (.bipush 60) := mt_cd_of (q := (412, .bipush 60, 2)) mq_144 ci_144 (List.mem_append_right _ (List.mem_append_right _ (List.mem_append_right _ ((show _ ∈ my_144_3 from List.mem_of_getElem? (i := 41) rfl)))))
theorem cd_144_414 : mt_cd 144 414 = some (.if_icmp .eq 23) := mt_cd_of (q := (414, .if_icmp .eq 23, 3)) mq_144 ci_144 (List.mem_append_right _ (List.mem_append_right _ (List.mem_append_right _ ((show _ ∈ my_144_3 from List.mem_of_getElem? (i := 42) rfl)))))
theorem cd_144_417 : mt_cd 144 417 = some (.iload_n 3) := mt_cd_of (q := (417, .iload_n 3, 1)) mq_144 ci_144 (List.mem_append_right _ (List.mem_append_right _ (List.mem_append_right _ ((show _ ∈ my_144_3 from List.mem_of_getElem? (i := 43) rfl)))))
theorem cd_144_418 : mt_cd 144 418 = some (.bipush 62) := mt_cd_of (q := (418, .bipush 62, 2)) mq_144 ci_144 (List.mem_append_right _ (List.mem_append_right _ (List.mem_append_right _ ((show _ ∈ my_144_3 from List.mem_of_getElem? (i := 44) rfl)))))
theorem cd_144_420 : mt_cd 144 420 = some (.if_icmp .eq 17) := mt_cd_of (q := (420, .if_icmp .eq 17, 3)) mq_144 ci_144 (List.mem_append_right _ (List.mem_append_right _ (List.mem_append_right _ ((show _ ∈ my_144_3 from List.mem_of_getElem? (i := 45) rfl)))))
theorem cd_144_423 : mt_cd 144 423 = some (.iload_n 3) := mt_cd_of (q := (423, .iload_n 3, 1)) mq_144 ci_144 (List.mem_append_right _ (List.mem_append_right _ (List.mem_append_right _ ((show _ ∈ my_144_3 from List.mem_of_getElem? (i := 46) rfl)))))
theorem cd_144_424 : mt_cd 144 424 = some (.bipush 61) := mt_cd_of (q := (424, .bipush 61, 2)) mq_144 ci_144 (List.mem_append_right _ (List.mem_append_right _ (List.mem_append_right _ ((show _ ∈ my_144_3 from List.mem_of_getElem? (i := 47) rfl)))))
theorem cd_144_426 : mt_cd 144 426 = some (.if_icmp .eq 11) := mt_cd_of (q := (426, .if_icmp .eq 11, 3)) mq_144 ci_144 (List.mem_append_right _ (List.mem_append_right _ (List.mem_append_right _ ((show _ ∈ my_144_3 from List.mem_of_getElem? (i := 48) rfl)))))
theorem cd_144_429 : mt_cd 144 429 = some (.aload_n 0) := mt_cd_of (q := (429, .aload_n 0, 1)) mq_144 ci_144 (List.mem_append_right _ (List.mem_append_right _ (List.mem_append_right _ ((show _ ∈ my_144_3 from List.mem_of_getElem? (i := 49) rfl)))))
theorem cd_144_430 : mt_cd 144 430 = some (.iload_n 1) := mt_cd_of (q := (430, .iload_n 1, 1)) mq_144 ci_144 (List.mem_append_right _ (List.mem_append_right _ (List.mem_append_right _ ((show _ ∈ my_144_3 from List.mem_of_getElem? (i := 50) rfl)))))
theorem cd_144_431 : mt_cd 144 431 = some (.invokevirtual 272) := mt_cd_of (q := (431, .invokevirtual 272, 3)) mq_144 ci_144 (List.mem_append_right _ (List.mem_append_right _ (List.mem_append_right _ ((show _ ∈ my_144_3 from List.mem_of_getElem? (i := 51) rfl)))))
theorem cd_144_434 : mt_cd 144 434 = some (.ifCond .eq 7) := mt_cd_of (q := (434, .ifCond .eq 7, 3)) mq_144 ci_144 (List.mem_append_right _ (List.mem_append_right _ (List.mem_append_right _ ((show _ ∈ my_144_3 from List.mem_of_getElem? (i := 52) rfl)))))
theorem cd_144_437 : mt_cd 144 437 = some (.iconst 1) := mt_cd_of (q := (437, .iconst 1, 1)) mq_144 ci_144 (List.mem_append_right _ (List.mem_append_right _ (List.mem_append_right _ ((show _ ∈ my_144_3 from List.mem_of_getElem? (i := 53) rfl)))))
theorem cd_144_438 : mt_cd 144 438 = some (.goto 4) := mt_cd_of (q := (438, .goto 4, 3)) mq_144 ci_144 (List.mem_append_right _ (List.mem_append_right _ (List.mem_append_right _ ((show _ ∈ my_144_3 from List.mem_of_getElem? (i := 54) rfl)))))
theorem cd_144_441 : mt_cd 144 441 = some (.iconst 0) := mt_cd_of (q := (441, .iconst 0, 1)) mq_144 ci_144 (List.mem_append_right _ (List.mem_append_right _ (List.mem_append_right _ ((show _ ∈ my_144_3 from List.mem_of_getElem? (i := 55) rfl)))))
theorem cd_144_442 : mt_cd 144 442 = some (.ireturn) := mt_cd_of (q := (442, .ireturn, 1)) mq_144 ci_144 (List.mem_append_right _ (List.mem_append_right _ (List.mem_append_right _ ((show _ ∈ my_144_3 from List.mem_of_getElem? (i := 56) rfl)))))
theorem b_144_0 {d : Nat} {Q : (Option Value ⊕ Nat) → mi_H → Prop} (n sl : Nat) (f : Nat → mi_C) {l1 : Nat} {o2 : Option Value} {o3 : Option Value} {o4 : Option Value} {fs5 : List Value} {x8 : Int32} (h6 : f l1 = .inr (12, fs5)) (h7 : l1 < n) (h9 : fs5[10]? = some (.int x8)) (h10 : mi_W d 144 5 [some (.ref l1), some (.int x8), o3, o4] [] (n, sl, f) Q) : mi_W d 144 0 [some (.ref l1), o2, o3, o4] [] (n, sl, f) Q := by
  refine w_aload_n cd_144_0 rfl ?_
  refine w_getfield cd_144_1 (show mt_f 12 297 = some (12, 10) by decide +kernel) h6 h7 h9 ?_
  refine w_istore_n (ls' := [some (.ref l1), some (.int x8), o3, o4]) cd_144_4 (Nat.le_of_ble_eq_true rfl) rfl ?_
  exact h10
theorem b_144_5 {d : Nat} {Q : (Option Value ⊕ Nat) → mi_H → Prop} (n sl : Nat) (f : Nat → mi_C) {l1 : Nat} {l2 : Int32} {o3 : Option Value} {o4 : Option Value} {fs5 : List Value} {x8 : Int32} (h6 : f l1 = .inr (12, fs5)) (h7 : l1 < n) (h9 : fs5[2]? = some (.int x8)) (h10 : x8 ≤ l2 → mi_W d 144 41 [some (.ref l1), some (.int l2), o3, o4] [] (n, sl, f) Q) (h11 : ¬ (x8 ≤ l2) → mi_W d 144 13 [some (.ref l1), some (.int l2), o3, o4] [] (n, sl, f) Q) : mi_W d 144 5 [some (.ref l1), some (.int l2), o3, o4] [] (n, sl, f) Q := by
  refine w_iload_n cd_144_5 rfl ?_
  refine w_aload_n cd_144_6 rfl ?_
  refine w_getfield cd_144_7 (show mt_f 12 261 = some (12, 2) by decide +kernel) h6 h7 h9 ?_
  exact w_if_icmpge cd_144_10 (by decide) h10 h11
theorem b_144_13 {d : Nat} {Q : (Option Value ⊕ Nat) → mi_H → Prop} (n sl : Nat) (f : Nat → mi_C) {l1 : Nat} {l2 : Int32} {o3 : Option Value} {o4 : Option Value} {fs5 : List Value} {x8 : Nat} (m10 i10 : Nat) (g10 : Nat → Int32) (h6 : f l1 = .inr (12, fs5)) (h7 : l1 < n) (h9 : fs5[6]? = some (.ref x8)) (h11 : f x8 = .inl (0, m10, .inl g10)) (h12 : x8 < n ∨ x8 = mi_SC) (h13 : mi_ix l2 m10 i10) (h14 : (g10 i10) = 10 → mi_W d 144 35 [some (.ref l1), some (.int l2), o3, o4] [] (n, sl, f) Q) (h15 : ¬ ((g10 i10) = 10) → mi_W d 144 24 [some (.ref l1), some (.int l2), o3, o4] [] (n, sl, f) Q) : mi_W d 144 13 [some (.ref l1), some (.int l2), o3, o4] [] (n, sl, f) Q := by
  refine w_aload_n cd_144_13 rfl ?_
  refine w_getfield cd_144_14 (show mt_f 12 20 = some (12, 6) by decide +kernel) h6 h7 h9 ?_
  refine w_iload_n cd_144_17 rfl ?_
  refine w_iaload cd_144_18 h11 h12 h13 ?_
  refine w_bipush (v := 10) cd_144_19 (by decide) ?_
  exact w_if_icmpeq cd_144_21 (by decide) h14 h15
theorem b_144_24 {d : Nat} {Q : (Option Value ⊕ Nat) → mi_H → Prop} (n sl : Nat) (f : Nat → mi_C) {l1 : Nat} {l2 : Int32} {o3 : Option Value} {o4 : Option Value} {fs5 : List Value} {x8 : Nat} (m10 i10 : Nat) (g10 : Nat → Int32) (h6 : f l1 = .inr (12, fs5)) (h7 : l1 < n) (h9 : fs5[6]? = some (.ref x8)) (h11 : f x8 = .inl (0, m10, .inl g10)) (h12 : x8 < n ∨ x8 = mi_SC) (h13 : mi_ix l2 m10 i10) (h14 : ¬ (g10 i10) = 32 → mi_W d 144 41 [some (.ref l1), some (.int l2), o3, o4] [] (n, sl, f) Q) (h15 : ¬ (¬ (g10 i10) = 32) → mi_W d 144 35 [some (.ref l1), some (.int l2), o3, o4] [] (n, sl, f) Q) : mi_W d 144 24 [some (.ref l1), some (.int l2), o3, o4] [] (n, sl, f) Q := by
  refine w_aload_n cd_144_24 rfl ?_
  refine w_getfield cd_144_25 (show mt_f 12 20 = some (12, 6) by decide +kernel) h6 h7 h9 ?_
  refine w_iload_n cd_144_28 rfl ?_
  refine w_iaload cd_144_29 h11 h12 h13 ?_
  refine w_bipush (v := 32) cd_144_30 (by decide) ?_
  exact w_if_icmpne cd_144_32 (by decide) h14 h15
theorem b_144_35 {d : Nat} {Q : (Option Value ⊕ Nat) → mi_H → Prop} (n sl : Nat) (f : Nat → mi_C) {l1 : Nat} {l2 : Int32} {o3 : Option Value} {o4 : Option Value} (h5 : mi_W d 144 5 [some (.ref l1), some (.int (l2 + 1)), o3, o4] [] (n, sl, f) Q) : mi_W d 144 35 [some (.ref l1), some (.int l2), o3, o4] [] (n, sl, f) Q := by
  refine w_iinc (v := 1) (ls' := [some (.ref l1), some (.int (l2 + 1)), o3, o4]) cd_144_35 rfl (by decide) rfl ?_
  exact w_goto cd_144_38 (by decide) h5
theorem b_144_41 {d : Nat} {Q : (Option Value ⊕ Nat) → mi_H → Prop} (n sl : Nat) (f : Nat → mi_C) {l1 : Nat} {l2 : Int32} {o3 : Option Value} {o4 : Option Value} {fs5 : List Value} {fs9 : List Value} {fs13 : List Value} {x16 : Int32} (h6 : f l1 = .inr (12, fs5)) (h7 : l1 < n) (h8 : 9 < fs5.length) (h10 : (va_up f l1 (.inr (12, fs5.set 9 (.int l2)))) l1 = .inr (12, fs9)) (h11 : l1 < n) (h12 : 10 < fs9.length) (h14 : (va_up (va_up f l1 (.inr (12, fs5.set 9 (.int l2)))) l1 (.inr (12, fs9.set 10 (.int l2)))) l1 = .inr (12, fs13)) (h15 : l1 < n) (h17 : fs13[2]? = some (.int x16)) (h18 : ¬ l2 = x16 → mi_W d 144 66 [some (.ref l1), some (.int l2), o3, o4] [] (n, sl, (va_up (va_up f l1 (.inr (12, fs5.set 9 (.int l2)))) l1 (.inr (12, fs9.set 10 (.int l2))))) Q) (h19 : ¬ (¬ l2 = x16) → mi_W d 144 59 [some (.ref l1), some (.int l2), o3, o4] [] (n, sl, (va_up (va_up f l1 (.inr (12, fs5.set 9 (.int l2)))) l1 (.inr (12, fs9.set 10 (.int l2))))) Q) : mi_W d 144 41 [some (.ref l1), some (.int l2), o3, o4] [] (n, sl, f) Q := by
  refine w_aload_n cd_144_41 rfl ?_
  refine w_iload_n cd_144_42 rfl ?_
  refine w_putfield (w := .int l2) cd_144_43 (show mt_f 12 299 = some (12, 9) by decide +kernel) h6 h7 ⟨h8, rfl, Or.inl (by decide)⟩ ?_
  refine w_aload_n cd_144_46 rfl ?_
  refine w_iload_n cd_144_47 rfl ?_
  refine w_putfield (w := .int l2) cd_144_48 (show mt_f 12 297 = some (12, 10) by decide +kernel) h10 h11 ⟨h12, rfl, Or.inl (by decide)⟩ ?_
  refine w_iload_n cd_144_51 rfl ?_
  refine w_aload_n cd_144_52 rfl ?_
  refine w_getfield cd_144_53 (show mt_f 12 261 = some (12, 2) by decide +kernel) h14 h15 h17 ?_
  exact w_if_icmpne cd_144_56 (by decide) h18 h19
theorem b_144_59 {d : Nat} {Q : (Option Value ⊕ Nat) → mi_H → Prop} (n sl : Nat) (f : Nat → mi_C) {l1 : Nat} {l2 : Int32} {o3 : Option Value} {o4 : Option Value} {fs5 : List Value} (h6 : f l1 = .inr (12, fs5)) (h7 : l1 < n) (h8 : 8 < fs5.length) (h9 : Q (.inl (some (.int 1))) (n, sl, (va_up f l1 (.inr (12, fs5.set 8 (.int 0)))))) : mi_W d 144 59 [some (.ref l1), some (.int l2), o3, o4] [] (n, sl, f) Q := by
  refine w_aload_n cd_144_59 rfl ?_
  refine w_iconst (v := 0) cd_144_60 (by decide) ?_
  refine w_putfield (w := .int 0) cd_144_61 (show mt_f 12 310 = some (12, 8) by decide +kernel) h6 h7 ⟨h8, rfl, Or.inl (by decide)⟩ ?_
  refine w_iconst (v := 1) cd_144_64 (by decide) ?_
  exact w_ireturn_z cd_144_65 (by decide +kernel) (by decide) h9
theorem b_144_66 {d : Nat} {Q : (Option Value ⊕ Nat) → mi_H → Prop} (n sl : Nat) (f : Nat → mi_C) {l1 : Nat} {l2 : Int32} {o3 : Option Value} {o4 : Option Value} {fs5 : List Value} (h6 : f l1 = .inr (12, fs5)) (h7 : l1 < n) (h8 : mi_W d 145 0 (mi_en 2 [.ref l1, .int l2]) [] (n, sl, f) (mi_Kc d 144 68 [some (.ref l1), some (.int l2), o3, o4] [] Q)) : mi_W (d + 1) 144 66 [some (.ref l1), some (.int l2), o3, o4] [] (n, sl, f) Q := by
  refine w_aload_n cd_144_66 rfl ?_
  refine w_iload_n cd_144_67 rfl ?_
  exact w_invokevirtual cd_144_68 (show mt_m 12 313 = some (145, 0) by decide +kernel) (rest := []) rfl (as := [.ref l1, .int l2]) rfl h6 (Or.inl h7) ⟨Nat.le_of_ble_eq_true rfl, Nat.le_of_ble_eq_true rfl, Nat.le_of_ble_eq_true rfl⟩ h8
theorem b_144_71 {d : Nat} {Q : (Option Value ⊕ Nat) → mi_H → Prop} (n sl : Nat) (f : Nat → mi_C) {l1 : Nat} {l2 : Int32} {o3 : Option Value} {o4 : Option Value} {s5 : Int32} (h6 : mi_W d 146 0 (mi_en 1 [.int s5]) [] (n, sl, f) (mi_Kc d 144 71 [some (.ref l1), some (.int l2), o3, o4] [] Q)) : mi_W (d + 1) 144 71 [some (.ref l1), some (.int l2), o3, o4] [.int s5] (n, sl, f) Q := by
  exact w_invokestatic cd_144_71 (show mt_m 12 317 = some (146, 4) by decide +kernel) (by decide) (rest := []) rfl (as := [.int s5]) rfl ⟨Nat.le_of_ble_eq_true rfl, Nat.le_of_ble_eq_true rfl, Nat.le_of_ble_eq_true rfl⟩ h6
theorem b_144_74 {d : Nat} {Q : (Option Value ⊕ Nat) → mi_H → Prop} (n sl : Nat) (f : Nat → mi_C) {l1 : Nat} {l2 : Int32} {o3 : Option Value} {o4 : Option Value} {s5 : Int32} (h6 : s5 = (0 : Int32) → mi_W d 144 174 [some (.ref l1), some (.int l2), o3, o4] [] (n, sl, f) Q) (h7 : ¬ (s5 = (0 : Int32)) → mi_W d 144 77 [some (.ref l1), some (.int l2), o3, o4] [] (n, sl, f) Q) : mi_W d 144 74 [some (.ref l1), some (.int l2), o3, o4] [.int s5] (n, sl, f) Q := by
  exact w_ifeq cd_144_74 (by decide) h6 h7
theorem b_144_77 {d : Nat} {Q : (Option Value ⊕ Nat) → mi_H → Prop} (n sl : Nat) (f : Nat → mi_C) {l1 : Nat} {l2 : Int32} {o3 : Option Value} {o4 : Option Value} {fs5 : List Value} {x8 : Int32} {fs10 : List Value} {x13 : Int32} (h6 : f l1 = .inr (12, fs5)) (h7 : l1 < n) (h9 : fs5[10]? = some (.int x8)) (h11 : f l1 = .inr (12, fs10)) (h12 : l1 < n) (h14 : fs10[9]? = some (.int x13)) (h15 : 16 ≤ (x8 - x13) → mi_W d 144 132 [some (.ref l1), some (.int l2), o3, o4] [] (n, sl, f) Q) (h16 : ¬ (16 ≤ (x8 - x13)) → mi_W d 144 91 [some (.ref l1), some (.int l2), o3, o4] [] (n, sl, f) Q) : mi_W d 144 77 [some (.ref l1), some (.int l2), o3, o4] [] (n, sl, f) Q := by
  refine w_aload_n cd_144_77 rfl ?_
  refine w_getfield cd_144_78 (show mt_f 12 297 = some (12, 10) by decide +kernel) h6 h7 h9 ?_
  refine w_aload_n cd_144_81 rfl ?_
  refine w_getfield cd_144_82 (show mt_f 12 299 = some (12, 9) by decide +kernel) h11 h12 h14 ?_
  refine w_isub cd_144_85 ?_
  refine w_bipush (v := 16) cd_144_86 (by decide) ?_
  exact w_if_icmpge cd_144_88 (by decide) h15 h16
theorem b_144_91 {d : Nat} {Q : (Option Value ⊕ Nat) → mi_H → Prop} (n sl : Nat) (f : Nat → mi_C) {l1 : Nat} {l2 : Int32} {o3 : Option Value} {o4 : Option Value} {fs5 : List Value} {x8 : Int32} {fs10 : List Value} (h6 : f l1 = .inr (12, fs5)) (h7 : l1 < n) (h9 : fs5[10]? = some (.int x8)) (h11 : f l1 = .inr (12, fs10)) (h12 : l1 < n) (h13 : mi_W d 145 0 (mi_en 2 [.ref l1, .int x8]) [] (n, sl, f) (mi_Kc d 144 96 [some (.ref l1), some (.int l2), o3, o4] [] Q)) : mi_W (d + 1) 144 91 [some (.ref l1), some (.int l2), o3, o4] [] (n, sl, f) Q := by
  refine w_aload_n cd_144_91 rfl ?_
  refine w_aload_n cd_144_92 rfl ?_
  refine w_getfield cd_144_93 (show mt_f 12 297 = some (12, 10) by decide +kernel) h6 h7 h9 ?_
  exact w_invokevirtual cd_144_96 (show mt_m 12 313 = some (145, 0) by decide +kernel) (rest := []) rfl (as := [.ref l1, .int x8]) rfl h11 (Or.inl h12) ⟨Nat.le_of_ble_eq_true rfl, Nat.le_of_ble_eq_true rfl, Nat.le_of_ble_eq_true rfl⟩ h13
theorem b_144_99 {d : Nat} {Q : (Option Value ⊕ Nat) → mi_H → Prop} (n sl : Nat) (f : Nat → mi_C) {l1 : Nat} {l2 : Int32} {o3 : Option Value} {o4 : Option Value} {s5 : Int32} (h6 : mi_W d 146 0 (mi_en 1 [.int s5]) [] (n, sl, f) (mi_Kc d 144 99 [some (.ref l1), some (.int l2), o3, o4] [] Q)) : mi_W (d + 1) 144 99 [some (.ref l1), some (.int l2), o3, o4] [.int s5] (n, sl, f) Q := by
  exact w_invokestatic cd_144_99 (show mt_m 12 317 = some (146, 4) by decide +kernel) (by decide) (rest := []) rfl (as := [.int s5]) rfl ⟨Nat.le_of_ble_eq_true rfl, Nat.le_of_ble_eq_true rfl, Nat.le_of_ble_eq_true rfl⟩ h6
theorem b_144_102 {d : Nat} {Q : (Option Value ⊕ Nat) → mi_H → Prop} (n sl : Nat) (f : Nat → mi_C) {l1 : Nat} {l2 : Int32} {o3 : Option Value} {o4 : Option Value} {s5 : Int32} (h6 : ¬ s5 = (0 : Int32) → mi_W d 144 119 [some (.ref l1), some (.int l2), o3, o4] [] (n, sl, f) Q) (h7 : ¬ (¬ s5 = (0 : Int32)) → mi_W d 144 105 [some (.ref l1), some (.int l2), o3, o4] [] (n, sl, f) Q) : mi_W d 144 102 [some (.ref l1), some (.int l2), o3, o4] [.int s5] (n, sl, f) Q := by
  exact w_ifne cd_144_102 (by decide) h6 h7
theorem b_144_105 {d : Nat} {Q : (Option Value ⊕ Nat) → mi_H → Prop} (n sl : Nat) (f : Nat → mi_C) {l1 : Nat} {l2 : Int32} {o3 : Option Value} {o4 : Option Value} {fs5 : List Value} {x8 : Int32} {fs10 : List Value} (h6 : f l1 = .inr (12, fs5)) (h7 : l1 < n) (h9 : fs5[10]? = some (.int x8)) (h11 : f l1 = .inr (12, fs10)) (h12 : l1 < n) (h13 : mi_W d 145 0 (mi_en 2 [.ref l1, .int x8]) [] (n, sl, f) (mi_Kc d 144 110 [some (.ref l1), some (.int l2), o3, o4] [] Q)) : mi_W (d + 1) 144 105 [some (.ref l1), some (.int l2), o3, o4] [] (n, sl, f) Q := by
  refine w_aload_n cd_144_105 rfl ?_
  refine w_aload_n cd_144_106 rfl ?_
  refine w_getfield cd_144_107 (show mt_f 12 297 = some (12, 10) by decide +kernel) h6 h7 h9 ?_
  exact w_invokevirtual cd_144_110 (show mt_m 12 313 = some (145, 0) by decide +kernel) (rest := []) rfl (as := [.ref l1, .int x8]) rfl h11 (Or.inl h12) ⟨Nat.le_of_ble_eq_true rfl, Nat.le_of_ble_eq_true rfl, Nat.le_of_ble_eq_true rfl⟩ h13
theorem b_144_113 {d : Nat} {Q : (Option Value ⊕ Nat) → mi_H → Prop} (n sl : Nat) (f : Nat → mi_C) {l1 : Nat} {l2 : Int32} {o3 : Option Value} {o4 : Option Value} {s5 : Int32} (h6 : mi_W d 147 0 (mi_en 1 [.int s5]) [] (n, sl, f) (mi_Kc d 144 113 [some (.ref l1), some (.int l2), o3, o4] [] Q)) : mi_W (d + 1) 144 113 [some (.ref l1), some (.int l2), o3, o4] [.int s5] (n, sl, f) Q := by
  exact w_invokestatic cd_144_113 (show mt_m 12 320 = some (147, 4) by decide +kernel) (by decide) (rest := []) rfl (as := [.int s5]) rfl ⟨Nat.le_of_ble_eq_true rfl, Nat.le_of_ble_eq_true rfl, Nat.le_of_ble_eq_true rfl⟩ h6
theorem b_144_116 {d : Nat} {Q : (Option Value ⊕ Nat) → mi_H → Prop} (n sl : Nat) (f : Nat → mi_C) {l1 : Nat} {l2 : Int32} {o3 : Option Value} {o4 : Option Value} {s5 : Int32} (h6 : s5 = (0 : Int32) → mi_W d 144 132 [some (.ref l1), some (.int l2), o3, o4] [] (n, sl, f) Q) (h7 : ¬ (s5 = (0 : Int32)) → mi_W d 144 119 [some (.ref l1), some (.int l2), o3, o4] [] (n, sl, f) Q) : mi_W d 144 116 [some (.ref l1), some (.int l2), o3, o4] [.int s5] (n, sl, f) Q := by
  exact w_ifeq cd_144_116 (by decide) h6 h7
theorem b_144_119 {d : Nat} {Q : (Option Value ⊕ Nat) → mi_H → Prop} (n sl : Nat) (f : Nat → mi_C) {l1 : Nat} {l2 : Int32} {o3 : Option Value} {o4 : Option Value} {fs5 : List Value} {x8 : Int32} {fs10 : List Value} (h6 : f l1 = .inr (12, fs5)) (h7 : l1 < n) (h9 : fs5[10]? = some (.int x8)) (h11 : f l1 = .inr (12, fs10)) (h12 : l1 < n) (h13 : 10 < fs10.length) (h14 : mi_W d 144 77 [some (.ref l1), some (.int l2), o3, o4] [] (n, sl, (va_up f l1 (.inr (12, fs10.set 10 (.int (x8 + 1)))))) Q) : mi_W d 144 119 [some (.ref l1), some (.int l2), o3, o4] [] (n, sl, f) Q := by
  refine w_aload_n cd_144_119 rfl ?_
  refine w_dup_r cd_144_120 ?_
  refine w_getfield cd_144_121 (show mt_f 12 297 = some (12, 10) by decide +kernel) h6 h7 h9 ?_
  refine w_iconst (v := 1) cd_144_124 (by decide) ?_
  refine w_iadd cd_144_125 ?_
  refine w_putfield (w := .int (x8 + 1)) cd_144_126 (show mt_f 12 297 = some (12, 10) by decide +kernel) h11 h12 ⟨h13, rfl, Or.inl (by decide)⟩ ?_
  exact w_goto cd_144_129 (by decide) h14
theorem b_144_132 {d : Nat} {Q : (Option Value ⊕ Nat) → mi_H → Prop} (n sl : Nat) (f : Nat → mi_C) {l1 : Nat} {l2 : Int32} {o3 : Option Value} {o4 : Option Value} {fs5 : List Value} (h6 : f l1 = .inr (12, fs5)) (h7 : l1 < n) (h8 : 8 < fs5.length) (h9 : mi_W d 144 139 [some (.ref l1), some (.int l2), some (.int 0), o4] [] (n, sl, (va_up f l1 (.inr (12, fs5.set 8 (.int 1))))) Q) : mi_W d 144 132 [some (.ref l1), some (.int l2), o3, o4] [] (n, sl, f) Q := by
  refine w_aload_n cd_144_132 rfl ?_
  refine w_iconst (v := 1) cd_144_133 (by decide) ?_
  refine w_putfield (w := .int 1) cd_144_134 (show mt_f 12 310 = some (12, 8) by decide +kernel) h6 h7 ⟨h8, rfl, Or.inl (by decide)⟩ ?_
  refine w_iconst (v := 0) cd_144_137 (by decide) ?_
  refine w_istore_n (ls' := [some (.ref l1), some (.int l2), some (.int 0), o4]) cd_144_138 (Nat.le_of_ble_eq_true rfl) rfl ?_
  exact h9
theorem b_144_139 {d : Nat} {Q : (Option Value ⊕ Nat) → mi_H → Prop} (n sl : Nat) (f : Nat → mi_C) {l1 : Nat} {l2 : Int32} {l3 : Int32} {o4 : Option Value} {fs5 : List Value} {x8 : Nat} (m10 ka10 : Nat) (g10 : (Nat → Int32) ⊕ (Nat → Int64) ⊕ (Nat → UInt32) ⊕ (Nat → UInt64) ⊕ (Nat → Option Nat)) (h6 : f l1 = .inr (12, fs5)) (h7 : l1 < n) (h9 : fs5[7]? = some (.ref x8)) (h11 : f x8 = .inl (ka10, m10, g10)) (h12 : x8 < n ∧ ka10 < mt_na) (h13 : (Int32.ofNat m10) ≤ l3 → mi_W d 144 172 [some (.ref l1), some (.int l2), some (.int l3), o4] [] (n, sl, f) Q) (h14 : ¬ ((Int32.ofNat m10) ≤ l3) → mi_W d 144 148 [some (.ref l1), some (.int l2), some (.int l3), o4] [] (n, sl, f) Q) : mi_W d 144 139 [some (.ref l1), some (.int l2), some (.int l3), o4] [] (n, sl, f) Q := by
  refine w_iload_n cd_144_139 rfl ?_
  refine w_aload_n cd_144_140 rfl ?_
  refine w_getfield cd_144_141 (show mt_f 12 73 = some (12, 7) by decide +kernel) h6 h7 h9 ?_
  refine w_arraylength cd_144_144 h11 h12 ?_
  exact w_if_icmpge cd_144_145 (by decide) h13 h14
theorem b_144_148 {d : Nat} {Q : (Option Value ⊕ Nat) → mi_H → Prop} (n sl : Nat) (f : Nat → mi_C) {l1 : Nat} {l2 : Int32} {l3 : Int32} {o4 : Option Value} {fs5 : List Value} {x8 : Nat} (m10 i10 ka10 : Nat) (g10 : Nat → Option Nat) {x15 : Nat} {fs17 : List Value} (h6 : f l1 = .inr (12, fs5)) (h7 : l1 < n) (h9 : fs5[7]? = some (.ref x8)) (h11 : f x8 = .inl (ka10, m10, .inr (.inr (.inr (.inr g10))))) (h12 : x8 < n) (h13 : 4 ≤ ka10 ∧ ka10 < mt_na) (h14 : mi_ix l3 m10 i10) (h16 : g10 i10 = some x15) (h18 : f l1 = .inr (12, fs17)) (h19 : l1 < n) (h20 : mi_W d 148 0 (mi_en 3 [.ref l1, .ref x15]) [] (n, sl, f) (mi_Kc d 144 155 [some (.ref l1), some (.int l2), some (.int l3), o4] [] Q)) : mi_W (d + 1) 144 148 [some (.ref l1), some (.int l2), some (.int l3), o4] [] (n, sl, f) Q := by
  refine w_aload_n cd_144_148 rfl ?_
  refine w_aload_n cd_144_149 rfl ?_
  refine w_getfield cd_144_150 (show mt_f 12 73 = some (12, 7) by decide +kernel) h6 h7 h9 ?_
  refine w_iload_n cd_144_153 rfl ?_
  refine w_aaload (w := .ref x15) cd_144_154 h11 h12 h13 h14 (by rw [h16]; rfl) ?_
  exact w_invokevirtual cd_144_155 (show mt_m 12 323 = some (148, 0) by decide +kernel) (rest := []) rfl (as := [.ref l1, .ref x15]) rfl h18 (Or.inl h19) ⟨Nat.le_of_ble_eq_true rfl, Nat.le_of_ble_eq_true rfl, Nat.le_of_ble_eq_true rfl⟩ h20
theorem b_144_158 {d : Nat} {Q : (Option Value ⊕ Nat) → mi_H → Prop} (n sl : Nat) (f : Nat → mi_C) {l1 : Nat} {l2 : Int32} {l3 : Int32} {o4 : Option Value} {s5 : Int32} (h6 : s5 = (0 : Int32) → mi_W d 144 166 [some (.ref l1), some (.int l2), some (.int l3), o4] [] (n, sl, f) Q) (h7 : ¬ (s5 = (0 : Int32)) → mi_W d 144 161 [some (.ref l1), some (.int l2), some (.int l3), o4] [] (n, sl, f) Q) : mi_W d 144 158 [some (.ref l1), some (.int l2), some (.int l3), o4] [.int s5] (n, sl, f) Q := by
  exact w_ifeq cd_144_158 (by decide) h6 h7
theorem b_144_161 {d : Nat} {Q : (Option Value ⊕ Nat) → mi_H → Prop} (n sl : Nat) (f : Nat → mi_C) {l1 : Nat} {l2 : Int32} {l3 : Int32} {o4 : Option Value} {fs5 : List Value} (h6 : f l1 = .inr (12, fs5)) (h7 : l1 < n) (h8 : 8 < fs5.length) (h9 : mi_W d 144 166 [some (.ref l1), some (.int l2), some (.int l3), o4] [] (n, sl, (va_up f l1 (.inr (12, fs5.set 8 (.int 4))))) Q) : mi_W d 144 161 [some (.ref l1), some (.int l2), some (.int l3), o4] [] (n, sl, f) Q := by
  refine w_aload_n cd_144_161 rfl ?_
  refine w_iconst (v := 4) cd_144_162 (by decide) ?_
  refine w_putfield (w := .int 4) cd_144_163 (show mt_f 12 310 = some (12, 8) by decide +kernel) h6 h7 ⟨h8, rfl, Or.inl (by decide)⟩ ?_
  exact h9
theorem b_144_166 {d : Nat} {Q : (Option Value ⊕ Nat) → mi_H → Prop} (n sl : Nat) (f : Nat → mi_C) {l1 : Nat} {l2 : Int32} {l3 : Int32} {o4 : Option Value} (h5 : mi_W d 144 139 [some (.ref l1), some (.int l2), some (.int (l3 + 1)), o4] [] (n, sl, f) Q) : mi_W d 144 166 [some (.ref l1), some (.int l2), some (.int l3), o4] [] (n, sl, f) Q := by
  refine w_iinc (v := 1) (ls' := [some (.ref l1), some (.int l2), some (.int (l3 + 1)), o4]) cd_144_166 rfl (by decide) rfl ?_
  exact w_goto cd_144_169 (by decide) h5
theorem b_144_172 {d : Nat} {Q : (Option Value ⊕ Nat) → mi_H → Prop} (n sl : Nat) (f : Nat → mi_C) {l1 : Nat} {l2 : Int32} {l3 : Int32} {o4 : Option Value} (h5 : Q (.inl (some (.int 1))) (n, sl, f)) : mi_W d 144 172 [some (.ref l1), some (.int l2), some (.int l3), o4] [] (n, sl, f) Q := by
  refine w_iconst (v := 1) cd_144_172 (by decide) ?_
  exact w_ireturn_z cd_144_173 (by decide +kernel) (by decide) h5
theorem b_144_174 {d : Nat} {Q : (Option Value ⊕ Nat) → mi_H → Prop} (n sl : Nat) (f : Nat → mi_C) {l1 : Nat} {l2 : Int32} {o3 : Option Value} {o4 : Option Value} {fs5 : List Value} (h6 : f l1 = .inr (12, fs5)) (h7 : l1 < n) (h8 : mi_W d 145 0 (mi_en 2 [.ref l1, .int l2]) [] (n, sl, f) (mi_Kc d 144 176 [some (.ref l1), some (.int l2), o3, o4] [] Q)) : mi_W (d + 1) 144 174 [some (.ref l1), some (.int l2), o3, o4] [] (n, sl, f) Q := by
  refine w_aload_n cd_144_174 rfl ?_
  refine w_iload_n cd_144_175 rfl ?_
  exact w_invokevirtual cd_144_176 (show mt_m 12 313 = some (145, 0) by decide +kernel) (rest := []) rfl (as := [.ref l1, .int l2]) rfl h6 (Or.inl h7) ⟨Nat.le_of_ble_eq_true rfl, Nat.le_of_ble_eq_true rfl, Nat.le_of_ble_eq_true rfl⟩ h8
theorem b_144_179 {d : Nat} {Q : (Option Value ⊕ Nat) → mi_H → Prop} (n sl : Nat) (f : Nat → mi_C) {l1 : Nat} {l2 : Int32} {o3 : Option Value} {o4 : Option Value} {s5 : Int32} (h6 : ¬ s5 = 45 → mi_W d 144 188 [some (.ref l1), some (.int l2), o3, o4] [] (n, sl, f) Q) (h7 : ¬ (¬ s5 = 45) → mi_W d 144 184 [some (.ref l1), some (.int l2), o3, o4] [] (n, sl, f) Q) : mi_W d 144 179 [some (.ref l1), some (.int l2), o3, o4] [.int s5] (n, sl, f) Q := by
  refine w_bipush (v := 45) cd_144_179 (by decide) ?_
  exact w_if_icmpne cd_144_181 (by decide) h6 h7
theorem b_144_184 {d : Nat} {Q : (Option Value ⊕ Nat) → mi_H → Prop} (n sl : Nat) (f : Nat → mi_C) {l1 : Nat} {l2 : Int32} {o3 : Option Value} {o4 : Option Value} (h5 : mi_W d 144 189 [some (.ref l1), some (.int l2), o3, o4] [.int 1] (n, sl, f) Q) : mi_W d 144 184 [some (.ref l1), some (.int l2), o3, o4] [] (n, sl, f) Q := by
  refine w_iconst (v := 1) cd_144_184 (by decide) ?_
  exact w_goto cd_144_185 (by decide) h5
theorem b_144_188 {d : Nat} {Q : (Option Value ⊕ Nat) → mi_H → Prop} (n sl : Nat) (f : Nat → mi_C) {l1 : Nat} {l2 : Int32} {o3 : Option Value} {o4 : Option Value} (h5 : mi_W d 144 189 [some (.ref l1), some (.int l2), o3, o4] [.int 0] (n, sl, f) Q) : mi_W d 144 188 [some (.ref l1), some (.int l2), o3, o4] [] (n, sl, f) Q := by
  refine w_iconst (v := 0) cd_144_188 (by decide) ?_
  exact h5
theorem b_144_189 {d : Nat} {Q : (Option Value ⊕ Nat) → mi_H → Prop} (n sl : Nat) (f : Nat → mi_C) {l1 : Nat} {l2 : Int32} {o3 : Option Value} {o4 : Option Value} {s5 : Int32} {fs6 : List Value} (h7 : f l1 = .inr (12, fs6)) (h8 : l1 < n) (h9 : mi_W d 145 0 (mi_en 2 [.ref l1, .int l2]) [] (n, sl, f) (mi_Kc d 144 192 [some (.ref l1), some (.int l2), some (.int s5), o4] [] Q)) : mi_W (d + 1) 144 189 [some (.ref l1), some (.int l2), o3, o4] [.int s5] (n, sl, f) Q := by
  refine w_istore_n (ls' := [some (.ref l1), some (.int l2), some (.int s5), o4]) cd_144_189 (Nat.le_of_ble_eq_true rfl) rfl ?_
  refine w_aload_n cd_144_190 rfl ?_
  refine w_iload_n cd_144_191 rfl ?_
  exact w_invokevirtual cd_144_192 (show mt_m 12 313 = some (145, 0) by decide +kernel) (rest := []) rfl (as := [.ref l1, .int l2]) rfl h7 (Or.inl h8) ⟨Nat.le_of_ble_eq_true rfl, Nat.le_of_ble_eq_true rfl, Nat.le_of_ble_eq_true rfl⟩ h9
theorem b_144_195 {d : Nat} {Q : (Option Value ⊕ Nat) → mi_H → Prop} (n sl : Nat) (f : Nat → mi_C) {l1 : Nat} {l2 : Int32} {l3 : Int32} {o4 : Option Value} {s5 : Int32} (h6 : mi_W d 147 0 (mi_en 1 [.int s5]) [] (n, sl, f) (mi_Kc d 144 195 [some (.ref l1), some (.int l2), some (.int l3), o4] [] Q)) : mi_W (d + 1) 144 195 [some (.ref l1), some (.int l2), some (.int l3), o4] [.int s5] (n, sl, f) Q := by
  exact w_invokestatic cd_144_195 (show mt_m 12 320 = some (147, 4) by decide +kernel) (by decide) (rest := []) rfl (as := [.int s5]) rfl ⟨Nat.le_of_ble_eq_true rfl, Nat.le_of_ble_eq_true rfl, Nat.le_of_ble_eq_true rfl⟩ h6
theorem b_144_198 {d : Nat} {Q : (Option Value ⊕ Nat) → mi_H → Prop} (n sl : Nat) (f : Nat → mi_C) {l1 : Nat} {l2 : Int32} {l3 : Int32} {o4 : Option Value} {s5 : Int32} (h6 : ¬ s5 = (0 : Int32) → mi_W d 144 218 [some (.ref l1), some (.int l2), some (.int l3), o4] [] (n, sl, f) Q) (h7 : ¬ (¬ s5 = (0 : Int32)) → mi_W d 144 201 [some (.ref l1), some (.int l2), some (.int l3), o4] [] (n, sl, f) Q) : mi_W d 144 198 [some (.ref l1), some (.int l2), some (.int l3), o4] [.int s5] (n, sl, f) Q := by
  exact w_ifne cd_144_198 (by decide) h6 h7
theorem b_144_201 {d : Nat} {Q : (Option Value ⊕ Nat) → mi_H → Prop} (n sl : Nat) (f : Nat → mi_C) {l1 : Nat} {l2 : Int32} {l3 : Int32} {o4 : Option Value} (h5 : l3 = (0 : Int32) → mi_W d 144 319 [some (.ref l1), some (.int l2), some (.int l3), o4] [] (n, sl, f) Q) (h6 : ¬ (l3 = (0 : Int32)) → mi_W d 144 205 [some (.ref l1), some (.int l2), some (.int l3), o4] [] (n, sl, f) Q) : mi_W d 144 201 [some (.ref l1), some (.int l2), some (.int l3), o4] [] (n, sl, f) Q := by
  refine w_iload_n cd_144_201 rfl ?_
  exact w_ifeq cd_144_202 (by decide) h5 h6
theorem b_144_205 {d : Nat} {Q : (Option Value ⊕ Nat) → mi_H → Prop} (n sl : Nat) (f : Nat → mi_C) {l1 : Nat} {l2 : Int32} {l3 : Int32} {o4 : Option Value} {fs5 : List Value} (h6 : f l1 = .inr (12, fs5)) (h7 : l1 < n) (h8 : mi_W d 145 0 (mi_en 2 [.ref l1, .int (l2 + 1)]) [] (n, sl, f) (mi_Kc d 144 209 [some (.ref l1), some (.int l2), some (.int l3), o4] [] Q)) : mi_W (d + 1) 144 205 [some (.ref l1), some (.int l2), some (.int l3), o4] [] (n, sl, f) Q := by
  refine w_aload_n cd_144_205 rfl ?_
  refine w_iload_n cd_144_206 rfl ?_
  refine w_iconst (v := 1) cd_144_207 (by decide) ?_
  refine w_iadd cd_144_208 ?_
  exact w_invokevirtual cd_144_209 (show mt_m 12 313 = some (145, 0) by decide +kernel) (rest := []) rfl (as := [.ref l1, .int (l2 + 1)]) rfl h6 (Or.inl h7) ⟨Nat.le_of_ble_eq_true rfl, Nat.le_of_ble_eq_true rfl, Nat.le_of_ble_eq_true rfl⟩ h8
theorem b_144_212 {d : Nat} {Q : (Option Value ⊕ Nat) → mi_H → Prop} (n sl : Nat) (f : Nat → mi_C) {l1 : Nat} {l2 : Int32} {l3 : Int32} {o4 : Option Value} {s5 : Int32} (h6 : mi_W d 147 0 (mi_en 1 [.int s5]) [] (n, sl, f) (mi_Kc d 144 212 [some (.ref l1), some (.int l2), some (.int l3), o4] [] Q)) : mi_W (d + 1) 144 212 [some (.ref l1), some (.int l2), some (.int l3), o4] [.int s5] (n, sl, f) Q := by
  exact w_invokestatic cd_144_212 (show mt_m 12 320 = some (147, 4) by decide +kernel) (by decide) (rest := []) rfl (as := [.int s5]) rfl ⟨Nat.le_of_ble_eq_true rfl, Nat.le_of_ble_eq_true rfl, Nat.le_of_ble_eq_true rfl⟩ h6
theorem b_144_215 {d : Nat} {Q : (Option Value ⊕ Nat) → mi_H → Prop} (n sl : Nat) (f : Nat → mi_C) {l1 : Nat} {l2 : Int32} {l3 : Int32} {o4 : Option Value} {s5 : Int32} (h6 : s5 = (0 : Int32) → mi_W d 144 319 [some (.ref l1), some (.int l2), some (.int l3), o4] [] (n, sl, f) Q) (h7 : ¬ (s5 = (0 : Int32)) → mi_W d 144 218 [some (.ref l1), some (.int l2), some (.int l3), o4] [] (n, sl, f) Q) : mi_W d 144 215 [some (.ref l1), some (.int l2), some (.int l3), o4] [.int s5] (n, sl, f) Q := by
  exact w_ifeq cd_144_215 (by decide) h6 h7
theorem b_144_218 {d : Nat} {Q : (Option Value ⊕ Nat) → mi_H → Prop} (n sl : Nat) (f : Nat → mi_C) {l1 : Nat} {l2 : Int32} {l3 : Int32} {o4 : Option Value} {fs5 : List Value} (h6 : f l1 = .inr (12, fs5)) (h7 : l1 < n) (h8 : 8 < fs5.length) (h9 : l3 = (0 : Int32) → mi_W d 144 234 [some (.ref l1), some (.int l2), some (.int l3), o4] [.ref l1] (n, sl, (va_up f l1 (.inr (12, fs5.set 8 (.int 2))))) Q) (h10 : ¬ (l3 = (0 : Int32)) → mi_W d 144 228 [some (.ref l1), some (.int l2), some (.int l3), o4] [.ref l1] (n, sl, (va_up f l1 (.inr (12, fs5.set 8 (.int 2))))) Q) : mi_W d 144 218 [some (.ref l1), some (.int l2), some (.int l3), o4] [] (n, sl, f) Q := by
  refine w_aload_n cd_144_218 rfl ?_
  refine w_iconst (v := 2) cd_144_219 (by decide) ?_
  refine w_putfield (w := .int 2) cd_144_220 (show mt_f 12 310 = some (12, 8) by decide +kernel) h6 h7 ⟨h8, rfl, Or.inl (by decide)⟩ ?_
  refine w_aload_n cd_144_223 rfl ?_
  refine w_iload_n cd_144_224 rfl ?_
  exact w_ifeq cd_144_225 (by decide) h9 h10
theorem b_144_228 {d : Nat} {Q : (Option Value ⊕ Nat) → mi_H → Prop} (n sl : Nat) (f : Nat → mi_C) {l1 : Nat} {l2 : Int32} {l3 : Int32} {o4 : Option Value} {s5 : Nat} (h6 : mi_W d 144 235 [some (.ref l1), some (.int l2), some (.int l3), o4] [.int (l2 + 1), .ref s5] (n, sl, f) Q) : mi_W d 144 228 [some (.ref l1), some (.int l2), some (.int l3), o4] [.ref s5] (n, sl, f) Q := by
  refine w_iload_n cd_144_228 rfl ?_
  refine w_iconst (v := 1) cd_144_229 (by decide) ?_
  refine w_iadd cd_144_230 ?_
  exact w_goto cd_144_231 (by decide) h6
theorem b_144_234 {d : Nat} {Q : (Option Value ⊕ Nat) → mi_H → Prop} (n sl : Nat) (f : Nat → mi_C) {l1 : Nat} {l2 : Int32} {l3 : Int32} {o4 : Option Value} {s5 : Nat} (h6 : mi_W d 144 235 [some (.ref l1), some (.int l2), some (.int l3), o4] [.int l2, .ref s5] (n, sl, f) Q) : mi_W d 144 234 [some (.ref l1), some (.int l2), some (.int l3), o4] [.ref s5] (n, sl, f) Q := by
  refine w_iload_n cd_144_234 rfl ?_
  exact h6
theorem b_144_235 {d : Nat} {Q : (Option Value ⊕ Nat) → mi_H → Prop} (n sl : Nat) (f : Nat → mi_C) {l1 : Nat} {l2 : Int32} {l3 : Int32} {o4 : Option Value} {s5 : Int32} {s6 : Nat} {fs7 : List Value} {fs11 : List Value} (h8 : f s6 = .inr (12, fs7)) (h9 : s6 < n) (h10 : 10 < fs7.length) (h12 : (va_up f s6 (.inr (12, fs7.set 10 (.int s5)))) l1 = .inr (12, fs11)) (h13 : l1 < n) (h14 : 11 < fs11.length) (h15 : mi_W d 144 245 [some (.ref l1), some (.int l2), some (.int l3), some (.int 0)] [] (n, sl, (va_up (va_up f s6 (.inr (12, fs7.set 10 (.int s5)))) l1 (.inr (12, fs11.set 11 (.long 0))))) Q) : mi_W d 144 235 [some (.ref l1), some (.int l2), some (.int l3), o4] [.int s5, .ref s6] (n, sl, f) Q := by
  refine w_putfield (w := .int s5) cd_144_235 (show mt_f 12 297 = some (12, 10) by decide +kernel) h8 h9 ⟨h10, rfl, Or.inl (by decide)⟩ ?_
  refine w_aload_n cd_144_238 rfl ?_
  refine w_lconst (lv := 0) cd_144_239 (by decide) ?_
  refine w_putfield (w := .long 0) cd_144_240 (show mt_f 12 327 = some (12, 11) by decide +kernel) h12 h13 ⟨h14, rfl, Or.inl (by decide)⟩ ?_
  refine w_iconst (v := 0) cd_144_243 (by decide) ?_
  refine w_istore_n (ls' := [some (.ref l1), some (.int l2), some (.int l3), some (.int 0)]) cd_144_244 (Nat.le_of_ble_eq_true rfl) rfl ?_
  exact h15
theorem b_144_245 {d : Nat} {Q : (Option Value ⊕ Nat) → mi_H → Prop} (n sl : Nat) (f : Nat → mi_C) {l1 : Nat} {l2 : Int32} {l3 : Int32} {l4 : Int32} {fs5 : List Value} {x8 : Int32} {fs10 : List Value} (h6 : f l1 = .inr (12, fs5)) (h7 : l1 < n) (h9 : fs5[10]? = some (.int x8)) (h11 : f l1 = .inr (12, fs10)) (h12 : l1 < n) (h13 : mi_W d 145 0 (mi_en 2 [.ref l1, .int x8]) [] (n, sl, f) (mi_Kc d 144 250 [some (.ref l1), some (.int l2), some (.int l3), some (.int l4)] [] Q)) : mi_W (d + 1) 144 245 [some (.ref l1), some (.int l2), some (.int l3), some (.int l4)] [] (n, sl, f) Q := by
  refine w_aload_n cd_144_245 rfl ?_
  refine w_aload_n cd_144_246 rfl ?_
  refine w_getfield cd_144_247 (show mt_f 12 297 = some (12, 10) by decide +kernel) h6 h7 h9 ?_
  exact w_invokevirtual cd_144_250 (show mt_m 12 313 = some (145, 0) by decide +kernel) (rest := []) rfl (as := [.ref l1, .int x8]) rfl h11 (Or.inl h12) ⟨Nat.le_of_ble_eq_true rfl, Nat.le_of_ble_eq_true rfl, Nat.le_of_ble_eq_true rfl⟩ h13
theorem b_144_253 {d : Nat} {Q : (Option Value ⊕ Nat) → mi_H → Prop} (n sl : Nat) (f : Nat → mi_C) {l1 : Nat} {l2 : Int32} {l3 : Int32} {l4 : Int32} {s5 : Int32} (h6 : mi_W d 147 0 (mi_en 1 [.int s5]) [] (n, sl, f) (mi_Kc d 144 253 [some (.ref l1), some (.int l2), some (.int l3), some (.int l4)] [] Q)) : mi_W (d + 1) 144 253 [some (.ref l1), some (.int l2), some (.int l3), some (.int l4)] [.int s5] (n, sl, f) Q := by
  exact w_invokestatic cd_144_253 (show mt_m 12 320 = some (147, 4) by decide +kernel) (by decide) (rest := []) rfl (as := [.int s5]) rfl ⟨Nat.le_of_ble_eq_true rfl, Nat.le_of_ble_eq_true rfl, Nat.le_of_ble_eq_true rfl⟩ h6
theorem b_144_256 {d : Nat} {Q : (Option Value ⊕ Nat) → mi_H → Prop} (n sl : Nat) (f : Nat → mi_C) {l1 : Nat} {l2 : Int32} {l3 : Int32} {l4 : Int32} {s5 : Int32} (h6 : s5 = (0 : Int32) → mi_W d 144 304 [some (.ref l1), some (.int l2), some (.int l3), some (.int l4)] [] (n, sl, f) Q) (h7 : ¬ (s5 = (0 : Int32)) → mi_W d 144 259 [some (.ref l1), some (.int l2), some (.int l3), some (.int l4)] [] (n, sl, f) Q) : mi_W d 144 256 [some (.ref l1), some (.int l2), some (.int l3), some (.int l4)] [.int s5] (n, sl, f) Q := by
  exact w_ifeq cd_144_256 (by decide) h6 h7
theorem b_144_259 {d : Nat} {Q : (Option Value ⊕ Nat) → mi_H → Prop} (n sl : Nat) (f : Nat → mi_C) {l1 : Nat} {l2 : Int32} {l3 : Int32} {l4 : Int32} (h5 : 17 ≤ l4 → mi_W d 144 304 [some (.ref l1), some (.int l2), some (.int l3), some (.int l4)] [] (n, sl, f) Q) (h6 : ¬ (17 ≤ l4) → mi_W d 144 265 [some (.ref l1), some (.int l2), some (.int l3), some (.int l4)] [] (n, sl, f) Q) : mi_W d 144 259 [some (.ref l1), some (.int l2), some (.int l3), some (.int l4)] [] (n, sl, f) Q := by
  refine w_iload_n cd_144_259 rfl ?_
  refine w_bipush (v := 17) cd_144_260 (by decide) ?_
  exact w_if_icmpge cd_144_262 (by decide) h5 h6
theorem b_144_265 {d : Nat} {Q : (Option Value ⊕ Nat) → mi_H → Prop} (n sl : Nat) (f : Nat → mi_C) {l1 : Nat} {l2 : Int32} {l3 : Int32} {l4 : Int32} {fs5 : List Value} {x8 : Int64} {fs10 : List Value} {x13 : Int32} {fs15 : List Value} {fs19 : List Value} (h6 : f l1 = .inr (12, fs5)) (h7 : l1 < n) (h9 : fs5[11]? = some (.long x8)) (h11 : f l1 = .inr (12, fs10)) (h12 : l1 < n) (h14 : fs10[10]? = some (.int x13)) (h16 : f l1 = .inr (12, fs15)) (h17 : l1 < n) (h18 : 10 < fs15.length) (h20 : (va_up f l1 (.inr (12, fs15.set 10 (.int (x13 + 1))))) l1 = .inr (12, fs19)) (h21 : l1 < n) (h22 : mi_W d 145 0 (mi_en 2 [.ref l1, .int x13]) [] (n, sl, (va_up f l1 (.inr (12, fs15.set 10 (.int (x13 + 1)))))) (mi_Kc d 144 286 [some (.ref l1), some (.int l2), some (.int l3), some (.int l4)] [.long (10 * x8), .ref l1] Q)) : mi_W (d + 1) 144 265 [some (.ref l1), some (.int l2), some (.int l3), some (.int l4)] [] (n, sl, f) Q := by
  refine w_aload_n cd_144_265 rfl ?_
  refine w_ldc2_w (lv := 10) cd_144_266 (by decide +kernel) ?_
  refine w_aload_n cd_144_269 rfl ?_
  refine w_getfield cd_144_270 (show mt_f 12 327 = some (12, 11) by decide +kernel) h6 h7 h9 ?_
  refine w_lmul cd_144_273 ?_
  refine w_aload_n cd_144_274 rfl ?_
  refine w_aload_n cd_144_275 rfl ?_
  refine w_dup_r cd_144_276 ?_
  refine w_getfield cd_144_277 (show mt_f 12 297 = some (12, 10) by decide +kernel) h11 h12 h14 ?_
  refine w_dup_x1_ir cd_144_280 ?_
  refine w_iconst (v := 1) cd_144_281 (by decide) ?_
  refine w_iadd cd_144_282 ?_
  refine w_putfield (w := .int (x13 + 1)) cd_144_283 (show mt_f 12 297 = some (12, 10) by decide +kernel) h16 h17 ⟨h18, rfl, Or.inl (by decide)⟩ ?_
  exact w_invokevirtual cd_144_286 (show mt_m 12 313 = some (145, 0) by decide +kernel) (rest := [.long (10 * x8), .ref l1]) rfl (as := [.ref l1, .int x13]) rfl h20 (Or.inl h21) ⟨Nat.le_of_ble_eq_true rfl, Nat.le_of_ble_eq_true rfl, Nat.le_of_ble_eq_true rfl⟩ h22
theorem b_144_289 {d : Nat} {Q : (Option Value ⊕ Nat) → mi_H → Prop} (n sl : Nat) (f : Nat → mi_C) {l1 : Nat} {l2 : Int32} {l3 : Int32} {l4 : Int32} {s5 : Int32} {s6 : Int64} {s7 : Nat} {fs8 : List Value} (h9 : f s7 = .inr (12, fs8)) (h10 : s7 < n) (h11 : 11 < fs8.length) (h12 : mi_W d 144 245 [some (.ref l1), some (.int l2), some (.int l3), some (.int (l4 + 1))] [] (n, sl, (va_up f s7 (.inr (12, fs8.set 11 (.long ((s6 + ((s5 : Int32).toInt64)) - 48)))))) Q) : mi_W d 144 289 [some (.ref l1), some (.int l2), some (.int l3), some (.int l4)] [.int s5, .long s6, .ref s7] (n, sl, f) Q := by
  refine w_i2l cd_144_289 ?_
  refine w_ladd cd_144_290 ?_
  refine w_ldc2_w (lv := 48) cd_144_291 (by decide +kernel) ?_
  refine w_lsub cd_144_294 ?_
  refine w_putfield (w := .long ((s6 + ((s5 : Int32).toInt64)) - 48)) cd_144_295 (show mt_f 12 327 = some (12, 11) by decide +kernel) h9 h10 ⟨h11, rfl, Or.inl (by decide)⟩ ?_
  refine w_iinc (v := 1) (ls' := [some (.ref l1), some (.int l2), some (.int l3), some (.int (l4 + 1))]) cd_144_298 rfl (by decide) rfl ?_
  exact w_goto cd_144_301 (by decide) h12
theorem b_144_304 {d : Nat} {Q : (Option Value ⊕ Nat) → mi_H → Prop} (n sl : Nat) (f : Nat → mi_C) {l1 : Nat} {l2 : Int32} {l3 : Int32} {l4 : Int32} (h5 : l3 = (0 : Int32) → mi_W d 144 317 [some (.ref l1), some (.int l2), some (.int l3), some (.int l4)] [] (n, sl, f) Q) (h6 : ¬ (l3 = (0 : Int32)) → mi_W d 144 308 [some (.ref l1), some (.int l2), some (.int l3), some (.int l4)] [] (n, sl, f) Q) : mi_W d 144 304 [some (.ref l1), some (.int l2), some (.int l3), some (.int l4)] [] (n, sl, f) Q := by
  refine w_iload_n cd_144_304 rfl ?_
  exact w_ifeq cd_144_305 (by decide) h5 h6
theorem b_144_308 {d : Nat} {Q : (Option Value ⊕ Nat) → mi_H → Prop} (n sl : Nat) (f : Nat → mi_C) {l1 : Nat} {l2 : Int32} {l3 : Int32} {l4 : Int32} {fs5 : List Value} {x8 : Int64} {fs10 : List Value} (h6 : f l1 = .inr (12, fs5)) (h7 : l1 < n) (h9 : fs5[11]? = some (.long x8)) (h11 : f l1 = .inr (12, fs10)) (h12 : l1 < n) (h13 : 11 < fs10.length) (h14 : mi_W d 144 317 [some (.ref l1), some (.int l2), some (.int l3), some (.int l4)] [] (n, sl, (va_up f l1 (.inr (12, fs10.set 11 (.long (-x8)))))) Q) : mi_W d 144 308 [some (.ref l1), some (.int l2), some (.int l3), some (.int l4)] [] (n, sl, f) Q := by
  refine w_aload_n cd_144_308 rfl ?_
  refine w_aload_n cd_144_309 rfl ?_
  refine w_getfield cd_144_310 (show mt_f 12 327 = some (12, 11) by decide +kernel) h6 h7 h9 ?_
  refine w_lneg cd_144_313 ?_
  refine w_putfield (w := .long (-x8)) cd_144_314 (show mt_f 12 327 = some (12, 11) by decide +kernel) h11 h12 ⟨h13, rfl, Or.inl (by decide)⟩ ?_
  exact h14
theorem b_144_317 {d : Nat} {Q : (Option Value ⊕ Nat) → mi_H → Prop} (n sl : Nat) (f : Nat → mi_C) {l1 : Nat} {l2 : Int32} {l3 : Int32} {l4 : Int32} (h5 : Q (.inl (some (.int 1))) (n, sl, f)) : mi_W d 144 317 [some (.ref l1), some (.int l2), some (.int l3), some (.int l4)] [] (n, sl, f) Q := by
  refine w_iconst (v := 1) cd_144_317 (by decide) ?_
  exact w_ireturn_z cd_144_318 (by decide +kernel) (by decide) h5
theorem b_144_319 {d : Nat} {Q : (Option Value ⊕ Nat) → mi_H → Prop} (n sl : Nat) (f : Nat → mi_C) {l1 : Nat} {l2 : Int32} {l3 : Int32} {o4 : Option Value} {fs5 : List Value} {fs9 : List Value} (h6 : f l1 = .inr (12, fs5)) (h7 : l1 < n) (h8 : 8 < fs5.length) (h10 : (va_up f l1 (.inr (12, fs5.set 8 (.int 3)))) l1 = .inr (12, fs9)) (h11 : l1 < n) (h12 : mi_W d 145 0 (mi_en 2 [.ref l1, .int l2]) [] (n, sl, (va_up f l1 (.inr (12, fs5.set 8 (.int 3))))) (mi_Kc d 144 326 [some (.ref l1), some (.int l2), some (.int l3), o4] [] Q)) : mi_W (d + 1) 144 319 [some (.ref l1), some (.int l2), some (.int l3), o4] [] (n, sl, f) Q := by
  refine w_aload_n cd_144_319 rfl ?_
  refine w_iconst (v := 3) cd_144_320 (by decide) ?_
  refine w_putfield (w := .int 3) cd_144_321 (show mt_f 12 310 = some (12, 8) by decide +kernel) h6 h7 ⟨h8, rfl, Or.inl (by decide)⟩ ?_
  refine w_aload_n cd_144_324 rfl ?_
  refine w_iload_n cd_144_325 rfl ?_
  exact w_invokevirtual cd_144_326 (show mt_m 12 313 = some (145, 0) by decide +kernel) (rest := []) rfl (as := [.ref l1, .int l2]) rfl h10 (Or.inl h11) ⟨Nat.le_of_ble_eq_true rfl, Nat.le_of_ble_eq_true rfl, Nat.le_of_ble_eq_true rfl⟩ h12
theorem b_144_329 {d : Nat} {Q : (Option Value ⊕ Nat) → mi_H → Prop} (n sl : Nat) (f : Nat → mi_C) {l1 : Nat} {l2 : Int32} {l3 : Int32} {o4 : Option Value} {s5 : Int32} (h6 : s5 = 60 → mi_W d 144 344 [some (.ref l1), some (.int l2), some (.int l3), some (.int s5)] [.int l2, .ref l1] (n, sl, f) Q) (h7 : ¬ (s5 = 60) → mi_W d 144 338 [some (.ref l1), some (.int l2), some (.int l3), some (.int s5)] [.int l2, .ref l1] (n, sl, f) Q) : mi_W d 144 329 [some (.ref l1), some (.int l2), some (.int l3), o4] [.int s5] (n, sl, f) Q := by
  refine w_istore_n (ls' := [some (.ref l1), some (.int l2), some (.int l3), some (.int s5)]) cd_144_329 (Nat.le_of_ble_eq_true rfl) rfl ?_
  refine w_aload_n cd_144_330 rfl ?_
  refine w_iload_n cd_144_331 rfl ?_
  refine w_iload_n cd_144_332 rfl ?_
  refine w_bipush (v := 60) cd_144_333 (by decide) ?_
  exact w_if_icmpeq cd_144_335 (by decide) h6 h7
theorem b_144_338 {d : Nat} {Q : (Option Value ⊕ Nat) → mi_H → Prop} (n sl : Nat) (f : Nat → mi_C) {l1 : Nat} {l2 : Int32} {l3 : Int32} {l4 : Int32} {s5 : Int32} {s6 : Nat} (h7 : ¬ l4 = 62 → mi_W d 144 360 [some (.ref l1), some (.int l2), some (.int l3), some (.int l4)] [.int s5, .ref s6] (n, sl, f) Q) (h8 : ¬ (¬ l4 = 62) → mi_W d 144 344 [some (.ref l1), some (.int l2), some (.int l3), some (.int l4)] [.int s5, .ref s6] (n, sl, f) Q) : mi_W d 144 338 [some (.ref l1), some (.int l2), some (.int l3), some (.int l4)] [.int s5, .ref s6] (n, sl, f) Q := by
  refine w_iload_n cd_144_338 rfl ?_
  refine w_bipush (v := 62) cd_144_339 (by decide) ?_
  exact w_if_icmpne cd_144_341 (by decide) h7 h8
theorem b_144_344 {d : Nat} {Q : (Option Value ⊕ Nat) → mi_H → Prop} (n sl : Nat) (f : Nat → mi_C) {l1 : Nat} {l2 : Int32} {l3 : Int32} {l4 : Int32} {s5 : Int32} {s6 : Nat} {fs7 : List Value} (h8 : f l1 = .inr (12, fs7)) (h9 : l1 < n) (h10 : mi_W d 145 0 (mi_en 2 [.ref l1, .int (l2 + 1)]) [] (n, sl, f) (mi_Kc d 144 348 [some (.ref l1), some (.int l2), some (.int l3), some (.int l4)] [.int s5, .ref s6] Q)) : mi_W (d + 1) 144 344 [some (.ref l1), some (.int l2), some (.int l3), some (.int l4)] [.int s5, .ref s6] (n, sl, f) Q := by
  refine w_aload_n cd_144_344 rfl ?_
  refine w_iload_n cd_144_345 rfl ?_
  refine w_iconst (v := 1) cd_144_346 (by decide) ?_
  refine w_iadd cd_144_347 ?_
  exact w_invokevirtual cd_144_348 (show mt_m 12 313 = some (145, 0) by decide +kernel) (rest := [.int s5, .ref s6]) rfl (as := [.ref l1, .int (l2 + 1)]) rfl h8 (Or.inl h9) ⟨Nat.le_of_ble_eq_true rfl, Nat.le_of_ble_eq_true rfl, Nat.le_of_ble_eq_true rfl⟩ h10
theorem b_144_351 {d : Nat} {Q : (Option Value ⊕ Nat) → mi_H → Prop} (n sl : Nat) (f : Nat → mi_C) {l1 : Nat} {l2 : Int32} {l3 : Int32} {l4 : Int32} {s5 : Int32} {s6 : Int32} {s7 : Nat} (h8 : ¬ s5 = 61 → mi_W d 144 360 [some (.ref l1), some (.int l2), some (.int l3), some (.int l4)] [.int s6, .ref s7] (n, sl, f) Q) (h9 : ¬ (¬ s5 = 61) → mi_W d 144 356 [some (.ref l1), some (.int l2), some (.int l3), some (.int l4)] [.int s6, .ref s7] (n, sl, f) Q) : mi_W d 144 351 [some (.ref l1), some (.int l2), some (.int l3), some (.int l4)] [.int s5, .int s6, .ref s7] (n, sl, f) Q := by
  refine w_bipush (v := 61) cd_144_351 (by decide) ?_
  exact w_if_icmpne cd_144_353 (by decide) h8 h9
theorem b_144_356 {d : Nat} {Q : (Option Value ⊕ Nat) → mi_H → Prop} (n sl : Nat) (f : Nat → mi_C) {l1 : Nat} {l2 : Int32} {l3 : Int32} {l4 : Int32} {s5 : Int32} {s6 : Nat} (h7 : mi_W d 144 361 [some (.ref l1), some (.int l2), some (.int l3), some (.int l4)] [.int 2, .int s5, .ref s6] (n, sl, f) Q) : mi_W d 144 356 [some (.ref l1), some (.int l2), some (.int l3), some (.int l4)] [.int s5, .ref s6] (n, sl, f) Q := by
  refine w_iconst (v := 2) cd_144_356 (by decide) ?_
  exact w_goto cd_144_357 (by decide) h7
theorem b_144_360 {d : Nat} {Q : (Option Value ⊕ Nat) → mi_H → Prop} (n sl : Nat) (f : Nat → mi_C) {l1 : Nat} {l2 : Int32} {l3 : Int32} {l4 : Int32} {s5 : Int32} {s6 : Nat} (h7 : mi_W d 144 361 [some (.ref l1), some (.int l2), some (.int l3), some (.int l4)] [.int 1, .int s5, .ref s6] (n, sl, f) Q) : mi_W d 144 360 [some (.ref l1), some (.int l2), some (.int l3), some (.int l4)] [.int s5, .ref s6] (n, sl, f) Q := by
  refine w_iconst (v := 1) cd_144_360 (by decide) ?_
  exact h7
theorem b_144_361 {d : Nat} {Q : (Option Value ⊕ Nat) → mi_H → Prop} (n sl : Nat) (f : Nat → mi_C) {l1 : Nat} {l2 : Int32} {l3 : Int32} {l4 : Int32} {s5 : Int32} {s6 : Int32} {s7 : Nat} {fs8 : List Value} (h9 : f s7 = .inr (12, fs8)) (h10 : s7 < n) (h11 : 10 < fs8.length) (h12 : l4 = 40 → mi_W d 144 437 [some (.ref l1), some (.int l2), some (.int l3), some (.int l4)] [] (n, sl, (va_up f s7 (.inr (12, fs8.set 10 (.int (s6 + s5)))))) Q) (h13 : ¬ (l4 = 40) → mi_W d 144 371 [some (.ref l1), some (.int l2), some (.int l3), some (.int l4)] [] (n, sl, (va_up f s7 (.inr (12, fs8.set 10 (.int (s6 + s5)))))) Q) : mi_W d 144 361 [some (.ref l1), some (.int l2), some (.int l3), some (.int l4)] [.int s5, .int s6, .ref s7] (n, sl, f) Q := by
  refine w_iadd cd_144_361 ?_
  refine w_putfield (w := .int (s6 + s5)) cd_144_362 (show mt_f 12 297 = some (12, 10) by decide +kernel) h9 h10 ⟨h11, rfl, Or.inl (by decide)⟩ ?_
  refine w_iload_n cd_144_365 rfl ?_
  refine w_bipush (v := 40) cd_144_366 (by decide) ?_
  exact w_if_icmpeq cd_144_368 (by decide) h12 h13
theorem b_144_371 {d : Nat} {Q : (Option Value ⊕ Nat) → mi_H → Prop} (n sl : Nat) (f : Nat → mi_C) {l1 : Nat} {l2 : Int32} {l3 : Int32} {l4 : Int32} (h5 : l4 = 41 → mi_W d 144 437 [some (.ref l1), some (.int l2), some (.int l3), some (.int l4)] [] (n, sl, f) Q) (h6 : ¬ (l4 = 41) → mi_W d 144 377 [some (.ref l1), some (.int l2), some (.int l3), some (.int l4)] [] (n, sl, f) Q) : mi_W d 144 371 [some (.ref l1), some (.int l2), some (.int l3), some (.int l4)] [] (n, sl, f) Q := by
  refine w_iload_n cd_144_371 rfl ?_
  refine w_bipush (v := 41) cd_144_372 (by decide) ?_
  exact w_if_icmpeq cd_144_374 (by decide) h5 h6
theorem b_144_377 {d : Nat} {Q : (Option Value ⊕ Nat) → mi_H → Prop} (n sl : Nat) (f : Nat → mi_C) {l1 : Nat} {l2 : Int32} {l3 : Int32} {l4 : Int32} (h5 : l4 = 91 → mi_W d 144 437 [some (.ref l1), some (.int l2), some (.int l3), some (.int l4)] [] (n, sl, f) Q) (h6 : ¬ (l4 = 91) → mi_W d 144 383 [some (.ref l1), some (.int l2), some (.int l3), some (.int l4)] [] (n, sl, f) Q) : mi_W d 144 377 [some (.ref l1), some (.int l2), some (.int l3), some (.int l4)] [] (n, sl, f) Q := by
  refine w_iload_n cd_144_377 rfl ?_
  refine w_bipush (v := 91) cd_144_378 (by decide) ?_
  exact w_if_icmpeq cd_144_380 (by decide) h5 h6
theorem b_144_383 {d : Nat} {Q : (Option Value ⊕ Nat) → mi_H → Prop} (n sl : Nat) (f : Nat → mi_C) {l1 : Nat} {l2 : Int32} {l3 : Int32} {l4 : Int32} (h5 : l4 = 93 → mi_W d 144 437 [some (.ref l1), some (.int l2), some (.int l3), some (.int l4)] [] (n, sl, f) Q) (h6 : ¬ (l4 = 93) → mi_W d 144 389 [some (.ref l1), some (.int l2), some (.int l3), some (.int l4)] [] (n, sl, f) Q) : mi_W d 144 383 [some (.ref l1), some (.int l2), some (.int l3), some (.int l4)] [] (n, sl, f) Q := by
  refine w_iload_n cd_144_383 rfl ?_
  refine w_bipush (v := 93) cd_144_384 (by decide) ?_
  exact w_if_icmpeq cd_144_386 (by decide) h5 h6
theorem b_144_389 {d : Nat} {Q : (Option Value ⊕ Nat) → mi_H → Prop} (n sl : Nat) (f : Nat → mi_C) {l1 : Nat} {l2 : Int32} {l3 : Int32} {l4 : Int32} (h5 : l4 = 43 → mi_W d 144 437 [some (.ref l1), some (.int l2), some (.int l3), some (.int l4)] [] (n, sl, f) Q) (h6 : ¬ (l4 = 43) → mi_W d 144 395 [some (.ref l1), some (.int l2), some (.int l3), some (.int l4)] [] (n, sl, f) Q) : mi_W d 144 389 [some (.ref l1), some (.int l2), some (.int l3), some (.int l4)] [] (n, sl, f) Q := by
  refine w_iload_n cd_144_389 rfl ?_
  refine w_bipush (v := 43) cd_144_390 (by decide) ?_
  exact w_if_icmpeq cd_144_392 (by decide) h5 h6
theorem b_144_395 {d : Nat} {Q : (Option Value ⊕ Nat) → mi_H → Prop} (n sl : Nat) (f : Nat → mi_C) {l1 : Nat} {l2 : Int32} {l3 : Int32} {l4 : Int32} (h5 : ¬ l3 = (0 : Int32) → mi_W d 144 437 [some (.ref l1), some (.int l2), some (.int l3), some (.int l4)] [] (n, sl, f) Q) (h6 : ¬ (¬ l3 = (0 : Int32)) → mi_W d 144 399 [some (.ref l1), some (.int l2), some (.int l3), some (.int l4)] [] (n, sl, f) Q) : mi_W d 144 395 [some (.ref l1), some (.int l2), some (.int l3), some (.int l4)] [] (n, sl, f) Q := by
  refine w_iload_n cd_144_395 rfl ?_
  exact w_ifne cd_144_396 (by decide) h5 h6
theorem b_144_399 {d : Nat} {Q : (Option Value ⊕ Nat) → mi_H → Prop} (n sl : Nat) (f : Nat → mi_C) {l1 : Nat} {l2 : Int32} {l3 : Int32} {l4 : Int32} (h5 : l4 = 42 → mi_W d 144 437 [some (.ref l1), some (.int l2), some (.int l3), some (.int l4)] [] (n, sl, f) Q) (h6 : ¬ (l4 = 42) → mi_W d 144 405 [some (.ref l1), some (.int l2), some (.int l3), some (.int l4)] [] (n, sl, f) Q) : mi_W d 144 399 [some (.ref l1), some (.int l2), some (.int l3), some (.int l4)] [] (n, sl, f) Q := by
  refine w_iload_n cd_144_399 rfl ?_
  refine w_bipush (v := 42) cd_144_400 (by decide) ?_
  exact w_if_icmpeq cd_144_402 (by decide) h5 h6
theorem b_144_405 {d : Nat} {Q : (Option Value ⊕ Nat) → mi_H → Prop} (n sl : Nat) (f : Nat → mi_C) {l1 : Nat} {l2 : Int32} {l3 : Int32} {l4 : Int32} (h5 : l4 = 47 → mi_W d 144 437 [some (.ref l1), some (.int l2), some (.int l3), some (.int l4)] [] (n, sl, f) Q) (h6 : ¬ (l4 = 47) → mi_W d 144 411 [some (.ref l1), some (.int l2), some (.int l3), some (.int l4)] [] (n, sl, f) Q) : mi_W d 144 405 [some (.ref l1), some (.int l2), some (.int l3), some (.int l4)] [] (n, sl, f) Q := by
  refine w_iload_n cd_144_405 rfl ?_
  refine w_bipush (v := 47) cd_144_406 (by decide) ?_
  exact w_if_icmpeq cd_144_408 (by decide) h5 h6
theorem b_144_411 {d : Nat} {Q : (Option Value ⊕ Nat) → mi_H → Prop} (n sl : Nat) (f : Nat → mi_C) {l1 : Nat} {l2 : Int32} {l3 : Int32} {l4 : Int32} (h5 : l4 = 60 → mi_W d 144 437 [some (.ref l1), some (.int l2), some (.int l3), some (.int l4)] [] (n, sl, f) Q) (h6 : ¬ (l4 = 60) → mi_W d 144 417 [some (.ref l1), some (.int l2), some (.int l3), some (.int l4)] [] (n, sl, f) Q) : mi_W d 144 411 [some (.ref l1), some (.int l2), some (.int l3), some (.int l4)] [] (n, sl, f) Q := by
  refine w_iload_n cd_144_411 rfl ?_
  refine w_bipush (v := 60) cd_144_412 (by decide) ?_
  exact w_if_icmpeq cd_144_414 (by decide) h5 h6
theorem b_144_417 {d : Nat} {Q : (Option Value ⊕ Nat) → mi_H → Prop} (n sl : Nat) (f : Nat → mi_C) {l1 : Nat} {l2 : Int32} {l3 : Int32} {l4 : Int32} (h5 : l4 = 62 → mi_W d 144 437 [some (.ref l1), some (.int l2), some (.int l3), some (.int l4)] [] (n, sl, f) Q) (h6 : ¬ (l4 = 62) → mi_W d 144 423 [some (.ref l1), some (.int l2), some (.int l3), some (.int l4)] [] (n, sl, f) Q) : mi_W d 144 417 [some (.ref l1), some (.int l2), some (.int l3), some (.int l4)] [] (n, sl, f) Q := by
  refine w_iload_n cd_144_417 rfl ?_
  refine w_bipush (v := 62) cd_144_418 (by decide) ?_
  exact w_if_icmpeq cd_144_420 (by decide) h5 h6
theorem b_144_423 {d : Nat} {Q : (Option Value ⊕ Nat) → mi_H → Prop} (n sl : Nat) (f : Nat → mi_C) {l1 : Nat} {l2 : Int32} {l3 : Int32} {l4 : Int32} (h5 : l4 = 61 → mi_W d 144 437 [some (.ref l1), some (.int l2), some (.int l3), some (.int l4)] [] (n, sl, f) Q) (h6 : ¬ (l4 = 61) → mi_W d 144 429 [some (.ref l1), some (.int l2), some (.int l3), some (.int l4)] [] (n, sl, f) Q) : mi_W d 144 423 [some (.ref l1), some (.int l2), some (.int l3), some (.int l4)] [] (n, sl, f) Q := by
  refine w_iload_n cd_144_423 rfl ?_
  refine w_bipush (v := 61) cd_144_424 (by decide) ?_
  exact w_if_icmpeq cd_144_426 (by decide) h5 h6
theorem b_144_429 {d : Nat} {Q : (Option Value ⊕ Nat) → mi_H → Prop} (n sl : Nat) (f : Nat → mi_C) {l1 : Nat} {l2 : Int32} {l3 : Int32} {l4 : Int32} {fs5 : List Value} (h6 : f l1 = .inr (12, fs5)) (h7 : l1 < n) (h8 : mi_W d 142 0 (mi_en 2 [.ref l1, .int l2]) [] (n, sl, f) (mi_Kc d 144 431 [some (.ref l1), some (.int l2), some (.int l3), some (.int l4)] [] Q)) : mi_W (d + 1) 144 429 [some (.ref l1), some (.int l2), some (.int l3), some (.int l4)] [] (n, sl, f) Q := by
  refine w_aload_n cd_144_429 rfl ?_
  refine w_iload_n cd_144_430 rfl ?_
  exact w_invokevirtual cd_144_431 (show mt_m 12 272 = some (142, 0) by decide +kernel) (rest := []) rfl (as := [.ref l1, .int l2]) rfl h6 (Or.inl h7) ⟨Nat.le_of_ble_eq_true rfl, Nat.le_of_ble_eq_true rfl, Nat.le_of_ble_eq_true rfl⟩ h8
theorem b_144_434 {d : Nat} {Q : (Option Value ⊕ Nat) → mi_H → Prop} (n sl : Nat) (f : Nat → mi_C) {l1 : Nat} {l2 : Int32} {l3 : Int32} {l4 : Int32} {s5 : Int32} (h6 : s5 = (0 : Int32) → mi_W d 144 441 [some (.ref l1), some (.int l2), some (.int l3), some (.int l4)] [] (n, sl, f) Q) (h7 : ¬ (s5 = (0 : Int32)) → mi_W d 144 437 [some (.ref l1), some (.int l2), some (.int l3), some (.int l4)] [] (n, sl, f) Q) : mi_W d 144 434 [some (.ref l1), some (.int l2), some (.int l3), some (.int l4)] [.int s5] (n, sl, f) Q := by
  exact w_ifeq cd_144_434 (by decide) h6 h7
theorem b_144_437 {d : Nat} {Q : (Option Value ⊕ Nat) → mi_H → Prop} (n sl : Nat) (f : Nat → mi_C) {l1 : Nat} {l2 : Int32} {l3 : Int32} {l4 : Int32} (h5 : mi_W d 144 442 [some (.ref l1), some (.int l2), some (.int l3), some (.int l4)] [.int 1] (n, sl, f) Q) : mi_W d 144 437 [some (.ref l1), some (.int l2), some (.int l3), some (.int l4)] [] (n, sl, f) Q := by
  refine w_iconst (v := 1) cd_144_437 (by decide) ?_
  exact w_goto cd_144_438 (by decide) h5
theorem b_144_441 {d : Nat} {Q : (Option Value ⊕ Nat) → mi_H → Prop} (n sl : Nat) (f : Nat → mi_C) {l1 : Nat} {l2 : Int32} {l3 : Int32} {l4 : Int32} (h5 : mi_W d 144 442 [some (.ref l1), some (.int l2), some (.int l3), some (.int l4)] [.int 0] (n, sl, f) Q) : mi_W d 144 441 [some (.ref l1), some (.int l2), some (.int l3), some (.int l4)] [] (n, sl, f) Q := by
  refine w_iconst (v := 0) cd_144_441 (by decide) ?_
  exact h5
theorem b_144_442 {d : Nat} {Q : (Option Value ⊕ Nat) → mi_H → Prop} (n sl : Nat) (f : Nat → mi_C) {l1 : Nat} {l2 : Int32} {l3 : Int32} {l4 : Int32} {s5 : Int32} (h6 : s5 = 0 ∨ s5 = 1) (h7 : Q (.inl (some (.int s5))) (n, sl, f)) : mi_W d 144 442 [some (.ref l1), some (.int l2), some (.int l3), some (.int l4)] [.int s5] (n, sl, f) Q := by
  exact w_ireturn_z cd_144_442 (by decide +kernel) h6 h7
/-! MarloweHostModel.c(I)I -/
set_option maxRecDepth 100000 in
theorem mq_145 : mt_q 145 = my_145 := rfl
set_option maxRecDepth 100000 in
theorem ci_145 : mt_inc 0 my_145.cd = true := by decide +kernel
theorem cd_145_0 : mt_cd 145 0 = some (.iload_n 1) := mt_cd_of (q := (0, .iload_n 1, 1)) mq_145 ci_145 (List.mem_of_getElem? (i := 0) rfl)
theorem cd_145_1 : mt_cd 145 1 = some (.aload_n 0) := mt_cd_of (q := (1, .aload_n 0, 1)) mq_145 ci_145 (List.mem_of_getElem? (i := 1) rfl)
theorem cd_145_2 : mt_cd 145 2 = some (.getfield 261) := mt_cd_of (q := (2, .getfield 261, 3)) mq_145 ci_145 (List.mem_of_getElem? (i := 2) rfl)
theorem cd_145_5 : mt_cd 145 5 = some (.if_icmp .ge 12) := mt_cd_of (q := (5, .if_icmp .ge 12, 3)) mq_145 ci_145 (List.mem_of_getElem? (i := 3) rfl)
theorem cd_145_8 : mt_cd 145 8 = some (.aload_n 0) := mt_cd_of (q := (8, .aload_n 0, 1)) mq_145 ci_145 (List.mem_of_getElem? (i := 4) rfl)
theorem cd_145_9 : mt_cd 145 9 = some (.getfield 20) := mt_cd_of (q := (9, .getfield 20, 3)) mq_145 ci_145 (List.mem_of_getElem? (i := 5) rfl)
theorem cd_145_12 : mt_cd 145 12 = some (.iload_n 1) := mt_cd_of (q := (12, .iload_n 1, 1)) mq_145 ci_145 (List.mem_of_getElem? (i := 6) rfl)
theorem cd_145_13 : mt_cd 145 13 = some (.iaload) := mt_cd_of (q := (13, .iaload, 1)) mq_145 ci_145 (List.mem_of_getElem? (i := 7) rfl)
theorem cd_145_14 : mt_cd 145 14 = some (.goto 4) := mt_cd_of (q := (14, .goto 4, 3)) mq_145 ci_145 (List.mem_of_getElem? (i := 8) rfl)
theorem cd_145_17 : mt_cd 145 17 = some (.iconst 0) := mt_cd_of (q := (17, .iconst 0, 1)) mq_145 ci_145 (List.mem_of_getElem? (i := 9) rfl)
theorem cd_145_18 : mt_cd 145 18 = some (.ireturn) := mt_cd_of (q := (18, .ireturn, 1)) mq_145 ci_145 (List.mem_of_getElem? (i := 10) rfl)
theorem b_145_0 {d : Nat} {Q : (Option Value ⊕ Nat) → mi_H → Prop} (n sl : Nat) (f : Nat → mi_C) {l1 : Nat} {l2 : Int32} {fs3 : List Value} {x6 : Int32} (h4 : f l1 = .inr (12, fs3)) (h5 : l1 < n) (h7 : fs3[2]? = some (.int x6)) (h8 : x6 ≤ l2 → mi_W d 145 17 [some (.ref l1), some (.int l2)] [] (n, sl, f) Q) (h9 : ¬ (x6 ≤ l2) → mi_W d 145 8 [some (.ref l1), some (.int l2)] [] (n, sl, f) Q) : mi_W d 145 0 [some (.ref l1), some (.int l2)] [] (n, sl, f) Q := by
  refine w_iload_n cd_145_0 rfl ?_
  refine w_aload_n cd_145_1 rfl ?_
  refine w_getfield cd_145_2 (show mt_f 12 261 = some (12, 2) by decide +kernel) h4 h5 h7 ?_
  exact w_if_icmpge cd_145_5 (by decide) h8 h9
theorem b_145_8 {d : Nat} {Q : (Option Value ⊕ Nat) → mi_H → Prop} (n sl : Nat) (f : Nat → mi_C) {l1 : Nat} {l2 : Int32} {fs3 : List Value} {x6 : Nat} (m8 i8 : Nat) (g8 : Nat → Int32) (h4 : f l1 = .inr (12, fs3)) (h5 : l1 < n) (h7 : fs3[6]? = some (.ref x6)) (h9 : f x6 = .inl (0, m8, .inl g8)) (h10 : x6 < n ∨ x6 = mi_SC) (h11 : mi_ix l2 m8 i8) (h12 : mi_W d 145 18 [some (.ref l1), some (.int l2)] [.int (g8 i8)] (n, sl, f) Q) : mi_W d 145 8 [some (.ref l1), some (.int l2)] [] (n, sl, f) Q := by
  refine w_aload_n cd_145_8 rfl ?_
  refine w_getfield cd_145_9 (show mt_f 12 20 = some (12, 6) by decide +kernel) h4 h5 h7 ?_
  refine w_iload_n cd_145_12 rfl ?_
  refine w_iaload cd_145_13 h9 h10 h11 ?_
  exact w_goto cd_145_14 (by decide) h12
theorem b_145_17 {d : Nat} {Q : (Option Value ⊕ Nat) → mi_H → Prop} (n sl : Nat) (f : Nat → mi_C) {l1 : Nat} {l2 : Int32} (h3 : mi_W d 145 18 [some (.ref l1), some (.int l2)] [.int 0] (n, sl, f) Q) : mi_W d 145 17 [some (.ref l1), some (.int l2)] [] (n, sl, f) Q := by
  refine w_iconst (v := 0) cd_145_17 (by decide) ?_
  exact h3
theorem b_145_18 {d : Nat} {Q : (Option Value ⊕ Nat) → mi_H → Prop} (n sl : Nat) (f : Nat → mi_C) {l1 : Nat} {l2 : Int32} {s3 : Int32} (h4 : Q (.inl (some (.int s3))) (n, sl, f)) : mi_W d 145 18 [some (.ref l1), some (.int l2)] [.int s3] (n, sl, f) Q := by
  exact w_ireturn_i cd_145_18 (by decide +kernel) h4
/-! MarloweHostModel.isLetter(I)Z -/
set_option maxRecDepth 100000 in
theorem mq_146 : mt_q 146 = my_146 := rfl
set_option maxRecDepth 100000 in
theorem ci_146 : mt_inc 0 my_146.cd = true := by decide +kernel
theorem cd_146_0 : mt_cd 146 0 = some (.iload_n 0) := mt_cd_of (q := (0, .iload_n 0, 1)) mq_146 ci_146 (List.mem_of_getElem? (i := 0) rfl)
theorem cd_146_1 : mt_cd 146 1 = some (.i2l) := mt_cd_of (q := (1, .i2l, 1)) mq_146 ci_146 (List.mem_of_getElem? (i := 1) rfl)
theorem cd_146_2 : mt_cd 146 2 = some (.ldc2_w 285) := mt_cd_of (q := (2, .ldc2_w 285, 3)) mq_146 ci_146 (List.mem_of_getElem? (i := 2) rfl)
theorem cd_146_5 : mt_cd 146 5 = some (.ldc2_w 287) := mt_cd_of (q := (5, .ldc2_w 287, 3)) mq_146 ci_146 (List.mem_of_getElem? (i := 3) rfl)
theorem cd_146_8 : mt_cd 146 8 = some (.invokestatic 268) := mt_cd_of (q := (8, .invokestatic 268, 3)) mq_146 ci_146 (List.mem_of_getElem? (i := 4) rfl)
theorem cd_146_11 : mt_cd 146 11 = some (.ifCond .ne 23) := mt_cd_of (q := (11, .ifCond .ne 23, 3)) mq_146 ci_146 (List.mem_of_getElem? (i := 5) rfl)
theorem cd_146_14 : mt_cd 146 14 = some (.iload_n 0) := mt_cd_of (q := (14, .iload_n 0, 1)) mq_146 ci_146 (List.mem_of_getElem? (i := 6) rfl)
theorem cd_146_15 : mt_cd 146 15 = some (.i2l) := mt_cd_of (q := (15, .i2l, 1)) mq_146 ci_146 (List.mem_of_getElem? (i := 7) rfl)
theorem cd_146_16 : mt_cd 146 16 = some (.ldc2_w 289) := mt_cd_of (q := (16, .ldc2_w 289, 3)) mq_146 ci_146 (List.mem_of_getElem? (i := 8) rfl)
theorem cd_146_19 : mt_cd 146 19 = some (.ldc2_w 291) := mt_cd_of (q := (19, .ldc2_w 291, 3)) mq_146 ci_146 (List.mem_of_getElem? (i := 9) rfl)
theorem cd_146_22 : mt_cd 146 22 = some (.invokestatic 268) := mt_cd_of (q := (22, .invokestatic 268, 3)) mq_146 ci_146 (List.mem_of_getElem? (i := 10) rfl)
theorem cd_146_25 : mt_cd 146 25 = some (.ifCond .ne 9) := mt_cd_of (q := (25, .ifCond .ne 9, 3)) mq_146 ci_146 (List.mem_of_getElem? (i := 11) rfl)
theorem cd_146_28 : mt_cd 146 28 = some (.iload_n 0) := mt_cd_of (q := (28, .iload_n 0, 1)) mq_146 ci_146 (List.mem_of_getElem? (i := 12) rfl)
theorem cd_146_29 : mt_cd 146 29 = some (.bipush 95) := mt_cd_of (q := (29, .bipush 95, 2)) mq_146 ci_146 (List.mem_of_getElem? (i := 13) rfl)
theorem cd_146_31 : mt_cd 146 31 = some (.if_icmp .ne 7) := mt_cd_of (q := (31, .if_icmp .ne 7, 3)) mq_146 ci_146 (List.mem_of_getElem? (i := 14) rfl)
theorem cd_146_34 : mt_cd 146 34 = some (.iconst 1) := mt_cd_of (q := (34, .iconst 1, 1)) mq_146 ci_146 (List.mem_of_getElem? (i := 15) rfl)
theorem cd_146_35 : mt_cd 146 35 = some (.goto 4) := mt_cd_of (q := (35, .goto 4, 3)) mq_146 ci_146 (List.mem_of_getElem? (i := 16) rfl)
theorem cd_146_38 : mt_cd 146 38 = some (.iconst 0) := mt_cd_of (q := (38, .iconst 0, 1)) mq_146 ci_146 (List.mem_of_getElem? (i := 17) rfl)
theorem cd_146_39 : mt_cd 146 39 = some (.ireturn) := mt_cd_of (q := (39, .ireturn, 1)) mq_146 ci_146 (List.mem_of_getElem? (i := 18) rfl)
theorem b_146_0 {d : Nat} {Q : (Option Value ⊕ Nat) → mi_H → Prop} (n sl : Nat) (f : Nat → mi_C) {l1 : Int32} (h2 : mi_W d 141 0 (mi_en 6 [.long ((l1 : Int32).toInt64), .long 97, .long 122]) [] (n, sl, f) (mi_Kc d 146 8 [some (.int l1)] [] Q)) : mi_W (d + 1) 146 0 [some (.int l1)] [] (n, sl, f) Q := by
  refine w_iload_n cd_146_0 rfl ?_
  refine w_i2l cd_146_1 ?_
  refine w_ldc2_w (lv := 97) cd_146_2 (by decide +kernel) ?_
  refine w_ldc2_w (lv := 122) cd_146_5 (by decide +kernel) ?_
  exact w_invokestatic cd_146_8 (show mt_m 12 268 = some (141, 4) by decide +kernel) (by decide) (rest := []) rfl (as := [.long ((l1 : Int32).toInt64), .long 97, .long 122]) rfl ⟨Nat.le_of_ble_eq_true rfl, Nat.le_of_ble_eq_true rfl, Nat.le_of_ble_eq_true rfl⟩ h2
theorem b_146_11 {d : Nat} {Q : (Option Value ⊕ Nat) → mi_H → Prop} (n sl : Nat) (f : Nat → mi_C) {l1 : Int32} {s2 : Int32} (h3 : ¬ s2 = (0 : Int32) → mi_W d 146 34 [some (.int l1)] [] (n, sl, f) Q) (h4 : ¬ (¬ s2 = (0 : Int32)) → mi_W d 146 14 [some (.int l1)] [] (n, sl, f) Q) : mi_W d 146 11 [some (.int l1)] [.int s2] (n, sl, f) Q := by
  exact w_ifne cd_146_11 (by decide) h3 h4
theorem b_146_14 {d : Nat} {Q : (Option Value ⊕ Nat) → mi_H → Prop} (n sl : Nat) (f : Nat → mi_C) {l1 : Int32} (h2 : mi_W d 141 0 (mi_en 6 [.long ((l1 : Int32).toInt64), .long 65, .long 90]) [] (n, sl, f) (mi_Kc d 146 22 [some (.int l1)] [] Q)) : mi_W (d + 1) 146 14 [some (.int l1)] [] (n, sl, f) Q := by
  refine w_iload_n cd_146_14 rfl ?_
  refine w_i2l cd_146_15 ?_
  refine w_ldc2_w (lv := 65) cd_146_16 (by decide +kernel) ?_
  refine w_ldc2_w (lv := 90) cd_146_19 (by decide +kernel) ?_
  exact w_invokestatic cd_146_22 (show mt_m 12 268 = some (141, 4) by decide +kernel) (by decide) (rest := []) rfl (as := [.long ((l1 : Int32).toInt64), .long 65, .long 90]) rfl ⟨Nat.le_of_ble_eq_true rfl, Nat.le_of_ble_eq_true rfl, Nat.le_of_ble_eq_true rfl⟩ h2
theorem b_146_25 {d : Nat} {Q : (Option Value ⊕ Nat) → mi_H → Prop} (n sl : Nat) (f : Nat → mi_C) {l1 : Int32} {s2 : Int32} (h3 : ¬ s2 = (0 : Int32) → mi_W d 146 34 [some (.int l1)] [] (n, sl, f) Q) (h4 : ¬ (¬ s2 = (0 : Int32)) → mi_W d 146 28 [some (.int l1)] [] (n, sl, f) Q) : mi_W d 146 25 [some (.int l1)] [.int s2] (n, sl, f) Q := by
  exact w_ifne cd_146_25 (by decide) h3 h4
theorem b_146_28 {d : Nat} {Q : (Option Value ⊕ Nat) → mi_H → Prop} (n sl : Nat) (f : Nat → mi_C) {l1 : Int32} (h2 : ¬ l1 = 95 → mi_W d 146 38 [some (.int l1)] [] (n, sl, f) Q) (h3 : ¬ (¬ l1 = 95) → mi_W d 146 34 [some (.int l1)] [] (n, sl, f) Q) : mi_W d 146 28 [some (.int l1)] [] (n, sl, f) Q := by
  refine w_iload_n cd_146_28 rfl ?_
  refine w_bipush (v := 95) cd_146_29 (by decide) ?_
  exact w_if_icmpne cd_146_31 (by decide) h2 h3
theorem b_146_34 {d : Nat} {Q : (Option Value ⊕ Nat) → mi_H → Prop} (n sl : Nat) (f : Nat → mi_C) {l1 : Int32} (h2 : mi_W d 146 39 [some (.int l1)] [.int 1] (n, sl, f) Q) : mi_W d 146 34 [some (.int l1)] [] (n, sl, f) Q := by
  refine w_iconst (v := 1) cd_146_34 (by decide) ?_
  exact w_goto cd_146_35 (by decide) h2
theorem b_146_38 {d : Nat} {Q : (Option Value ⊕ Nat) → mi_H → Prop} (n sl : Nat) (f : Nat → mi_C) {l1 : Int32} (h2 : mi_W d 146 39 [some (.int l1)] [.int 0] (n, sl, f) Q) : mi_W d 146 38 [some (.int l1)] [] (n, sl, f) Q := by
  refine w_iconst (v := 0) cd_146_38 (by decide) ?_
  exact h2
theorem b_146_39 {d : Nat} {Q : (Option Value ⊕ Nat) → mi_H → Prop} (n sl : Nat) (f : Nat → mi_C) {l1 : Int32} {s2 : Int32} (h3 : s2 = 0 ∨ s2 = 1) (h4 : Q (.inl (some (.int s2))) (n, sl, f)) : mi_W d 146 39 [some (.int l1)] [.int s2] (n, sl, f) Q := by
  exact w_ireturn_z cd_146_39 (by decide +kernel) h3 h4
/-! MarloweHostModel.isDigit(I)Z -/
set_option maxRecDepth 100000 in
theorem mq_147 : mt_q 147 = my_147 := rfl
set_option maxRecDepth 100000 in
theorem ci_147 : mt_inc 0 my_147.cd = true := by decide +kernel
theorem cd_147_0 : mt_cd 147 0 = some (.iload_n 0) := mt_cd_of (q := (0, .iload_n 0, 1)) mq_147 ci_147 (List.mem_of_getElem? (i := 0) rfl)
theorem cd_147_1 : mt_cd 147 1 = some (.i2l) := mt_cd_of (q := (1, .i2l, 1)) mq_147 ci_147 (List.mem_of_getElem? (i := 1) rfl)
theorem cd_147_2 : mt_cd 147 2 = some (.ldc2_w 293) := mt_cd_of (q := (2, .ldc2_w 293, 3)) mq_147 ci_147 (List.mem_of_getElem? (i := 2) rfl)
theorem cd_147_5 : mt_cd 147 5 = some (.ldc2_w 295) := mt_cd_of (q := (5, .ldc2_w 295, 3)) mq_147 ci_147 (List.mem_of_getElem? (i := 3) rfl)
theorem cd_147_8 : mt_cd 147 8 = some (.invokestatic 268) := mt_cd_of (q := (8, .invokestatic 268, 3)) mq_147 ci_147 (List.mem_of_getElem? (i := 4) rfl)
theorem cd_147_11 : mt_cd 147 11 = some (.ireturn) := mt_cd_of (q := (11, .ireturn, 1)) mq_147 ci_147 (List.mem_of_getElem? (i := 5) rfl)
theorem b_147_0 {d : Nat} {Q : (Option Value ⊕ Nat) → mi_H → Prop} (n sl : Nat) (f : Nat → mi_C) {l1 : Int32} (h2 : mi_W d 141 0 (mi_en 6 [.long ((l1 : Int32).toInt64), .long 48, .long 57]) [] (n, sl, f) (mi_Kc d 147 8 [some (.int l1)] [] Q)) : mi_W (d + 1) 147 0 [some (.int l1)] [] (n, sl, f) Q := by
  refine w_iload_n cd_147_0 rfl ?_
  refine w_i2l cd_147_1 ?_
  refine w_ldc2_w (lv := 48) cd_147_2 (by decide +kernel) ?_
  refine w_ldc2_w (lv := 57) cd_147_5 (by decide +kernel) ?_
  exact w_invokestatic cd_147_8 (show mt_m 12 268 = some (141, 4) by decide +kernel) (by decide) (rest := []) rfl (as := [.long ((l1 : Int32).toInt64), .long 48, .long 57]) rfl ⟨Nat.le_of_ble_eq_true rfl, Nat.le_of_ble_eq_true rfl, Nat.le_of_ble_eq_true rfl⟩ h2
theorem b_147_11 {d : Nat} {Q : (Option Value ⊕ Nat) → mi_H → Prop} (n sl : Nat) (f : Nat → mi_C) {l1 : Int32} {s2 : Int32} (h3 : s2 = 0 ∨ s2 = 1) (h4 : Q (.inl (some (.int s2))) (n, sl, f)) : mi_W d 147 11 [some (.int l1)] [.int s2] (n, sl, f) Q := by
  exact w_ireturn_z cd_147_11 (by decide +kernel) h3 h4
/-! MarloweHostModel.is(Ljava/lang/String;)Z -/
set_option maxRecDepth 100000 in
theorem mq_148 : mt_q 148 = my_148 := rfl
set_option maxRecDepth 100000 in
theorem ci_148 : mt_inc 0 my_148.cd = true := by decide +kernel
theorem cd_148_0 : mt_cd 148 0 = some (.aload_n 0) := mt_cd_of (q := (0, .aload_n 0, 1)) mq_148 ci_148 (List.mem_of_getElem? (i := 0) rfl)
theorem cd_148_1 : mt_cd 148 1 = some (.getfield 297) := mt_cd_of (q := (1, .getfield 297, 3)) mq_148 ci_148 (List.mem_of_getElem? (i := 1) rfl)
theorem cd_148_4 : mt_cd 148 4 = some (.aload_n 0) := mt_cd_of (q := (4, .aload_n 0, 1)) mq_148 ci_148 (List.mem_of_getElem? (i := 2) rfl)
theorem cd_148_5 : mt_cd 148 5 = some (.getfield 299) := mt_cd_of (q := (5, .getfield 299, 3)) mq_148 ci_148 (List.mem_of_getElem? (i := 3) rfl)
theorem cd_148_8 : mt_cd 148 8 = some (.isub) := mt_cd_of (q := (8, .isub, 1)) mq_148 ci_148 (List.mem_of_getElem? (i := 4) rfl)
theorem cd_148_9 : mt_cd 148 9 = some (.aload_n 1) := mt_cd_of (q := (9, .aload_n 1, 1)) mq_148 ci_148 (List.mem_of_getElem? (i := 5) rfl)
theorem cd_148_10 : mt_cd 148 10 = some (.invokevirtual 302) := mt_cd_of (q := (10, .invokevirtual 302, 3)) mq_148 ci_148 (List.mem_of_getElem? (i := 6) rfl)
theorem cd_148_13 : mt_cd 148 13 = some (.if_icmp .eq 5) := mt_cd_of (q := (13, .if_icmp .eq 5, 3)) mq_148 ci_148 (List.mem_of_getElem? (i := 7) rfl)
theorem cd_148_16 : mt_cd 148 16 = some (.iconst 0) := mt_cd_of (q := (16, .iconst 0, 1)) mq_148 ci_148 (List.mem_of_getElem? (i := 8) rfl)
theorem cd_148_17 : mt_cd 148 17 = some (.ireturn) := mt_cd_of (q := (17, .ireturn, 1)) mq_148 ci_148 (List.mem_of_getElem? (i := 9) rfl)
theorem cd_148_18 : mt_cd 148 18 = some (.iconst 0) := mt_cd_of (q := (18, .iconst 0, 1)) mq_148 ci_148 (List.mem_of_getElem? (i := 10) rfl)
theorem cd_148_19 : mt_cd 148 19 = some (.istore_n 2) := mt_cd_of (q := (19, .istore_n 2, 1)) mq_148 ci_148 (List.mem_of_getElem? (i := 11) rfl)
theorem cd_148_20 : mt_cd 148 20 = some (.iload_n 2) := mt_cd_of (q := (20, .iload_n 2, 1)) mq_148 ci_148 (List.mem_of_getElem? (i := 12) rfl)
theorem cd_148_21 : mt_cd 148 21 = some (.aload_n 1) := mt_cd_of (q := (21, .aload_n 1, 1)) mq_148 ci_148 (List.mem_of_getElem? (i := 13) rfl)
theorem cd_148_22 : mt_cd 148 22 = some (.invokevirtual 302) := mt_cd_of (q := (22, .invokevirtual 302, 3)) mq_148 ci_148 (List.mem_of_getElem? (i := 14) rfl)
theorem cd_148_25 : mt_cd 148 25 = some (.if_icmp .ge 30) := mt_cd_of (q := (25, .if_icmp .ge 30, 3)) mq_148 ci_148 (List.mem_of_getElem? (i := 15) rfl)
theorem cd_148_28 : mt_cd 148 28 = some (.aload_n 0) := mt_cd_of (q := (28, .aload_n 0, 1)) mq_148 ci_148 (List.mem_of_getElem? (i := 16) rfl)
theorem cd_148_29 : mt_cd 148 29 = some (.getfield 20) := mt_cd_of (q := (29, .getfield 20, 3)) mq_148 ci_148 (List.mem_of_getElem? (i := 17) rfl)
theorem cd_148_32 : mt_cd 148 32 = some (.aload_n 0) := mt_cd_of (q := (32, .aload_n 0, 1)) mq_148 ci_148 (List.mem_of_getElem? (i := 18) rfl)
theorem cd_148_33 : mt_cd 148 33 = some (.getfield 299) := mt_cd_of (q := (33, .getfield 299, 3)) mq_148 ci_148 (List.mem_of_getElem? (i := 19) rfl)
theorem cd_148_36 : mt_cd 148 36 = some (.iload_n 2) := mt_cd_of (q := (36, .iload_n 2, 1)) mq_148 ci_148 (List.mem_of_getElem? (i := 20) rfl)
theorem cd_148_37 : mt_cd 148 37 = some (.iadd) := mt_cd_of (q := (37, .iadd, 1)) mq_148 ci_148 (List.mem_of_getElem? (i := 21) rfl)
theorem cd_148_38 : mt_cd 148 38 = some (.iaload) := mt_cd_of (q := (38, .iaload, 1)) mq_148 ci_148 (List.mem_of_getElem? (i := 22) rfl)
theorem cd_148_39 : mt_cd 148 39 = some (.aload_n 1) := mt_cd_of (q := (39, .aload_n 1, 1)) mq_148 ci_148 (List.mem_of_getElem? (i := 23) rfl)
theorem cd_148_40 : mt_cd 148 40 = some (.iload_n 2) := mt_cd_of (q := (40, .iload_n 2, 1)) mq_148 ci_148 (List.mem_of_getElem? (i := 24) rfl)
theorem cd_148_41 : mt_cd 148 41 = some (.invokevirtual 306) := mt_cd_of (q := (41, .invokevirtual 306, 3)) mq_148 ci_148 (List.mem_of_getElem? (i := 25) rfl)
theorem cd_148_44 : mt_cd 148 44 = some (.if_icmp .eq 5) := mt_cd_of (q := (44, .if_icmp .eq 5, 3)) mq_148 ci_148 (List.mem_of_getElem? (i := 26) rfl)
theorem cd_148_47 : mt_cd 148 47 = some (.iconst 0) := mt_cd_of (q := (47, .iconst 0, 1)) mq_148 ci_148 (List.mem_of_getElem? (i := 27) rfl)
theorem cd_148_48 : mt_cd 148 48 = some (.ireturn) := mt_cd_of (q := (48, .ireturn, 1)) mq_148 ci_148 (List.mem_of_getElem? (i := 28) rfl)
theorem cd_148_49 : mt_cd 148 49 = some (.iinc 2 1) := mt_cd_of (q := (49, .iinc 2 1, 3)) mq_148 ci_148 (List.mem_of_getElem? (i := 29) rfl)
theorem cd_148_52 : mt_cd 148 52 = some (.goto (-32)) := mt_cd_of (q := (52, .goto (-32), 3)) mq_148 ci_148 (List.mem_of_getElem? (i := 30) rfl)
theorem cd_148_55 : mt_cd 148 55 = some (.iconst 1) := mt_cd_of (q := (55, .iconst 1, 1)) mq_148 ci_148 (List.mem_of_getElem? (i := 31) rfl)
theorem cd_148_56 : mt_cd 148 56 = some (.ireturn) := mt_cd_of (q := (56, .ireturn, 1)) mq_148 ci_148 (List.mem_of_getElem? (i := 32) rfl)
theorem b_148_0 {d : Nat} {Q : (Option Value ⊕ Nat) → mi_H → Prop} (n sl : Nat) (f : Nat → mi_C) {l1 : Nat} {l2 : Nat} {o3 : Option Value} {fs4 : List Value} {x7 : Int32} {fs9 : List Value} {x12 : Int32} {fs14 : List Value} (h5 : f l1 = .inr (12, fs4)) (h6 : l1 < n) (h8 : fs4[10]? = some (.int x7)) (h10 : f l1 = .inr (12, fs9)) (h11 : l1 < n) (h13 : fs9[9]? = some (.int x12)) (h15 : f l2 = .inr (17, fs14)) (h16 : l2 < n) (h17 : mi_W d 149 0 (mi_en 1 [.ref l2]) [] (n, sl, f) (mi_Kc d 148 10 [some (.ref l1), some (.ref l2), o3] [.int (x7 - x12)] Q)) : mi_W (d + 1) 148 0 [some (.ref l1), some (.ref l2), o3] [] (n, sl, f) Q := by
  refine w_aload_n cd_148_0 rfl ?_
  refine w_getfield cd_148_1 (show mt_f 12 297 = some (12, 10) by decide +kernel) h5 h6 h8 ?_
  refine w_aload_n cd_148_4 rfl ?_
  refine w_getfield cd_148_5 (show mt_f 12 299 = some (12, 9) by decide +kernel) h10 h11 h13 ?_
  refine w_isub cd_148_8 ?_
  refine w_aload_n cd_148_9 rfl ?_
  exact w_invokevirtual cd_148_10 (show mt_m 12 302 = some (149, 0) by decide +kernel) (rest := [.int (x7 - x12)]) rfl (as := [.ref l2]) rfl h15 (Or.inl h16) ⟨Nat.le_of_ble_eq_true rfl, Nat.le_of_ble_eq_true rfl, Nat.le_of_ble_eq_true rfl⟩ h17
theorem b_148_13 {d : Nat} {Q : (Option Value ⊕ Nat) → mi_H → Prop} (n sl : Nat) (f : Nat → mi_C) {l1 : Nat} {l2 : Nat} {o3 : Option Value} {s4 : Int32} {s5 : Int32} (h6 : s5 = s4 → mi_W d 148 18 [some (.ref l1), some (.ref l2), o3] [] (n, sl, f) Q) (h7 : ¬ (s5 = s4) → mi_W d 148 16 [some (.ref l1), some (.ref l2), o3] [] (n, sl, f) Q) : mi_W d 148 13 [some (.ref l1), some (.ref l2), o3] [.int s4, .int s5] (n, sl, f) Q := by
  exact w_if_icmpeq cd_148_13 (by decide) h6 h7
theorem b_148_16 {d : Nat} {Q : (Option Value ⊕ Nat) → mi_H → Prop} (n sl : Nat) (f : Nat → mi_C) {l1 : Nat} {l2 : Nat} {o3 : Option Value} (h4 : Q (.inl (some (.int 0))) (n, sl, f)) : mi_W d 148 16 [some (.ref l1), some (.ref l2), o3] [] (n, sl, f) Q := by
  refine w_iconst (v := 0) cd_148_16 (by decide) ?_
  exact w_ireturn_z cd_148_17 (by decide +kernel) (by decide) h4
theorem b_148_18 {d : Nat} {Q : (Option Value ⊕ Nat) → mi_H → Prop} (n sl : Nat) (f : Nat → mi_C) {l1 : Nat} {l2 : Nat} {o3 : Option Value} (h4 : mi_W d 148 20 [some (.ref l1), some (.ref l2), some (.int 0)] [] (n, sl, f) Q) : mi_W d 148 18 [some (.ref l1), some (.ref l2), o3] [] (n, sl, f) Q := by
  refine w_iconst (v := 0) cd_148_18 (by decide) ?_
  refine w_istore_n (ls' := [some (.ref l1), some (.ref l2), some (.int 0)]) cd_148_19 (Nat.le_of_ble_eq_true rfl) rfl ?_
  exact h4
theorem b_148_20 {d : Nat} {Q : (Option Value ⊕ Nat) → mi_H → Prop} (n sl : Nat) (f : Nat → mi_C) {l1 : Nat} {l2 : Nat} {l3 : Int32} {fs4 : List Value} (h5 : f l2 = .inr (17, fs4)) (h6 : l2 < n) (h7 : mi_W d 149 0 (mi_en 1 [.ref l2]) [] (n, sl, f) (mi_Kc d 148 22 [some (.ref l1), some (.ref l2), some (.int l3)] [.int l3] Q)) : mi_W (d + 1) 148 20 [some (.ref l1), some (.ref l2), some (.int l3)] [] (n, sl, f) Q := by
  refine w_iload_n cd_148_20 rfl ?_
  refine w_aload_n cd_148_21 rfl ?_
  exact w_invokevirtual cd_148_22 (show mt_m 12 302 = some (149, 0) by decide +kernel) (rest := [.int l3]) rfl (as := [.ref l2]) rfl h5 (Or.inl h6) ⟨Nat.le_of_ble_eq_true rfl, Nat.le_of_ble_eq_true rfl, Nat.le_of_ble_eq_true rfl⟩ h7
theorem b_148_25 {d : Nat} {Q : (Option Value ⊕ Nat) → mi_H → Prop} (n sl : Nat) (f : Nat → mi_C) {l1 : Nat} {l2 : Nat} {l3 : Int32} {s4 : Int32} {s5 : Int32} (h6 : s4 ≤ s5 → mi_W d 148 55 [some (.ref l1), some (.ref l2), some (.int l3)] [] (n, sl, f) Q) (h7 : ¬ (s4 ≤ s5) → mi_W d 148 28 [some (.ref l1), some (.ref l2), some (.int l3)] [] (n, sl, f) Q) : mi_W d 148 25 [some (.ref l1), some (.ref l2), some (.int l3)] [.int s4, .int s5] (n, sl, f) Q := by
  exact w_if_icmpge cd_148_25 (by decide) h6 h7
theorem b_148_28 {d : Nat} {Q : (Option Value ⊕ Nat) → mi_H → Prop} (n sl : Nat) (f : Nat → mi_C) {l1 : Nat} {l2 : Nat} {l3 : Int32} {fs4 : List Value} {x7 : Nat} {fs9 : List Value} {x12 : Int32} (m14 i14 : Nat) (g14 : Nat → Int32) {fs18 : List Value} (h5 : f l1 = .inr (12, fs4)) (h6 : l1 < n) (h8 : fs4[6]? = some (.ref x7)) (h10 : f l1 = .inr (12, fs9)) (h11 : l1 < n) (h13 : fs9[9]? = some (.int x12)) (h15 : f x7 = .inl (0, m14, .inl g14)) (h16 : x7 < n ∨ x7 = mi_SC) (h17 : mi_ix (x12 + l3) m14 i14) (h19 : f l2 = .inr (17, fs18)) (h20 : l2 < n) (h21 : mi_W d 29 0 (mi_en 2 [.ref l2, .int l3]) [] (n, sl, f) (mi_Kc d 148 41 [some (.ref l1), some (.ref l2), some (.int l3)] [.int (g14 i14)] Q)) : mi_W (d + 1) 148 28 [some (.ref l1), some (.ref l2), some (.int l3)] [] (n, sl, f) Q := by
  refine w_aload_n cd_148_28 rfl ?_
  refine w_getfield cd_148_29 (show mt_f 12 20 = some (12, 6) by decide +kernel) h5 h6 h8 ?_
  refine w_aload_n cd_148_32 rfl ?_
  refine w_getfield cd_148_33 (show mt_f 12 299 = some (12, 9) by decide +kernel) h10 h11 h13 ?_
  refine w_iload_n cd_148_36 rfl ?_
  refine w_iadd cd_148_37 ?_
  refine w_iaload cd_148_38 h15 h16 h17 ?_
  refine w_aload_n cd_148_39 rfl ?_
  refine w_iload_n cd_148_40 rfl ?_
  exact w_invokevirtual cd_148_41 (show mt_m 12 306 = some (29, 0) by decide +kernel) (rest := [.int (g14 i14)]) rfl (as := [.ref l2, .int l3]) rfl h19 (Or.inl h20) ⟨Nat.le_of_ble_eq_true rfl, Nat.le_of_ble_eq_true rfl, Nat.le_of_ble_eq_true rfl⟩ h21
theorem b_148_44 {d : Nat} {Q : (Option Value ⊕ Nat) → mi_H → Prop} (n sl : Nat) (f : Nat → mi_C) {l1 : Nat} {l2 : Nat} {l3 : Int32} {s4 : Int32} {s5 : Int32} (h6 : s5 = s4 → mi_W d 148 49 [some (.ref l1), some (.ref l2), some (.int l3)] [] (n, sl, f) Q) (h7 : ¬ (s5 = s4) → mi_W d 148 47 [some (.ref l1), some (.ref l2), some (.int l3)] [] (n, sl, f) Q) : mi_W d 148 44 [some (.ref l1), some (.ref l2), some (.int l3)] [.int s4, .int s5] (n, sl, f) Q := by
  exact w_if_icmpeq cd_148_44 (by decide) h6 h7
theorem b_148_47 {d : Nat} {Q : (Option Value ⊕ Nat) → mi_H → Prop} (n sl : Nat) (f : Nat → mi_C) {l1 : Nat} {l2 : Nat} {l3 : Int32} (h4 : Q (.inl (some (.int 0))) (n, sl, f)) : mi_W d 148 47 [some (.ref l1), some (.ref l2), some (.int l3)] [] (n, sl, f) Q := by
  refine w_iconst (v := 0) cd_148_47 (by decide) ?_
  exact w_ireturn_z cd_148_48 (by decide +kernel) (by decide) h4
theorem b_148_49 {d : Nat} {Q : (Option Value ⊕ Nat) → mi_H → Prop} (n sl : Nat) (f : Nat → mi_C) {l1 : Nat} {l2 : Nat} {l3 : Int32} (h4 : mi_W d 148 20 [some (.ref l1), some (.ref l2), some (.int (l3 + 1))] [] (n, sl, f) Q) : mi_W d 148 49 [some (.ref l1), some (.ref l2), some (.int l3)] [] (n, sl, f) Q := by
  refine w_iinc (v := 1) (ls' := [some (.ref l1), some (.ref l2), some (.int (l3 + 1))]) cd_148_49 rfl (by decide) rfl ?_
  exact w_goto cd_148_52 (by decide) h4
theorem b_148_55 {d : Nat} {Q : (Option Value ⊕ Nat) → mi_H → Prop} (n sl : Nat) (f : Nat → mi_C) {l1 : Nat} {l2 : Nat} {l3 : Int32} (h4 : Q (.inl (some (.int 1))) (n, sl, f)) : mi_W d 148 55 [some (.ref l1), some (.ref l2), some (.int l3)] [] (n, sl, f) Q := by
  refine w_iconst (v := 1) cd_148_55 (by decide) ?_
  exact w_ireturn_z cd_148_56 (by decide +kernel) (by decide) h4
/-! MarloweHostModel.contract()I -/
set_option maxRecDepth 100000 in
theorem mq_151 : mt_q 151 = my_151 := rfl
set_option maxRecDepth 100000 in
theorem ci_151 : mt_inc 0 my_151.cd = true := by decide +kernel
theorem cd_151_0 : mt_cd 151 0 = some (.aload_n 0) := mt_cd_of (q := (0, .aload_n 0, 1)) mq_151 ci_151 (List.mem_append_left _ (show _ ∈ my_151_0 from List.mem_of_getElem? (i := 0) rfl))
theorem cd_151_1 : mt_cd 151 1 = some (.ldc_w 373) := mt_cd_of (q := (1, .ldc_w 373, 3)) mq_151 ci_151 (List.mem_append_left _ (show _ ∈ my_151_0 from List.mem_of_getElem? (i := 1) rfl))
theorem cd_151_4 : mt_cd 151 4 = some (.invokevirtual 375) := mt_cd_of (q := (4, .invokevirtual 375, 3)) mq_151 ci_151 (List.mem_append_left _ (show _ ∈ my_151_0 from List.mem_of_getElem? (i := 2) rfl))
theorem cd_151_7 : mt_cd 151 7 = some (.ifCond .eq 58) := mt_cd_of (q := (7, .ifCond .eq 58, 3)) mq_151 ci_151 (List.mem_append_left _ (show _ ∈ my_151_0 from List.mem_of_getElem? (i := 3) rfl))
theorem cd_151_10 : mt_cd 151 10 = some (.aload_n 0) := mt_cd_of (q := (10, .aload_n 0, 1)) mq_151 ci_151 (List.mem_append_left _ (show _ ∈ my_151_0 from List.mem_of_getElem? (i := 4) rfl))
theorem cd_151_11 : mt_cd 151 11 = some (.invokevirtual 378) := mt_cd_of (q := (11, .invokevirtual 378, 3)) mq_151 ci_151 (List.mem_append_left _ (show _ ∈ my_151_0 from List.mem_of_getElem? (i := 5) rfl))
theorem cd_151_14 : mt_cd 151 14 = some (.ifCond .eq 10) := mt_cd_of (q := (14, .ifCond .eq 10, 3)) mq_151 ci_151 (List.mem_append_left _ (show _ ∈ my_151_0 from List.mem_of_getElem? (i := 6) rfl))
theorem cd_151_17 : mt_cd 151 17 = some (.aload_n 0) := mt_cd_of (q := (17, .aload_n 0, 1)) mq_151 ci_151 (List.mem_append_left _ (show _ ∈ my_151_0 from List.mem_of_getElem? (i := 7) rfl))
theorem cd_151_18 : mt_cd 151 18 = some (.invokevirtual 333) := mt_cd_of (q := (18, .invokevirtual 333, 3)) mq_151 ci_151 (List.mem_append_left _ (show _ ∈ my_151_0 from List.mem_of_getElem? (i := 8) rfl))
theorem cd_151_21 : mt_cd 151 21 = some (.ifCond .ne 5) := mt_cd_of (q := (21, .ifCond .ne 5, 3)) mq_151 ci_151 (List.mem_append_left _ (show _ ∈ my_151_0 from List.mem_of_getElem? (i := 9) rfl))
theorem cd_151_24 : mt_cd 151 24 = some (.iconst (-1)) := mt_cd_of (q := (24, .iconst (-1), 1)) mq_151 ci_151 (List.mem_append_left _ (show _ ∈ my_151_0 from List.mem_of_getElem? (i := 10) rfl))
theorem cd_151_25 : mt_cd 151 25 = some (.ireturn) := mt_cd_of (q := (25, .ireturn, 1)) mq_151 ci_151 (List.mem_append_left _ (show _ ∈ my_151_0 from List.mem_of_getElem? (i := 11) rfl))
theorem cd_151_26 : mt_cd 151 26 = some (.aload_n 0) := mt_cd_of (q := (26, .aload_n 0, 1)) mq_151 ci_151 (List.mem_append_left _ (show _ ∈ my_151_0 from List.mem_of_getElem? (i := 12) rfl))
theorem cd_151_27 : mt_cd 151 27 = some (.invokevirtual 355) := mt_cd_of (q := (27, .invokevirtual 355, 3)) mq_151 ci_151 (List.mem_append_left _ (show _ ∈ my_151_0 from List.mem_of_getElem? (i := 13) rfl))
theorem cd_151_30 : mt_cd 151 30 = some (.istore_n 1) := mt_cd_of (q := (30, .istore_n 1, 1)) mq_151 ci_151 (List.mem_append_left _ (show _ ∈ my_151_0 from List.mem_of_getElem? (i := 14) rfl))
theorem cd_151_31 : mt_cd 151 31 = some (.aload_n 0) := mt_cd_of (q := (31, .aload_n 0, 1)) mq_151 ci_151 (List.mem_append_left _ (show _ ∈ my_151_0 from List.mem_of_getElem? (i := 15) rfl))
theorem cd_151_32 : mt_cd 151 32 = some (.dup) := mt_cd_of (q := (32, .dup, 1)) mq_151 ci_151 (List.mem_append_left _ (show _ ∈ my_151_0 from List.mem_of_getElem? (i := 16) rfl))
theorem cd_151_33 : mt_cd 151 33 = some (.getfield 337) := mt_cd_of (q := (33, .getfield 337, 3)) mq_151 ci_151 (List.mem_append_left _ (show _ ∈ my_151_0 from List.mem_of_getElem? (i := 17) rfl))
theorem cd_151_36 : mt_cd 151 36 = some (.iconst 1) := mt_cd_of (q := (36, .iconst 1, 1)) mq_151 ci_151 (List.mem_append_left _ (show _ ∈ my_151_0 from List.mem_of_getElem? (i := 18) rfl))
theorem cd_151_37 : mt_cd 151 37 = some (.isub) := mt_cd_of (q := (37, .isub, 1)) mq_151 ci_151 (List.mem_append_left _ (show _ ∈ my_151_0 from List.mem_of_getElem? (i := 19) rfl))
theorem cd_151_38 : mt_cd 151 38 = some (.putfield 337) := mt_cd_of (q := (38, .putfield 337, 3)) mq_151 ci_151 (List.mem_append_left _ (show _ ∈ my_151_0 from List.mem_of_getElem? (i := 20) rfl))
theorem cd_151_41 : mt_cd 151 41 = some (.iload_n 1) := mt_cd_of (q := (41, .iload_n 1, 1)) mq_151 ci_151 (List.mem_append_left _ (show _ ∈ my_151_0 from List.mem_of_getElem? (i := 21) rfl))
theorem cd_151_42 : mt_cd 151 42 = some (.ifCond .lt 21) := mt_cd_of (q := (42, .ifCond .lt 21, 3)) mq_151 ci_151 (List.mem_append_left _ (show _ ∈ my_151_0 from List.mem_of_getElem? (i := 22) rfl))
theorem cd_151_45 : mt_cd 151 45 = some (.aload_n 0) := mt_cd_of (q := (45, .aload_n 0, 1)) mq_151 ci_151 (List.mem_append_left _ (show _ ∈ my_151_0 from List.mem_of_getElem? (i := 23) rfl))
theorem cd_151_46 : mt_cd 151 46 = some (.aload_n 0) := mt_cd_of (q := (46, .aload_n 0, 1)) mq_151 ci_151 (List.mem_append_left _ (show _ ∈ my_151_0 from List.mem_of_getElem? (i := 24) rfl))
theorem cd_151_47 : mt_cd 151 47 = some (.ldc_w 381) := mt_cd_of (q := (47, .ldc_w 381, 3)) mq_151 ci_151 (List.mem_append_left _ (show _ ∈ my_151_0 from List.mem_of_getElem? (i := 25) rfl))
theorem cd_151_50 : mt_cd 151 50 = some (.invokevirtual 375) := mt_cd_of (q := (50, .invokevirtual 375, 3)) mq_151 ci_151 (List.mem_append_left _ (show _ ∈ my_151_0 from List.mem_of_getElem? (i := 26) rfl))
theorem cd_151_53 : mt_cd 151 53 = some (.invokevirtual 383) := mt_cd_of (q := (53, .invokevirtual 383, 3)) mq_151 ci_151 (List.mem_append_left _ (show _ ∈ my_151_0 from List.mem_of_getElem? (i := 27) rfl))
theorem cd_151_56 : mt_cd 151 56 = some (.ifCond .eq 7) := mt_cd_of (q := (56, .ifCond .eq 7, 3)) mq_151 ci_151 (List.mem_append_left _ (show _ ∈ my_151_0 from List.mem_of_getElem? (i := 28) rfl))
theorem cd_151_59 : mt_cd 151 59 = some (.iload_n 1) := mt_cd_of (q := (59, .iload_n 1, 1)) mq_151 ci_151 (List.mem_append_left _ (show _ ∈ my_151_0 from List.mem_of_getElem? (i := 29) rfl))
theorem cd_151_60 : mt_cd 151 60 = some (.goto 4) := mt_cd_of (q := (60, .goto 4, 3)) mq_151 ci_151 (List.mem_append_left _ (show _ ∈ my_151_0 from List.mem_of_getElem? (i := 30) rfl))
theorem cd_151_63 : mt_cd 151 63 = some (.iconst (-1)) := mt_cd_of (q := (63, .iconst (-1), 1)) mq_151 ci_151 (List.mem_append_left _ (show _ ∈ my_151_0 from List.mem_of_getElem? (i := 31) rfl))
theorem cd_151_64 : mt_cd 151 64 = some (.ireturn) := mt_cd_of (q := (64, .ireturn, 1)) mq_151 ci_151 (List.mem_append_left _ (show _ ∈ my_151_0 from List.mem_of_getElem? (i := 32) rfl))
theorem cd_151_65 : mt_cd 151 65 = some (.aload_n 0) := mt_cd_of (q := (65, .aload_n 0, 1)) mq_151 ci_151 (List.mem_append_left _ (show _ ∈ my_151_0 from List.mem_of_getElem? (i := 33) rfl))
theorem cd_151_66 : mt_cd 151 66 = some (.ldc 25) := mt_cd_of (q := (66, .ldc 25, 2)) mq_151 ci_151 (List.mem_append_left _ (show _ ∈ my_151_0 from List.mem_of_getElem? (i := 34) rfl))
theorem cd_151_68 : mt_cd 151 68 = some (.invokevirtual 387) := mt_cd_of (q := (68, .invokevirtual 387, 3)) mq_151 ci_151 (List.mem_append_left _ (show _ ∈ my_151_0 from List.mem_of_getElem? (i := 35) rfl))
theorem cd_151_71 : mt_cd 151 71 = some (.ifCond .eq 7) := mt_cd_of (q := (71, .ifCond .eq 7, 3)) mq_151 ci_151 (List.mem_append_left _ (show _ ∈ my_151_0 from List.mem_of_getElem? (i := 36) rfl))
theorem cd_151_74 : mt_cd 151 74 = some (.iconst 0) := mt_cd_of (q := (74, .iconst 0, 1)) mq_151 ci_151 (List.mem_append_left _ (show _ ∈ my_151_0 from List.mem_of_getElem? (i := 37) rfl))
theorem cd_151_75 : mt_cd 151 75 = some (.goto 70) := mt_cd_of (q := (75, .goto 70, 3)) mq_151 ci_151 (List.mem_append_left _ (show _ ∈ my_151_0 from List.mem_of_getElem? (i := 38) rfl))
theorem cd_151_78 : mt_cd 151 78 = some (.aload_n 0) := mt_cd_of (q := (78, .aload_n 0, 1)) mq_151 ci_151 (List.mem_append_left _ (show _ ∈ my_151_0 from List.mem_of_getElem? (i := 39) rfl))
theorem cd_151_79 : mt_cd 151 79 = some (.ldc 27) := mt_cd_of (q := (79, .ldc 27, 2)) mq_151 ci_151 (List.mem_append_left _ (show _ ∈ my_151_0 from List.mem_of_getElem? (i := 40) rfl))
theorem cd_151_81 : mt_cd 151 81 = some (.invokevirtual 387) := mt_cd_of (q := (81, .invokevirtual 387, 3)) mq_151 ci_151 (List.mem_append_left _ (show _ ∈ my_151_0 from List.mem_of_getElem? (i := 41) rfl))
theorem cd_151_84 : mt_cd 151 84 = some (.ifCond .eq 7) := mt_cd_of (q := (84, .ifCond .eq 7, 3)) mq_151 ci_151 (List.mem_append_left _ (show _ ∈ my_151_0 from List.mem_of_getElem? (i := 42) rfl))
theorem cd_151_87 : mt_cd 151 87 = some (.iconst 1) := mt_cd_of (q := (87, .iconst 1, 1)) mq_151 ci_151 (List.mem_append_left _ (show _ ∈ my_151_0 from List.mem_of_getElem? (i := 43) rfl))
theorem cd_151_88 : mt_cd 151 88 = some (.goto 57) := mt_cd_of (q := (88, .goto 57, 3)) mq_151 ci_151 (List.mem_append_left _ (show _ ∈ my_151_0 from List.mem_of_getElem? (i := 44) rfl))
theorem cd_151_91 : mt_cd 151 91 = some (.aload_n 0) := mt_cd_of (q := (91, .aload_n 0, 1)) mq_151 ci_151 (List.mem_append_left _ (show _ ∈ my_151_0 from List.mem_of_getElem? (i := 45) rfl))
theorem cd_151_92 : mt_cd 151 92 = some (.ldc 33) := mt_cd_of (q := (92, .ldc 33, 2)) mq_151 ci_151 (List.mem_append_left _ (show _ ∈ my_151_0 from List.mem_of_getElem? (i := 46) rfl))
theorem cd_151_94 : mt_cd 151 94 = some (.invokevirtual 387) := mt_cd_of (q := (94, .invokevirtual 387, 3)) mq_151 ci_151 (List.mem_append_left _ (show _ ∈ my_151_0 from List.mem_of_getElem? (i := 47) rfl))
theorem cd_151_97 : mt_cd 151 97 = some (.ifCond .eq 7) := mt_cd_of (q := (97, .ifCond .eq 7, 3)) mq_151 ci_151 (List.mem_append_left _ (show _ ∈ my_151_0 from List.mem_of_getElem? (i := 48) rfl))
theorem cd_151_100 : mt_cd 151 100 = some (.iconst 3) := mt_cd_of (q := (100, .iconst 3, 1)) mq_151 ci_151 (List.mem_append_left _ (show _ ∈ my_151_0 from List.mem_of_getElem? (i := 49) rfl))
theorem cd_151_101 : mt_cd 151 101 = some (.goto 44) := mt_cd_of (q := (101, .goto 44, 3)) mq_151 ci_151 (List.mem_append_left _ (show _ ∈ my_151_0 from List.mem_of_getElem? (i := 50) rfl))
theorem cd_151_104 : mt_cd 151 104 = some (.aload_n 0) := mt_cd_of (q := (104, .aload_n 0, 1)) mq_151 ci_151 (List.mem_append_left _ (show _ ∈ my_151_0 from List.mem_of_getElem? (i := 51) rfl))
theorem cd_151_105 : mt_cd 151 105 = some (.ldc 35) := mt_cd_of (q := (105, .ldc 35, 2)) mq_151 ci_151 (List.mem_append_left _ (show _ ∈ my_151_0 from List.mem_of_getElem? (i := 52) rfl))
theorem cd_151_107 : mt_cd 151 107 = some (.invokevirtual 387) := mt_cd_of (q := (107, .invokevirtual 387, 3)) mq_151 ci_151 (List.mem_append_left _ (show _ ∈ my_151_0 from List.mem_of_getElem? (i := 53) rfl))
theorem cd_151_110 : mt_cd 151 110 = some (.ifCond .eq 7) := mt_cd_of (q := (110, .ifCond .eq 7, 3)) mq_151 ci_151 (List.mem_append_left _ (show _ ∈ my_151_0 from List.mem_of_getElem? (i := 54) rfl))
theorem cd_151_113 : mt_cd 151 113 = some (.iconst 4) := mt_cd_of (q := (113, .iconst 4, 1)) mq_151 ci_151 (List.mem_append_left _ (show _ ∈ my_151_0 from List.mem_of_getElem? (i := 55) rfl))
theorem cd_151_114 : mt_cd 151 114 = some (.goto 31) := mt_cd_of (q := (114, .goto 31, 3)) mq_151 ci_151 (List.mem_append_left _ (show _ ∈ my_151_0 from List.mem_of_getElem? (i := 56) rfl))
theorem cd_151_117 : mt_cd 151 117 = some (.aload_n 0) := mt_cd_of (q := (117, .aload_n 0, 1)) mq_151 ci_151 (List.mem_append_left _ (show _ ∈ my_151_0 from List.mem_of_getElem? (i := 57) rfl))
theorem cd_151_118 : mt_cd 151 118 = some (.ldc 37) := mt_cd_of (q := (118, .ldc 37, 2)) mq_151 ci_151 (List.mem_append_left _ (show _ ∈ my_151_0 from List.mem_of_getElem? (i := 58) rfl))
theorem cd_151_120 : mt_cd 151 120 = some (.invokevirtual 387) := mt_cd_of (q := (120, .invokevirtual 387, 3)) mq_151 ci_151 (List.mem_append_left _ (show _ ∈ my_151_0 from List.mem_of_getElem? (i := 59) rfl))
theorem cd_151_123 : mt_cd 151 123 = some (.ifCond .eq 7) := mt_cd_of (q := (123, .ifCond .eq 7, 3)) mq_151 ci_151 (List.mem_append_right _ ((show _ ∈ my_151_1 from List.mem_of_getElem? (i := 0) rfl)))
theorem cd_151_126 : mt_cd 151 126 = some (.iconst 5) := mt_cd_of (q := (126, .iconst 5, 1)) mq_151 ci_151 (List.mem_append_right _ ((show _ ∈ my_151_1 from List.mem_of_getElem? (i := 1) rfl)))
theorem cd_151_127 : mt_cd 151 127 = some (.goto 18) := mt_cd_of (q := (127, .goto 18, 3)) mq_151 ci_151 (List.mem_append_right _ ((show _ ∈ my_151_1 from List.mem_of_getElem? (i := 2) rfl)))
theorem cd_151_130 : mt_cd 151 130 = some (.aload_n 0) := mt_cd_of (q := (130, .aload_n 0, 1)) mq_151 ci_151 (List.mem_append_right _ ((show _ ∈ my_151_1 from List.mem_of_getElem? (i := 3) rfl)))
theorem cd_151_131 : mt_cd 151 131 = some (.ldc 39) := mt_cd_of (q := (131, .ldc 39, 2)) mq_151 ci_151 (List.mem_append_right _ ((show _ ∈ my_151_1 from List.mem_of_getElem? (i := 4) rfl)))
theorem cd_151_133 : mt_cd 151 133 = some (.invokevirtual 387) := mt_cd_of (q := (133, .invokevirtual 387, 3)) mq_151 ci_151 (List.mem_append_right _ ((show _ ∈ my_151_1 from List.mem_of_getElem? (i := 5) rfl)))
theorem cd_151_136 : mt_cd 151 136 = some (.ifCond .eq 8) := mt_cd_of (q := (136, .ifCond .eq 8, 3)) mq_151 ci_151 (List.mem_append_right _ ((show _ ∈ my_151_1 from List.mem_of_getElem? (i := 6) rfl)))
theorem cd_151_139 : mt_cd 151 139 = some (.bipush 6) := mt_cd_of (q := (139, .bipush 6, 2)) mq_151 ci_151 (List.mem_append_right _ ((show _ ∈ my_151_1 from List.mem_of_getElem? (i := 7) rfl)))
theorem cd_151_141 : mt_cd 151 141 = some (.goto 4) := mt_cd_of (q := (141, .goto 4, 3)) mq_151 ci_151 (List.mem_append_right _ ((show _ ∈ my_151_1 from List.mem_of_getElem? (i := 8) rfl)))
theorem cd_151_144 : mt_cd 151 144 = some (.iconst (-1)) := mt_cd_of (q := (144, .iconst (-1), 1)) mq_151 ci_151 (List.mem_append_right _ ((show _ ∈ my_151_1 from List.mem_of_getElem? (i := 9) rfl)))
theorem cd_151_145 : mt_cd 151 145 = some (.istore_n 1) := mt_cd_of (q := (145, .istore_n 1, 1)) mq_151 ci_151 (List.mem_append_right _ ((show _ ∈ my_151_1 from List.mem_of_getElem? (i := 10) rfl)))
theorem cd_151_146 : mt_cd 151 146 = some (.iload_n 1) := mt_cd_of (q := (146, .iload_n 1, 1)) mq_151 ci_151 (List.mem_append_right _ ((show _ ∈ my_151_1 from List.mem_of_getElem? (i := 11) rfl)))
theorem cd_151_147 : mt_cd 151 147 = some (.ifCond .ge 14) := mt_cd_of (q := (147, .ifCond .ge 14, 3)) mq_151 ci_151 (List.mem_append_right _ ((show _ ∈ my_151_1 from List.mem_of_getElem? (i := 12) rfl)))
theorem cd_151_150 : mt_cd 151 150 = some (.aload_n 0) := mt_cd_of (q := (150, .aload_n 0, 1)) mq_151 ci_151 (List.mem_append_right _ ((show _ ∈ my_151_1 from List.mem_of_getElem? (i := 13) rfl)))
theorem cd_151_151 : mt_cd 151 151 = some (.aload_n 0) := mt_cd_of (q := (151, .aload_n 0, 1)) mq_151 ci_151 (List.mem_append_right _ ((show _ ∈ my_151_1 from List.mem_of_getElem? (i := 14) rfl)))
theorem cd_151_152 : mt_cd 151 152 = some (.getfield 299) := mt_cd_of (q := (152, .getfield 299, 3)) mq_151 ci_151 (List.mem_append_right _ ((show _ ∈ my_151_1 from List.mem_of_getElem? (i := 15) rfl)))
theorem cd_151_155 : mt_cd 151 155 = some (.invokevirtual 272) := mt_cd_of (q := (155, .invokevirtual 272, 3)) mq_151 ci_151 (List.mem_append_right _ ((show _ ∈ my_151_1 from List.mem_of_getElem? (i := 16) rfl)))
theorem cd_151_158 : mt_cd 151 158 = some (.pop) := mt_cd_of (q := (158, .pop, 1)) mq_151 ci_151 (List.mem_append_right _ ((show _ ∈ my_151_1 from List.mem_of_getElem? (i := 17) rfl)))
theorem cd_151_159 : mt_cd 151 159 = some (.iconst (-1)) := mt_cd_of (q := (159, .iconst (-1), 1)) mq_151 ci_151 (List.mem_append_right _ ((show _ ∈ my_151_1 from List.mem_of_getElem? (i := 18) rfl)))
theorem cd_151_160 : mt_cd 151 160 = some (.ireturn) := mt_cd_of (q := (160, .ireturn, 1)) mq_151 ci_151 (List.mem_append_right _ ((show _ ∈ my_151_1 from List.mem_of_getElem? (i := 19) rfl)))
theorem cd_151_161 : mt_cd 151 161 = some (.aload_n 0) := mt_cd_of (q := (161, .aload_n 0, 1)) mq_151 ci_151 (List.mem_append_right _ ((show _ ∈ my_151_1 from List.mem_of_getElem? (i := 20) rfl)))
theorem cd_151_162 : mt_cd 151 162 = some (.invokevirtual 378) := mt_cd_of (q := (162, .invokevirtual 378, 3)) mq_151 ci_151 (List.mem_append_right _ ((show _ ∈ my_151_1 from List.mem_of_getElem? (i := 21) rfl)))
theorem cd_151_165 : mt_cd 151 165 = some (.ifCond .ne 5) := mt_cd_of (q := (165, .ifCond .ne 5, 3)) mq_151 ci_151 (List.mem_append_right _ ((show _ ∈ my_151_1 from List.mem_of_getElem? (i := 22) rfl)))
theorem cd_151_168 : mt_cd 151 168 = some (.iconst (-1)) := mt_cd_of (q := (168, .iconst (-1), 1)) mq_151 ci_151 (List.mem_append_right _ ((show _ ∈ my_151_1 from List.mem_of_getElem? (i := 23) rfl)))
theorem cd_151_169 : mt_cd 151 169 = some (.ireturn) := mt_cd_of (q := (169, .ireturn, 1)) mq_151 ci_151 (List.mem_append_right _ ((show _ ∈ my_151_1 from List.mem_of_getElem? (i := 24) rfl)))
theorem cd_151_170 : mt_cd 151 170 = some (.aload_n 0) := mt_cd_of (q := (170, .aload_n 0, 1)) mq_151 ci_151 (List.mem_append_right _ ((show _ ∈ my_151_1 from List.mem_of_getElem? (i := 25) rfl)))
theorem cd_151_171 : mt_cd 151 171 = some (.iload_n 1) := mt_cd_of (q := (171, .iload_n 1, 1)) mq_151 ci_151 (List.mem_append_right _ ((show _ ∈ my_151_1 from List.mem_of_getElem? (i := 26) rfl)))
theorem cd_151_172 : mt_cd 151 172 = some (.invokevirtual 390) := mt_cd_of (q := (172, .invokevirtual 390, 3)) mq_151 ci_151 (List.mem_append_right _ ((show _ ∈ my_151_1 from List.mem_of_getElem? (i := 27) rfl)))
theorem cd_151_175 : mt_cd 151 175 = some (.istore_n 2) := mt_cd_of (q := (175, .istore_n 2, 1)) mq_151 ci_151 (List.mem_append_right _ ((show _ ∈ my_151_1 from List.mem_of_getElem? (i := 28) rfl)))
theorem cd_151_176 : mt_cd 151 176 = some (.iload_n 2) := mt_cd_of (q := (176, .iload_n 2, 1)) mq_151 ci_151 (List.mem_append_right _ ((show _ ∈ my_151_1 from List.mem_of_getElem? (i := 29) rfl)))
theorem cd_151_177 : mt_cd 151 177 = some (.ifCond .lt 22) := mt_cd_of (q := (177, .ifCond .lt 22, 3)) mq_151 ci_151 (List.mem_append_right _ ((show _ ∈ my_151_1 from List.mem_of_getElem? (i := 30) rfl)))
theorem cd_151_180 : mt_cd 151 180 = some (.aload_n 0) := mt_cd_of (q := (180, .aload_n 0, 1)) mq_151 ci_151 (List.mem_append_right _ ((show _ ∈ my_151_1 from List.mem_of_getElem? (i := 31) rfl)))
theorem cd_151_181 : mt_cd 151 181 = some (.invokevirtual 333) := mt_cd_of (q := (181, .invokevirtual 333, 3)) mq_151 ci_151 (List.mem_append_right _ ((show _ ∈ my_151_1 from List.mem_of_getElem? (i := 32) rfl)))
theorem cd_151_184 : mt_cd 151 184 = some (.ifCond .eq 15) := mt_cd_of (q := (184, .ifCond .eq 15, 3)) mq_151 ci_151 (List.mem_append_right _ ((show _ ∈ my_151_1 from List.mem_of_getElem? (i := 33) rfl)))
theorem cd_151_187 : mt_cd 151 187 = some (.aload_n 0) := mt_cd_of (q := (187, .aload_n 0, 1)) mq_151 ci_151 (List.mem_append_right _ ((show _ ∈ my_151_1 from List.mem_of_getElem? (i := 34) rfl)))
theorem cd_151_188 : mt_cd 151 188 = some (.iload_n 2) := mt_cd_of (q := (188, .iload_n 2, 1)) mq_151 ci_151 (List.mem_append_right _ ((show _ ∈ my_151_1 from List.mem_of_getElem? (i := 35) rfl)))
theorem cd_151_189 : mt_cd 151 189 = some (.invokevirtual 393) := mt_cd_of (q := (189, .invokevirtual 393, 3)) mq_151 ci_151 (List.mem_append_right _ ((show _ ∈ my_151_1 from List.mem_of_getElem? (i := 36) rfl)))
theorem cd_151_192 : mt_cd 151 192 = some (.ifCond .eq 7) := mt_cd_of (q := (192, .ifCond .eq 7, 3)) mq_151 ci_151 (List.mem_append_right _ ((show _ ∈ my_151_1 from List.mem_of_getElem? (i := 37) rfl)))
theorem cd_151_195 : mt_cd 151 195 = some (.iconst 1) := mt_cd_of (q := (195, .iconst 1, 1)) mq_151 ci_151 (List.mem_append_right _ ((show _ ∈ my_151_1 from List.mem_of_getElem? (i := 38) rfl)))
theorem cd_151_196 : mt_cd 151 196 = some (.goto 4) := mt_cd_of (q := (196, .goto 4, 3)) mq_151 ci_151 (List.mem_append_right _ ((show _ ∈ my_151_1 from List.mem_of_getElem? (i := 39) rfl)))
theorem cd_151_199 : mt_cd 151 199 = some (.iconst 0) := mt_cd_of (q := (199, .iconst 0, 1)) mq_151 ci_151 (List.mem_append_right _ ((show _ ∈ my_151_1 from List.mem_of_getElem? (i := 40) rfl)))
theorem cd_151_200 : mt_cd 151 200 = some (.istore_n 3) := mt_cd_of (q := (200, .istore_n 3, 1)) mq_151 ci_151 (List.mem_append_right _ ((show _ ∈ my_151_1 from List.mem_of_getElem? (i := 41) rfl)))
theorem cd_151_201 : mt_cd 151 201 = some (.aload_n 0) := mt_cd_of (q := (201, .aload_n 0, 1)) mq_151 ci_151 (List.mem_append_right _ ((show _ ∈ my_151_1 from List.mem_of_getElem? (i := 42) rfl)))
theorem cd_151_202 : mt_cd 151 202 = some (.dup) := mt_cd_of (q := (202, .dup, 1)) mq_151 ci_151 (List.mem_append_right _ ((show _ ∈ my_151_1 from List.mem_of_getElem? (i := 43) rfl)))
theorem cd_151_203 : mt_cd 151 203 = some (.getfield 337) := mt_cd_of (q := (203, .getfield 337, 3)) mq_151 ci_151 (List.mem_append_right _ ((show _ ∈ my_151_1 from List.mem_of_getElem? (i := 44) rfl)))
theorem cd_151_206 : mt_cd 151 206 = some (.iconst 1) := mt_cd_of (q := (206, .iconst 1, 1)) mq_151 ci_151 (List.mem_append_right _ ((show _ ∈ my_151_1 from List.mem_of_getElem? (i := 45) rfl)))
theorem cd_151_207 : mt_cd 151 207 = some (.isub) := mt_cd_of (q := (207, .isub, 1)) mq_151 ci_151 (List.mem_append_right _ ((show _ ∈ my_151_1 from List.mem_of_getElem? (i := 46) rfl)))
theorem cd_151_208 : mt_cd 151 208 = some (.putfield 337) := mt_cd_of (q := (208, .putfield 337, 3)) mq_151 ci_151 (List.mem_append_right _ ((show _ ∈ my_151_1 from List.mem_of_getElem? (i := 47) rfl)))
theorem cd_151_211 : mt_cd 151 211 = some (.iload_n 3) := mt_cd_of (q := (211, .iload_n 3, 1)) mq_151 ci_151 (List.mem_append_right _ ((show _ ∈ my_151_1 from List.mem_of_getElem? (i := 48) rfl)))
theorem cd_151_212 : mt_cd 151 212 = some (.ifCond .eq 7) := mt_cd_of (q := (212, .ifCond .eq 7, 3)) mq_151 ci_151 (List.mem_append_right _ ((show _ ∈ my_151_1 from List.mem_of_getElem? (i := 49) rfl)))
theorem cd_151_215 : mt_cd 151 215 = some (.iload_n 2) := mt_cd_of (q := (215, .iload_n 2, 1)) mq_151 ci_151 (List.mem_append_right _ ((show _ ∈ my_151_1 from List.mem_of_getElem? (i := 50) rfl)))
theorem cd_151_216 : mt_cd 151 216 = some (.goto 4) := mt_cd_of (q := (216, .goto 4, 3)) mq_151 ci_151 (List.mem_append_right _ ((show _ ∈ my_151_1 from List.mem_of_getElem? (i := 51) rfl)))
theorem cd_151_219 : mt_cd 151 219 = some (.iconst (-1)) := mt_cd_of (q := (219, .iconst (-1), 1)) mq_151 ci_151 (List.mem_append_right _ ((show _ ∈ my_151_1 from List.mem_of_getElem? (i := 52) rfl)))
theorem cd_151_220 : mt_cd 151 220 = some (.ireturn) := mt_cd_of (q := (220, .ireturn, 1)) mq_151 ci_151 (List.mem_append_right _ ((show _ ∈ my_151_1 from List.mem_of_getElem? (i := 53) rfl)))
theorem b_151_0 {d : Nat} {Q : (Option Value ⊕ Nat) → mi_H → Prop} (n sl : Nat) (f : Nat → mi_C) {l1 : Nat} {o2 : Option Value} {o3 : Option Value} {o4 : Option Value} {fs5 : List Value} (h6 : f l1 = .inr (12, fs5)) (h7 : l1 < n) (h8 : mi_W d 152 0 (mi_en 2 [.ref l1, .ref (mi_SC + 1 + 2 * 40)]) [] (n, sl, f) (mi_Kc d 151 4 [some (.ref l1), o2, o3, o4] [] Q)) : mi_W (d + 1) 151 0 [some (.ref l1), o2, o3, o4] [] (n, sl, f) Q := by
  refine w_aload_n cd_151_0 rfl ?_
  refine w_ldc_w (n := 40) cd_151_1 (by decide +kernel) ?_
  exact w_invokevirtual cd_151_4 (show mt_m 12 375 = some (152, 0) by decide +kernel) (rest := []) rfl (as := [.ref l1, .ref (mi_SC + 1 + 2 * 40)]) rfl h6 (Or.inl h7) ⟨Nat.le_of_ble_eq_true rfl, Nat.le_of_ble_eq_true rfl, Nat.le_of_ble_eq_true rfl⟩ h8
theorem b_151_7 {d : Nat} {Q : (Option Value ⊕ Nat) → mi_H → Prop} (n sl : Nat) (f : Nat → mi_C) {l1 : Nat} {o2 : Option Value} {o3 : Option Value} {o4 : Option Value} {s5 : Int32} (h6 : s5 = (0 : Int32) → mi_W d 151 65 [some (.ref l1), o2, o3, o4] [] (n, sl, f) Q) (h7 : ¬ (s5 = (0 : Int32)) → mi_W d 151 10 [some (.ref l1), o2, o3, o4] [] (n, sl, f) Q) : mi_W d 151 7 [some (.ref l1), o2, o3, o4] [.int s5] (n, sl, f) Q := by
  exact w_ifeq cd_151_7 (by decide) h6 h7
theorem b_151_10 {d : Nat} {Q : (Option Value ⊕ Nat) → mi_H → Prop} (n sl : Nat) (f : Nat → mi_C) {l1 : Nat} {o2 : Option Value} {o3 : Option Value} {o4 : Option Value} {fs5 : List Value} (h6 : f l1 = .inr (12, fs5)) (h7 : l1 < n) (h8 : mi_W d 153 0 (mi_en 1 [.ref l1]) [] (n, sl, f) (mi_Kc d 151 11 [some (.ref l1), o2, o3, o4] [] Q)) : mi_W (d + 1) 151 10 [some (.ref l1), o2, o3, o4] [] (n, sl, f) Q := by
  refine w_aload_n cd_151_10 rfl ?_
  exact w_invokevirtual cd_151_11 (show mt_m 12 378 = some (153, 0) by decide +kernel) (rest := []) rfl (as := [.ref l1]) rfl h6 (Or.inl h7) ⟨Nat.le_of_ble_eq_true rfl, Nat.le_of_ble_eq_true rfl, Nat.le_of_ble_eq_true rfl⟩ h8
theorem b_151_14 {d : Nat} {Q : (Option Value ⊕ Nat) → mi_H → Prop} (n sl : Nat) (f : Nat → mi_C) {l1 : Nat} {o2 : Option Value} {o3 : Option Value} {o4 : Option Value} {s5 : Int32} (h6 : s5 = (0 : Int32) → mi_W d 151 24 [some (.ref l1), o2, o3, o4] [] (n, sl, f) Q) (h7 : ¬ (s5 = (0 : Int32)) → mi_W d 151 17 [some (.ref l1), o2, o3, o4] [] (n, sl, f) Q) : mi_W d 151 14 [some (.ref l1), o2, o3, o4] [.int s5] (n, sl, f) Q := by
  exact w_ifeq cd_151_14 (by decide) h6 h7
theorem b_151_17 {d : Nat} {Q : (Option Value ⊕ Nat) → mi_H → Prop} (n sl : Nat) (f : Nat → mi_C) {l1 : Nat} {o2 : Option Value} {o3 : Option Value} {o4 : Option Value} {fs5 : List Value} (h6 : f l1 = .inr (12, fs5)) (h7 : l1 < n) (h8 : mi_W d 144 0 (mi_en 4 [.ref l1]) [] (n, sl, f) (mi_Kc d 151 18 [some (.ref l1), o2, o3, o4] [] Q)) : mi_W (d + 1) 151 17 [some (.ref l1), o2, o3, o4] [] (n, sl, f) Q := by
  refine w_aload_n cd_151_17 rfl ?_
  exact w_invokevirtual cd_151_18 (show mt_m 12 333 = some (144, 0) by decide +kernel) (rest := []) rfl (as := [.ref l1]) rfl h6 (Or.inl h7) ⟨Nat.le_of_ble_eq_true rfl, Nat.le_of_ble_eq_true rfl, Nat.le_of_ble_eq_true rfl⟩ h8
theorem b_151_21 {d : Nat} {Q : (Option Value ⊕ Nat) → mi_H → Prop} (n sl : Nat) (f : Nat → mi_C) {l1 : Nat} {o2 : Option Value} {o3 : Option Value} {o4 : Option Value} {s5 : Int32} (h6 : ¬ s5 = (0 : Int32) → mi_W d 151 26 [some (.ref l1), o2, o3, o4] [] (n, sl, f) Q) (h7 : ¬ (¬ s5 = (0 : Int32)) → mi_W d 151 24 [some (.ref l1), o2, o3, o4] [] (n, sl, f) Q) : mi_W d 151 21 [some (.ref l1), o2, o3, o4] [.int s5] (n, sl, f) Q := by
  exact w_ifne cd_151_21 (by decide) h6 h7
theorem b_151_24 {d : Nat} {Q : (Option Value ⊕ Nat) → mi_H → Prop} (n sl : Nat) (f : Nat → mi_C) {l1 : Nat} {o2 : Option Value} {o3 : Option Value} {o4 : Option Value} (h5 : Q (.inl (some (.int (-1)))) (n, sl, f)) : mi_W d 151 24 [some (.ref l1), o2, o3, o4] [] (n, sl, f) Q := by
  refine w_iconst (v := (-1)) cd_151_24 (by decide) ?_
  exact w_ireturn_i cd_151_25 (by decide +kernel) h5
theorem b_151_26 {d : Nat} {Q : (Option Value ⊕ Nat) → mi_H → Prop} (n sl : Nat) (f : Nat → mi_C) {l1 : Nat} {o2 : Option Value} {o3 : Option Value} {o4 : Option Value} {fs5 : List Value} (h6 : f l1 = .inr (12, fs5)) (h7 : l1 < n) (h8 : mi_W d 151 0 (mi_en 4 [.ref l1]) [] (n, sl, f) (mi_Kc d 151 27 [some (.ref l1), o2, o3, o4] [] Q)) : mi_W (d + 1) 151 26 [some (.ref l1), o2, o3, o4] [] (n, sl, f) Q := by
  refine w_aload_n cd_151_26 rfl ?_
  exact w_invokevirtual cd_151_27 (show mt_m 12 355 = some (151, 0) by decide +kernel) (rest := []) rfl (as := [.ref l1]) rfl h6 (Or.inl h7) ⟨Nat.le_of_ble_eq_true rfl, Nat.le_of_ble_eq_true rfl, Nat.le_of_ble_eq_true rfl⟩ h8
theorem b_151_30 {d : Nat} {Q : (Option Value ⊕ Nat) → mi_H → Prop} (n sl : Nat) (f : Nat → mi_C) {l1 : Nat} {o2 : Option Value} {o3 : Option Value} {o4 : Option Value} {s5 : Int32} {fs6 : List Value} {x9 : Int32} {fs11 : List Value} (h7 : f l1 = .inr (12, fs6)) (h8 : l1 < n) (h10 : fs6[22]? = some (.int x9)) (h12 : f l1 = .inr (12, fs11)) (h13 : l1 < n) (h14 : 22 < fs11.length) (h15 : s5 < (0 : Int32) → mi_W d 151 63 [some (.ref l1), some (.int s5), o3, o4] [] (n, sl, (va_up f l1 (.inr (12, fs11.set 22 (.int (x9 - 1)))))) Q) (h16 : ¬ (s5 < (0 : Int32)) → mi_W d 151 45 [some (.ref l1), some (.int s5), o3, o4] [] (n, sl, (va_up f l1 (.inr (12, fs11.set 22 (.int (x9 - 1)))))) Q) : mi_W d 151 30 [some (.ref l1), o2, o3, o4] [.int s5] (n, sl, f) Q := by
  refine w_istore_n (ls' := [some (.ref l1), some (.int s5), o3, o4]) cd_151_30 (Nat.le_of_ble_eq_true rfl) rfl ?_
  refine w_aload_n cd_151_31 rfl ?_
  refine w_dup_r cd_151_32 ?_
  refine w_getfield cd_151_33 (show mt_f 12 337 = some (12, 22) by decide +kernel) h7 h8 h10 ?_
  refine w_iconst (v := 1) cd_151_36 (by decide) ?_
  refine w_isub cd_151_37 ?_
  refine w_putfield (w := .int (x9 - 1)) cd_151_38 (show mt_f 12 337 = some (12, 22) by decide +kernel) h12 h13 ⟨h14, rfl, Or.inl (by decide)⟩ ?_
  refine w_iload_n cd_151_41 rfl ?_
  exact w_iflt cd_151_42 (by decide) h15 h16
theorem b_151_45 {d : Nat} {Q : (Option Value ⊕ Nat) → mi_H → Prop} (n sl : Nat) (f : Nat → mi_C) {l1 : Nat} {l2 : Int32} {o3 : Option Value} {o4 : Option Value} {fs5 : List Value} (h6 : f l1 = .inr (12, fs5)) (h7 : l1 < n) (h8 : mi_W d 152 0 (mi_en 2 [.ref l1, .ref (mi_SC + 1 + 2 * 41)]) [] (n, sl, f) (mi_Kc d 151 50 [some (.ref l1), some (.int l2), o3, o4] [.ref l1] Q)) : mi_W (d + 1) 151 45 [some (.ref l1), some (.int l2), o3, o4] [] (n, sl, f) Q := by
  refine w_aload_n cd_151_45 rfl ?_
  refine w_aload_n cd_151_46 rfl ?_
  refine w_ldc_w (n := 41) cd_151_47 (by decide +kernel) ?_
  exact w_invokevirtual cd_151_50 (show mt_m 12 375 = some (152, 0) by decide +kernel) (rest := [.ref l1]) rfl (as := [.ref l1, .ref (mi_SC + 1 + 2 * 41)]) rfl h6 (Or.inl h7) ⟨Nat.le_of_ble_eq_true rfl, Nat.le_of_ble_eq_true rfl, Nat.le_of_ble_eq_true rfl⟩ h8
theorem b_151_53 {d : Nat} {Q : (Option Value ⊕ Nat) → mi_H → Prop} (n sl : Nat) (f : Nat → mi_C) {l1 : Nat} {l2 : Int32} {o3 : Option Value} {o4 : Option Value} {s5 : Int32} {s6 : Nat} {fs7 : List Value} (h8 : f s6 = .inr (12, fs7)) (h9 : s6 < n) (h10 : mi_W d 154 0 (mi_en 2 [.ref s6, .int s5]) [] (n, sl, f) (mi_Kc d 151 53 [some (.ref l1), some (.int l2), o3, o4] [] Q)) : mi_W (d + 1) 151 53 [some (.ref l1), some (.int l2), o3, o4] [.int s5, .ref s6] (n, sl, f) Q := by
  exact w_invokevirtual cd_151_53 (show mt_m 12 383 = some (154, 0) by decide +kernel) (rest := []) rfl (as := [.ref s6, .int s5]) rfl h8 (Or.inl h9) ⟨Nat.le_of_ble_eq_true rfl, Nat.le_of_ble_eq_true rfl, Nat.le_of_ble_eq_true rfl⟩ h10
theorem b_151_56 {d : Nat} {Q : (Option Value ⊕ Nat) → mi_H → Prop} (n sl : Nat) (f : Nat → mi_C) {l1 : Nat} {l2 : Int32} {o3 : Option Value} {o4 : Option Value} {s5 : Int32} (h6 : s5 = (0 : Int32) → mi_W d 151 63 [some (.ref l1), some (.int l2), o3, o4] [] (n, sl, f) Q) (h7 : ¬ (s5 = (0 : Int32)) → mi_W d 151 59 [some (.ref l1), some (.int l2), o3, o4] [] (n, sl, f) Q) : mi_W d 151 56 [some (.ref l1), some (.int l2), o3, o4] [.int s5] (n, sl, f) Q := by
  exact w_ifeq cd_151_56 (by decide) h6 h7
theorem b_151_59 {d : Nat} {Q : (Option Value ⊕ Nat) → mi_H → Prop} (n sl : Nat) (f : Nat → mi_C) {l1 : Nat} {l2 : Int32} {o3 : Option Value} {o4 : Option Value} (h5 : mi_W d 151 64 [some (.ref l1), some (.int l2), o3, o4] [.int l2] (n, sl, f) Q) : mi_W d 151 59 [some (.ref l1), some (.int l2), o3, o4] [] (n, sl, f) Q := by
  refine w_iload_n cd_151_59 rfl ?_
  exact w_goto cd_151_60 (by decide) h5
theorem b_151_63 {d : Nat} {Q : (Option Value ⊕ Nat) → mi_H → Prop} (n sl : Nat) (f : Nat → mi_C) {l1 : Nat} {l2 : Int32} {o3 : Option Value} {o4 : Option Value} (h5 : mi_W d 151 64 [some (.ref l1), some (.int l2), o3, o4] [.int (-1)] (n, sl, f) Q) : mi_W d 151 63 [some (.ref l1), some (.int l2), o3, o4] [] (n, sl, f) Q := by
  refine w_iconst (v := (-1)) cd_151_63 (by decide) ?_
  exact h5
theorem b_151_64 {d : Nat} {Q : (Option Value ⊕ Nat) → mi_H → Prop} (n sl : Nat) (f : Nat → mi_C) {l1 : Nat} {l2 : Int32} {o3 : Option Value} {o4 : Option Value} {s5 : Int32} (h6 : Q (.inl (some (.int s5))) (n, sl, f)) : mi_W d 151 64 [some (.ref l1), some (.int l2), o3, o4] [.int s5] (n, sl, f) Q := by
  exact w_ireturn_i cd_151_64 (by decide +kernel) h6
theorem b_151_65 {d : Nat} {Q : (Option Value ⊕ Nat) → mi_H → Prop} (n sl : Nat) (f : Nat → mi_C) {l1 : Nat} {o2 : Option Value} {o3 : Option Value} {o4 : Option Value} {fs5 : List Value} (h6 : f l1 = .inr (12, fs5)) (h7 : l1 < n) (h8 : mi_W d 155 0 (mi_en 2 [.ref l1, .ref (mi_SC + 1 + 2 * 16)]) [] (n, sl, f) (mi_Kc d 151 68 [some (.ref l1), o2, o3, o4] [] Q)) : mi_W (d + 1) 151 65 [some (.ref l1), o2, o3, o4] [] (n, sl, f) Q := by
  refine w_aload_n cd_151_65 rfl ?_
  refine w_ldc (n := 16) cd_151_66 (by decide +kernel) ?_
  exact w_invokevirtual cd_151_68 (show mt_m 12 387 = some (155, 0) by decide +kernel) (rest := []) rfl (as := [.ref l1, .ref (mi_SC + 1 + 2 * 16)]) rfl h6 (Or.inl h7) ⟨Nat.le_of_ble_eq_true rfl, Nat.le_of_ble_eq_true rfl, Nat.le_of_ble_eq_true rfl⟩ h8
theorem b_151_71 {d : Nat} {Q : (Option Value ⊕ Nat) → mi_H → Prop} (n sl : Nat) (f : Nat → mi_C) {l1 : Nat} {o2 : Option Value} {o3 : Option Value} {o4 : Option Value} {s5 : Int32} (h6 : s5 = (0 : Int32) → mi_W d 151 78 [some (.ref l1), o2, o3, o4] [] (n, sl, f) Q) (h7 : ¬ (s5 = (0 : Int32)) → mi_W d 151 74 [some (.ref l1), o2, o3, o4] [] (n, sl, f) Q) : mi_W d 151 71 [some (.ref l1), o2, o3, o4] [.int s5] (n, sl, f) Q := by
  exact w_ifeq cd_151_71 (by decide) h6 h7
theorem b_151_74 {d : Nat} {Q : (Option Value ⊕ Nat) → mi_H → Prop} (n sl : Nat) (f : Nat → mi_C) {l1 : Nat} {o2 : Option Value} {o3 : Option Value} {o4 : Option Value} (h5 : mi_W d 151 145 [some (.ref l1), o2, o3, o4] [.int 0] (n, sl, f) Q) : mi_W d 151 74 [some (.ref l1), o2, o3, o4] [] (n, sl, f) Q := by
  refine w_iconst (v := 0) cd_151_74 (by decide) ?_
  exact w_goto cd_151_75 (by decide) h5
theorem b_151_78 {d : Nat} {Q : (Option Value ⊕ Nat) → mi_H → Prop} (n sl : Nat) (f : Nat → mi_C) {l1 : Nat} {o2 : Option Value} {o3 : Option Value} {o4 : Option Value} {fs5 : List Value} (h6 : f l1 = .inr (12, fs5)) (h7 : l1 < n) (h8 : mi_W d 155 0 (mi_en 2 [.ref l1, .ref (mi_SC + 1 + 2 * 17)]) [] (n, sl, f) (mi_Kc d 151 81 [some (.ref l1), o2, o3, o4] [] Q)) : mi_W (d + 1) 151 78 [some (.ref l1), o2, o3, o4] [] (n, sl, f) Q := by
  refine w_aload_n cd_151_78 rfl ?_
  refine w_ldc (n := 17) cd_151_79 (by decide +kernel) ?_
  exact w_invokevirtual cd_151_81 (show mt_m 12 387 = some (155, 0) by decide +kernel) (rest := []) rfl (as := [.ref l1, .ref (mi_SC + 1 + 2 * 17)]) rfl h6 (Or.inl h7) ⟨Nat.le_of_ble_eq_true rfl, Nat.le_of_ble_eq_true rfl, Nat.le_of_ble_eq_true rfl⟩ h8
theorem b_151_84 {d : Nat} {Q : (Option Value ⊕ Nat) → mi_H → Prop} (n sl : Nat) (f : Nat → mi_C) {l1 : Nat} {o2 : Option Value} {o3 : Option Value} {o4 : Option Value} {s5 : Int32} (h6 : s5 = (0 : Int32) → mi_W d 151 91 [some (.ref l1), o2, o3, o4] [] (n, sl, f) Q) (h7 : ¬ (s5 = (0 : Int32)) → mi_W d 151 87 [some (.ref l1), o2, o3, o4] [] (n, sl, f) Q) : mi_W d 151 84 [some (.ref l1), o2, o3, o4] [.int s5] (n, sl, f) Q := by
  exact w_ifeq cd_151_84 (by decide) h6 h7
theorem b_151_87 {d : Nat} {Q : (Option Value ⊕ Nat) → mi_H → Prop} (n sl : Nat) (f : Nat → mi_C) {l1 : Nat} {o2 : Option Value} {o3 : Option Value} {o4 : Option Value} (h5 : mi_W d 151 145 [some (.ref l1), o2, o3, o4] [.int 1] (n, sl, f) Q) : mi_W d 151 87 [some (.ref l1), o2, o3, o4] [] (n, sl, f) Q := by
  refine w_iconst (v := 1) cd_151_87 (by decide) ?_
  exact w_goto cd_151_88 (by decide) h5
theorem b_151_91 {d : Nat} {Q : (Option Value ⊕ Nat) → mi_H → Prop} (n sl : Nat) (f : Nat → mi_C) {l1 : Nat} {o2 : Option Value} {o3 : Option Value} {o4 : Option Value} {fs5 : List Value} (h6 : f l1 = .inr (12, fs5)) (h7 : l1 < n) (h8 : mi_W d 155 0 (mi_en 2 [.ref l1, .ref (mi_SC + 1 + 2 * 20)]) [] (n, sl, f) (mi_Kc d 151 94 [some (.ref l1), o2, o3, o4] [] Q)) : mi_W (d + 1) 151 91 [some (.ref l1), o2, o3, o4] [] (n, sl, f) Q := by
  refine w_aload_n cd_151_91 rfl ?_
  refine w_ldc (n := 20) cd_151_92 (by decide +kernel) ?_
  exact w_invokevirtual cd_151_94 (show mt_m 12 387 = some (155, 0) by decide +kernel) (rest := []) rfl (as := [.ref l1, .ref (mi_SC + 1 + 2 * 20)]) rfl h6 (Or.inl h7) ⟨Nat.le_of_ble_eq_true rfl, Nat.le_of_ble_eq_true rfl, Nat.le_of_ble_eq_true rfl⟩ h8
theorem b_151_97 {d : Nat} {Q : (Option Value ⊕ Nat) → mi_H → Prop} (n sl : Nat) (f : Nat → mi_C) {l1 : Nat} {o2 : Option Value} {o3 : Option Value} {o4 : Option Value} {s5 : Int32} (h6 : s5 = (0 : Int32) → mi_W d 151 104 [some (.ref l1), o2, o3, o4] [] (n, sl, f) Q) (h7 : ¬ (s5 = (0 : Int32)) → mi_W d 151 100 [some (.ref l1), o2, o3, o4] [] (n, sl, f) Q) : mi_W d 151 97 [some (.ref l1), o2, o3, o4] [.int s5] (n, sl, f) Q := by
  exact w_ifeq cd_151_97 (by decide) h6 h7
theorem b_151_100 {d : Nat} {Q : (Option Value ⊕ Nat) → mi_H → Prop} (n sl : Nat) (f : Nat → mi_C) {l1 : Nat} {o2 : Option Value} {o3 : Option Value} {o4 : Option Value} (h5 : mi_W d 151 145 [some (.ref l1), o2, o3, o4] [.int 3] (n, sl, f) Q) : mi_W d 151 100 [some (.ref l1), o2, o3, o4] [] (n, sl, f) Q := by
  refine w_iconst (v := 3) cd_151_100 (by decide) ?_
  exact w_goto cd_151_101 (by decide) h5
theorem b_151_104 {d : Nat} {Q : (Option Value ⊕ Nat) → mi_H → Prop} (n sl : Nat) (f : Nat → mi_C) {l1 : Nat} {o2 : Option Value} {o3 : Option Value} {o4 : Option Value} {fs5 : List Value} (h6 : f l1 = .inr (12, fs5)) (h7 : l1 < n) (h8 : mi_W d 155 0 (mi_en 2 [.ref l1, .ref (mi_SC + 1 + 2 * 21)]) [] (n, sl, f) (mi_Kc d 151 107 [some (.ref l1), o2, o3, o4] [] Q)) : mi_W (d + 1) 151 104 [some (.ref l1), o2, o3, o4] [] (n, sl, f) Q := by
  refine w_aload_n cd_151_104 rfl ?_
  refine w_ldc (n := 21) cd_151_105 (by decide +kernel) ?_
  exact w_invokevirtual cd_151_107 (show mt_m 12 387 = some (155, 0) by decide +kernel) (rest := []) rfl (as := [.ref l1, .ref (mi_SC + 1 + 2 * 21)]) rfl h6 (Or.inl h7) ⟨Nat.le_of_ble_eq_true rfl, Nat.le_of_ble_eq_true rfl, Nat.le_of_ble_eq_true rfl⟩ h8
theorem b_151_110 {d : Nat} {Q : (Option Value ⊕ Nat) → mi_H → Prop} (n sl : Nat) (f : Nat → mi_C) {l1 : Nat} {o2 : Option Value} {o3 : Option Value} {o4 : Option Value} {s5 : Int32} (h6 : s5 = (0 : Int32) → mi_W d 151 117 [some (.ref l1), o2, o3, o4] [] (n, sl, f) Q) (h7 : ¬ (s5 = (0 : Int32)) → mi_W d 151 113 [some (.ref l1), o2, o3, o4] [] (n, sl, f) Q) : mi_W d 151 110 [some (.ref l1), o2, o3, o4] [.int s5] (n, sl, f) Q := by
  exact w_ifeq cd_151_110 (by decide) h6 h7
theorem b_151_113 {d : Nat} {Q : (Option Value ⊕ Nat) → mi_H → Prop} (n sl : Nat) (f : Nat → mi_C) {l1 : Nat} {o2 : Option Value} {o3 : Option Value} {o4 : Option Value} (h5 : mi_W d 151 145 [some (.ref l1), o2, o3, o4] [.int 4] (n, sl, f) Q) : mi_W d 151 113 [some (.ref l1), o2, o3, o4] [] (n, sl, f) Q := by
  refine w_iconst (v := 4) cd_151_113 (by decide) ?_
  exact w_goto cd_151_114 (by decide) h5
theorem b_151_117 {d : Nat} {Q : (Option Value ⊕ Nat) → mi_H → Prop} (n sl : Nat) (f : Nat → mi_C) {l1 : Nat} {o2 : Option Value} {o3 : Option Value} {o4 : Option Value} {fs5 : List Value} (h6 : f l1 = .inr (12, fs5)) (h7 : l1 < n) (h8 : mi_W d 155 0 (mi_en 2 [.ref l1, .ref (mi_SC + 1 + 2 * 22)]) [] (n, sl, f) (mi_Kc d 151 120 [some (.ref l1), o2, o3, o4] [] Q)) : mi_W (d + 1) 151 117 [some (.ref l1), o2, o3, o4] [] (n, sl, f) Q := by
  refine w_aload_n cd_151_117 rfl ?_
  refine w_ldc (n := 22) cd_151_118 (by decide +kernel) ?_
  exact w_invokevirtual cd_151_120 (show mt_m 12 387 = some (155, 0) by decide +kernel) (rest := []) rfl (as := [.ref l1, .ref (mi_SC + 1 + 2 * 22)]) rfl h6 (Or.inl h7) ⟨Nat.le_of_ble_eq_true rfl, Nat.le_of_ble_eq_true rfl, Nat.le_of_ble_eq_true rfl⟩ h8
theorem b_151_123 {d : Nat} {Q : (Option Value ⊕ Nat) → mi_H → Prop} (n sl : Nat) (f : Nat → mi_C) {l1 : Nat} {o2 : Option Value} {o3 : Option Value} {o4 : Option Value} {s5 : Int32} (h6 : s5 = (0 : Int32) → mi_W d 151 130 [some (.ref l1), o2, o3, o4] [] (n, sl, f) Q) (h7 : ¬ (s5 = (0 : Int32)) → mi_W d 151 126 [some (.ref l1), o2, o3, o4] [] (n, sl, f) Q) : mi_W d 151 123 [some (.ref l1), o2, o3, o4] [.int s5] (n, sl, f) Q := by
  exact w_ifeq cd_151_123 (by decide) h6 h7
theorem b_151_126 {d : Nat} {Q : (Option Value ⊕ Nat) → mi_H → Prop} (n sl : Nat) (f : Nat → mi_C) {l1 : Nat} {o2 : Option Value} {o3 : Option Value} {o4 : Option Value} (h5 : mi_W d 151 145 [some (.ref l1), o2, o3, o4] [.int 5] (n, sl, f) Q) : mi_W d 151 126 [some (.ref l1), o2, o3, o4] [] (n, sl, f) Q := by
  refine w_iconst (v := 5) cd_151_126 (by decide) ?_
  exact w_goto cd_151_127 (by decide) h5
theorem b_151_130 {d : Nat} {Q : (Option Value ⊕ Nat) → mi_H → Prop} (n sl : Nat) (f : Nat → mi_C) {l1 : Nat} {o2 : Option Value} {o3 : Option Value} {o4 : Option Value} {fs5 : List Value} (h6 : f l1 = .inr (12, fs5)) (h7 : l1 < n) (h8 : mi_W d 155 0 (mi_en 2 [.ref l1, .ref (mi_SC + 1 + 2 * 23)]) [] (n, sl, f) (mi_Kc d 151 133 [some (.ref l1), o2, o3, o4] [] Q)) : mi_W (d + 1) 151 130 [some (.ref l1), o2, o3, o4] [] (n, sl, f) Q := by
  refine w_aload_n cd_151_130 rfl ?_
  refine w_ldc (n := 23) cd_151_131 (by decide +kernel) ?_
  exact w_invokevirtual cd_151_133 (show mt_m 12 387 = some (155, 0) by decide +kernel) (rest := []) rfl (as := [.ref l1, .ref (mi_SC + 1 + 2 * 23)]) rfl h6 (Or.inl h7) ⟨Nat.le_of_ble_eq_true rfl, Nat.le_of_ble_eq_true rfl, Nat.le_of_ble_eq_true rfl⟩ h8
theorem b_151_136 {d : Nat} {Q : (Option Value ⊕ Nat) → mi_H → Prop} (n sl : Nat) (f : Nat → mi_C) {l1 : Nat} {o2 : Option Value} {o3 : Option Value} {o4 : Option Value} {s5 : Int32} (h6 : s5 = (0 : Int32) → mi_W d 151 144 [some (.ref l1), o2, o3, o4] [] (n, sl, f) Q) (h7 : ¬ (s5 = (0 : Int32)) → mi_W d 151 139 [some (.ref l1), o2, o3, o4] [] (n, sl, f) Q) : mi_W d 151 136 [some (.ref l1), o2, o3, o4] [.int s5] (n, sl, f) Q := by
  exact w_ifeq cd_151_136 (by decide) h6 h7
theorem b_151_139 {d : Nat} {Q : (Option Value ⊕ Nat) → mi_H → Prop} (n sl : Nat) (f : Nat → mi_C) {l1 : Nat} {o2 : Option Value} {o3 : Option Value} {o4 : Option Value} (h5 : mi_W d 151 145 [some (.ref l1), o2, o3, o4] [.int 6] (n, sl, f) Q) : mi_W d 151 139 [some (.ref l1), o2, o3, o4] [] (n, sl, f) Q := by
  refine w_bipush (v := 6) cd_151_139 (by decide) ?_
  exact w_goto cd_151_141 (by decide) h5
theorem b_151_144 {d : Nat} {Q : (Option Value ⊕ Nat) → mi_H → Prop} (n sl : Nat) (f : Nat → mi_C) {l1 : Nat} {o2 : Option Value} {o3 : Option Value} {o4 : Option Value} (h5 : mi_W d 151 145 [some (.ref l1), o2, o3, o4] [.int (-1)] (n, sl, f) Q) : mi_W d 151 144 [some (.ref l1), o2, o3, o4] [] (n, sl, f) Q := by
  refine w_iconst (v := (-1)) cd_151_144 (by decide) ?_
  exact h5
theorem b_151_145 {d : Nat} {Q : (Option Value ⊕ Nat) → mi_H → Prop} (n sl : Nat) (f : Nat → mi_C) {l1 : Nat} {o2 : Option Value} {o3 : Option Value} {o4 : Option Value} {s5 : Int32} (h6 : (0 : Int32) ≤ s5 → mi_W d 151 161 [some (.ref l1), some (.int s5), o3, o4] [] (n, sl, f) Q) (h7 : ¬ ((0 : Int32) ≤ s5) → mi_W d 151 150 [some (.ref l1), some (.int s5), o3, o4] [] (n, sl, f) Q) : mi_W d 151 145 [some (.ref l1), o2, o3, o4] [.int s5] (n, sl, f) Q := by
  refine w_istore_n (ls' := [some (.ref l1), some (.int s5), o3, o4]) cd_151_145 (Nat.le_of_ble_eq_true rfl) rfl ?_
  refine w_iload_n cd_151_146 rfl ?_
  exact w_ifge cd_151_147 (by decide) h6 h7
theorem b_151_150 {d : Nat} {Q : (Option Value ⊕ Nat) → mi_H → Prop} (n sl : Nat) (f : Nat → mi_C) {l1 : Nat} {l2 : Int32} {o3 : Option Value} {o4 : Option Value} {fs5 : List Value} {x8 : Int32} {fs10 : List Value} (h6 : f l1 = .inr (12, fs5)) (h7 : l1 < n) (h9 : fs5[9]? = some (.int x8)) (h11 : f l1 = .inr (12, fs10)) (h12 : l1 < n) (h13 : mi_W d 142 0 (mi_en 2 [.ref l1, .int x8]) [] (n, sl, f) (mi_Kc d 151 155 [some (.ref l1), some (.int l2), o3, o4] [] Q)) : mi_W (d + 1) 151 150 [some (.ref l1), some (.int l2), o3, o4] [] (n, sl, f) Q := by
  refine w_aload_n cd_151_150 rfl ?_
  refine w_aload_n cd_151_151 rfl ?_
  refine w_getfield cd_151_152 (show mt_f 12 299 = some (12, 9) by decide +kernel) h6 h7 h9 ?_
  exact w_invokevirtual cd_151_155 (show mt_m 12 272 = some (142, 0) by decide +kernel) (rest := []) rfl (as := [.ref l1, .int x8]) rfl h11 (Or.inl h12) ⟨Nat.le_of_ble_eq_true rfl, Nat.le_of_ble_eq_true rfl, Nat.le_of_ble_eq_true rfl⟩ h13
theorem b_151_158 {d : Nat} {Q : (Option Value ⊕ Nat) → mi_H → Prop} (n sl : Nat) (f : Nat → mi_C) {l1 : Nat} {l2 : Int32} {o3 : Option Value} {o4 : Option Value} {s5 : Int32} (h6 : Q (.inl (some (.int (-1)))) (n, sl, f)) : mi_W d 151 158 [some (.ref l1), some (.int l2), o3, o4] [.int s5] (n, sl, f) Q := by
  refine w_pop_i cd_151_158 ?_
  refine w_iconst (v := (-1)) cd_151_159 (by decide) ?_
  exact w_ireturn_i cd_151_160 (by decide +kernel) h6
theorem b_151_161 {d : Nat} {Q : (Option Value ⊕ Nat) → mi_H → Prop} (n sl : Nat) (f : Nat → mi_C) {l1 : Nat} {l2 : Int32} {o3 : Option Value} {o4 : Option Value} {fs5 : List Value} (h6 : f l1 = .inr (12, fs5)) (h7 : l1 < n) (h8 : mi_W d 153 0 (mi_en 1 [.ref l1]) [] (n, sl, f) (mi_Kc d 151 162 [some (.ref l1), some (.int l2), o3, o4] [] Q)) : mi_W (d + 1) 151 161 [some (.ref l1), some (.int l2), o3, o4] [] (n, sl, f) Q := by
  refine w_aload_n cd_151_161 rfl ?_
  exact w_invokevirtual cd_151_162 (show mt_m 12 378 = some (153, 0) by decide +kernel) (rest := []) rfl (as := [.ref l1]) rfl h6 (Or.inl h7) ⟨Nat.le_of_ble_eq_true rfl, Nat.le_of_ble_eq_true rfl, Nat.le_of_ble_eq_true rfl⟩ h8
theorem b_151_165 {d : Nat} {Q : (Option Value ⊕ Nat) → mi_H → Prop} (n sl : Nat) (f : Nat → mi_C) {l1 : Nat} {l2 : Int32} {o3 : Option Value} {o4 : Option Value} {s5 : Int32} (h6 : ¬ s5 = (0 : Int32) → mi_W d 151 170 [some (.ref l1), some (.int l2), o3, o4] [] (n, sl, f) Q) (h7 : ¬ (¬ s5 = (0 : Int32)) → mi_W d 151 168 [some (.ref l1), some (.int l2), o3, o4] [] (n, sl, f) Q) : mi_W d 151 165 [some (.ref l1), some (.int l2), o3, o4] [.int s5] (n, sl, f) Q := by
  exact w_ifne cd_151_165 (by decide) h6 h7
theorem b_151_168 {d : Nat} {Q : (Option Value ⊕ Nat) → mi_H → Prop} (n sl : Nat) (f : Nat → mi_C) {l1 : Nat} {l2 : Int32} {o3 : Option Value} {o4 : Option Value} (h5 : Q (.inl (some (.int (-1)))) (n, sl, f)) : mi_W d 151 168 [some (.ref l1), some (.int l2), o3, o4] [] (n, sl, f) Q := by
  refine w_iconst (v := (-1)) cd_151_168 (by decide) ?_
  exact w_ireturn_i cd_151_169 (by decide +kernel) h5
theorem b_151_170 {d : Nat} {Q : (Option Value ⊕ Nat) → mi_H → Prop} (n sl : Nat) (f : Nat → mi_C) {l1 : Nat} {l2 : Int32} {o3 : Option Value} {o4 : Option Value} {fs5 : List Value} (h6 : f l1 = .inr (12, fs5)) (h7 : l1 < n) (h8 : mi_W d 156 0 (mi_en 2 [.ref l1, .int l2]) [] (n, sl, f) (mi_Kc d 151 172 [some (.ref l1), some (.int l2), o3, o4] [] Q)) : mi_W (d + 1) 151 170 [some (.ref l1), some (.int l2), o3, o4] [] (n, sl, f) Q := by
  refine w_aload_n cd_151_170 rfl ?_
  refine w_iload_n cd_151_171 rfl ?_
  exact w_invokevirtual cd_151_172 (show mt_m 12 390 = some (156, 0) by decide +kernel) (rest := []) rfl (as := [.ref l1, .int l2]) rfl h6 (Or.inl h7) ⟨Nat.le_of_ble_eq_true rfl, Nat.le_of_ble_eq_true rfl, Nat.le_of_ble_eq_true rfl⟩ h8
theorem b_151_175 {d : Nat} {Q : (Option Value ⊕ Nat) → mi_H → Prop} (n sl : Nat) (f : Nat → mi_C) {l1 : Nat} {l2 : Int32} {o3 : Option Value} {o4 : Option Value} {s5 : Int32} (h6 : s5 < (0 : Int32) → mi_W d 151 199 [some (.ref l1), some (.int l2), some (.int s5), o4] [] (n, sl, f) Q) (h7 : ¬ (s5 < (0 : Int32)) → mi_W d 151 180 [some (.ref l1), some (.int l2), some (.int s5), o4] [] (n, sl, f) Q) : mi_W d 151 175 [some (.ref l1), some (.int l2), o3, o4] [.int s5] (n, sl, f) Q := by
  refine w_istore_n (ls' := [some (.ref l1), some (.int l2), some (.int s5), o4]) cd_151_175 (Nat.le_of_ble_eq_true rfl) rfl ?_
  refine w_iload_n cd_151_176 rfl ?_
  exact w_iflt cd_151_177 (by decide) h6 h7
theorem b_151_180 {d : Nat} {Q : (Option Value ⊕ Nat) → mi_H → Prop} (n sl : Nat) (f : Nat → mi_C) {l1 : Nat} {l2 : Int32} {l3 : Int32} {o4 : Option Value} {fs5 : List Value} (h6 : f l1 = .inr (12, fs5)) (h7 : l1 < n) (h8 : mi_W d 144 0 (mi_en 4 [.ref l1]) [] (n, sl, f) (mi_Kc d 151 181 [some (.ref l1), some (.int l2), some (.int l3), o4] [] Q)) : mi_W (d + 1) 151 180 [some (.ref l1), some (.int l2), some (.int l3), o4] [] (n, sl, f) Q := by
  refine w_aload_n cd_151_180 rfl ?_
  exact w_invokevirtual cd_151_181 (show mt_m 12 333 = some (144, 0) by decide +kernel) (rest := []) rfl (as := [.ref l1]) rfl h6 (Or.inl h7) ⟨Nat.le_of_ble_eq_true rfl, Nat.le_of_ble_eq_true rfl, Nat.le_of_ble_eq_true rfl⟩ h8
theorem b_151_184 {d : Nat} {Q : (Option Value ⊕ Nat) → mi_H → Prop} (n sl : Nat) (f : Nat → mi_C) {l1 : Nat} {l2 : Int32} {l3 : Int32} {o4 : Option Value} {s5 : Int32} (h6 : s5 = (0 : Int32) → mi_W d 151 199 [some (.ref l1), some (.int l2), some (.int l3), o4] [] (n, sl, f) Q) (h7 : ¬ (s5 = (0 : Int32)) → mi_W d 151 187 [some (.ref l1), some (.int l2), some (.int l3), o4] [] (n, sl, f) Q) : mi_W d 151 184 [some (.ref l1), some (.int l2), some (.int l3), o4] [.int s5] (n, sl, f) Q := by
  exact w_ifeq cd_151_184 (by decide) h6 h7
theorem b_151_187 {d : Nat} {Q : (Option Value ⊕ Nat) → mi_H → Prop} (n sl : Nat) (f : Nat → mi_C) {l1 : Nat} {l2 : Int32} {l3 : Int32} {o4 : Option Value} {fs5 : List Value} (h6 : f l1 = .inr (12, fs5)) (h7 : l1 < n) (h8 : mi_W d 157 0 (mi_en 2 [.ref l1, .int l3]) [] (n, sl, f) (mi_Kc d 151 189 [some (.ref l1), some (.int l2), some (.int l3), o4] [] Q)) : mi_W (d + 1) 151 187 [some (.ref l1), some (.int l2), some (.int l3), o4] [] (n, sl, f) Q := by
  refine w_aload_n cd_151_187 rfl ?_
  refine w_iload_n cd_151_188 rfl ?_
  exact w_invokevirtual cd_151_189 (show mt_m 12 393 = some (157, 0) by decide +kernel) (rest := []) rfl (as := [.ref l1, .int l3]) rfl h6 (Or.inl h7) ⟨Nat.le_of_ble_eq_true rfl, Nat.le_of_ble_eq_true rfl, Nat.le_of_ble_eq_true rfl⟩ h8
theorem b_151_192 {d : Nat} {Q : (Option Value ⊕ Nat) → mi_H → Prop} (n sl : Nat) (f : Nat → mi_C) {l1 : Nat} {l2 : Int32} {l3 : Int32} {o4 : Option Value} {s5 : Int32} (h6 : s5 = (0 : Int32) → mi_W d 151 199 [some (.ref l1), some (.int l2), some (.int l3), o4] [] (n, sl, f) Q) (h7 : ¬ (s5 = (0 : Int32)) → mi_W d 151 195 [some (.ref l1), some (.int l2), some (.int l3), o4] [] (n, sl, f) Q) : mi_W d 151 192 [some (.ref l1), some (.int l2), some (.int l3), o4] [.int s5] (n, sl, f) Q := by
  exact w_ifeq cd_151_192 (by decide) h6 h7
theorem b_151_195 {d : Nat} {Q : (Option Value ⊕ Nat) → mi_H → Prop} (n sl : Nat) (f : Nat → mi_C) {l1 : Nat} {l2 : Int32} {l3 : Int32} {o4 : Option Value} (h5 : mi_W d 151 200 [some (.ref l1), some (.int l2), some (.int l3), o4] [.int 1] (n, sl, f) Q) : mi_W d 151 195 [some (.ref l1), some (.int l2), some (.int l3), o4] [] (n, sl, f) Q := by
  refine w_iconst (v := 1) cd_151_195 (by decide) ?_
  exact w_goto cd_151_196 (by decide) h5
theorem b_151_199 {d : Nat} {Q : (Option Value ⊕ Nat) → mi_H → Prop} (n sl : Nat) (f : Nat → mi_C) {l1 : Nat} {l2 : Int32} {l3 : Int32} {o4 : Option Value} (h5 : mi_W d 151 200 [some (.ref l1), some (.int l2), some (.int l3), o4] [.int 0] (n, sl, f) Q) : mi_W d 151 199 [some (.ref l1), some (.int l2), some (.int l3), o4] [] (n, sl, f) Q := by
  refine w_iconst (v := 0) cd_151_199 (by decide) ?_
  exact h5
theorem b_151_200 {d : Nat} {Q : (Option Value ⊕ Nat) → mi_H → Prop} (n sl : Nat) (f : Nat → mi_C) {l1 : Nat} {l2 : Int32} {l3 : Int32} {o4 : Option Value} {s5 : Int32} {fs6 : List Value} {x9 : Int32} {fs11 : List Value} (h7 : f l1 = .inr (12, fs6)) (h8 : l1 < n) (h10 : fs6[22]? = some (.int x9)) (h12 : f l1 = .inr (12, fs11)) (h13 : l1 < n) (h14 : 22 < fs11.length) (h15 : s5 = (0 : Int32) → mi_W d 151 219 [some (.ref l1), some (.int l2), some (.int l3), some (.int s5)] [] (n, sl, (va_up f l1 (.inr (12, fs11.set 22 (.int (x9 - 1)))))) Q) (h16 : ¬ (s5 = (0 : Int32)) → mi_W d 151 215 [some (.ref l1), some (.int l2), some (.int l3), some (.int s5)] [] (n, sl, (va_up f l1 (.inr (12, fs11.set 22 (.int (x9 - 1)))))) Q) : mi_W d 151 200 [some (.ref l1), some (.int l2), some (.int l3), o4] [.int s5] (n, sl, f) Q := by
  refine w_istore_n (ls' := [some (.ref l1), some (.int l2), some (.int l3), some (.int s5)]) cd_151_200 (Nat.le_of_ble_eq_true rfl) rfl ?_
  refine w_aload_n cd_151_201 rfl ?_
  refine w_dup_r cd_151_202 ?_
  refine w_getfield cd_151_203 (show mt_f 12 337 = some (12, 22) by decide +kernel) h7 h8 h10 ?_
  refine w_iconst (v := 1) cd_151_206 (by decide) ?_
  refine w_isub cd_151_207 ?_
  refine w_putfield (w := .int (x9 - 1)) cd_151_208 (show mt_f 12 337 = some (12, 22) by decide +kernel) h12 h13 ⟨h14, rfl, Or.inl (by decide)⟩ ?_
  refine w_iload_n cd_151_211 rfl ?_
  exact w_ifeq cd_151_212 (by decide) h15 h16
theorem b_151_215 {d : Nat} {Q : (Option Value ⊕ Nat) → mi_H → Prop} (n sl : Nat) (f : Nat → mi_C) {l1 : Nat} {l2 : Int32} {l3 : Int32} {l4 : Int32} (h5 : mi_W d 151 220 [some (.ref l1), some (.int l2), some (.int l3), some (.int l4)] [.int l3] (n, sl, f) Q) : mi_W d 151 215 [some (.ref l1), some (.int l2), some (.int l3), some (.int l4)] [] (n, sl, f) Q := by
  refine w_iload_n cd_151_215 rfl ?_
  exact w_goto cd_151_216 (by decide) h5
theorem b_151_219 {d : Nat} {Q : (Option Value ⊕ Nat) → mi_H → Prop} (n sl : Nat) (f : Nat → mi_C) {l1 : Nat} {l2 : Int32} {l3 : Int32} {l4 : Int32} (h5 : mi_W d 151 220 [some (.ref l1), some (.int l2), some (.int l3), some (.int l4)] [.int (-1)] (n, sl, f) Q) : mi_W d 151 219 [some (.ref l1), some (.int l2), some (.int l3), some (.int l4)] [] (n, sl, f) Q := by
  refine w_iconst (v := (-1)) cd_151_219 (by decide) ?_
  exact h5
theorem b_151_220 {d : Nat} {Q : (Option Value ⊕ Nat) → mi_H → Prop} (n sl : Nat) (f : Nat → mi_C) {l1 : Nat} {l2 : Int32} {l3 : Int32} {l4 : Int32} {s5 : Int32} (h6 : Q (.inl (some (.int s5))) (n, sl, f)) : mi_W d 151 220 [some (.ref l1), some (.int l2), some (.int l3), some (.int l4)] [.int s5] (n, sl, f) Q := by
  exact w_ireturn_i cd_151_220 (by decide +kernel) h6
/-! MarloweHostModel.sign(Ljava/lang/String;)Z -/
set_option maxRecDepth 100000 in
theorem mq_152 : mt_q 152 = my_152 := rfl
set_option maxRecDepth 100000 in
theorem ci_152 : mt_inc 0 my_152.cd = true := by decide +kernel
theorem cd_152_0 : mt_cd 152 0 = some (.aload_n 0) := mt_cd_of (q := (0, .aload_n 0, 1)) mq_152 ci_152 (List.mem_of_getElem? (i := 0) rfl)
theorem cd_152_1 : mt_cd 152 1 = some (.getfield 310) := mt_cd_of (q := (1, .getfield 310, 3)) mq_152 ci_152 (List.mem_of_getElem? (i := 1) rfl)
theorem cd_152_4 : mt_cd 152 4 = some (.iconst 3) := mt_cd_of (q := (4, .iconst 3, 1)) mq_152 ci_152 (List.mem_of_getElem? (i := 2) rfl)
theorem cd_152_5 : mt_cd 152 5 = some (.if_icmp .ne 15) := mt_cd_of (q := (5, .if_icmp .ne 15, 3)) mq_152 ci_152 (List.mem_of_getElem? (i := 3) rfl)
theorem cd_152_8 : mt_cd 152 8 = some (.aload_n 0) := mt_cd_of (q := (8, .aload_n 0, 1)) mq_152 ci_152 (List.mem_of_getElem? (i := 4) rfl)
theorem cd_152_9 : mt_cd 152 9 = some (.aload_n 1) := mt_cd_of (q := (9, .aload_n 1, 1)) mq_152 ci_152 (List.mem_of_getElem? (i := 5) rfl)
theorem cd_152_10 : mt_cd 152 10 = some (.invokevirtual 323) := mt_cd_of (q := (10, .invokevirtual 323, 3)) mq_152 ci_152 (List.mem_of_getElem? (i := 6) rfl)
theorem cd_152_13 : mt_cd 152 13 = some (.ifCond .eq 7) := mt_cd_of (q := (13, .ifCond .eq 7, 3)) mq_152 ci_152 (List.mem_of_getElem? (i := 7) rfl)
theorem cd_152_16 : mt_cd 152 16 = some (.iconst 1) := mt_cd_of (q := (16, .iconst 1, 1)) mq_152 ci_152 (List.mem_of_getElem? (i := 8) rfl)
theorem cd_152_17 : mt_cd 152 17 = some (.goto 4) := mt_cd_of (q := (17, .goto 4, 3)) mq_152 ci_152 (List.mem_of_getElem? (i := 9) rfl)
theorem cd_152_20 : mt_cd 152 20 = some (.iconst 0) := mt_cd_of (q := (20, .iconst 0, 1)) mq_152 ci_152 (List.mem_of_getElem? (i := 10) rfl)
theorem cd_152_21 : mt_cd 152 21 = some (.ireturn) := mt_cd_of (q := (21, .ireturn, 1)) mq_152 ci_152 (List.mem_of_getElem? (i := 11) rfl)
theorem b_152_0 {d : Nat} {Q : (Option Value ⊕ Nat) → mi_H → Prop} (n sl : Nat) (f : Nat → mi_C) {l1 : Nat} {l2 : Nat} {fs3 : List Value} {x6 : Int32} (h4 : f l1 = .inr (12, fs3)) (h5 : l1 < n) (h7 : fs3[8]? = some (.int x6)) (h8 : ¬ x6 = 3 → mi_W d 152 20 [some (.ref l1), some (.ref l2)] [] (n, sl, f) Q) (h9 : ¬ (¬ x6 = 3) → mi_W d 152 8 [some (.ref l1), some (.ref l2)] [] (n, sl, f) Q) : mi_W d 152 0 [some (.ref l1), some (.ref l2)] [] (n, sl, f) Q := by
  refine w_aload_n cd_152_0 rfl ?_
  refine w_getfield cd_152_1 (show mt_f 12 310 = some (12, 8) by decide +kernel) h4 h5 h7 ?_
  refine w_iconst (v := 3) cd_152_4 (by decide) ?_
  exact w_if_icmpne cd_152_5 (by decide) h8 h9
theorem b_152_8 {d : Nat} {Q : (Option Value ⊕ Nat) → mi_H → Prop} (n sl : Nat) (f : Nat → mi_C) {l1 : Nat} {l2 : Nat} {fs3 : List Value} (h4 : f l1 = .inr (12, fs3)) (h5 : l1 < n) (h6 : mi_W d 148 0 (mi_en 3 [.ref l1, .ref l2]) [] (n, sl, f) (mi_Kc d 152 10 [some (.ref l1), some (.ref l2)] [] Q)) : mi_W (d + 1) 152 8 [some (.ref l1), some (.ref l2)] [] (n, sl, f) Q := by
  refine w_aload_n cd_152_8 rfl ?_
  refine w_aload_n cd_152_9 rfl ?_
  exact w_invokevirtual cd_152_10 (show mt_m 12 323 = some (148, 0) by decide +kernel) (rest := []) rfl (as := [.ref l1, .ref l2]) rfl h4 (Or.inl h5) ⟨Nat.le_of_ble_eq_true rfl, Nat.le_of_ble_eq_true rfl, Nat.le_of_ble_eq_true rfl⟩ h6
theorem b_152_13 {d : Nat} {Q : (Option Value ⊕ Nat) → mi_H → Prop} (n sl : Nat) (f : Nat → mi_C) {l1 : Nat} {l2 : Nat} {s3 : Int32} (h4 : s3 = (0 : Int32) → mi_W d 152 20 [some (.ref l1), some (.ref l2)] [] (n, sl, f) Q) (h5 : ¬ (s3 = (0 : Int32)) → mi_W d 152 16 [some (.ref l1), some (.ref l2)] [] (n, sl, f) Q) : mi_W d 152 13 [some (.ref l1), some (.ref l2)] [.int s3] (n, sl, f) Q := by
  exact w_ifeq cd_152_13 (by decide) h4 h5
theorem b_152_16 {d : Nat} {Q : (Option Value ⊕ Nat) → mi_H → Prop} (n sl : Nat) (f : Nat → mi_C) {l1 : Nat} {l2 : Nat} (h3 : mi_W d 152 21 [some (.ref l1), some (.ref l2)] [.int 1] (n, sl, f) Q) : mi_W d 152 16 [some (.ref l1), some (.ref l2)] [] (n, sl, f) Q := by
  refine w_iconst (v := 1) cd_152_16 (by decide) ?_
  exact w_goto cd_152_17 (by decide) h3
theorem b_152_20 {d : Nat} {Q : (Option Value ⊕ Nat) → mi_H → Prop} (n sl : Nat) (f : Nat → mi_C) {l1 : Nat} {l2 : Nat} (h3 : mi_W d 152 21 [some (.ref l1), some (.ref l2)] [.int 0] (n, sl, f) Q) : mi_W d 152 20 [some (.ref l1), some (.ref l2)] [] (n, sl, f) Q := by
  refine w_iconst (v := 0) cd_152_20 (by decide) ?_
  exact h3
theorem b_152_21 {d : Nat} {Q : (Option Value ⊕ Nat) → mi_H → Prop} (n sl : Nat) (f : Nat → mi_C) {l1 : Nat} {l2 : Nat} {s3 : Int32} (h4 : s3 = 0 ∨ s3 = 1) (h5 : Q (.inl (some (.int s3))) (n, sl, f)) : mi_W d 152 21 [some (.ref l1), some (.ref l2)] [.int s3] (n, sl, f) Q := by
  exact w_ireturn_z cd_152_21 (by decide +kernel) h4 h5
/-! MarloweHostModel.open()Z -/
set_option maxRecDepth 100000 in
theorem mq_153 : mt_q 153 = my_153 := rfl
set_option maxRecDepth 100000 in
theorem ci_153 : mt_inc 0 my_153.cd = true := by decide +kernel
theorem cd_153_0 : mt_cd 153 0 = some (.aload_n 0) := mt_cd_of (q := (0, .aload_n 0, 1)) mq_153 ci_153 (List.mem_of_getElem? (i := 0) rfl)
theorem cd_153_1 : mt_cd 153 1 = some (.dup) := mt_cd_of (q := (1, .dup, 1)) mq_153 ci_153 (List.mem_of_getElem? (i := 1) rfl)
theorem cd_153_2 : mt_cd 153 2 = some (.getfield 337) := mt_cd_of (q := (2, .getfield 337, 3)) mq_153 ci_153 (List.mem_of_getElem? (i := 2) rfl)
theorem cd_153_5 : mt_cd 153 5 = some (.dup_x1) := mt_cd_of (q := (5, .dup_x1, 1)) mq_153 ci_153 (List.mem_of_getElem? (i := 3) rfl)
theorem cd_153_6 : mt_cd 153 6 = some (.iconst 1) := mt_cd_of (q := (6, .iconst 1, 1)) mq_153 ci_153 (List.mem_of_getElem? (i := 4) rfl)
theorem cd_153_7 : mt_cd 153 7 = some (.iadd) := mt_cd_of (q := (7, .iadd, 1)) mq_153 ci_153 (List.mem_of_getElem? (i := 5) rfl)
theorem cd_153_8 : mt_cd 153 8 = some (.putfield 337) := mt_cd_of (q := (8, .putfield 337, 3)) mq_153 ci_153 (List.mem_of_getElem? (i := 6) rfl)
theorem cd_153_11 : mt_cd 153 11 = some (.bipush 100) := mt_cd_of (q := (11, .bipush 100, 2)) mq_153 ci_153 (List.mem_of_getElem? (i := 7) rfl)
theorem cd_153_13 : mt_cd 153 13 = some (.if_icmp .lt 14) := mt_cd_of (q := (13, .if_icmp .lt 14, 3)) mq_153 ci_153 (List.mem_of_getElem? (i := 8) rfl)
theorem cd_153_16 : mt_cd 153 16 = some (.aload_n 0) := mt_cd_of (q := (16, .aload_n 0, 1)) mq_153 ci_153 (List.mem_of_getElem? (i := 9) rfl)
theorem cd_153_17 : mt_cd 153 17 = some (.aload_n 0) := mt_cd_of (q := (17, .aload_n 0, 1)) mq_153 ci_153 (List.mem_of_getElem? (i := 10) rfl)
theorem cd_153_18 : mt_cd 153 18 = some (.getfield 299) := mt_cd_of (q := (18, .getfield 299, 3)) mq_153 ci_153 (List.mem_of_getElem? (i := 11) rfl)
theorem cd_153_21 : mt_cd 153 21 = some (.invokevirtual 272) := mt_cd_of (q := (21, .invokevirtual 272, 3)) mq_153 ci_153 (List.mem_of_getElem? (i := 12) rfl)
theorem cd_153_24 : mt_cd 153 24 = some (.ifCond .eq 7) := mt_cd_of (q := (24, .ifCond .eq 7, 3)) mq_153 ci_153 (List.mem_of_getElem? (i := 13) rfl)
theorem cd_153_27 : mt_cd 153 27 = some (.iconst 1) := mt_cd_of (q := (27, .iconst 1, 1)) mq_153 ci_153 (List.mem_of_getElem? (i := 14) rfl)
theorem cd_153_28 : mt_cd 153 28 = some (.goto 4) := mt_cd_of (q := (28, .goto 4, 3)) mq_153 ci_153 (List.mem_of_getElem? (i := 15) rfl)
theorem cd_153_31 : mt_cd 153 31 = some (.iconst 0) := mt_cd_of (q := (31, .iconst 0, 1)) mq_153 ci_153 (List.mem_of_getElem? (i := 16) rfl)
theorem cd_153_32 : mt_cd 153 32 = some (.ireturn) := mt_cd_of (q := (32, .ireturn, 1)) mq_153 ci_153 (List.mem_of_getElem? (i := 17) rfl)
theorem b_153_0 {d : Nat} {Q : (Option Value ⊕ Nat) → mi_H → Prop} (n sl : Nat) (f : Nat → mi_C) {l1 : Nat} {fs2 : List Value} {x5 : Int32} {fs7 : List Value} (h3 : f l1 = .inr (12, fs2)) (h4 : l1 < n) (h6 : fs2[22]? = some (.int x5)) (h8 : f l1 = .inr (12, fs7)) (h9 : l1 < n) (h10 : 22 < fs7.length) (h11 : x5 < 100 → mi_W d 153 27 [some (.ref l1)] [] (n, sl, (va_up f l1 (.inr (12, fs7.set 22 (.int (x5 + 1)))))) Q) (h12 : ¬ (x5 < 100) → mi_W d 153 16 [some (.ref l1)] [] (n, sl, (va_up f l1 (.inr (12, fs7.set 22 (.int (x5 + 1)))))) Q) : mi_W d 153 0 [some (.ref l1)] [] (n, sl, f) Q := by
  refine w_aload_n cd_153_0 rfl ?_
  refine w_dup_r cd_153_1 ?_
  refine w_getfield cd_153_2 (show mt_f 12 337 = some (12, 22) by decide +kernel) h3 h4 h6 ?_
  refine w_dup_x1_ir cd_153_5 ?_
  refine w_iconst (v := 1) cd_153_6 (by decide) ?_
  refine w_iadd cd_153_7 ?_
  refine w_putfield (w := .int (x5 + 1)) cd_153_8 (show mt_f 12 337 = some (12, 22) by decide +kernel) h8 h9 ⟨h10, rfl, Or.inl (by decide)⟩ ?_
  refine w_bipush (v := 100) cd_153_11 (by decide) ?_
  exact w_if_icmplt cd_153_13 (by decide) h11 h12
theorem b_153_16 {d : Nat} {Q : (Option Value ⊕ Nat) → mi_H → Prop} (n sl : Nat) (f : Nat → mi_C) {l1 : Nat} {fs2 : List Value} {x5 : Int32} {fs7 : List Value} (h3 : f l1 = .inr (12, fs2)) (h4 : l1 < n) (h6 : fs2[9]? = some (.int x5)) (h8 : f l1 = .inr (12, fs7)) (h9 : l1 < n) (h10 : mi_W d 142 0 (mi_en 2 [.ref l1, .int x5]) [] (n, sl, f) (mi_Kc d 153 21 [some (.ref l1)] [] Q)) : mi_W (d + 1) 153 16 [some (.ref l1)] [] (n, sl, f) Q := by
  refine w_aload_n cd_153_16 rfl ?_
  refine w_aload_n cd_153_17 rfl ?_
  refine w_getfield cd_153_18 (show mt_f 12 299 = some (12, 9) by decide +kernel) h3 h4 h6 ?_
  exact w_invokevirtual cd_153_21 (show mt_m 12 272 = some (142, 0) by decide +kernel) (rest := []) rfl (as := [.ref l1, .int x5]) rfl h8 (Or.inl h9) ⟨Nat.le_of_ble_eq_true rfl, Nat.le_of_ble_eq_true rfl, Nat.le_of_ble_eq_true rfl⟩ h10
theorem b_153_24 {d : Nat} {Q : (Option Value ⊕ Nat) → mi_H → Prop} (n sl : Nat) (f : Nat → mi_C) {l1 : Nat} {s2 : Int32} (h3 : s2 = (0 : Int32) → mi_W d 153 31 [some (.ref l1)] [] (n, sl, f) Q) (h4 : ¬ (s2 = (0 : Int32)) → mi_W d 153 27 [some (.ref l1)] [] (n, sl, f) Q) : mi_W d 153 24 [some (.ref l1)] [.int s2] (n, sl, f) Q := by
  exact w_ifeq cd_153_24 (by decide) h3 h4
theorem b_153_27 {d : Nat} {Q : (Option Value ⊕ Nat) → mi_H → Prop} (n sl : Nat) (f : Nat → mi_C) {l1 : Nat} (h2 : mi_W d 153 32 [some (.ref l1)] [.int 1] (n, sl, f) Q) : mi_W d 153 27 [some (.ref l1)] [] (n, sl, f) Q := by
  refine w_iconst (v := 1) cd_153_27 (by decide) ?_
  exact w_goto cd_153_28 (by decide) h2
theorem b_153_31 {d : Nat} {Q : (Option Value ⊕ Nat) → mi_H → Prop} (n sl : Nat) (f : Nat → mi_C) {l1 : Nat} (h2 : mi_W d 153 32 [some (.ref l1)] [.int 0] (n, sl, f) Q) : mi_W d 153 31 [some (.ref l1)] [] (n, sl, f) Q := by
  refine w_iconst (v := 0) cd_153_31 (by decide) ?_
  exact h2
theorem b_153_32 {d : Nat} {Q : (Option Value ⊕ Nat) → mi_H → Prop} (n sl : Nat) (f : Nat → mi_C) {l1 : Nat} {s2 : Int32} (h3 : s2 = 0 ∨ s2 = 1) (h4 : Q (.inl (some (.int s2))) (n, sl, f)) : mi_W d 153 32 [some (.ref l1)] [.int s2] (n, sl, f) Q := by
  exact w_ireturn_z cd_153_32 (by decide +kernel) h3 h4
/-! MarloweHostModel.need(Z)Z -/
set_option maxRecDepth 100000 in
theorem mq_154 : mt_q 154 = my_154 := rfl
set_option maxRecDepth 100000 in
theorem ci_154 : mt_inc 0 my_154.cd = true := by decide +kernel
theorem cd_154_0 : mt_cd 154 0 = some (.iload_n 1) := mt_cd_of (q := (0, .iload_n 1, 1)) mq_154 ci_154 (List.mem_of_getElem? (i := 0) rfl)
theorem cd_154_1 : mt_cd 154 1 = some (.ifCond .eq 10) := mt_cd_of (q := (1, .ifCond .eq 10, 3)) mq_154 ci_154 (List.mem_of_getElem? (i := 1) rfl)
theorem cd_154_4 : mt_cd 154 4 = some (.aload_n 0) := mt_cd_of (q := (4, .aload_n 0, 1)) mq_154 ci_154 (List.mem_of_getElem? (i := 2) rfl)
theorem cd_154_5 : mt_cd 154 5 = some (.invokevirtual 333) := mt_cd_of (q := (5, .invokevirtual 333, 3)) mq_154 ci_154 (List.mem_of_getElem? (i := 3) rfl)
theorem cd_154_8 : mt_cd 154 8 = some (.goto 11) := mt_cd_of (q := (8, .goto 11, 3)) mq_154 ci_154 (List.mem_of_getElem? (i := 4) rfl)
theorem cd_154_11 : mt_cd 154 11 = some (.aload_n 0) := mt_cd_of (q := (11, .aload_n 0, 1)) mq_154 ci_154 (List.mem_of_getElem? (i := 5) rfl)
theorem cd_154_12 : mt_cd 154 12 = some (.aload_n 0) := mt_cd_of (q := (12, .aload_n 0, 1)) mq_154 ci_154 (List.mem_of_getElem? (i := 6) rfl)
theorem cd_154_13 : mt_cd 154 13 = some (.getfield 299) := mt_cd_of (q := (13, .getfield 299, 3)) mq_154 ci_154 (List.mem_of_getElem? (i := 7) rfl)
theorem cd_154_16 : mt_cd 154 16 = some (.invokevirtual 272) := mt_cd_of (q := (16, .invokevirtual 272, 3)) mq_154 ci_154 (List.mem_of_getElem? (i := 8) rfl)
theorem cd_154_19 : mt_cd 154 19 = some (.ireturn) := mt_cd_of (q := (19, .ireturn, 1)) mq_154 ci_154 (List.mem_of_getElem? (i := 9) rfl)
theorem b_154_0 {d : Nat} {Q : (Option Value ⊕ Nat) → mi_H → Prop} (n sl : Nat) (f : Nat → mi_C) {l1 : Nat} {l2 : Int32} (h3 : l2 = (0 : Int32) → mi_W d 154 11 [some (.ref l1), some (.int l2)] [] (n, sl, f) Q) (h4 : ¬ (l2 = (0 : Int32)) → mi_W d 154 4 [some (.ref l1), some (.int l2)] [] (n, sl, f) Q) : mi_W d 154 0 [some (.ref l1), some (.int l2)] [] (n, sl, f) Q := by
  refine w_iload_n cd_154_0 rfl ?_
  exact w_ifeq cd_154_1 (by decide) h3 h4
theorem b_154_4 {d : Nat} {Q : (Option Value ⊕ Nat) → mi_H → Prop} (n sl : Nat) (f : Nat → mi_C) {l1 : Nat} {l2 : Int32} {fs3 : List Value} (h4 : f l1 = .inr (12, fs3)) (h5 : l1 < n) (h6 : mi_W d 144 0 (mi_en 4 [.ref l1]) [] (n, sl, f) (mi_Kc d 154 5 [some (.ref l1), some (.int l2)] [] Q)) : mi_W (d + 1) 154 4 [some (.ref l1), some (.int l2)] [] (n, sl, f) Q := by
  refine w_aload_n cd_154_4 rfl ?_
  exact w_invokevirtual cd_154_5 (show mt_m 12 333 = some (144, 0) by decide +kernel) (rest := []) rfl (as := [.ref l1]) rfl h4 (Or.inl h5) ⟨Nat.le_of_ble_eq_true rfl, Nat.le_of_ble_eq_true rfl, Nat.le_of_ble_eq_true rfl⟩ h6
theorem b_154_8 {d : Nat} {Q : (Option Value ⊕ Nat) → mi_H → Prop} (n sl : Nat) (f : Nat → mi_C) {l1 : Nat} {l2 : Int32} {s3 : Int32} (h4 : mi_W d 154 19 [some (.ref l1), some (.int l2)] [.int s3] (n, sl, f) Q) : mi_W d 154 8 [some (.ref l1), some (.int l2)] [.int s3] (n, sl, f) Q := by
  exact w_goto cd_154_8 (by decide) h4
theorem b_154_11 {d : Nat} {Q : (Option Value ⊕ Nat) → mi_H → Prop} (n sl : Nat) (f : Nat → mi_C) {l1 : Nat} {l2 : Int32} {fs3 : List Value} {x6 : Int32} {fs8 : List Value} (h4 : f l1 = .inr (12, fs3)) (h5 : l1 < n) (h7 : fs3[9]? = some (.int x6)) (h9 : f l1 = .inr (12, fs8)) (h10 : l1 < n) (h11 : mi_W d 142 0 (mi_en 2 [.ref l1, .int x6]) [] (n, sl, f) (mi_Kc d 154 16 [some (.ref l1), some (.int l2)] [] Q)) : mi_W (d + 1) 154 11 [some (.ref l1), some (.int l2)] [] (n, sl, f) Q := by
  refine w_aload_n cd_154_11 rfl ?_
  refine w_aload_n cd_154_12 rfl ?_
  refine w_getfield cd_154_13 (show mt_f 12 299 = some (12, 9) by decide +kernel) h4 h5 h7 ?_
  exact w_invokevirtual cd_154_16 (show mt_m 12 272 = some (142, 0) by decide +kernel) (rest := []) rfl (as := [.ref l1, .int x6]) rfl h9 (Or.inl h10) ⟨Nat.le_of_ble_eq_true rfl, Nat.le_of_ble_eq_true rfl, Nat.le_of_ble_eq_true rfl⟩ h11
theorem b_154_19 {d : Nat} {Q : (Option Value ⊕ Nat) → mi_H → Prop} (n sl : Nat) (f : Nat → mi_C) {l1 : Nat} {l2 : Int32} {s3 : Int32} (h4 : s3 = 0 ∨ s3 = 1) (h5 : Q (.inl (some (.int s3))) (n, sl, f)) : mi_W d 154 19 [some (.ref l1), some (.int l2)] [.int s3] (n, sl, f) Q := by
  exact w_ireturn_z cd_154_19 (by decide +kernel) h4 h5
/-! MarloweHostModel.key(Ljava/lang/String;)Z -/
set_option maxRecDepth 100000 in
theorem mq_155 : mt_q 155 = my_155 := rfl
set_option maxRecDepth 100000 in
theorem ci_155 : mt_inc 0 my_155.cd = true := by decide +kernel
theorem cd_155_0 : mt_cd 155 0 = some (.aload_n 0) := mt_cd_of (q := (0, .aload_n 0, 1)) mq_155 ci_155 (List.mem_of_getElem? (i := 0) rfl)
theorem cd_155_1 : mt_cd 155 1 = some (.getfield 310) := mt_cd_of (q := (1, .getfield 310, 3)) mq_155 ci_155 (List.mem_of_getElem? (i := 1) rfl)
theorem cd_155_4 : mt_cd 155 4 = some (.iconst 4) := mt_cd_of (q := (4, .iconst 4, 1)) mq_155 ci_155 (List.mem_of_getElem? (i := 2) rfl)
theorem cd_155_5 : mt_cd 155 5 = some (.if_icmp .ne 15) := mt_cd_of (q := (5, .if_icmp .ne 15, 3)) mq_155 ci_155 (List.mem_of_getElem? (i := 3) rfl)
theorem cd_155_8 : mt_cd 155 8 = some (.aload_n 0) := mt_cd_of (q := (8, .aload_n 0, 1)) mq_155 ci_155 (List.mem_of_getElem? (i := 4) rfl)
theorem cd_155_9 : mt_cd 155 9 = some (.aload_n 1) := mt_cd_of (q := (9, .aload_n 1, 1)) mq_155 ci_155 (List.mem_of_getElem? (i := 5) rfl)
theorem cd_155_10 : mt_cd 155 10 = some (.invokevirtual 323) := mt_cd_of (q := (10, .invokevirtual 323, 3)) mq_155 ci_155 (List.mem_of_getElem? (i := 6) rfl)
theorem cd_155_13 : mt_cd 155 13 = some (.ifCond .eq 7) := mt_cd_of (q := (13, .ifCond .eq 7, 3)) mq_155 ci_155 (List.mem_of_getElem? (i := 7) rfl)
theorem cd_155_16 : mt_cd 155 16 = some (.iconst 1) := mt_cd_of (q := (16, .iconst 1, 1)) mq_155 ci_155 (List.mem_of_getElem? (i := 8) rfl)
theorem cd_155_17 : mt_cd 155 17 = some (.goto 4) := mt_cd_of (q := (17, .goto 4, 3)) mq_155 ci_155 (List.mem_of_getElem? (i := 9) rfl)
theorem cd_155_20 : mt_cd 155 20 = some (.iconst 0) := mt_cd_of (q := (20, .iconst 0, 1)) mq_155 ci_155 (List.mem_of_getElem? (i := 10) rfl)
theorem cd_155_21 : mt_cd 155 21 = some (.ireturn) := mt_cd_of (q := (21, .ireturn, 1)) mq_155 ci_155 (List.mem_of_getElem? (i := 11) rfl)
theorem b_155_0 {d : Nat} {Q : (Option Value ⊕ Nat) → mi_H → Prop} (n sl : Nat) (f : Nat → mi_C) {l1 : Nat} {l2 : Nat} {fs3 : List Value} {x6 : Int32} (h4 : f l1 = .inr (12, fs3)) (h5 : l1 < n) (h7 : fs3[8]? = some (.int x6)) (h8 : ¬ x6 = 4 → mi_W d 155 20 [some (.ref l1), some (.ref l2)] [] (n, sl, f) Q) (h9 : ¬ (¬ x6 = 4) → mi_W d 155 8 [some (.ref l1), some (.ref l2)] [] (n, sl, f) Q) : mi_W d 155 0 [some (.ref l1), some (.ref l2)] [] (n, sl, f) Q := by
  refine w_aload_n cd_155_0 rfl ?_
  refine w_getfield cd_155_1 (show mt_f 12 310 = some (12, 8) by decide +kernel) h4 h5 h7 ?_
  refine w_iconst (v := 4) cd_155_4 (by decide) ?_
  exact w_if_icmpne cd_155_5 (by decide) h8 h9
theorem b_155_8 {d : Nat} {Q : (Option Value ⊕ Nat) → mi_H → Prop} (n sl : Nat) (f : Nat → mi_C) {l1 : Nat} {l2 : Nat} {fs3 : List Value} (h4 : f l1 = .inr (12, fs3)) (h5 : l1 < n) (h6 : mi_W d 148 0 (mi_en 3 [.ref l1, .ref l2]) [] (n, sl, f) (mi_Kc d 155 10 [some (.ref l1), some (.ref l2)] [] Q)) : mi_W (d + 1) 155 8 [some (.ref l1), some (.ref l2)] [] (n, sl, f) Q := by
  refine w_aload_n cd_155_8 rfl ?_
  refine w_aload_n cd_155_9 rfl ?_
  exact w_invokevirtual cd_155_10 (show mt_m 12 323 = some (148, 0) by decide +kernel) (rest := []) rfl (as := [.ref l1, .ref l2]) rfl h4 (Or.inl h5) ⟨Nat.le_of_ble_eq_true rfl, Nat.le_of_ble_eq_true rfl, Nat.le_of_ble_eq_true rfl⟩ h6
theorem b_155_13 {d : Nat} {Q : (Option Value ⊕ Nat) → mi_H → Prop} (n sl : Nat) (f : Nat → mi_C) {l1 : Nat} {l2 : Nat} {s3 : Int32} (h4 : s3 = (0 : Int32) → mi_W d 155 20 [some (.ref l1), some (.ref l2)] [] (n, sl, f) Q) (h5 : ¬ (s3 = (0 : Int32)) → mi_W d 155 16 [some (.ref l1), some (.ref l2)] [] (n, sl, f) Q) : mi_W d 155 13 [some (.ref l1), some (.ref l2)] [.int s3] (n, sl, f) Q := by
  exact w_ifeq cd_155_13 (by decide) h4 h5
theorem b_155_16 {d : Nat} {Q : (Option Value ⊕ Nat) → mi_H → Prop} (n sl : Nat) (f : Nat → mi_C) {l1 : Nat} {l2 : Nat} (h3 : mi_W d 155 21 [some (.ref l1), some (.ref l2)] [.int 1] (n, sl, f) Q) : mi_W d 155 16 [some (.ref l1), some (.ref l2)] [] (n, sl, f) Q := by
  refine w_iconst (v := 1) cd_155_16 (by decide) ?_
  exact w_goto cd_155_17 (by decide) h3
theorem b_155_20 {d : Nat} {Q : (Option Value ⊕ Nat) → mi_H → Prop} (n sl : Nat) (f : Nat → mi_C) {l1 : Nat} {l2 : Nat} (h3 : mi_W d 155 21 [some (.ref l1), some (.ref l2)] [.int 0] (n, sl, f) Q) : mi_W d 155 20 [some (.ref l1), some (.ref l2)] [] (n, sl, f) Q := by
  refine w_iconst (v := 0) cd_155_20 (by decide) ?_
  exact h3
theorem b_155_21 {d : Nat} {Q : (Option Value ⊕ Nat) → mi_H → Prop} (n sl : Nat) (f : Nat → mi_C) {l1 : Nat} {l2 : Nat} {s3 : Int32} (h4 : s3 = 0 ∨ s3 = 1) (h5 : Q (.inl (some (.int s3))) (n, sl, f)) : mi_W d 155 21 [some (.ref l1), some (.ref l2)] [.int s3] (n, sl, f) Q := by
  exact w_ireturn_z cd_155_21 (by decide +kernel) h4 h5
/-! MarloweHostModel.node(I)I -/
set_option maxRecDepth 100000 in
theorem mq_156 : mt_q 156 = my_156 := rfl
set_option maxRecDepth 100000 in
theorem ci_156 : mt_inc 0 my_156.cd = true := by decide +kernel
theorem cd_156_0 : mt_cd 156 0 = some (.aload_n 0) := mt_cd_of (q := (0, .aload_n 0, 1)) mq_156 ci_156 (List.mem_of_getElem? (i := 0) rfl)
theorem cd_156_1 : mt_cd 156 1 = some (.getfield 282) := mt_cd_of (q := (1, .getfield 282, 3)) mq_156 ci_156 (List.mem_of_getElem? (i := 1) rfl)
theorem cd_156_4 : mt_cd 156 4 = some (.sipush 800) := mt_cd_of (q := (4, .sipush 800, 3)) mq_156 ci_156 (List.mem_of_getElem? (i := 2) rfl)
theorem cd_156_7 : mt_cd 156 7 = some (.if_icmp .ne 14) := mt_cd_of (q := (7, .if_icmp .ne 14, 3)) mq_156 ci_156 (List.mem_of_getElem? (i := 3) rfl)
theorem cd_156_10 : mt_cd 156 10 = some (.aload_n 0) := mt_cd_of (q := (10, .aload_n 0, 1)) mq_156 ci_156 (List.mem_of_getElem? (i := 4) rfl)
theorem cd_156_11 : mt_cd 156 11 = some (.aload_n 0) := mt_cd_of (q := (11, .aload_n 0, 1)) mq_156 ci_156 (List.mem_of_getElem? (i := 5) rfl)
theorem cd_156_12 : mt_cd 156 12 = some (.getfield 299) := mt_cd_of (q := (12, .getfield 299, 3)) mq_156 ci_156 (List.mem_of_getElem? (i := 6) rfl)
theorem cd_156_15 : mt_cd 156 15 = some (.invokevirtual 272) := mt_cd_of (q := (15, .invokevirtual 272, 3)) mq_156 ci_156 (List.mem_of_getElem? (i := 7) rfl)
theorem cd_156_18 : mt_cd 156 18 = some (.pop) := mt_cd_of (q := (18, .pop, 1)) mq_156 ci_156 (List.mem_of_getElem? (i := 8) rfl)
theorem cd_156_19 : mt_cd 156 19 = some (.iconst (-1)) := mt_cd_of (q := (19, .iconst (-1), 1)) mq_156 ci_156 (List.mem_of_getElem? (i := 9) rfl)
theorem cd_156_20 : mt_cd 156 20 = some (.ireturn) := mt_cd_of (q := (20, .ireturn, 1)) mq_156 ci_156 (List.mem_of_getElem? (i := 10) rfl)
theorem cd_156_21 : mt_cd 156 21 = some (.aload_n 0) := mt_cd_of (q := (21, .aload_n 0, 1)) mq_156 ci_156 (List.mem_of_getElem? (i := 11) rfl)
theorem cd_156_22 : mt_cd 156 22 = some (.getfield 77) := mt_cd_of (q := (22, .getfield 77, 3)) mq_156 ci_156 (List.mem_of_getElem? (i := 12) rfl)
theorem cd_156_25 : mt_cd 156 25 = some (.aload_n 0) := mt_cd_of (q := (25, .aload_n 0, 1)) mq_156 ci_156 (List.mem_of_getElem? (i := 13) rfl)
theorem cd_156_26 : mt_cd 156 26 = some (.getfield 282) := mt_cd_of (q := (26, .getfield 282, 3)) mq_156 ci_156 (List.mem_of_getElem? (i := 14) rfl)
theorem cd_156_29 : mt_cd 156 29 = some (.iload_n 1) := mt_cd_of (q := (29, .iload_n 1, 1)) mq_156 ci_156 (List.mem_of_getElem? (i := 15) rfl)
theorem cd_156_30 : mt_cd 156 30 = some (.iastore) := mt_cd_of (q := (30, .iastore, 1)) mq_156 ci_156 (List.mem_of_getElem? (i := 16) rfl)
theorem cd_156_31 : mt_cd 156 31 = some (.aload_n 0) := mt_cd_of (q := (31, .aload_n 0, 1)) mq_156 ci_156 (List.mem_of_getElem? (i := 17) rfl)
theorem cd_156_32 : mt_cd 156 32 = some (.dup) := mt_cd_of (q := (32, .dup, 1)) mq_156 ci_156 (List.mem_of_getElem? (i := 18) rfl)
theorem cd_156_33 : mt_cd 156 33 = some (.getfield 282) := mt_cd_of (q := (33, .getfield 282, 3)) mq_156 ci_156 (List.mem_of_getElem? (i := 19) rfl)
theorem cd_156_36 : mt_cd 156 36 = some (.dup_x1) := mt_cd_of (q := (36, .dup_x1, 1)) mq_156 ci_156 (List.mem_of_getElem? (i := 20) rfl)
theorem cd_156_37 : mt_cd 156 37 = some (.iconst 1) := mt_cd_of (q := (37, .iconst 1, 1)) mq_156 ci_156 (List.mem_of_getElem? (i := 21) rfl)
theorem cd_156_38 : mt_cd 156 38 = some (.iadd) := mt_cd_of (q := (38, .iadd, 1)) mq_156 ci_156 (List.mem_of_getElem? (i := 22) rfl)
theorem cd_156_39 : mt_cd 156 39 = some (.putfield 282) := mt_cd_of (q := (39, .putfield 282, 3)) mq_156 ci_156 (List.mem_of_getElem? (i := 23) rfl)
theorem cd_156_42 : mt_cd 156 42 = some (.ireturn) := mt_cd_of (q := (42, .ireturn, 1)) mq_156 ci_156 (List.mem_of_getElem? (i := 24) rfl)
theorem b_156_0 {d : Nat} {Q : (Option Value ⊕ Nat) → mi_H → Prop} (n sl : Nat) (f : Nat → mi_C) {l1 : Nat} {l2 : Int32} {fs3 : List Value} {x6 : Int32} (h4 : f l1 = .inr (12, fs3)) (h5 : l1 < n) (h7 : fs3[21]? = some (.int x6)) (h8 : ¬ x6 = 800 → mi_W d 156 21 [some (.ref l1), some (.int l2)] [] (n, sl, f) Q) (h9 : ¬ (¬ x6 = 800) → mi_W d 156 10 [some (.ref l1), some (.int l2)] [] (n, sl, f) Q) : mi_W d 156 0 [some (.ref l1), some (.int l2)] [] (n, sl, f) Q := by
  refine w_aload_n cd_156_0 rfl ?_
  refine w_getfield cd_156_1 (show mt_f 12 282 = some (12, 21) by decide +kernel) h4 h5 h7 ?_
  refine w_sipush (v := 800) cd_156_4 (by decide) ?_
  exact w_if_icmpne cd_156_7 (by decide) h8 h9
theorem b_156_10 {d : Nat} {Q : (Option Value ⊕ Nat) → mi_H → Prop} (n sl : Nat) (f : Nat → mi_C) {l1 : Nat} {l2 : Int32} {fs3 : List Value} {x6 : Int32} {fs8 : List Value} (h4 : f l1 = .inr (12, fs3)) (h5 : l1 < n) (h7 : fs3[9]? = some (.int x6)) (h9 : f l1 = .inr (12, fs8)) (h10 : l1 < n) (h11 : mi_W d 142 0 (mi_en 2 [.ref l1, .int x6]) [] (n, sl, f) (mi_Kc d 156 15 [some (.ref l1), some (.int l2)] [] Q)) : mi_W (d + 1) 156 10 [some (.ref l1), some (.int l2)] [] (n, sl, f) Q := by
  refine w_aload_n cd_156_10 rfl ?_
  refine w_aload_n cd_156_11 rfl ?_
  refine w_getfield cd_156_12 (show mt_f 12 299 = some (12, 9) by decide +kernel) h4 h5 h7 ?_
  exact w_invokevirtual cd_156_15 (show mt_m 12 272 = some (142, 0) by decide +kernel) (rest := []) rfl (as := [.ref l1, .int x6]) rfl h9 (Or.inl h10) ⟨Nat.le_of_ble_eq_true rfl, Nat.le_of_ble_eq_true rfl, Nat.le_of_ble_eq_true rfl⟩ h11
theorem b_156_18 {d : Nat} {Q : (Option Value ⊕ Nat) → mi_H → Prop} (n sl : Nat) (f : Nat → mi_C) {l1 : Nat} {l2 : Int32} {s3 : Int32} (h4 : Q (.inl (some (.int (-1)))) (n, sl, f)) : mi_W d 156 18 [some (.ref l1), some (.int l2)] [.int s3] (n, sl, f) Q := by
  refine w_pop_i cd_156_18 ?_
  refine w_iconst (v := (-1)) cd_156_19 (by decide) ?_
  exact w_ireturn_i cd_156_20 (by decide +kernel) h4
theorem b_156_21 {d : Nat} {Q : (Option Value ⊕ Nat) → mi_H → Prop} (n sl : Nat) (f : Nat → mi_C) {l1 : Nat} {l2 : Int32} {fs3 : List Value} {x6 : Nat} {fs8 : List Value} {x11 : Int32} (m13 i13 : Nat) (g13 : Nat → Int32) {fs17 : List Value} {x20 : Int32} {fs22 : List Value} (h4 : f l1 = .inr (12, fs3)) (h5 : l1 < n) (h7 : fs3[12]? = some (.ref x6)) (h9 : f l1 = .inr (12, fs8)) (h10 : l1 < n) (h12 : fs8[21]? = some (.int x11)) (h14 : f x6 = .inl (0, m13, .inl g13)) (h15 : x6 < n) (h16 : mi_ix x11 m13 i13) (h18 : (va_up f x6 (.inl (0, m13, .inl (upd g13 i13 l2)))) l1 = .inr (12, fs17)) (h19 : l1 < n) (h21 : fs17[21]? = some (.int x20)) (h23 : (va_up f x6 (.inl (0, m13, .inl (upd g13 i13 l2)))) l1 = .inr (12, fs22)) (h24 : l1 < n) (h25 : 21 < fs22.length) (h26 : Q (.inl (some (.int x20))) (n, sl, (va_up (va_up f x6 (.inl (0, m13, .inl (upd g13 i13 l2)))) l1 (.inr (12, fs22.set 21 (.int (x20 + 1))))))) : mi_W d 156 21 [some (.ref l1), some (.int l2)] [] (n, sl, f) Q := by
  refine w_aload_n cd_156_21 rfl ?_
  refine w_getfield cd_156_22 (show mt_f 12 77 = some (12, 12) by decide +kernel) h4 h5 h7 ?_
  refine w_aload_n cd_156_25 rfl ?_
  refine w_getfield cd_156_26 (show mt_f 12 282 = some (12, 21) by decide +kernel) h9 h10 h12 ?_
  refine w_iload_n cd_156_29 rfl ?_
  refine w_iastore cd_156_30 h14 h15 h16 ?_
  refine w_aload_n cd_156_31 rfl ?_
  refine w_dup_r cd_156_32 ?_
  refine w_getfield cd_156_33 (show mt_f 12 282 = some (12, 21) by decide +kernel) h18 h19 h21 ?_
  refine w_dup_x1_ir cd_156_36 ?_
  refine w_iconst (v := 1) cd_156_37 (by decide) ?_
  refine w_iadd cd_156_38 ?_
  refine w_putfield (w := .int (x20 + 1)) cd_156_39 (show mt_f 12 282 = some (12, 21) by decide +kernel) h23 h24 ⟨h25, rfl, Or.inl (by decide)⟩ ?_
  exact w_ireturn_i cd_156_42 (by decide +kernel) h26
/-! MarloweHostModel.parts(I)Z -/
set_option maxRecDepth 100000 in
theorem mq_157 : mt_q 157 = my_157 := rfl
set_option maxRecDepth 100000 in
theorem ci_157 : mt_inc 0 my_157.cd = true := by decide +kernel
theorem cd_157_0 : mt_cd 157 0 = some (.aload_n 0) := mt_cd_of (q := (0, .aload_n 0, 1)) mq_157 ci_157 (List.mem_append_left _ (show _ ∈ my_157_0 from List.mem_of_getElem? (i := 0) rfl))
theorem cd_157_1 : mt_cd 157 1 = some (.getfield 77) := mt_cd_of (q := (1, .getfield 77, 3)) mq_157 ci_157 (List.mem_append_left _ (show _ ∈ my_157_0 from List.mem_of_getElem? (i := 1) rfl))
theorem cd_157_4 : mt_cd 157 4 = some (.iload_n 1) := mt_cd_of (q := (4, .iload_n 1, 1)) mq_157 ci_157 (List.mem_append_left _ (show _ ∈ my_157_0 from List.mem_of_getElem? (i := 2) rfl))
theorem cd_157_5 : mt_cd 157 5 = some (.iaload) := mt_cd_of (q := (5, .iaload, 1)) mq_157 ci_157 (List.mem_append_left _ (show _ ∈ my_157_0 from List.mem_of_getElem? (i := 3) rfl))
theorem cd_157_6 : mt_cd 157 6 = some (.tableswitch 266 0 5 #[38, 40, 266, 164, 212, 218]) := mt_cd_of (q := (6, .tableswitch 266 0 5 #[38, 40, 266, 164, 212, 218], 38)) mq_157 ci_157 (List.mem_append_left _ (show _ ∈ my_157_0 from List.mem_of_getElem? (i := 4) rfl))
theorem cd_157_44 : mt_cd 157 44 = some (.iconst 1) := mt_cd_of (q := (44, .iconst 1, 1)) mq_157 ci_157 (List.mem_append_left _ (show _ ∈ my_157_0 from List.mem_of_getElem? (i := 5) rfl))
theorem cd_157_45 : mt_cd 157 45 = some (.ireturn) := mt_cd_of (q := (45, .ireturn, 1)) mq_157 ci_157 (List.mem_append_left _ (show _ ∈ my_157_0 from List.mem_of_getElem? (i := 6) rfl))
theorem cd_157_46 : mt_cd 157 46 = some (.aload_n 0) := mt_cd_of (q := (46, .aload_n 0, 1)) mq_157 ci_157 (List.mem_append_left _ (show _ ∈ my_157_0 from List.mem_of_getElem? (i := 7) rfl))
theorem cd_157_47 : mt_cd 157 47 = some (.getfield 80) := mt_cd_of (q := (47, .getfield 80, 3)) mq_157 ci_157 (List.mem_append_left _ (show _ ∈ my_157_0 from List.mem_of_getElem? (i := 8) rfl))
theorem cd_157_50 : mt_cd 157 50 = some (.iload_n 1) := mt_cd_of (q := (50, .iload_n 1, 1)) mq_157 ci_157 (List.mem_append_left _ (show _ ∈ my_157_0 from List.mem_of_getElem? (i := 9) rfl))
theorem cd_157_51 : mt_cd 157 51 = some (.aload_n 0) := mt_cd_of (q := (51, .aload_n 0, 1)) mq_157 ci_157 (List.mem_append_left _ (show _ ∈ my_157_0 from List.mem_of_getElem? (i := 10) rfl))
theorem cd_157_52 : mt_cd 157 52 = some (.invokevirtual 370) := mt_cd_of (q := (52, .invokevirtual 370, 3)) mq_157 ci_157 (List.mem_append_left _ (show _ ∈ my_157_0 from List.mem_of_getElem? (i := 11) rfl))
theorem cd_157_55 : mt_cd 157 55 = some (.dup_x2) := mt_cd_of (q := (55, .dup_x2, 1)) mq_157 ci_157 (List.mem_append_left _ (show _ ∈ my_157_0 from List.mem_of_getElem? (i := 12) rfl))
theorem cd_157_56 : mt_cd 157 56 = some (.iastore) := mt_cd_of (q := (56, .iastore, 1)) mq_157 ci_157 (List.mem_append_left _ (show _ ∈ my_157_0 from List.mem_of_getElem? (i := 13) rfl))
theorem cd_157_57 : mt_cd 157 57 = some (.ifCond .ge 5) := mt_cd_of (q := (57, .ifCond .ge 5, 3)) mq_157 ci_157 (List.mem_append_left _ (show _ ∈ my_157_0 from List.mem_of_getElem? (i := 14) rfl))
theorem cd_157_60 : mt_cd 157 60 = some (.iconst 0) := mt_cd_of (q := (60, .iconst 0, 1)) mq_157 ci_157 (List.mem_append_left _ (show _ ∈ my_157_0 from List.mem_of_getElem? (i := 15) rfl))
theorem cd_157_61 : mt_cd 157 61 = some (.ireturn) := mt_cd_of (q := (61, .ireturn, 1)) mq_157 ci_157 (List.mem_append_left _ (show _ ∈ my_157_0 from List.mem_of_getElem? (i := 16) rfl))
theorem cd_157_62 : mt_cd 157 62 = some (.aload_n 0) := mt_cd_of (q := (62, .aload_n 0, 1)) mq_157 ci_157 (List.mem_append_left _ (show _ ∈ my_157_0 from List.mem_of_getElem? (i := 17) rfl))
theorem cd_157_63 : mt_cd 157 63 = some (.ldc 31) := mt_cd_of (q := (63, .ldc 31, 2)) mq_157 ci_157 (List.mem_append_left _ (show _ ∈ my_157_0 from List.mem_of_getElem? (i := 18) rfl))
theorem cd_157_65 : mt_cd 157 65 = some (.invokevirtual 387) := mt_cd_of (q := (65, .invokevirtual 387, 3)) mq_157 ci_157 (List.mem_append_left _ (show _ ∈ my_157_0 from List.mem_of_getElem? (i := 19) rfl))
theorem cd_157_68 : mt_cd 157 68 = some (.ifCond .eq 10) := mt_cd_of (q := (68, .ifCond .eq 10, 3)) mq_157 ci_157 (List.mem_append_left _ (show _ ∈ my_157_0 from List.mem_of_getElem? (i := 20) rfl))
theorem cd_157_71 : mt_cd 157 71 = some (.aload_n 0) := mt_cd_of (q := (71, .aload_n 0, 1)) mq_157 ci_157 (List.mem_append_left _ (show _ ∈ my_157_0 from List.mem_of_getElem? (i := 21) rfl))
theorem cd_157_72 : mt_cd 157 72 = some (.getfield 77) := mt_cd_of (q := (72, .getfield 77, 3)) mq_157 ci_157 (List.mem_append_left _ (show _ ∈ my_157_0 from List.mem_of_getElem? (i := 22) rfl))
theorem cd_157_75 : mt_cd 157 75 = some (.iload_n 1) := mt_cd_of (q := (75, .iload_n 1, 1)) mq_157 ci_157 (List.mem_append_left _ (show _ ∈ my_157_0 from List.mem_of_getElem? (i := 23) rfl))
theorem cd_157_76 : mt_cd 157 76 = some (.iconst 2) := mt_cd_of (q := (76, .iconst 2, 1)) mq_157 ci_157 (List.mem_append_left _ (show _ ∈ my_157_0 from List.mem_of_getElem? (i := 24) rfl))
theorem cd_157_77 : mt_cd 157 77 = some (.iastore) := mt_cd_of (q := (77, .iastore, 1)) mq_157 ci_157 (List.mem_append_left _ (show _ ∈ my_157_0 from List.mem_of_getElem? (i := 25) rfl))
theorem cd_157_78 : mt_cd 157 78 = some (.aload_n 0) := mt_cd_of (q := (78, .aload_n 0, 1)) mq_157 ci_157 (List.mem_append_left _ (show _ ∈ my_157_0 from List.mem_of_getElem? (i := 26) rfl))
theorem cd_157_79 : mt_cd 157 79 = some (.aload_n 0) := mt_cd_of (q := (79, .aload_n 0, 1)) mq_157 ci_157 (List.mem_append_left _ (show _ ∈ my_157_0 from List.mem_of_getElem? (i := 27) rfl))
theorem cd_157_80 : mt_cd 157 80 = some (.ldc 29) := mt_cd_of (q := (80, .ldc 29, 2)) mq_157 ci_157 (List.mem_append_left _ (show _ ∈ my_157_0 from List.mem_of_getElem? (i := 28) rfl))
theorem cd_157_82 : mt_cd 157 82 = some (.invokevirtual 387) := mt_cd_of (q := (82, .invokevirtual 387, 3)) mq_157 ci_157 (List.mem_append_left _ (show _ ∈ my_157_0 from List.mem_of_getElem? (i := 29) rfl))
theorem cd_157_85 : mt_cd 157 85 = some (.ifCond .ne 12) := mt_cd_of (q := (85, .ifCond .ne 12, 3)) mq_157 ci_157 (List.mem_append_left _ (show _ ∈ my_157_0 from List.mem_of_getElem? (i := 30) rfl))
theorem cd_157_88 : mt_cd 157 88 = some (.aload_n 0) := mt_cd_of (q := (88, .aload_n 0, 1)) mq_157 ci_157 (List.mem_append_left _ (show _ ∈ my_157_0 from List.mem_of_getElem? (i := 31) rfl))
theorem cd_157_89 : mt_cd 157 89 = some (.ldc 31) := mt_cd_of (q := (89, .ldc 31, 2)) mq_157 ci_157 (List.mem_append_left _ (show _ ∈ my_157_0 from List.mem_of_getElem? (i := 32) rfl))
theorem cd_157_91 : mt_cd 157 91 = some (.invokevirtual 387) := mt_cd_of (q := (91, .invokevirtual 387, 3)) mq_157 ci_157 (List.mem_append_left _ (show _ ∈ my_157_0 from List.mem_of_getElem? (i := 33) rfl))
theorem cd_157_94 : mt_cd 157 94 = some (.ifCond .eq 7) := mt_cd_of (q := (94, .ifCond .eq 7, 3)) mq_157 ci_157 (List.mem_append_left _ (show _ ∈ my_157_0 from List.mem_of_getElem? (i := 34) rfl))
theorem cd_157_97 : mt_cd 157 97 = some (.iconst 1) := mt_cd_of (q := (97, .iconst 1, 1)) mq_157 ci_157 (List.mem_append_left _ (show _ ∈ my_157_0 from List.mem_of_getElem? (i := 35) rfl))
theorem cd_157_98 : mt_cd 157 98 = some (.goto 4) := mt_cd_of (q := (98, .goto 4, 3)) mq_157 ci_157 (List.mem_append_left _ (show _ ∈ my_157_0 from List.mem_of_getElem? (i := 36) rfl))
theorem cd_157_101 : mt_cd 157 101 = some (.iconst 0) := mt_cd_of (q := (101, .iconst 0, 1)) mq_157 ci_157 (List.mem_append_left _ (show _ ∈ my_157_0 from List.mem_of_getElem? (i := 37) rfl))
theorem cd_157_102 : mt_cd 157 102 = some (.invokevirtual 383) := mt_cd_of (q := (102, .invokevirtual 383, 3)) mq_157 ci_157 (List.mem_append_left _ (show _ ∈ my_157_0 from List.mem_of_getElem? (i := 38) rfl))
theorem cd_157_105 : mt_cd 157 105 = some (.ifCond .eq 63) := mt_cd_of (q := (105, .ifCond .eq 63, 3)) mq_157 ci_157 (List.mem_append_left _ (show _ ∈ my_157_0 from List.mem_of_getElem? (i := 39) rfl))
theorem cd_157_108 : mt_cd 157 108 = some (.aload_n 0) := mt_cd_of (q := (108, .aload_n 0, 1)) mq_157 ci_157 (List.mem_append_left _ (show _ ∈ my_157_0 from List.mem_of_getElem? (i := 40) rfl))
theorem cd_157_109 : mt_cd 157 109 = some (.getfield 83) := mt_cd_of (q := (109, .getfield 83, 3)) mq_157 ci_157 (List.mem_append_left _ (show _ ∈ my_157_0 from List.mem_of_getElem? (i := 41) rfl))
theorem cd_157_112 : mt_cd 157 112 = some (.iload_n 1) := mt_cd_of (q := (112, .iload_n 1, 1)) mq_157 ci_157 (List.mem_append_left _ (show _ ∈ my_157_0 from List.mem_of_getElem? (i := 42) rfl))
theorem cd_157_113 : mt_cd 157 113 = some (.aload_n 0) := mt_cd_of (q := (113, .aload_n 0, 1)) mq_157 ci_157 (List.mem_append_left _ (show _ ∈ my_157_0 from List.mem_of_getElem? (i := 43) rfl))
theorem cd_157_114 : mt_cd 157 114 = some (.invokevirtual 370) := mt_cd_of (q := (114, .invokevirtual 370, 3)) mq_157 ci_157 (List.mem_append_left _ (show _ ∈ my_157_0 from List.mem_of_getElem? (i := 44) rfl))
theorem cd_157_117 : mt_cd 157 117 = some (.dup_x2) := mt_cd_of (q := (117, .dup_x2, 1)) mq_157 ci_157 (List.mem_append_left _ (show _ ∈ my_157_0 from List.mem_of_getElem? (i := 45) rfl))
theorem cd_157_118 : mt_cd 157 118 = some (.iastore) := mt_cd_of (q := (118, .iastore, 1)) mq_157 ci_157 (List.mem_append_left _ (show _ ∈ my_157_0 from List.mem_of_getElem? (i := 46) rfl))
theorem cd_157_119 : mt_cd 157 119 = some (.ifCond .lt 49) := mt_cd_of (q := (119, .ifCond .lt 49, 3)) mq_157 ci_157 (List.mem_append_left _ (show _ ∈ my_157_0 from List.mem_of_getElem? (i := 47) rfl))
theorem cd_157_122 : mt_cd 157 122 = some (.aload_n 0) := mt_cd_of (q := (122, .aload_n 0, 1)) mq_157 ci_157 (List.mem_append_left _ (show _ ∈ my_157_0 from List.mem_of_getElem? (i := 48) rfl))
theorem cd_157_123 : mt_cd 157 123 = some (.getfield 86) := mt_cd_of (q := (123, .getfield 86, 3)) mq_157 ci_157 (List.mem_append_left _ (show _ ∈ my_157_0 from List.mem_of_getElem? (i := 49) rfl))
theorem cd_157_126 : mt_cd 157 126 = some (.iload_n 1) := mt_cd_of (q := (126, .iload_n 1, 1)) mq_157 ci_157 (List.mem_append_left _ (show _ ∈ my_157_0 from List.mem_of_getElem? (i := 50) rfl))
theorem cd_157_127 : mt_cd 157 127 = some (.aload_n 0) := mt_cd_of (q := (127, .aload_n 0, 1)) mq_157 ci_157 (List.mem_append_left _ (show _ ∈ my_157_0 from List.mem_of_getElem? (i := 51) rfl))
theorem cd_157_128 : mt_cd 157 128 = some (.invokevirtual 396) := mt_cd_of (q := (128, .invokevirtual 396, 3)) mq_157 ci_157 (List.mem_append_left _ (show _ ∈ my_157_0 from List.mem_of_getElem? (i := 52) rfl))
theorem cd_157_131 : mt_cd 157 131 = some (.dup_x2) := mt_cd_of (q := (131, .dup_x2, 1)) mq_157 ci_157 (List.mem_append_left _ (show _ ∈ my_157_0 from List.mem_of_getElem? (i := 53) rfl))
theorem cd_157_132 : mt_cd 157 132 = some (.iastore) := mt_cd_of (q := (132, .iastore, 1)) mq_157 ci_157 (List.mem_append_left _ (show _ ∈ my_157_0 from List.mem_of_getElem? (i := 54) rfl))
theorem cd_157_133 : mt_cd 157 133 = some (.ifCond .lt 35) := mt_cd_of (q := (133, .ifCond .lt 35, 3)) mq_157 ci_157 (List.mem_append_left _ (show _ ∈ my_157_0 from List.mem_of_getElem? (i := 55) rfl))
theorem cd_157_136 : mt_cd 157 136 = some (.aload_n 0) := mt_cd_of (q := (136, .aload_n 0, 1)) mq_157 ci_157 (List.mem_append_left _ (show _ ∈ my_157_0 from List.mem_of_getElem? (i := 56) rfl))
theorem cd_157_137 : mt_cd 157 137 = some (.getfield 89) := mt_cd_of (q := (137, .getfield 89, 3)) mq_157 ci_157 (List.mem_append_left _ (show _ ∈ my_157_0 from List.mem_of_getElem? (i := 57) rfl))
theorem cd_157_140 : mt_cd 157 140 = some (.iload_n 1) := mt_cd_of (q := (140, .iload_n 1, 1)) mq_157 ci_157 (List.mem_append_left _ (show _ ∈ my_157_0 from List.mem_of_getElem? (i := 58) rfl))
theorem cd_157_141 : mt_cd 157 141 = some (.aload_n 0) := mt_cd_of (q := (141, .aload_n 0, 1)) mq_157 ci_157 (List.mem_append_left _ (show _ ∈ my_157_0 from List.mem_of_getElem? (i := 59) rfl))
theorem cd_157_142 : mt_cd 157 142 = some (.invokevirtual 399) := mt_cd_of (q := (142, .invokevirtual 399, 3)) mq_157 ci_157 (List.mem_append_right _ (List.mem_append_left _ (show _ ∈ my_157_1 from List.mem_of_getElem? (i := 0) rfl)))
theorem cd_157_145 : mt_cd 157 145 = some (.dup_x2) := mt_cd_of (q := (145, .dup_x2, 1)) mq_157 ci_157 (List.mem_append_right _ (List.mem_append_left _ (show _ ∈ my_157_1 from List.mem_of_getElem? (i := 1) rfl)))
theorem cd_157_146 : mt_cd 157 146 = some (.iastore) := mt_cd_of (q := (146, .iastore, 1)) mq_157 ci_157 (List.mem_append_right _ (List.mem_append_left _ (show _ ∈ my_157_1 from List.mem_of_getElem? (i := 2) rfl)))
theorem cd_157_147 : mt_cd 157 147 = some (.ifCond .lt 21) := mt_cd_of (q := (147, .ifCond .lt 21, 3)) mq_157 ci_157 (List.mem_append_right _ (List.mem_append_left _ (show _ ∈ my_157_1 from List.mem_of_getElem? (i := 3) rfl)))
theorem cd_157_150 : mt_cd 157 150 = some (.aload_n 0) := mt_cd_of (q := (150, .aload_n 0, 1)) mq_157 ci_157 (List.mem_append_right _ (List.mem_append_left _ (show _ ∈ my_157_1 from List.mem_of_getElem? (i := 4) rfl)))
theorem cd_157_151 : mt_cd 157 151 = some (.getfield 98) := mt_cd_of (q := (151, .getfield 98, 3)) mq_157 ci_157 (List.mem_append_right _ (List.mem_append_left _ (show _ ∈ my_157_1 from List.mem_of_getElem? (i := 5) rfl)))
theorem cd_157_154 : mt_cd 157 154 = some (.iload_n 1) := mt_cd_of (q := (154, .iload_n 1, 1)) mq_157 ci_157 (List.mem_append_right _ (List.mem_append_left _ (show _ ∈ my_157_1 from List.mem_of_getElem? (i := 6) rfl)))
theorem cd_157_155 : mt_cd 157 155 = some (.aload_n 0) := mt_cd_of (q := (155, .aload_n 0, 1)) mq_157 ci_157 (List.mem_append_right _ (List.mem_append_left _ (show _ ∈ my_157_1 from List.mem_of_getElem? (i := 7) rfl)))
theorem cd_157_156 : mt_cd 157 156 = some (.invokevirtual 355) := mt_cd_of (q := (156, .invokevirtual 355, 3)) mq_157 ci_157 (List.mem_append_right _ (List.mem_append_left _ (show _ ∈ my_157_1 from List.mem_of_getElem? (i := 8) rfl)))
theorem cd_157_159 : mt_cd 157 159 = some (.dup_x2) := mt_cd_of (q := (159, .dup_x2, 1)) mq_157 ci_157 (List.mem_append_right _ (List.mem_append_left _ (show _ ∈ my_157_1 from List.mem_of_getElem? (i := 9) rfl)))
theorem cd_157_160 : mt_cd 157 160 = some (.iastore) := mt_cd_of (q := (160, .iastore, 1)) mq_157 ci_157 (List.mem_append_right _ (List.mem_append_left _ (show _ ∈ my_157_1 from List.mem_of_getElem? (i := 10) rfl)))
theorem cd_157_161 : mt_cd 157 161 = some (.ifCond .lt 7) := mt_cd_of (q := (161, .ifCond .lt 7, 3)) mq_157 ci_157 (List.mem_append_right _ (List.mem_append_left _ (show _ ∈ my_157_1 from List.mem_of_getElem? (i := 11) rfl)))
theorem cd_157_164 : mt_cd 157 164 = some (.iconst 1) := mt_cd_of (q := (164, .iconst 1, 1)) mq_157 ci_157 (List.mem_append_right _ (List.mem_append_left _ (show _ ∈ my_157_1 from List.mem_of_getElem? (i := 12) rfl)))
theorem cd_157_165 : mt_cd 157 165 = some (.goto 4) := mt_cd_of (q := (165, .goto 4, 3)) mq_157 ci_157 (List.mem_append_right _ (List.mem_append_left _ (show _ ∈ my_157_1 from List.mem_of_getElem? (i := 13) rfl)))
theorem cd_157_168 : mt_cd 157 168 = some (.iconst 0) := mt_cd_of (q := (168, .iconst 0, 1)) mq_157 ci_157 (List.mem_append_right _ (List.mem_append_left _ (show _ ∈ my_157_1 from List.mem_of_getElem? (i := 14) rfl)))
theorem cd_157_169 : mt_cd 157 169 = some (.ireturn) := mt_cd_of (q := (169, .ireturn, 1)) mq_157 ci_157 (List.mem_append_right _ (List.mem_append_left _ (show _ ∈ my_157_1 from List.mem_of_getElem? (i := 15) rfl)))
theorem cd_157_170 : mt_cd 157 170 = some (.aload_n 0) := mt_cd_of (q := (170, .aload_n 0, 1)) mq_157 ci_157 (List.mem_append_right _ (List.mem_append_left _ (show _ ∈ my_157_1 from List.mem_of_getElem? (i := 16) rfl)))
theorem cd_157_171 : mt_cd 157 171 = some (.getfield 89) := mt_cd_of (q := (171, .getfield 89, 3)) mq_157 ci_157 (List.mem_append_right _ (List.mem_append_left _ (show _ ∈ my_157_1 from List.mem_of_getElem? (i := 17) rfl)))
theorem cd_157_174 : mt_cd 157 174 = some (.iload_n 1) := mt_cd_of (q := (174, .iload_n 1, 1)) mq_157 ci_157 (List.mem_append_right _ (List.mem_append_left _ (show _ ∈ my_157_1 from List.mem_of_getElem? (i := 18) rfl)))
theorem cd_157_175 : mt_cd 157 175 = some (.aload_n 0) := mt_cd_of (q := (175, .aload_n 0, 1)) mq_157 ci_157 (List.mem_append_right _ (List.mem_append_left _ (show _ ∈ my_157_1 from List.mem_of_getElem? (i := 19) rfl)))
theorem cd_157_176 : mt_cd 157 176 = some (.invokevirtual 401) := mt_cd_of (q := (176, .invokevirtual 401, 3)) mq_157 ci_157 (List.mem_append_right _ (List.mem_append_left _ (show _ ∈ my_157_1 from List.mem_of_getElem? (i := 20) rfl)))
theorem cd_157_179 : mt_cd 157 179 = some (.dup_x2) := mt_cd_of (q := (179, .dup_x2, 1)) mq_157 ci_157 (List.mem_append_right _ (List.mem_append_left _ (show _ ∈ my_157_1 from List.mem_of_getElem? (i := 21) rfl)))
theorem cd_157_180 : mt_cd 157 180 = some (.iastore) := mt_cd_of (q := (180, .iastore, 1)) mq_157 ci_157 (List.mem_append_right _ (List.mem_append_left _ (show _ ∈ my_157_1 from List.mem_of_getElem? (i := 22) rfl)))
theorem cd_157_181 : mt_cd 157 181 = some (.ifCond .lt 35) := mt_cd_of (q := (181, .ifCond .lt 35, 3)) mq_157 ci_157 (List.mem_append_right _ (List.mem_append_left _ (show _ ∈ my_157_1 from List.mem_of_getElem? (i := 23) rfl)))
theorem cd_157_184 : mt_cd 157 184 = some (.aload_n 0) := mt_cd_of (q := (184, .aload_n 0, 1)) mq_157 ci_157 (List.mem_append_right _ (List.mem_append_left _ (show _ ∈ my_157_1 from List.mem_of_getElem? (i := 24) rfl)))
theorem cd_157_185 : mt_cd 157 185 = some (.getfield 80) := mt_cd_of (q := (185, .getfield 80, 3)) mq_157 ci_157 (List.mem_append_right _ (List.mem_append_left _ (show _ ∈ my_157_1 from List.mem_of_getElem? (i := 25) rfl)))
theorem cd_157_188 : mt_cd 157 188 = some (.iload_n 1) := mt_cd_of (q := (188, .iload_n 1, 1)) mq_157 ci_157 (List.mem_append_right _ (List.mem_append_left _ (show _ ∈ my_157_1 from List.mem_of_getElem? (i := 26) rfl)))
theorem cd_157_189 : mt_cd 157 189 = some (.aload_n 0) := mt_cd_of (q := (189, .aload_n 0, 1)) mq_157 ci_157 (List.mem_append_right _ (List.mem_append_left _ (show _ ∈ my_157_1 from List.mem_of_getElem? (i := 27) rfl)))
theorem cd_157_190 : mt_cd 157 190 = some (.invokevirtual 355) := mt_cd_of (q := (190, .invokevirtual 355, 3)) mq_157 ci_157 (List.mem_append_right _ (List.mem_append_left _ (show _ ∈ my_157_1 from List.mem_of_getElem? (i := 28) rfl)))
theorem cd_157_193 : mt_cd 157 193 = some (.dup_x2) := mt_cd_of (q := (193, .dup_x2, 1)) mq_157 ci_157 (List.mem_append_right _ (List.mem_append_left _ (show _ ∈ my_157_1 from List.mem_of_getElem? (i := 29) rfl)))
theorem cd_157_194 : mt_cd 157 194 = some (.iastore) := mt_cd_of (q := (194, .iastore, 1)) mq_157 ci_157 (List.mem_append_right _ (List.mem_append_left _ (show _ ∈ my_157_1 from List.mem_of_getElem? (i := 30) rfl)))
theorem cd_157_195 : mt_cd 157 195 = some (.ifCond .lt 21) := mt_cd_of (q := (195, .ifCond .lt 21, 3)) mq_157 ci_157 (List.mem_append_right _ (List.mem_append_left _ (show _ ∈ my_157_1 from List.mem_of_getElem? (i := 31) rfl)))
theorem cd_157_198 : mt_cd 157 198 = some (.aload_n 0) := mt_cd_of (q := (198, .aload_n 0, 1)) mq_157 ci_157 (List.mem_append_right _ (List.mem_append_left _ (show _ ∈ my_157_1 from List.mem_of_getElem? (i := 32) rfl)))
theorem cd_157_199 : mt_cd 157 199 = some (.getfield 83) := mt_cd_of (q := (199, .getfield 83, 3)) mq_157 ci_157 (List.mem_append_right _ (List.mem_append_left _ (show _ ∈ my_157_1 from List.mem_of_getElem? (i := 33) rfl)))
theorem cd_157_202 : mt_cd 157 202 = some (.iload_n 1) := mt_cd_of (q := (202, .iload_n 1, 1)) mq_157 ci_157 (List.mem_append_right _ (List.mem_append_left _ (show _ ∈ my_157_1 from List.mem_of_getElem? (i := 34) rfl)))
theorem cd_157_203 : mt_cd 157 203 = some (.aload_n 0) := mt_cd_of (q := (203, .aload_n 0, 1)) mq_157 ci_157 (List.mem_append_right _ (List.mem_append_left _ (show _ ∈ my_157_1 from List.mem_of_getElem? (i := 35) rfl)))
theorem cd_157_204 : mt_cd 157 204 = some (.invokevirtual 355) := mt_cd_of (q := (204, .invokevirtual 355, 3)) mq_157 ci_157 (List.mem_append_right _ (List.mem_append_left _ (show _ ∈ my_157_1 from List.mem_of_getElem? (i := 36) rfl)))
theorem cd_157_207 : mt_cd 157 207 = some (.dup_x2) := mt_cd_of (q := (207, .dup_x2, 1)) mq_157 ci_157 (List.mem_append_right _ (List.mem_append_left _ (show _ ∈ my_157_1 from List.mem_of_getElem? (i := 37) rfl)))
theorem cd_157_208 : mt_cd 157 208 = some (.iastore) := mt_cd_of (q := (208, .iastore, 1)) mq_157 ci_157 (List.mem_append_right _ (List.mem_append_left _ (show _ ∈ my_157_1 from List.mem_of_getElem? (i := 38) rfl)))
theorem cd_157_209 : mt_cd 157 209 = some (.ifCond .lt 7) := mt_cd_of (q := (209, .ifCond .lt 7, 3)) mq_157 ci_157 (List.mem_append_right _ (List.mem_append_left _ (show _ ∈ my_157_1 from List.mem_of_getElem? (i := 39) rfl)))
theorem cd_157_212 : mt_cd 157 212 = some (.iconst 1) := mt_cd_of (q := (212, .iconst 1, 1)) mq_157 ci_157 (List.mem_append_right _ (List.mem_append_left _ (show _ ∈ my_157_1 from List.mem_of_getElem? (i := 40) rfl)))
theorem cd_157_213 : mt_cd 157 213 = some (.goto 4) := mt_cd_of (q := (213, .goto 4, 3)) mq_157 ci_157 (List.mem_append_right _ (List.mem_append_left _ (show _ ∈ my_157_1 from List.mem_of_getElem? (i := 41) rfl)))
theorem cd_157_216 : mt_cd 157 216 = some (.iconst 0) := mt_cd_of (q := (216, .iconst 0, 1)) mq_157 ci_157 (List.mem_append_right _ (List.mem_append_left _ (show _ ∈ my_157_1 from List.mem_of_getElem? (i := 42) rfl)))
theorem cd_157_217 : mt_cd 157 217 = some (.ireturn) := mt_cd_of (q := (217, .ireturn, 1)) mq_157 ci_157 (List.mem_append_right _ (List.mem_append_left _ (show _ ∈ my_157_1 from List.mem_of_getElem? (i := 43) rfl)))
theorem cd_157_218 : mt_cd 157 218 = some (.aload_n 0) := mt_cd_of (q := (218, .aload_n 0, 1)) mq_157 ci_157 (List.mem_append_right _ (List.mem_append_left _ (show _ ∈ my_157_1 from List.mem_of_getElem? (i := 44) rfl)))
theorem cd_157_219 : mt_cd 157 219 = some (.iload_n 1) := mt_cd_of (q := (219, .iload_n 1, 1)) mq_157 ci_157 (List.mem_append_right _ (List.mem_append_left _ (show _ ∈ my_157_1 from List.mem_of_getElem? (i := 45) rfl)))
theorem cd_157_220 : mt_cd 157 220 = some (.invokevirtual 404) := mt_cd_of (q := (220, .invokevirtual 404, 3)) mq_157 ci_157 (List.mem_append_right _ (List.mem_append_left _ (show _ ∈ my_157_1 from List.mem_of_getElem? (i := 46) rfl)))
theorem cd_157_223 : mt_cd 157 223 = some (.ireturn) := mt_cd_of (q := (223, .ireturn, 1)) mq_157 ci_157 (List.mem_append_right _ (List.mem_append_left _ (show _ ∈ my_157_1 from List.mem_of_getElem? (i := 47) rfl)))
theorem cd_157_224 : mt_cd 157 224 = some (.aload_n 0) := mt_cd_of (q := (224, .aload_n 0, 1)) mq_157 ci_157 (List.mem_append_right _ (List.mem_append_left _ (show _ ∈ my_157_1 from List.mem_of_getElem? (i := 48) rfl)))
theorem cd_157_225 : mt_cd 157 225 = some (.getfield 80) := mt_cd_of (q := (225, .getfield 80, 3)) mq_157 ci_157 (List.mem_append_right _ (List.mem_append_left _ (show _ ∈ my_157_1 from List.mem_of_getElem? (i := 49) rfl)))
theorem cd_157_228 : mt_cd 157 228 = some (.iload_n 1) := mt_cd_of (q := (228, .iload_n 1, 1)) mq_157 ci_157 (List.mem_append_right _ (List.mem_append_left _ (show _ ∈ my_157_1 from List.mem_of_getElem? (i := 50) rfl)))
theorem cd_157_229 : mt_cd 157 229 = some (.aload_n 0) := mt_cd_of (q := (229, .aload_n 0, 1)) mq_157 ci_157 (List.mem_append_right _ (List.mem_append_left _ (show _ ∈ my_157_1 from List.mem_of_getElem? (i := 51) rfl)))
theorem cd_157_230 : mt_cd 157 230 = some (.invokevirtual 406) := mt_cd_of (q := (230, .invokevirtual 406, 3)) mq_157 ci_157 (List.mem_append_right _ (List.mem_append_left _ (show _ ∈ my_157_1 from List.mem_of_getElem? (i := 52) rfl)))
theorem cd_157_233 : mt_cd 157 233 = some (.dup_x2) := mt_cd_of (q := (233, .dup_x2, 1)) mq_157 ci_157 (List.mem_append_right _ (List.mem_append_left _ (show _ ∈ my_157_1 from List.mem_of_getElem? (i := 53) rfl)))
theorem cd_157_234 : mt_cd 157 234 = some (.iastore) := mt_cd_of (q := (234, .iastore, 1)) mq_157 ci_157 (List.mem_append_right _ (List.mem_append_left _ (show _ ∈ my_157_1 from List.mem_of_getElem? (i := 54) rfl)))
theorem cd_157_235 : mt_cd 157 235 = some (.ifCond .lt 35) := mt_cd_of (q := (235, .ifCond .lt 35, 3)) mq_157 ci_157 (List.mem_append_right _ (List.mem_append_left _ (show _ ∈ my_157_1 from List.mem_of_getElem? (i := 55) rfl)))
theorem cd_157_238 : mt_cd 157 238 = some (.aload_n 0) := mt_cd_of (q := (238, .aload_n 0, 1)) mq_157 ci_157 (List.mem_append_right _ (List.mem_append_left _ (show _ ∈ my_157_1 from List.mem_of_getElem? (i := 56) rfl)))
theorem cd_157_239 : mt_cd 157 239 = some (.getfield 89) := mt_cd_of (q := (239, .getfield 89, 3)) mq_157 ci_157 (List.mem_append_right _ (List.mem_append_left _ (show _ ∈ my_157_1 from List.mem_of_getElem? (i := 57) rfl)))
theorem cd_157_242 : mt_cd 157 242 = some (.iload_n 1) := mt_cd_of (q := (242, .iload_n 1, 1)) mq_157 ci_157 (List.mem_append_right _ (List.mem_append_left _ (show _ ∈ my_157_1 from List.mem_of_getElem? (i := 58) rfl)))
theorem cd_157_243 : mt_cd 157 243 = some (.aload_n 0) := mt_cd_of (q := (243, .aload_n 0, 1)) mq_157 ci_157 (List.mem_append_right _ (List.mem_append_left _ (show _ ∈ my_157_1 from List.mem_of_getElem? (i := 59) rfl)))
theorem cd_157_244 : mt_cd 157 244 = some (.invokevirtual 399) := mt_cd_of (q := (244, .invokevirtual 399, 3)) mq_157 ci_157 (List.mem_append_right _ (List.mem_append_right _ ((show _ ∈ my_157_2 from List.mem_of_getElem? (i := 0) rfl))))
theorem cd_157_247 : mt_cd 157 247 = some (.dup_x2) := mt_cd_of (q := (247, .dup_x2, 1)) mq_157 ci_157 (List.mem_append_right _ (List.mem_append_right _ ((show _ ∈ my_157_2 from List.mem_of_getElem? (i := 1) rfl))))
theorem cd_157_248 : mt_cd 157 248 = some (.iastore) := mt_cd_of (q := (248, .iastore, 1)) mq_157 ci_157 (List.mem_append_right _ (List.mem_append_right _ ((show _ ∈ my_157_2 from List.mem_of_getElem? (i := 2) rfl))))
theorem cd_157_249 : mt_cd 157 249 = some (.ifCond .lt 21) := mt_cd_of (q := (249, .ifCond .lt 21, 3)) mq_157 ci_157 (List.mem_append_right _ (List.mem_append_right _ ((show _ ∈ my_157_2 from List.mem_of_getElem? (i := 3) rfl))))
theorem cd_157_252 : mt_cd 157 252 = some (.aload_n 0) := mt_cd_of (q := (252, .aload_n 0, 1)) mq_157 ci_157 (List.mem_append_right _ (List.mem_append_right _ ((show _ ∈ my_157_2 from List.mem_of_getElem? (i := 4) rfl))))
theorem cd_157_253 : mt_cd 157 253 = some (.getfield 98) := mt_cd_of (q := (253, .getfield 98, 3)) mq_157 ci_157 (List.mem_append_right _ (List.mem_append_right _ ((show _ ∈ my_157_2 from List.mem_of_getElem? (i := 5) rfl))))
theorem cd_157_256 : mt_cd 157 256 = some (.iload_n 1) := mt_cd_of (q := (256, .iload_n 1, 1)) mq_157 ci_157 (List.mem_append_right _ (List.mem_append_right _ ((show _ ∈ my_157_2 from List.mem_of_getElem? (i := 6) rfl))))
theorem cd_157_257 : mt_cd 157 257 = some (.aload_n 0) := mt_cd_of (q := (257, .aload_n 0, 1)) mq_157 ci_157 (List.mem_append_right _ (List.mem_append_right _ ((show _ ∈ my_157_2 from List.mem_of_getElem? (i := 7) rfl))))
theorem cd_157_258 : mt_cd 157 258 = some (.invokevirtual 355) := mt_cd_of (q := (258, .invokevirtual 355, 3)) mq_157 ci_157 (List.mem_append_right _ (List.mem_append_right _ ((show _ ∈ my_157_2 from List.mem_of_getElem? (i := 8) rfl))))
theorem cd_157_261 : mt_cd 157 261 = some (.dup_x2) := mt_cd_of (q := (261, .dup_x2, 1)) mq_157 ci_157 (List.mem_append_right _ (List.mem_append_right _ ((show _ ∈ my_157_2 from List.mem_of_getElem? (i := 9) rfl))))
theorem cd_157_262 : mt_cd 157 262 = some (.iastore) := mt_cd_of (q := (262, .iastore, 1)) mq_157 ci_157 (List.mem_append_right _ (List.mem_append_right _ ((show _ ∈ my_157_2 from List.mem_of_getElem? (i := 10) rfl))))
theorem cd_157_263 : mt_cd 157 263 = some (.ifCond .lt 7) := mt_cd_of (q := (263, .ifCond .lt 7, 3)) mq_157 ci_157 (List.mem_append_right _ (List.mem_append_right _ ((show _ ∈ my_157_2 from List.mem_of_getElem? (i := 11) rfl))))
theorem cd_157_266 : mt_cd 157 266 = some (.iconst 1) := mt_cd_of (q := (266, .iconst 1, 1)) mq_157 ci_157 (List.mem_append_right _ (List.mem_append_right _ ((show _ ∈ my_157_2 from List.mem_of_getElem? (i := 12) rfl))))
theorem cd_157_267 : mt_cd 157 267 = some (.goto 4) := mt_cd_of (q := (267, .goto 4, 3)) mq_157 ci_157 (List.mem_append_right _ (List.mem_append_right _ ((show _ ∈ my_157_2 from List.mem_of_getElem? (i := 13) rfl))))
theorem cd_157_270 : mt_cd 157 270 = some (.iconst 0) := mt_cd_of (q := (270, .iconst 0, 1)) mq_157 ci_157 (List.mem_append_right _ (List.mem_append_right _ ((show _ ∈ my_157_2 from List.mem_of_getElem? (i := 14) rfl))))
theorem cd_157_271 : mt_cd 157 271 = some (.ireturn) := mt_cd_of (q := (271, .ireturn, 1)) mq_157 ci_157 (List.mem_append_right _ (List.mem_append_right _ ((show _ ∈ my_157_2 from List.mem_of_getElem? (i := 15) rfl))))
theorem cd_157_272 : mt_cd 157 272 = some (.aload_n 0) := mt_cd_of (q := (272, .aload_n 0, 1)) mq_157 ci_157 (List.mem_append_right _ (List.mem_append_right _ ((show _ ∈ my_157_2 from List.mem_of_getElem? (i := 16) rfl))))
theorem cd_157_273 : mt_cd 157 273 = some (.getfield 89) := mt_cd_of (q := (273, .getfield 89, 3)) mq_157 ci_157 (List.mem_append_right _ (List.mem_append_right _ ((show _ ∈ my_157_2 from List.mem_of_getElem? (i := 17) rfl))))
theorem cd_157_276 : mt_cd 157 276 = some (.iload_n 1) := mt_cd_of (q := (276, .iload_n 1, 1)) mq_157 ci_157 (List.mem_append_right _ (List.mem_append_right _ ((show _ ∈ my_157_2 from List.mem_of_getElem? (i := 18) rfl))))
theorem cd_157_277 : mt_cd 157 277 = some (.aload_n 0) := mt_cd_of (q := (277, .aload_n 0, 1)) mq_157 ci_157 (List.mem_append_right _ (List.mem_append_right _ ((show _ ∈ my_157_2 from List.mem_of_getElem? (i := 19) rfl))))
theorem cd_157_278 : mt_cd 157 278 = some (.invokevirtual 401) := mt_cd_of (q := (278, .invokevirtual 401, 3)) mq_157 ci_157 (List.mem_append_right _ (List.mem_append_right _ ((show _ ∈ my_157_2 from List.mem_of_getElem? (i := 20) rfl))))
theorem cd_157_281 : mt_cd 157 281 = some (.dup_x2) := mt_cd_of (q := (281, .dup_x2, 1)) mq_157 ci_157 (List.mem_append_right _ (List.mem_append_right _ ((show _ ∈ my_157_2 from List.mem_of_getElem? (i := 21) rfl))))
theorem cd_157_282 : mt_cd 157 282 = some (.iastore) := mt_cd_of (q := (282, .iastore, 1)) mq_157 ci_157 (List.mem_append_right _ (List.mem_append_right _ ((show _ ∈ my_157_2 from List.mem_of_getElem? (i := 22) rfl))))
theorem cd_157_283 : mt_cd 157 283 = some (.ifCond .lt 21) := mt_cd_of (q := (283, .ifCond .lt 21, 3)) mq_157 ci_157 (List.mem_append_right _ (List.mem_append_right _ ((show _ ∈ my_157_2 from List.mem_of_getElem? (i := 23) rfl))))
theorem cd_157_286 : mt_cd 157 286 = some (.aload_n 0) := mt_cd_of (q := (286, .aload_n 0, 1)) mq_157 ci_157 (List.mem_append_right _ (List.mem_append_right _ ((show _ ∈ my_157_2 from List.mem_of_getElem? (i := 24) rfl))))
theorem cd_157_287 : mt_cd 157 287 = some (.getfield 98) := mt_cd_of (q := (287, .getfield 98, 3)) mq_157 ci_157 (List.mem_append_right _ (List.mem_append_right _ ((show _ ∈ my_157_2 from List.mem_of_getElem? (i := 25) rfl))))
theorem cd_157_290 : mt_cd 157 290 = some (.iload_n 1) := mt_cd_of (q := (290, .iload_n 1, 1)) mq_157 ci_157 (List.mem_append_right _ (List.mem_append_right _ ((show _ ∈ my_157_2 from List.mem_of_getElem? (i := 26) rfl))))
theorem cd_157_291 : mt_cd 157 291 = some (.aload_n 0) := mt_cd_of (q := (291, .aload_n 0, 1)) mq_157 ci_157 (List.mem_append_right _ (List.mem_append_right _ ((show _ ∈ my_157_2 from List.mem_of_getElem? (i := 27) rfl))))
theorem cd_157_292 : mt_cd 157 292 = some (.invokevirtual 355) := mt_cd_of (q := (292, .invokevirtual 355, 3)) mq_157 ci_157 (List.mem_append_right _ (List.mem_append_right _ ((show _ ∈ my_157_2 from List.mem_of_getElem? (i := 28) rfl))))
theorem cd_157_295 : mt_cd 157 295 = some (.dup_x2) := mt_cd_of (q := (295, .dup_x2, 1)) mq_157 ci_157 (List.mem_append_right _ (List.mem_append_right _ ((show _ ∈ my_157_2 from List.mem_of_getElem? (i := 29) rfl))))
theorem cd_157_296 : mt_cd 157 296 = some (.iastore) := mt_cd_of (q := (296, .iastore, 1)) mq_157 ci_157 (List.mem_append_right _ (List.mem_append_right _ ((show _ ∈ my_157_2 from List.mem_of_getElem? (i := 30) rfl))))
theorem cd_157_297 : mt_cd 157 297 = some (.ifCond .lt 7) := mt_cd_of (q := (297, .ifCond .lt 7, 3)) mq_157 ci_157 (List.mem_append_right _ (List.mem_append_right _ ((show _ ∈ my_157_2 from List.mem_of_getElem? (i := 31) rfl))))
theorem cd_157_300 : mt_cd 157 300 = some (.iconst 1) := mt_cd_of (q := (300, .iconst 1, 1)) mq_157 ci_157 (List.mem_append_right _ (List.mem_append_right _ ((show _ ∈ my_157_2 from List.mem_of_getElem? (i := 32) rfl))))
theorem cd_157_301 : mt_cd 157 301 = some (.goto 4) := mt_cd_of (q := (301, .goto 4, 3)) mq_157 ci_157 (List.mem_append_right _ (List.mem_append_right _ ((show _ ∈ my_157_2 from List.mem_of_getElem? (i := 33) rfl))))
theorem cd_157_304 : mt_cd 157 304 = some (.iconst 0) := mt_cd_of (q := (304, .iconst 0, 1)) mq_157 ci_157 (List.mem_append_right _ (List.mem_append_right _ ((show _ ∈ my_157_2 from List.mem_of_getElem? (i := 34) rfl))))
theorem cd_157_305 : mt_cd 157 305 = some (.ireturn) := mt_cd_of (q := (305, .ireturn, 1)) mq_157 ci_157 (List.mem_append_right _ (List.mem_append_right _ ((show _ ∈ my_157_2 from List.mem_of_getElem? (i := 35) rfl))))
theorem b_157_0 {d : Nat} {Q : (Option Value ⊕ Nat) → mi_H → Prop} (n sl : Nat) (f : Nat → mi_C) {l1 : Nat} {l2 : Int32} {fs3 : List Value} {x6 : Nat} (m8 i8 : Nat) (g8 : Nat → Int32) {t12 : Nat} (h4 : f l1 = .inr (12, fs3)) (h5 : l1 < n) (h7 : fs3[12]? = some (.ref x6)) (h9 : f x6 = .inl (0, m8, .inl g8)) (h10 : x6 < n ∨ x6 = mi_SC) (h11 : mi_ix l2 m8 i8) (h13 : mi_ts 6 266 0 5 #[38, 40, 266, 164, 212, 218] ((g8 i8) : Int32).toInt = some t12) (h14 : mi_W d 157 t12 [some (.ref l1), some (.int l2)] [] (n, sl, f) Q) : mi_W d 157 0 [some (.ref l1), some (.int l2)] [] (n, sl, f) Q := by
  refine w_aload_n cd_157_0 rfl ?_
  refine w_getfield cd_157_1 (show mt_f 12 77 = some (12, 12) by decide +kernel) h4 h5 h7 ?_
  refine w_iload_n cd_157_4 rfl ?_
  refine w_iaload cd_157_5 h9 h10 h11 ?_
  exact w_tableswitch cd_157_6 h13 h14
theorem b_157_44 {d : Nat} {Q : (Option Value ⊕ Nat) → mi_H → Prop} (n sl : Nat) (f : Nat → mi_C) {l1 : Nat} {l2 : Int32} (h3 : Q (.inl (some (.int 1))) (n, sl, f)) : mi_W d 157 44 [some (.ref l1), some (.int l2)] [] (n, sl, f) Q := by
  refine w_iconst (v := 1) cd_157_44 (by decide) ?_
  exact w_ireturn_z cd_157_45 (by decide +kernel) (by decide) h3
theorem b_157_46 {d : Nat} {Q : (Option Value ⊕ Nat) → mi_H → Prop} (n sl : Nat) (f : Nat → mi_C) {l1 : Nat} {l2 : Int32} {fs3 : List Value} {x6 : Nat} {fs8 : List Value} (h4 : f l1 = .inr (12, fs3)) (h5 : l1 < n) (h7 : fs3[13]? = some (.ref x6)) (h9 : f l1 = .inr (12, fs8)) (h10 : l1 < n) (h11 : mi_W d 158 0 (mi_en 2 [.ref l1]) [] (n, sl, f) (mi_Kc d 157 52 [some (.ref l1), some (.int l2)] [.int l2, .ref x6] Q)) : mi_W (d + 1) 157 46 [some (.ref l1), some (.int l2)] [] (n, sl, f) Q := by
  refine w_aload_n cd_157_46 rfl ?_
  refine w_getfield cd_157_47 (show mt_f 12 80 = some (12, 13) by decide +kernel) h4 h5 h7 ?_
  refine w_iload_n cd_157_50 rfl ?_
  refine w_aload_n cd_157_51 rfl ?_
  exact w_invokevirtual cd_157_52 (show mt_m 12 370 = some (158, 0) by decide +kernel) (rest := [.int l2, .ref x6]) rfl (as := [.ref l1]) rfl h9 (Or.inl h10) ⟨Nat.le_of_ble_eq_true rfl, Nat.le_of_ble_eq_true rfl, Nat.le_of_ble_eq_true rfl⟩ h11
theorem b_157_55 {d : Nat} {Q : (Option Value ⊕ Nat) → mi_H → Prop} (n sl : Nat) (f : Nat → mi_C) {l1 : Nat} {l2 : Int32} {s3 : Int32} {s4 : Int32} {s5 : Nat} (m6 i6 : Nat) (g6 : Nat → Int32) (h7 : f s5 = .inl (0, m6, .inl g6)) (h8 : s5 < n) (h9 : mi_ix s4 m6 i6) (h10 : (0 : Int32) ≤ s3 → mi_W d 157 62 [some (.ref l1), some (.int l2)] [] (n, sl, (va_up f s5 (.inl (0, m6, .inl (upd g6 i6 s3))))) Q) (h11 : ¬ ((0 : Int32) ≤ s3) → mi_W d 157 60 [some (.ref l1), some (.int l2)] [] (n, sl, (va_up f s5 (.inl (0, m6, .inl (upd g6 i6 s3))))) Q) : mi_W d 157 55 [some (.ref l1), some (.int l2)] [.int s3, .int s4, .ref s5] (n, sl, f) Q := by
  refine w_dup_x2_iir cd_157_55 ?_
  refine w_iastore cd_157_56 h7 h8 h9 ?_
  exact w_ifge cd_157_57 (by decide) h10 h11
theorem b_157_60 {d : Nat} {Q : (Option Value ⊕ Nat) → mi_H → Prop} (n sl : Nat) (f : Nat → mi_C) {l1 : Nat} {l2 : Int32} (h3 : Q (.inl (some (.int 0))) (n, sl, f)) : mi_W d 157 60 [some (.ref l1), some (.int l2)] [] (n, sl, f) Q := by
  refine w_iconst (v := 0) cd_157_60 (by decide) ?_
  exact w_ireturn_z cd_157_61 (by decide +kernel) (by decide) h3
theorem b_157_62 {d : Nat} {Q : (Option Value ⊕ Nat) → mi_H → Prop} (n sl : Nat) (f : Nat → mi_C) {l1 : Nat} {l2 : Int32} {fs3 : List Value} (h4 : f l1 = .inr (12, fs3)) (h5 : l1 < n) (h6 : mi_W d 155 0 (mi_en 2 [.ref l1, .ref (mi_SC + 1 + 2 * 19)]) [] (n, sl, f) (mi_Kc d 157 65 [some (.ref l1), some (.int l2)] [] Q)) : mi_W (d + 1) 157 62 [some (.ref l1), some (.int l2)] [] (n, sl, f) Q := by
  refine w_aload_n cd_157_62 rfl ?_
  refine w_ldc (n := 19) cd_157_63 (by decide +kernel) ?_
  exact w_invokevirtual cd_157_65 (show mt_m 12 387 = some (155, 0) by decide +kernel) (rest := []) rfl (as := [.ref l1, .ref (mi_SC + 1 + 2 * 19)]) rfl h4 (Or.inl h5) ⟨Nat.le_of_ble_eq_true rfl, Nat.le_of_ble_eq_true rfl, Nat.le_of_ble_eq_true rfl⟩ h6
theorem b_157_68 {d : Nat} {Q : (Option Value ⊕ Nat) → mi_H → Prop} (n sl : Nat) (f : Nat → mi_C) {l1 : Nat} {l2 : Int32} {s3 : Int32} (h4 : s3 = (0 : Int32) → mi_W d 157 78 [some (.ref l1), some (.int l2)] [] (n, sl, f) Q) (h5 : ¬ (s3 = (0 : Int32)) → mi_W d 157 71 [some (.ref l1), some (.int l2)] [] (n, sl, f) Q) : mi_W d 157 68 [some (.ref l1), some (.int l2)] [.int s3] (n, sl, f) Q := by
  exact w_ifeq cd_157_68 (by decide) h4 h5
theorem b_157_71 {d : Nat} {Q : (Option Value ⊕ Nat) → mi_H → Prop} (n sl : Nat) (f : Nat → mi_C) {l1 : Nat} {l2 : Int32} {fs3 : List Value} {x6 : Nat} (m8 i8 : Nat) (g8 : Nat → Int32) (h4 : f l1 = .inr (12, fs3)) (h5 : l1 < n) (h7 : fs3[12]? = some (.ref x6)) (h9 : f x6 = .inl (0, m8, .inl g8)) (h10 : x6 < n) (h11 : mi_ix l2 m8 i8) (h12 : mi_W d 157 78 [some (.ref l1), some (.int l2)] [] (n, sl, (va_up f x6 (.inl (0, m8, .inl (upd g8 i8 2))))) Q) : mi_W d 157 71 [some (.ref l1), some (.int l2)] [] (n, sl, f) Q := by
  refine w_aload_n cd_157_71 rfl ?_
  refine w_getfield cd_157_72 (show mt_f 12 77 = some (12, 12) by decide +kernel) h4 h5 h7 ?_
  refine w_iload_n cd_157_75 rfl ?_
  refine w_iconst (v := 2) cd_157_76 (by decide) ?_
  refine w_iastore cd_157_77 h9 h10 h11 ?_
  exact h12
theorem b_157_78 {d : Nat} {Q : (Option Value ⊕ Nat) → mi_H → Prop} (n sl : Nat) (f : Nat → mi_C) {l1 : Nat} {l2 : Int32} {fs3 : List Value} (h4 : f l1 = .inr (12, fs3)) (h5 : l1 < n) (h6 : mi_W d 155 0 (mi_en 2 [.ref l1, .ref (mi_SC + 1 + 2 * 18)]) [] (n, sl, f) (mi_Kc d 157 82 [some (.ref l1), some (.int l2)] [.ref l1] Q)) : mi_W (d + 1) 157 78 [some (.ref l1), some (.int l2)] [] (n, sl, f) Q := by
  refine w_aload_n cd_157_78 rfl ?_
  refine w_aload_n cd_157_79 rfl ?_
  refine w_ldc (n := 18) cd_157_80 (by decide +kernel) ?_
  exact w_invokevirtual cd_157_82 (show mt_m 12 387 = some (155, 0) by decide +kernel) (rest := [.ref l1]) rfl (as := [.ref l1, .ref (mi_SC + 1 + 2 * 18)]) rfl h4 (Or.inl h5) ⟨Nat.le_of_ble_eq_true rfl, Nat.le_of_ble_eq_true rfl, Nat.le_of_ble_eq_true rfl⟩ h6
theorem b_157_85 {d : Nat} {Q : (Option Value ⊕ Nat) → mi_H → Prop} (n sl : Nat) (f : Nat → mi_C) {l1 : Nat} {l2 : Int32} {s3 : Int32} {s4 : Nat} (h5 : ¬ s3 = (0 : Int32) → mi_W d 157 97 [some (.ref l1), some (.int l2)] [.ref s4] (n, sl, f) Q) (h6 : ¬ (¬ s3 = (0 : Int32)) → mi_W d 157 88 [some (.ref l1), some (.int l2)] [.ref s4] (n, sl, f) Q) : mi_W d 157 85 [some (.ref l1), some (.int l2)] [.int s3, .ref s4] (n, sl, f) Q := by
  exact w_ifne cd_157_85 (by decide) h5 h6
theorem b_157_88 {d : Nat} {Q : (Option Value ⊕ Nat) → mi_H → Prop} (n sl : Nat) (f : Nat → mi_C) {l1 : Nat} {l2 : Int32} {s3 : Nat} {fs4 : List Value} (h5 : f l1 = .inr (12, fs4)) (h6 : l1 < n) (h7 : mi_W d 155 0 (mi_en 2 [.ref l1, .ref (mi_SC + 1 + 2 * 19)]) [] (n, sl, f) (mi_Kc d 157 91 [some (.ref l1), some (.int l2)] [.ref s3] Q)) : mi_W (d + 1) 157 88 [some (.ref l1), some (.int l2)] [.ref s3] (n, sl, f) Q := by
  refine w_aload_n cd_157_88 rfl ?_
  refine w_ldc (n := 19) cd_157_89 (by decide +kernel) ?_
  exact w_invokevirtual cd_157_91 (show mt_m 12 387 = some (155, 0) by decide +kernel) (rest := [.ref s3]) rfl (as := [.ref l1, .ref (mi_SC + 1 + 2 * 19)]) rfl h5 (Or.inl h6) ⟨Nat.le_of_ble_eq_true rfl, Nat.le_of_ble_eq_true rfl, Nat.le_of_ble_eq_true rfl⟩ h7
theorem b_157_94 {d : Nat} {Q : (Option Value ⊕ Nat) → mi_H → Prop} (n sl : Nat) (f : Nat → mi_C) {l1 : Nat} {l2 : Int32} {s3 : Int32} {s4 : Nat} (h5 : s3 = (0 : Int32) → mi_W d 157 101 [some (.ref l1), some (.int l2)] [.ref s4] (n, sl, f) Q) (h6 : ¬ (s3 = (0 : Int32)) → mi_W d 157 97 [some (.ref l1), some (.int l2)] [.ref s4] (n, sl, f) Q) : mi_W d 157 94 [some (.ref l1), some (.int l2)] [.int s3, .ref s4] (n, sl, f) Q := by
  exact w_ifeq cd_157_94 (by decide) h5 h6
theorem b_157_97 {d : Nat} {Q : (Option Value ⊕ Nat) → mi_H → Prop} (n sl : Nat) (f : Nat → mi_C) {l1 : Nat} {l2 : Int32} {s3 : Nat} (h4 : mi_W d 157 102 [some (.ref l1), some (.int l2)] [.int 1, .ref s3] (n, sl, f) Q) : mi_W d 157 97 [some (.ref l1), some (.int l2)] [.ref s3] (n, sl, f) Q := by
  refine w_iconst (v := 1) cd_157_97 (by decide) ?_
  exact w_goto cd_157_98 (by decide) h4
theorem b_157_101 {d : Nat} {Q : (Option Value ⊕ Nat) → mi_H → Prop} (n sl : Nat) (f : Nat → mi_C) {l1 : Nat} {l2 : Int32} {s3 : Nat} (h4 : mi_W d 157 102 [some (.ref l1), some (.int l2)] [.int 0, .ref s3] (n, sl, f) Q) : mi_W d 157 101 [some (.ref l1), some (.int l2)] [.ref s3] (n, sl, f) Q := by
  refine w_iconst (v := 0) cd_157_101 (by decide) ?_
  exact h4
theorem b_157_102 {d : Nat} {Q : (Option Value ⊕ Nat) → mi_H → Prop} (n sl : Nat) (f : Nat → mi_C) {l1 : Nat} {l2 : Int32} {s3 : Int32} {s4 : Nat} {fs5 : List Value} (h6 : f s4 = .inr (12, fs5)) (h7 : s4 < n) (h8 : mi_W d 154 0 (mi_en 2 [.ref s4, .int s3]) [] (n, sl, f) (mi_Kc d 157 102 [some (.ref l1), some (.int l2)] [] Q)) : mi_W (d + 1) 157 102 [some (.ref l1), some (.int l2)] [.int s3, .ref s4] (n, sl, f) Q := by
  exact w_invokevirtual cd_157_102 (show mt_m 12 383 = some (154, 0) by decide +kernel) (rest := []) rfl (as := [.ref s4, .int s3]) rfl h6 (Or.inl h7) ⟨Nat.le_of_ble_eq_true rfl, Nat.le_of_ble_eq_true rfl, Nat.le_of_ble_eq_true rfl⟩ h8
theorem b_157_105 {d : Nat} {Q : (Option Value ⊕ Nat) → mi_H → Prop} (n sl : Nat) (f : Nat → mi_C) {l1 : Nat} {l2 : Int32} {s3 : Int32} (h4 : s3 = (0 : Int32) → mi_W d 157 168 [some (.ref l1), some (.int l2)] [] (n, sl, f) Q) (h5 : ¬ (s3 = (0 : Int32)) → mi_W d 157 108 [some (.ref l1), some (.int l2)] [] (n, sl, f) Q) : mi_W d 157 105 [some (.ref l1), some (.int l2)] [.int s3] (n, sl, f) Q := by
  exact w_ifeq cd_157_105 (by decide) h4 h5
theorem b_157_108 {d : Nat} {Q : (Option Value ⊕ Nat) → mi_H → Prop} (n sl : Nat) (f : Nat → mi_C) {l1 : Nat} {l2 : Int32} {fs3 : List Value} {x6 : Nat} {fs8 : List Value} (h4 : f l1 = .inr (12, fs3)) (h5 : l1 < n) (h7 : fs3[14]? = some (.ref x6)) (h9 : f l1 = .inr (12, fs8)) (h10 : l1 < n) (h11 : mi_W d 158 0 (mi_en 2 [.ref l1]) [] (n, sl, f) (mi_Kc d 157 114 [some (.ref l1), some (.int l2)] [.int l2, .ref x6] Q)) : mi_W (d + 1) 157 108 [some (.ref l1), some (.int l2)] [] (n, sl, f) Q := by
  refine w_aload_n cd_157_108 rfl ?_
  refine w_getfield cd_157_109 (show mt_f 12 83 = some (12, 14) by decide +kernel) h4 h5 h7 ?_
  refine w_iload_n cd_157_112 rfl ?_
  refine w_aload_n cd_157_113 rfl ?_
  exact w_invokevirtual cd_157_114 (show mt_m 12 370 = some (158, 0) by decide +kernel) (rest := [.int l2, .ref x6]) rfl (as := [.ref l1]) rfl h9 (Or.inl h10) ⟨Nat.le_of_ble_eq_true rfl, Nat.le_of_ble_eq_true rfl, Nat.le_of_ble_eq_true rfl⟩ h11
theorem b_157_117 {d : Nat} {Q : (Option Value ⊕ Nat) → mi_H → Prop} (n sl : Nat) (f : Nat → mi_C) {l1 : Nat} {l2 : Int32} {s3 : Int32} {s4 : Int32} {s5 : Nat} (m6 i6 : Nat) (g6 : Nat → Int32) (h7 : f s5 = .inl (0, m6, .inl g6)) (h8 : s5 < n) (h9 : mi_ix s4 m6 i6) (h10 : s3 < (0 : Int32) → mi_W d 157 168 [some (.ref l1), some (.int l2)] [] (n, sl, (va_up f s5 (.inl (0, m6, .inl (upd g6 i6 s3))))) Q) (h11 : ¬ (s3 < (0 : Int32)) → mi_W d 157 122 [some (.ref l1), some (.int l2)] [] (n, sl, (va_up f s5 (.inl (0, m6, .inl (upd g6 i6 s3))))) Q) : mi_W d 157 117 [some (.ref l1), some (.int l2)] [.int s3, .int s4, .ref s5] (n, sl, f) Q := by
  refine w_dup_x2_iir cd_157_117 ?_
  refine w_iastore cd_157_118 h7 h8 h9 ?_
  exact w_iflt cd_157_119 (by decide) h10 h11
theorem b_157_122 {d : Nat} {Q : (Option Value ⊕ Nat) → mi_H → Prop} (n sl : Nat) (f : Nat → mi_C) {l1 : Nat} {l2 : Int32} {fs3 : List Value} {x6 : Nat} {fs8 : List Value} (h4 : f l1 = .inr (12, fs3)) (h5 : l1 < n) (h7 : fs3[15]? = some (.ref x6)) (h9 : f l1 = .inr (12, fs8)) (h10 : l1 < n) (h11 : mi_W d 161 0 (mi_en 2 [.ref l1]) [] (n, sl, f) (mi_Kc d 157 128 [some (.ref l1), some (.int l2)] [.int l2, .ref x6] Q)) : mi_W (d + 1) 157 122 [some (.ref l1), some (.int l2)] [] (n, sl, f) Q := by
  refine w_aload_n cd_157_122 rfl ?_
  refine w_getfield cd_157_123 (show mt_f 12 86 = some (12, 15) by decide +kernel) h4 h5 h7 ?_
  refine w_iload_n cd_157_126 rfl ?_
  refine w_aload_n cd_157_127 rfl ?_
  exact w_invokevirtual cd_157_128 (show mt_m 12 396 = some (161, 0) by decide +kernel) (rest := [.int l2, .ref x6]) rfl (as := [.ref l1]) rfl h9 (Or.inl h10) ⟨Nat.le_of_ble_eq_true rfl, Nat.le_of_ble_eq_true rfl, Nat.le_of_ble_eq_true rfl⟩ h11
theorem b_157_131 {d : Nat} {Q : (Option Value ⊕ Nat) → mi_H → Prop} (n sl : Nat) (f : Nat → mi_C) {l1 : Nat} {l2 : Int32} {s3 : Int32} {s4 : Int32} {s5 : Nat} (m6 i6 : Nat) (g6 : Nat → Int32) (h7 : f s5 = .inl (0, m6, .inl g6)) (h8 : s5 < n) (h9 : mi_ix s4 m6 i6) (h10 : s3 < (0 : Int32) → mi_W d 157 168 [some (.ref l1), some (.int l2)] [] (n, sl, (va_up f s5 (.inl (0, m6, .inl (upd g6 i6 s3))))) Q) (h11 : ¬ (s3 < (0 : Int32)) → mi_W d 157 136 [some (.ref l1), some (.int l2)] [] (n, sl, (va_up f s5 (.inl (0, m6, .inl (upd g6 i6 s3))))) Q) : mi_W d 157 131 [some (.ref l1), some (.int l2)] [.int s3, .int s4, .ref s5] (n, sl, f) Q := by
  refine w_dup_x2_iir cd_157_131 ?_
  refine w_iastore cd_157_132 h7 h8 h9 ?_
  exact w_iflt cd_157_133 (by decide) h10 h11
theorem b_157_136 {d : Nat} {Q : (Option Value ⊕ Nat) → mi_H → Prop} (n sl : Nat) (f : Nat → mi_C) {l1 : Nat} {l2 : Int32} {fs3 : List Value} {x6 : Nat} {fs8 : List Value} (h4 : f l1 = .inr (12, fs3)) (h5 : l1 < n) (h7 : fs3[16]? = some (.ref x6)) (h9 : f l1 = .inr (12, fs8)) (h10 : l1 < n) (h11 : mi_W d 162 0 (mi_en 4 [.ref l1]) [] (n, sl, f) (mi_Kc d 157 142 [some (.ref l1), some (.int l2)] [.int l2, .ref x6] Q)) : mi_W (d + 1) 157 136 [some (.ref l1), some (.int l2)] [] (n, sl, f) Q := by
  refine w_aload_n cd_157_136 rfl ?_
  refine w_getfield cd_157_137 (show mt_f 12 89 = some (12, 16) by decide +kernel) h4 h5 h7 ?_
  refine w_iload_n cd_157_140 rfl ?_
  refine w_aload_n cd_157_141 rfl ?_
  exact w_invokevirtual cd_157_142 (show mt_m 12 399 = some (162, 0) by decide +kernel) (rest := [.int l2, .ref x6]) rfl (as := [.ref l1]) rfl h9 (Or.inl h10) ⟨Nat.le_of_ble_eq_true rfl, Nat.le_of_ble_eq_true rfl, Nat.le_of_ble_eq_true rfl⟩ h11
theorem b_157_145 {d : Nat} {Q : (Option Value ⊕ Nat) → mi_H → Prop} (n sl : Nat) (f : Nat → mi_C) {l1 : Nat} {l2 : Int32} {s3 : Int32} {s4 : Int32} {s5 : Nat} (m6 i6 : Nat) (g6 : Nat → Int32) (h7 : f s5 = .inl (0, m6, .inl g6)) (h8 : s5 < n) (h9 : mi_ix s4 m6 i6) (h10 : s3 < (0 : Int32) → mi_W d 157 168 [some (.ref l1), some (.int l2)] [] (n, sl, (va_up f s5 (.inl (0, m6, .inl (upd g6 i6 s3))))) Q) (h11 : ¬ (s3 < (0 : Int32)) → mi_W d 157 150 [some (.ref l1), some (.int l2)] [] (n, sl, (va_up f s5 (.inl (0, m6, .inl (upd g6 i6 s3))))) Q) : mi_W d 157 145 [some (.ref l1), some (.int l2)] [.int s3, .int s4, .ref s5] (n, sl, f) Q := by
  refine w_dup_x2_iir cd_157_145 ?_
  refine w_iastore cd_157_146 h7 h8 h9 ?_
  exact w_iflt cd_157_147 (by decide) h10 h11
theorem b_157_150 {d : Nat} {Q : (Option Value ⊕ Nat) → mi_H → Prop} (n sl : Nat) (f : Nat → mi_C) {l1 : Nat} {l2 : Int32} {fs3 : List Value} {x6 : Nat} {fs8 : List Value} (h4 : f l1 = .inr (12, fs3)) (h5 : l1 < n) (h7 : fs3[19]? = some (.ref x6)) (h9 : f l1 = .inr (12, fs8)) (h10 : l1 < n) (h11 : mi_W d 151 0 (mi_en 4 [.ref l1]) [] (n, sl, f) (mi_Kc d 157 156 [some (.ref l1), some (.int l2)] [.int l2, .ref x6] Q)) : mi_W (d + 1) 157 150 [some (.ref l1), some (.int l2)] [] (n, sl, f) Q := by
  refine w_aload_n cd_157_150 rfl ?_
  refine w_getfield cd_157_151 (show mt_f 12 98 = some (12, 19) by decide +kernel) h4 h5 h7 ?_
  refine w_iload_n cd_157_154 rfl ?_
  refine w_aload_n cd_157_155 rfl ?_
  exact w_invokevirtual cd_157_156 (show mt_m 12 355 = some (151, 0) by decide +kernel) (rest := [.int l2, .ref x6]) rfl (as := [.ref l1]) rfl h9 (Or.inl h10) ⟨Nat.le_of_ble_eq_true rfl, Nat.le_of_ble_eq_true rfl, Nat.le_of_ble_eq_true rfl⟩ h11
theorem b_157_159 {d : Nat} {Q : (Option Value ⊕ Nat) → mi_H → Prop} (n sl : Nat) (f : Nat → mi_C) {l1 : Nat} {l2 : Int32} {s3 : Int32} {s4 : Int32} {s5 : Nat} (m6 i6 : Nat) (g6 : Nat → Int32) (h7 : f s5 = .inl (0, m6, .inl g6)) (h8 : s5 < n) (h9 : mi_ix s4 m6 i6) (h10 : s3 < (0 : Int32) → mi_W d 157 168 [some (.ref l1), some (.int l2)] [] (n, sl, (va_up f s5 (.inl (0, m6, .inl (upd g6 i6 s3))))) Q) (h11 : ¬ (s3 < (0 : Int32)) → mi_W d 157 164 [some (.ref l1), some (.int l2)] [] (n, sl, (va_up f s5 (.inl (0, m6, .inl (upd g6 i6 s3))))) Q) : mi_W d 157 159 [some (.ref l1), some (.int l2)] [.int s3, .int s4, .ref s5] (n, sl, f) Q := by
  refine w_dup_x2_iir cd_157_159 ?_
  refine w_iastore cd_157_160 h7 h8 h9 ?_
  exact w_iflt cd_157_161 (by decide) h10 h11
theorem b_157_164 {d : Nat} {Q : (Option Value ⊕ Nat) → mi_H → Prop} (n sl : Nat) (f : Nat → mi_C) {l1 : Nat} {l2 : Int32} (h3 : mi_W d 157 169 [some (.ref l1), some (.int l2)] [.int 1] (n, sl, f) Q) : mi_W d 157 164 [some (.ref l1), some (.int l2)] [] (n, sl, f) Q := by
  refine w_iconst (v := 1) cd_157_164 (by decide) ?_
  exact w_goto cd_157_165 (by decide) h3
theorem b_157_168 {d : Nat} {Q : (Option Value ⊕ Nat) → mi_H → Prop} (n sl : Nat) (f : Nat → mi_C) {l1 : Nat} {l2 : Int32} (h3 : mi_W d 157 169 [some (.ref l1), some (.int l2)] [.int 0] (n, sl, f) Q) : mi_W d 157 168 [some (.ref l1), some (.int l2)] [] (n, sl, f) Q := by
  refine w_iconst (v := 0) cd_157_168 (by decide) ?_
  exact h3
theorem b_157_169 {d : Nat} {Q : (Option Value ⊕ Nat) → mi_H → Prop} (n sl : Nat) (f : Nat → mi_C) {l1 : Nat} {l2 : Int32} {s3 : Int32} (h4 : s3 = 0 ∨ s3 = 1) (h5 : Q (.inl (some (.int s3))) (n, sl, f)) : mi_W d 157 169 [some (.ref l1), some (.int l2)] [.int s3] (n, sl, f) Q := by
  exact w_ireturn_z cd_157_169 (by decide +kernel) h4 h5
theorem b_157_170 {d : Nat} {Q : (Option Value ⊕ Nat) → mi_H → Prop} (n sl : Nat) (f : Nat → mi_C) {l1 : Nat} {l2 : Int32} {fs3 : List Value} {x6 : Nat} {fs8 : List Value} (h4 : f l1 = .inr (12, fs3)) (h5 : l1 < n) (h7 : fs3[16]? = some (.ref x6)) (h9 : f l1 = .inr (12, fs8)) (h10 : l1 < n) (h11 : mi_W d 166 0 (mi_en 4 [.ref l1]) [] (n, sl, f) (mi_Kc d 157 176 [some (.ref l1), some (.int l2)] [.int l2, .ref x6] Q)) : mi_W (d + 1) 157 170 [some (.ref l1), some (.int l2)] [] (n, sl, f) Q := by
  refine w_aload_n cd_157_170 rfl ?_
  refine w_getfield cd_157_171 (show mt_f 12 89 = some (12, 16) by decide +kernel) h4 h5 h7 ?_
  refine w_iload_n cd_157_174 rfl ?_
  refine w_aload_n cd_157_175 rfl ?_
  exact w_invokevirtual cd_157_176 (show mt_m 12 401 = some (166, 0) by decide +kernel) (rest := [.int l2, .ref x6]) rfl (as := [.ref l1]) rfl h9 (Or.inl h10) ⟨Nat.le_of_ble_eq_true rfl, Nat.le_of_ble_eq_true rfl, Nat.le_of_ble_eq_true rfl⟩ h11
theorem b_157_179 {d : Nat} {Q : (Option Value ⊕ Nat) → mi_H → Prop} (n sl : Nat) (f : Nat → mi_C) {l1 : Nat} {l2 : Int32} {s3 : Int32} {s4 : Int32} {s5 : Nat} (m6 i6 : Nat) (g6 : Nat → Int32) (h7 : f s5 = .inl (0, m6, .inl g6)) (h8 : s5 < n) (h9 : mi_ix s4 m6 i6) (h10 : s3 < (0 : Int32) → mi_W d 157 216 [some (.ref l1), some (.int l2)] [] (n, sl, (va_up f s5 (.inl (0, m6, .inl (upd g6 i6 s3))))) Q) (h11 : ¬ (s3 < (0 : Int32)) → mi_W d 157 184 [some (.ref l1), some (.int l2)] [] (n, sl, (va_up f s5 (.inl (0, m6, .inl (upd g6 i6 s3))))) Q) : mi_W d 157 179 [some (.ref l1), some (.int l2)] [.int s3, .int s4, .ref s5] (n, sl, f) Q := by
  refine w_dup_x2_iir cd_157_179 ?_
  refine w_iastore cd_157_180 h7 h8 h9 ?_
  exact w_iflt cd_157_181 (by decide) h10 h11
theorem b_157_184 {d : Nat} {Q : (Option Value ⊕ Nat) → mi_H → Prop} (n sl : Nat) (f : Nat → mi_C) {l1 : Nat} {l2 : Int32} {fs3 : List Value} {x6 : Nat} {fs8 : List Value} (h4 : f l1 = .inr (12, fs3)) (h5 : l1 < n) (h7 : fs3[13]? = some (.ref x6)) (h9 : f l1 = .inr (12, fs8)) (h10 : l1 < n) (h11 : mi_W d 151 0 (mi_en 4 [.ref l1]) [] (n, sl, f) (mi_Kc d 157 190 [some (.ref l1), some (.int l2)] [.int l2, .ref x6] Q)) : mi_W (d + 1) 157 184 [some (.ref l1), some (.int l2)] [] (n, sl, f) Q := by
  refine w_aload_n cd_157_184 rfl ?_
  refine w_getfield cd_157_185 (show mt_f 12 80 = some (12, 13) by decide +kernel) h4 h5 h7 ?_
  refine w_iload_n cd_157_188 rfl ?_
  refine w_aload_n cd_157_189 rfl ?_
  exact w_invokevirtual cd_157_190 (show mt_m 12 355 = some (151, 0) by decide +kernel) (rest := [.int l2, .ref x6]) rfl (as := [.ref l1]) rfl h9 (Or.inl h10) ⟨Nat.le_of_ble_eq_true rfl, Nat.le_of_ble_eq_true rfl, Nat.le_of_ble_eq_true rfl⟩ h11
theorem b_157_193 {d : Nat} {Q : (Option Value ⊕ Nat) → mi_H → Prop} (n sl : Nat) (f : Nat → mi_C) {l1 : Nat} {l2 : Int32} {s3 : Int32} {s4 : Int32} {s5 : Nat} (m6 i6 : Nat) (g6 : Nat → Int32) (h7 : f s5 = .inl (0, m6, .inl g6)) (h8 : s5 < n) (h9 : mi_ix s4 m6 i6) (h10 : s3 < (0 : Int32) → mi_W d 157 216 [some (.ref l1), some (.int l2)] [] (n, sl, (va_up f s5 (.inl (0, m6, .inl (upd g6 i6 s3))))) Q) (h11 : ¬ (s3 < (0 : Int32)) → mi_W d 157 198 [some (.ref l1), some (.int l2)] [] (n, sl, (va_up f s5 (.inl (0, m6, .inl (upd g6 i6 s3))))) Q) : mi_W d 157 193 [some (.ref l1), some (.int l2)] [.int s3, .int s4, .ref s5] (n, sl, f) Q := by
  refine w_dup_x2_iir cd_157_193 ?_
  refine w_iastore cd_157_194 h7 h8 h9 ?_
  exact w_iflt cd_157_195 (by decide) h10 h11
theorem b_157_198 {d : Nat} {Q : (Option Value ⊕ Nat) → mi_H → Prop} (n sl : Nat) (f : Nat → mi_C) {l1 : Nat} {l2 : Int32} {fs3 : List Value} {x6 : Nat} {fs8 : List Value} (h4 : f l1 = .inr (12, fs3)) (h5 : l1 < n) (h7 : fs3[14]? = some (.ref x6)) (h9 : f l1 = .inr (12, fs8)) (h10 : l1 < n) (h11 : mi_W d 151 0 (mi_en 4 [.ref l1]) [] (n, sl, f) (mi_Kc d 157 204 [some (.ref l1), some (.int l2)] [.int l2, .ref x6] Q)) : mi_W (d + 1) 157 198 [some (.ref l1), some (.int l2)] [] (n, sl, f) Q := by
  refine w_aload_n cd_157_198 rfl ?_
  refine w_getfield cd_157_199 (show mt_f 12 83 = some (12, 14) by decide +kernel) h4 h5 h7 ?_
  refine w_iload_n cd_157_202 rfl ?_
  refine w_aload_n cd_157_203 rfl ?_
  exact w_invokevirtual cd_157_204 (show mt_m 12 355 = some (151, 0) by decide +kernel) (rest := [.int l2, .ref x6]) rfl (as := [.ref l1]) rfl h9 (Or.inl h10) ⟨Nat.le_of_ble_eq_true rfl, Nat.le_of_ble_eq_true rfl, Nat.le_of_ble_eq_true rfl⟩ h11
theorem b_157_207 {d : Nat} {Q : (Option Value ⊕ Nat) → mi_H → Prop} (n sl : Nat) (f : Nat → mi_C) {l1 : Nat} {l2 : Int32} {s3 : Int32} {s4 : Int32} {s5 : Nat} (m6 i6 : Nat) (g6 : Nat → Int32) (h7 : f s5 = .inl (0, m6, .inl g6)) (h8 : s5 < n) (h9 : mi_ix s4 m6 i6) (h10 : s3 < (0 : Int32) → mi_W d 157 216 [some (.ref l1), some (.int l2)] [] (n, sl, (va_up f s5 (.inl (0, m6, .inl (upd g6 i6 s3))))) Q) (h11 : ¬ (s3 < (0 : Int32)) → mi_W d 157 212 [some (.ref l1), some (.int l2)] [] (n, sl, (va_up f s5 (.inl (0, m6, .inl (upd g6 i6 s3))))) Q) : mi_W d 157 207 [some (.ref l1), some (.int l2)] [.int s3, .int s4, .ref s5] (n, sl, f) Q := by
  refine w_dup_x2_iir cd_157_207 ?_
  refine w_iastore cd_157_208 h7 h8 h9 ?_
  exact w_iflt cd_157_209 (by decide) h10 h11
theorem b_157_212 {d : Nat} {Q : (Option Value ⊕ Nat) → mi_H → Prop} (n sl : Nat) (f : Nat → mi_C) {l1 : Nat} {l2 : Int32} (h3 : mi_W d 157 217 [some (.ref l1), some (.int l2)] [.int 1] (n, sl, f) Q) : mi_W d 157 212 [some (.ref l1), some (.int l2)] [] (n, sl, f) Q := by
  refine w_iconst (v := 1) cd_157_212 (by decide) ?_
  exact w_goto cd_157_213 (by decide) h3
theorem b_157_216 {d : Nat} {Q : (Option Value ⊕ Nat) → mi_H → Prop} (n sl : Nat) (f : Nat → mi_C) {l1 : Nat} {l2 : Int32} (h3 : mi_W d 157 217 [some (.ref l1), some (.int l2)] [.int 0] (n, sl, f) Q) : mi_W d 157 216 [some (.ref l1), some (.int l2)] [] (n, sl, f) Q := by
  refine w_iconst (v := 0) cd_157_216 (by decide) ?_
  exact h3
theorem b_157_217 {d : Nat} {Q : (Option Value ⊕ Nat) → mi_H → Prop} (n sl : Nat) (f : Nat → mi_C) {l1 : Nat} {l2 : Int32} {s3 : Int32} (h4 : s3 = 0 ∨ s3 = 1) (h5 : Q (.inl (some (.int s3))) (n, sl, f)) : mi_W d 157 217 [some (.ref l1), some (.int l2)] [.int s3] (n, sl, f) Q := by
  exact w_ireturn_z cd_157_217 (by decide +kernel) h4 h5
theorem b_157_218 {d : Nat} {Q : (Option Value ⊕ Nat) → mi_H → Prop} (n sl : Nat) (f : Nat → mi_C) {l1 : Nat} {l2 : Int32} {fs3 : List Value} (h4 : f l1 = .inr (12, fs3)) (h5 : l1 < n) (h6 : mi_W d 167 0 (mi_en 6 [.ref l1, .int l2]) [] (n, sl, f) (mi_Kc d 157 220 [some (.ref l1), some (.int l2)] [] Q)) : mi_W (d + 1) 157 218 [some (.ref l1), some (.int l2)] [] (n, sl, f) Q := by
  refine w_aload_n cd_157_218 rfl ?_
  refine w_iload_n cd_157_219 rfl ?_
  exact w_invokevirtual cd_157_220 (show mt_m 12 404 = some (167, 0) by decide +kernel) (rest := []) rfl (as := [.ref l1, .int l2]) rfl h4 (Or.inl h5) ⟨Nat.le_of_ble_eq_true rfl, Nat.le_of_ble_eq_true rfl, Nat.le_of_ble_eq_true rfl⟩ h6
theorem b_157_223 {d : Nat} {Q : (Option Value ⊕ Nat) → mi_H → Prop} (n sl : Nat) (f : Nat → mi_C) {l1 : Nat} {l2 : Int32} {s3 : Int32} (h4 : s3 = 0 ∨ s3 = 1) (h5 : Q (.inl (some (.int s3))) (n, sl, f)) : mi_W d 157 223 [some (.ref l1), some (.int l2)] [.int s3] (n, sl, f) Q := by
  exact w_ireturn_z cd_157_223 (by decide +kernel) h4 h5
theorem b_157_224 {d : Nat} {Q : (Option Value ⊕ Nat) → mi_H → Prop} (n sl : Nat) (f : Nat → mi_C) {l1 : Nat} {l2 : Int32} {fs3 : List Value} {x6 : Nat} {fs8 : List Value} (h4 : f l1 = .inr (12, fs3)) (h5 : l1 < n) (h7 : fs3[13]? = some (.ref x6)) (h9 : f l1 = .inr (12, fs8)) (h10 : l1 < n) (h11 : mi_W d 165 0 (mi_en 2 [.ref l1]) [] (n, sl, f) (mi_Kc d 157 230 [some (.ref l1), some (.int l2)] [.int l2, .ref x6] Q)) : mi_W (d + 1) 157 224 [some (.ref l1), some (.int l2)] [] (n, sl, f) Q := by
  refine w_aload_n cd_157_224 rfl ?_
  refine w_getfield cd_157_225 (show mt_f 12 80 = some (12, 13) by decide +kernel) h4 h5 h7 ?_
  refine w_iload_n cd_157_228 rfl ?_
  refine w_aload_n cd_157_229 rfl ?_
  exact w_invokevirtual cd_157_230 (show mt_m 12 406 = some (165, 0) by decide +kernel) (rest := [.int l2, .ref x6]) rfl (as := [.ref l1]) rfl h9 (Or.inl h10) ⟨Nat.le_of_ble_eq_true rfl, Nat.le_of_ble_eq_true rfl, Nat.le_of_ble_eq_true rfl⟩ h11
theorem b_157_233 {d : Nat} {Q : (Option Value ⊕ Nat) → mi_H → Prop} (n sl : Nat) (f : Nat → mi_C) {l1 : Nat} {l2 : Int32} {s3 : Int32} {s4 : Int32} {s5 : Nat} (m6 i6 : Nat) (g6 : Nat → Int32) (h7 : f s5 = .inl (0, m6, .inl g6)) (h8 : s5 < n) (h9 : mi_ix s4 m6 i6) (h10 : s3 < (0 : Int32) → mi_W d 157 270 [some (.ref l1), some (.int l2)] [] (n, sl, (va_up f s5 (.inl (0, m6, .inl (upd g6 i6 s3))))) Q) (h11 : ¬ (s3 < (0 : Int32)) → mi_W d 157 238 [some (.ref l1), some (.int l2)] [] (n, sl, (va_up f s5 (.inl (0, m6, .inl (upd g6 i6 s3))))) Q) : mi_W d 157 233 [some (.ref l1), some (.int l2)] [.int s3, .int s4, .ref s5] (n, sl, f) Q := by
  refine w_dup_x2_iir cd_157_233 ?_
  refine w_iastore cd_157_234 h7 h8 h9 ?_
  exact w_iflt cd_157_235 (by decide) h10 h11
theorem b_157_238 {d : Nat} {Q : (Option Value ⊕ Nat) → mi_H → Prop} (n sl : Nat) (f : Nat → mi_C) {l1 : Nat} {l2 : Int32} {fs3 : List Value} {x6 : Nat} {fs8 : List Value} (h4 : f l1 = .inr (12, fs3)) (h5 : l1 < n) (h7 : fs3[16]? = some (.ref x6)) (h9 : f l1 = .inr (12, fs8)) (h10 : l1 < n) (h11 : mi_W d 162 0 (mi_en 4 [.ref l1]) [] (n, sl, f) (mi_Kc d 157 244 [some (.ref l1), some (.int l2)] [.int l2, .ref x6] Q)) : mi_W (d + 1) 157 238 [some (.ref l1), some (.int l2)] [] (n, sl, f) Q := by
  refine w_aload_n cd_157_238 rfl ?_
  refine w_getfield cd_157_239 (show mt_f 12 89 = some (12, 16) by decide +kernel) h4 h5 h7 ?_
  refine w_iload_n cd_157_242 rfl ?_
  refine w_aload_n cd_157_243 rfl ?_
  exact w_invokevirtual cd_157_244 (show mt_m 12 399 = some (162, 0) by decide +kernel) (rest := [.int l2, .ref x6]) rfl (as := [.ref l1]) rfl h9 (Or.inl h10) ⟨Nat.le_of_ble_eq_true rfl, Nat.le_of_ble_eq_true rfl, Nat.le_of_ble_eq_true rfl⟩ h11
theorem b_157_247 {d : Nat} {Q : (Option Value ⊕ Nat) → mi_H → Prop} (n sl : Nat) (f : Nat → mi_C) {l1 : Nat} {l2 : Int32} {s3 : Int32} {s4 : Int32} {s5 : Nat} (m6 i6 : Nat) (g6 : Nat → Int32) (h7 : f s5 = .inl (0, m6, .inl g6)) (h8 : s5 < n) (h9 : mi_ix s4 m6 i6) (h10 : s3 < (0 : Int32) → mi_W d 157 270 [some (.ref l1), some (.int l2)] [] (n, sl, (va_up f s5 (.inl (0, m6, .inl (upd g6 i6 s3))))) Q) (h11 : ¬ (s3 < (0 : Int32)) → mi_W d 157 252 [some (.ref l1), some (.int l2)] [] (n, sl, (va_up f s5 (.inl (0, m6, .inl (upd g6 i6 s3))))) Q) : mi_W d 157 247 [some (.ref l1), some (.int l2)] [.int s3, .int s4, .ref s5] (n, sl, f) Q := by
  refine w_dup_x2_iir cd_157_247 ?_
  refine w_iastore cd_157_248 h7 h8 h9 ?_
  exact w_iflt cd_157_249 (by decide) h10 h11
theorem b_157_252 {d : Nat} {Q : (Option Value ⊕ Nat) → mi_H → Prop} (n sl : Nat) (f : Nat → mi_C) {l1 : Nat} {l2 : Int32} {fs3 : List Value} {x6 : Nat} {fs8 : List Value} (h4 : f l1 = .inr (12, fs3)) (h5 : l1 < n) (h7 : fs3[19]? = some (.ref x6)) (h9 : f l1 = .inr (12, fs8)) (h10 : l1 < n) (h11 : mi_W d 151 0 (mi_en 4 [.ref l1]) [] (n, sl, f) (mi_Kc d 157 258 [some (.ref l1), some (.int l2)] [.int l2, .ref x6] Q)) : mi_W (d + 1) 157 252 [some (.ref l1), some (.int l2)] [] (n, sl, f) Q := by
  refine w_aload_n cd_157_252 rfl ?_
  refine w_getfield cd_157_253 (show mt_f 12 98 = some (12, 19) by decide +kernel) h4 h5 h7 ?_
  refine w_iload_n cd_157_256 rfl ?_
  refine w_aload_n cd_157_257 rfl ?_
  exact w_invokevirtual cd_157_258 (show mt_m 12 355 = some (151, 0) by decide +kernel) (rest := [.int l2, .ref x6]) rfl (as := [.ref l1]) rfl h9 (Or.inl h10) ⟨Nat.le_of_ble_eq_true rfl, Nat.le_of_ble_eq_true rfl, Nat.le_of_ble_eq_true rfl⟩ h11
theorem b_157_261 {d : Nat} {Q : (Option Value ⊕ Nat) → mi_H → Prop} (n sl : Nat) (f : Nat → mi_C) {l1 : Nat} {l2 : Int32} {s3 : Int32} {s4 : Int32} {s5 : Nat} (m6 i6 : Nat) (g6 : Nat → Int32) (h7 : f s5 = .inl (0, m6, .inl g6)) (h8 : s5 < n) (h9 : mi_ix s4 m6 i6) (h10 : s3 < (0 : Int32) → mi_W d 157 270 [some (.ref l1), some (.int l2)] [] (n, sl, (va_up f s5 (.inl (0, m6, .inl (upd g6 i6 s3))))) Q) (h11 : ¬ (s3 < (0 : Int32)) → mi_W d 157 266 [some (.ref l1), some (.int l2)] [] (n, sl, (va_up f s5 (.inl (0, m6, .inl (upd g6 i6 s3))))) Q) : mi_W d 157 261 [some (.ref l1), some (.int l2)] [.int s3, .int s4, .ref s5] (n, sl, f) Q := by
  refine w_dup_x2_iir cd_157_261 ?_
  refine w_iastore cd_157_262 h7 h8 h9 ?_
  exact w_iflt cd_157_263 (by decide) h10 h11
theorem b_157_266 {d : Nat} {Q : (Option Value ⊕ Nat) → mi_H → Prop} (n sl : Nat) (f : Nat → mi_C) {l1 : Nat} {l2 : Int32} (h3 : mi_W d 157 271 [some (.ref l1), some (.int l2)] [.int 1] (n, sl, f) Q) : mi_W d 157 266 [some (.ref l1), some (.int l2)] [] (n, sl, f) Q := by
  refine w_iconst (v := 1) cd_157_266 (by decide) ?_
  exact w_goto cd_157_267 (by decide) h3
theorem b_157_270 {d : Nat} {Q : (Option Value ⊕ Nat) → mi_H → Prop} (n sl : Nat) (f : Nat → mi_C) {l1 : Nat} {l2 : Int32} (h3 : mi_W d 157 271 [some (.ref l1), some (.int l2)] [.int 0] (n, sl, f) Q) : mi_W d 157 270 [some (.ref l1), some (.int l2)] [] (n, sl, f) Q := by
  refine w_iconst (v := 0) cd_157_270 (by decide) ?_
  exact h3
theorem b_157_271 {d : Nat} {Q : (Option Value ⊕ Nat) → mi_H → Prop} (n sl : Nat) (f : Nat → mi_C) {l1 : Nat} {l2 : Int32} {s3 : Int32} (h4 : s3 = 0 ∨ s3 = 1) (h5 : Q (.inl (some (.int s3))) (n, sl, f)) : mi_W d 157 271 [some (.ref l1), some (.int l2)] [.int s3] (n, sl, f) Q := by
  exact w_ireturn_z cd_157_271 (by decide +kernel) h4 h5
theorem b_157_272 {d : Nat} {Q : (Option Value ⊕ Nat) → mi_H → Prop} (n sl : Nat) (f : Nat → mi_C) {l1 : Nat} {l2 : Int32} {fs3 : List Value} {x6 : Nat} {fs8 : List Value} (h4 : f l1 = .inr (12, fs3)) (h5 : l1 < n) (h7 : fs3[16]? = some (.ref x6)) (h9 : f l1 = .inr (12, fs8)) (h10 : l1 < n) (h11 : mi_W d 166 0 (mi_en 4 [.ref l1]) [] (n, sl, f) (mi_Kc d 157 278 [some (.ref l1), some (.int l2)] [.int l2, .ref x6] Q)) : mi_W (d + 1) 157 272 [some (.ref l1), some (.int l2)] [] (n, sl, f) Q := by
  refine w_aload_n cd_157_272 rfl ?_
  refine w_getfield cd_157_273 (show mt_f 12 89 = some (12, 16) by decide +kernel) h4 h5 h7 ?_
  refine w_iload_n cd_157_276 rfl ?_
  refine w_aload_n cd_157_277 rfl ?_
  exact w_invokevirtual cd_157_278 (show mt_m 12 401 = some (166, 0) by decide +kernel) (rest := [.int l2, .ref x6]) rfl (as := [.ref l1]) rfl h9 (Or.inl h10) ⟨Nat.le_of_ble_eq_true rfl, Nat.le_of_ble_eq_true rfl, Nat.le_of_ble_eq_true rfl⟩ h11
theorem b_157_281 {d : Nat} {Q : (Option Value ⊕ Nat) → mi_H → Prop} (n sl : Nat) (f : Nat → mi_C) {l1 : Nat} {l2 : Int32} {s3 : Int32} {s4 : Int32} {s5 : Nat} (m6 i6 : Nat) (g6 : Nat → Int32) (h7 : f s5 = .inl (0, m6, .inl g6)) (h8 : s5 < n) (h9 : mi_ix s4 m6 i6) (h10 : s3 < (0 : Int32) → mi_W d 157 304 [some (.ref l1), some (.int l2)] [] (n, sl, (va_up f s5 (.inl (0, m6, .inl (upd g6 i6 s3))))) Q) (h11 : ¬ (s3 < (0 : Int32)) → mi_W d 157 286 [some (.ref l1), some (.int l2)] [] (n, sl, (va_up f s5 (.inl (0, m6, .inl (upd g6 i6 s3))))) Q) : mi_W d 157 281 [some (.ref l1), some (.int l2)] [.int s3, .int s4, .ref s5] (n, sl, f) Q := by
  refine w_dup_x2_iir cd_157_281 ?_
  refine w_iastore cd_157_282 h7 h8 h9 ?_
  exact w_iflt cd_157_283 (by decide) h10 h11
theorem b_157_286 {d : Nat} {Q : (Option Value ⊕ Nat) → mi_H → Prop} (n sl : Nat) (f : Nat → mi_C) {l1 : Nat} {l2 : Int32} {fs3 : List Value} {x6 : Nat} {fs8 : List Value} (h4 : f l1 = .inr (12, fs3)) (h5 : l1 < n) (h7 : fs3[19]? = some (.ref x6)) (h9 : f l1 = .inr (12, fs8)) (h10 : l1 < n) (h11 : mi_W d 151 0 (mi_en 4 [.ref l1]) [] (n, sl, f) (mi_Kc d 157 292 [some (.ref l1), some (.int l2)] [.int l2, .ref x6] Q)) : mi_W (d + 1) 157 286 [some (.ref l1), some (.int l2)] [] (n, sl, f) Q := by
  refine w_aload_n cd_157_286 rfl ?_
  refine w_getfield cd_157_287 (show mt_f 12 98 = some (12, 19) by decide +kernel) h4 h5 h7 ?_
  refine w_iload_n cd_157_290 rfl ?_
  refine w_aload_n cd_157_291 rfl ?_
  exact w_invokevirtual cd_157_292 (show mt_m 12 355 = some (151, 0) by decide +kernel) (rest := [.int l2, .ref x6]) rfl (as := [.ref l1]) rfl h9 (Or.inl h10) ⟨Nat.le_of_ble_eq_true rfl, Nat.le_of_ble_eq_true rfl, Nat.le_of_ble_eq_true rfl⟩ h11
theorem b_157_295 {d : Nat} {Q : (Option Value ⊕ Nat) → mi_H → Prop} (n sl : Nat) (f : Nat → mi_C) {l1 : Nat} {l2 : Int32} {s3 : Int32} {s4 : Int32} {s5 : Nat} (m6 i6 : Nat) (g6 : Nat → Int32) (h7 : f s5 = .inl (0, m6, .inl g6)) (h8 : s5 < n) (h9 : mi_ix s4 m6 i6) (h10 : s3 < (0 : Int32) → mi_W d 157 304 [some (.ref l1), some (.int l2)] [] (n, sl, (va_up f s5 (.inl (0, m6, .inl (upd g6 i6 s3))))) Q) (h11 : ¬ (s3 < (0 : Int32)) → mi_W d 157 300 [some (.ref l1), some (.int l2)] [] (n, sl, (va_up f s5 (.inl (0, m6, .inl (upd g6 i6 s3))))) Q) : mi_W d 157 295 [some (.ref l1), some (.int l2)] [.int s3, .int s4, .ref s5] (n, sl, f) Q := by
  refine w_dup_x2_iir cd_157_295 ?_
  refine w_iastore cd_157_296 h7 h8 h9 ?_
  exact w_iflt cd_157_297 (by decide) h10 h11
theorem b_157_300 {d : Nat} {Q : (Option Value ⊕ Nat) → mi_H → Prop} (n sl : Nat) (f : Nat → mi_C) {l1 : Nat} {l2 : Int32} (h3 : mi_W d 157 305 [some (.ref l1), some (.int l2)] [.int 1] (n, sl, f) Q) : mi_W d 157 300 [some (.ref l1), some (.int l2)] [] (n, sl, f) Q := by
  refine w_iconst (v := 1) cd_157_300 (by decide) ?_
  exact w_goto cd_157_301 (by decide) h3
theorem b_157_304 {d : Nat} {Q : (Option Value ⊕ Nat) → mi_H → Prop} (n sl : Nat) (f : Nat → mi_C) {l1 : Nat} {l2 : Int32} (h3 : mi_W d 157 305 [some (.ref l1), some (.int l2)] [.int 0] (n, sl, f) Q) : mi_W d 157 304 [some (.ref l1), some (.int l2)] [] (n, sl, f) Q := by
  refine w_iconst (v := 0) cd_157_304 (by decide) ?_
  exact h3
theorem b_157_305 {d : Nat} {Q : (Option Value ⊕ Nat) → mi_H → Prop} (n sl : Nat) (f : Nat → mi_C) {l1 : Nat} {l2 : Int32} {s3 : Int32} (h4 : s3 = 0 ∨ s3 = 1) (h5 : Q (.inl (some (.int s3))) (n, sl, f)) : mi_W d 157 305 [some (.ref l1), some (.int l2)] [.int s3] (n, sl, f) Q := by
  exact w_ireturn_z cd_157_305 (by decide +kernel) h4 h5
/-! MarloweHostModel.party()I -/
set_option maxRecDepth 100000 in
theorem mq_158 : mt_q 158 = my_158 := rfl
set_option maxRecDepth 100000 in
theorem ci_158 : mt_inc 0 my_158.cd = true := by decide +kernel
theorem cd_158_0 : mt_cd 158 0 = some (.aload_n 0) := mt_cd_of (q := (0, .aload_n 0, 1)) mq_158 ci_158 (List.mem_of_getElem? (i := 0) rfl)
theorem cd_158_1 : mt_cd 158 1 = some (.aload_n 0) := mt_cd_of (q := (1, .aload_n 0, 1)) mq_158 ci_158 (List.mem_of_getElem? (i := 1) rfl)
theorem cd_158_2 : mt_cd 158 2 = some (.getfield 111) := mt_cd_of (q := (2, .getfield 111, 3)) mq_158 ci_158 (List.mem_of_getElem? (i := 2) rfl)
theorem cd_158_5 : mt_cd 158 5 = some (.aload_n 0) := mt_cd_of (q := (5, .aload_n 0, 1)) mq_158 ci_158 (List.mem_of_getElem? (i := 3) rfl)
theorem cd_158_6 : mt_cd 158 6 = some (.getfield 114) := mt_cd_of (q := (6, .getfield 114, 3)) mq_158 ci_158 (List.mem_of_getElem? (i := 4) rfl)
theorem cd_158_9 : mt_cd 158 9 = some (.aload_n 0) := mt_cd_of (q := (9, .aload_n 0, 1)) mq_158 ci_158 (List.mem_of_getElem? (i := 5) rfl)
theorem cd_158_10 : mt_cd 158 10 = some (.getfield 343) := mt_cd_of (q := (10, .getfield 343, 3)) mq_158 ci_158 (List.mem_of_getElem? (i := 6) rfl)
theorem cd_158_13 : mt_cd 158 13 = some (.bipush 8) := mt_cd_of (q := (13, .bipush 8, 2)) mq_158 ci_158 (List.mem_of_getElem? (i := 7) rfl)
theorem cd_158_15 : mt_cd 158 15 = some (.invokevirtual 362) := mt_cd_of (q := (15, .invokevirtual 362, 3)) mq_158 ci_158 (List.mem_of_getElem? (i := 8) rfl)
theorem cd_158_18 : mt_cd 158 18 = some (.istore_n 1) := mt_cd_of (q := (18, .istore_n 1, 1)) mq_158 ci_158 (List.mem_of_getElem? (i := 9) rfl)
theorem cd_158_19 : mt_cd 158 19 = some (.iload_n 1) := mt_cd_of (q := (19, .iload_n 1, 1)) mq_158 ci_158 (List.mem_of_getElem? (i := 10) rfl)
theorem cd_158_20 : mt_cd 158 20 = some (.aload_n 0) := mt_cd_of (q := (20, .aload_n 0, 1)) mq_158 ci_158 (List.mem_of_getElem? (i := 11) rfl)
theorem cd_158_21 : mt_cd 158 21 = some (.getfield 343) := mt_cd_of (q := (21, .getfield 343, 3)) mq_158 ci_158 (List.mem_of_getElem? (i := 12) rfl)
theorem cd_158_24 : mt_cd 158 24 = some (.if_icmp .ne 13) := mt_cd_of (q := (24, .if_icmp .ne 13, 3)) mq_158 ci_158 (List.mem_of_getElem? (i := 13) rfl)
theorem cd_158_27 : mt_cd 158 27 = some (.aload_n 0) := mt_cd_of (q := (27, .aload_n 0, 1)) mq_158 ci_158 (List.mem_of_getElem? (i := 14) rfl)
theorem cd_158_28 : mt_cd 158 28 = some (.dup) := mt_cd_of (q := (28, .dup, 1)) mq_158 ci_158 (List.mem_of_getElem? (i := 15) rfl)
theorem cd_158_29 : mt_cd 158 29 = some (.getfield 343) := mt_cd_of (q := (29, .getfield 343, 3)) mq_158 ci_158 (List.mem_of_getElem? (i := 16) rfl)
theorem cd_158_32 : mt_cd 158 32 = some (.iconst 1) := mt_cd_of (q := (32, .iconst 1, 1)) mq_158 ci_158 (List.mem_of_getElem? (i := 17) rfl)
theorem cd_158_33 : mt_cd 158 33 = some (.iadd) := mt_cd_of (q := (33, .iadd, 1)) mq_158 ci_158 (List.mem_of_getElem? (i := 18) rfl)
theorem cd_158_34 : mt_cd 158 34 = some (.putfield 343) := mt_cd_of (q := (34, .putfield 343, 3)) mq_158 ci_158 (List.mem_of_getElem? (i := 19) rfl)
theorem cd_158_37 : mt_cd 158 37 = some (.iload_n 1) := mt_cd_of (q := (37, .iload_n 1, 1)) mq_158 ci_158 (List.mem_of_getElem? (i := 20) rfl)
theorem cd_158_38 : mt_cd 158 38 = some (.ireturn) := mt_cd_of (q := (38, .ireturn, 1)) mq_158 ci_158 (List.mem_of_getElem? (i := 21) rfl)
theorem b_158_0 {d : Nat} {Q : (Option Value ⊕ Nat) → mi_H → Prop} (n sl : Nat) (f : Nat → mi_C) {l1 : Nat} {o2 : Option Value} {fs3 : List Value} {x6 : Nat} {fs8 : List Value} {x11 : Nat} {fs13 : List Value} {x16 : Int32} {fs18 : List Value} (h4 : f l1 = .inr (12, fs3)) (h5 : l1 < n) (h7 : fs3[30]? = some (.ref x6)) (h9 : f l1 = .inr (12, fs8)) (h10 : l1 < n) (h12 : fs8[31]? = some (.ref x11)) (h14 : f l1 = .inr (12, fs13)) (h15 : l1 < n) (h17 : fs13[24]? = some (.int x16)) (h19 : f l1 = .inr (12, fs18)) (h20 : l1 < n) (h21 : mi_W d 159 0 (mi_en 6 [.ref l1, .ref x6, .ref x11, .int x16, .int 8]) [] (n, sl, f) (mi_Kc d 158 15 [some (.ref l1), o2] [] Q)) : mi_W (d + 1) 158 0 [some (.ref l1), o2] [] (n, sl, f) Q := by
  refine w_aload_n cd_158_0 rfl ?_
  refine w_aload_n cd_158_1 rfl ?_
  refine w_getfield cd_158_2 (show mt_f 12 111 = some (12, 30) by decide +kernel) h4 h5 h7 ?_
  refine w_aload_n cd_158_5 rfl ?_
  refine w_getfield cd_158_6 (show mt_f 12 114 = some (12, 31) by decide +kernel) h9 h10 h12 ?_
  refine w_aload_n cd_158_9 rfl ?_
  refine w_getfield cd_158_10 (show mt_f 12 343 = some (12, 24) by decide +kernel) h14 h15 h17 ?_
  refine w_bipush (v := 8) cd_158_13 (by decide) ?_
  exact w_invokevirtual cd_158_15 (show mt_m 12 362 = some (159, 0) by decide +kernel) (rest := []) rfl (as := [.ref l1, .ref x6, .ref x11, .int x16, .int 8]) rfl h19 (Or.inl h20) ⟨Nat.le_of_ble_eq_true rfl, Nat.le_of_ble_eq_true rfl, Nat.le_of_ble_eq_true rfl⟩ h21
theorem b_158_18 {d : Nat} {Q : (Option Value ⊕ Nat) → mi_H → Prop} (n sl : Nat) (f : Nat → mi_C) {l1 : Nat} {o2 : Option Value} {s3 : Int32} {fs4 : List Value} {x7 : Int32} (h5 : f l1 = .inr (12, fs4)) (h6 : l1 < n) (h8 : fs4[24]? = some (.int x7)) (h9 : ¬ s3 = x7 → mi_W d 158 37 [some (.ref l1), some (.int s3)] [] (n, sl, f) Q) (h10 : ¬ (¬ s3 = x7) → mi_W d 158 27 [some (.ref l1), some (.int s3)] [] (n, sl, f) Q) : mi_W d 158 18 [some (.ref l1), o2] [.int s3] (n, sl, f) Q := by
  refine w_istore_n (ls' := [some (.ref l1), some (.int s3)]) cd_158_18 (Nat.le_of_ble_eq_true rfl) rfl ?_
  refine w_iload_n cd_158_19 rfl ?_
  refine w_aload_n cd_158_20 rfl ?_
  refine w_getfield cd_158_21 (show mt_f 12 343 = some (12, 24) by decide +kernel) h5 h6 h8 ?_
  exact w_if_icmpne cd_158_24 (by decide) h9 h10
theorem b_158_27 {d : Nat} {Q : (Option Value ⊕ Nat) → mi_H → Prop} (n sl : Nat) (f : Nat → mi_C) {l1 : Nat} {l2 : Int32} {fs3 : List Value} {x6 : Int32} {fs8 : List Value} (h4 : f l1 = .inr (12, fs3)) (h5 : l1 < n) (h7 : fs3[24]? = some (.int x6)) (h9 : f l1 = .inr (12, fs8)) (h10 : l1 < n) (h11 : 24 < fs8.length) (h12 : mi_W d 158 37 [some (.ref l1), some (.int l2)] [] (n, sl, (va_up f l1 (.inr (12, fs8.set 24 (.int (x6 + 1)))))) Q) : mi_W d 158 27 [some (.ref l1), some (.int l2)] [] (n, sl, f) Q := by
  refine w_aload_n cd_158_27 rfl ?_
  refine w_dup_r cd_158_28 ?_
  refine w_getfield cd_158_29 (show mt_f 12 343 = some (12, 24) by decide +kernel) h4 h5 h7 ?_
  refine w_iconst (v := 1) cd_158_32 (by decide) ?_
  refine w_iadd cd_158_33 ?_
  refine w_putfield (w := .int (x6 + 1)) cd_158_34 (show mt_f 12 343 = some (12, 24) by decide +kernel) h9 h10 ⟨h11, rfl, Or.inl (by decide)⟩ ?_
  exact h12
theorem b_158_37 {d : Nat} {Q : (Option Value ⊕ Nat) → mi_H → Prop} (n sl : Nat) (f : Nat → mi_C) {l1 : Nat} {l2 : Int32} (h3 : Q (.inl (some (.int l2))) (n, sl, f)) : mi_W d 158 37 [some (.ref l1), some (.int l2)] [] (n, sl, f) Q := by
  refine w_iload_n cd_158_37 rfl ?_
  exact w_ireturn_i cd_158_38 (by decide +kernel) h3
/-! MarloweHostModel.named([I[III)I -/
set_option maxRecDepth 100000 in
theorem mq_159 : mt_q 159 = my_159 := rfl
set_option maxRecDepth 100000 in
theorem ci_159 : mt_inc 0 my_159.cd = true := by decide +kernel
theorem cd_159_0 : mt_cd 159 0 = some (.aload_n 0) := mt_cd_of (q := (0, .aload_n 0, 1)) mq_159 ci_159 (List.mem_of_getElem? (i := 0) rfl)
theorem cd_159_1 : mt_cd 159 1 = some (.getfield 310) := mt_cd_of (q := (1, .getfield 310, 3)) mq_159 ci_159 (List.mem_of_getElem? (i := 1) rfl)
theorem cd_159_4 : mt_cd 159 4 = some (.iconst 1) := mt_cd_of (q := (4, .iconst 1, 1)) mq_159 ci_159 (List.mem_of_getElem? (i := 2) rfl)
theorem cd_159_5 : mt_cd 159 5 = some (.if_icmp .eq 14) := mt_cd_of (q := (5, .if_icmp .eq 14, 3)) mq_159 ci_159 (List.mem_of_getElem? (i := 3) rfl)
theorem cd_159_8 : mt_cd 159 8 = some (.aload_n 0) := mt_cd_of (q := (8, .aload_n 0, 1)) mq_159 ci_159 (List.mem_of_getElem? (i := 4) rfl)
theorem cd_159_9 : mt_cd 159 9 = some (.aload_n 0) := mt_cd_of (q := (9, .aload_n 0, 1)) mq_159 ci_159 (List.mem_of_getElem? (i := 5) rfl)
theorem cd_159_10 : mt_cd 159 10 = some (.getfield 299) := mt_cd_of (q := (10, .getfield 299, 3)) mq_159 ci_159 (List.mem_of_getElem? (i := 6) rfl)
theorem cd_159_13 : mt_cd 159 13 = some (.invokevirtual 272) := mt_cd_of (q := (13, .invokevirtual 272, 3)) mq_159 ci_159 (List.mem_of_getElem? (i := 7) rfl)
theorem cd_159_16 : mt_cd 159 16 = some (.pop) := mt_cd_of (q := (16, .pop, 1)) mq_159 ci_159 (List.mem_of_getElem? (i := 8) rfl)
theorem cd_159_17 : mt_cd 159 17 = some (.iconst (-1)) := mt_cd_of (q := (17, .iconst (-1), 1)) mq_159 ci_159 (List.mem_of_getElem? (i := 9) rfl)
theorem cd_159_18 : mt_cd 159 18 = some (.ireturn) := mt_cd_of (q := (18, .ireturn, 1)) mq_159 ci_159 (List.mem_of_getElem? (i := 10) rfl)
theorem cd_159_19 : mt_cd 159 19 = some (.iconst 0) := mt_cd_of (q := (19, .iconst 0, 1)) mq_159 ci_159 (List.mem_of_getElem? (i := 11) rfl)
theorem cd_159_20 : mt_cd 159 20 = some (.istore 5) := mt_cd_of (q := (20, .istore 5, 2)) mq_159 ci_159 (List.mem_of_getElem? (i := 12) rfl)
theorem cd_159_22 : mt_cd 159 22 = some (.iload 5) := mt_cd_of (q := (22, .iload 5, 2)) mq_159 ci_159 (List.mem_of_getElem? (i := 13) rfl)
theorem cd_159_24 : mt_cd 159 24 = some (.iload_n 3) := mt_cd_of (q := (24, .iload_n 3, 1)) mq_159 ci_159 (List.mem_of_getElem? (i := 14) rfl)
theorem cd_159_25 : mt_cd 159 25 = some (.if_icmp .ge 24) := mt_cd_of (q := (25, .if_icmp .ge 24, 3)) mq_159 ci_159 (List.mem_of_getElem? (i := 15) rfl)
theorem cd_159_28 : mt_cd 159 28 = some (.aload_n 0) := mt_cd_of (q := (28, .aload_n 0, 1)) mq_159 ci_159 (List.mem_of_getElem? (i := 16) rfl)
theorem cd_159_29 : mt_cd 159 29 = some (.aload_n 1) := mt_cd_of (q := (29, .aload_n 1, 1)) mq_159 ci_159 (List.mem_of_getElem? (i := 17) rfl)
theorem cd_159_30 : mt_cd 159 30 = some (.iload 5) := mt_cd_of (q := (30, .iload 5, 2)) mq_159 ci_159 (List.mem_of_getElem? (i := 18) rfl)
theorem cd_159_32 : mt_cd 159 32 = some (.iaload) := mt_cd_of (q := (32, .iaload, 1)) mq_159 ci_159 (List.mem_of_getElem? (i := 19) rfl)
theorem cd_159_33 : mt_cd 159 33 = some (.aload_n 2) := mt_cd_of (q := (33, .aload_n 2, 1)) mq_159 ci_159 (List.mem_of_getElem? (i := 20) rfl)
theorem cd_159_34 : mt_cd 159 34 = some (.iload 5) := mt_cd_of (q := (34, .iload 5, 2)) mq_159 ci_159 (List.mem_of_getElem? (i := 21) rfl)
theorem cd_159_36 : mt_cd 159 36 = some (.iaload) := mt_cd_of (q := (36, .iaload, 1)) mq_159 ci_159 (List.mem_of_getElem? (i := 22) rfl)
theorem cd_159_37 : mt_cd 159 37 = some (.invokevirtual 358) := mt_cd_of (q := (37, .invokevirtual 358, 3)) mq_159 ci_159 (List.mem_of_getElem? (i := 23) rfl)
theorem cd_159_40 : mt_cd 159 40 = some (.ifCond .ne 9) := mt_cd_of (q := (40, .ifCond .ne 9, 3)) mq_159 ci_159 (List.mem_of_getElem? (i := 24) rfl)
theorem cd_159_43 : mt_cd 159 43 = some (.iinc 5 1) := mt_cd_of (q := (43, .iinc 5 1, 3)) mq_159 ci_159 (List.mem_of_getElem? (i := 25) rfl)
theorem cd_159_46 : mt_cd 159 46 = some (.goto (-24)) := mt_cd_of (q := (46, .goto (-24), 3)) mq_159 ci_159 (List.mem_of_getElem? (i := 26) rfl)
theorem cd_159_49 : mt_cd 159 49 = some (.iload 5) := mt_cd_of (q := (49, .iload 5, 2)) mq_159 ci_159 (List.mem_of_getElem? (i := 27) rfl)
theorem cd_159_51 : mt_cd 159 51 = some (.iload 4) := mt_cd_of (q := (51, .iload 4, 2)) mq_159 ci_159 (List.mem_of_getElem? (i := 28) rfl)
theorem cd_159_53 : mt_cd 159 53 = some (.if_icmp .ne 14) := mt_cd_of (q := (53, .if_icmp .ne 14, 3)) mq_159 ci_159 (List.mem_of_getElem? (i := 29) rfl)
theorem cd_159_56 : mt_cd 159 56 = some (.aload_n 0) := mt_cd_of (q := (56, .aload_n 0, 1)) mq_159 ci_159 (List.mem_of_getElem? (i := 30) rfl)
theorem cd_159_57 : mt_cd 159 57 = some (.aload_n 0) := mt_cd_of (q := (57, .aload_n 0, 1)) mq_159 ci_159 (List.mem_of_getElem? (i := 31) rfl)
theorem cd_159_58 : mt_cd 159 58 = some (.getfield 299) := mt_cd_of (q := (58, .getfield 299, 3)) mq_159 ci_159 (List.mem_of_getElem? (i := 32) rfl)
theorem cd_159_61 : mt_cd 159 61 = some (.invokevirtual 272) := mt_cd_of (q := (61, .invokevirtual 272, 3)) mq_159 ci_159 (List.mem_of_getElem? (i := 33) rfl)
theorem cd_159_64 : mt_cd 159 64 = some (.pop) := mt_cd_of (q := (64, .pop, 1)) mq_159 ci_159 (List.mem_of_getElem? (i := 34) rfl)
theorem cd_159_65 : mt_cd 159 65 = some (.iconst (-1)) := mt_cd_of (q := (65, .iconst (-1), 1)) mq_159 ci_159 (List.mem_of_getElem? (i := 35) rfl)
theorem cd_159_66 : mt_cd 159 66 = some (.ireturn) := mt_cd_of (q := (66, .ireturn, 1)) mq_159 ci_159 (List.mem_of_getElem? (i := 36) rfl)
theorem cd_159_67 : mt_cd 159 67 = some (.iload 5) := mt_cd_of (q := (67, .iload 5, 2)) mq_159 ci_159 (List.mem_of_getElem? (i := 37) rfl)
theorem cd_159_69 : mt_cd 159 69 = some (.iload_n 3) := mt_cd_of (q := (69, .iload_n 3, 1)) mq_159 ci_159 (List.mem_of_getElem? (i := 38) rfl)
theorem cd_159_70 : mt_cd 159 70 = some (.if_icmp .ne 24) := mt_cd_of (q := (70, .if_icmp .ne 24, 3)) mq_159 ci_159 (List.mem_of_getElem? (i := 39) rfl)
theorem cd_159_73 : mt_cd 159 73 = some (.aload_n 1) := mt_cd_of (q := (73, .aload_n 1, 1)) mq_159 ci_159 (List.mem_of_getElem? (i := 40) rfl)
theorem cd_159_74 : mt_cd 159 74 = some (.iload 5) := mt_cd_of (q := (74, .iload 5, 2)) mq_159 ci_159 (List.mem_of_getElem? (i := 41) rfl)
theorem cd_159_76 : mt_cd 159 76 = some (.aload_n 0) := mt_cd_of (q := (76, .aload_n 0, 1)) mq_159 ci_159 (List.mem_of_getElem? (i := 42) rfl)
theorem cd_159_77 : mt_cd 159 77 = some (.getfield 299) := mt_cd_of (q := (77, .getfield 299, 3)) mq_159 ci_159 (List.mem_of_getElem? (i := 43) rfl)
theorem cd_159_80 : mt_cd 159 80 = some (.iastore) := mt_cd_of (q := (80, .iastore, 1)) mq_159 ci_159 (List.mem_of_getElem? (i := 44) rfl)
theorem cd_159_81 : mt_cd 159 81 = some (.aload_n 2) := mt_cd_of (q := (81, .aload_n 2, 1)) mq_159 ci_159 (List.mem_of_getElem? (i := 45) rfl)
theorem cd_159_82 : mt_cd 159 82 = some (.iload 5) := mt_cd_of (q := (82, .iload 5, 2)) mq_159 ci_159 (List.mem_of_getElem? (i := 46) rfl)
theorem cd_159_84 : mt_cd 159 84 = some (.aload_n 0) := mt_cd_of (q := (84, .aload_n 0, 1)) mq_159 ci_159 (List.mem_of_getElem? (i := 47) rfl)
theorem cd_159_85 : mt_cd 159 85 = some (.getfield 297) := mt_cd_of (q := (85, .getfield 297, 3)) mq_159 ci_159 (List.mem_of_getElem? (i := 48) rfl)
theorem cd_159_88 : mt_cd 159 88 = some (.aload_n 0) := mt_cd_of (q := (88, .aload_n 0, 1)) mq_159 ci_159 (List.mem_of_getElem? (i := 49) rfl)
theorem cd_159_89 : mt_cd 159 89 = some (.getfield 299) := mt_cd_of (q := (89, .getfield 299, 3)) mq_159 ci_159 (List.mem_of_getElem? (i := 50) rfl)
theorem cd_159_92 : mt_cd 159 92 = some (.isub) := mt_cd_of (q := (92, .isub, 1)) mq_159 ci_159 (List.mem_of_getElem? (i := 51) rfl)
theorem cd_159_93 : mt_cd 159 93 = some (.iastore) := mt_cd_of (q := (93, .iastore, 1)) mq_159 ci_159 (List.mem_of_getElem? (i := 52) rfl)
theorem cd_159_94 : mt_cd 159 94 = some (.aload_n 0) := mt_cd_of (q := (94, .aload_n 0, 1)) mq_159 ci_159 (List.mem_of_getElem? (i := 53) rfl)
theorem cd_159_95 : mt_cd 159 95 = some (.invokevirtual 333) := mt_cd_of (q := (95, .invokevirtual 333, 3)) mq_159 ci_159 (List.mem_of_getElem? (i := 54) rfl)
theorem cd_159_98 : mt_cd 159 98 = some (.ifCond .eq 8) := mt_cd_of (q := (98, .ifCond .eq 8, 3)) mq_159 ci_159 (List.mem_of_getElem? (i := 55) rfl)
theorem cd_159_101 : mt_cd 159 101 = some (.iload 5) := mt_cd_of (q := (101, .iload 5, 2)) mq_159 ci_159 (List.mem_of_getElem? (i := 56) rfl)
theorem cd_159_103 : mt_cd 159 103 = some (.goto 4) := mt_cd_of (q := (103, .goto 4, 3)) mq_159 ci_159 (List.mem_of_getElem? (i := 57) rfl)
theorem cd_159_106 : mt_cd 159 106 = some (.iconst (-1)) := mt_cd_of (q := (106, .iconst (-1), 1)) mq_159 ci_159 (List.mem_of_getElem? (i := 58) rfl)
theorem cd_159_107 : mt_cd 159 107 = some (.ireturn) := mt_cd_of (q := (107, .ireturn, 1)) mq_159 ci_159 (List.mem_of_getElem? (i := 59) rfl)
theorem b_159_0 {d : Nat} {Q : (Option Value ⊕ Nat) → mi_H → Prop} (n sl : Nat) (f : Nat → mi_C) {l1 : Nat} {l2 : Nat} {l3 : Nat} {l4 : Int32} {l5 : Int32} {o6 : Option Value} {fs7 : List Value} {x10 : Int32} (h8 : f l1 = .inr (12, fs7)) (h9 : l1 < n) (h11 : fs7[8]? = some (.int x10)) (h12 : x10 = 1 → mi_W d 159 19 [some (.ref l1), some (.ref l2), some (.ref l3), some (.int l4), some (.int l5), o6] [] (n, sl, f) Q) (h13 : ¬ (x10 = 1) → mi_W d 159 8 [some (.ref l1), some (.ref l2), some (.ref l3), some (.int l4), some (.int l5), o6] [] (n, sl, f) Q) : mi_W d 159 0 [some (.ref l1), some (.ref l2), some (.ref l3), some (.int l4), some (.int l5), o6] [] (n, sl, f) Q := by
  refine w_aload_n cd_159_0 rfl ?_
  refine w_getfield cd_159_1 (show mt_f 12 310 = some (12, 8) by decide +kernel) h8 h9 h11 ?_
  refine w_iconst (v := 1) cd_159_4 (by decide) ?_
  exact w_if_icmpeq cd_159_5 (by decide) h12 h13
theorem b_159_8 {d : Nat} {Q : (Option Value ⊕ Nat) → mi_H → Prop} (n sl : Nat) (f : Nat → mi_C) {l1 : Nat} {l2 : Nat} {l3 : Nat} {l4 : Int32} {l5 : Int32} {o6 : Option Value} {fs7 : List Value} {x10 : Int32} {fs12 : List Value} (h8 : f l1 = .inr (12, fs7)) (h9 : l1 < n) (h11 : fs7[9]? = some (.int x10)) (h13 : f l1 = .inr (12, fs12)) (h14 : l1 < n) (h15 : mi_W d 142 0 (mi_en 2 [.ref l1, .int x10]) [] (n, sl, f) (mi_Kc d 159 13 [some (.ref l1), some (.ref l2), some (.ref l3), some (.int l4), some (.int l5), o6] [] Q)) : mi_W (d + 1) 159 8 [some (.ref l1), some (.ref l2), some (.ref l3), some (.int l4), some (.int l5), o6] [] (n, sl, f) Q := by
  refine w_aload_n cd_159_8 rfl ?_
  refine w_aload_n cd_159_9 rfl ?_
  refine w_getfield cd_159_10 (show mt_f 12 299 = some (12, 9) by decide +kernel) h8 h9 h11 ?_
  exact w_invokevirtual cd_159_13 (show mt_m 12 272 = some (142, 0) by decide +kernel) (rest := []) rfl (as := [.ref l1, .int x10]) rfl h13 (Or.inl h14) ⟨Nat.le_of_ble_eq_true rfl, Nat.le_of_ble_eq_true rfl, Nat.le_of_ble_eq_true rfl⟩ h15
theorem b_159_16 {d : Nat} {Q : (Option Value ⊕ Nat) → mi_H → Prop} (n sl : Nat) (f : Nat → mi_C) {l1 : Nat} {l2 : Nat} {l3 : Nat} {l4 : Int32} {l5 : Int32} {o6 : Option Value} {s7 : Int32} (h8 : Q (.inl (some (.int (-1)))) (n, sl, f)) : mi_W d 159 16 [some (.ref l1), some (.ref l2), some (.ref l3), some (.int l4), some (.int l5), o6] [.int s7] (n, sl, f) Q := by
  refine w_pop_i cd_159_16 ?_
  refine w_iconst (v := (-1)) cd_159_17 (by decide) ?_
  exact w_ireturn_i cd_159_18 (by decide +kernel) h8
theorem b_159_19 {d : Nat} {Q : (Option Value ⊕ Nat) → mi_H → Prop} (n sl : Nat) (f : Nat → mi_C) {l1 : Nat} {l2 : Nat} {l3 : Nat} {l4 : Int32} {l5 : Int32} {o6 : Option Value} (h7 : mi_W d 159 22 [some (.ref l1), some (.ref l2), some (.ref l3), some (.int l4), some (.int l5), some (.int 0)] [] (n, sl, f) Q) : mi_W d 159 19 [some (.ref l1), some (.ref l2), some (.ref l3), some (.int l4), some (.int l5), o6] [] (n, sl, f) Q := by
  refine w_iconst (v := 0) cd_159_19 (by decide) ?_
  refine w_istore (ls' := [some (.ref l1), some (.ref l2), some (.ref l3), some (.int l4), some (.int l5), some (.int 0)]) cd_159_20 (Nat.le_of_ble_eq_true rfl) rfl ?_
  exact h7
theorem b_159_22 {d : Nat} {Q : (Option Value ⊕ Nat) → mi_H → Prop} (n sl : Nat) (f : Nat → mi_C) {l1 : Nat} {l2 : Nat} {l3 : Nat} {l4 : Int32} {l5 : Int32} {l6 : Int32} (h7 : l4 ≤ l6 → mi_W d 159 49 [some (.ref l1), some (.ref l2), some (.ref l3), some (.int l4), some (.int l5), some (.int l6)] [] (n, sl, f) Q) (h8 : ¬ (l4 ≤ l6) → mi_W d 159 28 [some (.ref l1), some (.ref l2), some (.ref l3), some (.int l4), some (.int l5), some (.int l6)] [] (n, sl, f) Q) : mi_W d 159 22 [some (.ref l1), some (.ref l2), some (.ref l3), some (.int l4), some (.int l5), some (.int l6)] [] (n, sl, f) Q := by
  refine w_iload cd_159_22 rfl ?_
  refine w_iload_n cd_159_24 rfl ?_
  exact w_if_icmpge cd_159_25 (by decide) h7 h8
theorem b_159_28 {d : Nat} {Q : (Option Value ⊕ Nat) → mi_H → Prop} (n sl : Nat) (f : Nat → mi_C) {l1 : Nat} {l2 : Nat} {l3 : Nat} {l4 : Int32} {l5 : Int32} {l6 : Int32} (m7 i7 : Nat) (g7 : Nat → Int32) (m11 i11 : Nat) (g11 : Nat → Int32) {fs15 : List Value} (h8 : f l2 = .inl (0, m7, .inl g7)) (h9 : l2 < n ∨ l2 = mi_SC) (h10 : mi_ix l6 m7 i7) (h12 : f l3 = .inl (0, m11, .inl g11)) (h13 : l3 < n ∨ l3 = mi_SC) (h14 : mi_ix l6 m11 i11) (h16 : f l1 = .inr (12, fs15)) (h17 : l1 < n) (h18 : mi_W d 160 0 (mi_en 4 [.ref l1, .int (g7 i7), .int (g11 i11)]) [] (n, sl, f) (mi_Kc d 159 37 [some (.ref l1), some (.ref l2), some (.ref l3), some (.int l4), some (.int l5), some (.int l6)] [] Q)) : mi_W (d + 1) 159 28 [some (.ref l1), some (.ref l2), some (.ref l3), some (.int l4), some (.int l5), some (.int l6)] [] (n, sl, f) Q := by
  refine w_aload_n cd_159_28 rfl ?_
  refine w_aload_n cd_159_29 rfl ?_
  refine w_iload cd_159_30 rfl ?_
  refine w_iaload cd_159_32 h8 h9 h10 ?_
  refine w_aload_n cd_159_33 rfl ?_
  refine w_iload cd_159_34 rfl ?_
  refine w_iaload cd_159_36 h12 h13 h14 ?_
  exact w_invokevirtual cd_159_37 (show mt_m 12 358 = some (160, 0) by decide +kernel) (rest := []) rfl (as := [.ref l1, .int (g7 i7), .int (g11 i11)]) rfl h16 (Or.inl h17) ⟨Nat.le_of_ble_eq_true rfl, Nat.le_of_ble_eq_true rfl, Nat.le_of_ble_eq_true rfl⟩ h18
theorem b_159_40 {d : Nat} {Q : (Option Value ⊕ Nat) → mi_H → Prop} (n sl : Nat) (f : Nat → mi_C) {l1 : Nat} {l2 : Nat} {l3 : Nat} {l4 : Int32} {l5 : Int32} {l6 : Int32} {s7 : Int32} (h8 : ¬ s7 = (0 : Int32) → mi_W d 159 49 [some (.ref l1), some (.ref l2), some (.ref l3), some (.int l4), some (.int l5), some (.int l6)] [] (n, sl, f) Q) (h9 : ¬ (¬ s7 = (0 : Int32)) → mi_W d 159 43 [some (.ref l1), some (.ref l2), some (.ref l3), some (.int l4), some (.int l5), some (.int l6)] [] (n, sl, f) Q) : mi_W d 159 40 [some (.ref l1), some (.ref l2), some (.ref l3), some (.int l4), some (.int l5), some (.int l6)] [.int s7] (n, sl, f) Q := by
  exact w_ifne cd_159_40 (by decide) h8 h9
theorem b_159_43 {d : Nat} {Q : (Option Value ⊕ Nat) → mi_H → Prop} (n sl : Nat) (f : Nat → mi_C) {l1 : Nat} {l2 : Nat} {l3 : Nat} {l4 : Int32} {l5 : Int32} {l6 : Int32} (h7 : mi_W d 159 22 [some (.ref l1), some (.ref l2), some (.ref l3), some (.int l4), some (.int l5), some (.int (l6 + 1))] [] (n, sl, f) Q) : mi_W d 159 43 [some (.ref l1), some (.ref l2), some (.ref l3), some (.int l4), some (.int l5), some (.int l6)] [] (n, sl, f) Q := by
  refine w_iinc (v := 1) (ls' := [some (.ref l1), some (.ref l2), some (.ref l3), some (.int l4), some (.int l5), some (.int (l6 + 1))]) cd_159_43 rfl (by decide) rfl ?_
  exact w_goto cd_159_46 (by decide) h7
theorem b_159_49 {d : Nat} {Q : (Option Value ⊕ Nat) → mi_H → Prop} (n sl : Nat) (f : Nat → mi_C) {l1 : Nat} {l2 : Nat} {l3 : Nat} {l4 : Int32} {l5 : Int32} {l6 : Int32} (h7 : ¬ l6 = l5 → mi_W d 159 67 [some (.ref l1), some (.ref l2), some (.ref l3), some (.int l4), some (.int l5), some (.int l6)] [] (n, sl, f) Q) (h8 : ¬ (¬ l6 = l5) → mi_W d 159 56 [some (.ref l1), some (.ref l2), some (.ref l3), some (.int l4), some (.int l5), some (.int l6)] [] (n, sl, f) Q) : mi_W d 159 49 [some (.ref l1), some (.ref l2), some (.ref l3), some (.int l4), some (.int l5), some (.int l6)] [] (n, sl, f) Q := by
  refine w_iload cd_159_49 rfl ?_
  refine w_iload cd_159_51 rfl ?_
  exact w_if_icmpne cd_159_53 (by decide) h7 h8
theorem b_159_56 {d : Nat} {Q : (Option Value ⊕ Nat) → mi_H → Prop} (n sl : Nat) (f : Nat → mi_C) {l1 : Nat} {l2 : Nat} {l3 : Nat} {l4 : Int32} {l5 : Int32} {l6 : Int32} {fs7 : List Value} {x10 : Int32} {fs12 : List Value} (h8 : f l1 = .inr (12, fs7)) (h9 : l1 < n) (h11 : fs7[9]? = some (.int x10)) (h13 : f l1 = .inr (12, fs12)) (h14 : l1 < n) (h15 : mi_W d 142 0 (mi_en 2 [.ref l1, .int x10]) [] (n, sl, f) (mi_Kc d 159 61 [some (.ref l1), some (.ref l2), some (.ref l3), some (.int l4), some (.int l5), some (.int l6)] [] Q)) : mi_W (d + 1) 159 56 [some (.ref l1), some (.ref l2), some (.ref l3), some (.int l4), some (.int l5), some (.int l6)] [] (n, sl, f) Q := by
  refine w_aload_n cd_159_56 rfl ?_
  refine w_aload_n cd_159_57 rfl ?_
  refine w_getfield cd_159_58 (show mt_f 12 299 = some (12, 9) by decide +kernel) h8 h9 h11 ?_
  exact w_invokevirtual cd_159_61 (show mt_m 12 272 = some (142, 0) by decide +kernel) (rest := []) rfl (as := [.ref l1, .int x10]) rfl h13 (Or.inl h14) ⟨Nat.le_of_ble_eq_true rfl, Nat.le_of_ble_eq_true rfl, Nat.le_of_ble_eq_true rfl⟩ h15
theorem b_159_64 {d : Nat} {Q : (Option Value ⊕ Nat) → mi_H → Prop} (n sl : Nat) (f : Nat → mi_C) {l1 : Nat} {l2 : Nat} {l3 : Nat} {l4 : Int32} {l5 : Int32} {l6 : Int32} {s7 : Int32} (h8 : Q (.inl (some (.int (-1)))) (n, sl, f)) : mi_W d 159 64 [some (.ref l1), some (.ref l2), some (.ref l3), some (.int l4), some (.int l5), some (.int l6)] [.int s7] (n, sl, f) Q := by
  refine w_pop_i cd_159_64 ?_
  refine w_iconst (v := (-1)) cd_159_65 (by decide) ?_
  exact w_ireturn_i cd_159_66 (by decide +kernel) h8
theorem b_159_67 {d : Nat} {Q : (Option Value ⊕ Nat) → mi_H → Prop} (n sl : Nat) (f : Nat → mi_C) {l1 : Nat} {l2 : Nat} {l3 : Nat} {l4 : Int32} {l5 : Int32} {l6 : Int32} (h7 : ¬ l6 = l4 → mi_W d 159 94 [some (.ref l1), some (.ref l2), some (.ref l3), some (.int l4), some (.int l5), some (.int l6)] [] (n, sl, f) Q) (h8 : ¬ (¬ l6 = l4) → mi_W d 159 73 [some (.ref l1), some (.ref l2), some (.ref l3), some (.int l4), some (.int l5), some (.int l6)] [] (n, sl, f) Q) : mi_W d 159 67 [some (.ref l1), some (.ref l2), some (.ref l3), some (.int l4), some (.int l5), some (.int l6)] [] (n, sl, f) Q := by
  refine w_iload cd_159_67 rfl ?_
  refine w_iload_n cd_159_69 rfl ?_
  exact w_if_icmpne cd_159_70 (by decide) h7 h8
theorem b_159_73 {d : Nat} {Q : (Option Value ⊕ Nat) → mi_H → Prop} (n sl : Nat) (f : Nat → mi_C) {l1 : Nat} {l2 : Nat} {l3 : Nat} {l4 : Int32} {l5 : Int32} {l6 : Int32} {fs7 : List Value} {x10 : Int32} (m12 i12 : Nat) (g12 : Nat → Int32) {fs16 : List Value} {x19 : Int32} {fs21 : List Value} {x24 : Int32} (m26 i26 : Nat) (g26 : Nat → Int32) (h8 : f l1 = .inr (12, fs7)) (h9 : l1 < n) (h11 : fs7[9]? = some (.int x10)) (h13 : f l2 = .inl (0, m12, .inl g12)) (h14 : l2 < n) (h15 : mi_ix l6 m12 i12) (h17 : (va_up f l2 (.inl (0, m12, .inl (upd g12 i12 x10)))) l1 = .inr (12, fs16)) (h18 : l1 < n) (h20 : fs16[10]? = some (.int x19)) (h22 : (va_up f l2 (.inl (0, m12, .inl (upd g12 i12 x10)))) l1 = .inr (12, fs21)) (h23 : l1 < n) (h25 : fs21[9]? = some (.int x24)) (h27 : (va_up f l2 (.inl (0, m12, .inl (upd g12 i12 x10)))) l3 = .inl (0, m26, .inl g26)) (h28 : l3 < n) (h29 : mi_ix l6 m26 i26) (h30 : mi_W d 159 94 [some (.ref l1), some (.ref l2), some (.ref l3), some (.int l4), some (.int l5), some (.int l6)] [] (n, sl, (va_up (va_up f l2 (.inl (0, m12, .inl (upd g12 i12 x10)))) l3 (.inl (0, m26, .inl (upd g26 i26 (x19 - x24)))))) Q) : mi_W d 159 73 [some (.ref l1), some (.ref l2), some (.ref l3), some (.int l4), some (.int l5), some (.int l6)] [] (n, sl, f) Q := by
  refine w_aload_n cd_159_73 rfl ?_
  refine w_iload cd_159_74 rfl ?_
  refine w_aload_n cd_159_76 rfl ?_
  refine w_getfield cd_159_77 (show mt_f 12 299 = some (12, 9) by decide +kernel) h8 h9 h11 ?_
  refine w_iastore cd_159_80 h13 h14 h15 ?_
  refine w_aload_n cd_159_81 rfl ?_
  refine w_iload cd_159_82 rfl ?_
  refine w_aload_n cd_159_84 rfl ?_
  refine w_getfield cd_159_85 (show mt_f 12 297 = some (12, 10) by decide +kernel) h17 h18 h20 ?_
  refine w_aload_n cd_159_88 rfl ?_
  refine w_getfield cd_159_89 (show mt_f 12 299 = some (12, 9) by decide +kernel) h22 h23 h25 ?_
  refine w_isub cd_159_92 ?_
  refine w_iastore cd_159_93 h27 h28 h29 ?_
  exact h30
theorem b_159_94 {d : Nat} {Q : (Option Value ⊕ Nat) → mi_H → Prop} (n sl : Nat) (f : Nat → mi_C) {l1 : Nat} {l2 : Nat} {l3 : Nat} {l4 : Int32} {l5 : Int32} {l6 : Int32} {fs7 : List Value} (h8 : f l1 = .inr (12, fs7)) (h9 : l1 < n) (h10 : mi_W d 144 0 (mi_en 4 [.ref l1]) [] (n, sl, f) (mi_Kc d 159 95 [some (.ref l1), some (.ref l2), some (.ref l3), some (.int l4), some (.int l5), some (.int l6)] [] Q)) : mi_W (d + 1) 159 94 [some (.ref l1), some (.ref l2), some (.ref l3), some (.int l4), some (.int l5), some (.int l6)] [] (n, sl, f) Q := by
  refine w_aload_n cd_159_94 rfl ?_
  exact w_invokevirtual cd_159_95 (show mt_m 12 333 = some (144, 0) by decide +kernel) (rest := []) rfl (as := [.ref l1]) rfl h8 (Or.inl h9) ⟨Nat.le_of_ble_eq_true rfl, Nat.le_of_ble_eq_true rfl, Nat.le_of_ble_eq_true rfl⟩ h10
theorem b_159_98 {d : Nat} {Q : (Option Value ⊕ Nat) → mi_H → Prop} (n sl : Nat) (f : Nat → mi_C) {l1 : Nat} {l2 : Nat} {l3 : Nat} {l4 : Int32} {l5 : Int32} {l6 : Int32} {s7 : Int32} (h8 : s7 = (0 : Int32) → mi_W d 159 106 [some (.ref l1), some (.ref l2), some (.ref l3), some (.int l4), some (.int l5), some (.int l6)] [] (n, sl, f) Q) (h9 : ¬ (s7 = (0 : Int32)) → mi_W d 159 101 [some (.ref l1), some (.ref l2), some (.ref l3), some (.int l4), some (.int l5), some (.int l6)] [] (n, sl, f) Q) : mi_W d 159 98 [some (.ref l1), some (.ref l2), some (.ref l3), some (.int l4), some (.int l5), some (.int l6)] [.int s7] (n, sl, f) Q := by
  exact w_ifeq cd_159_98 (by decide) h8 h9
theorem b_159_101 {d : Nat} {Q : (Option Value ⊕ Nat) → mi_H → Prop} (n sl : Nat) (f : Nat → mi_C) {l1 : Nat} {l2 : Nat} {l3 : Nat} {l4 : Int32} {l5 : Int32} {l6 : Int32} (h7 : mi_W d 159 107 [some (.ref l1), some (.ref l2), some (.ref l3), some (.int l4), some (.int l5), some (.int l6)] [.int l6] (n, sl, f) Q) : mi_W d 159 101 [some (.ref l1), some (.ref l2), some (.ref l3), some (.int l4), some (.int l5), some (.int l6)] [] (n, sl, f) Q := by
  refine w_iload cd_159_101 rfl ?_
  exact w_goto cd_159_103 (by decide) h7
theorem b_159_106 {d : Nat} {Q : (Option Value ⊕ Nat) → mi_H → Prop} (n sl : Nat) (f : Nat → mi_C) {l1 : Nat} {l2 : Nat} {l3 : Nat} {l4 : Int32} {l5 : Int32} {l6 : Int32} (h7 : mi_W d 159 107 [some (.ref l1), some (.ref l2), some (.ref l3), some (.int l4), some (.int l5), some (.int l6)] [.int (-1)] (n, sl, f) Q) : mi_W d 159 106 [some (.ref l1), some (.ref l2), some (.ref l3), some (.int l4), some (.int l5), some (.int l6)] [] (n, sl, f) Q := by
  refine w_iconst (v := (-1)) cd_159_106 (by decide) ?_
  exact h7
theorem b_159_107 {d : Nat} {Q : (Option Value ⊕ Nat) → mi_H → Prop} (n sl : Nat) (f : Nat → mi_C) {l1 : Nat} {l2 : Nat} {l3 : Nat} {l4 : Int32} {l5 : Int32} {l6 : Int32} {s7 : Int32} (h8 : Q (.inl (some (.int s7))) (n, sl, f)) : mi_W d 159 107 [some (.ref l1), some (.ref l2), some (.ref l3), some (.int l4), some (.int l5), some (.int l6)] [.int s7] (n, sl, f) Q := by
  exact w_ireturn_i cd_159_107 (by decide +kernel) h8
/-! MarloweHostModel.same(II)Z -/
set_option maxRecDepth 100000 in
theorem mq_160 : mt_q 160 = my_160 := rfl
set_option maxRecDepth 100000 in
theorem ci_160 : mt_inc 0 my_160.cd = true := by decide +kernel
theorem cd_160_0 : mt_cd 160 0 = some (.iload_n 2) := mt_cd_of (q := (0, .iload_n 2, 1)) mq_160 ci_160 (List.mem_of_getElem? (i := 0) rfl)
theorem cd_160_1 : mt_cd 160 1 = some (.aload_n 0) := mt_cd_of (q := (1, .aload_n 0, 1)) mq_160 ci_160 (List.mem_of_getElem? (i := 1) rfl)
theorem cd_160_2 : mt_cd 160 2 = some (.getfield 297) := mt_cd_of (q := (2, .getfield 297, 3)) mq_160 ci_160 (List.mem_of_getElem? (i := 2) rfl)
theorem cd_160_5 : mt_cd 160 5 = some (.aload_n 0) := mt_cd_of (q := (5, .aload_n 0, 1)) mq_160 ci_160 (List.mem_of_getElem? (i := 3) rfl)
theorem cd_160_6 : mt_cd 160 6 = some (.getfield 299) := mt_cd_of (q := (6, .getfield 299, 3)) mq_160 ci_160 (List.mem_of_getElem? (i := 4) rfl)
theorem cd_160_9 : mt_cd 160 9 = some (.isub) := mt_cd_of (q := (9, .isub, 1)) mq_160 ci_160 (List.mem_of_getElem? (i := 5) rfl)
theorem cd_160_10 : mt_cd 160 10 = some (.if_icmp .eq 5) := mt_cd_of (q := (10, .if_icmp .eq 5, 3)) mq_160 ci_160 (List.mem_of_getElem? (i := 6) rfl)
theorem cd_160_13 : mt_cd 160 13 = some (.iconst 0) := mt_cd_of (q := (13, .iconst 0, 1)) mq_160 ci_160 (List.mem_of_getElem? (i := 7) rfl)
theorem cd_160_14 : mt_cd 160 14 = some (.ireturn) := mt_cd_of (q := (14, .ireturn, 1)) mq_160 ci_160 (List.mem_of_getElem? (i := 8) rfl)
theorem cd_160_15 : mt_cd 160 15 = some (.iconst 0) := mt_cd_of (q := (15, .iconst 0, 1)) mq_160 ci_160 (List.mem_of_getElem? (i := 9) rfl)
theorem cd_160_16 : mt_cd 160 16 = some (.istore_n 3) := mt_cd_of (q := (16, .istore_n 3, 1)) mq_160 ci_160 (List.mem_of_getElem? (i := 10) rfl)
theorem cd_160_17 : mt_cd 160 17 = some (.iload_n 3) := mt_cd_of (q := (17, .iload_n 3, 1)) mq_160 ci_160 (List.mem_of_getElem? (i := 11) rfl)
theorem cd_160_18 : mt_cd 160 18 = some (.iload_n 2) := mt_cd_of (q := (18, .iload_n 2, 1)) mq_160 ci_160 (List.mem_of_getElem? (i := 12) rfl)
theorem cd_160_19 : mt_cd 160 19 = some (.if_icmp .ge 33) := mt_cd_of (q := (19, .if_icmp .ge 33, 3)) mq_160 ci_160 (List.mem_of_getElem? (i := 13) rfl)
theorem cd_160_22 : mt_cd 160 22 = some (.aload_n 0) := mt_cd_of (q := (22, .aload_n 0, 1)) mq_160 ci_160 (List.mem_of_getElem? (i := 14) rfl)
theorem cd_160_23 : mt_cd 160 23 = some (.getfield 20) := mt_cd_of (q := (23, .getfield 20, 3)) mq_160 ci_160 (List.mem_of_getElem? (i := 15) rfl)
theorem cd_160_26 : mt_cd 160 26 = some (.iload_n 1) := mt_cd_of (q := (26, .iload_n 1, 1)) mq_160 ci_160 (List.mem_of_getElem? (i := 16) rfl)
theorem cd_160_27 : mt_cd 160 27 = some (.iload_n 3) := mt_cd_of (q := (27, .iload_n 3, 1)) mq_160 ci_160 (List.mem_of_getElem? (i := 17) rfl)
theorem cd_160_28 : mt_cd 160 28 = some (.iadd) := mt_cd_of (q := (28, .iadd, 1)) mq_160 ci_160 (List.mem_of_getElem? (i := 18) rfl)
theorem cd_160_29 : mt_cd 160 29 = some (.iaload) := mt_cd_of (q := (29, .iaload, 1)) mq_160 ci_160 (List.mem_of_getElem? (i := 19) rfl)
theorem cd_160_30 : mt_cd 160 30 = some (.aload_n 0) := mt_cd_of (q := (30, .aload_n 0, 1)) mq_160 ci_160 (List.mem_of_getElem? (i := 20) rfl)
theorem cd_160_31 : mt_cd 160 31 = some (.getfield 20) := mt_cd_of (q := (31, .getfield 20, 3)) mq_160 ci_160 (List.mem_of_getElem? (i := 21) rfl)
theorem cd_160_34 : mt_cd 160 34 = some (.aload_n 0) := mt_cd_of (q := (34, .aload_n 0, 1)) mq_160 ci_160 (List.mem_of_getElem? (i := 22) rfl)
theorem cd_160_35 : mt_cd 160 35 = some (.getfield 299) := mt_cd_of (q := (35, .getfield 299, 3)) mq_160 ci_160 (List.mem_of_getElem? (i := 23) rfl)
theorem cd_160_38 : mt_cd 160 38 = some (.iload_n 3) := mt_cd_of (q := (38, .iload_n 3, 1)) mq_160 ci_160 (List.mem_of_getElem? (i := 24) rfl)
theorem cd_160_39 : mt_cd 160 39 = some (.iadd) := mt_cd_of (q := (39, .iadd, 1)) mq_160 ci_160 (List.mem_of_getElem? (i := 25) rfl)
theorem cd_160_40 : mt_cd 160 40 = some (.iaload) := mt_cd_of (q := (40, .iaload, 1)) mq_160 ci_160 (List.mem_of_getElem? (i := 26) rfl)
theorem cd_160_41 : mt_cd 160 41 = some (.if_icmp .eq 5) := mt_cd_of (q := (41, .if_icmp .eq 5, 3)) mq_160 ci_160 (List.mem_of_getElem? (i := 27) rfl)
theorem cd_160_44 : mt_cd 160 44 = some (.iconst 0) := mt_cd_of (q := (44, .iconst 0, 1)) mq_160 ci_160 (List.mem_of_getElem? (i := 28) rfl)
theorem cd_160_45 : mt_cd 160 45 = some (.ireturn) := mt_cd_of (q := (45, .ireturn, 1)) mq_160 ci_160 (List.mem_of_getElem? (i := 29) rfl)
theorem cd_160_46 : mt_cd 160 46 = some (.iinc 3 1) := mt_cd_of (q := (46, .iinc 3 1, 3)) mq_160 ci_160 (List.mem_of_getElem? (i := 30) rfl)
theorem cd_160_49 : mt_cd 160 49 = some (.goto (-32)) := mt_cd_of (q := (49, .goto (-32), 3)) mq_160 ci_160 (List.mem_of_getElem? (i := 31) rfl)
theorem cd_160_52 : mt_cd 160 52 = some (.iconst 1) := mt_cd_of (q := (52, .iconst 1, 1)) mq_160 ci_160 (List.mem_of_getElem? (i := 32) rfl)
theorem cd_160_53 : mt_cd 160 53 = some (.ireturn) := mt_cd_of (q := (53, .ireturn, 1)) mq_160 ci_160 (List.mem_of_getElem? (i := 33) rfl)
theorem b_160_0 {d : Nat} {Q : (Option Value ⊕ Nat) → mi_H → Prop} (n sl : Nat) (f : Nat → mi_C) {l1 : Nat} {l2 : Int32} {l3 : Int32} {o4 : Option Value} {fs5 : List Value} {x8 : Int32} {fs10 : List Value} {x13 : Int32} (h6 : f l1 = .inr (12, fs5)) (h7 : l1 < n) (h9 : fs5[10]? = some (.int x8)) (h11 : f l1 = .inr (12, fs10)) (h12 : l1 < n) (h14 : fs10[9]? = some (.int x13)) (h15 : l3 = (x8 - x13) → mi_W d 160 15 [some (.ref l1), some (.int l2), some (.int l3), o4] [] (n, sl, f) Q) (h16 : ¬ (l3 = (x8 - x13)) → mi_W d 160 13 [some (.ref l1), some (.int l2), some (.int l3), o4] [] (n, sl, f) Q) : mi_W d 160 0 [some (.ref l1), some (.int l2), some (.int l3), o4] [] (n, sl, f) Q := by
  refine w_iload_n cd_160_0 rfl ?_
  refine w_aload_n cd_160_1 rfl ?_
  refine w_getfield cd_160_2 (show mt_f 12 297 = some (12, 10) by decide +kernel) h6 h7 h9 ?_
  refine w_aload_n cd_160_5 rfl ?_
  refine w_getfield cd_160_6 (show mt_f 12 299 = some (12, 9) by decide +kernel) h11 h12 h14 ?_
  refine w_isub cd_160_9 ?_
  exact w_if_icmpeq cd_160_10 (by decide) h15 h16
theorem b_160_13 {d : Nat} {Q : (Option Value ⊕ Nat) → mi_H → Prop} (n sl : Nat) (f : Nat → mi_C) {l1 : Nat} {l2 : Int32} {l3 : Int32} {o4 : Option Value} (h5 : Q (.inl (some (.int 0))) (n, sl, f)) : mi_W d 160 13 [some (.ref l1), some (.int l2), some (.int l3), o4] [] (n, sl, f) Q := by
  refine w_iconst (v := 0) cd_160_13 (by decide) ?_
  exact w_ireturn_z cd_160_14 (by decide +kernel) (by decide) h5
theorem b_160_15 {d : Nat} {Q : (Option Value ⊕ Nat) → mi_H → Prop} (n sl : Nat) (f : Nat → mi_C) {l1 : Nat} {l2 : Int32} {l3 : Int32} {o4 : Option Value} (h5 : mi_W d 160 17 [some (.ref l1), some (.int l2), some (.int l3), some (.int 0)] [] (n, sl, f) Q) : mi_W d 160 15 [some (.ref l1), some (.int l2), some (.int l3), o4] [] (n, sl, f) Q := by
  refine w_iconst (v := 0) cd_160_15 (by decide) ?_
  refine w_istore_n (ls' := [some (.ref l1), some (.int l2), some (.int l3), some (.int 0)]) cd_160_16 (Nat.le_of_ble_eq_true rfl) rfl ?_
  exact h5
theorem b_160_17 {d : Nat} {Q : (Option Value ⊕ Nat) → mi_H → Prop} (n sl : Nat) (f : Nat → mi_C) {l1 : Nat} {l2 : Int32} {l3 : Int32} {l4 : Int32} (h5 : l3 ≤ l4 → mi_W d 160 52 [some (.ref l1), some (.int l2), some (.int l3), some (.int l4)] [] (n, sl, f) Q) (h6 : ¬ (l3 ≤ l4) → mi_W d 160 22 [some (.ref l1), some (.int l2), some (.int l3), some (.int l4)] [] (n, sl, f) Q) : mi_W d 160 17 [some (.ref l1), some (.int l2), some (.int l3), some (.int l4)] [] (n, sl, f) Q := by
  refine w_iload_n cd_160_17 rfl ?_
  refine w_iload_n cd_160_18 rfl ?_
  exact w_if_icmpge cd_160_19 (by decide) h5 h6
theorem b_160_22 {d : Nat} {Q : (Option Value ⊕ Nat) → mi_H → Prop} (n sl : Nat) (f : Nat → mi_C) {l1 : Nat} {l2 : Int32} {l3 : Int32} {l4 : Int32} {fs5 : List Value} {x8 : Nat} (m10 i10 : Nat) (g10 : Nat → Int32) {fs14 : List Value} {x17 : Nat} {fs19 : List Value} {x22 : Int32} (m24 i24 : Nat) (g24 : Nat → Int32) (h6 : f l1 = .inr (12, fs5)) (h7 : l1 < n) (h9 : fs5[6]? = some (.ref x8)) (h11 : f x8 = .inl (0, m10, .inl g10)) (h12 : x8 < n ∨ x8 = mi_SC) (h13 : mi_ix (l2 + l4) m10 i10) (h15 : f l1 = .inr (12, fs14)) (h16 : l1 < n) (h18 : fs14[6]? = some (.ref x17)) (h20 : f l1 = .inr (12, fs19)) (h21 : l1 < n) (h23 : fs19[9]? = some (.int x22)) (h25 : f x17 = .inl (0, m24, .inl g24)) (h26 : x17 < n ∨ x17 = mi_SC) (h27 : mi_ix (x22 + l4) m24 i24) (h28 : (g10 i10) = (g24 i24) → mi_W d 160 46 [some (.ref l1), some (.int l2), some (.int l3), some (.int l4)] [] (n, sl, f) Q) (h29 : ¬ ((g10 i10) = (g24 i24)) → mi_W d 160 44 [some (.ref l1), some (.int l2), some (.int l3), some (.int l4)] [] (n, sl, f) Q) : mi_W d 160 22 [some (.ref l1), some (.int l2), some (.int l3), some (.int l4)] [] (n, sl, f) Q := by
  refine w_aload_n cd_160_22 rfl ?_
  refine w_getfield cd_160_23 (show mt_f 12 20 = some (12, 6) by decide +kernel) h6 h7 h9 ?_
  refine w_iload_n cd_160_26 rfl ?_
  refine w_iload_n cd_160_27 rfl ?_
  refine w_iadd cd_160_28 ?_
  refine w_iaload cd_160_29 h11 h12 h13 ?_
  refine w_aload_n cd_160_30 rfl ?_
  refine w_getfield cd_160_31 (show mt_f 12 20 = some (12, 6) by decide +kernel) h15 h16 h18 ?_
  refine w_aload_n cd_160_34 rfl ?_
  refine w_getfield cd_160_35 (show mt_f 12 299 = some (12, 9) by decide +kernel) h20 h21 h23 ?_
  refine w_iload_n cd_160_38 rfl ?_
  refine w_iadd cd_160_39 ?_
  refine w_iaload cd_160_40 h25 h26 h27 ?_
  exact w_if_icmpeq cd_160_41 (by decide) h28 h29
theorem b_160_44 {d : Nat} {Q : (Option Value ⊕ Nat) → mi_H → Prop} (n sl : Nat) (f : Nat → mi_C) {l1 : Nat} {l2 : Int32} {l3 : Int32} {l4 : Int32} (h5 : Q (.inl (some (.int 0))) (n, sl, f)) : mi_W d 160 44 [some (.ref l1), some (.int l2), some (.int l3), some (.int l4)] [] (n, sl, f) Q := by
  refine w_iconst (v := 0) cd_160_44 (by decide) ?_
  exact w_ireturn_z cd_160_45 (by decide +kernel) (by decide) h5
theorem b_160_46 {d : Nat} {Q : (Option Value ⊕ Nat) → mi_H → Prop} (n sl : Nat) (f : Nat → mi_C) {l1 : Nat} {l2 : Int32} {l3 : Int32} {l4 : Int32} (h5 : mi_W d 160 17 [some (.ref l1), some (.int l2), some (.int l3), some (.int (l4 + 1))] [] (n, sl, f) Q) : mi_W d 160 46 [some (.ref l1), some (.int l2), some (.int l3), some (.int l4)] [] (n, sl, f) Q := by
  refine w_iinc (v := 1) (ls' := [some (.ref l1), some (.int l2), some (.int l3), some (.int (l4 + 1))]) cd_160_46 rfl (by decide) rfl ?_
  exact w_goto cd_160_49 (by decide) h5
theorem b_160_52 {d : Nat} {Q : (Option Value ⊕ Nat) → mi_H → Prop} (n sl : Nat) (f : Nat → mi_C) {l1 : Nat} {l2 : Int32} {l3 : Int32} {l4 : Int32} (h5 : Q (.inl (some (.int 1))) (n, sl, f)) : mi_W d 160 52 [some (.ref l1), some (.int l2), some (.int l3), some (.int l4)] [] (n, sl, f) Q := by
  refine w_iconst (v := 1) cd_160_52 (by decide) ?_
  exact w_ireturn_z cd_160_53 (by decide +kernel) (by decide) h5
/-! MarloweHostModel.token()I -/
set_option maxRecDepth 100000 in
theorem mq_161 : mt_q 161 = my_161 := rfl
set_option maxRecDepth 100000 in
theorem ci_161 : mt_inc 0 my_161.cd = true := by decide +kernel
theorem cd_161_0 : mt_cd 161 0 = some (.aload_n 0) := mt_cd_of (q := (0, .aload_n 0, 1)) mq_161 ci_161 (List.mem_of_getElem? (i := 0) rfl)
theorem cd_161_1 : mt_cd 161 1 = some (.aload_n 0) := mt_cd_of (q := (1, .aload_n 0, 1)) mq_161 ci_161 (List.mem_of_getElem? (i := 1) rfl)
theorem cd_161_2 : mt_cd 161 2 = some (.getfield 117) := mt_cd_of (q := (2, .getfield 117, 3)) mq_161 ci_161 (List.mem_of_getElem? (i := 2) rfl)
theorem cd_161_5 : mt_cd 161 5 = some (.aload_n 0) := mt_cd_of (q := (5, .aload_n 0, 1)) mq_161 ci_161 (List.mem_of_getElem? (i := 3) rfl)
theorem cd_161_6 : mt_cd 161 6 = some (.getfield 120) := mt_cd_of (q := (6, .getfield 120, 3)) mq_161 ci_161 (List.mem_of_getElem? (i := 4) rfl)
theorem cd_161_9 : mt_cd 161 9 = some (.aload_n 0) := mt_cd_of (q := (9, .aload_n 0, 1)) mq_161 ci_161 (List.mem_of_getElem? (i := 5) rfl)
theorem cd_161_10 : mt_cd 161 10 = some (.getfield 346) := mt_cd_of (q := (10, .getfield 346, 3)) mq_161 ci_161 (List.mem_of_getElem? (i := 6) rfl)
theorem cd_161_13 : mt_cd 161 13 = some (.iconst 4) := mt_cd_of (q := (13, .iconst 4, 1)) mq_161 ci_161 (List.mem_of_getElem? (i := 7) rfl)
theorem cd_161_14 : mt_cd 161 14 = some (.invokevirtual 362) := mt_cd_of (q := (14, .invokevirtual 362, 3)) mq_161 ci_161 (List.mem_of_getElem? (i := 8) rfl)
theorem cd_161_17 : mt_cd 161 17 = some (.istore_n 1) := mt_cd_of (q := (17, .istore_n 1, 1)) mq_161 ci_161 (List.mem_of_getElem? (i := 9) rfl)
theorem cd_161_18 : mt_cd 161 18 = some (.iload_n 1) := mt_cd_of (q := (18, .iload_n 1, 1)) mq_161 ci_161 (List.mem_of_getElem? (i := 10) rfl)
theorem cd_161_19 : mt_cd 161 19 = some (.aload_n 0) := mt_cd_of (q := (19, .aload_n 0, 1)) mq_161 ci_161 (List.mem_of_getElem? (i := 11) rfl)
theorem cd_161_20 : mt_cd 161 20 = some (.getfield 346) := mt_cd_of (q := (20, .getfield 346, 3)) mq_161 ci_161 (List.mem_of_getElem? (i := 12) rfl)
theorem cd_161_23 : mt_cd 161 23 = some (.if_icmp .ne 13) := mt_cd_of (q := (23, .if_icmp .ne 13, 3)) mq_161 ci_161 (List.mem_of_getElem? (i := 13) rfl)
theorem cd_161_26 : mt_cd 161 26 = some (.aload_n 0) := mt_cd_of (q := (26, .aload_n 0, 1)) mq_161 ci_161 (List.mem_of_getElem? (i := 14) rfl)
theorem cd_161_27 : mt_cd 161 27 = some (.dup) := mt_cd_of (q := (27, .dup, 1)) mq_161 ci_161 (List.mem_of_getElem? (i := 15) rfl)
theorem cd_161_28 : mt_cd 161 28 = some (.getfield 346) := mt_cd_of (q := (28, .getfield 346, 3)) mq_161 ci_161 (List.mem_of_getElem? (i := 16) rfl)
theorem cd_161_31 : mt_cd 161 31 = some (.iconst 1) := mt_cd_of (q := (31, .iconst 1, 1)) mq_161 ci_161 (List.mem_of_getElem? (i := 17) rfl)
theorem cd_161_32 : mt_cd 161 32 = some (.iadd) := mt_cd_of (q := (32, .iadd, 1)) mq_161 ci_161 (List.mem_of_getElem? (i := 18) rfl)
theorem cd_161_33 : mt_cd 161 33 = some (.putfield 346) := mt_cd_of (q := (33, .putfield 346, 3)) mq_161 ci_161 (List.mem_of_getElem? (i := 19) rfl)
theorem cd_161_36 : mt_cd 161 36 = some (.iload_n 1) := mt_cd_of (q := (36, .iload_n 1, 1)) mq_161 ci_161 (List.mem_of_getElem? (i := 20) rfl)
theorem cd_161_37 : mt_cd 161 37 = some (.ireturn) := mt_cd_of (q := (37, .ireturn, 1)) mq_161 ci_161 (List.mem_of_getElem? (i := 21) rfl)
theorem b_161_0 {d : Nat} {Q : (Option Value ⊕ Nat) → mi_H → Prop} (n sl : Nat) (f : Nat → mi_C) {l1 : Nat} {o2 : Option Value} {fs3 : List Value} {x6 : Nat} {fs8 : List Value} {x11 : Nat} {fs13 : List Value} {x16 : Int32} {fs18 : List Value} (h4 : f l1 = .inr (12, fs3)) (h5 : l1 < n) (h7 : fs3[32]? = some (.ref x6)) (h9 : f l1 = .inr (12, fs8)) (h10 : l1 < n) (h12 : fs8[33]? = some (.ref x11)) (h14 : f l1 = .inr (12, fs13)) (h15 : l1 < n) (h17 : fs13[25]? = some (.int x16)) (h19 : f l1 = .inr (12, fs18)) (h20 : l1 < n) (h21 : mi_W d 159 0 (mi_en 6 [.ref l1, .ref x6, .ref x11, .int x16, .int 4]) [] (n, sl, f) (mi_Kc d 161 14 [some (.ref l1), o2] [] Q)) : mi_W (d + 1) 161 0 [some (.ref l1), o2] [] (n, sl, f) Q := by
  refine w_aload_n cd_161_0 rfl ?_
  refine w_aload_n cd_161_1 rfl ?_
  refine w_getfield cd_161_2 (show mt_f 12 117 = some (12, 32) by decide +kernel) h4 h5 h7 ?_
  refine w_aload_n cd_161_5 rfl ?_
  refine w_getfield cd_161_6 (show mt_f 12 120 = some (12, 33) by decide +kernel) h9 h10 h12 ?_
  refine w_aload_n cd_161_9 rfl ?_
  refine w_getfield cd_161_10 (show mt_f 12 346 = some (12, 25) by decide +kernel) h14 h15 h17 ?_
  refine w_iconst (v := 4) cd_161_13 (by decide) ?_
  exact w_invokevirtual cd_161_14 (show mt_m 12 362 = some (159, 0) by decide +kernel) (rest := []) rfl (as := [.ref l1, .ref x6, .ref x11, .int x16, .int 4]) rfl h19 (Or.inl h20) ⟨Nat.le_of_ble_eq_true rfl, Nat.le_of_ble_eq_true rfl, Nat.le_of_ble_eq_true rfl⟩ h21
theorem b_161_17 {d : Nat} {Q : (Option Value ⊕ Nat) → mi_H → Prop} (n sl : Nat) (f : Nat → mi_C) {l1 : Nat} {o2 : Option Value} {s3 : Int32} {fs4 : List Value} {x7 : Int32} (h5 : f l1 = .inr (12, fs4)) (h6 : l1 < n) (h8 : fs4[25]? = some (.int x7)) (h9 : ¬ s3 = x7 → mi_W d 161 36 [some (.ref l1), some (.int s3)] [] (n, sl, f) Q) (h10 : ¬ (¬ s3 = x7) → mi_W d 161 26 [some (.ref l1), some (.int s3)] [] (n, sl, f) Q) : mi_W d 161 17 [some (.ref l1), o2] [.int s3] (n, sl, f) Q := by
  refine w_istore_n (ls' := [some (.ref l1), some (.int s3)]) cd_161_17 (Nat.le_of_ble_eq_true rfl) rfl ?_
  refine w_iload_n cd_161_18 rfl ?_
  refine w_aload_n cd_161_19 rfl ?_
  refine w_getfield cd_161_20 (show mt_f 12 346 = some (12, 25) by decide +kernel) h5 h6 h8 ?_
  exact w_if_icmpne cd_161_23 (by decide) h9 h10
theorem b_161_26 {d : Nat} {Q : (Option Value ⊕ Nat) → mi_H → Prop} (n sl : Nat) (f : Nat → mi_C) {l1 : Nat} {l2 : Int32} {fs3 : List Value} {x6 : Int32} {fs8 : List Value} (h4 : f l1 = .inr (12, fs3)) (h5 : l1 < n) (h7 : fs3[25]? = some (.int x6)) (h9 : f l1 = .inr (12, fs8)) (h10 : l1 < n) (h11 : 25 < fs8.length) (h12 : mi_W d 161 36 [some (.ref l1), some (.int l2)] [] (n, sl, (va_up f l1 (.inr (12, fs8.set 25 (.int (x6 + 1)))))) Q) : mi_W d 161 26 [some (.ref l1), some (.int l2)] [] (n, sl, f) Q := by
  refine w_aload_n cd_161_26 rfl ?_
  refine w_dup_r cd_161_27 ?_
  refine w_getfield cd_161_28 (show mt_f 12 346 = some (12, 25) by decide +kernel) h4 h5 h7 ?_
  refine w_iconst (v := 1) cd_161_31 (by decide) ?_
  refine w_iadd cd_161_32 ?_
  refine w_putfield (w := .int (x6 + 1)) cd_161_33 (show mt_f 12 346 = some (12, 25) by decide +kernel) h9 h10 ⟨h11, rfl, Or.inl (by decide)⟩ ?_
  exact h12
theorem b_161_36 {d : Nat} {Q : (Option Value ⊕ Nat) → mi_H → Prop} (n sl : Nat) (f : Nat → mi_C) {l1 : Nat} {l2 : Int32} (h3 : Q (.inl (some (.int l2))) (n, sl, f)) : mi_W d 161 36 [some (.ref l1), some (.int l2)] [] (n, sl, f) Q := by
  refine w_iload_n cd_161_36 rfl ?_
  exact w_ireturn_i cd_161_37 (by decide +kernel) h3
/-! MarloweHostModel.number()I -/
set_option maxRecDepth 100000 in
theorem mq_162 : mt_q 162 = my_162 := rfl
set_option maxRecDepth 100000 in
theorem ci_162 : mt_inc 0 my_162.cd = true := by decide +kernel
theorem cd_162_0 : mt_cd 162 0 = some (.aload_n 0) := mt_cd_of (q := (0, .aload_n 0, 1)) mq_162 ci_162 (List.mem_append_left _ (show _ ∈ my_162_0 from List.mem_of_getElem? (i := 0) rfl))
theorem cd_162_1 : mt_cd 162 1 = some (.ldc_w 373) := mt_cd_of (q := (1, .ldc_w 373, 3)) mq_162 ci_162 (List.mem_append_left _ (show _ ∈ my_162_0 from List.mem_of_getElem? (i := 1) rfl))
theorem cd_162_4 : mt_cd 162 4 = some (.invokevirtual 375) := mt_cd_of (q := (4, .invokevirtual 375, 3)) mq_162 ci_162 (List.mem_append_left _ (show _ ∈ my_162_0 from List.mem_of_getElem? (i := 2) rfl))
theorem cd_162_7 : mt_cd 162 7 = some (.ifCond .eq 58) := mt_cd_of (q := (7, .ifCond .eq 58, 3)) mq_162 ci_162 (List.mem_append_left _ (show _ ∈ my_162_0 from List.mem_of_getElem? (i := 3) rfl))
theorem cd_162_10 : mt_cd 162 10 = some (.aload_n 0) := mt_cd_of (q := (10, .aload_n 0, 1)) mq_162 ci_162 (List.mem_append_left _ (show _ ∈ my_162_0 from List.mem_of_getElem? (i := 4) rfl))
theorem cd_162_11 : mt_cd 162 11 = some (.invokevirtual 378) := mt_cd_of (q := (11, .invokevirtual 378, 3)) mq_162 ci_162 (List.mem_append_left _ (show _ ∈ my_162_0 from List.mem_of_getElem? (i := 5) rfl))
theorem cd_162_14 : mt_cd 162 14 = some (.ifCond .eq 10) := mt_cd_of (q := (14, .ifCond .eq 10, 3)) mq_162 ci_162 (List.mem_append_left _ (show _ ∈ my_162_0 from List.mem_of_getElem? (i := 6) rfl))
theorem cd_162_17 : mt_cd 162 17 = some (.aload_n 0) := mt_cd_of (q := (17, .aload_n 0, 1)) mq_162 ci_162 (List.mem_append_left _ (show _ ∈ my_162_0 from List.mem_of_getElem? (i := 7) rfl))
theorem cd_162_18 : mt_cd 162 18 = some (.invokevirtual 333) := mt_cd_of (q := (18, .invokevirtual 333, 3)) mq_162 ci_162 (List.mem_append_left _ (show _ ∈ my_162_0 from List.mem_of_getElem? (i := 8) rfl))
theorem cd_162_21 : mt_cd 162 21 = some (.ifCond .ne 5) := mt_cd_of (q := (21, .ifCond .ne 5, 3)) mq_162 ci_162 (List.mem_append_left _ (show _ ∈ my_162_0 from List.mem_of_getElem? (i := 9) rfl))
theorem cd_162_24 : mt_cd 162 24 = some (.iconst (-1)) := mt_cd_of (q := (24, .iconst (-1), 1)) mq_162 ci_162 (List.mem_append_left _ (show _ ∈ my_162_0 from List.mem_of_getElem? (i := 10) rfl))
theorem cd_162_25 : mt_cd 162 25 = some (.ireturn) := mt_cd_of (q := (25, .ireturn, 1)) mq_162 ci_162 (List.mem_append_left _ (show _ ∈ my_162_0 from List.mem_of_getElem? (i := 11) rfl))
theorem cd_162_26 : mt_cd 162 26 = some (.aload_n 0) := mt_cd_of (q := (26, .aload_n 0, 1)) mq_162 ci_162 (List.mem_append_left _ (show _ ∈ my_162_0 from List.mem_of_getElem? (i := 12) rfl))
theorem cd_162_27 : mt_cd 162 27 = some (.invokevirtual 399) := mt_cd_of (q := (27, .invokevirtual 399, 3)) mq_162 ci_162 (List.mem_append_left _ (show _ ∈ my_162_0 from List.mem_of_getElem? (i := 13) rfl))
theorem cd_162_30 : mt_cd 162 30 = some (.istore_n 1) := mt_cd_of (q := (30, .istore_n 1, 1)) mq_162 ci_162 (List.mem_append_left _ (show _ ∈ my_162_0 from List.mem_of_getElem? (i := 14) rfl))
theorem cd_162_31 : mt_cd 162 31 = some (.aload_n 0) := mt_cd_of (q := (31, .aload_n 0, 1)) mq_162 ci_162 (List.mem_append_left _ (show _ ∈ my_162_0 from List.mem_of_getElem? (i := 15) rfl))
theorem cd_162_32 : mt_cd 162 32 = some (.dup) := mt_cd_of (q := (32, .dup, 1)) mq_162 ci_162 (List.mem_append_left _ (show _ ∈ my_162_0 from List.mem_of_getElem? (i := 16) rfl))
theorem cd_162_33 : mt_cd 162 33 = some (.getfield 337) := mt_cd_of (q := (33, .getfield 337, 3)) mq_162 ci_162 (List.mem_append_left _ (show _ ∈ my_162_0 from List.mem_of_getElem? (i := 17) rfl))
theorem cd_162_36 : mt_cd 162 36 = some (.iconst 1) := mt_cd_of (q := (36, .iconst 1, 1)) mq_162 ci_162 (List.mem_append_left _ (show _ ∈ my_162_0 from List.mem_of_getElem? (i := 18) rfl))
theorem cd_162_37 : mt_cd 162 37 = some (.isub) := mt_cd_of (q := (37, .isub, 1)) mq_162 ci_162 (List.mem_append_left _ (show _ ∈ my_162_0 from List.mem_of_getElem? (i := 19) rfl))
theorem cd_162_38 : mt_cd 162 38 = some (.putfield 337) := mt_cd_of (q := (38, .putfield 337, 3)) mq_162 ci_162 (List.mem_append_left _ (show _ ∈ my_162_0 from List.mem_of_getElem? (i := 20) rfl))
theorem cd_162_41 : mt_cd 162 41 = some (.iload_n 1) := mt_cd_of (q := (41, .iload_n 1, 1)) mq_162 ci_162 (List.mem_append_left _ (show _ ∈ my_162_0 from List.mem_of_getElem? (i := 21) rfl))
theorem cd_162_42 : mt_cd 162 42 = some (.ifCond .lt 21) := mt_cd_of (q := (42, .ifCond .lt 21, 3)) mq_162 ci_162 (List.mem_append_left _ (show _ ∈ my_162_0 from List.mem_of_getElem? (i := 22) rfl))
theorem cd_162_45 : mt_cd 162 45 = some (.aload_n 0) := mt_cd_of (q := (45, .aload_n 0, 1)) mq_162 ci_162 (List.mem_append_left _ (show _ ∈ my_162_0 from List.mem_of_getElem? (i := 23) rfl))
theorem cd_162_46 : mt_cd 162 46 = some (.aload_n 0) := mt_cd_of (q := (46, .aload_n 0, 1)) mq_162 ci_162 (List.mem_append_left _ (show _ ∈ my_162_0 from List.mem_of_getElem? (i := 24) rfl))
theorem cd_162_47 : mt_cd 162 47 = some (.ldc_w 381) := mt_cd_of (q := (47, .ldc_w 381, 3)) mq_162 ci_162 (List.mem_append_left _ (show _ ∈ my_162_0 from List.mem_of_getElem? (i := 25) rfl))
theorem cd_162_50 : mt_cd 162 50 = some (.invokevirtual 375) := mt_cd_of (q := (50, .invokevirtual 375, 3)) mq_162 ci_162 (List.mem_append_left _ (show _ ∈ my_162_0 from List.mem_of_getElem? (i := 26) rfl))
theorem cd_162_53 : mt_cd 162 53 = some (.invokevirtual 383) := mt_cd_of (q := (53, .invokevirtual 383, 3)) mq_162 ci_162 (List.mem_append_left _ (show _ ∈ my_162_0 from List.mem_of_getElem? (i := 27) rfl))
theorem cd_162_56 : mt_cd 162 56 = some (.ifCond .eq 7) := mt_cd_of (q := (56, .ifCond .eq 7, 3)) mq_162 ci_162 (List.mem_append_left _ (show _ ∈ my_162_0 from List.mem_of_getElem? (i := 28) rfl))
theorem cd_162_59 : mt_cd 162 59 = some (.iload_n 1) := mt_cd_of (q := (59, .iload_n 1, 1)) mq_162 ci_162 (List.mem_append_left _ (show _ ∈ my_162_0 from List.mem_of_getElem? (i := 29) rfl))
theorem cd_162_60 : mt_cd 162 60 = some (.goto 4) := mt_cd_of (q := (60, .goto 4, 3)) mq_162 ci_162 (List.mem_append_left _ (show _ ∈ my_162_0 from List.mem_of_getElem? (i := 30) rfl))
theorem cd_162_63 : mt_cd 162 63 = some (.iconst (-1)) := mt_cd_of (q := (63, .iconst (-1), 1)) mq_162 ci_162 (List.mem_append_left _ (show _ ∈ my_162_0 from List.mem_of_getElem? (i := 31) rfl))
theorem cd_162_64 : mt_cd 162 64 = some (.ireturn) := mt_cd_of (q := (64, .ireturn, 1)) mq_162 ci_162 (List.mem_append_left _ (show _ ∈ my_162_0 from List.mem_of_getElem? (i := 32) rfl))
theorem cd_162_65 : mt_cd 162 65 = some (.aload_n 0) := mt_cd_of (q := (65, .aload_n 0, 1)) mq_162 ci_162 (List.mem_append_left _ (show _ ∈ my_162_0 from List.mem_of_getElem? (i := 33) rfl))
theorem cd_162_66 : mt_cd 162 66 = some (.getfield 310) := mt_cd_of (q := (66, .getfield 310, 3)) mq_162 ci_162 (List.mem_append_left _ (show _ ∈ my_162_0 from List.mem_of_getElem? (i := 34) rfl))
theorem cd_162_69 : mt_cd 162 69 = some (.iconst 2) := mt_cd_of (q := (69, .iconst 2, 1)) mq_162 ci_162 (List.mem_append_left _ (show _ ∈ my_162_0 from List.mem_of_getElem? (i := 35) rfl))
theorem cd_162_70 : mt_cd 162 70 = some (.if_icmp .ne 8) := mt_cd_of (q := (70, .if_icmp .ne 8, 3)) mq_162 ci_162 (List.mem_append_left _ (show _ ∈ my_162_0 from List.mem_of_getElem? (i := 36) rfl))
theorem cd_162_73 : mt_cd 162 73 = some (.bipush 10) := mt_cd_of (q := (73, .bipush 10, 2)) mq_162 ci_162 (List.mem_append_left _ (show _ ∈ my_162_0 from List.mem_of_getElem? (i := 37) rfl))
theorem cd_162_75 : mt_cd 162 75 = some (.goto 162) := mt_cd_of (q := (75, .goto 162, 3)) mq_162 ci_162 (List.mem_append_left _ (show _ ∈ my_162_0 from List.mem_of_getElem? (i := 38) rfl))
theorem cd_162_78 : mt_cd 162 78 = some (.aload_n 0) := mt_cd_of (q := (78, .aload_n 0, 1)) mq_162 ci_162 (List.mem_append_left _ (show _ ∈ my_162_0 from List.mem_of_getElem? (i := 39) rfl))
theorem cd_162_79 : mt_cd 162 79 = some (.ldc 47) := mt_cd_of (q := (79, .ldc 47, 2)) mq_162 ci_162 (List.mem_append_left _ (show _ ∈ my_162_0 from List.mem_of_getElem? (i := 40) rfl))
theorem cd_162_81 : mt_cd 162 81 = some (.invokevirtual 387) := mt_cd_of (q := (81, .invokevirtual 387, 3)) mq_162 ci_162 (List.mem_append_left _ (show _ ∈ my_162_0 from List.mem_of_getElem? (i := 41) rfl))
theorem cd_162_84 : mt_cd 162 84 = some (.ifCond .eq 8) := mt_cd_of (q := (84, .ifCond .eq 8, 3)) mq_162 ci_162 (List.mem_append_left _ (show _ ∈ my_162_0 from List.mem_of_getElem? (i := 42) rfl))
theorem cd_162_87 : mt_cd 162 87 = some (.bipush 11) := mt_cd_of (q := (87, .bipush 11, 2)) mq_162 ci_162 (List.mem_append_left _ (show _ ∈ my_162_0 from List.mem_of_getElem? (i := 43) rfl))
theorem cd_162_89 : mt_cd 162 89 = some (.goto 148) := mt_cd_of (q := (89, .goto 148, 3)) mq_162 ci_162 (List.mem_append_left _ (show _ ∈ my_162_0 from List.mem_of_getElem? (i := 44) rfl))
theorem cd_162_92 : mt_cd 162 92 = some (.aload_n 0) := mt_cd_of (q := (92, .aload_n 0, 1)) mq_162 ci_162 (List.mem_append_left _ (show _ ∈ my_162_0 from List.mem_of_getElem? (i := 45) rfl))
theorem cd_162_93 : mt_cd 162 93 = some (.ldc 49) := mt_cd_of (q := (93, .ldc 49, 2)) mq_162 ci_162 (List.mem_append_left _ (show _ ∈ my_162_0 from List.mem_of_getElem? (i := 46) rfl))
theorem cd_162_95 : mt_cd 162 95 = some (.invokevirtual 387) := mt_cd_of (q := (95, .invokevirtual 387, 3)) mq_162 ci_162 (List.mem_append_left _ (show _ ∈ my_162_0 from List.mem_of_getElem? (i := 47) rfl))
theorem cd_162_98 : mt_cd 162 98 = some (.ifCond .eq 8) := mt_cd_of (q := (98, .ifCond .eq 8, 3)) mq_162 ci_162 (List.mem_append_left _ (show _ ∈ my_162_0 from List.mem_of_getElem? (i := 48) rfl))
theorem cd_162_101 : mt_cd 162 101 = some (.bipush 12) := mt_cd_of (q := (101, .bipush 12, 2)) mq_162 ci_162 (List.mem_append_left _ (show _ ∈ my_162_0 from List.mem_of_getElem? (i := 49) rfl))
theorem cd_162_103 : mt_cd 162 103 = some (.goto 134) := mt_cd_of (q := (103, .goto 134, 3)) mq_162 ci_162 (List.mem_append_left _ (show _ ∈ my_162_0 from List.mem_of_getElem? (i := 50) rfl))
theorem cd_162_106 : mt_cd 162 106 = some (.aload_n 0) := mt_cd_of (q := (106, .aload_n 0, 1)) mq_162 ci_162 (List.mem_append_left _ (show _ ∈ my_162_0 from List.mem_of_getElem? (i := 51) rfl))
theorem cd_162_107 : mt_cd 162 107 = some (.ldc_w 419) := mt_cd_of (q := (107, .ldc_w 419, 3)) mq_162 ci_162 (List.mem_append_left _ (show _ ∈ my_162_0 from List.mem_of_getElem? (i := 52) rfl))
theorem cd_162_110 : mt_cd 162 110 = some (.invokevirtual 375) := mt_cd_of (q := (110, .invokevirtual 375, 3)) mq_162 ci_162 (List.mem_append_left _ (show _ ∈ my_162_0 from List.mem_of_getElem? (i := 53) rfl))
theorem cd_162_113 : mt_cd 162 113 = some (.ifCond .eq 8) := mt_cd_of (q := (113, .ifCond .eq 8, 3)) mq_162 ci_162 (List.mem_append_left _ (show _ ∈ my_162_0 from List.mem_of_getElem? (i := 54) rfl))
theorem cd_162_116 : mt_cd 162 116 = some (.bipush 13) := mt_cd_of (q := (116, .bipush 13, 2)) mq_162 ci_162 (List.mem_append_left _ (show _ ∈ my_162_0 from List.mem_of_getElem? (i := 55) rfl))
theorem cd_162_118 : mt_cd 162 118 = some (.goto 119) := mt_cd_of (q := (118, .goto 119, 3)) mq_162 ci_162 (List.mem_append_left _ (show _ ∈ my_162_0 from List.mem_of_getElem? (i := 56) rfl))
theorem cd_162_121 : mt_cd 162 121 = some (.aload_n 0) := mt_cd_of (q := (121, .aload_n 0, 1)) mq_162 ci_162 (List.mem_append_left _ (show _ ∈ my_162_0 from List.mem_of_getElem? (i := 57) rfl))
theorem cd_162_122 : mt_cd 162 122 = some (.ldc_w 421) := mt_cd_of (q := (122, .ldc_w 421, 3)) mq_162 ci_162 (List.mem_append_left _ (show _ ∈ my_162_0 from List.mem_of_getElem? (i := 58) rfl))
theorem cd_162_125 : mt_cd 162 125 = some (.invokevirtual 375) := mt_cd_of (q := (125, .invokevirtual 375, 3)) mq_162 ci_162 (List.mem_append_left _ (show _ ∈ my_162_0 from List.mem_of_getElem? (i := 59) rfl))
theorem cd_162_128 : mt_cd 162 128 = some (.ifCond .eq 8) := mt_cd_of (q := (128, .ifCond .eq 8, 3)) mq_162 ci_162 (List.mem_append_right _ (List.mem_append_left _ (show _ ∈ my_162_1 from List.mem_of_getElem? (i := 0) rfl)))
theorem cd_162_131 : mt_cd 162 131 = some (.bipush 14) := mt_cd_of (q := (131, .bipush 14, 2)) mq_162 ci_162 (List.mem_append_right _ (List.mem_append_left _ (show _ ∈ my_162_1 from List.mem_of_getElem? (i := 1) rfl)))
theorem cd_162_133 : mt_cd 162 133 = some (.goto 104) := mt_cd_of (q := (133, .goto 104, 3)) mq_162 ci_162 (List.mem_append_right _ (List.mem_append_left _ (show _ ∈ my_162_1 from List.mem_of_getElem? (i := 2) rfl)))
theorem cd_162_136 : mt_cd 162 136 = some (.aload_n 0) := mt_cd_of (q := (136, .aload_n 0, 1)) mq_162 ci_162 (List.mem_append_right _ (List.mem_append_left _ (show _ ∈ my_162_1 from List.mem_of_getElem? (i := 3) rfl)))
theorem cd_162_137 : mt_cd 162 137 = some (.ldc_w 423) := mt_cd_of (q := (137, .ldc_w 423, 3)) mq_162 ci_162 (List.mem_append_right _ (List.mem_append_left _ (show _ ∈ my_162_1 from List.mem_of_getElem? (i := 4) rfl)))
theorem cd_162_140 : mt_cd 162 140 = some (.invokevirtual 375) := mt_cd_of (q := (140, .invokevirtual 375, 3)) mq_162 ci_162 (List.mem_append_right _ (List.mem_append_left _ (show _ ∈ my_162_1 from List.mem_of_getElem? (i := 5) rfl)))
theorem cd_162_143 : mt_cd 162 143 = some (.ifCond .eq 8) := mt_cd_of (q := (143, .ifCond .eq 8, 3)) mq_162 ci_162 (List.mem_append_right _ (List.mem_append_left _ (show _ ∈ my_162_1 from List.mem_of_getElem? (i := 6) rfl)))
theorem cd_162_146 : mt_cd 162 146 = some (.bipush 15) := mt_cd_of (q := (146, .bipush 15, 2)) mq_162 ci_162 (List.mem_append_right _ (List.mem_append_left _ (show _ ∈ my_162_1 from List.mem_of_getElem? (i := 7) rfl)))
theorem cd_162_148 : mt_cd 162 148 = some (.goto 89) := mt_cd_of (q := (148, .goto 89, 3)) mq_162 ci_162 (List.mem_append_right _ (List.mem_append_left _ (show _ ∈ my_162_1 from List.mem_of_getElem? (i := 8) rfl)))
theorem cd_162_151 : mt_cd 162 151 = some (.aload_n 0) := mt_cd_of (q := (151, .aload_n 0, 1)) mq_162 ci_162 (List.mem_append_right _ (List.mem_append_left _ (show _ ∈ my_162_1 from List.mem_of_getElem? (i := 9) rfl)))
theorem cd_162_152 : mt_cd 162 152 = some (.ldc_w 425) := mt_cd_of (q := (152, .ldc_w 425, 3)) mq_162 ci_162 (List.mem_append_right _ (List.mem_append_left _ (show _ ∈ my_162_1 from List.mem_of_getElem? (i := 10) rfl)))
theorem cd_162_155 : mt_cd 162 155 = some (.invokevirtual 375) := mt_cd_of (q := (155, .invokevirtual 375, 3)) mq_162 ci_162 (List.mem_append_right _ (List.mem_append_left _ (show _ ∈ my_162_1 from List.mem_of_getElem? (i := 11) rfl)))
theorem cd_162_158 : mt_cd 162 158 = some (.ifCond .eq 8) := mt_cd_of (q := (158, .ifCond .eq 8, 3)) mq_162 ci_162 (List.mem_append_right _ (List.mem_append_left _ (show _ ∈ my_162_1 from List.mem_of_getElem? (i := 12) rfl)))
theorem cd_162_161 : mt_cd 162 161 = some (.bipush 16) := mt_cd_of (q := (161, .bipush 16, 2)) mq_162 ci_162 (List.mem_append_right _ (List.mem_append_left _ (show _ ∈ my_162_1 from List.mem_of_getElem? (i := 13) rfl)))
theorem cd_162_163 : mt_cd 162 163 = some (.goto 74) := mt_cd_of (q := (163, .goto 74, 3)) mq_162 ci_162 (List.mem_append_right _ (List.mem_append_left _ (show _ ∈ my_162_1 from List.mem_of_getElem? (i := 14) rfl)))
theorem cd_162_166 : mt_cd 162 166 = some (.aload_n 0) := mt_cd_of (q := (166, .aload_n 0, 1)) mq_162 ci_162 (List.mem_append_right _ (List.mem_append_left _ (show _ ∈ my_162_1 from List.mem_of_getElem? (i := 15) rfl)))
theorem cd_162_167 : mt_cd 162 167 = some (.ldc 51) := mt_cd_of (q := (167, .ldc 51, 2)) mq_162 ci_162 (List.mem_append_right _ (List.mem_append_left _ (show _ ∈ my_162_1 from List.mem_of_getElem? (i := 16) rfl)))
theorem cd_162_169 : mt_cd 162 169 = some (.invokevirtual 387) := mt_cd_of (q := (169, .invokevirtual 387, 3)) mq_162 ci_162 (List.mem_append_right _ (List.mem_append_left _ (show _ ∈ my_162_1 from List.mem_of_getElem? (i := 17) rfl)))
theorem cd_162_172 : mt_cd 162 172 = some (.ifCond .eq 8) := mt_cd_of (q := (172, .ifCond .eq 8, 3)) mq_162 ci_162 (List.mem_append_right _ (List.mem_append_left _ (show _ ∈ my_162_1 from List.mem_of_getElem? (i := 18) rfl)))
theorem cd_162_175 : mt_cd 162 175 = some (.bipush 17) := mt_cd_of (q := (175, .bipush 17, 2)) mq_162 ci_162 (List.mem_append_right _ (List.mem_append_left _ (show _ ∈ my_162_1 from List.mem_of_getElem? (i := 19) rfl)))
theorem cd_162_177 : mt_cd 162 177 = some (.goto 60) := mt_cd_of (q := (177, .goto 60, 3)) mq_162 ci_162 (List.mem_append_right _ (List.mem_append_left _ (show _ ∈ my_162_1 from List.mem_of_getElem? (i := 20) rfl)))
theorem cd_162_180 : mt_cd 162 180 = some (.aload_n 0) := mt_cd_of (q := (180, .aload_n 0, 1)) mq_162 ci_162 (List.mem_append_right _ (List.mem_append_left _ (show _ ∈ my_162_1 from List.mem_of_getElem? (i := 21) rfl)))
theorem cd_162_181 : mt_cd 162 181 = some (.ldc 53) := mt_cd_of (q := (181, .ldc 53, 2)) mq_162 ci_162 (List.mem_append_right _ (List.mem_append_left _ (show _ ∈ my_162_1 from List.mem_of_getElem? (i := 22) rfl)))
theorem cd_162_183 : mt_cd 162 183 = some (.invokevirtual 387) := mt_cd_of (q := (183, .invokevirtual 387, 3)) mq_162 ci_162 (List.mem_append_right _ (List.mem_append_left _ (show _ ∈ my_162_1 from List.mem_of_getElem? (i := 23) rfl)))
theorem cd_162_186 : mt_cd 162 186 = some (.ifCond .eq 8) := mt_cd_of (q := (186, .ifCond .eq 8, 3)) mq_162 ci_162 (List.mem_append_right _ (List.mem_append_left _ (show _ ∈ my_162_1 from List.mem_of_getElem? (i := 24) rfl)))
theorem cd_162_189 : mt_cd 162 189 = some (.bipush 18) := mt_cd_of (q := (189, .bipush 18, 2)) mq_162 ci_162 (List.mem_append_right _ (List.mem_append_left _ (show _ ∈ my_162_1 from List.mem_of_getElem? (i := 25) rfl)))
theorem cd_162_191 : mt_cd 162 191 = some (.goto 46) := mt_cd_of (q := (191, .goto 46, 3)) mq_162 ci_162 (List.mem_append_right _ (List.mem_append_left _ (show _ ∈ my_162_1 from List.mem_of_getElem? (i := 26) rfl)))
theorem cd_162_194 : mt_cd 162 194 = some (.aload_n 0) := mt_cd_of (q := (194, .aload_n 0, 1)) mq_162 ci_162 (List.mem_append_right _ (List.mem_append_left _ (show _ ∈ my_162_1 from List.mem_of_getElem? (i := 27) rfl)))
theorem cd_162_195 : mt_cd 162 195 = some (.ldc 55) := mt_cd_of (q := (195, .ldc 55, 2)) mq_162 ci_162 (List.mem_append_right _ (List.mem_append_left _ (show _ ∈ my_162_1 from List.mem_of_getElem? (i := 28) rfl)))
theorem cd_162_197 : mt_cd 162 197 = some (.invokevirtual 387) := mt_cd_of (q := (197, .invokevirtual 387, 3)) mq_162 ci_162 (List.mem_append_right _ (List.mem_append_left _ (show _ ∈ my_162_1 from List.mem_of_getElem? (i := 29) rfl)))
theorem cd_162_200 : mt_cd 162 200 = some (.ifCond .eq 8) := mt_cd_of (q := (200, .ifCond .eq 8, 3)) mq_162 ci_162 (List.mem_append_right _ (List.mem_append_left _ (show _ ∈ my_162_1 from List.mem_of_getElem? (i := 30) rfl)))
theorem cd_162_203 : mt_cd 162 203 = some (.bipush 19) := mt_cd_of (q := (203, .bipush 19, 2)) mq_162 ci_162 (List.mem_append_right _ (List.mem_append_left _ (show _ ∈ my_162_1 from List.mem_of_getElem? (i := 31) rfl)))
theorem cd_162_205 : mt_cd 162 205 = some (.goto 32) := mt_cd_of (q := (205, .goto 32, 3)) mq_162 ci_162 (List.mem_append_right _ (List.mem_append_left _ (show _ ∈ my_162_1 from List.mem_of_getElem? (i := 32) rfl)))
theorem cd_162_208 : mt_cd 162 208 = some (.aload_n 0) := mt_cd_of (q := (208, .aload_n 0, 1)) mq_162 ci_162 (List.mem_append_right _ (List.mem_append_left _ (show _ ∈ my_162_1 from List.mem_of_getElem? (i := 33) rfl)))
theorem cd_162_209 : mt_cd 162 209 = some (.ldc 57) := mt_cd_of (q := (209, .ldc 57, 2)) mq_162 ci_162 (List.mem_append_right _ (List.mem_append_left _ (show _ ∈ my_162_1 from List.mem_of_getElem? (i := 34) rfl)))
theorem cd_162_211 : mt_cd 162 211 = some (.invokevirtual 387) := mt_cd_of (q := (211, .invokevirtual 387, 3)) mq_162 ci_162 (List.mem_append_right _ (List.mem_append_left _ (show _ ∈ my_162_1 from List.mem_of_getElem? (i := 35) rfl)))
theorem cd_162_214 : mt_cd 162 214 = some (.ifCond .eq 8) := mt_cd_of (q := (214, .ifCond .eq 8, 3)) mq_162 ci_162 (List.mem_append_right _ (List.mem_append_left _ (show _ ∈ my_162_1 from List.mem_of_getElem? (i := 36) rfl)))
theorem cd_162_217 : mt_cd 162 217 = some (.bipush 20) := mt_cd_of (q := (217, .bipush 20, 2)) mq_162 ci_162 (List.mem_append_right _ (List.mem_append_left _ (show _ ∈ my_162_1 from List.mem_of_getElem? (i := 37) rfl)))
theorem cd_162_219 : mt_cd 162 219 = some (.goto 18) := mt_cd_of (q := (219, .goto 18, 3)) mq_162 ci_162 (List.mem_append_right _ (List.mem_append_left _ (show _ ∈ my_162_1 from List.mem_of_getElem? (i := 38) rfl)))
theorem cd_162_222 : mt_cd 162 222 = some (.aload_n 0) := mt_cd_of (q := (222, .aload_n 0, 1)) mq_162 ci_162 (List.mem_append_right _ (List.mem_append_left _ (show _ ∈ my_162_1 from List.mem_of_getElem? (i := 39) rfl)))
theorem cd_162_223 : mt_cd 162 223 = some (.ldc 59) := mt_cd_of (q := (223, .ldc 59, 2)) mq_162 ci_162 (List.mem_append_right _ (List.mem_append_left _ (show _ ∈ my_162_1 from List.mem_of_getElem? (i := 40) rfl)))
theorem cd_162_225 : mt_cd 162 225 = some (.invokevirtual 387) := mt_cd_of (q := (225, .invokevirtual 387, 3)) mq_162 ci_162 (List.mem_append_right _ (List.mem_append_left _ (show _ ∈ my_162_1 from List.mem_of_getElem? (i := 41) rfl)))
theorem cd_162_228 : mt_cd 162 228 = some (.ifCond .eq 8) := mt_cd_of (q := (228, .ifCond .eq 8, 3)) mq_162 ci_162 (List.mem_append_right _ (List.mem_append_left _ (show _ ∈ my_162_1 from List.mem_of_getElem? (i := 42) rfl)))
theorem cd_162_231 : mt_cd 162 231 = some (.bipush 21) := mt_cd_of (q := (231, .bipush 21, 2)) mq_162 ci_162 (List.mem_append_right _ (List.mem_append_left _ (show _ ∈ my_162_1 from List.mem_of_getElem? (i := 43) rfl)))
theorem cd_162_233 : mt_cd 162 233 = some (.goto 4) := mt_cd_of (q := (233, .goto 4, 3)) mq_162 ci_162 (List.mem_append_right _ (List.mem_append_left _ (show _ ∈ my_162_1 from List.mem_of_getElem? (i := 44) rfl)))
theorem cd_162_236 : mt_cd 162 236 = some (.iconst (-1)) := mt_cd_of (q := (236, .iconst (-1), 1)) mq_162 ci_162 (List.mem_append_right _ (List.mem_append_left _ (show _ ∈ my_162_1 from List.mem_of_getElem? (i := 45) rfl)))
theorem cd_162_237 : mt_cd 162 237 = some (.istore_n 1) := mt_cd_of (q := (237, .istore_n 1, 1)) mq_162 ci_162 (List.mem_append_right _ (List.mem_append_left _ (show _ ∈ my_162_1 from List.mem_of_getElem? (i := 46) rfl)))
theorem cd_162_238 : mt_cd 162 238 = some (.iload_n 1) := mt_cd_of (q := (238, .iload_n 1, 1)) mq_162 ci_162 (List.mem_append_right _ (List.mem_append_left _ (show _ ∈ my_162_1 from List.mem_of_getElem? (i := 47) rfl)))
theorem cd_162_239 : mt_cd 162 239 = some (.ifCond .ge 14) := mt_cd_of (q := (239, .ifCond .ge 14, 3)) mq_162 ci_162 (List.mem_append_right _ (List.mem_append_left _ (show _ ∈ my_162_1 from List.mem_of_getElem? (i := 48) rfl)))
theorem cd_162_242 : mt_cd 162 242 = some (.aload_n 0) := mt_cd_of (q := (242, .aload_n 0, 1)) mq_162 ci_162 (List.mem_append_right _ (List.mem_append_left _ (show _ ∈ my_162_1 from List.mem_of_getElem? (i := 49) rfl)))
theorem cd_162_243 : mt_cd 162 243 = some (.aload_n 0) := mt_cd_of (q := (243, .aload_n 0, 1)) mq_162 ci_162 (List.mem_append_right _ (List.mem_append_left _ (show _ ∈ my_162_1 from List.mem_of_getElem? (i := 50) rfl)))
theorem cd_162_244 : mt_cd 162 244 = some (.getfield 299) := mt_cd_of (q := (244, .getfield 299, 3)) mq_162 ci_162 (List.mem_append_right _ (List.mem_append_left _ (show _ ∈ my_162_1 from List.mem_of_getElem? (i := 51) rfl)))
theorem cd_162_247 : mt_cd 162 247 = some (.invokevirtual 272) := mt_cd_of (q := (247, .invokevirtual 272, 3)) mq_162 ci_162 (List.mem_append_right _ (List.mem_append_left _ (show _ ∈ my_162_1 from List.mem_of_getElem? (i := 52) rfl)))
theorem cd_162_250 : mt_cd 162 250 = some (.pop) := mt_cd_of (q := (250, .pop, 1)) mq_162 ci_162 (List.mem_append_right _ (List.mem_append_left _ (show _ ∈ my_162_1 from List.mem_of_getElem? (i := 53) rfl)))
theorem cd_162_251 : mt_cd 162 251 = some (.iconst (-1)) := mt_cd_of (q := (251, .iconst (-1), 1)) mq_162 ci_162 (List.mem_append_right _ (List.mem_append_left _ (show _ ∈ my_162_1 from List.mem_of_getElem? (i := 54) rfl)))
theorem cd_162_252 : mt_cd 162 252 = some (.ireturn) := mt_cd_of (q := (252, .ireturn, 1)) mq_162 ci_162 (List.mem_append_right _ (List.mem_append_left _ (show _ ∈ my_162_1 from List.mem_of_getElem? (i := 55) rfl)))
theorem cd_162_253 : mt_cd 162 253 = some (.aload_n 0) := mt_cd_of (q := (253, .aload_n 0, 1)) mq_162 ci_162 (List.mem_append_right _ (List.mem_append_left _ (show _ ∈ my_162_1 from List.mem_of_getElem? (i := 56) rfl)))
theorem cd_162_254 : mt_cd 162 254 = some (.invokevirtual 378) := mt_cd_of (q := (254, .invokevirtual 378, 3)) mq_162 ci_162 (List.mem_append_right _ (List.mem_append_left _ (show _ ∈ my_162_1 from List.mem_of_getElem? (i := 57) rfl)))
theorem cd_162_257 : mt_cd 162 257 = some (.ifCond .ne 5) := mt_cd_of (q := (257, .ifCond .ne 5, 3)) mq_162 ci_162 (List.mem_append_right _ (List.mem_append_left _ (show _ ∈ my_162_1 from List.mem_of_getElem? (i := 58) rfl)))
theorem cd_162_260 : mt_cd 162 260 = some (.iconst (-1)) := mt_cd_of (q := (260, .iconst (-1), 1)) mq_162 ci_162 (List.mem_append_right _ (List.mem_append_left _ (show _ ∈ my_162_1 from List.mem_of_getElem? (i := 59) rfl)))
theorem cd_162_261 : mt_cd 162 261 = some (.ireturn) := mt_cd_of (q := (261, .ireturn, 1)) mq_162 ci_162 (List.mem_append_right _ (List.mem_append_right _ (List.mem_append_left _ (show _ ∈ my_162_2 from List.mem_of_getElem? (i := 0) rfl))))
theorem cd_162_262 : mt_cd 162 262 = some (.aload_n 0) := mt_cd_of (q := (262, .aload_n 0, 1)) mq_162 ci_162 (List.mem_append_right _ (List.mem_append_right _ (List.mem_append_left _ (show _ ∈ my_162_2 from List.mem_of_getElem? (i := 1) rfl))))
theorem cd_162_263 : mt_cd 162 263 = some (.iload_n 1) := mt_cd_of (q := (263, .iload_n 1, 1)) mq_162 ci_162 (List.mem_append_right _ (List.mem_append_right _ (List.mem_append_left _ (show _ ∈ my_162_2 from List.mem_of_getElem? (i := 2) rfl))))
theorem cd_162_264 : mt_cd 162 264 = some (.invokevirtual 390) := mt_cd_of (q := (264, .invokevirtual 390, 3)) mq_162 ci_162 (List.mem_append_right _ (List.mem_append_right _ (List.mem_append_left _ (show _ ∈ my_162_2 from List.mem_of_getElem? (i := 3) rfl))))
theorem cd_162_267 : mt_cd 162 267 = some (.istore_n 2) := mt_cd_of (q := (267, .istore_n 2, 1)) mq_162 ci_162 (List.mem_append_right _ (List.mem_append_right _ (List.mem_append_left _ (show _ ∈ my_162_2 from List.mem_of_getElem? (i := 4) rfl))))
theorem cd_162_268 : mt_cd 162 268 = some (.iload_n 2) := mt_cd_of (q := (268, .iload_n 2, 1)) mq_162 ci_162 (List.mem_append_right _ (List.mem_append_right _ (List.mem_append_left _ (show _ ∈ my_162_2 from List.mem_of_getElem? (i := 5) rfl))))
theorem cd_162_269 : mt_cd 162 269 = some (.ifCond .lt 13) := mt_cd_of (q := (269, .ifCond .lt 13, 3)) mq_162 ci_162 (List.mem_append_right _ (List.mem_append_right _ (List.mem_append_left _ (show _ ∈ my_162_2 from List.mem_of_getElem? (i := 6) rfl))))
theorem cd_162_272 : mt_cd 162 272 = some (.aload_n 0) := mt_cd_of (q := (272, .aload_n 0, 1)) mq_162 ci_162 (List.mem_append_right _ (List.mem_append_right _ (List.mem_append_left _ (show _ ∈ my_162_2 from List.mem_of_getElem? (i := 7) rfl))))
theorem cd_162_273 : mt_cd 162 273 = some (.getfield 101) := mt_cd_of (q := (273, .getfield 101, 3)) mq_162 ci_162 (List.mem_append_right _ (List.mem_append_right _ (List.mem_append_left _ (show _ ∈ my_162_2 from List.mem_of_getElem? (i := 8) rfl))))
theorem cd_162_276 : mt_cd 162 276 = some (.iload_n 2) := mt_cd_of (q := (276, .iload_n 2, 1)) mq_162 ci_162 (List.mem_append_right _ (List.mem_append_right _ (List.mem_append_left _ (show _ ∈ my_162_2 from List.mem_of_getElem? (i := 9) rfl))))
theorem cd_162_277 : mt_cd 162 277 = some (.aload_n 0) := mt_cd_of (q := (277, .aload_n 0, 1)) mq_162 ci_162 (List.mem_append_right _ (List.mem_append_right _ (List.mem_append_left _ (show _ ∈ my_162_2 from List.mem_of_getElem? (i := 10) rfl))))
theorem cd_162_278 : mt_cd 162 278 = some (.getfield 327) := mt_cd_of (q := (278, .getfield 327, 3)) mq_162 ci_162 (List.mem_append_right _ (List.mem_append_right _ (List.mem_append_left _ (show _ ∈ my_162_2 from List.mem_of_getElem? (i := 11) rfl))))
theorem cd_162_281 : mt_cd 162 281 = some (.lastore) := mt_cd_of (q := (281, .lastore, 1)) mq_162 ci_162 (List.mem_append_right _ (List.mem_append_right _ (List.mem_append_left _ (show _ ∈ my_162_2 from List.mem_of_getElem? (i := 12) rfl))))
theorem cd_162_282 : mt_cd 162 282 = some (.iload_n 2) := mt_cd_of (q := (282, .iload_n 2, 1)) mq_162 ci_162 (List.mem_append_right _ (List.mem_append_right _ (List.mem_append_left _ (show _ ∈ my_162_2 from List.mem_of_getElem? (i := 13) rfl))))
theorem cd_162_283 : mt_cd 162 283 = some (.ifCond .lt 14) := mt_cd_of (q := (283, .ifCond .lt 14, 3)) mq_162 ci_162 (List.mem_append_right _ (List.mem_append_right _ (List.mem_append_left _ (show _ ∈ my_162_2 from List.mem_of_getElem? (i := 14) rfl))))
theorem cd_162_286 : mt_cd 162 286 = some (.aload_n 0) := mt_cd_of (q := (286, .aload_n 0, 1)) mq_162 ci_162 (List.mem_append_right _ (List.mem_append_right _ (List.mem_append_left _ (show _ ∈ my_162_2 from List.mem_of_getElem? (i := 15) rfl))))
theorem cd_162_287 : mt_cd 162 287 = some (.invokevirtual 333) := mt_cd_of (q := (287, .invokevirtual 333, 3)) mq_162 ci_162 (List.mem_append_right _ (List.mem_append_right _ (List.mem_append_left _ (show _ ∈ my_162_2 from List.mem_of_getElem? (i := 16) rfl))))
theorem cd_162_290 : mt_cd 162 290 = some (.ifCond .eq 7) := mt_cd_of (q := (290, .ifCond .eq 7, 3)) mq_162 ci_162 (List.mem_append_right _ (List.mem_append_right _ (List.mem_append_left _ (show _ ∈ my_162_2 from List.mem_of_getElem? (i := 17) rfl))))
theorem cd_162_293 : mt_cd 162 293 = some (.iconst 1) := mt_cd_of (q := (293, .iconst 1, 1)) mq_162 ci_162 (List.mem_append_right _ (List.mem_append_right _ (List.mem_append_left _ (show _ ∈ my_162_2 from List.mem_of_getElem? (i := 18) rfl))))
theorem cd_162_294 : mt_cd 162 294 = some (.goto 4) := mt_cd_of (q := (294, .goto 4, 3)) mq_162 ci_162 (List.mem_append_right _ (List.mem_append_right _ (List.mem_append_left _ (show _ ∈ my_162_2 from List.mem_of_getElem? (i := 19) rfl))))
theorem cd_162_297 : mt_cd 162 297 = some (.iconst 0) := mt_cd_of (q := (297, .iconst 0, 1)) mq_162 ci_162 (List.mem_append_right _ (List.mem_append_right _ (List.mem_append_left _ (show _ ∈ my_162_2 from List.mem_of_getElem? (i := 20) rfl))))
theorem cd_162_298 : mt_cd 162 298 = some (.istore_n 3) := mt_cd_of (q := (298, .istore_n 3, 1)) mq_162 ci_162 (List.mem_append_right _ (List.mem_append_right _ (List.mem_append_left _ (show _ ∈ my_162_2 from List.mem_of_getElem? (i := 21) rfl))))
theorem cd_162_299 : mt_cd 162 299 = some (.iload_n 3) := mt_cd_of (q := (299, .iload_n 3, 1)) mq_162 ci_162 (List.mem_append_right _ (List.mem_append_right _ (List.mem_append_left _ (show _ ∈ my_162_2 from List.mem_of_getElem? (i := 22) rfl))))
theorem cd_162_300 : mt_cd 162 300 = some (.ifCond .eq 258) := mt_cd_of (q := (300, .ifCond .eq 258, 3)) mq_162 ci_162 (List.mem_append_right _ (List.mem_append_right _ (List.mem_append_left _ (show _ ∈ my_162_2 from List.mem_of_getElem? (i := 23) rfl))))
theorem cd_162_303 : mt_cd 162 303 = some (.iload_n 1) := mt_cd_of (q := (303, .iload_n 1, 1)) mq_162 ci_162 (List.mem_append_right _ (List.mem_append_right _ (List.mem_append_left _ (show _ ∈ my_162_2 from List.mem_of_getElem? (i := 24) rfl))))
theorem cd_162_304 : mt_cd 162 304 = some (.tableswitch 254 11 21 #[60, 97, 120, 120, 120, 120, 157, 180, 254, 254, 203]) := mt_cd_of (q := (304, .tableswitch 254 11 21 #[60, 97, 120, 120, 120, 120, 157, 180, 254, 254, 203], 60)) mq_162 ci_162 (List.mem_append_right _ (List.mem_append_right _ (List.mem_append_left _ (show _ ∈ my_162_2 from List.mem_of_getElem? (i := 25) rfl))))
theorem cd_162_364 : mt_cd 162 364 = some (.aload_n 0) := mt_cd_of (q := (364, .aload_n 0, 1)) mq_162 ci_162 (List.mem_append_right _ (List.mem_append_right _ (List.mem_append_left _ (show _ ∈ my_162_2 from List.mem_of_getElem? (i := 26) rfl))))
theorem cd_162_365 : mt_cd 162 365 = some (.getfield 80) := mt_cd_of (q := (365, .getfield 80, 3)) mq_162 ci_162 (List.mem_append_right _ (List.mem_append_right _ (List.mem_append_left _ (show _ ∈ my_162_2 from List.mem_of_getElem? (i := 27) rfl))))
theorem cd_162_368 : mt_cd 162 368 = some (.iload_n 2) := mt_cd_of (q := (368, .iload_n 2, 1)) mq_162 ci_162 (List.mem_append_right _ (List.mem_append_right _ (List.mem_append_left _ (show _ ∈ my_162_2 from List.mem_of_getElem? (i := 28) rfl))))
theorem cd_162_369 : mt_cd 162 369 = some (.aload_n 0) := mt_cd_of (q := (369, .aload_n 0, 1)) mq_162 ci_162 (List.mem_append_right _ (List.mem_append_right _ (List.mem_append_left _ (show _ ∈ my_162_2 from List.mem_of_getElem? (i := 29) rfl))))
theorem cd_162_370 : mt_cd 162 370 = some (.invokevirtual 370) := mt_cd_of (q := (370, .invokevirtual 370, 3)) mq_162 ci_162 (List.mem_append_right _ (List.mem_append_right _ (List.mem_append_left _ (show _ ∈ my_162_2 from List.mem_of_getElem? (i := 30) rfl))))
theorem cd_162_373 : mt_cd 162 373 = some (.dup_x2) := mt_cd_of (q := (373, .dup_x2, 1)) mq_162 ci_162 (List.mem_append_right _ (List.mem_append_right _ (List.mem_append_left _ (show _ ∈ my_162_2 from List.mem_of_getElem? (i := 31) rfl))))
theorem cd_162_374 : mt_cd 162 374 = some (.iastore) := mt_cd_of (q := (374, .iastore, 1)) mq_162 ci_162 (List.mem_append_right _ (List.mem_append_right _ (List.mem_append_left _ (show _ ∈ my_162_2 from List.mem_of_getElem? (i := 32) rfl))))
theorem cd_162_375 : mt_cd 162 375 = some (.ifCond .lt 21) := mt_cd_of (q := (375, .ifCond .lt 21, 3)) mq_162 ci_162 (List.mem_append_right _ (List.mem_append_right _ (List.mem_append_left _ (show _ ∈ my_162_2 from List.mem_of_getElem? (i := 33) rfl))))
theorem cd_162_378 : mt_cd 162 378 = some (.aload_n 0) := mt_cd_of (q := (378, .aload_n 0, 1)) mq_162 ci_162 (List.mem_append_right _ (List.mem_append_right _ (List.mem_append_left _ (show _ ∈ my_162_2 from List.mem_of_getElem? (i := 34) rfl))))
theorem cd_162_379 : mt_cd 162 379 = some (.getfield 86) := mt_cd_of (q := (379, .getfield 86, 3)) mq_162 ci_162 (List.mem_append_right _ (List.mem_append_right _ (List.mem_append_left _ (show _ ∈ my_162_2 from List.mem_of_getElem? (i := 35) rfl))))
theorem cd_162_382 : mt_cd 162 382 = some (.iload_n 2) := mt_cd_of (q := (382, .iload_n 2, 1)) mq_162 ci_162 (List.mem_append_right _ (List.mem_append_right _ (List.mem_append_left _ (show _ ∈ my_162_2 from List.mem_of_getElem? (i := 36) rfl))))
theorem cd_162_383 : mt_cd 162 383 = some (.aload_n 0) := mt_cd_of (q := (383, .aload_n 0, 1)) mq_162 ci_162 (List.mem_append_right _ (List.mem_append_right _ (List.mem_append_left _ (show _ ∈ my_162_2 from List.mem_of_getElem? (i := 37) rfl))))
theorem cd_162_384 : mt_cd 162 384 = some (.invokevirtual 396) := mt_cd_of (q := (384, .invokevirtual 396, 3)) mq_162 ci_162 (List.mem_append_right _ (List.mem_append_right _ (List.mem_append_left _ (show _ ∈ my_162_2 from List.mem_of_getElem? (i := 38) rfl))))
theorem cd_162_387 : mt_cd 162 387 = some (.dup_x2) := mt_cd_of (q := (387, .dup_x2, 1)) mq_162 ci_162 (List.mem_append_right _ (List.mem_append_right _ (List.mem_append_left _ (show _ ∈ my_162_2 from List.mem_of_getElem? (i := 39) rfl))))
theorem cd_162_388 : mt_cd 162 388 = some (.iastore) := mt_cd_of (q := (388, .iastore, 1)) mq_162 ci_162 (List.mem_append_right _ (List.mem_append_right _ (List.mem_append_left _ (show _ ∈ my_162_2 from List.mem_of_getElem? (i := 40) rfl))))
theorem cd_162_389 : mt_cd 162 389 = some (.ifCond .lt 7) := mt_cd_of (q := (389, .ifCond .lt 7, 3)) mq_162 ci_162 (List.mem_append_right _ (List.mem_append_right _ (List.mem_append_left _ (show _ ∈ my_162_2 from List.mem_of_getElem? (i := 41) rfl))))
theorem cd_162_392 : mt_cd 162 392 = some (.iconst 1) := mt_cd_of (q := (392, .iconst 1, 1)) mq_162 ci_162 (List.mem_append_right _ (List.mem_append_right _ (List.mem_append_left _ (show _ ∈ my_162_2 from List.mem_of_getElem? (i := 42) rfl))))
theorem cd_162_393 : mt_cd 162 393 = some (.goto 4) := mt_cd_of (q := (393, .goto 4, 3)) mq_162 ci_162 (List.mem_append_right _ (List.mem_append_right _ (List.mem_append_left _ (show _ ∈ my_162_2 from List.mem_of_getElem? (i := 43) rfl))))
theorem cd_162_396 : mt_cd 162 396 = some (.iconst 0) := mt_cd_of (q := (396, .iconst 0, 1)) mq_162 ci_162 (List.mem_append_right _ (List.mem_append_right _ (List.mem_append_left _ (show _ ∈ my_162_2 from List.mem_of_getElem? (i := 44) rfl))))
theorem cd_162_397 : mt_cd 162 397 = some (.istore_n 3) := mt_cd_of (q := (397, .istore_n 3, 1)) mq_162 ci_162 (List.mem_append_right _ (List.mem_append_right _ (List.mem_append_left _ (show _ ∈ my_162_2 from List.mem_of_getElem? (i := 45) rfl))))
theorem cd_162_398 : mt_cd 162 398 = some (.goto 160) := mt_cd_of (q := (398, .goto 160, 3)) mq_162 ci_162 (List.mem_append_right _ (List.mem_append_right _ (List.mem_append_left _ (show _ ∈ my_162_2 from List.mem_of_getElem? (i := 46) rfl))))
theorem cd_162_401 : mt_cd 162 401 = some (.aload_n 0) := mt_cd_of (q := (401, .aload_n 0, 1)) mq_162 ci_162 (List.mem_append_right _ (List.mem_append_right _ (List.mem_append_left _ (show _ ∈ my_162_2 from List.mem_of_getElem? (i := 47) rfl))))
theorem cd_162_402 : mt_cd 162 402 = some (.getfield 80) := mt_cd_of (q := (402, .getfield 80, 3)) mq_162 ci_162 (List.mem_append_right _ (List.mem_append_right _ (List.mem_append_left _ (show _ ∈ my_162_2 from List.mem_of_getElem? (i := 48) rfl))))
theorem cd_162_405 : mt_cd 162 405 = some (.iload_n 2) := mt_cd_of (q := (405, .iload_n 2, 1)) mq_162 ci_162 (List.mem_append_right _ (List.mem_append_right _ (List.mem_append_left _ (show _ ∈ my_162_2 from List.mem_of_getElem? (i := 49) rfl))))
theorem cd_162_406 : mt_cd 162 406 = some (.aload_n 0) := mt_cd_of (q := (406, .aload_n 0, 1)) mq_162 ci_162 (List.mem_append_right _ (List.mem_append_right _ (List.mem_append_left _ (show _ ∈ my_162_2 from List.mem_of_getElem? (i := 50) rfl))))
theorem cd_162_407 : mt_cd 162 407 = some (.invokevirtual 399) := mt_cd_of (q := (407, .invokevirtual 399, 3)) mq_162 ci_162 (List.mem_append_right _ (List.mem_append_right _ (List.mem_append_left _ (show _ ∈ my_162_2 from List.mem_of_getElem? (i := 51) rfl))))
theorem cd_162_410 : mt_cd 162 410 = some (.dup_x2) := mt_cd_of (q := (410, .dup_x2, 1)) mq_162 ci_162 (List.mem_append_right _ (List.mem_append_right _ (List.mem_append_left _ (show _ ∈ my_162_2 from List.mem_of_getElem? (i := 52) rfl))))
theorem cd_162_411 : mt_cd 162 411 = some (.iastore) := mt_cd_of (q := (411, .iastore, 1)) mq_162 ci_162 (List.mem_append_right _ (List.mem_append_right _ (List.mem_append_left _ (show _ ∈ my_162_2 from List.mem_of_getElem? (i := 53) rfl))))
theorem cd_162_412 : mt_cd 162 412 = some (.ifCond .lt 7) := mt_cd_of (q := (412, .ifCond .lt 7, 3)) mq_162 ci_162 (List.mem_append_right _ (List.mem_append_right _ (List.mem_append_left _ (show _ ∈ my_162_2 from List.mem_of_getElem? (i := 54) rfl))))
theorem cd_162_415 : mt_cd 162 415 = some (.iconst 1) := mt_cd_of (q := (415, .iconst 1, 1)) mq_162 ci_162 (List.mem_append_right _ (List.mem_append_right _ (List.mem_append_left _ (show _ ∈ my_162_2 from List.mem_of_getElem? (i := 55) rfl))))
theorem cd_162_416 : mt_cd 162 416 = some (.goto 4) := mt_cd_of (q := (416, .goto 4, 3)) mq_162 ci_162 (List.mem_append_right _ (List.mem_append_right _ (List.mem_append_left _ (show _ ∈ my_162_2 from List.mem_of_getElem? (i := 56) rfl))))
theorem cd_162_419 : mt_cd 162 419 = some (.iconst 0) := mt_cd_of (q := (419, .iconst 0, 1)) mq_162 ci_162 (List.mem_append_right _ (List.mem_append_right _ (List.mem_append_left _ (show _ ∈ my_162_2 from List.mem_of_getElem? (i := 57) rfl))))
theorem cd_162_420 : mt_cd 162 420 = some (.istore_n 3) := mt_cd_of (q := (420, .istore_n 3, 1)) mq_162 ci_162 (List.mem_append_right _ (List.mem_append_right _ (List.mem_append_left _ (show _ ∈ my_162_2 from List.mem_of_getElem? (i := 58) rfl))))
theorem cd_162_421 : mt_cd 162 421 = some (.goto 137) := mt_cd_of (q := (421, .goto 137, 3)) mq_162 ci_162 (List.mem_append_right _ (List.mem_append_right _ (List.mem_append_left _ (show _ ∈ my_162_2 from List.mem_of_getElem? (i := 59) rfl))))
theorem cd_162_424 : mt_cd 162 424 = some (.aload_n 0) := mt_cd_of (q := (424, .aload_n 0, 1)) mq_162 ci_162 (List.mem_append_right _ (List.mem_append_right _ (List.mem_append_right _ (List.mem_append_left _ (show _ ∈ my_162_3 from List.mem_of_getElem? (i := 0) rfl)))))
theorem cd_162_425 : mt_cd 162 425 = some (.getfield 80) := mt_cd_of (q := (425, .getfield 80, 3)) mq_162 ci_162 (List.mem_append_right _ (List.mem_append_right _ (List.mem_append_right _ (List.mem_append_left _ (show _ ∈ my_162_3 from List.mem_of_getElem? (i := 1) rfl)))))
theorem cd_162_428 : mt_cd 162 428 = some (.iload_n 2) := mt_cd_of (q := (428, .iload_n 2, 1)) mq_162 ci_162 (List.mem_append_right _ (List.mem_append_right _ (List.mem_append_right _ (List.mem_append_left _ (show _ ∈ my_162_3 from List.mem_of_getElem? (i := 2) rfl)))))
theorem cd_162_429 : mt_cd 162 429 = some (.aload_n 0) := mt_cd_of (q := (429, .aload_n 0, 1)) mq_162 ci_162 (List.mem_append_right _ (List.mem_append_right _ (List.mem_append_right _ (List.mem_append_left _ (show _ ∈ my_162_3 from List.mem_of_getElem? (i := 3) rfl)))))
theorem cd_162_430 : mt_cd 162 430 = some (.invokevirtual 399) := mt_cd_of (q := (430, .invokevirtual 399, 3)) mq_162 ci_162 (List.mem_append_right _ (List.mem_append_right _ (List.mem_append_right _ (List.mem_append_left _ (show _ ∈ my_162_3 from List.mem_of_getElem? (i := 4) rfl)))))
theorem cd_162_433 : mt_cd 162 433 = some (.dup_x2) := mt_cd_of (q := (433, .dup_x2, 1)) mq_162 ci_162 (List.mem_append_right _ (List.mem_append_right _ (List.mem_append_right _ (List.mem_append_left _ (show _ ∈ my_162_3 from List.mem_of_getElem? (i := 5) rfl)))))
theorem cd_162_434 : mt_cd 162 434 = some (.iastore) := mt_cd_of (q := (434, .iastore, 1)) mq_162 ci_162 (List.mem_append_right _ (List.mem_append_right _ (List.mem_append_right _ (List.mem_append_left _ (show _ ∈ my_162_3 from List.mem_of_getElem? (i := 6) rfl)))))
theorem cd_162_435 : mt_cd 162 435 = some (.ifCond .lt 21) := mt_cd_of (q := (435, .ifCond .lt 21, 3)) mq_162 ci_162 (List.mem_append_right _ (List.mem_append_right _ (List.mem_append_right _ (List.mem_append_left _ (show _ ∈ my_162_3 from List.mem_of_getElem? (i := 7) rfl)))))
theorem cd_162_438 : mt_cd 162 438 = some (.aload_n 0) := mt_cd_of (q := (438, .aload_n 0, 1)) mq_162 ci_162 (List.mem_append_right _ (List.mem_append_right _ (List.mem_append_right _ (List.mem_append_left _ (show _ ∈ my_162_3 from List.mem_of_getElem? (i := 8) rfl)))))
theorem cd_162_439 : mt_cd 162 439 = some (.getfield 83) := mt_cd_of (q := (439, .getfield 83, 3)) mq_162 ci_162 (List.mem_append_right _ (List.mem_append_right _ (List.mem_append_right _ (List.mem_append_left _ (show _ ∈ my_162_3 from List.mem_of_getElem? (i := 9) rfl)))))
theorem cd_162_442 : mt_cd 162 442 = some (.iload_n 2) := mt_cd_of (q := (442, .iload_n 2, 1)) mq_162 ci_162 (List.mem_append_right _ (List.mem_append_right _ (List.mem_append_right _ (List.mem_append_left _ (show _ ∈ my_162_3 from List.mem_of_getElem? (i := 10) rfl)))))
theorem cd_162_443 : mt_cd 162 443 = some (.aload_n 0) := mt_cd_of (q := (443, .aload_n 0, 1)) mq_162 ci_162 (List.mem_append_right _ (List.mem_append_right _ (List.mem_append_right _ (List.mem_append_left _ (show _ ∈ my_162_3 from List.mem_of_getElem? (i := 11) rfl)))))
theorem cd_162_444 : mt_cd 162 444 = some (.invokevirtual 399) := mt_cd_of (q := (444, .invokevirtual 399, 3)) mq_162 ci_162 (List.mem_append_right _ (List.mem_append_right _ (List.mem_append_right _ (List.mem_append_left _ (show _ ∈ my_162_3 from List.mem_of_getElem? (i := 12) rfl)))))
theorem cd_162_447 : mt_cd 162 447 = some (.dup_x2) := mt_cd_of (q := (447, .dup_x2, 1)) mq_162 ci_162 (List.mem_append_right _ (List.mem_append_right _ (List.mem_append_right _ (List.mem_append_left _ (show _ ∈ my_162_3 from List.mem_of_getElem? (i := 13) rfl)))))
theorem cd_162_448 : mt_cd 162 448 = some (.iastore) := mt_cd_of (q := (448, .iastore, 1)) mq_162 ci_162 (List.mem_append_right _ (List.mem_append_right _ (List.mem_append_right _ (List.mem_append_left _ (show _ ∈ my_162_3 from List.mem_of_getElem? (i := 14) rfl)))))
theorem cd_162_449 : mt_cd 162 449 = some (.ifCond .lt 7) := mt_cd_of (q := (449, .ifCond .lt 7, 3)) mq_162 ci_162 (List.mem_append_right _ (List.mem_append_right _ (List.mem_append_right _ (List.mem_append_left _ (show _ ∈ my_162_3 from List.mem_of_getElem? (i := 15) rfl)))))
theorem cd_162_452 : mt_cd 162 452 = some (.iconst 1) := mt_cd_of (q := (452, .iconst 1, 1)) mq_162 ci_162 (List.mem_append_right _ (List.mem_append_right _ (List.mem_append_right _ (List.mem_append_left _ (show _ ∈ my_162_3 from List.mem_of_getElem? (i := 16) rfl)))))
theorem cd_162_453 : mt_cd 162 453 = some (.goto 4) := mt_cd_of (q := (453, .goto 4, 3)) mq_162 ci_162 (List.mem_append_right _ (List.mem_append_right _ (List.mem_append_right _ (List.mem_append_left _ (show _ ∈ my_162_3 from List.mem_of_getElem? (i := 17) rfl)))))
theorem cd_162_456 : mt_cd 162 456 = some (.iconst 0) := mt_cd_of (q := (456, .iconst 0, 1)) mq_162 ci_162 (List.mem_append_right _ (List.mem_append_right _ (List.mem_append_right _ (List.mem_append_left _ (show _ ∈ my_162_3 from List.mem_of_getElem? (i := 18) rfl)))))
theorem cd_162_457 : mt_cd 162 457 = some (.istore_n 3) := mt_cd_of (q := (457, .istore_n 3, 1)) mq_162 ci_162 (List.mem_append_right _ (List.mem_append_right _ (List.mem_append_right _ (List.mem_append_left _ (show _ ∈ my_162_3 from List.mem_of_getElem? (i := 19) rfl)))))
theorem cd_162_458 : mt_cd 162 458 = some (.goto 100) := mt_cd_of (q := (458, .goto 100, 3)) mq_162 ci_162 (List.mem_append_right _ (List.mem_append_right _ (List.mem_append_right _ (List.mem_append_left _ (show _ ∈ my_162_3 from List.mem_of_getElem? (i := 20) rfl)))))
theorem cd_162_461 : mt_cd 162 461 = some (.aload_n 0) := mt_cd_of (q := (461, .aload_n 0, 1)) mq_162 ci_162 (List.mem_append_right _ (List.mem_append_right _ (List.mem_append_right _ (List.mem_append_left _ (show _ ∈ my_162_3 from List.mem_of_getElem? (i := 21) rfl)))))
theorem cd_162_462 : mt_cd 162 462 = some (.getfield 80) := mt_cd_of (q := (462, .getfield 80, 3)) mq_162 ci_162 (List.mem_append_right _ (List.mem_append_right _ (List.mem_append_right _ (List.mem_append_left _ (show _ ∈ my_162_3 from List.mem_of_getElem? (i := 22) rfl)))))
theorem cd_162_465 : mt_cd 162 465 = some (.iload_n 2) := mt_cd_of (q := (465, .iload_n 2, 1)) mq_162 ci_162 (List.mem_append_right _ (List.mem_append_right _ (List.mem_append_right _ (List.mem_append_left _ (show _ ∈ my_162_3 from List.mem_of_getElem? (i := 23) rfl)))))
theorem cd_162_466 : mt_cd 162 466 = some (.aload_n 0) := mt_cd_of (q := (466, .aload_n 0, 1)) mq_162 ci_162 (List.mem_append_right _ (List.mem_append_right _ (List.mem_append_right _ (List.mem_append_left _ (show _ ∈ my_162_3 from List.mem_of_getElem? (i := 24) rfl)))))
theorem cd_162_467 : mt_cd 162 467 = some (.invokevirtual 416) := mt_cd_of (q := (467, .invokevirtual 416, 3)) mq_162 ci_162 (List.mem_append_right _ (List.mem_append_right _ (List.mem_append_right _ (List.mem_append_left _ (show _ ∈ my_162_3 from List.mem_of_getElem? (i := 25) rfl)))))
theorem cd_162_470 : mt_cd 162 470 = some (.dup_x2) := mt_cd_of (q := (470, .dup_x2, 1)) mq_162 ci_162 (List.mem_append_right _ (List.mem_append_right _ (List.mem_append_right _ (List.mem_append_left _ (show _ ∈ my_162_3 from List.mem_of_getElem? (i := 26) rfl)))))
theorem cd_162_471 : mt_cd 162 471 = some (.iastore) := mt_cd_of (q := (471, .iastore, 1)) mq_162 ci_162 (List.mem_append_right _ (List.mem_append_right _ (List.mem_append_right _ (List.mem_append_left _ (show _ ∈ my_162_3 from List.mem_of_getElem? (i := 27) rfl)))))
theorem cd_162_472 : mt_cd 162 472 = some (.ifCond .lt 7) := mt_cd_of (q := (472, .ifCond .lt 7, 3)) mq_162 ci_162 (List.mem_append_right _ (List.mem_append_right _ (List.mem_append_right _ (List.mem_append_left _ (show _ ∈ my_162_3 from List.mem_of_getElem? (i := 28) rfl)))))
theorem cd_162_475 : mt_cd 162 475 = some (.iconst 1) := mt_cd_of (q := (475, .iconst 1, 1)) mq_162 ci_162 (List.mem_append_right _ (List.mem_append_right _ (List.mem_append_right _ (List.mem_append_left _ (show _ ∈ my_162_3 from List.mem_of_getElem? (i := 29) rfl)))))
theorem cd_162_476 : mt_cd 162 476 = some (.goto 4) := mt_cd_of (q := (476, .goto 4, 3)) mq_162 ci_162 (List.mem_append_right _ (List.mem_append_right _ (List.mem_append_right _ (List.mem_append_left _ (show _ ∈ my_162_3 from List.mem_of_getElem? (i := 30) rfl)))))
theorem cd_162_479 : mt_cd 162 479 = some (.iconst 0) := mt_cd_of (q := (479, .iconst 0, 1)) mq_162 ci_162 (List.mem_append_right _ (List.mem_append_right _ (List.mem_append_right _ (List.mem_append_left _ (show _ ∈ my_162_3 from List.mem_of_getElem? (i := 31) rfl)))))
theorem cd_162_480 : mt_cd 162 480 = some (.istore_n 3) := mt_cd_of (q := (480, .istore_n 3, 1)) mq_162 ci_162 (List.mem_append_right _ (List.mem_append_right _ (List.mem_append_right _ (List.mem_append_left _ (show _ ∈ my_162_3 from List.mem_of_getElem? (i := 32) rfl)))))
theorem cd_162_481 : mt_cd 162 481 = some (.goto 77) := mt_cd_of (q := (481, .goto 77, 3)) mq_162 ci_162 (List.mem_append_right _ (List.mem_append_right _ (List.mem_append_right _ (List.mem_append_left _ (show _ ∈ my_162_3 from List.mem_of_getElem? (i := 33) rfl)))))
theorem cd_162_484 : mt_cd 162 484 = some (.aload_n 0) := mt_cd_of (q := (484, .aload_n 0, 1)) mq_162 ci_162 (List.mem_append_right _ (List.mem_append_right _ (List.mem_append_right _ (List.mem_append_left _ (show _ ∈ my_162_3 from List.mem_of_getElem? (i := 34) rfl)))))
theorem cd_162_485 : mt_cd 162 485 = some (.getfield 80) := mt_cd_of (q := (485, .getfield 80, 3)) mq_162 ci_162 (List.mem_append_right _ (List.mem_append_right _ (List.mem_append_right _ (List.mem_append_left _ (show _ ∈ my_162_3 from List.mem_of_getElem? (i := 35) rfl)))))
theorem cd_162_488 : mt_cd 162 488 = some (.iload_n 2) := mt_cd_of (q := (488, .iload_n 2, 1)) mq_162 ci_162 (List.mem_append_right _ (List.mem_append_right _ (List.mem_append_right _ (List.mem_append_left _ (show _ ∈ my_162_3 from List.mem_of_getElem? (i := 36) rfl)))))
theorem cd_162_489 : mt_cd 162 489 = some (.aload_n 0) := mt_cd_of (q := (489, .aload_n 0, 1)) mq_162 ci_162 (List.mem_append_right _ (List.mem_append_right _ (List.mem_append_right _ (List.mem_append_left _ (show _ ∈ my_162_3 from List.mem_of_getElem? (i := 37) rfl)))))
theorem cd_162_490 : mt_cd 162 490 = some (.invokevirtual 406) := mt_cd_of (q := (490, .invokevirtual 406, 3)) mq_162 ci_162 (List.mem_append_right _ (List.mem_append_right _ (List.mem_append_right _ (List.mem_append_left _ (show _ ∈ my_162_3 from List.mem_of_getElem? (i := 38) rfl)))))
theorem cd_162_493 : mt_cd 162 493 = some (.dup_x2) := mt_cd_of (q := (493, .dup_x2, 1)) mq_162 ci_162 (List.mem_append_right _ (List.mem_append_right _ (List.mem_append_right _ (List.mem_append_left _ (show _ ∈ my_162_3 from List.mem_of_getElem? (i := 39) rfl)))))
theorem cd_162_494 : mt_cd 162 494 = some (.iastore) := mt_cd_of (q := (494, .iastore, 1)) mq_162 ci_162 (List.mem_append_right _ (List.mem_append_right _ (List.mem_append_right _ (List.mem_append_left _ (show _ ∈ my_162_3 from List.mem_of_getElem? (i := 40) rfl)))))
theorem cd_162_495 : mt_cd 162 495 = some (.ifCond .lt 7) := mt_cd_of (q := (495, .ifCond .lt 7, 3)) mq_162 ci_162 (List.mem_append_right _ (List.mem_append_right _ (List.mem_append_right _ (List.mem_append_left _ (show _ ∈ my_162_3 from List.mem_of_getElem? (i := 41) rfl)))))
theorem cd_162_498 : mt_cd 162 498 = some (.iconst 1) := mt_cd_of (q := (498, .iconst 1, 1)) mq_162 ci_162 (List.mem_append_right _ (List.mem_append_right _ (List.mem_append_right _ (List.mem_append_left _ (show _ ∈ my_162_3 from List.mem_of_getElem? (i := 42) rfl)))))
theorem cd_162_499 : mt_cd 162 499 = some (.goto 4) := mt_cd_of (q := (499, .goto 4, 3)) mq_162 ci_162 (List.mem_append_right _ (List.mem_append_right _ (List.mem_append_right _ (List.mem_append_left _ (show _ ∈ my_162_3 from List.mem_of_getElem? (i := 43) rfl)))))
theorem cd_162_502 : mt_cd 162 502 = some (.iconst 0) := mt_cd_of (q := (502, .iconst 0, 1)) mq_162 ci_162 (List.mem_append_right _ (List.mem_append_right _ (List.mem_append_right _ (List.mem_append_left _ (show _ ∈ my_162_3 from List.mem_of_getElem? (i := 44) rfl)))))
theorem cd_162_503 : mt_cd 162 503 = some (.istore_n 3) := mt_cd_of (q := (503, .istore_n 3, 1)) mq_162 ci_162 (List.mem_append_right _ (List.mem_append_right _ (List.mem_append_right _ (List.mem_append_left _ (show _ ∈ my_162_3 from List.mem_of_getElem? (i := 45) rfl)))))
theorem cd_162_504 : mt_cd 162 504 = some (.goto 54) := mt_cd_of (q := (504, .goto 54, 3)) mq_162 ci_162 (List.mem_append_right _ (List.mem_append_right _ (List.mem_append_right _ (List.mem_append_left _ (show _ ∈ my_162_3 from List.mem_of_getElem? (i := 46) rfl)))))
theorem cd_162_507 : mt_cd 162 507 = some (.aload_n 0) := mt_cd_of (q := (507, .aload_n 0, 1)) mq_162 ci_162 (List.mem_append_right _ (List.mem_append_right _ (List.mem_append_right _ (List.mem_append_left _ (show _ ∈ my_162_3 from List.mem_of_getElem? (i := 47) rfl)))))
theorem cd_162_508 : mt_cd 162 508 = some (.getfield 89) := mt_cd_of (q := (508, .getfield 89, 3)) mq_162 ci_162 (List.mem_append_right _ (List.mem_append_right _ (List.mem_append_right _ (List.mem_append_left _ (show _ ∈ my_162_3 from List.mem_of_getElem? (i := 48) rfl)))))
theorem cd_162_511 : mt_cd 162 511 = some (.iload_n 2) := mt_cd_of (q := (511, .iload_n 2, 1)) mq_162 ci_162 (List.mem_append_right _ (List.mem_append_right _ (List.mem_append_right _ (List.mem_append_left _ (show _ ∈ my_162_3 from List.mem_of_getElem? (i := 49) rfl)))))
theorem cd_162_512 : mt_cd 162 512 = some (.aload_n 0) := mt_cd_of (q := (512, .aload_n 0, 1)) mq_162 ci_162 (List.mem_append_right _ (List.mem_append_right _ (List.mem_append_right _ (List.mem_append_left _ (show _ ∈ my_162_3 from List.mem_of_getElem? (i := 50) rfl)))))
theorem cd_162_513 : mt_cd 162 513 = some (.invokevirtual 401) := mt_cd_of (q := (513, .invokevirtual 401, 3)) mq_162 ci_162 (List.mem_append_right _ (List.mem_append_right _ (List.mem_append_right _ (List.mem_append_left _ (show _ ∈ my_162_3 from List.mem_of_getElem? (i := 51) rfl)))))
theorem cd_162_516 : mt_cd 162 516 = some (.dup_x2) := mt_cd_of (q := (516, .dup_x2, 1)) mq_162 ci_162 (List.mem_append_right _ (List.mem_append_right _ (List.mem_append_right _ (List.mem_append_left _ (show _ ∈ my_162_3 from List.mem_of_getElem? (i := 52) rfl)))))
theorem cd_162_517 : mt_cd 162 517 = some (.iastore) := mt_cd_of (q := (517, .iastore, 1)) mq_162 ci_162 (List.mem_append_right _ (List.mem_append_right _ (List.mem_append_right _ (List.mem_append_left _ (show _ ∈ my_162_3 from List.mem_of_getElem? (i := 53) rfl)))))
theorem cd_162_518 : mt_cd 162 518 = some (.ifCond .lt 35) := mt_cd_of (q := (518, .ifCond .lt 35, 3)) mq_162 ci_162 (List.mem_append_right _ (List.mem_append_right _ (List.mem_append_right _ (List.mem_append_left _ (show _ ∈ my_162_3 from List.mem_of_getElem? (i := 54) rfl)))))
theorem cd_162_521 : mt_cd 162 521 = some (.aload_n 0) := mt_cd_of (q := (521, .aload_n 0, 1)) mq_162 ci_162 (List.mem_append_right _ (List.mem_append_right _ (List.mem_append_right _ (List.mem_append_left _ (show _ ∈ my_162_3 from List.mem_of_getElem? (i := 55) rfl)))))
theorem cd_162_522 : mt_cd 162 522 = some (.getfield 80) := mt_cd_of (q := (522, .getfield 80, 3)) mq_162 ci_162 (List.mem_append_right _ (List.mem_append_right _ (List.mem_append_right _ (List.mem_append_left _ (show _ ∈ my_162_3 from List.mem_of_getElem? (i := 56) rfl)))))
theorem cd_162_525 : mt_cd 162 525 = some (.iload_n 2) := mt_cd_of (q := (525, .iload_n 2, 1)) mq_162 ci_162 (List.mem_append_right _ (List.mem_append_right _ (List.mem_append_right _ (List.mem_append_left _ (show _ ∈ my_162_3 from List.mem_of_getElem? (i := 57) rfl)))))
theorem cd_162_526 : mt_cd 162 526 = some (.aload_n 0) := mt_cd_of (q := (526, .aload_n 0, 1)) mq_162 ci_162 (List.mem_append_right _ (List.mem_append_right _ (List.mem_append_right _ (List.mem_append_left _ (show _ ∈ my_162_3 from List.mem_of_getElem? (i := 58) rfl)))))
theorem cd_162_527 : mt_cd 162 527 = some (.invokevirtual 399) := mt_cd_of (q := (527, .invokevirtual 399, 3)) mq_162 ci_162 (List.mem_append_right _ (List.mem_append_right _ (List.mem_append_right _ (List.mem_append_left _ (show _ ∈ my_162_3 from List.mem_of_getElem? (i := 59) rfl)))))
theorem cd_162_530 : mt_cd 162 530 = some (.dup_x2) := mt_cd_of (q := (530, .dup_x2, 1)) mq_162 ci_162 (List.mem_append_right _ (List.mem_append_right _ (List.mem_append_right _ (List.mem_append_right _ ((show _ ∈ my_162_4 from List.mem_of_getElem? (i := 0) rfl))))))
theorem cd_162_531 : mt_cd 162 531 = some (.iastore) := mt_cd_of (q := (531, .iastore, 1)) mq_162 ci_162 (List.mem_append_right _ (List.mem_append_right _ (List.mem_append_right _ (List.mem_append_right _ ((show _ ∈ my_162_4 from List.mem_of_getElem? (i := 1) rfl))))))
theorem cd_162_532 : mt_cd 162 532 = some (.ifCond .lt 21) := mt_cd_of (q := (532, .ifCond .lt 21, 3)) mq_162 ci_162 (List.mem_append_right _ (List.mem_append_right _ (List.mem_append_right _ (List.mem_append_right _ ((show _ ∈ my_162_4 from List.mem_of_getElem? (i := 2) rfl))))))
theorem cd_162_535 : mt_cd 162 535 = some (.aload_n 0) := mt_cd_of (q := (535, .aload_n 0, 1)) mq_162 ci_162 (List.mem_append_right _ (List.mem_append_right _ (List.mem_append_right _ (List.mem_append_right _ ((show _ ∈ my_162_4 from List.mem_of_getElem? (i := 3) rfl))))))
theorem cd_162_536 : mt_cd 162 536 = some (.getfield 83) := mt_cd_of (q := (536, .getfield 83, 3)) mq_162 ci_162 (List.mem_append_right _ (List.mem_append_right _ (List.mem_append_right _ (List.mem_append_right _ ((show _ ∈ my_162_4 from List.mem_of_getElem? (i := 4) rfl))))))
theorem cd_162_539 : mt_cd 162 539 = some (.iload_n 2) := mt_cd_of (q := (539, .iload_n 2, 1)) mq_162 ci_162 (List.mem_append_right _ (List.mem_append_right _ (List.mem_append_right _ (List.mem_append_right _ ((show _ ∈ my_162_4 from List.mem_of_getElem? (i := 5) rfl))))))
theorem cd_162_540 : mt_cd 162 540 = some (.aload_n 0) := mt_cd_of (q := (540, .aload_n 0, 1)) mq_162 ci_162 (List.mem_append_right _ (List.mem_append_right _ (List.mem_append_right _ (List.mem_append_right _ ((show _ ∈ my_162_4 from List.mem_of_getElem? (i := 6) rfl))))))
theorem cd_162_541 : mt_cd 162 541 = some (.invokevirtual 399) := mt_cd_of (q := (541, .invokevirtual 399, 3)) mq_162 ci_162 (List.mem_append_right _ (List.mem_append_right _ (List.mem_append_right _ (List.mem_append_right _ ((show _ ∈ my_162_4 from List.mem_of_getElem? (i := 7) rfl))))))
theorem cd_162_544 : mt_cd 162 544 = some (.dup_x2) := mt_cd_of (q := (544, .dup_x2, 1)) mq_162 ci_162 (List.mem_append_right _ (List.mem_append_right _ (List.mem_append_right _ (List.mem_append_right _ ((show _ ∈ my_162_4 from List.mem_of_getElem? (i := 8) rfl))))))
theorem cd_162_545 : mt_cd 162 545 = some (.iastore) := mt_cd_of (q := (545, .iastore, 1)) mq_162 ci_162 (List.mem_append_right _ (List.mem_append_right _ (List.mem_append_right _ (List.mem_append_right _ ((show _ ∈ my_162_4 from List.mem_of_getElem? (i := 9) rfl))))))
theorem cd_162_546 : mt_cd 162 546 = some (.ifCond .lt 7) := mt_cd_of (q := (546, .ifCond .lt 7, 3)) mq_162 ci_162 (List.mem_append_right _ (List.mem_append_right _ (List.mem_append_right _ (List.mem_append_right _ ((show _ ∈ my_162_4 from List.mem_of_getElem? (i := 10) rfl))))))
theorem cd_162_549 : mt_cd 162 549 = some (.iconst 1) := mt_cd_of (q := (549, .iconst 1, 1)) mq_162 ci_162 (List.mem_append_right _ (List.mem_append_right _ (List.mem_append_right _ (List.mem_append_right _ ((show _ ∈ my_162_4 from List.mem_of_getElem? (i := 11) rfl))))))
theorem cd_162_550 : mt_cd 162 550 = some (.goto 4) := mt_cd_of (q := (550, .goto 4, 3)) mq_162 ci_162 (List.mem_append_right _ (List.mem_append_right _ (List.mem_append_right _ (List.mem_append_right _ ((show _ ∈ my_162_4 from List.mem_of_getElem? (i := 12) rfl))))))
theorem cd_162_553 : mt_cd 162 553 = some (.iconst 0) := mt_cd_of (q := (553, .iconst 0, 1)) mq_162 ci_162 (List.mem_append_right _ (List.mem_append_right _ (List.mem_append_right _ (List.mem_append_right _ ((show _ ∈ my_162_4 from List.mem_of_getElem? (i := 13) rfl))))))
theorem cd_162_554 : mt_cd 162 554 = some (.istore_n 3) := mt_cd_of (q := (554, .istore_n 3, 1)) mq_162 ci_162 (List.mem_append_right _ (List.mem_append_right _ (List.mem_append_right _ (List.mem_append_right _ ((show _ ∈ my_162_4 from List.mem_of_getElem? (i := 14) rfl))))))
theorem cd_162_555 : mt_cd 162 555 = some (.goto 3) := mt_cd_of (q := (555, .goto 3, 3)) mq_162 ci_162 (List.mem_append_right _ (List.mem_append_right _ (List.mem_append_right _ (List.mem_append_right _ ((show _ ∈ my_162_4 from List.mem_of_getElem? (i := 15) rfl))))))
theorem cd_162_558 : mt_cd 162 558 = some (.aload_n 0) := mt_cd_of (q := (558, .aload_n 0, 1)) mq_162 ci_162 (List.mem_append_right _ (List.mem_append_right _ (List.mem_append_right _ (List.mem_append_right _ ((show _ ∈ my_162_4 from List.mem_of_getElem? (i := 16) rfl))))))
theorem cd_162_559 : mt_cd 162 559 = some (.dup) := mt_cd_of (q := (559, .dup, 1)) mq_162 ci_162 (List.mem_append_right _ (List.mem_append_right _ (List.mem_append_right _ (List.mem_append_right _ ((show _ ∈ my_162_4 from List.mem_of_getElem? (i := 17) rfl))))))
theorem cd_162_560 : mt_cd 162 560 = some (.getfield 337) := mt_cd_of (q := (560, .getfield 337, 3)) mq_162 ci_162 (List.mem_append_right _ (List.mem_append_right _ (List.mem_append_right _ (List.mem_append_right _ ((show _ ∈ my_162_4 from List.mem_of_getElem? (i := 18) rfl))))))
theorem cd_162_563 : mt_cd 162 563 = some (.iconst 1) := mt_cd_of (q := (563, .iconst 1, 1)) mq_162 ci_162 (List.mem_append_right _ (List.mem_append_right _ (List.mem_append_right _ (List.mem_append_right _ ((show _ ∈ my_162_4 from List.mem_of_getElem? (i := 19) rfl))))))
theorem cd_162_564 : mt_cd 162 564 = some (.isub) := mt_cd_of (q := (564, .isub, 1)) mq_162 ci_162 (List.mem_append_right _ (List.mem_append_right _ (List.mem_append_right _ (List.mem_append_right _ ((show _ ∈ my_162_4 from List.mem_of_getElem? (i := 20) rfl))))))
theorem cd_162_565 : mt_cd 162 565 = some (.putfield 337) := mt_cd_of (q := (565, .putfield 337, 3)) mq_162 ci_162 (List.mem_append_right _ (List.mem_append_right _ (List.mem_append_right _ (List.mem_append_right _ ((show _ ∈ my_162_4 from List.mem_of_getElem? (i := 21) rfl))))))
theorem cd_162_568 : mt_cd 162 568 = some (.iload_n 3) := mt_cd_of (q := (568, .iload_n 3, 1)) mq_162 ci_162 (List.mem_append_right _ (List.mem_append_right _ (List.mem_append_right _ (List.mem_append_right _ ((show _ ∈ my_162_4 from List.mem_of_getElem? (i := 22) rfl))))))
theorem cd_162_569 : mt_cd 162 569 = some (.ifCond .eq 7) := mt_cd_of (q := (569, .ifCond .eq 7, 3)) mq_162 ci_162 (List.mem_append_right _ (List.mem_append_right _ (List.mem_append_right _ (List.mem_append_right _ ((show _ ∈ my_162_4 from List.mem_of_getElem? (i := 23) rfl))))))
theorem cd_162_572 : mt_cd 162 572 = some (.iload_n 2) := mt_cd_of (q := (572, .iload_n 2, 1)) mq_162 ci_162 (List.mem_append_right _ (List.mem_append_right _ (List.mem_append_right _ (List.mem_append_right _ ((show _ ∈ my_162_4 from List.mem_of_getElem? (i := 24) rfl))))))
theorem cd_162_573 : mt_cd 162 573 = some (.goto 4) := mt_cd_of (q := (573, .goto 4, 3)) mq_162 ci_162 (List.mem_append_right _ (List.mem_append_right _ (List.mem_append_right _ (List.mem_append_right _ ((show _ ∈ my_162_4 from List.mem_of_getElem? (i := 25) rfl))))))
theorem cd_162_576 : mt_cd 162 576 = some (.iconst (-1)) := mt_cd_of (q := (576, .iconst (-1), 1)) mq_162 ci_162 (List.mem_append_right _ (List.mem_append_right _ (List.mem_append_right _ (List.mem_append_right _ ((show _ ∈ my_162_4 from List.mem_of_getElem? (i := 26) rfl))))))
theorem cd_162_577 : mt_cd 162 577 = some (.ireturn) := mt_cd_of (q := (577, .ireturn, 1)) mq_162 ci_162 (List.mem_append_right _ (List.mem_append_right _ (List.mem_append_right _ (List.mem_append_right _ ((show _ ∈ my_162_4 from List.mem_of_getElem? (i := 27) rfl))))))
theorem b_162_0 {d : Nat} {Q : (Option Value ⊕ Nat) → mi_H → Prop} (n sl : Nat) (f : Nat → mi_C) {l1 : Nat} {o2 : Option Value} {o3 : Option Value} {o4 : Option Value} {fs5 : List Value} (h6 : f l1 = .inr (12, fs5)) (h7 : l1 < n) (h8 : mi_W d 152 0 (mi_en 2 [.ref l1, .ref (mi_SC + 1 + 2 * 40)]) [] (n, sl, f) (mi_Kc d 162 4 [some (.ref l1), o2, o3, o4] [] Q)) : mi_W (d + 1) 162 0 [some (.ref l1), o2, o3, o4] [] (n, sl, f) Q := by
  refine w_aload_n cd_162_0 rfl ?_
  refine w_ldc_w (n := 40) cd_162_1 (by decide +kernel) ?_
  exact w_invokevirtual cd_162_4 (show mt_m 12 375 = some (152, 0) by decide +kernel) (rest := []) rfl (as := [.ref l1, .ref (mi_SC + 1 + 2 * 40)]) rfl h6 (Or.inl h7) ⟨Nat.le_of_ble_eq_true rfl, Nat.le_of_ble_eq_true rfl, Nat.le_of_ble_eq_true rfl⟩ h8
theorem b_162_7 {d : Nat} {Q : (Option Value ⊕ Nat) → mi_H → Prop} (n sl : Nat) (f : Nat → mi_C) {l1 : Nat} {o2 : Option Value} {o3 : Option Value} {o4 : Option Value} {s5 : Int32} (h6 : s5 = (0 : Int32) → mi_W d 162 65 [some (.ref l1), o2, o3, o4] [] (n, sl, f) Q) (h7 : ¬ (s5 = (0 : Int32)) → mi_W d 162 10 [some (.ref l1), o2, o3, o4] [] (n, sl, f) Q) : mi_W d 162 7 [some (.ref l1), o2, o3, o4] [.int s5] (n, sl, f) Q := by
  exact w_ifeq cd_162_7 (by decide) h6 h7
theorem b_162_10 {d : Nat} {Q : (Option Value ⊕ Nat) → mi_H → Prop} (n sl : Nat) (f : Nat → mi_C) {l1 : Nat} {o2 : Option Value} {o3 : Option Value} {o4 : Option Value} {fs5 : List Value} (h6 : f l1 = .inr (12, fs5)) (h7 : l1 < n) (h8 : mi_W d 153 0 (mi_en 1 [.ref l1]) [] (n, sl, f) (mi_Kc d 162 11 [some (.ref l1), o2, o3, o4] [] Q)) : mi_W (d + 1) 162 10 [some (.ref l1), o2, o3, o4] [] (n, sl, f) Q := by
  refine w_aload_n cd_162_10 rfl ?_
  exact w_invokevirtual cd_162_11 (show mt_m 12 378 = some (153, 0) by decide +kernel) (rest := []) rfl (as := [.ref l1]) rfl h6 (Or.inl h7) ⟨Nat.le_of_ble_eq_true rfl, Nat.le_of_ble_eq_true rfl, Nat.le_of_ble_eq_true rfl⟩ h8
theorem b_162_14 {d : Nat} {Q : (Option Value ⊕ Nat) → mi_H → Prop} (n sl : Nat) (f : Nat → mi_C) {l1 : Nat} {o2 : Option Value} {o3 : Option Value} {o4 : Option Value} {s5 : Int32} (h6 : s5 = (0 : Int32) → mi_W d 162 24 [some (.ref l1), o2, o3, o4] [] (n, sl, f) Q) (h7 : ¬ (s5 = (0 : Int32)) → mi_W d 162 17 [some (.ref l1), o2, o3, o4] [] (n, sl, f) Q) : mi_W d 162 14 [some (.ref l1), o2, o3, o4] [.int s5] (n, sl, f) Q := by
  exact w_ifeq cd_162_14 (by decide) h6 h7
theorem b_162_17 {d : Nat} {Q : (Option Value ⊕ Nat) → mi_H → Prop} (n sl : Nat) (f : Nat → mi_C) {l1 : Nat} {o2 : Option Value} {o3 : Option Value} {o4 : Option Value} {fs5 : List Value} (h6 : f l1 = .inr (12, fs5)) (h7 : l1 < n) (h8 : mi_W d 144 0 (mi_en 4 [.ref l1]) [] (n, sl, f) (mi_Kc d 162 18 [some (.ref l1), o2, o3, o4] [] Q)) : mi_W (d + 1) 162 17 [some (.ref l1), o2, o3, o4] [] (n, sl, f) Q := by
  refine w_aload_n cd_162_17 rfl ?_
  exact w_invokevirtual cd_162_18 (show mt_m 12 333 = some (144, 0) by decide +kernel) (rest := []) rfl (as := [.ref l1]) rfl h6 (Or.inl h7) ⟨Nat.le_of_ble_eq_true rfl, Nat.le_of_ble_eq_true rfl, Nat.le_of_ble_eq_true rfl⟩ h8
theorem b_162_21 {d : Nat} {Q : (Option Value ⊕ Nat) → mi_H → Prop} (n sl : Nat) (f : Nat → mi_C) {l1 : Nat} {o2 : Option Value} {o3 : Option Value} {o4 : Option Value} {s5 : Int32} (h6 : ¬ s5 = (0 : Int32) → mi_W d 162 26 [some (.ref l1), o2, o3, o4] [] (n, sl, f) Q) (h7 : ¬ (¬ s5 = (0 : Int32)) → mi_W d 162 24 [some (.ref l1), o2, o3, o4] [] (n, sl, f) Q) : mi_W d 162 21 [some (.ref l1), o2, o3, o4] [.int s5] (n, sl, f) Q := by
  exact w_ifne cd_162_21 (by decide) h6 h7
theorem b_162_24 {d : Nat} {Q : (Option Value ⊕ Nat) → mi_H → Prop} (n sl : Nat) (f : Nat → mi_C) {l1 : Nat} {o2 : Option Value} {o3 : Option Value} {o4 : Option Value} (h5 : Q (.inl (some (.int (-1)))) (n, sl, f)) : mi_W d 162 24 [some (.ref l1), o2, o3, o4] [] (n, sl, f) Q := by
  refine w_iconst (v := (-1)) cd_162_24 (by decide) ?_
  exact w_ireturn_i cd_162_25 (by decide +kernel) h5
theorem b_162_26 {d : Nat} {Q : (Option Value ⊕ Nat) → mi_H → Prop} (n sl : Nat) (f : Nat → mi_C) {l1 : Nat} {o2 : Option Value} {o3 : Option Value} {o4 : Option Value} {fs5 : List Value} (h6 : f l1 = .inr (12, fs5)) (h7 : l1 < n) (h8 : mi_W d 162 0 (mi_en 4 [.ref l1]) [] (n, sl, f) (mi_Kc d 162 27 [some (.ref l1), o2, o3, o4] [] Q)) : mi_W (d + 1) 162 26 [some (.ref l1), o2, o3, o4] [] (n, sl, f) Q := by
  refine w_aload_n cd_162_26 rfl ?_
  exact w_invokevirtual cd_162_27 (show mt_m 12 399 = some (162, 0) by decide +kernel) (rest := []) rfl (as := [.ref l1]) rfl h6 (Or.inl h7) ⟨Nat.le_of_ble_eq_true rfl, Nat.le_of_ble_eq_true rfl, Nat.le_of_ble_eq_true rfl⟩ h8
theorem b_162_30 {d : Nat} {Q : (Option Value ⊕ Nat) → mi_H → Prop} (n sl : Nat) (f : Nat → mi_C) {l1 : Nat} {o2 : Option Value} {o3 : Option Value} {o4 : Option Value} {s5 : Int32} {fs6 : List Value} {x9 : Int32} {fs11 : List Value} (h7 : f l1 = .inr (12, fs6)) (h8 : l1 < n) (h10 : fs6[22]? = some (.int x9)) (h12 : f l1 = .inr (12, fs11)) (h13 : l1 < n) (h14 : 22 < fs11.length) (h15 : s5 < (0 : Int32) → mi_W d 162 63 [some (.ref l1), some (.int s5), o3, o4] [] (n, sl, (va_up f l1 (.inr (12, fs11.set 22 (.int (x9 - 1)))))) Q) (h16 : ¬ (s5 < (0 : Int32)) → mi_W d 162 45 [some (.ref l1), some (.int s5), o3, o4] [] (n, sl, (va_up f l1 (.inr (12, fs11.set 22 (.int (x9 - 1)))))) Q) : mi_W d 162 30 [some (.ref l1), o2, o3, o4] [.int s5] (n, sl, f) Q := by
  refine w_istore_n (ls' := [some (.ref l1), some (.int s5), o3, o4]) cd_162_30 (Nat.le_of_ble_eq_true rfl) rfl ?_
  refine w_aload_n cd_162_31 rfl ?_
  refine w_dup_r cd_162_32 ?_
  refine w_getfield cd_162_33 (show mt_f 12 337 = some (12, 22) by decide +kernel) h7 h8 h10 ?_
  refine w_iconst (v := 1) cd_162_36 (by decide) ?_
  refine w_isub cd_162_37 ?_
  refine w_putfield (w := .int (x9 - 1)) cd_162_38 (show mt_f 12 337 = some (12, 22) by decide +kernel) h12 h13 ⟨h14, rfl, Or.inl (by decide)⟩ ?_
  refine w_iload_n cd_162_41 rfl ?_
  exact w_iflt cd_162_42 (by decide) h15 h16
theorem b_162_45 {d : Nat} {Q : (Option Value ⊕ Nat) → mi_H → Prop} (n sl : Nat) (f : Nat → mi_C) {l1 : Nat} {l2 : Int32} {o3 : Option Value} {o4 : Option Value} {fs5 : List Value} (h6 : f l1 = .inr (12, fs5)) (h7 : l1 < n) (h8 : mi_W d 152 0 (mi_en 2 [.ref l1, .ref (mi_SC + 1 + 2 * 41)]) [] (n, sl, f) (mi_Kc d 162 50 [some (.ref l1), some (.int l2), o3, o4] [.ref l1] Q)) : mi_W (d + 1) 162 45 [some (.ref l1), some (.int l2), o3, o4] [] (n, sl, f) Q := by
  refine w_aload_n cd_162_45 rfl ?_
  refine w_aload_n cd_162_46 rfl ?_
  refine w_ldc_w (n := 41) cd_162_47 (by decide +kernel) ?_
  exact w_invokevirtual cd_162_50 (show mt_m 12 375 = some (152, 0) by decide +kernel) (rest := [.ref l1]) rfl (as := [.ref l1, .ref (mi_SC + 1 + 2 * 41)]) rfl h6 (Or.inl h7) ⟨Nat.le_of_ble_eq_true rfl, Nat.le_of_ble_eq_true rfl, Nat.le_of_ble_eq_true rfl⟩ h8
theorem b_162_53 {d : Nat} {Q : (Option Value ⊕ Nat) → mi_H → Prop} (n sl : Nat) (f : Nat → mi_C) {l1 : Nat} {l2 : Int32} {o3 : Option Value} {o4 : Option Value} {s5 : Int32} {s6 : Nat} {fs7 : List Value} (h8 : f s6 = .inr (12, fs7)) (h9 : s6 < n) (h10 : mi_W d 154 0 (mi_en 2 [.ref s6, .int s5]) [] (n, sl, f) (mi_Kc d 162 53 [some (.ref l1), some (.int l2), o3, o4] [] Q)) : mi_W (d + 1) 162 53 [some (.ref l1), some (.int l2), o3, o4] [.int s5, .ref s6] (n, sl, f) Q := by
  exact w_invokevirtual cd_162_53 (show mt_m 12 383 = some (154, 0) by decide +kernel) (rest := []) rfl (as := [.ref s6, .int s5]) rfl h8 (Or.inl h9) ⟨Nat.le_of_ble_eq_true rfl, Nat.le_of_ble_eq_true rfl, Nat.le_of_ble_eq_true rfl⟩ h10
theorem b_162_56 {d : Nat} {Q : (Option Value ⊕ Nat) → mi_H → Prop} (n sl : Nat) (f : Nat → mi_C) {l1 : Nat} {l2 : Int32} {o3 : Option Value} {o4 : Option Value} {s5 : Int32} (h6 : s5 = (0 : Int32) → mi_W d 162 63 [some (.ref l1), some (.int l2), o3, o4] [] (n, sl, f) Q) (h7 : ¬ (s5 = (0 : Int32)) → mi_W d 162 59 [some (.ref l1), some (.int l2), o3, o4] [] (n, sl, f) Q) : mi_W d 162 56 [some (.ref l1), some (.int l2), o3, o4] [.int s5] (n, sl, f) Q := by
  exact w_ifeq cd_162_56 (by decide) h6 h7
theorem b_162_59 {d : Nat} {Q : (Option Value ⊕ Nat) → mi_H → Prop} (n sl : Nat) (f : Nat → mi_C) {l1 : Nat} {l2 : Int32} {o3 : Option Value} {o4 : Option Value} (h5 : mi_W d 162 64 [some (.ref l1), some (.int l2), o3, o4] [.int l2] (n, sl, f) Q) : mi_W d 162 59 [some (.ref l1), some (.int l2), o3, o4] [] (n, sl, f) Q := by
  refine w_iload_n cd_162_59 rfl ?_
  exact w_goto cd_162_60 (by decide) h5
theorem b_162_63 {d : Nat} {Q : (Option Value ⊕ Nat) → mi_H → Prop} (n sl : Nat) (f : Nat → mi_C) {l1 : Nat} {l2 : Int32} {o3 : Option Value} {o4 : Option Value} (h5 : mi_W d 162 64 [some (.ref l1), some (.int l2), o3, o4] [.int (-1)] (n, sl, f) Q) : mi_W d 162 63 [some (.ref l1), some (.int l2), o3, o4] [] (n, sl, f) Q := by
  refine w_iconst (v := (-1)) cd_162_63 (by decide) ?_
  exact h5
theorem b_162_64 {d : Nat} {Q : (Option Value ⊕ Nat) → mi_H → Prop} (n sl : Nat) (f : Nat → mi_C) {l1 : Nat} {l2 : Int32} {o3 : Option Value} {o4 : Option Value} {s5 : Int32} (h6 : Q (.inl (some (.int s5))) (n, sl, f)) : mi_W d 162 64 [some (.ref l1), some (.int l2), o3, o4] [.int s5] (n, sl, f) Q := by
  exact w_ireturn_i cd_162_64 (by decide +kernel) h6
theorem b_162_65 {d : Nat} {Q : (Option Value ⊕ Nat) → mi_H → Prop} (n sl : Nat) (f : Nat → mi_C) {l1 : Nat} {o2 : Option Value} {o3 : Option Value} {o4 : Option Value} {fs5 : List Value} {x8 : Int32} (h6 : f l1 = .inr (12, fs5)) (h7 : l1 < n) (h9 : fs5[8]? = some (.int x8)) (h10 : ¬ x8 = 2 → mi_W d 162 78 [some (.ref l1), o2, o3, o4] [] (n, sl, f) Q) (h11 : ¬ (¬ x8 = 2) → mi_W d 162 73 [some (.ref l1), o2, o3, o4] [] (n, sl, f) Q) : mi_W d 162 65 [some (.ref l1), o2, o3, o4] [] (n, sl, f) Q := by
  refine w_aload_n cd_162_65 rfl ?_
  refine w_getfield cd_162_66 (show mt_f 12 310 = some (12, 8) by decide +kernel) h6 h7 h9 ?_
  refine w_iconst (v := 2) cd_162_69 (by decide) ?_
  exact w_if_icmpne cd_162_70 (by decide) h10 h11
theorem b_162_73 {d : Nat} {Q : (Option Value ⊕ Nat) → mi_H → Prop} (n sl : Nat) (f : Nat → mi_C) {l1 : Nat} {o2 : Option Value} {o3 : Option Value} {o4 : Option Value} (h5 : mi_W d 162 237 [some (.ref l1), o2, o3, o4] [.int 10] (n, sl, f) Q) : mi_W d 162 73 [some (.ref l1), o2, o3, o4] [] (n, sl, f) Q := by
  refine w_bipush (v := 10) cd_162_73 (by decide) ?_
  exact w_goto cd_162_75 (by decide) h5
theorem b_162_78 {d : Nat} {Q : (Option Value ⊕ Nat) → mi_H → Prop} (n sl : Nat) (f : Nat → mi_C) {l1 : Nat} {o2 : Option Value} {o3 : Option Value} {o4 : Option Value} {fs5 : List Value} (h6 : f l1 = .inr (12, fs5)) (h7 : l1 < n) (h8 : mi_W d 155 0 (mi_en 2 [.ref l1, .ref (mi_SC + 1 + 2 * 27)]) [] (n, sl, f) (mi_Kc d 162 81 [some (.ref l1), o2, o3, o4] [] Q)) : mi_W (d + 1) 162 78 [some (.ref l1), o2, o3, o4] [] (n, sl, f) Q := by
  refine w_aload_n cd_162_78 rfl ?_
  refine w_ldc (n := 27) cd_162_79 (by decide +kernel) ?_
  exact w_invokevirtual cd_162_81 (show mt_m 12 387 = some (155, 0) by decide +kernel) (rest := []) rfl (as := [.ref l1, .ref (mi_SC + 1 + 2 * 27)]) rfl h6 (Or.inl h7) ⟨Nat.le_of_ble_eq_true rfl, Nat.le_of_ble_eq_true rfl, Nat.le_of_ble_eq_true rfl⟩ h8
theorem b_162_84 {d : Nat} {Q : (Option Value ⊕ Nat) → mi_H → Prop} (n sl : Nat) (f : Nat → mi_C) {l1 : Nat} {o2 : Option Value} {o3 : Option Value} {o4 : Option Value} {s5 : Int32} (h6 : s5 = (0 : Int32) → mi_W d 162 92 [some (.ref l1), o2, o3, o4] [] (n, sl, f) Q) (h7 : ¬ (s5 = (0 : Int32)) → mi_W d 162 87 [some (.ref l1), o2, o3, o4] [] (n, sl, f) Q) : mi_W d 162 84 [some (.ref l1), o2, o3, o4] [.int s5] (n, sl, f) Q := by
  exact w_ifeq cd_162_84 (by decide) h6 h7
theorem b_162_87 {d : Nat} {Q : (Option Value ⊕ Nat) → mi_H → Prop} (n sl : Nat) (f : Nat → mi_C) {l1 : Nat} {o2 : Option Value} {o3 : Option Value} {o4 : Option Value} (h5 : mi_W d 162 237 [some (.ref l1), o2, o3, o4] [.int 11] (n, sl, f) Q) : mi_W d 162 87 [some (.ref l1), o2, o3, o4] [] (n, sl, f) Q := by
  refine w_bipush (v := 11) cd_162_87 (by decide) ?_
  exact w_goto cd_162_89 (by decide) h5
theorem b_162_92 {d : Nat} {Q : (Option Value ⊕ Nat) → mi_H → Prop} (n sl : Nat) (f : Nat → mi_C) {l1 : Nat} {o2 : Option Value} {o3 : Option Value} {o4 : Option Value} {fs5 : List Value} (h6 : f l1 = .inr (12, fs5)) (h7 : l1 < n) (h8 : mi_W d 155 0 (mi_en 2 [.ref l1, .ref (mi_SC + 1 + 2 * 28)]) [] (n, sl, f) (mi_Kc d 162 95 [some (.ref l1), o2, o3, o4] [] Q)) : mi_W (d + 1) 162 92 [some (.ref l1), o2, o3, o4] [] (n, sl, f) Q := by
  refine w_aload_n cd_162_92 rfl ?_
  refine w_ldc (n := 28) cd_162_93 (by decide +kernel) ?_
  exact w_invokevirtual cd_162_95 (show mt_m 12 387 = some (155, 0) by decide +kernel) (rest := []) rfl (as := [.ref l1, .ref (mi_SC + 1 + 2 * 28)]) rfl h6 (Or.inl h7) ⟨Nat.le_of_ble_eq_true rfl, Nat.le_of_ble_eq_true rfl, Nat.le_of_ble_eq_true rfl⟩ h8
theorem b_162_98 {d : Nat} {Q : (Option Value ⊕ Nat) → mi_H → Prop} (n sl : Nat) (f : Nat → mi_C) {l1 : Nat} {o2 : Option Value} {o3 : Option Value} {o4 : Option Value} {s5 : Int32} (h6 : s5 = (0 : Int32) → mi_W d 162 106 [some (.ref l1), o2, o3, o4] [] (n, sl, f) Q) (h7 : ¬ (s5 = (0 : Int32)) → mi_W d 162 101 [some (.ref l1), o2, o3, o4] [] (n, sl, f) Q) : mi_W d 162 98 [some (.ref l1), o2, o3, o4] [.int s5] (n, sl, f) Q := by
  exact w_ifeq cd_162_98 (by decide) h6 h7
theorem b_162_101 {d : Nat} {Q : (Option Value ⊕ Nat) → mi_H → Prop} (n sl : Nat) (f : Nat → mi_C) {l1 : Nat} {o2 : Option Value} {o3 : Option Value} {o4 : Option Value} (h5 : mi_W d 162 237 [some (.ref l1), o2, o3, o4] [.int 12] (n, sl, f) Q) : mi_W d 162 101 [some (.ref l1), o2, o3, o4] [] (n, sl, f) Q := by
  refine w_bipush (v := 12) cd_162_101 (by decide) ?_
  exact w_goto cd_162_103 (by decide) h5
theorem b_162_106 {d : Nat} {Q : (Option Value ⊕ Nat) → mi_H → Prop} (n sl : Nat) (f : Nat → mi_C) {l1 : Nat} {o2 : Option Value} {o3 : Option Value} {o4 : Option Value} {fs5 : List Value} (h6 : f l1 = .inr (12, fs5)) (h7 : l1 < n) (h8 : mi_W d 152 0 (mi_en 2 [.ref l1, .ref (mi_SC + 1 + 2 * 42)]) [] (n, sl, f) (mi_Kc d 162 110 [some (.ref l1), o2, o3, o4] [] Q)) : mi_W (d + 1) 162 106 [some (.ref l1), o2, o3, o4] [] (n, sl, f) Q := by
  refine w_aload_n cd_162_106 rfl ?_
  refine w_ldc_w (n := 42) cd_162_107 (by decide +kernel) ?_
  exact w_invokevirtual cd_162_110 (show mt_m 12 375 = some (152, 0) by decide +kernel) (rest := []) rfl (as := [.ref l1, .ref (mi_SC + 1 + 2 * 42)]) rfl h6 (Or.inl h7) ⟨Nat.le_of_ble_eq_true rfl, Nat.le_of_ble_eq_true rfl, Nat.le_of_ble_eq_true rfl⟩ h8
theorem b_162_113 {d : Nat} {Q : (Option Value ⊕ Nat) → mi_H → Prop} (n sl : Nat) (f : Nat → mi_C) {l1 : Nat} {o2 : Option Value} {o3 : Option Value} {o4 : Option Value} {s5 : Int32} (h6 : s5 = (0 : Int32) → mi_W d 162 121 [some (.ref l1), o2, o3, o4] [] (n, sl, f) Q) (h7 : ¬ (s5 = (0 : Int32)) → mi_W d 162 116 [some (.ref l1), o2, o3, o4] [] (n, sl, f) Q) : mi_W d 162 113 [some (.ref l1), o2, o3, o4] [.int s5] (n, sl, f) Q := by
  exact w_ifeq cd_162_113 (by decide) h6 h7
theorem b_162_116 {d : Nat} {Q : (Option Value ⊕ Nat) → mi_H → Prop} (n sl : Nat) (f : Nat → mi_C) {l1 : Nat} {o2 : Option Value} {o3 : Option Value} {o4 : Option Value} (h5 : mi_W d 162 237 [some (.ref l1), o2, o3, o4] [.int 13] (n, sl, f) Q) : mi_W d 162 116 [some (.ref l1), o2, o3, o4] [] (n, sl, f) Q := by
  refine w_bipush (v := 13) cd_162_116 (by decide) ?_
  exact w_goto cd_162_118 (by decide) h5
theorem b_162_121 {d : Nat} {Q : (Option Value ⊕ Nat) → mi_H → Prop} (n sl : Nat) (f : Nat → mi_C) {l1 : Nat} {o2 : Option Value} {o3 : Option Value} {o4 : Option Value} {fs5 : List Value} (h6 : f l1 = .inr (12, fs5)) (h7 : l1 < n) (h8 : mi_W d 152 0 (mi_en 2 [.ref l1, .ref (mi_SC + 1 + 2 * 43)]) [] (n, sl, f) (mi_Kc d 162 125 [some (.ref l1), o2, o3, o4] [] Q)) : mi_W (d + 1) 162 121 [some (.ref l1), o2, o3, o4] [] (n, sl, f) Q := by
  refine w_aload_n cd_162_121 rfl ?_
  refine w_ldc_w (n := 43) cd_162_122 (by decide +kernel) ?_
  exact w_invokevirtual cd_162_125 (show mt_m 12 375 = some (152, 0) by decide +kernel) (rest := []) rfl (as := [.ref l1, .ref (mi_SC + 1 + 2 * 43)]) rfl h6 (Or.inl h7) ⟨Nat.le_of_ble_eq_true rfl, Nat.le_of_ble_eq_true rfl, Nat.le_of_ble_eq_true rfl⟩ h8
theorem b_162_128 {d : Nat} {Q : (Option Value ⊕ Nat) → mi_H → Prop} (n sl : Nat) (f : Nat → mi_C) {l1 : Nat} {o2 : Option Value} {o3 : Option Value} {o4 : Option Value} {s5 : Int32} (h6 : s5 = (0 : Int32) → mi_W d 162 136 [some (.ref l1), o2, o3, o4] [] (n, sl, f) Q) (h7 : ¬ (s5 = (0 : Int32)) → mi_W d 162 131 [some (.ref l1), o2, o3, o4] [] (n, sl, f) Q) : mi_W d 162 128 [some (.ref l1), o2, o3, o4] [.int s5] (n, sl, f) Q := by
  exact w_ifeq cd_162_128 (by decide) h6 h7
theorem b_162_131 {d : Nat} {Q : (Option Value ⊕ Nat) → mi_H → Prop} (n sl : Nat) (f : Nat → mi_C) {l1 : Nat} {o2 : Option Value} {o3 : Option Value} {o4 : Option Value} (h5 : mi_W d 162 237 [some (.ref l1), o2, o3, o4] [.int 14] (n, sl, f) Q) : mi_W d 162 131 [some (.ref l1), o2, o3, o4] [] (n, sl, f) Q := by
  refine w_bipush (v := 14) cd_162_131 (by decide) ?_
  exact w_goto cd_162_133 (by decide) h5
theorem b_162_136 {d : Nat} {Q : (Option Value ⊕ Nat) → mi_H → Prop} (n sl : Nat) (f : Nat → mi_C) {l1 : Nat} {o2 : Option Value} {o3 : Option Value} {o4 : Option Value} {fs5 : List Value} (h6 : f l1 = .inr (12, fs5)) (h7 : l1 < n) (h8 : mi_W d 152 0 (mi_en 2 [.ref l1, .ref (mi_SC + 1 + 2 * 44)]) [] (n, sl, f) (mi_Kc d 162 140 [some (.ref l1), o2, o3, o4] [] Q)) : mi_W (d + 1) 162 136 [some (.ref l1), o2, o3, o4] [] (n, sl, f) Q := by
  refine w_aload_n cd_162_136 rfl ?_
  refine w_ldc_w (n := 44) cd_162_137 (by decide +kernel) ?_
  exact w_invokevirtual cd_162_140 (show mt_m 12 375 = some (152, 0) by decide +kernel) (rest := []) rfl (as := [.ref l1, .ref (mi_SC + 1 + 2 * 44)]) rfl h6 (Or.inl h7) ⟨Nat.le_of_ble_eq_true rfl, Nat.le_of_ble_eq_true rfl, Nat.le_of_ble_eq_true rfl⟩ h8
theorem b_162_143 {d : Nat} {Q : (Option Value ⊕ Nat) → mi_H → Prop} (n sl : Nat) (f : Nat → mi_C) {l1 : Nat} {o2 : Option Value} {o3 : Option Value} {o4 : Option Value} {s5 : Int32} (h6 : s5 = (0 : Int32) → mi_W d 162 151 [some (.ref l1), o2, o3, o4] [] (n, sl, f) Q) (h7 : ¬ (s5 = (0 : Int32)) → mi_W d 162 146 [some (.ref l1), o2, o3, o4] [] (n, sl, f) Q) : mi_W d 162 143 [some (.ref l1), o2, o3, o4] [.int s5] (n, sl, f) Q := by
  exact w_ifeq cd_162_143 (by decide) h6 h7
theorem b_162_146 {d : Nat} {Q : (Option Value ⊕ Nat) → mi_H → Prop} (n sl : Nat) (f : Nat → mi_C) {l1 : Nat} {o2 : Option Value} {o3 : Option Value} {o4 : Option Value} (h5 : mi_W d 162 237 [some (.ref l1), o2, o3, o4] [.int 15] (n, sl, f) Q) : mi_W d 162 146 [some (.ref l1), o2, o3, o4] [] (n, sl, f) Q := by
  refine w_bipush (v := 15) cd_162_146 (by decide) ?_
  exact w_goto cd_162_148 (by decide) h5
theorem b_162_151 {d : Nat} {Q : (Option Value ⊕ Nat) → mi_H → Prop} (n sl : Nat) (f : Nat → mi_C) {l1 : Nat} {o2 : Option Value} {o3 : Option Value} {o4 : Option Value} {fs5 : List Value} (h6 : f l1 = .inr (12, fs5)) (h7 : l1 < n) (h8 : mi_W d 152 0 (mi_en 2 [.ref l1, .ref (mi_SC + 1 + 2 * 45)]) [] (n, sl, f) (mi_Kc d 162 155 [some (.ref l1), o2, o3, o4] [] Q)) : mi_W (d + 1) 162 151 [some (.ref l1), o2, o3, o4] [] (n, sl, f) Q := by
  refine w_aload_n cd_162_151 rfl ?_
  refine w_ldc_w (n := 45) cd_162_152 (by decide +kernel) ?_
  exact w_invokevirtual cd_162_155 (show mt_m 12 375 = some (152, 0) by decide +kernel) (rest := []) rfl (as := [.ref l1, .ref (mi_SC + 1 + 2 * 45)]) rfl h6 (Or.inl h7) ⟨Nat.le_of_ble_eq_true rfl, Nat.le_of_ble_eq_true rfl, Nat.le_of_ble_eq_true rfl⟩ h8
theorem b_162_158 {d : Nat} {Q : (Option Value ⊕ Nat) → mi_H → Prop} (n sl : Nat) (f : Nat → mi_C) {l1 : Nat} {o2 : Option Value} {o3 : Option Value} {o4 : Option Value} {s5 : Int32} (h6 : s5 = (0 : Int32) → mi_W d 162 166 [some (.ref l1), o2, o3, o4] [] (n, sl, f) Q) (h7 : ¬ (s5 = (0 : Int32)) → mi_W d 162 161 [some (.ref l1), o2, o3, o4] [] (n, sl, f) Q) : mi_W d 162 158 [some (.ref l1), o2, o3, o4] [.int s5] (n, sl, f) Q := by
  exact w_ifeq cd_162_158 (by decide) h6 h7
theorem b_162_161 {d : Nat} {Q : (Option Value ⊕ Nat) → mi_H → Prop} (n sl : Nat) (f : Nat → mi_C) {l1 : Nat} {o2 : Option Value} {o3 : Option Value} {o4 : Option Value} (h5 : mi_W d 162 237 [some (.ref l1), o2, o3, o4] [.int 16] (n, sl, f) Q) : mi_W d 162 161 [some (.ref l1), o2, o3, o4] [] (n, sl, f) Q := by
  refine w_bipush (v := 16) cd_162_161 (by decide) ?_
  exact w_goto cd_162_163 (by decide) h5
theorem b_162_166 {d : Nat} {Q : (Option Value ⊕ Nat) → mi_H → Prop} (n sl : Nat) (f : Nat → mi_C) {l1 : Nat} {o2 : Option Value} {o3 : Option Value} {o4 : Option Value} {fs5 : List Value} (h6 : f l1 = .inr (12, fs5)) (h7 : l1 < n) (h8 : mi_W d 155 0 (mi_en 2 [.ref l1, .ref (mi_SC + 1 + 2 * 29)]) [] (n, sl, f) (mi_Kc d 162 169 [some (.ref l1), o2, o3, o4] [] Q)) : mi_W (d + 1) 162 166 [some (.ref l1), o2, o3, o4] [] (n, sl, f) Q := by
  refine w_aload_n cd_162_166 rfl ?_
  refine w_ldc (n := 29) cd_162_167 (by decide +kernel) ?_
  exact w_invokevirtual cd_162_169 (show mt_m 12 387 = some (155, 0) by decide +kernel) (rest := []) rfl (as := [.ref l1, .ref (mi_SC + 1 + 2 * 29)]) rfl h6 (Or.inl h7) ⟨Nat.le_of_ble_eq_true rfl, Nat.le_of_ble_eq_true rfl, Nat.le_of_ble_eq_true rfl⟩ h8
theorem b_162_172 {d : Nat} {Q : (Option Value ⊕ Nat) → mi_H → Prop} (n sl : Nat) (f : Nat → mi_C) {l1 : Nat} {o2 : Option Value} {o3 : Option Value} {o4 : Option Value} {s5 : Int32} (h6 : s5 = (0 : Int32) → mi_W d 162 180 [some (.ref l1), o2, o3, o4] [] (n, sl, f) Q) (h7 : ¬ (s5 = (0 : Int32)) → mi_W d 162 175 [some (.ref l1), o2, o3, o4] [] (n, sl, f) Q) : mi_W d 162 172 [some (.ref l1), o2, o3, o4] [.int s5] (n, sl, f) Q := by
  exact w_ifeq cd_162_172 (by decide) h6 h7
theorem b_162_175 {d : Nat} {Q : (Option Value ⊕ Nat) → mi_H → Prop} (n sl : Nat) (f : Nat → mi_C) {l1 : Nat} {o2 : Option Value} {o3 : Option Value} {o4 : Option Value} (h5 : mi_W d 162 237 [some (.ref l1), o2, o3, o4] [.int 17] (n, sl, f) Q) : mi_W d 162 175 [some (.ref l1), o2, o3, o4] [] (n, sl, f) Q := by
  refine w_bipush (v := 17) cd_162_175 (by decide) ?_
  exact w_goto cd_162_177 (by decide) h5
theorem b_162_180 {d : Nat} {Q : (Option Value ⊕ Nat) → mi_H → Prop} (n sl : Nat) (f : Nat → mi_C) {l1 : Nat} {o2 : Option Value} {o3 : Option Value} {o4 : Option Value} {fs5 : List Value} (h6 : f l1 = .inr (12, fs5)) (h7 : l1 < n) (h8 : mi_W d 155 0 (mi_en 2 [.ref l1, .ref (mi_SC + 1 + 2 * 30)]) [] (n, sl, f) (mi_Kc d 162 183 [some (.ref l1), o2, o3, o4] [] Q)) : mi_W (d + 1) 162 180 [some (.ref l1), o2, o3, o4] [] (n, sl, f) Q := by
  refine w_aload_n cd_162_180 rfl ?_
  refine w_ldc (n := 30) cd_162_181 (by decide +kernel) ?_
  exact w_invokevirtual cd_162_183 (show mt_m 12 387 = some (155, 0) by decide +kernel) (rest := []) rfl (as := [.ref l1, .ref (mi_SC + 1 + 2 * 30)]) rfl h6 (Or.inl h7) ⟨Nat.le_of_ble_eq_true rfl, Nat.le_of_ble_eq_true rfl, Nat.le_of_ble_eq_true rfl⟩ h8
theorem b_162_186 {d : Nat} {Q : (Option Value ⊕ Nat) → mi_H → Prop} (n sl : Nat) (f : Nat → mi_C) {l1 : Nat} {o2 : Option Value} {o3 : Option Value} {o4 : Option Value} {s5 : Int32} (h6 : s5 = (0 : Int32) → mi_W d 162 194 [some (.ref l1), o2, o3, o4] [] (n, sl, f) Q) (h7 : ¬ (s5 = (0 : Int32)) → mi_W d 162 189 [some (.ref l1), o2, o3, o4] [] (n, sl, f) Q) : mi_W d 162 186 [some (.ref l1), o2, o3, o4] [.int s5] (n, sl, f) Q := by
  exact w_ifeq cd_162_186 (by decide) h6 h7
theorem b_162_189 {d : Nat} {Q : (Option Value ⊕ Nat) → mi_H → Prop} (n sl : Nat) (f : Nat → mi_C) {l1 : Nat} {o2 : Option Value} {o3 : Option Value} {o4 : Option Value} (h5 : mi_W d 162 237 [some (.ref l1), o2, o3, o4] [.int 18] (n, sl, f) Q) : mi_W d 162 189 [some (.ref l1), o2, o3, o4] [] (n, sl, f) Q := by
  refine w_bipush (v := 18) cd_162_189 (by decide) ?_
  exact w_goto cd_162_191 (by decide) h5
theorem b_162_194 {d : Nat} {Q : (Option Value ⊕ Nat) → mi_H → Prop} (n sl : Nat) (f : Nat → mi_C) {l1 : Nat} {o2 : Option Value} {o3 : Option Value} {o4 : Option Value} {fs5 : List Value} (h6 : f l1 = .inr (12, fs5)) (h7 : l1 < n) (h8 : mi_W d 155 0 (mi_en 2 [.ref l1, .ref (mi_SC + 1 + 2 * 31)]) [] (n, sl, f) (mi_Kc d 162 197 [some (.ref l1), o2, o3, o4] [] Q)) : mi_W (d + 1) 162 194 [some (.ref l1), o2, o3, o4] [] (n, sl, f) Q := by
  refine w_aload_n cd_162_194 rfl ?_
  refine w_ldc (n := 31) cd_162_195 (by decide +kernel) ?_
  exact w_invokevirtual cd_162_197 (show mt_m 12 387 = some (155, 0) by decide +kernel) (rest := []) rfl (as := [.ref l1, .ref (mi_SC + 1 + 2 * 31)]) rfl h6 (Or.inl h7) ⟨Nat.le_of_ble_eq_true rfl, Nat.le_of_ble_eq_true rfl, Nat.le_of_ble_eq_true rfl⟩ h8
theorem b_162_200 {d : Nat} {Q : (Option Value ⊕ Nat) → mi_H → Prop} (n sl : Nat) (f : Nat → mi_C) {l1 : Nat} {o2 : Option Value} {o3 : Option Value} {o4 : Option Value} {s5 : Int32} (h6 : s5 = (0 : Int32) → mi_W d 162 208 [some (.ref l1), o2, o3, o4] [] (n, sl, f) Q) (h7 : ¬ (s5 = (0 : Int32)) → mi_W d 162 203 [some (.ref l1), o2, o3, o4] [] (n, sl, f) Q) : mi_W d 162 200 [some (.ref l1), o2, o3, o4] [.int s5] (n, sl, f) Q := by
  exact w_ifeq cd_162_200 (by decide) h6 h7
theorem b_162_203 {d : Nat} {Q : (Option Value ⊕ Nat) → mi_H → Prop} (n sl : Nat) (f : Nat → mi_C) {l1 : Nat} {o2 : Option Value} {o3 : Option Value} {o4 : Option Value} (h5 : mi_W d 162 237 [some (.ref l1), o2, o3, o4] [.int 19] (n, sl, f) Q) : mi_W d 162 203 [some (.ref l1), o2, o3, o4] [] (n, sl, f) Q := by
  refine w_bipush (v := 19) cd_162_203 (by decide) ?_
  exact w_goto cd_162_205 (by decide) h5
theorem b_162_208 {d : Nat} {Q : (Option Value ⊕ Nat) → mi_H → Prop} (n sl : Nat) (f : Nat → mi_C) {l1 : Nat} {o2 : Option Value} {o3 : Option Value} {o4 : Option Value} {fs5 : List Value} (h6 : f l1 = .inr (12, fs5)) (h7 : l1 < n) (h8 : mi_W d 155 0 (mi_en 2 [.ref l1, .ref (mi_SC + 1 + 2 * 32)]) [] (n, sl, f) (mi_Kc d 162 211 [some (.ref l1), o2, o3, o4] [] Q)) : mi_W (d + 1) 162 208 [some (.ref l1), o2, o3, o4] [] (n, sl, f) Q := by
  refine w_aload_n cd_162_208 rfl ?_
  refine w_ldc (n := 32) cd_162_209 (by decide +kernel) ?_
  exact w_invokevirtual cd_162_211 (show mt_m 12 387 = some (155, 0) by decide +kernel) (rest := []) rfl (as := [.ref l1, .ref (mi_SC + 1 + 2 * 32)]) rfl h6 (Or.inl h7) ⟨Nat.le_of_ble_eq_true rfl, Nat.le_of_ble_eq_true rfl, Nat.le_of_ble_eq_true rfl⟩ h8
theorem b_162_214 {d : Nat} {Q : (Option Value ⊕ Nat) → mi_H → Prop} (n sl : Nat) (f : Nat → mi_C) {l1 : Nat} {o2 : Option Value} {o3 : Option Value} {o4 : Option Value} {s5 : Int32} (h6 : s5 = (0 : Int32) → mi_W d 162 222 [some (.ref l1), o2, o3, o4] [] (n, sl, f) Q) (h7 : ¬ (s5 = (0 : Int32)) → mi_W d 162 217 [some (.ref l1), o2, o3, o4] [] (n, sl, f) Q) : mi_W d 162 214 [some (.ref l1), o2, o3, o4] [.int s5] (n, sl, f) Q := by
  exact w_ifeq cd_162_214 (by decide) h6 h7
theorem b_162_217 {d : Nat} {Q : (Option Value ⊕ Nat) → mi_H → Prop} (n sl : Nat) (f : Nat → mi_C) {l1 : Nat} {o2 : Option Value} {o3 : Option Value} {o4 : Option Value} (h5 : mi_W d 162 237 [some (.ref l1), o2, o3, o4] [.int 20] (n, sl, f) Q) : mi_W d 162 217 [some (.ref l1), o2, o3, o4] [] (n, sl, f) Q := by
  refine w_bipush (v := 20) cd_162_217 (by decide) ?_
  exact w_goto cd_162_219 (by decide) h5
theorem b_162_222 {d : Nat} {Q : (Option Value ⊕ Nat) → mi_H → Prop} (n sl : Nat) (f : Nat → mi_C) {l1 : Nat} {o2 : Option Value} {o3 : Option Value} {o4 : Option Value} {fs5 : List Value} (h6 : f l1 = .inr (12, fs5)) (h7 : l1 < n) (h8 : mi_W d 155 0 (mi_en 2 [.ref l1, .ref (mi_SC + 1 + 2 * 33)]) [] (n, sl, f) (mi_Kc d 162 225 [some (.ref l1), o2, o3, o4] [] Q)) : mi_W (d + 1) 162 222 [some (.ref l1), o2, o3, o4] [] (n, sl, f) Q := by
  refine w_aload_n cd_162_222 rfl ?_
  refine w_ldc (n := 33) cd_162_223 (by decide +kernel) ?_
  exact w_invokevirtual cd_162_225 (show mt_m 12 387 = some (155, 0) by decide +kernel) (rest := []) rfl (as := [.ref l1, .ref (mi_SC + 1 + 2 * 33)]) rfl h6 (Or.inl h7) ⟨Nat.le_of_ble_eq_true rfl, Nat.le_of_ble_eq_true rfl, Nat.le_of_ble_eq_true rfl⟩ h8
theorem b_162_228 {d : Nat} {Q : (Option Value ⊕ Nat) → mi_H → Prop} (n sl : Nat) (f : Nat → mi_C) {l1 : Nat} {o2 : Option Value} {o3 : Option Value} {o4 : Option Value} {s5 : Int32} (h6 : s5 = (0 : Int32) → mi_W d 162 236 [some (.ref l1), o2, o3, o4] [] (n, sl, f) Q) (h7 : ¬ (s5 = (0 : Int32)) → mi_W d 162 231 [some (.ref l1), o2, o3, o4] [] (n, sl, f) Q) : mi_W d 162 228 [some (.ref l1), o2, o3, o4] [.int s5] (n, sl, f) Q := by
  exact w_ifeq cd_162_228 (by decide) h6 h7
theorem b_162_231 {d : Nat} {Q : (Option Value ⊕ Nat) → mi_H → Prop} (n sl : Nat) (f : Nat → mi_C) {l1 : Nat} {o2 : Option Value} {o3 : Option Value} {o4 : Option Value} (h5 : mi_W d 162 237 [some (.ref l1), o2, o3, o4] [.int 21] (n, sl, f) Q) : mi_W d 162 231 [some (.ref l1), o2, o3, o4] [] (n, sl, f) Q := by
  refine w_bipush (v := 21) cd_162_231 (by decide) ?_
  exact w_goto cd_162_233 (by decide) h5
theorem b_162_236 {d : Nat} {Q : (Option Value ⊕ Nat) → mi_H → Prop} (n sl : Nat) (f : Nat → mi_C) {l1 : Nat} {o2 : Option Value} {o3 : Option Value} {o4 : Option Value} (h5 : mi_W d 162 237 [some (.ref l1), o2, o3, o4] [.int (-1)] (n, sl, f) Q) : mi_W d 162 236 [some (.ref l1), o2, o3, o4] [] (n, sl, f) Q := by
  refine w_iconst (v := (-1)) cd_162_236 (by decide) ?_
  exact h5
theorem b_162_237 {d : Nat} {Q : (Option Value ⊕ Nat) → mi_H → Prop} (n sl : Nat) (f : Nat → mi_C) {l1 : Nat} {o2 : Option Value} {o3 : Option Value} {o4 : Option Value} {s5 : Int32} (h6 : (0 : Int32) ≤ s5 → mi_W d 162 253 [some (.ref l1), some (.int s5), o3, o4] [] (n, sl, f) Q) (h7 : ¬ ((0 : Int32) ≤ s5) → mi_W d 162 242 [some (.ref l1), some (.int s5), o3, o4] [] (n, sl, f) Q) : mi_W d 162 237 [some (.ref l1), o2, o3, o4] [.int s5] (n, sl, f) Q := by
  refine w_istore_n (ls' := [some (.ref l1), some (.int s5), o3, o4]) cd_162_237 (Nat.le_of_ble_eq_true rfl) rfl ?_
  refine w_iload_n cd_162_238 rfl ?_
  exact w_ifge cd_162_239 (by decide) h6 h7
theorem b_162_242 {d : Nat} {Q : (Option Value ⊕ Nat) → mi_H → Prop} (n sl : Nat) (f : Nat → mi_C) {l1 : Nat} {l2 : Int32} {o3 : Option Value} {o4 : Option Value} {fs5 : List Value} {x8 : Int32} {fs10 : List Value} (h6 : f l1 = .inr (12, fs5)) (h7 : l1 < n) (h9 : fs5[9]? = some (.int x8)) (h11 : f l1 = .inr (12, fs10)) (h12 : l1 < n) (h13 : mi_W d 142 0 (mi_en 2 [.ref l1, .int x8]) [] (n, sl, f) (mi_Kc d 162 247 [some (.ref l1), some (.int l2), o3, o4] [] Q)) : mi_W (d + 1) 162 242 [some (.ref l1), some (.int l2), o3, o4] [] (n, sl, f) Q := by
  refine w_aload_n cd_162_242 rfl ?_
  refine w_aload_n cd_162_243 rfl ?_
  refine w_getfield cd_162_244 (show mt_f 12 299 = some (12, 9) by decide +kernel) h6 h7 h9 ?_
  exact w_invokevirtual cd_162_247 (show mt_m 12 272 = some (142, 0) by decide +kernel) (rest := []) rfl (as := [.ref l1, .int x8]) rfl h11 (Or.inl h12) ⟨Nat.le_of_ble_eq_true rfl, Nat.le_of_ble_eq_true rfl, Nat.le_of_ble_eq_true rfl⟩ h13
theorem b_162_250 {d : Nat} {Q : (Option Value ⊕ Nat) → mi_H → Prop} (n sl : Nat) (f : Nat → mi_C) {l1 : Nat} {l2 : Int32} {o3 : Option Value} {o4 : Option Value} {s5 : Int32} (h6 : Q (.inl (some (.int (-1)))) (n, sl, f)) : mi_W d 162 250 [some (.ref l1), some (.int l2), o3, o4] [.int s5] (n, sl, f) Q := by
  refine w_pop_i cd_162_250 ?_
  refine w_iconst (v := (-1)) cd_162_251 (by decide) ?_
  exact w_ireturn_i cd_162_252 (by decide +kernel) h6
theorem b_162_253 {d : Nat} {Q : (Option Value ⊕ Nat) → mi_H → Prop} (n sl : Nat) (f : Nat → mi_C) {l1 : Nat} {l2 : Int32} {o3 : Option Value} {o4 : Option Value} {fs5 : List Value} (h6 : f l1 = .inr (12, fs5)) (h7 : l1 < n) (h8 : mi_W d 153 0 (mi_en 1 [.ref l1]) [] (n, sl, f) (mi_Kc d 162 254 [some (.ref l1), some (.int l2), o3, o4] [] Q)) : mi_W (d + 1) 162 253 [some (.ref l1), some (.int l2), o3, o4] [] (n, sl, f) Q := by
  refine w_aload_n cd_162_253 rfl ?_
  exact w_invokevirtual cd_162_254 (show mt_m 12 378 = some (153, 0) by decide +kernel) (rest := []) rfl (as := [.ref l1]) rfl h6 (Or.inl h7) ⟨Nat.le_of_ble_eq_true rfl, Nat.le_of_ble_eq_true rfl, Nat.le_of_ble_eq_true rfl⟩ h8
theorem b_162_257 {d : Nat} {Q : (Option Value ⊕ Nat) → mi_H → Prop} (n sl : Nat) (f : Nat → mi_C) {l1 : Nat} {l2 : Int32} {o3 : Option Value} {o4 : Option Value} {s5 : Int32} (h6 : ¬ s5 = (0 : Int32) → mi_W d 162 262 [some (.ref l1), some (.int l2), o3, o4] [] (n, sl, f) Q) (h7 : ¬ (¬ s5 = (0 : Int32)) → mi_W d 162 260 [some (.ref l1), some (.int l2), o3, o4] [] (n, sl, f) Q) : mi_W d 162 257 [some (.ref l1), some (.int l2), o3, o4] [.int s5] (n, sl, f) Q := by
  exact w_ifne cd_162_257 (by decide) h6 h7
theorem b_162_260 {d : Nat} {Q : (Option Value ⊕ Nat) → mi_H → Prop} (n sl : Nat) (f : Nat → mi_C) {l1 : Nat} {l2 : Int32} {o3 : Option Value} {o4 : Option Value} (h5 : Q (.inl (some (.int (-1)))) (n, sl, f)) : mi_W d 162 260 [some (.ref l1), some (.int l2), o3, o4] [] (n, sl, f) Q := by
  refine w_iconst (v := (-1)) cd_162_260 (by decide) ?_
  exact w_ireturn_i cd_162_261 (by decide +kernel) h5
theorem b_162_262 {d : Nat} {Q : (Option Value ⊕ Nat) → mi_H → Prop} (n sl : Nat) (f : Nat → mi_C) {l1 : Nat} {l2 : Int32} {o3 : Option Value} {o4 : Option Value} {fs5 : List Value} (h6 : f l1 = .inr (12, fs5)) (h7 : l1 < n) (h8 : mi_W d 156 0 (mi_en 2 [.ref l1, .int l2]) [] (n, sl, f) (mi_Kc d 162 264 [some (.ref l1), some (.int l2), o3, o4] [] Q)) : mi_W (d + 1) 162 262 [some (.ref l1), some (.int l2), o3, o4] [] (n, sl, f) Q := by
  refine w_aload_n cd_162_262 rfl ?_
  refine w_iload_n cd_162_263 rfl ?_
  exact w_invokevirtual cd_162_264 (show mt_m 12 390 = some (156, 0) by decide +kernel) (rest := []) rfl (as := [.ref l1, .int l2]) rfl h6 (Or.inl h7) ⟨Nat.le_of_ble_eq_true rfl, Nat.le_of_ble_eq_true rfl, Nat.le_of_ble_eq_true rfl⟩ h8
theorem b_162_267 {d : Nat} {Q : (Option Value ⊕ Nat) → mi_H → Prop} (n sl : Nat) (f : Nat → mi_C) {l1 : Nat} {l2 : Int32} {o3 : Option Value} {o4 : Option Value} {s5 : Int32} (h6 : s5 < (0 : Int32) → mi_W d 162 282 [some (.ref l1), some (.int l2), some (.int s5), o4] [] (n, sl, f) Q) (h7 : ¬ (s5 < (0 : Int32)) → mi_W d 162 272 [some (.ref l1), some (.int l2), some (.int s5), o4] [] (n, sl, f) Q) : mi_W d 162 267 [some (.ref l1), some (.int l2), o3, o4] [.int s5] (n, sl, f) Q := by
  refine w_istore_n (ls' := [some (.ref l1), some (.int l2), some (.int s5), o4]) cd_162_267 (Nat.le_of_ble_eq_true rfl) rfl ?_
  refine w_iload_n cd_162_268 rfl ?_
  exact w_iflt cd_162_269 (by decide) h6 h7
theorem b_162_272 {d : Nat} {Q : (Option Value ⊕ Nat) → mi_H → Prop} (n sl : Nat) (f : Nat → mi_C) {l1 : Nat} {l2 : Int32} {l3 : Int32} {o4 : Option Value} {fs5 : List Value} {x8 : Nat} {fs10 : List Value} {x13 : Int64} (m15 i15 : Nat) (g15 : Nat → Int64) (h6 : f l1 = .inr (12, fs5)) (h7 : l1 < n) (h9 : fs5[20]? = some (.ref x8)) (h11 : f l1 = .inr (12, fs10)) (h12 : l1 < n) (h14 : fs10[11]? = some (.long x13)) (h16 : f x8 = .inl (3, m15, .inr (.inl g15))) (h17 : x8 < n) (h18 : mi_ix l3 m15 i15) (h19 : mi_W d 162 282 [some (.ref l1), some (.int l2), some (.int l3), o4] [] (n, sl, (va_up f x8 (.inl (3, m15, .inr (.inl (vp_updL g15 i15 x13)))))) Q) : mi_W d 162 272 [some (.ref l1), some (.int l2), some (.int l3), o4] [] (n, sl, f) Q := by
  refine w_aload_n cd_162_272 rfl ?_
  refine w_getfield cd_162_273 (show mt_f 12 101 = some (12, 20) by decide +kernel) h6 h7 h9 ?_
  refine w_iload_n cd_162_276 rfl ?_
  refine w_aload_n cd_162_277 rfl ?_
  refine w_getfield cd_162_278 (show mt_f 12 327 = some (12, 11) by decide +kernel) h11 h12 h14 ?_
  refine w_lastore cd_162_281 h16 h17 h18 ?_
  exact h19
theorem b_162_282 {d : Nat} {Q : (Option Value ⊕ Nat) → mi_H → Prop} (n sl : Nat) (f : Nat → mi_C) {l1 : Nat} {l2 : Int32} {l3 : Int32} {o4 : Option Value} (h5 : l3 < (0 : Int32) → mi_W d 162 297 [some (.ref l1), some (.int l2), some (.int l3), o4] [] (n, sl, f) Q) (h6 : ¬ (l3 < (0 : Int32)) → mi_W d 162 286 [some (.ref l1), some (.int l2), some (.int l3), o4] [] (n, sl, f) Q) : mi_W d 162 282 [some (.ref l1), some (.int l2), some (.int l3), o4] [] (n, sl, f) Q := by
  refine w_iload_n cd_162_282 rfl ?_
  exact w_iflt cd_162_283 (by decide) h5 h6
theorem b_162_286 {d : Nat} {Q : (Option Value ⊕ Nat) → mi_H → Prop} (n sl : Nat) (f : Nat → mi_C) {l1 : Nat} {l2 : Int32} {l3 : Int32} {o4 : Option Value} {fs5 : List Value} (h6 : f l1 = .inr (12, fs5)) (h7 : l1 < n) (h8 : mi_W d 144 0 (mi_en 4 [.ref l1]) [] (n, sl, f) (mi_Kc d 162 287 [some (.ref l1), some (.int l2), some (.int l3), o4] [] Q)) : mi_W (d + 1) 162 286 [some (.ref l1), some (.int l2), some (.int l3), o4] [] (n, sl, f) Q := by
  refine w_aload_n cd_162_286 rfl ?_
  exact w_invokevirtual cd_162_287 (show mt_m 12 333 = some (144, 0) by decide +kernel) (rest := []) rfl (as := [.ref l1]) rfl h6 (Or.inl h7) ⟨Nat.le_of_ble_eq_true rfl, Nat.le_of_ble_eq_true rfl, Nat.le_of_ble_eq_true rfl⟩ h8
theorem b_162_290 {d : Nat} {Q : (Option Value ⊕ Nat) → mi_H → Prop} (n sl : Nat) (f : Nat → mi_C) {l1 : Nat} {l2 : Int32} {l3 : Int32} {o4 : Option Value} {s5 : Int32} (h6 : s5 = (0 : Int32) → mi_W d 162 297 [some (.ref l1), some (.int l2), some (.int l3), o4] [] (n, sl, f) Q) (h7 : ¬ (s5 = (0 : Int32)) → mi_W d 162 293 [some (.ref l1), some (.int l2), some (.int l3), o4] [] (n, sl, f) Q) : mi_W d 162 290 [some (.ref l1), some (.int l2), some (.int l3), o4] [.int s5] (n, sl, f) Q := by
  exact w_ifeq cd_162_290 (by decide) h6 h7
theorem b_162_293 {d : Nat} {Q : (Option Value ⊕ Nat) → mi_H → Prop} (n sl : Nat) (f : Nat → mi_C) {l1 : Nat} {l2 : Int32} {l3 : Int32} {o4 : Option Value} (h5 : mi_W d 162 298 [some (.ref l1), some (.int l2), some (.int l3), o4] [.int 1] (n, sl, f) Q) : mi_W d 162 293 [some (.ref l1), some (.int l2), some (.int l3), o4] [] (n, sl, f) Q := by
  refine w_iconst (v := 1) cd_162_293 (by decide) ?_
  exact w_goto cd_162_294 (by decide) h5
theorem b_162_297 {d : Nat} {Q : (Option Value ⊕ Nat) → mi_H → Prop} (n sl : Nat) (f : Nat → mi_C) {l1 : Nat} {l2 : Int32} {l3 : Int32} {o4 : Option Value} (h5 : mi_W d 162 298 [some (.ref l1), some (.int l2), some (.int l3), o4] [.int 0] (n, sl, f) Q) : mi_W d 162 297 [some (.ref l1), some (.int l2), some (.int l3), o4] [] (n, sl, f) Q := by
  refine w_iconst (v := 0) cd_162_297 (by decide) ?_
  exact h5
theorem b_162_298 {d : Nat} {Q : (Option Value ⊕ Nat) → mi_H → Prop} (n sl : Nat) (f : Nat → mi_C) {l1 : Nat} {l2 : Int32} {l3 : Int32} {o4 : Option Value} {s5 : Int32} (h6 : s5 = (0 : Int32) → mi_W d 162 558 [some (.ref l1), some (.int l2), some (.int l3), some (.int s5)] [] (n, sl, f) Q) (h7 : ¬ (s5 = (0 : Int32)) → mi_W d 162 303 [some (.ref l1), some (.int l2), some (.int l3), some (.int s5)] [] (n, sl, f) Q) : mi_W d 162 298 [some (.ref l1), some (.int l2), some (.int l3), o4] [.int s5] (n, sl, f) Q := by
  refine w_istore_n (ls' := [some (.ref l1), some (.int l2), some (.int l3), some (.int s5)]) cd_162_298 (Nat.le_of_ble_eq_true rfl) rfl ?_
  refine w_iload_n cd_162_299 rfl ?_
  exact w_ifeq cd_162_300 (by decide) h6 h7
theorem b_162_303 {d : Nat} {Q : (Option Value ⊕ Nat) → mi_H → Prop} (n sl : Nat) (f : Nat → mi_C) {l1 : Nat} {l2 : Int32} {l3 : Int32} {l4 : Int32} {t5 : Nat} (h6 : mi_ts 304 254 11 21 #[60, 97, 120, 120, 120, 120, 157, 180, 254, 254, 203] (l2 : Int32).toInt = some t5) (h7 : mi_W d 162 t5 [some (.ref l1), some (.int l2), some (.int l3), some (.int l4)] [] (n, sl, f) Q) : mi_W d 162 303 [some (.ref l1), some (.int l2), some (.int l3), some (.int l4)] [] (n, sl, f) Q := by
  refine w_iload_n cd_162_303 rfl ?_
  exact w_tableswitch cd_162_304 h6 h7
theorem b_162_364 {d : Nat} {Q : (Option Value ⊕ Nat) → mi_H → Prop} (n sl : Nat) (f : Nat → mi_C) {l1 : Nat} {l2 : Int32} {l3 : Int32} {l4 : Int32} {fs5 : List Value} {x8 : Nat} {fs10 : List Value} (h6 : f l1 = .inr (12, fs5)) (h7 : l1 < n) (h9 : fs5[13]? = some (.ref x8)) (h11 : f l1 = .inr (12, fs10)) (h12 : l1 < n) (h13 : mi_W d 158 0 (mi_en 2 [.ref l1]) [] (n, sl, f) (mi_Kc d 162 370 [some (.ref l1), some (.int l2), some (.int l3), some (.int l4)] [.int l3, .ref x8] Q)) : mi_W (d + 1) 162 364 [some (.ref l1), some (.int l2), some (.int l3), some (.int l4)] [] (n, sl, f) Q := by
  refine w_aload_n cd_162_364 rfl ?_
  refine w_getfield cd_162_365 (show mt_f 12 80 = some (12, 13) by decide +kernel) h6 h7 h9 ?_
  refine w_iload_n cd_162_368 rfl ?_
  refine w_aload_n cd_162_369 rfl ?_
  exact w_invokevirtual cd_162_370 (show mt_m 12 370 = some (158, 0) by decide +kernel) (rest := [.int l3, .ref x8]) rfl (as := [.ref l1]) rfl h11 (Or.inl h12) ⟨Nat.le_of_ble_eq_true rfl, Nat.le_of_ble_eq_true rfl, Nat.le_of_ble_eq_true rfl⟩ h13
theorem b_162_373 {d : Nat} {Q : (Option Value ⊕ Nat) → mi_H → Prop} (n sl : Nat) (f : Nat → mi_C) {l1 : Nat} {l2 : Int32} {l3 : Int32} {l4 : Int32} {s5 : Int32} {s6 : Int32} {s7 : Nat} (m8 i8 : Nat) (g8 : Nat → Int32) (h9 : f s7 = .inl (0, m8, .inl g8)) (h10 : s7 < n) (h11 : mi_ix s6 m8 i8) (h12 : s5 < (0 : Int32) → mi_W d 162 396 [some (.ref l1), some (.int l2), some (.int l3), some (.int l4)] [] (n, sl, (va_up f s7 (.inl (0, m8, .inl (upd g8 i8 s5))))) Q) (h13 : ¬ (s5 < (0 : Int32)) → mi_W d 162 378 [some (.ref l1), some (.int l2), some (.int l3), some (.int l4)] [] (n, sl, (va_up f s7 (.inl (0, m8, .inl (upd g8 i8 s5))))) Q) : mi_W d 162 373 [some (.ref l1), some (.int l2), some (.int l3), some (.int l4)] [.int s5, .int s6, .ref s7] (n, sl, f) Q := by
  refine w_dup_x2_iir cd_162_373 ?_
  refine w_iastore cd_162_374 h9 h10 h11 ?_
  exact w_iflt cd_162_375 (by decide) h12 h13
theorem b_162_378 {d : Nat} {Q : (Option Value ⊕ Nat) → mi_H → Prop} (n sl : Nat) (f : Nat → mi_C) {l1 : Nat} {l2 : Int32} {l3 : Int32} {l4 : Int32} {fs5 : List Value} {x8 : Nat} {fs10 : List Value} (h6 : f l1 = .inr (12, fs5)) (h7 : l1 < n) (h9 : fs5[15]? = some (.ref x8)) (h11 : f l1 = .inr (12, fs10)) (h12 : l1 < n) (h13 : mi_W d 161 0 (mi_en 2 [.ref l1]) [] (n, sl, f) (mi_Kc d 162 384 [some (.ref l1), some (.int l2), some (.int l3), some (.int l4)] [.int l3, .ref x8] Q)) : mi_W (d + 1) 162 378 [some (.ref l1), some (.int l2), some (.int l3), some (.int l4)] [] (n, sl, f) Q := by
  refine w_aload_n cd_162_378 rfl ?_
  refine w_getfield cd_162_379 (show mt_f 12 86 = some (12, 15) by decide +kernel) h6 h7 h9 ?_
  refine w_iload_n cd_162_382 rfl ?_
  refine w_aload_n cd_162_383 rfl ?_
  exact w_invokevirtual cd_162_384 (show mt_m 12 396 = some (161, 0) by decide +kernel) (rest := [.int l3, .ref x8]) rfl (as := [.ref l1]) rfl h11 (Or.inl h12) ⟨Nat.le_of_ble_eq_true rfl, Nat.le_of_ble_eq_true rfl, Nat.le_of_ble_eq_true rfl⟩ h13
theorem b_162_387 {d : Nat} {Q : (Option Value ⊕ Nat) → mi_H → Prop} (n sl : Nat) (f : Nat → mi_C) {l1 : Nat} {l2 : Int32} {l3 : Int32} {l4 : Int32} {s5 : Int32} {s6 : Int32} {s7 : Nat} (m8 i8 : Nat) (g8 : Nat → Int32) (h9 : f s7 = .inl (0, m8, .inl g8)) (h10 : s7 < n) (h11 : mi_ix s6 m8 i8) (h12 : s5 < (0 : Int32) → mi_W d 162 396 [some (.ref l1), some (.int l2), some (.int l3), some (.int l4)] [] (n, sl, (va_up f s7 (.inl (0, m8, .inl (upd g8 i8 s5))))) Q) (h13 : ¬ (s5 < (0 : Int32)) → mi_W d 162 392 [some (.ref l1), some (.int l2), some (.int l3), some (.int l4)] [] (n, sl, (va_up f s7 (.inl (0, m8, .inl (upd g8 i8 s5))))) Q) : mi_W d 162 387 [some (.ref l1), some (.int l2), some (.int l3), some (.int l4)] [.int s5, .int s6, .ref s7] (n, sl, f) Q := by
  refine w_dup_x2_iir cd_162_387 ?_
  refine w_iastore cd_162_388 h9 h10 h11 ?_
  exact w_iflt cd_162_389 (by decide) h12 h13
theorem b_162_392 {d : Nat} {Q : (Option Value ⊕ Nat) → mi_H → Prop} (n sl : Nat) (f : Nat → mi_C) {l1 : Nat} {l2 : Int32} {l3 : Int32} {l4 : Int32} (h5 : mi_W d 162 397 [some (.ref l1), some (.int l2), some (.int l3), some (.int l4)] [.int 1] (n, sl, f) Q) : mi_W d 162 392 [some (.ref l1), some (.int l2), some (.int l3), some (.int l4)] [] (n, sl, f) Q := by
  refine w_iconst (v := 1) cd_162_392 (by decide) ?_
  exact w_goto cd_162_393 (by decide) h5
theorem b_162_396 {d : Nat} {Q : (Option Value ⊕ Nat) → mi_H → Prop} (n sl : Nat) (f : Nat → mi_C) {l1 : Nat} {l2 : Int32} {l3 : Int32} {l4 : Int32} (h5 : mi_W d 162 397 [some (.ref l1), some (.int l2), some (.int l3), some (.int l4)] [.int 0] (n, sl, f) Q) : mi_W d 162 396 [some (.ref l1), some (.int l2), some (.int l3), some (.int l4)] [] (n, sl, f) Q := by
  refine w_iconst (v := 0) cd_162_396 (by decide) ?_
  exact h5
theorem b_162_397 {d : Nat} {Q : (Option Value ⊕ Nat) → mi_H → Prop} (n sl : Nat) (f : Nat → mi_C) {l1 : Nat} {l2 : Int32} {l3 : Int32} {l4 : Int32} {s5 : Int32} (h6 : mi_W d 162 558 [some (.ref l1), some (.int l2), some (.int l3), some (.int s5)] [] (n, sl, f) Q) : mi_W d 162 397 [some (.ref l1), some (.int l2), some (.int l3), some (.int l4)] [.int s5] (n, sl, f) Q := by
  refine w_istore_n (ls' := [some (.ref l1), some (.int l2), some (.int l3), some (.int s5)]) cd_162_397 (Nat.le_of_ble_eq_true rfl) rfl ?_
  exact w_goto cd_162_398 (by decide) h6
theorem b_162_401 {d : Nat} {Q : (Option Value ⊕ Nat) → mi_H → Prop} (n sl : Nat) (f : Nat → mi_C) {l1 : Nat} {l2 : Int32} {l3 : Int32} {l4 : Int32} {fs5 : List Value} {x8 : Nat} {fs10 : List Value} (h6 : f l1 = .inr (12, fs5)) (h7 : l1 < n) (h9 : fs5[13]? = some (.ref x8)) (h11 : f l1 = .inr (12, fs10)) (h12 : l1 < n) (h13 : mi_W d 162 0 (mi_en 4 [.ref l1]) [] (n, sl, f) (mi_Kc d 162 407 [some (.ref l1), some (.int l2), some (.int l3), some (.int l4)] [.int l3, .ref x8] Q)) : mi_W (d + 1) 162 401 [some (.ref l1), some (.int l2), some (.int l3), some (.int l4)] [] (n, sl, f) Q := by
  refine w_aload_n cd_162_401 rfl ?_
  refine w_getfield cd_162_402 (show mt_f 12 80 = some (12, 13) by decide +kernel) h6 h7 h9 ?_
  refine w_iload_n cd_162_405 rfl ?_
  refine w_aload_n cd_162_406 rfl ?_
  exact w_invokevirtual cd_162_407 (show mt_m 12 399 = some (162, 0) by decide +kernel) (rest := [.int l3, .ref x8]) rfl (as := [.ref l1]) rfl h11 (Or.inl h12) ⟨Nat.le_of_ble_eq_true rfl, Nat.le_of_ble_eq_true rfl, Nat.le_of_ble_eq_true rfl⟩ h13
theorem b_162_410 {d : Nat} {Q : (Option Value ⊕ Nat) → mi_H → Prop} (n sl : Nat) (f : Nat → mi_C) {l1 : Nat} {l2 : Int32} {l3 : Int32} {l4 : Int32} {s5 : Int32} {s6 : Int32} {s7 : Nat} (m8 i8 : Nat) (g8 : Nat → Int32) (h9 : f s7 = .inl (0, m8, .inl g8)) (h10 : s7 < n) (h11 : mi_ix s6 m8 i8) (h12 : s5 < (0 : Int32) → mi_W d 162 419 [some (.ref l1), some (.int l2), some (.int l3), some (.int l4)] [] (n, sl, (va_up f s7 (.inl (0, m8, .inl (upd g8 i8 s5))))) Q) (h13 : ¬ (s5 < (0 : Int32)) → mi_W d 162 415 [some (.ref l1), some (.int l2), some (.int l3), some (.int l4)] [] (n, sl, (va_up f s7 (.inl (0, m8, .inl (upd g8 i8 s5))))) Q) : mi_W d 162 410 [some (.ref l1), some (.int l2), some (.int l3), some (.int l4)] [.int s5, .int s6, .ref s7] (n, sl, f) Q := by
  refine w_dup_x2_iir cd_162_410 ?_
  refine w_iastore cd_162_411 h9 h10 h11 ?_
  exact w_iflt cd_162_412 (by decide) h12 h13
theorem b_162_415 {d : Nat} {Q : (Option Value ⊕ Nat) → mi_H → Prop} (n sl : Nat) (f : Nat → mi_C) {l1 : Nat} {l2 : Int32} {l3 : Int32} {l4 : Int32} (h5 : mi_W d 162 420 [some (.ref l1), some (.int l2), some (.int l3), some (.int l4)] [.int 1] (n, sl, f) Q) : mi_W d 162 415 [some (.ref l1), some (.int l2), some (.int l3), some (.int l4)] [] (n, sl, f) Q := by
  refine w_iconst (v := 1) cd_162_415 (by decide) ?_
  exact w_goto cd_162_416 (by decide) h5
theorem b_162_419 {d : Nat} {Q : (Option Value ⊕ Nat) → mi_H → Prop} (n sl : Nat) (f : Nat → mi_C) {l1 : Nat} {l2 : Int32} {l3 : Int32} {l4 : Int32} (h5 : mi_W d 162 420 [some (.ref l1), some (.int l2), some (.int l3), some (.int l4)] [.int 0] (n, sl, f) Q) : mi_W d 162 419 [some (.ref l1), some (.int l2), some (.int l3), some (.int l4)] [] (n, sl, f) Q := by
  refine w_iconst (v := 0) cd_162_419 (by decide) ?_
  exact h5
theorem b_162_420 {d : Nat} {Q : (Option Value ⊕ Nat) → mi_H → Prop} (n sl : Nat) (f : Nat → mi_C) {l1 : Nat} {l2 : Int32} {l3 : Int32} {l4 : Int32} {s5 : Int32} (h6 : mi_W d 162 558 [some (.ref l1), some (.int l2), some (.int l3), some (.int s5)] [] (n, sl, f) Q) : mi_W d 162 420 [some (.ref l1), some (.int l2), some (.int l3), some (.int l4)] [.int s5] (n, sl, f) Q := by
  refine w_istore_n (ls' := [some (.ref l1), some (.int l2), some (.int l3), some (.int s5)]) cd_162_420 (Nat.le_of_ble_eq_true rfl) rfl ?_
  exact w_goto cd_162_421 (by decide) h6
theorem b_162_424 {d : Nat} {Q : (Option Value ⊕ Nat) → mi_H → Prop} (n sl : Nat) (f : Nat → mi_C) {l1 : Nat} {l2 : Int32} {l3 : Int32} {l4 : Int32} {fs5 : List Value} {x8 : Nat} {fs10 : List Value} (h6 : f l1 = .inr (12, fs5)) (h7 : l1 < n) (h9 : fs5[13]? = some (.ref x8)) (h11 : f l1 = .inr (12, fs10)) (h12 : l1 < n) (h13 : mi_W d 162 0 (mi_en 4 [.ref l1]) [] (n, sl, f) (mi_Kc d 162 430 [some (.ref l1), some (.int l2), some (.int l3), some (.int l4)] [.int l3, .ref x8] Q)) : mi_W (d + 1) 162 424 [some (.ref l1), some (.int l2), some (.int l3), some (.int l4)] [] (n, sl, f) Q := by
  refine w_aload_n cd_162_424 rfl ?_
  refine w_getfield cd_162_425 (show mt_f 12 80 = some (12, 13) by decide +kernel) h6 h7 h9 ?_
  refine w_iload_n cd_162_428 rfl ?_
  refine w_aload_n cd_162_429 rfl ?_
  exact w_invokevirtual cd_162_430 (show mt_m 12 399 = some (162, 0) by decide +kernel) (rest := [.int l3, .ref x8]) rfl (as := [.ref l1]) rfl h11 (Or.inl h12) ⟨Nat.le_of_ble_eq_true rfl, Nat.le_of_ble_eq_true rfl, Nat.le_of_ble_eq_true rfl⟩ h13
theorem b_162_433 {d : Nat} {Q : (Option Value ⊕ Nat) → mi_H → Prop} (n sl : Nat) (f : Nat → mi_C) {l1 : Nat} {l2 : Int32} {l3 : Int32} {l4 : Int32} {s5 : Int32} {s6 : Int32} {s7 : Nat} (m8 i8 : Nat) (g8 : Nat → Int32) (h9 : f s7 = .inl (0, m8, .inl g8)) (h10 : s7 < n) (h11 : mi_ix s6 m8 i8) (h12 : s5 < (0 : Int32) → mi_W d 162 456 [some (.ref l1), some (.int l2), some (.int l3), some (.int l4)] [] (n, sl, (va_up f s7 (.inl (0, m8, .inl (upd g8 i8 s5))))) Q) (h13 : ¬ (s5 < (0 : Int32)) → mi_W d 162 438 [some (.ref l1), some (.int l2), some (.int l3), some (.int l4)] [] (n, sl, (va_up f s7 (.inl (0, m8, .inl (upd g8 i8 s5))))) Q) : mi_W d 162 433 [some (.ref l1), some (.int l2), some (.int l3), some (.int l4)] [.int s5, .int s6, .ref s7] (n, sl, f) Q := by
  refine w_dup_x2_iir cd_162_433 ?_
  refine w_iastore cd_162_434 h9 h10 h11 ?_
  exact w_iflt cd_162_435 (by decide) h12 h13
theorem b_162_438 {d : Nat} {Q : (Option Value ⊕ Nat) → mi_H → Prop} (n sl : Nat) (f : Nat → mi_C) {l1 : Nat} {l2 : Int32} {l3 : Int32} {l4 : Int32} {fs5 : List Value} {x8 : Nat} {fs10 : List Value} (h6 : f l1 = .inr (12, fs5)) (h7 : l1 < n) (h9 : fs5[14]? = some (.ref x8)) (h11 : f l1 = .inr (12, fs10)) (h12 : l1 < n) (h13 : mi_W d 162 0 (mi_en 4 [.ref l1]) [] (n, sl, f) (mi_Kc d 162 444 [some (.ref l1), some (.int l2), some (.int l3), some (.int l4)] [.int l3, .ref x8] Q)) : mi_W (d + 1) 162 438 [some (.ref l1), some (.int l2), some (.int l3), some (.int l4)] [] (n, sl, f) Q := by
  refine w_aload_n cd_162_438 rfl ?_
  refine w_getfield cd_162_439 (show mt_f 12 83 = some (12, 14) by decide +kernel) h6 h7 h9 ?_
  refine w_iload_n cd_162_442 rfl ?_
  refine w_aload_n cd_162_443 rfl ?_
  exact w_invokevirtual cd_162_444 (show mt_m 12 399 = some (162, 0) by decide +kernel) (rest := [.int l3, .ref x8]) rfl (as := [.ref l1]) rfl h11 (Or.inl h12) ⟨Nat.le_of_ble_eq_true rfl, Nat.le_of_ble_eq_true rfl, Nat.le_of_ble_eq_true rfl⟩ h13
theorem b_162_447 {d : Nat} {Q : (Option Value ⊕ Nat) → mi_H → Prop} (n sl : Nat) (f : Nat → mi_C) {l1 : Nat} {l2 : Int32} {l3 : Int32} {l4 : Int32} {s5 : Int32} {s6 : Int32} {s7 : Nat} (m8 i8 : Nat) (g8 : Nat → Int32) (h9 : f s7 = .inl (0, m8, .inl g8)) (h10 : s7 < n) (h11 : mi_ix s6 m8 i8) (h12 : s5 < (0 : Int32) → mi_W d 162 456 [some (.ref l1), some (.int l2), some (.int l3), some (.int l4)] [] (n, sl, (va_up f s7 (.inl (0, m8, .inl (upd g8 i8 s5))))) Q) (h13 : ¬ (s5 < (0 : Int32)) → mi_W d 162 452 [some (.ref l1), some (.int l2), some (.int l3), some (.int l4)] [] (n, sl, (va_up f s7 (.inl (0, m8, .inl (upd g8 i8 s5))))) Q) : mi_W d 162 447 [some (.ref l1), some (.int l2), some (.int l3), some (.int l4)] [.int s5, .int s6, .ref s7] (n, sl, f) Q := by
  refine w_dup_x2_iir cd_162_447 ?_
  refine w_iastore cd_162_448 h9 h10 h11 ?_
  exact w_iflt cd_162_449 (by decide) h12 h13
theorem b_162_452 {d : Nat} {Q : (Option Value ⊕ Nat) → mi_H → Prop} (n sl : Nat) (f : Nat → mi_C) {l1 : Nat} {l2 : Int32} {l3 : Int32} {l4 : Int32} (h5 : mi_W d 162 457 [some (.ref l1), some (.int l2), some (.int l3), some (.int l4)] [.int 1] (n, sl, f) Q) : mi_W d 162 452 [some (.ref l1), some (.int l2), some (.int l3), some (.int l4)] [] (n, sl, f) Q := by
  refine w_iconst (v := 1) cd_162_452 (by decide) ?_
  exact w_goto cd_162_453 (by decide) h5
theorem b_162_456 {d : Nat} {Q : (Option Value ⊕ Nat) → mi_H → Prop} (n sl : Nat) (f : Nat → mi_C) {l1 : Nat} {l2 : Int32} {l3 : Int32} {l4 : Int32} (h5 : mi_W d 162 457 [some (.ref l1), some (.int l2), some (.int l3), some (.int l4)] [.int 0] (n, sl, f) Q) : mi_W d 162 456 [some (.ref l1), some (.int l2), some (.int l3), some (.int l4)] [] (n, sl, f) Q := by
  refine w_iconst (v := 0) cd_162_456 (by decide) ?_
  exact h5
theorem b_162_457 {d : Nat} {Q : (Option Value ⊕ Nat) → mi_H → Prop} (n sl : Nat) (f : Nat → mi_C) {l1 : Nat} {l2 : Int32} {l3 : Int32} {l4 : Int32} {s5 : Int32} (h6 : mi_W d 162 558 [some (.ref l1), some (.int l2), some (.int l3), some (.int s5)] [] (n, sl, f) Q) : mi_W d 162 457 [some (.ref l1), some (.int l2), some (.int l3), some (.int l4)] [.int s5] (n, sl, f) Q := by
  refine w_istore_n (ls' := [some (.ref l1), some (.int l2), some (.int l3), some (.int s5)]) cd_162_457 (Nat.le_of_ble_eq_true rfl) rfl ?_
  exact w_goto cd_162_458 (by decide) h6
theorem b_162_461 {d : Nat} {Q : (Option Value ⊕ Nat) → mi_H → Prop} (n sl : Nat) (f : Nat → mi_C) {l1 : Nat} {l2 : Int32} {l3 : Int32} {l4 : Int32} {fs5 : List Value} {x8 : Nat} {fs10 : List Value} (h6 : f l1 = .inr (12, fs5)) (h7 : l1 < n) (h9 : fs5[13]? = some (.ref x8)) (h11 : f l1 = .inr (12, fs10)) (h12 : l1 < n) (h13 : mi_W d 163 0 (mi_en 5 [.ref l1]) [] (n, sl, f) (mi_Kc d 162 467 [some (.ref l1), some (.int l2), some (.int l3), some (.int l4)] [.int l3, .ref x8] Q)) : mi_W (d + 1) 162 461 [some (.ref l1), some (.int l2), some (.int l3), some (.int l4)] [] (n, sl, f) Q := by
  refine w_aload_n cd_162_461 rfl ?_
  refine w_getfield cd_162_462 (show mt_f 12 80 = some (12, 13) by decide +kernel) h6 h7 h9 ?_
  refine w_iload_n cd_162_465 rfl ?_
  refine w_aload_n cd_162_466 rfl ?_
  exact w_invokevirtual cd_162_467 (show mt_m 12 416 = some (163, 0) by decide +kernel) (rest := [.int l3, .ref x8]) rfl (as := [.ref l1]) rfl h11 (Or.inl h12) ⟨Nat.le_of_ble_eq_true rfl, Nat.le_of_ble_eq_true rfl, Nat.le_of_ble_eq_true rfl⟩ h13
theorem b_162_470 {d : Nat} {Q : (Option Value ⊕ Nat) → mi_H → Prop} (n sl : Nat) (f : Nat → mi_C) {l1 : Nat} {l2 : Int32} {l3 : Int32} {l4 : Int32} {s5 : Int32} {s6 : Int32} {s7 : Nat} (m8 i8 : Nat) (g8 : Nat → Int32) (h9 : f s7 = .inl (0, m8, .inl g8)) (h10 : s7 < n) (h11 : mi_ix s6 m8 i8) (h12 : s5 < (0 : Int32) → mi_W d 162 479 [some (.ref l1), some (.int l2), some (.int l3), some (.int l4)] [] (n, sl, (va_up f s7 (.inl (0, m8, .inl (upd g8 i8 s5))))) Q) (h13 : ¬ (s5 < (0 : Int32)) → mi_W d 162 475 [some (.ref l1), some (.int l2), some (.int l3), some (.int l4)] [] (n, sl, (va_up f s7 (.inl (0, m8, .inl (upd g8 i8 s5))))) Q) : mi_W d 162 470 [some (.ref l1), some (.int l2), some (.int l3), some (.int l4)] [.int s5, .int s6, .ref s7] (n, sl, f) Q := by
  refine w_dup_x2_iir cd_162_470 ?_
  refine w_iastore cd_162_471 h9 h10 h11 ?_
  exact w_iflt cd_162_472 (by decide) h12 h13
theorem b_162_475 {d : Nat} {Q : (Option Value ⊕ Nat) → mi_H → Prop} (n sl : Nat) (f : Nat → mi_C) {l1 : Nat} {l2 : Int32} {l3 : Int32} {l4 : Int32} (h5 : mi_W d 162 480 [some (.ref l1), some (.int l2), some (.int l3), some (.int l4)] [.int 1] (n, sl, f) Q) : mi_W d 162 475 [some (.ref l1), some (.int l2), some (.int l3), some (.int l4)] [] (n, sl, f) Q := by
  refine w_iconst (v := 1) cd_162_475 (by decide) ?_
  exact w_goto cd_162_476 (by decide) h5
theorem b_162_479 {d : Nat} {Q : (Option Value ⊕ Nat) → mi_H → Prop} (n sl : Nat) (f : Nat → mi_C) {l1 : Nat} {l2 : Int32} {l3 : Int32} {l4 : Int32} (h5 : mi_W d 162 480 [some (.ref l1), some (.int l2), some (.int l3), some (.int l4)] [.int 0] (n, sl, f) Q) : mi_W d 162 479 [some (.ref l1), some (.int l2), some (.int l3), some (.int l4)] [] (n, sl, f) Q := by
  refine w_iconst (v := 0) cd_162_479 (by decide) ?_
  exact h5
theorem b_162_480 {d : Nat} {Q : (Option Value ⊕ Nat) → mi_H → Prop} (n sl : Nat) (f : Nat → mi_C) {l1 : Nat} {l2 : Int32} {l3 : Int32} {l4 : Int32} {s5 : Int32} (h6 : mi_W d 162 558 [some (.ref l1), some (.int l2), some (.int l3), some (.int s5)] [] (n, sl, f) Q) : mi_W d 162 480 [some (.ref l1), some (.int l2), some (.int l3), some (.int l4)] [.int s5] (n, sl, f) Q := by
  refine w_istore_n (ls' := [some (.ref l1), some (.int l2), some (.int l3), some (.int s5)]) cd_162_480 (Nat.le_of_ble_eq_true rfl) rfl ?_
  exact w_goto cd_162_481 (by decide) h6
theorem b_162_484 {d : Nat} {Q : (Option Value ⊕ Nat) → mi_H → Prop} (n sl : Nat) (f : Nat → mi_C) {l1 : Nat} {l2 : Int32} {l3 : Int32} {l4 : Int32} {fs5 : List Value} {x8 : Nat} {fs10 : List Value} (h6 : f l1 = .inr (12, fs5)) (h7 : l1 < n) (h9 : fs5[13]? = some (.ref x8)) (h11 : f l1 = .inr (12, fs10)) (h12 : l1 < n) (h13 : mi_W d 165 0 (mi_en 2 [.ref l1]) [] (n, sl, f) (mi_Kc d 162 490 [some (.ref l1), some (.int l2), some (.int l3), some (.int l4)] [.int l3, .ref x8] Q)) : mi_W (d + 1) 162 484 [some (.ref l1), some (.int l2), some (.int l3), some (.int l4)] [] (n, sl, f) Q := by
  refine w_aload_n cd_162_484 rfl ?_
  refine w_getfield cd_162_485 (show mt_f 12 80 = some (12, 13) by decide +kernel) h6 h7 h9 ?_
  refine w_iload_n cd_162_488 rfl ?_
  refine w_aload_n cd_162_489 rfl ?_
  exact w_invokevirtual cd_162_490 (show mt_m 12 406 = some (165, 0) by decide +kernel) (rest := [.int l3, .ref x8]) rfl (as := [.ref l1]) rfl h11 (Or.inl h12) ⟨Nat.le_of_ble_eq_true rfl, Nat.le_of_ble_eq_true rfl, Nat.le_of_ble_eq_true rfl⟩ h13
theorem b_162_493 {d : Nat} {Q : (Option Value ⊕ Nat) → mi_H → Prop} (n sl : Nat) (f : Nat → mi_C) {l1 : Nat} {l2 : Int32} {l3 : Int32} {l4 : Int32} {s5 : Int32} {s6 : Int32} {s7 : Nat} (m8 i8 : Nat) (g8 : Nat → Int32) (h9 : f s7 = .inl (0, m8, .inl g8)) (h10 : s7 < n) (h11 : mi_ix s6 m8 i8) (h12 : s5 < (0 : Int32) → mi_W d 162 502 [some (.ref l1), some (.int l2), some (.int l3), some (.int l4)] [] (n, sl, (va_up f s7 (.inl (0, m8, .inl (upd g8 i8 s5))))) Q) (h13 : ¬ (s5 < (0 : Int32)) → mi_W d 162 498 [some (.ref l1), some (.int l2), some (.int l3), some (.int l4)] [] (n, sl, (va_up f s7 (.inl (0, m8, .inl (upd g8 i8 s5))))) Q) : mi_W d 162 493 [some (.ref l1), some (.int l2), some (.int l3), some (.int l4)] [.int s5, .int s6, .ref s7] (n, sl, f) Q := by
  refine w_dup_x2_iir cd_162_493 ?_
  refine w_iastore cd_162_494 h9 h10 h11 ?_
  exact w_iflt cd_162_495 (by decide) h12 h13
theorem b_162_498 {d : Nat} {Q : (Option Value ⊕ Nat) → mi_H → Prop} (n sl : Nat) (f : Nat → mi_C) {l1 : Nat} {l2 : Int32} {l3 : Int32} {l4 : Int32} (h5 : mi_W d 162 503 [some (.ref l1), some (.int l2), some (.int l3), some (.int l4)] [.int 1] (n, sl, f) Q) : mi_W d 162 498 [some (.ref l1), some (.int l2), some (.int l3), some (.int l4)] [] (n, sl, f) Q := by
  refine w_iconst (v := 1) cd_162_498 (by decide) ?_
  exact w_goto cd_162_499 (by decide) h5
theorem b_162_502 {d : Nat} {Q : (Option Value ⊕ Nat) → mi_H → Prop} (n sl : Nat) (f : Nat → mi_C) {l1 : Nat} {l2 : Int32} {l3 : Int32} {l4 : Int32} (h5 : mi_W d 162 503 [some (.ref l1), some (.int l2), some (.int l3), some (.int l4)] [.int 0] (n, sl, f) Q) : mi_W d 162 502 [some (.ref l1), some (.int l2), some (.int l3), some (.int l4)] [] (n, sl, f) Q := by
  refine w_iconst (v := 0) cd_162_502 (by decide) ?_
  exact h5
theorem b_162_503 {d : Nat} {Q : (Option Value ⊕ Nat) → mi_H → Prop} (n sl : Nat) (f : Nat → mi_C) {l1 : Nat} {l2 : Int32} {l3 : Int32} {l4 : Int32} {s5 : Int32} (h6 : mi_W d 162 558 [some (.ref l1), some (.int l2), some (.int l3), some (.int s5)] [] (n, sl, f) Q) : mi_W d 162 503 [some (.ref l1), some (.int l2), some (.int l3), some (.int l4)] [.int s5] (n, sl, f) Q := by
  refine w_istore_n (ls' := [some (.ref l1), some (.int l2), some (.int l3), some (.int s5)]) cd_162_503 (Nat.le_of_ble_eq_true rfl) rfl ?_
  exact w_goto cd_162_504 (by decide) h6
theorem b_162_507 {d : Nat} {Q : (Option Value ⊕ Nat) → mi_H → Prop} (n sl : Nat) (f : Nat → mi_C) {l1 : Nat} {l2 : Int32} {l3 : Int32} {l4 : Int32} {fs5 : List Value} {x8 : Nat} {fs10 : List Value} (h6 : f l1 = .inr (12, fs5)) (h7 : l1 < n) (h9 : fs5[16]? = some (.ref x8)) (h11 : f l1 = .inr (12, fs10)) (h12 : l1 < n) (h13 : mi_W d 166 0 (mi_en 4 [.ref l1]) [] (n, sl, f) (mi_Kc d 162 513 [some (.ref l1), some (.int l2), some (.int l3), some (.int l4)] [.int l3, .ref x8] Q)) : mi_W (d + 1) 162 507 [some (.ref l1), some (.int l2), some (.int l3), some (.int l4)] [] (n, sl, f) Q := by
  refine w_aload_n cd_162_507 rfl ?_
  refine w_getfield cd_162_508 (show mt_f 12 89 = some (12, 16) by decide +kernel) h6 h7 h9 ?_
  refine w_iload_n cd_162_511 rfl ?_
  refine w_aload_n cd_162_512 rfl ?_
  exact w_invokevirtual cd_162_513 (show mt_m 12 401 = some (166, 0) by decide +kernel) (rest := [.int l3, .ref x8]) rfl (as := [.ref l1]) rfl h11 (Or.inl h12) ⟨Nat.le_of_ble_eq_true rfl, Nat.le_of_ble_eq_true rfl, Nat.le_of_ble_eq_true rfl⟩ h13
theorem b_162_516 {d : Nat} {Q : (Option Value ⊕ Nat) → mi_H → Prop} (n sl : Nat) (f : Nat → mi_C) {l1 : Nat} {l2 : Int32} {l3 : Int32} {l4 : Int32} {s5 : Int32} {s6 : Int32} {s7 : Nat} (m8 i8 : Nat) (g8 : Nat → Int32) (h9 : f s7 = .inl (0, m8, .inl g8)) (h10 : s7 < n) (h11 : mi_ix s6 m8 i8) (h12 : s5 < (0 : Int32) → mi_W d 162 553 [some (.ref l1), some (.int l2), some (.int l3), some (.int l4)] [] (n, sl, (va_up f s7 (.inl (0, m8, .inl (upd g8 i8 s5))))) Q) (h13 : ¬ (s5 < (0 : Int32)) → mi_W d 162 521 [some (.ref l1), some (.int l2), some (.int l3), some (.int l4)] [] (n, sl, (va_up f s7 (.inl (0, m8, .inl (upd g8 i8 s5))))) Q) : mi_W d 162 516 [some (.ref l1), some (.int l2), some (.int l3), some (.int l4)] [.int s5, .int s6, .ref s7] (n, sl, f) Q := by
  refine w_dup_x2_iir cd_162_516 ?_
  refine w_iastore cd_162_517 h9 h10 h11 ?_
  exact w_iflt cd_162_518 (by decide) h12 h13
theorem b_162_521 {d : Nat} {Q : (Option Value ⊕ Nat) → mi_H → Prop} (n sl : Nat) (f : Nat → mi_C) {l1 : Nat} {l2 : Int32} {l3 : Int32} {l4 : Int32} {fs5 : List Value} {x8 : Nat} {fs10 : List Value} (h6 : f l1 = .inr (12, fs5)) (h7 : l1 < n) (h9 : fs5[13]? = some (.ref x8)) (h11 : f l1 = .inr (12, fs10)) (h12 : l1 < n) (h13 : mi_W d 162 0 (mi_en 4 [.ref l1]) [] (n, sl, f) (mi_Kc d 162 527 [some (.ref l1), some (.int l2), some (.int l3), some (.int l4)] [.int l3, .ref x8] Q)) : mi_W (d + 1) 162 521 [some (.ref l1), some (.int l2), some (.int l3), some (.int l4)] [] (n, sl, f) Q := by
  refine w_aload_n cd_162_521 rfl ?_
  refine w_getfield cd_162_522 (show mt_f 12 80 = some (12, 13) by decide +kernel) h6 h7 h9 ?_
  refine w_iload_n cd_162_525 rfl ?_
  refine w_aload_n cd_162_526 rfl ?_
  exact w_invokevirtual cd_162_527 (show mt_m 12 399 = some (162, 0) by decide +kernel) (rest := [.int l3, .ref x8]) rfl (as := [.ref l1]) rfl h11 (Or.inl h12) ⟨Nat.le_of_ble_eq_true rfl, Nat.le_of_ble_eq_true rfl, Nat.le_of_ble_eq_true rfl⟩ h13
theorem b_162_530 {d : Nat} {Q : (Option Value ⊕ Nat) → mi_H → Prop} (n sl : Nat) (f : Nat → mi_C) {l1 : Nat} {l2 : Int32} {l3 : Int32} {l4 : Int32} {s5 : Int32} {s6 : Int32} {s7 : Nat} (m8 i8 : Nat) (g8 : Nat → Int32) (h9 : f s7 = .inl (0, m8, .inl g8)) (h10 : s7 < n) (h11 : mi_ix s6 m8 i8) (h12 : s5 < (0 : Int32) → mi_W d 162 553 [some (.ref l1), some (.int l2), some (.int l3), some (.int l4)] [] (n, sl, (va_up f s7 (.inl (0, m8, .inl (upd g8 i8 s5))))) Q) (h13 : ¬ (s5 < (0 : Int32)) → mi_W d 162 535 [some (.ref l1), some (.int l2), some (.int l3), some (.int l4)] [] (n, sl, (va_up f s7 (.inl (0, m8, .inl (upd g8 i8 s5))))) Q) : mi_W d 162 530 [some (.ref l1), some (.int l2), some (.int l3), some (.int l4)] [.int s5, .int s6, .ref s7] (n, sl, f) Q := by
  refine w_dup_x2_iir cd_162_530 ?_
  refine w_iastore cd_162_531 h9 h10 h11 ?_
  exact w_iflt cd_162_532 (by decide) h12 h13
theorem b_162_535 {d : Nat} {Q : (Option Value ⊕ Nat) → mi_H → Prop} (n sl : Nat) (f : Nat → mi_C) {l1 : Nat} {l2 : Int32} {l3 : Int32} {l4 : Int32} {fs5 : List Value} {x8 : Nat} {fs10 : List Value} (h6 : f l1 = .inr (12, fs5)) (h7 : l1 < n) (h9 : fs5[14]? = some (.ref x8)) (h11 : f l1 = .inr (12, fs10)) (h12 : l1 < n) (h13 : mi_W d 162 0 (mi_en 4 [.ref l1]) [] (n, sl, f) (mi_Kc d 162 541 [some (.ref l1), some (.int l2), some (.int l3), some (.int l4)] [.int l3, .ref x8] Q)) : mi_W (d + 1) 162 535 [some (.ref l1), some (.int l2), some (.int l3), some (.int l4)] [] (n, sl, f) Q := by
  refine w_aload_n cd_162_535 rfl ?_
  refine w_getfield cd_162_536 (show mt_f 12 83 = some (12, 14) by decide +kernel) h6 h7 h9 ?_
  refine w_iload_n cd_162_539 rfl ?_
  refine w_aload_n cd_162_540 rfl ?_
  exact w_invokevirtual cd_162_541 (show mt_m 12 399 = some (162, 0) by decide +kernel) (rest := [.int l3, .ref x8]) rfl (as := [.ref l1]) rfl h11 (Or.inl h12) ⟨Nat.le_of_ble_eq_true rfl, Nat.le_of_ble_eq_true rfl, Nat.le_of_ble_eq_true rfl⟩ h13
theorem b_162_544 {d : Nat} {Q : (Option Value ⊕ Nat) → mi_H → Prop} (n sl : Nat) (f : Nat → mi_C) {l1 : Nat} {l2 : Int32} {l3 : Int32} {l4 : Int32} {s5 : Int32} {s6 : Int32} {s7 : Nat} (m8 i8 : Nat) (g8 : Nat → Int32) (h9 : f s7 = .inl (0, m8, .inl g8)) (h10 : s7 < n) (h11 : mi_ix s6 m8 i8) (h12 : s5 < (0 : Int32) → mi_W d 162 553 [some (.ref l1), some (.int l2), some (.int l3), some (.int l4)] [] (n, sl, (va_up f s7 (.inl (0, m8, .inl (upd g8 i8 s5))))) Q) (h13 : ¬ (s5 < (0 : Int32)) → mi_W d 162 549 [some (.ref l1), some (.int l2), some (.int l3), some (.int l4)] [] (n, sl, (va_up f s7 (.inl (0, m8, .inl (upd g8 i8 s5))))) Q) : mi_W d 162 544 [some (.ref l1), some (.int l2), some (.int l3), some (.int l4)] [.int s5, .int s6, .ref s7] (n, sl, f) Q := by
  refine w_dup_x2_iir cd_162_544 ?_
  refine w_iastore cd_162_545 h9 h10 h11 ?_
  exact w_iflt cd_162_546 (by decide) h12 h13
theorem b_162_549 {d : Nat} {Q : (Option Value ⊕ Nat) → mi_H → Prop} (n sl : Nat) (f : Nat → mi_C) {l1 : Nat} {l2 : Int32} {l3 : Int32} {l4 : Int32} (h5 : mi_W d 162 554 [some (.ref l1), some (.int l2), some (.int l3), some (.int l4)] [.int 1] (n, sl, f) Q) : mi_W d 162 549 [some (.ref l1), some (.int l2), some (.int l3), some (.int l4)] [] (n, sl, f) Q := by
  refine w_iconst (v := 1) cd_162_549 (by decide) ?_
  exact w_goto cd_162_550 (by decide) h5
theorem b_162_553 {d : Nat} {Q : (Option Value ⊕ Nat) → mi_H → Prop} (n sl : Nat) (f : Nat → mi_C) {l1 : Nat} {l2 : Int32} {l3 : Int32} {l4 : Int32} (h5 : mi_W d 162 554 [some (.ref l1), some (.int l2), some (.int l3), some (.int l4)] [.int 0] (n, sl, f) Q) : mi_W d 162 553 [some (.ref l1), some (.int l2), some (.int l3), some (.int l4)] [] (n, sl, f) Q := by
  refine w_iconst (v := 0) cd_162_553 (by decide) ?_
  exact h5
theorem b_162_554 {d : Nat} {Q : (Option Value ⊕ Nat) → mi_H → Prop} (n sl : Nat) (f : Nat → mi_C) {l1 : Nat} {l2 : Int32} {l3 : Int32} {l4 : Int32} {s5 : Int32} (h6 : mi_W d 162 558 [some (.ref l1), some (.int l2), some (.int l3), some (.int s5)] [] (n, sl, f) Q) : mi_W d 162 554 [some (.ref l1), some (.int l2), some (.int l3), some (.int l4)] [.int s5] (n, sl, f) Q := by
  refine w_istore_n (ls' := [some (.ref l1), some (.int l2), some (.int l3), some (.int s5)]) cd_162_554 (Nat.le_of_ble_eq_true rfl) rfl ?_
  exact w_goto cd_162_555 (by decide) h6
theorem b_162_558 {d : Nat} {Q : (Option Value ⊕ Nat) → mi_H → Prop} (n sl : Nat) (f : Nat → mi_C) {l1 : Nat} {l2 : Int32} {l3 : Int32} {l4 : Int32} {fs5 : List Value} {x8 : Int32} {fs10 : List Value} (h6 : f l1 = .inr (12, fs5)) (h7 : l1 < n) (h9 : fs5[22]? = some (.int x8)) (h11 : f l1 = .inr (12, fs10)) (h12 : l1 < n) (h13 : 22 < fs10.length) (h14 : l4 = (0 : Int32) → mi_W d 162 576 [some (.ref l1), some (.int l2), some (.int l3), some (.int l4)] [] (n, sl, (va_up f l1 (.inr (12, fs10.set 22 (.int (x8 - 1)))))) Q) (h15 : ¬ (l4 = (0 : Int32)) → mi_W d 162 572 [some (.ref l1), some (.int l2), some (.int l3), some (.int l4)] [] (n, sl, (va_up f l1 (.inr (12, fs10.set 22 (.int (x8 - 1)))))) Q) : mi_W d 162 558 [some (.ref l1), some (.int l2), some (.int l3), some (.int l4)] [] (n, sl, f) Q := by
  refine w_aload_n cd_162_558 rfl ?_
  refine w_dup_r cd_162_559 ?_
  refine w_getfield cd_162_560 (show mt_f 12 337 = some (12, 22) by decide +kernel) h6 h7 h9 ?_
  refine w_iconst (v := 1) cd_162_563 (by decide) ?_
  refine w_isub cd_162_564 ?_
  refine w_putfield (w := .int (x8 - 1)) cd_162_565 (show mt_f 12 337 = some (12, 22) by decide +kernel) h11 h12 ⟨h13, rfl, Or.inl (by decide)⟩ ?_
  refine w_iload_n cd_162_568 rfl ?_
  exact w_ifeq cd_162_569 (by decide) h14 h15
theorem b_162_572 {d : Nat} {Q : (Option Value ⊕ Nat) → mi_H → Prop} (n sl : Nat) (f : Nat → mi_C) {l1 : Nat} {l2 : Int32} {l3 : Int32} {l4 : Int32} (h5 : mi_W d 162 577 [some (.ref l1), some (.int l2), some (.int l3), some (.int l4)] [.int l3] (n, sl, f) Q) : mi_W d 162 572 [some (.ref l1), some (.int l2), some (.int l3), some (.int l4)] [] (n, sl, f) Q := by
  refine w_iload_n cd_162_572 rfl ?_
  exact w_goto cd_162_573 (by decide) h5
theorem b_162_576 {d : Nat} {Q : (Option Value ⊕ Nat) → mi_H → Prop} (n sl : Nat) (f : Nat → mi_C) {l1 : Nat} {l2 : Int32} {l3 : Int32} {l4 : Int32} (h5 : mi_W d 162 577 [some (.ref l1), some (.int l2), some (.int l3), some (.int l4)] [.int (-1)] (n, sl, f) Q) : mi_W d 162 576 [some (.ref l1), some (.int l2), some (.int l3), some (.int l4)] [] (n, sl, f) Q := by
  refine w_iconst (v := (-1)) cd_162_576 (by decide) ?_
  exact h5
theorem b_162_577 {d : Nat} {Q : (Option Value ⊕ Nat) → mi_H → Prop} (n sl : Nat) (f : Nat → mi_C) {l1 : Nat} {l2 : Int32} {l3 : Int32} {l4 : Int32} {s5 : Int32} (h6 : Q (.inl (some (.int s5))) (n, sl, f)) : mi_W d 162 577 [some (.ref l1), some (.int l2), some (.int l3), some (.int l4)] [.int s5] (n, sl, f) Q := by
  exact w_ireturn_i cd_162_577 (by decide +kernel) h6
/-! MarloweHostModel.choiceOf()I -/
set_option maxRecDepth 100000 in
theorem mq_163 : mt_q 163 = my_163 := rfl
set_option maxRecDepth 100000 in
theorem ci_163 : mt_inc 0 my_163.cd = true := by decide +kernel
theorem cd_163_0 : mt_cd 163 0 = some (.aload_n 0) := mt_cd_of (q := (0, .aload_n 0, 1)) mq_163 ci_163 (List.mem_append_left _ (show _ ∈ my_163_0 from List.mem_of_getElem? (i := 0) rfl))
theorem cd_163_1 : mt_cd 163 1 = some (.getfield 310) := mt_cd_of (q := (1, .getfield 310, 3)) mq_163 ci_163 (List.mem_append_left _ (show _ ∈ my_163_0 from List.mem_of_getElem? (i := 1) rfl))
theorem cd_163_4 : mt_cd 163 4 = some (.iconst 1) := mt_cd_of (q := (4, .iconst 1, 1)) mq_163 ci_163 (List.mem_append_left _ (show _ ∈ my_163_0 from List.mem_of_getElem? (i := 2) rfl))
theorem cd_163_5 : mt_cd 163 5 = some (.if_icmp .eq 14) := mt_cd_of (q := (5, .if_icmp .eq 14, 3)) mq_163 ci_163 (List.mem_append_left _ (show _ ∈ my_163_0 from List.mem_of_getElem? (i := 3) rfl))
theorem cd_163_8 : mt_cd 163 8 = some (.aload_n 0) := mt_cd_of (q := (8, .aload_n 0, 1)) mq_163 ci_163 (List.mem_append_left _ (show _ ∈ my_163_0 from List.mem_of_getElem? (i := 4) rfl))
theorem cd_163_9 : mt_cd 163 9 = some (.aload_n 0) := mt_cd_of (q := (9, .aload_n 0, 1)) mq_163 ci_163 (List.mem_append_left _ (show _ ∈ my_163_0 from List.mem_of_getElem? (i := 5) rfl))
theorem cd_163_10 : mt_cd 163 10 = some (.getfield 299) := mt_cd_of (q := (10, .getfield 299, 3)) mq_163 ci_163 (List.mem_append_left _ (show _ ∈ my_163_0 from List.mem_of_getElem? (i := 6) rfl))
theorem cd_163_13 : mt_cd 163 13 = some (.invokevirtual 272) := mt_cd_of (q := (13, .invokevirtual 272, 3)) mq_163 ci_163 (List.mem_append_left _ (show _ ∈ my_163_0 from List.mem_of_getElem? (i := 7) rfl))
theorem cd_163_16 : mt_cd 163 16 = some (.pop) := mt_cd_of (q := (16, .pop, 1)) mq_163 ci_163 (List.mem_append_left _ (show _ ∈ my_163_0 from List.mem_of_getElem? (i := 8) rfl))
theorem cd_163_17 : mt_cd 163 17 = some (.iconst (-1)) := mt_cd_of (q := (17, .iconst (-1), 1)) mq_163 ci_163 (List.mem_append_left _ (show _ ∈ my_163_0 from List.mem_of_getElem? (i := 9) rfl))
theorem cd_163_18 : mt_cd 163 18 = some (.ireturn) := mt_cd_of (q := (18, .ireturn, 1)) mq_163 ci_163 (List.mem_append_left _ (show _ ∈ my_163_0 from List.mem_of_getElem? (i := 10) rfl))
theorem cd_163_19 : mt_cd 163 19 = some (.aload_n 0) := mt_cd_of (q := (19, .aload_n 0, 1)) mq_163 ci_163 (List.mem_append_left _ (show _ ∈ my_163_0 from List.mem_of_getElem? (i := 11) rfl))
theorem cd_163_20 : mt_cd 163 20 = some (.getfield 299) := mt_cd_of (q := (20, .getfield 299, 3)) mq_163 ci_163 (List.mem_append_left _ (show _ ∈ my_163_0 from List.mem_of_getElem? (i := 12) rfl))
theorem cd_163_23 : mt_cd 163 23 = some (.istore_n 1) := mt_cd_of (q := (23, .istore_n 1, 1)) mq_163 ci_163 (List.mem_append_left _ (show _ ∈ my_163_0 from List.mem_of_getElem? (i := 13) rfl))
theorem cd_163_24 : mt_cd 163 24 = some (.aload_n 0) := mt_cd_of (q := (24, .aload_n 0, 1)) mq_163 ci_163 (List.mem_append_left _ (show _ ∈ my_163_0 from List.mem_of_getElem? (i := 14) rfl))
theorem cd_163_25 : mt_cd 163 25 = some (.getfield 297) := mt_cd_of (q := (25, .getfield 297, 3)) mq_163 ci_163 (List.mem_append_left _ (show _ ∈ my_163_0 from List.mem_of_getElem? (i := 15) rfl))
theorem cd_163_28 : mt_cd 163 28 = some (.aload_n 0) := mt_cd_of (q := (28, .aload_n 0, 1)) mq_163 ci_163 (List.mem_append_left _ (show _ ∈ my_163_0 from List.mem_of_getElem? (i := 16) rfl))
theorem cd_163_29 : mt_cd 163 29 = some (.getfield 299) := mt_cd_of (q := (29, .getfield 299, 3)) mq_163 ci_163 (List.mem_append_left _ (show _ ∈ my_163_0 from List.mem_of_getElem? (i := 17) rfl))
theorem cd_163_32 : mt_cd 163 32 = some (.isub) := mt_cd_of (q := (32, .isub, 1)) mq_163 ci_163 (List.mem_append_left _ (show _ ∈ my_163_0 from List.mem_of_getElem? (i := 18) rfl))
theorem cd_163_33 : mt_cd 163 33 = some (.istore_n 2) := mt_cd_of (q := (33, .istore_n 2, 1)) mq_163 ci_163 (List.mem_append_left _ (show _ ∈ my_163_0 from List.mem_of_getElem? (i := 19) rfl))
theorem cd_163_34 : mt_cd 163 34 = some (.aload_n 0) := mt_cd_of (q := (34, .aload_n 0, 1)) mq_163 ci_163 (List.mem_append_left _ (show _ ∈ my_163_0 from List.mem_of_getElem? (i := 20) rfl))
theorem cd_163_35 : mt_cd 163 35 = some (.invokevirtual 333) := mt_cd_of (q := (35, .invokevirtual 333, 3)) mq_163 ci_163 (List.mem_append_left _ (show _ ∈ my_163_0 from List.mem_of_getElem? (i := 21) rfl))
theorem cd_163_38 : mt_cd 163 38 = some (.ifCond .ne 5) := mt_cd_of (q := (38, .ifCond .ne 5, 3)) mq_163 ci_163 (List.mem_append_left _ (show _ ∈ my_163_0 from List.mem_of_getElem? (i := 22) rfl))
theorem cd_163_41 : mt_cd 163 41 = some (.iconst (-1)) := mt_cd_of (q := (41, .iconst (-1), 1)) mq_163 ci_163 (List.mem_append_left _ (show _ ∈ my_163_0 from List.mem_of_getElem? (i := 23) rfl))
theorem cd_163_42 : mt_cd 163 42 = some (.ireturn) := mt_cd_of (q := (42, .ireturn, 1)) mq_163 ci_163 (List.mem_append_left _ (show _ ∈ my_163_0 from List.mem_of_getElem? (i := 24) rfl))
theorem cd_163_43 : mt_cd 163 43 = some (.aload_n 0) := mt_cd_of (q := (43, .aload_n 0, 1)) mq_163 ci_163 (List.mem_append_left _ (show _ ∈ my_163_0 from List.mem_of_getElem? (i := 25) rfl))
theorem cd_163_44 : mt_cd 163 44 = some (.getfield 310) := mt_cd_of (q := (44, .getfield 310, 3)) mq_163 ci_163 (List.mem_append_left _ (show _ ∈ my_163_0 from List.mem_of_getElem? (i := 26) rfl))
theorem cd_163_47 : mt_cd 163 47 = some (.iconst 1) := mt_cd_of (q := (47, .iconst 1, 1)) mq_163 ci_163 (List.mem_append_left _ (show _ ∈ my_163_0 from List.mem_of_getElem? (i := 27) rfl))
theorem cd_163_48 : mt_cd 163 48 = some (.if_icmp .eq 14) := mt_cd_of (q := (48, .if_icmp .eq 14, 3)) mq_163 ci_163 (List.mem_append_left _ (show _ ∈ my_163_0 from List.mem_of_getElem? (i := 28) rfl))
theorem cd_163_51 : mt_cd 163 51 = some (.aload_n 0) := mt_cd_of (q := (51, .aload_n 0, 1)) mq_163 ci_163 (List.mem_append_left _ (show _ ∈ my_163_0 from List.mem_of_getElem? (i := 29) rfl))
theorem cd_163_52 : mt_cd 163 52 = some (.aload_n 0) := mt_cd_of (q := (52, .aload_n 0, 1)) mq_163 ci_163 (List.mem_append_left _ (show _ ∈ my_163_0 from List.mem_of_getElem? (i := 30) rfl))
theorem cd_163_53 : mt_cd 163 53 = some (.getfield 299) := mt_cd_of (q := (53, .getfield 299, 3)) mq_163 ci_163 (List.mem_append_left _ (show _ ∈ my_163_0 from List.mem_of_getElem? (i := 31) rfl))
theorem cd_163_56 : mt_cd 163 56 = some (.invokevirtual 272) := mt_cd_of (q := (56, .invokevirtual 272, 3)) mq_163 ci_163 (List.mem_append_left _ (show _ ∈ my_163_0 from List.mem_of_getElem? (i := 32) rfl))
theorem cd_163_59 : mt_cd 163 59 = some (.pop) := mt_cd_of (q := (59, .pop, 1)) mq_163 ci_163 (List.mem_append_left _ (show _ ∈ my_163_0 from List.mem_of_getElem? (i := 33) rfl))
theorem cd_163_60 : mt_cd 163 60 = some (.iconst (-1)) := mt_cd_of (q := (60, .iconst (-1), 1)) mq_163 ci_163 (List.mem_append_left _ (show _ ∈ my_163_0 from List.mem_of_getElem? (i := 34) rfl))
theorem cd_163_61 : mt_cd 163 61 = some (.ireturn) := mt_cd_of (q := (61, .ireturn, 1)) mq_163 ci_163 (List.mem_append_left _ (show _ ∈ my_163_0 from List.mem_of_getElem? (i := 35) rfl))
theorem cd_163_62 : mt_cd 163 62 = some (.iconst 0) := mt_cd_of (q := (62, .iconst 0, 1)) mq_163 ci_163 (List.mem_append_left _ (show _ ∈ my_163_0 from List.mem_of_getElem? (i := 36) rfl))
theorem cd_163_63 : mt_cd 163 63 = some (.istore_n 3) := mt_cd_of (q := (63, .istore_n 3, 1)) mq_163 ci_163 (List.mem_append_left _ (show _ ∈ my_163_0 from List.mem_of_getElem? (i := 37) rfl))
theorem cd_163_64 : mt_cd 163 64 = some (.iload_n 3) := mt_cd_of (q := (64, .iload_n 3, 1)) mq_163 ci_163 (List.mem_append_left _ (show _ ∈ my_163_0 from List.mem_of_getElem? (i := 38) rfl))
theorem cd_163_65 : mt_cd 163 65 = some (.aload_n 0) := mt_cd_of (q := (65, .aload_n 0, 1)) mq_163 ci_163 (List.mem_append_left _ (show _ ∈ my_163_0 from List.mem_of_getElem? (i := 39) rfl))
theorem cd_163_66 : mt_cd 163 66 = some (.getfield 343) := mt_cd_of (q := (66, .getfield 343, 3)) mq_163 ci_163 (List.mem_append_left _ (show _ ∈ my_163_0 from List.mem_of_getElem? (i := 40) rfl))
theorem cd_163_69 : mt_cd 163 69 = some (.if_icmp .ge 28) := mt_cd_of (q := (69, .if_icmp .ge 28, 3)) mq_163 ci_163 (List.mem_append_left _ (show _ ∈ my_163_0 from List.mem_of_getElem? (i := 41) rfl))
theorem cd_163_72 : mt_cd 163 72 = some (.aload_n 0) := mt_cd_of (q := (72, .aload_n 0, 1)) mq_163 ci_163 (List.mem_append_left _ (show _ ∈ my_163_0 from List.mem_of_getElem? (i := 42) rfl))
theorem cd_163_73 : mt_cd 163 73 = some (.aload_n 0) := mt_cd_of (q := (73, .aload_n 0, 1)) mq_163 ci_163 (List.mem_append_left _ (show _ ∈ my_163_0 from List.mem_of_getElem? (i := 43) rfl))
theorem cd_163_74 : mt_cd 163 74 = some (.getfield 111) := mt_cd_of (q := (74, .getfield 111, 3)) mq_163 ci_163 (List.mem_append_left _ (show _ ∈ my_163_0 from List.mem_of_getElem? (i := 44) rfl))
theorem cd_163_77 : mt_cd 163 77 = some (.iload_n 3) := mt_cd_of (q := (77, .iload_n 3, 1)) mq_163 ci_163 (List.mem_append_left _ (show _ ∈ my_163_0 from List.mem_of_getElem? (i := 45) rfl))
theorem cd_163_78 : mt_cd 163 78 = some (.iaload) := mt_cd_of (q := (78, .iaload, 1)) mq_163 ci_163 (List.mem_append_left _ (show _ ∈ my_163_0 from List.mem_of_getElem? (i := 46) rfl))
theorem cd_163_79 : mt_cd 163 79 = some (.aload_n 0) := mt_cd_of (q := (79, .aload_n 0, 1)) mq_163 ci_163 (List.mem_append_left _ (show _ ∈ my_163_0 from List.mem_of_getElem? (i := 47) rfl))
theorem cd_163_80 : mt_cd 163 80 = some (.getfield 114) := mt_cd_of (q := (80, .getfield 114, 3)) mq_163 ci_163 (List.mem_append_left _ (show _ ∈ my_163_0 from List.mem_of_getElem? (i := 48) rfl))
theorem cd_163_83 : mt_cd 163 83 = some (.iload_n 3) := mt_cd_of (q := (83, .iload_n 3, 1)) mq_163 ci_163 (List.mem_append_left _ (show _ ∈ my_163_0 from List.mem_of_getElem? (i := 49) rfl))
theorem cd_163_84 : mt_cd 163 84 = some (.iaload) := mt_cd_of (q := (84, .iaload, 1)) mq_163 ci_163 (List.mem_append_left _ (show _ ∈ my_163_0 from List.mem_of_getElem? (i := 50) rfl))
theorem cd_163_85 : mt_cd 163 85 = some (.invokevirtual 358) := mt_cd_of (q := (85, .invokevirtual 358, 3)) mq_163 ci_163 (List.mem_append_left _ (show _ ∈ my_163_0 from List.mem_of_getElem? (i := 51) rfl))
theorem cd_163_88 : mt_cd 163 88 = some (.ifCond .ne 9) := mt_cd_of (q := (88, .ifCond .ne 9, 3)) mq_163 ci_163 (List.mem_append_left _ (show _ ∈ my_163_0 from List.mem_of_getElem? (i := 52) rfl))
theorem cd_163_91 : mt_cd 163 91 = some (.iinc 3 1) := mt_cd_of (q := (91, .iinc 3 1, 3)) mq_163 ci_163 (List.mem_append_left _ (show _ ∈ my_163_0 from List.mem_of_getElem? (i := 53) rfl))
theorem cd_163_94 : mt_cd 163 94 = some (.goto (-30)) := mt_cd_of (q := (94, .goto (-30), 3)) mq_163 ci_163 (List.mem_append_left _ (show _ ∈ my_163_0 from List.mem_of_getElem? (i := 54) rfl))
theorem cd_163_97 : mt_cd 163 97 = some (.iconst 0) := mt_cd_of (q := (97, .iconst 0, 1)) mq_163 ci_163 (List.mem_append_left _ (show _ ∈ my_163_0 from List.mem_of_getElem? (i := 55) rfl))
theorem cd_163_98 : mt_cd 163 98 = some (.istore 4) := mt_cd_of (q := (98, .istore 4, 2)) mq_163 ci_163 (List.mem_append_left _ (show _ ∈ my_163_0 from List.mem_of_getElem? (i := 56) rfl))
theorem cd_163_100 : mt_cd 163 100 = some (.iload 4) := mt_cd_of (q := (100, .iload 4, 2)) mq_163 ci_163 (List.mem_append_left _ (show _ ∈ my_163_0 from List.mem_of_getElem? (i := 57) rfl))
theorem cd_163_102 : mt_cd 163 102 = some (.aload_n 0) := mt_cd_of (q := (102, .aload_n 0, 1)) mq_163 ci_163 (List.mem_append_left _ (show _ ∈ my_163_0 from List.mem_of_getElem? (i := 58) rfl))
theorem cd_163_103 : mt_cd 163 103 = some (.getfield 349) := mt_cd_of (q := (103, .getfield 349, 3)) mq_163 ci_163 (List.mem_append_left _ (show _ ∈ my_163_0 from List.mem_of_getElem? (i := 59) rfl))
theorem cd_163_106 : mt_cd 163 106 = some (.if_icmp .ge 43) := mt_cd_of (q := (106, .if_icmp .ge 43, 3)) mq_163 ci_163 (List.mem_append_right _ (List.mem_append_left _ (show _ ∈ my_163_1 from List.mem_of_getElem? (i := 0) rfl)))
theorem cd_163_109 : mt_cd 163 109 = some (.aload_n 0) := mt_cd_of (q := (109, .aload_n 0, 1)) mq_163 ci_163 (List.mem_append_right _ (List.mem_append_left _ (show _ ∈ my_163_1 from List.mem_of_getElem? (i := 1) rfl)))
theorem cd_163_110 : mt_cd 163 110 = some (.getfield 135) := mt_cd_of (q := (110, .getfield 135, 3)) mq_163 ci_163 (List.mem_append_right _ (List.mem_append_left _ (show _ ∈ my_163_1 from List.mem_of_getElem? (i := 2) rfl)))
theorem cd_163_113 : mt_cd 163 113 = some (.iload 4) := mt_cd_of (q := (113, .iload 4, 2)) mq_163 ci_163 (List.mem_append_right _ (List.mem_append_left _ (show _ ∈ my_163_1 from List.mem_of_getElem? (i := 3) rfl)))
theorem cd_163_115 : mt_cd 163 115 = some (.iaload) := mt_cd_of (q := (115, .iaload, 1)) mq_163 ci_163 (List.mem_append_right _ (List.mem_append_left _ (show _ ∈ my_163_1 from List.mem_of_getElem? (i := 4) rfl)))
theorem cd_163_116 : mt_cd 163 116 = some (.iload_n 3) := mt_cd_of (q := (116, .iload_n 3, 1)) mq_163 ci_163 (List.mem_append_right _ (List.mem_append_left _ (show _ ∈ my_163_1 from List.mem_of_getElem? (i := 5) rfl)))
theorem cd_163_117 : mt_cd 163 117 = some (.if_icmp .ne 26) := mt_cd_of (q := (117, .if_icmp .ne 26, 3)) mq_163 ci_163 (List.mem_append_right _ (List.mem_append_left _ (show _ ∈ my_163_1 from List.mem_of_getElem? (i := 6) rfl)))
theorem cd_163_120 : mt_cd 163 120 = some (.aload_n 0) := mt_cd_of (q := (120, .aload_n 0, 1)) mq_163 ci_163 (List.mem_append_right _ (List.mem_append_left _ (show _ ∈ my_163_1 from List.mem_of_getElem? (i := 7) rfl)))
theorem cd_163_121 : mt_cd 163 121 = some (.aload_n 0) := mt_cd_of (q := (121, .aload_n 0, 1)) mq_163 ci_163 (List.mem_append_right _ (List.mem_append_left _ (show _ ∈ my_163_1 from List.mem_of_getElem? (i := 8) rfl)))
theorem cd_163_122 : mt_cd 163 122 = some (.getfield 129) := mt_cd_of (q := (122, .getfield 129, 3)) mq_163 ci_163 (List.mem_append_right _ (List.mem_append_left _ (show _ ∈ my_163_1 from List.mem_of_getElem? (i := 9) rfl)))
theorem cd_163_125 : mt_cd 163 125 = some (.iload 4) := mt_cd_of (q := (125, .iload 4, 2)) mq_163 ci_163 (List.mem_append_right _ (List.mem_append_left _ (show _ ∈ my_163_1 from List.mem_of_getElem? (i := 10) rfl)))
theorem cd_163_127 : mt_cd 163 127 = some (.iaload) := mt_cd_of (q := (127, .iaload, 1)) mq_163 ci_163 (List.mem_append_right _ (List.mem_append_left _ (show _ ∈ my_163_1 from List.mem_of_getElem? (i := 11) rfl)))
theorem cd_163_128 : mt_cd 163 128 = some (.aload_n 0) := mt_cd_of (q := (128, .aload_n 0, 1)) mq_163 ci_163 (List.mem_append_right _ (List.mem_append_left _ (show _ ∈ my_163_1 from List.mem_of_getElem? (i := 12) rfl)))
theorem cd_163_129 : mt_cd 163 129 = some (.getfield 132) := mt_cd_of (q := (129, .getfield 132, 3)) mq_163 ci_163 (List.mem_append_right _ (List.mem_append_left _ (show _ ∈ my_163_1 from List.mem_of_getElem? (i := 13) rfl)))
theorem cd_163_132 : mt_cd 163 132 = some (.iload 4) := mt_cd_of (q := (132, .iload 4, 2)) mq_163 ci_163 (List.mem_append_right _ (List.mem_append_left _ (show _ ∈ my_163_1 from List.mem_of_getElem? (i := 14) rfl)))
theorem cd_163_134 : mt_cd 163 134 = some (.iaload) := mt_cd_of (q := (134, .iaload, 1)) mq_163 ci_163 (List.mem_append_right _ (List.mem_append_left _ (show _ ∈ my_163_1 from List.mem_of_getElem? (i := 15) rfl)))
theorem cd_163_135 : mt_cd 163 135 = some (.iload_n 1) := mt_cd_of (q := (135, .iload_n 1, 1)) mq_163 ci_163 (List.mem_append_right _ (List.mem_append_left _ (show _ ∈ my_163_1 from List.mem_of_getElem? (i := 16) rfl)))
theorem cd_163_136 : mt_cd 163 136 = some (.iload_n 2) := mt_cd_of (q := (136, .iload_n 2, 1)) mq_163 ci_163 (List.mem_append_right _ (List.mem_append_left _ (show _ ∈ my_163_1 from List.mem_of_getElem? (i := 17) rfl)))
theorem cd_163_137 : mt_cd 163 137 = some (.invokevirtual 366) := mt_cd_of (q := (137, .invokevirtual 366, 3)) mq_163 ci_163 (List.mem_append_right _ (List.mem_append_left _ (show _ ∈ my_163_1 from List.mem_of_getElem? (i := 18) rfl)))
theorem cd_163_140 : mt_cd 163 140 = some (.ifCond .ne 9) := mt_cd_of (q := (140, .ifCond .ne 9, 3)) mq_163 ci_163 (List.mem_append_right _ (List.mem_append_left _ (show _ ∈ my_163_1 from List.mem_of_getElem? (i := 19) rfl)))
theorem cd_163_143 : mt_cd 163 143 = some (.iinc 4 1) := mt_cd_of (q := (143, .iinc 4 1, 3)) mq_163 ci_163 (List.mem_append_right _ (List.mem_append_left _ (show _ ∈ my_163_1 from List.mem_of_getElem? (i := 20) rfl)))
theorem cd_163_146 : mt_cd 163 146 = some (.goto (-46)) := mt_cd_of (q := (146, .goto (-46), 3)) mq_163 ci_163 (List.mem_append_right _ (List.mem_append_left _ (show _ ∈ my_163_1 from List.mem_of_getElem? (i := 21) rfl)))
theorem cd_163_149 : mt_cd 163 149 = some (.iload 4) := mt_cd_of (q := (149, .iload 4, 2)) mq_163 ci_163 (List.mem_append_right _ (List.mem_append_left _ (show _ ∈ my_163_1 from List.mem_of_getElem? (i := 22) rfl)))
theorem cd_163_151 : mt_cd 163 151 = some (.bipush 8) := mt_cd_of (q := (151, .bipush 8, 2)) mq_163 ci_163 (List.mem_append_right _ (List.mem_append_left _ (show _ ∈ my_163_1 from List.mem_of_getElem? (i := 23) rfl)))
theorem cd_163_153 : mt_cd 163 153 = some (.if_icmp .ne 11) := mt_cd_of (q := (153, .if_icmp .ne 11, 3)) mq_163 ci_163 (List.mem_append_right _ (List.mem_append_left _ (show _ ∈ my_163_1 from List.mem_of_getElem? (i := 24) rfl)))
theorem cd_163_156 : mt_cd 163 156 = some (.aload_n 0) := mt_cd_of (q := (156, .aload_n 0, 1)) mq_163 ci_163 (List.mem_append_right _ (List.mem_append_left _ (show _ ∈ my_163_1 from List.mem_of_getElem? (i := 25) rfl)))
theorem cd_163_157 : mt_cd 163 157 = some (.iload_n 1) := mt_cd_of (q := (157, .iload_n 1, 1)) mq_163 ci_163 (List.mem_append_right _ (List.mem_append_left _ (show _ ∈ my_163_1 from List.mem_of_getElem? (i := 26) rfl)))
theorem cd_163_158 : mt_cd 163 158 = some (.invokevirtual 272) := mt_cd_of (q := (158, .invokevirtual 272, 3)) mq_163 ci_163 (List.mem_append_right _ (List.mem_append_left _ (show _ ∈ my_163_1 from List.mem_of_getElem? (i := 27) rfl)))
theorem cd_163_161 : mt_cd 163 161 = some (.pop) := mt_cd_of (q := (161, .pop, 1)) mq_163 ci_163 (List.mem_append_right _ (List.mem_append_left _ (show _ ∈ my_163_1 from List.mem_of_getElem? (i := 28) rfl)))
theorem cd_163_162 : mt_cd 163 162 = some (.iconst (-1)) := mt_cd_of (q := (162, .iconst (-1), 1)) mq_163 ci_163 (List.mem_append_right _ (List.mem_append_left _ (show _ ∈ my_163_1 from List.mem_of_getElem? (i := 29) rfl)))
theorem cd_163_163 : mt_cd 163 163 = some (.ireturn) := mt_cd_of (q := (163, .ireturn, 1)) mq_163 ci_163 (List.mem_append_right _ (List.mem_append_left _ (show _ ∈ my_163_1 from List.mem_of_getElem? (i := 30) rfl)))
theorem cd_163_164 : mt_cd 163 164 = some (.aload_n 0) := mt_cd_of (q := (164, .aload_n 0, 1)) mq_163 ci_163 (List.mem_append_right _ (List.mem_append_left _ (show _ ∈ my_163_1 from List.mem_of_getElem? (i := 31) rfl)))
theorem cd_163_165 : mt_cd 163 165 = some (.invokevirtual 370) := mt_cd_of (q := (165, .invokevirtual 370, 3)) mq_163 ci_163 (List.mem_append_right _ (List.mem_append_left _ (show _ ∈ my_163_1 from List.mem_of_getElem? (i := 32) rfl)))
theorem cd_163_168 : mt_cd 163 168 = some (.ifCond .ge 5) := mt_cd_of (q := (168, .ifCond .ge 5, 3)) mq_163 ci_163 (List.mem_append_right _ (List.mem_append_left _ (show _ ∈ my_163_1 from List.mem_of_getElem? (i := 33) rfl)))
theorem cd_163_171 : mt_cd 163 171 = some (.iconst (-1)) := mt_cd_of (q := (171, .iconst (-1), 1)) mq_163 ci_163 (List.mem_append_right _ (List.mem_append_left _ (show _ ∈ my_163_1 from List.mem_of_getElem? (i := 34) rfl)))
theorem cd_163_172 : mt_cd 163 172 = some (.ireturn) := mt_cd_of (q := (172, .ireturn, 1)) mq_163 ci_163 (List.mem_append_right _ (List.mem_append_left _ (show _ ∈ my_163_1 from List.mem_of_getElem? (i := 35) rfl)))
theorem cd_163_173 : mt_cd 163 173 = some (.iload 4) := mt_cd_of (q := (173, .iload 4, 2)) mq_163 ci_163 (List.mem_append_right _ (List.mem_append_left _ (show _ ∈ my_163_1 from List.mem_of_getElem? (i := 36) rfl)))
theorem cd_163_175 : mt_cd 163 175 = some (.aload_n 0) := mt_cd_of (q := (175, .aload_n 0, 1)) mq_163 ci_163 (List.mem_append_right _ (List.mem_append_left _ (show _ ∈ my_163_1 from List.mem_of_getElem? (i := 37) rfl)))
theorem cd_163_176 : mt_cd 163 176 = some (.getfield 349) := mt_cd_of (q := (176, .getfield 349, 3)) mq_163 ci_163 (List.mem_append_right _ (List.mem_append_left _ (show _ ∈ my_163_1 from List.mem_of_getElem? (i := 38) rfl)))
theorem cd_163_179 : mt_cd 163 179 = some (.if_icmp .ne 37) := mt_cd_of (q := (179, .if_icmp .ne 37, 3)) mq_163 ci_163 (List.mem_append_right _ (List.mem_append_left _ (show _ ∈ my_163_1 from List.mem_of_getElem? (i := 39) rfl)))
theorem cd_163_182 : mt_cd 163 182 = some (.aload_n 0) := mt_cd_of (q := (182, .aload_n 0, 1)) mq_163 ci_163 (List.mem_append_right _ (List.mem_append_left _ (show _ ∈ my_163_1 from List.mem_of_getElem? (i := 40) rfl)))
theorem cd_163_183 : mt_cd 163 183 = some (.getfield 129) := mt_cd_of (q := (183, .getfield 129, 3)) mq_163 ci_163 (List.mem_append_right _ (List.mem_append_left _ (show _ ∈ my_163_1 from List.mem_of_getElem? (i := 41) rfl)))
theorem cd_163_186 : mt_cd 163 186 = some (.iload 4) := mt_cd_of (q := (186, .iload 4, 2)) mq_163 ci_163 (List.mem_append_right _ (List.mem_append_left _ (show _ ∈ my_163_1 from List.mem_of_getElem? (i := 42) rfl)))
theorem cd_163_188 : mt_cd 163 188 = some (.iload_n 1) := mt_cd_of (q := (188, .iload_n 1, 1)) mq_163 ci_163 (List.mem_append_right _ (List.mem_append_left _ (show _ ∈ my_163_1 from List.mem_of_getElem? (i := 43) rfl)))
theorem cd_163_189 : mt_cd 163 189 = some (.iastore) := mt_cd_of (q := (189, .iastore, 1)) mq_163 ci_163 (List.mem_append_right _ (List.mem_append_left _ (show _ ∈ my_163_1 from List.mem_of_getElem? (i := 44) rfl)))
theorem cd_163_190 : mt_cd 163 190 = some (.aload_n 0) := mt_cd_of (q := (190, .aload_n 0, 1)) mq_163 ci_163 (List.mem_append_right _ (List.mem_append_left _ (show _ ∈ my_163_1 from List.mem_of_getElem? (i := 45) rfl)))
theorem cd_163_191 : mt_cd 163 191 = some (.getfield 132) := mt_cd_of (q := (191, .getfield 132, 3)) mq_163 ci_163 (List.mem_append_right _ (List.mem_append_left _ (show _ ∈ my_163_1 from List.mem_of_getElem? (i := 46) rfl)))
theorem cd_163_194 : mt_cd 163 194 = some (.iload 4) := mt_cd_of (q := (194, .iload 4, 2)) mq_163 ci_163 (List.mem_append_right _ (List.mem_append_left _ (show _ ∈ my_163_1 from List.mem_of_getElem? (i := 47) rfl)))
theorem cd_163_196 : mt_cd 163 196 = some (.iload_n 2) := mt_cd_of (q := (196, .iload_n 2, 1)) mq_163 ci_163 (List.mem_append_right _ (List.mem_append_left _ (show _ ∈ my_163_1 from List.mem_of_getElem? (i := 48) rfl)))
theorem cd_163_197 : mt_cd 163 197 = some (.iastore) := mt_cd_of (q := (197, .iastore, 1)) mq_163 ci_163 (List.mem_append_right _ (List.mem_append_left _ (show _ ∈ my_163_1 from List.mem_of_getElem? (i := 49) rfl)))
theorem cd_163_198 : mt_cd 163 198 = some (.aload_n 0) := mt_cd_of (q := (198, .aload_n 0, 1)) mq_163 ci_163 (List.mem_append_right _ (List.mem_append_left _ (show _ ∈ my_163_1 from List.mem_of_getElem? (i := 50) rfl)))
theorem cd_163_199 : mt_cd 163 199 = some (.getfield 135) := mt_cd_of (q := (199, .getfield 135, 3)) mq_163 ci_163 (List.mem_append_right _ (List.mem_append_left _ (show _ ∈ my_163_1 from List.mem_of_getElem? (i := 51) rfl)))
theorem cd_163_202 : mt_cd 163 202 = some (.iload 4) := mt_cd_of (q := (202, .iload 4, 2)) mq_163 ci_163 (List.mem_append_right _ (List.mem_append_left _ (show _ ∈ my_163_1 from List.mem_of_getElem? (i := 52) rfl)))
theorem cd_163_204 : mt_cd 163 204 = some (.iload_n 3) := mt_cd_of (q := (204, .iload_n 3, 1)) mq_163 ci_163 (List.mem_append_right _ (List.mem_append_left _ (show _ ∈ my_163_1 from List.mem_of_getElem? (i := 53) rfl)))
theorem cd_163_205 : mt_cd 163 205 = some (.iastore) := mt_cd_of (q := (205, .iastore, 1)) mq_163 ci_163 (List.mem_append_right _ (List.mem_append_left _ (show _ ∈ my_163_1 from List.mem_of_getElem? (i := 54) rfl)))
theorem cd_163_206 : mt_cd 163 206 = some (.aload_n 0) := mt_cd_of (q := (206, .aload_n 0, 1)) mq_163 ci_163 (List.mem_append_right _ (List.mem_append_left _ (show _ ∈ my_163_1 from List.mem_of_getElem? (i := 55) rfl)))
theorem cd_163_207 : mt_cd 163 207 = some (.dup) := mt_cd_of (q := (207, .dup, 1)) mq_163 ci_163 (List.mem_append_right _ (List.mem_append_left _ (show _ ∈ my_163_1 from List.mem_of_getElem? (i := 56) rfl)))
theorem cd_163_208 : mt_cd 163 208 = some (.getfield 349) := mt_cd_of (q := (208, .getfield 349, 3)) mq_163 ci_163 (List.mem_append_right _ (List.mem_append_left _ (show _ ∈ my_163_1 from List.mem_of_getElem? (i := 57) rfl)))
theorem cd_163_211 : mt_cd 163 211 = some (.iconst 1) := mt_cd_of (q := (211, .iconst 1, 1)) mq_163 ci_163 (List.mem_append_right _ (List.mem_append_left _ (show _ ∈ my_163_1 from List.mem_of_getElem? (i := 58) rfl)))
theorem cd_163_212 : mt_cd 163 212 = some (.iadd) := mt_cd_of (q := (212, .iadd, 1)) mq_163 ci_163 (List.mem_append_right _ (List.mem_append_left _ (show _ ∈ my_163_1 from List.mem_of_getElem? (i := 59) rfl)))
theorem cd_163_213 : mt_cd 163 213 = some (.putfield 349) := mt_cd_of (q := (213, .putfield 349, 3)) mq_163 ci_163 (List.mem_append_right _ (List.mem_append_right _ ((show _ ∈ my_163_2 from List.mem_of_getElem? (i := 0) rfl))))
theorem cd_163_216 : mt_cd 163 216 = some (.iload 4) := mt_cd_of (q := (216, .iload 4, 2)) mq_163 ci_163 (List.mem_append_right _ (List.mem_append_right _ ((show _ ∈ my_163_2 from List.mem_of_getElem? (i := 1) rfl))))
theorem cd_163_218 : mt_cd 163 218 = some (.ireturn) := mt_cd_of (q := (218, .ireturn, 1)) mq_163 ci_163 (List.mem_append_right _ (List.mem_append_right _ ((show _ ∈ my_163_2 from List.mem_of_getElem? (i := 2) rfl))))
theorem b_163_0 {d : Nat} {Q : (Option Value ⊕ Nat) → mi_H → Prop} (n sl : Nat) (f : Nat → mi_C) {l1 : Nat} {o2 : Option Value} {o3 : Option Value} {o4 : Option Value} {o5 : Option Value} {fs6 : List Value} {x9 : Int32} (h7 : f l1 = .inr (12, fs6)) (h8 : l1 < n) (h10 : fs6[8]? = some (.int x9)) (h11 : x9 = 1 → mi_W d 163 19 [some (.ref l1), o2, o3, o4, o5] [] (n, sl, f) Q) (h12 : ¬ (x9 = 1) → mi_W d 163 8 [some (.ref l1), o2, o3, o4, o5] [] (n, sl, f) Q) : mi_W d 163 0 [some (.ref l1), o2, o3, o4, o5] [] (n, sl, f) Q := by
  refine w_aload_n cd_163_0 rfl ?_
  refine w_getfield cd_163_1 (show mt_f 12 310 = some (12, 8) by decide +kernel) h7 h8 h10 ?_
  refine w_iconst (v := 1) cd_163_4 (by decide) ?_
  exact w_if_icmpeq cd_163_5 (by decide) h11 h12
theorem b_163_8 {d : Nat} {Q : (Option Value ⊕ Nat) → mi_H → Prop} (n sl : Nat) (f : Nat → mi_C) {l1 : Nat} {o2 : Option Value} {o3 : Option Value} {o4 : Option Value} {o5 : Option Value} {fs6 : List Value} {x9 : Int32} {fs11 : List Value} (h7 : f l1 = .inr (12, fs6)) (h8 : l1 < n) (h10 : fs6[9]? = some (.int x9)) (h12 : f l1 = .inr (12, fs11)) (h13 : l1 < n) (h14 : mi_W d 142 0 (mi_en 2 [.ref l1, .int x9]) [] (n, sl, f) (mi_Kc d 163 13 [some (.ref l1), o2, o3, o4, o5] [] Q)) : mi_W (d + 1) 163 8 [some (.ref l1), o2, o3, o4, o5] [] (n, sl, f) Q := by
  refine w_aload_n cd_163_8 rfl ?_
  refine w_aload_n cd_163_9 rfl ?_
  refine w_getfield cd_163_10 (show mt_f 12 299 = some (12, 9) by decide +kernel) h7 h8 h10 ?_
  exact w_invokevirtual cd_163_13 (show mt_m 12 272 = some (142, 0) by decide +kernel) (rest := []) rfl (as := [.ref l1, .int x9]) rfl h12 (Or.inl h13) ⟨Nat.le_of_ble_eq_true rfl, Nat.le_of_ble_eq_true rfl, Nat.le_of_ble_eq_true rfl⟩ h14
theorem b_163_16 {d : Nat} {Q : (Option Value ⊕ Nat) → mi_H → Prop} (n sl : Nat) (f : Nat → mi_C) {l1 : Nat} {o2 : Option Value} {o3 : Option Value} {o4 : Option Value} {o5 : Option Value} {s6 : Int32} (h7 : Q (.inl (some (.int (-1)))) (n, sl, f)) : mi_W d 163 16 [some (.ref l1), o2, o3, o4, o5] [.int s6] (n, sl, f) Q := by
  refine w_pop_i cd_163_16 ?_
  refine w_iconst (v := (-1)) cd_163_17 (by decide) ?_
  exact w_ireturn_i cd_163_18 (by decide +kernel) h7
theorem b_163_19 {d : Nat} {Q : (Option Value ⊕ Nat) → mi_H → Prop} (n sl : Nat) (f : Nat → mi_C) {l1 : Nat} {o2 : Option Value} {o3 : Option Value} {o4 : Option Value} {o5 : Option Value} {fs6 : List Value} {x9 : Int32} {fs11 : List Value} {x14 : Int32} {fs16 : List Value} {x19 : Int32} {fs21 : List Value} (h7 : f l1 = .inr (12, fs6)) (h8 : l1 < n) (h10 : fs6[9]? = some (.int x9)) (h12 : f l1 = .inr (12, fs11)) (h13 : l1 < n) (h15 : fs11[10]? = some (.int x14)) (h17 : f l1 = .inr (12, fs16)) (h18 : l1 < n) (h20 : fs16[9]? = some (.int x19)) (h22 : f l1 = .inr (12, fs21)) (h23 : l1 < n) (h24 : mi_W d 144 0 (mi_en 4 [.ref l1]) [] (n, sl, f) (mi_Kc d 163 35 [some (.ref l1), some (.int x9), some (.int (x14 - x19)), o4, o5] [] Q)) : mi_W (d + 1) 163 19 [some (.ref l1), o2, o3, o4, o5] [] (n, sl, f) Q := by
  refine w_aload_n cd_163_19 rfl ?_
  refine w_getfield cd_163_20 (show mt_f 12 299 = some (12, 9) by decide +kernel) h7 h8 h10 ?_
  refine w_istore_n (ls' := [some (.ref l1), some (.int x9), o3, o4, o5]) cd_163_23 (Nat.le_of_ble_eq_true rfl) rfl ?_
  refine w_aload_n cd_163_24 rfl ?_
  refine w_getfield cd_163_25 (show mt_f 12 297 = some (12, 10) by decide +kernel) h12 h13 h15 ?_
  refine w_aload_n cd_163_28 rfl ?_
  refine w_getfield cd_163_29 (show mt_f 12 299 = some (12, 9) by decide +kernel) h17 h18 h20 ?_
  refine w_isub cd_163_32 ?_
  refine w_istore_n (ls' := [some (.ref l1), some (.int x9), some (.int (x14 - x19)), o4, o5]) cd_163_33 (Nat.le_of_ble_eq_true rfl) rfl ?_
  refine w_aload_n cd_163_34 rfl ?_
  exact w_invokevirtual cd_163_35 (show mt_m 12 333 = some (144, 0) by decide +kernel) (rest := []) rfl (as := [.ref l1]) rfl h22 (Or.inl h23) ⟨Nat.le_of_ble_eq_true rfl, Nat.le_of_ble_eq_true rfl, Nat.le_of_ble_eq_true rfl⟩ h24
theorem b_163_38 {d : Nat} {Q : (Option Value ⊕ Nat) → mi_H → Prop} (n sl : Nat) (f : Nat → mi_C) {l1 : Nat} {l2 : Int32} {l3 : Int32} {o4 : Option Value} {o5 : Option Value} {s6 : Int32} (h7 : ¬ s6 = (0 : Int32) → mi_W d 163 43 [some (.ref l1), some (.int l2), some (.int l3), o4, o5] [] (n, sl, f) Q) (h8 : ¬ (¬ s6 = (0 : Int32)) → mi_W d 163 41 [some (.ref l1), some (.int l2), some (.int l3), o4, o5] [] (n, sl, f) Q) : mi_W d 163 38 [some (.ref l1), some (.int l2), some (.int l3), o4, o5] [.int s6] (n, sl, f) Q := by
  exact w_ifne cd_163_38 (by decide) h7 h8
theorem b_163_41 {d : Nat} {Q : (Option Value ⊕ Nat) → mi_H → Prop} (n sl : Nat) (f : Nat → mi_C) {l1 : Nat} {l2 : Int32} {l3 : Int32} {o4 : Option Value} {o5 : Option Value} (h6 : Q (.inl (some (.int (-1)))) (n, sl, f)) : mi_W d 163 41 [some (.ref l1), some (.int l2), some (.int l3), o4, o5] [] (n, sl, f) Q := by
  refine w_iconst (v := (-1)) cd_163_41 (by decide) ?_
  exact w_ireturn_i cd_163_42 (by decide +kernel) h6
theorem b_163_43 {d : Nat} {Q : (Option Value ⊕ Nat) → mi_H → Prop} (n sl : Nat) (f : Nat → mi_C) {l1 : Nat} {l2 : Int32} {l3 : Int32} {o4 : Option Value} {o5 : Option Value} {fs6 : List Value} {x9 : Int32} (h7 : f l1 = .inr (12, fs6)) (h8 : l1 < n) (h10 : fs6[8]? = some (.int x9)) (h11 : x9 = 1 → mi_W d 163 62 [some (.ref l1), some (.int l2), some (.int l3), o4, o5] [] (n, sl, f) Q) (h12 : ¬ (x9 = 1) → mi_W d 163 51 [some (.ref l1), some (.int l2), some (.int l3), o4, o5] [] (n, sl, f) Q) : mi_W d 163 43 [some (.ref l1), some (.int l2), some (.int l3), o4, o5] [] (n, sl, f) Q := by
  refine w_aload_n cd_163_43 rfl ?_
  refine w_getfield cd_163_44 (show mt_f 12 310 = some (12, 8) by decide +kernel) h7 h8 h10 ?_
  refine w_iconst (v := 1) cd_163_47 (by decide) ?_
  exact w_if_icmpeq cd_163_48 (by decide) h11 h12
theorem b_163_51 {d : Nat} {Q : (Option Value ⊕ Nat) → mi_H → Prop} (n sl : Nat) (f : Nat → mi_C) {l1 : Nat} {l2 : Int32} {l3 : Int32} {o4 : Option Value} {o5 : Option Value} {fs6 : List Value} {x9 : Int32} {fs11 : List Value} (h7 : f l1 = .inr (12, fs6)) (h8 : l1 < n) (h10 : fs6[9]? = some (.int x9)) (h12 : f l1 = .inr (12, fs11)) (h13 : l1 < n) (h14 : mi_W d 142 0 (mi_en 2 [.ref l1, .int x9]) [] (n, sl, f) (mi_Kc d 163 56 [some (.ref l1), some (.int l2), some (.int l3), o4, o5] [] Q)) : mi_W (d + 1) 163 51 [some (.ref l1), some (.int l2), some (.int l3), o4, o5] [] (n, sl, f) Q := by
  refine w_aload_n cd_163_51 rfl ?_
  refine w_aload_n cd_163_52 rfl ?_
  refine w_getfield cd_163_53 (show mt_f 12 299 = some (12, 9) by decide +kernel) h7 h8 h10 ?_
  exact w_invokevirtual cd_163_56 (show mt_m 12 272 = some (142, 0) by decide +kernel) (rest := []) rfl (as := [.ref l1, .int x9]) rfl h12 (Or.inl h13) ⟨Nat.le_of_ble_eq_true rfl, Nat.le_of_ble_eq_true rfl, Nat.le_of_ble_eq_true rfl⟩ h14
theorem b_163_59 {d : Nat} {Q : (Option Value ⊕ Nat) → mi_H → Prop} (n sl : Nat) (f : Nat → mi_C) {l1 : Nat} {l2 : Int32} {l3 : Int32} {o4 : Option Value} {o5 : Option Value} {s6 : Int32} (h7 : Q (.inl (some (.int (-1)))) (n, sl, f)) : mi_W d 163 59 [some (.ref l1), some (.int l2), some (.int l3), o4, o5] [.int s6] (n, sl, f) Q := by
  refine w_pop_i cd_163_59 ?_
  refine w_iconst (v := (-1)) cd_163_60 (by decide) ?_
  exact w_ireturn_i cd_163_61 (by decide +kernel) h7
theorem b_163_62 {d : Nat} {Q : (Option Value ⊕ Nat) → mi_H → Prop} (n sl : Nat) (f : Nat → mi_C) {l1 : Nat} {l2 : Int32} {l3 : Int32} {o4 : Option Value} {o5 : Option Value} (h6 : mi_W d 163 64 [some (.ref l1), some (.int l2), some (.int l3), some (.int 0), o5] [] (n, sl, f) Q) : mi_W d 163 62 [some (.ref l1), some (.int l2), some (.int l3), o4, o5] [] (n, sl, f) Q := by
  refine w_iconst (v := 0) cd_163_62 (by decide) ?_
  refine w_istore_n (ls' := [some (.ref l1), some (.int l2), some (.int l3), some (.int 0), o5]) cd_163_63 (Nat.le_of_ble_eq_true rfl) rfl ?_
  exact h6
theorem b_163_64 {d : Nat} {Q : (Option Value ⊕ Nat) → mi_H → Prop} (n sl : Nat) (f : Nat → mi_C) {l1 : Nat} {l2 : Int32} {l3 : Int32} {l4 : Int32} {o5 : Option Value} {fs6 : List Value} {x9 : Int32} (h7 : f l1 = .inr (12, fs6)) (h8 : l1 < n) (h10 : fs6[24]? = some (.int x9)) (h11 : x9 ≤ l4 → mi_W d 163 97 [some (.ref l1), some (.int l2), some (.int l3), some (.int l4), o5] [] (n, sl, f) Q) (h12 : ¬ (x9 ≤ l4) → mi_W d 163 72 [some (.ref l1), some (.int l2), some (.int l3), some (.int l4), o5] [] (n, sl, f) Q) : mi_W d 163 64 [some (.ref l1), some (.int l2), some (.int l3), some (.int l4), o5] [] (n, sl, f) Q := by
  refine w_iload_n cd_163_64 rfl ?_
  refine w_aload_n cd_163_65 rfl ?_
  refine w_getfield cd_163_66 (show mt_f 12 343 = some (12, 24) by decide +kernel) h7 h8 h10 ?_
  exact w_if_icmpge cd_163_69 (by decide) h11 h12
theorem b_163_72 {d : Nat} {Q : (Option Value ⊕ Nat) → mi_H → Prop} (n sl : Nat) (f : Nat → mi_C) {l1 : Nat} {l2 : Int32} {l3 : Int32} {l4 : Int32} {o5 : Option Value} {fs6 : List Value} {x9 : Nat} (m11 i11 : Nat) (g11 : Nat → Int32) {fs15 : List Value} {x18 : Nat} (m20 i20 : Nat) (g20 : Nat → Int32) {fs24 : List Value} (h7 : f l1 = .inr (12, fs6)) (h8 : l1 < n) (h10 : fs6[30]? = some (.ref x9)) (h12 : f x9 = .inl (0, m11, .inl g11)) (h13 : x9 < n ∨ x9 = mi_SC) (h14 : mi_ix l4 m11 i11) (h16 : f l1 = .inr (12, fs15)) (h17 : l1 < n) (h19 : fs15[31]? = some (.ref x18)) (h21 : f x18 = .inl (0, m20, .inl g20)) (h22 : x18 < n ∨ x18 = mi_SC) (h23 : mi_ix l4 m20 i20) (h25 : f l1 = .inr (12, fs24)) (h26 : l1 < n) (h27 : mi_W d 160 0 (mi_en 4 [.ref l1, .int (g11 i11), .int (g20 i20)]) [] (n, sl, f) (mi_Kc d 163 85 [some (.ref l1), some (.int l2), some (.int l3), some (.int l4), o5] [] Q)) : mi_W (d + 1) 163 72 [some (.ref l1), some (.int l2), some (.int l3), some (.int l4), o5] [] (n, sl, f) Q := by
  refine w_aload_n cd_163_72 rfl ?_
  refine w_aload_n cd_163_73 rfl ?_
  refine w_getfield cd_163_74 (show mt_f 12 111 = some (12, 30) by decide +kernel) h7 h8 h10 ?_
  refine w_iload_n cd_163_77 rfl ?_
  refine w_iaload cd_163_78 h12 h13 h14 ?_
  refine w_aload_n cd_163_79 rfl ?_
  refine w_getfield cd_163_80 (show mt_f 12 114 = some (12, 31) by decide +kernel) h16 h17 h19 ?_
  refine w_iload_n cd_163_83 rfl ?_
  refine w_iaload cd_163_84 h21 h22 h23 ?_
  exact w_invokevirtual cd_163_85 (show mt_m 12 358 = some (160, 0) by decide +kernel) (rest := []) rfl (as := [.ref l1, .int (g11 i11), .int (g20 i20)]) rfl h25 (Or.inl h26) ⟨Nat.le_of_ble_eq_true rfl, Nat.le_of_ble_eq_true rfl, Nat.le_of_ble_eq_true rfl⟩ h27
theorem b_163_88 {d : Nat} {Q : (Option Value ⊕ Nat) → mi_H → Prop} (n sl : Nat) (f : Nat → mi_C) {l1 : Nat} {l2 : Int32} {l3 : Int32} {l4 : Int32} {o5 : Option Value} {s6 : Int32} (h7 : ¬ s6 = (0 : Int32) → mi_W d 163 97 [some (.ref l1), some (.int l2), some (.int l3), some (.int l4), o5] [] (n, sl, f) Q) (h8 : ¬ (¬ s6 = (0 : Int32)) → mi_W d 163 91 [some (.ref l1), some (.int l2), some (.int l3), some (.int l4), o5] [] (n, sl, f) Q) : mi_W d 163 88 [some (.ref l1), some (.int l2), some (.int l3), some (.int l4), o5] [.int s6] (n, sl, f) Q := by
  exact w_ifne cd_163_88 (by decide) h7 h8
theorem b_163_91 {d : Nat} {Q : (Option Value ⊕ Nat) → mi_H → Prop} (n sl : Nat) (f : Nat → mi_C) {l1 : Nat} {l2 : Int32} {l3 : Int32} {l4 : Int32} {o5 : Option Value} (h6 : mi_W d 163 64 [some (.ref l1), some (.int l2), some (.int l3), some (.int (l4 + 1)), o5] [] (n, sl, f) Q) : mi_W d 163 91 [some (.ref l1), some (.int l2), some (.int l3), some (.int l4), o5] [] (n, sl, f) Q := by
  refine w_iinc (v := 1) (ls' := [some (.ref l1), some (.int l2), some (.int l3), some (.int (l4 + 1)), o5]) cd_163_91 rfl (by decide) rfl ?_
  exact w_goto cd_163_94 (by decide) h6
theorem b_163_97 {d : Nat} {Q : (Option Value ⊕ Nat) → mi_H → Prop} (n sl : Nat) (f : Nat → mi_C) {l1 : Nat} {l2 : Int32} {l3 : Int32} {l4 : Int32} {o5 : Option Value} (h6 : mi_W d 163 100 [some (.ref l1), some (.int l2), some (.int l3), some (.int l4), some (.int 0)] [] (n, sl, f) Q) : mi_W d 163 97 [some (.ref l1), some (.int l2), some (.int l3), some (.int l4), o5] [] (n, sl, f) Q := by
  refine w_iconst (v := 0) cd_163_97 (by decide) ?_
  refine w_istore (ls' := [some (.ref l1), some (.int l2), some (.int l3), some (.int l4), some (.int 0)]) cd_163_98 (Nat.le_of_ble_eq_true rfl) rfl ?_
  exact h6
theorem b_163_100 {d : Nat} {Q : (Option Value ⊕ Nat) → mi_H → Prop} (n sl : Nat) (f : Nat → mi_C) {l1 : Nat} {l2 : Int32} {l3 : Int32} {l4 : Int32} {l5 : Int32} {fs6 : List Value} {x9 : Int32} (h7 : f l1 = .inr (12, fs6)) (h8 : l1 < n) (h10 : fs6[26]? = some (.int x9)) (h11 : x9 ≤ l5 → mi_W d 163 149 [some (.ref l1), some (.int l2), some (.int l3), some (.int l4), some (.int l5)] [] (n, sl, f) Q) (h12 : ¬ (x9 ≤ l5) → mi_W d 163 109 [some (.ref l1), some (.int l2), some (.int l3), some (.int l4), some (.int l5)] [] (n, sl, f) Q) : mi_W d 163 100 [some (.ref l1), some (.int l2), some (.int l3), some (.int l4), some (.int l5)] [] (n, sl, f) Q := by
  refine w_iload cd_163_100 rfl ?_
  refine w_aload_n cd_163_102 rfl ?_
  refine w_getfield cd_163_103 (show mt_f 12 349 = some (12, 26) by decide +kernel) h7 h8 h10 ?_
  exact w_if_icmpge cd_163_106 (by decide) h11 h12
theorem b_163_109 {d : Nat} {Q : (Option Value ⊕ Nat) → mi_H → Prop} (n sl : Nat) (f : Nat → mi_C) {l1 : Nat} {l2 : Int32} {l3 : Int32} {l4 : Int32} {l5 : Int32} {fs6 : List Value} {x9 : Nat} (m11 i11 : Nat) (g11 : Nat → Int32) (h7 : f l1 = .inr (12, fs6)) (h8 : l1 < n) (h10 : fs6[38]? = some (.ref x9)) (h12 : f x9 = .inl (0, m11, .inl g11)) (h13 : x9 < n ∨ x9 = mi_SC) (h14 : mi_ix l5 m11 i11) (h15 : ¬ (g11 i11) = l4 → mi_W d 163 143 [some (.ref l1), some (.int l2), some (.int l3), some (.int l4), some (.int l5)] [] (n, sl, f) Q) (h16 : ¬ (¬ (g11 i11) = l4) → mi_W d 163 120 [some (.ref l1), some (.int l2), some (.int l3), some (.int l4), some (.int l5)] [] (n, sl, f) Q) : mi_W d 163 109 [some (.ref l1), some (.int l2), some (.int l3), some (.int l4), some (.int l5)] [] (n, sl, f) Q := by
  refine w_aload_n cd_163_109 rfl ?_
  refine w_getfield cd_163_110 (show mt_f 12 135 = some (12, 38) by decide +kernel) h7 h8 h10 ?_
  refine w_iload cd_163_113 rfl ?_
  refine w_iaload cd_163_115 h12 h13 h14 ?_
  refine w_iload_n cd_163_116 rfl ?_
  exact w_if_icmpne cd_163_117 (by decide) h15 h16
theorem b_163_120 {d : Nat} {Q : (Option Value ⊕ Nat) → mi_H → Prop} (n sl : Nat) (f : Nat → mi_C) {l1 : Nat} {l2 : Int32} {l3 : Int32} {l4 : Int32} {l5 : Int32} {fs6 : List Value} {x9 : Nat} (m11 i11 : Nat) (g11 : Nat → Int32) {fs15 : List Value} {x18 : Nat} (m20 i20 : Nat) (g20 : Nat → Int32) {fs24 : List Value} (h7 : f l1 = .inr (12, fs6)) (h8 : l1 < n) (h10 : fs6[36]? = some (.ref x9)) (h12 : f x9 = .inl (0, m11, .inl g11)) (h13 : x9 < n ∨ x9 = mi_SC) (h14 : mi_ix l5 m11 i11) (h16 : f l1 = .inr (12, fs15)) (h17 : l1 < n) (h19 : fs15[37]? = some (.ref x18)) (h21 : f x18 = .inl (0, m20, .inl g20)) (h22 : x18 < n ∨ x18 = mi_SC) (h23 : mi_ix l5 m20 i20) (h25 : f l1 = .inr (12, fs24)) (h26 : l1 < n) (h27 : mi_W d 164 0 (mi_en 6 [.ref l1, .int (g11 i11), .int (g20 i20), .int l2, .int l3]) [] (n, sl, f) (mi_Kc d 163 137 [some (.ref l1), some (.int l2), some (.int l3), some (.int l4), some (.int l5)] [] Q)) : mi_W (d + 1) 163 120 [some (.ref l1), some (.int l2), some (.int l3), some (.int l4), some (.int l5)] [] (n, sl, f) Q := by
  refine w_aload_n cd_163_120 rfl ?_
  refine w_aload_n cd_163_121 rfl ?_
  refine w_getfield cd_163_122 (show mt_f 12 129 = some (12, 36) by decide +kernel) h7 h8 h10 ?_
  refine w_iload cd_163_125 rfl ?_
  refine w_iaload cd_163_127 h12 h13 h14 ?_
  refine w_aload_n cd_163_128 rfl ?_
  refine w_getfield cd_163_129 (show mt_f 12 132 = some (12, 37) by decide +kernel) h16 h17 h19 ?_
  refine w_iload cd_163_132 rfl ?_
  refine w_iaload cd_163_134 h21 h22 h23 ?_
  refine w_iload_n cd_163_135 rfl ?_
  refine w_iload_n cd_163_136 rfl ?_
  exact w_invokevirtual cd_163_137 (show mt_m 12 366 = some (164, 0) by decide +kernel) (rest := []) rfl (as := [.ref l1, .int (g11 i11), .int (g20 i20), .int l2, .int l3]) rfl h25 (Or.inl h26) ⟨Nat.le_of_ble_eq_true rfl, Nat.le_of_ble_eq_true rfl, Nat.le_of_ble_eq_true rfl⟩ h27
theorem b_163_140 {d : Nat} {Q : (Option Value ⊕ Nat) → mi_H → Prop} (n sl : Nat) (f : Nat → mi_C) {l1 : Nat} {l2 : Int32} {l3 : Int32} {l4 : Int32} {l5 : Int32} {s6 : Int32} (h7 : ¬ s6 = (0 : Int32) → mi_W d 163 149 [some (.ref l1), some (.int l2), some (.int l3), some (.int l4), some (.int l5)] [] (n, sl, f) Q) (h8 : ¬ (¬ s6 = (0 : Int32)) → mi_W d 163 143 [some (.ref l1), some (.int l2), some (.int l3), some (.int l4), some (.int l5)] [] (n, sl, f) Q) : mi_W d 163 140 [some (.ref l1), some (.int l2), some (.int l3), some (.int l4), some (.int l5)] [.int s6] (n, sl, f) Q := by
  exact w_ifne cd_163_140 (by decide) h7 h8
theorem b_163_143 {d : Nat} {Q : (Option Value ⊕ Nat) → mi_H → Prop} (n sl : Nat) (f : Nat → mi_C) {l1 : Nat} {l2 : Int32} {l3 : Int32} {l4 : Int32} {l5 : Int32} (h6 : mi_W d 163 100 [some (.ref l1), some (.int l2), some (.int l3), some (.int l4), some (.int (l5 + 1))] [] (n, sl, f) Q) : mi_W d 163 143 [some (.ref l1), some (.int l2), some (.int l3), some (.int l4), some (.int l5)] [] (n, sl, f) Q := by
  refine w_iinc (v := 1) (ls' := [some (.ref l1), some (.int l2), some (.int l3), some (.int l4), some (.int (l5 + 1))]) cd_163_143 rfl (by decide) rfl ?_
  exact w_goto cd_163_146 (by decide) h6
theorem b_163_149 {d : Nat} {Q : (Option Value ⊕ Nat) → mi_H → Prop} (n sl : Nat) (f : Nat → mi_C) {l1 : Nat} {l2 : Int32} {l3 : Int32} {l4 : Int32} {l5 : Int32} (h6 : ¬ l5 = 8 → mi_W d 163 164 [some (.ref l1), some (.int l2), some (.int l3), some (.int l4), some (.int l5)] [] (n, sl, f) Q) (h7 : ¬ (¬ l5 = 8) → mi_W d 163 156 [some (.ref l1), some (.int l2), some (.int l3), some (.int l4), some (.int l5)] [] (n, sl, f) Q) : mi_W d 163 149 [some (.ref l1), some (.int l2), some (.int l3), some (.int l4), some (.int l5)] [] (n, sl, f) Q := by
  refine w_iload cd_163_149 rfl ?_
  refine w_bipush (v := 8) cd_163_151 (by decide) ?_
  exact w_if_icmpne cd_163_153 (by decide) h6 h7
theorem b_163_156 {d : Nat} {Q : (Option Value ⊕ Nat) → mi_H → Prop} (n sl : Nat) (f : Nat → mi_C) {l1 : Nat} {l2 : Int32} {l3 : Int32} {l4 : Int32} {l5 : Int32} {fs6 : List Value} (h7 : f l1 = .inr (12, fs6)) (h8 : l1 < n) (h9 : mi_W d 142 0 (mi_en 2 [.ref l1, .int l2]) [] (n, sl, f) (mi_Kc d 163 158 [some (.ref l1), some (.int l2), some (.int l3), some (.int l4), some (.int l5)] [] Q)) : mi_W (d + 1) 163 156 [some (.ref l1), some (.int l2), some (.int l3), some (.int l4), some (.int l5)] [] (n, sl, f) Q := by
  refine w_aload_n cd_163_156 rfl ?_
  refine w_iload_n cd_163_157 rfl ?_
  exact w_invokevirtual cd_163_158 (show mt_m 12 272 = some (142, 0) by decide +kernel) (rest := []) rfl (as := [.ref l1, .int l2]) rfl h7 (Or.inl h8) ⟨Nat.le_of_ble_eq_true rfl, Nat.le_of_ble_eq_true rfl, Nat.le_of_ble_eq_true rfl⟩ h9
theorem b_163_161 {d : Nat} {Q : (Option Value ⊕ Nat) → mi_H → Prop} (n sl : Nat) (f : Nat → mi_C) {l1 : Nat} {l2 : Int32} {l3 : Int32} {l4 : Int32} {l5 : Int32} {s6 : Int32} (h7 : Q (.inl (some (.int (-1)))) (n, sl, f)) : mi_W d 163 161 [some (.ref l1), some (.int l2), some (.int l3), some (.int l4), some (.int l5)] [.int s6] (n, sl, f) Q := by
  refine w_pop_i cd_163_161 ?_
  refine w_iconst (v := (-1)) cd_163_162 (by decide) ?_
  exact w_ireturn_i cd_163_163 (by decide +kernel) h7
theorem b_163_164 {d : Nat} {Q : (Option Value ⊕ Nat) → mi_H → Prop} (n sl : Nat) (f : Nat → mi_C) {l1 : Nat} {l2 : Int32} {l3 : Int32} {l4 : Int32} {l5 : Int32} {fs6 : List Value} (h7 : f l1 = .inr (12, fs6)) (h8 : l1 < n) (h9 : mi_W d 158 0 (mi_en 2 [.ref l1]) [] (n, sl, f) (mi_Kc d 163 165 [some (.ref l1), some (.int l2), some (.int l3), some (.int l4), some (.int l5)] [] Q)) : mi_W (d + 1) 163 164 [some (.ref l1), some (.int l2), some (.int l3), some (.int l4), some (.int l5)] [] (n, sl, f) Q := by
  refine w_aload_n cd_163_164 rfl ?_
  exact w_invokevirtual cd_163_165 (show mt_m 12 370 = some (158, 0) by decide +kernel) (rest := []) rfl (as := [.ref l1]) rfl h7 (Or.inl h8) ⟨Nat.le_of_ble_eq_true rfl, Nat.le_of_ble_eq_true rfl, Nat.le_of_ble_eq_true rfl⟩ h9
theorem b_163_168 {d : Nat} {Q : (Option Value ⊕ Nat) → mi_H → Prop} (n sl : Nat) (f : Nat → mi_C) {l1 : Nat} {l2 : Int32} {l3 : Int32} {l4 : Int32} {l5 : Int32} {s6 : Int32} (h7 : (0 : Int32) ≤ s6 → mi_W d 163 173 [some (.ref l1), some (.int l2), some (.int l3), some (.int l4), some (.int l5)] [] (n, sl, f) Q) (h8 : ¬ ((0 : Int32) ≤ s6) → mi_W d 163 171 [some (.ref l1), some (.int l2), some (.int l3), some (.int l4), some (.int l5)] [] (n, sl, f) Q) : mi_W d 163 168 [some (.ref l1), some (.int l2), some (.int l3), some (.int l4), some (.int l5)] [.int s6] (n, sl, f) Q := by
  exact w_ifge cd_163_168 (by decide) h7 h8
theorem b_163_171 {d : Nat} {Q : (Option Value ⊕ Nat) → mi_H → Prop} (n sl : Nat) (f : Nat → mi_C) {l1 : Nat} {l2 : Int32} {l3 : Int32} {l4 : Int32} {l5 : Int32} (h6 : Q (.inl (some (.int (-1)))) (n, sl, f)) : mi_W d 163 171 [some (.ref l1), some (.int l2), some (.int l3), some (.int l4), some (.int l5)] [] (n, sl, f) Q := by
  refine w_iconst (v := (-1)) cd_163_171 (by decide) ?_
  exact w_ireturn_i cd_163_172 (by decide +kernel) h6
theorem b_163_173 {d : Nat} {Q : (Option Value ⊕ Nat) → mi_H → Prop} (n sl : Nat) (f : Nat → mi_C) {l1 : Nat} {l2 : Int32} {l3 : Int32} {l4 : Int32} {l5 : Int32} {fs6 : List Value} {x9 : Int32} (h7 : f l1 = .inr (12, fs6)) (h8 : l1 < n) (h10 : fs6[26]? = some (.int x9)) (h11 : ¬ l5 = x9 → mi_W d 163 216 [some (.ref l1), some (.int l2), some (.int l3), some (.int l4), some (.int l5)] [] (n, sl, f) Q) (h12 : ¬ (¬ l5 = x9) → mi_W d 163 182 [some (.ref l1), some (.int l2), some (.int l3), some (.int l4), some (.int l5)] [] (n, sl, f) Q) : mi_W d 163 173 [some (.ref l1), some (.int l2), some (.int l3), some (.int l4), some (.int l5)] [] (n, sl, f) Q := by
  refine w_iload cd_163_173 rfl ?_
  refine w_aload_n cd_163_175 rfl ?_
  refine w_getfield cd_163_176 (show mt_f 12 349 = some (12, 26) by decide +kernel) h7 h8 h10 ?_
  exact w_if_icmpne cd_163_179 (by decide) h11 h12
theorem b_163_182 {d : Nat} {Q : (Option Value ⊕ Nat) → mi_H → Prop} (n sl : Nat) (f : Nat → mi_C) {l1 : Nat} {l2 : Int32} {l3 : Int32} {l4 : Int32} {l5 : Int32} {fs6 : List Value} {x9 : Nat} (m11 i11 : Nat) (g11 : Nat → Int32) {fs15 : List Value} {x18 : Nat} (m20 i20 : Nat) (g20 : Nat → Int32) {fs24 : List Value} {x27 : Nat} (m29 i29 : Nat) (g29 : Nat → Int32) {fs33 : List Value} {x36 : Int32} {fs38 : List Value} (h7 : f l1 = .inr (12, fs6)) (h8 : l1 < n) (h10 : fs6[36]? = some (.ref x9)) (h12 : f x9 = .inl (0, m11, .inl g11)) (h13 : x9 < n) (h14 : mi_ix l5 m11 i11) (h16 : (va_up f x9 (.inl (0, m11, .inl (upd g11 i11 l2)))) l1 = .inr (12, fs15)) (h17 : l1 < n) (h19 : fs15[37]? = some (.ref x18)) (h21 : (va_up f x9 (.inl (0, m11, .inl (upd g11 i11 l2)))) x18 = .inl (0, m20, .inl g20)) (h22 : x18 < n) (h23 : mi_ix l5 m20 i20) (h25 : (va_up (va_up f x9 (.inl (0, m11, .inl (upd g11 i11 l2)))) x18 (.inl (0, m20, .inl (upd g20 i20 l3)))) l1 = .inr (12, fs24)) (h26 : l1 < n) (h28 : fs24[38]? = some (.ref x27)) (h30 : (va_up (va_up f x9 (.inl (0, m11, .inl (upd g11 i11 l2)))) x18 (.inl (0, m20, .inl (upd g20 i20 l3)))) x27 = .inl (0, m29, .inl g29)) (h31 : x27 < n) (h32 : mi_ix l5 m29 i29) (h34 : (va_up (va_up (va_up f x9 (.inl (0, m11, .inl (upd g11 i11 l2)))) x18 (.inl (0, m20, .inl (upd g20 i20 l3)))) x27 (.inl (0, m29, .inl (upd g29 i29 l4)))) l1 = .inr (12, fs33)) (h35 : l1 < n) (h37 : fs33[26]? = some (.int x36)) (h39 : (va_up (va_up (va_up f x9 (.inl (0, m11, .inl (upd g11 i11 l2)))) x18 (.inl (0, m20, .inl (upd g20 i20 l3)))) x27 (.inl (0, m29, .inl (upd g29 i29 l4)))) l1 = .inr (12, fs38)) (h40 : l1 < n) (h41 : 26 < fs38.length) (h42 : mi_W d 163 216 [some (.ref l1), some (.int l2), some (.int l3), some (.int l4), some (.int l5)] [] (n, sl, (va_up (va_up (va_up (va_up f x9 (.inl (0, m11, .inl (upd g11 i11 l2)))) x18 (.inl (0, m20, .inl (upd g20 i20 l3)))) x27 (.inl (0, m29, .inl (upd g29 i29 l4)))) l1 (.inr (12, fs38.set 26 (.int (x36 + 1)))))) Q) : mi_W d 163 182 [some (.ref l1), some (.int l2), some (.int l3), some (.int l4), some (.int l5)] [] (n, sl, f) Q := by
  refine w_aload_n cd_163_182 rfl ?_
  refine w_getfield cd_163_183 (show mt_f 12 129 = some (12, 36) by decide +kernel) h7 h8 h10 ?_
  refine w_iload cd_163_186 rfl ?_
  refine w_iload_n cd_163_188 rfl ?_
  refine w_iastore cd_163_189 h12 h13 h14 ?_
  refine w_aload_n cd_163_190 rfl ?_
  refine w_getfield cd_163_191 (show mt_f 12 132 = some (12, 37) by decide +kernel) h16 h17 h19 ?_
  refine w_iload cd_163_194 rfl ?_
  refine w_iload_n cd_163_196 rfl ?_
  refine w_iastore cd_163_197 h21 h22 h23 ?_
  refine w_aload_n cd_163_198 rfl ?_
  refine w_getfield cd_163_199 (show mt_f 12 135 = some (12, 38) by decide +kernel) h25 h26 h28 ?_
  refine w_iload cd_163_202 rfl ?_
  refine w_iload_n cd_163_204 rfl ?_
  refine w_iastore cd_163_205 h30 h31 h32 ?_
  refine w_aload_n cd_163_206 rfl ?_
  refine w_dup_r cd_163_207 ?_
  refine w_getfield cd_163_208 (show mt_f 12 349 = some (12, 26) by decide +kernel) h34 h35 h37 ?_
  refine w_iconst (v := 1) cd_163_211 (by decide) ?_
  refine w_iadd cd_163_212 ?_
  refine w_putfield (w := .int (x36 + 1)) cd_163_213 (show mt_f 12 349 = some (12, 26) by decide +kernel) h39 h40 ⟨h41, rfl, Or.inl (by decide)⟩ ?_
  exact h42
theorem b_163_216 {d : Nat} {Q : (Option Value ⊕ Nat) → mi_H → Prop} (n sl : Nat) (f : Nat → mi_C) {l1 : Nat} {l2 : Int32} {l3 : Int32} {l4 : Int32} {l5 : Int32} (h6 : Q (.inl (some (.int l5))) (n, sl, f)) : mi_W d 163 216 [some (.ref l1), some (.int l2), some (.int l3), some (.int l4), some (.int l5)] [] (n, sl, f) Q := by
  refine w_iload cd_163_216 rfl ?_
  exact w_ireturn_i cd_163_218 (by decide +kernel) h6
end
