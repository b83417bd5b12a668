section
/-! MarloweHostModel.state(III)J -/
set_option maxRecDepth 100000 in
theorem mq_193 : mt_q 193 = my_193 := rfl
set_option maxRecDepth 100000 in
theorem ci_193 : mt_inc 0 my_193.cd = true := by decide +kernel
theorem cd_193_0 : mt_cd 193 0 = some (.aload_n 0) := mt_cd_of (q := (0, .aload_n 0, 1)) mq_193 ci_193 (List.mem_of_getElem? (i := 0) rfl)
theorem cd_193_1 : mt_cd 193 1 = some (.iconst 0) := mt_cd_of (q := (1, .iconst 0, 1)) mq_193 ci_193 (List.mem_of_getElem? (i := 1) rfl)
theorem cd_193_2 : mt_cd 193 2 = some (.putfield 248) := mt_cd_of (q := (2, .putfield 248, 3)) mq_193 ci_193 (List.mem_of_getElem? (i := 2) rfl)
theorem cd_193_5 : mt_cd 193 5 = some (.aload_n 0) := mt_cd_of (q := (5, .aload_n 0, 1)) mq_193 ci_193 (List.mem_of_getElem? (i := 3) rfl)
theorem cd_193_6 : mt_cd 193 6 = some (.iload_n 1) := mt_cd_of (q := (6, .iload_n 1, 1)) mq_193 ci_193 (List.mem_of_getElem? (i := 4) rfl)
theorem cd_193_7 : mt_cd 193 7 = some (.i2l) := mt_cd_of (q := (7, .i2l, 1)) mq_193 ci_193 (List.mem_of_getElem? (i := 5) rfl)
theorem cd_193_8 : mt_cd 193 8 = some (.lconst 0) := mt_cd_of (q := (8, .lconst 0, 1)) mq_193 ci_193 (List.mem_of_getElem? (i := 6) rfl)
theorem cd_193_9 : mt_cd 193 9 = some (.ldc2_w 552) := mt_cd_of (q := (9, .ldc2_w 552, 3)) mq_193 ci_193 (List.mem_of_getElem? (i := 7) rfl)
theorem cd_193_12 : mt_cd 193 12 = some (.invokestatic 268) := mt_cd_of (q := (12, .invokestatic 268, 3)) mq_193 ci_193 (List.mem_of_getElem? (i := 8) rfl)
theorem cd_193_15 : mt_cd 193 15 = some (.ifCond .eq 27) := mt_cd_of (q := (15, .ifCond .eq 27, 3)) mq_193 ci_193 (List.mem_of_getElem? (i := 9) rfl)
theorem cd_193_18 : mt_cd 193 18 = some (.iload_n 2) := mt_cd_of (q := (18, .iload_n 2, 1)) mq_193 ci_193 (List.mem_of_getElem? (i := 10) rfl)
theorem cd_193_19 : mt_cd 193 19 = some (.i2l) := mt_cd_of (q := (19, .i2l, 1)) mq_193 ci_193 (List.mem_of_getElem? (i := 11) rfl)
theorem cd_193_20 : mt_cd 193 20 = some (.lconst 0) := mt_cd_of (q := (20, .lconst 0, 1)) mq_193 ci_193 (List.mem_of_getElem? (i := 12) rfl)
theorem cd_193_21 : mt_cd 193 21 = some (.ldc2_w 542) := mt_cd_of (q := (21, .ldc2_w 542, 3)) mq_193 ci_193 (List.mem_of_getElem? (i := 13) rfl)
theorem cd_193_24 : mt_cd 193 24 = some (.invokestatic 268) := mt_cd_of (q := (24, .invokestatic 268, 3)) mq_193 ci_193 (List.mem_of_getElem? (i := 14) rfl)
theorem cd_193_27 : mt_cd 193 27 = some (.ifCond .eq 15) := mt_cd_of (q := (27, .ifCond .eq 15, 3)) mq_193 ci_193 (List.mem_of_getElem? (i := 15) rfl)
theorem cd_193_30 : mt_cd 193 30 = some (.iload_n 3) := mt_cd_of (q := (30, .iload_n 3, 1)) mq_193 ci_193 (List.mem_of_getElem? (i := 16) rfl)
theorem cd_193_31 : mt_cd 193 31 = some (.i2l) := mt_cd_of (q := (31, .i2l, 1)) mq_193 ci_193 (List.mem_of_getElem? (i := 17) rfl)
theorem cd_193_32 : mt_cd 193 32 = some (.lconst 0) := mt_cd_of (q := (32, .lconst 0, 1)) mq_193 ci_193 (List.mem_of_getElem? (i := 18) rfl)
theorem cd_193_33 : mt_cd 193 33 = some (.ldc2_w 544) := mt_cd_of (q := (33, .ldc2_w 544, 3)) mq_193 ci_193 (List.mem_of_getElem? (i := 19) rfl)
theorem cd_193_36 : mt_cd 193 36 = some (.invokestatic 268) := mt_cd_of (q := (36, .invokestatic 268, 3)) mq_193 ci_193 (List.mem_of_getElem? (i := 20) rfl)
theorem cd_193_39 : mt_cd 193 39 = some (.ifCond .ne 7) := mt_cd_of (q := (39, .ifCond .ne 7, 3)) mq_193 ci_193 (List.mem_of_getElem? (i := 21) rfl)
theorem cd_193_42 : mt_cd 193 42 = some (.iconst 1) := mt_cd_of (q := (42, .iconst 1, 1)) mq_193 ci_193 (List.mem_of_getElem? (i := 22) rfl)
theorem cd_193_43 : mt_cd 193 43 = some (.goto 4) := mt_cd_of (q := (43, .goto 4, 3)) mq_193 ci_193 (List.mem_of_getElem? (i := 23) rfl)
theorem cd_193_46 : mt_cd 193 46 = some (.iconst 0) := mt_cd_of (q := (46, .iconst 0, 1)) mq_193 ci_193 (List.mem_of_getElem? (i := 24) rfl)
theorem cd_193_47 : mt_cd 193 47 = some (.iconst 1) := mt_cd_of (q := (47, .iconst 1, 1)) mq_193 ci_193 (List.mem_of_getElem? (i := 25) rfl)
theorem cd_193_48 : mt_cd 193 48 = some (.invokevirtual 254) := mt_cd_of (q := (48, .invokevirtual 254, 3)) mq_193 ci_193 (List.mem_of_getElem? (i := 26) rfl)
theorem cd_193_51 : mt_cd 193 51 = some (.ifCond .ne 28) := mt_cd_of (q := (51, .ifCond .ne 28, 3)) mq_193 ci_193 (List.mem_of_getElem? (i := 27) rfl)
theorem cd_193_54 : mt_cd 193 54 = some (.aload_n 0) := mt_cd_of (q := (54, .aload_n 0, 1)) mq_193 ci_193 (List.mem_of_getElem? (i := 28) rfl)
theorem cd_193_55 : mt_cd 193 55 = some (.iload_n 1) := mt_cd_of (q := (55, .iload_n 1, 1)) mq_193 ci_193 (List.mem_of_getElem? (i := 29) rfl)
theorem cd_193_56 : mt_cd 193 56 = some (.iconst 1) := mt_cd_of (q := (56, .iconst 1, 1)) mq_193 ci_193 (List.mem_of_getElem? (i := 30) rfl)
theorem cd_193_57 : mt_cd 193 57 = some (.if_icmp .eq 14) := mt_cd_of (q := (57, .if_icmp .eq 14, 3)) mq_193 ci_193 (List.mem_of_getElem? (i := 31) rfl)
theorem cd_193_60 : mt_cd 193 60 = some (.aload_n 0) := mt_cd_of (q := (60, .aload_n 0, 1)) mq_193 ci_193 (List.mem_of_getElem? (i := 32) rfl)
theorem cd_193_61 : mt_cd 193 61 = some (.getfield 13) := mt_cd_of (q := (61, .getfield 13, 3)) mq_193 ci_193 (List.mem_of_getElem? (i := 33) rfl)
theorem cd_193_64 : mt_cd 193 64 = some (.ifCond .ge 7) := mt_cd_of (q := (64, .ifCond .ge 7, 3)) mq_193 ci_193 (List.mem_of_getElem? (i := 34) rfl)
theorem cd_193_67 : mt_cd 193 67 = some (.iconst 1) := mt_cd_of (q := (67, .iconst 1, 1)) mq_193 ci_193 (List.mem_of_getElem? (i := 35) rfl)
theorem cd_193_68 : mt_cd 193 68 = some (.goto 4) := mt_cd_of (q := (68, .goto 4, 3)) mq_193 ci_193 (List.mem_of_getElem? (i := 36) rfl)
theorem cd_193_71 : mt_cd 193 71 = some (.iconst 0) := mt_cd_of (q := (71, .iconst 0, 1)) mq_193 ci_193 (List.mem_of_getElem? (i := 37) rfl)
theorem cd_193_72 : mt_cd 193 72 = some (.iconst 2) := mt_cd_of (q := (72, .iconst 2, 1)) mq_193 ci_193 (List.mem_of_getElem? (i := 38) rfl)
theorem cd_193_73 : mt_cd 193 73 = some (.invokevirtual 254) := mt_cd_of (q := (73, .invokevirtual 254, 3)) mq_193 ci_193 (List.mem_of_getElem? (i := 39) rfl)
theorem cd_193_76 : mt_cd 193 76 = some (.ifCond .eq 5) := mt_cd_of (q := (76, .ifCond .eq 5, 3)) mq_193 ci_193 (List.mem_of_getElem? (i := 40) rfl)
theorem cd_193_79 : mt_cd 193 79 = some (.lconst 0) := mt_cd_of (q := (79, .lconst 0, 1)) mq_193 ci_193 (List.mem_of_getElem? (i := 41) rfl)
theorem cd_193_80 : mt_cd 193 80 = some (.lreturn) := mt_cd_of (q := (80, .lreturn, 1)) mq_193 ci_193 (List.mem_of_getElem? (i := 42) rfl)
theorem cd_193_81 : mt_cd 193 81 = some (.iload_n 1) := mt_cd_of (q := (81, .iload_n 1, 1)) mq_193 ci_193 (List.mem_of_getElem? (i := 43) rfl)
theorem cd_193_82 : mt_cd 193 82 = some (.tableswitch 107 0 3 #[30, 44, 55, 81]) := mt_cd_of (q := (82, .tableswitch 107 0 3 #[30, 44, 55, 81], 30)) mq_193 ci_193 (List.mem_of_getElem? (i := 44) rfl)
theorem cd_193_112 : mt_cd 193 112 = some (.aload_n 0) := mt_cd_of (q := (112, .aload_n 0, 1)) mq_193 ci_193 (List.mem_of_getElem? (i := 45) rfl)
theorem cd_193_113 : mt_cd 193 113 = some (.getfield 147) := mt_cd_of (q := (113, .getfield 147, 3)) mq_193 ci_193 (List.mem_of_getElem? (i := 46) rfl)
theorem cd_193_116 : mt_cd 193 116 = some (.getfield 448) := mt_cd_of (q := (116, .getfield 448, 3)) mq_193 ci_193 (List.mem_of_getElem? (i := 47) rfl)
theorem cd_193_119 : mt_cd 193 119 = some (.iconst 4) := mt_cd_of (q := (119, .iconst 4, 1)) mq_193 ci_193 (List.mem_of_getElem? (i := 48) rfl)
theorem cd_193_120 : mt_cd 193 120 = some (.iload_n 2) := mt_cd_of (q := (120, .iload_n 2, 1)) mq_193 ci_193 (List.mem_of_getElem? (i := 49) rfl)
theorem cd_193_121 : mt_cd 193 121 = some (.imul) := mt_cd_of (q := (121, .imul, 1)) mq_193 ci_193 (List.mem_of_getElem? (i := 50) rfl)
theorem cd_193_122 : mt_cd 193 122 = some (.iload_n 3) := mt_cd_of (q := (122, .iload_n 3, 1)) mq_193 ci_193 (List.mem_of_getElem? (i := 51) rfl)
theorem cd_193_123 : mt_cd 193 123 = some (.iadd) := mt_cd_of (q := (123, .iadd, 1)) mq_193 ci_193 (List.mem_of_getElem? (i := 52) rfl)
theorem cd_193_124 : mt_cd 193 124 = some (.laload) := mt_cd_of (q := (124, .laload, 1)) mq_193 ci_193 (List.mem_of_getElem? (i := 53) rfl)
theorem cd_193_125 : mt_cd 193 125 = some (.lreturn) := mt_cd_of (q := (125, .lreturn, 1)) mq_193 ci_193 (List.mem_of_getElem? (i := 54) rfl)
theorem cd_193_126 : mt_cd 193 126 = some (.aload_n 0) := mt_cd_of (q := (126, .aload_n 0, 1)) mq_193 ci_193 (List.mem_of_getElem? (i := 55) rfl)
theorem cd_193_127 : mt_cd 193 127 = some (.getfield 175) := mt_cd_of (q := (127, .getfield 175, 3)) mq_193 ci_193 (List.mem_of_getElem? (i := 56) rfl)
theorem cd_193_130 : mt_cd 193 130 = some (.iconst 4) := mt_cd_of (q := (130, .iconst 4, 1)) mq_193 ci_193 (List.mem_of_getElem? (i := 57) rfl)
theorem cd_193_131 : mt_cd 193 131 = some (.iload_n 2) := mt_cd_of (q := (131, .iload_n 2, 1)) mq_193 ci_193 (List.mem_of_getElem? (i := 58) rfl)
theorem cd_193_132 : mt_cd 193 132 = some (.imul) := mt_cd_of (q := (132, .imul, 1)) mq_193 ci_193 (List.mem_of_getElem? (i := 59) rfl)
theorem cd_193_133 : mt_cd 193 133 = some (.iload_n 3) := mt_cd_of (q := (133, .iload_n 3, 1)) mq_193 ci_193 (List.mem_of_getElem? (i := 60) rfl)
theorem cd_193_134 : mt_cd 193 134 = some (.iadd) := mt_cd_of (q := (134, .iadd, 1)) mq_193 ci_193 (List.mem_of_getElem? (i := 61) rfl)
theorem cd_193_135 : mt_cd 193 135 = some (.laload) := mt_cd_of (q := (135, .laload, 1)) mq_193 ci_193 (List.mem_of_getElem? (i := 62) rfl)
theorem cd_193_136 : mt_cd 193 136 = some (.lreturn) := mt_cd_of (q := (136, .lreturn, 1)) mq_193 ci_193 (List.mem_of_getElem? (i := 63) rfl)
theorem cd_193_137 : mt_cd 193 137 = some (.aload_n 0) := mt_cd_of (q := (137, .aload_n 0, 1)) mq_193 ci_193 (List.mem_of_getElem? (i := 64) rfl)
theorem cd_193_138 : mt_cd 193 138 = some (.getfield 147) := mt_cd_of (q := (138, .getfield 147, 3)) mq_193 ci_193 (List.mem_of_getElem? (i := 65) rfl)
theorem cd_193_141 : mt_cd 193 141 = some (.getfield 459) := mt_cd_of (q := (141, .getfield 459, 3)) mq_193 ci_193 (List.mem_of_getElem? (i := 66) rfl)
theorem cd_193_144 : mt_cd 193 144 = some (.iload_n 2) := mt_cd_of (q := (144, .iload_n 2, 1)) mq_193 ci_193 (List.mem_of_getElem? (i := 67) rfl)
theorem cd_193_145 : mt_cd 193 145 = some (.baload) := mt_cd_of (q := (145, .baload, 1)) mq_193 ci_193 (List.mem_of_getElem? (i := 68) rfl)
theorem cd_193_146 : mt_cd 193 146 = some (.ifCond .eq 15) := mt_cd_of (q := (146, .ifCond .eq 15, 3)) mq_193 ci_193 (List.mem_of_getElem? (i := 69) rfl)
theorem cd_193_149 : mt_cd 193 149 = some (.aload_n 0) := mt_cd_of (q := (149, .aload_n 0, 1)) mq_193 ci_193 (List.mem_of_getElem? (i := 70) rfl)
theorem cd_193_150 : mt_cd 193 150 = some (.getfield 147) := mt_cd_of (q := (150, .getfield 147, 3)) mq_193 ci_193 (List.mem_of_getElem? (i := 71) rfl)
theorem cd_193_153 : mt_cd 193 153 = some (.getfield 463) := mt_cd_of (q := (153, .getfield 463, 3)) mq_193 ci_193 (List.mem_of_getElem? (i := 72) rfl)
theorem cd_193_156 : mt_cd 193 156 = some (.iload_n 2) := mt_cd_of (q := (156, .iload_n 2, 1)) mq_193 ci_193 (List.mem_of_getElem? (i := 73) rfl)
theorem cd_193_157 : mt_cd 193 157 = some (.laload) := mt_cd_of (q := (157, .laload, 1)) mq_193 ci_193 (List.mem_of_getElem? (i := 74) rfl)
theorem cd_193_158 : mt_cd 193 158 = some (.goto 4) := mt_cd_of (q := (158, .goto 4, 3)) mq_193 ci_193 (List.mem_of_getElem? (i := 75) rfl)
theorem cd_193_161 : mt_cd 193 161 = some (.lconst 0) := mt_cd_of (q := (161, .lconst 0, 1)) mq_193 ci_193 (List.mem_of_getElem? (i := 76) rfl)
theorem cd_193_162 : mt_cd 193 162 = some (.lreturn) := mt_cd_of (q := (162, .lreturn, 1)) mq_193 ci_193 (List.mem_of_getElem? (i := 77) rfl)
theorem cd_193_163 : mt_cd 193 163 = some (.aload_n 0) := mt_cd_of (q := (163, .aload_n 0, 1)) mq_193 ci_193 (List.mem_of_getElem? (i := 78) rfl)
theorem cd_193_164 : mt_cd 193 164 = some (.getfield 147) := mt_cd_of (q := (164, .getfield 147, 3)) mq_193 ci_193 (List.mem_of_getElem? (i := 79) rfl)
theorem cd_193_167 : mt_cd 193 167 = some (.getfield 465) := mt_cd_of (q := (167, .getfield 465, 3)) mq_193 ci_193 (List.mem_of_getElem? (i := 80) rfl)
theorem cd_193_170 : mt_cd 193 170 = some (.iload_n 2) := mt_cd_of (q := (170, .iload_n 2, 1)) mq_193 ci_193 (List.mem_of_getElem? (i := 81) rfl)
theorem cd_193_171 : mt_cd 193 171 = some (.baload) := mt_cd_of (q := (171, .baload, 1)) mq_193 ci_193 (List.mem_of_getElem? (i := 82) rfl)
theorem cd_193_172 : mt_cd 193 172 = some (.ifCond .eq 15) := mt_cd_of (q := (172, .ifCond .eq 15, 3)) mq_193 ci_193 (List.mem_of_getElem? (i := 83) rfl)
theorem cd_193_175 : mt_cd 193 175 = some (.aload_n 0) := mt_cd_of (q := (175, .aload_n 0, 1)) mq_193 ci_193 (List.mem_of_getElem? (i := 84) rfl)
theorem cd_193_176 : mt_cd 193 176 = some (.getfield 147) := mt_cd_of (q := (176, .getfield 147, 3)) mq_193 ci_193 (List.mem_of_getElem? (i := 85) rfl)
theorem cd_193_179 : mt_cd 193 179 = some (.getfield 468) := mt_cd_of (q := (179, .getfield 468, 3)) mq_193 ci_193 (List.mem_of_getElem? (i := 86) rfl)
theorem cd_193_182 : mt_cd 193 182 = some (.iload_n 2) := mt_cd_of (q := (182, .iload_n 2, 1)) mq_193 ci_193 (List.mem_of_getElem? (i := 87) rfl)
theorem cd_193_183 : mt_cd 193 183 = some (.laload) := mt_cd_of (q := (183, .laload, 1)) mq_193 ci_193 (List.mem_of_getElem? (i := 88) rfl)
theorem cd_193_184 : mt_cd 193 184 = some (.goto 4) := mt_cd_of (q := (184, .goto 4, 3)) mq_193 ci_193 (List.mem_of_getElem? (i := 89) rfl)
theorem cd_193_187 : mt_cd 193 187 = some (.lconst 0) := mt_cd_of (q := (187, .lconst 0, 1)) mq_193 ci_193 (List.mem_of_getElem? (i := 90) rfl)
theorem cd_193_188 : mt_cd 193 188 = some (.lreturn) := mt_cd_of (q := (188, .lreturn, 1)) mq_193 ci_193 (List.mem_of_getElem? (i := 91) rfl)
theorem cd_193_189 : mt_cd 193 189 = some (.aload_n 0) := mt_cd_of (q := (189, .aload_n 0, 1)) mq_193 ci_193 (List.mem_of_getElem? (i := 92) rfl)
theorem cd_193_190 : mt_cd 193 190 = some (.getfield 147) := mt_cd_of (q := (190, .getfield 147, 3)) mq_193 ci_193 (List.mem_of_getElem? (i := 93) rfl)
theorem cd_193_193 : mt_cd 193 193 = some (.getfield 516) := mt_cd_of (q := (193, .getfield 516, 3)) mq_193 ci_193 (List.mem_of_getElem? (i := 94) rfl)
theorem cd_193_196 : mt_cd 193 196 = some (.lreturn) := mt_cd_of (q := (196, .lreturn, 1)) mq_193 ci_193 (List.mem_of_getElem? (i := 95) rfl)
theorem b_193_0 {d : Nat} {Q : (Option Value ⊕ Nat) → mi_H → Prop} (n sl : Nat) (f : Nat → mi_C) {l1 : Nat} {l2 : Int32} {l3 : Int32} {l4 : Int32} {fs5 : List Value} (h6 : f l1 = .inr (12, fs5)) (h7 : l1 < n) (h8 : 0 < fs5.length) (h9 : mi_W d 142 0 (mi_en 6 [.long ((l2 : Int32).toInt64), .long 0, .long 4]) [] (n, sl, (va_up f l1 (.inr (12, fs5.set 0 (.int 0))))) (mi_Kc d 193 12 [some (.ref l1), some (.int l2), some (.int l3), some (.int l4)] [.ref l1] Q)) : mi_W (d + 1) 193 0 [some (.ref l1), some (.int l2), some (.int l3), some (.int l4)] [] (n, sl, f) Q := by
  refine w_aload_n cd_193_0 rfl ?_
  refine w_iconst (v := 0) cd_193_1 (by decide) ?_
  refine w_putfield (w := .int 0) cd_193_2 (show mt_f 12 248 = some (12, 0) by decide +kernel) h6 h7 ⟨h8, rfl, Or.inl (by decide)⟩ ?_
  refine w_aload_n cd_193_5 rfl ?_
  refine w_iload_n cd_193_6 rfl ?_
  refine w_i2l cd_193_7 ?_
  refine w_lconst (lv := 0) cd_193_8 (by decide) ?_
  refine w_ldc2_w (lv := 4) cd_193_9 (by decide +kernel) ?_
  exact w_invokestatic cd_193_12 (show mt_m 12 268 = some (142, 4) by decide +kernel) (by decide) (rest := [.ref l1]) rfl (as := [.long ((l2 : Int32).toInt64), .long 0, .long 4]) rfl ⟨Nat.le_of_ble_eq_true rfl, Nat.le_of_ble_eq_true rfl, Nat.le_of_ble_eq_true rfl⟩ h9
theorem b_193_15 {d : Nat} {Q : (Option Value ⊕ Nat) → mi_H → Prop} (n sl : Nat) (f : Nat → mi_C) {l1 : Nat} {l2 : Int32} {l3 : Int32} {l4 : Int32} {s5 : Int32} {s6 : Nat} (h7 : s5 = (0 : Int32) → mi_W d 193 42 [some (.ref l1), some (.int l2), some (.int l3), some (.int l4)] [.ref s6] (n, sl, f) Q) (h8 : ¬ (s5 = (0 : Int32)) → mi_W d 193 18 [some (.ref l1), some (.int l2), some (.int l3), some (.int l4)] [.ref s6] (n, sl, f) Q) : mi_W d 193 15 [some (.ref l1), some (.int l2), some (.int l3), some (.int l4)] [.int s5, .ref s6] (n, sl, f) Q := by
  exact w_ifeq cd_193_15 (by decide) h7 h8
theorem b_193_18 {d : Nat} {Q : (Option Value ⊕ Nat) → mi_H → Prop} (n sl : Nat) (f : Nat → mi_C) {l1 : Nat} {l2 : Int32} {l3 : Int32} {l4 : Int32} {s5 : Nat} (h6 : mi_W d 142 0 (mi_en 6 [.long ((l3 : Int32).toInt64), .long 0, .long 7]) [] (n, sl, f) (mi_Kc d 193 24 [some (.ref l1), some (.int l2), some (.int l3), some (.int l4)] [.ref s5] Q)) : mi_W (d + 1) 193 18 [some (.ref l1), some (.int l2), some (.int l3), some (.int l4)] [.ref s5] (n, sl, f) Q := by
  refine w_iload_n cd_193_18 rfl ?_
  refine w_i2l cd_193_19 ?_
  refine w_lconst (lv := 0) cd_193_20 (by decide) ?_
  refine w_ldc2_w (lv := 7) cd_193_21 (by decide +kernel) ?_
  exact w_invokestatic cd_193_24 (show mt_m 12 268 = some (142, 4) by decide +kernel) (by decide) (rest := [.ref s5]) rfl (as := [.long ((l3 : Int32).toInt64), .long 0, .long 7]) rfl ⟨Nat.le_of_ble_eq_true rfl, Nat.le_of_ble_eq_true rfl, Nat.le_of_ble_eq_true rfl⟩ h6
theorem b_193_27 {d : Nat} {Q : (Option Value ⊕ Nat) → mi_H → Prop} (n sl : Nat) (f : Nat → mi_C) {l1 : Nat} {l2 : Int32} {l3 : Int32} {l4 : Int32} {s5 : Int32} {s6 : Nat} (h7 : s5 = (0 : Int32) → mi_W d 193 42 [some (.ref l1), some (.int l2), some (.int l3), some (.int l4)] [.ref s6] (n, sl, f) Q) (h8 : ¬ (s5 = (0 : Int32)) → mi_W d 193 30 [some (.ref l1), some (.int l2), some (.int l3), some (.int l4)] [.ref s6] (n, sl, f) Q) : mi_W d 193 27 [some (.ref l1), some (.int l2), some (.int l3), some (.int l4)] [.int s5, .ref s6] (n, sl, f) Q := by
  exact w_ifeq cd_193_27 (by decide) h7 h8
theorem b_193_30 {d : Nat} {Q : (Option Value ⊕ Nat) → mi_H → Prop} (n sl : Nat) (f : Nat → mi_C) {l1 : Nat} {l2 : Int32} {l3 : Int32} {l4 : Int32} {s5 : Nat} (h6 : mi_W d 142 0 (mi_en 6 [.long ((l4 : Int32).toInt64), .long 0, .long 3]) [] (n, sl, f) (mi_Kc d 193 36 [some (.ref l1), some (.int l2), some (.int l3), some (.int l4)] [.ref s5] Q)) : mi_W (d + 1) 193 30 [some (.ref l1), some (.int l2), some (.int l3), some (.int l4)] [.ref s5] (n, sl, f) Q := by
  refine w_iload_n cd_193_30 rfl ?_
  refine w_i2l cd_193_31 ?_
  refine w_lconst (lv := 0) cd_193_32 (by decide) ?_
  refine w_ldc2_w (lv := 3) cd_193_33 (by decide +kernel) ?_
  exact w_invokestatic cd_193_36 (show mt_m 12 268 = some (142, 4) by decide +kernel) (by decide) (rest := [.ref s5]) rfl (as := [.long ((l4 : Int32).toInt64), .long 0, .long 3]) rfl ⟨Nat.le_of_ble_eq_true rfl, Nat.le_of_ble_eq_true rfl, Nat.le_of_ble_eq_true rfl⟩ h6
theorem b_193_39 {d : Nat} {Q : (Option Value ⊕ Nat) → mi_H → Prop} (n sl : Nat) (f : Nat → mi_C) {l1 : Nat} {l2 : Int32} {l3 : Int32} {l4 : Int32} {s5 : Int32} {s6 : Nat} (h7 : ¬ s5 = (0 : Int32) → mi_W d 193 46 [some (.ref l1), some (.int l2), some (.int l3), some (.int l4)] [.ref s6] (n, sl, f) Q) (h8 : ¬ (¬ s5 = (0 : Int32)) → mi_W d 193 42 [some (.ref l1), some (.int l2), some (.int l3), some (.int l4)] [.ref s6] (n, sl, f) Q) : mi_W d 193 39 [some (.ref l1), some (.int l2), some (.int l3), some (.int l4)] [.int s5, .ref s6] (n, sl, f) Q := by
  exact w_ifne cd_193_39 (by decide) h7 h8
theorem b_193_42 {d : Nat} {Q : (Option Value ⊕ Nat) → mi_H → Prop} (n sl : Nat) (f : Nat → mi_C) {l1 : Nat} {l2 : Int32} {l3 : Int32} {l4 : Int32} {s5 : Nat} (h6 : mi_W d 193 47 [some (.ref l1), some (.int l2), some (.int l3), some (.int l4)] [.int 1, .ref s5] (n, sl, f) Q) : mi_W d 193 42 [some (.ref l1), some (.int l2), some (.int l3), some (.int l4)] [.ref s5] (n, sl, f) Q := by
  refine w_iconst (v := 1) cd_193_42 (by decide) ?_
  exact w_goto cd_193_43 (by decide) h6
theorem b_193_46 {d : Nat} {Q : (Option Value ⊕ Nat) → mi_H → Prop} (n sl : Nat) (f : Nat → mi_C) {l1 : Nat} {l2 : Int32} {l3 : Int32} {l4 : Int32} {s5 : Nat} (h6 : mi_W d 193 47 [some (.ref l1), some (.int l2), some (.int l3), some (.int l4)] [.int 0, .ref s5] (n, sl, f) Q) : mi_W d 193 46 [some (.ref l1), some (.int l2), some (.int l3), some (.int l4)] [.ref s5] (n, sl, f) Q := by
  refine w_iconst (v := 0) cd_193_46 (by decide) ?_
  exact h6
theorem b_193_47 {d : Nat} {Q : (Option Value ⊕ Nat) → mi_H → Prop} (n sl : Nat) (f : Nat → mi_C) {l1 : Nat} {l2 : Int32} {l3 : Int32} {l4 : Int32} {s5 : Int32} {s6 : Nat} {fs7 : List Value} (h8 : f s6 = .inr (12, fs7)) (h9 : s6 < n) (h10 : mi_W d 140 0 (mi_en 3 [.ref s6, .int s5, .int 1]) [] (n, sl, f) (mi_Kc d 193 48 [some (.ref l1), some (.int l2), some (.int l3), some (.int l4)] [] Q)) : mi_W (d + 1) 193 47 [some (.ref l1), some (.int l2), some (.int l3), some (.int l4)] [.int s5, .ref s6] (n, sl, f) Q := by
  refine w_iconst (v := 1) cd_193_47 (by decide) ?_
  exact w_invokevirtual cd_193_48 (show mt_m 12 254 = some (140, 0) by decide +kernel) (rest := []) rfl (as := [.ref s6, .int s5, .int 1]) rfl h8 (Or.inl h9) ⟨Nat.le_of_ble_eq_true rfl, Nat.le_of_ble_eq_true rfl, Nat.le_of_ble_eq_true rfl⟩ h10
theorem b_193_51 {d : Nat} {Q : (Option Value ⊕ Nat) → mi_H → Prop} (n sl : Nat) (f : Nat → mi_C) {l1 : Nat} {l2 : Int32} {l3 : Int32} {l4 : Int32} {s5 : Int32} (h6 : ¬ s5 = (0 : Int32) → mi_W d 193 79 [some (.ref l1), some (.int l2), some (.int l3), some (.int l4)] [] (n, sl, f) Q) (h7 : ¬ (¬ s5 = (0 : Int32)) → mi_W d 193 54 [some (.ref l1), some (.int l2), some (.int l3), some (.int l4)] [] (n, sl, f) Q) : mi_W d 193 51 [some (.ref l1), some (.int l2), some (.int l3), some (.int l4)] [.int s5] (n, sl, f) Q := by
  exact w_ifne cd_193_51 (by decide) h6 h7
theorem b_193_54 {d : Nat} {Q : (Option Value ⊕ Nat) → mi_H → Prop} (n sl : Nat) (f : Nat → mi_C) {l1 : Nat} {l2 : Int32} {l3 : Int32} {l4 : Int32} (h5 : l2 = 1 → mi_W d 193 71 [some (.ref l1), some (.int l2), some (.int l3), some (.int l4)] [.ref l1] (n, sl, f) Q) (h6 : ¬ (l2 = 1) → mi_W d 193 60 [some (.ref l1), some (.int l2), some (.int l3), some (.int l4)] [.ref l1] (n, sl, f) Q) : mi_W d 193 54 [some (.ref l1), some (.int l2), some (.int l3), some (.int l4)] [] (n, sl, f) Q := by
  refine w_aload_n cd_193_54 rfl ?_
  refine w_iload_n cd_193_55 rfl ?_
  refine w_iconst (v := 1) cd_193_56 (by decide) ?_
  exact w_if_icmpeq cd_193_57 (by decide) h5 h6
theorem b_193_60 {d : Nat} {Q : (Option Value ⊕ Nat) → mi_H → Prop} (n sl : Nat) (f : Nat → mi_C) {l1 : Nat} {l2 : Int32} {l3 : Int32} {l4 : Int32} {s5 : Nat} {fs6 : List Value} {x9 : Int32} (h7 : f l1 = .inr (12, fs6)) (h8 : l1 < n) (h10 : fs6[4]? = some (.int x9)) (h11 : (0 : Int32) ≤ x9 → mi_W d 193 71 [some (.ref l1), some (.int l2), some (.int l3), some (.int l4)] [.ref s5] (n, sl, f) Q) (h12 : ¬ ((0 : Int32) ≤ x9) → mi_W d 193 67 [some (.ref l1), some (.int l2), some (.int l3), some (.int l4)] [.ref s5] (n, sl, f) Q) : mi_W d 193 60 [some (.ref l1), some (.int l2), some (.int l3), some (.int l4)] [.ref s5] (n, sl, f) Q := by
  refine w_aload_n cd_193_60 rfl ?_
  refine w_getfield cd_193_61 (show mt_f 12 13 = some (12, 4) by decide +kernel) h7 h8 h10 ?_
  exact w_ifge cd_193_64 (by decide) h11 h12
theorem b_193_67 {d : Nat} {Q : (Option Value ⊕ Nat) → mi_H → Prop} (n sl : Nat) (f : Nat → mi_C) {l1 : Nat} {l2 : Int32} {l3 : Int32} {l4 : Int32} {s5 : Nat} (h6 : mi_W d 193 72 [some (.ref l1), some (.int l2), some (.int l3), some (.int l4)] [.int 1, .ref s5] (n, sl, f) Q) : mi_W d 193 67 [some (.ref l1), some (.int l2), some (.int l3), some (.int l4)] [.ref s5] (n, sl, f) Q := by
  refine w_iconst (v := 1) cd_193_67 (by decide) ?_
  exact w_goto cd_193_68 (by decide) h6
theorem b_193_71 {d : Nat} {Q : (Option Value ⊕ Nat) → mi_H → Prop} (n sl : Nat) (f : Nat → mi_C) {l1 : Nat} {l2 : Int32} {l3 : Int32} {l4 : Int32} {s5 : Nat} (h6 : mi_W d 193 72 [some (.ref l1), some (.int l2), some (.int l3), some (.int l4)] [.int 0, .ref s5] (n, sl, f) Q) : mi_W d 193 71 [some (.ref l1), some (.int l2), some (.int l3), some (.int l4)] [.ref s5] (n, sl, f) Q := by
  refine w_iconst (v := 0) cd_193_71 (by decide) ?_
  exact h6
theorem b_193_72 {d : Nat} {Q : (Option Value ⊕ Nat) → mi_H → Prop} (n sl : Nat) (f : Nat → mi_C) {l1 : Nat} {l2 : Int32} {l3 : Int32} {l4 : Int32} {s5 : Int32} {s6 : Nat} {fs7 : List Value} (h8 : f s6 = .inr (12, fs7)) (h9 : s6 < n) (h10 : mi_W d 140 0 (mi_en 3 [.ref s6, .int s5, .int 2]) [] (n, sl, f) (mi_Kc d 193 73 [some (.ref l1), some (.int l2), some (.int l3), some (.int l4)] [] Q)) : mi_W (d + 1) 193 72 [some (.ref l1), some (.int l2), some (.int l3), some (.int l4)] [.int s5, .ref s6] (n, sl, f) Q := by
  refine w_iconst (v := 2) cd_193_72 (by decide) ?_
  exact w_invokevirtual cd_193_73 (show mt_m 12 254 = some (140, 0) by decide +kernel) (rest := []) rfl (as := [.ref s6, .int s5, .int 2]) rfl h8 (Or.inl h9) ⟨Nat.le_of_ble_eq_true rfl, Nat.le_of_ble_eq_true rfl, Nat.le_of_ble_eq_true rfl⟩ h10
theorem b_193_76 {d : Nat} {Q : (Option Value ⊕ Nat) → mi_H → Prop} (n sl : Nat) (f : Nat → mi_C) {l1 : Nat} {l2 : Int32} {l3 : Int32} {l4 : Int32} {s5 : Int32} (h6 : s5 = (0 : Int32) → mi_W d 193 81 [some (.ref l1), some (.int l2), some (.int l3), some (.int l4)] [] (n, sl, f) Q) (h7 : ¬ (s5 = (0 : Int32)) → mi_W d 193 79 [some (.ref l1), some (.int l2), some (.int l3), some (.int l4)] [] (n, sl, f) Q) : mi_W d 193 76 [some (.ref l1), some (.int l2), some (.int l3), some (.int l4)] [.int s5] (n, sl, f) Q := by
  exact w_ifeq cd_193_76 (by decide) h6 h7
theorem b_193_79 {d : Nat} {Q : (Option Value ⊕ Nat) → mi_H → Prop} (n sl : Nat) (f : Nat → mi_C) {l1 : Nat} {l2 : Int32} {l3 : Int32} {l4 : Int32} (h5 : Q (.inl (some (.long 0))) (n, sl, f)) : mi_W d 193 79 [some (.ref l1), some (.int l2), some (.int l3), some (.int l4)] [] (n, sl, f) Q := by
  refine w_lconst (lv := 0) cd_193_79 (by decide) ?_
  exact w_lreturn cd_193_80 (by decide +kernel) h5
theorem b_193_81 {d : Nat} {Q : (Option Value ⊕ Nat) → mi_H → Prop} (n sl : Nat) (f : Nat → mi_C) {l1 : Nat} {l2 : Int32} {l3 : Int32} {l4 : Int32} {t5 : Nat} (h6 : mi_ts 82 107 0 3 #[30, 44, 55, 81] (l2 : Int32).toInt = some t5) (h7 : mi_W d 193 t5 [some (.ref l1), some (.int l2), some (.int l3), some (.int l4)] [] (n, sl, f) Q) : mi_W d 193 81 [some (.ref l1), some (.int l2), some (.int l3), some (.int l4)] [] (n, sl, f) Q := by
  refine w_iload_n cd_193_81 rfl ?_
  exact w_tableswitch cd_193_82 h6 h7
theorem b_193_112 {d : Nat} {Q : (Option Value ⊕ Nat) → mi_H → Prop} (n sl : Nat) (f : Nat → mi_C) {l1 : Nat} {l2 : Int32} {l3 : Int32} {l4 : Int32} {fs5 : List Value} {x8 : Nat} {fs10 : List Value} {x13 : Nat} (m15 i15 : Nat) (g15 : Nat → Int64) (h6 : f l1 = .inr (12, fs5)) (h7 : l1 < n) (h9 : fs5[41]? = some (.ref x8)) (h11 : f x8 = .inr (13, fs10)) (h12 : x8 < n) (h14 : fs10[2]? = some (.ref x13)) (h16 : f x13 = .inl (3, m15, .inr (.inl g15))) (h17 : x13 < n) (h18 : mi_ix ((4 * l3) + l4) m15 i15) (h19 : Q (.inl (some (.long (g15 i15)))) (n, sl, f)) : mi_W d 193 112 [some (.ref l1), some (.int l2), some (.int l3), some (.int l4)] [] (n, sl, f) Q := by
  refine w_aload_n cd_193_112 rfl ?_
  refine w_getfield cd_193_113 (show mt_f 12 147 = some (12, 41) by decide +kernel) h6 h7 h9 ?_
  refine w_getfield cd_193_116 (show mt_f 12 448 = some (13, 2) by decide +kernel) h11 h12 h14 ?_
  refine w_iconst (v := 4) cd_193_119 (by decide) ?_
  refine w_iload_n cd_193_120 rfl ?_
  refine w_imul cd_193_121 ?_
  refine w_iload_n cd_193_122 rfl ?_
  refine w_iadd cd_193_123 ?_
  refine w_laload cd_193_124 h16 h17 h18 ?_
  exact w_lreturn cd_193_125 (by decide +kernel) h19
theorem b_193_126 {d : Nat} {Q : (Option Value ⊕ Nat) → mi_H → Prop} (n sl : Nat) (f : Nat → mi_C) {l1 : Nat} {l2 : Int32} {l3 : Int32} {l4 : Int32} {fs5 : List Value} {x8 : Nat} (m10 i10 : Nat) (g10 : Nat → Int64) (h6 : f l1 = .inr (12, fs5)) (h7 : l1 < n) (h9 : fs5[56]? = some (.ref x8)) (h11 : f x8 = .inl (3, m10, .inr (.inl g10))) (h12 : x8 < n) (h13 : mi_ix ((4 * l3) + l4) m10 i10) (h14 : Q (.inl (some (.long (g10 i10)))) (n, sl, f)) : mi_W d 193 126 [some (.ref l1), some (.int l2), some (.int l3), some (.int l4)] [] (n, sl, f) Q := by
  refine w_aload_n cd_193_126 rfl ?_
  refine w_getfield cd_193_127 (show mt_f 12 175 = some (12, 56) by decide +kernel) h6 h7 h9 ?_
  refine w_iconst (v := 4) cd_193_130 (by decide) ?_
  refine w_iload_n cd_193_131 rfl ?_
  refine w_imul cd_193_132 ?_
  refine w_iload_n cd_193_133 rfl ?_
  refine w_iadd cd_193_134 ?_
  refine w_laload cd_193_135 h11 h12 h13 ?_
  exact w_lreturn cd_193_136 (by decide +kernel) h14
theorem b_193_137 {d : Nat} {Q : (Option Value ⊕ Nat) → mi_H → Prop} (n sl : Nat) (f : Nat → mi_C) {l1 : Nat} {l2 : Int32} {l3 : Int32} {l4 : Int32} {fs5 : List Value} {x8 : Nat} {fs10 : List Value} {x13 : Nat} (m15 i15 : Nat) (g15 : Nat → Int32) (h6 : f l1 = .inr (12, fs5)) (h7 : l1 < n) (h9 : fs5[41]? = some (.ref x8)) (h11 : f x8 = .inr (13, fs10)) (h12 : x8 < n) (h14 : fs10[5]? = some (.ref x13)) (h16 : f x13 = .inl (2, m15, .inl g15)) (h17 : x13 < n) (h18 : mi_ix l3 m15 i15) (h19 : (g15 i15) = (0 : Int32) → mi_W d 193 161 [some (.ref l1), some (.int l2), some (.int l3), some (.int l4)] [] (n, sl, f) Q) (h20 : ¬ ((g15 i15) = (0 : Int32)) → mi_W d 193 149 [some (.ref l1), some (.int l2), some (.int l3), some (.int l4)] [] (n, sl, f) Q) : mi_W d 193 137 [some (.ref l1), some (.int l2), some (.int l3), some (.int l4)] [] (n, sl, f) Q := by
  refine w_aload_n cd_193_137 rfl ?_
  refine w_getfield cd_193_138 (show mt_f 12 147 = some (12, 41) by decide +kernel) h6 h7 h9 ?_
  refine w_getfield cd_193_141 (show mt_f 12 459 = some (13, 5) by decide +kernel) h11 h12 h14 ?_
  refine w_iload_n cd_193_144 rfl ?_
  refine w_baload2 cd_193_145 h16 h17 h18 ?_
  exact w_ifeq cd_193_146 (by decide) h19 h20
theorem b_193_149 {d : Nat} {Q : (Option Value ⊕ Nat) → mi_H → Prop} (n sl : Nat) (f : Nat → mi_C) {l1 : Nat} {l2 : Int32} {l3 : Int32} {l4 : Int32} {fs5 : List Value} {x8 : Nat} {fs10 : List Value} {x13 : Nat} (m15 i15 : Nat) (g15 : Nat → Int64) (h6 : f l1 = .inr (12, fs5)) (h7 : l1 < n) (h9 : fs5[41]? = some (.ref x8)) (h11 : f x8 = .inr (13, fs10)) (h12 : x8 < n) (h14 : fs10[3]? = some (.ref x13)) (h16 : f x13 = .inl (3, m15, .inr (.inl g15))) (h17 : x13 < n) (h18 : mi_ix l3 m15 i15) (h19 : mi_W d 193 162 [some (.ref l1), some (.int l2), some (.int l3), some (.int l4)] [.long (g15 i15)] (n, sl, f) Q) : mi_W d 193 149 [some (.ref l1), some (.int l2), some (.int l3), some (.int l4)] [] (n, sl, f) Q := by
  refine w_aload_n cd_193_149 rfl ?_
  refine w_getfield cd_193_150 (show mt_f 12 147 = some (12, 41) by decide +kernel) h6 h7 h9 ?_
  refine w_getfield cd_193_153 (show mt_f 12 463 = some (13, 3) by decide +kernel) h11 h12 h14 ?_
  refine w_iload_n cd_193_156 rfl ?_
  refine w_laload cd_193_157 h16 h17 h18 ?_
  exact w_goto cd_193_158 (by decide) h19
theorem b_193_161 {d : Nat} {Q : (Option Value ⊕ Nat) → mi_H → Prop} (n sl : Nat) (f : Nat → mi_C) {l1 : Nat} {l2 : Int32} {l3 : Int32} {l4 : Int32} (h5 : mi_W d 193 162 [some (.ref l1), some (.int l2), some (.int l3), some (.int l4)] [.long 0] (n, sl, f) Q) : mi_W d 193 161 [some (.ref l1), some (.int l2), some (.int l3), some (.int l4)] [] (n, sl, f) Q := by
  refine w_lconst (lv := 0) cd_193_161 (by decide) ?_
  exact h5
theorem b_193_162 {d : Nat} {Q : (Option Value ⊕ Nat) → mi_H → Prop} (n sl : Nat) (f : Nat → mi_C) {l1 : Nat} {l2 : Int32} {l3 : Int32} {l4 : Int32} {s5 : Int64} (h6 : Q (.inl (some (.long s5))) (n, sl, f)) : mi_W d 193 162 [some (.ref l1), some (.int l2), some (.int l3), some (.int l4)] [.long s5] (n, sl, f) Q := by
  exact w_lreturn cd_193_162 (by decide +kernel) h6
theorem b_193_163 {d : Nat} {Q : (Option Value ⊕ Nat) → mi_H → Prop} (n sl : Nat) (f : Nat → mi_C) {l1 : Nat} {l2 : Int32} {l3 : Int32} {l4 : Int32} {fs5 : List Value} {x8 : Nat} {fs10 : List Value} {x13 : Nat} (m15 i15 : Nat) (g15 : Nat → Int32) (h6 : f l1 = .inr (12, fs5)) (h7 : l1 < n) (h9 : fs5[41]? = some (.ref x8)) (h11 : f x8 = .inr (13, fs10)) (h12 : x8 < n) (h14 : fs10[6]? = some (.ref x13)) (h16 : f x13 = .inl (2, m15, .inl g15)) (h17 : x13 < n) (h18 : mi_ix l3 m15 i15) (h19 : (g15 i15) = (0 : Int32) → mi_W d 193 187 [some (.ref l1), some (.int l2), some (.int l3), some (.int l4)] [] (n, sl, f) Q) (h20 : ¬ ((g15 i15) = (0 : Int32)) → mi_W d 193 175 [some (.ref l1), some (.int l2), some (.int l3), some (.int l4)] [] (n, sl, f) Q) : mi_W d 193 163 [some (.ref l1), some (.int l2), some (.int l3), some (.int l4)] [] (n, sl, f) Q := by
  refine w_aload_n cd_193_163 rfl ?_
  refine w_getfield cd_193_164 (show mt_f 12 147 = some (12, 41) by decide +kernel) h6 h7 h9 ?_
  refine w_getfield cd_193_167 (show mt_f 12 465 = some (13, 6) by decide +kernel) h11 h12 h14 ?_
  refine w_iload_n cd_193_170 rfl ?_
  refine w_baload2 cd_193_171 h16 h17 h18 ?_
  exact w_ifeq cd_193_172 (by decide) h19 h20
theorem b_193_175 {d : Nat} {Q : (Option Value ⊕ Nat) → mi_H → Prop} (n sl : Nat) (f : Nat → mi_C) {l1 : Nat} {l2 : Int32} {l3 : Int32} {l4 : Int32} {fs5 : List Value} {x8 : Nat} {fs10 : List Value} {x13 : Nat} (m15 i15 : Nat) (g15 : Nat → Int64) (h6 : f l1 = .inr (12, fs5)) (h7 : l1 < n) (h9 : fs5[41]? = some (.ref x8)) (h11 : f x8 = .inr (13, fs10)) (h12 : x8 < n) (h14 : fs10[4]? = some (.ref x13)) (h16 : f x13 = .inl (3, m15, .inr (.inl g15))) (h17 : x13 < n) (h18 : mi_ix l3 m15 i15) (h19 : mi_W d 193 188 [some (.ref l1), some (.int l2), some (.int l3), some (.int l4)] [.long (g15 i15)] (n, sl, f) Q) : mi_W d 193 175 [some (.ref l1), some (.int l2), some (.int l3), some (.int l4)] [] (n, sl, f) Q := by
  refine w_aload_n cd_193_175 rfl ?_
  refine w_getfield cd_193_176 (show mt_f 12 147 = some (12, 41) by decide +kernel) h6 h7 h9 ?_
  refine w_getfield cd_193_179 (show mt_f 12 468 = some (13, 4) by decide +kernel) h11 h12 h14 ?_
  refine w_iload_n cd_193_182 rfl ?_
  refine w_laload cd_193_183 h16 h17 h18 ?_
  exact w_goto cd_193_184 (by decide) h19
theorem b_193_187 {d : Nat} {Q : (Option Value ⊕ Nat) → mi_H → Prop} (n sl : Nat) (f : Nat → mi_C) {l1 : Nat} {l2 : Int32} {l3 : Int32} {l4 : Int32} (h5 : mi_W d 193 188 [some (.ref l1), some (.int l2), some (.int l3), some (.int l4)] [.long 0] (n, sl, f) Q) : mi_W d 193 187 [some (.ref l1), some (.int l2), some (.int l3), some (.int l4)] [] (n, sl, f) Q := by
  refine w_lconst (lv := 0) cd_193_187 (by decide) ?_
  exact h5
theorem b_193_188 {d : Nat} {Q : (Option Value ⊕ Nat) → mi_H → Prop} (n sl : Nat) (f : Nat → mi_C) {l1 : Nat} {l2 : Int32} {l3 : Int32} {l4 : Int32} {s5 : Int64} (h6 : Q (.inl (some (.long s5))) (n, sl, f)) : mi_W d 193 188 [some (.ref l1), some (.int l2), some (.int l3), some (.int l4)] [.long s5] (n, sl, f) Q := by
  exact w_lreturn cd_193_188 (by decide +kernel) h6
theorem b_193_189 {d : Nat} {Q : (Option Value ⊕ Nat) → mi_H → Prop} (n sl : Nat) (f : Nat → mi_C) {l1 : Nat} {l2 : Int32} {l3 : Int32} {l4 : Int32} {fs5 : List Value} {x8 : Nat} {fs10 : List Value} {x13 : Int64} (h6 : f l1 = .inr (12, fs5)) (h7 : l1 < n) (h9 : fs5[41]? = some (.ref x8)) (h11 : f x8 = .inr (13, fs10)) (h12 : x8 < n) (h14 : fs10[1]? = some (.long x13)) (h15 : Q (.inl (some (.long x13))) (n, sl, f)) : mi_W d 193 189 [some (.ref l1), some (.int l2), some (.int l3), some (.int l4)] [] (n, sl, f) Q := by
  refine w_aload_n cd_193_189 rfl ?_
  refine w_getfield cd_193_190 (show mt_f 12 147 = some (12, 41) by decide +kernel) h6 h7 h9 ?_
  refine w_getfield cd_193_193 (show mt_f 12 516 = some (13, 1) by decide +kernel) h11 h12 h14 ?_
  exact w_lreturn cd_193_196 (by decide +kernel) h15
/-! MarloweHostModel.end(I)I -/
set_option maxRecDepth 100000 in
theorem mq_141 : mt_q 141 = my_141 := rfl
set_option maxRecDepth 100000 in
theorem ci_141 : mt_inc 0 my_141.cd = true := by decide +kernel
theorem cd_141_0 : mt_cd 141 0 = some (.aload_n 0) := mt_cd_of (q := (0, .aload_n 0, 1)) mq_141 ci_141 (List.mem_of_getElem? (i := 0) rfl)
theorem cd_141_1 : mt_cd 141 1 = some (.iconst 0) := mt_cd_of (q := (1, .iconst 0, 1)) mq_141 ci_141 (List.mem_of_getElem? (i := 1) rfl)
theorem cd_141_2 : mt_cd 141 2 = some (.putfield 248) := mt_cd_of (q := (2, .putfield 248, 3)) mq_141 ci_141 (List.mem_of_getElem? (i := 2) rfl)
theorem cd_141_5 : mt_cd 141 5 = some (.aload_n 0) := mt_cd_of (q := (5, .aload_n 0, 1)) mq_141 ci_141 (List.mem_of_getElem? (i := 3) rfl)
theorem cd_141_6 : mt_cd 141 6 = some (.iload_n 1) := mt_cd_of (q := (6, .iload_n 1, 1)) mq_141 ci_141 (List.mem_of_getElem? (i := 4) rfl)
theorem cd_141_7 : mt_cd 141 7 = some (.ifCond .lt 18) := mt_cd_of (q := (7, .ifCond .lt 18, 3)) mq_141 ci_141 (List.mem_of_getElem? (i := 5) rfl)
theorem cd_141_10 : mt_cd 141 10 = some (.iload_n 1) := mt_cd_of (q := (10, .iload_n 1, 1)) mq_141 ci_141 (List.mem_of_getElem? (i := 6) rfl)
theorem cd_141_11 : mt_cd 141 11 = some (.sipush 8192) := mt_cd_of (q := (11, .sipush 8192, 3)) mq_141 ci_141 (List.mem_of_getElem? (i := 7) rfl)
theorem cd_141_14 : mt_cd 141 14 = some (.if_icmp .gt 11) := mt_cd_of (q := (14, .if_icmp .gt 11, 3)) mq_141 ci_141 (List.mem_of_getElem? (i := 8) rfl)
theorem cd_141_17 : mt_cd 141 17 = some (.iload_n 1) := mt_cd_of (q := (17, .iload_n 1, 1)) mq_141 ci_141 (List.mem_of_getElem? (i := 9) rfl)
theorem cd_141_18 : mt_cd 141 18 = some (.aload_n 0) := mt_cd_of (q := (18, .aload_n 0, 1)) mq_141 ci_141 (List.mem_of_getElem? (i := 10) rfl)
theorem cd_141_19 : mt_cd 141 19 = some (.getfield 251) := mt_cd_of (q := (19, .getfield 251, 3)) mq_141 ci_141 (List.mem_of_getElem? (i := 11) rfl)
theorem cd_141_22 : mt_cd 141 22 = some (.if_icmp .le 7) := mt_cd_of (q := (22, .if_icmp .le 7, 3)) mq_141 ci_141 (List.mem_of_getElem? (i := 12) rfl)
theorem cd_141_25 : mt_cd 141 25 = some (.iconst 1) := mt_cd_of (q := (25, .iconst 1, 1)) mq_141 ci_141 (List.mem_of_getElem? (i := 13) rfl)
theorem cd_141_26 : mt_cd 141 26 = some (.goto 4) := mt_cd_of (q := (26, .goto 4, 3)) mq_141 ci_141 (List.mem_of_getElem? (i := 14) rfl)
theorem cd_141_29 : mt_cd 141 29 = some (.iconst 0) := mt_cd_of (q := (29, .iconst 0, 1)) mq_141 ci_141 (List.mem_of_getElem? (i := 15) rfl)
theorem cd_141_30 : mt_cd 141 30 = some (.iconst 1) := mt_cd_of (q := (30, .iconst 1, 1)) mq_141 ci_141 (List.mem_of_getElem? (i := 16) rfl)
theorem cd_141_31 : mt_cd 141 31 = some (.invokevirtual 254) := mt_cd_of (q := (31, .invokevirtual 254, 3)) mq_141 ci_141 (List.mem_of_getElem? (i := 17) rfl)
theorem cd_141_34 : mt_cd 141 34 = some (.ifCond .eq 5) := mt_cd_of (q := (34, .ifCond .eq 5, 3)) mq_141 ci_141 (List.mem_of_getElem? (i := 18) rfl)
theorem cd_141_37 : mt_cd 141 37 = some (.iconst 0) := mt_cd_of (q := (37, .iconst 0, 1)) mq_141 ci_141 (List.mem_of_getElem? (i := 19) rfl)
theorem cd_141_38 : mt_cd 141 38 = some (.ireturn) := mt_cd_of (q := (38, .ireturn, 1)) mq_141 ci_141 (List.mem_of_getElem? (i := 20) rfl)
theorem cd_141_39 : mt_cd 141 39 = some (.aload_n 0) := mt_cd_of (q := (39, .aload_n 0, 1)) mq_141 ci_141 (List.mem_of_getElem? (i := 21) rfl)
theorem cd_141_40 : mt_cd 141 40 = some (.iconst 0) := mt_cd_of (q := (40, .iconst 0, 1)) mq_141 ci_141 (List.mem_of_getElem? (i := 22) rfl)
theorem cd_141_41 : mt_cd 141 41 = some (.putfield 251) := mt_cd_of (q := (41, .putfield 251, 3)) mq_141 ci_141 (List.mem_of_getElem? (i := 23) rfl)
theorem cd_141_44 : mt_cd 141 44 = some (.aload_n 0) := mt_cd_of (q := (44, .aload_n 0, 1)) mq_141 ci_141 (List.mem_of_getElem? (i := 24) rfl)
theorem cd_141_45 : mt_cd 141 45 = some (.iconst (-1)) := mt_cd_of (q := (45, .iconst (-1), 1)) mq_141 ci_141 (List.mem_of_getElem? (i := 25) rfl)
theorem cd_141_46 : mt_cd 141 46 = some (.putfield 7) := mt_cd_of (q := (46, .putfield 7, 3)) mq_141 ci_141 (List.mem_of_getElem? (i := 26) rfl)
theorem cd_141_49 : mt_cd 141 49 = some (.aload_n 0) := mt_cd_of (q := (49, .aload_n 0, 1)) mq_141 ci_141 (List.mem_of_getElem? (i := 27) rfl)
theorem cd_141_50 : mt_cd 141 50 = some (.iconst (-1)) := mt_cd_of (q := (50, .iconst (-1), 1)) mq_141 ci_141 (List.mem_of_getElem? (i := 28) rfl)
theorem cd_141_51 : mt_cd 141 51 = some (.putfield 13) := mt_cd_of (q := (51, .putfield 13, 3)) mq_141 ci_141 (List.mem_of_getElem? (i := 29) rfl)
theorem cd_141_54 : mt_cd 141 54 = some (.aload_n 0) := mt_cd_of (q := (54, .aload_n 0, 1)) mq_141 ci_141 (List.mem_of_getElem? (i := 30) rfl)
theorem cd_141_55 : mt_cd 141 55 = some (.iconst 0) := mt_cd_of (q := (55, .iconst 0, 1)) mq_141 ci_141 (List.mem_of_getElem? (i := 31) rfl)
theorem cd_141_56 : mt_cd 141 56 = some (.putfield 258) := mt_cd_of (q := (56, .putfield 258, 3)) mq_141 ci_141 (List.mem_of_getElem? (i := 32) rfl)
theorem cd_141_59 : mt_cd 141 59 = some (.aload_n 0) := mt_cd_of (q := (59, .aload_n 0, 1)) mq_141 ci_141 (List.mem_of_getElem? (i := 33) rfl)
theorem cd_141_60 : mt_cd 141 60 = some (.iload_n 1) := mt_cd_of (q := (60, .iload_n 1, 1)) mq_141 ci_141 (List.mem_of_getElem? (i := 34) rfl)
theorem cd_141_61 : mt_cd 141 61 = some (.putfield 261) := mt_cd_of (q := (61, .putfield 261, 3)) mq_141 ci_141 (List.mem_of_getElem? (i := 35) rfl)
theorem cd_141_64 : mt_cd 141 64 = some (.iconst 0) := mt_cd_of (q := (64, .iconst 0, 1)) mq_141 ci_141 (List.mem_of_getElem? (i := 36) rfl)
theorem cd_141_65 : mt_cd 141 65 = some (.istore_n 2) := mt_cd_of (q := (65, .istore_n 2, 1)) mq_141 ci_141 (List.mem_of_getElem? (i := 37) rfl)
theorem cd_141_66 : mt_cd 141 66 = some (.iload_n 2) := mt_cd_of (q := (66, .iload_n 2, 1)) mq_141 ci_141 (List.mem_of_getElem? (i := 38) rfl)
theorem cd_141_67 : mt_cd 141 67 = some (.iload_n 1) := mt_cd_of (q := (67, .iload_n 1, 1)) mq_141 ci_141 (List.mem_of_getElem? (i := 39) rfl)
theorem cd_141_68 : mt_cd 141 68 = some (.if_icmp .ge 57) := mt_cd_of (q := (68, .if_icmp .ge 57, 3)) mq_141 ci_141 (List.mem_of_getElem? (i := 40) rfl)
theorem cd_141_71 : mt_cd 141 71 = some (.aload_n 0) := mt_cd_of (q := (71, .aload_n 0, 1)) mq_141 ci_141 (List.mem_of_getElem? (i := 41) rfl)
theorem cd_141_72 : mt_cd 141 72 = some (.getfield 20) := mt_cd_of (q := (72, .getfield 20, 3)) mq_141 ci_141 (List.mem_of_getElem? (i := 42) rfl)
theorem cd_141_75 : mt_cd 141 75 = some (.iload_n 2) := mt_cd_of (q := (75, .iload_n 2, 1)) mq_141 ci_141 (List.mem_of_getElem? (i := 43) rfl)
theorem cd_141_76 : mt_cd 141 76 = some (.aload_n 0) := mt_cd_of (q := (76, .aload_n 0, 1)) mq_141 ci_141 (List.mem_of_getElem? (i := 44) rfl)
theorem cd_141_77 : mt_cd 141 77 = some (.getfield 16) := mt_cd_of (q := (77, .getfield 16, 3)) mq_141 ci_141 (List.mem_of_getElem? (i := 45) rfl)
theorem cd_141_80 : mt_cd 141 80 = some (.iload_n 2) := mt_cd_of (q := (80, .iload_n 2, 1)) mq_141 ci_141 (List.mem_of_getElem? (i := 46) rfl)
theorem cd_141_81 : mt_cd 141 81 = some (.iaload) := mt_cd_of (q := (81, .iaload, 1)) mq_141 ci_141 (List.mem_of_getElem? (i := 47) rfl)
theorem cd_141_82 : mt_cd 141 82 = some (.iastore) := mt_cd_of (q := (82, .iastore, 1)) mq_141 ci_141 (List.mem_of_getElem? (i := 48) rfl)
theorem cd_141_83 : mt_cd 141 83 = some (.aload_n 0) := mt_cd_of (q := (83, .aload_n 0, 1)) mq_141 ci_141 (List.mem_of_getElem? (i := 49) rfl)
theorem cd_141_84 : mt_cd 141 84 = some (.getfield 20) := mt_cd_of (q := (84, .getfield 20, 3)) mq_141 ci_141 (List.mem_of_getElem? (i := 50) rfl)
theorem cd_141_87 : mt_cd 141 87 = some (.iload_n 2) := mt_cd_of (q := (87, .iload_n 2, 1)) mq_141 ci_141 (List.mem_of_getElem? (i := 51) rfl)
theorem cd_141_88 : mt_cd 141 88 = some (.iaload) := mt_cd_of (q := (88, .iaload, 1)) mq_141 ci_141 (List.mem_of_getElem? (i := 52) rfl)
theorem cd_141_89 : mt_cd 141 89 = some (.bipush 10) := mt_cd_of (q := (89, .bipush 10, 2)) mq_141 ci_141 (List.mem_of_getElem? (i := 53) rfl)
theorem cd_141_91 : mt_cd 141 91 = some (.if_icmp .eq 28) := mt_cd_of (q := (91, .if_icmp .eq 28, 3)) mq_141 ci_141 (List.mem_of_getElem? (i := 54) rfl)
theorem cd_141_94 : mt_cd 141 94 = some (.aload_n 0) := mt_cd_of (q := (94, .aload_n 0, 1)) mq_141 ci_141 (List.mem_of_getElem? (i := 55) rfl)
theorem cd_141_95 : mt_cd 141 95 = some (.getfield 20) := mt_cd_of (q := (95, .getfield 20, 3)) mq_141 ci_141 (List.mem_of_getElem? (i := 56) rfl)
theorem cd_141_98 : mt_cd 141 98 = some (.iload_n 2) := mt_cd_of (q := (98, .iload_n 2, 1)) mq_141 ci_141 (List.mem_of_getElem? (i := 57) rfl)
theorem cd_141_99 : mt_cd 141 99 = some (.iaload) := mt_cd_of (q := (99, .iaload, 1)) mq_141 ci_141 (List.mem_of_getElem? (i := 58) rfl)
theorem cd_141_100 : mt_cd 141 100 = some (.i2l) := mt_cd_of (q := (100, .i2l, 1)) mq_141 ci_141 (List.mem_of_getElem? (i := 59) rfl)
theorem cd_141_101 : mt_cd 141 101 = some (.ldc2_w 264) := mt_cd_of (q := (101, .ldc2_w 264, 3)) mq_141 ci_141 (List.mem_of_getElem? (i := 60) rfl)
theorem cd_141_104 : mt_cd 141 104 = some (.ldc2_w 266) := mt_cd_of (q := (104, .ldc2_w 266, 3)) mq_141 ci_141 (List.mem_of_getElem? (i := 61) rfl)
theorem cd_141_107 : mt_cd 141 107 = some (.invokestatic 268) := mt_cd_of (q := (107, .invokestatic 268, 3)) mq_141 ci_141 (List.mem_of_getElem? (i := 62) rfl)
theorem cd_141_110 : mt_cd 141 110 = some (.ifCond .ne 9) := mt_cd_of (q := (110, .ifCond .ne 9, 3)) mq_141 ci_141 (List.mem_of_getElem? (i := 63) rfl)
theorem cd_141_113 : mt_cd 141 113 = some (.aload_n 0) := mt_cd_of (q := (113, .aload_n 0, 1)) mq_141 ci_141 (List.mem_of_getElem? (i := 64) rfl)
theorem cd_141_114 : mt_cd 141 114 = some (.iload_n 2) := mt_cd_of (q := (114, .iload_n 2, 1)) mq_141 ci_141 (List.mem_of_getElem? (i := 65) rfl)
theorem cd_141_115 : mt_cd 141 115 = some (.invokevirtual 272) := mt_cd_of (q := (115, .invokevirtual 272, 3)) mq_141 ci_141 (List.mem_of_getElem? (i := 66) rfl)
theorem cd_141_118 : mt_cd 141 118 = some (.pop) := mt_cd_of (q := (118, .pop, 1)) mq_141 ci_141 (List.mem_of_getElem? (i := 67) rfl)
theorem cd_141_119 : mt_cd 141 119 = some (.iinc 2 1) := mt_cd_of (q := (119, .iinc 2 1, 3)) mq_141 ci_141 (List.mem_of_getElem? (i := 68) rfl)
theorem cd_141_122 : mt_cd 141 122 = some (.goto (-56)) := mt_cd_of (q := (122, .goto (-56), 3)) mq_141 ci_141 (List.mem_of_getElem? (i := 69) rfl)
theorem cd_141_125 : mt_cd 141 125 = some (.aload_n 0) := mt_cd_of (q := (125, .aload_n 0, 1)) mq_141 ci_141 (List.mem_of_getElem? (i := 70) rfl)
theorem cd_141_126 : mt_cd 141 126 = some (.getfield 7) := mt_cd_of (q := (126, .getfield 7, 3)) mq_141 ci_141 (List.mem_of_getElem? (i := 71) rfl)
theorem cd_141_129 : mt_cd 141 129 = some (.ifCond .ge 7) := mt_cd_of (q := (129, .ifCond .ge 7, 3)) mq_141 ci_141 (List.mem_of_getElem? (i := 72) rfl)
theorem cd_141_132 : mt_cd 141 132 = some (.aload_n 0) := mt_cd_of (q := (132, .aload_n 0, 1)) mq_141 ci_141 (List.mem_of_getElem? (i := 73) rfl)
theorem cd_141_133 : mt_cd 141 133 = some (.invokevirtual 276) := mt_cd_of (q := (133, .invokevirtual 276, 3)) mq_141 ci_141 (List.mem_of_getElem? (i := 74) rfl)
theorem cd_141_136 : mt_cd 141 136 = some (.aload_n 0) := mt_cd_of (q := (136, .aload_n 0, 1)) mq_141 ci_141 (List.mem_of_getElem? (i := 75) rfl)
theorem cd_141_137 : mt_cd 141 137 = some (.aload_n 0) := mt_cd_of (q := (137, .aload_n 0, 1)) mq_141 ci_141 (List.mem_of_getElem? (i := 76) rfl)
theorem cd_141_138 : mt_cd 141 138 = some (.getfield 7) := mt_cd_of (q := (138, .getfield 7, 3)) mq_141 ci_141 (List.mem_of_getElem? (i := 77) rfl)
theorem cd_141_141 : mt_cd 141 141 = some (.ifCond .lt 7) := mt_cd_of (q := (141, .ifCond .lt 7, 3)) mq_141 ci_141 (List.mem_of_getElem? (i := 78) rfl)
theorem cd_141_144 : mt_cd 141 144 = some (.iconst 1) := mt_cd_of (q := (144, .iconst 1, 1)) mq_141 ci_141 (List.mem_of_getElem? (i := 79) rfl)
theorem cd_141_145 : mt_cd 141 145 = some (.goto 4) := mt_cd_of (q := (145, .goto 4, 3)) mq_141 ci_141 (List.mem_of_getElem? (i := 80) rfl)
theorem cd_141_148 : mt_cd 141 148 = some (.iconst 0) := mt_cd_of (q := (148, .iconst 0, 1)) mq_141 ci_141 (List.mem_of_getElem? (i := 81) rfl)
theorem cd_141_149 : mt_cd 141 149 = some (.iconst 2) := mt_cd_of (q := (149, .iconst 2, 1)) mq_141 ci_141 (List.mem_of_getElem? (i := 82) rfl)
theorem cd_141_150 : mt_cd 141 150 = some (.invokevirtual 254) := mt_cd_of (q := (150, .invokevirtual 254, 3)) mq_141 ci_141 (List.mem_of_getElem? (i := 83) rfl)
theorem cd_141_153 : mt_cd 141 153 = some (.ifCond .eq 5) := mt_cd_of (q := (153, .ifCond .eq 5, 3)) mq_141 ci_141 (List.mem_of_getElem? (i := 84) rfl)
theorem cd_141_156 : mt_cd 141 156 = some (.iconst 0) := mt_cd_of (q := (156, .iconst 0, 1)) mq_141 ci_141 (List.mem_of_getElem? (i := 85) rfl)
theorem cd_141_157 : mt_cd 141 157 = some (.ireturn) := mt_cd_of (q := (157, .ireturn, 1)) mq_141 ci_141 (List.mem_of_getElem? (i := 86) rfl)
theorem cd_141_158 : mt_cd 141 158 = some (.aload_n 0) := mt_cd_of (q := (158, .aload_n 0, 1)) mq_141 ci_141 (List.mem_of_getElem? (i := 87) rfl)
theorem cd_141_159 : mt_cd 141 159 = some (.iconst 0) := mt_cd_of (q := (159, .iconst 0, 1)) mq_141 ci_141 (List.mem_of_getElem? (i := 88) rfl)
theorem cd_141_160 : mt_cd 141 160 = some (.putfield 13) := mt_cd_of (q := (160, .putfield 13, 3)) mq_141 ci_141 (List.mem_of_getElem? (i := 89) rfl)
theorem cd_141_163 : mt_cd 141 163 = some (.aload_n 0) := mt_cd_of (q := (163, .aload_n 0, 1)) mq_141 ci_141 (List.mem_of_getElem? (i := 90) rfl)
theorem cd_141_164 : mt_cd 141 164 = some (.getfield 147) := mt_cd_of (q := (164, .getfield 147, 3)) mq_141 ci_141 (List.mem_of_getElem? (i := 91) rfl)
theorem cd_141_167 : mt_cd 141 167 = some (.invokevirtual 279) := mt_cd_of (q := (167, .invokevirtual 279, 3)) mq_141 ci_141 (List.mem_of_getElem? (i := 92) rfl)
theorem cd_141_170 : mt_cd 141 170 = some (.aload_n 0) := mt_cd_of (q := (170, .aload_n 0, 1)) mq_141 ci_141 (List.mem_of_getElem? (i := 93) rfl)
theorem cd_141_171 : mt_cd 141 171 = some (.getfield 282) := mt_cd_of (q := (171, .getfield 282, 3)) mq_141 ci_141 (List.mem_of_getElem? (i := 94) rfl)
theorem cd_141_174 : mt_cd 141 174 = some (.ireturn) := mt_cd_of (q := (174, .ireturn, 1)) mq_141 ci_141 (List.mem_of_getElem? (i := 95) rfl)
theorem b_141_0 {d : Nat} {Q : (Option Value ⊕ Nat) → mi_H → Prop} (n sl : Nat) (f : Nat → mi_C) {l1 : Nat} {l2 : Int32} {o3 : Option Value} {fs4 : List Value} (h5 : f l1 = .inr (12, fs4)) (h6 : l1 < n) (h7 : 0 < fs4.length) (h8 : l2 < (0 : Int32) → mi_W d 141 25 [some (.ref l1), some (.int l2), o3] [.ref l1] (n, sl, (va_up f l1 (.inr (12, fs4.set 0 (.int 0))))) Q) (h9 : ¬ (l2 < (0 : Int32)) → mi_W d 141 10 [some (.ref l1), some (.int l2), o3] [.ref l1] (n, sl, (va_up f l1 (.inr (12, fs4.set 0 (.int 0))))) Q) : mi_W d 141 0 [some (.ref l1), some (.int l2), o3] [] (n, sl, f) Q := by
  refine w_aload_n cd_141_0 rfl ?_
  refine w_iconst (v := 0) cd_141_1 (by decide) ?_
  refine w_putfield (w := .int 0) cd_141_2 (show mt_f 12 248 = some (12, 0) by decide +kernel) h5 h6 ⟨h7, rfl, Or.inl (by decide)⟩ ?_
  refine w_aload_n cd_141_5 rfl ?_
  refine w_iload_n cd_141_6 rfl ?_
  exact w_iflt cd_141_7 (by decide) h8 h9
theorem b_141_10 {d : Nat} {Q : (Option Value ⊕ Nat) → mi_H → Prop} (n sl : Nat) (f : Nat → mi_C) {l1 : Nat} {l2 : Int32} {o3 : Option Value} {s4 : Nat} (h5 : 8192 < l2 → mi_W d 141 25 [some (.ref l1), some (.int l2), o3] [.ref s4] (n, sl, f) Q) (h6 : ¬ (8192 < l2) → mi_W d 141 17 [some (.ref l1), some (.int l2), o3] [.ref s4] (n, sl, f) Q) : mi_W d 141 10 [some (.ref l1), some (.int l2), o3] [.ref s4] (n, sl, f) Q := by
  refine w_iload_n cd_141_10 rfl ?_
  refine w_sipush (v := 8192) cd_141_11 (by decide) ?_
  exact w_if_icmpgt cd_141_14 (by decide) h5 h6
theorem b_141_17 {d : Nat} {Q : (Option Value ⊕ Nat) → mi_H → Prop} (n sl : Nat) (f : Nat → mi_C) {l1 : Nat} {l2 : Int32} {o3 : Option Value} {s4 : Nat} {fs5 : List Value} {x8 : Int32} (h6 : f l1 = .inr (12, fs5)) (h7 : l1 < n) (h9 : fs5[1]? = some (.int x8)) (h10 : l2 ≤ x8 → mi_W d 141 29 [some (.ref l1), some (.int l2), o3] [.ref s4] (n, sl, f) Q) (h11 : ¬ (l2 ≤ x8) → mi_W d 141 25 [some (.ref l1), some (.int l2), o3] [.ref s4] (n, sl, f) Q) : mi_W d 141 17 [some (.ref l1), some (.int l2), o3] [.ref s4] (n, sl, f) Q := by
  refine w_iload_n cd_141_17 rfl ?_
  refine w_aload_n cd_141_18 rfl ?_
  refine w_getfield cd_141_19 (show mt_f 12 251 = some (12, 1) by decide +kernel) h6 h7 h9 ?_
  exact w_if_icmple cd_141_22 (by decide) h10 h11
theorem b_141_25 {d : Nat} {Q : (Option Value ⊕ Nat) → mi_H → Prop} (n sl : Nat) (f : Nat → mi_C) {l1 : Nat} {l2 : Int32} {o3 : Option Value} {s4 : Nat} (h5 : mi_W d 141 30 [some (.ref l1), some (.int l2), o3] [.int 1, .ref s4] (n, sl, f) Q) : mi_W d 141 25 [some (.ref l1), some (.int l2), o3] [.ref s4] (n, sl, f) Q := by
  refine w_iconst (v := 1) cd_141_25 (by decide) ?_
  exact w_goto cd_141_26 (by decide) h5
theorem b_141_29 {d : Nat} {Q : (Option Value ⊕ Nat) → mi_H → Prop} (n sl : Nat) (f : Nat → mi_C) {l1 : Nat} {l2 : Int32} {o3 : Option Value} {s4 : Nat} (h5 : mi_W d 141 30 [some (.ref l1), some (.int l2), o3] [.int 0, .ref s4] (n, sl, f) Q) : mi_W d 141 29 [some (.ref l1), some (.int l2), o3] [.ref s4] (n, sl, f) Q := by
  refine w_iconst (v := 0) cd_141_29 (by decide) ?_
  exact h5
theorem b_141_30 {d : Nat} {Q : (Option Value ⊕ Nat) → mi_H → Prop} (n sl : Nat) (f : Nat → mi_C) {l1 : Nat} {l2 : Int32} {o3 : Option Value} {s4 : Int32} {s5 : Nat} {fs6 : List Value} (h7 : f s5 = .inr (12, fs6)) (h8 : s5 < n) (h9 : mi_W d 140 0 (mi_en 3 [.ref s5, .int s4, .int 1]) [] (n, sl, f) (mi_Kc d 141 31 [some (.ref l1), some (.int l2), o3] [] Q)) : mi_W (d + 1) 141 30 [some (.ref l1), some (.int l2), o3] [.int s4, .ref s5] (n, sl, f) Q := by
  refine w_iconst (v := 1) cd_141_30 (by decide) ?_
  exact w_invokevirtual cd_141_31 (show mt_m 12 254 = some (140, 0) by decide +kernel) (rest := []) rfl (as := [.ref s5, .int s4, .int 1]) rfl h7 (Or.inl h8) ⟨Nat.le_of_ble_eq_true rfl, Nat.le_of_ble_eq_true rfl, Nat.le_of_ble_eq_true rfl⟩ h9
theorem b_141_34 {d : Nat} {Q : (Option Value ⊕ Nat) → mi_H → Prop} (n sl : Nat) (f : Nat → mi_C) {l1 : Nat} {l2 : Int32} {o3 : Option Value} {s4 : Int32} (h5 : s4 = (0 : Int32) → mi_W d 141 39 [some (.ref l1), some (.int l2), o3] [] (n, sl, f) Q) (h6 : ¬ (s4 = (0 : Int32)) → mi_W d 141 37 [some (.ref l1), some (.int l2), o3] [] (n, sl, f) Q) : mi_W d 141 34 [some (.ref l1), some (.int l2), o3] [.int s4] (n, sl, f) Q := by
  exact w_ifeq cd_141_34 (by decide) h5 h6
theorem b_141_37 {d : Nat} {Q : (Option Value ⊕ Nat) → mi_H → Prop} (n sl : Nat) (f : Nat → mi_C) {l1 : Nat} {l2 : Int32} {o3 : Option Value} (h4 : Q (.inl (some (.int 0))) (n, sl, f)) : mi_W d 141 37 [some (.ref l1), some (.int l2), o3] [] (n, sl, f) Q := by
  refine w_iconst (v := 0) cd_141_37 (by decide) ?_
  exact w_ireturn_i cd_141_38 (by decide +kernel) h4
theorem b_141_39 {d : Nat} {Q : (Option Value ⊕ Nat) → mi_H → Prop} (n sl : Nat) (f : Nat → mi_C) {l1 : Nat} {l2 : Int32} {o3 : Option Value} {fs4 : List Value} {fs8 : List Value} {fs12 : List Value} {fs16 : List Value} {fs20 : List Value} (h5 : f l1 = .inr (12, fs4)) (h6 : l1 < n) (h7 : 1 < fs4.length) (h9 : (va_up f l1 (.inr (12, fs4.set 1 (.int 0)))) l1 = .inr (12, fs8)) (h10 : l1 < n) (h11 : 3 < fs8.length) (h13 : (va_up (va_up f l1 (.inr (12, fs4.set 1 (.int 0)))) l1 (.inr (12, fs8.set 3 (.int (-1))))) l1 = .inr (12, fs12)) (h14 : l1 < n) (h15 : 4 < fs12.length) (h17 : (va_up (va_up (va_up f l1 (.inr (12, fs4.set 1 (.int 0)))) l1 (.inr (12, fs8.set 3 (.int (-1))))) l1 (.inr (12, fs12.set 4 (.int (-1))))) l1 = .inr (12, fs16)) (h18 : l1 < n) (h19 : 59 < fs16.length) (h21 : (va_up (va_up (va_up (va_up f l1 (.inr (12, fs4.set 1 (.int 0)))) l1 (.inr (12, fs8.set 3 (.int (-1))))) l1 (.inr (12, fs12.set 4 (.int (-1))))) l1 (.inr (12, fs16.set 59 (.int 0)))) l1 = .inr (12, fs20)) (h22 : l1 < n) (h23 : 2 < fs20.length) (h24 : mi_W d 141 66 [some (.ref l1), some (.int l2), some (.int 0)] [] (n, sl, (va_up (va_up (va_up (va_up (va_up f l1 (.inr (12, fs4.set 1 (.int 0)))) l1 (.inr (12, fs8.set 3 (.int (-1))))) l1 (.inr (12, fs12.set 4 (.int (-1))))) l1 (.inr (12, fs16.set 59 (.int 0)))) l1 (.inr (12, fs20.set 2 (.int l2))))) Q) : mi_W d 141 39 [some (.ref l1), some (.int l2), o3] [] (n, sl, f) Q := by
  refine w_aload_n cd_141_39 rfl ?_
  refine w_iconst (v := 0) cd_141_40 (by decide) ?_
  refine w_putfield (w := .int 0) cd_141_41 (show mt_f 12 251 = some (12, 1) by decide +kernel) h5 h6 ⟨h7, rfl, Or.inl (by decide)⟩ ?_
  refine w_aload_n cd_141_44 rfl ?_
  refine w_iconst (v := (-1)) cd_141_45 (by decide) ?_
  refine w_putfield (w := .int (-1)) cd_141_46 (show mt_f 12 7 = some (12, 3) by decide +kernel) h9 h10 ⟨h11, rfl, Or.inl (by decide)⟩ ?_
  refine w_aload_n cd_141_49 rfl ?_
  refine w_iconst (v := (-1)) cd_141_50 (by decide) ?_
  refine w_putfield (w := .int (-1)) cd_141_51 (show mt_f 12 13 = some (12, 4) by decide +kernel) h13 h14 ⟨h15, rfl, Or.inl (by decide)⟩ ?_
  refine w_aload_n cd_141_54 rfl ?_
  refine w_iconst (v := 0) cd_141_55 (by decide) ?_
  refine w_putfield (w := .int 0) cd_141_56 (show mt_f 12 258 = some (12, 59) by decide +kernel) h17 h18 ⟨h19, rfl, Or.inl (by decide)⟩ ?_
  refine w_aload_n cd_141_59 rfl ?_
  refine w_iload_n cd_141_60 rfl ?_
  refine w_putfield (w := .int l2) cd_141_61 (show mt_f 12 261 = some (12, 2) by decide +kernel) h21 h22 ⟨h23, rfl, Or.inl (by decide)⟩ ?_
  refine w_iconst (v := 0) cd_141_64 (by decide) ?_
  refine w_istore_n (ls' := [some (.ref l1), some (.int l2), some (.int 0)]) cd_141_65 (Nat.le_of_ble_eq_true rfl) rfl ?_
  exact h24
theorem b_141_66 {d : Nat} {Q : (Option Value ⊕ Nat) → mi_H → Prop} (n sl : Nat) (f : Nat → mi_C) {l1 : Nat} {l2 : Int32} {l3 : Int32} (h4 : l2 ≤ l3 → mi_W d 141 125 [some (.ref l1), some (.int l2), some (.int l3)] [] (n, sl, f) Q) (h5 : ¬ (l2 ≤ l3) → mi_W d 141 71 [some (.ref l1), some (.int l2), some (.int l3)] [] (n, sl, f) Q) : mi_W d 141 66 [some (.ref l1), some (.int l2), some (.int l3)] [] (n, sl, f) Q := by
  refine w_iload_n cd_141_66 rfl ?_
  refine w_iload_n cd_141_67 rfl ?_
  exact w_if_icmpge cd_141_68 (by decide) h4 h5
theorem b_141_71 {d : Nat} {Q : (Option Value ⊕ Nat) → mi_H → Prop} (n sl : Nat) (f : Nat → mi_C) {l1 : Nat} {l2 : Int32} {l3 : Int32} {fs4 : List Value} {x7 : Nat} {fs9 : List Value} {x12 : Nat} (m14 i14 : Nat) (g14 : Nat → Int32) (m18 i18 : Nat) (g18 : Nat → Int32) {fs22 : List Value} {x25 : Nat} (m27 i27 : Nat) (g27 : Nat → Int32) (h5 : f l1 = .inr (12, fs4)) (h6 : l1 < n) (h8 : fs4[6]? = some (.ref x7)) (h10 : f l1 = .inr (12, fs9)) (h11 : l1 < n) (h13 : fs9[5]? = some (.ref x12)) (h15 : f x12 = .inl (0, m14, .inl g14)) (h16 : x12 < n ∨ x12 = mi_SC) (h17 : mi_ix l3 m14 i14) (h19 : f x7 = .inl (0, m18, .inl g18)) (h20 : x7 < n) (h21 : mi_ix l3 m18 i18) (h23 : (va_up f x7 (.inl (0, m18, .inl (upd g18 i18 (g14 i14))))) l1 = .inr (12, fs22)) (h24 : l1 < n) (h26 : fs22[6]? = some (.ref x25)) (h28 : (va_up f x7 (.inl (0, m18, .inl (upd g18 i18 (g14 i14))))) x25 = .inl (0, m27, .inl g27)) (h29 : x25 < n ∨ x25 = mi_SC) (h30 : mi_ix l3 m27 i27) (h31 : (g27 i27) = 10 → mi_W d 141 119 [some (.ref l1), some (.int l2), some (.int l3)] [] (n, sl, (va_up f x7 (.inl (0, m18, .inl (upd g18 i18 (g14 i14)))))) Q) (h32 : ¬ ((g27 i27) = 10) → mi_W d 141 94 [some (.ref l1), some (.int l2), some (.int l3)] [] (n, sl, (va_up f x7 (.inl (0, m18, .inl (upd g18 i18 (g14 i14)))))) Q) : mi_W d 141 71 [some (.ref l1), some (.int l2), some (.int l3)] [] (n, sl, f) Q := by
  refine w_aload_n cd_141_71 rfl ?_
  refine w_getfield cd_141_72 (show mt_f 12 20 = some (12, 6) by decide +kernel) h5 h6 h8 ?_
  refine w_iload_n cd_141_75 rfl ?_
  refine w_aload_n cd_141_76 rfl ?_
  refine w_getfield cd_141_77 (show mt_f 12 16 = some (12, 5) by decide +kernel) h10 h11 h13 ?_
  refine w_iload_n cd_141_80 rfl ?_
  refine w_iaload cd_141_81 h15 h16 h17 ?_
  refine w_iastore cd_141_82 h19 h20 h21 ?_
  refine w_aload_n cd_141_83 rfl ?_
  refine w_getfield cd_141_84 (show mt_f 12 20 = some (12, 6) by decide +kernel) h23 h24 h26 ?_
  refine w_iload_n cd_141_87 rfl ?_
  refine w_iaload cd_141_88 h28 h29 h30 ?_
  refine w_bipush (v := 10) cd_141_89 (by decide) ?_
  exact w_if_icmpeq cd_141_91 (by decide) h31 h32
theorem b_141_94 {d : Nat} {Q : (Option Value ⊕ Nat) → mi_H → Prop} (n sl : Nat) (f : Nat → mi_C) {l1 : Nat} {l2 : Int32} {l3 : Int32} {fs4 : List Value} {x7 : Nat} (m9 i9 : Nat) (g9 : Nat → Int32) (h5 : f l1 = .inr (12, fs4)) (h6 : l1 < n) (h8 : fs4[6]? = some (.ref x7)) (h10 : f x7 = .inl (0, m9, .inl g9)) (h11 : x7 < n ∨ x7 = mi_SC) (h12 : mi_ix l3 m9 i9) (h13 : mi_W d 142 0 (mi_en 6 [.long (((g9 i9) : Int32).toInt64), .long 32, .long 126]) [] (n, sl, f) (mi_Kc d 141 107 [some (.ref l1), some (.int l2), some (.int l3)] [] Q)) : mi_W (d + 1) 141 94 [some (.ref l1), some (.int l2), some (.int l3)] [] (n, sl, f) Q := by
  refine w_aload_n cd_141_94 rfl ?_
  refine w_getfield cd_141_95 (show mt_f 12 20 = some (12, 6) by decide +kernel) h5 h6 h8 ?_
  refine w_iload_n cd_141_98 rfl ?_
  refine w_iaload cd_141_99 h10 h11 h12 ?_
  refine w_i2l cd_141_100 ?_
  refine w_ldc2_w (lv := 32) cd_141_101 (by decide +kernel) ?_
  refine w_ldc2_w (lv := 126) cd_141_104 (by decide +kernel) ?_
  exact w_invokestatic cd_141_107 (show mt_m 12 268 = some (142, 4) by decide +kernel) (by decide) (rest := []) rfl (as := [.long (((g9 i9) : Int32).toInt64), .long 32, .long 126]) rfl ⟨Nat.le_of_ble_eq_true rfl, Nat.le_of_ble_eq_true rfl, Nat.le_of_ble_eq_true rfl⟩ h13
theorem b_141_110 {d : Nat} {Q : (Option Value ⊕ Nat) → mi_H → Prop} (n sl : Nat) (f : Nat → mi_C) {l1 : Nat} {l2 : Int32} {l3 : Int32} {s4 : Int32} (h5 : ¬ s4 = (0 : Int32) → mi_W d 141 119 [some (.ref l1), some (.int l2), some (.int l3)] [] (n, sl, f) Q) (h6 : ¬ (¬ s4 = (0 : Int32)) → mi_W d 141 113 [some (.ref l1), some (.int l2), some (.int l3)] [] (n, sl, f) Q) : mi_W d 141 110 [some (.ref l1), some (.int l2), some (.int l3)] [.int s4] (n, sl, f) Q := by
  exact w_ifne cd_141_110 (by decide) h5 h6
theorem b_141_113 {d : Nat} {Q : (Option Value ⊕ Nat) → mi_H → Prop} (n sl : Nat) (f : Nat → mi_C) {l1 : Nat} {l2 : Int32} {l3 : Int32} {fs4 : List Value} (h5 : f l1 = .inr (12, fs4)) (h6 : l1 < n) (h7 : mi_W d 143 0 (mi_en 2 [.ref l1, .int l3]) [] (n, sl, f) (mi_Kc d 141 115 [some (.ref l1), some (.int l2), some (.int l3)] [] Q)) : mi_W (d + 1) 141 113 [some (.ref l1), some (.int l2), some (.int l3)] [] (n, sl, f) Q := by
  refine w_aload_n cd_141_113 rfl ?_
  refine w_iload_n cd_141_114 rfl ?_
  exact w_invokevirtual cd_141_115 (show mt_m 12 272 = some (143, 0) by decide +kernel) (rest := []) rfl (as := [.ref l1, .int l3]) rfl h5 (Or.inl h6) ⟨Nat.le_of_ble_eq_true rfl, Nat.le_of_ble_eq_true rfl, Nat.le_of_ble_eq_true rfl⟩ h7
theorem b_141_118 {d : Nat} {Q : (Option Value ⊕ Nat) → mi_H → Prop} (n sl : Nat) (f : Nat → mi_C) {l1 : Nat} {l2 : Int32} {l3 : Int32} {s4 : Int32} (h5 : mi_W d 141 119 [some (.ref l1), some (.int l2), some (.int l3)] [] (n, sl, f) Q) : mi_W d 141 118 [some (.ref l1), some (.int l2), some (.int l3)] [.int s4] (n, sl, f) Q := by
  refine w_pop_i cd_141_118 ?_
  exact h5
theorem b_141_119 {d : Nat} {Q : (Option Value ⊕ Nat) → mi_H → Prop} (n sl : Nat) (f : Nat → mi_C) {l1 : Nat} {l2 : Int32} {l3 : Int32} (h4 : mi_W d 141 66 [some (.ref l1), some (.int l2), some (.int (l3 + 1))] [] (n, sl, f) Q) : mi_W d 141 119 [some (.ref l1), some (.int l2), some (.int l3)] [] (n, sl, f) Q := by
  refine w_iinc (v := 1) (ls' := [some (.ref l1), some (.int l2), some (.int (l3 + 1))]) cd_141_119 rfl (by decide) rfl ?_
  exact w_goto cd_141_122 (by decide) h4
theorem b_141_125 {d : Nat} {Q : (Option Value ⊕ Nat) → mi_H → Prop} (n sl : Nat) (f : Nat → mi_C) {l1 : Nat} {l2 : Int32} {l3 : Int32} {fs4 : List Value} {x7 : Int32} (h5 : f l1 = .inr (12, fs4)) (h6 : l1 < n) (h8 : fs4[3]? = some (.int x7)) (h9 : (0 : Int32) ≤ x7 → mi_W d 141 136 [some (.ref l1), some (.int l2), some (.int l3)] [] (n, sl, f) Q) (h10 : ¬ ((0 : Int32) ≤ x7) → mi_W d 141 132 [some (.ref l1), some (.int l2), some (.int l3)] [] (n, sl, f) Q) : mi_W d 141 125 [some (.ref l1), some (.int l2), some (.int l3)] [] (n, sl, f) Q := by
  refine w_aload_n cd_141_125 rfl ?_
  refine w_getfield cd_141_126 (show mt_f 12 7 = some (12, 3) by decide +kernel) h5 h6 h8 ?_
  exact w_ifge cd_141_129 (by decide) h9 h10
theorem b_141_132 {d : Nat} {Q : (Option Value ⊕ Nat) → mi_H → Prop} (n sl : Nat) (f : Nat → mi_C) {l1 : Nat} {l2 : Int32} {l3 : Int32} {fs4 : List Value} (h5 : f l1 = .inr (12, fs4)) (h6 : l1 < n) (h7 : mi_W d 144 0 (mi_en 1 [.ref l1]) [] (n, sl, f) (mi_Kc d 141 133 [some (.ref l1), some (.int l2), some (.int l3)] [] Q)) : mi_W (d + 1) 141 132 [some (.ref l1), some (.int l2), some (.int l3)] [] (n, sl, f) Q := by
  refine w_aload_n cd_141_132 rfl ?_
  exact w_invokevirtual cd_141_133 (show mt_m 12 276 = some (144, 0) by decide +kernel) (rest := []) rfl (as := [.ref l1]) rfl h5 (Or.inl h6) ⟨Nat.le_of_ble_eq_true rfl, Nat.le_of_ble_eq_true rfl, Nat.le_of_ble_eq_true rfl⟩ h7
theorem b_141_136 {d : Nat} {Q : (Option Value ⊕ Nat) → mi_H → Prop} (n sl : Nat) (f : Nat → mi_C) {l1 : Nat} {l2 : Int32} {l3 : Int32} {fs4 : List Value} {x7 : Int32} (h5 : f l1 = .inr (12, fs4)) (h6 : l1 < n) (h8 : fs4[3]? = some (.int x7)) (h9 : x7 < (0 : Int32) → mi_W d 141 148 [some (.ref l1), some (.int l2), some (.int l3)] [.ref l1] (n, sl, f) Q) (h10 : ¬ (x7 < (0 : Int32)) → mi_W d 141 144 [some (.ref l1), some (.int l2), some (.int l3)] [.ref l1] (n, sl, f) Q) : mi_W d 141 136 [some (.ref l1), some (.int l2), some (.int l3)] [] (n, sl, f) Q := by
  refine w_aload_n cd_141_136 rfl ?_
  refine w_aload_n cd_141_137 rfl ?_
  refine w_getfield cd_141_138 (show mt_f 12 7 = some (12, 3) by decide +kernel) h5 h6 h8 ?_
  exact w_iflt cd_141_141 (by decide) h9 h10
theorem b_141_144 {d : Nat} {Q : (Option Value ⊕ Nat) → mi_H → Prop} (n sl : Nat) (f : Nat → mi_C) {l1 : Nat} {l2 : Int32} {l3 : Int32} {s4 : Nat} (h5 : mi_W d 141 149 [some (.ref l1), some (.int l2), some (.int l3)] [.int 1, .ref s4] (n, sl, f) Q) : mi_W d 141 144 [some (.ref l1), some (.int l2), some (.int l3)] [.ref s4] (n, sl, f) Q := by
  refine w_iconst (v := 1) cd_141_144 (by decide) ?_
  exact w_goto cd_141_145 (by decide) h5
theorem b_141_148 {d : Nat} {Q : (Option Value ⊕ Nat) → mi_H → Prop} (n sl : Nat) (f : Nat → mi_C) {l1 : Nat} {l2 : Int32} {l3 : Int32} {s4 : Nat} (h5 : mi_W d 141 149 [some (.ref l1), some (.int l2), some (.int l3)] [.int 0, .ref s4] (n, sl, f) Q) : mi_W d 141 148 [some (.ref l1), some (.int l2), some (.int l3)] [.ref s4] (n, sl, f) Q := by
  refine w_iconst (v := 0) cd_141_148 (by decide) ?_
  exact h5
theorem b_141_149 {d : Nat} {Q : (Option Value ⊕ Nat) → mi_H → Prop} (n sl : Nat) (f : Nat → mi_C) {l1 : Nat} {l2 : Int32} {l3 : Int32} {s4 : Int32} {s5 : Nat} {fs6 : List Value} (h7 : f s5 = .inr (12, fs6)) (h8 : s5 < n) (h9 : mi_W d 140 0 (mi_en 3 [.ref s5, .int s4, .int 2]) [] (n, sl, f) (mi_Kc d 141 150 [some (.ref l1), some (.int l2), some (.int l3)] [] Q)) : mi_W (d + 1) 141 149 [some (.ref l1), some (.int l2), some (.int l3)] [.int s4, .ref s5] (n, sl, f) Q := by
  refine w_iconst (v := 2) cd_141_149 (by decide) ?_
  exact w_invokevirtual cd_141_150 (show mt_m 12 254 = some (140, 0) by decide +kernel) (rest := []) rfl (as := [.ref s5, .int s4, .int 2]) rfl h7 (Or.inl h8) ⟨Nat.le_of_ble_eq_true rfl, Nat.le_of_ble_eq_true rfl, Nat.le_of_ble_eq_true rfl⟩ h9
theorem b_141_153 {d : Nat} {Q : (Option Value ⊕ Nat) → mi_H → Prop} (n sl : Nat) (f : Nat → mi_C) {l1 : Nat} {l2 : Int32} {l3 : Int32} {s4 : Int32} (h5 : s4 = (0 : Int32) → mi_W d 141 158 [some (.ref l1), some (.int l2), some (.int l3)] [] (n, sl, f) Q) (h6 : ¬ (s4 = (0 : Int32)) → mi_W d 141 156 [some (.ref l1), some (.int l2), some (.int l3)] [] (n, sl, f) Q) : mi_W d 141 153 [some (.ref l1), some (.int l2), some (.int l3)] [.int s4] (n, sl, f) Q := by
  exact w_ifeq cd_141_153 (by decide) h5 h6
theorem b_141_156 {d : Nat} {Q : (Option Value ⊕ Nat) → mi_H → Prop} (n sl : Nat) (f : Nat → mi_C) {l1 : Nat} {l2 : Int32} {l3 : Int32} (h4 : Q (.inl (some (.int 0))) (n, sl, f)) : mi_W d 141 156 [some (.ref l1), some (.int l2), some (.int l3)] [] (n, sl, f) Q := by
  refine w_iconst (v := 0) cd_141_156 (by decide) ?_
  exact w_ireturn_i cd_141_157 (by decide +kernel) h4
theorem b_141_158 {d : Nat} {Q : (Option Value ⊕ Nat) → mi_H → Prop} (n sl : Nat) (f : Nat → mi_C) {l1 : Nat} {l2 : Int32} {l3 : Int32} {fs4 : List Value} {fs8 : List Value} {x11 : Nat} {fs13 : List Value} (h5 : f l1 = .inr (12, fs4)) (h6 : l1 < n) (h7 : 4 < fs4.length) (h9 : (va_up f l1 (.inr (12, fs4.set 4 (.int 0)))) l1 = .inr (12, fs8)) (h10 : l1 < n) (h12 : fs8[41]? = some (.ref x11)) (h14 : (va_up f l1 (.inr (12, fs4.set 4 (.int 0)))) x11 = .inr (13, fs13)) (h15 : x11 < n) (h16 : mi_W d 170 0 (mi_en 2 [.ref x11]) [] (n, sl, (va_up f l1 (.inr (12, fs4.set 4 (.int 0))))) (mi_Kc d 141 167 [some (.ref l1), some (.int l2), some (.int l3)] [] Q)) : mi_W (d + 1) 141 158 [some (.ref l1), some (.int l2), some (.int l3)] [] (n, sl, f) Q := by
  refine w_aload_n cd_141_158 rfl ?_
  refine w_iconst (v := 0) cd_141_159 (by decide) ?_
  refine w_putfield (w := .int 0) cd_141_160 (show mt_f 12 13 = some (12, 4) by decide +kernel) h5 h6 ⟨h7, rfl, Or.inl (by decide)⟩ ?_
  refine w_aload_n cd_141_163 rfl ?_
  refine w_getfield cd_141_164 (show mt_f 12 147 = some (12, 41) by decide +kernel) h9 h10 h12 ?_
  exact w_invokevirtual cd_141_167 (show mt_m 12 279 = some (170, 0) by decide +kernel) (rest := []) rfl (as := [.ref x11]) rfl h14 (Or.inl h15) ⟨Nat.le_of_ble_eq_true rfl, Nat.le_of_ble_eq_true rfl, Nat.le_of_ble_eq_true rfl⟩ h16
theorem b_141_170 {d : Nat} {Q : (Option Value ⊕ Nat) → mi_H → Prop} (n sl : Nat) (f : Nat → mi_C) {l1 : Nat} {l2 : Int32} {l3 : Int32} {fs4 : List Value} {x7 : Int32} (h5 : f l1 = .inr (12, fs4)) (h6 : l1 < n) (h8 : fs4[21]? = some (.int x7)) (h9 : Q (.inl (some (.int x7))) (n, sl, f)) : mi_W d 141 170 [some (.ref l1), some (.int l2), some (.int l3)] [] (n, sl, f) Q := by
  refine w_aload_n cd_141_170 rfl ?_
  refine w_getfield cd_141_171 (show mt_f 12 282 = some (12, 21) by decide +kernel) h5 h6 h8 ?_
  exact w_ireturn_i cd_141_174 (by decide +kernel) h9
/-! MarloweHostModel.count(I)I -/
set_option maxRecDepth 100000 in
theorem mq_203 : mt_q 203 = my_203 := rfl
set_option maxRecDepth 100000 in
theorem ci_203 : mt_inc 0 my_203.cd = true := by decide +kernel
theorem cd_203_0 : mt_cd 203 0 = some (.aload_n 0) := mt_cd_of (q := (0, .aload_n 0, 1)) mq_203 ci_203 (List.mem_of_getElem? (i := 0) rfl)
theorem cd_203_1 : mt_cd 203 1 = some (.iconst 0) := mt_cd_of (q := (1, .iconst 0, 1)) mq_203 ci_203 (List.mem_of_getElem? (i := 1) rfl)
theorem cd_203_2 : mt_cd 203 2 = some (.putfield 248) := mt_cd_of (q := (2, .putfield 248, 3)) mq_203 ci_203 (List.mem_of_getElem? (i := 2) rfl)
theorem cd_203_5 : mt_cd 203 5 = some (.aload_n 0) := mt_cd_of (q := (5, .aload_n 0, 1)) mq_203 ci_203 (List.mem_of_getElem? (i := 3) rfl)
theorem cd_203_6 : mt_cd 203 6 = some (.iload_n 1) := mt_cd_of (q := (6, .iload_n 1, 1)) mq_203 ci_203 (List.mem_of_getElem? (i := 4) rfl)
theorem cd_203_7 : mt_cd 203 7 = some (.i2l) := mt_cd_of (q := (7, .i2l, 1)) mq_203 ci_203 (List.mem_of_getElem? (i := 5) rfl)
theorem cd_203_8 : mt_cd 203 8 = some (.lconst 0) := mt_cd_of (q := (8, .lconst 0, 1)) mq_203 ci_203 (List.mem_of_getElem? (i := 6) rfl)
theorem cd_203_9 : mt_cd 203 9 = some (.ldc2_w 331) := mt_cd_of (q := (9, .ldc2_w 331, 3)) mq_203 ci_203 (List.mem_of_getElem? (i := 7) rfl)
theorem cd_203_12 : mt_cd 203 12 = some (.invokestatic 268) := mt_cd_of (q := (12, .invokestatic 268, 3)) mq_203 ci_203 (List.mem_of_getElem? (i := 8) rfl)
theorem cd_203_15 : mt_cd 203 15 = some (.ifCond .ne 7) := mt_cd_of (q := (15, .ifCond .ne 7, 3)) mq_203 ci_203 (List.mem_of_getElem? (i := 9) rfl)
theorem cd_203_18 : mt_cd 203 18 = some (.iconst 1) := mt_cd_of (q := (18, .iconst 1, 1)) mq_203 ci_203 (List.mem_of_getElem? (i := 10) rfl)
theorem cd_203_19 : mt_cd 203 19 = some (.goto 4) := mt_cd_of (q := (19, .goto 4, 3)) mq_203 ci_203 (List.mem_of_getElem? (i := 11) rfl)
theorem cd_203_22 : mt_cd 203 22 = some (.iconst 0) := mt_cd_of (q := (22, .iconst 0, 1)) mq_203 ci_203 (List.mem_of_getElem? (i := 12) rfl)
theorem cd_203_23 : mt_cd 203 23 = some (.iconst 1) := mt_cd_of (q := (23, .iconst 1, 1)) mq_203 ci_203 (List.mem_of_getElem? (i := 13) rfl)
theorem cd_203_24 : mt_cd 203 24 = some (.invokevirtual 254) := mt_cd_of (q := (24, .invokevirtual 254, 3)) mq_203 ci_203 (List.mem_of_getElem? (i := 14) rfl)
theorem cd_203_27 : mt_cd 203 27 = some (.ifCond .eq 5) := mt_cd_of (q := (27, .ifCond .eq 5, 3)) mq_203 ci_203 (List.mem_of_getElem? (i := 15) rfl)
theorem cd_203_30 : mt_cd 203 30 = some (.iconst 0) := mt_cd_of (q := (30, .iconst 0, 1)) mq_203 ci_203 (List.mem_of_getElem? (i := 16) rfl)
theorem cd_203_31 : mt_cd 203 31 = some (.ireturn) := mt_cd_of (q := (31, .ireturn, 1)) mq_203 ci_203 (List.mem_of_getElem? (i := 17) rfl)
theorem cd_203_32 : mt_cd 203 32 = some (.iload_n 1) := mt_cd_of (q := (32, .iload_n 1, 1)) mq_203 ci_203 (List.mem_of_getElem? (i := 18) rfl)
theorem cd_203_33 : mt_cd 203 33 = some (.bipush 6) := mt_cd_of (q := (33, .bipush 6, 2)) mq_203 ci_203 (List.mem_of_getElem? (i := 19) rfl)
theorem cd_203_35 : mt_cd 203 35 = some (.if_icmp .ge 20) := mt_cd_of (q := (35, .if_icmp .ge 20, 3)) mq_203 ci_203 (List.mem_of_getElem? (i := 20) rfl)
theorem cd_203_38 : mt_cd 203 38 = some (.aload_n 0) := mt_cd_of (q := (38, .aload_n 0, 1)) mq_203 ci_203 (List.mem_of_getElem? (i := 21) rfl)
theorem cd_203_39 : mt_cd 203 39 = some (.getfield 13) := mt_cd_of (q := (39, .getfield 13, 3)) mq_203 ci_203 (List.mem_of_getElem? (i := 22) rfl)
theorem cd_203_42 : mt_cd 203 42 = some (.ifCond .ge 13) := mt_cd_of (q := (42, .ifCond .ge 13, 3)) mq_203 ci_203 (List.mem_of_getElem? (i := 23) rfl)
theorem cd_203_45 : mt_cd 203 45 = some (.iload_n 1) := mt_cd_of (q := (45, .iload_n 1, 1)) mq_203 ci_203 (List.mem_of_getElem? (i := 24) rfl)
theorem cd_203_46 : mt_cd 203 46 = some (.ifCond .ne 7) := mt_cd_of (q := (46, .ifCond .ne 7, 3)) mq_203 ci_203 (List.mem_of_getElem? (i := 25) rfl)
theorem cd_203_49 : mt_cd 203 49 = some (.iconst (-1)) := mt_cd_of (q := (49, .iconst (-1), 1)) mq_203 ci_203 (List.mem_of_getElem? (i := 26) rfl)
theorem cd_203_50 : mt_cd 203 50 = some (.goto 4) := mt_cd_of (q := (50, .goto 4, 3)) mq_203 ci_203 (List.mem_of_getElem? (i := 27) rfl)
theorem cd_203_53 : mt_cd 203 53 = some (.iconst 0) := mt_cd_of (q := (53, .iconst 0, 1)) mq_203 ci_203 (List.mem_of_getElem? (i := 28) rfl)
theorem cd_203_54 : mt_cd 203 54 = some (.ireturn) := mt_cd_of (q := (54, .ireturn, 1)) mq_203 ci_203 (List.mem_of_getElem? (i := 29) rfl)
theorem cd_203_55 : mt_cd 203 55 = some (.iload_n 1) := mt_cd_of (q := (55, .iload_n 1, 1)) mq_203 ci_203 (List.mem_of_getElem? (i := 30) rfl)
theorem cd_203_56 : mt_cd 203 56 = some (.tableswitch 109 0 9 #[56, 64, 69, 74, 79, 84, 89, 94, 99, 104]) := mt_cd_of (q := (56, .tableswitch 109 0 9 #[56, 64, 69, 74, 79, 84, 89, 94, 99, 104], 56)) mq_203 ci_203 (List.mem_of_getElem? (i := 31) rfl)
theorem cd_203_112 : mt_cd 203 112 = some (.aload_n 0) := mt_cd_of (q := (112, .aload_n 0, 1)) mq_203 ci_203 (List.mem_of_getElem? (i := 32) rfl)
theorem cd_203_113 : mt_cd 203 113 = some (.getfield 147) := mt_cd_of (q := (113, .getfield 147, 3)) mq_203 ci_203 (List.mem_of_getElem? (i := 33) rfl)
theorem cd_203_116 : mt_cd 203 116 = some (.getfield 496) := mt_cd_of (q := (116, .getfield 496, 3)) mq_203 ci_203 (List.mem_of_getElem? (i := 34) rfl)
theorem cd_203_119 : mt_cd 203 119 = some (.ireturn) := mt_cd_of (q := (119, .ireturn, 1)) mq_203 ci_203 (List.mem_of_getElem? (i := 35) rfl)
theorem cd_203_120 : mt_cd 203 120 = some (.aload_n 0) := mt_cd_of (q := (120, .aload_n 0, 1)) mq_203 ci_203 (List.mem_of_getElem? (i := 36) rfl)
theorem cd_203_121 : mt_cd 203 121 = some (.getfield 282) := mt_cd_of (q := (121, .getfield 282, 3)) mq_203 ci_203 (List.mem_of_getElem? (i := 37) rfl)
theorem cd_203_124 : mt_cd 203 124 = some (.ireturn) := mt_cd_of (q := (124, .ireturn, 1)) mq_203 ci_203 (List.mem_of_getElem? (i := 38) rfl)
theorem cd_203_125 : mt_cd 203 125 = some (.aload_n 0) := mt_cd_of (q := (125, .aload_n 0, 1)) mq_203 ci_203 (List.mem_of_getElem? (i := 39) rfl)
theorem cd_203_126 : mt_cd 203 126 = some (.getfield 343) := mt_cd_of (q := (126, .getfield 343, 3)) mq_203 ci_203 (List.mem_of_getElem? (i := 40) rfl)
theorem cd_203_129 : mt_cd 203 129 = some (.ireturn) := mt_cd_of (q := (129, .ireturn, 1)) mq_203 ci_203 (List.mem_of_getElem? (i := 41) rfl)
theorem cd_203_130 : mt_cd 203 130 = some (.aload_n 0) := mt_cd_of (q := (130, .aload_n 0, 1)) mq_203 ci_203 (List.mem_of_getElem? (i := 42) rfl)
theorem cd_203_131 : mt_cd 203 131 = some (.getfield 346) := mt_cd_of (q := (131, .getfield 346, 3)) mq_203 ci_203 (List.mem_of_getElem? (i := 43) rfl)
theorem cd_203_134 : mt_cd 203 134 = some (.ireturn) := mt_cd_of (q := (134, .ireturn, 1)) mq_203 ci_203 (List.mem_of_getElem? (i := 44) rfl)
theorem cd_203_135 : mt_cd 203 135 = some (.aload_n 0) := mt_cd_of (q := (135, .aload_n 0, 1)) mq_203 ci_203 (List.mem_of_getElem? (i := 45) rfl)
theorem cd_203_136 : mt_cd 203 136 = some (.getfield 349) := mt_cd_of (q := (136, .getfield 349, 3)) mq_203 ci_203 (List.mem_of_getElem? (i := 46) rfl)
theorem cd_203_139 : mt_cd 203 139 = some (.ireturn) := mt_cd_of (q := (139, .ireturn, 1)) mq_203 ci_203 (List.mem_of_getElem? (i := 47) rfl)
theorem cd_203_140 : mt_cd 203 140 = some (.aload_n 0) := mt_cd_of (q := (140, .aload_n 0, 1)) mq_203 ci_203 (List.mem_of_getElem? (i := 48) rfl)
theorem cd_203_141 : mt_cd 203 141 = some (.getfield 352) := mt_cd_of (q := (141, .getfield 352, 3)) mq_203 ci_203 (List.mem_of_getElem? (i := 49) rfl)
theorem cd_203_144 : mt_cd 203 144 = some (.ireturn) := mt_cd_of (q := (144, .ireturn, 1)) mq_203 ci_203 (List.mem_of_getElem? (i := 50) rfl)
theorem cd_203_145 : mt_cd 203 145 = some (.aload_n 0) := mt_cd_of (q := (145, .aload_n 0, 1)) mq_203 ci_203 (List.mem_of_getElem? (i := 51) rfl)
theorem cd_203_146 : mt_cd 203 146 = some (.getfield 258) := mt_cd_of (q := (146, .getfield 258, 3)) mq_203 ci_203 (List.mem_of_getElem? (i := 52) rfl)
theorem cd_203_149 : mt_cd 203 149 = some (.ireturn) := mt_cd_of (q := (149, .ireturn, 1)) mq_203 ci_203 (List.mem_of_getElem? (i := 53) rfl)
theorem cd_203_150 : mt_cd 203 150 = some (.aload_n 0) := mt_cd_of (q := (150, .aload_n 0, 1)) mq_203 ci_203 (List.mem_of_getElem? (i := 54) rfl)
theorem cd_203_151 : mt_cd 203 151 = some (.getfield 536) := mt_cd_of (q := (151, .getfield 536, 3)) mq_203 ci_203 (List.mem_of_getElem? (i := 55) rfl)
theorem cd_203_154 : mt_cd 203 154 = some (.ireturn) := mt_cd_of (q := (154, .ireturn, 1)) mq_203 ci_203 (List.mem_of_getElem? (i := 56) rfl)
theorem cd_203_155 : mt_cd 203 155 = some (.aload_n 0) := mt_cd_of (q := (155, .aload_n 0, 1)) mq_203 ci_203 (List.mem_of_getElem? (i := 57) rfl)
theorem cd_203_156 : mt_cd 203 156 = some (.getfield 539) := mt_cd_of (q := (156, .getfield 539, 3)) mq_203 ci_203 (List.mem_of_getElem? (i := 58) rfl)
theorem cd_203_159 : mt_cd 203 159 = some (.ireturn) := mt_cd_of (q := (159, .ireturn, 1)) mq_203 ci_203 (List.mem_of_getElem? (i := 59) rfl)
theorem cd_203_160 : mt_cd 203 160 = some (.aload_n 0) := mt_cd_of (q := (160, .aload_n 0, 1)) mq_203 ci_203 (List.mem_of_getElem? (i := 60) rfl)
theorem cd_203_161 : mt_cd 203 161 = some (.getfield 562) := mt_cd_of (q := (161, .getfield 562, 3)) mq_203 ci_203 (List.mem_of_getElem? (i := 61) rfl)
theorem cd_203_164 : mt_cd 203 164 = some (.ireturn) := mt_cd_of (q := (164, .ireturn, 1)) mq_203 ci_203 (List.mem_of_getElem? (i := 62) rfl)
theorem cd_203_165 : mt_cd 203 165 = some (.aload_n 0) := mt_cd_of (q := (165, .aload_n 0, 1)) mq_203 ci_203 (List.mem_of_getElem? (i := 63) rfl)
theorem cd_203_166 : mt_cd 203 166 = some (.getfield 565) := mt_cd_of (q := (166, .getfield 565, 3)) mq_203 ci_203 (List.mem_of_getElem? (i := 64) rfl)
theorem cd_203_169 : mt_cd 203 169 = some (.ireturn) := mt_cd_of (q := (169, .ireturn, 1)) mq_203 ci_203 (List.mem_of_getElem? (i := 65) rfl)
theorem b_203_0 {d : Nat} {Q : (Option Value ⊕ Nat) → mi_H → Prop} (n sl : Nat) (f : Nat → mi_C) {l1 : Nat} {l2 : Int32} {fs3 : List Value} (h4 : f l1 = .inr (12, fs3)) (h5 : l1 < n) (h6 : 0 < fs3.length) (h7 : mi_W d 142 0 (mi_en 6 [.long ((l2 : Int32).toInt64), .long 0, .long 10]) [] (n, sl, (va_up f l1 (.inr (12, fs3.set 0 (.int 0))))) (mi_Kc d 203 12 [some (.ref l1), some (.int l2)] [.ref l1] Q)) : mi_W (d + 1) 203 0 [some (.ref l1), some (.int l2)] [] (n, sl, f) Q := by
  refine w_aload_n cd_203_0 rfl ?_
  refine w_iconst (v := 0) cd_203_1 (by decide) ?_
  refine w_putfield (w := .int 0) cd_203_2 (show mt_f 12 248 = some (12, 0) by decide +kernel) h4 h5 ⟨h6, rfl, Or.inl (by decide)⟩ ?_
  refine w_aload_n cd_203_5 rfl ?_
  refine w_iload_n cd_203_6 rfl ?_
  refine w_i2l cd_203_7 ?_
  refine w_lconst (lv := 0) cd_203_8 (by decide) ?_
  refine w_ldc2_w (lv := 10) cd_203_9 (by decide +kernel) ?_
  exact w_invokestatic cd_203_12 (show mt_m 12 268 = some (142, 4) by decide +kernel) (by decide) (rest := [.ref l1]) rfl (as := [.long ((l2 : Int32).toInt64), .long 0, .long 10]) rfl ⟨Nat.le_of_ble_eq_true rfl, Nat.le_of_ble_eq_true rfl, Nat.le_of_ble_eq_true rfl⟩ h7
theorem b_203_15 {d : Nat} {Q : (Option Value ⊕ Nat) → mi_H → Prop} (n sl : Nat) (f : Nat → mi_C) {l1 : Nat} {l2 : Int32} {s3 : Int32} {s4 : Nat} (h5 : ¬ s3 = (0 : Int32) → mi_W d 203 22 [some (.ref l1), some (.int l2)] [.ref s4] (n, sl, f) Q) (h6 : ¬ (¬ s3 = (0 : Int32)) → mi_W d 203 18 [some (.ref l1), some (.int l2)] [.ref s4] (n, sl, f) Q) : mi_W d 203 15 [some (.ref l1), some (.int l2)] [.int s3, .ref s4] (n, sl, f) Q := by
  exact w_ifne cd_203_15 (by decide) h5 h6
theorem b_203_18 {d : Nat} {Q : (Option Value ⊕ Nat) → mi_H → Prop} (n sl : Nat) (f : Nat → mi_C) {l1 : Nat} {l2 : Int32} {s3 : Nat} (h4 : mi_W d 203 23 [some (.ref l1), some (.int l2)] [.int 1, .ref s3] (n, sl, f) Q) : mi_W d 203 18 [some (.ref l1), some (.int l2)] [.ref s3] (n, sl, f) Q := by
  refine w_iconst (v := 1) cd_203_18 (by decide) ?_
  exact w_goto cd_203_19 (by decide) h4
theorem b_203_22 {d : Nat} {Q : (Option Value ⊕ Nat) → mi_H → Prop} (n sl : Nat) (f : Nat → mi_C) {l1 : Nat} {l2 : Int32} {s3 : Nat} (h4 : mi_W d 203 23 [some (.ref l1), some (.int l2)] [.int 0, .ref s3] (n, sl, f) Q) : mi_W d 203 22 [some (.ref l1), some (.int l2)] [.ref s3] (n, sl, f) Q := by
  refine w_iconst (v := 0) cd_203_22 (by decide) ?_
  exact h4
theorem b_203_23 {d : Nat} {Q : (Option Value ⊕ Nat) → mi_H → Prop} (n sl : Nat) (f : Nat → mi_C) {l1 : Nat} {l2 : Int32} {s3 : Int32} {s4 : Nat} {fs5 : List Value} (h6 : f s4 = .inr (12, fs5)) (h7 : s4 < n) (h8 : mi_W d 140 0 (mi_en 3 [.ref s4, .int s3, .int 1]) [] (n, sl, f) (mi_Kc d 203 24 [some (.ref l1), some (.int l2)] [] Q)) : mi_W (d + 1) 203 23 [some (.ref l1), some (.int l2)] [.int s3, .ref s4] (n, sl, f) Q := by
  refine w_iconst (v := 1) cd_203_23 (by decide) ?_
  exact w_invokevirtual cd_203_24 (show mt_m 12 254 = some (140, 0) by decide +kernel) (rest := []) rfl (as := [.ref s4, .int s3, .int 1]) rfl h6 (Or.inl h7) ⟨Nat.le_of_ble_eq_true rfl, Nat.le_of_ble_eq_true rfl, Nat.le_of_ble_eq_true rfl⟩ h8
theorem b_203_27 {d : Nat} {Q : (Option Value ⊕ Nat) → mi_H → Prop} (n sl : Nat) (f : Nat → mi_C) {l1 : Nat} {l2 : Int32} {s3 : Int32} (h4 : s3 = (0 : Int32) → mi_W d 203 32 [some (.ref l1), some (.int l2)] [] (n, sl, f) Q) (h5 : ¬ (s3 = (0 : Int32)) → mi_W d 203 30 [some (.ref l1), some (.int l2)] [] (n, sl, f) Q) : mi_W d 203 27 [some (.ref l1), some (.int l2)] [.int s3] (n, sl, f) Q := by
  exact w_ifeq cd_203_27 (by decide) h4 h5
theorem b_203_30 {d : Nat} {Q : (Option Value ⊕ Nat) → mi_H → Prop} (n sl : Nat) (f : Nat → mi_C) {l1 : Nat} {l2 : Int32} (h3 : Q (.inl (some (.int 0))) (n, sl, f)) : mi_W d 203 30 [some (.ref l1), some (.int l2)] [] (n, sl, f) Q := by
  refine w_iconst (v := 0) cd_203_30 (by decide) ?_
  exact w_ireturn_i cd_203_31 (by decide +kernel) h3
theorem b_203_32 {d : Nat} {Q : (Option Value ⊕ Nat) → mi_H → Prop} (n sl : Nat) (f : Nat → mi_C) {l1 : Nat} {l2 : Int32} (h3 : 6 ≤ l2 → mi_W d 203 55 [some (.ref l1), some (.int l2)] [] (n, sl, f) Q) (h4 : ¬ (6 ≤ l2) → mi_W d 203 38 [some (.ref l1), some (.int l2)] [] (n, sl, f) Q) : mi_W d 203 32 [some (.ref l1), some (.int l2)] [] (n, sl, f) Q := by
  refine w_iload_n cd_203_32 rfl ?_
  refine w_bipush (v := 6) cd_203_33 (by decide) ?_
  exact w_if_icmpge cd_203_35 (by decide) h3 h4
theorem b_203_38 {d : Nat} {Q : (Option Value ⊕ Nat) → mi_H → Prop} (n sl : Nat) (f : Nat → mi_C) {l1 : Nat} {l2 : Int32} {fs3 : List Value} {x6 : Int32} (h4 : f l1 = .inr (12, fs3)) (h5 : l1 < n) (h7 : fs3[4]? = some (.int x6)) (h8 : (0 : Int32) ≤ x6 → mi_W d 203 55 [some (.ref l1), some (.int l2)] [] (n, sl, f) Q) (h9 : ¬ ((0 : Int32) ≤ x6) → mi_W d 203 45 [some (.ref l1), some (.int l2)] [] (n, sl, f) Q) : mi_W d 203 38 [some (.ref l1), some (.int l2)] [] (n, sl, f) Q := by
  refine w_aload_n cd_203_38 rfl ?_
  refine w_getfield cd_203_39 (show mt_f 12 13 = some (12, 4) by decide +kernel) h4 h5 h7 ?_
  exact w_ifge cd_203_42 (by decide) h8 h9
theorem b_203_45 {d : Nat} {Q : (Option Value ⊕ Nat) → mi_H → Prop} (n sl : Nat) (f : Nat → mi_C) {l1 : Nat} {l2 : Int32} (h3 : ¬ l2 = (0 : Int32) → mi_W d 203 53 [some (.ref l1), some (.int l2)] [] (n, sl, f) Q) (h4 : ¬ (¬ l2 = (0 : Int32)) → mi_W d 203 49 [some (.ref l1), some (.int l2)] [] (n, sl, f) Q) : mi_W d 203 45 [some (.ref l1), some (.int l2)] [] (n, sl, f) Q := by
  refine w_iload_n cd_203_45 rfl ?_
  exact w_ifne cd_203_46 (by decide) h3 h4
theorem b_203_49 {d : Nat} {Q : (Option Value ⊕ Nat) → mi_H → Prop} (n sl : Nat) (f : Nat → mi_C) {l1 : Nat} {l2 : Int32} (h3 : mi_W d 203 54 [some (.ref l1), some (.int l2)] [.int (-1)] (n, sl, f) Q) : mi_W d 203 49 [some (.ref l1), some (.int l2)] [] (n, sl, f) Q := by
  refine w_iconst (v := (-1)) cd_203_49 (by decide) ?_
  exact w_goto cd_203_50 (by decide) h3
theorem b_203_53 {d : Nat} {Q : (Option Value ⊕ Nat) → mi_H → Prop} (n sl : Nat) (f : Nat → mi_C) {l1 : Nat} {l2 : Int32} (h3 : mi_W d 203 54 [some (.ref l1), some (.int l2)] [.int 0] (n, sl, f) Q) : mi_W d 203 53 [some (.ref l1), some (.int l2)] [] (n, sl, f) Q := by
  refine w_iconst (v := 0) cd_203_53 (by decide) ?_
  exact h3
theorem b_203_54 {d : Nat} {Q : (Option Value ⊕ Nat) → mi_H → Prop} (n sl : Nat) (f : Nat → mi_C) {l1 : Nat} {l2 : Int32} {s3 : Int32} (h4 : Q (.inl (some (.int s3))) (n, sl, f)) : mi_W d 203 54 [some (.ref l1), some (.int l2)] [.int s3] (n, sl, f) Q := by
  exact w_ireturn_i cd_203_54 (by decide +kernel) h4
theorem b_203_55 {d : Nat} {Q : (Option Value ⊕ Nat) → mi_H → Prop} (n sl : Nat) (f : Nat → mi_C) {l1 : Nat} {l2 : Int32} {t3 : Nat} (h4 : mi_ts 56 109 0 9 #[56, 64, 69, 74, 79, 84, 89, 94, 99, 104] (l2 : Int32).toInt = some t3) (h5 : mi_W d 203 t3 [some (.ref l1), some (.int l2)] [] (n, sl, f) Q) : mi_W d 203 55 [some (.ref l1), some (.int l2)] [] (n, sl, f) Q := by
  refine w_iload_n cd_203_55 rfl ?_
  exact w_tableswitch cd_203_56 h4 h5
theorem b_203_112 {d : Nat} {Q : (Option Value ⊕ Nat) → mi_H → Prop} (n sl : Nat) (f : Nat → mi_C) {l1 : Nat} {l2 : Int32} {fs3 : List Value} {x6 : Nat} {fs8 : List Value} {x11 : Int32} (h4 : f l1 = .inr (12, fs3)) (h5 : l1 < n) (h7 : fs3[41]? = some (.ref x6)) (h9 : f x6 = .inr (13, fs8)) (h10 : x6 < n) (h12 : fs8[0]? = some (.int x11)) (h13 : Q (.inl (some (.int x11))) (n, sl, f)) : mi_W d 203 112 [some (.ref l1), some (.int l2)] [] (n, sl, f) Q := by
  refine w_aload_n cd_203_112 rfl ?_
  refine w_getfield cd_203_113 (show mt_f 12 147 = some (12, 41) by decide +kernel) h4 h5 h7 ?_
  refine w_getfield cd_203_116 (show mt_f 12 496 = some (13, 0) by decide +kernel) h9 h10 h12 ?_
  exact w_ireturn_i cd_203_119 (by decide +kernel) h13
theorem b_203_120 {d : Nat} {Q : (Option Value ⊕ Nat) → mi_H → Prop} (n sl : Nat) (f : Nat → mi_C) {l1 : Nat} {l2 : Int32} {fs3 : List Value} {x6 : Int32} (h4 : f l1 = .inr (12, fs3)) (h5 : l1 < n) (h7 : fs3[21]? = some (.int x6)) (h8 : Q (.inl (some (.int x6))) (n, sl, f)) : mi_W d 203 120 [some (.ref l1), some (.int l2)] [] (n, sl, f) Q := by
  refine w_aload_n cd_203_120 rfl ?_
  refine w_getfield cd_203_121 (show mt_f 12 282 = some (12, 21) by decide +kernel) h4 h5 h7 ?_
  exact w_ireturn_i cd_203_124 (by decide +kernel) h8
theorem b_203_125 {d : Nat} {Q : (Option Value ⊕ Nat) → mi_H → Prop} (n sl : Nat) (f : Nat → mi_C) {l1 : Nat} {l2 : Int32} {fs3 : List Value} {x6 : Int32} (h4 : f l1 = .inr (12, fs3)) (h5 : l1 < n) (h7 : fs3[24]? = some (.int x6)) (h8 : Q (.inl (some (.int x6))) (n, sl, f)) : mi_W d 203 125 [some (.ref l1), some (.int l2)] [] (n, sl, f) Q := by
  refine w_aload_n cd_203_125 rfl ?_
  refine w_getfield cd_203_126 (show mt_f 12 343 = some (12, 24) by decide +kernel) h4 h5 h7 ?_
  exact w_ireturn_i cd_203_129 (by decide +kernel) h8
theorem b_203_130 {d : Nat} {Q : (Option Value ⊕ Nat) → mi_H → Prop} (n sl : Nat) (f : Nat → mi_C) {l1 : Nat} {l2 : Int32} {fs3 : List Value} {x6 : Int32} (h4 : f l1 = .inr (12, fs3)) (h5 : l1 < n) (h7 : fs3[25]? = some (.int x6)) (h8 : Q (.inl (some (.int x6))) (n, sl, f)) : mi_W d 203 130 [some (.ref l1), some (.int l2)] [] (n, sl, f) Q := by
  refine w_aload_n cd_203_130 rfl ?_
  refine w_getfield cd_203_131 (show mt_f 12 346 = some (12, 25) by decide +kernel) h4 h5 h7 ?_
  exact w_ireturn_i cd_203_134 (by decide +kernel) h8
theorem b_203_135 {d : Nat} {Q : (Option Value ⊕ Nat) → mi_H → Prop} (n sl : Nat) (f : Nat → mi_C) {l1 : Nat} {l2 : Int32} {fs3 : List Value} {x6 : Int32} (h4 : f l1 = .inr (12, fs3)) (h5 : l1 < n) (h7 : fs3[26]? = some (.int x6)) (h8 : Q (.inl (some (.int x6))) (n, sl, f)) : mi_W d 203 135 [some (.ref l1), some (.int l2)] [] (n, sl, f) Q := by
  refine w_aload_n cd_203_135 rfl ?_
  refine w_getfield cd_203_136 (show mt_f 12 349 = some (12, 26) by decide +kernel) h4 h5 h7 ?_
  exact w_ireturn_i cd_203_139 (by decide +kernel) h8
theorem b_203_140 {d : Nat} {Q : (Option Value ⊕ Nat) → mi_H → Prop} (n sl : Nat) (f : Nat → mi_C) {l1 : Nat} {l2 : Int32} {fs3 : List Value} {x6 : Int32} (h4 : f l1 = .inr (12, fs3)) (h5 : l1 < n) (h7 : fs3[27]? = some (.int x6)) (h8 : Q (.inl (some (.int x6))) (n, sl, f)) : mi_W d 203 140 [some (.ref l1), some (.int l2)] [] (n, sl, f) Q := by
  refine w_aload_n cd_203_140 rfl ?_
  refine w_getfield cd_203_141 (show mt_f 12 352 = some (12, 27) by decide +kernel) h4 h5 h7 ?_
  exact w_ireturn_i cd_203_144 (by decide +kernel) h8
theorem b_203_145 {d : Nat} {Q : (Option Value ⊕ Nat) → mi_H → Prop} (n sl : Nat) (f : Nat → mi_C) {l1 : Nat} {l2 : Int32} {fs3 : List Value} {x6 : Int32} (h4 : f l1 = .inr (12, fs3)) (h5 : l1 < n) (h7 : fs3[59]? = some (.int x6)) (h8 : Q (.inl (some (.int x6))) (n, sl, f)) : mi_W d 203 145 [some (.ref l1), some (.int l2)] [] (n, sl, f) Q := by
  refine w_aload_n cd_203_145 rfl ?_
  refine w_getfield cd_203_146 (show mt_f 12 258 = some (12, 59) by decide +kernel) h4 h5 h7 ?_
  exact w_ireturn_i cd_203_149 (by decide +kernel) h8
theorem b_203_150 {d : Nat} {Q : (Option Value ⊕ Nat) → mi_H → Prop} (n sl : Nat) (f : Nat → mi_C) {l1 : Nat} {l2 : Int32} {fs3 : List Value} {x6 : Int32} (h4 : f l1 = .inr (12, fs3)) (h5 : l1 < n) (h7 : fs3[65]? = some (.int x6)) (h8 : Q (.inl (some (.int x6))) (n, sl, f)) : mi_W d 203 150 [some (.ref l1), some (.int l2)] [] (n, sl, f) Q := by
  refine w_aload_n cd_203_150 rfl ?_
  refine w_getfield cd_203_151 (show mt_f 12 536 = some (12, 65) by decide +kernel) h4 h5 h7 ?_
  exact w_ireturn_i cd_203_154 (by decide +kernel) h8
theorem b_203_155 {d : Nat} {Q : (Option Value ⊕ Nat) → mi_H → Prop} (n sl : Nat) (f : Nat → mi_C) {l1 : Nat} {l2 : Int32} {fs3 : List Value} {x6 : Int32} (h4 : f l1 = .inr (12, fs3)) (h5 : l1 < n) (h7 : fs3[66]? = some (.int x6)) (h8 : Q (.inl (some (.int x6))) (n, sl, f)) : mi_W d 203 155 [some (.ref l1), some (.int l2)] [] (n, sl, f) Q := by
  refine w_aload_n cd_203_155 rfl ?_
  refine w_getfield cd_203_156 (show mt_f 12 539 = some (12, 66) by decide +kernel) h4 h5 h7 ?_
  exact w_ireturn_i cd_203_159 (by decide +kernel) h8
theorem b_203_160 {d : Nat} {Q : (Option Value ⊕ Nat) → mi_H → Prop} (n sl : Nat) (f : Nat → mi_C) {l1 : Nat} {l2 : Int32} {fs3 : List Value} {x6 : Int32} (h4 : f l1 = .inr (12, fs3)) (h5 : l1 < n) (h7 : fs3[73]? = some (.int x6)) (h8 : Q (.inl (some (.int x6))) (n, sl, f)) : mi_W d 203 160 [some (.ref l1), some (.int l2)] [] (n, sl, f) Q := by
  refine w_aload_n cd_203_160 rfl ?_
  refine w_getfield cd_203_161 (show mt_f 12 562 = some (12, 73) by decide +kernel) h4 h5 h7 ?_
  exact w_ireturn_i cd_203_164 (by decide +kernel) h8
theorem b_203_165 {d : Nat} {Q : (Option Value ⊕ Nat) → mi_H → Prop} (n sl : Nat) (f : Nat → mi_C) {l1 : Nat} {l2 : Int32} {fs3 : List Value} {x6 : Int32} (h4 : f l1 = .inr (12, fs3)) (h5 : l1 < n) (h7 : fs3[75]? = some (.int x6)) (h8 : Q (.inl (some (.int x6))) (n, sl, f)) : mi_W d 203 165 [some (.ref l1), some (.int l2)] [] (n, sl, f) Q := by
  refine w_aload_n cd_203_165 rfl ?_
  refine w_getfield cd_203_166 (show mt_f 12 565 = some (12, 75) by decide +kernel) h4 h5 h7 ?_
  exact w_ireturn_i cd_203_169 (by decide +kernel) h8
/-! MarloweHost.state(III)J -/
set_option maxRecDepth 100000 in
theorem mq_118 : mt_q 118 = my_118 := rfl
set_option maxRecDepth 100000 in
theorem ci_118 : mt_inc 0 my_118.cd = true := by decide +kernel
theorem cd_118_0 : mt_cd 118 0 = some (.iload_n 1) := mt_cd_of (q := (0, .iload_n 1, 1)) mq_118 ci_118 (List.mem_of_getElem? (i := 0) rfl)
theorem cd_118_1 : mt_cd 118 1 = some (.ifCond .lt 22) := mt_cd_of (q := (1, .ifCond .lt 22, 3)) mq_118 ci_118 (List.mem_of_getElem? (i := 1) rfl)
theorem cd_118_4 : mt_cd 118 4 = some (.iload_n 1) := mt_cd_of (q := (4, .iload_n 1, 1)) mq_118 ci_118 (List.mem_of_getElem? (i := 2) rfl)
theorem cd_118_5 : mt_cd 118 5 = some (.iconst 4) := mt_cd_of (q := (5, .iconst 4, 1)) mq_118 ci_118 (List.mem_of_getElem? (i := 3) rfl)
theorem cd_118_6 : mt_cd 118 6 = some (.if_icmp .gt 17) := mt_cd_of (q := (6, .if_icmp .gt 17, 3)) mq_118 ci_118 (List.mem_of_getElem? (i := 4) rfl)
theorem cd_118_9 : mt_cd 118 9 = some (.iload_n 2) := mt_cd_of (q := (9, .iload_n 2, 1)) mq_118 ci_118 (List.mem_of_getElem? (i := 5) rfl)
theorem cd_118_10 : mt_cd 118 10 = some (.invokestatic 114) := mt_cd_of (q := (10, .invokestatic 114, 3)) mq_118 ci_118 (List.mem_of_getElem? (i := 6) rfl)
theorem cd_118_13 : mt_cd 118 13 = some (.ifCond .eq 10) := mt_cd_of (q := (13, .ifCond .eq 10, 3)) mq_118 ci_118 (List.mem_of_getElem? (i := 7) rfl)
theorem cd_118_16 : mt_cd 118 16 = some (.iload_n 3) := mt_cd_of (q := (16, .iload_n 3, 1)) mq_118 ci_118 (List.mem_of_getElem? (i := 8) rfl)
theorem cd_118_17 : mt_cd 118 17 = some (.invokestatic 118) := mt_cd_of (q := (17, .invokestatic 118, 3)) mq_118 ci_118 (List.mem_of_getElem? (i := 9) rfl)
theorem cd_118_20 : mt_cd 118 20 = some (.ifCond .ne 13) := mt_cd_of (q := (20, .ifCond .ne 13, 3)) mq_118 ci_118 (List.mem_of_getElem? (i := 10) rfl)
theorem cd_118_23 : mt_cd 118 23 = some (.new 123) := mt_cd_of (q := (23, .new 123, 3)) mq_118 ci_118 (List.mem_of_getElem? (i := 11) rfl)
theorem cd_118_26 : mt_cd 118 26 = some (.dup) := mt_cd_of (q := (26, .dup, 1)) mq_118 ci_118 (List.mem_of_getElem? (i := 12) rfl)
theorem cd_118_27 : mt_cd 118 27 = some (.ldc 191) := mt_cd_of (q := (27, .ldc 191, 2)) mq_118 ci_118 (List.mem_of_getElem? (i := 13) rfl)
theorem cd_118_29 : mt_cd 118 29 = some (.invokespecial 127) := mt_cd_of (q := (29, .invokespecial 127, 3)) mq_118 ci_118 (List.mem_of_getElem? (i := 14) rfl)
theorem cd_118_32 : mt_cd 118 32 = some (.athrow) := mt_cd_of (q := (32, .athrow, 1)) mq_118 ci_118 (List.mem_of_getElem? (i := 15) rfl)
theorem cd_118_33 : mt_cd 118 33 = some (.iload_n 1) := mt_cd_of (q := (33, .iload_n 1, 1)) mq_118 ci_118 (List.mem_of_getElem? (i := 16) rfl)
theorem cd_118_34 : mt_cd 118 34 = some (.iconst 1) := mt_cd_of (q := (34, .iconst 1, 1)) mq_118 ci_118 (List.mem_of_getElem? (i := 17) rfl)
theorem cd_118_35 : mt_cd 118 35 = some (.if_icmp .ne 17) := mt_cd_of (q := (35, .if_icmp .ne 17, 3)) mq_118 ci_118 (List.mem_of_getElem? (i := 18) rfl)
theorem cd_118_38 : mt_cd 118 38 = some (.aload_n 0) := mt_cd_of (q := (38, .aload_n 0, 1)) mq_118 ci_118 (List.mem_of_getElem? (i := 19) rfl)
theorem cd_118_39 : mt_cd 118 39 = some (.getfield 35) := mt_cd_of (q := (39, .getfield 35, 3)) mq_118 ci_118 (List.mem_of_getElem? (i := 20) rfl)
theorem cd_118_42 : mt_cd 118 42 = some (.getfield 128) := mt_cd_of (q := (42, .getfield 128, 3)) mq_118 ci_118 (List.mem_of_getElem? (i := 21) rfl)
theorem cd_118_45 : mt_cd 118 45 = some (.iload_n 2) := mt_cd_of (q := (45, .iload_n 2, 1)) mq_118 ci_118 (List.mem_of_getElem? (i := 22) rfl)
theorem cd_118_46 : mt_cd 118 46 = some (.iconst 4) := mt_cd_of (q := (46, .iconst 4, 1)) mq_118 ci_118 (List.mem_of_getElem? (i := 23) rfl)
theorem cd_118_47 : mt_cd 118 47 = some (.imul) := mt_cd_of (q := (47, .imul, 1)) mq_118 ci_118 (List.mem_of_getElem? (i := 24) rfl)
theorem cd_118_48 : mt_cd 118 48 = some (.iload_n 3) := mt_cd_of (q := (48, .iload_n 3, 1)) mq_118 ci_118 (List.mem_of_getElem? (i := 25) rfl)
theorem cd_118_49 : mt_cd 118 49 = some (.iadd) := mt_cd_of (q := (49, .iadd, 1)) mq_118 ci_118 (List.mem_of_getElem? (i := 26) rfl)
theorem cd_118_50 : mt_cd 118 50 = some (.laload) := mt_cd_of (q := (50, .laload, 1)) mq_118 ci_118 (List.mem_of_getElem? (i := 27) rfl)
theorem cd_118_51 : mt_cd 118 51 = some (.lreturn) := mt_cd_of (q := (51, .lreturn, 1)) mq_118 ci_118 (List.mem_of_getElem? (i := 28) rfl)
theorem cd_118_52 : mt_cd 118 52 = some (.aload_n 0) := mt_cd_of (q := (52, .aload_n 0, 1)) mq_118 ci_118 (List.mem_of_getElem? (i := 29) rfl)
theorem cd_118_53 : mt_cd 118 53 = some (.invokevirtual 143) := mt_cd_of (q := (53, .invokevirtual 143, 3)) mq_118 ci_118 (List.mem_of_getElem? (i := 30) rfl)
theorem cd_118_56 : mt_cd 118 56 = some (.iload_n 1) := mt_cd_of (q := (56, .iload_n 1, 1)) mq_118 ci_118 (List.mem_of_getElem? (i := 31) rfl)
theorem cd_118_57 : mt_cd 118 57 = some (.tableswitch 65 0 3 #[31, 65, 45, 55]) := mt_cd_of (q := (57, .tableswitch 65 0 3 #[31, 65, 45, 55], 31)) mq_118 ci_118 (List.mem_of_getElem? (i := 32) rfl)
theorem cd_118_88 : mt_cd 118 88 = some (.aload_n 0) := mt_cd_of (q := (88, .aload_n 0, 1)) mq_118 ci_118 (List.mem_of_getElem? (i := 33) rfl)
theorem cd_118_89 : mt_cd 118 89 = some (.getfield 67) := mt_cd_of (q := (89, .getfield 67, 3)) mq_118 ci_118 (List.mem_of_getElem? (i := 34) rfl)
theorem cd_118_92 : mt_cd 118 92 = some (.getfield 193) := mt_cd_of (q := (92, .getfield 193, 3)) mq_118 ci_118 (List.mem_of_getElem? (i := 35) rfl)
theorem cd_118_95 : mt_cd 118 95 = some (.iload_n 2) := mt_cd_of (q := (95, .iload_n 2, 1)) mq_118 ci_118 (List.mem_of_getElem? (i := 36) rfl)
theorem cd_118_96 : mt_cd 118 96 = some (.iconst 4) := mt_cd_of (q := (96, .iconst 4, 1)) mq_118 ci_118 (List.mem_of_getElem? (i := 37) rfl)
theorem cd_118_97 : mt_cd 118 97 = some (.imul) := mt_cd_of (q := (97, .imul, 1)) mq_118 ci_118 (List.mem_of_getElem? (i := 38) rfl)
theorem cd_118_98 : mt_cd 118 98 = some (.iload_n 3) := mt_cd_of (q := (98, .iload_n 3, 1)) mq_118 ci_118 (List.mem_of_getElem? (i := 39) rfl)
theorem cd_118_99 : mt_cd 118 99 = some (.iadd) := mt_cd_of (q := (99, .iadd, 1)) mq_118 ci_118 (List.mem_of_getElem? (i := 40) rfl)
theorem cd_118_100 : mt_cd 118 100 = some (.laload) := mt_cd_of (q := (100, .laload, 1)) mq_118 ci_118 (List.mem_of_getElem? (i := 41) rfl)
theorem cd_118_101 : mt_cd 118 101 = some (.lreturn) := mt_cd_of (q := (101, .lreturn, 1)) mq_118 ci_118 (List.mem_of_getElem? (i := 42) rfl)
theorem cd_118_102 : mt_cd 118 102 = some (.aload_n 0) := mt_cd_of (q := (102, .aload_n 0, 1)) mq_118 ci_118 (List.mem_of_getElem? (i := 43) rfl)
theorem cd_118_103 : mt_cd 118 103 = some (.getfield 67) := mt_cd_of (q := (103, .getfield 67, 3)) mq_118 ci_118 (List.mem_of_getElem? (i := 44) rfl)
theorem cd_118_106 : mt_cd 118 106 = some (.getfield 196) := mt_cd_of (q := (106, .getfield 196, 3)) mq_118 ci_118 (List.mem_of_getElem? (i := 45) rfl)
theorem cd_118_109 : mt_cd 118 109 = some (.iload_n 2) := mt_cd_of (q := (109, .iload_n 2, 1)) mq_118 ci_118 (List.mem_of_getElem? (i := 46) rfl)
theorem cd_118_110 : mt_cd 118 110 = some (.laload) := mt_cd_of (q := (110, .laload, 1)) mq_118 ci_118 (List.mem_of_getElem? (i := 47) rfl)
theorem cd_118_111 : mt_cd 118 111 = some (.lreturn) := mt_cd_of (q := (111, .lreturn, 1)) mq_118 ci_118 (List.mem_of_getElem? (i := 48) rfl)
theorem cd_118_112 : mt_cd 118 112 = some (.aload_n 0) := mt_cd_of (q := (112, .aload_n 0, 1)) mq_118 ci_118 (List.mem_of_getElem? (i := 49) rfl)
theorem cd_118_113 : mt_cd 118 113 = some (.getfield 67) := mt_cd_of (q := (113, .getfield 67, 3)) mq_118 ci_118 (List.mem_of_getElem? (i := 50) rfl)
theorem cd_118_116 : mt_cd 118 116 = some (.getfield 199) := mt_cd_of (q := (116, .getfield 199, 3)) mq_118 ci_118 (List.mem_of_getElem? (i := 51) rfl)
theorem cd_118_119 : mt_cd 118 119 = some (.iload_n 2) := mt_cd_of (q := (119, .iload_n 2, 1)) mq_118 ci_118 (List.mem_of_getElem? (i := 52) rfl)
theorem cd_118_120 : mt_cd 118 120 = some (.laload) := mt_cd_of (q := (120, .laload, 1)) mq_118 ci_118 (List.mem_of_getElem? (i := 53) rfl)
theorem cd_118_121 : mt_cd 118 121 = some (.lreturn) := mt_cd_of (q := (121, .lreturn, 1)) mq_118 ci_118 (List.mem_of_getElem? (i := 54) rfl)
theorem cd_118_122 : mt_cd 118 122 = some (.aload_n 0) := mt_cd_of (q := (122, .aload_n 0, 1)) mq_118 ci_118 (List.mem_of_getElem? (i := 55) rfl)
theorem cd_118_123 : mt_cd 118 123 = some (.getfield 67) := mt_cd_of (q := (123, .getfield 67, 3)) mq_118 ci_118 (List.mem_of_getElem? (i := 56) rfl)
theorem cd_118_126 : mt_cd 118 126 = some (.getfield 202) := mt_cd_of (q := (126, .getfield 202, 3)) mq_118 ci_118 (List.mem_of_getElem? (i := 57) rfl)
theorem cd_118_129 : mt_cd 118 129 = some (.lreturn) := mt_cd_of (q := (129, .lreturn, 1)) mq_118 ci_118 (List.mem_of_getElem? (i := 58) rfl)
theorem b_118_0 {d : Nat} {Q : (Option Value ⊕ Nat) → mi_H → Prop} (n sl : Nat) (f : Nat → mi_C) {l1 : Nat} {l2 : Int32} {l3 : Int32} {l4 : Int32} (h5 : l2 < (0 : Int32) → mi_W d 118 23 [some (.ref l1), some (.int l2), some (.int l3), some (.int l4)] [] (n, sl, f) Q) (h6 : ¬ (l2 < (0 : Int32)) → mi_W d 118 4 [some (.ref l1), some (.int l2), some (.int l3), some (.int l4)] [] (n, sl, f) Q) : mi_W d 118 0 [some (.ref l1), some (.int l2), some (.int l3), some (.int l4)] [] (n, sl, f) Q := by
  refine w_iload_n cd_118_0 rfl ?_
  exact w_iflt cd_118_1 (by decide) h5 h6
theorem b_118_4 {d : Nat} {Q : (Option Value ⊕ Nat) → mi_H → Prop} (n sl : Nat) (f : Nat → mi_C) {l1 : Nat} {l2 : Int32} {l3 : Int32} {l4 : Int32} (h5 : 4 < l2 → mi_W d 118 23 [some (.ref l1), some (.int l2), some (.int l3), some (.int l4)] [] (n, sl, f) Q) (h6 : ¬ (4 < l2) → mi_W d 118 9 [some (.ref l1), some (.int l2), some (.int l3), some (.int l4)] [] (n, sl, f) Q) : mi_W d 118 4 [some (.ref l1), some (.int l2), some (.int l3), some (.int l4)] [] (n, sl, f) Q := by
  refine w_iload_n cd_118_4 rfl ?_
  refine w_iconst (v := 4) cd_118_5 (by decide) ?_
  exact w_if_icmpgt cd_118_6 (by decide) h5 h6
theorem b_118_9 {d : Nat} {Q : (Option Value ⊕ Nat) → mi_H → Prop} (n sl : Nat) (f : Nat → mi_C) {l1 : Nat} {l2 : Int32} {l3 : Int32} {l4 : Int32} (h5 : mi_W d 60 0 (mi_en 1 [.int l3]) [] (n, sl, f) (mi_Kc d 118 10 [some (.ref l1), some (.int l2), some (.int l3), some (.int l4)] [] Q)) : mi_W (d + 1) 118 9 [some (.ref l1), some (.int l2), some (.int l3), some (.int l4)] [] (n, sl, f) Q := by
  refine w_iload_n cd_118_9 rfl ?_
  exact w_invokestatic cd_118_10 (show mt_m 0 114 = some (60, 4) by decide +kernel) (by decide) (rest := []) rfl (as := [.int l3]) rfl ⟨Nat.le_of_ble_eq_true rfl, Nat.le_of_ble_eq_true rfl, Nat.le_of_ble_eq_true rfl⟩ h5
theorem b_118_13 {d : Nat} {Q : (Option Value ⊕ Nat) → mi_H → Prop} (n sl : Nat) (f : Nat → mi_C) {l1 : Nat} {l2 : Int32} {l3 : Int32} {l4 : Int32} {s5 : Int32} (h6 : s5 = (0 : Int32) → mi_W d 118 23 [some (.ref l1), some (.int l2), some (.int l3), some (.int l4)] [] (n, sl, f) Q) (h7 : ¬ (s5 = (0 : Int32)) → mi_W d 118 16 [some (.ref l1), some (.int l2), some (.int l3), some (.int l4)] [] (n, sl, f) Q) : mi_W d 118 13 [some (.ref l1), some (.int l2), some (.int l3), some (.int l4)] [.int s5] (n, sl, f) Q := by
  exact w_ifeq cd_118_13 (by decide) h6 h7
theorem b_118_16 {d : Nat} {Q : (Option Value ⊕ Nat) → mi_H → Prop} (n sl : Nat) (f : Nat → mi_C) {l1 : Nat} {l2 : Int32} {l3 : Int32} {l4 : Int32} (h5 : mi_W d 61 0 (mi_en 1 [.int l4]) [] (n, sl, f) (mi_Kc d 118 17 [some (.ref l1), some (.int l2), some (.int l3), some (.int l4)] [] Q)) : mi_W (d + 1) 118 16 [some (.ref l1), some (.int l2), some (.int l3), some (.int l4)] [] (n, sl, f) Q := by
  refine w_iload_n cd_118_16 rfl ?_
  exact w_invokestatic cd_118_17 (show mt_m 0 118 = some (61, 4) by decide +kernel) (by decide) (rest := []) rfl (as := [.int l4]) rfl ⟨Nat.le_of_ble_eq_true rfl, Nat.le_of_ble_eq_true rfl, Nat.le_of_ble_eq_true rfl⟩ h5
theorem b_118_20 {d : Nat} {Q : (Option Value ⊕ Nat) → mi_H → Prop} (n sl : Nat) (f : Nat → mi_C) {l1 : Nat} {l2 : Int32} {l3 : Int32} {l4 : Int32} {s5 : Int32} (h6 : ¬ s5 = (0 : Int32) → mi_W d 118 33 [some (.ref l1), some (.int l2), some (.int l3), some (.int l4)] [] (n, sl, f) Q) (h7 : ¬ (¬ s5 = (0 : Int32)) → mi_W d 118 23 [some (.ref l1), some (.int l2), some (.int l3), some (.int l4)] [] (n, sl, f) Q) : mi_W d 118 20 [some (.ref l1), some (.int l2), some (.int l3), some (.int l4)] [.int s5] (n, sl, f) Q := by
  exact w_ifne cd_118_20 (by decide) h6 h7
theorem b_118_23 {d : Nat} {Q : (Option Value ⊕ Nat) → mi_H → Prop} (n sl : Nat) (f : Nat → mi_C) {l1 : Nat} {l2 : Int32} {l3 : Int32} {l4 : Int32} {h' : mi_H} (h5 : mi_t 118 23 (.new 123) [] (n, sl, f) = some h') (h6 : Q (.inr n) h') : mi_W d 118 23 [some (.ref l1), some (.int l2), some (.int l3), some (.int l4)] [] (n, sl, f) Q := by
  exact w_throw cd_118_23 (show mt_c 0 123 = some 15 by decide +kernel) (by decide) h5 h6
theorem b_118_33 {d : Nat} {Q : (Option Value ⊕ Nat) → mi_H → Prop} (n sl : Nat) (f : Nat → mi_C) {l1 : Nat} {l2 : Int32} {l3 : Int32} {l4 : Int32} (h5 : ¬ l2 = 1 → mi_W d 118 52 [some (.ref l1), some (.int l2), some (.int l3), some (.int l4)] [] (n, sl, f) Q) (h6 : ¬ (¬ l2 = 1) → mi_W d 118 38 [some (.ref l1), some (.int l2), some (.int l3), some (.int l4)] [] (n, sl, f) Q) : mi_W d 118 33 [some (.ref l1), some (.int l2), some (.int l3), some (.int l4)] [] (n, sl, f) Q := by
  refine w_iload_n cd_118_33 rfl ?_
  refine w_iconst (v := 1) cd_118_34 (by decide) ?_
  exact w_if_icmpne cd_118_35 (by decide) h5 h6
theorem b_118_38 {d : Nat} {Q : (Option Value ⊕ Nat) → mi_H → Prop} (n sl : Nat) (f : Nat → mi_C) {l1 : Nat} {l2 : Int32} {l3 : Int32} {l4 : Int32} {fs5 : List Value} {x8 : Nat} {fs10 : List Value} {x13 : Nat} (m15 i15 : Nat) (g15 : Nat → Int64) (h6 : f l1 = .inr (0, fs5)) (h7 : l1 < n) (h9 : fs5[3]? = some (.ref x8)) (h11 : f x8 = .inr (5, fs10)) (h12 : x8 < n) (h14 : fs10[0]? = some (.ref x13)) (h16 : f x13 = .inl (3, m15, .inr (.inl g15))) (h17 : x13 < n) (h18 : mi_ix ((l3 * 4) + l4) m15 i15) (h19 : Q (.inl (some (.long (g15 i15)))) (n, sl, f)) : mi_W d 118 38 [some (.ref l1), some (.int l2), some (.int l3), some (.int l4)] [] (n, sl, f) Q := by
  refine w_aload_n cd_118_38 rfl ?_
  refine w_getfield cd_118_39 (show mt_f 0 35 = some (0, 3) by decide +kernel) h6 h7 h9 ?_
  refine w_getfield cd_118_42 (show mt_f 0 128 = some (5, 0) by decide +kernel) h11 h12 h14 ?_
  refine w_iload_n cd_118_45 rfl ?_
  refine w_iconst (v := 4) cd_118_46 (by decide) ?_
  refine w_imul cd_118_47 ?_
  refine w_iload_n cd_118_48 rfl ?_
  refine w_iadd cd_118_49 ?_
  refine w_laload cd_118_50 h16 h17 h18 ?_
  exact w_lreturn cd_118_51 (by decide +kernel) h19
theorem b_118_52 {d : Nat} {Q : (Option Value ⊕ Nat) → mi_H → Prop} (n sl : Nat) (f : Nat → mi_C) {l1 : Nat} {l2 : Int32} {l3 : Int32} {l4 : Int32} {fs5 : List Value} (h6 : f l1 = .inr (0, fs5)) (h7 : l1 < n) (h8 : mi_W d 72 0 (mi_en 1 [.ref l1]) [] (n, sl, f) (mi_Kc d 118 53 [some (.ref l1), some (.int l2), some (.int l3), some (.int l4)] [] Q)) : mi_W (d + 1) 118 52 [some (.ref l1), some (.int l2), some (.int l3), some (.int l4)] [] (n, sl, f) Q := by
  refine w_aload_n cd_118_52 rfl ?_
  exact w_invokevirtual cd_118_53 (show mt_m 0 143 = some (72, 0) by decide +kernel) (rest := []) rfl (as := [.ref l1]) rfl h6 (Or.inl h7) ⟨Nat.le_of_ble_eq_true rfl, Nat.le_of_ble_eq_true rfl, Nat.le_of_ble_eq_true rfl⟩ h8
theorem b_118_56 {d : Nat} {Q : (Option Value ⊕ Nat) → mi_H → Prop} (n sl : Nat) (f : Nat → mi_C) {l1 : Nat} {l2 : Int32} {l3 : Int32} {l4 : Int32} {t5 : Nat} (h6 : mi_ts 57 65 0 3 #[31, 65, 45, 55] (l2 : Int32).toInt = some t5) (h7 : mi_W d 118 t5 [some (.ref l1), some (.int l2), some (.int l3), some (.int l4)] [] (n, sl, f) Q) : mi_W d 118 56 [some (.ref l1), some (.int l2), some (.int l3), some (.int l4)] [] (n, sl, f) Q := by
  refine w_iload_n cd_118_56 rfl ?_
  exact w_tableswitch cd_118_57 h6 h7
theorem b_118_88 {d : Nat} {Q : (Option Value ⊕ Nat) → mi_H → Prop} (n sl : Nat) (f : Nat → mi_C) {l1 : Nat} {l2 : Int32} {l3 : Int32} {l4 : Int32} {fs5 : List Value} {x8 : Nat} {fs10 : List Value} {x13 : Nat} (m15 i15 : Nat) (g15 : Nat → Int64) (h6 : f l1 = .inr (0, fs5)) (h7 : l1 < n) (h9 : fs5[7]? = some (.ref x8)) (h11 : f x8 = .inr (9, fs10)) (h12 : x8 < n) (h14 : fs10[2]? = some (.ref x13)) (h16 : f x13 = .inl (3, m15, .inr (.inl g15))) (h17 : x13 < n) (h18 : mi_ix ((l3 * 4) + l4) m15 i15) (h19 : Q (.inl (some (.long (g15 i15)))) (n, sl, f)) : mi_W d 118 88 [some (.ref l1), some (.int l2), some (.int l3), some (.int l4)] [] (n, sl, f) Q := by
  refine w_aload_n cd_118_88 rfl ?_
  refine w_getfield cd_118_89 (show mt_f 0 67 = some (0, 7) by decide +kernel) h6 h7 h9 ?_
  refine w_getfield cd_118_92 (show mt_f 0 193 = some (9, 2) by decide +kernel) h11 h12 h14 ?_
  refine w_iload_n cd_118_95 rfl ?_
  refine w_iconst (v := 4) cd_118_96 (by decide) ?_
  refine w_imul cd_118_97 ?_
  refine w_iload_n cd_118_98 rfl ?_
  refine w_iadd cd_118_99 ?_
  refine w_laload cd_118_100 h16 h17 h18 ?_
  exact w_lreturn cd_118_101 (by decide +kernel) h19
theorem b_118_102 {d : Nat} {Q : (Option Value ⊕ Nat) → mi_H → Prop} (n sl : Nat) (f : Nat → mi_C) {l1 : Nat} {l2 : Int32} {l3 : Int32} {l4 : Int32} {fs5 : List Value} {x8 : Nat} {fs10 : List Value} {x13 : Nat} (m15 i15 : Nat) (g15 : Nat → Int64) (h6 : f l1 = .inr (0, fs5)) (h7 : l1 < n) (h9 : fs5[7]? = some (.ref x8)) (h11 : f x8 = .inr (9, fs10)) (h12 : x8 < n) (h14 : fs10[3]? = some (.ref x13)) (h16 : f x13 = .inl (3, m15, .inr (.inl g15))) (h17 : x13 < n) (h18 : mi_ix l3 m15 i15) (h19 : Q (.inl (some (.long (g15 i15)))) (n, sl, f)) : mi_W d 118 102 [some (.ref l1), some (.int l2), some (.int l3), some (.int l4)] [] (n, sl, f) Q := by
  refine w_aload_n cd_118_102 rfl ?_
  refine w_getfield cd_118_103 (show mt_f 0 67 = some (0, 7) by decide +kernel) h6 h7 h9 ?_
  refine w_getfield cd_118_106 (show mt_f 0 196 = some (9, 3) by decide +kernel) h11 h12 h14 ?_
  refine w_iload_n cd_118_109 rfl ?_
  refine w_laload cd_118_110 h16 h17 h18 ?_
  exact w_lreturn cd_118_111 (by decide +kernel) h19
theorem b_118_112 {d : Nat} {Q : (Option Value ⊕ Nat) → mi_H → Prop} (n sl : Nat) (f : Nat → mi_C) {l1 : Nat} {l2 : Int32} {l3 : Int32} {l4 : Int32} {fs5 : List Value} {x8 : Nat} {fs10 : List Value} {x13 : Nat} (m15 i15 : Nat) (g15 : Nat → Int64) (h6 : f l1 = .inr (0, fs5)) (h7 : l1 < n) (h9 : fs5[7]? = some (.ref x8)) (h11 : f x8 = .inr (9, fs10)) (h12 : x8 < n) (h14 : fs10[4]? = some (.ref x13)) (h16 : f x13 = .inl (3, m15, .inr (.inl g15))) (h17 : x13 < n) (h18 : mi_ix l3 m15 i15) (h19 : Q (.inl (some (.long (g15 i15)))) (n, sl, f)) : mi_W d 118 112 [some (.ref l1), some (.int l2), some (.int l3), some (.int l4)] [] (n, sl, f) Q := by
  refine w_aload_n cd_118_112 rfl ?_
  refine w_getfield cd_118_113 (show mt_f 0 67 = some (0, 7) by decide +kernel) h6 h7 h9 ?_
  refine w_getfield cd_118_116 (show mt_f 0 199 = some (9, 4) by decide +kernel) h11 h12 h14 ?_
  refine w_iload_n cd_118_119 rfl ?_
  refine w_laload cd_118_120 h16 h17 h18 ?_
  exact w_lreturn cd_118_121 (by decide +kernel) h19
theorem b_118_122 {d : Nat} {Q : (Option Value ⊕ Nat) → mi_H → Prop} (n sl : Nat) (f : Nat → mi_C) {l1 : Nat} {l2 : Int32} {l3 : Int32} {l4 : Int32} {fs5 : List Value} {x8 : Nat} {fs10 : List Value} {x13 : Int64} (h6 : f l1 = .inr (0, fs5)) (h7 : l1 < n) (h9 : fs5[7]? = some (.ref x8)) (h11 : f x8 = .inr (9, fs10)) (h12 : x8 < n) (h14 : fs10[1]? = some (.long x13)) (h15 : Q (.inl (some (.long x13))) (n, sl, f)) : mi_W d 118 122 [some (.ref l1), some (.int l2), some (.int l3), some (.int l4)] [] (n, sl, f) Q := by
  refine w_aload_n cd_118_122 rfl ?_
  refine w_getfield cd_118_123 (show mt_f 0 67 = some (0, 7) by decide +kernel) h6 h7 h9 ?_
  refine w_getfield cd_118_126 (show mt_f 0 202 = some (9, 1) by decide +kernel) h11 h12 h14 ?_
  exact w_lreturn cd_118_129 (by decide +kernel) h15
/-! MarloweHostModel.wallet(IIJ)J -/
set_option maxRecDepth 100000 in
theorem mq_186 : mt_q 186 = my_186 := rfl
set_option maxRecDepth 100000 in
theorem ci_186 : mt_inc 0 my_186.cd = true := by decide +kernel
theorem cd_186_0 : mt_cd 186 0 = some (.aload_n 0) := mt_cd_of (q := (0, .aload_n 0, 1)) mq_186 ci_186 (List.mem_of_getElem? (i := 0) rfl)
theorem cd_186_1 : mt_cd 186 1 = some (.iconst 0) := mt_cd_of (q := (1, .iconst 0, 1)) mq_186 ci_186 (List.mem_of_getElem? (i := 1) rfl)
theorem cd_186_2 : mt_cd 186 2 = some (.putfield 248) := mt_cd_of (q := (2, .putfield 248, 3)) mq_186 ci_186 (List.mem_of_getElem? (i := 2) rfl)
theorem cd_186_5 : mt_cd 186 5 = some (.aload_n 0) := mt_cd_of (q := (5, .aload_n 0, 1)) mq_186 ci_186 (List.mem_of_getElem? (i := 3) rfl)
theorem cd_186_6 : mt_cd 186 6 = some (.iload_n 1) := mt_cd_of (q := (6, .iload_n 1, 1)) mq_186 ci_186 (List.mem_of_getElem? (i := 4) rfl)
theorem cd_186_7 : mt_cd 186 7 = some (.i2l) := mt_cd_of (q := (7, .i2l, 1)) mq_186 ci_186 (List.mem_of_getElem? (i := 5) rfl)
theorem cd_186_8 : mt_cd 186 8 = some (.lconst 0) := mt_cd_of (q := (8, .lconst 0, 1)) mq_186 ci_186 (List.mem_of_getElem? (i := 6) rfl)
theorem cd_186_9 : mt_cd 186 9 = some (.ldc2_w 542) := mt_cd_of (q := (9, .ldc2_w 542, 3)) mq_186 ci_186 (List.mem_of_getElem? (i := 7) rfl)
theorem cd_186_12 : mt_cd 186 12 = some (.invokestatic 268) := mt_cd_of (q := (12, .invokestatic 268, 3)) mq_186 ci_186 (List.mem_of_getElem? (i := 8) rfl)
theorem cd_186_15 : mt_cd 186 15 = some (.ifCond .eq 26) := mt_cd_of (q := (15, .ifCond .eq 26, 3)) mq_186 ci_186 (List.mem_of_getElem? (i := 9) rfl)
theorem cd_186_18 : mt_cd 186 18 = some (.iload_n 2) := mt_cd_of (q := (18, .iload_n 2, 1)) mq_186 ci_186 (List.mem_of_getElem? (i := 10) rfl)
theorem cd_186_19 : mt_cd 186 19 = some (.i2l) := mt_cd_of (q := (19, .i2l, 1)) mq_186 ci_186 (List.mem_of_getElem? (i := 11) rfl)
theorem cd_186_20 : mt_cd 186 20 = some (.lconst 0) := mt_cd_of (q := (20, .lconst 0, 1)) mq_186 ci_186 (List.mem_of_getElem? (i := 12) rfl)
theorem cd_186_21 : mt_cd 186 21 = some (.ldc2_w 544) := mt_cd_of (q := (21, .ldc2_w 544, 3)) mq_186 ci_186 (List.mem_of_getElem? (i := 13) rfl)
theorem cd_186_24 : mt_cd 186 24 = some (.invokestatic 268) := mt_cd_of (q := (24, .invokestatic 268, 3)) mq_186 ci_186 (List.mem_of_getElem? (i := 14) rfl)
theorem cd_186_27 : mt_cd 186 27 = some (.ifCond .eq 14) := mt_cd_of (q := (27, .ifCond .eq 14, 3)) mq_186 ci_186 (List.mem_of_getElem? (i := 15) rfl)
theorem cd_186_30 : mt_cd 186 30 = some (.lload_n 3) := mt_cd_of (q := (30, .lload_n 3, 1)) mq_186 ci_186 (List.mem_of_getElem? (i := 16) rfl)
theorem cd_186_31 : mt_cd 186 31 = some (.lconst 0) := mt_cd_of (q := (31, .lconst 0, 1)) mq_186 ci_186 (List.mem_of_getElem? (i := 17) rfl)
theorem cd_186_32 : mt_cd 186 32 = some (.ldc2_w 546) := mt_cd_of (q := (32, .ldc2_w 546, 3)) mq_186 ci_186 (List.mem_of_getElem? (i := 18) rfl)
theorem cd_186_35 : mt_cd 186 35 = some (.invokestatic 268) := mt_cd_of (q := (35, .invokestatic 268, 3)) mq_186 ci_186 (List.mem_of_getElem? (i := 19) rfl)
theorem cd_186_38 : mt_cd 186 38 = some (.ifCond .ne 7) := mt_cd_of (q := (38, .ifCond .ne 7, 3)) mq_186 ci_186 (List.mem_of_getElem? (i := 20) rfl)
theorem cd_186_41 : mt_cd 186 41 = some (.iconst 1) := mt_cd_of (q := (41, .iconst 1, 1)) mq_186 ci_186 (List.mem_of_getElem? (i := 21) rfl)
theorem cd_186_42 : mt_cd 186 42 = some (.goto 4) := mt_cd_of (q := (42, .goto 4, 3)) mq_186 ci_186 (List.mem_of_getElem? (i := 22) rfl)
theorem cd_186_45 : mt_cd 186 45 = some (.iconst 0) := mt_cd_of (q := (45, .iconst 0, 1)) mq_186 ci_186 (List.mem_of_getElem? (i := 23) rfl)
theorem cd_186_46 : mt_cd 186 46 = some (.iconst 1) := mt_cd_of (q := (46, .iconst 1, 1)) mq_186 ci_186 (List.mem_of_getElem? (i := 24) rfl)
theorem cd_186_47 : mt_cd 186 47 = some (.invokevirtual 254) := mt_cd_of (q := (47, .invokevirtual 254, 3)) mq_186 ci_186 (List.mem_of_getElem? (i := 25) rfl)
theorem cd_186_50 : mt_cd 186 50 = some (.ifCond .eq 5) := mt_cd_of (q := (50, .ifCond .eq 5, 3)) mq_186 ci_186 (List.mem_of_getElem? (i := 26) rfl)
theorem cd_186_53 : mt_cd 186 53 = some (.lconst 0) := mt_cd_of (q := (53, .lconst 0, 1)) mq_186 ci_186 (List.mem_of_getElem? (i := 27) rfl)
theorem cd_186_54 : mt_cd 186 54 = some (.lreturn) := mt_cd_of (q := (54, .lreturn, 1)) mq_186 ci_186 (List.mem_of_getElem? (i := 28) rfl)
theorem cd_186_55 : mt_cd 186 55 = some (.aload_n 0) := mt_cd_of (q := (55, .aload_n 0, 1)) mq_186 ci_186 (List.mem_of_getElem? (i := 29) rfl)
theorem cd_186_56 : mt_cd 186 56 = some (.getfield 175) := mt_cd_of (q := (56, .getfield 175, 3)) mq_186 ci_186 (List.mem_of_getElem? (i := 30) rfl)
theorem cd_186_59 : mt_cd 186 59 = some (.iconst 4) := mt_cd_of (q := (59, .iconst 4, 1)) mq_186 ci_186 (List.mem_of_getElem? (i := 31) rfl)
theorem cd_186_60 : mt_cd 186 60 = some (.iload_n 1) := mt_cd_of (q := (60, .iload_n 1, 1)) mq_186 ci_186 (List.mem_of_getElem? (i := 32) rfl)
theorem cd_186_61 : mt_cd 186 61 = some (.imul) := mt_cd_of (q := (61, .imul, 1)) mq_186 ci_186 (List.mem_of_getElem? (i := 33) rfl)
theorem cd_186_62 : mt_cd 186 62 = some (.iload_n 2) := mt_cd_of (q := (62, .iload_n 2, 1)) mq_186 ci_186 (List.mem_of_getElem? (i := 34) rfl)
theorem cd_186_63 : mt_cd 186 63 = some (.iadd) := mt_cd_of (q := (63, .iadd, 1)) mq_186 ci_186 (List.mem_of_getElem? (i := 35) rfl)
theorem cd_186_64 : mt_cd 186 64 = some (.laload) := mt_cd_of (q := (64, .laload, 1)) mq_186 ci_186 (List.mem_of_getElem? (i := 36) rfl)
theorem cd_186_65 : mt_cd 186 65 = some (.lstore 5) := mt_cd_of (q := (65, .lstore 5, 2)) mq_186 ci_186 (List.mem_of_getElem? (i := 37) rfl)
theorem cd_186_67 : mt_cd 186 67 = some (.aload_n 0) := mt_cd_of (q := (67, .aload_n 0, 1)) mq_186 ci_186 (List.mem_of_getElem? (i := 38) rfl)
theorem cd_186_68 : mt_cd 186 68 = some (.getfield 175) := mt_cd_of (q := (68, .getfield 175, 3)) mq_186 ci_186 (List.mem_of_getElem? (i := 39) rfl)
theorem cd_186_71 : mt_cd 186 71 = some (.iconst 4) := mt_cd_of (q := (71, .iconst 4, 1)) mq_186 ci_186 (List.mem_of_getElem? (i := 40) rfl)
theorem cd_186_72 : mt_cd 186 72 = some (.iload_n 1) := mt_cd_of (q := (72, .iload_n 1, 1)) mq_186 ci_186 (List.mem_of_getElem? (i := 41) rfl)
theorem cd_186_73 : mt_cd 186 73 = some (.imul) := mt_cd_of (q := (73, .imul, 1)) mq_186 ci_186 (List.mem_of_getElem? (i := 42) rfl)
theorem cd_186_74 : mt_cd 186 74 = some (.iload_n 2) := mt_cd_of (q := (74, .iload_n 2, 1)) mq_186 ci_186 (List.mem_of_getElem? (i := 43) rfl)
theorem cd_186_75 : mt_cd 186 75 = some (.iadd) := mt_cd_of (q := (75, .iadd, 1)) mq_186 ci_186 (List.mem_of_getElem? (i := 44) rfl)
theorem cd_186_76 : mt_cd 186 76 = some (.lload_n 3) := mt_cd_of (q := (76, .lload_n 3, 1)) mq_186 ci_186 (List.mem_of_getElem? (i := 45) rfl)
theorem cd_186_77 : mt_cd 186 77 = some (.lastore) := mt_cd_of (q := (77, .lastore, 1)) mq_186 ci_186 (List.mem_of_getElem? (i := 46) rfl)
theorem cd_186_78 : mt_cd 186 78 = some (.lload 5) := mt_cd_of (q := (78, .lload 5, 2)) mq_186 ci_186 (List.mem_of_getElem? (i := 47) rfl)
theorem cd_186_80 : mt_cd 186 80 = some (.lreturn) := mt_cd_of (q := (80, .lreturn, 1)) mq_186 ci_186 (List.mem_of_getElem? (i := 48) rfl)
theorem b_186_0 {d : Nat} {Q : (Option Value ⊕ Nat) → mi_H → Prop} (n sl : Nat) (f : Nat → mi_C) {l1 : Nat} {l2 : Int32} {l3 : Int32} {l4 : Int64} {o5 : Option Value} {o6 : Option Value} {fs7 : List Value} (h8 : f l1 = .inr (12, fs7)) (h9 : l1 < n) (h10 : 0 < fs7.length) (h11 : mi_W d 142 0 (mi_en 6 [.long ((l2 : Int32).toInt64), .long 0, .long 7]) [] (n, sl, (va_up f l1 (.inr (12, fs7.set 0 (.int 0))))) (mi_Kc d 186 12 [some (.ref l1), some (.int l2), some (.int l3), some (.long l4), none, o5, o6] [.ref l1] Q)) : mi_W (d + 1) 186 0 [some (.ref l1), some (.int l2), some (.int l3), some (.long l4), none, o5, o6] [] (n, sl, f) Q := by
  refine w_aload_n cd_186_0 rfl ?_
  refine w_iconst (v := 0) cd_186_1 (by decide) ?_
  refine w_putfield (w := .int 0) cd_186_2 (show mt_f 12 248 = some (12, 0) by decide +kernel) h8 h9 ⟨h10, rfl, Or.inl (by decide)⟩ ?_
  refine w_aload_n cd_186_5 rfl ?_
  refine w_iload_n cd_186_6 rfl ?_
  refine w_i2l cd_186_7 ?_
  refine w_lconst (lv := 0) cd_186_8 (by decide) ?_
  refine w_ldc2_w (lv := 7) cd_186_9 (by decide +kernel) ?_
  exact w_invokestatic cd_186_12 (show mt_m 12 268 = some (142, 4) by decide +kernel) (by decide) (rest := [.ref l1]) rfl (as := [.long ((l2 : Int32).toInt64), .long 0, .long 7]) rfl ⟨Nat.le_of_ble_eq_true rfl, Nat.le_of_ble_eq_true rfl, Nat.le_of_ble_eq_true rfl⟩ h11
theorem b_186_15 {d : Nat} {Q : (Option Value ⊕ Nat) → mi_H → Prop} (n sl : Nat) (f : Nat → mi_C) {l1 : Nat} {l2 : Int32} {l3 : Int32} {l4 : Int64} {o5 : Option Value} {o6 : Option Value} {s7 : Int32} {s8 : Nat} (h9 : s7 = (0 : Int32) → mi_W d 186 41 [some (.ref l1), some (.int l2), some (.int l3), some (.long l4), none, o5, o6] [.ref s8] (n, sl, f) Q) (h10 : ¬ (s7 = (0 : Int32)) → mi_W d 186 18 [some (.ref l1), some (.int l2), some (.int l3), some (.long l4), none, o5, o6] [.ref s8] (n, sl, f) Q) : mi_W d 186 15 [some (.ref l1), some (.int l2), some (.int l3), some (.long l4), none, o5, o6] [.int s7, .ref s8] (n, sl, f) Q := by
  exact w_ifeq cd_186_15 (by decide) h9 h10
theorem b_186_18 {d : Nat} {Q : (Option Value ⊕ Nat) → mi_H → Prop} (n sl : Nat) (f : Nat → mi_C) {l1 : Nat} {l2 : Int32} {l3 : Int32} {l4 : Int64} {o5 : Option Value} {o6 : Option Value} {s7 : Nat} (h8 : mi_W d 142 0 (mi_en 6 [.long ((l3 : Int32).toInt64), .long 0, .long 3]) [] (n, sl, f) (mi_Kc d 186 24 [some (.ref l1), some (.int l2), some (.int l3), some (.long l4), none, o5, o6] [.ref s7] Q)) : mi_W (d + 1) 186 18 [some (.ref l1), some (.int l2), some (.int l3), some (.long l4), none, o5, o6] [.ref s7] (n, sl, f) Q := by
  refine w_iload_n cd_186_18 rfl ?_
  refine w_i2l cd_186_19 ?_
  refine w_lconst (lv := 0) cd_186_20 (by decide) ?_
  refine w_ldc2_w (lv := 3) cd_186_21 (by decide +kernel) ?_
  exact w_invokestatic cd_186_24 (show mt_m 12 268 = some (142, 4) by decide +kernel) (by decide) (rest := [.ref s7]) rfl (as := [.long ((l3 : Int32).toInt64), .long 0, .long 3]) rfl ⟨Nat.le_of_ble_eq_true rfl, Nat.le_of_ble_eq_true rfl, Nat.le_of_ble_eq_true rfl⟩ h8
theorem b_186_27 {d : Nat} {Q : (Option Value ⊕ Nat) → mi_H → Prop} (n sl : Nat) (f : Nat → mi_C) {l1 : Nat} {l2 : Int32} {l3 : Int32} {l4 : Int64} {o5 : Option Value} {o6 : Option Value} {s7 : Int32} {s8 : Nat} (h9 : s7 = (0 : Int32) → mi_W d 186 41 [some (.ref l1), some (.int l2), some (.int l3), some (.long l4), none, o5, o6] [.ref s8] (n, sl, f) Q) (h10 : ¬ (s7 = (0 : Int32)) → mi_W d 186 30 [some (.ref l1), some (.int l2), some (.int l3), some (.long l4), none, o5, o6] [.ref s8] (n, sl, f) Q) : mi_W d 186 27 [some (.ref l1), some (.int l2), some (.int l3), some (.long l4), none, o5, o6] [.int s7, .ref s8] (n, sl, f) Q := by
  exact w_ifeq cd_186_27 (by decide) h9 h10
theorem b_186_30 {d : Nat} {Q : (Option Value ⊕ Nat) → mi_H → Prop} (n sl : Nat) (f : Nat → mi_C) {l1 : Nat} {l2 : Int32} {l3 : Int32} {l4 : Int64} {o5 : Option Value} {o6 : Option Value} {s7 : Nat} (h8 : mi_W d 142 0 (mi_en 6 [.long l4, .long 0, .long 2305843009213693952]) [] (n, sl, f) (mi_Kc d 186 35 [some (.ref l1), some (.int l2), some (.int l3), some (.long l4), none, o5, o6] [.ref s7] Q)) : mi_W (d + 1) 186 30 [some (.ref l1), some (.int l2), some (.int l3), some (.long l4), none, o5, o6] [.ref s7] (n, sl, f) Q := by
  refine w_lload_n cd_186_30 rfl ?_
  refine w_lconst (lv := 0) cd_186_31 (by decide) ?_
  refine w_ldc2_w (lv := 2305843009213693952) cd_186_32 (by decide +kernel) ?_
  exact w_invokestatic cd_186_35 (show mt_m 12 268 = some (142, 4) by decide +kernel) (by decide) (rest := [.ref s7]) rfl (as := [.long l4, .long 0, .long 2305843009213693952]) rfl ⟨Nat.le_of_ble_eq_true rfl, Nat.le_of_ble_eq_true rfl, Nat.le_of_ble_eq_true rfl⟩ h8
theorem b_186_38 {d : Nat} {Q : (Option Value ⊕ Nat) → mi_H → Prop} (n sl : Nat) (f : Nat → mi_C) {l1 : Nat} {l2 : Int32} {l3 : Int32} {l4 : Int64} {o5 : Option Value} {o6 : Option Value} {s7 : Int32} {s8 : Nat} (h9 : ¬ s7 = (0 : Int32) → mi_W d 186 45 [some (.ref l1), some (.int l2), some (.int l3), some (.long l4), none, o5, o6] [.ref s8] (n, sl, f) Q) (h10 : ¬ (¬ s7 = (0 : Int32)) → mi_W d 186 41 [some (.ref l1), some (.int l2), some (.int l3), some (.long l4), none, o5, o6] [.ref s8] (n, sl, f) Q) : mi_W d 186 38 [some (.ref l1), some (.int l2), some (.int l3), some (.long l4), none, o5, o6] [.int s7, .ref s8] (n, sl, f) Q := by
  exact w_ifne cd_186_38 (by decide) h9 h10
theorem b_186_41 {d : Nat} {Q : (Option Value ⊕ Nat) → mi_H → Prop} (n sl : Nat) (f : Nat → mi_C) {l1 : Nat} {l2 : Int32} {l3 : Int32} {l4 : Int64} {o5 : Option Value} {o6 : Option Value} {s7 : Nat} (h8 : mi_W d 186 46 [some (.ref l1), some (.int l2), some (.int l3), some (.long l4), none, o5, o6] [.int 1, .ref s7] (n, sl, f) Q) : mi_W d 186 41 [some (.ref l1), some (.int l2), some (.int l3), some (.long l4), none, o5, o6] [.ref s7] (n, sl, f) Q := by
  refine w_iconst (v := 1) cd_186_41 (by decide) ?_
  exact w_goto cd_186_42 (by decide) h8
theorem b_186_45 {d : Nat} {Q : (Option Value ⊕ Nat) → mi_H → Prop} (n sl : Nat) (f : Nat → mi_C) {l1 : Nat} {l2 : Int32} {l3 : Int32} {l4 : Int64} {o5 : Option Value} {o6 : Option Value} {s7 : Nat} (h8 : mi_W d 186 46 [some (.ref l1), some (.int l2), some (.int l3), some (.long l4), none, o5, o6] [.int 0, .ref s7] (n, sl, f) Q) : mi_W d 186 45 [some (.ref l1), some (.int l2), some (.int l3), some (.long l4), none, o5, o6] [.ref s7] (n, sl, f) Q := by
  refine w_iconst (v := 0) cd_186_45 (by decide) ?_
  exact h8
theorem b_186_46 {d : Nat} {Q : (Option Value ⊕ Nat) → mi_H → Prop} (n sl : Nat) (f : Nat → mi_C) {l1 : Nat} {l2 : Int32} {l3 : Int32} {l4 : Int64} {o5 : Option Value} {o6 : Option Value} {s7 : Int32} {s8 : Nat} {fs9 : List Value} (h10 : f s8 = .inr (12, fs9)) (h11 : s8 < n) (h12 : mi_W d 140 0 (mi_en 3 [.ref s8, .int s7, .int 1]) [] (n, sl, f) (mi_Kc d 186 47 [some (.ref l1), some (.int l2), some (.int l3), some (.long l4), none, o5, o6] [] Q)) : mi_W (d + 1) 186 46 [some (.ref l1), some (.int l2), some (.int l3), some (.long l4), none, o5, o6] [.int s7, .ref s8] (n, sl, f) Q := by
  refine w_iconst (v := 1) cd_186_46 (by decide) ?_
  exact w_invokevirtual cd_186_47 (show mt_m 12 254 = some (140, 0) by decide +kernel) (rest := []) rfl (as := [.ref s8, .int s7, .int 1]) rfl h10 (Or.inl h11) ⟨Nat.le_of_ble_eq_true rfl, Nat.le_of_ble_eq_true rfl, Nat.le_of_ble_eq_true rfl⟩ h12
theorem b_186_50 {d : Nat} {Q : (Option Value ⊕ Nat) → mi_H → Prop} (n sl : Nat) (f : Nat → mi_C) {l1 : Nat} {l2 : Int32} {l3 : Int32} {l4 : Int64} {o5 : Option Value} {o6 : Option Value} {s7 : Int32} (h8 : s7 = (0 : Int32) → mi_W d 186 55 [some (.ref l1), some (.int l2), some (.int l3), some (.long l4), none, o5, o6] [] (n, sl, f) Q) (h9 : ¬ (s7 = (0 : Int32)) → mi_W d 186 53 [some (.ref l1), some (.int l2), some (.int l3), some (.long l4), none, o5, o6] [] (n, sl, f) Q) : mi_W d 186 50 [some (.ref l1), some (.int l2), some (.int l3), some (.long l4), none, o5, o6] [.int s7] (n, sl, f) Q := by
  exact w_ifeq cd_186_50 (by decide) h8 h9
theorem b_186_53 {d : Nat} {Q : (Option Value ⊕ Nat) → mi_H → Prop} (n sl : Nat) (f : Nat → mi_C) {l1 : Nat} {l2 : Int32} {l3 : Int32} {l4 : Int64} {o5 : Option Value} {o6 : Option Value} (h7 : Q (.inl (some (.long 0))) (n, sl, f)) : mi_W d 186 53 [some (.ref l1), some (.int l2), some (.int l3), some (.long l4), none, o5, o6] [] (n, sl, f) Q := by
  refine w_lconst (lv := 0) cd_186_53 (by decide) ?_
  exact w_lreturn cd_186_54 (by decide +kernel) h7
theorem b_186_55 {d : Nat} {Q : (Option Value ⊕ Nat) → mi_H → Prop} (n sl : Nat) (f : Nat → mi_C) {l1 : Nat} {l2 : Int32} {l3 : Int32} {l4 : Int64} {o5 : Option Value} {o6 : Option Value} {fs7 : List Value} {x10 : Nat} (m12 i12 : Nat) (g12 : Nat → Int64) {fs16 : List Value} {x19 : Nat} (m21 i21 : Nat) (g21 : Nat → Int64) (h8 : f l1 = .inr (12, fs7)) (h9 : l1 < n) (h11 : fs7[56]? = some (.ref x10)) (h13 : f x10 = .inl (3, m12, .inr (.inl g12))) (h14 : x10 < n) (h15 : mi_ix ((4 * l2) + l3) m12 i12) (h17 : f l1 = .inr (12, fs16)) (h18 : l1 < n) (h20 : fs16[56]? = some (.ref x19)) (h22 : f x19 = .inl (3, m21, .inr (.inl g21))) (h23 : x19 < n) (h24 : mi_ix ((4 * l2) + l3) m21 i21) (h25 : Q (.inl (some (.long (g12 i12)))) (n, sl, (va_up f x19 (.inl (3, m21, .inr (.inl (vp_updL g21 i21 l4))))))) : mi_W d 186 55 [some (.ref l1), some (.int l2), some (.int l3), some (.long l4), none, o5, o6] [] (n, sl, f) Q := by
  refine w_aload_n cd_186_55 rfl ?_
  refine w_getfield cd_186_56 (show mt_f 12 175 = some (12, 56) by decide +kernel) h8 h9 h11 ?_
  refine w_iconst (v := 4) cd_186_59 (by decide) ?_
  refine w_iload_n cd_186_60 rfl ?_
  refine w_imul cd_186_61 ?_
  refine w_iload_n cd_186_62 rfl ?_
  refine w_iadd cd_186_63 ?_
  refine w_laload cd_186_64 h13 h14 h15 ?_
  refine w_lstore (ls' := [some (.ref l1), some (.int l2), some (.int l3), some (.long l4), none, some (.long (g12 i12)), none]) cd_186_65 (Nat.le_of_ble_eq_true rfl) rfl ?_
  refine w_aload_n cd_186_67 rfl ?_
  refine w_getfield cd_186_68 (show mt_f 12 175 = some (12, 56) by decide +kernel) h17 h18 h20 ?_
  refine w_iconst (v := 4) cd_186_71 (by decide) ?_
  refine w_iload_n cd_186_72 rfl ?_
  refine w_imul cd_186_73 ?_
  refine w_iload_n cd_186_74 rfl ?_
  refine w_iadd cd_186_75 ?_
  refine w_lload_n cd_186_76 rfl ?_
  refine w_lastore cd_186_77 h22 h23 h24 ?_
  refine w_lload cd_186_78 rfl ?_
  exact w_lreturn cd_186_80 (by decide +kernel) h25
/-! MarloweHostModel.choose(IJ)I -/
set_option maxRecDepth 100000 in
theorem mq_189 : mt_q 189 = my_189 := rfl
set_option maxRecDepth 100000 in
theorem ci_189 : mt_inc 0 my_189.cd = true := by decide +kernel
theorem cd_189_0 : mt_cd 189 0 = some (.aload_n 0) := mt_cd_of (q := (0, .aload_n 0, 1)) mq_189 ci_189 (List.mem_of_getElem? (i := 0) rfl)
theorem cd_189_1 : mt_cd 189 1 = some (.iconst 0) := mt_cd_of (q := (1, .iconst 0, 1)) mq_189 ci_189 (List.mem_of_getElem? (i := 1) rfl)
theorem cd_189_2 : mt_cd 189 2 = some (.putfield 248) := mt_cd_of (q := (2, .putfield 248, 3)) mq_189 ci_189 (List.mem_of_getElem? (i := 2) rfl)
theorem cd_189_5 : mt_cd 189 5 = some (.aload_n 0) := mt_cd_of (q := (5, .aload_n 0, 1)) mq_189 ci_189 (List.mem_of_getElem? (i := 3) rfl)
theorem cd_189_6 : mt_cd 189 6 = some (.iload_n 1) := mt_cd_of (q := (6, .iload_n 1, 1)) mq_189 ci_189 (List.mem_of_getElem? (i := 4) rfl)
theorem cd_189_7 : mt_cd 189 7 = some (.i2l) := mt_cd_of (q := (7, .i2l, 1)) mq_189 ci_189 (List.mem_of_getElem? (i := 5) rfl)
theorem cd_189_8 : mt_cd 189 8 = some (.lconst 0) := mt_cd_of (q := (8, .lconst 0, 1)) mq_189 ci_189 (List.mem_of_getElem? (i := 6) rfl)
theorem cd_189_9 : mt_cd 189 9 = some (.ldc2_w 542) := mt_cd_of (q := (9, .ldc2_w 542, 3)) mq_189 ci_189 (List.mem_of_getElem? (i := 7) rfl)
theorem cd_189_12 : mt_cd 189 12 = some (.invokestatic 268) := mt_cd_of (q := (12, .invokestatic 268, 3)) mq_189 ci_189 (List.mem_of_getElem? (i := 8) rfl)
theorem cd_189_15 : mt_cd 189 15 = some (.ifCond .ne 7) := mt_cd_of (q := (15, .ifCond .ne 7, 3)) mq_189 ci_189 (List.mem_of_getElem? (i := 9) rfl)
theorem cd_189_18 : mt_cd 189 18 = some (.iconst 1) := mt_cd_of (q := (18, .iconst 1, 1)) mq_189 ci_189 (List.mem_of_getElem? (i := 10) rfl)
theorem cd_189_19 : mt_cd 189 19 = some (.goto 4) := mt_cd_of (q := (19, .goto 4, 3)) mq_189 ci_189 (List.mem_of_getElem? (i := 11) rfl)
theorem cd_189_22 : mt_cd 189 22 = some (.iconst 0) := mt_cd_of (q := (22, .iconst 0, 1)) mq_189 ci_189 (List.mem_of_getElem? (i := 12) rfl)
theorem cd_189_23 : mt_cd 189 23 = some (.iconst 1) := mt_cd_of (q := (23, .iconst 1, 1)) mq_189 ci_189 (List.mem_of_getElem? (i := 13) rfl)
theorem cd_189_24 : mt_cd 189 24 = some (.invokevirtual 254) := mt_cd_of (q := (24, .invokevirtual 254, 3)) mq_189 ci_189 (List.mem_of_getElem? (i := 14) rfl)
theorem cd_189_27 : mt_cd 189 27 = some (.ifCond .ne 25) := mt_cd_of (q := (27, .ifCond .ne 25, 3)) mq_189 ci_189 (List.mem_of_getElem? (i := 15) rfl)
theorem cd_189_30 : mt_cd 189 30 = some (.aload_n 0) := mt_cd_of (q := (30, .aload_n 0, 1)) mq_189 ci_189 (List.mem_of_getElem? (i := 16) rfl)
theorem cd_189_31 : mt_cd 189 31 = some (.aload_n 0) := mt_cd_of (q := (31, .aload_n 0, 1)) mq_189 ci_189 (List.mem_of_getElem? (i := 17) rfl)
theorem cd_189_32 : mt_cd 189 32 = some (.getfield 258) := mt_cd_of (q := (32, .getfield 258, 3)) mq_189 ci_189 (List.mem_of_getElem? (i := 18) rfl)
theorem cd_189_35 : mt_cd 189 35 = some (.bipush 16) := mt_cd_of (q := (35, .bipush 16, 2)) mq_189 ci_189 (List.mem_of_getElem? (i := 19) rfl)
theorem cd_189_37 : mt_cd 189 37 = some (.if_icmp .ne 7) := mt_cd_of (q := (37, .if_icmp .ne 7, 3)) mq_189 ci_189 (List.mem_of_getElem? (i := 20) rfl)
theorem cd_189_40 : mt_cd 189 40 = some (.iconst 1) := mt_cd_of (q := (40, .iconst 1, 1)) mq_189 ci_189 (List.mem_of_getElem? (i := 21) rfl)
theorem cd_189_41 : mt_cd 189 41 = some (.goto 4) := mt_cd_of (q := (41, .goto 4, 3)) mq_189 ci_189 (List.mem_of_getElem? (i := 22) rfl)
theorem cd_189_44 : mt_cd 189 44 = some (.iconst 0) := mt_cd_of (q := (44, .iconst 0, 1)) mq_189 ci_189 (List.mem_of_getElem? (i := 23) rfl)
theorem cd_189_45 : mt_cd 189 45 = some (.iconst 2) := mt_cd_of (q := (45, .iconst 2, 1)) mq_189 ci_189 (List.mem_of_getElem? (i := 24) rfl)
theorem cd_189_46 : mt_cd 189 46 = some (.invokevirtual 254) := mt_cd_of (q := (46, .invokevirtual 254, 3)) mq_189 ci_189 (List.mem_of_getElem? (i := 25) rfl)
theorem cd_189_49 : mt_cd 189 49 = some (.ifCond .eq 5) := mt_cd_of (q := (49, .ifCond .eq 5, 3)) mq_189 ci_189 (List.mem_of_getElem? (i := 26) rfl)
theorem cd_189_52 : mt_cd 189 52 = some (.iconst 0) := mt_cd_of (q := (52, .iconst 0, 1)) mq_189 ci_189 (List.mem_of_getElem? (i := 27) rfl)
theorem cd_189_53 : mt_cd 189 53 = some (.ireturn) := mt_cd_of (q := (53, .ireturn, 1)) mq_189 ci_189 (List.mem_of_getElem? (i := 28) rfl)
theorem cd_189_54 : mt_cd 189 54 = some (.aload_n 0) := mt_cd_of (q := (54, .aload_n 0, 1)) mq_189 ci_189 (List.mem_of_getElem? (i := 29) rfl)
theorem cd_189_55 : mt_cd 189 55 = some (.bipush 8) := mt_cd_of (q := (55, .bipush 8, 2)) mq_189 ci_189 (List.mem_of_getElem? (i := 30) rfl)
theorem cd_189_57 : mt_cd 189 57 = some (.iload_n 1) := mt_cd_of (q := (57, .iload_n 1, 1)) mq_189 ci_189 (List.mem_of_getElem? (i := 31) rfl)
theorem cd_189_58 : mt_cd 189 58 = some (.iconst 0) := mt_cd_of (q := (58, .iconst 0, 1)) mq_189 ci_189 (List.mem_of_getElem? (i := 32) rfl)
theorem cd_189_59 : mt_cd 189 59 = some (.iconst 0) := mt_cd_of (q := (59, .iconst 0, 1)) mq_189 ci_189 (List.mem_of_getElem? (i := 33) rfl)
theorem cd_189_60 : mt_cd 189 60 = some (.lload_n 2) := mt_cd_of (q := (60, .lload_n 2, 1)) mq_189 ci_189 (List.mem_of_getElem? (i := 34) rfl)
theorem cd_189_61 : mt_cd 189 61 = some (.invokevirtual 548) := mt_cd_of (q := (61, .invokevirtual 548, 3)) mq_189 ci_189 (List.mem_of_getElem? (i := 35) rfl)
theorem cd_189_64 : mt_cd 189 64 = some (.ireturn) := mt_cd_of (q := (64, .ireturn, 1)) mq_189 ci_189 (List.mem_of_getElem? (i := 36) rfl)
theorem b_189_0 {d : Nat} {Q : (Option Value ⊕ Nat) → mi_H → Prop} (n sl : Nat) (f : Nat → mi_C) {l1 : Nat} {l2 : Int32} {l3 : Int64} {fs4 : List Value} (h5 : f l1 = .inr (12, fs4)) (h6 : l1 < n) (h7 : 0 < fs4.length) (h8 : mi_W d 142 0 (mi_en 6 [.long ((l2 : Int32).toInt64), .long 0, .long 7]) [] (n, sl, (va_up f l1 (.inr (12, fs4.set 0 (.int 0))))) (mi_Kc d 189 12 [some (.ref l1), some (.int l2), some (.long l3), none] [.ref l1] Q)) : mi_W (d + 1) 189 0 [some (.ref l1), some (.int l2), some (.long l3), none] [] (n, sl, f) Q := by
  refine w_aload_n cd_189_0 rfl ?_
  refine w_iconst (v := 0) cd_189_1 (by decide) ?_
  refine w_putfield (w := .int 0) cd_189_2 (show mt_f 12 248 = some (12, 0) by decide +kernel) h5 h6 ⟨h7, rfl, Or.inl (by decide)⟩ ?_
  refine w_aload_n cd_189_5 rfl ?_
  refine w_iload_n cd_189_6 rfl ?_
  refine w_i2l cd_189_7 ?_
  refine w_lconst (lv := 0) cd_189_8 (by decide) ?_
  refine w_ldc2_w (lv := 7) cd_189_9 (by decide +kernel) ?_
  exact w_invokestatic cd_189_12 (show mt_m 12 268 = some (142, 4) by decide +kernel) (by decide) (rest := [.ref l1]) rfl (as := [.long ((l2 : Int32).toInt64), .long 0, .long 7]) rfl ⟨Nat.le_of_ble_eq_true rfl, Nat.le_of_ble_eq_true rfl, Nat.le_of_ble_eq_true rfl⟩ h8
theorem b_189_15 {d : Nat} {Q : (Option Value ⊕ Nat) → mi_H → Prop} (n sl : Nat) (f : Nat → mi_C) {l1 : Nat} {l2 : Int32} {l3 : Int64} {s4 : Int32} {s5 : Nat} (h6 : ¬ s4 = (0 : Int32) → mi_W d 189 22 [some (.ref l1), some (.int l2), some (.long l3), none] [.ref s5] (n, sl, f) Q) (h7 : ¬ (¬ s4 = (0 : Int32)) → mi_W d 189 18 [some (.ref l1), some (.int l2), some (.long l3), none] [.ref s5] (n, sl, f) Q) : mi_W d 189 15 [some (.ref l1), some (.int l2), some (.long l3), none] [.int s4, .ref s5] (n, sl, f) Q := by
  exact w_ifne cd_189_15 (by decide) h6 h7
theorem b_189_18 {d : Nat} {Q : (Option Value ⊕ Nat) → mi_H → Prop} (n sl : Nat) (f : Nat → mi_C) {l1 : Nat} {l2 : Int32} {l3 : Int64} {s4 : Nat} (h5 : mi_W d 189 23 [some (.ref l1), some (.int l2), some (.long l3), none] [.int 1, .ref s4] (n, sl, f) Q) : mi_W d 189 18 [some (.ref l1), some (.int l2), some (.long l3), none] [.ref s4] (n, sl, f) Q := by
  refine w_iconst (v := 1) cd_189_18 (by decide) ?_
  exact w_goto cd_189_19 (by decide) h5
theorem b_189_22 {d : Nat} {Q : (Option Value ⊕ Nat) → mi_H → Prop} (n sl : Nat) (f : Nat → mi_C) {l1 : Nat} {l2 : Int32} {l3 : Int64} {s4 : Nat} (h5 : mi_W d 189 23 [some (.ref l1), some (.int l2), some (.long l3), none] [.int 0, .ref s4] (n, sl, f) Q) : mi_W d 189 22 [some (.ref l1), some (.int l2), some (.long l3), none] [.ref s4] (n, sl, f) Q := by
  refine w_iconst (v := 0) cd_189_22 (by decide) ?_
  exact h5
theorem b_189_23 {d : Nat} {Q : (Option Value ⊕ Nat) → mi_H → Prop} (n sl : Nat) (f : Nat → mi_C) {l1 : Nat} {l2 : Int32} {l3 : Int64} {s4 : Int32} {s5 : Nat} {fs6 : List Value} (h7 : f s5 = .inr (12, fs6)) (h8 : s5 < n) (h9 : mi_W d 140 0 (mi_en 3 [.ref s5, .int s4, .int 1]) [] (n, sl, f) (mi_Kc d 189 24 [some (.ref l1), some (.int l2), some (.long l3), none] [] Q)) : mi_W (d + 1) 189 23 [some (.ref l1), some (.int l2), some (.long l3), none] [.int s4, .ref s5] (n, sl, f) Q := by
  refine w_iconst (v := 1) cd_189_23 (by decide) ?_
  exact w_invokevirtual cd_189_24 (show mt_m 12 254 = some (140, 0) by decide +kernel) (rest := []) rfl (as := [.ref s5, .int s4, .int 1]) rfl h7 (Or.inl h8) ⟨Nat.le_of_ble_eq_true rfl, Nat.le_of_ble_eq_true rfl, Nat.le_of_ble_eq_true rfl⟩ h9
theorem b_189_27 {d : Nat} {Q : (Option Value ⊕ Nat) → mi_H → Prop} (n sl : Nat) (f : Nat → mi_C) {l1 : Nat} {l2 : Int32} {l3 : Int64} {s4 : Int32} (h5 : ¬ s4 = (0 : Int32) → mi_W d 189 52 [some (.ref l1), some (.int l2), some (.long l3), none] [] (n, sl, f) Q) (h6 : ¬ (¬ s4 = (0 : Int32)) → mi_W d 189 30 [some (.ref l1), some (.int l2), some (.long l3), none] [] (n, sl, f) Q) : mi_W d 189 27 [some (.ref l1), some (.int l2), some (.long l3), none] [.int s4] (n, sl, f) Q := by
  exact w_ifne cd_189_27 (by decide) h5 h6
theorem b_189_30 {d : Nat} {Q : (Option Value ⊕ Nat) → mi_H → Prop} (n sl : Nat) (f : Nat → mi_C) {l1 : Nat} {l2 : Int32} {l3 : Int64} {fs4 : List Value} {x7 : Int32} (h5 : f l1 = .inr (12, fs4)) (h6 : l1 < n) (h8 : fs4[59]? = some (.int x7)) (h9 : ¬ x7 = 16 → mi_W d 189 44 [some (.ref l1), some (.int l2), some (.long l3), none] [.ref l1] (n, sl, f) Q) (h10 : ¬ (¬ x7 = 16) → mi_W d 189 40 [some (.ref l1), some (.int l2), some (.long l3), none] [.ref l1] (n, sl, f) Q) : mi_W d 189 30 [some (.ref l1), some (.int l2), some (.long l3), none] [] (n, sl, f) Q := by
  refine w_aload_n cd_189_30 rfl ?_
  refine w_aload_n cd_189_31 rfl ?_
  refine w_getfield cd_189_32 (show mt_f 12 258 = some (12, 59) by decide +kernel) h5 h6 h8 ?_
  refine w_bipush (v := 16) cd_189_35 (by decide) ?_
  exact w_if_icmpne cd_189_37 (by decide) h9 h10
theorem b_189_40 {d : Nat} {Q : (Option Value ⊕ Nat) → mi_H → Prop} (n sl : Nat) (f : Nat → mi_C) {l1 : Nat} {l2 : Int32} {l3 : Int64} {s4 : Nat} (h5 : mi_W d 189 45 [some (.ref l1), some (.int l2), some (.long l3), none] [.int 1, .ref s4] (n, sl, f) Q) : mi_W d 189 40 [some (.ref l1), some (.int l2), some (.long l3), none] [.ref s4] (n, sl, f) Q := by
  refine w_iconst (v := 1) cd_189_40 (by decide) ?_
  exact w_goto cd_189_41 (by decide) h5
theorem b_189_44 {d : Nat} {Q : (Option Value ⊕ Nat) → mi_H → Prop} (n sl : Nat) (f : Nat → mi_C) {l1 : Nat} {l2 : Int32} {l3 : Int64} {s4 : Nat} (h5 : mi_W d 189 45 [some (.ref l1), some (.int l2), some (.long l3), none] [.int 0, .ref s4] (n, sl, f) Q) : mi_W d 189 44 [some (.ref l1), some (.int l2), some (.long l3), none] [.ref s4] (n, sl, f) Q := by
  refine w_iconst (v := 0) cd_189_44 (by decide) ?_
  exact h5
theorem b_189_45 {d : Nat} {Q : (Option Value ⊕ Nat) → mi_H → Prop} (n sl : Nat) (f : Nat → mi_C) {l1 : Nat} {l2 : Int32} {l3 : Int64} {s4 : Int32} {s5 : Nat} {fs6 : List Value} (h7 : f s5 = .inr (12, fs6)) (h8 : s5 < n) (h9 : mi_W d 140 0 (mi_en 3 [.ref s5, .int s4, .int 2]) [] (n, sl, f) (mi_Kc d 189 46 [some (.ref l1), some (.int l2), some (.long l3), none] [] Q)) : mi_W (d + 1) 189 45 [some (.ref l1), some (.int l2), some (.long l3), none] [.int s4, .ref s5] (n, sl, f) Q := by
  refine w_iconst (v := 2) cd_189_45 (by decide) ?_
  exact w_invokevirtual cd_189_46 (show mt_m 12 254 = some (140, 0) by decide +kernel) (rest := []) rfl (as := [.ref s5, .int s4, .int 2]) rfl h7 (Or.inl h8) ⟨Nat.le_of_ble_eq_true rfl, Nat.le_of_ble_eq_true rfl, Nat.le_of_ble_eq_true rfl⟩ h9
theorem b_189_49 {d : Nat} {Q : (Option Value ⊕ Nat) → mi_H → Prop} (n sl : Nat) (f : Nat → mi_C) {l1 : Nat} {l2 : Int32} {l3 : Int64} {s4 : Int32} (h5 : s4 = (0 : Int32) → mi_W d 189 54 [some (.ref l1), some (.int l2), some (.long l3), none] [] (n, sl, f) Q) (h6 : ¬ (s4 = (0 : Int32)) → mi_W d 189 52 [some (.ref l1), some (.int l2), some (.long l3), none] [] (n, sl, f) Q) : mi_W d 189 49 [some (.ref l1), some (.int l2), some (.long l3), none] [.int s4] (n, sl, f) Q := by
  exact w_ifeq cd_189_49 (by decide) h5 h6
theorem b_189_52 {d : Nat} {Q : (Option Value ⊕ Nat) → mi_H → Prop} (n sl : Nat) (f : Nat → mi_C) {l1 : Nat} {l2 : Int32} {l3 : Int64} (h4 : Q (.inl (some (.int 0))) (n, sl, f)) : mi_W d 189 52 [some (.ref l1), some (.int l2), some (.long l3), none] [] (n, sl, f) Q := by
  refine w_iconst (v := 0) cd_189_52 (by decide) ?_
  exact w_ireturn_i cd_189_53 (by decide +kernel) h4
theorem b_189_54 {d : Nat} {Q : (Option Value ⊕ Nat) → mi_H → Prop} (n sl : Nat) (f : Nat → mi_C) {l1 : Nat} {l2 : Int32} {l3 : Int64} {fs4 : List Value} (h5 : f l1 = .inr (12, fs4)) (h6 : l1 < n) (h7 : mi_W d 188 0 (mi_en 7 [.ref l1, .int 8, .int l2, .int 0, .int 0, .long l3]) [] (n, sl, f) (mi_Kc d 189 61 [some (.ref l1), some (.int l2), some (.long l3), none] [] Q)) : mi_W (d + 1) 189 54 [some (.ref l1), some (.int l2), some (.long l3), none] [] (n, sl, f) Q := by
  refine w_aload_n cd_189_54 rfl ?_
  refine w_bipush (v := 8) cd_189_55 (by decide) ?_
  refine w_iload_n cd_189_57 rfl ?_
  refine w_iconst (v := 0) cd_189_58 (by decide) ?_
  refine w_iconst (v := 0) cd_189_59 (by decide) ?_
  refine w_lload_n cd_189_60 rfl ?_
  exact w_invokevirtual cd_189_61 (show mt_m 12 548 = some (188, 0) by decide +kernel) (rest := []) rfl (as := [.ref l1, .int 8, .int l2, .int 0, .int 0, .long l3]) rfl h5 (Or.inl h6) ⟨Nat.le_of_ble_eq_true rfl, Nat.le_of_ble_eq_true rfl, Nat.le_of_ble_eq_true rfl⟩ h7
theorem b_189_64 {d : Nat} {Q : (Option Value ⊕ Nat) → mi_H → Prop} (n sl : Nat) (f : Nat → mi_C) {l1 : Nat} {l2 : Int32} {l3 : Int64} {s4 : Int32} (h5 : Q (.inl (some (.int s4))) (n, sl, f)) : mi_W d 189 64 [some (.ref l1), some (.int l2), some (.long l3), none] [.int s4] (n, sl, f) Q := by
  exact w_ireturn_i cd_189_64 (by decide +kernel) h5
/-! MarloweHost.wallet(IIJ)J -/
set_option maxRecDepth 100000 in
theorem mq_59 : mt_q 59 = my_59 := rfl
set_option maxRecDepth 100000 in
theorem ci_59 : mt_inc 0 my_59.cd = true := by decide +kernel
theorem cd_59_0 : mt_cd 59 0 = some (.iload_n 1) := mt_cd_of (q := (0, .iload_n 1, 1)) mq_59 ci_59 (List.mem_of_getElem? (i := 0) rfl)
theorem cd_59_1 : mt_cd 59 1 = some (.invokestatic 114) := mt_cd_of (q := (1, .invokestatic 114, 3)) mq_59 ci_59 (List.mem_of_getElem? (i := 1) rfl)
theorem cd_59_4 : mt_cd 59 4 = some (.ifCond .eq 24) := mt_cd_of (q := (4, .ifCond .eq 24, 3)) mq_59 ci_59 (List.mem_of_getElem? (i := 2) rfl)
theorem cd_59_7 : mt_cd 59 7 = some (.iload_n 2) := mt_cd_of (q := (7, .iload_n 2, 1)) mq_59 ci_59 (List.mem_of_getElem? (i := 3) rfl)
theorem cd_59_8 : mt_cd 59 8 = some (.invokestatic 118) := mt_cd_of (q := (8, .invokestatic 118, 3)) mq_59 ci_59 (List.mem_of_getElem? (i := 4) rfl)
theorem cd_59_11 : mt_cd 59 11 = some (.ifCond .eq 17) := mt_cd_of (q := (11, .ifCond .eq 17, 3)) mq_59 ci_59 (List.mem_of_getElem? (i := 5) rfl)
theorem cd_59_14 : mt_cd 59 14 = some (.lload_n 3) := mt_cd_of (q := (14, .lload_n 3, 1)) mq_59 ci_59 (List.mem_of_getElem? (i := 6) rfl)
theorem cd_59_15 : mt_cd 59 15 = some (.lconst 0) := mt_cd_of (q := (15, .lconst 0, 1)) mq_59 ci_59 (List.mem_of_getElem? (i := 7) rfl)
theorem cd_59_16 : mt_cd 59 16 = some (.lcmp) := mt_cd_of (q := (16, .lcmp, 1)) mq_59 ci_59 (List.mem_of_getElem? (i := 8) rfl)
theorem cd_59_17 : mt_cd 59 17 = some (.ifCond .lt 11) := mt_cd_of (q := (17, .ifCond .lt 11, 3)) mq_59 ci_59 (List.mem_of_getElem? (i := 9) rfl)
theorem cd_59_20 : mt_cd 59 20 = some (.lload_n 3) := mt_cd_of (q := (20, .lload_n 3, 1)) mq_59 ci_59 (List.mem_of_getElem? (i := 10) rfl)
theorem cd_59_21 : mt_cd 59 21 = some (.ldc2_w 121) := mt_cd_of (q := (21, .ldc2_w 121, 3)) mq_59 ci_59 (List.mem_of_getElem? (i := 11) rfl)
theorem cd_59_24 : mt_cd 59 24 = some (.lcmp) := mt_cd_of (q := (24, .lcmp, 1)) mq_59 ci_59 (List.mem_of_getElem? (i := 12) rfl)
theorem cd_59_25 : mt_cd 59 25 = some (.ifCond .le 13) := mt_cd_of (q := (25, .ifCond .le 13, 3)) mq_59 ci_59 (List.mem_of_getElem? (i := 13) rfl)
theorem cd_59_28 : mt_cd 59 28 = some (.new 123) := mt_cd_of (q := (28, .new 123, 3)) mq_59 ci_59 (List.mem_of_getElem? (i := 14) rfl)
theorem cd_59_31 : mt_cd 59 31 = some (.dup) := mt_cd_of (q := (31, .dup, 1)) mq_59 ci_59 (List.mem_of_getElem? (i := 15) rfl)
theorem cd_59_32 : mt_cd 59 32 = some (.ldc 125) := mt_cd_of (q := (32, .ldc 125, 2)) mq_59 ci_59 (List.mem_of_getElem? (i := 16) rfl)
theorem cd_59_34 : mt_cd 59 34 = some (.invokespecial 127) := mt_cd_of (q := (34, .invokespecial 127, 3)) mq_59 ci_59 (List.mem_of_getElem? (i := 17) rfl)
theorem cd_59_37 : mt_cd 59 37 = some (.athrow) := mt_cd_of (q := (37, .athrow, 1)) mq_59 ci_59 (List.mem_of_getElem? (i := 18) rfl)
theorem cd_59_38 : mt_cd 59 38 = some (.iload_n 1) := mt_cd_of (q := (38, .iload_n 1, 1)) mq_59 ci_59 (List.mem_of_getElem? (i := 19) rfl)
theorem cd_59_39 : mt_cd 59 39 = some (.iconst 4) := mt_cd_of (q := (39, .iconst 4, 1)) mq_59 ci_59 (List.mem_of_getElem? (i := 20) rfl)
theorem cd_59_40 : mt_cd 59 40 = some (.imul) := mt_cd_of (q := (40, .imul, 1)) mq_59 ci_59 (List.mem_of_getElem? (i := 21) rfl)
theorem cd_59_41 : mt_cd 59 41 = some (.iload_n 2) := mt_cd_of (q := (41, .iload_n 2, 1)) mq_59 ci_59 (List.mem_of_getElem? (i := 22) rfl)
theorem cd_59_42 : mt_cd 59 42 = some (.iadd) := mt_cd_of (q := (42, .iadd, 1)) mq_59 ci_59 (List.mem_of_getElem? (i := 23) rfl)
theorem cd_59_43 : mt_cd 59 43 = some (.istore 5) := mt_cd_of (q := (43, .istore 5, 2)) mq_59 ci_59 (List.mem_of_getElem? (i := 24) rfl)
theorem cd_59_45 : mt_cd 59 45 = some (.aload_n 0) := mt_cd_of (q := (45, .aload_n 0, 1)) mq_59 ci_59 (List.mem_of_getElem? (i := 25) rfl)
theorem cd_59_46 : mt_cd 59 46 = some (.getfield 35) := mt_cd_of (q := (46, .getfield 35, 3)) mq_59 ci_59 (List.mem_of_getElem? (i := 26) rfl)
theorem cd_59_49 : mt_cd 59 49 = some (.getfield 128) := mt_cd_of (q := (49, .getfield 128, 3)) mq_59 ci_59 (List.mem_of_getElem? (i := 27) rfl)
theorem cd_59_52 : mt_cd 59 52 = some (.iload 5) := mt_cd_of (q := (52, .iload 5, 2)) mq_59 ci_59 (List.mem_of_getElem? (i := 28) rfl)
theorem cd_59_54 : mt_cd 59 54 = some (.laload) := mt_cd_of (q := (54, .laload, 1)) mq_59 ci_59 (List.mem_of_getElem? (i := 29) rfl)
theorem cd_59_55 : mt_cd 59 55 = some (.lstore 6) := mt_cd_of (q := (55, .lstore 6, 2)) mq_59 ci_59 (List.mem_of_getElem? (i := 30) rfl)
theorem cd_59_57 : mt_cd 59 57 = some (.aload_n 0) := mt_cd_of (q := (57, .aload_n 0, 1)) mq_59 ci_59 (List.mem_of_getElem? (i := 31) rfl)
theorem cd_59_58 : mt_cd 59 58 = some (.getfield 35) := mt_cd_of (q := (58, .getfield 35, 3)) mq_59 ci_59 (List.mem_of_getElem? (i := 32) rfl)
theorem cd_59_61 : mt_cd 59 61 = some (.getfield 128) := mt_cd_of (q := (61, .getfield 128, 3)) mq_59 ci_59 (List.mem_of_getElem? (i := 33) rfl)
theorem cd_59_64 : mt_cd 59 64 = some (.iload 5) := mt_cd_of (q := (64, .iload 5, 2)) mq_59 ci_59 (List.mem_of_getElem? (i := 34) rfl)
theorem cd_59_66 : mt_cd 59 66 = some (.lload_n 3) := mt_cd_of (q := (66, .lload_n 3, 1)) mq_59 ci_59 (List.mem_of_getElem? (i := 35) rfl)
theorem cd_59_67 : mt_cd 59 67 = some (.lastore) := mt_cd_of (q := (67, .lastore, 1)) mq_59 ci_59 (List.mem_of_getElem? (i := 36) rfl)
theorem cd_59_68 : mt_cd 59 68 = some (.lload 6) := mt_cd_of (q := (68, .lload 6, 2)) mq_59 ci_59 (List.mem_of_getElem? (i := 37) rfl)
theorem cd_59_70 : mt_cd 59 70 = some (.lreturn) := mt_cd_of (q := (70, .lreturn, 1)) mq_59 ci_59 (List.mem_of_getElem? (i := 38) rfl)
theorem b_59_0 {d : Nat} {Q : (Option Value ⊕ Nat) → mi_H → Prop} (n sl : Nat) (f : Nat → mi_C) {l1 : Nat} {l2 : Int32} {l3 : Int32} {l4 : Int64} {o5 : Option Value} {o6 : Option Value} {o7 : Option Value} (h8 : mi_W d 60 0 (mi_en 1 [.int l2]) [] (n, sl, f) (mi_Kc d 59 1 [some (.ref l1), some (.int l2), some (.int l3), some (.long l4), none, o5, o6, o7] [] Q)) : mi_W (d + 1) 59 0 [some (.ref l1), some (.int l2), some (.int l3), some (.long l4), none, o5, o6, o7] [] (n, sl, f) Q := by
  refine w_iload_n cd_59_0 rfl ?_
  exact w_invokestatic cd_59_1 (show mt_m 0 114 = some (60, 4) by decide +kernel) (by decide) (rest := []) rfl (as := [.int l2]) rfl ⟨Nat.le_of_ble_eq_true rfl, Nat.le_of_ble_eq_true rfl, Nat.le_of_ble_eq_true rfl⟩ h8
theorem b_59_4 {d : Nat} {Q : (Option Value ⊕ Nat) → mi_H → Prop} (n sl : Nat) (f : Nat → mi_C) {l1 : Nat} {l2 : Int32} {l3 : Int32} {l4 : Int64} {o5 : Option Value} {o6 : Option Value} {o7 : Option Value} {s8 : Int32} (h9 : s8 = (0 : Int32) → mi_W d 59 28 [some (.ref l1), some (.int l2), some (.int l3), some (.long l4), none, o5, o6, o7] [] (n, sl, f) Q) (h10 : ¬ (s8 = (0 : Int32)) → mi_W d 59 7 [some (.ref l1), some (.int l2), some (.int l3), some (.long l4), none, o5, o6, o7] [] (n, sl, f) Q) : mi_W d 59 4 [some (.ref l1), some (.int l2), some (.int l3), some (.long l4), none, o5, o6, o7] [.int s8] (n, sl, f) Q := by
  exact w_ifeq cd_59_4 (by decide) h9 h10
theorem b_59_7 {d : Nat} {Q : (Option Value ⊕ Nat) → mi_H → Prop} (n sl : Nat) (f : Nat → mi_C) {l1 : Nat} {l2 : Int32} {l3 : Int32} {l4 : Int64} {o5 : Option Value} {o6 : Option Value} {o7 : Option Value} (h8 : mi_W d 61 0 (mi_en 1 [.int l3]) [] (n, sl, f) (mi_Kc d 59 8 [some (.ref l1), some (.int l2), some (.int l3), some (.long l4), none, o5, o6, o7] [] Q)) : mi_W (d + 1) 59 7 [some (.ref l1), some (.int l2), some (.int l3), some (.long l4), none, o5, o6, o7] [] (n, sl, f) Q := by
  refine w_iload_n cd_59_7 rfl ?_
  exact w_invokestatic cd_59_8 (show mt_m 0 118 = some (61, 4) by decide +kernel) (by decide) (rest := []) rfl (as := [.int l3]) rfl ⟨Nat.le_of_ble_eq_true rfl, Nat.le_of_ble_eq_true rfl, Nat.le_of_ble_eq_true rfl⟩ h8
theorem b_59_11 {d : Nat} {Q : (Option Value ⊕ Nat) → mi_H → Prop} (n sl : Nat) (f : Nat → mi_C) {l1 : Nat} {l2 : Int32} {l3 : Int32} {l4 : Int64} {o5 : Option Value} {o6 : Option Value} {o7 : Option Value} {s8 : Int32} (h9 : s8 = (0 : Int32) → mi_W d 59 28 [some (.ref l1), some (.int l2), some (.int l3), some (.long l4), none, o5, o6, o7] [] (n, sl, f) Q) (h10 : ¬ (s8 = (0 : Int32)) → mi_W d 59 14 [some (.ref l1), some (.int l2), some (.int l3), some (.long l4), none, o5, o6, o7] [] (n, sl, f) Q) : mi_W d 59 11 [some (.ref l1), some (.int l2), some (.int l3), some (.long l4), none, o5, o6, o7] [.int s8] (n, sl, f) Q := by
  exact w_ifeq cd_59_11 (by decide) h9 h10
theorem b_59_14 {d : Nat} {Q : (Option Value ⊕ Nat) → mi_H → Prop} (n sl : Nat) (f : Nat → mi_C) {l1 : Nat} {l2 : Int32} {l3 : Int32} {l4 : Int64} {o5 : Option Value} {o6 : Option Value} {o7 : Option Value} (h8 : (lg_cmp l4 0) < (0 : Int32) → mi_W d 59 28 [some (.ref l1), some (.int l2), some (.int l3), some (.long l4), none, o5, o6, o7] [] (n, sl, f) Q) (h9 : ¬ ((lg_cmp l4 0) < (0 : Int32)) → mi_W d 59 20 [some (.ref l1), some (.int l2), some (.int l3), some (.long l4), none, o5, o6, o7] [] (n, sl, f) Q) : mi_W d 59 14 [some (.ref l1), some (.int l2), some (.int l3), some (.long l4), none, o5, o6, o7] [] (n, sl, f) Q := by
  refine w_lload_n cd_59_14 rfl ?_
  refine w_lconst (lv := 0) cd_59_15 (by decide) ?_
  refine w_lcmp cd_59_16 ?_
  exact w_iflt cd_59_17 (by decide) h8 h9
theorem b_59_20 {d : Nat} {Q : (Option Value ⊕ Nat) → mi_H → Prop} (n sl : Nat) (f : Nat → mi_C) {l1 : Nat} {l2 : Int32} {l3 : Int32} {l4 : Int64} {o5 : Option Value} {o6 : Option Value} {o7 : Option Value} (h8 : (lg_cmp l4 2305843009213693952) ≤ (0 : Int32) → mi_W d 59 38 [some (.ref l1), some (.int l2), some (.int l3), some (.long l4), none, o5, o6, o7] [] (n, sl, f) Q) (h9 : ¬ ((lg_cmp l4 2305843009213693952) ≤ (0 : Int32)) → mi_W d 59 28 [some (.ref l1), some (.int l2), some (.int l3), some (.long l4), none, o5, o6, o7] [] (n, sl, f) Q) : mi_W d 59 20 [some (.ref l1), some (.int l2), some (.int l3), some (.long l4), none, o5, o6, o7] [] (n, sl, f) Q := by
  refine w_lload_n cd_59_20 rfl ?_
  refine w_ldc2_w (lv := 2305843009213693952) cd_59_21 (by decide +kernel) ?_
  refine w_lcmp cd_59_24 ?_
  exact w_ifle cd_59_25 (by decide) h8 h9
theorem b_59_28 {d : Nat} {Q : (Option Value ⊕ Nat) → mi_H → Prop} (n sl : Nat) (f : Nat → mi_C) {l1 : Nat} {l2 : Int32} {l3 : Int32} {l4 : Int64} {o5 : Option Value} {o6 : Option Value} {o7 : Option Value} {h' : mi_H} (h8 : mi_t 59 28 (.new 123) [] (n, sl, f) = some h') (h9 : Q (.inr n) h') : mi_W d 59 28 [some (.ref l1), some (.int l2), some (.int l3), some (.long l4), none, o5, o6, o7] [] (n, sl, f) Q := by
  exact w_throw cd_59_28 (show mt_c 0 123 = some 15 by decide +kernel) (by decide) h8 h9
theorem b_59_38 {d : Nat} {Q : (Option Value ⊕ Nat) → mi_H → Prop} (n sl : Nat) (f : Nat → mi_C) {l1 : Nat} {l2 : Int32} {l3 : Int32} {l4 : Int64} {o5 : Option Value} {o6 : Option Value} {o7 : Option Value} {fs8 : List Value} {x11 : Nat} {fs13 : List Value} {x16 : Nat} (m18 i18 : Nat) (g18 : Nat → Int64) {fs22 : List Value} {x25 : Nat} {fs27 : List Value} {x30 : Nat} (m32 i32 : Nat) (g32 : Nat → Int64) (h9 : f l1 = .inr (0, fs8)) (h10 : l1 < n) (h12 : fs8[3]? = some (.ref x11)) (h14 : f x11 = .inr (5, fs13)) (h15 : x11 < n) (h17 : fs13[0]? = some (.ref x16)) (h19 : f x16 = .inl (3, m18, .inr (.inl g18))) (h20 : x16 < n) (h21 : mi_ix ((l2 * 4) + l3) m18 i18) (h23 : f l1 = .inr (0, fs22)) (h24 : l1 < n) (h26 : fs22[3]? = some (.ref x25)) (h28 : f x25 = .inr (5, fs27)) (h29 : x25 < n) (h31 : fs27[0]? = some (.ref x30)) (h33 : f x30 = .inl (3, m32, .inr (.inl g32))) (h34 : x30 < n) (h35 : mi_ix ((l2 * 4) + l3) m32 i32) (h36 : Q (.inl (some (.long (g18 i18)))) (n, sl, (va_up f x30 (.inl (3, m32, .inr (.inl (vp_updL g32 i32 l4))))))) : mi_W d 59 38 [some (.ref l1), some (.int l2), some (.int l3), some (.long l4), none, o5, o6, o7] [] (n, sl, f) Q := by
  refine w_iload_n cd_59_38 rfl ?_
  refine w_iconst (v := 4) cd_59_39 (by decide) ?_
  refine w_imul cd_59_40 ?_
  refine w_iload_n cd_59_41 rfl ?_
  refine w_iadd cd_59_42 ?_
  refine w_istore (ls' := [some (.ref l1), some (.int l2), some (.int l3), some (.long l4), none, some (.int ((l2 * 4) + l3)), o6, o7]) cd_59_43 (Nat.le_of_ble_eq_true rfl) rfl ?_
  refine w_aload_n cd_59_45 rfl ?_
  refine w_getfield cd_59_46 (show mt_f 0 35 = some (0, 3) by decide +kernel) h9 h10 h12 ?_
  refine w_getfield cd_59_49 (show mt_f 0 128 = some (5, 0) by decide +kernel) h14 h15 h17 ?_
  refine w_iload cd_59_52 rfl ?_
  refine w_laload cd_59_54 h19 h20 h21 ?_
  refine w_lstore (ls' := [some (.ref l1), some (.int l2), some (.int l3), some (.long l4), none, some (.int ((l2 * 4) + l3)), some (.long (g18 i18)), none]) cd_59_55 (Nat.le_of_ble_eq_true rfl) rfl ?_
  refine w_aload_n cd_59_57 rfl ?_
  refine w_getfield cd_59_58 (show mt_f 0 35 = some (0, 3) by decide +kernel) h23 h24 h26 ?_
  refine w_getfield cd_59_61 (show mt_f 0 128 = some (5, 0) by decide +kernel) h28 h29 h31 ?_
  refine w_iload cd_59_64 rfl ?_
  refine w_lload_n cd_59_66 rfl ?_
  refine w_lastore cd_59_67 h33 h34 h35 ?_
  refine w_lload cd_59_68 rfl ?_
  exact w_lreturn cd_59_70 (by decide +kernel) h36
/-! MarloweHost.deposit(IIIJ)I -/
set_option maxRecDepth 100000 in
theorem mq_63 : mt_q 63 = my_63 := rfl
set_option maxRecDepth 100000 in
theorem ci_63 : mt_inc 0 my_63.cd = true := by decide +kernel
theorem cd_63_0 : mt_cd 63 0 = some (.iload_n 1) := mt_cd_of (q := (0, .iload_n 1, 1)) mq_63 ci_63 (List.mem_of_getElem? (i := 0) rfl)
theorem cd_63_1 : mt_cd 63 1 = some (.invokestatic 114) := mt_cd_of (q := (1, .invokestatic 114, 3)) mq_63 ci_63 (List.mem_of_getElem? (i := 1) rfl)
theorem cd_63_4 : mt_cd 63 4 = some (.ifCond .eq 17) := mt_cd_of (q := (4, .ifCond .eq 17, 3)) mq_63 ci_63 (List.mem_of_getElem? (i := 2) rfl)
theorem cd_63_7 : mt_cd 63 7 = some (.iload_n 2) := mt_cd_of (q := (7, .iload_n 2, 1)) mq_63 ci_63 (List.mem_of_getElem? (i := 3) rfl)
theorem cd_63_8 : mt_cd 63 8 = some (.invokestatic 114) := mt_cd_of (q := (8, .invokestatic 114, 3)) mq_63 ci_63 (List.mem_of_getElem? (i := 4) rfl)
theorem cd_63_11 : mt_cd 63 11 = some (.ifCond .eq 10) := mt_cd_of (q := (11, .ifCond .eq 10, 3)) mq_63 ci_63 (List.mem_of_getElem? (i := 5) rfl)
theorem cd_63_14 : mt_cd 63 14 = some (.iload_n 3) := mt_cd_of (q := (14, .iload_n 3, 1)) mq_63 ci_63 (List.mem_of_getElem? (i := 6) rfl)
theorem cd_63_15 : mt_cd 63 15 = some (.invokestatic 118) := mt_cd_of (q := (15, .invokestatic 118, 3)) mq_63 ci_63 (List.mem_of_getElem? (i := 7) rfl)
theorem cd_63_18 : mt_cd 63 18 = some (.ifCond .ne 13) := mt_cd_of (q := (18, .ifCond .ne 13, 3)) mq_63 ci_63 (List.mem_of_getElem? (i := 8) rfl)
theorem cd_63_21 : mt_cd 63 21 = some (.new 123) := mt_cd_of (q := (21, .new 123, 3)) mq_63 ci_63 (List.mem_of_getElem? (i := 9) rfl)
theorem cd_63_24 : mt_cd 63 24 = some (.dup) := mt_cd_of (q := (24, .dup, 1)) mq_63 ci_63 (List.mem_of_getElem? (i := 10) rfl)
theorem cd_63_25 : mt_cd 63 25 = some (.ldc 132) := mt_cd_of (q := (25, .ldc 132, 2)) mq_63 ci_63 (List.mem_of_getElem? (i := 11) rfl)
theorem cd_63_27 : mt_cd 63 27 = some (.invokespecial 127) := mt_cd_of (q := (27, .invokespecial 127, 3)) mq_63 ci_63 (List.mem_of_getElem? (i := 12) rfl)
theorem cd_63_30 : mt_cd 63 30 = some (.athrow) := mt_cd_of (q := (30, .athrow, 1)) mq_63 ci_63 (List.mem_of_getElem? (i := 13) rfl)
theorem cd_63_31 : mt_cd 63 31 = some (.aload_n 0) := mt_cd_of (q := (31, .aload_n 0, 1)) mq_63 ci_63 (List.mem_of_getElem? (i := 14) rfl)
theorem cd_63_32 : mt_cd 63 32 = some (.invokevirtual 134) := mt_cd_of (q := (32, .invokevirtual 134, 3)) mq_63 ci_63 (List.mem_of_getElem? (i := 15) rfl)
theorem cd_63_35 : mt_cd 63 35 = some (.aload_n 0) := mt_cd_of (q := (35, .aload_n 0, 1)) mq_63 ci_63 (List.mem_of_getElem? (i := 16) rfl)
theorem cd_63_36 : mt_cd 63 36 = some (.getfield 42) := mt_cd_of (q := (36, .getfield 42, 3)) mq_63 ci_63 (List.mem_of_getElem? (i := 17) rfl)
theorem cd_63_39 : mt_cd 63 39 = some (.bipush 8) := mt_cd_of (q := (39, .bipush 8, 2)) mq_63 ci_63 (List.mem_of_getElem? (i := 18) rfl)
theorem cd_63_41 : mt_cd 63 41 = some (.iload_n 1) := mt_cd_of (q := (41, .iload_n 1, 1)) mq_63 ci_63 (List.mem_of_getElem? (i := 19) rfl)
theorem cd_63_42 : mt_cd 63 42 = some (.iload_n 2) := mt_cd_of (q := (42, .iload_n 2, 1)) mq_63 ci_63 (List.mem_of_getElem? (i := 20) rfl)
theorem cd_63_43 : mt_cd 63 43 = some (.iload_n 3) := mt_cd_of (q := (43, .iload_n 3, 1)) mq_63 ci_63 (List.mem_of_getElem? (i := 21) rfl)
theorem cd_63_44 : mt_cd 63 44 = some (.lload 4) := mt_cd_of (q := (44, .lload 4, 2)) mq_63 ci_63 (List.mem_of_getElem? (i := 22) rfl)
theorem cd_63_46 : mt_cd 63 46 = some (.invokevirtual 137) := mt_cd_of (q := (46, .invokevirtual 137, 3)) mq_63 ci_63 (List.mem_of_getElem? (i := 23) rfl)
theorem cd_63_49 : mt_cd 63 49 = some (.ireturn) := mt_cd_of (q := (49, .ireturn, 1)) mq_63 ci_63 (List.mem_of_getElem? (i := 24) rfl)
theorem b_63_0 {d : Nat} {Q : (Option Value ⊕ Nat) → mi_H → Prop} (n sl : Nat) (f : Nat → mi_C) {l1 : Nat} {l2 : Int32} {l3 : Int32} {l4 : Int32} {l5 : Int64} (h6 : mi_W d 60 0 (mi_en 1 [.int l2]) [] (n, sl, f) (mi_Kc d 63 1 [some (.ref l1), some (.int l2), some (.int l3), some (.int l4), some (.long l5), none] [] Q)) : mi_W (d + 1) 63 0 [some (.ref l1), some (.int l2), some (.int l3), some (.int l4), some (.long l5), none] [] (n, sl, f) Q := by
  refine w_iload_n cd_63_0 rfl ?_
  exact w_invokestatic cd_63_1 (show mt_m 0 114 = some (60, 4) by decide +kernel) (by decide) (rest := []) rfl (as := [.int l2]) rfl ⟨Nat.le_of_ble_eq_true rfl, Nat.le_of_ble_eq_true rfl, Nat.le_of_ble_eq_true rfl⟩ h6
theorem b_63_4 {d : Nat} {Q : (Option Value ⊕ Nat) → mi_H → Prop} (n sl : Nat) (f : Nat → mi_C) {l1 : Nat} {l2 : Int32} {l3 : Int32} {l4 : Int32} {l5 : Int64} {s6 : Int32} (h7 : s6 = (0 : Int32) → mi_W d 63 21 [some (.ref l1), some (.int l2), some (.int l3), some (.int l4), some (.long l5), none] [] (n, sl, f) Q) (h8 : ¬ (s6 = (0 : Int32)) → mi_W d 63 7 [some (.ref l1), some (.int l2), some (.int l3), some (.int l4), some (.long l5), none] [] (n, sl, f) Q) : mi_W d 63 4 [some (.ref l1), some (.int l2), some (.int l3), some (.int l4), some (.long l5), none] [.int s6] (n, sl, f) Q := by
  exact w_ifeq cd_63_4 (by decide) h7 h8
theorem b_63_7 {d : Nat} {Q : (Option Value ⊕ Nat) → mi_H → Prop} (n sl : Nat) (f : Nat → mi_C) {l1 : Nat} {l2 : Int32} {l3 : Int32} {l4 : Int32} {l5 : Int64} (h6 : mi_W d 60 0 (mi_en 1 [.int l3]) [] (n, sl, f) (mi_Kc d 63 8 [some (.ref l1), some (.int l2), some (.int l3), some (.int l4), some (.long l5), none] [] Q)) : mi_W (d + 1) 63 7 [some (.ref l1), some (.int l2), some (.int l3), some (.int l4), some (.long l5), none] [] (n, sl, f) Q := by
  refine w_iload_n cd_63_7 rfl ?_
  exact w_invokestatic cd_63_8 (show mt_m 0 114 = some (60, 4) by decide +kernel) (by decide) (rest := []) rfl (as := [.int l3]) rfl ⟨Nat.le_of_ble_eq_true rfl, Nat.le_of_ble_eq_true rfl, Nat.le_of_ble_eq_true rfl⟩ h6
theorem b_63_11 {d : Nat} {Q : (Option Value ⊕ Nat) → mi_H → Prop} (n sl : Nat) (f : Nat → mi_C) {l1 : Nat} {l2 : Int32} {l3 : Int32} {l4 : Int32} {l5 : Int64} {s6 : Int32} (h7 : s6 = (0 : Int32) → mi_W d 63 21 [some (.ref l1), some (.int l2), some (.int l3), some (.int l4), some (.long l5), none] [] (n, sl, f) Q) (h8 : ¬ (s6 = (0 : Int32)) → mi_W d 63 14 [some (.ref l1), some (.int l2), some (.int l3), some (.int l4), some (.long l5), none] [] (n, sl, f) Q) : mi_W d 63 11 [some (.ref l1), some (.int l2), some (.int l3), some (.int l4), some (.long l5), none] [.int s6] (n, sl, f) Q := by
  exact w_ifeq cd_63_11 (by decide) h7 h8
theorem b_63_14 {d : Nat} {Q : (Option Value ⊕ Nat) → mi_H → Prop} (n sl : Nat) (f : Nat → mi_C) {l1 : Nat} {l2 : Int32} {l3 : Int32} {l4 : Int32} {l5 : Int64} (h6 : mi_W d 61 0 (mi_en 1 [.int l4]) [] (n, sl, f) (mi_Kc d 63 15 [some (.ref l1), some (.int l2), some (.int l3), some (.int l4), some (.long l5), none] [] Q)) : mi_W (d + 1) 63 14 [some (.ref l1), some (.int l2), some (.int l3), some (.int l4), some (.long l5), none] [] (n, sl, f) Q := by
  refine w_iload_n cd_63_14 rfl ?_
  exact w_invokestatic cd_63_15 (show mt_m 0 118 = some (61, 4) by decide +kernel) (by decide) (rest := []) rfl (as := [.int l4]) rfl ⟨Nat.le_of_ble_eq_true rfl, Nat.le_of_ble_eq_true rfl, Nat.le_of_ble_eq_true rfl⟩ h6
theorem b_63_18 {d : Nat} {Q : (Option Value ⊕ Nat) → mi_H → Prop} (n sl : Nat) (f : Nat → mi_C) {l1 : Nat} {l2 : Int32} {l3 : Int32} {l4 : Int32} {l5 : Int64} {s6 : Int32} (h7 : ¬ s6 = (0 : Int32) → mi_W d 63 31 [some (.ref l1), some (.int l2), some (.int l3), some (.int l4), some (.long l5), none] [] (n, sl, f) Q) (h8 : ¬ (¬ s6 = (0 : Int32)) → mi_W d 63 21 [some (.ref l1), some (.int l2), some (.int l3), some (.int l4), some (.long l5), none] [] (n, sl, f) Q) : mi_W d 63 18 [some (.ref l1), some (.int l2), some (.int l3), some (.int l4), some (.long l5), none] [.int s6] (n, sl, f) Q := by
  exact w_ifne cd_63_18 (by decide) h7 h8
theorem b_63_21 {d : Nat} {Q : (Option Value ⊕ Nat) → mi_H → Prop} (n sl : Nat) (f : Nat → mi_C) {l1 : Nat} {l2 : Int32} {l3 : Int32} {l4 : Int32} {l5 : Int64} {h' : mi_H} (h6 : mi_t 63 21 (.new 123) [] (n, sl, f) = some h') (h7 : Q (.inr n) h') : mi_W d 63 21 [some (.ref l1), some (.int l2), some (.int l3), some (.int l4), some (.long l5), none] [] (n, sl, f) Q := by
  exact w_throw cd_63_21 (show mt_c 0 123 = some 15 by decide +kernel) (by decide) h6 h7
theorem b_63_31 {d : Nat} {Q : (Option Value ⊕ Nat) → mi_H → Prop} (n sl : Nat) (f : Nat → mi_C) {l1 : Nat} {l2 : Int32} {l3 : Int32} {l4 : Int32} {l5 : Int64} {fs6 : List Value} (h7 : f l1 = .inr (0, fs6)) (h8 : l1 < n) (h9 : mi_W d 64 0 (mi_en 1 [.ref l1]) [] (n, sl, f) (mi_Kc d 63 32 [some (.ref l1), some (.int l2), some (.int l3), some (.int l4), some (.long l5), none] [] Q)) : mi_W (d + 1) 63 31 [some (.ref l1), some (.int l2), some (.int l3), some (.int l4), some (.long l5), none] [] (n, sl, f) Q := by
  refine w_aload_n cd_63_31 rfl ?_
  exact w_invokevirtual cd_63_32 (show mt_m 0 134 = some (64, 0) by decide +kernel) (rest := []) rfl (as := [.ref l1]) rfl h7 (Or.inl h8) ⟨Nat.le_of_ble_eq_true rfl, Nat.le_of_ble_eq_true rfl, Nat.le_of_ble_eq_true rfl⟩ h9
theorem b_63_35 {d : Nat} {Q : (Option Value ⊕ Nat) → mi_H → Prop} (n sl : Nat) (f : Nat → mi_C) {l1 : Nat} {l2 : Int32} {l3 : Int32} {l4 : Int32} {l5 : Int64} {fs6 : List Value} {x9 : Nat} {fs11 : List Value} (h7 : f l1 = .inr (0, fs6)) (h8 : l1 < n) (h10 : fs6[4]? = some (.ref x9)) (h12 : f x9 = .inr (6, fs11)) (h13 : x9 < n) (h14 : mi_W d 65 0 (mi_en 7 [.ref x9, .int 8, .int l2, .int l3, .int l4, .long l5]) [] (n, sl, f) (mi_Kc d 63 46 [some (.ref l1), some (.int l2), some (.int l3), some (.int l4), some (.long l5), none] [] Q)) : mi_W (d + 1) 63 35 [some (.ref l1), some (.int l2), some (.int l3), some (.int l4), some (.long l5), none] [] (n, sl, f) Q := by
  refine w_aload_n cd_63_35 rfl ?_
  refine w_getfield cd_63_36 (show mt_f 0 42 = some (0, 4) by decide +kernel) h7 h8 h10 ?_
  refine w_bipush (v := 8) cd_63_39 (by decide) ?_
  refine w_iload_n cd_63_41 rfl ?_
  refine w_iload_n cd_63_42 rfl ?_
  refine w_iload_n cd_63_43 rfl ?_
  refine w_lload cd_63_44 rfl ?_
  exact w_invokevirtual cd_63_46 (show mt_m 0 137 = some (65, 0) by decide +kernel) (rest := []) rfl (as := [.ref x9, .int 8, .int l2, .int l3, .int l4, .long l5]) rfl h12 (Or.inl h13) ⟨Nat.le_of_ble_eq_true rfl, Nat.le_of_ble_eq_true rfl, Nat.le_of_ble_eq_true rfl⟩ h14
theorem b_63_49 {d : Nat} {Q : (Option Value ⊕ Nat) → mi_H → Prop} (n sl : Nat) (f : Nat → mi_C) {l1 : Nat} {l2 : Int32} {l3 : Int32} {l4 : Int32} {l5 : Int64} {s6 : Int32} (h7 : Q (.inl (some (.int s6))) (n, sl, f)) : mi_W d 63 49 [some (.ref l1), some (.int l2), some (.int l3), some (.int l4), some (.long l5), none] [.int s6] (n, sl, f) Q := by
  exact w_ireturn_i cd_63_49 (by decide +kernel) h7
/-! MarloweHostModel.remind()I -/
set_option maxRecDepth 100000 in
theorem mq_190 : mt_q 190 = my_190 := rfl
set_option maxRecDepth 100000 in
theorem ci_190 : mt_inc 0 my_190.cd = true := by decide +kernel
theorem cd_190_0 : mt_cd 190 0 = some (.aload_n 0) := mt_cd_of (q := (0, .aload_n 0, 1)) mq_190 ci_190 (List.mem_of_getElem? (i := 0) rfl)
theorem cd_190_1 : mt_cd 190 1 = some (.iconst 0) := mt_cd_of (q := (1, .iconst 0, 1)) mq_190 ci_190 (List.mem_of_getElem? (i := 1) rfl)
theorem cd_190_2 : mt_cd 190 2 = some (.putfield 248) := mt_cd_of (q := (2, .putfield 248, 3)) mq_190 ci_190 (List.mem_of_getElem? (i := 2) rfl)
theorem cd_190_5 : mt_cd 190 5 = some (.aload_n 0) := mt_cd_of (q := (5, .aload_n 0, 1)) mq_190 ci_190 (List.mem_of_getElem? (i := 3) rfl)
theorem cd_190_6 : mt_cd 190 6 = some (.aload_n 0) := mt_cd_of (q := (6, .aload_n 0, 1)) mq_190 ci_190 (List.mem_of_getElem? (i := 4) rfl)
theorem cd_190_7 : mt_cd 190 7 = some (.getfield 258) := mt_cd_of (q := (7, .getfield 258, 3)) mq_190 ci_190 (List.mem_of_getElem? (i := 5) rfl)
theorem cd_190_10 : mt_cd 190 10 = some (.bipush 16) := mt_cd_of (q := (10, .bipush 16, 2)) mq_190 ci_190 (List.mem_of_getElem? (i := 6) rfl)
theorem cd_190_12 : mt_cd 190 12 = some (.if_icmp .ne 7) := mt_cd_of (q := (12, .if_icmp .ne 7, 3)) mq_190 ci_190 (List.mem_of_getElem? (i := 7) rfl)
theorem cd_190_15 : mt_cd 190 15 = some (.iconst 1) := mt_cd_of (q := (15, .iconst 1, 1)) mq_190 ci_190 (List.mem_of_getElem? (i := 8) rfl)
theorem cd_190_16 : mt_cd 190 16 = some (.goto 4) := mt_cd_of (q := (16, .goto 4, 3)) mq_190 ci_190 (List.mem_of_getElem? (i := 9) rfl)
theorem cd_190_19 : mt_cd 190 19 = some (.iconst 0) := mt_cd_of (q := (19, .iconst 0, 1)) mq_190 ci_190 (List.mem_of_getElem? (i := 10) rfl)
theorem cd_190_20 : mt_cd 190 20 = some (.iconst 1) := mt_cd_of (q := (20, .iconst 1, 1)) mq_190 ci_190 (List.mem_of_getElem? (i := 11) rfl)
theorem cd_190_21 : mt_cd 190 21 = some (.invokevirtual 254) := mt_cd_of (q := (21, .invokevirtual 254, 3)) mq_190 ci_190 (List.mem_of_getElem? (i := 12) rfl)
theorem cd_190_24 : mt_cd 190 24 = some (.ifCond .eq 5) := mt_cd_of (q := (24, .ifCond .eq 5, 3)) mq_190 ci_190 (List.mem_of_getElem? (i := 13) rfl)
theorem cd_190_27 : mt_cd 190 27 = some (.iconst 0) := mt_cd_of (q := (27, .iconst 0, 1)) mq_190 ci_190 (List.mem_of_getElem? (i := 14) rfl)
theorem cd_190_28 : mt_cd 190 28 = some (.ireturn) := mt_cd_of (q := (28, .ireturn, 1)) mq_190 ci_190 (List.mem_of_getElem? (i := 15) rfl)
theorem cd_190_29 : mt_cd 190 29 = some (.aload_n 0) := mt_cd_of (q := (29, .aload_n 0, 1)) mq_190 ci_190 (List.mem_of_getElem? (i := 16) rfl)
theorem cd_190_30 : mt_cd 190 30 = some (.bipush 9) := mt_cd_of (q := (30, .bipush 9, 2)) mq_190 ci_190 (List.mem_of_getElem? (i := 17) rfl)
theorem cd_190_32 : mt_cd 190 32 = some (.iconst 0) := mt_cd_of (q := (32, .iconst 0, 1)) mq_190 ci_190 (List.mem_of_getElem? (i := 18) rfl)
theorem cd_190_33 : mt_cd 190 33 = some (.iconst 0) := mt_cd_of (q := (33, .iconst 0, 1)) mq_190 ci_190 (List.mem_of_getElem? (i := 19) rfl)
theorem cd_190_34 : mt_cd 190 34 = some (.iconst 0) := mt_cd_of (q := (34, .iconst 0, 1)) mq_190 ci_190 (List.mem_of_getElem? (i := 20) rfl)
theorem cd_190_35 : mt_cd 190 35 = some (.lconst 0) := mt_cd_of (q := (35, .lconst 0, 1)) mq_190 ci_190 (List.mem_of_getElem? (i := 21) rfl)
theorem cd_190_36 : mt_cd 190 36 = some (.invokevirtual 548) := mt_cd_of (q := (36, .invokevirtual 548, 3)) mq_190 ci_190 (List.mem_of_getElem? (i := 22) rfl)
theorem cd_190_39 : mt_cd 190 39 = some (.ireturn) := mt_cd_of (q := (39, .ireturn, 1)) mq_190 ci_190 (List.mem_of_getElem? (i := 23) rfl)
theorem b_190_0 {d : Nat} {Q : (Option Value ⊕ Nat) → mi_H → Prop} (n sl : Nat) (f : Nat → mi_C) {l1 : Nat} {fs2 : List Value} {fs6 : List Value} {x9 : Int32} (h3 : f l1 = .inr (12, fs2)) (h4 : l1 < n) (h5 : 0 < fs2.length) (h7 : (va_up f l1 (.inr (12, fs2.set 0 (.int 0)))) l1 = .inr (12, fs6)) (h8 : l1 < n) (h10 : fs6[59]? = some (.int x9)) (h11 : ¬ x9 = 16 → mi_W d 190 19 [some (.ref l1)] [.ref l1] (n, sl, (va_up f l1 (.inr (12, fs2.set 0 (.int 0))))) Q) (h12 : ¬ (¬ x9 = 16) → mi_W d 190 15 [some (.ref l1)] [.ref l1] (n, sl, (va_up f l1 (.inr (12, fs2.set 0 (.int 0))))) Q) : mi_W d 190 0 [some (.ref l1)] [] (n, sl, f) Q := by
  refine w_aload_n cd_190_0 rfl ?_
  refine w_iconst (v := 0) cd_190_1 (by decide) ?_
  refine w_putfield (w := .int 0) cd_190_2 (show mt_f 12 248 = some (12, 0) by decide +kernel) h3 h4 ⟨h5, rfl, Or.inl (by decide)⟩ ?_
  refine w_aload_n cd_190_5 rfl ?_
  refine w_aload_n cd_190_6 rfl ?_
  refine w_getfield cd_190_7 (show mt_f 12 258 = some (12, 59) by decide +kernel) h7 h8 h10 ?_
  refine w_bipush (v := 16) cd_190_10 (by decide) ?_
  exact w_if_icmpne cd_190_12 (by decide) h11 h12
theorem b_190_15 {d : Nat} {Q : (Option Value ⊕ Nat) → mi_H → Prop} (n sl : Nat) (f : Nat → mi_C) {l1 : Nat} {s2 : Nat} (h3 : mi_W d 190 20 [some (.ref l1)] [.int 1, .ref s2] (n, sl, f) Q) : mi_W d 190 15 [some (.ref l1)] [.ref s2] (n, sl, f) Q := by
  refine w_iconst (v := 1) cd_190_15 (by decide) ?_
  exact w_goto cd_190_16 (by decide) h3
theorem b_190_19 {d : Nat} {Q : (Option Value ⊕ Nat) → mi_H → Prop} (n sl : Nat) (f : Nat → mi_C) {l1 : Nat} {s2 : Nat} (h3 : mi_W d 190 20 [some (.ref l1)] [.int 0, .ref s2] (n, sl, f) Q) : mi_W d 190 19 [some (.ref l1)] [.ref s2] (n, sl, f) Q := by
  refine w_iconst (v := 0) cd_190_19 (by decide) ?_
  exact h3
theorem b_190_20 {d : Nat} {Q : (Option Value ⊕ Nat) → mi_H → Prop} (n sl : Nat) (f : Nat → mi_C) {l1 : Nat} {s2 : Int32} {s3 : Nat} {fs4 : List Value} (h5 : f s3 = .inr (12, fs4)) (h6 : s3 < n) (h7 : mi_W d 140 0 (mi_en 3 [.ref s3, .int s2, .int 1]) [] (n, sl, f) (mi_Kc d 190 21 [some (.ref l1)] [] Q)) : mi_W (d + 1) 190 20 [some (.ref l1)] [.int s2, .ref s3] (n, sl, f) Q := by
  refine w_iconst (v := 1) cd_190_20 (by decide) ?_
  exact w_invokevirtual cd_190_21 (show mt_m 12 254 = some (140, 0) by decide +kernel) (rest := []) rfl (as := [.ref s3, .int s2, .int 1]) rfl h5 (Or.inl h6) ⟨Nat.le_of_ble_eq_true rfl, Nat.le_of_ble_eq_true rfl, Nat.le_of_ble_eq_true rfl⟩ h7
theorem b_190_24 {d : Nat} {Q : (Option Value ⊕ Nat) → mi_H → Prop} (n sl : Nat) (f : Nat → mi_C) {l1 : Nat} {s2 : Int32} (h3 : s2 = (0 : Int32) → mi_W d 190 29 [some (.ref l1)] [] (n, sl, f) Q) (h4 : ¬ (s2 = (0 : Int32)) → mi_W d 190 27 [some (.ref l1)] [] (n, sl, f) Q) : mi_W d 190 24 [some (.ref l1)] [.int s2] (n, sl, f) Q := by
  exact w_ifeq cd_190_24 (by decide) h3 h4
theorem b_190_27 {d : Nat} {Q : (Option Value ⊕ Nat) → mi_H → Prop} (n sl : Nat) (f : Nat → mi_C) {l1 : Nat} (h2 : Q (.inl (some (.int 0))) (n, sl, f)) : mi_W d 190 27 [some (.ref l1)] [] (n, sl, f) Q := by
  refine w_iconst (v := 0) cd_190_27 (by decide) ?_
  exact w_ireturn_i cd_190_28 (by decide +kernel) h2
theorem b_190_29 {d : Nat} {Q : (Option Value ⊕ Nat) → mi_H → Prop} (n sl : Nat) (f : Nat → mi_C) {l1 : Nat} {fs2 : List Value} (h3 : f l1 = .inr (12, fs2)) (h4 : l1 < n) (h5 : mi_W d 188 0 (mi_en 7 [.ref l1, .int 9, .int 0, .int 0, .int 0, .long 0]) [] (n, sl, f) (mi_Kc d 190 36 [some (.ref l1)] [] Q)) : mi_W (d + 1) 190 29 [some (.ref l1)] [] (n, sl, f) Q := by
  refine w_aload_n cd_190_29 rfl ?_
  refine w_bipush (v := 9) cd_190_30 (by decide) ?_
  refine w_iconst (v := 0) cd_190_32 (by decide) ?_
  refine w_iconst (v := 0) cd_190_33 (by decide) ?_
  refine w_iconst (v := 0) cd_190_34 (by decide) ?_
  refine w_lconst (lv := 0) cd_190_35 (by decide) ?_
  exact w_invokevirtual cd_190_36 (show mt_m 12 548 = some (188, 0) by decide +kernel) (rest := []) rfl (as := [.ref l1, .int 9, .int 0, .int 0, .int 0, .long 0]) rfl h3 (Or.inl h4) ⟨Nat.le_of_ble_eq_true rfl, Nat.le_of_ble_eq_true rfl, Nat.le_of_ble_eq_true rfl⟩ h5
theorem b_190_39 {d : Nat} {Q : (Option Value ⊕ Nat) → mi_H → Prop} (n sl : Nat) (f : Nat → mi_C) {l1 : Nat} {s2 : Int32} (h3 : Q (.inl (some (.int s2))) (n, sl, f)) : mi_W d 190 39 [some (.ref l1)] [.int s2] (n, sl, f) Q := by
  exact w_ireturn_i cd_190_39 (by decide +kernel) h3
/-! MarloweHostLaw.state(LMarloweHost;III[J)I -/
set_option maxRecDepth 100000 in
theorem mq_117 : mt_q 117 = my_117 := rfl
set_option maxRecDepth 100000 in
theorem ci_117 : mt_inc 0 my_117.cd = true := by decide +kernel
theorem cd_117_0 : mt_cd 117 0 = some (.aload 4) := mt_cd_of (q := (0, .aload 4, 2)) mq_117 ci_117 (List.mem_of_getElem? (i := 0) rfl)
theorem cd_117_2 : mt_cd 117 2 = some (.iconst 0) := mt_cd_of (q := (2, .iconst 0, 1)) mq_117 ci_117 (List.mem_of_getElem? (i := 1) rfl)
theorem cd_117_3 : mt_cd 117 3 = some (.aload_n 0) := mt_cd_of (q := (3, .aload_n 0, 1)) mq_117 ci_117 (List.mem_of_getElem? (i := 2) rfl)
theorem cd_117_4 : mt_cd 117 4 = some (.iload_n 1) := mt_cd_of (q := (4, .iload_n 1, 1)) mq_117 ci_117 (List.mem_of_getElem? (i := 3) rfl)
theorem cd_117_5 : mt_cd 117 5 = some (.iload_n 2) := mt_cd_of (q := (5, .iload_n 2, 1)) mq_117 ci_117 (List.mem_of_getElem? (i := 4) rfl)
theorem cd_117_6 : mt_cd 117 6 = some (.iload_n 3) := mt_cd_of (q := (6, .iload_n 3, 1)) mq_117 ci_117 (List.mem_of_getElem? (i := 5) rfl)
theorem cd_117_7 : mt_cd 117 7 = some (.invokevirtual 51) := mt_cd_of (q := (7, .invokevirtual 51, 3)) mq_117 ci_117 (List.mem_of_getElem? (i := 6) rfl)
theorem cd_117_10 : mt_cd 117 10 = some (.lastore) := mt_cd_of (q := (10, .lastore, 1)) mq_117 ci_117 (List.mem_of_getElem? (i := 7) rfl)
theorem cd_117_11 : mt_cd 117 11 = some (.goto 11) := mt_cd_of (q := (11, .goto 11, 3)) mq_117 ci_117 (List.mem_of_getElem? (i := 8) rfl)
theorem cd_117_14 : mt_cd 117 14 = some (.astore 5) := mt_cd_of (q := (14, .astore 5, 2)) mq_117 ci_117 (List.mem_of_getElem? (i := 9) rfl)
theorem cd_117_16 : mt_cd 117 16 = some (.iconst 1) := mt_cd_of (q := (16, .iconst 1, 1)) mq_117 ci_117 (List.mem_of_getElem? (i := 10) rfl)
theorem cd_117_17 : mt_cd 117 17 = some (.ireturn) := mt_cd_of (q := (17, .ireturn, 1)) mq_117 ci_117 (List.mem_of_getElem? (i := 11) rfl)
theorem cd_117_18 : mt_cd 117 18 = some (.astore 5) := mt_cd_of (q := (18, .astore 5, 2)) mq_117 ci_117 (List.mem_of_getElem? (i := 12) rfl)
theorem cd_117_20 : mt_cd 117 20 = some (.iconst 2) := mt_cd_of (q := (20, .iconst 2, 1)) mq_117 ci_117 (List.mem_of_getElem? (i := 13) rfl)
theorem cd_117_21 : mt_cd 117 21 = some (.ireturn) := mt_cd_of (q := (21, .ireturn, 1)) mq_117 ci_117 (List.mem_of_getElem? (i := 14) rfl)
theorem cd_117_22 : mt_cd 117 22 = some (.iconst 0) := mt_cd_of (q := (22, .iconst 0, 1)) mq_117 ci_117 (List.mem_of_getElem? (i := 15) rfl)
theorem cd_117_23 : mt_cd 117 23 = some (.ireturn) := mt_cd_of (q := (23, .ireturn, 1)) mq_117 ci_117 (List.mem_of_getElem? (i := 16) rfl)
theorem b_117_0 {d : Nat} {Q : (Option Value ⊕ Nat) → mi_H → Prop} (n sl : Nat) (f : Nat → mi_C) {l1 : Nat} {l2 : Int32} {l3 : Int32} {l4 : Int32} {l5 : Nat} {o6 : Option Value} {fs7 : List Value} (h8 : f l1 = .inr (0, fs7)) (h9 : l1 < n) (h10 : mi_W d 118 0 (mi_en 4 [.ref l1, .int l2, .int l3, .int l4]) [] (n, sl, f) (mi_Kc d 117 7 [some (.ref l1), some (.int l2), some (.int l3), some (.int l4), some (.ref l5), o6] [.int 0, .ref l5] Q)) : mi_W (d + 1) 117 0 [some (.ref l1), some (.int l2), some (.int l3), some (.int l4), some (.ref l5), o6] [] (n, sl, f) Q := by
  refine w_aload cd_117_0 rfl ?_
  refine w_iconst (v := 0) cd_117_2 (by decide) ?_
  refine w_aload_n cd_117_3 rfl ?_
  refine w_iload_n cd_117_4 rfl ?_
  refine w_iload_n cd_117_5 rfl ?_
  refine w_iload_n cd_117_6 rfl ?_
  exact w_invokevirtual cd_117_7 (show mt_m 18 51 = some (118, 0) by decide +kernel) (rest := [.int 0, .ref l5]) rfl (as := [.ref l1, .int l2, .int l3, .int l4]) rfl h8 (Or.inl h9) ⟨Nat.le_of_ble_eq_true rfl, Nat.le_of_ble_eq_true rfl, Nat.le_of_ble_eq_true rfl⟩ h10
theorem b_117_10 {d : Nat} {Q : (Option Value ⊕ Nat) → mi_H → Prop} (n sl : Nat) (f : Nat → mi_C) {l1 : Nat} {l2 : Int32} {l3 : Int32} {l4 : Int32} {l5 : Nat} {o6 : Option Value} {s7 : Int64} {s8 : Int32} {s9 : Nat} (m10 i10 : Nat) (g10 : Nat → Int64) (h11 : f s9 = .inl (3, m10, .inr (.inl g10))) (h12 : s9 < n) (h13 : mi_ix s8 m10 i10) (h14 : mi_W d 117 22 [some (.ref l1), some (.int l2), some (.int l3), some (.int l4), some (.ref l5), o6] [] (n, sl, (va_up f s9 (.inl (3, m10, .inr (.inl (vp_updL g10 i10 s7)))))) Q) : mi_W d 117 10 [some (.ref l1), some (.int l2), some (.int l3), some (.int l4), some (.ref l5), o6] [.long s7, .int s8, .ref s9] (n, sl, f) Q := by
  refine w_lastore cd_117_10 h11 h12 h13 ?_
  exact w_goto cd_117_11 (by decide) h14
theorem b_117_14 {d : Nat} {Q : (Option Value ⊕ Nat) → mi_H → Prop} (n sl : Nat) (f : Nat → mi_C) {l1 : Nat} {l2 : Int32} {l3 : Int32} {l4 : Int32} {l5 : Nat} {o6 : Option Value} {s7 : Nat} (h8 : Q (.inl (some (.int 1))) (n, sl, f)) : mi_W d 117 14 [some (.ref l1), some (.int l2), some (.int l3), some (.int l4), some (.ref l5), o6] [.ref s7] (n, sl, f) Q := by
  refine w_astore (ls' := [some (.ref l1), some (.int l2), some (.int l3), some (.int l4), some (.ref l5), some (.ref s7)]) cd_117_14 (Nat.le_of_ble_eq_true rfl) rfl ?_
  refine w_iconst (v := 1) cd_117_16 (by decide) ?_
  exact w_ireturn_i cd_117_17 (by decide +kernel) h8
theorem b_117_18 {d : Nat} {Q : (Option Value ⊕ Nat) → mi_H → Prop} (n sl : Nat) (f : Nat → mi_C) {l1 : Nat} {l2 : Int32} {l3 : Int32} {l4 : Int32} {l5 : Nat} {o6 : Option Value} {s7 : Nat} (h8 : Q (.inl (some (.int 2))) (n, sl, f)) : mi_W d 117 18 [some (.ref l1), some (.int l2), some (.int l3), some (.int l4), some (.ref l5), o6] [.ref s7] (n, sl, f) Q := by
  refine w_astore (ls' := [some (.ref l1), some (.int l2), some (.int l3), some (.int l4), some (.ref l5), some (.ref s7)]) cd_117_18 (Nat.le_of_ble_eq_true rfl) rfl ?_
  refine w_iconst (v := 2) cd_117_20 (by decide) ?_
  exact w_ireturn_i cd_117_21 (by decide +kernel) h8
theorem b_117_22 {d : Nat} {Q : (Option Value ⊕ Nat) → mi_H → Prop} (n sl : Nat) (f : Nat → mi_C) {l1 : Nat} {l2 : Int32} {l3 : Int32} {l4 : Int32} {l5 : Nat} {o6 : Option Value} (h7 : Q (.inl (some (.int 0))) (n, sl, f)) : mi_W d 117 22 [some (.ref l1), some (.int l2), some (.int l3), some (.int l4), some (.ref l5), o6] [] (n, sl, f) Q := by
  refine w_iconst (v := 0) cd_117_22 (by decide) ?_
  exact w_ireturn_i cd_117_23 (by decide +kernel) h7
/-! MarloweHostLaw.told(LMarloweHost;II[J)I -/
set_option maxRecDepth 100000 in
theorem mq_113 : mt_q 113 = my_113 := rfl
set_option maxRecDepth 100000 in
theorem ci_113 : mt_inc 0 my_113.cd = true := by decide +kernel
theorem cd_113_0 : mt_cd 113 0 = some (.aload_n 3) := mt_cd_of (q := (0, .aload_n 3, 1)) mq_113 ci_113 (List.mem_of_getElem? (i := 0) rfl)
theorem cd_113_1 : mt_cd 113 1 = some (.iconst 0) := mt_cd_of (q := (1, .iconst 0, 1)) mq_113 ci_113 (List.mem_of_getElem? (i := 1) rfl)
theorem cd_113_2 : mt_cd 113 2 = some (.aload_n 0) := mt_cd_of (q := (2, .aload_n 0, 1)) mq_113 ci_113 (List.mem_of_getElem? (i := 2) rfl)
theorem cd_113_3 : mt_cd 113 3 = some (.iload_n 1) := mt_cd_of (q := (3, .iload_n 1, 1)) mq_113 ci_113 (List.mem_of_getElem? (i := 3) rfl)
theorem cd_113_4 : mt_cd 113 4 = some (.iload_n 2) := mt_cd_of (q := (4, .iload_n 2, 1)) mq_113 ci_113 (List.mem_of_getElem? (i := 4) rfl)
theorem cd_113_5 : mt_cd 113 5 = some (.invokevirtual 43) := mt_cd_of (q := (5, .invokevirtual 43, 3)) mq_113 ci_113 (List.mem_of_getElem? (i := 5) rfl)
theorem cd_113_8 : mt_cd 113 8 = some (.i2l) := mt_cd_of (q := (8, .i2l, 1)) mq_113 ci_113 (List.mem_of_getElem? (i := 6) rfl)
theorem cd_113_9 : mt_cd 113 9 = some (.lastore) := mt_cd_of (q := (9, .lastore, 1)) mq_113 ci_113 (List.mem_of_getElem? (i := 7) rfl)
theorem cd_113_10 : mt_cd 113 10 = some (.goto 11) := mt_cd_of (q := (10, .goto 11, 3)) mq_113 ci_113 (List.mem_of_getElem? (i := 8) rfl)
theorem cd_113_13 : mt_cd 113 13 = some (.astore 4) := mt_cd_of (q := (13, .astore 4, 2)) mq_113 ci_113 (List.mem_of_getElem? (i := 9) rfl)
theorem cd_113_15 : mt_cd 113 15 = some (.iconst 1) := mt_cd_of (q := (15, .iconst 1, 1)) mq_113 ci_113 (List.mem_of_getElem? (i := 10) rfl)
theorem cd_113_16 : mt_cd 113 16 = some (.ireturn) := mt_cd_of (q := (16, .ireturn, 1)) mq_113 ci_113 (List.mem_of_getElem? (i := 11) rfl)
theorem cd_113_17 : mt_cd 113 17 = some (.astore 4) := mt_cd_of (q := (17, .astore 4, 2)) mq_113 ci_113 (List.mem_of_getElem? (i := 12) rfl)
theorem cd_113_19 : mt_cd 113 19 = some (.iconst 2) := mt_cd_of (q := (19, .iconst 2, 1)) mq_113 ci_113 (List.mem_of_getElem? (i := 13) rfl)
theorem cd_113_20 : mt_cd 113 20 = some (.ireturn) := mt_cd_of (q := (20, .ireturn, 1)) mq_113 ci_113 (List.mem_of_getElem? (i := 14) rfl)
theorem cd_113_21 : mt_cd 113 21 = some (.iconst 0) := mt_cd_of (q := (21, .iconst 0, 1)) mq_113 ci_113 (List.mem_of_getElem? (i := 15) rfl)
theorem cd_113_22 : mt_cd 113 22 = some (.ireturn) := mt_cd_of (q := (22, .ireturn, 1)) mq_113 ci_113 (List.mem_of_getElem? (i := 16) rfl)
theorem b_113_0 {d : Nat} {Q : (Option Value ⊕ Nat) → mi_H → Prop} (n sl : Nat) (f : Nat → mi_C) {l1 : Nat} {l2 : Int32} {l3 : Int32} {l4 : Nat} {o5 : Option Value} {fs6 : List Value} (h7 : f l1 = .inr (0, fs6)) (h8 : l1 < n) (h9 : mi_W d 114 0 (mi_en 4 [.ref l1, .int l2, .int l3]) [] (n, sl, f) (mi_Kc d 113 5 [some (.ref l1), some (.int l2), some (.int l3), some (.ref l4), o5] [.int 0, .ref l4] Q)) : mi_W (d + 1) 113 0 [some (.ref l1), some (.int l2), some (.int l3), some (.ref l4), o5] [] (n, sl, f) Q := by
  refine w_aload_n cd_113_0 rfl ?_
  refine w_iconst (v := 0) cd_113_1 (by decide) ?_
  refine w_aload_n cd_113_2 rfl ?_
  refine w_iload_n cd_113_3 rfl ?_
  refine w_iload_n cd_113_4 rfl ?_
  exact w_invokevirtual cd_113_5 (show mt_m 18 43 = some (114, 0) by decide +kernel) (rest := [.int 0, .ref l4]) rfl (as := [.ref l1, .int l2, .int l3]) rfl h7 (Or.inl h8) ⟨Nat.le_of_ble_eq_true rfl, Nat.le_of_ble_eq_true rfl, Nat.le_of_ble_eq_true rfl⟩ h9
theorem b_113_8 {d : Nat} {Q : (Option Value ⊕ Nat) → mi_H → Prop} (n sl : Nat) (f : Nat → mi_C) {l1 : Nat} {l2 : Int32} {l3 : Int32} {l4 : Nat} {o5 : Option Value} {s6 : Int32} {s7 : Int32} {s8 : Nat} (m9 i9 : Nat) (g9 : Nat → Int64) (h10 : f s8 = .inl (3, m9, .inr (.inl g9))) (h11 : s8 < n) (h12 : mi_ix s7 m9 i9) (h13 : mi_W d 113 21 [some (.ref l1), some (.int l2), some (.int l3), some (.ref l4), o5] [] (n, sl, (va_up f s8 (.inl (3, m9, .inr (.inl (vp_updL g9 i9 ((s6 : Int32).toInt64))))))) Q) : mi_W d 113 8 [some (.ref l1), some (.int l2), some (.int l3), some (.ref l4), o5] [.int s6, .int s7, .ref s8] (n, sl, f) Q := by
  refine w_i2l cd_113_8 ?_
  refine w_lastore cd_113_9 h10 h11 h12 ?_
  exact w_goto cd_113_10 (by decide) h13
theorem b_113_13 {d : Nat} {Q : (Option Value ⊕ Nat) → mi_H → Prop} (n sl : Nat) (f : Nat → mi_C) {l1 : Nat} {l2 : Int32} {l3 : Int32} {l4 : Nat} {o5 : Option Value} {s6 : Nat} (h7 : Q (.inl (some (.int 1))) (n, sl, f)) : mi_W d 113 13 [some (.ref l1), some (.int l2), some (.int l3), some (.ref l4), o5] [.ref s6] (n, sl, f) Q := by
  refine w_astore (ls' := [some (.ref l1), some (.int l2), some (.int l3), some (.ref l4), some (.ref s6)]) cd_113_13 (Nat.le_of_ble_eq_true rfl) rfl ?_
  refine w_iconst (v := 1) cd_113_15 (by decide) ?_
  exact w_ireturn_i cd_113_16 (by decide +kernel) h7
theorem b_113_17 {d : Nat} {Q : (Option Value ⊕ Nat) → mi_H → Prop} (n sl : Nat) (f : Nat → mi_C) {l1 : Nat} {l2 : Int32} {l3 : Int32} {l4 : Nat} {o5 : Option Value} {s6 : Nat} (h7 : Q (.inl (some (.int 2))) (n, sl, f)) : mi_W d 113 17 [some (.ref l1), some (.int l2), some (.int l3), some (.ref l4), o5] [.ref s6] (n, sl, f) Q := by
  refine w_astore (ls' := [some (.ref l1), some (.int l2), some (.int l3), some (.ref l4), some (.ref s6)]) cd_113_17 (Nat.le_of_ble_eq_true rfl) rfl ?_
  refine w_iconst (v := 2) cd_113_19 (by decide) ?_
  exact w_ireturn_i cd_113_20 (by decide +kernel) h7
theorem b_113_21 {d : Nat} {Q : (Option Value ⊕ Nat) → mi_H → Prop} (n sl : Nat) (f : Nat → mi_C) {l1 : Nat} {l2 : Int32} {l3 : Int32} {l4 : Nat} {o5 : Option Value} (h6 : Q (.inl (some (.int 0))) (n, sl, f)) : mi_W d 113 21 [some (.ref l1), some (.int l2), some (.int l3), some (.ref l4), o5] [] (n, sl, f) Q := by
  refine w_iconst (v := 0) cd_113_21 (by decide) ?_
  exact w_ireturn_i cd_113_22 (by decide +kernel) h6
/-! MarloweHostLaw.step(LMarloweHost;II[J)I -/
set_option maxRecDepth 100000 in
theorem mq_131 : mt_q 131 = my_131 := rfl
set_option maxRecDepth 100000 in
theorem ci_131 : mt_inc 0 my_131.cd = true := by decide +kernel
theorem cd_131_0 : mt_cd 131 0 = some (.aload_n 3) := mt_cd_of (q := (0, .aload_n 3, 1)) mq_131 ci_131 (List.mem_of_getElem? (i := 0) rfl)
theorem cd_131_1 : mt_cd 131 1 = some (.iconst 0) := mt_cd_of (q := (1, .iconst 0, 1)) mq_131 ci_131 (List.mem_of_getElem? (i := 1) rfl)
theorem cd_131_2 : mt_cd 131 2 = some (.aload_n 0) := mt_cd_of (q := (2, .aload_n 0, 1)) mq_131 ci_131 (List.mem_of_getElem? (i := 2) rfl)
theorem cd_131_3 : mt_cd 131 3 = some (.iload_n 1) := mt_cd_of (q := (3, .iload_n 1, 1)) mq_131 ci_131 (List.mem_of_getElem? (i := 3) rfl)
theorem cd_131_4 : mt_cd 131 4 = some (.iload_n 2) := mt_cd_of (q := (4, .iload_n 2, 1)) mq_131 ci_131 (List.mem_of_getElem? (i := 4) rfl)
theorem cd_131_5 : mt_cd 131 5 = some (.invokevirtual 58) := mt_cd_of (q := (5, .invokevirtual 58, 3)) mq_131 ci_131 (List.mem_of_getElem? (i := 5) rfl)
theorem cd_131_8 : mt_cd 131 8 = some (.lastore) := mt_cd_of (q := (8, .lastore, 1)) mq_131 ci_131 (List.mem_of_getElem? (i := 6) rfl)
theorem cd_131_9 : mt_cd 131 9 = some (.goto 11) := mt_cd_of (q := (9, .goto 11, 3)) mq_131 ci_131 (List.mem_of_getElem? (i := 7) rfl)
theorem cd_131_12 : mt_cd 131 12 = some (.astore 4) := mt_cd_of (q := (12, .astore 4, 2)) mq_131 ci_131 (List.mem_of_getElem? (i := 8) rfl)
theorem cd_131_14 : mt_cd 131 14 = some (.iconst 1) := mt_cd_of (q := (14, .iconst 1, 1)) mq_131 ci_131 (List.mem_of_getElem? (i := 9) rfl)
theorem cd_131_15 : mt_cd 131 15 = some (.ireturn) := mt_cd_of (q := (15, .ireturn, 1)) mq_131 ci_131 (List.mem_of_getElem? (i := 10) rfl)
theorem cd_131_16 : mt_cd 131 16 = some (.astore 4) := mt_cd_of (q := (16, .astore 4, 2)) mq_131 ci_131 (List.mem_of_getElem? (i := 11) rfl)
theorem cd_131_18 : mt_cd 131 18 = some (.iconst 2) := mt_cd_of (q := (18, .iconst 2, 1)) mq_131 ci_131 (List.mem_of_getElem? (i := 12) rfl)
theorem cd_131_19 : mt_cd 131 19 = some (.ireturn) := mt_cd_of (q := (19, .ireturn, 1)) mq_131 ci_131 (List.mem_of_getElem? (i := 13) rfl)
theorem cd_131_20 : mt_cd 131 20 = some (.iconst 0) := mt_cd_of (q := (20, .iconst 0, 1)) mq_131 ci_131 (List.mem_of_getElem? (i := 14) rfl)
theorem cd_131_21 : mt_cd 131 21 = some (.ireturn) := mt_cd_of (q := (21, .ireturn, 1)) mq_131 ci_131 (List.mem_of_getElem? (i := 15) rfl)
theorem b_131_0 {d : Nat} {Q : (Option Value ⊕ Nat) → mi_H → Prop} (n sl : Nat) (f : Nat → mi_C) {l1 : Nat} {l2 : Int32} {l3 : Int32} {l4 : Nat} {o5 : Option Value} {fs6 : List Value} (h7 : f l1 = .inr (0, fs6)) (h8 : l1 < n) (h9 : mi_W d 132 0 (mi_en 3 [.ref l1, .int l2, .int l3]) [] (n, sl, f) (mi_Kc d 131 5 [some (.ref l1), some (.int l2), some (.int l3), some (.ref l4), o5] [.int 0, .ref l4] Q)) : mi_W (d + 1) 131 0 [some (.ref l1), some (.int l2), some (.int l3), some (.ref l4), o5] [] (n, sl, f) Q := by
  refine w_aload_n cd_131_0 rfl ?_
  refine w_iconst (v := 0) cd_131_1 (by decide) ?_
  refine w_aload_n cd_131_2 rfl ?_
  refine w_iload_n cd_131_3 rfl ?_
  refine w_iload_n cd_131_4 rfl ?_
  exact w_invokevirtual cd_131_5 (show mt_m 18 58 = some (132, 0) by decide +kernel) (rest := [.int 0, .ref l4]) rfl (as := [.ref l1, .int l2, .int l3]) rfl h7 (Or.inl h8) ⟨Nat.le_of_ble_eq_true rfl, Nat.le_of_ble_eq_true rfl, Nat.le_of_ble_eq_true rfl⟩ h9
theorem b_131_8 {d : Nat} {Q : (Option Value ⊕ Nat) → mi_H → Prop} (n sl : Nat) (f : Nat → mi_C) {l1 : Nat} {l2 : Int32} {l3 : Int32} {l4 : Nat} {o5 : Option Value} {s6 : Int64} {s7 : Int32} {s8 : Nat} (m9 i9 : Nat) (g9 : Nat → Int64) (h10 : f s8 = .inl (3, m9, .inr (.inl g9))) (h11 : s8 < n) (h12 : mi_ix s7 m9 i9) (h13 : mi_W d 131 20 [some (.ref l1), some (.int l2), some (.int l3), some (.ref l4), o5] [] (n, sl, (va_up f s8 (.inl (3, m9, .inr (.inl (vp_updL g9 i9 s6)))))) Q) : mi_W d 131 8 [some (.ref l1), some (.int l2), some (.int l3), some (.ref l4), o5] [.long s6, .int s7, .ref s8] (n, sl, f) Q := by
  refine w_lastore cd_131_8 h10 h11 h12 ?_
  exact w_goto cd_131_9 (by decide) h13
theorem b_131_12 {d : Nat} {Q : (Option Value ⊕ Nat) → mi_H → Prop} (n sl : Nat) (f : Nat → mi_C) {l1 : Nat} {l2 : Int32} {l3 : Int32} {l4 : Nat} {o5 : Option Value} {s6 : Nat} (h7 : Q (.inl (some (.int 1))) (n, sl, f)) : mi_W d 131 12 [some (.ref l1), some (.int l2), some (.int l3), some (.ref l4), o5] [.ref s6] (n, sl, f) Q := by
  refine w_astore (ls' := [some (.ref l1), some (.int l2), some (.int l3), some (.ref l4), some (.ref s6)]) cd_131_12 (Nat.le_of_ble_eq_true rfl) rfl ?_
  refine w_iconst (v := 1) cd_131_14 (by decide) ?_
  exact w_ireturn_i cd_131_15 (by decide +kernel) h7
theorem b_131_16 {d : Nat} {Q : (Option Value ⊕ Nat) → mi_H → Prop} (n sl : Nat) (f : Nat → mi_C) {l1 : Nat} {l2 : Int32} {l3 : Int32} {l4 : Nat} {o5 : Option Value} {s6 : Nat} (h7 : Q (.inl (some (.int 2))) (n, sl, f)) : mi_W d 131 16 [some (.ref l1), some (.int l2), some (.int l3), some (.ref l4), o5] [.ref s6] (n, sl, f) Q := by
  refine w_astore (ls' := [some (.ref l1), some (.int l2), some (.int l3), some (.ref l4), some (.ref s6)]) cd_131_16 (Nat.le_of_ble_eq_true rfl) rfl ?_
  refine w_iconst (v := 2) cd_131_18 (by decide) ?_
  exact w_ireturn_i cd_131_19 (by decide +kernel) h7
theorem b_131_20 {d : Nat} {Q : (Option Value ⊕ Nat) → mi_H → Prop} (n sl : Nat) (f : Nat → mi_C) {l1 : Nat} {l2 : Int32} {l3 : Int32} {l4 : Nat} {o5 : Option Value} (h6 : Q (.inl (some (.int 0))) (n, sl, f)) : mi_W d 131 20 [some (.ref l1), some (.int l2), some (.int l3), some (.ref l4), o5] [] (n, sl, f) Q := by
  refine w_iconst (v := 0) cd_131_20 (by decide) ?_
  exact w_ireturn_i cd_131_21 (by decide +kernel) h6
/-! MarloweHostLaw.apply(LMarloweHost;JJ[J)I -/
set_option maxRecDepth 100000 in
theorem mq_70 : mt_q 70 = my_70 := rfl
set_option maxRecDepth 100000 in
theorem ci_70 : mt_inc 0 my_70.cd = true := by decide +kernel
theorem cd_70_0 : mt_cd 70 0 = some (.aload 5) := mt_cd_of (q := (0, .aload 5, 2)) mq_70 ci_70 (List.mem_of_getElem? (i := 0) rfl)
theorem cd_70_2 : mt_cd 70 2 = some (.iconst 0) := mt_cd_of (q := (2, .iconst 0, 1)) mq_70 ci_70 (List.mem_of_getElem? (i := 1) rfl)
theorem cd_70_3 : mt_cd 70 3 = some (.aload_n 0) := mt_cd_of (q := (3, .aload_n 0, 1)) mq_70 ci_70 (List.mem_of_getElem? (i := 2) rfl)
theorem cd_70_4 : mt_cd 70 4 = some (.lload_n 1) := mt_cd_of (q := (4, .lload_n 1, 1)) mq_70 ci_70 (List.mem_of_getElem? (i := 3) rfl)
theorem cd_70_5 : mt_cd 70 5 = some (.lload_n 3) := mt_cd_of (q := (5, .lload_n 3, 1)) mq_70 ci_70 (List.mem_of_getElem? (i := 4) rfl)
theorem cd_70_6 : mt_cd 70 6 = some (.invokevirtual 37) := mt_cd_of (q := (6, .invokevirtual 37, 3)) mq_70 ci_70 (List.mem_of_getElem? (i := 5) rfl)
theorem cd_70_9 : mt_cd 70 9 = some (.i2l) := mt_cd_of (q := (9, .i2l, 1)) mq_70 ci_70 (List.mem_of_getElem? (i := 6) rfl)
theorem cd_70_10 : mt_cd 70 10 = some (.lastore) := mt_cd_of (q := (10, .lastore, 1)) mq_70 ci_70 (List.mem_of_getElem? (i := 7) rfl)
theorem cd_70_11 : mt_cd 70 11 = some (.goto 7) := mt_cd_of (q := (11, .goto 7, 3)) mq_70 ci_70 (List.mem_of_getElem? (i := 8) rfl)
theorem cd_70_14 : mt_cd 70 14 = some (.astore 6) := mt_cd_of (q := (14, .astore 6, 2)) mq_70 ci_70 (List.mem_of_getElem? (i := 9) rfl)
theorem cd_70_16 : mt_cd 70 16 = some (.iconst 1) := mt_cd_of (q := (16, .iconst 1, 1)) mq_70 ci_70 (List.mem_of_getElem? (i := 10) rfl)
theorem cd_70_17 : mt_cd 70 17 = some (.ireturn) := mt_cd_of (q := (17, .ireturn, 1)) mq_70 ci_70 (List.mem_of_getElem? (i := 11) rfl)
theorem cd_70_18 : mt_cd 70 18 = some (.iconst 0) := mt_cd_of (q := (18, .iconst 0, 1)) mq_70 ci_70 (List.mem_of_getElem? (i := 12) rfl)
theorem cd_70_19 : mt_cd 70 19 = some (.ireturn) := mt_cd_of (q := (19, .ireturn, 1)) mq_70 ci_70 (List.mem_of_getElem? (i := 13) rfl)
theorem b_70_0 {d : Nat} {Q : (Option Value ⊕ Nat) → mi_H → Prop} (n sl : Nat) (f : Nat → mi_C) {l1 : Nat} {l2 : Int64} {l3 : Int64} {l4 : Nat} {o5 : Option Value} {fs6 : List Value} (h7 : f l1 = .inr (0, fs6)) (h8 : l1 < n) (h9 : mi_W d 71 0 (mi_en 6 [.ref l1, .long l2, .long l3]) [] (n, sl, f) (mi_Kc d 70 6 [some (.ref l1), some (.long l2), none, some (.long l3), none, some (.ref l4), o5] [.int 0, .ref l4] Q)) : mi_W (d + 1) 70 0 [some (.ref l1), some (.long l2), none, some (.long l3), none, some (.ref l4), o5] [] (n, sl, f) Q := by
  refine w_aload cd_70_0 rfl ?_
  refine w_iconst (v := 0) cd_70_2 (by decide) ?_
  refine w_aload_n cd_70_3 rfl ?_
  refine w_lload_n cd_70_4 rfl ?_
  refine w_lload_n cd_70_5 rfl ?_
  exact w_invokevirtual cd_70_6 (show mt_m 18 37 = some (71, 0) by decide +kernel) (rest := [.int 0, .ref l4]) rfl (as := [.ref l1, .long l2, .long l3]) rfl h7 (Or.inl h8) ⟨Nat.le_of_ble_eq_true rfl, Nat.le_of_ble_eq_true rfl, Nat.le_of_ble_eq_true rfl⟩ h9
theorem b_70_9 {d : Nat} {Q : (Option Value ⊕ Nat) → mi_H → Prop} (n sl : Nat) (f : Nat → mi_C) {l1 : Nat} {l2 : Int64} {l3 : Int64} {l4 : Nat} {o5 : Option Value} {s6 : Int32} {s7 : Int32} {s8 : Nat} (m9 i9 : Nat) (g9 : Nat → Int64) (h10 : f s8 = .inl (3, m9, .inr (.inl g9))) (h11 : s8 < n) (h12 : mi_ix s7 m9 i9) (h13 : mi_W d 70 18 [some (.ref l1), some (.long l2), none, some (.long l3), none, some (.ref l4), o5] [] (n, sl, (va_up f s8 (.inl (3, m9, .inr (.inl (vp_updL g9 i9 ((s6 : Int32).toInt64))))))) Q) : mi_W d 70 9 [some (.ref l1), some (.long l2), none, some (.long l3), none, some (.ref l4), o5] [.int s6, .int s7, .ref s8] (n, sl, f) Q := by
  refine w_i2l cd_70_9 ?_
  refine w_lastore cd_70_10 h10 h11 h12 ?_
  exact w_goto cd_70_11 (by decide) h13
theorem b_70_14 {d : Nat} {Q : (Option Value ⊕ Nat) → mi_H → Prop} (n sl : Nat) (f : Nat → mi_C) {l1 : Nat} {l2 : Int64} {l3 : Int64} {l4 : Nat} {o5 : Option Value} {s6 : Nat} (h7 : Q (.inl (some (.int 1))) (n, sl, f)) : mi_W d 70 14 [some (.ref l1), some (.long l2), none, some (.long l3), none, some (.ref l4), o5] [.ref s6] (n, sl, f) Q := by
  refine w_astore (ls' := [some (.ref l1), some (.long l2), none, some (.long l3), none, some (.ref l4), some (.ref s6)]) cd_70_14 (Nat.le_of_ble_eq_true rfl) rfl ?_
  refine w_iconst (v := 1) cd_70_16 (by decide) ?_
  exact w_ireturn_i cd_70_17 (by decide +kernel) h7
theorem b_70_18 {d : Nat} {Q : (Option Value ⊕ Nat) → mi_H → Prop} (n sl : Nat) (f : Nat → mi_C) {l1 : Nat} {l2 : Int64} {l3 : Int64} {l4 : Nat} {o5 : Option Value} (h6 : Q (.inl (some (.int 0))) (n, sl, f)) : mi_W d 70 18 [some (.ref l1), some (.long l2), none, some (.long l3), none, some (.ref l4), o5] [] (n, sl, f) Q := by
  refine w_iconst (v := 0) cd_70_18 (by decide) ?_
  exact w_ireturn_i cd_70_19 (by decide +kernel) h6
/-! MarloweHostLaw.paid(LMarloweHost;I[J)I -/
set_option maxRecDepth 100000 in
theorem mq_115 : mt_q 115 = my_115 := rfl
set_option maxRecDepth 100000 in
theorem ci_115 : mt_inc 0 my_115.cd = true := by decide +kernel
theorem cd_115_0 : mt_cd 115 0 = some (.aload_n 2) := mt_cd_of (q := (0, .aload_n 2, 1)) mq_115 ci_115 (List.mem_of_getElem? (i := 0) rfl)
theorem cd_115_1 : mt_cd 115 1 = some (.iconst 0) := mt_cd_of (q := (1, .iconst 0, 1)) mq_115 ci_115 (List.mem_of_getElem? (i := 1) rfl)
theorem cd_115_2 : mt_cd 115 2 = some (.aload_n 0) := mt_cd_of (q := (2, .aload_n 0, 1)) mq_115 ci_115 (List.mem_of_getElem? (i := 2) rfl)
theorem cd_115_3 : mt_cd 115 3 = some (.iload_n 1) := mt_cd_of (q := (3, .iload_n 1, 1)) mq_115 ci_115 (List.mem_of_getElem? (i := 3) rfl)
theorem cd_115_4 : mt_cd 115 4 = some (.invokevirtual 47) := mt_cd_of (q := (4, .invokevirtual 47, 3)) mq_115 ci_115 (List.mem_of_getElem? (i := 4) rfl)
theorem cd_115_7 : mt_cd 115 7 = some (.lastore) := mt_cd_of (q := (7, .lastore, 1)) mq_115 ci_115 (List.mem_of_getElem? (i := 5) rfl)
theorem cd_115_8 : mt_cd 115 8 = some (.goto 6) := mt_cd_of (q := (8, .goto 6, 3)) mq_115 ci_115 (List.mem_of_getElem? (i := 6) rfl)
theorem cd_115_11 : mt_cd 115 11 = some (.astore_n 3) := mt_cd_of (q := (11, .astore_n 3, 1)) mq_115 ci_115 (List.mem_of_getElem? (i := 7) rfl)
theorem cd_115_12 : mt_cd 115 12 = some (.iconst 1) := mt_cd_of (q := (12, .iconst 1, 1)) mq_115 ci_115 (List.mem_of_getElem? (i := 8) rfl)
theorem cd_115_13 : mt_cd 115 13 = some (.ireturn) := mt_cd_of (q := (13, .ireturn, 1)) mq_115 ci_115 (List.mem_of_getElem? (i := 9) rfl)
theorem cd_115_14 : mt_cd 115 14 = some (.iconst 0) := mt_cd_of (q := (14, .iconst 0, 1)) mq_115 ci_115 (List.mem_of_getElem? (i := 10) rfl)
theorem cd_115_15 : mt_cd 115 15 = some (.ireturn) := mt_cd_of (q := (15, .ireturn, 1)) mq_115 ci_115 (List.mem_of_getElem? (i := 11) rfl)
theorem b_115_0 {d : Nat} {Q : (Option Value ⊕ Nat) → mi_H → Prop} (n sl : Nat) (f : Nat → mi_C) {l1 : Nat} {l2 : Int32} {l3 : Nat} {o4 : Option Value} {fs5 : List Value} (h6 : f l1 = .inr (0, fs5)) (h7 : l1 < n) (h8 : mi_W d 116 0 (mi_en 2 [.ref l1, .int l2]) [] (n, sl, f) (mi_Kc d 115 4 [some (.ref l1), some (.int l2), some (.ref l3), o4] [.int 0, .ref l3] Q)) : mi_W (d + 1) 115 0 [some (.ref l1), some (.int l2), some (.ref l3), o4] [] (n, sl, f) Q := by
  refine w_aload_n cd_115_0 rfl ?_
  refine w_iconst (v := 0) cd_115_1 (by decide) ?_
  refine w_aload_n cd_115_2 rfl ?_
  refine w_iload_n cd_115_3 rfl ?_
  exact w_invokevirtual cd_115_4 (show mt_m 18 47 = some (116, 0) by decide +kernel) (rest := [.int 0, .ref l3]) rfl (as := [.ref l1, .int l2]) rfl h6 (Or.inl h7) ⟨Nat.le_of_ble_eq_true rfl, Nat.le_of_ble_eq_true rfl, Nat.le_of_ble_eq_true rfl⟩ h8
theorem b_115_7 {d : Nat} {Q : (Option Value ⊕ Nat) → mi_H → Prop} (n sl : Nat) (f : Nat → mi_C) {l1 : Nat} {l2 : Int32} {l3 : Nat} {o4 : Option Value} {s5 : Int64} {s6 : Int32} {s7 : Nat} (m8 i8 : Nat) (g8 : Nat → Int64) (h9 : f s7 = .inl (3, m8, .inr (.inl g8))) (h10 : s7 < n) (h11 : mi_ix s6 m8 i8) (h12 : mi_W d 115 14 [some (.ref l1), some (.int l2), some (.ref l3), o4] [] (n, sl, (va_up f s7 (.inl (3, m8, .inr (.inl (vp_updL g8 i8 s5)))))) Q) : mi_W d 115 7 [some (.ref l1), some (.int l2), some (.ref l3), o4] [.long s5, .int s6, .ref s7] (n, sl, f) Q := by
  refine w_lastore cd_115_7 h9 h10 h11 ?_
  exact w_goto cd_115_8 (by decide) h12
theorem b_115_11 {d : Nat} {Q : (Option Value ⊕ Nat) → mi_H → Prop} (n sl : Nat) (f : Nat → mi_C) {l1 : Nat} {l2 : Int32} {l3 : Nat} {o4 : Option Value} {s5 : Nat} (h6 : Q (.inl (some (.int 1))) (n, sl, f)) : mi_W d 115 11 [some (.ref l1), some (.int l2), some (.ref l3), o4] [.ref s5] (n, sl, f) Q := by
  refine w_astore_n (ls' := [some (.ref l1), some (.int l2), some (.ref l3), some (.ref s5)]) cd_115_11 (Nat.le_of_ble_eq_true rfl) rfl ?_
  refine w_iconst (v := 1) cd_115_12 (by decide) ?_
  exact w_ireturn_i cd_115_13 (by decide +kernel) h6
theorem b_115_14 {d : Nat} {Q : (Option Value ⊕ Nat) → mi_H → Prop} (n sl : Nat) (f : Nat → mi_C) {l1 : Nat} {l2 : Int32} {l3 : Nat} {o4 : Option Value} (h5 : Q (.inl (some (.int 0))) (n, sl, f)) : mi_W d 115 14 [some (.ref l1), some (.int l2), some (.ref l3), o4] [] (n, sl, f) Q := by
  refine w_iconst (v := 0) cd_115_14 (by decide) ?_
  exact w_ireturn_i cd_115_15 (by decide +kernel) h5
/-! MarloweHost.remind()I -/
set_option maxRecDepth 100000 in
theorem mq_69 : mt_q 69 = my_69 := rfl
set_option maxRecDepth 100000 in
theorem ci_69 : mt_inc 0 my_69.cd = true := by decide +kernel
theorem cd_69_0 : mt_cd 69 0 = some (.aload_n 0) := mt_cd_of (q := (0, .aload_n 0, 1)) mq_69 ci_69 (List.mem_of_getElem? (i := 0) rfl)
theorem cd_69_1 : mt_cd 69 1 = some (.invokevirtual 134) := mt_cd_of (q := (1, .invokevirtual 134, 3)) mq_69 ci_69 (List.mem_of_getElem? (i := 1) rfl)
theorem cd_69_4 : mt_cd 69 4 = some (.aload_n 0) := mt_cd_of (q := (4, .aload_n 0, 1)) mq_69 ci_69 (List.mem_of_getElem? (i := 2) rfl)
theorem cd_69_5 : mt_cd 69 5 = some (.getfield 42) := mt_cd_of (q := (5, .getfield 42, 3)) mq_69 ci_69 (List.mem_of_getElem? (i := 3) rfl)
theorem cd_69_8 : mt_cd 69 8 = some (.bipush 10) := mt_cd_of (q := (8, .bipush 10, 2)) mq_69 ci_69 (List.mem_of_getElem? (i := 4) rfl)
theorem cd_69_10 : mt_cd 69 10 = some (.iconst (-1)) := mt_cd_of (q := (10, .iconst (-1), 1)) mq_69 ci_69 (List.mem_of_getElem? (i := 5) rfl)
theorem cd_69_11 : mt_cd 69 11 = some (.iconst (-1)) := mt_cd_of (q := (11, .iconst (-1), 1)) mq_69 ci_69 (List.mem_of_getElem? (i := 6) rfl)
theorem cd_69_12 : mt_cd 69 12 = some (.iconst (-1)) := mt_cd_of (q := (12, .iconst (-1), 1)) mq_69 ci_69 (List.mem_of_getElem? (i := 7) rfl)
theorem cd_69_13 : mt_cd 69 13 = some (.lconst 0) := mt_cd_of (q := (13, .lconst 0, 1)) mq_69 ci_69 (List.mem_of_getElem? (i := 8) rfl)
theorem cd_69_14 : mt_cd 69 14 = some (.invokevirtual 137) := mt_cd_of (q := (14, .invokevirtual 137, 3)) mq_69 ci_69 (List.mem_of_getElem? (i := 9) rfl)
theorem cd_69_17 : mt_cd 69 17 = some (.ireturn) := mt_cd_of (q := (17, .ireturn, 1)) mq_69 ci_69 (List.mem_of_getElem? (i := 10) rfl)
theorem b_69_0 {d : Nat} {Q : (Option Value ⊕ Nat) → mi_H → Prop} (n sl : Nat) (f : Nat → mi_C) {l1 : Nat} {fs2 : List Value} (h3 : f l1 = .inr (0, fs2)) (h4 : l1 < n) (h5 : mi_W d 64 0 (mi_en 1 [.ref l1]) [] (n, sl, f) (mi_Kc d 69 1 [some (.ref l1)] [] Q)) : mi_W (d + 1) 69 0 [some (.ref l1)] [] (n, sl, f) Q := by
  refine w_aload_n cd_69_0 rfl ?_
  exact w_invokevirtual cd_69_1 (show mt_m 0 134 = some (64, 0) by decide +kernel) (rest := []) rfl (as := [.ref l1]) rfl h3 (Or.inl h4) ⟨Nat.le_of_ble_eq_true rfl, Nat.le_of_ble_eq_true rfl, Nat.le_of_ble_eq_true rfl⟩ h5
theorem b_69_4 {d : Nat} {Q : (Option Value ⊕ Nat) → mi_H → Prop} (n sl : Nat) (f : Nat → mi_C) {l1 : Nat} {fs2 : List Value} {x5 : Nat} {fs7 : List Value} (h3 : f l1 = .inr (0, fs2)) (h4 : l1 < n) (h6 : fs2[4]? = some (.ref x5)) (h8 : f x5 = .inr (6, fs7)) (h9 : x5 < n) (h10 : mi_W d 65 0 (mi_en 7 [.ref x5, .int 10, .int (-1), .int (-1), .int (-1), .long 0]) [] (n, sl, f) (mi_Kc d 69 14 [some (.ref l1)] [] Q)) : mi_W (d + 1) 69 4 [some (.ref l1)] [] (n, sl, f) Q := by
  refine w_aload_n cd_69_4 rfl ?_
  refine w_getfield cd_69_5 (show mt_f 0 42 = some (0, 4) by decide +kernel) h3 h4 h6 ?_
  refine w_bipush (v := 10) cd_69_8 (by decide) ?_
  refine w_iconst (v := (-1)) cd_69_10 (by decide) ?_
  refine w_iconst (v := (-1)) cd_69_11 (by decide) ?_
  refine w_iconst (v := (-1)) cd_69_12 (by decide) ?_
  refine w_lconst (lv := 0) cd_69_13 (by decide) ?_
  exact w_invokevirtual cd_69_14 (show mt_m 0 137 = some (65, 0) by decide +kernel) (rest := []) rfl (as := [.ref x5, .int 10, .int (-1), .int (-1), .int (-1), .long 0]) rfl h8 (Or.inl h9) ⟨Nat.le_of_ble_eq_true rfl, Nat.le_of_ble_eq_true rfl, Nat.le_of_ble_eq_true rfl⟩ h10
theorem b_69_17 {d : Nat} {Q : (Option Value ⊕ Nat) → mi_H → Prop} (n sl : Nat) (f : Nat → mi_C) {l1 : Nat} {s2 : Int32} (h3 : Q (.inl (some (.int s2))) (n, sl, f)) : mi_W d 69 17 [some (.ref l1)] [.int s2] (n, sl, f) Q := by
  exact w_ireturn_i cd_69_17 (by decide +kernel) h3
/-! MarloweHost.isToken(I)Z -/
set_option maxRecDepth 100000 in
theorem mq_61 : mt_q 61 = my_61 := rfl
set_option maxRecDepth 100000 in
theorem ci_61 : mt_inc 0 my_61.cd = true := by decide +kernel
theorem cd_61_0 : mt_cd 61 0 = some (.iload_n 0) := mt_cd_of (q := (0, .iload_n 0, 1)) mq_61 ci_61 (List.mem_of_getElem? (i := 0) rfl)
theorem cd_61_1 : mt_cd 61 1 = some (.ifCond .lt 12) := mt_cd_of (q := (1, .ifCond .lt 12, 3)) mq_61 ci_61 (List.mem_of_getElem? (i := 1) rfl)
theorem cd_61_4 : mt_cd 61 4 = some (.iload_n 0) := mt_cd_of (q := (4, .iload_n 0, 1)) mq_61 ci_61 (List.mem_of_getElem? (i := 2) rfl)
theorem cd_61_5 : mt_cd 61 5 = some (.iconst 4) := mt_cd_of (q := (5, .iconst 4, 1)) mq_61 ci_61 (List.mem_of_getElem? (i := 3) rfl)
theorem cd_61_6 : mt_cd 61 6 = some (.if_icmp .ge 7) := mt_cd_of (q := (6, .if_icmp .ge 7, 3)) mq_61 ci_61 (List.mem_of_getElem? (i := 4) rfl)
theorem cd_61_9 : mt_cd 61 9 = some (.iconst 1) := mt_cd_of (q := (9, .iconst 1, 1)) mq_61 ci_61 (List.mem_of_getElem? (i := 5) rfl)
theorem cd_61_10 : mt_cd 61 10 = some (.goto 4) := mt_cd_of (q := (10, .goto 4, 3)) mq_61 ci_61 (List.mem_of_getElem? (i := 6) rfl)
theorem cd_61_13 : mt_cd 61 13 = some (.iconst 0) := mt_cd_of (q := (13, .iconst 0, 1)) mq_61 ci_61 (List.mem_of_getElem? (i := 7) rfl)
theorem cd_61_14 : mt_cd 61 14 = some (.ireturn) := mt_cd_of (q := (14, .ireturn, 1)) mq_61 ci_61 (List.mem_of_getElem? (i := 8) rfl)
theorem b_61_0 {d : Nat} {Q : (Option Value ⊕ Nat) → mi_H → Prop} (n sl : Nat) (f : Nat → mi_C) {l1 : Int32} (h2 : l1 < (0 : Int32) → mi_W d 61 13 [some (.int l1)] [] (n, sl, f) Q) (h3 : ¬ (l1 < (0 : Int32)) → mi_W d 61 4 [some (.int l1)] [] (n, sl, f) Q) : mi_W d 61 0 [some (.int l1)] [] (n, sl, f) Q := by
  refine w_iload_n cd_61_0 rfl ?_
  exact w_iflt cd_61_1 (by decide) h2 h3
theorem b_61_4 {d : Nat} {Q : (Option Value ⊕ Nat) → mi_H → Prop} (n sl : Nat) (f : Nat → mi_C) {l1 : Int32} (h2 : 4 ≤ l1 → mi_W d 61 13 [some (.int l1)] [] (n, sl, f) Q) (h3 : ¬ (4 ≤ l1) → mi_W d 61 9 [some (.int l1)] [] (n, sl, f) Q) : mi_W d 61 4 [some (.int l1)] [] (n, sl, f) Q := by
  refine w_iload_n cd_61_4 rfl ?_
  refine w_iconst (v := 4) cd_61_5 (by decide) ?_
  exact w_if_icmpge cd_61_6 (by decide) h2 h3
theorem b_61_9 {d : Nat} {Q : (Option Value ⊕ Nat) → mi_H → Prop} (n sl : Nat) (f : Nat → mi_C) {l1 : Int32} (h2 : mi_W d 61 14 [some (.int l1)] [.int 1] (n, sl, f) Q) : mi_W d 61 9 [some (.int l1)] [] (n, sl, f) Q := by
  refine w_iconst (v := 1) cd_61_9 (by decide) ?_
  exact w_goto cd_61_10 (by decide) h2
theorem b_61_13 {d : Nat} {Q : (Option Value ⊕ Nat) → mi_H → Prop} (n sl : Nat) (f : Nat → mi_C) {l1 : Int32} (h2 : mi_W d 61 14 [some (.int l1)] [.int 0] (n, sl, f) Q) : mi_W d 61 13 [some (.int l1)] [] (n, sl, f) Q := by
  refine w_iconst (v := 0) cd_61_13 (by decide) ?_
  exact h2
theorem b_61_14 {d : Nat} {Q : (Option Value ⊕ Nat) → mi_H → Prop} (n sl : Nat) (f : Nat → mi_C) {l1 : Int32} {s2 : Int32} (h3 : s2 = 0 ∨ s2 = 1) (h4 : Q (.inl (some (.int s2))) (n, sl, f)) : mi_W d 61 14 [some (.int l1)] [.int s2] (n, sl, f) Q := by
  exact w_ireturn_z cd_61_14 (by decide +kernel) h3 h4
/-! MarloweHostModel.wrong()I -/
set_option maxRecDepth 100000 in
theorem mq_171 : mt_q 171 = my_171 := rfl
set_option maxRecDepth 100000 in
theorem ci_171 : mt_inc 0 my_171.cd = true := by decide +kernel
theorem cd_171_0 : mt_cd 171 0 = some (.aload_n 0) := mt_cd_of (q := (0, .aload_n 0, 1)) mq_171 ci_171 (List.mem_of_getElem? (i := 0) rfl)
theorem cd_171_1 : mt_cd 171 1 = some (.iconst 0) := mt_cd_of (q := (1, .iconst 0, 1)) mq_171 ci_171 (List.mem_of_getElem? (i := 1) rfl)
theorem cd_171_2 : mt_cd 171 2 = some (.putfield 248) := mt_cd_of (q := (2, .putfield 248, 3)) mq_171 ci_171 (List.mem_of_getElem? (i := 2) rfl)
theorem cd_171_5 : mt_cd 171 5 = some (.aload_n 0) := mt_cd_of (q := (5, .aload_n 0, 1)) mq_171 ci_171 (List.mem_of_getElem? (i := 3) rfl)
theorem cd_171_6 : mt_cd 171 6 = some (.getfield 7) := mt_cd_of (q := (6, .getfield 7, 3)) mq_171 ci_171 (List.mem_of_getElem? (i := 4) rfl)
theorem cd_171_9 : mt_cd 171 9 = some (.ireturn) := mt_cd_of (q := (9, .ireturn, 1)) mq_171 ci_171 (List.mem_of_getElem? (i := 5) rfl)
theorem b_171_0 {d : Nat} {Q : (Option Value ⊕ Nat) → mi_H → Prop} (n sl : Nat) (f : Nat → mi_C) {l1 : Nat} {fs2 : List Value} {fs6 : List Value} {x9 : Int32} (h3 : f l1 = .inr (12, fs2)) (h4 : l1 < n) (h5 : 0 < fs2.length) (h7 : (va_up f l1 (.inr (12, fs2.set 0 (.int 0)))) l1 = .inr (12, fs6)) (h8 : l1 < n) (h10 : fs6[3]? = some (.int x9)) (h11 : Q (.inl (some (.int x9))) (n, sl, (va_up f l1 (.inr (12, fs2.set 0 (.int 0)))))) : mi_W d 171 0 [some (.ref l1)] [] (n, sl, f) Q := by
  refine w_aload_n cd_171_0 rfl ?_
  refine w_iconst (v := 0) cd_171_1 (by decide) ?_
  refine w_putfield (w := .int 0) cd_171_2 (show mt_f 12 248 = some (12, 0) by decide +kernel) h3 h4 ⟨h5, rfl, Or.inl (by decide)⟩ ?_
  refine w_aload_n cd_171_5 rfl ?_
  refine w_getfield cd_171_6 (show mt_f 12 7 = some (12, 3) by decide +kernel) h7 h8 h10 ?_
  exact w_ireturn_i cd_171_9 (by decide +kernel) h11
end
