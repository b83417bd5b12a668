section
/-! MarloweHostModel.state(III)J -/
set_option maxRecDepth 100000 in
theorem mq_191 : mt_q 191 = my_191 := rfl
set_option maxRecDepth 100000 in
theorem ci_191 : mt_inc 0 my_191.cd = true := by decide +kernel
theorem cd_191_0 : mt_cd 191 0 = some (.aload_n 0) := mt_cd_of (q := (0, .aload_n 0, 1)) mq_191 ci_191 (List.mem_of_getElem? (i := 0) rfl)
theorem cd_191_1 : mt_cd 191 1 = some (.iconst 0) := mt_cd_of (q := (1, .iconst 0, 1)) mq_191 ci_191 (List.mem_of_getElem? (i := 1) rfl)
theorem cd_191_2 : mt_cd 191 2 = some (.putfield 248) := mt_cd_of (q := (2, .putfield 248, 3)) mq_191 ci_191 (List.mem_of_getElem? (i := 2) rfl)
theorem cd_191_5 : mt_cd 191 5 = some (.aload_n 0) := mt_cd_of (q := (5, .aload_n 0, 1)) mq_191 ci_191 (List.mem_of_getElem? (i := 3) rfl)
theorem cd_191_6 : mt_cd 191 6 = some (.iload_n 1) := mt_cd_of (q := (6, .iload_n 1, 1)) mq_191 ci_191 (List.mem_of_getElem? (i := 4) rfl)
theorem cd_191_7 : mt_cd 191 7 = some (.i2l) := mt_cd_of (q := (7, .i2l, 1)) mq_191 ci_191 (List.mem_of_getElem? (i := 5) rfl)
theorem cd_191_8 : mt_cd 191 8 = some (.lconst 0) := mt_cd_of (q := (8, .lconst 0, 1)) mq_191 ci_191 (List.mem_of_getElem? (i := 6) rfl)
theorem cd_191_9 : mt_cd 191 9 = some (.ldc2_w 552) := mt_cd_of (q := (9, .ldc2_w 552, 3)) mq_191 ci_191 (List.mem_of_getElem? (i := 7) rfl)
theorem cd_191_12 : mt_cd 191 12 = some (.invokestatic 268) := mt_cd_of (q := (12, .invokestatic 268, 3)) mq_191 ci_191 (List.mem_of_getElem? (i := 8) rfl)
theorem cd_191_15 : mt_cd 191 15 = some (.ifCond .eq 27) := mt_cd_of (q := (15, .ifCond .eq 27, 3)) mq_191 ci_191 (List.mem_of_getElem? (i := 9) rfl)
theorem cd_191_18 : mt_cd 191 18 = some (.iload_n 2) := mt_cd_of (q := (18, .iload_n 2, 1)) mq_191 ci_191 (List.mem_of_getElem? (i := 10) rfl)
theorem cd_191_19 : mt_cd 191 19 = some (.i2l) := mt_cd_of (q := (19, .i2l, 1)) mq_191 ci_191 (List.mem_of_getElem? (i := 11) rfl)
theorem cd_191_20 : mt_cd 191 20 = some (.lconst 0) := mt_cd_of (q := (20, .lconst 0, 1)) mq_191 ci_191 (List.mem_of_getElem? (i := 12) rfl)
theorem cd_191_21 : mt_cd 191 21 = some (.ldc2_w 542) := mt_cd_of (q := (21, .ldc2_w 542, 3)) mq_191 ci_191 (List.mem_of_getElem? (i := 13) rfl)
theorem cd_191_24 : mt_cd 191 24 = some (.invokestatic 268) := mt_cd_of (q := (24, .invokestatic 268, 3)) mq_191 ci_191 (List.mem_of_getElem? (i := 14) rfl)
theorem cd_191_27 : mt_cd 191 27 = some (.ifCond .eq 15) := mt_cd_of (q := (27, .ifCond .eq 15, 3)) mq_191 ci_191 (List.mem_of_getElem? (i := 15) rfl)
theorem cd_191_30 : mt_cd 191 30 = some (.iload_n 3) := mt_cd_of (q := (30, .iload_n 3, 1)) mq_191 ci_191 (List.mem_of_getElem? (i := 16) rfl)
theorem cd_191_31 : mt_cd 191 31 = some (.i2l) := mt_cd_of (q := (31, .i2l, 1)) mq_191 ci_191 (List.mem_of_getElem? (i := 17) rfl)
theorem cd_191_32 : mt_cd 191 32 = some (.lconst 0) := mt_cd_of (q := (32, .lconst 0, 1)) mq_191 ci_191 (List.mem_of_getElem? (i := 18) rfl)
theorem cd_191_33 : mt_cd 191 33 = some (.ldc2_w 544) := mt_cd_of (q := (33, .ldc2_w 544, 3)) mq_191 ci_191 (List.mem_of_getElem? (i := 19) rfl)
theorem cd_191_36 : mt_cd 191 36 = some (.invokestatic 268) := mt_cd_of (q := (36, .invokestatic 268, 3)) mq_191 ci_191 (List.mem_of_getElem? (i := 20) rfl)
theorem cd_191_39 : mt_cd 191 39 = some (.ifCond .ne 7) := mt_cd_of (q := (39, .ifCond .ne 7, 3)) mq_191 ci_191 (List.mem_of_getElem? (i := 21) rfl)
theorem cd_191_42 : mt_cd 191 42 = some (.iconst 1) := mt_cd_of (q := (42, .iconst 1, 1)) mq_191 ci_191 (List.mem_of_getElem? (i := 22) rfl)
theorem cd_191_43 : mt_cd 191 43 = some (.goto 4) := mt_cd_of (q := (43, .goto 4, 3)) mq_191 ci_191 (List.mem_of_getElem? (i := 23) rfl)
theorem cd_191_46 : mt_cd 191 46 = some (.iconst 0) := mt_cd_of (q := (46, .iconst 0, 1)) mq_191 ci_191 (List.mem_of_getElem? (i := 24) rfl)
theorem cd_191_47 : mt_cd 191 47 = some (.iconst 1) := mt_cd_of (q := (47, .iconst 1, 1)) mq_191 ci_191 (List.mem_of_getElem? (i := 25) rfl)
theorem cd_191_48 : mt_cd 191 48 = some (.invokevirtual 254) := mt_cd_of (q := (48, .invokevirtual 254, 3)) mq_191 ci_191 (List.mem_of_getElem? (i := 26) rfl)
theorem cd_191_51 : mt_cd 191 51 = some (.ifCond .ne 28) := mt_cd_of (q := (51, .ifCond .ne 28, 3)) mq_191 ci_191 (List.mem_of_getElem? (i := 27) rfl)
theorem cd_191_54 : mt_cd 191 54 = some (.aload_n 0) := mt_cd_of (q := (54, .aload_n 0, 1)) mq_191 ci_191 (List.mem_of_getElem? (i := 28) rfl)
theorem cd_191_55 : mt_cd 191 55 = some (.iload_n 1) := mt_cd_of (q := (55, .iload_n 1, 1)) mq_191 ci_191 (List.mem_of_getElem? (i := 29) rfl)
theorem cd_191_56 : mt_cd 191 56 = some (.iconst 1) := mt_cd_of (q := (56, .iconst 1, 1)) mq_191 ci_191 (List.mem_of_getElem? (i := 30) rfl)
theorem cd_191_57 : mt_cd 191 57 = some (.if_icmp .eq 14) := mt_cd_of (q := (57, .if_icmp .eq 14, 3)) mq_191 ci_191 (List.mem_of_getElem? (i := 31) rfl)
theorem cd_191_60 : mt_cd 191 60 = some (.aload_n 0) := mt_cd_of (q := (60, .aload_n 0, 1)) mq_191 ci_191 (List.mem_of_getElem? (i := 32) rfl)
theorem cd_191_61 : mt_cd 191 61 = some (.getfield 13) := mt_cd_of (q := (61, .getfield 13, 3)) mq_191 ci_191 (List.mem_of_getElem? (i := 33) rfl)
theorem cd_191_64 : mt_cd 191 64 = some (.ifCond .ge 7) := mt_cd_of (q := (64, .ifCond .ge 7, 3)) mq_191 ci_191 (List.mem_of_getElem? (i := 34) rfl)
theorem cd_191_67 : mt_cd 191 67 = some (.iconst 1) := mt_cd_of (q := (67, .iconst 1, 1)) mq_191 ci_191 (List.mem_of_getElem? (i := 35) rfl)
theorem cd_191_68 : mt_cd 191 68 = some (.goto 4) := mt_cd_of (q := (68, .goto 4, 3)) mq_191 ci_191 (List.mem_of_getElem? (i := 36) rfl)
theorem cd_191_71 : mt_cd 191 71 = some (.iconst 0) := mt_cd_of (q := (71, .iconst 0, 1)) mq_191 ci_191 (List.mem_of_getElem? (i := 37) rfl)
theorem cd_191_72 : mt_cd 191 72 = some (.iconst 2) := mt_cd_of (q := (72, .iconst 2, 1)) mq_191 ci_191 (List.mem_of_getElem? (i := 38) rfl)
theorem cd_191_73 : mt_cd 191 73 = some (.invokevirtual 254) := mt_cd_of (q := (73, .invokevirtual 254, 3)) mq_191 ci_191 (List.mem_of_getElem? (i := 39) rfl)
theorem cd_191_76 : mt_cd 191 76 = some (.ifCond .eq 5) := mt_cd_of (q := (76, .ifCond .eq 5, 3)) mq_191 ci_191 (List.mem_of_getElem? (i := 40) rfl)
theorem cd_191_79 : mt_cd 191 79 = some (.lconst 0) := mt_cd_of (q := (79, .lconst 0, 1)) mq_191 ci_191 (List.mem_of_getElem? (i := 41) rfl)
theorem cd_191_80 : mt_cd 191 80 = some (.lreturn) := mt_cd_of (q := (80, .lreturn, 1)) mq_191 ci_191 (List.mem_of_getElem? (i := 42) rfl)
theorem cd_191_81 : mt_cd 191 81 = some (.iload_n 1) := mt_cd_of (q := (81, .iload_n 1, 1)) mq_191 ci_191 (List.mem_of_getElem? (i := 43) rfl)
theorem cd_191_82 : mt_cd 191 82 = some (.tableswitch 107 0 3 #[30, 44, 55, 81]) := mt_cd_of (q := (82, .tableswitch 107 0 3 #[30, 44, 55, 81], 30)) mq_191 ci_191 (List.mem_of_getElem? (i := 44) rfl)
theorem cd_191_112 : mt_cd 191 112 = some (.aload_n 0) := mt_cd_of (q := (112, .aload_n 0, 1)) mq_191 ci_191 (List.mem_of_getElem? (i := 45) rfl)
theorem cd_191_113 : mt_cd 191 113 = some (.getfield 147) := mt_cd_of (q := (113, .getfield 147, 3)) mq_191 ci_191 (List.mem_of_getElem? (i := 46) rfl)
theorem cd_191_116 : mt_cd 191 116 = some (.getfield 448) := mt_cd_of (q := (116, .getfield 448, 3)) mq_191 ci_191 (List.mem_of_getElem? (i := 47) rfl)
theorem cd_191_119 : mt_cd 191 119 = some (.iconst 4) := mt_cd_of (q := (119, .iconst 4, 1)) mq_191 ci_191 (List.mem_of_getElem? (i := 48) rfl)
theorem cd_191_120 : mt_cd 191 120 = some (.iload_n 2) := mt_cd_of (q := (120, .iload_n 2, 1)) mq_191 ci_191 (List.mem_of_getElem? (i := 49) rfl)
theorem cd_191_121 : mt_cd 191 121 = some (.imul) := mt_cd_of (q := (121, .imul, 1)) mq_191 ci_191 (List.mem_of_getElem? (i := 50) rfl)
theorem cd_191_122 : mt_cd 191 122 = some (.iload_n 3) := mt_cd_of (q := (122, .iload_n 3, 1)) mq_191 ci_191 (List.mem_of_getElem? (i := 51) rfl)
theorem cd_191_123 : mt_cd 191 123 = some (.iadd) := mt_cd_of (q := (123, .iadd, 1)) mq_191 ci_191 (List.mem_of_getElem? (i := 52) rfl)
theorem cd_191_124 : mt_cd 191 124 = some (.laload) := mt_cd_of (q := (124, .laload, 1)) mq_191 ci_191 (List.mem_of_getElem? (i := 53) rfl)
theorem cd_191_125 : mt_cd 191 125 = some (.lreturn) := mt_cd_of (q := (125, .lreturn, 1)) mq_191 ci_191 (List.mem_of_getElem? (i := 54) rfl)
theorem cd_191_126 : mt_cd 191 126 = some (.aload_n 0) := mt_cd_of (q := (126, .aload_n 0, 1)) mq_191 ci_191 (List.mem_of_getElem? (i := 55) rfl)
theorem cd_191_127 : mt_cd 191 127 = some (.getfield 175) := mt_cd_of (q := (127, .getfield 175, 3)) mq_191 ci_191 (List.mem_of_getElem? (i := 56) rfl)
theorem cd_191_130 : mt_cd 191 130 = some (.iconst 4) := mt_cd_of (q := (130, .iconst 4, 1)) mq_191 ci_191 (List.mem_of_getElem? (i := 57) rfl)
theorem cd_191_131 : mt_cd 191 131 = some (.iload_n 2) := mt_cd_of (q := (131, .iload_n 2, 1)) mq_191 ci_191 (List.mem_of_getElem? (i := 58) rfl)
theorem cd_191_132 : mt_cd 191 132 = some (.imul) := mt_cd_of (q := (132, .imul, 1)) mq_191 ci_191 (List.mem_of_getElem? (i := 59) rfl)
theorem cd_191_133 : mt_cd 191 133 = some (.iload_n 3) := mt_cd_of (q := (133, .iload_n 3, 1)) mq_191 ci_191 (List.mem_of_getElem? (i := 60) rfl)
theorem cd_191_134 : mt_cd 191 134 = some (.iadd) := mt_cd_of (q := (134, .iadd, 1)) mq_191 ci_191 (List.mem_of_getElem? (i := 61) rfl)
theorem cd_191_135 : mt_cd 191 135 = some (.laload) := mt_cd_of (q := (135, .laload, 1)) mq_191 ci_191 (List.mem_of_getElem? (i := 62) rfl)
theorem cd_191_136 : mt_cd 191 136 = some (.lreturn) := mt_cd_of (q := (136, .lreturn, 1)) mq_191 ci_191 (List.mem_of_getElem? (i := 63) rfl)
theorem cd_191_137 : mt_cd 191 137 = some (.aload_n 0) := mt_cd_of (q := (137, .aload_n 0, 1)) mq_191 ci_191 (List.mem_of_getElem? (i := 64) rfl)
theorem cd_191_138 : mt_cd 191 138 = some (.getfield 147) := mt_cd_of (q := (138, .getfield 147, 3)) mq_191 ci_191 (List.mem_of_getElem? (i := 65) rfl)
theorem cd_191_141 : mt_cd 191 141 = some (.getfield 459) := mt_cd_of (q := (141, .getfield 459, 3)) mq_191 ci_191 (List.mem_of_getElem? (i := 66) rfl)
theorem cd_191_144 : mt_cd 191 144 = some (.iload_n 2) := mt_cd_of (q := (144, .iload_n 2, 1)) mq_191 ci_191 (List.mem_of_getElem? (i := 67) rfl)
theorem cd_191_145 : mt_cd 191 145 = some (.baload) := mt_cd_of (q := (145, .baload, 1)) mq_191 ci_191 (List.mem_of_getElem? (i := 68) rfl)
theorem cd_191_146 : mt_cd 191 146 = some (.ifCond .eq 15) := mt_cd_of (q := (146, .ifCond .eq 15, 3)) mq_191 ci_191 (List.mem_of_getElem? (i := 69) rfl)
theorem cd_191_149 : mt_cd 191 149 = some (.aload_n 0) := mt_cd_of (q := (149, .aload_n 0, 1)) mq_191 ci_191 (List.mem_of_getElem? (i := 70) rfl)
theorem cd_191_150 : mt_cd 191 150 = some (.getfield 147) := mt_cd_of (q := (150, .getfield 147, 3)) mq_191 ci_191 (List.mem_of_getElem? (i := 71) rfl)
theorem cd_191_153 : mt_cd 191 153 = some (.getfield 463) := mt_cd_of (q := (153, .getfield 463, 3)) mq_191 ci_191 (List.mem_of_getElem? (i := 72) rfl)
theorem cd_191_156 : mt_cd 191 156 = some (.iload_n 2) := mt_cd_of (q := (156, .iload_n 2, 1)) mq_191 ci_191 (List.mem_of_getElem? (i := 73) rfl)
theorem cd_191_157 : mt_cd 191 157 = some (.laload) := mt_cd_of (q := (157, .laload, 1)) mq_191 ci_191 (List.mem_of_getElem? (i := 74) rfl)
theorem cd_191_158 : mt_cd 191 158 = some (.goto 4) := mt_cd_of (q := (158, .goto 4, 3)) mq_191 ci_191 (List.mem_of_getElem? (i := 75) rfl)
theorem cd_191_161 : mt_cd 191 161 = some (.lconst 0) := mt_cd_of (q := (161, .lconst 0, 1)) mq_191 ci_191 (List.mem_of_getElem? (i := 76) rfl)
theorem cd_191_162 : mt_cd 191 162 = some (.lreturn) := mt_cd_of (q := (162, .lreturn, 1)) mq_191 ci_191 (List.mem_of_getElem? (i := 77) rfl)
theorem cd_191_163 : mt_cd 191 163 = some (.aload_n 0) := mt_cd_of (q := (163, .aload_n 0, 1)) mq_191 ci_191 (List.mem_of_getElem? (i := 78) rfl)
theorem cd_191_164 : mt_cd 191 164 = some (.getfield 147) := mt_cd_of (q := (164, .getfield 147, 3)) mq_191 ci_191 (List.mem_of_getElem? (i := 79) rfl)
theorem cd_191_167 : mt_cd 191 167 = some (.getfield 465) := mt_cd_of (q := (167, .getfield 465, 3)) mq_191 ci_191 (List.mem_of_getElem? (i := 80) rfl)
theorem cd_191_170 : mt_cd 191 170 = some (.iload_n 2) := mt_cd_of (q := (170, .iload_n 2, 1)) mq_191 ci_191 (List.mem_of_getElem? (i := 81) rfl)
theorem cd_191_171 : mt_cd 191 171 = some (.baload) := mt_cd_of (q := (171, .baload, 1)) mq_191 ci_191 (List.mem_of_getElem? (i := 82) rfl)
theorem cd_191_172 : mt_cd 191 172 = some (.ifCond .eq 15) := mt_cd_of (q := (172, .ifCond .eq 15, 3)) mq_191 ci_191 (List.mem_of_getElem? (i := 83) rfl)
theorem cd_191_175 : mt_cd 191 175 = some (.aload_n 0) := mt_cd_of (q := (175, .aload_n 0, 1)) mq_191 ci_191 (List.mem_of_getElem? (i := 84) rfl)
theorem cd_191_176 : mt_cd 191 176 = some (.getfield 147) := mt_cd_of (q := (176, .getfield 147, 3)) mq_191 ci_191 (List.mem_of_getElem? (i := 85) rfl)
theorem cd_191_179 : mt_cd 191 179 = some (.getfield 468) := mt_cd_of (q := (179, .getfield 468, 3)) mq_191 ci_191 (List.mem_of_getElem? (i := 86) rfl)
theorem cd_191_182 : mt_cd 191 182 = some (.iload_n 2) := mt_cd_of (q := (182, .iload_n 2, 1)) mq_191 ci_191 (List.mem_of_getElem? (i := 87) rfl)
theorem cd_191_183 : mt_cd 191 183 = some (.laload) := mt_cd_of (q := (183, .laload, 1)) mq_191 ci_191 (List.mem_of_getElem? (i := 88) rfl)
theorem cd_191_184 : mt_cd 191 184 = some (.goto 4) := mt_cd_of (q := (184, .goto 4, 3)) mq_191 ci_191 (List.mem_of_getElem? (i := 89) rfl)
theorem cd_191_187 : mt_cd 191 187 = some (.lconst 0) := mt_cd_of (q := (187, .lconst 0, 1)) mq_191 ci_191 (List.mem_of_getElem? (i := 90) rfl)
theorem cd_191_188 : mt_cd 191 188 = some (.lreturn) := mt_cd_of (q := (188, .lreturn, 1)) mq_191 ci_191 (List.mem_of_getElem? (i := 91) rfl)
theorem cd_191_189 : mt_cd 191 189 = some (.aload_n 0) := mt_cd_of (q := (189, .aload_n 0, 1)) mq_191 ci_191 (List.mem_of_getElem? (i := 92) rfl)
theorem cd_191_190 : mt_cd 191 190 = some (.getfield 147) := mt_cd_of (q := (190, .getfield 147, 3)) mq_191 ci_191 (List.mem_of_getElem? (i := 93) rfl)
theorem cd_191_193 : mt_cd 191 193 = some (.getfield 516) := mt_cd_of (q := (193, .getfield 516, 3)) mq_191 ci_191 (List.mem_of_getElem? (i := 94) rfl)
theorem cd_191_196 : mt_cd 191 196 = some (.lreturn) := mt_cd_of (q := (196, .lreturn, 1)) mq_191 ci_191 (List.mem_of_getElem? (i := 95) rfl)
theorem b_191_0 {d : Nat} {Q : (Option Value ⊕ Nat) → mi_H → Prop} (n sl : Nat) (f : Nat → mi_C) {l1 : Nat} {l2 : Int32} {l3 : Int32} {l4 : Int32} {fs5 : List Value} (h6 : f l1 = .inr (12, fs5)) (h7 : l1 < n) (h8 : 0 < fs5.length) (h9 : mi_W d 140 0 (mi_en 6 [.long ((l2 : Int32).toInt64), .long 0, .long 4]) [] (n, sl, (va_up f l1 (.inr (12, fs5.set 0 (.int 0))))) (mi_Kc d 191 12 [some (.ref l1), some (.int l2), some (.int l3), some (.int l4)] [.ref l1] Q)) : mi_W (d + 1) 191 0 [some (.ref l1), some (.int l2), some (.int l3), some (.int l4)] [] (n, sl, f) Q := by
  refine w_aload_n cd_191_0 rfl ?_
  refine w_iconst (v := 0) cd_191_1 (by decide) ?_
  refine w_putfield (w := .int 0) cd_191_2 (show mt_f 12 248 = some (12, 0) by decide +kernel) h6 h7 ⟨h8, rfl, Or.inl (by decide)⟩ ?_
  refine w_aload_n cd_191_5 rfl ?_
  refine w_iload_n cd_191_6 rfl ?_
  refine w_i2l cd_191_7 ?_
  refine w_lconst (lv := 0) cd_191_8 (by decide) ?_
  refine w_ldc2_w (lv := 4) cd_191_9 (by decide +kernel) ?_
  exact w_invokestatic cd_191_12 (show mt_m 12 268 = some (140, 4) by decide +kernel) (by decide) (rest := [.ref l1]) rfl (as := [.long ((l2 : Int32).toInt64), .long 0, .long 4]) rfl ⟨Nat.le_of_ble_eq_true rfl, Nat.le_of_ble_eq_true rfl, Nat.le_of_ble_eq_true rfl⟩ h9
theorem b_191_15 {d : Nat} {Q : (Option Value ⊕ Nat) → mi_H → Prop} (n sl : Nat) (f : Nat → mi_C) {l1 : Nat} {l2 : Int32} {l3 : Int32} {l4 : Int32} {s5 : Int32} {s6 : Nat} (h7 : s5 = (0 : Int32) → mi_W d 191 42 [some (.ref l1), some (.int l2), some (.int l3), some (.int l4)] [.ref s6] (n, sl, f) Q) (h8 : ¬ (s5 = (0 : Int32)) → mi_W d 191 18 [some (.ref l1), some (.int l2), some (.int l3), some (.int l4)] [.ref s6] (n, sl, f) Q) : mi_W d 191 15 [some (.ref l1), some (.int l2), some (.int l3), some (.int l4)] [.int s5, .ref s6] (n, sl, f) Q := by
  exact w_ifeq cd_191_15 (by decide) h7 h8
theorem b_191_18 {d : Nat} {Q : (Option Value ⊕ Nat) → mi_H → Prop} (n sl : Nat) (f : Nat → mi_C) {l1 : Nat} {l2 : Int32} {l3 : Int32} {l4 : Int32} {s5 : Nat} (h6 : mi_W d 140 0 (mi_en 6 [.long ((l3 : Int32).toInt64), .long 0, .long 7]) [] (n, sl, f) (mi_Kc d 191 24 [some (.ref l1), some (.int l2), some (.int l3), some (.int l4)] [.ref s5] Q)) : mi_W (d + 1) 191 18 [some (.ref l1), some (.int l2), some (.int l3), some (.int l4)] [.ref s5] (n, sl, f) Q := by
  refine w_iload_n cd_191_18 rfl ?_
  refine w_i2l cd_191_19 ?_
  refine w_lconst (lv := 0) cd_191_20 (by decide) ?_
  refine w_ldc2_w (lv := 7) cd_191_21 (by decide +kernel) ?_
  exact w_invokestatic cd_191_24 (show mt_m 12 268 = some (140, 4) by decide +kernel) (by decide) (rest := [.ref s5]) rfl (as := [.long ((l3 : Int32).toInt64), .long 0, .long 7]) rfl ⟨Nat.le_of_ble_eq_true rfl, Nat.le_of_ble_eq_true rfl, Nat.le_of_ble_eq_true rfl⟩ h6
theorem b_191_27 {d : Nat} {Q : (Option Value ⊕ Nat) → mi_H → Prop} (n sl : Nat) (f : Nat → mi_C) {l1 : Nat} {l2 : Int32} {l3 : Int32} {l4 : Int32} {s5 : Int32} {s6 : Nat} (h7 : s5 = (0 : Int32) → mi_W d 191 42 [some (.ref l1), some (.int l2), some (.int l3), some (.int l4)] [.ref s6] (n, sl, f) Q) (h8 : ¬ (s5 = (0 : Int32)) → mi_W d 191 30 [some (.ref l1), some (.int l2), some (.int l3), some (.int l4)] [.ref s6] (n, sl, f) Q) : mi_W d 191 27 [some (.ref l1), some (.int l2), some (.int l3), some (.int l4)] [.int s5, .ref s6] (n, sl, f) Q := by
  exact w_ifeq cd_191_27 (by decide) h7 h8
theorem b_191_30 {d : Nat} {Q : (Option Value ⊕ Nat) → mi_H → Prop} (n sl : Nat) (f : Nat → mi_C) {l1 : Nat} {l2 : Int32} {l3 : Int32} {l4 : Int32} {s5 : Nat} (h6 : mi_W d 140 0 (mi_en 6 [.long ((l4 : Int32).toInt64), .long 0, .long 3]) [] (n, sl, f) (mi_Kc d 191 36 [some (.ref l1), some (.int l2), some (.int l3), some (.int l4)] [.ref s5] Q)) : mi_W (d + 1) 191 30 [some (.ref l1), some (.int l2), some (.int l3), some (.int l4)] [.ref s5] (n, sl, f) Q := by
  refine w_iload_n cd_191_30 rfl ?_
  refine w_i2l cd_191_31 ?_
  refine w_lconst (lv := 0) cd_191_32 (by decide) ?_
  refine w_ldc2_w (lv := 3) cd_191_33 (by decide +kernel) ?_
  exact w_invokestatic cd_191_36 (show mt_m 12 268 = some (140, 4) by decide +kernel) (by decide) (rest := [.ref s5]) rfl (as := [.long ((l4 : Int32).toInt64), .long 0, .long 3]) rfl ⟨Nat.le_of_ble_eq_true rfl, Nat.le_of_ble_eq_true rfl, Nat.le_of_ble_eq_true rfl⟩ h6
theorem b_191_39 {d : Nat} {Q : (Option Value ⊕ Nat) → mi_H → Prop} (n sl : Nat) (f : Nat → mi_C) {l1 : Nat} {l2 : Int32} {l3 : Int32} {l4 : Int32} {s5 : Int32} {s6 : Nat} (h7 : ¬ s5 = (0 : Int32) → mi_W d 191 46 [some (.ref l1), some (.int l2), some (.int l3), some (.int l4)] [.ref s6] (n, sl, f) Q) (h8 : ¬ (¬ s5 = (0 : Int32)) → mi_W d 191 42 [some (.ref l1), some (.int l2), some (.int l3), some (.int l4)] [.ref s6] (n, sl, f) Q) : mi_W d 191 39 [some (.ref l1), some (.int l2), some (.int l3), some (.int l4)] [.int s5, .ref s6] (n, sl, f) Q := by
  exact w_ifne cd_191_39 (by decide) h7 h8
theorem b_191_42 {d : Nat} {Q : (Option Value ⊕ Nat) → mi_H → Prop} (n sl : Nat) (f : Nat → mi_C) {l1 : Nat} {l2 : Int32} {l3 : Int32} {l4 : Int32} {s5 : Nat} (h6 : mi_W d 191 47 [some (.ref l1), some (.int l2), some (.int l3), some (.int l4)] [.int 1, .ref s5] (n, sl, f) Q) : mi_W d 191 42 [some (.ref l1), some (.int l2), some (.int l3), some (.int l4)] [.ref s5] (n, sl, f) Q := by
  refine w_iconst (v := 1) cd_191_42 (by decide) ?_
  exact w_goto cd_191_43 (by decide) h6
theorem b_191_46 {d : Nat} {Q : (Option Value ⊕ Nat) → mi_H → Prop} (n sl : Nat) (f : Nat → mi_C) {l1 : Nat} {l2 : Int32} {l3 : Int32} {l4 : Int32} {s5 : Nat} (h6 : mi_W d 191 47 [some (.ref l1), some (.int l2), some (.int l3), some (.int l4)] [.int 0, .ref s5] (n, sl, f) Q) : mi_W d 191 46 [some (.ref l1), some (.int l2), some (.int l3), some (.int l4)] [.ref s5] (n, sl, f) Q := by
  refine w_iconst (v := 0) cd_191_46 (by decide) ?_
  exact h6
theorem b_191_47 {d : Nat} {Q : (Option Value ⊕ Nat) → mi_H → Prop} (n sl : Nat) (f : Nat → mi_C) {l1 : Nat} {l2 : Int32} {l3 : Int32} {l4 : Int32} {s5 : Int32} {s6 : Nat} {fs7 : List Value} (h8 : f s6 = .inr (12, fs7)) (h9 : s6 < n) (h10 : mi_W d 138 0 (mi_en 3 [.ref s6, .int s5, .int 1]) [] (n, sl, f) (mi_Kc d 191 48 [some (.ref l1), some (.int l2), some (.int l3), some (.int l4)] [] Q)) : mi_W (d + 1) 191 47 [some (.ref l1), some (.int l2), some (.int l3), some (.int l4)] [.int s5, .ref s6] (n, sl, f) Q := by
  refine w_iconst (v := 1) cd_191_47 (by decide) ?_
  exact w_invokevirtual cd_191_48 (show mt_m 12 254 = some (138, 0) by decide +kernel) (rest := []) rfl (as := [.ref s6, .int s5, .int 1]) rfl h8 (Or.inl h9) ⟨Nat.le_of_ble_eq_true rfl, Nat.le_of_ble_eq_true rfl, Nat.le_of_ble_eq_true rfl⟩ h10
theorem b_191_51 {d : Nat} {Q : (Option Value ⊕ Nat) → mi_H → Prop} (n sl : Nat) (f : Nat → mi_C) {l1 : Nat} {l2 : Int32} {l3 : Int32} {l4 : Int32} {s5 : Int32} (h6 : ¬ s5 = (0 : Int32) → mi_W d 191 79 [some (.ref l1), some (.int l2), some (.int l3), some (.int l4)] [] (n, sl, f) Q) (h7 : ¬ (¬ s5 = (0 : Int32)) → mi_W d 191 54 [some (.ref l1), some (.int l2), some (.int l3), some (.int l4)] [] (n, sl, f) Q) : mi_W d 191 51 [some (.ref l1), some (.int l2), some (.int l3), some (.int l4)] [.int s5] (n, sl, f) Q := by
  exact w_ifne cd_191_51 (by decide) h6 h7
theorem b_191_54 {d : Nat} {Q : (Option Value ⊕ Nat) → mi_H → Prop} (n sl : Nat) (f : Nat → mi_C) {l1 : Nat} {l2 : Int32} {l3 : Int32} {l4 : Int32} (h5 : l2 = 1 → mi_W d 191 71 [some (.ref l1), some (.int l2), some (.int l3), some (.int l4)] [.ref l1] (n, sl, f) Q) (h6 : ¬ (l2 = 1) → mi_W d 191 60 [some (.ref l1), some (.int l2), some (.int l3), some (.int l4)] [.ref l1] (n, sl, f) Q) : mi_W d 191 54 [some (.ref l1), some (.int l2), some (.int l3), some (.int l4)] [] (n, sl, f) Q := by
  refine w_aload_n cd_191_54 rfl ?_
  refine w_iload_n cd_191_55 rfl ?_
  refine w_iconst (v := 1) cd_191_56 (by decide) ?_
  exact w_if_icmpeq cd_191_57 (by decide) h5 h6
theorem b_191_60 {d : Nat} {Q : (Option Value ⊕ Nat) → mi_H → Prop} (n sl : Nat) (f : Nat → mi_C) {l1 : Nat} {l2 : Int32} {l3 : Int32} {l4 : Int32} {s5 : Nat} {fs6 : List Value} {x9 : Int32} (h7 : f l1 = .inr (12, fs6)) (h8 : l1 < n) (h10 : fs6[4]? = some (.int x9)) (h11 : (0 : Int32) ≤ x9 → mi_W d 191 71 [some (.ref l1), some (.int l2), some (.int l3), some (.int l4)] [.ref s5] (n, sl, f) Q) (h12 : ¬ ((0 : Int32) ≤ x9) → mi_W d 191 67 [some (.ref l1), some (.int l2), some (.int l3), some (.int l4)] [.ref s5] (n, sl, f) Q) : mi_W d 191 60 [some (.ref l1), some (.int l2), some (.int l3), some (.int l4)] [.ref s5] (n, sl, f) Q := by
  refine w_aload_n cd_191_60 rfl ?_
  refine w_getfield cd_191_61 (show mt_f 12 13 = some (12, 4) by decide +kernel) h7 h8 h10 ?_
  exact w_ifge cd_191_64 (by decide) h11 h12
theorem b_191_67 {d : Nat} {Q : (Option Value ⊕ Nat) → mi_H → Prop} (n sl : Nat) (f : Nat → mi_C) {l1 : Nat} {l2 : Int32} {l3 : Int32} {l4 : Int32} {s5 : Nat} (h6 : mi_W d 191 72 [some (.ref l1), some (.int l2), some (.int l3), some (.int l4)] [.int 1, .ref s5] (n, sl, f) Q) : mi_W d 191 67 [some (.ref l1), some (.int l2), some (.int l3), some (.int l4)] [.ref s5] (n, sl, f) Q := by
  refine w_iconst (v := 1) cd_191_67 (by decide) ?_
  exact w_goto cd_191_68 (by decide) h6
theorem b_191_71 {d : Nat} {Q : (Option Value ⊕ Nat) → mi_H → Prop} (n sl : Nat) (f : Nat → mi_C) {l1 : Nat} {l2 : Int32} {l3 : Int32} {l4 : Int32} {s5 : Nat} (h6 : mi_W d 191 72 [some (.ref l1), some (.int l2), some (.int l3), some (.int l4)] [.int 0, .ref s5] (n, sl, f) Q) : mi_W d 191 71 [some (.ref l1), some (.int l2), some (.int l3), some (.int l4)] [.ref s5] (n, sl, f) Q := by
  refine w_iconst (v := 0) cd_191_71 (by decide) ?_
  exact h6
theorem b_191_72 {d : Nat} {Q : (Option Value ⊕ Nat) → mi_H → Prop} (n sl : Nat) (f : Nat → mi_C) {l1 : Nat} {l2 : Int32} {l3 : Int32} {l4 : Int32} {s5 : Int32} {s6 : Nat} {fs7 : List Value} (h8 : f s6 = .inr (12, fs7)) (h9 : s6 < n) (h10 : mi_W d 138 0 (mi_en 3 [.ref s6, .int s5, .int 2]) [] (n, sl, f) (mi_Kc d 191 73 [some (.ref l1), some (.int l2), some (.int l3), some (.int l4)] [] Q)) : mi_W (d + 1) 191 72 [some (.ref l1), some (.int l2), some (.int l3), some (.int l4)] [.int s5, .ref s6] (n, sl, f) Q := by
  refine w_iconst (v := 2) cd_191_72 (by decide) ?_
  exact w_invokevirtual cd_191_73 (show mt_m 12 254 = some (138, 0) by decide +kernel) (rest := []) rfl (as := [.ref s6, .int s5, .int 2]) rfl h8 (Or.inl h9) ⟨Nat.le_of_ble_eq_true rfl, Nat.le_of_ble_eq_true rfl, Nat.le_of_ble_eq_true rfl⟩ h10
theorem b_191_76 {d : Nat} {Q : (Option Value ⊕ Nat) → mi_H → Prop} (n sl : Nat) (f : Nat → mi_C) {l1 : Nat} {l2 : Int32} {l3 : Int32} {l4 : Int32} {s5 : Int32} (h6 : s5 = (0 : Int32) → mi_W d 191 81 [some (.ref l1), some (.int l2), some (.int l3), some (.int l4)] [] (n, sl, f) Q) (h7 : ¬ (s5 = (0 : Int32)) → mi_W d 191 79 [some (.ref l1), some (.int l2), some (.int l3), some (.int l4)] [] (n, sl, f) Q) : mi_W d 191 76 [some (.ref l1), some (.int l2), some (.int l3), some (.int l4)] [.int s5] (n, sl, f) Q := by
  exact w_ifeq cd_191_76 (by decide) h6 h7
theorem b_191_79 {d : Nat} {Q : (Option Value ⊕ Nat) → mi_H → Prop} (n sl : Nat) (f : Nat → mi_C) {l1 : Nat} {l2 : Int32} {l3 : Int32} {l4 : Int32} (h5 : Q (.inl (some (.long 0))) (n, sl, f)) : mi_W d 191 79 [some (.ref l1), some (.int l2), some (.int l3), some (.int l4)] [] (n, sl, f) Q := by
  refine w_lconst (lv := 0) cd_191_79 (by decide) ?_
  exact w_lreturn cd_191_80 (by decide +kernel) h5
theorem b_191_81 {d : Nat} {Q : (Option Value ⊕ Nat) → mi_H → Prop} (n sl : Nat) (f : Nat → mi_C) {l1 : Nat} {l2 : Int32} {l3 : Int32} {l4 : Int32} {t5 : Nat} (h6 : mi_ts 82 107 0 3 #[30, 44, 55, 81] (l2 : Int32).toInt = some t5) (h7 : mi_W d 191 t5 [some (.ref l1), some (.int l2), some (.int l3), some (.int l4)] [] (n, sl, f) Q) : mi_W d 191 81 [some (.ref l1), some (.int l2), some (.int l3), some (.int l4)] [] (n, sl, f) Q := by
  refine w_iload_n cd_191_81 rfl ?_
  exact w_tableswitch cd_191_82 h6 h7
theorem b_191_112 {d : Nat} {Q : (Option Value ⊕ Nat) → mi_H → Prop} (n sl : Nat) (f : Nat → mi_C) {l1 : Nat} {l2 : Int32} {l3 : Int32} {l4 : Int32} {fs5 : List Value} {x8 : Nat} {fs10 : List Value} {x13 : Nat} (m15 i15 : Nat) (g15 : Nat → Int64) (h6 : f l1 = .inr (12, fs5)) (h7 : l1 < n) (h9 : fs5[41]? = some (.ref x8)) (h11 : f x8 = .inr (13, fs10)) (h12 : x8 < n) (h14 : fs10[2]? = some (.ref x13)) (h16 : f x13 = .inl (3, m15, .inr (.inl g15))) (h17 : x13 < n) (h18 : mi_ix ((4 * l3) + l4) m15 i15) (h19 : Q (.inl (some (.long (g15 i15)))) (n, sl, f)) : mi_W d 191 112 [some (.ref l1), some (.int l2), some (.int l3), some (.int l4)] [] (n, sl, f) Q := by
  refine w_aload_n cd_191_112 rfl ?_
  refine w_getfield cd_191_113 (show mt_f 12 147 = some (12, 41) by decide +kernel) h6 h7 h9 ?_
  refine w_getfield cd_191_116 (show mt_f 12 448 = some (13, 2) by decide +kernel) h11 h12 h14 ?_
  refine w_iconst (v := 4) cd_191_119 (by decide) ?_
  refine w_iload_n cd_191_120 rfl ?_
  refine w_imul cd_191_121 ?_
  refine w_iload_n cd_191_122 rfl ?_
  refine w_iadd cd_191_123 ?_
  refine w_laload cd_191_124 h16 h17 h18 ?_
  exact w_lreturn cd_191_125 (by decide +kernel) h19
theorem b_191_126 {d : Nat} {Q : (Option Value ⊕ Nat) → mi_H → Prop} (n sl : Nat) (f : Nat → mi_C) {l1 : Nat} {l2 : Int32} {l3 : Int32} {l4 : Int32} {fs5 : List Value} {x8 : Nat} (m10 i10 : Nat) (g10 : Nat → Int64) (h6 : f l1 = .inr (12, fs5)) (h7 : l1 < n) (h9 : fs5[56]? = some (.ref x8)) (h11 : f x8 = .inl (3, m10, .inr (.inl g10))) (h12 : x8 < n) (h13 : mi_ix ((4 * l3) + l4) m10 i10) (h14 : Q (.inl (some (.long (g10 i10)))) (n, sl, f)) : mi_W d 191 126 [some (.ref l1), some (.int l2), some (.int l3), some (.int l4)] [] (n, sl, f) Q := by
  refine w_aload_n cd_191_126 rfl ?_
  refine w_getfield cd_191_127 (show mt_f 12 175 = some (12, 56) by decide +kernel) h6 h7 h9 ?_
  refine w_iconst (v := 4) cd_191_130 (by decide) ?_
  refine w_iload_n cd_191_131 rfl ?_
  refine w_imul cd_191_132 ?_
  refine w_iload_n cd_191_133 rfl ?_
  refine w_iadd cd_191_134 ?_
  refine w_laload cd_191_135 h11 h12 h13 ?_
  exact w_lreturn cd_191_136 (by decide +kernel) h14
theorem b_191_137 {d : Nat} {Q : (Option Value ⊕ Nat) → mi_H → Prop} (n sl : Nat) (f : Nat → mi_C) {l1 : Nat} {l2 : Int32} {l3 : Int32} {l4 : Int32} {fs5 : List Value} {x8 : Nat} {fs10 : List Value} {x13 : Nat} (m15 i15 : Nat) (g15 : Nat → Int32) (h6 : f l1 = .inr (12, fs5)) (h7 : l1 < n) (h9 : fs5[41]? = some (.ref x8)) (h11 : f x8 = .inr (13, fs10)) (h12 : x8 < n) (h14 : fs10[5]? = some (.ref x13)) (h16 : f x13 = .inl (2, m15, .inl g15)) (h17 : x13 < n) (h18 : mi_ix l3 m15 i15) (h19 : (g15 i15) = (0 : Int32) → mi_W d 191 161 [some (.ref l1), some (.int l2), some (.int l3), some (.int l4)] [] (n, sl, f) Q) (h20 : ¬ ((g15 i15) = (0 : Int32)) → mi_W d 191 149 [some (.ref l1), some (.int l2), some (.int l3), some (.int l4)] [] (n, sl, f) Q) : mi_W d 191 137 [some (.ref l1), some (.int l2), some (.int l3), some (.int l4)] [] (n, sl, f) Q := by
  refine w_aload_n cd_191_137 rfl ?_
  refine w_getfield cd_191_138 (show mt_f 12 147 = some (12, 41) by decide +kernel) h6 h7 h9 ?_
  refine w_getfield cd_191_141 (show mt_f 12 459 = some (13, 5) by decide +kernel) h11 h12 h14 ?_
  refine w_iload_n cd_191_144 rfl ?_
  refine w_baload2 cd_191_145 h16 h17 h18 ?_
  exact w_ifeq cd_191_146 (by decide) h19 h20
theorem b_191_149 {d : Nat} {Q : (Option Value ⊕ Nat) → mi_H → Prop} (n sl : Nat) (f : Nat → mi_C) {l1 : Nat} {l2 : Int32} {l3 : Int32} {l4 : Int32} {fs5 : List Value} {x8 : Nat} {fs10 : List Value} {x13 : Nat} (m15 i15 : Nat) (g15 : Nat → Int64) (h6 : f l1 = .inr (12, fs5)) (h7 : l1 < n) (h9 : fs5[41]? = some (.ref x8)) (h11 : f x8 = .inr (13, fs10)) (h12 : x8 < n) (h14 : fs10[3]? = some (.ref x13)) (h16 : f x13 = .inl (3, m15, .inr (.inl g15))) (h17 : x13 < n) (h18 : mi_ix l3 m15 i15) (h19 : mi_W d 191 162 [some (.ref l1), some (.int l2), some (.int l3), some (.int l4)] [.long (g15 i15)] (n, sl, f) Q) : mi_W d 191 149 [some (.ref l1), some (.int l2), some (.int l3), some (.int l4)] [] (n, sl, f) Q := by
  refine w_aload_n cd_191_149 rfl ?_
  refine w_getfield cd_191_150 (show mt_f 12 147 = some (12, 41) by decide +kernel) h6 h7 h9 ?_
  refine w_getfield cd_191_153 (show mt_f 12 463 = some (13, 3) by decide +kernel) h11 h12 h14 ?_
  refine w_iload_n cd_191_156 rfl ?_
  refine w_laload cd_191_157 h16 h17 h18 ?_
  exact w_goto cd_191_158 (by decide) h19
theorem b_191_161 {d : Nat} {Q : (Option Value ⊕ Nat) → mi_H → Prop} (n sl : Nat) (f : Nat → mi_C) {l1 : Nat} {l2 : Int32} {l3 : Int32} {l4 : Int32} (h5 : mi_W d 191 162 [some (.ref l1), some (.int l2), some (.int l3), some (.int l4)] [.long 0] (n, sl, f) Q) : mi_W d 191 161 [some (.ref l1), some (.int l2), some (.int l3), some (.int l4)] [] (n, sl, f) Q := by
  refine w_lconst (lv := 0) cd_191_161 (by decide) ?_
  exact h5
theorem b_191_162 {d : Nat} {Q : (Option Value ⊕ Nat) → mi_H → Prop} (n sl : Nat) (f : Nat → mi_C) {l1 : Nat} {l2 : Int32} {l3 : Int32} {l4 : Int32} {s5 : Int64} (h6 : Q (.inl (some (.long s5))) (n, sl, f)) : mi_W d 191 162 [some (.ref l1), some (.int l2), some (.int l3), some (.int l4)] [.long s5] (n, sl, f) Q := by
  exact w_lreturn cd_191_162 (by decide +kernel) h6
theorem b_191_163 {d : Nat} {Q : (Option Value ⊕ Nat) → mi_H → Prop} (n sl : Nat) (f : Nat → mi_C) {l1 : Nat} {l2 : Int32} {l3 : Int32} {l4 : Int32} {fs5 : List Value} {x8 : Nat} {fs10 : List Value} {x13 : Nat} (m15 i15 : Nat) (g15 : Nat → Int32) (h6 : f l1 = .inr (12, fs5)) (h7 : l1 < n) (h9 : fs5[41]? = some (.ref x8)) (h11 : f x8 = .inr (13, fs10)) (h12 : x8 < n) (h14 : fs10[6]? = some (.ref x13)) (h16 : f x13 = .inl (2, m15, .inl g15)) (h17 : x13 < n) (h18 : mi_ix l3 m15 i15) (h19 : (g15 i15) = (0 : Int32) → mi_W d 191 187 [some (.ref l1), some (.int l2), some (.int l3), some (.int l4)] [] (n, sl, f) Q) (h20 : ¬ ((g15 i15) = (0 : Int32)) → mi_W d 191 175 [some (.ref l1), some (.int l2), some (.int l3), some (.int l4)] [] (n, sl, f) Q) : mi_W d 191 163 [some (.ref l1), some (.int l2), some (.int l3), some (.int l4)] [] (n, sl, f) Q := by
  refine w_aload_n cd_191_163 rfl ?_
  refine w_getfield cd_191_164 (show mt_f 12 147 = some (12, 41) by decide +kernel) h6 h7 h9 ?_
  refine w_getfield cd_191_167 (show mt_f 12 465 = some (13, 6) by decide +kernel) h11 h12 h14 ?_
  refine w_iload_n cd_191_170 rfl ?_
  refine w_baload2 cd_191_171 h16 h17 h18 ?_
  exact w_ifeq cd_191_172 (by decide) h19 h20
theorem b_191_175 {d : Nat} {Q : (Option Value ⊕ Nat) → mi_H → Prop} (n sl : Nat) (f : Nat → mi_C) {l1 : Nat} {l2 : Int32} {l3 : Int32} {l4 : Int32} {fs5 : List Value} {x8 : Nat} {fs10 : List Value} {x13 : Nat} (m15 i15 : Nat) (g15 : Nat → Int64) (h6 : f l1 = .inr (12, fs5)) (h7 : l1 < n) (h9 : fs5[41]? = some (.ref x8)) (h11 : f x8 = .inr (13, fs10)) (h12 : x8 < n) (h14 : fs10[4]? = some (.ref x13)) (h16 : f x13 = .inl (3, m15, .inr (.inl g15))) (h17 : x13 < n) (h18 : mi_ix l3 m15 i15) (h19 : mi_W d 191 188 [some (.ref l1), some (.int l2), some (.int l3), some (.int l4)] [.long (g15 i15)] (n, sl, f) Q) : mi_W d 191 175 [some (.ref l1), some (.int l2), some (.int l3), some (.int l4)] [] (n, sl, f) Q := by
  refine w_aload_n cd_191_175 rfl ?_
  refine w_getfield cd_191_176 (show mt_f 12 147 = some (12, 41) by decide +kernel) h6 h7 h9 ?_
  refine w_getfield cd_191_179 (show mt_f 12 468 = some (13, 4) by decide +kernel) h11 h12 h14 ?_
  refine w_iload_n cd_191_182 rfl ?_
  refine w_laload cd_191_183 h16 h17 h18 ?_
  exact w_goto cd_191_184 (by decide) h19
theorem b_191_187 {d : Nat} {Q : (Option Value ⊕ Nat) → mi_H → Prop} (n sl : Nat) (f : Nat → mi_C) {l1 : Nat} {l2 : Int32} {l3 : Int32} {l4 : Int32} (h5 : mi_W d 191 188 [some (.ref l1), some (.int l2), some (.int l3), some (.int l4)] [.long 0] (n, sl, f) Q) : mi_W d 191 187 [some (.ref l1), some (.int l2), some (.int l3), some (.int l4)] [] (n, sl, f) Q := by
  refine w_lconst (lv := 0) cd_191_187 (by decide) ?_
  exact h5
theorem b_191_188 {d : Nat} {Q : (Option Value ⊕ Nat) → mi_H → Prop} (n sl : Nat) (f : Nat → mi_C) {l1 : Nat} {l2 : Int32} {l3 : Int32} {l4 : Int32} {s5 : Int64} (h6 : Q (.inl (some (.long s5))) (n, sl, f)) : mi_W d 191 188 [some (.ref l1), some (.int l2), some (.int l3), some (.int l4)] [.long s5] (n, sl, f) Q := by
  exact w_lreturn cd_191_188 (by decide +kernel) h6
theorem b_191_189 {d : Nat} {Q : (Option Value ⊕ Nat) → mi_H → Prop} (n sl : Nat) (f : Nat → mi_C) {l1 : Nat} {l2 : Int32} {l3 : Int32} {l4 : Int32} {fs5 : List Value} {x8 : Nat} {fs10 : List Value} {x13 : Int64} (h6 : f l1 = .inr (12, fs5)) (h7 : l1 < n) (h9 : fs5[41]? = some (.ref x8)) (h11 : f x8 = .inr (13, fs10)) (h12 : x8 < n) (h14 : fs10[1]? = some (.long x13)) (h15 : Q (.inl (some (.long x13))) (n, sl, f)) : mi_W d 191 189 [some (.ref l1), some (.int l2), some (.int l3), some (.int l4)] [] (n, sl, f) Q := by
  refine w_aload_n cd_191_189 rfl ?_
  refine w_getfield cd_191_190 (show mt_f 12 147 = some (12, 41) by decide +kernel) h6 h7 h9 ?_
  refine w_getfield cd_191_193 (show mt_f 12 516 = some (13, 1) by decide +kernel) h11 h12 h14 ?_
  exact w_lreturn cd_191_196 (by decide +kernel) h15
/-! MarloweHostModel.end(I)I -/
set_option maxRecDepth 100000 in
theorem mq_139 : mt_q 139 = my_139 := rfl
set_option maxRecDepth 100000 in
theorem ci_139 : mt_inc 0 my_139.cd = true := by decide +kernel
theorem cd_139_0 : mt_cd 139 0 = some (.aload_n 0) := mt_cd_of (q := (0, .aload_n 0, 1)) mq_139 ci_139 (List.mem_of_getElem? (i := 0) rfl)
theorem cd_139_1 : mt_cd 139 1 = some (.iconst 0) := mt_cd_of (q := (1, .iconst 0, 1)) mq_139 ci_139 (List.mem_of_getElem? (i := 1) rfl)
theorem cd_139_2 : mt_cd 139 2 = some (.putfield 248) := mt_cd_of (q := (2, .putfield 248, 3)) mq_139 ci_139 (List.mem_of_getElem? (i := 2) rfl)
theorem cd_139_5 : mt_cd 139 5 = some (.aload_n 0) := mt_cd_of (q := (5, .aload_n 0, 1)) mq_139 ci_139 (List.mem_of_getElem? (i := 3) rfl)
theorem cd_139_6 : mt_cd 139 6 = some (.iload_n 1) := mt_cd_of (q := (6, .iload_n 1, 1)) mq_139 ci_139 (List.mem_of_getElem? (i := 4) rfl)
theorem cd_139_7 : mt_cd 139 7 = some (.ifCond .lt 18) := mt_cd_of (q := (7, .ifCond .lt 18, 3)) mq_139 ci_139 (List.mem_of_getElem? (i := 5) rfl)
theorem cd_139_10 : mt_cd 139 10 = some (.iload_n 1) := mt_cd_of (q := (10, .iload_n 1, 1)) mq_139 ci_139 (List.mem_of_getElem? (i := 6) rfl)
theorem cd_139_11 : mt_cd 139 11 = some (.sipush 8192) := mt_cd_of (q := (11, .sipush 8192, 3)) mq_139 ci_139 (List.mem_of_getElem? (i := 7) rfl)
theorem cd_139_14 : mt_cd 139 14 = some (.if_icmp .gt 11) := mt_cd_of (q := (14, .if_icmp .gt 11, 3)) mq_139 ci_139 (List.mem_of_getElem? (i := 8) rfl)
theorem cd_139_17 : mt_cd 139 17 = some (.iload_n 1) := mt_cd_of (q := (17, .iload_n 1, 1)) mq_139 ci_139 (List.mem_of_getElem? (i := 9) rfl)
theorem cd_139_18 : mt_cd 139 18 = some (.aload_n 0) := mt_cd_of (q := (18, .aload_n 0, 1)) mq_139 ci_139 (List.mem_of_getElem? (i := 10) rfl)
theorem cd_139_19 : mt_cd 139 19 = some (.getfield 251) := mt_cd_of (q := (19, .getfield 251, 3)) mq_139 ci_139 (List.mem_of_getElem? (i := 11) rfl)
theorem cd_139_22 : mt_cd 139 22 = some (.if_icmp .le 7) := mt_cd_of (q := (22, .if_icmp .le 7, 3)) mq_139 ci_139 (List.mem_of_getElem? (i := 12) rfl)
theorem cd_139_25 : mt_cd 139 25 = some (.iconst 1) := mt_cd_of (q := (25, .iconst 1, 1)) mq_139 ci_139 (List.mem_of_getElem? (i := 13) rfl)
theorem cd_139_26 : mt_cd 139 26 = some (.goto 4) := mt_cd_of (q := (26, .goto 4, 3)) mq_139 ci_139 (List.mem_of_getElem? (i := 14) rfl)
theorem cd_139_29 : mt_cd 139 29 = some (.iconst 0) := mt_cd_of (q := (29, .iconst 0, 1)) mq_139 ci_139 (List.mem_of_getElem? (i := 15) rfl)
theorem cd_139_30 : mt_cd 139 30 = some (.iconst 1) := mt_cd_of (q := (30, .iconst 1, 1)) mq_139 ci_139 (List.mem_of_getElem? (i := 16) rfl)
theorem cd_139_31 : mt_cd 139 31 = some (.invokevirtual 254) := mt_cd_of (q := (31, .invokevirtual 254, 3)) mq_139 ci_139 (List.mem_of_getElem? (i := 17) rfl)
theorem cd_139_34 : mt_cd 139 34 = some (.ifCond .eq 5) := mt_cd_of (q := (34, .ifCond .eq 5, 3)) mq_139 ci_139 (List.mem_of_getElem? (i := 18) rfl)
theorem cd_139_37 : mt_cd 139 37 = some (.iconst 0) := mt_cd_of (q := (37, .iconst 0, 1)) mq_139 ci_139 (List.mem_of_getElem? (i := 19) rfl)
theorem cd_139_38 : mt_cd 139 38 = some (.ireturn) := mt_cd_of (q := (38, .ireturn, 1)) mq_139 ci_139 (List.mem_of_getElem? (i := 20) rfl)
theorem cd_139_39 : mt_cd 139 39 = some (.aload_n 0) := mt_cd_of (q := (39, .aload_n 0, 1)) mq_139 ci_139 (List.mem_of_getElem? (i := 21) rfl)
theorem cd_139_40 : mt_cd 139 40 = some (.iconst 0) := mt_cd_of (q := (40, .iconst 0, 1)) mq_139 ci_139 (List.mem_of_getElem? (i := 22) rfl)
theorem cd_139_41 : mt_cd 139 41 = some (.putfield 251) := mt_cd_of (q := (41, .putfield 251, 3)) mq_139 ci_139 (List.mem_of_getElem? (i := 23) rfl)
theorem cd_139_44 : mt_cd 139 44 = some (.aload_n 0) := mt_cd_of (q := (44, .aload_n 0, 1)) mq_139 ci_139 (List.mem_of_getElem? (i := 24) rfl)
theorem cd_139_45 : mt_cd 139 45 = some (.iconst (-1)) := mt_cd_of (q := (45, .iconst (-1), 1)) mq_139 ci_139 (List.mem_of_getElem? (i := 25) rfl)
theorem cd_139_46 : mt_cd 139 46 = some (.putfield 7) := mt_cd_of (q := (46, .putfield 7, 3)) mq_139 ci_139 (List.mem_of_getElem? (i := 26) rfl)
theorem cd_139_49 : mt_cd 139 49 = some (.aload_n 0) := mt_cd_of (q := (49, .aload_n 0, 1)) mq_139 ci_139 (List.mem_of_getElem? (i := 27) rfl)
theorem cd_139_50 : mt_cd 139 50 = some (.iconst (-1)) := mt_cd_of (q := (50, .iconst (-1), 1)) mq_139 ci_139 (List.mem_of_getElem? (i := 28) rfl)
theorem cd_139_51 : mt_cd 139 51 = some (.putfield 13) := mt_cd_of (q := (51, .putfield 13, 3)) mq_139 ci_139 (List.mem_of_getElem? (i := 29) rfl)
theorem cd_139_54 : mt_cd 139 54 = some (.aload_n 0) := mt_cd_of (q := (54, .aload_n 0, 1)) mq_139 ci_139 (List.mem_of_getElem? (i := 30) rfl)
theorem cd_139_55 : mt_cd 139 55 = some (.iconst 0) := mt_cd_of (q := (55, .iconst 0, 1)) mq_139 ci_139 (List.mem_of_getElem? (i := 31) rfl)
theorem cd_139_56 : mt_cd 139 56 = some (.putfield 258) := mt_cd_of (q := (56, .putfield 258, 3)) mq_139 ci_139 (List.mem_of_getElem? (i := 32) rfl)
theorem cd_139_59 : mt_cd 139 59 = some (.aload_n 0) := mt_cd_of (q := (59, .aload_n 0, 1)) mq_139 ci_139 (List.mem_of_getElem? (i := 33) rfl)
theorem cd_139_60 : mt_cd 139 60 = some (.iload_n 1) := mt_cd_of (q := (60, .iload_n 1, 1)) mq_139 ci_139 (List.mem_of_getElem? (i := 34) rfl)
theorem cd_139_61 : mt_cd 139 61 = some (.putfield 261) := mt_cd_of (q := (61, .putfield 261, 3)) mq_139 ci_139 (List.mem_of_getElem? (i := 35) rfl)
theorem cd_139_64 : mt_cd 139 64 = some (.iconst 0) := mt_cd_of (q := (64, .iconst 0, 1)) mq_139 ci_139 (List.mem_of_getElem? (i := 36) rfl)
theorem cd_139_65 : mt_cd 139 65 = some (.istore_n 2) := mt_cd_of (q := (65, .istore_n 2, 1)) mq_139 ci_139 (List.mem_of_getElem? (i := 37) rfl)
theorem cd_139_66 : mt_cd 139 66 = some (.iload_n 2) := mt_cd_of (q := (66, .iload_n 2, 1)) mq_139 ci_139 (List.mem_of_getElem? (i := 38) rfl)
theorem cd_139_67 : mt_cd 139 67 = some (.iload_n 1) := mt_cd_of (q := (67, .iload_n 1, 1)) mq_139 ci_139 (List.mem_of_getElem? (i := 39) rfl)
theorem cd_139_68 : mt_cd 139 68 = some (.if_icmp .ge 57) := mt_cd_of (q := (68, .if_icmp .ge 57, 3)) mq_139 ci_139 (List.mem_of_getElem? (i := 40) rfl)
theorem cd_139_71 : mt_cd 139 71 = some (.aload_n 0) := mt_cd_of (q := (71, .aload_n 0, 1)) mq_139 ci_139 (List.mem_of_getElem? (i := 41) rfl)
theorem cd_139_72 : mt_cd 139 72 = some (.getfield 20) := mt_cd_of (q := (72, .getfield 20, 3)) mq_139 ci_139 (List.mem_of_getElem? (i := 42) rfl)
theorem cd_139_75 : mt_cd 139 75 = some (.iload_n 2) := mt_cd_of (q := (75, .iload_n 2, 1)) mq_139 ci_139 (List.mem_of_getElem? (i := 43) rfl)
theorem cd_139_76 : mt_cd 139 76 = some (.aload_n 0) := mt_cd_of (q := (76, .aload_n 0, 1)) mq_139 ci_139 (List.mem_of_getElem? (i := 44) rfl)
theorem cd_139_77 : mt_cd 139 77 = some (.getfield 16) := mt_cd_of (q := (77, .getfield 16, 3)) mq_139 ci_139 (List.mem_of_getElem? (i := 45) rfl)
theorem cd_139_80 : mt_cd 139 80 = some (.iload_n 2) := mt_cd_of (q := (80, .iload_n 2, 1)) mq_139 ci_139 (List.mem_of_getElem? (i := 46) rfl)
theorem cd_139_81 : mt_cd 139 81 = some (.iaload) := mt_cd_of (q := (81, .iaload, 1)) mq_139 ci_139 (List.mem_of_getElem? (i := 47) rfl)
theorem cd_139_82 : mt_cd 139 82 = some (.iastore) := mt_cd_of (q := (82, .iastore, 1)) mq_139 ci_139 (List.mem_of_getElem? (i := 48) rfl)
theorem cd_139_83 : mt_cd 139 83 = some (.aload_n 0) := mt_cd_of (q := (83, .aload_n 0, 1)) mq_139 ci_139 (List.mem_of_getElem? (i := 49) rfl)
theorem cd_139_84 : mt_cd 139 84 = some (.getfield 20) := mt_cd_of (q := (84, .getfield 20, 3)) mq_139 ci_139 (List.mem_of_getElem? (i := 50) rfl)
theorem cd_139_87 : mt_cd 139 87 = some (.iload_n 2) := mt_cd_of (q := (87, .iload_n 2, 1)) mq_139 ci_139 (List.mem_of_getElem? (i := 51) rfl)
theorem cd_139_88 : mt_cd 139 88 = some (.iaload) := mt_cd_of (q := (88, .iaload, 1)) mq_139 ci_139 (List.mem_of_getElem? (i := 52) rfl)
theorem cd_139_89 : mt_cd 139 89 = some (.bipush 10) := mt_cd_of (q := (89, .bipush 10, 2)) mq_139 ci_139 (List.mem_of_getElem? (i := 53) rfl)
theorem cd_139_91 : mt_cd 139 91 = some (.if_icmp .eq 28) := mt_cd_of (q := (91, .if_icmp .eq 28, 3)) mq_139 ci_139 (List.mem_of_getElem? (i := 54) rfl)
theorem cd_139_94 : mt_cd 139 94 = some (.aload_n 0) := mt_cd_of (q := (94, .aload_n 0, 1)) mq_139 ci_139 (List.mem_of_getElem? (i := 55) rfl)
theorem cd_139_95 : mt_cd 139 95 = some (.getfield 20) := mt_cd_of (q := (95, .getfield 20, 3)) mq_139 ci_139 (List.mem_of_getElem? (i := 56) rfl)
theorem cd_139_98 : mt_cd 139 98 = some (.iload_n 2) := mt_cd_of (q := (98, .iload_n 2, 1)) mq_139 ci_139 (List.mem_of_getElem? (i := 57) rfl)
theorem cd_139_99 : mt_cd 139 99 = some (.iaload) := mt_cd_of (q := (99, .iaload, 1)) mq_139 ci_139 (List.mem_of_getElem? (i := 58) rfl)
theorem cd_139_100 : mt_cd 139 100 = some (.i2l) := mt_cd_of (q := (100, .i2l, 1)) mq_139 ci_139 (List.mem_of_getElem? (i := 59) rfl)
theorem cd_139_101 : mt_cd 139 101 = some (.ldc2_w 264) := mt_cd_of (q := (101, .ldc2_w 264, 3)) mq_139 ci_139 (List.mem_of_getElem? (i := 60) rfl)
theorem cd_139_104 : mt_cd 139 104 = some (.ldc2_w 266) := mt_cd_of (q := (104, .ldc2_w 266, 3)) mq_139 ci_139 (List.mem_of_getElem? (i := 61) rfl)
theorem cd_139_107 : mt_cd 139 107 = some (.invokestatic 268) := mt_cd_of (q := (107, .invokestatic 268, 3)) mq_139 ci_139 (List.mem_of_getElem? (i := 62) rfl)
theorem cd_139_110 : mt_cd 139 110 = some (.ifCond .ne 9) := mt_cd_of (q := (110, .ifCond .ne 9, 3)) mq_139 ci_139 (List.mem_of_getElem? (i := 63) rfl)
theorem cd_139_113 : mt_cd 139 113 = some (.aload_n 0) := mt_cd_of (q := (113, .aload_n 0, 1)) mq_139 ci_139 (List.mem_of_getElem? (i := 64) rfl)
theorem cd_139_114 : mt_cd 139 114 = some (.iload_n 2) := mt_cd_of (q := (114, .iload_n 2, 1)) mq_139 ci_139 (List.mem_of_getElem? (i := 65) rfl)
theorem cd_139_115 : mt_cd 139 115 = some (.invokevirtual 272) := mt_cd_of (q := (115, .invokevirtual 272, 3)) mq_139 ci_139 (List.mem_of_getElem? (i := 66) rfl)
theorem cd_139_118 : mt_cd 139 118 = some (.pop) := mt_cd_of (q := (118, .pop, 1)) mq_139 ci_139 (List.mem_of_getElem? (i := 67) rfl)
theorem cd_139_119 : mt_cd 139 119 = some (.iinc 2 1) := mt_cd_of (q := (119, .iinc 2 1, 3)) mq_139 ci_139 (List.mem_of_getElem? (i := 68) rfl)
theorem cd_139_122 : mt_cd 139 122 = some (.goto (-56)) := mt_cd_of (q := (122, .goto (-56), 3)) mq_139 ci_139 (List.mem_of_getElem? (i := 69) rfl)
theorem cd_139_125 : mt_cd 139 125 = some (.aload_n 0) := mt_cd_of (q := (125, .aload_n 0, 1)) mq_139 ci_139 (List.mem_of_getElem? (i := 70) rfl)
theorem cd_139_126 : mt_cd 139 126 = some (.getfield 7) := mt_cd_of (q := (126, .getfield 7, 3)) mq_139 ci_139 (List.mem_of_getElem? (i := 71) rfl)
theorem cd_139_129 : mt_cd 139 129 = some (.ifCond .ge 7) := mt_cd_of (q := (129, .ifCond .ge 7, 3)) mq_139 ci_139 (List.mem_of_getElem? (i := 72) rfl)
theorem cd_139_132 : mt_cd 139 132 = some (.aload_n 0) := mt_cd_of (q := (132, .aload_n 0, 1)) mq_139 ci_139 (List.mem_of_getElem? (i := 73) rfl)
theorem cd_139_133 : mt_cd 139 133 = some (.invokevirtual 276) := mt_cd_of (q := (133, .invokevirtual 276, 3)) mq_139 ci_139 (List.mem_of_getElem? (i := 74) rfl)
theorem cd_139_136 : mt_cd 139 136 = some (.aload_n 0) := mt_cd_of (q := (136, .aload_n 0, 1)) mq_139 ci_139 (List.mem_of_getElem? (i := 75) rfl)
theorem cd_139_137 : mt_cd 139 137 = some (.aload_n 0) := mt_cd_of (q := (137, .aload_n 0, 1)) mq_139 ci_139 (List.mem_of_getElem? (i := 76) rfl)
theorem cd_139_138 : mt_cd 139 138 = some (.getfield 7) := mt_cd_of (q := (138, .getfield 7, 3)) mq_139 ci_139 (List.mem_of_getElem? (i := 77) rfl)
theorem cd_139_141 : mt_cd 139 141 = some (.ifCond .lt 7) := mt_cd_of (q := (141, .ifCond .lt 7, 3)) mq_139 ci_139 (List.mem_of_getElem? (i := 78) rfl)
theorem cd_139_144 : mt_cd 139 144 = some (.iconst 1) := mt_cd_of (q := (144, .iconst 1, 1)) mq_139 ci_139 (List.mem_of_getElem? (i := 79) rfl)
theorem cd_139_145 : mt_cd 139 145 = some (.goto 4) := mt_cd_of (q := (145, .goto 4, 3)) mq_139 ci_139 (List.mem_of_getElem? (i := 80) rfl)
theorem cd_139_148 : mt_cd 139 148 = some (.iconst 0) := mt_cd_of (q := (148, .iconst 0, 1)) mq_139 ci_139 (List.mem_of_getElem? (i := 81) rfl)
theorem cd_139_149 : mt_cd 139 149 = some (.iconst 2) := mt_cd_of (q := (149, .iconst 2, 1)) mq_139 ci_139 (List.mem_of_getElem? (i := 82) rfl)
theorem cd_139_150 : mt_cd 139 150 = some (.invokevirtual 254) := mt_cd_of (q := (150, .invokevirtual 254, 3)) mq_139 ci_139 (List.mem_of_getElem? (i := 83) rfl)
theorem cd_139_153 : mt_cd 139 153 = some (.ifCond .eq 5) := mt_cd_of (q := (153, .ifCond .eq 5, 3)) mq_139 ci_139 (List.mem_of_getElem? (i := 84) rfl)
theorem cd_139_156 : mt_cd 139 156 = some (.iconst 0) := mt_cd_of (q := (156, .iconst 0, 1)) mq_139 ci_139 (List.mem_of_getElem? (i := 85) rfl)
theorem cd_139_157 : mt_cd 139 157 = some (.ireturn) := mt_cd_of (q := (157, .ireturn, 1)) mq_139 ci_139 (List.mem_of_getElem? (i := 86) rfl)
theorem cd_139_158 : mt_cd 139 158 = some (.aload_n 0) := mt_cd_of (q := (158, .aload_n 0, 1)) mq_139 ci_139 (List.mem_of_getElem? (i := 87) rfl)
theorem cd_139_159 : mt_cd 139 159 = some (.iconst 0) := mt_cd_of (q := (159, .iconst 0, 1)) mq_139 ci_139 (List.mem_of_getElem? (i := 88) rfl)
theorem cd_139_160 : mt_cd 139 160 = some (.putfield 13) := mt_cd_of (q := (160, .putfield 13, 3)) mq_139 ci_139 (List.mem_of_getElem? (i := 89) rfl)
theorem cd_139_163 : mt_cd 139 163 = some (.aload_n 0) := mt_cd_of (q := (163, .aload_n 0, 1)) mq_139 ci_139 (List.mem_of_getElem? (i := 90) rfl)
theorem cd_139_164 : mt_cd 139 164 = some (.getfield 147) := mt_cd_of (q := (164, .getfield 147, 3)) mq_139 ci_139 (List.mem_of_getElem? (i := 91) rfl)
theorem cd_139_167 : mt_cd 139 167 = some (.invokevirtual 279) := mt_cd_of (q := (167, .invokevirtual 279, 3)) mq_139 ci_139 (List.mem_of_getElem? (i := 92) rfl)
theorem cd_139_170 : mt_cd 139 170 = some (.aload_n 0) := mt_cd_of (q := (170, .aload_n 0, 1)) mq_139 ci_139 (List.mem_of_getElem? (i := 93) rfl)
theorem cd_139_171 : mt_cd 139 171 = some (.getfield 282) := mt_cd_of (q := (171, .getfield 282, 3)) mq_139 ci_139 (List.mem_of_getElem? (i := 94) rfl)
theorem cd_139_174 : mt_cd 139 174 = some (.ireturn) := mt_cd_of (q := (174, .ireturn, 1)) mq_139 ci_139 (List.mem_of_getElem? (i := 95) rfl)
theorem b_139_0 {d : Nat} {Q : (Option Value ⊕ Nat) → mi_H → Prop} (n sl : Nat) (f : Nat → mi_C) {l1 : Nat} {l2 : Int32} {o3 : Option Value} {fs4 : List Value} (h5 : f l1 = .inr (12, fs4)) (h6 : l1 < n) (h7 : 0 < fs4.length) (h8 : l2 < (0 : Int32) → mi_W d 139 25 [some (.ref l1), some (.int l2), o3] [.ref l1] (n, sl, (va_up f l1 (.inr (12, fs4.set 0 (.int 0))))) Q) (h9 : ¬ (l2 < (0 : Int32)) → mi_W d 139 10 [some (.ref l1), some (.int l2), o3] [.ref l1] (n, sl, (va_up f l1 (.inr (12, fs4.set 0 (.int 0))))) Q) : mi_W d 139 0 [some (.ref l1), some (.int l2), o3] [] (n, sl, f) Q := by
  refine w_aload_n cd_139_0 rfl ?_
  refine w_iconst (v := 0) cd_139_1 (by decide) ?_
  refine w_putfield (w := .int 0) cd_139_2 (show mt_f 12 248 = some (12, 0) by decide +kernel) h5 h6 ⟨h7, rfl, Or.inl (by decide)⟩ ?_
  refine w_aload_n cd_139_5 rfl ?_
  refine w_iload_n cd_139_6 rfl ?_
  exact w_iflt cd_139_7 (by decide) h8 h9
theorem b_139_10 {d : Nat} {Q : (Option Value ⊕ Nat) → mi_H → Prop} (n sl : Nat) (f : Nat → mi_C) {l1 : Nat} {l2 : Int32} {o3 : Option Value} {s4 : Nat} (h5 : 8192 < l2 → mi_W d 139 25 [some (.ref l1), some (.int l2), o3] [.ref s4] (n, sl, f) Q) (h6 : ¬ (8192 < l2) → mi_W d 139 17 [some (.ref l1), some (.int l2), o3] [.ref s4] (n, sl, f) Q) : mi_W d 139 10 [some (.ref l1), some (.int l2), o3] [.ref s4] (n, sl, f) Q := by
  refine w_iload_n cd_139_10 rfl ?_
  refine w_sipush (v := 8192) cd_139_11 (by decide) ?_
  exact w_if_icmpgt cd_139_14 (by decide) h5 h6
theorem b_139_17 {d : Nat} {Q : (Option Value ⊕ Nat) → mi_H → Prop} (n sl : Nat) (f : Nat → mi_C) {l1 : Nat} {l2 : Int32} {o3 : Option Value} {s4 : Nat} {fs5 : List Value} {x8 : Int32} (h6 : f l1 = .inr (12, fs5)) (h7 : l1 < n) (h9 : fs5[1]? = some (.int x8)) (h10 : l2 ≤ x8 → mi_W d 139 29 [some (.ref l1), some (.int l2), o3] [.ref s4] (n, sl, f) Q) (h11 : ¬ (l2 ≤ x8) → mi_W d 139 25 [some (.ref l1), some (.int l2), o3] [.ref s4] (n, sl, f) Q) : mi_W d 139 17 [some (.ref l1), some (.int l2), o3] [.ref s4] (n, sl, f) Q := by
  refine w_iload_n cd_139_17 rfl ?_
  refine w_aload_n cd_139_18 rfl ?_
  refine w_getfield cd_139_19 (show mt_f 12 251 = some (12, 1) by decide +kernel) h6 h7 h9 ?_
  exact w_if_icmple cd_139_22 (by decide) h10 h11
theorem b_139_25 {d : Nat} {Q : (Option Value ⊕ Nat) → mi_H → Prop} (n sl : Nat) (f : Nat → mi_C) {l1 : Nat} {l2 : Int32} {o3 : Option Value} {s4 : Nat} (h5 : mi_W d 139 30 [some (.ref l1), some (.int l2), o3] [.int 1, .ref s4] (n, sl, f) Q) : mi_W d 139 25 [some (.ref l1), some (.int l2), o3] [.ref s4] (n, sl, f) Q := by
  refine w_iconst (v := 1) cd_139_25 (by decide) ?_
  exact w_goto cd_139_26 (by decide) h5
theorem b_139_29 {d : Nat} {Q : (Option Value ⊕ Nat) → mi_H → Prop} (n sl : Nat) (f : Nat → mi_C) {l1 : Nat} {l2 : Int32} {o3 : Option Value} {s4 : Nat} (h5 : mi_W d 139 30 [some (.ref l1), some (.int l2), o3] [.int 0, .ref s4] (n, sl, f) Q) : mi_W d 139 29 [some (.ref l1), some (.int l2), o3] [.ref s4] (n, sl, f) Q := by
  refine w_iconst (v := 0) cd_139_29 (by decide) ?_
  exact h5
theorem b_139_30 {d : Nat} {Q : (Option Value ⊕ Nat) → mi_H → Prop} (n sl : Nat) (f : Nat → mi_C) {l1 : Nat} {l2 : Int32} {o3 : Option Value} {s4 : Int32} {s5 : Nat} {fs6 : List Value} (h7 : f s5 = .inr (12, fs6)) (h8 : s5 < n) (h9 : mi_W d 138 0 (mi_en 3 [.ref s5, .int s4, .int 1]) [] (n, sl, f) (mi_Kc d 139 31 [some (.ref l1), some (.int l2), o3] [] Q)) : mi_W (d + 1) 139 30 [some (.ref l1), some (.int l2), o3] [.int s4, .ref s5] (n, sl, f) Q := by
  refine w_iconst (v := 1) cd_139_30 (by decide) ?_
  exact w_invokevirtual cd_139_31 (show mt_m 12 254 = some (138, 0) by decide +kernel) (rest := []) rfl (as := [.ref s5, .int s4, .int 1]) rfl h7 (Or.inl h8) ⟨Nat.le_of_ble_eq_true rfl, Nat.le_of_ble_eq_true rfl, Nat.le_of_ble_eq_true rfl⟩ h9
theorem b_139_34 {d : Nat} {Q : (Option Value ⊕ Nat) → mi_H → Prop} (n sl : Nat) (f : Nat → mi_C) {l1 : Nat} {l2 : Int32} {o3 : Option Value} {s4 : Int32} (h5 : s4 = (0 : Int32) → mi_W d 139 39 [some (.ref l1), some (.int l2), o3] [] (n, sl, f) Q) (h6 : ¬ (s4 = (0 : Int32)) → mi_W d 139 37 [some (.ref l1), some (.int l2), o3] [] (n, sl, f) Q) : mi_W d 139 34 [some (.ref l1), some (.int l2), o3] [.int s4] (n, sl, f) Q := by
  exact w_ifeq cd_139_34 (by decide) h5 h6
theorem b_139_37 {d : Nat} {Q : (Option Value ⊕ Nat) → mi_H → Prop} (n sl : Nat) (f : Nat → mi_C) {l1 : Nat} {l2 : Int32} {o3 : Option Value} (h4 : Q (.inl (some (.int 0))) (n, sl, f)) : mi_W d 139 37 [some (.ref l1), some (.int l2), o3] [] (n, sl, f) Q := by
  refine w_iconst (v := 0) cd_139_37 (by decide) ?_
  exact w_ireturn_i cd_139_38 (by decide +kernel) h4
theorem b_139_39 {d : Nat} {Q : (Option Value ⊕ Nat) → mi_H → Prop} (n sl : Nat) (f : Nat → mi_C) {l1 : Nat} {l2 : Int32} {o3 : Option Value} {fs4 : List Value} {fs8 : List Value} {fs12 : List Value} {fs16 : List Value} {fs20 : List Value} (h5 : f l1 = .inr (12, fs4)) (h6 : l1 < n) (h7 : 1 < fs4.length) (h9 : (va_up f l1 (.inr (12, fs4.set 1 (.int 0)))) l1 = .inr (12, fs8)) (h10 : l1 < n) (h11 : 3 < fs8.length) (h13 : (va_up (va_up f l1 (.inr (12, fs4.set 1 (.int 0)))) l1 (.inr (12, fs8.set 3 (.int (-1))))) l1 = .inr (12, fs12)) (h14 : l1 < n) (h15 : 4 < fs12.length) (h17 : (va_up (va_up (va_up f l1 (.inr (12, fs4.set 1 (.int 0)))) l1 (.inr (12, fs8.set 3 (.int (-1))))) l1 (.inr (12, fs12.set 4 (.int (-1))))) l1 = .inr (12, fs16)) (h18 : l1 < n) (h19 : 59 < fs16.length) (h21 : (va_up (va_up (va_up (va_up f l1 (.inr (12, fs4.set 1 (.int 0)))) l1 (.inr (12, fs8.set 3 (.int (-1))))) l1 (.inr (12, fs12.set 4 (.int (-1))))) l1 (.inr (12, fs16.set 59 (.int 0)))) l1 = .inr (12, fs20)) (h22 : l1 < n) (h23 : 2 < fs20.length) (h24 : mi_W d 139 66 [some (.ref l1), some (.int l2), some (.int 0)] [] (n, sl, (va_up (va_up (va_up (va_up (va_up f l1 (.inr (12, fs4.set 1 (.int 0)))) l1 (.inr (12, fs8.set 3 (.int (-1))))) l1 (.inr (12, fs12.set 4 (.int (-1))))) l1 (.inr (12, fs16.set 59 (.int 0)))) l1 (.inr (12, fs20.set 2 (.int l2))))) Q) : mi_W d 139 39 [some (.ref l1), some (.int l2), o3] [] (n, sl, f) Q := by
  refine w_aload_n cd_139_39 rfl ?_
  refine w_iconst (v := 0) cd_139_40 (by decide) ?_
  refine w_putfield (w := .int 0) cd_139_41 (show mt_f 12 251 = some (12, 1) by decide +kernel) h5 h6 ⟨h7, rfl, Or.inl (by decide)⟩ ?_
  refine w_aload_n cd_139_44 rfl ?_
  refine w_iconst (v := (-1)) cd_139_45 (by decide) ?_
  refine w_putfield (w := .int (-1)) cd_139_46 (show mt_f 12 7 = some (12, 3) by decide +kernel) h9 h10 ⟨h11, rfl, Or.inl (by decide)⟩ ?_
  refine w_aload_n cd_139_49 rfl ?_
  refine w_iconst (v := (-1)) cd_139_50 (by decide) ?_
  refine w_putfield (w := .int (-1)) cd_139_51 (show mt_f 12 13 = some (12, 4) by decide +kernel) h13 h14 ⟨h15, rfl, Or.inl (by decide)⟩ ?_
  refine w_aload_n cd_139_54 rfl ?_
  refine w_iconst (v := 0) cd_139_55 (by decide) ?_
  refine w_putfield (w := .int 0) cd_139_56 (show mt_f 12 258 = some (12, 59) by decide +kernel) h17 h18 ⟨h19, rfl, Or.inl (by decide)⟩ ?_
  refine w_aload_n cd_139_59 rfl ?_
  refine w_iload_n cd_139_60 rfl ?_
  refine w_putfield (w := .int l2) cd_139_61 (show mt_f 12 261 = some (12, 2) by decide +kernel) h21 h22 ⟨h23, rfl, Or.inl (by decide)⟩ ?_
  refine w_iconst (v := 0) cd_139_64 (by decide) ?_
  refine w_istore_n (ls' := [some (.ref l1), some (.int l2), some (.int 0)]) cd_139_65 (Nat.le_of_ble_eq_true rfl) rfl ?_
  exact h24
theorem b_139_66 {d : Nat} {Q : (Option Value ⊕ Nat) → mi_H → Prop} (n sl : Nat) (f : Nat → mi_C) {l1 : Nat} {l2 : Int32} {l3 : Int32} (h4 : l2 ≤ l3 → mi_W d 139 125 [some (.ref l1), some (.int l2), some (.int l3)] [] (n, sl, f) Q) (h5 : ¬ (l2 ≤ l3) → mi_W d 139 71 [some (.ref l1), some (.int l2), some (.int l3)] [] (n, sl, f) Q) : mi_W d 139 66 [some (.ref l1), some (.int l2), some (.int l3)] [] (n, sl, f) Q := by
  refine w_iload_n cd_139_66 rfl ?_
  refine w_iload_n cd_139_67 rfl ?_
  exact w_if_icmpge cd_139_68 (by decide) h4 h5
theorem b_139_71 {d : Nat} {Q : (Option Value ⊕ Nat) → mi_H → Prop} (n sl : Nat) (f : Nat → mi_C) {l1 : Nat} {l2 : Int32} {l3 : Int32} {fs4 : List Value} {x7 : Nat} {fs9 : List Value} {x12 : Nat} (m14 i14 : Nat) (g14 : Nat → Int32) (m18 i18 : Nat) (g18 : Nat → Int32) {fs22 : List Value} {x25 : Nat} (m27 i27 : Nat) (g27 : Nat → Int32) (h5 : f l1 = .inr (12, fs4)) (h6 : l1 < n) (h8 : fs4[6]? = some (.ref x7)) (h10 : f l1 = .inr (12, fs9)) (h11 : l1 < n) (h13 : fs9[5]? = some (.ref x12)) (h15 : f x12 = .inl (0, m14, .inl g14)) (h16 : x12 < n ∨ x12 = mi_SC) (h17 : mi_ix l3 m14 i14) (h19 : f x7 = .inl (0, m18, .inl g18)) (h20 : x7 < n) (h21 : mi_ix l3 m18 i18) (h23 : (va_up f x7 (.inl (0, m18, .inl (upd g18 i18 (g14 i14))))) l1 = .inr (12, fs22)) (h24 : l1 < n) (h26 : fs22[6]? = some (.ref x25)) (h28 : (va_up f x7 (.inl (0, m18, .inl (upd g18 i18 (g14 i14))))) x25 = .inl (0, m27, .inl g27)) (h29 : x25 < n ∨ x25 = mi_SC) (h30 : mi_ix l3 m27 i27) (h31 : (g27 i27) = 10 → mi_W d 139 119 [some (.ref l1), some (.int l2), some (.int l3)] [] (n, sl, (va_up f x7 (.inl (0, m18, .inl (upd g18 i18 (g14 i14)))))) Q) (h32 : ¬ ((g27 i27) = 10) → mi_W d 139 94 [some (.ref l1), some (.int l2), some (.int l3)] [] (n, sl, (va_up f x7 (.inl (0, m18, .inl (upd g18 i18 (g14 i14)))))) Q) : mi_W d 139 71 [some (.ref l1), some (.int l2), some (.int l3)] [] (n, sl, f) Q := by
  refine w_aload_n cd_139_71 rfl ?_
  refine w_getfield cd_139_72 (show mt_f 12 20 = some (12, 6) by decide +kernel) h5 h6 h8 ?_
  refine w_iload_n cd_139_75 rfl ?_
  refine w_aload_n cd_139_76 rfl ?_
  refine w_getfield cd_139_77 (show mt_f 12 16 = some (12, 5) by decide +kernel) h10 h11 h13 ?_
  refine w_iload_n cd_139_80 rfl ?_
  refine w_iaload cd_139_81 h15 h16 h17 ?_
  refine w_iastore cd_139_82 h19 h20 h21 ?_
  refine w_aload_n cd_139_83 rfl ?_
  refine w_getfield cd_139_84 (show mt_f 12 20 = some (12, 6) by decide +kernel) h23 h24 h26 ?_
  refine w_iload_n cd_139_87 rfl ?_
  refine w_iaload cd_139_88 h28 h29 h30 ?_
  refine w_bipush (v := 10) cd_139_89 (by decide) ?_
  exact w_if_icmpeq cd_139_91 (by decide) h31 h32
theorem b_139_94 {d : Nat} {Q : (Option Value ⊕ Nat) → mi_H → Prop} (n sl : Nat) (f : Nat → mi_C) {l1 : Nat} {l2 : Int32} {l3 : Int32} {fs4 : List Value} {x7 : Nat} (m9 i9 : Nat) (g9 : Nat → Int32) (h5 : f l1 = .inr (12, fs4)) (h6 : l1 < n) (h8 : fs4[6]? = some (.ref x7)) (h10 : f x7 = .inl (0, m9, .inl g9)) (h11 : x7 < n ∨ x7 = mi_SC) (h12 : mi_ix l3 m9 i9) (h13 : mi_W d 140 0 (mi_en 6 [.long (((g9 i9) : Int32).toInt64), .long 32, .long 126]) [] (n, sl, f) (mi_Kc d 139 107 [some (.ref l1), some (.int l2), some (.int l3)] [] Q)) : mi_W (d + 1) 139 94 [some (.ref l1), some (.int l2), some (.int l3)] [] (n, sl, f) Q := by
  refine w_aload_n cd_139_94 rfl ?_
  refine w_getfield cd_139_95 (show mt_f 12 20 = some (12, 6) by decide +kernel) h5 h6 h8 ?_
  refine w_iload_n cd_139_98 rfl ?_
  refine w_iaload cd_139_99 h10 h11 h12 ?_
  refine w_i2l cd_139_100 ?_
  refine w_ldc2_w (lv := 32) cd_139_101 (by decide +kernel) ?_
  refine w_ldc2_w (lv := 126) cd_139_104 (by decide +kernel) ?_
  exact w_invokestatic cd_139_107 (show mt_m 12 268 = some (140, 4) by decide +kernel) (by decide) (rest := []) rfl (as := [.long (((g9 i9) : Int32).toInt64), .long 32, .long 126]) rfl ⟨Nat.le_of_ble_eq_true rfl, Nat.le_of_ble_eq_true rfl, Nat.le_of_ble_eq_true rfl⟩ h13
theorem b_139_110 {d : Nat} {Q : (Option Value ⊕ Nat) → mi_H → Prop} (n sl : Nat) (f : Nat → mi_C) {l1 : Nat} {l2 : Int32} {l3 : Int32} {s4 : Int32} (h5 : ¬ s4 = (0 : Int32) → mi_W d 139 119 [some (.ref l1), some (.int l2), some (.int l3)] [] (n, sl, f) Q) (h6 : ¬ (¬ s4 = (0 : Int32)) → mi_W d 139 113 [some (.ref l1), some (.int l2), some (.int l3)] [] (n, sl, f) Q) : mi_W d 139 110 [some (.ref l1), some (.int l2), some (.int l3)] [.int s4] (n, sl, f) Q := by
  exact w_ifne cd_139_110 (by decide) h5 h6
theorem b_139_113 {d : Nat} {Q : (Option Value ⊕ Nat) → mi_H → Prop} (n sl : Nat) (f : Nat → mi_C) {l1 : Nat} {l2 : Int32} {l3 : Int32} {fs4 : List Value} (h5 : f l1 = .inr (12, fs4)) (h6 : l1 < n) (h7 : mi_W d 141 0 (mi_en 2 [.ref l1, .int l3]) [] (n, sl, f) (mi_Kc d 139 115 [some (.ref l1), some (.int l2), some (.int l3)] [] Q)) : mi_W (d + 1) 139 113 [some (.ref l1), some (.int l2), some (.int l3)] [] (n, sl, f) Q := by
  refine w_aload_n cd_139_113 rfl ?_
  refine w_iload_n cd_139_114 rfl ?_
  exact w_invokevirtual cd_139_115 (show mt_m 12 272 = some (141, 0) by decide +kernel) (rest := []) rfl (as := [.ref l1, .int l3]) rfl h5 (Or.inl h6) ⟨Nat.le_of_ble_eq_true rfl, Nat.le_of_ble_eq_true rfl, Nat.le_of_ble_eq_true rfl⟩ h7
theorem b_139_118 {d : Nat} {Q : (Option Value ⊕ Nat) → mi_H → Prop} (n sl : Nat) (f : Nat → mi_C) {l1 : Nat} {l2 : Int32} {l3 : Int32} {s4 : Int32} (h5 : mi_W d 139 119 [some (.ref l1), some (.int l2), some (.int l3)] [] (n, sl, f) Q) : mi_W d 139 118 [some (.ref l1), some (.int l2), some (.int l3)] [.int s4] (n, sl, f) Q := by
  refine w_pop_i cd_139_118 ?_
  exact h5
theorem b_139_119 {d : Nat} {Q : (Option Value ⊕ Nat) → mi_H → Prop} (n sl : Nat) (f : Nat → mi_C) {l1 : Nat} {l2 : Int32} {l3 : Int32} (h4 : mi_W d 139 66 [some (.ref l1), some (.int l2), some (.int (l3 + 1))] [] (n, sl, f) Q) : mi_W d 139 119 [some (.ref l1), some (.int l2), some (.int l3)] [] (n, sl, f) Q := by
  refine w_iinc (v := 1) (ls' := [some (.ref l1), some (.int l2), some (.int (l3 + 1))]) cd_139_119 rfl (by decide) rfl ?_
  exact w_goto cd_139_122 (by decide) h4
theorem b_139_125 {d : Nat} {Q : (Option Value ⊕ Nat) → mi_H → Prop} (n sl : Nat) (f : Nat → mi_C) {l1 : Nat} {l2 : Int32} {l3 : Int32} {fs4 : List Value} {x7 : Int32} (h5 : f l1 = .inr (12, fs4)) (h6 : l1 < n) (h8 : fs4[3]? = some (.int x7)) (h9 : (0 : Int32) ≤ x7 → mi_W d 139 136 [some (.ref l1), some (.int l2), some (.int l3)] [] (n, sl, f) Q) (h10 : ¬ ((0 : Int32) ≤ x7) → mi_W d 139 132 [some (.ref l1), some (.int l2), some (.int l3)] [] (n, sl, f) Q) : mi_W d 139 125 [some (.ref l1), some (.int l2), some (.int l3)] [] (n, sl, f) Q := by
  refine w_aload_n cd_139_125 rfl ?_
  refine w_getfield cd_139_126 (show mt_f 12 7 = some (12, 3) by decide +kernel) h5 h6 h8 ?_
  exact w_ifge cd_139_129 (by decide) h9 h10
theorem b_139_132 {d : Nat} {Q : (Option Value ⊕ Nat) → mi_H → Prop} (n sl : Nat) (f : Nat → mi_C) {l1 : Nat} {l2 : Int32} {l3 : Int32} {fs4 : List Value} (h5 : f l1 = .inr (12, fs4)) (h6 : l1 < n) (h7 : mi_W d 142 0 (mi_en 1 [.ref l1]) [] (n, sl, f) (mi_Kc d 139 133 [some (.ref l1), some (.int l2), some (.int l3)] [] Q)) : mi_W (d + 1) 139 132 [some (.ref l1), some (.int l2), some (.int l3)] [] (n, sl, f) Q := by
  refine w_aload_n cd_139_132 rfl ?_
  exact w_invokevirtual cd_139_133 (show mt_m 12 276 = some (142, 0) by decide +kernel) (rest := []) rfl (as := [.ref l1]) rfl h5 (Or.inl h6) ⟨Nat.le_of_ble_eq_true rfl, Nat.le_of_ble_eq_true rfl, Nat.le_of_ble_eq_true rfl⟩ h7
theorem b_139_136 {d : Nat} {Q : (Option Value ⊕ Nat) → mi_H → Prop} (n sl : Nat) (f : Nat → mi_C) {l1 : Nat} {l2 : Int32} {l3 : Int32} {fs4 : List Value} {x7 : Int32} (h5 : f l1 = .inr (12, fs4)) (h6 : l1 < n) (h8 : fs4[3]? = some (.int x7)) (h9 : x7 < (0 : Int32) → mi_W d 139 148 [some (.ref l1), some (.int l2), some (.int l3)] [.ref l1] (n, sl, f) Q) (h10 : ¬ (x7 < (0 : Int32)) → mi_W d 139 144 [some (.ref l1), some (.int l2), some (.int l3)] [.ref l1] (n, sl, f) Q) : mi_W d 139 136 [some (.ref l1), some (.int l2), some (.int l3)] [] (n, sl, f) Q := by
  refine w_aload_n cd_139_136 rfl ?_
  refine w_aload_n cd_139_137 rfl ?_
  refine w_getfield cd_139_138 (show mt_f 12 7 = some (12, 3) by decide +kernel) h5 h6 h8 ?_
  exact w_iflt cd_139_141 (by decide) h9 h10
theorem b_139_144 {d : Nat} {Q : (Option Value ⊕ Nat) → mi_H → Prop} (n sl : Nat) (f : Nat → mi_C) {l1 : Nat} {l2 : Int32} {l3 : Int32} {s4 : Nat} (h5 : mi_W d 139 149 [some (.ref l1), some (.int l2), some (.int l3)] [.int 1, .ref s4] (n, sl, f) Q) : mi_W d 139 144 [some (.ref l1), some (.int l2), some (.int l3)] [.ref s4] (n, sl, f) Q := by
  refine w_iconst (v := 1) cd_139_144 (by decide) ?_
  exact w_goto cd_139_145 (by decide) h5
theorem b_139_148 {d : Nat} {Q : (Option Value ⊕ Nat) → mi_H → Prop} (n sl : Nat) (f : Nat → mi_C) {l1 : Nat} {l2 : Int32} {l3 : Int32} {s4 : Nat} (h5 : mi_W d 139 149 [some (.ref l1), some (.int l2), some (.int l3)] [.int 0, .ref s4] (n, sl, f) Q) : mi_W d 139 148 [some (.ref l1), some (.int l2), some (.int l3)] [.ref s4] (n, sl, f) Q := by
  refine w_iconst (v := 0) cd_139_148 (by decide) ?_
  exact h5
theorem b_139_149 {d : Nat} {Q : (Option Value ⊕ Nat) → mi_H → Prop} (n sl : Nat) (f : Nat → mi_C) {l1 : Nat} {l2 : Int32} {l3 : Int32} {s4 : Int32} {s5 : Nat} {fs6 : List Value} (h7 : f s5 = .inr (12, fs6)) (h8 : s5 < n) (h9 : mi_W d 138 0 (mi_en 3 [.ref s5, .int s4, .int 2]) [] (n, sl, f) (mi_Kc d 139 150 [some (.ref l1), some (.int l2), some (.int l3)] [] Q)) : mi_W (d + 1) 139 149 [some (.ref l1), some (.int l2), some (.int l3)] [.int s4, .ref s5] (n, sl, f) Q := by
  refine w_iconst (v := 2) cd_139_149 (by decide) ?_
  exact w_invokevirtual cd_139_150 (show mt_m 12 254 = some (138, 0) by decide +kernel) (rest := []) rfl (as := [.ref s5, .int s4, .int 2]) rfl h7 (Or.inl h8) ⟨Nat.le_of_ble_eq_true rfl, Nat.le_of_ble_eq_true rfl, Nat.le_of_ble_eq_true rfl⟩ h9
theorem b_139_153 {d : Nat} {Q : (Option Value ⊕ Nat) → mi_H → Prop} (n sl : Nat) (f : Nat → mi_C) {l1 : Nat} {l2 : Int32} {l3 : Int32} {s4 : Int32} (h5 : s4 = (0 : Int32) → mi_W d 139 158 [some (.ref l1), some (.int l2), some (.int l3)] [] (n, sl, f) Q) (h6 : ¬ (s4 = (0 : Int32)) → mi_W d 139 156 [some (.ref l1), some (.int l2), some (.int l3)] [] (n, sl, f) Q) : mi_W d 139 153 [some (.ref l1), some (.int l2), some (.int l3)] [.int s4] (n, sl, f) Q := by
  exact w_ifeq cd_139_153 (by decide) h5 h6
theorem b_139_156 {d : Nat} {Q : (Option Value ⊕ Nat) → mi_H → Prop} (n sl : Nat) (f : Nat → mi_C) {l1 : Nat} {l2 : Int32} {l3 : Int32} (h4 : Q (.inl (some (.int 0))) (n, sl, f)) : mi_W d 139 156 [some (.ref l1), some (.int l2), some (.int l3)] [] (n, sl, f) Q := by
  refine w_iconst (v := 0) cd_139_156 (by decide) ?_
  exact w_ireturn_i cd_139_157 (by decide +kernel) h4
theorem b_139_158 {d : Nat} {Q : (Option Value ⊕ Nat) → mi_H → Prop} (n sl : Nat) (f : Nat → mi_C) {l1 : Nat} {l2 : Int32} {l3 : Int32} {fs4 : List Value} {fs8 : List Value} {x11 : Nat} {fs13 : List Value} (h5 : f l1 = .inr (12, fs4)) (h6 : l1 < n) (h7 : 4 < fs4.length) (h9 : (va_up f l1 (.inr (12, fs4.set 4 (.int 0)))) l1 = .inr (12, fs8)) (h10 : l1 < n) (h12 : fs8[41]? = some (.ref x11)) (h14 : (va_up f l1 (.inr (12, fs4.set 4 (.int 0)))) x11 = .inr (13, fs13)) (h15 : x11 < n) (h16 : mi_W d 168 0 (mi_en 2 [.ref x11]) [] (n, sl, (va_up f l1 (.inr (12, fs4.set 4 (.int 0))))) (mi_Kc d 139 167 [some (.ref l1), some (.int l2), some (.int l3)] [] Q)) : mi_W (d + 1) 139 158 [some (.ref l1), some (.int l2), some (.int l3)] [] (n, sl, f) Q := by
  refine w_aload_n cd_139_158 rfl ?_
  refine w_iconst (v := 0) cd_139_159 (by decide) ?_
  refine w_putfield (w := .int 0) cd_139_160 (show mt_f 12 13 = some (12, 4) by decide +kernel) h5 h6 ⟨h7, rfl, Or.inl (by decide)⟩ ?_
  refine w_aload_n cd_139_163 rfl ?_
  refine w_getfield cd_139_164 (show mt_f 12 147 = some (12, 41) by decide +kernel) h9 h10 h12 ?_
  exact w_invokevirtual cd_139_167 (show mt_m 12 279 = some (168, 0) by decide +kernel) (rest := []) rfl (as := [.ref x11]) rfl h14 (Or.inl h15) ⟨Nat.le_of_ble_eq_true rfl, Nat.le_of_ble_eq_true rfl, Nat.le_of_ble_eq_true rfl⟩ h16
theorem b_139_170 {d : Nat} {Q : (Option Value ⊕ Nat) → mi_H → Prop} (n sl : Nat) (f : Nat → mi_C) {l1 : Nat} {l2 : Int32} {l3 : Int32} {fs4 : List Value} {x7 : Int32} (h5 : f l1 = .inr (12, fs4)) (h6 : l1 < n) (h8 : fs4[21]? = some (.int x7)) (h9 : Q (.inl (some (.int x7))) (n, sl, f)) : mi_W d 139 170 [some (.ref l1), some (.int l2), some (.int l3)] [] (n, sl, f) Q := by
  refine w_aload_n cd_139_170 rfl ?_
  refine w_getfield cd_139_171 (show mt_f 12 282 = some (12, 21) by decide +kernel) h5 h6 h8 ?_
  exact w_ireturn_i cd_139_174 (by decide +kernel) h9
/-! MarloweHostModel.count(I)I -/
set_option maxRecDepth 100000 in
theorem mq_201 : mt_q 201 = my_201 := rfl
set_option maxRecDepth 100000 in
theorem ci_201 : mt_inc 0 my_201.cd = true := by decide +kernel
theorem cd_201_0 : mt_cd 201 0 = some (.aload_n 0) := mt_cd_of (q := (0, .aload_n 0, 1)) mq_201 ci_201 (List.mem_of_getElem? (i := 0) rfl)
theorem cd_201_1 : mt_cd 201 1 = some (.iconst 0) := mt_cd_of (q := (1, .iconst 0, 1)) mq_201 ci_201 (List.mem_of_getElem? (i := 1) rfl)
theorem cd_201_2 : mt_cd 201 2 = some (.putfield 248) := mt_cd_of (q := (2, .putfield 248, 3)) mq_201 ci_201 (List.mem_of_getElem? (i := 2) rfl)
theorem cd_201_5 : mt_cd 201 5 = some (.aload_n 0) := mt_cd_of (q := (5, .aload_n 0, 1)) mq_201 ci_201 (List.mem_of_getElem? (i := 3) rfl)
theorem cd_201_6 : mt_cd 201 6 = some (.iload_n 1) := mt_cd_of (q := (6, .iload_n 1, 1)) mq_201 ci_201 (List.mem_of_getElem? (i := 4) rfl)
theorem cd_201_7 : mt_cd 201 7 = some (.i2l) := mt_cd_of (q := (7, .i2l, 1)) mq_201 ci_201 (List.mem_of_getElem? (i := 5) rfl)
theorem cd_201_8 : mt_cd 201 8 = some (.lconst 0) := mt_cd_of (q := (8, .lconst 0, 1)) mq_201 ci_201 (List.mem_of_getElem? (i := 6) rfl)
theorem cd_201_9 : mt_cd 201 9 = some (.ldc2_w 331) := mt_cd_of (q := (9, .ldc2_w 331, 3)) mq_201 ci_201 (List.mem_of_getElem? (i := 7) rfl)
theorem cd_201_12 : mt_cd 201 12 = some (.invokestatic 268) := mt_cd_of (q := (12, .invokestatic 268, 3)) mq_201 ci_201 (List.mem_of_getElem? (i := 8) rfl)
theorem cd_201_15 : mt_cd 201 15 = some (.ifCond .ne 7) := mt_cd_of (q := (15, .ifCond .ne 7, 3)) mq_201 ci_201 (List.mem_of_getElem? (i := 9) rfl)
theorem cd_201_18 : mt_cd 201 18 = some (.iconst 1) := mt_cd_of (q := (18, .iconst 1, 1)) mq_201 ci_201 (List.mem_of_getElem? (i := 10) rfl)
theorem cd_201_19 : mt_cd 201 19 = some (.goto 4) := mt_cd_of (q := (19, .goto 4, 3)) mq_201 ci_201 (List.mem_of_getElem? (i := 11) rfl)
theorem cd_201_22 : mt_cd 201 22 = some (.iconst 0) := mt_cd_of (q := (22, .iconst 0, 1)) mq_201 ci_201 (List.mem_of_getElem? (i := 12) rfl)
theorem cd_201_23 : mt_cd 201 23 = some (.iconst 1) := mt_cd_of (q := (23, .iconst 1, 1)) mq_201 ci_201 (List.mem_of_getElem? (i := 13) rfl)
theorem cd_201_24 : mt_cd 201 24 = some (.invokevirtual 254) := mt_cd_of (q := (24, .invokevirtual 254, 3)) mq_201 ci_201 (List.mem_of_getElem? (i := 14) rfl)
theorem cd_201_27 : mt_cd 201 27 = some (.ifCond .eq 5) := mt_cd_of (q := (27, .ifCond .eq 5, 3)) mq_201 ci_201 (List.mem_of_getElem? (i := 15) rfl)
theorem cd_201_30 : mt_cd 201 30 = some (.iconst 0) := mt_cd_of (q := (30, .iconst 0, 1)) mq_201 ci_201 (List.mem_of_getElem? (i := 16) rfl)
theorem cd_201_31 : mt_cd 201 31 = some (.ireturn) := mt_cd_of (q := (31, .ireturn, 1)) mq_201 ci_201 (List.mem_of_getElem? (i := 17) rfl)
theorem cd_201_32 : mt_cd 201 32 = some (.iload_n 1) := mt_cd_of (q := (32, .iload_n 1, 1)) mq_201 ci_201 (List.mem_of_getElem? (i := 18) rfl)
theorem cd_201_33 : mt_cd 201 33 = some (.bipush 6) := mt_cd_of (q := (33, .bipush 6, 2)) mq_201 ci_201 (List.mem_of_getElem? (i := 19) rfl)
theorem cd_201_35 : mt_cd 201 35 = some (.if_icmp .ge 20) := mt_cd_of (q := (35, .if_icmp .ge 20, 3)) mq_201 ci_201 (List.mem_of_getElem? (i := 20) rfl)
theorem cd_201_38 : mt_cd 201 38 = some (.aload_n 0) := mt_cd_of (q := (38, .aload_n 0, 1)) mq_201 ci_201 (List.mem_of_getElem? (i := 21) rfl)
theorem cd_201_39 : mt_cd 201 39 = some (.getfield 13) := mt_cd_of (q := (39, .getfield 13, 3)) mq_201 ci_201 (List.mem_of_getElem? (i := 22) rfl)
theorem cd_201_42 : mt_cd 201 42 = some (.ifCond .ge 13) := mt_cd_of (q := (42, .ifCond .ge 13, 3)) mq_201 ci_201 (List.mem_of_getElem? (i := 23) rfl)
theorem cd_201_45 : mt_cd 201 45 = some (.iload_n 1) := mt_cd_of (q := (45, .iload_n 1, 1)) mq_201 ci_201 (List.mem_of_getElem? (i := 24) rfl)
theorem cd_201_46 : mt_cd 201 46 = some (.ifCond .ne 7) := mt_cd_of (q := (46, .ifCond .ne 7, 3)) mq_201 ci_201 (List.mem_of_getElem? (i := 25) rfl)
theorem cd_201_49 : mt_cd 201 49 = some (.iconst (-1)) := mt_cd_of (q := (49, .iconst (-1), 1)) mq_201 ci_201 (List.mem_of_getElem? (i := 26) rfl)
theorem cd_201_50 : mt_cd 201 50 = some (.goto 4) := mt_cd_of (q := (50, .goto 4, 3)) mq_201 ci_201 (List.mem_of_getElem? (i := 27) rfl)
theorem cd_201_53 : mt_cd 201 53 = some (.iconst 0) := mt_cd_of (q := (53, .iconst 0, 1)) mq_201 ci_201 (List.mem_of_getElem? (i := 28) rfl)
theorem cd_201_54 : mt_cd 201 54 = some (.ireturn) := mt_cd_of (q := (54, .ireturn, 1)) mq_201 ci_201 (List.mem_of_getElem? (i := 29) rfl)
theorem cd_201_55 : mt_cd 201 55 = some (.iload_n 1) := mt_cd_of (q := (55, .iload_n 1, 1)) mq_201 ci_201 (List.mem_of_getElem? (i := 30) rfl)
theorem cd_201_56 : mt_cd 201 56 = some (.tableswitch 109 0 9 #[56, 64, 69, 74, 79, 84, 89, 94, 99, 104]) := mt_cd_of (q := (56, .tableswitch 109 0 9 #[56, 64, 69, 74, 79, 84, 89, 94, 99, 104], 56)) mq_201 ci_201 (List.mem_of_getElem? (i := 31) rfl)
theorem cd_201_112 : mt_cd 201 112 = some (.aload_n 0) := mt_cd_of (q := (112, .aload_n 0, 1)) mq_201 ci_201 (List.mem_of_getElem? (i := 32) rfl)
theorem cd_201_113 : mt_cd 201 113 = some (.getfield 147) := mt_cd_of (q := (113, .getfield 147, 3)) mq_201 ci_201 (List.mem_of_getElem? (i := 33) rfl)
theorem cd_201_116 : mt_cd 201 116 = some (.getfield 496) := mt_cd_of (q := (116, .getfield 496, 3)) mq_201 ci_201 (List.mem_of_getElem? (i := 34) rfl)
theorem cd_201_119 : mt_cd 201 119 = some (.ireturn) := mt_cd_of (q := (119, .ireturn, 1)) mq_201 ci_201 (List.mem_of_getElem? (i := 35) rfl)
theorem cd_201_120 : mt_cd 201 120 = some (.aload_n 0) := mt_cd_of (q := (120, .aload_n 0, 1)) mq_201 ci_201 (List.mem_of_getElem? (i := 36) rfl)
theorem cd_201_121 : mt_cd 201 121 = some (.getfield 282) := mt_cd_of (q := (121, .getfield 282, 3)) mq_201 ci_201 (List.mem_of_getElem? (i := 37) rfl)
theorem cd_201_124 : mt_cd 201 124 = some (.ireturn) := mt_cd_of (q := (124, .ireturn, 1)) mq_201 ci_201 (List.mem_of_getElem? (i := 38) rfl)
theorem cd_201_125 : mt_cd 201 125 = some (.aload_n 0) := mt_cd_of (q := (125, .aload_n 0, 1)) mq_201 ci_201 (List.mem_of_getElem? (i := 39) rfl)
theorem cd_201_126 : mt_cd 201 126 = some (.getfield 343) := mt_cd_of (q := (126, .getfield 343, 3)) mq_201 ci_201 (List.mem_of_getElem? (i := 40) rfl)
theorem cd_201_129 : mt_cd 201 129 = some (.ireturn) := mt_cd_of (q := (129, .ireturn, 1)) mq_201 ci_201 (List.mem_of_getElem? (i := 41) rfl)
theorem cd_201_130 : mt_cd 201 130 = some (.aload_n 0) := mt_cd_of (q := (130, .aload_n 0, 1)) mq_201 ci_201 (List.mem_of_getElem? (i := 42) rfl)
theorem cd_201_131 : mt_cd 201 131 = some (.getfield 346) := mt_cd_of (q := (131, .getfield 346, 3)) mq_201 ci_201 (List.mem_of_getElem? (i := 43) rfl)
theorem cd_201_134 : mt_cd 201 134 = some (.ireturn) := mt_cd_of (q := (134, .ireturn, 1)) mq_201 ci_201 (List.mem_of_getElem? (i := 44) rfl)
theorem cd_201_135 : mt_cd 201 135 = some (.aload_n 0) := mt_cd_of (q := (135, .aload_n 0, 1)) mq_201 ci_201 (List.mem_of_getElem? (i := 45) rfl)
theorem cd_201_136 : mt_cd 201 136 = some (.getfield 349) := mt_cd_of (q := (136, .getfield 349, 3)) mq_201 ci_201 (List.mem_of_getElem? (i := 46) rfl)
theorem cd_201_139 : mt_cd 201 139 = some (.ireturn) := mt_cd_of (q := (139, .ireturn, 1)) mq_201 ci_201 (List.mem_of_getElem? (i := 47) rfl)
theorem cd_201_140 : mt_cd 201 140 = some (.aload_n 0) := mt_cd_of (q := (140, .aload_n 0, 1)) mq_201 ci_201 (List.mem_of_getElem? (i := 48) rfl)
theorem cd_201_141 : mt_cd 201 141 = some (.getfield 352) := mt_cd_of (q := (141, .getfield 352, 3)) mq_201 ci_201 (List.mem_of_getElem? (i := 49) rfl)
theorem cd_201_144 : mt_cd 201 144 = some (.ireturn) := mt_cd_of (q := (144, .ireturn, 1)) mq_201 ci_201 (List.mem_of_getElem? (i := 50) rfl)
theorem cd_201_145 : mt_cd 201 145 = some (.aload_n 0) := mt_cd_of (q := (145, .aload_n 0, 1)) mq_201 ci_201 (List.mem_of_getElem? (i := 51) rfl)
theorem cd_201_146 : mt_cd 201 146 = some (.getfield 258) := mt_cd_of (q := (146, .getfield 258, 3)) mq_201 ci_201 (List.mem_of_getElem? (i := 52) rfl)
theorem cd_201_149 : mt_cd 201 149 = some (.ireturn) := mt_cd_of (q := (149, .ireturn, 1)) mq_201 ci_201 (List.mem_of_getElem? (i := 53) rfl)
theorem cd_201_150 : mt_cd 201 150 = some (.aload_n 0) := mt_cd_of (q := (150, .aload_n 0, 1)) mq_201 ci_201 (List.mem_of_getElem? (i := 54) rfl)
theorem cd_201_151 : mt_cd 201 151 = some (.getfield 536) := mt_cd_of (q := (151, .getfield 536, 3)) mq_201 ci_201 (List.mem_of_getElem? (i := 55) rfl)
theorem cd_201_154 : mt_cd 201 154 = some (.ireturn) := mt_cd_of (q := (154, .ireturn, 1)) mq_201 ci_201 (List.mem_of_getElem? (i := 56) rfl)
theorem cd_201_155 : mt_cd 201 155 = some (.aload_n 0) := mt_cd_of (q := (155, .aload_n 0, 1)) mq_201 ci_201 (List.mem_of_getElem? (i := 57) rfl)
theorem cd_201_156 : mt_cd 201 156 = some (.getfield 539) := mt_cd_of (q := (156, .getfield 539, 3)) mq_201 ci_201 (List.mem_of_getElem? (i := 58) rfl)
theorem cd_201_159 : mt_cd 201 159 = some (.ireturn) := mt_cd_of (q := (159, .ireturn, 1)) mq_201 ci_201 (List.mem_of_getElem? (i := 59) rfl)
theorem cd_201_160 : mt_cd 201 160 = some (.aload_n 0) := mt_cd_of (q := (160, .aload_n 0, 1)) mq_201 ci_201 (List.mem_of_getElem? (i := 60) rfl)
theorem cd_201_161 : mt_cd 201 161 = some (.getfield 562) := mt_cd_of (q := (161, .getfield 562, 3)) mq_201 ci_201 (List.mem_of_getElem? (i := 61) rfl)
theorem cd_201_164 : mt_cd 201 164 = some (.ireturn) := mt_cd_of (q := (164, .ireturn, 1)) mq_201 ci_201 (List.mem_of_getElem? (i := 62) rfl)
theorem cd_201_165 : mt_cd 201 165 = some (.aload_n 0) := mt_cd_of (q := (165, .aload_n 0, 1)) mq_201 ci_201 (List.mem_of_getElem? (i := 63) rfl)
theorem cd_201_166 : mt_cd 201 166 = some (.getfield 565) := mt_cd_of (q := (166, .getfield 565, 3)) mq_201 ci_201 (List.mem_of_getElem? (i := 64) rfl)
theorem cd_201_169 : mt_cd 201 169 = some (.ireturn) := mt_cd_of (q := (169, .ireturn, 1)) mq_201 ci_201 (List.mem_of_getElem? (i := 65) rfl)
theorem b_201_0 {d : Nat} {Q : (Option Value ⊕ Nat) → mi_H → Prop} (n sl : Nat) (f : Nat → mi_C) {l1 : Nat} {l2 : Int32} {fs3 : List Value} (h4 : f l1 = .inr (12, fs3)) (h5 : l1 < n) (h6 : 0 < fs3.length) (h7 : mi_W d 140 0 (mi_en 6 [.long ((l2 : Int32).toInt64), .long 0, .long 10]) [] (n, sl, (va_up f l1 (.inr (12, fs3.set 0 (.int 0))))) (mi_Kc d 201 12 [some (.ref l1), some (.int l2)] [.ref l1] Q)) : mi_W (d + 1) 201 0 [some (.ref l1), some (.int l2)] [] (n, sl, f) Q := by
  refine w_aload_n cd_201_0 rfl ?_
  refine w_iconst (v := 0) cd_201_1 (by decide) ?_
  refine w_putfield (w := .int 0) cd_201_2 (show mt_f 12 248 = some (12, 0) by decide +kernel) h4 h5 ⟨h6, rfl, Or.inl (by decide)⟩ ?_
  refine w_aload_n cd_201_5 rfl ?_
  refine w_iload_n cd_201_6 rfl ?_
  refine w_i2l cd_201_7 ?_
  refine w_lconst (lv := 0) cd_201_8 (by decide) ?_
  refine w_ldc2_w (lv := 10) cd_201_9 (by decide +kernel) ?_
  exact w_invokestatic cd_201_12 (show mt_m 12 268 = some (140, 4) by decide +kernel) (by decide) (rest := [.ref l1]) rfl (as := [.long ((l2 : Int32).toInt64), .long 0, .long 10]) rfl ⟨Nat.le_of_ble_eq_true rfl, Nat.le_of_ble_eq_true rfl, Nat.le_of_ble_eq_true rfl⟩ h7
theorem b_201_15 {d : Nat} {Q : (Option Value ⊕ Nat) → mi_H → Prop} (n sl : Nat) (f : Nat → mi_C) {l1 : Nat} {l2 : Int32} {s3 : Int32} {s4 : Nat} (h5 : ¬ s3 = (0 : Int32) → mi_W d 201 22 [some (.ref l1), some (.int l2)] [.ref s4] (n, sl, f) Q) (h6 : ¬ (¬ s3 = (0 : Int32)) → mi_W d 201 18 [some (.ref l1), some (.int l2)] [.ref s4] (n, sl, f) Q) : mi_W d 201 15 [some (.ref l1), some (.int l2)] [.int s3, .ref s4] (n, sl, f) Q := by
  exact w_ifne cd_201_15 (by decide) h5 h6
theorem b_201_18 {d : Nat} {Q : (Option Value ⊕ Nat) → mi_H → Prop} (n sl : Nat) (f : Nat → mi_C) {l1 : Nat} {l2 : Int32} {s3 : Nat} (h4 : mi_W d 201 23 [some (.ref l1), some (.int l2)] [.int 1, .ref s3] (n, sl, f) Q) : mi_W d 201 18 [some (.ref l1), some (.int l2)] [.ref s3] (n, sl, f) Q := by
  refine w_iconst (v := 1) cd_201_18 (by decide) ?_
  exact w_goto cd_201_19 (by decide) h4
theorem b_201_22 {d : Nat} {Q : (Option Value ⊕ Nat) → mi_H → Prop} (n sl : Nat) (f : Nat → mi_C) {l1 : Nat} {l2 : Int32} {s3 : Nat} (h4 : mi_W d 201 23 [some (.ref l1), some (.int l2)] [.int 0, .ref s3] (n, sl, f) Q) : mi_W d 201 22 [some (.ref l1), some (.int l2)] [.ref s3] (n, sl, f) Q := by
  refine w_iconst (v := 0) cd_201_22 (by decide) ?_
  exact h4
theorem b_201_23 {d : Nat} {Q : (Option Value ⊕ Nat) → mi_H → Prop} (n sl : Nat) (f : Nat → mi_C) {l1 : Nat} {l2 : Int32} {s3 : Int32} {s4 : Nat} {fs5 : List Value} (h6 : f s4 = .inr (12, fs5)) (h7 : s4 < n) (h8 : mi_W d 138 0 (mi_en 3 [.ref s4, .int s3, .int 1]) [] (n, sl, f) (mi_Kc d 201 24 [some (.ref l1), some (.int l2)] [] Q)) : mi_W (d + 1) 201 23 [some (.ref l1), some (.int l2)] [.int s3, .ref s4] (n, sl, f) Q := by
  refine w_iconst (v := 1) cd_201_23 (by decide) ?_
  exact w_invokevirtual cd_201_24 (show mt_m 12 254 = some (138, 0) by decide +kernel) (rest := []) rfl (as := [.ref s4, .int s3, .int 1]) rfl h6 (Or.inl h7) ⟨Nat.le_of_ble_eq_true rfl, Nat.le_of_ble_eq_true rfl, Nat.le_of_ble_eq_true rfl⟩ h8
theorem b_201_27 {d : Nat} {Q : (Option Value ⊕ Nat) → mi_H → Prop} (n sl : Nat) (f : Nat → mi_C) {l1 : Nat} {l2 : Int32} {s3 : Int32} (h4 : s3 = (0 : Int32) → mi_W d 201 32 [some (.ref l1), some (.int l2)] [] (n, sl, f) Q) (h5 : ¬ (s3 = (0 : Int32)) → mi_W d 201 30 [some (.ref l1), some (.int l2)] [] (n, sl, f) Q) : mi_W d 201 27 [some (.ref l1), some (.int l2)] [.int s3] (n, sl, f) Q := by
  exact w_ifeq cd_201_27 (by decide) h4 h5
theorem b_201_30 {d : Nat} {Q : (Option Value ⊕ Nat) → mi_H → Prop} (n sl : Nat) (f : Nat → mi_C) {l1 : Nat} {l2 : Int32} (h3 : Q (.inl (some (.int 0))) (n, sl, f)) : mi_W d 201 30 [some (.ref l1), some (.int l2)] [] (n, sl, f) Q := by
  refine w_iconst (v := 0) cd_201_30 (by decide) ?_
  exact w_ireturn_i cd_201_31 (by decide +kernel) h3
theorem b_201_32 {d : Nat} {Q : (Option Value ⊕ Nat) → mi_H → Prop} (n sl : Nat) (f : Nat → mi_C) {l1 : Nat} {l2 : Int32} (h3 : 6 ≤ l2 → mi_W d 201 55 [some (.ref l1), some (.int l2)] [] (n, sl, f) Q) (h4 : ¬ (6 ≤ l2) → mi_W d 201 38 [some (.ref l1), some (.int l2)] [] (n, sl, f) Q) : mi_W d 201 32 [some (.ref l1), some (.int l2)] [] (n, sl, f) Q := by
  refine w_iload_n cd_201_32 rfl ?_
  refine w_bipush (v := 6) cd_201_33 (by decide) ?_
  exact w_if_icmpge cd_201_35 (by decide) h3 h4
theorem b_201_38 {d : Nat} {Q : (Option Value ⊕ Nat) → mi_H → Prop} (n sl : Nat) (f : Nat → mi_C) {l1 : Nat} {l2 : Int32} {fs3 : List Value} {x6 : Int32} (h4 : f l1 = .inr (12, fs3)) (h5 : l1 < n) (h7 : fs3[4]? = some (.int x6)) (h8 : (0 : Int32) ≤ x6 → mi_W d 201 55 [some (.ref l1), some (.int l2)] [] (n, sl, f) Q) (h9 : ¬ ((0 : Int32) ≤ x6) → mi_W d 201 45 [some (.ref l1), some (.int l2)] [] (n, sl, f) Q) : mi_W d 201 38 [some (.ref l1), some (.int l2)] [] (n, sl, f) Q := by
  refine w_aload_n cd_201_38 rfl ?_
  refine w_getfield cd_201_39 (show mt_f 12 13 = some (12, 4) by decide +kernel) h4 h5 h7 ?_
  exact w_ifge cd_201_42 (by decide) h8 h9
theorem b_201_45 {d : Nat} {Q : (Option Value ⊕ Nat) → mi_H → Prop} (n sl : Nat) (f : Nat → mi_C) {l1 : Nat} {l2 : Int32} (h3 : ¬ l2 = (0 : Int32) → mi_W d 201 53 [some (.ref l1), some (.int l2)] [] (n, sl, f) Q) (h4 : ¬ (¬ l2 = (0 : Int32)) → mi_W d 201 49 [some (.ref l1), some (.int l2)] [] (n, sl, f) Q) : mi_W d 201 45 [some (.ref l1), some (.int l2)] [] (n, sl, f) Q := by
  refine w_iload_n cd_201_45 rfl ?_
  exact w_ifne cd_201_46 (by decide) h3 h4
theorem b_201_49 {d : Nat} {Q : (Option Value ⊕ Nat) → mi_H → Prop} (n sl : Nat) (f : Nat → mi_C) {l1 : Nat} {l2 : Int32} (h3 : mi_W d 201 54 [some (.ref l1), some (.int l2)] [.int (-1)] (n, sl, f) Q) : mi_W d 201 49 [some (.ref l1), some (.int l2)] [] (n, sl, f) Q := by
  refine w_iconst (v := (-1)) cd_201_49 (by decide) ?_
  exact w_goto cd_201_50 (by decide) h3
theorem b_201_53 {d : Nat} {Q : (Option Value ⊕ Nat) → mi_H → Prop} (n sl : Nat) (f : Nat → mi_C) {l1 : Nat} {l2 : Int32} (h3 : mi_W d 201 54 [some (.ref l1), some (.int l2)] [.int 0] (n, sl, f) Q) : mi_W d 201 53 [some (.ref l1), some (.int l2)] [] (n, sl, f) Q := by
  refine w_iconst (v := 0) cd_201_53 (by decide) ?_
  exact h3
theorem b_201_54 {d : Nat} {Q : (Option Value ⊕ Nat) → mi_H → Prop} (n sl : Nat) (f : Nat → mi_C) {l1 : Nat} {l2 : Int32} {s3 : Int32} (h4 : Q (.inl (some (.int s3))) (n, sl, f)) : mi_W d 201 54 [some (.ref l1), some (.int l2)] [.int s3] (n, sl, f) Q := by
  exact w_ireturn_i cd_201_54 (by decide +kernel) h4
theorem b_201_55 {d : Nat} {Q : (Option Value ⊕ Nat) → mi_H → Prop} (n sl : Nat) (f : Nat → mi_C) {l1 : Nat} {l2 : Int32} {t3 : Nat} (h4 : mi_ts 56 109 0 9 #[56, 64, 69, 74, 79, 84, 89, 94, 99, 104] (l2 : Int32).toInt = some t3) (h5 : mi_W d 201 t3 [some (.ref l1), some (.int l2)] [] (n, sl, f) Q) : mi_W d 201 55 [some (.ref l1), some (.int l2)] [] (n, sl, f) Q := by
  refine w_iload_n cd_201_55 rfl ?_
  exact w_tableswitch cd_201_56 h4 h5
theorem b_201_112 {d : Nat} {Q : (Option Value ⊕ Nat) → mi_H → Prop} (n sl : Nat) (f : Nat → mi_C) {l1 : Nat} {l2 : Int32} {fs3 : List Value} {x6 : Nat} {fs8 : List Value} {x11 : Int32} (h4 : f l1 = .inr (12, fs3)) (h5 : l1 < n) (h7 : fs3[41]? = some (.ref x6)) (h9 : f x6 = .inr (13, fs8)) (h10 : x6 < n) (h12 : fs8[0]? = some (.int x11)) (h13 : Q (.inl (some (.int x11))) (n, sl, f)) : mi_W d 201 112 [some (.ref l1), some (.int l2)] [] (n, sl, f) Q := by
  refine w_aload_n cd_201_112 rfl ?_
  refine w_getfield cd_201_113 (show mt_f 12 147 = some (12, 41) by decide +kernel) h4 h5 h7 ?_
  refine w_getfield cd_201_116 (show mt_f 12 496 = some (13, 0) by decide +kernel) h9 h10 h12 ?_
  exact w_ireturn_i cd_201_119 (by decide +kernel) h13
theorem b_201_120 {d : Nat} {Q : (Option Value ⊕ Nat) → mi_H → Prop} (n sl : Nat) (f : Nat → mi_C) {l1 : Nat} {l2 : Int32} {fs3 : List Value} {x6 : Int32} (h4 : f l1 = .inr (12, fs3)) (h5 : l1 < n) (h7 : fs3[21]? = some (.int x6)) (h8 : Q (.inl (some (.int x6))) (n, sl, f)) : mi_W d 201 120 [some (.ref l1), some (.int l2)] [] (n, sl, f) Q := by
  refine w_aload_n cd_201_120 rfl ?_
  refine w_getfield cd_201_121 (show mt_f 12 282 = some (12, 21) by decide +kernel) h4 h5 h7 ?_
  exact w_ireturn_i cd_201_124 (by decide +kernel) h8
theorem b_201_125 {d : Nat} {Q : (Option Value ⊕ Nat) → mi_H → Prop} (n sl : Nat) (f : Nat → mi_C) {l1 : Nat} {l2 : Int32} {fs3 : List Value} {x6 : Int32} (h4 : f l1 = .inr (12, fs3)) (h5 : l1 < n) (h7 : fs3[24]? = some (.int x6)) (h8 : Q (.inl (some (.int x6))) (n, sl, f)) : mi_W d 201 125 [some (.ref l1), some (.int l2)] [] (n, sl, f) Q := by
  refine w_aload_n cd_201_125 rfl ?_
  refine w_getfield cd_201_126 (show mt_f 12 343 = some (12, 24) by decide +kernel) h4 h5 h7 ?_
  exact w_ireturn_i cd_201_129 (by decide +kernel) h8
theorem b_201_130 {d : Nat} {Q : (Option Value ⊕ Nat) → mi_H → Prop} (n sl : Nat) (f : Nat → mi_C) {l1 : Nat} {l2 : Int32} {fs3 : List Value} {x6 : Int32} (h4 : f l1 = .inr (12, fs3)) (h5 : l1 < n) (h7 : fs3[25]? = some (.int x6)) (h8 : Q (.inl (some (.int x6))) (n, sl, f)) : mi_W d 201 130 [some (.ref l1), some (.int l2)] [] (n, sl, f) Q := by
  refine w_aload_n cd_201_130 rfl ?_
  refine w_getfield cd_201_131 (show mt_f 12 346 = some (12, 25) by decide +kernel) h4 h5 h7 ?_
  exact w_ireturn_i cd_201_134 (by decide +kernel) h8
theorem b_201_135 {d : Nat} {Q : (Option Value ⊕ Nat) → mi_H → Prop} (n sl : Nat) (f : Nat → mi_C) {l1 : Nat} {l2 : Int32} {fs3 : List Value} {x6 : Int32} (h4 : f l1 = .inr (12, fs3)) (h5 : l1 < n) (h7 : fs3[26]? = some (.int x6)) (h8 : Q (.inl (some (.int x6))) (n, sl, f)) : mi_W d 201 135 [some (.ref l1), some (.int l2)] [] (n, sl, f) Q := by
  refine w_aload_n cd_201_135 rfl ?_
  refine w_getfield cd_201_136 (show mt_f 12 349 = some (12, 26) by decide +kernel) h4 h5 h7 ?_
  exact w_ireturn_i cd_201_139 (by decide +kernel) h8
theorem b_201_140 {d : Nat} {Q : (Option Value ⊕ Nat) → mi_H → Prop} (n sl : Nat) (f : Nat → mi_C) {l1 : Nat} {l2 : Int32} {fs3 : List Value} {x6 : Int32} (h4 : f l1 = .inr (12, fs3)) (h5 : l1 < n) (h7 : fs3[27]? = some (.int x6)) (h8 : Q (.inl (some (.int x6))) (n, sl, f)) : mi_W d 201 140 [some (.ref l1), some (.int l2)] [] (n, sl, f) Q := by
  refine w_aload_n cd_201_140 rfl ?_
  refine w_getfield cd_201_141 (show mt_f 12 352 = some (12, 27) by decide +kernel) h4 h5 h7 ?_
  exact w_ireturn_i cd_201_144 (by decide +kernel) h8
theorem b_201_145 {d : Nat} {Q : (Option Value ⊕ Nat) → mi_H → Prop} (n sl : Nat) (f : Nat → mi_C) {l1 : Nat} {l2 : Int32} {fs3 : List Value} {x6 : Int32} (h4 : f l1 = .inr (12, fs3)) (h5 : l1 < n) (h7 : fs3[59]? = some (.int x6)) (h8 : Q (.inl (some (.int x6))) (n, sl, f)) : mi_W d 201 145 [some (.ref l1), some (.int l2)] [] (n, sl, f) Q := by
  refine w_aload_n cd_201_145 rfl ?_
  refine w_getfield cd_201_146 (show mt_f 12 258 = some (12, 59) by decide +kernel) h4 h5 h7 ?_
  exact w_ireturn_i cd_201_149 (by decide +kernel) h8
theorem b_201_150 {d : Nat} {Q : (Option Value ⊕ Nat) → mi_H → Prop} (n sl : Nat) (f : Nat → mi_C) {l1 : Nat} {l2 : Int32} {fs3 : List Value} {x6 : Int32} (h4 : f l1 = .inr (12, fs3)) (h5 : l1 < n) (h7 : fs3[65]? = some (.int x6)) (h8 : Q (.inl (some (.int x6))) (n, sl, f)) : mi_W d 201 150 [some (.ref l1), some (.int l2)] [] (n, sl, f) Q := by
  refine w_aload_n cd_201_150 rfl ?_
  refine w_getfield cd_201_151 (show mt_f 12 536 = some (12, 65) by decide +kernel) h4 h5 h7 ?_
  exact w_ireturn_i cd_201_154 (by decide +kernel) h8
theorem b_201_155 {d : Nat} {Q : (Option Value ⊕ Nat) → mi_H → Prop} (n sl : Nat) (f : Nat → mi_C) {l1 : Nat} {l2 : Int32} {fs3 : List Value} {x6 : Int32} (h4 : f l1 = .inr (12, fs3)) (h5 : l1 < n) (h7 : fs3[66]? = some (.int x6)) (h8 : Q (.inl (some (.int x6))) (n, sl, f)) : mi_W d 201 155 [some (.ref l1), some (.int l2)] [] (n, sl, f) Q := by
  refine w_aload_n cd_201_155 rfl ?_
  refine w_getfield cd_201_156 (show mt_f 12 539 = some (12, 66) by decide +kernel) h4 h5 h7 ?_
  exact w_ireturn_i cd_201_159 (by decide +kernel) h8
theorem b_201_160 {d : Nat} {Q : (Option Value ⊕ Nat) → mi_H → Prop} (n sl : Nat) (f : Nat → mi_C) {l1 : Nat} {l2 : Int32} {fs3 : List Value} {x6 : Int32} (h4 : f l1 = .inr (12, fs3)) (h5 : l1 < n) (h7 : fs3[73]? = some (.int x6)) (h8 : Q (.inl (some (.int x6))) (n, sl, f)) : mi_W d 201 160 [some (.ref l1), some (.int l2)] [] (n, sl, f) Q := by
  refine w_aload_n cd_201_160 rfl ?_
  refine w_getfield cd_201_161 (show mt_f 12 562 = some (12, 73) by decide +kernel) h4 h5 h7 ?_
  exact w_ireturn_i cd_201_164 (by decide +kernel) h8
theorem b_201_165 {d : Nat} {Q : (Option Value ⊕ Nat) → mi_H → Prop} (n sl : Nat) (f : Nat → mi_C) {l1 : Nat} {l2 : Int32} {fs3 : List Value} {x6 : Int32} (h4 : f l1 = .inr (12, fs3)) (h5 : l1 < n) (h7 : fs3[75]? = some (.int x6)) (h8 : Q (.inl (some (.int x6))) (n, sl, f)) : mi_W d 201 165 [some (.ref l1), some (.int l2)] [] (n, sl, f) Q := by
  refine w_aload_n cd_201_165 rfl ?_
  refine w_getfield cd_201_166 (show mt_f 12 565 = some (12, 75) by decide +kernel) h4 h5 h7 ?_
  exact w_ireturn_i cd_201_169 (by decide +kernel) h8
/-! MarloweHost.state(III)J -/
set_option maxRecDepth 100000 in
theorem mq_116 : mt_q 116 = my_116 := rfl
set_option maxRecDepth 100000 in
theorem ci_116 : mt_inc 0 my_116.cd = true := by decide +kernel
theorem cd_116_0 : mt_cd 116 0 = some (.iload_n 1) := mt_cd_of (q := (0, .iload_n 1, 1)) mq_116 ci_116 (List.mem_of_getElem? (i := 0) rfl)
theorem cd_116_1 : mt_cd 116 1 = some (.ifCond .lt 22) := mt_cd_of (q := (1, .ifCond .lt 22, 3)) mq_116 ci_116 (List.mem_of_getElem? (i := 1) rfl)
theorem cd_116_4 : mt_cd 116 4 = some (.iload_n 1) := mt_cd_of (q := (4, .iload_n 1, 1)) mq_116 ci_116 (List.mem_of_getElem? (i := 2) rfl)
theorem cd_116_5 : mt_cd 116 5 = some (.iconst 4) := mt_cd_of (q := (5, .iconst 4, 1)) mq_116 ci_116 (List.mem_of_getElem? (i := 3) rfl)
theorem cd_116_6 : mt_cd 116 6 = some (.if_icmp .gt 17) := mt_cd_of (q := (6, .if_icmp .gt 17, 3)) mq_116 ci_116 (List.mem_of_getElem? (i := 4) rfl)
theorem cd_116_9 : mt_cd 116 9 = some (.iload_n 2) := mt_cd_of (q := (9, .iload_n 2, 1)) mq_116 ci_116 (List.mem_of_getElem? (i := 5) rfl)
theorem cd_116_10 : mt_cd 116 10 = some (.invokestatic 114) := mt_cd_of (q := (10, .invokestatic 114, 3)) mq_116 ci_116 (List.mem_of_getElem? (i := 6) rfl)
theorem cd_116_13 : mt_cd 116 13 = some (.ifCond .eq 10) := mt_cd_of (q := (13, .ifCond .eq 10, 3)) mq_116 ci_116 (List.mem_of_getElem? (i := 7) rfl)
theorem cd_116_16 : mt_cd 116 16 = some (.iload_n 3) := mt_cd_of (q := (16, .iload_n 3, 1)) mq_116 ci_116 (List.mem_of_getElem? (i := 8) rfl)
theorem cd_116_17 : mt_cd 116 17 = some (.invokestatic 118) := mt_cd_of (q := (17, .invokestatic 118, 3)) mq_116 ci_116 (List.mem_of_getElem? (i := 9) rfl)
theorem cd_116_20 : mt_cd 116 20 = some (.ifCond .ne 13) := mt_cd_of (q := (20, .ifCond .ne 13, 3)) mq_116 ci_116 (List.mem_of_getElem? (i := 10) rfl)
theorem cd_116_23 : mt_cd 116 23 = some (.new 123) := mt_cd_of (q := (23, .new 123, 3)) mq_116 ci_116 (List.mem_of_getElem? (i := 11) rfl)
theorem cd_116_26 : mt_cd 116 26 = some (.dup) := mt_cd_of (q := (26, .dup, 1)) mq_116 ci_116 (List.mem_of_getElem? (i := 12) rfl)
theorem cd_116_27 : mt_cd 116 27 = some (.ldc 191) := mt_cd_of (q := (27, .ldc 191, 2)) mq_116 ci_116 (List.mem_of_getElem? (i := 13) rfl)
theorem cd_116_29 : mt_cd 116 29 = some (.invokespecial 127) := mt_cd_of (q := (29, .invokespecial 127, 3)) mq_116 ci_116 (List.mem_of_getElem? (i := 14) rfl)
theorem cd_116_32 : mt_cd 116 32 = some (.athrow) := mt_cd_of (q := (32, .athrow, 1)) mq_116 ci_116 (List.mem_of_getElem? (i := 15) rfl)
theorem cd_116_33 : mt_cd 116 33 = some (.iload_n 1) := mt_cd_of (q := (33, .iload_n 1, 1)) mq_116 ci_116 (List.mem_of_getElem? (i := 16) rfl)
theorem cd_116_34 : mt_cd 116 34 = some (.iconst 1) := mt_cd_of (q := (34, .iconst 1, 1)) mq_116 ci_116 (List.mem_of_getElem? (i := 17) rfl)
theorem cd_116_35 : mt_cd 116 35 = some (.if_icmp .ne 17) := mt_cd_of (q := (35, .if_icmp .ne 17, 3)) mq_116 ci_116 (List.mem_of_getElem? (i := 18) rfl)
theorem cd_116_38 : mt_cd 116 38 = some (.aload_n 0) := mt_cd_of (q := (38, .aload_n 0, 1)) mq_116 ci_116 (List.mem_of_getElem? (i := 19) rfl)
theorem cd_116_39 : mt_cd 116 39 = some (.getfield 35) := mt_cd_of (q := (39, .getfield 35, 3)) mq_116 ci_116 (List.mem_of_getElem? (i := 20) rfl)
theorem cd_116_42 : mt_cd 116 42 = some (.getfield 128) := mt_cd_of (q := (42, .getfield 128, 3)) mq_116 ci_116 (List.mem_of_getElem? (i := 21) rfl)
theorem cd_116_45 : mt_cd 116 45 = some (.iload_n 2) := mt_cd_of (q := (45, .iload_n 2, 1)) mq_116 ci_116 (List.mem_of_getElem? (i := 22) rfl)
theorem cd_116_46 : mt_cd 116 46 = some (.iconst 4) := mt_cd_of (q := (46, .iconst 4, 1)) mq_116 ci_116 (List.mem_of_getElem? (i := 23) rfl)
theorem cd_116_47 : mt_cd 116 47 = some (.imul) := mt_cd_of (q := (47, .imul, 1)) mq_116 ci_116 (List.mem_of_getElem? (i := 24) rfl)
theorem cd_116_48 : mt_cd 116 48 = some (.iload_n 3) := mt_cd_of (q := (48, .iload_n 3, 1)) mq_116 ci_116 (List.mem_of_getElem? (i := 25) rfl)
theorem cd_116_49 : mt_cd 116 49 = some (.iadd) := mt_cd_of (q := (49, .iadd, 1)) mq_116 ci_116 (List.mem_of_getElem? (i := 26) rfl)
theorem cd_116_50 : mt_cd 116 50 = some (.laload) := mt_cd_of (q := (50, .laload, 1)) mq_116 ci_116 (List.mem_of_getElem? (i := 27) rfl)
theorem cd_116_51 : mt_cd 116 51 = some (.lreturn) := mt_cd_of (q := (51, .lreturn, 1)) mq_116 ci_116 (List.mem_of_getElem? (i := 28) rfl)
theorem cd_116_52 : mt_cd 116 52 = some (.aload_n 0) := mt_cd_of (q := (52, .aload_n 0, 1)) mq_116 ci_116 (List.mem_of_getElem? (i := 29) rfl)
theorem cd_116_53 : mt_cd 116 53 = some (.invokevirtual 143) := mt_cd_of (q := (53, .invokevirtual 143, 3)) mq_116 ci_116 (List.mem_of_getElem? (i := 30) rfl)
theorem cd_116_56 : mt_cd 116 56 = some (.iload_n 1) := mt_cd_of (q := (56, .iload_n 1, 1)) mq_116 ci_116 (List.mem_of_getElem? (i := 31) rfl)
theorem cd_116_57 : mt_cd 116 57 = some (.tableswitch 65 0 3 #[31, 65, 45, 55]) := mt_cd_of (q := (57, .tableswitch 65 0 3 #[31, 65, 45, 55], 31)) mq_116 ci_116 (List.mem_of_getElem? (i := 32) rfl)
theorem cd_116_88 : mt_cd 116 88 = some (.aload_n 0) := mt_cd_of (q := (88, .aload_n 0, 1)) mq_116 ci_116 (List.mem_of_getElem? (i := 33) rfl)
theorem cd_116_89 : mt_cd 116 89 = some (.getfield 67) := mt_cd_of (q := (89, .getfield 67, 3)) mq_116 ci_116 (List.mem_of_getElem? (i := 34) rfl)
theorem cd_116_92 : mt_cd 116 92 = some (.getfield 193) := mt_cd_of (q := (92, .getfield 193, 3)) mq_116 ci_116 (List.mem_of_getElem? (i := 35) rfl)
theorem cd_116_95 : mt_cd 116 95 = some (.iload_n 2) := mt_cd_of (q := (95, .iload_n 2, 1)) mq_116 ci_116 (List.mem_of_getElem? (i := 36) rfl)
theorem cd_116_96 : mt_cd 116 96 = some (.iconst 4) := mt_cd_of (q := (96, .iconst 4, 1)) mq_116 ci_116 (List.mem_of_getElem? (i := 37) rfl)
theorem cd_116_97 : mt_cd 116 97 = some (.imul) := mt_cd_of (q := (97, .imul, 1)) mq_116 ci_116 (List.mem_of_getElem? (i := 38) rfl)
theorem cd_116_98 : mt_cd 116 98 = some (.iload_n 3) := mt_cd_of (q := (98, .iload_n 3, 1)) mq_116 ci_116 (List.mem_of_getElem? (i := 39) rfl)
theorem cd_116_99 : mt_cd 116 99 = some (.iadd) := mt_cd_of (q := (99, .iadd, 1)) mq_116 ci_116 (List.mem_of_getElem? (i := 40) rfl)
theorem cd_116_100 : mt_cd 116 100 = some (.laload) := mt_cd_of (q := (100, .laload, 1)) mq_116 ci_116 (List.mem_of_getElem? (i := 41) rfl)
theorem cd_116_101 : mt_cd 116 101 = some (.lreturn) := mt_cd_of (q := (101, .lreturn, 1)) mq_116 ci_116 (List.mem_of_getElem? (i := 42) rfl)
theorem cd_116_102 : mt_cd 116 102 = some (.aload_n 0) := mt_cd_of (q := (102, .aload_n 0, 1)) mq_116 ci_116 (List.mem_of_getElem? (i := 43) rfl)
theorem cd_116_103 : mt_cd 116 103 = some (.getfield 67) := mt_cd_of (q := (103, .getfield 67, 3)) mq_116 ci_116 (List.mem_of_getElem? (i := 44) rfl)
theorem cd_116_106 : mt_cd 116 106 = some (.getfield 196) := mt_cd_of (q := (106, .getfield 196, 3)) mq_116 ci_116 (List.mem_of_getElem? (i := 45) rfl)
theorem cd_116_109 : mt_cd 116 109 = some (.iload_n 2) := mt_cd_of (q := (109, .iload_n 2, 1)) mq_116 ci_116 (List.mem_of_getElem? (i := 46) rfl)
theorem cd_116_110 : mt_cd 116 110 = some (.laload) := mt_cd_of (q := (110, .laload, 1)) mq_116 ci_116 (List.mem_of_getElem? (i := 47) rfl)
theorem cd_116_111 : mt_cd 116 111 = some (.lreturn) := mt_cd_of (q := (111, .lreturn, 1)) mq_116 ci_116 (List.mem_of_getElem? (i := 48) rfl)
theorem cd_116_112 : mt_cd 116 112 = some (.aload_n 0) := mt_cd_of (q := (112, .aload_n 0, 1)) mq_116 ci_116 (List.mem_of_getElem? (i := 49) rfl)
theorem cd_116_113 : mt_cd 116 113 = some (.getfield 67) := mt_cd_of (q := (113, .getfield 67, 3)) mq_116 ci_116 (List.mem_of_getElem? (i := 50) rfl)
theorem cd_116_116 : mt_cd 116 116 = some (.getfield 199) := mt_cd_of (q := (116, .getfield 199, 3)) mq_116 ci_116 (List.mem_of_getElem? (i := 51) rfl)
theorem cd_116_119 : mt_cd 116 119 = some (.iload_n 2) := mt_cd_of (q := (119, .iload_n 2, 1)) mq_116 ci_116 (List.mem_of_getElem? (i := 52) rfl)
theorem cd_116_120 : mt_cd 116 120 = some (.laload) := mt_cd_of (q := (120, .laload, 1)) mq_116 ci_116 (List.mem_of_getElem? (i := 53) rfl)
theorem cd_116_121 : mt_cd 116 121 = some (.lreturn) := mt_cd_of (q := (121, .lreturn, 1)) mq_116 ci_116 (List.mem_of_getElem? (i := 54) rfl)
theorem cd_116_122 : mt_cd 116 122 = some (.aload_n 0) := mt_cd_of (q := (122, .aload_n 0, 1)) mq_116 ci_116 (List.mem_of_getElem? (i := 55) rfl)
theorem cd_116_123 : mt_cd 116 123 = some (.getfield 67) := mt_cd_of (q := (123, .getfield 67, 3)) mq_116 ci_116 (List.mem_of_getElem? (i := 56) rfl)
theorem cd_116_126 : mt_cd 116 126 = some (.getfield 202) := mt_cd_of (q := (126, .getfield 202, 3)) mq_116 ci_116 (List.mem_of_getElem? (i := 57) rfl)
theorem cd_116_129 : mt_cd 116 129 = some (.lreturn) := mt_cd_of (q := (129, .lreturn, 1)) mq_116 ci_116 (List.mem_of_getElem? (i := 58) rfl)
theorem b_116_0 {d : Nat} {Q : (Option Value ⊕ Nat) → mi_H → Prop} (n sl : Nat) (f : Nat → mi_C) {l1 : Nat} {l2 : Int32} {l3 : Int32} {l4 : Int32} (h5 : l2 < (0 : Int32) → mi_W d 116 23 [some (.ref l1), some (.int l2), some (.int l3), some (.int l4)] [] (n, sl, f) Q) (h6 : ¬ (l2 < (0 : Int32)) → mi_W d 116 4 [some (.ref l1), some (.int l2), some (.int l3), some (.int l4)] [] (n, sl, f) Q) : mi_W d 116 0 [some (.ref l1), some (.int l2), some (.int l3), some (.int l4)] [] (n, sl, f) Q := by
  refine w_iload_n cd_116_0 rfl ?_
  exact w_iflt cd_116_1 (by decide) h5 h6
theorem b_116_4 {d : Nat} {Q : (Option Value ⊕ Nat) → mi_H → Prop} (n sl : Nat) (f : Nat → mi_C) {l1 : Nat} {l2 : Int32} {l3 : Int32} {l4 : Int32} (h5 : 4 < l2 → mi_W d 116 23 [some (.ref l1), some (.int l2), some (.int l3), some (.int l4)] [] (n, sl, f) Q) (h6 : ¬ (4 < l2) → mi_W d 116 9 [some (.ref l1), some (.int l2), some (.int l3), some (.int l4)] [] (n, sl, f) Q) : mi_W d 116 4 [some (.ref l1), some (.int l2), some (.int l3), some (.int l4)] [] (n, sl, f) Q := by
  refine w_iload_n cd_116_4 rfl ?_
  refine w_iconst (v := 4) cd_116_5 (by decide) ?_
  exact w_if_icmpgt cd_116_6 (by decide) h5 h6
theorem b_116_9 {d : Nat} {Q : (Option Value ⊕ Nat) → mi_H → Prop} (n sl : Nat) (f : Nat → mi_C) {l1 : Nat} {l2 : Int32} {l3 : Int32} {l4 : Int32} (h5 : mi_W d 58 0 (mi_en 1 [.int l3]) [] (n, sl, f) (mi_Kc d 116 10 [some (.ref l1), some (.int l2), some (.int l3), some (.int l4)] [] Q)) : mi_W (d + 1) 116 9 [some (.ref l1), some (.int l2), some (.int l3), some (.int l4)] [] (n, sl, f) Q := by
  refine w_iload_n cd_116_9 rfl ?_
  exact w_invokestatic cd_116_10 (show mt_m 0 114 = some (58, 4) by decide +kernel) (by decide) (rest := []) rfl (as := [.int l3]) rfl ⟨Nat.le_of_ble_eq_true rfl, Nat.le_of_ble_eq_true rfl, Nat.le_of_ble_eq_true rfl⟩ h5
theorem b_116_13 {d : Nat} {Q : (Option Value ⊕ Nat) → mi_H → Prop} (n sl : Nat) (f : Nat → mi_C) {l1 : Nat} {l2 : Int32} {l3 : Int32} {l4 : Int32} {s5 : Int32} (h6 : s5 = (0 : Int32) → mi_W d 116 23 [some (.ref l1), some (.int l2), some (.int l3), some (.int l4)] [] (n, sl, f) Q) (h7 : ¬ (s5 = (0 : Int32)) → mi_W d 116 16 [some (.ref l1), some (.int l2), some (.int l3), some (.int l4)] [] (n, sl, f) Q) : mi_W d 116 13 [some (.ref l1), some (.int l2), some (.int l3), some (.int l4)] [.int s5] (n, sl, f) Q := by
  exact w_ifeq cd_116_13 (by decide) h6 h7
theorem b_116_16 {d : Nat} {Q : (Option Value ⊕ Nat) → mi_H → Prop} (n sl : Nat) (f : Nat → mi_C) {l1 : Nat} {l2 : Int32} {l3 : Int32} {l4 : Int32} (h5 : mi_W d 59 0 (mi_en 1 [.int l4]) [] (n, sl, f) (mi_Kc d 116 17 [some (.ref l1), some (.int l2), some (.int l3), some (.int l4)] [] Q)) : mi_W (d + 1) 116 16 [some (.ref l1), some (.int l2), some (.int l3), some (.int l4)] [] (n, sl, f) Q := by
  refine w_iload_n cd_116_16 rfl ?_
  exact w_invokestatic cd_116_17 (show mt_m 0 118 = some (59, 4) by decide +kernel) (by decide) (rest := []) rfl (as := [.int l4]) rfl ⟨Nat.le_of_ble_eq_true rfl, Nat.le_of_ble_eq_true rfl, Nat.le_of_ble_eq_true rfl⟩ h5
theorem b_116_20 {d : Nat} {Q : (Option Value ⊕ Nat) → mi_H → Prop} (n sl : Nat) (f : Nat → mi_C) {l1 : Nat} {l2 : Int32} {l3 : Int32} {l4 : Int32} {s5 : Int32} (h6 : ¬ s5 = (0 : Int32) → mi_W d 116 33 [some (.ref l1), some (.int l2), some (.int l3), some (.int l4)] [] (n, sl, f) Q) (h7 : ¬ (¬ s5 = (0 : Int32)) → mi_W d 116 23 [some (.ref l1), some (.int l2), some (.int l3), some (.int l4)] [] (n, sl, f) Q) : mi_W d 116 20 [some (.ref l1), some (.int l2), some (.int l3), some (.int l4)] [.int s5] (n, sl, f) Q := by
  exact w_ifne cd_116_20 (by decide) h6 h7
theorem b_116_23 {d : Nat} {Q : (Option Value ⊕ Nat) → mi_H → Prop} (n sl : Nat) (f : Nat → mi_C) {l1 : Nat} {l2 : Int32} {l3 : Int32} {l4 : Int32} {h' : mi_H} (h5 : mi_t 116 23 (.new 123) [] (n, sl, f) = some h') (h6 : Q (.inr n) h') : mi_W d 116 23 [some (.ref l1), some (.int l2), some (.int l3), some (.int l4)] [] (n, sl, f) Q := by
  exact w_throw cd_116_23 (show mt_c 0 123 = some 15 by decide +kernel) (by decide) h5 h6
theorem b_116_33 {d : Nat} {Q : (Option Value ⊕ Nat) → mi_H → Prop} (n sl : Nat) (f : Nat → mi_C) {l1 : Nat} {l2 : Int32} {l3 : Int32} {l4 : Int32} (h5 : ¬ l2 = 1 → mi_W d 116 52 [some (.ref l1), some (.int l2), some (.int l3), some (.int l4)] [] (n, sl, f) Q) (h6 : ¬ (¬ l2 = 1) → mi_W d 116 38 [some (.ref l1), some (.int l2), some (.int l3), some (.int l4)] [] (n, sl, f) Q) : mi_W d 116 33 [some (.ref l1), some (.int l2), some (.int l3), some (.int l4)] [] (n, sl, f) Q := by
  refine w_iload_n cd_116_33 rfl ?_
  refine w_iconst (v := 1) cd_116_34 (by decide) ?_
  exact w_if_icmpne cd_116_35 (by decide) h5 h6
theorem b_116_38 {d : Nat} {Q : (Option Value ⊕ Nat) → mi_H → Prop} (n sl : Nat) (f : Nat → mi_C) {l1 : Nat} {l2 : Int32} {l3 : Int32} {l4 : Int32} {fs5 : List Value} {x8 : Nat} {fs10 : List Value} {x13 : Nat} (m15 i15 : Nat) (g15 : Nat → Int64) (h6 : f l1 = .inr (0, fs5)) (h7 : l1 < n) (h9 : fs5[3]? = some (.ref x8)) (h11 : f x8 = .inr (5, fs10)) (h12 : x8 < n) (h14 : fs10[0]? = some (.ref x13)) (h16 : f x13 = .inl (3, m15, .inr (.inl g15))) (h17 : x13 < n) (h18 : mi_ix ((l3 * 4) + l4) m15 i15) (h19 : Q (.inl (some (.long (g15 i15)))) (n, sl, f)) : mi_W d 116 38 [some (.ref l1), some (.int l2), some (.int l3), some (.int l4)] [] (n, sl, f) Q := by
  refine w_aload_n cd_116_38 rfl ?_
  refine w_getfield cd_116_39 (show mt_f 0 35 = some (0, 3) by decide +kernel) h6 h7 h9 ?_
  refine w_getfield cd_116_42 (show mt_f 0 128 = some (5, 0) by decide +kernel) h11 h12 h14 ?_
  refine w_iload_n cd_116_45 rfl ?_
  refine w_iconst (v := 4) cd_116_46 (by decide) ?_
  refine w_imul cd_116_47 ?_
  refine w_iload_n cd_116_48 rfl ?_
  refine w_iadd cd_116_49 ?_
  refine w_laload cd_116_50 h16 h17 h18 ?_
  exact w_lreturn cd_116_51 (by decide +kernel) h19
theorem b_116_52 {d : Nat} {Q : (Option Value ⊕ Nat) → mi_H → Prop} (n sl : Nat) (f : Nat → mi_C) {l1 : Nat} {l2 : Int32} {l3 : Int32} {l4 : Int32} {fs5 : List Value} (h6 : f l1 = .inr (0, fs5)) (h7 : l1 < n) (h8 : mi_W d 70 0 (mi_en 1 [.ref l1]) [] (n, sl, f) (mi_Kc d 116 53 [some (.ref l1), some (.int l2), some (.int l3), some (.int l4)] [] Q)) : mi_W (d + 1) 116 52 [some (.ref l1), some (.int l2), some (.int l3), some (.int l4)] [] (n, sl, f) Q := by
  refine w_aload_n cd_116_52 rfl ?_
  exact w_invokevirtual cd_116_53 (show mt_m 0 143 = some (70, 0) by decide +kernel) (rest := []) rfl (as := [.ref l1]) rfl h6 (Or.inl h7) ⟨Nat.le_of_ble_eq_true rfl, Nat.le_of_ble_eq_true rfl, Nat.le_of_ble_eq_true rfl⟩ h8
theorem b_116_56 {d : Nat} {Q : (Option Value ⊕ Nat) → mi_H → Prop} (n sl : Nat) (f : Nat → mi_C) {l1 : Nat} {l2 : Int32} {l3 : Int32} {l4 : Int32} {t5 : Nat} (h6 : mi_ts 57 65 0 3 #[31, 65, 45, 55] (l2 : Int32).toInt = some t5) (h7 : mi_W d 116 t5 [some (.ref l1), some (.int l2), some (.int l3), some (.int l4)] [] (n, sl, f) Q) : mi_W d 116 56 [some (.ref l1), some (.int l2), some (.int l3), some (.int l4)] [] (n, sl, f) Q := by
  refine w_iload_n cd_116_56 rfl ?_
  exact w_tableswitch cd_116_57 h6 h7
theorem b_116_88 {d : Nat} {Q : (Option Value ⊕ Nat) → mi_H → Prop} (n sl : Nat) (f : Nat → mi_C) {l1 : Nat} {l2 : Int32} {l3 : Int32} {l4 : Int32} {fs5 : List Value} {x8 : Nat} {fs10 : List Value} {x13 : Nat} (m15 i15 : Nat) (g15 : Nat → Int64) (h6 : f l1 = .inr (0, fs5)) (h7 : l1 < n) (h9 : fs5[7]? = some (.ref x8)) (h11 : f x8 = .inr (9, fs10)) (h12 : x8 < n) (h14 : fs10[2]? = some (.ref x13)) (h16 : f x13 = .inl (3, m15, .inr (.inl g15))) (h17 : x13 < n) (h18 : mi_ix ((l3 * 4) + l4) m15 i15) (h19 : Q (.inl (some (.long (g15 i15)))) (n, sl, f)) : mi_W d 116 88 [some (.ref l1), some (.int l2), some (.int l3), some (.int l4)] [] (n, sl, f) Q := by
  refine w_aload_n cd_116_88 rfl ?_
  refine w_getfield cd_116_89 (show mt_f 0 67 = some (0, 7) by decide +kernel) h6 h7 h9 ?_
  refine w_getfield cd_116_92 (show mt_f 0 193 = some (9, 2) by decide +kernel) h11 h12 h14 ?_
  refine w_iload_n cd_116_95 rfl ?_
  refine w_iconst (v := 4) cd_116_96 (by decide) ?_
  refine w_imul cd_116_97 ?_
  refine w_iload_n cd_116_98 rfl ?_
  refine w_iadd cd_116_99 ?_
  refine w_laload cd_116_100 h16 h17 h18 ?_
  exact w_lreturn cd_116_101 (by decide +kernel) h19
theorem b_116_102 {d : Nat} {Q : (Option Value ⊕ Nat) → mi_H → Prop} (n sl : Nat) (f : Nat → mi_C) {l1 : Nat} {l2 : Int32} {l3 : Int32} {l4 : Int32} {fs5 : List Value} {x8 : Nat} {fs10 : List Value} {x13 : Nat} (m15 i15 : Nat) (g15 : Nat → Int64) (h6 : f l1 = .inr (0, fs5)) (h7 : l1 < n) (h9 : fs5[7]? = some (.ref x8)) (h11 : f x8 = .inr (9, fs10)) (h12 : x8 < n) (h14 : fs10[3]? = some (.ref x13)) (h16 : f x13 = .inl (3, m15, .inr (.inl g15))) (h17 : x13 < n) (h18 : mi_ix l3 m15 i15) (h19 : Q (.inl (some (.long (g15 i15)))) (n, sl, f)) : mi_W d 116 102 [some (.ref l1), some (.int l2), some (.int l3), some (.int l4)] [] (n, sl, f) Q := by
  refine w_aload_n cd_116_102 rfl ?_
  refine w_getfield cd_116_103 (show mt_f 0 67 = some (0, 7) by decide +kernel) h6 h7 h9 ?_
  refine w_getfield cd_116_106 (show mt_f 0 196 = some (9, 3) by decide +kernel) h11 h12 h14 ?_
  refine w_iload_n cd_116_109 rfl ?_
  refine w_laload cd_116_110 h16 h17 h18 ?_
  exact w_lreturn cd_116_111 (by decide +kernel) h19
theorem b_116_112 {d : Nat} {Q : (Option Value ⊕ Nat) → mi_H → Prop} (n sl : Nat) (f : Nat → mi_C) {l1 : Nat} {l2 : Int32} {l3 : Int32} {l4 : Int32} {fs5 : List Value} {x8 : Nat} {fs10 : List Value} {x13 : Nat} (m15 i15 : Nat) (g15 : Nat → Int64) (h6 : f l1 = .inr (0, fs5)) (h7 : l1 < n) (h9 : fs5[7]? = some (.ref x8)) (h11 : f x8 = .inr (9, fs10)) (h12 : x8 < n) (h14 : fs10[4]? = some (.ref x13)) (h16 : f x13 = .inl (3, m15, .inr (.inl g15))) (h17 : x13 < n) (h18 : mi_ix l3 m15 i15) (h19 : Q (.inl (some (.long (g15 i15)))) (n, sl, f)) : mi_W d 116 112 [some (.ref l1), some (.int l2), some (.int l3), some (.int l4)] [] (n, sl, f) Q := by
  refine w_aload_n cd_116_112 rfl ?_
  refine w_getfield cd_116_113 (show mt_f 0 67 = some (0, 7) by decide +kernel) h6 h7 h9 ?_
  refine w_getfield cd_116_116 (show mt_f 0 199 = some (9, 4) by decide +kernel) h11 h12 h14 ?_
  refine w_iload_n cd_116_119 rfl ?_
  refine w_laload cd_116_120 h16 h17 h18 ?_
  exact w_lreturn cd_116_121 (by decide +kernel) h19
theorem b_116_122 {d : Nat} {Q : (Option Value ⊕ Nat) → mi_H → Prop} (n sl : Nat) (f : Nat → mi_C) {l1 : Nat} {l2 : Int32} {l3 : Int32} {l4 : Int32} {fs5 : List Value} {x8 : Nat} {fs10 : List Value} {x13 : Int64} (h6 : f l1 = .inr (0, fs5)) (h7 : l1 < n) (h9 : fs5[7]? = some (.ref x8)) (h11 : f x8 = .inr (9, fs10)) (h12 : x8 < n) (h14 : fs10[1]? = some (.long x13)) (h15 : Q (.inl (some (.long x13))) (n, sl, f)) : mi_W d 116 122 [some (.ref l1), some (.int l2), some (.int l3), some (.int l4)] [] (n, sl, f) Q := by
  refine w_aload_n cd_116_122 rfl ?_
  refine w_getfield cd_116_123 (show mt_f 0 67 = some (0, 7) by decide +kernel) h6 h7 h9 ?_
  refine w_getfield cd_116_126 (show mt_f 0 202 = some (9, 1) by decide +kernel) h11 h12 h14 ?_
  exact w_lreturn cd_116_129 (by decide +kernel) h15
/-! MarloweHostModel.wallet(IIJ)J -/
set_option maxRecDepth 100000 in
theorem mq_184 : mt_q 184 = my_184 := rfl
set_option maxRecDepth 100000 in
theorem ci_184 : mt_inc 0 my_184.cd = true := by decide +kernel
theorem cd_184_0 : mt_cd 184 0 = some (.aload_n 0) := mt_cd_of (q := (0, .aload_n 0, 1)) mq_184 ci_184 (List.mem_of_getElem? (i := 0) rfl)
theorem cd_184_1 : mt_cd 184 1 = some (.iconst 0) := mt_cd_of (q := (1, .iconst 0, 1)) mq_184 ci_184 (List.mem_of_getElem? (i := 1) rfl)
theorem cd_184_2 : mt_cd 184 2 = some (.putfield 248) := mt_cd_of (q := (2, .putfield 248, 3)) mq_184 ci_184 (List.mem_of_getElem? (i := 2) rfl)
theorem cd_184_5 : mt_cd 184 5 = some (.aload_n 0) := mt_cd_of (q := (5, .aload_n 0, 1)) mq_184 ci_184 (List.mem_of_getElem? (i := 3) rfl)
theorem cd_184_6 : mt_cd 184 6 = some (.iload_n 1) := mt_cd_of (q := (6, .iload_n 1, 1)) mq_184 ci_184 (List.mem_of_getElem? (i := 4) rfl)
theorem cd_184_7 : mt_cd 184 7 = some (.i2l) := mt_cd_of (q := (7, .i2l, 1)) mq_184 ci_184 (List.mem_of_getElem? (i := 5) rfl)
theorem cd_184_8 : mt_cd 184 8 = some (.lconst 0) := mt_cd_of (q := (8, .lconst 0, 1)) mq_184 ci_184 (List.mem_of_getElem? (i := 6) rfl)
theorem cd_184_9 : mt_cd 184 9 = some (.ldc2_w 542) := mt_cd_of (q := (9, .ldc2_w 542, 3)) mq_184 ci_184 (List.mem_of_getElem? (i := 7) rfl)
theorem cd_184_12 : mt_cd 184 12 = some (.invokestatic 268) := mt_cd_of (q := (12, .invokestatic 268, 3)) mq_184 ci_184 (List.mem_of_getElem? (i := 8) rfl)
theorem cd_184_15 : mt_cd 184 15 = some (.ifCond .eq 26) := mt_cd_of (q := (15, .ifCond .eq 26, 3)) mq_184 ci_184 (List.mem_of_getElem? (i := 9) rfl)
theorem cd_184_18 : mt_cd 184 18 = some (.iload_n 2) := mt_cd_of (q := (18, .iload_n 2, 1)) mq_184 ci_184 (List.mem_of_getElem? (i := 10) rfl)
theorem cd_184_19 : mt_cd 184 19 = some (.i2l) := mt_cd_of (q := (19, .i2l, 1)) mq_184 ci_184 (List.mem_of_getElem? (i := 11) rfl)
theorem cd_184_20 : mt_cd 184 20 = some (.lconst 0) := mt_cd_of (q := (20, .lconst 0, 1)) mq_184 ci_184 (List.mem_of_getElem? (i := 12) rfl)
theorem cd_184_21 : mt_cd 184 21 = some (.ldc2_w 544) := mt_cd_of (q := (21, .ldc2_w 544, 3)) mq_184 ci_184 (List.mem_of_getElem? (i := 13) rfl)
theorem cd_184_24 : mt_cd 184 24 = some (.invokestatic 268) := mt_cd_of (q := (24, .invokestatic 268, 3)) mq_184 ci_184 (List.mem_of_getElem? (i := 14) rfl)
theorem cd_184_27 : mt_cd 184 27 = some (.ifCond .eq 14) := mt_cd_of (q := (27, .ifCond .eq 14, 3)) mq_184 ci_184 (List.mem_of_getElem? (i := 15) rfl)
theorem cd_184_30 : mt_cd 184 30 = some (.lload_n 3) := mt_cd_of (q := (30, .lload_n 3, 1)) mq_184 ci_184 (List.mem_of_getElem? (i := 16) rfl)
theorem cd_184_31 : mt_cd 184 31 = some (.lconst 0) := mt_cd_of (q := (31, .lconst 0, 1)) mq_184 ci_184 (List.mem_of_getElem? (i := 17) rfl)
theorem cd_184_32 : mt_cd 184 32 = some (.ldc2_w 546) := mt_cd_of (q := (32, .ldc2_w 546, 3)) mq_184 ci_184 (List.mem_of_getElem? (i := 18) rfl)
theorem cd_184_35 : mt_cd 184 35 = some (.invokestatic 268) := mt_cd_of (q := (35, .invokestatic 268, 3)) mq_184 ci_184 (List.mem_of_getElem? (i := 19) rfl)
theorem cd_184_38 : mt_cd 184 38 = some (.ifCond .ne 7) := mt_cd_of (q := (38, .ifCond .ne 7, 3)) mq_184 ci_184 (List.mem_of_getElem? (i := 20) rfl)
theorem cd_184_41 : mt_cd 184 41 = some (.iconst 1) := mt_cd_of (q := (41, .iconst 1, 1)) mq_184 ci_184 (List.mem_of_getElem? (i := 21) rfl)
theorem cd_184_42 : mt_cd 184 42 = some (.goto 4) := mt_cd_of (q := (42, .goto 4, 3)) mq_184 ci_184 (List.mem_of_getElem? (i := 22) rfl)
theorem cd_184_45 : mt_cd 184 45 = some (.iconst 0) := mt_cd_of (q := (45, .iconst 0, 1)) mq_184 ci_184 (List.mem_of_getElem? (i := 23) rfl)
theorem cd_184_46 : mt_cd 184 46 = some (.iconst 1) := mt_cd_of (q := (46, .iconst 1, 1)) mq_184 ci_184 (List.mem_of_getElem? (i := 24) rfl)
theorem cd_184_47 : mt_cd 184 47 = some (.invokevirtual 254) := mt_cd_of (q := (47, .invokevirtual 254, 3)) mq_184 ci_184 (List.mem_of_getElem? (i := 25) rfl)
theorem cd_184_50 : mt_cd 184 50 = some (.ifCond .eq 5) := mt_cd_of (q := (50, .ifCond .eq 5, 3)) mq_184 ci_184 (List.mem_of_getElem? (i := 26) rfl)
theorem cd_184_53 : mt_cd 184 53 = some (.lconst 0) := mt_cd_of (q := (53, .lconst 0, 1)) mq_184 ci_184 (List.mem_of_getElem? (i := 27) rfl)
theorem cd_184_54 : mt_cd 184 54 = some (.lreturn) := mt_cd_of (q := (54, .lreturn, 1)) mq_184 ci_184 (List.mem_of_getElem? (i := 28) rfl)
theorem cd_184_55 : mt_cd 184 55 = some (.aload_n 0) := mt_cd_of (q := (55, .aload_n 0, 1)) mq_184 ci_184 (List.mem_of_getElem? (i := 29) rfl)
theorem cd_184_56 : mt_cd 184 56 = some (.getfield 175) := mt_cd_of (q := (56, .getfield 175, 3)) mq_184 ci_184 (List.mem_of_getElem? (i := 30) rfl)
theorem cd_184_59 : mt_cd 184 59 = some (.iconst 4) := mt_cd_of (q := (59, .iconst 4, 1)) mq_184 ci_184 (List.mem_of_getElem? (i := 31) rfl)
theorem cd_184_60 : mt_cd 184 60 = some (.iload_n 1) := mt_cd_of (q := (60, .iload_n 1, 1)) mq_184 ci_184 (List.mem_of_getElem? (i := 32) rfl)
theorem cd_184_61 : mt_cd 184 61 = some (.imul) := mt_cd_of (q := (61, .imul, 1)) mq_184 ci_184 (List.mem_of_getElem? (i := 33) rfl)
theorem cd_184_62 : mt_cd 184 62 = some (.iload_n 2) := mt_cd_of (q := (62, .iload_n 2, 1)) mq_184 ci_184 (List.mem_of_getElem? (i := 34) rfl)
theorem cd_184_63 : mt_cd 184 63 = some (.iadd) := mt_cd_of (q := (63, .iadd, 1)) mq_184 ci_184 (List.mem_of_getElem? (i := 35) rfl)
theorem cd_184_64 : mt_cd 184 64 = some (.laload) := mt_cd_of (q := (64, .laload, 1)) mq_184 ci_184 (List.mem_of_getElem? (i := 36) rfl)
theorem cd_184_65 : mt_cd 184 65 = some (.lstore 5) := mt_cd_of (q := (65, .lstore 5, 2)) mq_184 ci_184 (List.mem_of_getElem? (i := 37) rfl)
theorem cd_184_67 : mt_cd 184 67 = some (.aload_n 0) := mt_cd_of (q := (67, .aload_n 0, 1)) mq_184 ci_184 (List.mem_of_getElem? (i := 38) rfl)
theorem cd_184_68 : mt_cd 184 68 = some (.getfield 175) := mt_cd_of (q := (68, .getfield 175, 3)) mq_184 ci_184 (List.mem_of_getElem? (i := 39) rfl)
theorem cd_184_71 : mt_cd 184 71 = some (.iconst 4) := mt_cd_of (q := (71, .iconst 4, 1)) mq_184 ci_184 (List.mem_of_getElem? (i := 40) rfl)
theorem cd_184_72 : mt_cd 184 72 = some (.iload_n 1) := mt_cd_of (q := (72, .iload_n 1, 1)) mq_184 ci_184 (List.mem_of_getElem? (i := 41) rfl)
theorem cd_184_73 : mt_cd 184 73 = some (.imul) := mt_cd_of (q := (73, .imul, 1)) mq_184 ci_184 (List.mem_of_getElem? (i := 42) rfl)
theorem cd_184_74 : mt_cd 184 74 = some (.iload_n 2) := mt_cd_of (q := (74, .iload_n 2, 1)) mq_184 ci_184 (List.mem_of_getElem? (i := 43) rfl)
theorem cd_184_75 : mt_cd 184 75 = some (.iadd) := mt_cd_of (q := (75, .iadd, 1)) mq_184 ci_184 (List.mem_of_getElem? (i := 44) rfl)
theorem cd_184_76 : mt_cd 184 76 = some (.lload_n 3) := mt_cd_of (q := (76, .lload_n 3, 1)) mq_184 ci_184 (List.mem_of_getElem? (i := 45) rfl)
theorem cd_184_77 : mt_cd 184 77 = some (.lastore) := mt_cd_of (q := (77, .lastore, 1)) mq_184 ci_184 (List.mem_of_getElem? (i := 46) rfl)
theorem cd_184_78 : mt_cd 184 78 = some (.lload 5) := mt_cd_of (q := (78, .lload 5, 2)) mq_184 ci_184 (List.mem_of_getElem? (i := 47) rfl)
theorem cd_184_80 : mt_cd 184 80 = some (.lreturn) := mt_cd_of (q := (80, .lreturn, 1)) mq_184 ci_184 (List.mem_of_getElem? (i := 48) rfl)
theorem b_184_0 {d : Nat} {Q : (Option Value ⊕ Nat) → mi_H → Prop} (n sl : Nat) (f : Nat → mi_C) {l1 : Nat} {l2 : Int32} {l3 : Int32} {l4 : Int64} {o5 : Option Value} {o6 : Option Value} {fs7 : List Value} (h8 : f l1 = .inr (12, fs7)) (h9 : l1 < n) (h10 : 0 < fs7.length) (h11 : mi_W d 140 0 (mi_en 6 [.long ((l2 : Int32).toInt64), .long 0, .long 7]) [] (n, sl, (va_up f l1 (.inr (12, fs7.set 0 (.int 0))))) (mi_Kc d 184 12 [some (.ref l1), some (.int l2), some (.int l3), some (.long l4), none, o5, o6] [.ref l1] Q)) : mi_W (d + 1) 184 0 [some (.ref l1), some (.int l2), some (.int l3), some (.long l4), none, o5, o6] [] (n, sl, f) Q := by
  refine w_aload_n cd_184_0 rfl ?_
  refine w_iconst (v := 0) cd_184_1 (by decide) ?_
  refine w_putfield (w := .int 0) cd_184_2 (show mt_f 12 248 = some (12, 0) by decide +kernel) h8 h9 ⟨h10, rfl, Or.inl (by decide)⟩ ?_
  refine w_aload_n cd_184_5 rfl ?_
  refine w_iload_n cd_184_6 rfl ?_
  refine w_i2l cd_184_7 ?_
  refine w_lconst (lv := 0) cd_184_8 (by decide) ?_
  refine w_ldc2_w (lv := 7) cd_184_9 (by decide +kernel) ?_
  exact w_invokestatic cd_184_12 (show mt_m 12 268 = some (140, 4) by decide +kernel) (by decide) (rest := [.ref l1]) rfl (as := [.long ((l2 : Int32).toInt64), .long 0, .long 7]) rfl ⟨Nat.le_of_ble_eq_true rfl, Nat.le_of_ble_eq_true rfl, Nat.le_of_ble_eq_true rfl⟩ h11
theorem b_184_15 {d : Nat} {Q : (Option Value ⊕ Nat) → mi_H → Prop} (n sl : Nat) (f : Nat → mi_C) {l1 : Nat} {l2 : Int32} {l3 : Int32} {l4 : Int64} {o5 : Option Value} {o6 : Option Value} {s7 : Int32} {s8 : Nat} (h9 : s7 = (0 : Int32) → mi_W d 184 41 [some (.ref l1), some (.int l2), some (.int l3), some (.long l4), none, o5, o6] [.ref s8] (n, sl, f) Q) (h10 : ¬ (s7 = (0 : Int32)) → mi_W d 184 18 [some (.ref l1), some (.int l2), some (.int l3), some (.long l4), none, o5, o6] [.ref s8] (n, sl, f) Q) : mi_W d 184 15 [some (.ref l1), some (.int l2), some (.int l3), some (.long l4), none, o5, o6] [.int s7, .ref s8] (n, sl, f) Q := by
  exact w_ifeq cd_184_15 (by decide) h9 h10
theorem b_184_18 {d : Nat} {Q : (Option Value ⊕ Nat) → mi_H → Prop} (n sl : Nat) (f : Nat → mi_C) {l1 : Nat} {l2 : Int32} {l3 : Int32} {l4 : Int64} {o5 : Option Value} {o6 : Option Value} {s7 : Nat} (h8 : mi_W d 140 0 (mi_en 6 [.long ((l3 : Int32).toInt64), .long 0, .long 3]) [] (n, sl, f) (mi_Kc d 184 24 [some (.ref l1), some (.int l2), some (.int l3), some (.long l4), none, o5, o6] [.ref s7] Q)) : mi_W (d + 1) 184 18 [some (.ref l1), some (.int l2), some (.int l3), some (.long l4), none, o5, o6] [.ref s7] (n, sl, f) Q := by
  refine w_iload_n cd_184_18 rfl ?_
  refine w_i2l cd_184_19 ?_
  refine w_lconst (lv := 0) cd_184_20 (by decide) ?_
  refine w_ldc2_w (lv := 3) cd_184_21 (by decide +kernel) ?_
  exact w_invokestatic cd_184_24 (show mt_m 12 268 = some (140, 4) by decide +kernel) (by decide) (rest := [.ref s7]) rfl (as := [.long ((l3 : Int32).toInt64), .long 0, .long 3]) rfl ⟨Nat.le_of_ble_eq_true rfl, Nat.le_of_ble_eq_true rfl, Nat.le_of_ble_eq_true rfl⟩ h8
theorem b_184_27 {d : Nat} {Q : (Option Value ⊕ Nat) → mi_H → Prop} (n sl : Nat) (f : Nat → mi_C) {l1 : Nat} {l2 : Int32} {l3 : Int32} {l4 : Int64} {o5 : Option Value} {o6 : Option Value} {s7 : Int32} {s8 : Nat} (h9 : s7 = (0 : Int32) → mi_W d 184 41 [some (.ref l1), some (.int l2), some (.int l3), some (.long l4), none, o5, o6] [.ref s8] (n, sl, f) Q) (h10 : ¬ (s7 = (0 : Int32)) → mi_W d 184 30 [some (.ref l1), some (.int l2), some (.int l3), some (.long l4), none, o5, o6] [.ref s8] (n, sl, f) Q) : mi_W d 184 27 [some (.ref l1), some (.int l2), some (.int l3), some (.long l4), none, o5, o6] [.int s7, .ref s8] (n, sl, f) Q := by
  exact w_ifeq cd_184_27 (by decide) h9 h10
theorem b_184_30 {d : Nat} {Q : (Option Value ⊕ Nat) → mi_H → Prop} (n sl : Nat) (f : Nat → mi_C) {l1 : Nat} {l2 : Int32} {l3 : Int32} {l4 : Int64} {o5 : Option Value} {o6 : Option Value} {s7 : Nat} (h8 : mi_W d 140 0 (mi_en 6 [.long l4, .long 0, .long 2305843009213693952]) [] (n, sl, f) (mi_Kc d 184 35 [some (.ref l1), some (.int l2), some (.int l3), some (.long l4), none, o5, o6] [.ref s7] Q)) : mi_W (d + 1) 184 30 [some (.ref l1), some (.int l2), some (.int l3), some (.long l4), none, o5, o6] [.ref s7] (n, sl, f) Q := by
  refine w_lload_n cd_184_30 rfl ?_
  refine w_lconst (lv := 0) cd_184_31 (by decide) ?_
  refine w_ldc2_w (lv := 2305843009213693952) cd_184_32 (by decide +kernel) ?_
  exact w_invokestatic cd_184_35 (show mt_m 12 268 = some (140, 4) by decide +kernel) (by decide) (rest := [.ref s7]) rfl (as := [.long l4, .long 0, .long 2305843009213693952]) rfl ⟨Nat.le_of_ble_eq_true rfl, Nat.le_of_ble_eq_true rfl, Nat.le_of_ble_eq_true rfl⟩ h8
theorem b_184_38 {d : Nat} {Q : (Option Value ⊕ Nat) → mi_H → Prop} (n sl : Nat) (f : Nat → mi_C) {l1 : Nat} {l2 : Int32} {l3 : Int32} {l4 : Int64} {o5 : Option Value} {o6 : Option Value} {s7 : Int32} {s8 : Nat} (h9 : ¬ s7 = (0 : Int32) → mi_W d 184 45 [some (.ref l1), some (.int l2), some (.int l3), some (.long l4), none, o5, o6] [.ref s8] (n, sl, f) Q) (h10 : ¬ (¬ s7 = (0 : Int32)) → mi_W d 184 41 [some (.ref l1), some (.int l2), some (.int l3), some (.long l4), none, o5, o6] [.ref s8] (n, sl, f) Q) : mi_W d 184 38 [some (.ref l1), some (.int l2), some (.int l3), some (.long l4), none, o5, o6] [.int s7, .ref s8] (n, sl, f) Q := by
  exact w_ifne cd_184_38 (by decide) h9 h10
theorem b_184_41 {d : Nat} {Q : (Option Value ⊕ Nat) → mi_H → Prop} (n sl : Nat) (f : Nat → mi_C) {l1 : Nat} {l2 : Int32} {l3 : Int32} {l4 : Int64} {o5 : Option Value} {o6 : Option Value} {s7 : Nat} (h8 : mi_W d 184 46 [some (.ref l1), some (.int l2), some (.int l3), some (.long l4), none, o5, o6] [.int 1, .ref s7] (n, sl, f) Q) : mi_W d 184 41 [some (.ref l1), some (.int l2), some (.int l3), some (.long l4), none, o5, o6] [.ref s7] (n, sl, f) Q := by
  refine w_iconst (v := 1) cd_184_41 (by decide) ?_
  exact w_goto cd_184_42 (by decide) h8
theorem b_184_45 {d : Nat} {Q : (Option Value ⊕ Nat) → mi_H → Prop} (n sl : Nat) (f : Nat → mi_C) {l1 : Nat} {l2 : Int32} {l3 : Int32} {l4 : Int64} {o5 : Option Value} {o6 : Option Value} {s7 : Nat} (h8 : mi_W d 184 46 [some (.ref l1), some (.int l2), some (.int l3), some (.long l4), none, o5, o6] [.int 0, .ref s7] (n, sl, f) Q) : mi_W d 184 45 [some (.ref l1), some (.int l2), some (.int l3), some (.long l4), none, o5, o6] [.ref s7] (n, sl, f) Q := by
  refine w_iconst (v := 0) cd_184_45 (by decide) ?_
  exact h8
theorem b_184_46 {d : Nat} {Q : (Option Value ⊕ Nat) → mi_H → Prop} (n sl : Nat) (f : Nat → mi_C) {l1 : Nat} {l2 : Int32} {l3 : Int32} {l4 : Int64} {o5 : Option Value} {o6 : Option Value} {s7 : Int32} {s8 : Nat} {fs9 : List Value} (h10 : f s8 = .inr (12, fs9)) (h11 : s8 < n) (h12 : mi_W d 138 0 (mi_en 3 [.ref s8, .int s7, .int 1]) [] (n, sl, f) (mi_Kc d 184 47 [some (.ref l1), some (.int l2), some (.int l3), some (.long l4), none, o5, o6] [] Q)) : mi_W (d + 1) 184 46 [some (.ref l1), some (.int l2), some (.int l3), some (.long l4), none, o5, o6] [.int s7, .ref s8] (n, sl, f) Q := by
  refine w_iconst (v := 1) cd_184_46 (by decide) ?_
  exact w_invokevirtual cd_184_47 (show mt_m 12 254 = some (138, 0) by decide +kernel) (rest := []) rfl (as := [.ref s8, .int s7, .int 1]) rfl h10 (Or.inl h11) ⟨Nat.le_of_ble_eq_true rfl, Nat.le_of_ble_eq_true rfl, Nat.le_of_ble_eq_true rfl⟩ h12
theorem b_184_50 {d : Nat} {Q : (Option Value ⊕ Nat) → mi_H → Prop} (n sl : Nat) (f : Nat → mi_C) {l1 : Nat} {l2 : Int32} {l3 : Int32} {l4 : Int64} {o5 : Option Value} {o6 : Option Value} {s7 : Int32} (h8 : s7 = (0 : Int32) → mi_W d 184 55 [some (.ref l1), some (.int l2), some (.int l3), some (.long l4), none, o5, o6] [] (n, sl, f) Q) (h9 : ¬ (s7 = (0 : Int32)) → mi_W d 184 53 [some (.ref l1), some (.int l2), some (.int l3), some (.long l4), none, o5, o6] [] (n, sl, f) Q) : mi_W d 184 50 [some (.ref l1), some (.int l2), some (.int l3), some (.long l4), none, o5, o6] [.int s7] (n, sl, f) Q := by
  exact w_ifeq cd_184_50 (by decide) h8 h9
theorem b_184_53 {d : Nat} {Q : (Option Value ⊕ Nat) → mi_H → Prop} (n sl : Nat) (f : Nat → mi_C) {l1 : Nat} {l2 : Int32} {l3 : Int32} {l4 : Int64} {o5 : Option Value} {o6 : Option Value} (h7 : Q (.inl (some (.long 0))) (n, sl, f)) : mi_W d 184 53 [some (.ref l1), some (.int l2), some (.int l3), some (.long l4), none, o5, o6] [] (n, sl, f) Q := by
  refine w_lconst (lv := 0) cd_184_53 (by decide) ?_
  exact w_lreturn cd_184_54 (by decide +kernel) h7
theorem b_184_55 {d : Nat} {Q : (Option Value ⊕ Nat) → mi_H → Prop} (n sl : Nat) (f : Nat → mi_C) {l1 : Nat} {l2 : Int32} {l3 : Int32} {l4 : Int64} {o5 : Option Value} {o6 : Option Value} {fs7 : List Value} {x10 : Nat} (m12 i12 : Nat) (g12 : Nat → Int64) {fs16 : List Value} {x19 : Nat} (m21 i21 : Nat) (g21 : Nat → Int64) (h8 : f l1 = .inr (12, fs7)) (h9 : l1 < n) (h11 : fs7[56]? = some (.ref x10)) (h13 : f x10 = .inl (3, m12, .inr (.inl g12))) (h14 : x10 < n) (h15 : mi_ix ((4 * l2) + l3) m12 i12) (h17 : f l1 = .inr (12, fs16)) (h18 : l1 < n) (h20 : fs16[56]? = some (.ref x19)) (h22 : f x19 = .inl (3, m21, .inr (.inl g21))) (h23 : x19 < n) (h24 : mi_ix ((4 * l2) + l3) m21 i21) (h25 : Q (.inl (some (.long (g12 i12)))) (n, sl, (va_up f x19 (.inl (3, m21, .inr (.inl (vp_updL g21 i21 l4))))))) : mi_W d 184 55 [some (.ref l1), some (.int l2), some (.int l3), some (.long l4), none, o5, o6] [] (n, sl, f) Q := by
  refine w_aload_n cd_184_55 rfl ?_
  refine w_getfield cd_184_56 (show mt_f 12 175 = some (12, 56) by decide +kernel) h8 h9 h11 ?_
  refine w_iconst (v := 4) cd_184_59 (by decide) ?_
  refine w_iload_n cd_184_60 rfl ?_
  refine w_imul cd_184_61 ?_
  refine w_iload_n cd_184_62 rfl ?_
  refine w_iadd cd_184_63 ?_
  refine w_laload cd_184_64 h13 h14 h15 ?_
  refine w_lstore (ls' := [some (.ref l1), some (.int l2), some (.int l3), some (.long l4), none, some (.long (g12 i12)), none]) cd_184_65 (Nat.le_of_ble_eq_true rfl) rfl ?_
  refine w_aload_n cd_184_67 rfl ?_
  refine w_getfield cd_184_68 (show mt_f 12 175 = some (12, 56) by decide +kernel) h17 h18 h20 ?_
  refine w_iconst (v := 4) cd_184_71 (by decide) ?_
  refine w_iload_n cd_184_72 rfl ?_
  refine w_imul cd_184_73 ?_
  refine w_iload_n cd_184_74 rfl ?_
  refine w_iadd cd_184_75 ?_
  refine w_lload_n cd_184_76 rfl ?_
  refine w_lastore cd_184_77 h22 h23 h24 ?_
  refine w_lload cd_184_78 rfl ?_
  exact w_lreturn cd_184_80 (by decide +kernel) h25
/-! MarloweHostModel.choose(IJ)I -/
set_option maxRecDepth 100000 in
theorem mq_187 : mt_q 187 = my_187 := rfl
set_option maxRecDepth 100000 in
theorem ci_187 : mt_inc 0 my_187.cd = true := by decide +kernel
theorem cd_187_0 : mt_cd 187 0 = some (.aload_n 0) := mt_cd_of (q := (0, .aload_n 0, 1)) mq_187 ci_187 (List.mem_of_getElem? (i := 0) rfl)
theorem cd_187_1 : mt_cd 187 1 = some (.iconst 0) := mt_cd_of (q := (1, .iconst 0, 1)) mq_187 ci_187 (List.mem_of_getElem? (i := 1) rfl)
theorem cd_187_2 : mt_cd 187 2 = some (.putfield 248) := mt_cd_of (q := (2, .putfield 248, 3)) mq_187 ci_187 (List.mem_of_getElem? (i := 2) rfl)
theorem cd_187_5 : mt_cd 187 5 = some (.aload_n 0) := mt_cd_of (q := (5, .aload_n 0, 1)) mq_187 ci_187 (List.mem_of_getElem? (i := 3) rfl)
theorem cd_187_6 : mt_cd 187 6 = some (.iload_n 1) := mt_cd_of (q := (6, .iload_n 1, 1)) mq_187 ci_187 (List.mem_of_getElem? (i := 4) rfl)
theorem cd_187_7 : mt_cd 187 7 = some (.i2l) := mt_cd_of (q := (7, .i2l, 1)) mq_187 ci_187 (List.mem_of_getElem? (i := 5) rfl)
theorem cd_187_8 : mt_cd 187 8 = some (.lconst 0) := mt_cd_of (q := (8, .lconst 0, 1)) mq_187 ci_187 (List.mem_of_getElem? (i := 6) rfl)
theorem cd_187_9 : mt_cd 187 9 = some (.ldc2_w 542) := mt_cd_of (q := (9, .ldc2_w 542, 3)) mq_187 ci_187 (List.mem_of_getElem? (i := 7) rfl)
theorem cd_187_12 : mt_cd 187 12 = some (.invokestatic 268) := mt_cd_of (q := (12, .invokestatic 268, 3)) mq_187 ci_187 (List.mem_of_getElem? (i := 8) rfl)
theorem cd_187_15 : mt_cd 187 15 = some (.ifCond .ne 7) := mt_cd_of (q := (15, .ifCond .ne 7, 3)) mq_187 ci_187 (List.mem_of_getElem? (i := 9) rfl)
theorem cd_187_18 : mt_cd 187 18 = some (.iconst 1) := mt_cd_of (q := (18, .iconst 1, 1)) mq_187 ci_187 (List.mem_of_getElem? (i := 10) rfl)
theorem cd_187_19 : mt_cd 187 19 = some (.goto 4) := mt_cd_of (q := (19, .goto 4, 3)) mq_187 ci_187 (List.mem_of_getElem? (i := 11) rfl)
theorem cd_187_22 : mt_cd 187 22 = some (.iconst 0) := mt_cd_of (q := (22, .iconst 0, 1)) mq_187 ci_187 (List.mem_of_getElem? (i := 12) rfl)
theorem cd_187_23 : mt_cd 187 23 = some (.iconst 1) := mt_cd_of (q := (23, .iconst 1, 1)) mq_187 ci_187 (List.mem_of_getElem? (i := 13) rfl)
theorem cd_187_24 : mt_cd 187 24 = some (.invokevirtual 254) := mt_cd_of (q := (24, .invokevirtual 254, 3)) mq_187 ci_187 (List.mem_of_getElem? (i := 14) rfl)
theorem cd_187_27 : mt_cd 187 27 = some (.ifCond .ne 25) := mt_cd_of (q := (27, .ifCond .ne 25, 3)) mq_187 ci_187 (List.mem_of_getElem? (i := 15) rfl)
theorem cd_187_30 : mt_cd 187 30 = some (.aload_n 0) := mt_cd_of (q := (30, .aload_n 0, 1)) mq_187 ci_187 (List.mem_of_getElem? (i := 16) rfl)
theorem cd_187_31 : mt_cd 187 31 = some (.aload_n 0) := mt_cd_of (q := (31, .aload_n 0, 1)) mq_187 ci_187 (List.mem_of_getElem? (i := 17) rfl)
theorem cd_187_32 : mt_cd 187 32 = some (.getfield 258) := mt_cd_of (q := (32, .getfield 258, 3)) mq_187 ci_187 (List.mem_of_getElem? (i := 18) rfl)
theorem cd_187_35 : mt_cd 187 35 = some (.bipush 16) := mt_cd_of (q := (35, .bipush 16, 2)) mq_187 ci_187 (List.mem_of_getElem? (i := 19) rfl)
theorem cd_187_37 : mt_cd 187 37 = some (.if_icmp .ne 7) := mt_cd_of (q := (37, .if_icmp .ne 7, 3)) mq_187 ci_187 (List.mem_of_getElem? (i := 20) rfl)
theorem cd_187_40 : mt_cd 187 40 = some (.iconst 1) := mt_cd_of (q := (40, .iconst 1, 1)) mq_187 ci_187 (List.mem_of_getElem? (i := 21) rfl)
theorem cd_187_41 : mt_cd 187 41 = some (.goto 4) := mt_cd_of (q := (41, .goto 4, 3)) mq_187 ci_187 (List.mem_of_getElem? (i := 22) rfl)
theorem cd_187_44 : mt_cd 187 44 = some (.iconst 0) := mt_cd_of (q := (44, .iconst 0, 1)) mq_187 ci_187 (List.mem_of_getElem? (i := 23) rfl)
theorem cd_187_45 : mt_cd 187 45 = some (.iconst 2) := mt_cd_of (q := (45, .iconst 2, 1)) mq_187 ci_187 (List.mem_of_getElem? (i := 24) rfl)
theorem cd_187_46 : mt_cd 187 46 = some (.invokevirtual 254) := mt_cd_of (q := (46, .invokevirtual 254, 3)) mq_187 ci_187 (List.mem_of_getElem? (i := 25) rfl)
theorem cd_187_49 : mt_cd 187 49 = some (.ifCond .eq 5) := mt_cd_of (q := (49, .ifCond .eq 5, 3)) mq_187 ci_187 (List.mem_of_getElem? (i := 26) rfl)
theorem cd_187_52 : mt_cd 187 52 = some (.iconst 0) := mt_cd_of (q := (52, .iconst 0, 1)) mq_187 ci_187 (List.mem_of_getElem? (i := 27) rfl)
theorem cd_187_53 : mt_cd 187 53 = some (.ireturn) := mt_cd_of (q := (53, .ireturn, 1)) mq_187 ci_187 (List.mem_of_getElem? (i := 28) rfl)
theorem cd_187_54 : mt_cd 187 54 = some (.aload_n 0) := mt_cd_of (q := (54, .aload_n 0, 1)) mq_187 ci_187 (List.mem_of_getElem? (i := 29) rfl)
theorem cd_187_55 : mt_cd 187 55 = some (.bipush 8) := mt_cd_of (q := (55, .bipush 8, 2)) mq_187 ci_187 (List.mem_of_getElem? (i := 30) rfl)
theorem cd_187_57 : mt_cd 187 57 = some (.iload_n 1) := mt_cd_of (q := (57, .iload_n 1, 1)) mq_187 ci_187 (List.mem_of_getElem? (i := 31) rfl)
theorem cd_187_58 : mt_cd 187 58 = some (.iconst 0) := mt_cd_of (q := (58, .iconst 0, 1)) mq_187 ci_187 (List.mem_of_getElem? (i := 32) rfl)
theorem cd_187_59 : mt_cd 187 59 = some (.iconst 0) := mt_cd_of (q := (59, .iconst 0, 1)) mq_187 ci_187 (List.mem_of_getElem? (i := 33) rfl)
theorem cd_187_60 : mt_cd 187 60 = some (.lload_n 2) := mt_cd_of (q := (60, .lload_n 2, 1)) mq_187 ci_187 (List.mem_of_getElem? (i := 34) rfl)
theorem cd_187_61 : mt_cd 187 61 = some (.invokevirtual 548) := mt_cd_of (q := (61, .invokevirtual 548, 3)) mq_187 ci_187 (List.mem_of_getElem? (i := 35) rfl)
theorem cd_187_64 : mt_cd 187 64 = some (.ireturn) := mt_cd_of (q := (64, .ireturn, 1)) mq_187 ci_187 (List.mem_of_getElem? (i := 36) rfl)
theorem b_187_0 {d : Nat} {Q : (Option Value ⊕ Nat) → mi_H → Prop} (n sl : Nat) (f : Nat → mi_C) {l1 : Nat} {l2 : Int32} {l3 : Int64} {fs4 : List Value} (h5 : f l1 = .inr (12, fs4)) (h6 : l1 < n) (h7 : 0 < fs4.length) (h8 : mi_W d 140 0 (mi_en 6 [.long ((l2 : Int32).toInt64), .long 0, .long 7]) [] (n, sl, (va_up f l1 (.inr (12, fs4.set 0 (.int 0))))) (mi_Kc d 187 12 [some (.ref l1), some (.int l2), some (.long l3), none] [.ref l1] Q)) : mi_W (d + 1) 187 0 [some (.ref l1), some (.int l2), some (.long l3), none] [] (n, sl, f) Q := by
  refine w_aload_n cd_187_0 rfl ?_
  refine w_iconst (v := 0) cd_187_1 (by decide) ?_
  refine w_putfield (w := .int 0) cd_187_2 (show mt_f 12 248 = some (12, 0) by decide +kernel) h5 h6 ⟨h7, rfl, Or.inl (by decide)⟩ ?_
  refine w_aload_n cd_187_5 rfl ?_
  refine w_iload_n cd_187_6 rfl ?_
  refine w_i2l cd_187_7 ?_
  refine w_lconst (lv := 0) cd_187_8 (by decide) ?_
  refine w_ldc2_w (lv := 7) cd_187_9 (by decide +kernel) ?_
  exact w_invokestatic cd_187_12 (show mt_m 12 268 = some (140, 4) by decide +kernel) (by decide) (rest := [.ref l1]) rfl (as := [.long ((l2 : Int32).toInt64), .long 0, .long 7]) rfl ⟨Nat.le_of_ble_eq_true rfl, Nat.le_of_ble_eq_true rfl, Nat.le_of_ble_eq_true rfl⟩ h8
theorem b_187_15 {d : Nat} {Q : (Option Value ⊕ Nat) → mi_H → Prop} (n sl : Nat) (f : Nat → mi_C) {l1 : Nat} {l2 : Int32} {l3 : Int64} {s4 : Int32} {s5 : Nat} (h6 : ¬ s4 = (0 : Int32) → mi_W d 187 22 [some (.ref l1), some (.int l2), some (.long l3), none] [.ref s5] (n, sl, f) Q) (h7 : ¬ (¬ s4 = (0 : Int32)) → mi_W d 187 18 [some (.ref l1), some (.int l2), some (.long l3), none] [.ref s5] (n, sl, f) Q) : mi_W d 187 15 [some (.ref l1), some (.int l2), some (.long l3), none] [.int s4, .ref s5] (n, sl, f) Q := by
  exact w_ifne cd_187_15 (by decide) h6 h7
theorem b_187_18 {d : Nat} {Q : (Option Value ⊕ Nat) → mi_H → Prop} (n sl : Nat) (f : Nat → mi_C) {l1 : Nat} {l2 : Int32} {l3 : Int64} {s4 : Nat} (h5 : mi_W d 187 23 [some (.ref l1), some (.int l2), some (.long l3), none] [.int 1, .ref s4] (n, sl, f) Q) : mi_W d 187 18 [some (.ref l1), some (.int l2), some (.long l3), none] [.ref s4] (n, sl, f) Q := by
  refine w_iconst (v := 1) cd_187_18 (by decide) ?_
  exact w_goto cd_187_19 (by decide) h5
theorem b_187_22 {d : Nat} {Q : (Option Value ⊕ Nat) → mi_H → Prop} (n sl : Nat) (f : Nat → mi_C) {l1 : Nat} {l2 : Int32} {l3 : Int64} {s4 : Nat} (h5 : mi_W d 187 23 [some (.ref l1), some (.int l2), some (.long l3), none] [.int 0, .ref s4] (n, sl, f) Q) : mi_W d 187 22 [some (.ref l1), some (.int l2), some (.long l3), none] [.ref s4] (n, sl, f) Q := by
  refine w_iconst (v := 0) cd_187_22 (by decide) ?_
  exact h5
theorem b_187_23 {d : Nat} {Q : (Option Value ⊕ Nat) → mi_H → Prop} (n sl : Nat) (f : Nat → mi_C) {l1 : Nat} {l2 : Int32} {l3 : Int64} {s4 : Int32} {s5 : Nat} {fs6 : List Value} (h7 : f s5 = .inr (12, fs6)) (h8 : s5 < n) (h9 : mi_W d 138 0 (mi_en 3 [.ref s5, .int s4, .int 1]) [] (n, sl, f) (mi_Kc d 187 24 [some (.ref l1), some (.int l2), some (.long l3), none] [] Q)) : mi_W (d + 1) 187 23 [some (.ref l1), some (.int l2), some (.long l3), none] [.int s4, .ref s5] (n, sl, f) Q := by
  refine w_iconst (v := 1) cd_187_23 (by decide) ?_
  exact w_invokevirtual cd_187_24 (show mt_m 12 254 = some (138, 0) by decide +kernel) (rest := []) rfl (as := [.ref s5, .int s4, .int 1]) rfl h7 (Or.inl h8) ⟨Nat.le_of_ble_eq_true rfl, Nat.le_of_ble_eq_true rfl, Nat.le_of_ble_eq_true rfl⟩ h9
theorem b_187_27 {d : Nat} {Q : (Option Value ⊕ Nat) → mi_H → Prop} (n sl : Nat) (f : Nat → mi_C) {l1 : Nat} {l2 : Int32} {l3 : Int64} {s4 : Int32} (h5 : ¬ s4 = (0 : Int32) → mi_W d 187 52 [some (.ref l1), some (.int l2), some (.long l3), none] [] (n, sl, f) Q) (h6 : ¬ (¬ s4 = (0 : Int32)) → mi_W d 187 30 [some (.ref l1), some (.int l2), some (.long l3), none] [] (n, sl, f) Q) : mi_W d 187 27 [some (.ref l1), some (.int l2), some (.long l3), none] [.int s4] (n, sl, f) Q := by
  exact w_ifne cd_187_27 (by decide) h5 h6
theorem b_187_30 {d : Nat} {Q : (Option Value ⊕ Nat) → mi_H → Prop} (n sl : Nat) (f : Nat → mi_C) {l1 : Nat} {l2 : Int32} {l3 : Int64} {fs4 : List Value} {x7 : Int32} (h5 : f l1 = .inr (12, fs4)) (h6 : l1 < n) (h8 : fs4[59]? = some (.int x7)) (h9 : ¬ x7 = 16 → mi_W d 187 44 [some (.ref l1), some (.int l2), some (.long l3), none] [.ref l1] (n, sl, f) Q) (h10 : ¬ (¬ x7 = 16) → mi_W d 187 40 [some (.ref l1), some (.int l2), some (.long l3), none] [.ref l1] (n, sl, f) Q) : mi_W d 187 30 [some (.ref l1), some (.int l2), some (.long l3), none] [] (n, sl, f) Q := by
  refine w_aload_n cd_187_30 rfl ?_
  refine w_aload_n cd_187_31 rfl ?_
  refine w_getfield cd_187_32 (show mt_f 12 258 = some (12, 59) by decide +kernel) h5 h6 h8 ?_
  refine w_bipush (v := 16) cd_187_35 (by decide) ?_
  exact w_if_icmpne cd_187_37 (by decide) h9 h10
theorem b_187_40 {d : Nat} {Q : (Option Value ⊕ Nat) → mi_H → Prop} (n sl : Nat) (f : Nat → mi_C) {l1 : Nat} {l2 : Int32} {l3 : Int64} {s4 : Nat} (h5 : mi_W d 187 45 [some (.ref l1), some (.int l2), some (.long l3), none] [.int 1, .ref s4] (n, sl, f) Q) : mi_W d 187 40 [some (.ref l1), some (.int l2), some (.long l3), none] [.ref s4] (n, sl, f) Q := by
  refine w_iconst (v := 1) cd_187_40 (by decide) ?_
  exact w_goto cd_187_41 (by decide) h5
theorem b_187_44 {d : Nat} {Q : (Option Value ⊕ Nat) → mi_H → Prop} (n sl : Nat) (f : Nat → mi_C) {l1 : Nat} {l2 : Int32} {l3 : Int64} {s4 : Nat} (h5 : mi_W d 187 45 [some (.ref l1), some (.int l2), some (.long l3), none] [.int 0, .ref s4] (n, sl, f) Q) : mi_W d 187 44 [some (.ref l1), some (.int l2), some (.long l3), none] [.ref s4] (n, sl, f) Q := by
  refine w_iconst (v := 0) cd_187_44 (by decide) ?_
  exact h5
theorem b_187_45 {d : Nat} {Q : (Option Value ⊕ Nat) → mi_H → Prop} (n sl : Nat) (f : Nat → mi_C) {l1 : Nat} {l2 : Int32} {l3 : Int64} {s4 : Int32} {s5 : Nat} {fs6 : List Value} (h7 : f s5 = .inr (12, fs6)) (h8 : s5 < n) (h9 : mi_W d 138 0 (mi_en 3 [.ref s5, .int s4, .int 2]) [] (n, sl, f) (mi_Kc d 187 46 [some (.ref l1), some (.int l2), some (.long l3), none] [] Q)) : mi_W (d + 1) 187 45 [some (.ref l1), some (.int l2), some (.long l3), none] [.int s4, .ref s5] (n, sl, f) Q := by
  refine w_iconst (v := 2) cd_187_45 (by decide) ?_
  exact w_invokevirtual cd_187_46 (show mt_m 12 254 = some (138, 0) by decide +kernel) (rest := []) rfl (as := [.ref s5, .int s4, .int 2]) rfl h7 (Or.inl h8) ⟨Nat.le_of_ble_eq_true rfl, Nat.le_of_ble_eq_true rfl, Nat.le_of_ble_eq_true rfl⟩ h9
theorem b_187_49 {d : Nat} {Q : (Option Value ⊕ Nat) → mi_H → Prop} (n sl : Nat) (f : Nat → mi_C) {l1 : Nat} {l2 : Int32} {l3 : Int64} {s4 : Int32} (h5 : s4 = (0 : Int32) → mi_W d 187 54 [some (.ref l1), some (.int l2), some (.long l3), none] [] (n, sl, f) Q) (h6 : ¬ (s4 = (0 : Int32)) → mi_W d 187 52 [some (.ref l1), some (.int l2), some (.long l3), none] [] (n, sl, f) Q) : mi_W d 187 49 [some (.ref l1), some (.int l2), some (.long l3), none] [.int s4] (n, sl, f) Q := by
  exact w_ifeq cd_187_49 (by decide) h5 h6
theorem b_187_52 {d : Nat} {Q : (Option Value ⊕ Nat) → mi_H → Prop} (n sl : Nat) (f : Nat → mi_C) {l1 : Nat} {l2 : Int32} {l3 : Int64} (h4 : Q (.inl (some (.int 0))) (n, sl, f)) : mi_W d 187 52 [some (.ref l1), some (.int l2), some (.long l3), none] [] (n, sl, f) Q := by
  refine w_iconst (v := 0) cd_187_52 (by decide) ?_
  exact w_ireturn_i cd_187_53 (by decide +kernel) h4
theorem b_187_54 {d : Nat} {Q : (Option Value ⊕ Nat) → mi_H → Prop} (n sl : Nat) (f : Nat → mi_C) {l1 : Nat} {l2 : Int32} {l3 : Int64} {fs4 : List Value} (h5 : f l1 = .inr (12, fs4)) (h6 : l1 < n) (h7 : mi_W d 186 0 (mi_en 7 [.ref l1, .int 8, .int l2, .int 0, .int 0, .long l3]) [] (n, sl, f) (mi_Kc d 187 61 [some (.ref l1), some (.int l2), some (.long l3), none] [] Q)) : mi_W (d + 1) 187 54 [some (.ref l1), some (.int l2), some (.long l3), none] [] (n, sl, f) Q := by
  refine w_aload_n cd_187_54 rfl ?_
  refine w_bipush (v := 8) cd_187_55 (by decide) ?_
  refine w_iload_n cd_187_57 rfl ?_
  refine w_iconst (v := 0) cd_187_58 (by decide) ?_
  refine w_iconst (v := 0) cd_187_59 (by decide) ?_
  refine w_lload_n cd_187_60 rfl ?_
  exact w_invokevirtual cd_187_61 (show mt_m 12 548 = some (186, 0) by decide +kernel) (rest := []) rfl (as := [.ref l1, .int 8, .int l2, .int 0, .int 0, .long l3]) rfl h5 (Or.inl h6) ⟨Nat.le_of_ble_eq_true rfl, Nat.le_of_ble_eq_true rfl, Nat.le_of_ble_eq_true rfl⟩ h7
theorem b_187_64 {d : Nat} {Q : (Option Value ⊕ Nat) → mi_H → Prop} (n sl : Nat) (f : Nat → mi_C) {l1 : Nat} {l2 : Int32} {l3 : Int64} {s4 : Int32} (h5 : Q (.inl (some (.int s4))) (n, sl, f)) : mi_W d 187 64 [some (.ref l1), some (.int l2), some (.long l3), none] [.int s4] (n, sl, f) Q := by
  exact w_ireturn_i cd_187_64 (by decide +kernel) h5
/-! MarloweHost.wallet(IIJ)J -/
set_option maxRecDepth 100000 in
theorem mq_57 : mt_q 57 = my_57 := rfl
set_option maxRecDepth 100000 in
theorem ci_57 : mt_inc 0 my_57.cd = true := by decide +kernel
theorem cd_57_0 : mt_cd 57 0 = some (.iload_n 1) := mt_cd_of (q := (0, .iload_n 1, 1)) mq_57 ci_57 (List.mem_of_getElem? (i := 0) rfl)
theorem cd_57_1 : mt_cd 57 1 = some (.invokestatic 114) := mt_cd_of (q := (1, .invokestatic 114, 3)) mq_57 ci_57 (List.mem_of_getElem? (i := 1) rfl)
theorem cd_57_4 : mt_cd 57 4 = some (.ifCond .eq 24) := mt_cd_of (q := (4, .ifCond .eq 24, 3)) mq_57 ci_57 (List.mem_of_getElem? (i := 2) rfl)
theorem cd_57_7 : mt_cd 57 7 = some (.iload_n 2) := mt_cd_of (q := (7, .iload_n 2, 1)) mq_57 ci_57 (List.mem_of_getElem? (i := 3) rfl)
theorem cd_57_8 : mt_cd 57 8 = some (.invokestatic 118) := mt_cd_of (q := (8, .invokestatic 118, 3)) mq_57 ci_57 (List.mem_of_getElem? (i := 4) rfl)
theorem cd_57_11 : mt_cd 57 11 = some (.ifCond .eq 17) := mt_cd_of (q := (11, .ifCond .eq 17, 3)) mq_57 ci_57 (List.mem_of_getElem? (i := 5) rfl)
theorem cd_57_14 : mt_cd 57 14 = some (.lload_n 3) := mt_cd_of (q := (14, .lload_n 3, 1)) mq_57 ci_57 (List.mem_of_getElem? (i := 6) rfl)
theorem cd_57_15 : mt_cd 57 15 = some (.lconst 0) := mt_cd_of (q := (15, .lconst 0, 1)) mq_57 ci_57 (List.mem_of_getElem? (i := 7) rfl)
theorem cd_57_16 : mt_cd 57 16 = some (.lcmp) := mt_cd_of (q := (16, .lcmp, 1)) mq_57 ci_57 (List.mem_of_getElem? (i := 8) rfl)
theorem cd_57_17 : mt_cd 57 17 = some (.ifCond .lt 11) := mt_cd_of (q := (17, .ifCond .lt 11, 3)) mq_57 ci_57 (List.mem_of_getElem? (i := 9) rfl)
theorem cd_57_20 : mt_cd 57 20 = some (.lload_n 3) := mt_cd_of (q := (20, .lload_n 3, 1)) mq_57 ci_57 (List.mem_of_getElem? (i := 10) rfl)
theorem cd_57_21 : mt_cd 57 21 = some (.ldc2_w 121) := mt_cd_of (q := (21, .ldc2_w 121, 3)) mq_57 ci_57 (List.mem_of_getElem? (i := 11) rfl)
theorem cd_57_24 : mt_cd 57 24 = some (.lcmp) := mt_cd_of (q := (24, .lcmp, 1)) mq_57 ci_57 (List.mem_of_getElem? (i := 12) rfl)
theorem cd_57_25 : mt_cd 57 25 = some (.ifCond .le 13) := mt_cd_of (q := (25, .ifCond .le 13, 3)) mq_57 ci_57 (List.mem_of_getElem? (i := 13) rfl)
theorem cd_57_28 : mt_cd 57 28 = some (.new 123) := mt_cd_of (q := (28, .new 123, 3)) mq_57 ci_57 (List.mem_of_getElem? (i := 14) rfl)
theorem cd_57_31 : mt_cd 57 31 = some (.dup) := mt_cd_of (q := (31, .dup, 1)) mq_57 ci_57 (List.mem_of_getElem? (i := 15) rfl)
theorem cd_57_32 : mt_cd 57 32 = some (.ldc 125) := mt_cd_of (q := (32, .ldc 125, 2)) mq_57 ci_57 (List.mem_of_getElem? (i := 16) rfl)
theorem cd_57_34 : mt_cd 57 34 = some (.invokespecial 127) := mt_cd_of (q := (34, .invokespecial 127, 3)) mq_57 ci_57 (List.mem_of_getElem? (i := 17) rfl)
theorem cd_57_37 : mt_cd 57 37 = some (.athrow) := mt_cd_of (q := (37, .athrow, 1)) mq_57 ci_57 (List.mem_of_getElem? (i := 18) rfl)
theorem cd_57_38 : mt_cd 57 38 = some (.iload_n 1) := mt_cd_of (q := (38, .iload_n 1, 1)) mq_57 ci_57 (List.mem_of_getElem? (i := 19) rfl)
theorem cd_57_39 : mt_cd 57 39 = some (.iconst 4) := mt_cd_of (q := (39, .iconst 4, 1)) mq_57 ci_57 (List.mem_of_getElem? (i := 20) rfl)
theorem cd_57_40 : mt_cd 57 40 = some (.imul) := mt_cd_of (q := (40, .imul, 1)) mq_57 ci_57 (List.mem_of_getElem? (i := 21) rfl)
theorem cd_57_41 : mt_cd 57 41 = some (.iload_n 2) := mt_cd_of (q := (41, .iload_n 2, 1)) mq_57 ci_57 (List.mem_of_getElem? (i := 22) rfl)
theorem cd_57_42 : mt_cd 57 42 = some (.iadd) := mt_cd_of (q := (42, .iadd, 1)) mq_57 ci_57 (List.mem_of_getElem? (i := 23) rfl)
theorem cd_57_43 : mt_cd 57 43 = some (.istore 5) := mt_cd_of (q := (43, .istore 5, 2)) mq_57 ci_57 (List.mem_of_getElem? (i := 24) rfl)
theorem cd_57_45 : mt_cd 57 45 = some (.aload_n 0) := mt_cd_of (q := (45, .aload_n 0, 1)) mq_57 ci_57 (List.mem_of_getElem? (i := 25) rfl)
theorem cd_57_46 : mt_cd 57 46 = some (.getfield 35) := mt_cd_of (q := (46, .getfield 35, 3)) mq_57 ci_57 (List.mem_of_getElem? (i := 26) rfl)
theorem cd_57_49 : mt_cd 57 49 = some (.getfield 128) := mt_cd_of (q := (49, .getfield 128, 3)) mq_57 ci_57 (List.mem_of_getElem? (i := 27) rfl)
theorem cd_57_52 : mt_cd 57 52 = some (.iload 5) := mt_cd_of (q := (52, .iload 5, 2)) mq_57 ci_57 (List.mem_of_getElem? (i := 28) rfl)
theorem cd_57_54 : mt_cd 57 54 = some (.laload) := mt_cd_of (q := (54, .laload, 1)) mq_57 ci_57 (List.mem_of_getElem? (i := 29) rfl)
theorem cd_57_55 : mt_cd 57 55 = some (.lstore 6) := mt_cd_of (q := (55, .lstore 6, 2)) mq_57 ci_57 (List.mem_of_getElem? (i := 30) rfl)
theorem cd_57_57 : mt_cd 57 57 = some (.aload_n 0) := mt_cd_of (q := (57, .aload_n 0, 1)) mq_57 ci_57 (List.mem_of_getElem? (i := 31) rfl)
theorem cd_57_58 : mt_cd 57 58 = some (.getfield 35) := mt_cd_of (q := (58, .getfield 35, 3)) mq_57 ci_57 (List.mem_of_getElem? (i := 32) rfl)
theorem cd_57_61 : mt_cd 57 61 = some (.getfield 128) := mt_cd_of (q := (61, .getfield 128, 3)) mq_57 ci_57 (List.mem_of_getElem? (i := 33) rfl)
theorem cd_57_64 : mt_cd 57 64 = some (.iload 5) := mt_cd_of (q := (64, .iload 5, 2)) mq_57 ci_57 (List.mem_of_getElem? (i := 34) rfl)
theorem cd_57_66 : mt_cd 57 66 = some (.lload_n 3) := mt_cd_of (q := (66, .lload_n 3, 1)) mq_57 ci_57 (List.mem_of_getElem? (i := 35) rfl)
theorem cd_57_67 : mt_cd 57 67 = some (.lastore) := mt_cd_of (q := (67, .lastore, 1)) mq_57 ci_57 (List.mem_of_getElem? (i := 36) rfl)
theorem cd_57_68 : mt_cd 57 68 = some (.lload 6) := mt_cd_of (q := (68, .lload 6, 2)) mq_57 ci_57 (List.mem_of_getElem? (i := 37) rfl)
theorem cd_57_70 : mt_cd 57 70 = some (.lreturn) := mt_cd_of (q := (70, .lreturn, 1)) mq_57 ci_57 (List.mem_of_getElem? (i := 38) rfl)
theorem b_57_0 {d : Nat} {Q : (Option Value ⊕ Nat) → mi_H → Prop} (n sl : Nat) (f : Nat → mi_C) {l1 : Nat} {l2 : Int32} {l3 : Int32} {l4 : Int64} {o5 : Option Value} {o6 : Option Value} {o7 : Option Value} (h8 : mi_W d 58 0 (mi_en 1 [.int l2]) [] (n, sl, f) (mi_Kc d 57 1 [some (.ref l1), some (.int l2), some (.int l3), some (.long l4), none, o5, o6, o7] [] Q)) : mi_W (d + 1) 57 0 [some (.ref l1), some (.int l2), some (.int l3), some (.long l4), none, o5, o6, o7] [] (n, sl, f) Q := by
  refine w_iload_n cd_57_0 rfl ?_
  exact w_invokestatic cd_57_1 (show mt_m 0 114 = some (58, 4) by decide +kernel) (by decide) (rest := []) rfl (as := [.int l2]) rfl ⟨Nat.le_of_ble_eq_true rfl, Nat.le_of_ble_eq_true rfl, Nat.le_of_ble_eq_true rfl⟩ h8
theorem b_57_4 {d : Nat} {Q : (Option Value ⊕ Nat) → mi_H → Prop} (n sl : Nat) (f : Nat → mi_C) {l1 : Nat} {l2 : Int32} {l3 : Int32} {l4 : Int64} {o5 : Option Value} {o6 : Option Value} {o7 : Option Value} {s8 : Int32} (h9 : s8 = (0 : Int32) → mi_W d 57 28 [some (.ref l1), some (.int l2), some (.int l3), some (.long l4), none, o5, o6, o7] [] (n, sl, f) Q) (h10 : ¬ (s8 = (0 : Int32)) → mi_W d 57 7 [some (.ref l1), some (.int l2), some (.int l3), some (.long l4), none, o5, o6, o7] [] (n, sl, f) Q) : mi_W d 57 4 [some (.ref l1), some (.int l2), some (.int l3), some (.long l4), none, o5, o6, o7] [.int s8] (n, sl, f) Q := by
  exact w_ifeq cd_57_4 (by decide) h9 h10
theorem b_57_7 {d : Nat} {Q : (Option Value ⊕ Nat) → mi_H → Prop} (n sl : Nat) (f : Nat → mi_C) {l1 : Nat} {l2 : Int32} {l3 : Int32} {l4 : Int64} {o5 : Option Value} {o6 : Option Value} {o7 : Option Value} (h8 : mi_W d 59 0 (mi_en 1 [.int l3]) [] (n, sl, f) (mi_Kc d 57 8 [some (.ref l1), some (.int l2), some (.int l3), some (.long l4), none, o5, o6, o7] [] Q)) : mi_W (d + 1) 57 7 [some (.ref l1), some (.int l2), some (.int l3), some (.long l4), none, o5, o6, o7] [] (n, sl, f) Q := by
  refine w_iload_n cd_57_7 rfl ?_
  exact w_invokestatic cd_57_8 (show mt_m 0 118 = some (59, 4) by decide +kernel) (by decide) (rest := []) rfl (as := [.int l3]) rfl ⟨Nat.le_of_ble_eq_true rfl, Nat.le_of_ble_eq_true rfl, Nat.le_of_ble_eq_true rfl⟩ h8
theorem b_57_11 {d : Nat} {Q : (Option Value ⊕ Nat) → mi_H → Prop} (n sl : Nat) (f : Nat → mi_C) {l1 : Nat} {l2 : Int32} {l3 : Int32} {l4 : Int64} {o5 : Option Value} {o6 : Option Value} {o7 : Option Value} {s8 : Int32} (h9 : s8 = (0 : Int32) → mi_W d 57 28 [some (.ref l1), some (.int l2), some (.int l3), some (.long l4), none, o5, o6, o7] [] (n, sl, f) Q) (h10 : ¬ (s8 = (0 : Int32)) → mi_W d 57 14 [some (.ref l1), some (.int l2), some (.int l3), some (.long l4), none, o5, o6, o7] [] (n, sl, f) Q) : mi_W d 57 11 [some (.ref l1), some (.int l2), some (.int l3), some (.long l4), none, o5, o6, o7] [.int s8] (n, sl, f) Q := by
  exact w_ifeq cd_57_11 (by decide) h9 h10
theorem b_57_14 {d : Nat} {Q : (Option Value ⊕ Nat) → mi_H → Prop} (n sl : Nat) (f : Nat → mi_C) {l1 : Nat} {l2 : Int32} {l3 : Int32} {l4 : Int64} {o5 : Option Value} {o6 : Option Value} {o7 : Option Value} (h8 : (lg_cmp l4 0) < (0 : Int32) → mi_W d 57 28 [some (.ref l1), some (.int l2), some (.int l3), some (.long l4), none, o5, o6, o7] [] (n, sl, f) Q) (h9 : ¬ ((lg_cmp l4 0) < (0 : Int32)) → mi_W d 57 20 [some (.ref l1), some (.int l2), some (.int l3), some (.long l4), none, o5, o6, o7] [] (n, sl, f) Q) : mi_W d 57 14 [some (.ref l1), some (.int l2), some (.int l3), some (.long l4), none, o5, o6, o7] [] (n, sl, f) Q := by
  refine w_lload_n cd_57_14 rfl ?_
  refine w_lconst (lv := 0) cd_57_15 (by decide) ?_
  refine w_lcmp cd_57_16 ?_
  exact w_iflt cd_57_17 (by decide) h8 h9
theorem b_57_20 {d : Nat} {Q : (Option Value ⊕ Nat) → mi_H → Prop} (n sl : Nat) (f : Nat → mi_C) {l1 : Nat} {l2 : Int32} {l3 : Int32} {l4 : Int64} {o5 : Option Value} {o6 : Option Value} {o7 : Option Value} (h8 : (lg_cmp l4 2305843009213693952) ≤ (0 : Int32) → mi_W d 57 38 [some (.ref l1), some (.int l2), some (.int l3), some (.long l4), none, o5, o6, o7] [] (n, sl, f) Q) (h9 : ¬ ((lg_cmp l4 2305843009213693952) ≤ (0 : Int32)) → mi_W d 57 28 [some (.ref l1), some (.int l2), some (.int l3), some (.long l4), none, o5, o6, o7] [] (n, sl, f) Q) : mi_W d 57 20 [some (.ref l1), some (.int l2), some (.int l3), some (.long l4), none, o5, o6, o7] [] (n, sl, f) Q := by
  refine w_lload_n cd_57_20 rfl ?_
  refine w_ldc2_w (lv := 2305843009213693952) cd_57_21 (by decide +kernel) ?_
  refine w_lcmp cd_57_24 ?_
  exact w_ifle cd_57_25 (by decide) h8 h9
theorem b_57_28 {d : Nat} {Q : (Option Value ⊕ Nat) → mi_H → Prop} (n sl : Nat) (f : Nat → mi_C) {l1 : Nat} {l2 : Int32} {l3 : Int32} {l4 : Int64} {o5 : Option Value} {o6 : Option Value} {o7 : Option Value} {h' : mi_H} (h8 : mi_t 57 28 (.new 123) [] (n, sl, f) = some h') (h9 : Q (.inr n) h') : mi_W d 57 28 [some (.ref l1), some (.int l2), some (.int l3), some (.long l4), none, o5, o6, o7] [] (n, sl, f) Q := by
  exact w_throw cd_57_28 (show mt_c 0 123 = some 15 by decide +kernel) (by decide) h8 h9
theorem b_57_38 {d : Nat} {Q : (Option Value ⊕ Nat) → mi_H → Prop} (n sl : Nat) (f : Nat → mi_C) {l1 : Nat} {l2 : Int32} {l3 : Int32} {l4 : Int64} {o5 : Option Value} {o6 : Option Value} {o7 : Option Value} {fs8 : List Value} {x11 : Nat} {fs13 : List Value} {x16 : Nat} (m18 i18 : Nat) (g18 : Nat → Int64) {fs22 : List Value} {x25 : Nat} {fs27 : List Value} {x30 : Nat} (m32 i32 : Nat) (g32 : Nat → Int64) (h9 : f l1 = .inr (0, fs8)) (h10 : l1 < n) (h12 : fs8[3]? = some (.ref x11)) (h14 : f x11 = .inr (5, fs13)) (h15 : x11 < n) (h17 : fs13[0]? = some (.ref x16)) (h19 : f x16 = .inl (3, m18, .inr (.inl g18))) (h20 : x16 < n) (h21 : mi_ix ((l2 * 4) + l3) m18 i18) (h23 : f l1 = .inr (0, fs22)) (h24 : l1 < n) (h26 : fs22[3]? = some (.ref x25)) (h28 : f x25 = .inr (5, fs27)) (h29 : x25 < n) (h31 : fs27[0]? = some (.ref x30)) (h33 : f x30 = .inl (3, m32, .inr (.inl g32))) (h34 : x30 < n) (h35 : mi_ix ((l2 * 4) + l3) m32 i32) (h36 : Q (.inl (some (.long (g18 i18)))) (n, sl, (va_up f x30 (.inl (3, m32, .inr (.inl (vp_updL g32 i32 l4))))))) : mi_W d 57 38 [some (.ref l1), some (.int l2), some (.int l3), some (.long l4), none, o5, o6, o7] [] (n, sl, f) Q := by
  refine w_iload_n cd_57_38 rfl ?_
  refine w_iconst (v := 4) cd_57_39 (by decide) ?_
  refine w_imul cd_57_40 ?_
  refine w_iload_n cd_57_41 rfl ?_
  refine w_iadd cd_57_42 ?_
  refine w_istore (ls' := [some (.ref l1), some (.int l2), some (.int l3), some (.long l4), none, some (.int ((l2 * 4) + l3)), o6, o7]) cd_57_43 (Nat.le_of_ble_eq_true rfl) rfl ?_
  refine w_aload_n cd_57_45 rfl ?_
  refine w_getfield cd_57_46 (show mt_f 0 35 = some (0, 3) by decide +kernel) h9 h10 h12 ?_
  refine w_getfield cd_57_49 (show mt_f 0 128 = some (5, 0) by decide +kernel) h14 h15 h17 ?_
  refine w_iload cd_57_52 rfl ?_
  refine w_laload cd_57_54 h19 h20 h21 ?_
  refine w_lstore (ls' := [some (.ref l1), some (.int l2), some (.int l3), some (.long l4), none, some (.int ((l2 * 4) + l3)), some (.long (g18 i18)), none]) cd_57_55 (Nat.le_of_ble_eq_true rfl) rfl ?_
  refine w_aload_n cd_57_57 rfl ?_
  refine w_getfield cd_57_58 (show mt_f 0 35 = some (0, 3) by decide +kernel) h23 h24 h26 ?_
  refine w_getfield cd_57_61 (show mt_f 0 128 = some (5, 0) by decide +kernel) h28 h29 h31 ?_
  refine w_iload cd_57_64 rfl ?_
  refine w_lload_n cd_57_66 rfl ?_
  refine w_lastore cd_57_67 h33 h34 h35 ?_
  refine w_lload cd_57_68 rfl ?_
  exact w_lreturn cd_57_70 (by decide +kernel) h36
/-! MarloweHost.deposit(IIIJ)I -/
set_option maxRecDepth 100000 in
theorem mq_61 : mt_q 61 = my_61 := rfl
set_option maxRecDepth 100000 in
theorem ci_61 : mt_inc 0 my_61.cd = true := by decide +kernel
theorem cd_61_0 : mt_cd 61 0 = some (.iload_n 1) := mt_cd_of (q := (0, .iload_n 1, 1)) mq_61 ci_61 (List.mem_of_getElem? (i := 0) rfl)
theorem cd_61_1 : mt_cd 61 1 = some (.invokestatic 114) := mt_cd_of (q := (1, .invokestatic 114, 3)) mq_61 ci_61 (List.mem_of_getElem? (i := 1) rfl)
theorem cd_61_4 : mt_cd 61 4 = some (.ifCond .eq 17) := mt_cd_of (q := (4, .ifCond .eq 17, 3)) mq_61 ci_61 (List.mem_of_getElem? (i := 2) rfl)
theorem cd_61_7 : mt_cd 61 7 = some (.iload_n 2) := mt_cd_of (q := (7, .iload_n 2, 1)) mq_61 ci_61 (List.mem_of_getElem? (i := 3) rfl)
theorem cd_61_8 : mt_cd 61 8 = some (.invokestatic 114) := mt_cd_of (q := (8, .invokestatic 114, 3)) mq_61 ci_61 (List.mem_of_getElem? (i := 4) rfl)
theorem cd_61_11 : mt_cd 61 11 = some (.ifCond .eq 10) := mt_cd_of (q := (11, .ifCond .eq 10, 3)) mq_61 ci_61 (List.mem_of_getElem? (i := 5) rfl)
theorem cd_61_14 : mt_cd 61 14 = some (.iload_n 3) := mt_cd_of (q := (14, .iload_n 3, 1)) mq_61 ci_61 (List.mem_of_getElem? (i := 6) rfl)
theorem cd_61_15 : mt_cd 61 15 = some (.invokestatic 118) := mt_cd_of (q := (15, .invokestatic 118, 3)) mq_61 ci_61 (List.mem_of_getElem? (i := 7) rfl)
theorem cd_61_18 : mt_cd 61 18 = some (.ifCond .ne 13) := mt_cd_of (q := (18, .ifCond .ne 13, 3)) mq_61 ci_61 (List.mem_of_getElem? (i := 8) rfl)
theorem cd_61_21 : mt_cd 61 21 = some (.new 123) := mt_cd_of (q := (21, .new 123, 3)) mq_61 ci_61 (List.mem_of_getElem? (i := 9) rfl)
theorem cd_61_24 : mt_cd 61 24 = some (.dup) := mt_cd_of (q := (24, .dup, 1)) mq_61 ci_61 (List.mem_of_getElem? (i := 10) rfl)
theorem cd_61_25 : mt_cd 61 25 = some (.ldc 132) := mt_cd_of (q := (25, .ldc 132, 2)) mq_61 ci_61 (List.mem_of_getElem? (i := 11) rfl)
theorem cd_61_27 : mt_cd 61 27 = some (.invokespecial 127) := mt_cd_of (q := (27, .invokespecial 127, 3)) mq_61 ci_61 (List.mem_of_getElem? (i := 12) rfl)
theorem cd_61_30 : mt_cd 61 30 = some (.athrow) := mt_cd_of (q := (30, .athrow, 1)) mq_61 ci_61 (List.mem_of_getElem? (i := 13) rfl)
theorem cd_61_31 : mt_cd 61 31 = some (.aload_n 0) := mt_cd_of (q := (31, .aload_n 0, 1)) mq_61 ci_61 (List.mem_of_getElem? (i := 14) rfl)
theorem cd_61_32 : mt_cd 61 32 = some (.invokevirtual 134) := mt_cd_of (q := (32, .invokevirtual 134, 3)) mq_61 ci_61 (List.mem_of_getElem? (i := 15) rfl)
theorem cd_61_35 : mt_cd 61 35 = some (.aload_n 0) := mt_cd_of (q := (35, .aload_n 0, 1)) mq_61 ci_61 (List.mem_of_getElem? (i := 16) rfl)
theorem cd_61_36 : mt_cd 61 36 = some (.getfield 42) := mt_cd_of (q := (36, .getfield 42, 3)) mq_61 ci_61 (List.mem_of_getElem? (i := 17) rfl)
theorem cd_61_39 : mt_cd 61 39 = some (.bipush 8) := mt_cd_of (q := (39, .bipush 8, 2)) mq_61 ci_61 (List.mem_of_getElem? (i := 18) rfl)
theorem cd_61_41 : mt_cd 61 41 = some (.iload_n 1) := mt_cd_of (q := (41, .iload_n 1, 1)) mq_61 ci_61 (List.mem_of_getElem? (i := 19) rfl)
theorem cd_61_42 : mt_cd 61 42 = some (.iload_n 2) := mt_cd_of (q := (42, .iload_n 2, 1)) mq_61 ci_61 (List.mem_of_getElem? (i := 20) rfl)
theorem cd_61_43 : mt_cd 61 43 = some (.iload_n 3) := mt_cd_of (q := (43, .iload_n 3, 1)) mq_61 ci_61 (List.mem_of_getElem? (i := 21) rfl)
theorem cd_61_44 : mt_cd 61 44 = some (.lload 4) := mt_cd_of (q := (44, .lload 4, 2)) mq_61 ci_61 (List.mem_of_getElem? (i := 22) rfl)
theorem cd_61_46 : mt_cd 61 46 = some (.invokevirtual 137) := mt_cd_of (q := (46, .invokevirtual 137, 3)) mq_61 ci_61 (List.mem_of_getElem? (i := 23) rfl)
theorem cd_61_49 : mt_cd 61 49 = some (.ireturn) := mt_cd_of (q := (49, .ireturn, 1)) mq_61 ci_61 (List.mem_of_getElem? (i := 24) rfl)
theorem b_61_0 {d : Nat} {Q : (Option Value ⊕ Nat) → mi_H → Prop} (n sl : Nat) (f : Nat → mi_C) {l1 : Nat} {l2 : Int32} {l3 : Int32} {l4 : Int32} {l5 : Int64} (h6 : mi_W d 58 0 (mi_en 1 [.int l2]) [] (n, sl, f) (mi_Kc d 61 1 [some (.ref l1), some (.int l2), some (.int l3), some (.int l4), some (.long l5), none] [] Q)) : mi_W (d + 1) 61 0 [some (.ref l1), some (.int l2), some (.int l3), some (.int l4), some (.long l5), none] [] (n, sl, f) Q := by
  refine w_iload_n cd_61_0 rfl ?_
  exact w_invokestatic cd_61_1 (show mt_m 0 114 = some (58, 4) by decide +kernel) (by decide) (rest := []) rfl (as := [.int l2]) rfl ⟨Nat.le_of_ble_eq_true rfl, Nat.le_of_ble_eq_true rfl, Nat.le_of_ble_eq_true rfl⟩ h6
theorem b_61_4 {d : Nat} {Q : (Option Value ⊕ Nat) → mi_H → Prop} (n sl : Nat) (f : Nat → mi_C) {l1 : Nat} {l2 : Int32} {l3 : Int32} {l4 : Int32} {l5 : Int64} {s6 : Int32} (h7 : s6 = (0 : Int32) → mi_W d 61 21 [some (.ref l1), some (.int l2), some (.int l3), some (.int l4), some (.long l5), none] [] (n, sl, f) Q) (h8 : ¬ (s6 = (0 : Int32)) → mi_W d 61 7 [some (.ref l1), some (.int l2), some (.int l3), some (.int l4), some (.long l5), none] [] (n, sl, f) Q) : mi_W d 61 4 [some (.ref l1), some (.int l2), some (.int l3), some (.int l4), some (.long l5), none] [.int s6] (n, sl, f) Q := by
  exact w_ifeq cd_61_4 (by decide) h7 h8
theorem b_61_7 {d : Nat} {Q : (Option Value ⊕ Nat) → mi_H → Prop} (n sl : Nat) (f : Nat → mi_C) {l1 : Nat} {l2 : Int32} {l3 : Int32} {l4 : Int32} {l5 : Int64} (h6 : mi_W d 58 0 (mi_en 1 [.int l3]) [] (n, sl, f) (mi_Kc d 61 8 [some (.ref l1), some (.int l2), some (.int l3), some (.int l4), some (.long l5), none] [] Q)) : mi_W (d + 1) 61 7 [some (.ref l1), some (.int l2), some (.int l3), some (.int l4), some (.long l5), none] [] (n, sl, f) Q := by
  refine w_iload_n cd_61_7 rfl ?_
  exact w_invokestatic cd_61_8 (show mt_m 0 114 = some (58, 4) by decide +kernel) (by decide) (rest := []) rfl (as := [.int l3]) rfl ⟨Nat.le_of_ble_eq_true rfl, Nat.le_of_ble_eq_true rfl, Nat.le_of_ble_eq_true rfl⟩ h6
theorem b_61_11 {d : Nat} {Q : (Option Value ⊕ Nat) → mi_H → Prop} (n sl : Nat) (f : Nat → mi_C) {l1 : Nat} {l2 : Int32} {l3 : Int32} {l4 : Int32} {l5 : Int64} {s6 : Int32} (h7 : s6 = (0 : Int32) → mi_W d 61 21 [some (.ref l1), some (.int l2), some (.int l3), some (.int l4), some (.long l5), none] [] (n, sl, f) Q) (h8 : ¬ (s6 = (0 : Int32)) → mi_W d 61 14 [some (.ref l1), some (.int l2), some (.int l3), some (.int l4), some (.long l5), none] [] (n, sl, f) Q) : mi_W d 61 11 [some (.ref l1), some (.int l2), some (.int l3), some (.int l4), some (.long l5), none] [.int s6] (n, sl, f) Q := by
  exact w_ifeq cd_61_11 (by decide) h7 h8
theorem b_61_14 {d : Nat} {Q : (Option Value ⊕ Nat) → mi_H → Prop} (n sl : Nat) (f : Nat → mi_C) {l1 : Nat} {l2 : Int32} {l3 : Int32} {l4 : Int32} {l5 : Int64} (h6 : mi_W d 59 0 (mi_en 1 [.int l4]) [] (n, sl, f) (mi_Kc d 61 15 [some (.ref l1), some (.int l2), some (.int l3), some (.int l4), some (.long l5), none] [] Q)) : mi_W (d + 1) 61 14 [some (.ref l1), some (.int l2), some (.int l3), some (.int l4), some (.long l5), none] [] (n, sl, f) Q := by
  refine w_iload_n cd_61_14 rfl ?_
  exact w_invokestatic cd_61_15 (show mt_m 0 118 = some (59, 4) by decide +kernel) (by decide) (rest := []) rfl (as := [.int l4]) rfl ⟨Nat.le_of_ble_eq_true rfl, Nat.le_of_ble_eq_true rfl, Nat.le_of_ble_eq_true rfl⟩ h6
theorem b_61_18 {d : Nat} {Q : (Option Value ⊕ Nat) → mi_H → Prop} (n sl : Nat) (f : Nat → mi_C) {l1 : Nat} {l2 : Int32} {l3 : Int32} {l4 : Int32} {l5 : Int64} {s6 : Int32} (h7 : ¬ s6 = (0 : Int32) → mi_W d 61 31 [some (.ref l1), some (.int l2), some (.int l3), some (.int l4), some (.long l5), none] [] (n, sl, f) Q) (h8 : ¬ (¬ s6 = (0 : Int32)) → mi_W d 61 21 [some (.ref l1), some (.int l2), some (.int l3), some (.int l4), some (.long l5), none] [] (n, sl, f) Q) : mi_W d 61 18 [some (.ref l1), some (.int l2), some (.int l3), some (.int l4), some (.long l5), none] [.int s6] (n, sl, f) Q := by
  exact w_ifne cd_61_18 (by decide) h7 h8
theorem b_61_21 {d : Nat} {Q : (Option Value ⊕ Nat) → mi_H → Prop} (n sl : Nat) (f : Nat → mi_C) {l1 : Nat} {l2 : Int32} {l3 : Int32} {l4 : Int32} {l5 : Int64} {h' : mi_H} (h6 : mi_t 61 21 (.new 123) [] (n, sl, f) = some h') (h7 : Q (.inr n) h') : mi_W d 61 21 [some (.ref l1), some (.int l2), some (.int l3), some (.int l4), some (.long l5), none] [] (n, sl, f) Q := by
  exact w_throw cd_61_21 (show mt_c 0 123 = some 15 by decide +kernel) (by decide) h6 h7
theorem b_61_31 {d : Nat} {Q : (Option Value ⊕ Nat) → mi_H → Prop} (n sl : Nat) (f : Nat → mi_C) {l1 : Nat} {l2 : Int32} {l3 : Int32} {l4 : Int32} {l5 : Int64} {fs6 : List Value} (h7 : f l1 = .inr (0, fs6)) (h8 : l1 < n) (h9 : mi_W d 62 0 (mi_en 1 [.ref l1]) [] (n, sl, f) (mi_Kc d 61 32 [some (.ref l1), some (.int l2), some (.int l3), some (.int l4), some (.long l5), none] [] Q)) : mi_W (d + 1) 61 31 [some (.ref l1), some (.int l2), some (.int l3), some (.int l4), some (.long l5), none] [] (n, sl, f) Q := by
  refine w_aload_n cd_61_31 rfl ?_
  exact w_invokevirtual cd_61_32 (show mt_m 0 134 = some (62, 0) by decide +kernel) (rest := []) rfl (as := [.ref l1]) rfl h7 (Or.inl h8) ⟨Nat.le_of_ble_eq_true rfl, Nat.le_of_ble_eq_true rfl, Nat.le_of_ble_eq_true rfl⟩ h9
theorem b_61_35 {d : Nat} {Q : (Option Value ⊕ Nat) → mi_H → Prop} (n sl : Nat) (f : Nat → mi_C) {l1 : Nat} {l2 : Int32} {l3 : Int32} {l4 : Int32} {l5 : Int64} {fs6 : List Value} {x9 : Nat} {fs11 : List Value} (h7 : f l1 = .inr (0, fs6)) (h8 : l1 < n) (h10 : fs6[4]? = some (.ref x9)) (h12 : f x9 = .inr (6, fs11)) (h13 : x9 < n) (h14 : mi_W d 63 0 (mi_en 7 [.ref x9, .int 8, .int l2, .int l3, .int l4, .long l5]) [] (n, sl, f) (mi_Kc d 61 46 [some (.ref l1), some (.int l2), some (.int l3), some (.int l4), some (.long l5), none] [] Q)) : mi_W (d + 1) 61 35 [some (.ref l1), some (.int l2), some (.int l3), some (.int l4), some (.long l5), none] [] (n, sl, f) Q := by
  refine w_aload_n cd_61_35 rfl ?_
  refine w_getfield cd_61_36 (show mt_f 0 42 = some (0, 4) by decide +kernel) h7 h8 h10 ?_
  refine w_bipush (v := 8) cd_61_39 (by decide) ?_
  refine w_iload_n cd_61_41 rfl ?_
  refine w_iload_n cd_61_42 rfl ?_
  refine w_iload_n cd_61_43 rfl ?_
  refine w_lload cd_61_44 rfl ?_
  exact w_invokevirtual cd_61_46 (show mt_m 0 137 = some (63, 0) by decide +kernel) (rest := []) rfl (as := [.ref x9, .int 8, .int l2, .int l3, .int l4, .long l5]) rfl h12 (Or.inl h13) ⟨Nat.le_of_ble_eq_true rfl, Nat.le_of_ble_eq_true rfl, Nat.le_of_ble_eq_true rfl⟩ h14
theorem b_61_49 {d : Nat} {Q : (Option Value ⊕ Nat) → mi_H → Prop} (n sl : Nat) (f : Nat → mi_C) {l1 : Nat} {l2 : Int32} {l3 : Int32} {l4 : Int32} {l5 : Int64} {s6 : Int32} (h7 : Q (.inl (some (.int s6))) (n, sl, f)) : mi_W d 61 49 [some (.ref l1), some (.int l2), some (.int l3), some (.int l4), some (.long l5), none] [.int s6] (n, sl, f) Q := by
  exact w_ireturn_i cd_61_49 (by decide +kernel) h7
/-! MarloweHostModel.remind()I -/
set_option maxRecDepth 100000 in
theorem mq_188 : mt_q 188 = my_188 := rfl
set_option maxRecDepth 100000 in
theorem ci_188 : mt_inc 0 my_188.cd = true := by decide +kernel
theorem cd_188_0 : mt_cd 188 0 = some (.aload_n 0) := mt_cd_of (q := (0, .aload_n 0, 1)) mq_188 ci_188 (List.mem_of_getElem? (i := 0) rfl)
theorem cd_188_1 : mt_cd 188 1 = some (.iconst 0) := mt_cd_of (q := (1, .iconst 0, 1)) mq_188 ci_188 (List.mem_of_getElem? (i := 1) rfl)
theorem cd_188_2 : mt_cd 188 2 = some (.putfield 248) := mt_cd_of (q := (2, .putfield 248, 3)) mq_188 ci_188 (List.mem_of_getElem? (i := 2) rfl)
theorem cd_188_5 : mt_cd 188 5 = some (.aload_n 0) := mt_cd_of (q := (5, .aload_n 0, 1)) mq_188 ci_188 (List.mem_of_getElem? (i := 3) rfl)
theorem cd_188_6 : mt_cd 188 6 = some (.aload_n 0) := mt_cd_of (q := (6, .aload_n 0, 1)) mq_188 ci_188 (List.mem_of_getElem? (i := 4) rfl)
theorem cd_188_7 : mt_cd 188 7 = some (.getfield 258) := mt_cd_of (q := (7, .getfield 258, 3)) mq_188 ci_188 (List.mem_of_getElem? (i := 5) rfl)
theorem cd_188_10 : mt_cd 188 10 = some (.bipush 16) := mt_cd_of (q := (10, .bipush 16, 2)) mq_188 ci_188 (List.mem_of_getElem? (i := 6) rfl)
theorem cd_188_12 : mt_cd 188 12 = some (.if_icmp .ne 7) := mt_cd_of (q := (12, .if_icmp .ne 7, 3)) mq_188 ci_188 (List.mem_of_getElem? (i := 7) rfl)
theorem cd_188_15 : mt_cd 188 15 = some (.iconst 1) := mt_cd_of (q := (15, .iconst 1, 1)) mq_188 ci_188 (List.mem_of_getElem? (i := 8) rfl)
theorem cd_188_16 : mt_cd 188 16 = some (.goto 4) := mt_cd_of (q := (16, .goto 4, 3)) mq_188 ci_188 (List.mem_of_getElem? (i := 9) rfl)
theorem cd_188_19 : mt_cd 188 19 = some (.iconst 0) := mt_cd_of (q := (19, .iconst 0, 1)) mq_188 ci_188 (List.mem_of_getElem? (i := 10) rfl)
theorem cd_188_20 : mt_cd 188 20 = some (.iconst 1) := mt_cd_of (q := (20, .iconst 1, 1)) mq_188 ci_188 (List.mem_of_getElem? (i := 11) rfl)
theorem cd_188_21 : mt_cd 188 21 = some (.invokevirtual 254) := mt_cd_of (q := (21, .invokevirtual 254, 3)) mq_188 ci_188 (List.mem_of_getElem? (i := 12) rfl)
theorem cd_188_24 : mt_cd 188 24 = some (.ifCond .eq 5) := mt_cd_of (q := (24, .ifCond .eq 5, 3)) mq_188 ci_188 (List.mem_of_getElem? (i := 13) rfl)
theorem cd_188_27 : mt_cd 188 27 = some (.iconst 0) := mt_cd_of (q := (27, .iconst 0, 1)) mq_188 ci_188 (List.mem_of_getElem? (i := 14) rfl)
theorem cd_188_28 : mt_cd 188 28 = some (.ireturn) := mt_cd_of (q := (28, .ireturn, 1)) mq_188 ci_188 (List.mem_of_getElem? (i := 15) rfl)
theorem cd_188_29 : mt_cd 188 29 = some (.aload_n 0) := mt_cd_of (q := (29, .aload_n 0, 1)) mq_188 ci_188 (List.mem_of_getElem? (i := 16) rfl)
theorem cd_188_30 : mt_cd 188 30 = some (.bipush 9) := mt_cd_of (q := (30, .bipush 9, 2)) mq_188 ci_188 (List.mem_of_getElem? (i := 17) rfl)
theorem cd_188_32 : mt_cd 188 32 = some (.iconst 0) := mt_cd_of (q := (32, .iconst 0, 1)) mq_188 ci_188 (List.mem_of_getElem? (i := 18) rfl)
theorem cd_188_33 : mt_cd 188 33 = some (.iconst 0) := mt_cd_of (q := (33, .iconst 0, 1)) mq_188 ci_188 (List.mem_of_getElem? (i := 19) rfl)
theorem cd_188_34 : mt_cd 188 34 = some (.iconst 0) := mt_cd_of (q := (34, .iconst 0, 1)) mq_188 ci_188 (List.mem_of_getElem? (i := 20) rfl)
theorem cd_188_35 : mt_cd 188 35 = some (.lconst 0) := mt_cd_of (q := (35, .lconst 0, 1)) mq_188 ci_188 (List.mem_of_getElem? (i := 21) rfl)
theorem cd_188_36 : mt_cd 188 36 = some (.invokevirtual 548) := mt_cd_of (q := (36, .invokevirtual 548, 3)) mq_188 ci_188 (List.mem_of_getElem? (i := 22) rfl)
theorem cd_188_39 : mt_cd 188 39 = some (.ireturn) := mt_cd_of (q := (39, .ireturn, 1)) mq_188 ci_188 (List.mem_of_getElem? (i := 23) rfl)
theorem b_188_0 {d : Nat} {Q : (Option Value ⊕ Nat) → mi_H → Prop} (n sl : Nat) (f : Nat → mi_C) {l1 : Nat} {fs2 : List Value} {fs6 : List Value} {x9 : Int32} (h3 : f l1 = .inr (12, fs2)) (h4 : l1 < n) (h5 : 0 < fs2.length) (h7 : (va_up f l1 (.inr (12, fs2.set 0 (.int 0)))) l1 = .inr (12, fs6)) (h8 : l1 < n) (h10 : fs6[59]? = some (.int x9)) (h11 : ¬ x9 = 16 → mi_W d 188 19 [some (.ref l1)] [.ref l1] (n, sl, (va_up f l1 (.inr (12, fs2.set 0 (.int 0))))) Q) (h12 : ¬ (¬ x9 = 16) → mi_W d 188 15 [some (.ref l1)] [.ref l1] (n, sl, (va_up f l1 (.inr (12, fs2.set 0 (.int 0))))) Q) : mi_W d 188 0 [some (.ref l1)] [] (n, sl, f) Q := by
  refine w_aload_n cd_188_0 rfl ?_
  refine w_iconst (v := 0) cd_188_1 (by decide) ?_
  refine w_putfield (w := .int 0) cd_188_2 (show mt_f 12 248 = some (12, 0) by decide +kernel) h3 h4 ⟨h5, rfl, Or.inl (by decide)⟩ ?_
  refine w_aload_n cd_188_5 rfl ?_
  refine w_aload_n cd_188_6 rfl ?_
  refine w_getfield cd_188_7 (show mt_f 12 258 = some (12, 59) by decide +kernel) h7 h8 h10 ?_
  refine w_bipush (v := 16) cd_188_10 (by decide) ?_
  exact w_if_icmpne cd_188_12 (by decide) h11 h12
theorem b_188_15 {d : Nat} {Q : (Option Value ⊕ Nat) → mi_H → Prop} (n sl : Nat) (f : Nat → mi_C) {l1 : Nat} {s2 : Nat} (h3 : mi_W d 188 20 [some (.ref l1)] [.int 1, .ref s2] (n, sl, f) Q) : mi_W d 188 15 [some (.ref l1)] [.ref s2] (n, sl, f) Q := by
  refine w_iconst (v := 1) cd_188_15 (by decide) ?_
  exact w_goto cd_188_16 (by decide) h3
theorem b_188_19 {d : Nat} {Q : (Option Value ⊕ Nat) → mi_H → Prop} (n sl : Nat) (f : Nat → mi_C) {l1 : Nat} {s2 : Nat} (h3 : mi_W d 188 20 [some (.ref l1)] [.int 0, .ref s2] (n, sl, f) Q) : mi_W d 188 19 [some (.ref l1)] [.ref s2] (n, sl, f) Q := by
  refine w_iconst (v := 0) cd_188_19 (by decide) ?_
  exact h3
theorem b_188_20 {d : Nat} {Q : (Option Value ⊕ Nat) → mi_H → Prop} (n sl : Nat) (f : Nat → mi_C) {l1 : Nat} {s2 : Int32} {s3 : Nat} {fs4 : List Value} (h5 : f s3 = .inr (12, fs4)) (h6 : s3 < n) (h7 : mi_W d 138 0 (mi_en 3 [.ref s3, .int s2, .int 1]) [] (n, sl, f) (mi_Kc d 188 21 [some (.ref l1)] [] Q)) : mi_W (d + 1) 188 20 [some (.ref l1)] [.int s2, .ref s3] (n, sl, f) Q := by
  refine w_iconst (v := 1) cd_188_20 (by decide) ?_
  exact w_invokevirtual cd_188_21 (show mt_m 12 254 = some (138, 0) by decide +kernel) (rest := []) rfl (as := [.ref s3, .int s2, .int 1]) rfl h5 (Or.inl h6) ⟨Nat.le_of_ble_eq_true rfl, Nat.le_of_ble_eq_true rfl, Nat.le_of_ble_eq_true rfl⟩ h7
theorem b_188_24 {d : Nat} {Q : (Option Value ⊕ Nat) → mi_H → Prop} (n sl : Nat) (f : Nat → mi_C) {l1 : Nat} {s2 : Int32} (h3 : s2 = (0 : Int32) → mi_W d 188 29 [some (.ref l1)] [] (n, sl, f) Q) (h4 : ¬ (s2 = (0 : Int32)) → mi_W d 188 27 [some (.ref l1)] [] (n, sl, f) Q) : mi_W d 188 24 [some (.ref l1)] [.int s2] (n, sl, f) Q := by
  exact w_ifeq cd_188_24 (by decide) h3 h4
theorem b_188_27 {d : Nat} {Q : (Option Value ⊕ Nat) → mi_H → Prop} (n sl : Nat) (f : Nat → mi_C) {l1 : Nat} (h2 : Q (.inl (some (.int 0))) (n, sl, f)) : mi_W d 188 27 [some (.ref l1)] [] (n, sl, f) Q := by
  refine w_iconst (v := 0) cd_188_27 (by decide) ?_
  exact w_ireturn_i cd_188_28 (by decide +kernel) h2
theorem b_188_29 {d : Nat} {Q : (Option Value ⊕ Nat) → mi_H → Prop} (n sl : Nat) (f : Nat → mi_C) {l1 : Nat} {fs2 : List Value} (h3 : f l1 = .inr (12, fs2)) (h4 : l1 < n) (h5 : mi_W d 186 0 (mi_en 7 [.ref l1, .int 9, .int 0, .int 0, .int 0, .long 0]) [] (n, sl, f) (mi_Kc d 188 36 [some (.ref l1)] [] Q)) : mi_W (d + 1) 188 29 [some (.ref l1)] [] (n, sl, f) Q := by
  refine w_aload_n cd_188_29 rfl ?_
  refine w_bipush (v := 9) cd_188_30 (by decide) ?_
  refine w_iconst (v := 0) cd_188_32 (by decide) ?_
  refine w_iconst (v := 0) cd_188_33 (by decide) ?_
  refine w_iconst (v := 0) cd_188_34 (by decide) ?_
  refine w_lconst (lv := 0) cd_188_35 (by decide) ?_
  exact w_invokevirtual cd_188_36 (show mt_m 12 548 = some (186, 0) by decide +kernel) (rest := []) rfl (as := [.ref l1, .int 9, .int 0, .int 0, .int 0, .long 0]) rfl h3 (Or.inl h4) ⟨Nat.le_of_ble_eq_true rfl, Nat.le_of_ble_eq_true rfl, Nat.le_of_ble_eq_true rfl⟩ h5
theorem b_188_39 {d : Nat} {Q : (Option Value ⊕ Nat) → mi_H → Prop} (n sl : Nat) (f : Nat → mi_C) {l1 : Nat} {s2 : Int32} (h3 : Q (.inl (some (.int s2))) (n, sl, f)) : mi_W d 188 39 [some (.ref l1)] [.int s2] (n, sl, f) Q := by
  exact w_ireturn_i cd_188_39 (by decide +kernel) h3
/-! MarloweHostLaw.state(LMarloweHost;III[J)I -/
set_option maxRecDepth 100000 in
theorem mq_115 : mt_q 115 = my_115 := rfl
set_option maxRecDepth 100000 in
theorem ci_115 : mt_inc 0 my_115.cd = true := by decide +kernel
theorem cd_115_0 : mt_cd 115 0 = some (.aload 4) := mt_cd_of (q := (0, .aload 4, 2)) mq_115 ci_115 (List.mem_of_getElem? (i := 0) rfl)
theorem cd_115_2 : mt_cd 115 2 = some (.iconst 0) := mt_cd_of (q := (2, .iconst 0, 1)) mq_115 ci_115 (List.mem_of_getElem? (i := 1) rfl)
theorem cd_115_3 : mt_cd 115 3 = some (.aload_n 0) := mt_cd_of (q := (3, .aload_n 0, 1)) mq_115 ci_115 (List.mem_of_getElem? (i := 2) rfl)
theorem cd_115_4 : mt_cd 115 4 = some (.iload_n 1) := mt_cd_of (q := (4, .iload_n 1, 1)) mq_115 ci_115 (List.mem_of_getElem? (i := 3) rfl)
theorem cd_115_5 : mt_cd 115 5 = some (.iload_n 2) := mt_cd_of (q := (5, .iload_n 2, 1)) mq_115 ci_115 (List.mem_of_getElem? (i := 4) rfl)
theorem cd_115_6 : mt_cd 115 6 = some (.iload_n 3) := mt_cd_of (q := (6, .iload_n 3, 1)) mq_115 ci_115 (List.mem_of_getElem? (i := 5) rfl)
theorem cd_115_7 : mt_cd 115 7 = some (.invokevirtual 51) := mt_cd_of (q := (7, .invokevirtual 51, 3)) mq_115 ci_115 (List.mem_of_getElem? (i := 6) rfl)
theorem cd_115_10 : mt_cd 115 10 = some (.lastore) := mt_cd_of (q := (10, .lastore, 1)) mq_115 ci_115 (List.mem_of_getElem? (i := 7) rfl)
theorem cd_115_11 : mt_cd 115 11 = some (.goto 11) := mt_cd_of (q := (11, .goto 11, 3)) mq_115 ci_115 (List.mem_of_getElem? (i := 8) rfl)
theorem cd_115_14 : mt_cd 115 14 = some (.astore 5) := mt_cd_of (q := (14, .astore 5, 2)) mq_115 ci_115 (List.mem_of_getElem? (i := 9) rfl)
theorem cd_115_16 : mt_cd 115 16 = some (.iconst 1) := mt_cd_of (q := (16, .iconst 1, 1)) mq_115 ci_115 (List.mem_of_getElem? (i := 10) rfl)
theorem cd_115_17 : mt_cd 115 17 = some (.ireturn) := mt_cd_of (q := (17, .ireturn, 1)) mq_115 ci_115 (List.mem_of_getElem? (i := 11) rfl)
theorem cd_115_18 : mt_cd 115 18 = some (.astore 5) := mt_cd_of (q := (18, .astore 5, 2)) mq_115 ci_115 (List.mem_of_getElem? (i := 12) rfl)
theorem cd_115_20 : mt_cd 115 20 = some (.iconst 2) := mt_cd_of (q := (20, .iconst 2, 1)) mq_115 ci_115 (List.mem_of_getElem? (i := 13) rfl)
theorem cd_115_21 : mt_cd 115 21 = some (.ireturn) := mt_cd_of (q := (21, .ireturn, 1)) mq_115 ci_115 (List.mem_of_getElem? (i := 14) rfl)
theorem cd_115_22 : mt_cd 115 22 = some (.iconst 0) := mt_cd_of (q := (22, .iconst 0, 1)) mq_115 ci_115 (List.mem_of_getElem? (i := 15) rfl)
theorem cd_115_23 : mt_cd 115 23 = some (.ireturn) := mt_cd_of (q := (23, .ireturn, 1)) mq_115 ci_115 (List.mem_of_getElem? (i := 16) rfl)
theorem b_115_0 {d : Nat} {Q : (Option Value ⊕ Nat) → mi_H → Prop} (n sl : Nat) (f : Nat → mi_C) {l1 : Nat} {l2 : Int32} {l3 : Int32} {l4 : Int32} {l5 : Nat} {o6 : Option Value} {fs7 : List Value} (h8 : f l1 = .inr (0, fs7)) (h9 : l1 < n) (h10 : mi_W d 116 0 (mi_en 4 [.ref l1, .int l2, .int l3, .int l4]) [] (n, sl, f) (mi_Kc d 115 7 [some (.ref l1), some (.int l2), some (.int l3), some (.int l4), some (.ref l5), o6] [.int 0, .ref l5] Q)) : mi_W (d + 1) 115 0 [some (.ref l1), some (.int l2), some (.int l3), some (.int l4), some (.ref l5), o6] [] (n, sl, f) Q := by
  refine w_aload cd_115_0 rfl ?_
  refine w_iconst (v := 0) cd_115_2 (by decide) ?_
  refine w_aload_n cd_115_3 rfl ?_
  refine w_iload_n cd_115_4 rfl ?_
  refine w_iload_n cd_115_5 rfl ?_
  refine w_iload_n cd_115_6 rfl ?_
  exact w_invokevirtual cd_115_7 (show mt_m 18 51 = some (116, 0) by decide +kernel) (rest := [.int 0, .ref l5]) rfl (as := [.ref l1, .int l2, .int l3, .int l4]) rfl h8 (Or.inl h9) ⟨Nat.le_of_ble_eq_true rfl, Nat.le_of_ble_eq_true rfl, Nat.le_of_ble_eq_true rfl⟩ h10
theorem b_115_10 {d : Nat} {Q : (Option Value ⊕ Nat) → mi_H → Prop} (n sl : Nat) (f : Nat → mi_C) {l1 : Nat} {l2 : Int32} {l3 : Int32} {l4 : Int32} {l5 : Nat} {o6 : Option Value} {s7 : Int64} {s8 : Int32} {s9 : Nat} (m10 i10 : Nat) (g10 : Nat → Int64) (h11 : f s9 = .inl (3, m10, .inr (.inl g10))) (h12 : s9 < n) (h13 : mi_ix s8 m10 i10) (h14 : mi_W d 115 22 [some (.ref l1), some (.int l2), some (.int l3), some (.int l4), some (.ref l5), o6] [] (n, sl, (va_up f s9 (.inl (3, m10, .inr (.inl (vp_updL g10 i10 s7)))))) Q) : mi_W d 115 10 [some (.ref l1), some (.int l2), some (.int l3), some (.int l4), some (.ref l5), o6] [.long s7, .int s8, .ref s9] (n, sl, f) Q := by
  refine w_lastore cd_115_10 h11 h12 h13 ?_
  exact w_goto cd_115_11 (by decide) h14
theorem b_115_14 {d : Nat} {Q : (Option Value ⊕ Nat) → mi_H → Prop} (n sl : Nat) (f : Nat → mi_C) {l1 : Nat} {l2 : Int32} {l3 : Int32} {l4 : Int32} {l5 : Nat} {o6 : Option Value} {s7 : Nat} (h8 : Q (.inl (some (.int 1))) (n, sl, f)) : mi_W d 115 14 [some (.ref l1), some (.int l2), some (.int l3), some (.int l4), some (.ref l5), o6] [.ref s7] (n, sl, f) Q := by
  refine w_astore (ls' := [some (.ref l1), some (.int l2), some (.int l3), some (.int l4), some (.ref l5), some (.ref s7)]) cd_115_14 (Nat.le_of_ble_eq_true rfl) rfl ?_
  refine w_iconst (v := 1) cd_115_16 (by decide) ?_
  exact w_ireturn_i cd_115_17 (by decide +kernel) h8
theorem b_115_18 {d : Nat} {Q : (Option Value ⊕ Nat) → mi_H → Prop} (n sl : Nat) (f : Nat → mi_C) {l1 : Nat} {l2 : Int32} {l3 : Int32} {l4 : Int32} {l5 : Nat} {o6 : Option Value} {s7 : Nat} (h8 : Q (.inl (some (.int 2))) (n, sl, f)) : mi_W d 115 18 [some (.ref l1), some (.int l2), some (.int l3), some (.int l4), some (.ref l5), o6] [.ref s7] (n, sl, f) Q := by
  refine w_astore (ls' := [some (.ref l1), some (.int l2), some (.int l3), some (.int l4), some (.ref l5), some (.ref s7)]) cd_115_18 (Nat.le_of_ble_eq_true rfl) rfl ?_
  refine w_iconst (v := 2) cd_115_20 (by decide) ?_
  exact w_ireturn_i cd_115_21 (by decide +kernel) h8
theorem b_115_22 {d : Nat} {Q : (Option Value ⊕ Nat) → mi_H → Prop} (n sl : Nat) (f : Nat → mi_C) {l1 : Nat} {l2 : Int32} {l3 : Int32} {l4 : Int32} {l5 : Nat} {o6 : Option Value} (h7 : Q (.inl (some (.int 0))) (n, sl, f)) : mi_W d 115 22 [some (.ref l1), some (.int l2), some (.int l3), some (.int l4), some (.ref l5), o6] [] (n, sl, f) Q := by
  refine w_iconst (v := 0) cd_115_22 (by decide) ?_
  exact w_ireturn_i cd_115_23 (by decide +kernel) h7
/-! MarloweHostLaw.told(LMarloweHost;II[J)I -/
set_option maxRecDepth 100000 in
theorem mq_111 : mt_q 111 = my_111 := rfl
set_option maxRecDepth 100000 in
theorem ci_111 : mt_inc 0 my_111.cd = true := by decide +kernel
theorem cd_111_0 : mt_cd 111 0 = some (.aload_n 3) := mt_cd_of (q := (0, .aload_n 3, 1)) mq_111 ci_111 (List.mem_of_getElem? (i := 0) rfl)
theorem cd_111_1 : mt_cd 111 1 = some (.iconst 0) := mt_cd_of (q := (1, .iconst 0, 1)) mq_111 ci_111 (List.mem_of_getElem? (i := 1) rfl)
theorem cd_111_2 : mt_cd 111 2 = some (.aload_n 0) := mt_cd_of (q := (2, .aload_n 0, 1)) mq_111 ci_111 (List.mem_of_getElem? (i := 2) rfl)
theorem cd_111_3 : mt_cd 111 3 = some (.iload_n 1) := mt_cd_of (q := (3, .iload_n 1, 1)) mq_111 ci_111 (List.mem_of_getElem? (i := 3) rfl)
theorem cd_111_4 : mt_cd 111 4 = some (.iload_n 2) := mt_cd_of (q := (4, .iload_n 2, 1)) mq_111 ci_111 (List.mem_of_getElem? (i := 4) rfl)
theorem cd_111_5 : mt_cd 111 5 = some (.invokevirtual 43) := mt_cd_of (q := (5, .invokevirtual 43, 3)) mq_111 ci_111 (List.mem_of_getElem? (i := 5) rfl)
theorem cd_111_8 : mt_cd 111 8 = some (.i2l) := mt_cd_of (q := (8, .i2l, 1)) mq_111 ci_111 (List.mem_of_getElem? (i := 6) rfl)
theorem cd_111_9 : mt_cd 111 9 = some (.lastore) := mt_cd_of (q := (9, .lastore, 1)) mq_111 ci_111 (List.mem_of_getElem? (i := 7) rfl)
theorem cd_111_10 : mt_cd 111 10 = some (.goto 11) := mt_cd_of (q := (10, .goto 11, 3)) mq_111 ci_111 (List.mem_of_getElem? (i := 8) rfl)
theorem cd_111_13 : mt_cd 111 13 = some (.astore 4) := mt_cd_of (q := (13, .astore 4, 2)) mq_111 ci_111 (List.mem_of_getElem? (i := 9) rfl)
theorem cd_111_15 : mt_cd 111 15 = some (.iconst 1) := mt_cd_of (q := (15, .iconst 1, 1)) mq_111 ci_111 (List.mem_of_getElem? (i := 10) rfl)
theorem cd_111_16 : mt_cd 111 16 = some (.ireturn) := mt_cd_of (q := (16, .ireturn, 1)) mq_111 ci_111 (List.mem_of_getElem? (i := 11) rfl)
theorem cd_111_17 : mt_cd 111 17 = some (.astore 4) := mt_cd_of (q := (17, .astore 4, 2)) mq_111 ci_111 (List.mem_of_getElem? (i := 12) rfl)
theorem cd_111_19 : mt_cd 111 19 = some (.iconst 2) := mt_cd_of (q := (19, .iconst 2, 1)) mq_111 ci_111 (List.mem_of_getElem? (i := 13) rfl)
theorem cd_111_20 : mt_cd 111 20 = some (.ireturn) := mt_cd_of (q := (20, .ireturn, 1)) mq_111 ci_111 (List.mem_of_getElem? (i := 14) rfl)
theorem cd_111_21 : mt_cd 111 21 = some (.iconst 0) := mt_cd_of (q := (21, .iconst 0, 1)) mq_111 ci_111 (List.mem_of_getElem? (i := 15) rfl)
theorem cd_111_22 : mt_cd 111 22 = some (.ireturn) := mt_cd_of (q := (22, .ireturn, 1)) mq_111 ci_111 (List.mem_of_getElem? (i := 16) rfl)
theorem b_111_0 {d : Nat} {Q : (Option Value ⊕ Nat) → mi_H → Prop} (n sl : Nat) (f : Nat → mi_C) {l1 : Nat} {l2 : Int32} {l3 : Int32} {l4 : Nat} {o5 : Option Value} {fs6 : List Value} (h7 : f l1 = .inr (0, fs6)) (h8 : l1 < n) (h9 : mi_W d 112 0 (mi_en 4 [.ref l1, .int l2, .int l3]) [] (n, sl, f) (mi_Kc d 111 5 [some (.ref l1), some (.int l2), some (.int l3), some (.ref l4), o5] [.int 0, .ref l4] Q)) : mi_W (d + 1) 111 0 [some (.ref l1), some (.int l2), some (.int l3), some (.ref l4), o5] [] (n, sl, f) Q := by
  refine w_aload_n cd_111_0 rfl ?_
  refine w_iconst (v := 0) cd_111_1 (by decide) ?_
  refine w_aload_n cd_111_2 rfl ?_
  refine w_iload_n cd_111_3 rfl ?_
  refine w_iload_n cd_111_4 rfl ?_
  exact w_invokevirtual cd_111_5 (show mt_m 18 43 = some (112, 0) by decide +kernel) (rest := [.int 0, .ref l4]) rfl (as := [.ref l1, .int l2, .int l3]) rfl h7 (Or.inl h8) ⟨Nat.le_of_ble_eq_true rfl, Nat.le_of_ble_eq_true rfl, Nat.le_of_ble_eq_true rfl⟩ h9
theorem b_111_8 {d : Nat} {Q : (Option Value ⊕ Nat) → mi_H → Prop} (n sl : Nat) (f : Nat → mi_C) {l1 : Nat} {l2 : Int32} {l3 : Int32} {l4 : Nat} {o5 : Option Value} {s6 : Int32} {s7 : Int32} {s8 : Nat} (m9 i9 : Nat) (g9 : Nat → Int64) (h10 : f s8 = .inl (3, m9, .inr (.inl g9))) (h11 : s8 < n) (h12 : mi_ix s7 m9 i9) (h13 : mi_W d 111 21 [some (.ref l1), some (.int l2), some (.int l3), some (.ref l4), o5] [] (n, sl, (va_up f s8 (.inl (3, m9, .inr (.inl (vp_updL g9 i9 ((s6 : Int32).toInt64))))))) Q) : mi_W d 111 8 [some (.ref l1), some (.int l2), some (.int l3), some (.ref l4), o5] [.int s6, .int s7, .ref s8] (n, sl, f) Q := by
  refine w_i2l cd_111_8 ?_
  refine w_lastore cd_111_9 h10 h11 h12 ?_
  exact w_goto cd_111_10 (by decide) h13
theorem b_111_13 {d : Nat} {Q : (Option Value ⊕ Nat) → mi_H → Prop} (n sl : Nat) (f : Nat → mi_C) {l1 : Nat} {l2 : Int32} {l3 : Int32} {l4 : Nat} {o5 : Option Value} {s6 : Nat} (h7 : Q (.inl (some (.int 1))) (n, sl, f)) : mi_W d 111 13 [some (.ref l1), some (.int l2), some (.int l3), some (.ref l4), o5] [.ref s6] (n, sl, f) Q := by
  refine w_astore (ls' := [some (.ref l1), some (.int l2), some (.int l3), some (.ref l4), some (.ref s6)]) cd_111_13 (Nat.le_of_ble_eq_true rfl) rfl ?_
  refine w_iconst (v := 1) cd_111_15 (by decide) ?_
  exact w_ireturn_i cd_111_16 (by decide +kernel) h7
theorem b_111_17 {d : Nat} {Q : (Option Value ⊕ Nat) → mi_H → Prop} (n sl : Nat) (f : Nat → mi_C) {l1 : Nat} {l2 : Int32} {l3 : Int32} {l4 : Nat} {o5 : Option Value} {s6 : Nat} (h7 : Q (.inl (some (.int 2))) (n, sl, f)) : mi_W d 111 17 [some (.ref l1), some (.int l2), some (.int l3), some (.ref l4), o5] [.ref s6] (n, sl, f) Q := by
  refine w_astore (ls' := [some (.ref l1), some (.int l2), some (.int l3), some (.ref l4), some (.ref s6)]) cd_111_17 (Nat.le_of_ble_eq_true rfl) rfl ?_
  refine w_iconst (v := 2) cd_111_19 (by decide) ?_
  exact w_ireturn_i cd_111_20 (by decide +kernel) h7
theorem b_111_21 {d : Nat} {Q : (Option Value ⊕ Nat) → mi_H → Prop} (n sl : Nat) (f : Nat → mi_C) {l1 : Nat} {l2 : Int32} {l3 : Int32} {l4 : Nat} {o5 : Option Value} (h6 : Q (.inl (some (.int 0))) (n, sl, f)) : mi_W d 111 21 [some (.ref l1), some (.int l2), some (.int l3), some (.ref l4), o5] [] (n, sl, f) Q := by
  refine w_iconst (v := 0) cd_111_21 (by decide) ?_
  exact w_ireturn_i cd_111_22 (by decide +kernel) h6
/-! MarloweHostLaw.step(LMarloweHost;II[J)I -/
set_option maxRecDepth 100000 in
theorem mq_129 : mt_q 129 = my_129 := rfl
set_option maxRecDepth 100000 in
theorem ci_129 : mt_inc 0 my_129.cd = true := by decide +kernel
theorem cd_129_0 : mt_cd 129 0 = some (.aload_n 3) := mt_cd_of (q := (0, .aload_n 3, 1)) mq_129 ci_129 (List.mem_of_getElem? (i := 0) rfl)
theorem cd_129_1 : mt_cd 129 1 = some (.iconst 0) := mt_cd_of (q := (1, .iconst 0, 1)) mq_129 ci_129 (List.mem_of_getElem? (i := 1) rfl)
theorem cd_129_2 : mt_cd 129 2 = some (.aload_n 0) := mt_cd_of (q := (2, .aload_n 0, 1)) mq_129 ci_129 (List.mem_of_getElem? (i := 2) rfl)
theorem cd_129_3 : mt_cd 129 3 = some (.iload_n 1) := mt_cd_of (q := (3, .iload_n 1, 1)) mq_129 ci_129 (List.mem_of_getElem? (i := 3) rfl)
theorem cd_129_4 : mt_cd 129 4 = some (.iload_n 2) := mt_cd_of (q := (4, .iload_n 2, 1)) mq_129 ci_129 (List.mem_of_getElem? (i := 4) rfl)
theorem cd_129_5 : mt_cd 129 5 = some (.invokevirtual 58) := mt_cd_of (q := (5, .invokevirtual 58, 3)) mq_129 ci_129 (List.mem_of_getElem? (i := 5) rfl)
theorem cd_129_8 : mt_cd 129 8 = some (.lastore) := mt_cd_of (q := (8, .lastore, 1)) mq_129 ci_129 (List.mem_of_getElem? (i := 6) rfl)
theorem cd_129_9 : mt_cd 129 9 = some (.goto 11) := mt_cd_of (q := (9, .goto 11, 3)) mq_129 ci_129 (List.mem_of_getElem? (i := 7) rfl)
theorem cd_129_12 : mt_cd 129 12 = some (.astore 4) := mt_cd_of (q := (12, .astore 4, 2)) mq_129 ci_129 (List.mem_of_getElem? (i := 8) rfl)
theorem cd_129_14 : mt_cd 129 14 = some (.iconst 1) := mt_cd_of (q := (14, .iconst 1, 1)) mq_129 ci_129 (List.mem_of_getElem? (i := 9) rfl)
theorem cd_129_15 : mt_cd 129 15 = some (.ireturn) := mt_cd_of (q := (15, .ireturn, 1)) mq_129 ci_129 (List.mem_of_getElem? (i := 10) rfl)
theorem cd_129_16 : mt_cd 129 16 = some (.astore 4) := mt_cd_of (q := (16, .astore 4, 2)) mq_129 ci_129 (List.mem_of_getElem? (i := 11) rfl)
theorem cd_129_18 : mt_cd 129 18 = some (.iconst 2) := mt_cd_of (q := (18, .iconst 2, 1)) mq_129 ci_129 (List.mem_of_getElem? (i := 12) rfl)
theorem cd_129_19 : mt_cd 129 19 = some (.ireturn) := mt_cd_of (q := (19, .ireturn, 1)) mq_129 ci_129 (List.mem_of_getElem? (i := 13) rfl)
theorem cd_129_20 : mt_cd 129 20 = some (.iconst 0) := mt_cd_of (q := (20, .iconst 0, 1)) mq_129 ci_129 (List.mem_of_getElem? (i := 14) rfl)
theorem cd_129_21 : mt_cd 129 21 = some (.ireturn) := mt_cd_of (q := (21, .ireturn, 1)) mq_129 ci_129 (List.mem_of_getElem? (i := 15) rfl)
theorem b_129_0 {d : Nat} {Q : (Option Value ⊕ Nat) → mi_H → Prop} (n sl : Nat) (f : Nat → mi_C) {l1 : Nat} {l2 : Int32} {l3 : Int32} {l4 : Nat} {o5 : Option Value} {fs6 : List Value} (h7 : f l1 = .inr (0, fs6)) (h8 : l1 < n) (h9 : mi_W d 130 0 (mi_en 3 [.ref l1, .int l2, .int l3]) [] (n, sl, f) (mi_Kc d 129 5 [some (.ref l1), some (.int l2), some (.int l3), some (.ref l4), o5] [.int 0, .ref l4] Q)) : mi_W (d + 1) 129 0 [some (.ref l1), some (.int l2), some (.int l3), some (.ref l4), o5] [] (n, sl, f) Q := by
  refine w_aload_n cd_129_0 rfl ?_
  refine w_iconst (v := 0) cd_129_1 (by decide) ?_
  refine w_aload_n cd_129_2 rfl ?_
  refine w_iload_n cd_129_3 rfl ?_
  refine w_iload_n cd_129_4 rfl ?_
  exact w_invokevirtual cd_129_5 (show mt_m 18 58 = some (130, 0) by decide +kernel) (rest := [.int 0, .ref l4]) rfl (as := [.ref l1, .int l2, .int l3]) rfl h7 (Or.inl h8) ⟨Nat.le_of_ble_eq_true rfl, Nat.le_of_ble_eq_true rfl, Nat.le_of_ble_eq_true rfl⟩ h9
theorem b_129_8 {d : Nat} {Q : (Option Value ⊕ Nat) → mi_H → Prop} (n sl : Nat) (f : Nat → mi_C) {l1 : Nat} {l2 : Int32} {l3 : Int32} {l4 : Nat} {o5 : Option Value} {s6 : Int64} {s7 : Int32} {s8 : Nat} (m9 i9 : Nat) (g9 : Nat → Int64) (h10 : f s8 = .inl (3, m9, .inr (.inl g9))) (h11 : s8 < n) (h12 : mi_ix s7 m9 i9) (h13 : mi_W d 129 20 [some (.ref l1), some (.int l2), some (.int l3), some (.ref l4), o5] [] (n, sl, (va_up f s8 (.inl (3, m9, .inr (.inl (vp_updL g9 i9 s6)))))) Q) : mi_W d 129 8 [some (.ref l1), some (.int l2), some (.int l3), some (.ref l4), o5] [.long s6, .int s7, .ref s8] (n, sl, f) Q := by
  refine w_lastore cd_129_8 h10 h11 h12 ?_
  exact w_goto cd_129_9 (by decide) h13
theorem b_129_12 {d : Nat} {Q : (Option Value ⊕ Nat) → mi_H → Prop} (n sl : Nat) (f : Nat → mi_C) {l1 : Nat} {l2 : Int32} {l3 : Int32} {l4 : Nat} {o5 : Option Value} {s6 : Nat} (h7 : Q (.inl (some (.int 1))) (n, sl, f)) : mi_W d 129 12 [some (.ref l1), some (.int l2), some (.int l3), some (.ref l4), o5] [.ref s6] (n, sl, f) Q := by
  refine w_astore (ls' := [some (.ref l1), some (.int l2), some (.int l3), some (.ref l4), some (.ref s6)]) cd_129_12 (Nat.le_of_ble_eq_true rfl) rfl ?_
  refine w_iconst (v := 1) cd_129_14 (by decide) ?_
  exact w_ireturn_i cd_129_15 (by decide +kernel) h7
theorem b_129_16 {d : Nat} {Q : (Option Value ⊕ Nat) → mi_H → Prop} (n sl : Nat) (f : Nat → mi_C) {l1 : Nat} {l2 : Int32} {l3 : Int32} {l4 : Nat} {o5 : Option Value} {s6 : Nat} (h7 : Q (.inl (some (.int 2))) (n, sl, f)) : mi_W d 129 16 [some (.ref l1), some (.int l2), some (.int l3), some (.ref l4), o5] [.ref s6] (n, sl, f) Q := by
  refine w_astore (ls' := [some (.ref l1), some (.int l2), some (.int l3), some (.ref l4), some (.ref s6)]) cd_129_16 (Nat.le_of_ble_eq_true rfl) rfl ?_
  refine w_iconst (v := 2) cd_129_18 (by decide) ?_
  exact w_ireturn_i cd_129_19 (by decide +kernel) h7
theorem b_129_20 {d : Nat} {Q : (Option Value ⊕ Nat) → mi_H → Prop} (n sl : Nat) (f : Nat → mi_C) {l1 : Nat} {l2 : Int32} {l3 : Int32} {l4 : Nat} {o5 : Option Value} (h6 : Q (.inl (some (.int 0))) (n, sl, f)) : mi_W d 129 20 [some (.ref l1), some (.int l2), some (.int l3), some (.ref l4), o5] [] (n, sl, f) Q := by
  refine w_iconst (v := 0) cd_129_20 (by decide) ?_
  exact w_ireturn_i cd_129_21 (by decide +kernel) h6
/-! MarloweHostLaw.apply(LMarloweHost;JJ[J)I -/
set_option maxRecDepth 100000 in
theorem mq_68 : mt_q 68 = my_68 := rfl
set_option maxRecDepth 100000 in
theorem ci_68 : mt_inc 0 my_68.cd = true := by decide +kernel
theorem cd_68_0 : mt_cd 68 0 = some (.aload 5) := mt_cd_of (q := (0, .aload 5, 2)) mq_68 ci_68 (List.mem_of_getElem? (i := 0) rfl)
theorem cd_68_2 : mt_cd 68 2 = some (.iconst 0) := mt_cd_of (q := (2, .iconst 0, 1)) mq_68 ci_68 (List.mem_of_getElem? (i := 1) rfl)
theorem cd_68_3 : mt_cd 68 3 = some (.aload_n 0) := mt_cd_of (q := (3, .aload_n 0, 1)) mq_68 ci_68 (List.mem_of_getElem? (i := 2) rfl)
theorem cd_68_4 : mt_cd 68 4 = some (.lload_n 1) := mt_cd_of (q := (4, .lload_n 1, 1)) mq_68 ci_68 (List.mem_of_getElem? (i := 3) rfl)
theorem cd_68_5 : mt_cd 68 5 = some (.lload_n 3) := mt_cd_of (q := (5, .lload_n 3, 1)) mq_68 ci_68 (List.mem_of_getElem? (i := 4) rfl)
theorem cd_68_6 : mt_cd 68 6 = some (.invokevirtual 37) := mt_cd_of (q := (6, .invokevirtual 37, 3)) mq_68 ci_68 (List.mem_of_getElem? (i := 5) rfl)
theorem cd_68_9 : mt_cd 68 9 = some (.i2l) := mt_cd_of (q := (9, .i2l, 1)) mq_68 ci_68 (List.mem_of_getElem? (i := 6) rfl)
theorem cd_68_10 : mt_cd 68 10 = some (.lastore) := mt_cd_of (q := (10, .lastore, 1)) mq_68 ci_68 (List.mem_of_getElem? (i := 7) rfl)
theorem cd_68_11 : mt_cd 68 11 = some (.goto 7) := mt_cd_of (q := (11, .goto 7, 3)) mq_68 ci_68 (List.mem_of_getElem? (i := 8) rfl)
theorem cd_68_14 : mt_cd 68 14 = some (.astore 6) := mt_cd_of (q := (14, .astore 6, 2)) mq_68 ci_68 (List.mem_of_getElem? (i := 9) rfl)
theorem cd_68_16 : mt_cd 68 16 = some (.iconst 1) := mt_cd_of (q := (16, .iconst 1, 1)) mq_68 ci_68 (List.mem_of_getElem? (i := 10) rfl)
theorem cd_68_17 : mt_cd 68 17 = some (.ireturn) := mt_cd_of (q := (17, .ireturn, 1)) mq_68 ci_68 (List.mem_of_getElem? (i := 11) rfl)
theorem cd_68_18 : mt_cd 68 18 = some (.iconst 0) := mt_cd_of (q := (18, .iconst 0, 1)) mq_68 ci_68 (List.mem_of_getElem? (i := 12) rfl)
theorem cd_68_19 : mt_cd 68 19 = some (.ireturn) := mt_cd_of (q := (19, .ireturn, 1)) mq_68 ci_68 (List.mem_of_getElem? (i := 13) rfl)
theorem b_68_0 {d : Nat} {Q : (Option Value ⊕ Nat) → mi_H → Prop} (n sl : Nat) (f : Nat → mi_C) {l1 : Nat} {l2 : Int64} {l3 : Int64} {l4 : Nat} {o5 : Option Value} {fs6 : List Value} (h7 : f l1 = .inr (0, fs6)) (h8 : l1 < n) (h9 : mi_W d 69 0 (mi_en 6 [.ref l1, .long l2, .long l3]) [] (n, sl, f) (mi_Kc d 68 6 [some (.ref l1), some (.long l2), none, some (.long l3), none, some (.ref l4), o5] [.int 0, .ref l4] Q)) : mi_W (d + 1) 68 0 [some (.ref l1), some (.long l2), none, some (.long l3), none, some (.ref l4), o5] [] (n, sl, f) Q := by
  refine w_aload cd_68_0 rfl ?_
  refine w_iconst (v := 0) cd_68_2 (by decide) ?_
  refine w_aload_n cd_68_3 rfl ?_
  refine w_lload_n cd_68_4 rfl ?_
  refine w_lload_n cd_68_5 rfl ?_
  exact w_invokevirtual cd_68_6 (show mt_m 18 37 = some (69, 0) by decide +kernel) (rest := [.int 0, .ref l4]) rfl (as := [.ref l1, .long l2, .long l3]) rfl h7 (Or.inl h8) ⟨Nat.le_of_ble_eq_true rfl, Nat.le_of_ble_eq_true rfl, Nat.le_of_ble_eq_true rfl⟩ h9
theorem b_68_9 {d : Nat} {Q : (Option Value ⊕ Nat) → mi_H → Prop} (n sl : Nat) (f : Nat → mi_C) {l1 : Nat} {l2 : Int64} {l3 : Int64} {l4 : Nat} {o5 : Option Value} {s6 : Int32} {s7 : Int32} {s8 : Nat} (m9 i9 : Nat) (g9 : Nat → Int64) (h10 : f s8 = .inl (3, m9, .inr (.inl g9))) (h11 : s8 < n) (h12 : mi_ix s7 m9 i9) (h13 : mi_W d 68 18 [some (.ref l1), some (.long l2), none, some (.long l3), none, some (.ref l4), o5] [] (n, sl, (va_up f s8 (.inl (3, m9, .inr (.inl (vp_updL g9 i9 ((s6 : Int32).toInt64))))))) Q) : mi_W d 68 9 [some (.ref l1), some (.long l2), none, some (.long l3), none, some (.ref l4), o5] [.int s6, .int s7, .ref s8] (n, sl, f) Q := by
  refine w_i2l cd_68_9 ?_
  refine w_lastore cd_68_10 h10 h11 h12 ?_
  exact w_goto cd_68_11 (by decide) h13
theorem b_68_14 {d : Nat} {Q : (Option Value ⊕ Nat) → mi_H → Prop} (n sl : Nat) (f : Nat → mi_C) {l1 : Nat} {l2 : Int64} {l3 : Int64} {l4 : Nat} {o5 : Option Value} {s6 : Nat} (h7 : Q (.inl (some (.int 1))) (n, sl, f)) : mi_W d 68 14 [some (.ref l1), some (.long l2), none, some (.long l3), none, some (.ref l4), o5] [.ref s6] (n, sl, f) Q := by
  refine w_astore (ls' := [some (.ref l1), some (.long l2), none, some (.long l3), none, some (.ref l4), some (.ref s6)]) cd_68_14 (Nat.le_of_ble_eq_true rfl) rfl ?_
  refine w_iconst (v := 1) cd_68_16 (by decide) ?_
  exact w_ireturn_i cd_68_17 (by decide +kernel) h7
theorem b_68_18 {d : Nat} {Q : (Option Value ⊕ Nat) → mi_H → Prop} (n sl : Nat) (f : Nat → mi_C) {l1 : Nat} {l2 : Int64} {l3 : Int64} {l4 : Nat} {o5 : Option Value} (h6 : Q (.inl (some (.int 0))) (n, sl, f)) : mi_W d 68 18 [some (.ref l1), some (.long l2), none, some (.long l3), none, some (.ref l4), o5] [] (n, sl, f) Q := by
  refine w_iconst (v := 0) cd_68_18 (by decide) ?_
  exact w_ireturn_i cd_68_19 (by decide +kernel) h6
/-! MarloweHostLaw.paid(LMarloweHost;I[J)I -/
set_option maxRecDepth 100000 in
theorem mq_113 : mt_q 113 = my_113 := rfl
set_option maxRecDepth 100000 in
theorem ci_113 : mt_inc 0 my_113.cd = true := by decide +kernel
theorem cd_113_0 : mt_cd 113 0 = some (.aload_n 2) := mt_cd_of (q := (0, .aload_n 2, 1)) mq_113 ci_113 (List.mem_of_getElem? (i := 0) rfl)
theorem cd_113_1 : mt_cd 113 1 = some (.iconst 0) := mt_cd_of (q := (1, .iconst 0, 1)) mq_113 ci_113 (List.mem_of_getElem? (i := 1) rfl)
theorem cd_113_2 : mt_cd 113 2 = some (.aload_n 0) := mt_cd_of (q := (2, .aload_n 0, 1)) mq_113 ci_113 (List.mem_of_getElem? (i := 2) rfl)
theorem cd_113_3 : mt_cd 113 3 = some (.iload_n 1) := mt_cd_of (q := (3, .iload_n 1, 1)) mq_113 ci_113 (List.mem_of_getElem? (i := 3) rfl)
theorem cd_113_4 : mt_cd 113 4 = some (.invokevirtual 47) := mt_cd_of (q := (4, .invokevirtual 47, 3)) mq_113 ci_113 (List.mem_of_getElem? (i := 4) rfl)
theorem cd_113_7 : mt_cd 113 7 = some (.lastore) := mt_cd_of (q := (7, .lastore, 1)) mq_113 ci_113 (List.mem_of_getElem? (i := 5) rfl)
theorem cd_113_8 : mt_cd 113 8 = some (.goto 6) := mt_cd_of (q := (8, .goto 6, 3)) mq_113 ci_113 (List.mem_of_getElem? (i := 6) rfl)
theorem cd_113_11 : mt_cd 113 11 = some (.astore_n 3) := mt_cd_of (q := (11, .astore_n 3, 1)) mq_113 ci_113 (List.mem_of_getElem? (i := 7) rfl)
theorem cd_113_12 : mt_cd 113 12 = some (.iconst 1) := mt_cd_of (q := (12, .iconst 1, 1)) mq_113 ci_113 (List.mem_of_getElem? (i := 8) rfl)
theorem cd_113_13 : mt_cd 113 13 = some (.ireturn) := mt_cd_of (q := (13, .ireturn, 1)) mq_113 ci_113 (List.mem_of_getElem? (i := 9) rfl)
theorem cd_113_14 : mt_cd 113 14 = some (.iconst 0) := mt_cd_of (q := (14, .iconst 0, 1)) mq_113 ci_113 (List.mem_of_getElem? (i := 10) rfl)
theorem cd_113_15 : mt_cd 113 15 = some (.ireturn) := mt_cd_of (q := (15, .ireturn, 1)) mq_113 ci_113 (List.mem_of_getElem? (i := 11) rfl)
theorem b_113_0 {d : Nat} {Q : (Option Value ⊕ Nat) → mi_H → Prop} (n sl : Nat) (f : Nat → mi_C) {l1 : Nat} {l2 : Int32} {l3 : Nat} {o4 : Option Value} {fs5 : List Value} (h6 : f l1 = .inr (0, fs5)) (h7 : l1 < n) (h8 : mi_W d 114 0 (mi_en 2 [.ref l1, .int l2]) [] (n, sl, f) (mi_Kc d 113 4 [some (.ref l1), some (.int l2), some (.ref l3), o4] [.int 0, .ref l3] Q)) : mi_W (d + 1) 113 0 [some (.ref l1), some (.int l2), some (.ref l3), o4] [] (n, sl, f) Q := by
  refine w_aload_n cd_113_0 rfl ?_
  refine w_iconst (v := 0) cd_113_1 (by decide) ?_
  refine w_aload_n cd_113_2 rfl ?_
  refine w_iload_n cd_113_3 rfl ?_
  exact w_invokevirtual cd_113_4 (show mt_m 18 47 = some (114, 0) by decide +kernel) (rest := [.int 0, .ref l3]) rfl (as := [.ref l1, .int l2]) rfl h6 (Or.inl h7) ⟨Nat.le_of_ble_eq_true rfl, Nat.le_of_ble_eq_true rfl, Nat.le_of_ble_eq_true rfl⟩ h8
theorem b_113_7 {d : Nat} {Q : (Option Value ⊕ Nat) → mi_H → Prop} (n sl : Nat) (f : Nat → mi_C) {l1 : Nat} {l2 : Int32} {l3 : Nat} {o4 : Option Value} {s5 : Int64} {s6 : Int32} {s7 : Nat} (m8 i8 : Nat) (g8 : Nat → Int64) (h9 : f s7 = .inl (3, m8, .inr (.inl g8))) (h10 : s7 < n) (h11 : mi_ix s6 m8 i8) (h12 : mi_W d 113 14 [some (.ref l1), some (.int l2), some (.ref l3), o4] [] (n, sl, (va_up f s7 (.inl (3, m8, .inr (.inl (vp_updL g8 i8 s5)))))) Q) : mi_W d 113 7 [some (.ref l1), some (.int l2), some (.ref l3), o4] [.long s5, .int s6, .ref s7] (n, sl, f) Q := by
  refine w_lastore cd_113_7 h9 h10 h11 ?_
  exact w_goto cd_113_8 (by decide) h12
theorem b_113_11 {d : Nat} {Q : (Option Value ⊕ Nat) → mi_H → Prop} (n sl : Nat) (f : Nat → mi_C) {l1 : Nat} {l2 : Int32} {l3 : Nat} {o4 : Option Value} {s5 : Nat} (h6 : Q (.inl (some (.int 1))) (n, sl, f)) : mi_W d 113 11 [some (.ref l1), some (.int l2), some (.ref l3), o4] [.ref s5] (n, sl, f) Q := by
  refine w_astore_n (ls' := [some (.ref l1), some (.int l2), some (.ref l3), some (.ref s5)]) cd_113_11 (Nat.le_of_ble_eq_true rfl) rfl ?_
  refine w_iconst (v := 1) cd_113_12 (by decide) ?_
  exact w_ireturn_i cd_113_13 (by decide +kernel) h6
theorem b_113_14 {d : Nat} {Q : (Option Value ⊕ Nat) → mi_H → Prop} (n sl : Nat) (f : Nat → mi_C) {l1 : Nat} {l2 : Int32} {l3 : Nat} {o4 : Option Value} (h5 : Q (.inl (some (.int 0))) (n, sl, f)) : mi_W d 113 14 [some (.ref l1), some (.int l2), some (.ref l3), o4] [] (n, sl, f) Q := by
  refine w_iconst (v := 0) cd_113_14 (by decide) ?_
  exact w_ireturn_i cd_113_15 (by decide +kernel) h5
/-! MarloweHost.remind()I -/
set_option maxRecDepth 100000 in
theorem mq_67 : mt_q 67 = my_67 := rfl
set_option maxRecDepth 100000 in
theorem ci_67 : mt_inc 0 my_67.cd = true := by decide +kernel
theorem cd_67_0 : mt_cd 67 0 = some (.aload_n 0) := mt_cd_of (q := (0, .aload_n 0, 1)) mq_67 ci_67 (List.mem_of_getElem? (i := 0) rfl)
theorem cd_67_1 : mt_cd 67 1 = some (.invokevirtual 134) := mt_cd_of (q := (1, .invokevirtual 134, 3)) mq_67 ci_67 (List.mem_of_getElem? (i := 1) rfl)
theorem cd_67_4 : mt_cd 67 4 = some (.aload_n 0) := mt_cd_of (q := (4, .aload_n 0, 1)) mq_67 ci_67 (List.mem_of_getElem? (i := 2) rfl)
theorem cd_67_5 : mt_cd 67 5 = some (.getfield 42) := mt_cd_of (q := (5, .getfield 42, 3)) mq_67 ci_67 (List.mem_of_getElem? (i := 3) rfl)
theorem cd_67_8 : mt_cd 67 8 = some (.bipush 10) := mt_cd_of (q := (8, .bipush 10, 2)) mq_67 ci_67 (List.mem_of_getElem? (i := 4) rfl)
theorem cd_67_10 : mt_cd 67 10 = some (.iconst (-1)) := mt_cd_of (q := (10, .iconst (-1), 1)) mq_67 ci_67 (List.mem_of_getElem? (i := 5) rfl)
theorem cd_67_11 : mt_cd 67 11 = some (.iconst (-1)) := mt_cd_of (q := (11, .iconst (-1), 1)) mq_67 ci_67 (List.mem_of_getElem? (i := 6) rfl)
theorem cd_67_12 : mt_cd 67 12 = some (.iconst (-1)) := mt_cd_of (q := (12, .iconst (-1), 1)) mq_67 ci_67 (List.mem_of_getElem? (i := 7) rfl)
theorem cd_67_13 : mt_cd 67 13 = some (.lconst 0) := mt_cd_of (q := (13, .lconst 0, 1)) mq_67 ci_67 (List.mem_of_getElem? (i := 8) rfl)
theorem cd_67_14 : mt_cd 67 14 = some (.invokevirtual 137) := mt_cd_of (q := (14, .invokevirtual 137, 3)) mq_67 ci_67 (List.mem_of_getElem? (i := 9) rfl)
theorem cd_67_17 : mt_cd 67 17 = some (.ireturn) := mt_cd_of (q := (17, .ireturn, 1)) mq_67 ci_67 (List.mem_of_getElem? (i := 10) rfl)
theorem b_67_0 {d : Nat} {Q : (Option Value ⊕ Nat) → mi_H → Prop} (n sl : Nat) (f : Nat → mi_C) {l1 : Nat} {fs2 : List Value} (h3 : f l1 = .inr (0, fs2)) (h4 : l1 < n) (h5 : mi_W d 62 0 (mi_en 1 [.ref l1]) [] (n, sl, f) (mi_Kc d 67 1 [some (.ref l1)] [] Q)) : mi_W (d + 1) 67 0 [some (.ref l1)] [] (n, sl, f) Q := by
  refine w_aload_n cd_67_0 rfl ?_
  exact w_invokevirtual cd_67_1 (show mt_m 0 134 = some (62, 0) by decide +kernel) (rest := []) rfl (as := [.ref l1]) rfl h3 (Or.inl h4) ⟨Nat.le_of_ble_eq_true rfl, Nat.le_of_ble_eq_true rfl, Nat.le_of_ble_eq_true rfl⟩ h5
theorem b_67_4 {d : Nat} {Q : (Option Value ⊕ Nat) → mi_H → Prop} (n sl : Nat) (f : Nat → mi_C) {l1 : Nat} {fs2 : List Value} {x5 : Nat} {fs7 : List Value} (h3 : f l1 = .inr (0, fs2)) (h4 : l1 < n) (h6 : fs2[4]? = some (.ref x5)) (h8 : f x5 = .inr (6, fs7)) (h9 : x5 < n) (h10 : mi_W d 63 0 (mi_en 7 [.ref x5, .int 10, .int (-1), .int (-1), .int (-1), .long 0]) [] (n, sl, f) (mi_Kc d 67 14 [some (.ref l1)] [] Q)) : mi_W (d + 1) 67 4 [some (.ref l1)] [] (n, sl, f) Q := by
  refine w_aload_n cd_67_4 rfl ?_
  refine w_getfield cd_67_5 (show mt_f 0 42 = some (0, 4) by decide +kernel) h3 h4 h6 ?_
  refine w_bipush (v := 10) cd_67_8 (by decide) ?_
  refine w_iconst (v := (-1)) cd_67_10 (by decide) ?_
  refine w_iconst (v := (-1)) cd_67_11 (by decide) ?_
  refine w_iconst (v := (-1)) cd_67_12 (by decide) ?_
  refine w_lconst (lv := 0) cd_67_13 (by decide) ?_
  exact w_invokevirtual cd_67_14 (show mt_m 0 137 = some (63, 0) by decide +kernel) (rest := []) rfl (as := [.ref x5, .int 10, .int (-1), .int (-1), .int (-1), .long 0]) rfl h8 (Or.inl h9) ⟨Nat.le_of_ble_eq_true rfl, Nat.le_of_ble_eq_true rfl, Nat.le_of_ble_eq_true rfl⟩ h10
theorem b_67_17 {d : Nat} {Q : (Option Value ⊕ Nat) → mi_H → Prop} (n sl : Nat) (f : Nat → mi_C) {l1 : Nat} {s2 : Int32} (h3 : Q (.inl (some (.int s2))) (n, sl, f)) : mi_W d 67 17 [some (.ref l1)] [.int s2] (n, sl, f) Q := by
  exact w_ireturn_i cd_67_17 (by decide +kernel) h3
/-! MarloweHost.isToken(I)Z -/
set_option maxRecDepth 100000 in
theorem mq_59 : mt_q 59 = my_59 := rfl
set_option maxRecDepth 100000 in
theorem ci_59 : mt_inc 0 my_59.cd = true := by decide +kernel
theorem cd_59_0 : mt_cd 59 0 = some (.iload_n 0) := mt_cd_of (q := (0, .iload_n 0, 1)) mq_59 ci_59 (List.mem_of_getElem? (i := 0) rfl)
theorem cd_59_1 : mt_cd 59 1 = some (.ifCond .lt 12) := mt_cd_of (q := (1, .ifCond .lt 12, 3)) mq_59 ci_59 (List.mem_of_getElem? (i := 1) rfl)
theorem cd_59_4 : mt_cd 59 4 = some (.iload_n 0) := mt_cd_of (q := (4, .iload_n 0, 1)) mq_59 ci_59 (List.mem_of_getElem? (i := 2) rfl)
theorem cd_59_5 : mt_cd 59 5 = some (.iconst 4) := mt_cd_of (q := (5, .iconst 4, 1)) mq_59 ci_59 (List.mem_of_getElem? (i := 3) rfl)
theorem cd_59_6 : mt_cd 59 6 = some (.if_icmp .ge 7) := mt_cd_of (q := (6, .if_icmp .ge 7, 3)) mq_59 ci_59 (List.mem_of_getElem? (i := 4) rfl)
theorem cd_59_9 : mt_cd 59 9 = some (.iconst 1) := mt_cd_of (q := (9, .iconst 1, 1)) mq_59 ci_59 (List.mem_of_getElem? (i := 5) rfl)
theorem cd_59_10 : mt_cd 59 10 = some (.goto 4) := mt_cd_of (q := (10, .goto 4, 3)) mq_59 ci_59 (List.mem_of_getElem? (i := 6) rfl)
theorem cd_59_13 : mt_cd 59 13 = some (.iconst 0) := mt_cd_of (q := (13, .iconst 0, 1)) mq_59 ci_59 (List.mem_of_getElem? (i := 7) rfl)
theorem cd_59_14 : mt_cd 59 14 = some (.ireturn) := mt_cd_of (q := (14, .ireturn, 1)) mq_59 ci_59 (List.mem_of_getElem? (i := 8) rfl)
theorem b_59_0 {d : Nat} {Q : (Option Value ⊕ Nat) → mi_H → Prop} (n sl : Nat) (f : Nat → mi_C) {l1 : Int32} (h2 : l1 < (0 : Int32) → mi_W d 59 13 [some (.int l1)] [] (n, sl, f) Q) (h3 : ¬ (l1 < (0 : Int32)) → mi_W d 59 4 [some (.int l1)] [] (n, sl, f) Q) : mi_W d 59 0 [some (.int l1)] [] (n, sl, f) Q := by
  refine w_iload_n cd_59_0 rfl ?_
  exact w_iflt cd_59_1 (by decide) h2 h3
theorem b_59_4 {d : Nat} {Q : (Option Value ⊕ Nat) → mi_H → Prop} (n sl : Nat) (f : Nat → mi_C) {l1 : Int32} (h2 : 4 ≤ l1 → mi_W d 59 13 [some (.int l1)] [] (n, sl, f) Q) (h3 : ¬ (4 ≤ l1) → mi_W d 59 9 [some (.int l1)] [] (n, sl, f) Q) : mi_W d 59 4 [some (.int l1)] [] (n, sl, f) Q := by
  refine w_iload_n cd_59_4 rfl ?_
  refine w_iconst (v := 4) cd_59_5 (by decide) ?_
  exact w_if_icmpge cd_59_6 (by decide) h2 h3
theorem b_59_9 {d : Nat} {Q : (Option Value ⊕ Nat) → mi_H → Prop} (n sl : Nat) (f : Nat → mi_C) {l1 : Int32} (h2 : mi_W d 59 14 [some (.int l1)] [.int 1] (n, sl, f) Q) : mi_W d 59 9 [some (.int l1)] [] (n, sl, f) Q := by
  refine w_iconst (v := 1) cd_59_9 (by decide) ?_
  exact w_goto cd_59_10 (by decide) h2
theorem b_59_13 {d : Nat} {Q : (Option Value ⊕ Nat) → mi_H → Prop} (n sl : Nat) (f : Nat → mi_C) {l1 : Int32} (h2 : mi_W d 59 14 [some (.int l1)] [.int 0] (n, sl, f) Q) : mi_W d 59 13 [some (.int l1)] [] (n, sl, f) Q := by
  refine w_iconst (v := 0) cd_59_13 (by decide) ?_
  exact h2
theorem b_59_14 {d : Nat} {Q : (Option Value ⊕ Nat) → mi_H → Prop} (n sl : Nat) (f : Nat → mi_C) {l1 : Int32} {s2 : Int32} (h3 : s2 = 0 ∨ s2 = 1) (h4 : Q (.inl (some (.int s2))) (n, sl, f)) : mi_W d 59 14 [some (.int l1)] [.int s2] (n, sl, f) Q := by
  exact w_ireturn_z cd_59_14 (by decide +kernel) h3 h4
/-! MarloweHostModel.wrong()I -/
set_option maxRecDepth 100000 in
theorem mq_169 : mt_q 169 = my_169 := rfl
set_option maxRecDepth 100000 in
theorem ci_169 : mt_inc 0 my_169.cd = true := by decide +kernel
theorem cd_169_0 : mt_cd 169 0 = some (.aload_n 0) := mt_cd_of (q := (0, .aload_n 0, 1)) mq_169 ci_169 (List.mem_of_getElem? (i := 0) rfl)
theorem cd_169_1 : mt_cd 169 1 = some (.iconst 0) := mt_cd_of (q := (1, .iconst 0, 1)) mq_169 ci_169 (List.mem_of_getElem? (i := 1) rfl)
theorem cd_169_2 : mt_cd 169 2 = some (.putfield 248) := mt_cd_of (q := (2, .putfield 248, 3)) mq_169 ci_169 (List.mem_of_getElem? (i := 2) rfl)
theorem cd_169_5 : mt_cd 169 5 = some (.aload_n 0) := mt_cd_of (q := (5, .aload_n 0, 1)) mq_169 ci_169 (List.mem_of_getElem? (i := 3) rfl)
theorem cd_169_6 : mt_cd 169 6 = some (.getfield 7) := mt_cd_of (q := (6, .getfield 7, 3)) mq_169 ci_169 (List.mem_of_getElem? (i := 4) rfl)
theorem cd_169_9 : mt_cd 169 9 = some (.ireturn) := mt_cd_of (q := (9, .ireturn, 1)) mq_169 ci_169 (List.mem_of_getElem? (i := 5) rfl)
theorem b_169_0 {d : Nat} {Q : (Option Value ⊕ Nat) → mi_H → Prop} (n sl : Nat) (f : Nat → mi_C) {l1 : Nat} {fs2 : List Value} {fs6 : List Value} {x9 : Int32} (h3 : f l1 = .inr (12, fs2)) (h4 : l1 < n) (h5 : 0 < fs2.length) (h7 : (va_up f l1 (.inr (12, fs2.set 0 (.int 0)))) l1 = .inr (12, fs6)) (h8 : l1 < n) (h10 : fs6[3]? = some (.int x9)) (h11 : Q (.inl (some (.int x9))) (n, sl, (va_up f l1 (.inr (12, fs2.set 0 (.int 0)))))) : mi_W d 169 0 [some (.ref l1)] [] (n, sl, f) Q := by
  refine w_aload_n cd_169_0 rfl ?_
  refine w_iconst (v := 0) cd_169_1 (by decide) ?_
  refine w_putfield (w := .int 0) cd_169_2 (show mt_f 12 248 = some (12, 0) by decide +kernel) h3 h4 ⟨h5, rfl, Or.inl (by decide)⟩ ?_
  refine w_aload_n cd_169_5 rfl ?_
  refine w_getfield cd_169_6 (show mt_f 12 7 = some (12, 3) by decide +kernel) h7 h8 h10 ?_
  exact w_ireturn_i cd_169_9 (by decide +kernel) h11
end
