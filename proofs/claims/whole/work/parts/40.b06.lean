section
/-! MarloweHostModel.fit(J)J -/
set_option maxRecDepth 100000 in
theorem mq_176 : mt_q 176 = my_176 := rfl
set_option maxRecDepth 100000 in
theorem ci_176 : mt_inc 0 my_176.cd = true := by decide +kernel
theorem cd_176_0 : mt_cd 176 0 = some (.lload_n 1) := mt_cd_of (q := (0, .lload_n 1, 1)) mq_176 ci_176 (List.mem_of_getElem? (i := 0) rfl)
theorem cd_176_1 : mt_cd 176 1 = some (.ldc2_w 437) := mt_cd_of (q := (1, .ldc2_w 437, 3)) mq_176 ci_176 (List.mem_of_getElem? (i := 1) rfl)
theorem cd_176_4 : mt_cd 176 4 = some (.lcmp) := mt_cd_of (q := (4, .lcmp, 1)) mq_176 ci_176 (List.mem_of_getElem? (i := 2) rfl)
theorem cd_176_5 : mt_cd 176 5 = some (.ifCond .gt 11) := mt_cd_of (q := (5, .ifCond .gt 11, 3)) mq_176 ci_176 (List.mem_of_getElem? (i := 3) rfl)
theorem cd_176_8 : mt_cd 176 8 = some (.lload_n 1) := mt_cd_of (q := (8, .lload_n 1, 1)) mq_176 ci_176 (List.mem_of_getElem? (i := 4) rfl)
theorem cd_176_9 : mt_cd 176 9 = some (.ldc2_w 439) := mt_cd_of (q := (9, .ldc2_w 439, 3)) mq_176 ci_176 (List.mem_of_getElem? (i := 5) rfl)
theorem cd_176_12 : mt_cd 176 12 = some (.lcmp) := mt_cd_of (q := (12, .lcmp, 1)) mq_176 ci_176 (List.mem_of_getElem? (i := 6) rfl)
theorem cd_176_13 : mt_cd 176 13 = some (.ifCond .ge 8) := mt_cd_of (q := (13, .ifCond .ge 8, 3)) mq_176 ci_176 (List.mem_of_getElem? (i := 7) rfl)
theorem cd_176_16 : mt_cd 176 16 = some (.aload_n 0) := mt_cd_of (q := (16, .aload_n 0, 1)) mq_176 ci_176 (List.mem_of_getElem? (i := 8) rfl)
theorem cd_176_17 : mt_cd 176 17 = some (.iconst 1) := mt_cd_of (q := (17, .iconst 1, 1)) mq_176 ci_176 (List.mem_of_getElem? (i := 9) rfl)
theorem cd_176_18 : mt_cd 176 18 = some (.putfield 441) := mt_cd_of (q := (18, .putfield 441, 3)) mq_176 ci_176 (List.mem_of_getElem? (i := 10) rfl)
theorem cd_176_21 : mt_cd 176 21 = some (.lload_n 1) := mt_cd_of (q := (21, .lload_n 1, 1)) mq_176 ci_176 (List.mem_of_getElem? (i := 11) rfl)
theorem cd_176_22 : mt_cd 176 22 = some (.lreturn) := mt_cd_of (q := (22, .lreturn, 1)) mq_176 ci_176 (List.mem_of_getElem? (i := 12) rfl)
theorem b_176_0 {d : Nat} {Q : (Option Value ⊕ Nat) → mi_H → Prop} (n sl : Nat) (f : Nat → mi_C) {l1 : Nat} {l2 : Int64} (h3 : (0 : Int32) < (lg_cmp l2 4611686018427387904) → mi_W d 176 16 [some (.ref l1), some (.long l2), none] [] (n, sl, f) Q) (h4 : ¬ ((0 : Int32) < (lg_cmp l2 4611686018427387904)) → mi_W d 176 8 [some (.ref l1), some (.long l2), none] [] (n, sl, f) Q) : mi_W d 176 0 [some (.ref l1), some (.long l2), none] [] (n, sl, f) Q := by
  refine w_lload_n cd_176_0 rfl ?_
  refine w_ldc2_w (lv := 4611686018427387904) cd_176_1 (by decide +kernel) ?_
  refine w_lcmp cd_176_4 ?_
  exact w_ifgt cd_176_5 (by decide) h3 h4
theorem b_176_8 {d : Nat} {Q : (Option Value ⊕ Nat) → mi_H → Prop} (n sl : Nat) (f : Nat → mi_C) {l1 : Nat} {l2 : Int64} (h3 : (0 : Int32) ≤ (lg_cmp l2 ((-4611686018427387904))) → mi_W d 176 21 [some (.ref l1), some (.long l2), none] [] (n, sl, f) Q) (h4 : ¬ ((0 : Int32) ≤ (lg_cmp l2 ((-4611686018427387904)))) → mi_W d 176 16 [some (.ref l1), some (.long l2), none] [] (n, sl, f) Q) : mi_W d 176 8 [some (.ref l1), some (.long l2), none] [] (n, sl, f) Q := by
  refine w_lload_n cd_176_8 rfl ?_
  refine w_ldc2_w (lv := (-4611686018427387904)) cd_176_9 (by decide +kernel) ?_
  refine w_lcmp cd_176_12 ?_
  exact w_ifge cd_176_13 (by decide) h3 h4
theorem b_176_16 {d : Nat} {Q : (Option Value ⊕ Nat) → mi_H → Prop} (n sl : Nat) (f : Nat → mi_C) {l1 : Nat} {l2 : Int64} {fs3 : List Value} (h4 : f l1 = .inr (12, fs3)) (h5 : l1 < n) (h6 : 46 < fs3.length) (h7 : mi_fk .boolean (.int 1) = true) (h8 : mi_W d 176 21 [some (.ref l1), some (.long l2), none] [] (n, sl, (va_up f l1 (.inr (12, fs3.set 46 (.int 1))))) Q) : mi_W d 176 16 [some (.ref l1), some (.long l2), none] [] (n, sl, f) Q := by
  refine w_aload_n cd_176_16 rfl ?_
  refine w_iconst (v := 1) cd_176_17 (by decide) ?_
  refine w_putfield (w := .int 1) cd_176_18 (show mt_f 12 441 = some (12, 46) by decide +kernel) h4 h5 ⟨h6, h7, Or.inl (by decide)⟩ ?_
  exact h8
theorem b_176_21 {d : Nat} {Q : (Option Value ⊕ Nat) → mi_H → Prop} (n sl : Nat) (f : Nat → mi_C) {l1 : Nat} {l2 : Int64} (h3 : Q (.inl (some (.long l2))) (n, sl, f)) : mi_W d 176 21 [some (.ref l1), some (.long l2), none] [] (n, sl, f) Q := by
  refine w_lload_n cd_176_21 rfl ?_
  exact w_lreturn cd_176_22 (by decide +kernel) h3
/-! MarloweHostModel.holds(I)Z -/
set_option maxRecDepth 100000 in
theorem mq_177 : mt_q 177 = my_177 := rfl
set_option maxRecDepth 100000 in
theorem ci_177 : mt_inc 0 my_177.cd = true := by decide +kernel
theorem cd_177_0 : mt_cd 177 0 = some (.aload_n 0) := mt_cd_of (q := (0, .aload_n 0, 1)) mq_177 ci_177 (List.mem_append_left _ (show _ ∈ my_177_0 from List.mem_of_getElem? (i := 0) rfl))
theorem cd_177_1 : mt_cd 177 1 = some (.getfield 441) := mt_cd_of (q := (1, .getfield 441, 3)) mq_177 ci_177 (List.mem_append_left _ (show _ ∈ my_177_0 from List.mem_of_getElem? (i := 1) rfl))
theorem cd_177_4 : mt_cd 177 4 = some (.ifCond .eq 5) := mt_cd_of (q := (4, .ifCond .eq 5, 3)) mq_177 ci_177 (List.mem_append_left _ (show _ ∈ my_177_0 from List.mem_of_getElem? (i := 2) rfl))
theorem cd_177_7 : mt_cd 177 7 = some (.iconst 0) := mt_cd_of (q := (7, .iconst 0, 1)) mq_177 ci_177 (List.mem_append_left _ (show _ ∈ my_177_0 from List.mem_of_getElem? (i := 3) rfl))
theorem cd_177_8 : mt_cd 177 8 = some (.ireturn) := mt_cd_of (q := (8, .ireturn, 1)) mq_177 ci_177 (List.mem_append_left _ (show _ ∈ my_177_0 from List.mem_of_getElem? (i := 4) rfl))
theorem cd_177_9 : mt_cd 177 9 = some (.aload_n 0) := mt_cd_of (q := (9, .aload_n 0, 1)) mq_177 ci_177 (List.mem_append_left _ (show _ ∈ my_177_0 from List.mem_of_getElem? (i := 5) rfl))
theorem cd_177_10 : mt_cd 177 10 = some (.getfield 77) := mt_cd_of (q := (10, .getfield 77, 3)) mq_177 ci_177 (List.mem_append_left _ (show _ ∈ my_177_0 from List.mem_of_getElem? (i := 6) rfl))
theorem cd_177_13 : mt_cd 177 13 = some (.iload_n 1) := mt_cd_of (q := (13, .iload_n 1, 1)) mq_177 ci_177 (List.mem_append_left _ (show _ ∈ my_177_0 from List.mem_of_getElem? (i := 7) rfl))
theorem cd_177_14 : mt_cd 177 14 = some (.iaload) := mt_cd_of (q := (14, .iaload, 1)) mq_177 ci_177 (List.mem_append_left _ (show _ ∈ my_177_0 from List.mem_of_getElem? (i := 8) rfl))
theorem cd_177_15 : mt_cd 177 15 = some (.tableswitch 147 22 27 #[37, 39, 41, 77, 113, 132]) := mt_cd_of (q := (15, .tableswitch 147 22 27 #[37, 39, 41, 77, 113, 132], 37)) mq_177 ci_177 (List.mem_append_left _ (show _ ∈ my_177_0 from List.mem_of_getElem? (i := 9) rfl))
theorem cd_177_52 : mt_cd 177 52 = some (.iconst 1) := mt_cd_of (q := (52, .iconst 1, 1)) mq_177 ci_177 (List.mem_append_left _ (show _ ∈ my_177_0 from List.mem_of_getElem? (i := 10) rfl))
theorem cd_177_53 : mt_cd 177 53 = some (.ireturn) := mt_cd_of (q := (53, .ireturn, 1)) mq_177 ci_177 (List.mem_append_left _ (show _ ∈ my_177_0 from List.mem_of_getElem? (i := 11) rfl))
theorem cd_177_54 : mt_cd 177 54 = some (.iconst 0) := mt_cd_of (q := (54, .iconst 0, 1)) mq_177 ci_177 (List.mem_append_left _ (show _ ∈ my_177_0 from List.mem_of_getElem? (i := 12) rfl))
theorem cd_177_55 : mt_cd 177 55 = some (.ireturn) := mt_cd_of (q := (55, .ireturn, 1)) mq_177 ci_177 (List.mem_append_left _ (show _ ∈ my_177_0 from List.mem_of_getElem? (i := 13) rfl))
theorem cd_177_56 : mt_cd 177 56 = some (.aload_n 0) := mt_cd_of (q := (56, .aload_n 0, 1)) mq_177 ci_177 (List.mem_append_left _ (show _ ∈ my_177_0 from List.mem_of_getElem? (i := 14) rfl))
theorem cd_177_57 : mt_cd 177 57 = some (.aload_n 0) := mt_cd_of (q := (57, .aload_n 0, 1)) mq_177 ci_177 (List.mem_append_left _ (show _ ∈ my_177_0 from List.mem_of_getElem? (i := 15) rfl))
theorem cd_177_58 : mt_cd 177 58 = some (.getfield 80) := mt_cd_of (q := (58, .getfield 80, 3)) mq_177 ci_177 (List.mem_append_left _ (show _ ∈ my_177_0 from List.mem_of_getElem? (i := 16) rfl))
theorem cd_177_61 : mt_cd 177 61 = some (.iload_n 1) := mt_cd_of (q := (61, .iload_n 1, 1)) mq_177 ci_177 (List.mem_append_left _ (show _ ∈ my_177_0 from List.mem_of_getElem? (i := 17) rfl))
theorem cd_177_62 : mt_cd 177 62 = some (.iaload) := mt_cd_of (q := (62, .iaload, 1)) mq_177 ci_177 (List.mem_append_left _ (show _ ∈ my_177_0 from List.mem_of_getElem? (i := 18) rfl))
theorem cd_177_63 : mt_cd 177 63 = some (.invokevirtual 477) := mt_cd_of (q := (63, .invokevirtual 477, 3)) mq_177 ci_177 (List.mem_append_left _ (show _ ∈ my_177_0 from List.mem_of_getElem? (i := 19) rfl))
theorem cd_177_66 : mt_cd 177 66 = some (.istore_n 2) := mt_cd_of (q := (66, .istore_n 2, 1)) mq_177 ci_177 (List.mem_append_left _ (show _ ∈ my_177_0 from List.mem_of_getElem? (i := 20) rfl))
theorem cd_177_67 : mt_cd 177 67 = some (.aload_n 0) := mt_cd_of (q := (67, .aload_n 0, 1)) mq_177 ci_177 (List.mem_append_left _ (show _ ∈ my_177_0 from List.mem_of_getElem? (i := 21) rfl))
theorem cd_177_68 : mt_cd 177 68 = some (.aload_n 0) := mt_cd_of (q := (68, .aload_n 0, 1)) mq_177 ci_177 (List.mem_append_left _ (show _ ∈ my_177_0 from List.mem_of_getElem? (i := 22) rfl))
theorem cd_177_69 : mt_cd 177 69 = some (.getfield 83) := mt_cd_of (q := (69, .getfield 83, 3)) mq_177 ci_177 (List.mem_append_left _ (show _ ∈ my_177_0 from List.mem_of_getElem? (i := 23) rfl))
theorem cd_177_72 : mt_cd 177 72 = some (.iload_n 1) := mt_cd_of (q := (72, .iload_n 1, 1)) mq_177 ci_177 (List.mem_append_left _ (show _ ∈ my_177_0 from List.mem_of_getElem? (i := 24) rfl))
theorem cd_177_73 : mt_cd 177 73 = some (.iaload) := mt_cd_of (q := (73, .iaload, 1)) mq_177 ci_177 (List.mem_append_left _ (show _ ∈ my_177_0 from List.mem_of_getElem? (i := 25) rfl))
theorem cd_177_74 : mt_cd 177 74 = some (.invokevirtual 477) := mt_cd_of (q := (74, .invokevirtual 477, 3)) mq_177 ci_177 (List.mem_append_left _ (show _ ∈ my_177_0 from List.mem_of_getElem? (i := 26) rfl))
theorem cd_177_77 : mt_cd 177 77 = some (.istore_n 3) := mt_cd_of (q := (77, .istore_n 3, 1)) mq_177 ci_177 (List.mem_append_left _ (show _ ∈ my_177_0 from List.mem_of_getElem? (i := 27) rfl))
theorem cd_177_78 : mt_cd 177 78 = some (.iload_n 2) := mt_cd_of (q := (78, .iload_n 2, 1)) mq_177 ci_177 (List.mem_append_left _ (show _ ∈ my_177_0 from List.mem_of_getElem? (i := 28) rfl))
theorem cd_177_79 : mt_cd 177 79 = some (.ifCond .eq 11) := mt_cd_of (q := (79, .ifCond .eq 11, 3)) mq_177 ci_177 (List.mem_append_left _ (show _ ∈ my_177_0 from List.mem_of_getElem? (i := 29) rfl))
theorem cd_177_82 : mt_cd 177 82 = some (.iload_n 3) := mt_cd_of (q := (82, .iload_n 3, 1)) mq_177 ci_177 (List.mem_append_left _ (show _ ∈ my_177_0 from List.mem_of_getElem? (i := 30) rfl))
theorem cd_177_83 : mt_cd 177 83 = some (.ifCond .eq 7) := mt_cd_of (q := (83, .ifCond .eq 7, 3)) mq_177 ci_177 (List.mem_append_left _ (show _ ∈ my_177_0 from List.mem_of_getElem? (i := 31) rfl))
theorem cd_177_86 : mt_cd 177 86 = some (.iconst 1) := mt_cd_of (q := (86, .iconst 1, 1)) mq_177 ci_177 (List.mem_append_left _ (show _ ∈ my_177_0 from List.mem_of_getElem? (i := 32) rfl))
theorem cd_177_87 : mt_cd 177 87 = some (.goto 4) := mt_cd_of (q := (87, .goto 4, 3)) mq_177 ci_177 (List.mem_append_left _ (show _ ∈ my_177_0 from List.mem_of_getElem? (i := 33) rfl))
theorem cd_177_90 : mt_cd 177 90 = some (.iconst 0) := mt_cd_of (q := (90, .iconst 0, 1)) mq_177 ci_177 (List.mem_append_left _ (show _ ∈ my_177_0 from List.mem_of_getElem? (i := 34) rfl))
theorem cd_177_91 : mt_cd 177 91 = some (.ireturn) := mt_cd_of (q := (91, .ireturn, 1)) mq_177 ci_177 (List.mem_append_left _ (show _ ∈ my_177_0 from List.mem_of_getElem? (i := 35) rfl))
theorem cd_177_92 : mt_cd 177 92 = some (.aload_n 0) := mt_cd_of (q := (92, .aload_n 0, 1)) mq_177 ci_177 (List.mem_append_left _ (show _ ∈ my_177_0 from List.mem_of_getElem? (i := 36) rfl))
theorem cd_177_93 : mt_cd 177 93 = some (.aload_n 0) := mt_cd_of (q := (93, .aload_n 0, 1)) mq_177 ci_177 (List.mem_append_left _ (show _ ∈ my_177_0 from List.mem_of_getElem? (i := 37) rfl))
theorem cd_177_94 : mt_cd 177 94 = some (.getfield 80) := mt_cd_of (q := (94, .getfield 80, 3)) mq_177 ci_177 (List.mem_append_left _ (show _ ∈ my_177_0 from List.mem_of_getElem? (i := 38) rfl))
theorem cd_177_97 : mt_cd 177 97 = some (.iload_n 1) := mt_cd_of (q := (97, .iload_n 1, 1)) mq_177 ci_177 (List.mem_append_left _ (show _ ∈ my_177_0 from List.mem_of_getElem? (i := 39) rfl))
theorem cd_177_98 : mt_cd 177 98 = some (.iaload) := mt_cd_of (q := (98, .iaload, 1)) mq_177 ci_177 (List.mem_append_left _ (show _ ∈ my_177_0 from List.mem_of_getElem? (i := 40) rfl))
theorem cd_177_99 : mt_cd 177 99 = some (.invokevirtual 477) := mt_cd_of (q := (99, .invokevirtual 477, 3)) mq_177 ci_177 (List.mem_append_left _ (show _ ∈ my_177_0 from List.mem_of_getElem? (i := 41) rfl))
theorem cd_177_102 : mt_cd 177 102 = some (.istore_n 2) := mt_cd_of (q := (102, .istore_n 2, 1)) mq_177 ci_177 (List.mem_append_left _ (show _ ∈ my_177_0 from List.mem_of_getElem? (i := 42) rfl))
theorem cd_177_103 : mt_cd 177 103 = some (.aload_n 0) := mt_cd_of (q := (103, .aload_n 0, 1)) mq_177 ci_177 (List.mem_append_left _ (show _ ∈ my_177_0 from List.mem_of_getElem? (i := 43) rfl))
theorem cd_177_104 : mt_cd 177 104 = some (.aload_n 0) := mt_cd_of (q := (104, .aload_n 0, 1)) mq_177 ci_177 (List.mem_append_left _ (show _ ∈ my_177_0 from List.mem_of_getElem? (i := 44) rfl))
theorem cd_177_105 : mt_cd 177 105 = some (.getfield 83) := mt_cd_of (q := (105, .getfield 83, 3)) mq_177 ci_177 (List.mem_append_left _ (show _ ∈ my_177_0 from List.mem_of_getElem? (i := 45) rfl))
theorem cd_177_108 : mt_cd 177 108 = some (.iload_n 1) := mt_cd_of (q := (108, .iload_n 1, 1)) mq_177 ci_177 (List.mem_append_left _ (show _ ∈ my_177_0 from List.mem_of_getElem? (i := 46) rfl))
theorem cd_177_109 : mt_cd 177 109 = some (.iaload) := mt_cd_of (q := (109, .iaload, 1)) mq_177 ci_177 (List.mem_append_left _ (show _ ∈ my_177_0 from List.mem_of_getElem? (i := 47) rfl))
theorem cd_177_110 : mt_cd 177 110 = some (.invokevirtual 477) := mt_cd_of (q := (110, .invokevirtual 477, 3)) mq_177 ci_177 (List.mem_append_left _ (show _ ∈ my_177_0 from List.mem_of_getElem? (i := 48) rfl))
theorem cd_177_113 : mt_cd 177 113 = some (.istore_n 3) := mt_cd_of (q := (113, .istore_n 3, 1)) mq_177 ci_177 (List.mem_append_left _ (show _ ∈ my_177_0 from List.mem_of_getElem? (i := 49) rfl))
theorem cd_177_114 : mt_cd 177 114 = some (.iload_n 2) := mt_cd_of (q := (114, .iload_n 2, 1)) mq_177 ci_177 (List.mem_append_left _ (show _ ∈ my_177_0 from List.mem_of_getElem? (i := 50) rfl))
theorem cd_177_115 : mt_cd 177 115 = some (.ifCond .ne 7) := mt_cd_of (q := (115, .ifCond .ne 7, 3)) mq_177 ci_177 (List.mem_append_left _ (show _ ∈ my_177_0 from List.mem_of_getElem? (i := 51) rfl))
theorem cd_177_118 : mt_cd 177 118 = some (.iload_n 3) := mt_cd_of (q := (118, .iload_n 3, 1)) mq_177 ci_177 (List.mem_append_left _ (show _ ∈ my_177_0 from List.mem_of_getElem? (i := 52) rfl))
theorem cd_177_119 : mt_cd 177 119 = some (.ifCond .eq 7) := mt_cd_of (q := (119, .ifCond .eq 7, 3)) mq_177 ci_177 (List.mem_append_left _ (show _ ∈ my_177_0 from List.mem_of_getElem? (i := 53) rfl))
theorem cd_177_122 : mt_cd 177 122 = some (.iconst 1) := mt_cd_of (q := (122, .iconst 1, 1)) mq_177 ci_177 (List.mem_append_left _ (show _ ∈ my_177_0 from List.mem_of_getElem? (i := 54) rfl))
theorem cd_177_123 : mt_cd 177 123 = some (.goto 4) := mt_cd_of (q := (123, .goto 4, 3)) mq_177 ci_177 (List.mem_append_left _ (show _ ∈ my_177_0 from List.mem_of_getElem? (i := 55) rfl))
theorem cd_177_126 : mt_cd 177 126 = some (.iconst 0) := mt_cd_of (q := (126, .iconst 0, 1)) mq_177 ci_177 (List.mem_append_left _ (show _ ∈ my_177_0 from List.mem_of_getElem? (i := 56) rfl))
theorem cd_177_127 : mt_cd 177 127 = some (.ireturn) := mt_cd_of (q := (127, .ireturn, 1)) mq_177 ci_177 (List.mem_append_left _ (show _ ∈ my_177_0 from List.mem_of_getElem? (i := 57) rfl))
theorem cd_177_128 : mt_cd 177 128 = some (.aload_n 0) := mt_cd_of (q := (128, .aload_n 0, 1)) mq_177 ci_177 (List.mem_append_left _ (show _ ∈ my_177_0 from List.mem_of_getElem? (i := 58) rfl))
theorem cd_177_129 : mt_cd 177 129 = some (.aload_n 0) := mt_cd_of (q := (129, .aload_n 0, 1)) mq_177 ci_177 (List.mem_append_left _ (show _ ∈ my_177_0 from List.mem_of_getElem? (i := 59) rfl))
theorem cd_177_130 : mt_cd 177 130 = some (.getfield 80) := mt_cd_of (q := (130, .getfield 80, 3)) mq_177 ci_177 (List.mem_append_right _ (List.mem_append_left _ (show _ ∈ my_177_1 from List.mem_of_getElem? (i := 0) rfl)))
theorem cd_177_133 : mt_cd 177 133 = some (.iload_n 1) := mt_cd_of (q := (133, .iload_n 1, 1)) mq_177 ci_177 (List.mem_append_right _ (List.mem_append_left _ (show _ ∈ my_177_1 from List.mem_of_getElem? (i := 1) rfl)))
theorem cd_177_134 : mt_cd 177 134 = some (.iaload) := mt_cd_of (q := (134, .iaload, 1)) mq_177 ci_177 (List.mem_append_right _ (List.mem_append_left _ (show _ ∈ my_177_1 from List.mem_of_getElem? (i := 2) rfl)))
theorem cd_177_135 : mt_cd 177 135 = some (.invokevirtual 477) := mt_cd_of (q := (135, .invokevirtual 477, 3)) mq_177 ci_177 (List.mem_append_right _ (List.mem_append_left _ (show _ ∈ my_177_1 from List.mem_of_getElem? (i := 3) rfl)))
theorem cd_177_138 : mt_cd 177 138 = some (.ifCond .ne 7) := mt_cd_of (q := (138, .ifCond .ne 7, 3)) mq_177 ci_177 (List.mem_append_right _ (List.mem_append_left _ (show _ ∈ my_177_1 from List.mem_of_getElem? (i := 4) rfl)))
theorem cd_177_141 : mt_cd 177 141 = some (.iconst 1) := mt_cd_of (q := (141, .iconst 1, 1)) mq_177 ci_177 (List.mem_append_right _ (List.mem_append_left _ (show _ ∈ my_177_1 from List.mem_of_getElem? (i := 5) rfl)))
theorem cd_177_142 : mt_cd 177 142 = some (.goto 4) := mt_cd_of (q := (142, .goto 4, 3)) mq_177 ci_177 (List.mem_append_right _ (List.mem_append_left _ (show _ ∈ my_177_1 from List.mem_of_getElem? (i := 6) rfl)))
theorem cd_177_145 : mt_cd 177 145 = some (.iconst 0) := mt_cd_of (q := (145, .iconst 0, 1)) mq_177 ci_177 (List.mem_append_right _ (List.mem_append_left _ (show _ ∈ my_177_1 from List.mem_of_getElem? (i := 7) rfl)))
theorem cd_177_146 : mt_cd 177 146 = some (.ireturn) := mt_cd_of (q := (146, .ireturn, 1)) mq_177 ci_177 (List.mem_append_right _ (List.mem_append_left _ (show _ ∈ my_177_1 from List.mem_of_getElem? (i := 8) rfl)))
theorem cd_177_147 : mt_cd 177 147 = some (.aload_n 0) := mt_cd_of (q := (147, .aload_n 0, 1)) mq_177 ci_177 (List.mem_append_right _ (List.mem_append_left _ (show _ ∈ my_177_1 from List.mem_of_getElem? (i := 9) rfl)))
theorem cd_177_148 : mt_cd 177 148 = some (.getfield 445) := mt_cd_of (q := (148, .getfield 445, 3)) mq_177 ci_177 (List.mem_append_right _ (List.mem_append_left _ (show _ ∈ my_177_1 from List.mem_of_getElem? (i := 10) rfl)))
theorem cd_177_151 : mt_cd 177 151 = some (.getfield 459) := mt_cd_of (q := (151, .getfield 459, 3)) mq_177 ci_177 (List.mem_append_right _ (List.mem_append_left _ (show _ ∈ my_177_1 from List.mem_of_getElem? (i := 11) rfl)))
theorem cd_177_154 : mt_cd 177 154 = some (.aload_n 0) := mt_cd_of (q := (154, .aload_n 0, 1)) mq_177 ci_177 (List.mem_append_right _ (List.mem_append_left _ (show _ ∈ my_177_1 from List.mem_of_getElem? (i := 12) rfl)))
theorem cd_177_155 : mt_cd 177 155 = some (.getfield 80) := mt_cd_of (q := (155, .getfield 80, 3)) mq_177 ci_177 (List.mem_append_right _ (List.mem_append_left _ (show _ ∈ my_177_1 from List.mem_of_getElem? (i := 13) rfl)))
theorem cd_177_158 : mt_cd 177 158 = some (.iload_n 1) := mt_cd_of (q := (158, .iload_n 1, 1)) mq_177 ci_177 (List.mem_append_right _ (List.mem_append_left _ (show _ ∈ my_177_1 from List.mem_of_getElem? (i := 14) rfl)))
theorem cd_177_159 : mt_cd 177 159 = some (.iaload) := mt_cd_of (q := (159, .iaload, 1)) mq_177 ci_177 (List.mem_append_right _ (List.mem_append_left _ (show _ ∈ my_177_1 from List.mem_of_getElem? (i := 15) rfl)))
theorem cd_177_160 : mt_cd 177 160 = some (.baload) := mt_cd_of (q := (160, .baload, 1)) mq_177 ci_177 (List.mem_append_right _ (List.mem_append_left _ (show _ ∈ my_177_1 from List.mem_of_getElem? (i := 16) rfl)))
theorem cd_177_161 : mt_cd 177 161 = some (.ireturn) := mt_cd_of (q := (161, .ireturn, 1)) mq_177 ci_177 (List.mem_append_right _ (List.mem_append_left _ (show _ ∈ my_177_1 from List.mem_of_getElem? (i := 17) rfl)))
theorem cd_177_162 : mt_cd 177 162 = some (.aload_n 0) := mt_cd_of (q := (162, .aload_n 0, 1)) mq_177 ci_177 (List.mem_append_right _ (List.mem_append_left _ (show _ ∈ my_177_1 from List.mem_of_getElem? (i := 18) rfl)))
theorem cd_177_163 : mt_cd 177 163 = some (.aload_n 0) := mt_cd_of (q := (163, .aload_n 0, 1)) mq_177 ci_177 (List.mem_append_right _ (List.mem_append_left _ (show _ ∈ my_177_1 from List.mem_of_getElem? (i := 19) rfl)))
theorem cd_177_164 : mt_cd 177 164 = some (.getfield 80) := mt_cd_of (q := (164, .getfield 80, 3)) mq_177 ci_177 (List.mem_append_right _ (List.mem_append_left _ (show _ ∈ my_177_1 from List.mem_of_getElem? (i := 20) rfl)))
theorem cd_177_167 : mt_cd 177 167 = some (.iload_n 1) := mt_cd_of (q := (167, .iload_n 1, 1)) mq_177 ci_177 (List.mem_append_right _ (List.mem_append_left _ (show _ ∈ my_177_1 from List.mem_of_getElem? (i := 21) rfl)))
theorem cd_177_168 : mt_cd 177 168 = some (.iaload) := mt_cd_of (q := (168, .iaload, 1)) mq_177 ci_177 (List.mem_append_right _ (List.mem_append_left _ (show _ ∈ my_177_1 from List.mem_of_getElem? (i := 22) rfl)))
theorem cd_177_169 : mt_cd 177 169 = some (.invokevirtual 451) := mt_cd_of (q := (169, .invokevirtual 451, 3)) mq_177 ci_177 (List.mem_append_right _ (List.mem_append_left _ (show _ ∈ my_177_1 from List.mem_of_getElem? (i := 23) rfl)))
theorem cd_177_172 : mt_cd 177 172 = some (.lstore_n 2) := mt_cd_of (q := (172, .lstore_n 2, 1)) mq_177 ci_177 (List.mem_append_right _ (List.mem_append_left _ (show _ ∈ my_177_1 from List.mem_of_getElem? (i := 24) rfl)))
theorem cd_177_173 : mt_cd 177 173 = some (.aload_n 0) := mt_cd_of (q := (173, .aload_n 0, 1)) mq_177 ci_177 (List.mem_append_right _ (List.mem_append_left _ (show _ ∈ my_177_1 from List.mem_of_getElem? (i := 25) rfl)))
theorem cd_177_174 : mt_cd 177 174 = some (.aload_n 0) := mt_cd_of (q := (174, .aload_n 0, 1)) mq_177 ci_177 (List.mem_append_right _ (List.mem_append_left _ (show _ ∈ my_177_1 from List.mem_of_getElem? (i := 26) rfl)))
theorem cd_177_175 : mt_cd 177 175 = some (.getfield 83) := mt_cd_of (q := (175, .getfield 83, 3)) mq_177 ci_177 (List.mem_append_right _ (List.mem_append_left _ (show _ ∈ my_177_1 from List.mem_of_getElem? (i := 27) rfl)))
theorem cd_177_178 : mt_cd 177 178 = some (.iload_n 1) := mt_cd_of (q := (178, .iload_n 1, 1)) mq_177 ci_177 (List.mem_append_right _ (List.mem_append_left _ (show _ ∈ my_177_1 from List.mem_of_getElem? (i := 28) rfl)))
theorem cd_177_179 : mt_cd 177 179 = some (.iaload) := mt_cd_of (q := (179, .iaload, 1)) mq_177 ci_177 (List.mem_append_right _ (List.mem_append_left _ (show _ ∈ my_177_1 from List.mem_of_getElem? (i := 29) rfl)))
theorem cd_177_180 : mt_cd 177 180 = some (.invokevirtual 451) := mt_cd_of (q := (180, .invokevirtual 451, 3)) mq_177 ci_177 (List.mem_append_right _ (List.mem_append_left _ (show _ ∈ my_177_1 from List.mem_of_getElem? (i := 30) rfl)))
theorem cd_177_183 : mt_cd 177 183 = some (.lstore 4) := mt_cd_of (q := (183, .lstore 4, 2)) mq_177 ci_177 (List.mem_append_right _ (List.mem_append_left _ (show _ ∈ my_177_1 from List.mem_of_getElem? (i := 31) rfl)))
theorem cd_177_185 : mt_cd 177 185 = some (.aload_n 0) := mt_cd_of (q := (185, .aload_n 0, 1)) mq_177 ci_177 (List.mem_append_right _ (List.mem_append_left _ (show _ ∈ my_177_1 from List.mem_of_getElem? (i := 32) rfl)))
theorem cd_177_186 : mt_cd 177 186 = some (.getfield 77) := mt_cd_of (q := (186, .getfield 77, 3)) mq_177 ci_177 (List.mem_append_right _ (List.mem_append_left _ (show _ ∈ my_177_1 from List.mem_of_getElem? (i := 33) rfl)))
theorem cd_177_189 : mt_cd 177 189 = some (.iload_n 1) := mt_cd_of (q := (189, .iload_n 1, 1)) mq_177 ci_177 (List.mem_append_right _ (List.mem_append_left _ (show _ ∈ my_177_1 from List.mem_of_getElem? (i := 34) rfl)))
theorem cd_177_190 : mt_cd 177 190 = some (.iaload) := mt_cd_of (q := (190, .iaload, 1)) mq_177 ci_177 (List.mem_append_right _ (List.mem_append_left _ (show _ ∈ my_177_1 from List.mem_of_getElem? (i := 35) rfl)))
theorem cd_177_191 : mt_cd 177 191 = some (.bipush 28) := mt_cd_of (q := (191, .bipush 28, 2)) mq_177 ci_177 (List.mem_append_right _ (List.mem_append_left _ (show _ ∈ my_177_1 from List.mem_of_getElem? (i := 36) rfl)))
theorem cd_177_193 : mt_cd 177 193 = some (.if_icmp .ne 18) := mt_cd_of (q := (193, .if_icmp .ne 18, 3)) mq_177 ci_177 (List.mem_append_right _ (List.mem_append_left _ (show _ ∈ my_177_1 from List.mem_of_getElem? (i := 37) rfl)))
theorem cd_177_196 : mt_cd 177 196 = some (.lload_n 2) := mt_cd_of (q := (196, .lload_n 2, 1)) mq_177 ci_177 (List.mem_append_right _ (List.mem_append_left _ (show _ ∈ my_177_1 from List.mem_of_getElem? (i := 38) rfl)))
theorem cd_177_197 : mt_cd 177 197 = some (.lload 4) := mt_cd_of (q := (197, .lload 4, 2)) mq_177 ci_177 (List.mem_append_right _ (List.mem_append_left _ (show _ ∈ my_177_1 from List.mem_of_getElem? (i := 39) rfl)))
theorem cd_177_199 : mt_cd 177 199 = some (.lcmp) := mt_cd_of (q := (199, .lcmp, 1)) mq_177 ci_177 (List.mem_append_right _ (List.mem_append_left _ (show _ ∈ my_177_1 from List.mem_of_getElem? (i := 40) rfl)))
theorem cd_177_200 : mt_cd 177 200 = some (.ifCond .lt 7) := mt_cd_of (q := (200, .ifCond .lt 7, 3)) mq_177 ci_177 (List.mem_append_right _ (List.mem_append_left _ (show _ ∈ my_177_1 from List.mem_of_getElem? (i := 41) rfl)))
theorem cd_177_203 : mt_cd 177 203 = some (.iconst 1) := mt_cd_of (q := (203, .iconst 1, 1)) mq_177 ci_177 (List.mem_append_right _ (List.mem_append_left _ (show _ ∈ my_177_1 from List.mem_of_getElem? (i := 42) rfl)))
theorem cd_177_204 : mt_cd 177 204 = some (.goto 97) := mt_cd_of (q := (204, .goto 97, 3)) mq_177 ci_177 (List.mem_append_right _ (List.mem_append_left _ (show _ ∈ my_177_1 from List.mem_of_getElem? (i := 43) rfl)))
theorem cd_177_207 : mt_cd 177 207 = some (.iconst 0) := mt_cd_of (q := (207, .iconst 0, 1)) mq_177 ci_177 (List.mem_append_right _ (List.mem_append_left _ (show _ ∈ my_177_1 from List.mem_of_getElem? (i := 44) rfl)))
theorem cd_177_208 : mt_cd 177 208 = some (.goto 93) := mt_cd_of (q := (208, .goto 93, 3)) mq_177 ci_177 (List.mem_append_right _ (List.mem_append_left _ (show _ ∈ my_177_1 from List.mem_of_getElem? (i := 45) rfl)))
theorem cd_177_211 : mt_cd 177 211 = some (.aload_n 0) := mt_cd_of (q := (211, .aload_n 0, 1)) mq_177 ci_177 (List.mem_append_right _ (List.mem_append_left _ (show _ ∈ my_177_1 from List.mem_of_getElem? (i := 46) rfl)))
theorem cd_177_212 : mt_cd 177 212 = some (.getfield 77) := mt_cd_of (q := (212, .getfield 77, 3)) mq_177 ci_177 (List.mem_append_right _ (List.mem_append_left _ (show _ ∈ my_177_1 from List.mem_of_getElem? (i := 47) rfl)))
theorem cd_177_215 : mt_cd 177 215 = some (.iload_n 1) := mt_cd_of (q := (215, .iload_n 1, 1)) mq_177 ci_177 (List.mem_append_right _ (List.mem_append_left _ (show _ ∈ my_177_1 from List.mem_of_getElem? (i := 48) rfl)))
theorem cd_177_216 : mt_cd 177 216 = some (.iaload) := mt_cd_of (q := (216, .iaload, 1)) mq_177 ci_177 (List.mem_append_right _ (List.mem_append_left _ (show _ ∈ my_177_1 from List.mem_of_getElem? (i := 49) rfl)))
theorem cd_177_217 : mt_cd 177 217 = some (.bipush 29) := mt_cd_of (q := (217, .bipush 29, 2)) mq_177 ci_177 (List.mem_append_right _ (List.mem_append_left _ (show _ ∈ my_177_1 from List.mem_of_getElem? (i := 50) rfl)))
theorem cd_177_219 : mt_cd 177 219 = some (.if_icmp .ne 18) := mt_cd_of (q := (219, .if_icmp .ne 18, 3)) mq_177 ci_177 (List.mem_append_right _ (List.mem_append_left _ (show _ ∈ my_177_1 from List.mem_of_getElem? (i := 51) rfl)))
theorem cd_177_222 : mt_cd 177 222 = some (.lload_n 2) := mt_cd_of (q := (222, .lload_n 2, 1)) mq_177 ci_177 (List.mem_append_right _ (List.mem_append_left _ (show _ ∈ my_177_1 from List.mem_of_getElem? (i := 52) rfl)))
theorem cd_177_223 : mt_cd 177 223 = some (.lload 4) := mt_cd_of (q := (223, .lload 4, 2)) mq_177 ci_177 (List.mem_append_right _ (List.mem_append_left _ (show _ ∈ my_177_1 from List.mem_of_getElem? (i := 53) rfl)))
theorem cd_177_225 : mt_cd 177 225 = some (.lcmp) := mt_cd_of (q := (225, .lcmp, 1)) mq_177 ci_177 (List.mem_append_right _ (List.mem_append_left _ (show _ ∈ my_177_1 from List.mem_of_getElem? (i := 54) rfl)))
theorem cd_177_226 : mt_cd 177 226 = some (.ifCond .le 7) := mt_cd_of (q := (226, .ifCond .le 7, 3)) mq_177 ci_177 (List.mem_append_right _ (List.mem_append_left _ (show _ ∈ my_177_1 from List.mem_of_getElem? (i := 55) rfl)))
theorem cd_177_229 : mt_cd 177 229 = some (.iconst 1) := mt_cd_of (q := (229, .iconst 1, 1)) mq_177 ci_177 (List.mem_append_right _ (List.mem_append_left _ (show _ ∈ my_177_1 from List.mem_of_getElem? (i := 56) rfl)))
theorem cd_177_230 : mt_cd 177 230 = some (.goto 71) := mt_cd_of (q := (230, .goto 71, 3)) mq_177 ci_177 (List.mem_append_right _ (List.mem_append_left _ (show _ ∈ my_177_1 from List.mem_of_getElem? (i := 57) rfl)))
theorem cd_177_233 : mt_cd 177 233 = some (.iconst 0) := mt_cd_of (q := (233, .iconst 0, 1)) mq_177 ci_177 (List.mem_append_right _ (List.mem_append_left _ (show _ ∈ my_177_1 from List.mem_of_getElem? (i := 58) rfl)))
theorem cd_177_234 : mt_cd 177 234 = some (.goto 67) := mt_cd_of (q := (234, .goto 67, 3)) mq_177 ci_177 (List.mem_append_right _ (List.mem_append_left _ (show _ ∈ my_177_1 from List.mem_of_getElem? (i := 59) rfl)))
theorem cd_177_237 : mt_cd 177 237 = some (.aload_n 0) := mt_cd_of (q := (237, .aload_n 0, 1)) mq_177 ci_177 (List.mem_append_right _ (List.mem_append_right _ ((show _ ∈ my_177_2 from List.mem_of_getElem? (i := 0) rfl))))
theorem cd_177_238 : mt_cd 177 238 = some (.getfield 77) := mt_cd_of (q := (238, .getfield 77, 3)) mq_177 ci_177 (List.mem_append_right _ (List.mem_append_right _ ((show _ ∈ my_177_2 from List.mem_of_getElem? (i := 1) rfl))))
theorem cd_177_241 : mt_cd 177 241 = some (.iload_n 1) := mt_cd_of (q := (241, .iload_n 1, 1)) mq_177 ci_177 (List.mem_append_right _ (List.mem_append_right _ ((show _ ∈ my_177_2 from List.mem_of_getElem? (i := 2) rfl))))
theorem cd_177_242 : mt_cd 177 242 = some (.iaload) := mt_cd_of (q := (242, .iaload, 1)) mq_177 ci_177 (List.mem_append_right _ (List.mem_append_right _ ((show _ ∈ my_177_2 from List.mem_of_getElem? (i := 3) rfl))))
theorem cd_177_243 : mt_cd 177 243 = some (.bipush 30) := mt_cd_of (q := (243, .bipush 30, 2)) mq_177 ci_177 (List.mem_append_right _ (List.mem_append_right _ ((show _ ∈ my_177_2 from List.mem_of_getElem? (i := 4) rfl))))
theorem cd_177_245 : mt_cd 177 245 = some (.if_icmp .ne 18) := mt_cd_of (q := (245, .if_icmp .ne 18, 3)) mq_177 ci_177 (List.mem_append_right _ (List.mem_append_right _ ((show _ ∈ my_177_2 from List.mem_of_getElem? (i := 5) rfl))))
theorem cd_177_248 : mt_cd 177 248 = some (.lload_n 2) := mt_cd_of (q := (248, .lload_n 2, 1)) mq_177 ci_177 (List.mem_append_right _ (List.mem_append_right _ ((show _ ∈ my_177_2 from List.mem_of_getElem? (i := 6) rfl))))
theorem cd_177_249 : mt_cd 177 249 = some (.lload 4) := mt_cd_of (q := (249, .lload 4, 2)) mq_177 ci_177 (List.mem_append_right _ (List.mem_append_right _ ((show _ ∈ my_177_2 from List.mem_of_getElem? (i := 7) rfl))))
theorem cd_177_251 : mt_cd 177 251 = some (.lcmp) := mt_cd_of (q := (251, .lcmp, 1)) mq_177 ci_177 (List.mem_append_right _ (List.mem_append_right _ ((show _ ∈ my_177_2 from List.mem_of_getElem? (i := 8) rfl))))
theorem cd_177_252 : mt_cd 177 252 = some (.ifCond .gt 7) := mt_cd_of (q := (252, .ifCond .gt 7, 3)) mq_177 ci_177 (List.mem_append_right _ (List.mem_append_right _ ((show _ ∈ my_177_2 from List.mem_of_getElem? (i := 9) rfl))))
theorem cd_177_255 : mt_cd 177 255 = some (.iconst 1) := mt_cd_of (q := (255, .iconst 1, 1)) mq_177 ci_177 (List.mem_append_right _ (List.mem_append_right _ ((show _ ∈ my_177_2 from List.mem_of_getElem? (i := 10) rfl))))
theorem cd_177_256 : mt_cd 177 256 = some (.goto 45) := mt_cd_of (q := (256, .goto 45, 3)) mq_177 ci_177 (List.mem_append_right _ (List.mem_append_right _ ((show _ ∈ my_177_2 from List.mem_of_getElem? (i := 11) rfl))))
theorem cd_177_259 : mt_cd 177 259 = some (.iconst 0) := mt_cd_of (q := (259, .iconst 0, 1)) mq_177 ci_177 (List.mem_append_right _ (List.mem_append_right _ ((show _ ∈ my_177_2 from List.mem_of_getElem? (i := 12) rfl))))
theorem cd_177_260 : mt_cd 177 260 = some (.goto 41) := mt_cd_of (q := (260, .goto 41, 3)) mq_177 ci_177 (List.mem_append_right _ (List.mem_append_right _ ((show _ ∈ my_177_2 from List.mem_of_getElem? (i := 13) rfl))))
theorem cd_177_263 : mt_cd 177 263 = some (.aload_n 0) := mt_cd_of (q := (263, .aload_n 0, 1)) mq_177 ci_177 (List.mem_append_right _ (List.mem_append_right _ ((show _ ∈ my_177_2 from List.mem_of_getElem? (i := 14) rfl))))
theorem cd_177_264 : mt_cd 177 264 = some (.getfield 77) := mt_cd_of (q := (264, .getfield 77, 3)) mq_177 ci_177 (List.mem_append_right _ (List.mem_append_right _ ((show _ ∈ my_177_2 from List.mem_of_getElem? (i := 15) rfl))))
theorem cd_177_267 : mt_cd 177 267 = some (.iload_n 1) := mt_cd_of (q := (267, .iload_n 1, 1)) mq_177 ci_177 (List.mem_append_right _ (List.mem_append_right _ ((show _ ∈ my_177_2 from List.mem_of_getElem? (i := 16) rfl))))
theorem cd_177_268 : mt_cd 177 268 = some (.iaload) := mt_cd_of (q := (268, .iaload, 1)) mq_177 ci_177 (List.mem_append_right _ (List.mem_append_right _ ((show _ ∈ my_177_2 from List.mem_of_getElem? (i := 17) rfl))))
theorem cd_177_269 : mt_cd 177 269 = some (.bipush 31) := mt_cd_of (q := (269, .bipush 31, 2)) mq_177 ci_177 (List.mem_append_right _ (List.mem_append_right _ ((show _ ∈ my_177_2 from List.mem_of_getElem? (i := 18) rfl))))
theorem cd_177_271 : mt_cd 177 271 = some (.if_icmp .ne 18) := mt_cd_of (q := (271, .if_icmp .ne 18, 3)) mq_177 ci_177 (List.mem_append_right _ (List.mem_append_right _ ((show _ ∈ my_177_2 from List.mem_of_getElem? (i := 19) rfl))))
theorem cd_177_274 : mt_cd 177 274 = some (.lload_n 2) := mt_cd_of (q := (274, .lload_n 2, 1)) mq_177 ci_177 (List.mem_append_right _ (List.mem_append_right _ ((show _ ∈ my_177_2 from List.mem_of_getElem? (i := 20) rfl))))
theorem cd_177_275 : mt_cd 177 275 = some (.lload 4) := mt_cd_of (q := (275, .lload 4, 2)) mq_177 ci_177 (List.mem_append_right _ (List.mem_append_right _ ((show _ ∈ my_177_2 from List.mem_of_getElem? (i := 21) rfl))))
theorem cd_177_277 : mt_cd 177 277 = some (.lcmp) := mt_cd_of (q := (277, .lcmp, 1)) mq_177 ci_177 (List.mem_append_right _ (List.mem_append_right _ ((show _ ∈ my_177_2 from List.mem_of_getElem? (i := 22) rfl))))
theorem cd_177_278 : mt_cd 177 278 = some (.ifCond .ge 7) := mt_cd_of (q := (278, .ifCond .ge 7, 3)) mq_177 ci_177 (List.mem_append_right _ (List.mem_append_right _ ((show _ ∈ my_177_2 from List.mem_of_getElem? (i := 23) rfl))))
theorem cd_177_281 : mt_cd 177 281 = some (.iconst 1) := mt_cd_of (q := (281, .iconst 1, 1)) mq_177 ci_177 (List.mem_append_right _ (List.mem_append_right _ ((show _ ∈ my_177_2 from List.mem_of_getElem? (i := 24) rfl))))
theorem cd_177_282 : mt_cd 177 282 = some (.goto 19) := mt_cd_of (q := (282, .goto 19, 3)) mq_177 ci_177 (List.mem_append_right _ (List.mem_append_right _ ((show _ ∈ my_177_2 from List.mem_of_getElem? (i := 25) rfl))))
theorem cd_177_285 : mt_cd 177 285 = some (.iconst 0) := mt_cd_of (q := (285, .iconst 0, 1)) mq_177 ci_177 (List.mem_append_right _ (List.mem_append_right _ ((show _ ∈ my_177_2 from List.mem_of_getElem? (i := 26) rfl))))
theorem cd_177_286 : mt_cd 177 286 = some (.goto 15) := mt_cd_of (q := (286, .goto 15, 3)) mq_177 ci_177 (List.mem_append_right _ (List.mem_append_right _ ((show _ ∈ my_177_2 from List.mem_of_getElem? (i := 27) rfl))))
theorem cd_177_289 : mt_cd 177 289 = some (.lload_n 2) := mt_cd_of (q := (289, .lload_n 2, 1)) mq_177 ci_177 (List.mem_append_right _ (List.mem_append_right _ ((show _ ∈ my_177_2 from List.mem_of_getElem? (i := 28) rfl))))
theorem cd_177_290 : mt_cd 177 290 = some (.lload 4) := mt_cd_of (q := (290, .lload 4, 2)) mq_177 ci_177 (List.mem_append_right _ (List.mem_append_right _ ((show _ ∈ my_177_2 from List.mem_of_getElem? (i := 29) rfl))))
theorem cd_177_292 : mt_cd 177 292 = some (.lcmp) := mt_cd_of (q := (292, .lcmp, 1)) mq_177 ci_177 (List.mem_append_right _ (List.mem_append_right _ ((show _ ∈ my_177_2 from List.mem_of_getElem? (i := 30) rfl))))
theorem cd_177_293 : mt_cd 177 293 = some (.ifCond .ne 7) := mt_cd_of (q := (293, .ifCond .ne 7, 3)) mq_177 ci_177 (List.mem_append_right _ (List.mem_append_right _ ((show _ ∈ my_177_2 from List.mem_of_getElem? (i := 31) rfl))))
theorem cd_177_296 : mt_cd 177 296 = some (.iconst 1) := mt_cd_of (q := (296, .iconst 1, 1)) mq_177 ci_177 (List.mem_append_right _ (List.mem_append_right _ ((show _ ∈ my_177_2 from List.mem_of_getElem? (i := 32) rfl))))
theorem cd_177_297 : mt_cd 177 297 = some (.goto 4) := mt_cd_of (q := (297, .goto 4, 3)) mq_177 ci_177 (List.mem_append_right _ (List.mem_append_right _ ((show _ ∈ my_177_2 from List.mem_of_getElem? (i := 33) rfl))))
theorem cd_177_300 : mt_cd 177 300 = some (.iconst 0) := mt_cd_of (q := (300, .iconst 0, 1)) mq_177 ci_177 (List.mem_append_right _ (List.mem_append_right _ ((show _ ∈ my_177_2 from List.mem_of_getElem? (i := 34) rfl))))
theorem cd_177_301 : mt_cd 177 301 = some (.ireturn) := mt_cd_of (q := (301, .ireturn, 1)) mq_177 ci_177 (List.mem_append_right _ (List.mem_append_right _ ((show _ ∈ my_177_2 from List.mem_of_getElem? (i := 35) rfl))))
theorem b_177_0 {d : Nat} {Q : (Option Value ⊕ Nat) → mi_H → Prop} (n sl : Nat) (f : Nat → mi_C) {l1 : Nat} {l2 : Int32} {o3 : Option Value} {o4 : Option Value} {o5 : Option Value} {o6 : Option Value} {fs7 : List Value} {x10 : Int32} (h8 : f l1 = .inr (12, fs7)) (h9 : l1 < n) (h11 : fs7[46]? = some (.int x10)) (h12 : x10 = (0 : Int32) → mi_W d 177 9 [some (.ref l1), some (.int l2), o3, o4, o5, o6] [] (n, sl, f) Q) (h13 : ¬ (x10 = (0 : Int32)) → mi_W d 177 7 [some (.ref l1), some (.int l2), o3, o4, o5, o6] [] (n, sl, f) Q) : mi_W d 177 0 [some (.ref l1), some (.int l2), o3, o4, o5, o6] [] (n, sl, f) Q := by
  refine w_aload_n cd_177_0 rfl ?_
  refine w_getfield cd_177_1 (show mt_f 12 441 = some (12, 46) by decide +kernel) h8 h9 h11 ?_
  exact w_ifeq cd_177_4 (by decide) h12 h13
theorem b_177_7 {d : Nat} {Q : (Option Value ⊕ Nat) → mi_H → Prop} (n sl : Nat) (f : Nat → mi_C) {l1 : Nat} {l2 : Int32} {o3 : Option Value} {o4 : Option Value} {o5 : Option Value} {o6 : Option Value} (h7 : Q (.inl (some (.int 0))) (n, sl, f)) : mi_W d 177 7 [some (.ref l1), some (.int l2), o3, o4, o5, o6] [] (n, sl, f) Q := by
  refine w_iconst (v := 0) cd_177_7 (by decide) ?_
  exact w_ireturn_z cd_177_8 (by decide +kernel) (by decide) h7
theorem b_177_9 {d : Nat} {Q : (Option Value ⊕ Nat) → mi_H → Prop} (n sl : Nat) (f : Nat → mi_C) {l1 : Nat} {l2 : Int32} {o3 : Option Value} {o4 : Option Value} {o5 : Option Value} {o6 : Option Value} {fs7 : List Value} {x10 : Nat} (m12 i12 : Nat) (g12 : Nat → Int32) {t16 : Nat} (h8 : f l1 = .inr (12, fs7)) (h9 : l1 < n) (h11 : fs7[12]? = some (.ref x10)) (h13 : f x10 = .inl (0, m12, .inl g12)) (h14 : x10 < n ∨ x10 = mi_SC) (h15 : mi_ix l2 m12 i12) (h17 : mi_ts 15 147 22 27 #[37, 39, 41, 77, 113, 132] ((g12 i12) : Int32).toInt = some t16) (h18 : mi_W d 177 t16 [some (.ref l1), some (.int l2), o3, o4, o5, o6] [] (n, sl, f) Q) : mi_W d 177 9 [some (.ref l1), some (.int l2), o3, o4, o5, o6] [] (n, sl, f) Q := by
  refine w_aload_n cd_177_9 rfl ?_
  refine w_getfield cd_177_10 (show mt_f 12 77 = some (12, 12) by decide +kernel) h8 h9 h11 ?_
  refine w_iload_n cd_177_13 rfl ?_
  refine w_iaload cd_177_14 h13 h14 h15 ?_
  exact w_tableswitch cd_177_15 h17 h18
theorem b_177_52 {d : Nat} {Q : (Option Value ⊕ Nat) → mi_H → Prop} (n sl : Nat) (f : Nat → mi_C) {l1 : Nat} {l2 : Int32} {o3 : Option Value} {o4 : Option Value} {o5 : Option Value} {o6 : Option Value} (h7 : Q (.inl (some (.int 1))) (n, sl, f)) : mi_W d 177 52 [some (.ref l1), some (.int l2), o3, o4, o5, o6] [] (n, sl, f) Q := by
  refine w_iconst (v := 1) cd_177_52 (by decide) ?_
  exact w_ireturn_z cd_177_53 (by decide +kernel) (by decide) h7
theorem b_177_54 {d : Nat} {Q : (Option Value ⊕ Nat) → mi_H → Prop} (n sl : Nat) (f : Nat → mi_C) {l1 : Nat} {l2 : Int32} {o3 : Option Value} {o4 : Option Value} {o5 : Option Value} {o6 : Option Value} (h7 : Q (.inl (some (.int 0))) (n, sl, f)) : mi_W d 177 54 [some (.ref l1), some (.int l2), o3, o4, o5, o6] [] (n, sl, f) Q := by
  refine w_iconst (v := 0) cd_177_54 (by decide) ?_
  exact w_ireturn_z cd_177_55 (by decide +kernel) (by decide) h7
theorem b_177_56 {d : Nat} {Q : (Option Value ⊕ Nat) → mi_H → Prop} (n sl : Nat) (f : Nat → mi_C) {l1 : Nat} {l2 : Int32} {o3 : Option Value} {o4 : Option Value} {o5 : Option Value} {o6 : Option Value} {fs7 : List Value} {x10 : Nat} (m12 i12 : Nat) (g12 : Nat → Int32) {fs16 : List Value} (h8 : f l1 = .inr (12, fs7)) (h9 : l1 < n) (h11 : fs7[13]? = some (.ref x10)) (h13 : f x10 = .inl (0, m12, .inl g12)) (h14 : x10 < n ∨ x10 = mi_SC) (h15 : mi_ix l2 m12 i12) (h17 : f l1 = .inr (12, fs16)) (h18 : l1 < n) (h19 : mi_W d 177 0 (mi_en 6 [.ref l1, .int (g12 i12)]) [] (n, sl, f) (mi_Kc d 177 63 [some (.ref l1), some (.int l2), o3, o4, o5, o6] [] Q)) : mi_W (d + 1) 177 56 [some (.ref l1), some (.int l2), o3, o4, o5, o6] [] (n, sl, f) Q := by
  refine w_aload_n cd_177_56 rfl ?_
  refine w_aload_n cd_177_57 rfl ?_
  refine w_getfield cd_177_58 (show mt_f 12 80 = some (12, 13) by decide +kernel) h8 h9 h11 ?_
  refine w_iload_n cd_177_61 rfl ?_
  refine w_iaload cd_177_62 h13 h14 h15 ?_
  exact w_invokevirtual cd_177_63 (show mt_m 12 477 = some (177, 0) by decide +kernel) (rest := []) rfl (as := [.ref l1, .int (g12 i12)]) rfl h17 (Or.inl h18) ⟨Nat.le_of_ble_eq_true rfl, Nat.le_of_ble_eq_true rfl, Nat.le_of_ble_eq_true rfl⟩ h19
theorem b_177_66 {d : Nat} {Q : (Option Value ⊕ Nat) → mi_H → Prop} (n sl : Nat) (f : Nat → mi_C) {l1 : Nat} {l2 : Int32} {o3 : Option Value} {o4 : Option Value} {o5 : Option Value} {o6 : Option Value} {s7 : Int32} {fs8 : List Value} {x11 : Nat} (m13 i13 : Nat) (g13 : Nat → Int32) {fs17 : List Value} (h9 : f l1 = .inr (12, fs8)) (h10 : l1 < n) (h12 : fs8[14]? = some (.ref x11)) (h14 : f x11 = .inl (0, m13, .inl g13)) (h15 : x11 < n ∨ x11 = mi_SC) (h16 : mi_ix l2 m13 i13) (h18 : f l1 = .inr (12, fs17)) (h19 : l1 < n) (h20 : mi_W d 177 0 (mi_en 6 [.ref l1, .int (g13 i13)]) [] (n, sl, f) (mi_Kc d 177 74 [some (.ref l1), some (.int l2), some (.int s7), o4, o5, o6] [] Q)) : mi_W (d + 1) 177 66 [some (.ref l1), some (.int l2), o3, o4, o5, o6] [.int s7] (n, sl, f) Q := by
  refine w_istore_n (ls' := [some (.ref l1), some (.int l2), some (.int s7), o4, o5, o6]) cd_177_66 (Nat.le_of_ble_eq_true rfl) rfl ?_
  refine w_aload_n cd_177_67 rfl ?_
  refine w_aload_n cd_177_68 rfl ?_
  refine w_getfield cd_177_69 (show mt_f 12 83 = some (12, 14) by decide +kernel) h9 h10 h12 ?_
  refine w_iload_n cd_177_72 rfl ?_
  refine w_iaload cd_177_73 h14 h15 h16 ?_
  exact w_invokevirtual cd_177_74 (show mt_m 12 477 = some (177, 0) by decide +kernel) (rest := []) rfl (as := [.ref l1, .int (g13 i13)]) rfl h18 (Or.inl h19) ⟨Nat.le_of_ble_eq_true rfl, Nat.le_of_ble_eq_true rfl, Nat.le_of_ble_eq_true rfl⟩ h20
theorem b_177_77 {d : Nat} {Q : (Option Value ⊕ Nat) → mi_H → Prop} (n sl : Nat) (f : Nat → mi_C) {l1 : Nat} {l2 : Int32} {l3 : Int32} {o4 : Option Value} {o5 : Option Value} {o6 : Option Value} {s7 : Int32} (h8 : l3 = (0 : Int32) → mi_W d 177 90 [some (.ref l1), some (.int l2), some (.int l3), some (.int s7), o5, o6] [] (n, sl, f) Q) (h9 : ¬ (l3 = (0 : Int32)) → mi_W d 177 82 [some (.ref l1), some (.int l2), some (.int l3), some (.int s7), o5, o6] [] (n, sl, f) Q) : mi_W d 177 77 [some (.ref l1), some (.int l2), some (.int l3), o4, o5, o6] [.int s7] (n, sl, f) Q := by
  refine w_istore_n (ls' := [some (.ref l1), some (.int l2), some (.int l3), some (.int s7), o5, o6]) cd_177_77 (Nat.le_of_ble_eq_true rfl) rfl ?_
  refine w_iload_n cd_177_78 rfl ?_
  exact w_ifeq cd_177_79 (by decide) h8 h9
theorem b_177_82 {d : Nat} {Q : (Option Value ⊕ Nat) → mi_H → Prop} (n sl : Nat) (f : Nat → mi_C) {l1 : Nat} {l2 : Int32} {l3 : Int32} {l4 : Int32} {o5 : Option Value} {o6 : Option Value} (h7 : l4 = (0 : Int32) → mi_W d 177 90 [some (.ref l1), some (.int l2), some (.int l3), some (.int l4), o5, o6] [] (n, sl, f) Q) (h8 : ¬ (l4 = (0 : Int32)) → mi_W d 177 86 [some (.ref l1), some (.int l2), some (.int l3), some (.int l4), o5, o6] [] (n, sl, f) Q) : mi_W d 177 82 [some (.ref l1), some (.int l2), some (.int l3), some (.int l4), o5, o6] [] (n, sl, f) Q := by
  refine w_iload_n cd_177_82 rfl ?_
  exact w_ifeq cd_177_83 (by decide) h7 h8
theorem b_177_86 {d : Nat} {Q : (Option Value ⊕ Nat) → mi_H → Prop} (n sl : Nat) (f : Nat → mi_C) {l1 : Nat} {l2 : Int32} {l3 : Int32} {l4 : Int32} {o5 : Option Value} {o6 : Option Value} (h7 : mi_W d 177 91 [some (.ref l1), some (.int l2), some (.int l3), some (.int l4), o5, o6] [.int 1] (n, sl, f) Q) : mi_W d 177 86 [some (.ref l1), some (.int l2), some (.int l3), some (.int l4), o5, o6] [] (n, sl, f) Q := by
  refine w_iconst (v := 1) cd_177_86 (by decide) ?_
  exact w_goto cd_177_87 (by decide) h7
theorem b_177_90 {d : Nat} {Q : (Option Value ⊕ Nat) → mi_H → Prop} (n sl : Nat) (f : Nat → mi_C) {l1 : Nat} {l2 : Int32} {l3 : Int32} {l4 : Int32} {o5 : Option Value} {o6 : Option Value} (h7 : mi_W d 177 91 [some (.ref l1), some (.int l2), some (.int l3), some (.int l4), o5, o6] [.int 0] (n, sl, f) Q) : mi_W d 177 90 [some (.ref l1), some (.int l2), some (.int l3), some (.int l4), o5, o6] [] (n, sl, f) Q := by
  refine w_iconst (v := 0) cd_177_90 (by decide) ?_
  exact h7
theorem b_177_91 {d : Nat} {Q : (Option Value ⊕ Nat) → mi_H → Prop} (n sl : Nat) (f : Nat → mi_C) {l1 : Nat} {l2 : Int32} {l3 : Int32} {l4 : Int32} {o5 : Option Value} {o6 : Option Value} {s7 : Int32} (h8 : s7 = 0 ∨ s7 = 1) (h9 : Q (.inl (some (.int s7))) (n, sl, f)) : mi_W d 177 91 [some (.ref l1), some (.int l2), some (.int l3), some (.int l4), o5, o6] [.int s7] (n, sl, f) Q := by
  exact w_ireturn_z cd_177_91 (by decide +kernel) h8 h9
theorem b_177_92 {d : Nat} {Q : (Option Value ⊕ Nat) → mi_H → Prop} (n sl : Nat) (f : Nat → mi_C) {l1 : Nat} {l2 : Int32} {o3 : Option Value} {o4 : Option Value} {o5 : Option Value} {o6 : Option Value} {fs7 : List Value} {x10 : Nat} (m12 i12 : Nat) (g12 : Nat → Int32) {fs16 : List Value} (h8 : f l1 = .inr (12, fs7)) (h9 : l1 < n) (h11 : fs7[13]? = some (.ref x10)) (h13 : f x10 = .inl (0, m12, .inl g12)) (h14 : x10 < n ∨ x10 = mi_SC) (h15 : mi_ix l2 m12 i12) (h17 : f l1 = .inr (12, fs16)) (h18 : l1 < n) (h19 : mi_W d 177 0 (mi_en 6 [.ref l1, .int (g12 i12)]) [] (n, sl, f) (mi_Kc d 177 99 [some (.ref l1), some (.int l2), o3, o4, o5, o6] [] Q)) : mi_W (d + 1) 177 92 [some (.ref l1), some (.int l2), o3, o4, o5, o6] [] (n, sl, f) Q := by
  refine w_aload_n cd_177_92 rfl ?_
  refine w_aload_n cd_177_93 rfl ?_
  refine w_getfield cd_177_94 (show mt_f 12 80 = some (12, 13) by decide +kernel) h8 h9 h11 ?_
  refine w_iload_n cd_177_97 rfl ?_
  refine w_iaload cd_177_98 h13 h14 h15 ?_
  exact w_invokevirtual cd_177_99 (show mt_m 12 477 = some (177, 0) by decide +kernel) (rest := []) rfl (as := [.ref l1, .int (g12 i12)]) rfl h17 (Or.inl h18) ⟨Nat.le_of_ble_eq_true rfl, Nat.le_of_ble_eq_true rfl, Nat.le_of_ble_eq_true rfl⟩ h19
theorem b_177_102 {d : Nat} {Q : (Option Value ⊕ Nat) → mi_H → Prop} (n sl : Nat) (f : Nat → mi_C) {l1 : Nat} {l2 : Int32} {o3 : Option Value} {o4 : Option Value} {o5 : Option Value} {o6 : Option Value} {s7 : Int32} {fs8 : List Value} {x11 : Nat} (m13 i13 : Nat) (g13 : Nat → Int32) {fs17 : List Value} (h9 : f l1 = .inr (12, fs8)) (h10 : l1 < n) (h12 : fs8[14]? = some (.ref x11)) (h14 : f x11 = .inl (0, m13, .inl g13)) (h15 : x11 < n ∨ x11 = mi_SC) (h16 : mi_ix l2 m13 i13) (h18 : f l1 = .inr (12, fs17)) (h19 : l1 < n) (h20 : mi_W d 177 0 (mi_en 6 [.ref l1, .int (g13 i13)]) [] (n, sl, f) (mi_Kc d 177 110 [some (.ref l1), some (.int l2), some (.int s7), o4, o5, o6] [] Q)) : mi_W (d + 1) 177 102 [some (.ref l1), some (.int l2), o3, o4, o5, o6] [.int s7] (n, sl, f) Q := by
  refine w_istore_n (ls' := [some (.ref l1), some (.int l2), some (.int s7), o4, o5, o6]) cd_177_102 (Nat.le_of_ble_eq_true rfl) rfl ?_
  refine w_aload_n cd_177_103 rfl ?_
  refine w_aload_n cd_177_104 rfl ?_
  refine w_getfield cd_177_105 (show mt_f 12 83 = some (12, 14) by decide +kernel) h9 h10 h12 ?_
  refine w_iload_n cd_177_108 rfl ?_
  refine w_iaload cd_177_109 h14 h15 h16 ?_
  exact w_invokevirtual cd_177_110 (show mt_m 12 477 = some (177, 0) by decide +kernel) (rest := []) rfl (as := [.ref l1, .int (g13 i13)]) rfl h18 (Or.inl h19) ⟨Nat.le_of_ble_eq_true rfl, Nat.le_of_ble_eq_true rfl, Nat.le_of_ble_eq_true rfl⟩ h20
theorem b_177_113 {d : Nat} {Q : (Option Value ⊕ Nat) → mi_H → Prop} (n sl : Nat) (f : Nat → mi_C) {l1 : Nat} {l2 : Int32} {l3 : Int32} {o4 : Option Value} {o5 : Option Value} {o6 : Option Value} {s7 : Int32} (h8 : ¬ l3 = (0 : Int32) → mi_W d 177 122 [some (.ref l1), some (.int l2), some (.int l3), some (.int s7), o5, o6] [] (n, sl, f) Q) (h9 : ¬ (¬ l3 = (0 : Int32)) → mi_W d 177 118 [some (.ref l1), some (.int l2), some (.int l3), some (.int s7), o5, o6] [] (n, sl, f) Q) : mi_W d 177 113 [some (.ref l1), some (.int l2), some (.int l3), o4, o5, o6] [.int s7] (n, sl, f) Q := by
  refine w_istore_n (ls' := [some (.ref l1), some (.int l2), some (.int l3), some (.int s7), o5, o6]) cd_177_113 (Nat.le_of_ble_eq_true rfl) rfl ?_
  refine w_iload_n cd_177_114 rfl ?_
  exact w_ifne cd_177_115 (by decide) h8 h9
theorem b_177_118 {d : Nat} {Q : (Option Value ⊕ Nat) → mi_H → Prop} (n sl : Nat) (f : Nat → mi_C) {l1 : Nat} {l2 : Int32} {l3 : Int32} {l4 : Int32} {o5 : Option Value} {o6 : Option Value} (h7 : l4 = (0 : Int32) → mi_W d 177 126 [some (.ref l1), some (.int l2), some (.int l3), some (.int l4), o5, o6] [] (n, sl, f) Q) (h8 : ¬ (l4 = (0 : Int32)) → mi_W d 177 122 [some (.ref l1), some (.int l2), some (.int l3), some (.int l4), o5, o6] [] (n, sl, f) Q) : mi_W d 177 118 [some (.ref l1), some (.int l2), some (.int l3), some (.int l4), o5, o6] [] (n, sl, f) Q := by
  refine w_iload_n cd_177_118 rfl ?_
  exact w_ifeq cd_177_119 (by decide) h7 h8
theorem b_177_122 {d : Nat} {Q : (Option Value ⊕ Nat) → mi_H → Prop} (n sl : Nat) (f : Nat → mi_C) {l1 : Nat} {l2 : Int32} {l3 : Int32} {l4 : Int32} {o5 : Option Value} {o6 : Option Value} (h7 : mi_W d 177 127 [some (.ref l1), some (.int l2), some (.int l3), some (.int l4), o5, o6] [.int 1] (n, sl, f) Q) : mi_W d 177 122 [some (.ref l1), some (.int l2), some (.int l3), some (.int l4), o5, o6] [] (n, sl, f) Q := by
  refine w_iconst (v := 1) cd_177_122 (by decide) ?_
  exact w_goto cd_177_123 (by decide) h7
theorem b_177_126 {d : Nat} {Q : (Option Value ⊕ Nat) → mi_H → Prop} (n sl : Nat) (f : Nat → mi_C) {l1 : Nat} {l2 : Int32} {l3 : Int32} {l4 : Int32} {o5 : Option Value} {o6 : Option Value} (h7 : mi_W d 177 127 [some (.ref l1), some (.int l2), some (.int l3), some (.int l4), o5, o6] [.int 0] (n, sl, f) Q) : mi_W d 177 126 [some (.ref l1), some (.int l2), some (.int l3), some (.int l4), o5, o6] [] (n, sl, f) Q := by
  refine w_iconst (v := 0) cd_177_126 (by decide) ?_
  exact h7
theorem b_177_127 {d : Nat} {Q : (Option Value ⊕ Nat) → mi_H → Prop} (n sl : Nat) (f : Nat → mi_C) {l1 : Nat} {l2 : Int32} {l3 : Int32} {l4 : Int32} {o5 : Option Value} {o6 : Option Value} {s7 : Int32} (h8 : s7 = 0 ∨ s7 = 1) (h9 : Q (.inl (some (.int s7))) (n, sl, f)) : mi_W d 177 127 [some (.ref l1), some (.int l2), some (.int l3), some (.int l4), o5, o6] [.int s7] (n, sl, f) Q := by
  exact w_ireturn_z cd_177_127 (by decide +kernel) h8 h9
theorem b_177_128 {d : Nat} {Q : (Option Value ⊕ Nat) → mi_H → Prop} (n sl : Nat) (f : Nat → mi_C) {l1 : Nat} {l2 : Int32} {o3 : Option Value} {o4 : Option Value} {o5 : Option Value} {o6 : Option Value} {fs7 : List Value} {x10 : Nat} (m12 i12 : Nat) (g12 : Nat → Int32) {fs16 : List Value} (h8 : f l1 = .inr (12, fs7)) (h9 : l1 < n) (h11 : fs7[13]? = some (.ref x10)) (h13 : f x10 = .inl (0, m12, .inl g12)) (h14 : x10 < n ∨ x10 = mi_SC) (h15 : mi_ix l2 m12 i12) (h17 : f l1 = .inr (12, fs16)) (h18 : l1 < n) (h19 : mi_W d 177 0 (mi_en 6 [.ref l1, .int (g12 i12)]) [] (n, sl, f) (mi_Kc d 177 135 [some (.ref l1), some (.int l2), o3, o4, o5, o6] [] Q)) : mi_W (d + 1) 177 128 [some (.ref l1), some (.int l2), o3, o4, o5, o6] [] (n, sl, f) Q := by
  refine w_aload_n cd_177_128 rfl ?_
  refine w_aload_n cd_177_129 rfl ?_
  refine w_getfield cd_177_130 (show mt_f 12 80 = some (12, 13) by decide +kernel) h8 h9 h11 ?_
  refine w_iload_n cd_177_133 rfl ?_
  refine w_iaload cd_177_134 h13 h14 h15 ?_
  exact w_invokevirtual cd_177_135 (show mt_m 12 477 = some (177, 0) by decide +kernel) (rest := []) rfl (as := [.ref l1, .int (g12 i12)]) rfl h17 (Or.inl h18) ⟨Nat.le_of_ble_eq_true rfl, Nat.le_of_ble_eq_true rfl, Nat.le_of_ble_eq_true rfl⟩ h19
theorem b_177_138 {d : Nat} {Q : (Option Value ⊕ Nat) → mi_H → Prop} (n sl : Nat) (f : Nat → mi_C) {l1 : Nat} {l2 : Int32} {o3 : Option Value} {o4 : Option Value} {o5 : Option Value} {o6 : Option Value} {s7 : Int32} (h8 : ¬ s7 = (0 : Int32) → mi_W d 177 145 [some (.ref l1), some (.int l2), o3, o4, o5, o6] [] (n, sl, f) Q) (h9 : ¬ (¬ s7 = (0 : Int32)) → mi_W d 177 141 [some (.ref l1), some (.int l2), o3, o4, o5, o6] [] (n, sl, f) Q) : mi_W d 177 138 [some (.ref l1), some (.int l2), o3, o4, o5, o6] [.int s7] (n, sl, f) Q := by
  exact w_ifne cd_177_138 (by decide) h8 h9
theorem b_177_141 {d : Nat} {Q : (Option Value ⊕ Nat) → mi_H → Prop} (n sl : Nat) (f : Nat → mi_C) {l1 : Nat} {l2 : Int32} {o3 : Option Value} {o4 : Option Value} {o5 : Option Value} {o6 : Option Value} (h7 : mi_W d 177 146 [some (.ref l1), some (.int l2), o3, o4, o5, o6] [.int 1] (n, sl, f) Q) : mi_W d 177 141 [some (.ref l1), some (.int l2), o3, o4, o5, o6] [] (n, sl, f) Q := by
  refine w_iconst (v := 1) cd_177_141 (by decide) ?_
  exact w_goto cd_177_142 (by decide) h7
theorem b_177_145 {d : Nat} {Q : (Option Value ⊕ Nat) → mi_H → Prop} (n sl : Nat) (f : Nat → mi_C) {l1 : Nat} {l2 : Int32} {o3 : Option Value} {o4 : Option Value} {o5 : Option Value} {o6 : Option Value} (h7 : mi_W d 177 146 [some (.ref l1), some (.int l2), o3, o4, o5, o6] [.int 0] (n, sl, f) Q) : mi_W d 177 145 [some (.ref l1), some (.int l2), o3, o4, o5, o6] [] (n, sl, f) Q := by
  refine w_iconst (v := 0) cd_177_145 (by decide) ?_
  exact h7
theorem b_177_146 {d : Nat} {Q : (Option Value ⊕ Nat) → mi_H → Prop} (n sl : Nat) (f : Nat → mi_C) {l1 : Nat} {l2 : Int32} {o3 : Option Value} {o4 : Option Value} {o5 : Option Value} {o6 : Option Value} {s7 : Int32} (h8 : s7 = 0 ∨ s7 = 1) (h9 : Q (.inl (some (.int s7))) (n, sl, f)) : mi_W d 177 146 [some (.ref l1), some (.int l2), o3, o4, o5, o6] [.int s7] (n, sl, f) Q := by
  exact w_ireturn_z cd_177_146 (by decide +kernel) h8 h9
theorem b_177_147 {d : Nat} {Q : (Option Value ⊕ Nat) → mi_H → Prop} (n sl : Nat) (f : Nat → mi_C) {l1 : Nat} {l2 : Int32} {o3 : Option Value} {o4 : Option Value} {o5 : Option Value} {o6 : Option Value} {fs7 : List Value} {x10 : Nat} {fs12 : List Value} {x15 : Nat} {fs17 : List Value} {x20 : Nat} (m22 i22 : Nat) (g22 : Nat → Int32) (m26 i26 : Nat) (g26 : Nat → Int32) (h8 : f l1 = .inr (12, fs7)) (h9 : l1 < n) (h11 : fs7[43]? = some (.ref x10)) (h13 : f x10 = .inr (13, fs12)) (h14 : x10 < n) (h16 : fs12[5]? = some (.ref x15)) (h18 : f l1 = .inr (12, fs17)) (h19 : l1 < n) (h21 : fs17[13]? = some (.ref x20)) (h23 : f x20 = .inl (0, m22, .inl g22)) (h24 : x20 < n ∨ x20 = mi_SC) (h25 : mi_ix l2 m22 i22) (h27 : f x15 = .inl (2, m26, .inl g26)) (h28 : x15 < n) (h29 : mi_ix (g22 i22) m26 i26) (h30 : (g26 i26) = 0 ∨ (g26 i26) = 1) (h31 : Q (.inl (some (.int (g26 i26)))) (n, sl, f)) : mi_W d 177 147 [some (.ref l1), some (.int l2), o3, o4, o5, o6] [] (n, sl, f) Q := by
  refine w_aload_n cd_177_147 rfl ?_
  refine w_getfield cd_177_148 (show mt_f 12 445 = some (12, 43) by decide +kernel) h8 h9 h11 ?_
  refine w_getfield cd_177_151 (show mt_f 12 459 = some (13, 5) by decide +kernel) h13 h14 h16 ?_
  refine w_aload_n cd_177_154 rfl ?_
  refine w_getfield cd_177_155 (show mt_f 12 80 = some (12, 13) by decide +kernel) h18 h19 h21 ?_
  refine w_iload_n cd_177_158 rfl ?_
  refine w_iaload cd_177_159 h23 h24 h25 ?_
  refine w_baload2 cd_177_160 h27 h28 h29 ?_
  exact w_ireturn_z cd_177_161 (by decide +kernel) h30 h31
theorem b_177_162 {d : Nat} {Q : (Option Value ⊕ Nat) → mi_H → Prop} (n sl : Nat) (f : Nat → mi_C) {l1 : Nat} {l2 : Int32} {o3 : Option Value} {o4 : Option Value} {o5 : Option Value} {o6 : Option Value} {fs7 : List Value} {x10 : Nat} (m12 i12 : Nat) (g12 : Nat → Int32) {fs16 : List Value} (h8 : f l1 = .inr (12, fs7)) (h9 : l1 < n) (h11 : fs7[13]? = some (.ref x10)) (h13 : f x10 = .inl (0, m12, .inl g12)) (h14 : x10 < n ∨ x10 = mi_SC) (h15 : mi_ix l2 m12 i12) (h17 : f l1 = .inr (12, fs16)) (h18 : l1 < n) (h19 : mi_W d 175 0 (mi_en 2 [.ref l1, .int (g12 i12)]) [] (n, sl, f) (mi_Kc d 177 169 [some (.ref l1), some (.int l2), o3, o4, o5, o6] [] Q)) : mi_W (d + 1) 177 162 [some (.ref l1), some (.int l2), o3, o4, o5, o6] [] (n, sl, f) Q := by
  refine w_aload_n cd_177_162 rfl ?_
  refine w_aload_n cd_177_163 rfl ?_
  refine w_getfield cd_177_164 (show mt_f 12 80 = some (12, 13) by decide +kernel) h8 h9 h11 ?_
  refine w_iload_n cd_177_167 rfl ?_
  refine w_iaload cd_177_168 h13 h14 h15 ?_
  exact w_invokevirtual cd_177_169 (show mt_m 12 451 = some (175, 0) by decide +kernel) (rest := []) rfl (as := [.ref l1, .int (g12 i12)]) rfl h17 (Or.inl h18) ⟨Nat.le_of_ble_eq_true rfl, Nat.le_of_ble_eq_true rfl, Nat.le_of_ble_eq_true rfl⟩ h19
theorem b_177_172 {d : Nat} {Q : (Option Value ⊕ Nat) → mi_H → Prop} (n sl : Nat) (f : Nat → mi_C) {l1 : Nat} {l2 : Int32} {o3 : Option Value} {o4 : Option Value} {o5 : Option Value} {o6 : Option Value} {s7 : Int64} {fs8 : List Value} {x11 : Nat} (m13 i13 : Nat) (g13 : Nat → Int32) {fs17 : List Value} (h9 : f l1 = .inr (12, fs8)) (h10 : l1 < n) (h12 : fs8[14]? = some (.ref x11)) (h14 : f x11 = .inl (0, m13, .inl g13)) (h15 : x11 < n ∨ x11 = mi_SC) (h16 : mi_ix l2 m13 i13) (h18 : f l1 = .inr (12, fs17)) (h19 : l1 < n) (h20 : mi_W d 175 0 (mi_en 2 [.ref l1, .int (g13 i13)]) [] (n, sl, f) (mi_Kc d 177 180 [some (.ref l1), some (.int l2), some (.long s7), none, o5, o6] [] Q)) : mi_W (d + 1) 177 172 [some (.ref l1), some (.int l2), o3, o4, o5, o6] [.long s7] (n, sl, f) Q := by
  refine w_lstore_n (ls' := [some (.ref l1), some (.int l2), some (.long s7), none, o5, o6]) cd_177_172 (Nat.le_of_ble_eq_true rfl) rfl ?_
  refine w_aload_n cd_177_173 rfl ?_
  refine w_aload_n cd_177_174 rfl ?_
  refine w_getfield cd_177_175 (show mt_f 12 83 = some (12, 14) by decide +kernel) h9 h10 h12 ?_
  refine w_iload_n cd_177_178 rfl ?_
  refine w_iaload cd_177_179 h14 h15 h16 ?_
  exact w_invokevirtual cd_177_180 (show mt_m 12 451 = some (175, 0) by decide +kernel) (rest := []) rfl (as := [.ref l1, .int (g13 i13)]) rfl h18 (Or.inl h19) ⟨Nat.le_of_ble_eq_true rfl, Nat.le_of_ble_eq_true rfl, Nat.le_of_ble_eq_true rfl⟩ h20
theorem b_177_183 {d : Nat} {Q : (Option Value ⊕ Nat) → mi_H → Prop} (n sl : Nat) (f : Nat → mi_C) {l1 : Nat} {l2 : Int32} {l3 : Int64} {o4 : Option Value} {o5 : Option Value} {s6 : Int64} {fs7 : List Value} {x10 : Nat} (m12 i12 : Nat) (g12 : Nat → Int32) (h8 : f l1 = .inr (12, fs7)) (h9 : l1 < n) (h11 : fs7[12]? = some (.ref x10)) (h13 : f x10 = .inl (0, m12, .inl g12)) (h14 : x10 < n ∨ x10 = mi_SC) (h15 : mi_ix l2 m12 i12) (h16 : ¬ (g12 i12) = 28 → mi_W d 177 211 [some (.ref l1), some (.int l2), some (.long l3), none, some (.long s6), none] [] (n, sl, f) Q) (h17 : ¬ (¬ (g12 i12) = 28) → mi_W d 177 196 [some (.ref l1), some (.int l2), some (.long l3), none, some (.long s6), none] [] (n, sl, f) Q) : mi_W d 177 183 [some (.ref l1), some (.int l2), some (.long l3), none, o4, o5] [.long s6] (n, sl, f) Q := by
  refine w_lstore (ls' := [some (.ref l1), some (.int l2), some (.long l3), none, some (.long s6), none]) cd_177_183 (Nat.le_of_ble_eq_true rfl) rfl ?_
  refine w_aload_n cd_177_185 rfl ?_
  refine w_getfield cd_177_186 (show mt_f 12 77 = some (12, 12) by decide +kernel) h8 h9 h11 ?_
  refine w_iload_n cd_177_189 rfl ?_
  refine w_iaload cd_177_190 h13 h14 h15 ?_
  refine w_bipush (v := 28) cd_177_191 (by decide) ?_
  exact w_if_icmpne cd_177_193 (by decide) h16 h17
theorem b_177_196 {d : Nat} {Q : (Option Value ⊕ Nat) → mi_H → Prop} (n sl : Nat) (f : Nat → mi_C) {l1 : Nat} {l2 : Int32} {l3 : Int64} {l4 : Int64} (h5 : (lg_cmp l3 l4) < (0 : Int32) → mi_W d 177 207 [some (.ref l1), some (.int l2), some (.long l3), none, some (.long l4), none] [] (n, sl, f) Q) (h6 : ¬ ((lg_cmp l3 l4) < (0 : Int32)) → mi_W d 177 203 [some (.ref l1), some (.int l2), some (.long l3), none, some (.long l4), none] [] (n, sl, f) Q) : mi_W d 177 196 [some (.ref l1), some (.int l2), some (.long l3), none, some (.long l4), none] [] (n, sl, f) Q := by
  refine w_lload_n cd_177_196 rfl ?_
  refine w_lload cd_177_197 rfl ?_
  refine w_lcmp cd_177_199 ?_
  exact w_iflt cd_177_200 (by decide) h5 h6
theorem b_177_203 {d : Nat} {Q : (Option Value ⊕ Nat) → mi_H → Prop} (n sl : Nat) (f : Nat → mi_C) {l1 : Nat} {l2 : Int32} {l3 : Int64} {l4 : Int64} (h5 : mi_W d 177 301 [some (.ref l1), some (.int l2), some (.long l3), none, some (.long l4), none] [.int 1] (n, sl, f) Q) : mi_W d 177 203 [some (.ref l1), some (.int l2), some (.long l3), none, some (.long l4), none] [] (n, sl, f) Q := by
  refine w_iconst (v := 1) cd_177_203 (by decide) ?_
  exact w_goto cd_177_204 (by decide) h5
theorem b_177_207 {d : Nat} {Q : (Option Value ⊕ Nat) → mi_H → Prop} (n sl : Nat) (f : Nat → mi_C) {l1 : Nat} {l2 : Int32} {l3 : Int64} {l4 : Int64} (h5 : mi_W d 177 301 [some (.ref l1), some (.int l2), some (.long l3), none, some (.long l4), none] [.int 0] (n, sl, f) Q) : mi_W d 177 207 [some (.ref l1), some (.int l2), some (.long l3), none, some (.long l4), none] [] (n, sl, f) Q := by
  refine w_iconst (v := 0) cd_177_207 (by decide) ?_
  exact w_goto cd_177_208 (by decide) h5
theorem b_177_211 {d : Nat} {Q : (Option Value ⊕ Nat) → mi_H → Prop} (n sl : Nat) (f : Nat → mi_C) {l1 : Nat} {l2 : Int32} {l3 : Int64} {l4 : Int64} {fs5 : List Value} {x8 : Nat} (m10 i10 : Nat) (g10 : Nat → Int32) (h6 : f l1 = .inr (12, fs5)) (h7 : l1 < n) (h9 : fs5[12]? = some (.ref x8)) (h11 : f x8 = .inl (0, m10, .inl g10)) (h12 : x8 < n ∨ x8 = mi_SC) (h13 : mi_ix l2 m10 i10) (h14 : ¬ (g10 i10) = 29 → mi_W d 177 237 [some (.ref l1), some (.int l2), some (.long l3), none, some (.long l4), none] [] (n, sl, f) Q) (h15 : ¬ (¬ (g10 i10) = 29) → mi_W d 177 222 [some (.ref l1), some (.int l2), some (.long l3), none, some (.long l4), none] [] (n, sl, f) Q) : mi_W d 177 211 [some (.ref l1), some (.int l2), some (.long l3), none, some (.long l4), none] [] (n, sl, f) Q := by
  refine w_aload_n cd_177_211 rfl ?_
  refine w_getfield cd_177_212 (show mt_f 12 77 = some (12, 12) by decide +kernel) h6 h7 h9 ?_
  refine w_iload_n cd_177_215 rfl ?_
  refine w_iaload cd_177_216 h11 h12 h13 ?_
  refine w_bipush (v := 29) cd_177_217 (by decide) ?_
  exact w_if_icmpne cd_177_219 (by decide) h14 h15
theorem b_177_222 {d : Nat} {Q : (Option Value ⊕ Nat) → mi_H → Prop} (n sl : Nat) (f : Nat → mi_C) {l1 : Nat} {l2 : Int32} {l3 : Int64} {l4 : Int64} (h5 : (lg_cmp l3 l4) ≤ (0 : Int32) → mi_W d 177 233 [some (.ref l1), some (.int l2), some (.long l3), none, some (.long l4), none] [] (n, sl, f) Q) (h6 : ¬ ((lg_cmp l3 l4) ≤ (0 : Int32)) → mi_W d 177 229 [some (.ref l1), some (.int l2), some (.long l3), none, some (.long l4), none] [] (n, sl, f) Q) : mi_W d 177 222 [some (.ref l1), some (.int l2), some (.long l3), none, some (.long l4), none] [] (n, sl, f) Q := by
  refine w_lload_n cd_177_222 rfl ?_
  refine w_lload cd_177_223 rfl ?_
  refine w_lcmp cd_177_225 ?_
  exact w_ifle cd_177_226 (by decide) h5 h6
theorem b_177_229 {d : Nat} {Q : (Option Value ⊕ Nat) → mi_H → Prop} (n sl : Nat) (f : Nat → mi_C) {l1 : Nat} {l2 : Int32} {l3 : Int64} {l4 : Int64} (h5 : mi_W d 177 301 [some (.ref l1), some (.int l2), some (.long l3), none, some (.long l4), none] [.int 1] (n, sl, f) Q) : mi_W d 177 229 [some (.ref l1), some (.int l2), some (.long l3), none, some (.long l4), none] [] (n, sl, f) Q := by
  refine w_iconst (v := 1) cd_177_229 (by decide) ?_
  exact w_goto cd_177_230 (by decide) h5
theorem b_177_233 {d : Nat} {Q : (Option Value ⊕ Nat) → mi_H → Prop} (n sl : Nat) (f : Nat → mi_C) {l1 : Nat} {l2 : Int32} {l3 : Int64} {l4 : Int64} (h5 : mi_W d 177 301 [some (.ref l1), some (.int l2), some (.long l3), none, some (.long l4), none] [.int 0] (n, sl, f) Q) : mi_W d 177 233 [some (.ref l1), some (.int l2), some (.long l3), none, some (.long l4), none] [] (n, sl, f) Q := by
  refine w_iconst (v := 0) cd_177_233 (by decide) ?_
  exact w_goto cd_177_234 (by decide) h5
theorem b_177_237 {d : Nat} {Q : (Option Value ⊕ Nat) → mi_H → Prop} (n sl : Nat) (f : Nat → mi_C) {l1 : Nat} {l2 : Int32} {l3 : Int64} {l4 : Int64} {fs5 : List Value} {x8 : Nat} (m10 i10 : Nat) (g10 : Nat → Int32) (h6 : f l1 = .inr (12, fs5)) (h7 : l1 < n) (h9 : fs5[12]? = some (.ref x8)) (h11 : f x8 = .inl (0, m10, .inl g10)) (h12 : x8 < n ∨ x8 = mi_SC) (h13 : mi_ix l2 m10 i10) (h14 : ¬ (g10 i10) = 30 → mi_W d 177 263 [some (.ref l1), some (.int l2), some (.long l3), none, some (.long l4), none] [] (n, sl, f) Q) (h15 : ¬ (¬ (g10 i10) = 30) → mi_W d 177 248 [some (.ref l1), some (.int l2), some (.long l3), none, some (.long l4), none] [] (n, sl, f) Q) : mi_W d 177 237 [some (.ref l1), some (.int l2), some (.long l3), none, some (.long l4), none] [] (n, sl, f) Q := by
  refine w_aload_n cd_177_237 rfl ?_
  refine w_getfield cd_177_238 (show mt_f 12 77 = some (12, 12) by decide +kernel) h6 h7 h9 ?_
  refine w_iload_n cd_177_241 rfl ?_
  refine w_iaload cd_177_242 h11 h12 h13 ?_
  refine w_bipush (v := 30) cd_177_243 (by decide) ?_
  exact w_if_icmpne cd_177_245 (by decide) h14 h15
theorem b_177_248 {d : Nat} {Q : (Option Value ⊕ Nat) → mi_H → Prop} (n sl : Nat) (f : Nat → mi_C) {l1 : Nat} {l2 : Int32} {l3 : Int64} {l4 : Int64} (h5 : (0 : Int32) < (lg_cmp l3 l4) → mi_W d 177 259 [some (.ref l1), some (.int l2), some (.long l3), none, some (.long l4), none] [] (n, sl, f) Q) (h6 : ¬ ((0 : Int32) < (lg_cmp l3 l4)) → mi_W d 177 255 [some (.ref l1), some (.int l2), some (.long l3), none, some (.long l4), none] [] (n, sl, f) Q) : mi_W d 177 248 [some (.ref l1), some (.int l2), some (.long l3), none, some (.long l4), none] [] (n, sl, f) Q := by
  refine w_lload_n cd_177_248 rfl ?_
  refine w_lload cd_177_249 rfl ?_
  refine w_lcmp cd_177_251 ?_
  exact w_ifgt cd_177_252 (by decide) h5 h6
theorem b_177_255 {d : Nat} {Q : (Option Value ⊕ Nat) → mi_H → Prop} (n sl : Nat) (f : Nat → mi_C) {l1 : Nat} {l2 : Int32} {l3 : Int64} {l4 : Int64} (h5 : mi_W d 177 301 [some (.ref l1), some (.int l2), some (.long l3), none, some (.long l4), none] [.int 1] (n, sl, f) Q) : mi_W d 177 255 [some (.ref l1), some (.int l2), some (.long l3), none, some (.long l4), none] [] (n, sl, f) Q := by
  refine w_iconst (v := 1) cd_177_255 (by decide) ?_
  exact w_goto cd_177_256 (by decide) h5
theorem b_177_259 {d : Nat} {Q : (Option Value ⊕ Nat) → mi_H → Prop} (n sl : Nat) (f : Nat → mi_C) {l1 : Nat} {l2 : Int32} {l3 : Int64} {l4 : Int64} (h5 : mi_W d 177 301 [some (.ref l1), some (.int l2), some (.long l3), none, some (.long l4), none] [.int 0] (n, sl, f) Q) : mi_W d 177 259 [some (.ref l1), some (.int l2), some (.long l3), none, some (.long l4), none] [] (n, sl, f) Q := by
  refine w_iconst (v := 0) cd_177_259 (by decide) ?_
  exact w_goto cd_177_260 (by decide) h5
theorem b_177_263 {d : Nat} {Q : (Option Value ⊕ Nat) → mi_H → Prop} (n sl : Nat) (f : Nat → mi_C) {l1 : Nat} {l2 : Int32} {l3 : Int64} {l4 : Int64} {fs5 : List Value} {x8 : Nat} (m10 i10 : Nat) (g10 : Nat → Int32) (h6 : f l1 = .inr (12, fs5)) (h7 : l1 < n) (h9 : fs5[12]? = some (.ref x8)) (h11 : f x8 = .inl (0, m10, .inl g10)) (h12 : x8 < n ∨ x8 = mi_SC) (h13 : mi_ix l2 m10 i10) (h14 : ¬ (g10 i10) = 31 → mi_W d 177 289 [some (.ref l1), some (.int l2), some (.long l3), none, some (.long l4), none] [] (n, sl, f) Q) (h15 : ¬ (¬ (g10 i10) = 31) → mi_W d 177 274 [some (.ref l1), some (.int l2), some (.long l3), none, some (.long l4), none] [] (n, sl, f) Q) : mi_W d 177 263 [some (.ref l1), some (.int l2), some (.long l3), none, some (.long l4), none] [] (n, sl, f) Q := by
  refine w_aload_n cd_177_263 rfl ?_
  refine w_getfield cd_177_264 (show mt_f 12 77 = some (12, 12) by decide +kernel) h6 h7 h9 ?_
  refine w_iload_n cd_177_267 rfl ?_
  refine w_iaload cd_177_268 h11 h12 h13 ?_
  refine w_bipush (v := 31) cd_177_269 (by decide) ?_
  exact w_if_icmpne cd_177_271 (by decide) h14 h15
theorem b_177_274 {d : Nat} {Q : (Option Value ⊕ Nat) → mi_H → Prop} (n sl : Nat) (f : Nat → mi_C) {l1 : Nat} {l2 : Int32} {l3 : Int64} {l4 : Int64} (h5 : (0 : Int32) ≤ (lg_cmp l3 l4) → mi_W d 177 285 [some (.ref l1), some (.int l2), some (.long l3), none, some (.long l4), none] [] (n, sl, f) Q) (h6 : ¬ ((0 : Int32) ≤ (lg_cmp l3 l4)) → mi_W d 177 281 [some (.ref l1), some (.int l2), some (.long l3), none, some (.long l4), none] [] (n, sl, f) Q) : mi_W d 177 274 [some (.ref l1), some (.int l2), some (.long l3), none, some (.long l4), none] [] (n, sl, f) Q := by
  refine w_lload_n cd_177_274 rfl ?_
  refine w_lload cd_177_275 rfl ?_
  refine w_lcmp cd_177_277 ?_
  exact w_ifge cd_177_278 (by decide) h5 h6
theorem b_177_281 {d : Nat} {Q : (Option Value ⊕ Nat) → mi_H → Prop} (n sl : Nat) (f : Nat → mi_C) {l1 : Nat} {l2 : Int32} {l3 : Int64} {l4 : Int64} (h5 : mi_W d 177 301 [some (.ref l1), some (.int l2), some (.long l3), none, some (.long l4), none] [.int 1] (n, sl, f) Q) : mi_W d 177 281 [some (.ref l1), some (.int l2), some (.long l3), none, some (.long l4), none] [] (n, sl, f) Q := by
  refine w_iconst (v := 1) cd_177_281 (by decide) ?_
  exact w_goto cd_177_282 (by decide) h5
theorem b_177_285 {d : Nat} {Q : (Option Value ⊕ Nat) → mi_H → Prop} (n sl : Nat) (f : Nat → mi_C) {l1 : Nat} {l2 : Int32} {l3 : Int64} {l4 : Int64} (h5 : mi_W d 177 301 [some (.ref l1), some (.int l2), some (.long l3), none, some (.long l4), none] [.int 0] (n, sl, f) Q) : mi_W d 177 285 [some (.ref l1), some (.int l2), some (.long l3), none, some (.long l4), none] [] (n, sl, f) Q := by
  refine w_iconst (v := 0) cd_177_285 (by decide) ?_
  exact w_goto cd_177_286 (by decide) h5
theorem b_177_289 {d : Nat} {Q : (Option Value ⊕ Nat) → mi_H → Prop} (n sl : Nat) (f : Nat → mi_C) {l1 : Nat} {l2 : Int32} {l3 : Int64} {l4 : Int64} (h5 : ¬ (lg_cmp l3 l4) = (0 : Int32) → mi_W d 177 300 [some (.ref l1), some (.int l2), some (.long l3), none, some (.long l4), none] [] (n, sl, f) Q) (h6 : ¬ (¬ (lg_cmp l3 l4) = (0 : Int32)) → mi_W d 177 296 [some (.ref l1), some (.int l2), some (.long l3), none, some (.long l4), none] [] (n, sl, f) Q) : mi_W d 177 289 [some (.ref l1), some (.int l2), some (.long l3), none, some (.long l4), none] [] (n, sl, f) Q := by
  refine w_lload_n cd_177_289 rfl ?_
  refine w_lload cd_177_290 rfl ?_
  refine w_lcmp cd_177_292 ?_
  exact w_ifne cd_177_293 (by decide) h5 h6
theorem b_177_296 {d : Nat} {Q : (Option Value ⊕ Nat) → mi_H → Prop} (n sl : Nat) (f : Nat → mi_C) {l1 : Nat} {l2 : Int32} {l3 : Int64} {l4 : Int64} (h5 : mi_W d 177 301 [some (.ref l1), some (.int l2), some (.long l3), none, some (.long l4), none] [.int 1] (n, sl, f) Q) : mi_W d 177 296 [some (.ref l1), some (.int l2), some (.long l3), none, some (.long l4), none] [] (n, sl, f) Q := by
  refine w_iconst (v := 1) cd_177_296 (by decide) ?_
  exact w_goto cd_177_297 (by decide) h5
theorem b_177_300 {d : Nat} {Q : (Option Value ⊕ Nat) → mi_H → Prop} (n sl : Nat) (f : Nat → mi_C) {l1 : Nat} {l2 : Int32} {l3 : Int64} {l4 : Int64} (h5 : mi_W d 177 301 [some (.ref l1), some (.int l2), some (.long l3), none, some (.long l4), none] [.int 0] (n, sl, f) Q) : mi_W d 177 300 [some (.ref l1), some (.int l2), some (.long l3), none, some (.long l4), none] [] (n, sl, f) Q := by
  refine w_iconst (v := 0) cd_177_300 (by decide) ?_
  exact h5
theorem b_177_301 {d : Nat} {Q : (Option Value ⊕ Nat) → mi_H → Prop} (n sl : Nat) (f : Nat → mi_C) {l1 : Nat} {l2 : Int32} {l3 : Int64} {l4 : Int64} {s5 : Int32} (h6 : s5 = 0 ∨ s5 = 1) (h7 : Q (.inl (some (.int s5))) (n, sl, f)) : mi_W d 177 301 [some (.ref l1), some (.int l2), some (.long l3), none, some (.long l4), none] [.int s5] (n, sl, f) Q := by
  exact w_ireturn_z cd_177_301 (by decide +kernel) h6 h7
/-! MarloweHostModel.two(IJJ)J -/
set_option maxRecDepth 100000 in
theorem mq_178 : mt_q 178 = my_178 := rfl
set_option maxRecDepth 100000 in
theorem ci_178 : mt_inc 0 my_178.cd = true := by decide +kernel
theorem cd_178_0 : mt_cd 178 0 = some (.aload_n 0) := mt_cd_of (q := (0, .aload_n 0, 1)) mq_178 ci_178 (List.mem_of_getElem? (i := 0) rfl)
theorem cd_178_1 : mt_cd 178 1 = some (.getfield 441) := mt_cd_of (q := (1, .getfield 441, 3)) mq_178 ci_178 (List.mem_of_getElem? (i := 1) rfl)
theorem cd_178_4 : mt_cd 178 4 = some (.ifCond .eq 5) := mt_cd_of (q := (4, .ifCond .eq 5, 3)) mq_178 ci_178 (List.mem_of_getElem? (i := 2) rfl)
theorem cd_178_7 : mt_cd 178 7 = some (.lconst 0) := mt_cd_of (q := (7, .lconst 0, 1)) mq_178 ci_178 (List.mem_of_getElem? (i := 3) rfl)
theorem cd_178_8 : mt_cd 178 8 = some (.lreturn) := mt_cd_of (q := (8, .lreturn, 1)) mq_178 ci_178 (List.mem_of_getElem? (i := 4) rfl)
theorem cd_178_9 : mt_cd 178 9 = some (.iload_n 1) := mt_cd_of (q := (9, .iload_n 1, 1)) mq_178 ci_178 (List.mem_of_getElem? (i := 5) rfl)
theorem cd_178_10 : mt_cd 178 10 = some (.bipush 13) := mt_cd_of (q := (10, .bipush 13, 2)) mq_178 ci_178 (List.mem_of_getElem? (i := 6) rfl)
theorem cd_178_12 : mt_cd 178 12 = some (.if_icmp .eq 9) := mt_cd_of (q := (12, .if_icmp .eq 9, 3)) mq_178 ci_178 (List.mem_of_getElem? (i := 7) rfl)
theorem cd_178_15 : mt_cd 178 15 = some (.iload_n 1) := mt_cd_of (q := (15, .iload_n 1, 1)) mq_178 ci_178 (List.mem_of_getElem? (i := 8) rfl)
theorem cd_178_16 : mt_cd 178 16 = some (.bipush 14) := mt_cd_of (q := (16, .bipush 14, 2)) mq_178 ci_178 (List.mem_of_getElem? (i := 9) rfl)
theorem cd_178_18 : mt_cd 178 18 = some (.if_icmp .ne 89) := mt_cd_of (q := (18, .if_icmp .ne 89, 3)) mq_178 ci_178 (List.mem_of_getElem? (i := 10) rfl)
theorem cd_178_21 : mt_cd 178 21 = some (.iload_n 1) := mt_cd_of (q := (21, .iload_n 1, 1)) mq_178 ci_178 (List.mem_of_getElem? (i := 11) rfl)
theorem cd_178_22 : mt_cd 178 22 = some (.bipush 13) := mt_cd_of (q := (22, .bipush 13, 2)) mq_178 ci_178 (List.mem_of_getElem? (i := 12) rfl)
theorem cd_178_24 : mt_cd 178 24 = some (.if_icmp .ne 10) := mt_cd_of (q := (24, .if_icmp .ne 10, 3)) mq_178 ci_178 (List.mem_of_getElem? (i := 13) rfl)
theorem cd_178_27 : mt_cd 178 27 = some (.lload_n 2) := mt_cd_of (q := (27, .lload_n 2, 1)) mq_178 ci_178 (List.mem_of_getElem? (i := 14) rfl)
theorem cd_178_28 : mt_cd 178 28 = some (.lload 4) := mt_cd_of (q := (28, .lload 4, 2)) mq_178 ci_178 (List.mem_of_getElem? (i := 15) rfl)
theorem cd_178_30 : mt_cd 178 30 = some (.ladd) := mt_cd_of (q := (30, .ladd, 1)) mq_178 ci_178 (List.mem_of_getElem? (i := 16) rfl)
theorem cd_178_31 : mt_cd 178 31 = some (.goto 7) := mt_cd_of (q := (31, .goto 7, 3)) mq_178 ci_178 (List.mem_of_getElem? (i := 17) rfl)
theorem cd_178_34 : mt_cd 178 34 = some (.lload_n 2) := mt_cd_of (q := (34, .lload_n 2, 1)) mq_178 ci_178 (List.mem_of_getElem? (i := 18) rfl)
theorem cd_178_35 : mt_cd 178 35 = some (.lload 4) := mt_cd_of (q := (35, .lload 4, 2)) mq_178 ci_178 (List.mem_of_getElem? (i := 19) rfl)
theorem cd_178_37 : mt_cd 178 37 = some (.lsub) := mt_cd_of (q := (37, .lsub, 1)) mq_178 ci_178 (List.mem_of_getElem? (i := 20) rfl)
theorem cd_178_38 : mt_cd 178 38 = some (.lstore 6) := mt_cd_of (q := (38, .lstore 6, 2)) mq_178 ci_178 (List.mem_of_getElem? (i := 21) rfl)
theorem cd_178_40 : mt_cd 178 40 = some (.iload_n 1) := mt_cd_of (q := (40, .iload_n 1, 1)) mq_178 ci_178 (List.mem_of_getElem? (i := 22) rfl)
theorem cd_178_41 : mt_cd 178 41 = some (.bipush 13) := mt_cd_of (q := (41, .bipush 13, 2)) mq_178 ci_178 (List.mem_of_getElem? (i := 23) rfl)
theorem cd_178_43 : mt_cd 178 43 = some (.if_icmp .ne 26) := mt_cd_of (q := (43, .if_icmp .ne 26, 3)) mq_178 ci_178 (List.mem_of_getElem? (i := 24) rfl)
theorem cd_178_46 : mt_cd 178 46 = some (.lload_n 2) := mt_cd_of (q := (46, .lload_n 2, 1)) mq_178 ci_178 (List.mem_of_getElem? (i := 25) rfl)
theorem cd_178_47 : mt_cd 178 47 = some (.lload 6) := mt_cd_of (q := (47, .lload 6, 2)) mq_178 ci_178 (List.mem_of_getElem? (i := 26) rfl)
theorem cd_178_49 : mt_cd 178 49 = some (.lxor) := mt_cd_of (q := (49, .lxor, 1)) mq_178 ci_178 (List.mem_of_getElem? (i := 27) rfl)
theorem cd_178_50 : mt_cd 178 50 = some (.lload 4) := mt_cd_of (q := (50, .lload 4, 2)) mq_178 ci_178 (List.mem_of_getElem? (i := 28) rfl)
theorem cd_178_52 : mt_cd 178 52 = some (.lload 6) := mt_cd_of (q := (52, .lload 6, 2)) mq_178 ci_178 (List.mem_of_getElem? (i := 29) rfl)
theorem cd_178_54 : mt_cd 178 54 = some (.lxor) := mt_cd_of (q := (54, .lxor, 1)) mq_178 ci_178 (List.mem_of_getElem? (i := 30) rfl)
theorem cd_178_55 : mt_cd 178 55 = some (.land) := mt_cd_of (q := (55, .land, 1)) mq_178 ci_178 (List.mem_of_getElem? (i := 31) rfl)
theorem cd_178_56 : mt_cd 178 56 = some (.lconst 0) := mt_cd_of (q := (56, .lconst 0, 1)) mq_178 ci_178 (List.mem_of_getElem? (i := 32) rfl)
theorem cd_178_57 : mt_cd 178 57 = some (.lcmp) := mt_cd_of (q := (57, .lcmp, 1)) mq_178 ci_178 (List.mem_of_getElem? (i := 33) rfl)
theorem cd_178_58 : mt_cd 178 58 = some (.ifCond .ge 7) := mt_cd_of (q := (58, .ifCond .ge 7, 3)) mq_178 ci_178 (List.mem_of_getElem? (i := 34) rfl)
theorem cd_178_61 : mt_cd 178 61 = some (.iconst 1) := mt_cd_of (q := (61, .iconst 1, 1)) mq_178 ci_178 (List.mem_of_getElem? (i := 35) rfl)
theorem cd_178_62 : mt_cd 178 62 = some (.goto 26) := mt_cd_of (q := (62, .goto 26, 3)) mq_178 ci_178 (List.mem_of_getElem? (i := 36) rfl)
theorem cd_178_65 : mt_cd 178 65 = some (.iconst 0) := mt_cd_of (q := (65, .iconst 0, 1)) mq_178 ci_178 (List.mem_of_getElem? (i := 37) rfl)
theorem cd_178_66 : mt_cd 178 66 = some (.goto 22) := mt_cd_of (q := (66, .goto 22, 3)) mq_178 ci_178 (List.mem_of_getElem? (i := 38) rfl)
theorem cd_178_69 : mt_cd 178 69 = some (.lload_n 2) := mt_cd_of (q := (69, .lload_n 2, 1)) mq_178 ci_178 (List.mem_of_getElem? (i := 39) rfl)
theorem cd_178_70 : mt_cd 178 70 = some (.lload 4) := mt_cd_of (q := (70, .lload 4, 2)) mq_178 ci_178 (List.mem_of_getElem? (i := 40) rfl)
theorem cd_178_72 : mt_cd 178 72 = some (.lxor) := mt_cd_of (q := (72, .lxor, 1)) mq_178 ci_178 (List.mem_of_getElem? (i := 41) rfl)
theorem cd_178_73 : mt_cd 178 73 = some (.lload_n 2) := mt_cd_of (q := (73, .lload_n 2, 1)) mq_178 ci_178 (List.mem_of_getElem? (i := 42) rfl)
theorem cd_178_74 : mt_cd 178 74 = some (.lload 6) := mt_cd_of (q := (74, .lload 6, 2)) mq_178 ci_178 (List.mem_of_getElem? (i := 43) rfl)
theorem cd_178_76 : mt_cd 178 76 = some (.lxor) := mt_cd_of (q := (76, .lxor, 1)) mq_178 ci_178 (List.mem_of_getElem? (i := 44) rfl)
theorem cd_178_77 : mt_cd 178 77 = some (.land) := mt_cd_of (q := (77, .land, 1)) mq_178 ci_178 (List.mem_of_getElem? (i := 45) rfl)
theorem cd_178_78 : mt_cd 178 78 = some (.lconst 0) := mt_cd_of (q := (78, .lconst 0, 1)) mq_178 ci_178 (List.mem_of_getElem? (i := 46) rfl)
theorem cd_178_79 : mt_cd 178 79 = some (.lcmp) := mt_cd_of (q := (79, .lcmp, 1)) mq_178 ci_178 (List.mem_of_getElem? (i := 47) rfl)
theorem cd_178_80 : mt_cd 178 80 = some (.ifCond .ge 7) := mt_cd_of (q := (80, .ifCond .ge 7, 3)) mq_178 ci_178 (List.mem_of_getElem? (i := 48) rfl)
theorem cd_178_83 : mt_cd 178 83 = some (.iconst 1) := mt_cd_of (q := (83, .iconst 1, 1)) mq_178 ci_178 (List.mem_of_getElem? (i := 49) rfl)
theorem cd_178_84 : mt_cd 178 84 = some (.goto 4) := mt_cd_of (q := (84, .goto 4, 3)) mq_178 ci_178 (List.mem_of_getElem? (i := 50) rfl)
theorem cd_178_87 : mt_cd 178 87 = some (.iconst 0) := mt_cd_of (q := (87, .iconst 0, 1)) mq_178 ci_178 (List.mem_of_getElem? (i := 51) rfl)
theorem cd_178_88 : mt_cd 178 88 = some (.istore 8) := mt_cd_of (q := (88, .istore 8, 2)) mq_178 ci_178 (List.mem_of_getElem? (i := 52) rfl)
theorem cd_178_90 : mt_cd 178 90 = some (.iload 8) := mt_cd_of (q := (90, .iload 8, 2)) mq_178 ci_178 (List.mem_of_getElem? (i := 53) rfl)
theorem cd_178_92 : mt_cd 178 92 = some (.ifCond .eq 8) := mt_cd_of (q := (92, .ifCond .eq 8, 3)) mq_178 ci_178 (List.mem_of_getElem? (i := 54) rfl)
theorem cd_178_95 : mt_cd 178 95 = some (.aload_n 0) := mt_cd_of (q := (95, .aload_n 0, 1)) mq_178 ci_178 (List.mem_of_getElem? (i := 55) rfl)
theorem cd_178_96 : mt_cd 178 96 = some (.iconst 1) := mt_cd_of (q := (96, .iconst 1, 1)) mq_178 ci_178 (List.mem_of_getElem? (i := 56) rfl)
theorem cd_178_97 : mt_cd 178 97 = some (.putfield 441) := mt_cd_of (q := (97, .putfield 441, 3)) mq_178 ci_178 (List.mem_of_getElem? (i := 57) rfl)
theorem cd_178_100 : mt_cd 178 100 = some (.aload_n 0) := mt_cd_of (q := (100, .aload_n 0, 1)) mq_178 ci_178 (List.mem_of_getElem? (i := 58) rfl)
theorem cd_178_101 : mt_cd 178 101 = some (.lload 6) := mt_cd_of (q := (101, .lload 6, 2)) mq_178 ci_178 (List.mem_of_getElem? (i := 59) rfl)
theorem cd_178_103 : mt_cd 178 103 = some (.invokevirtual 455) := mt_cd_of (q := (103, .invokevirtual 455, 3)) mq_178 ci_178 (List.mem_of_getElem? (i := 60) rfl)
theorem cd_178_106 : mt_cd 178 106 = some (.lreturn) := mt_cd_of (q := (106, .lreturn, 1)) mq_178 ci_178 (List.mem_of_getElem? (i := 61) rfl)
theorem cd_178_107 : mt_cd 178 107 = some (.iload_n 1) := mt_cd_of (q := (107, .iload_n 1, 1)) mq_178 ci_178 (List.mem_of_getElem? (i := 62) rfl)
theorem cd_178_108 : mt_cd 178 108 = some (.bipush 16) := mt_cd_of (q := (108, .bipush 16, 2)) mq_178 ci_178 (List.mem_of_getElem? (i := 63) rfl)
theorem cd_178_110 : mt_cd 178 110 = some (.if_icmp .ne 23) := mt_cd_of (q := (110, .if_icmp .ne 23, 3)) mq_178 ci_178 (List.mem_of_getElem? (i := 64) rfl)
theorem cd_178_113 : mt_cd 178 113 = some (.lload 4) := mt_cd_of (q := (113, .lload 4, 2)) mq_178 ci_178 (List.mem_of_getElem? (i := 65) rfl)
theorem cd_178_115 : mt_cd 178 115 = some (.lconst 0) := mt_cd_of (q := (115, .lconst 0, 1)) mq_178 ci_178 (List.mem_of_getElem? (i := 66) rfl)
theorem cd_178_116 : mt_cd 178 116 = some (.lcmp) := mt_cd_of (q := (116, .lcmp, 1)) mq_178 ci_178 (List.mem_of_getElem? (i := 67) rfl)
theorem cd_178_117 : mt_cd 178 117 = some (.ifCond .ne 7) := mt_cd_of (q := (117, .ifCond .ne 7, 3)) mq_178 ci_178 (List.mem_of_getElem? (i := 68) rfl)
theorem cd_178_120 : mt_cd 178 120 = some (.lconst 0) := mt_cd_of (q := (120, .lconst 0, 1)) mq_178 ci_178 (List.mem_of_getElem? (i := 69) rfl)
theorem cd_178_121 : mt_cd 178 121 = some (.goto 11) := mt_cd_of (q := (121, .goto 11, 3)) mq_178 ci_178 (List.mem_of_getElem? (i := 70) rfl)
theorem cd_178_124 : mt_cd 178 124 = some (.aload_n 0) := mt_cd_of (q := (124, .aload_n 0, 1)) mq_178 ci_178 (List.mem_of_getElem? (i := 71) rfl)
theorem cd_178_125 : mt_cd 178 125 = some (.lload_n 2) := mt_cd_of (q := (125, .lload_n 2, 1)) mq_178 ci_178 (List.mem_of_getElem? (i := 72) rfl)
theorem cd_178_126 : mt_cd 178 126 = some (.lload 4) := mt_cd_of (q := (126, .lload 4, 2)) mq_178 ci_178 (List.mem_of_getElem? (i := 73) rfl)
theorem cd_178_128 : mt_cd 178 128 = some (.ldiv) := mt_cd_of (q := (128, .ldiv, 1)) mq_178 ci_178 (List.mem_of_getElem? (i := 74) rfl)
theorem cd_178_129 : mt_cd 178 129 = some (.invokevirtual 455) := mt_cd_of (q := (129, .invokevirtual 455, 3)) mq_178 ci_178 (List.mem_of_getElem? (i := 75) rfl)
theorem cd_178_132 : mt_cd 178 132 = some (.lreturn) := mt_cd_of (q := (132, .lreturn, 1)) mq_178 ci_178 (List.mem_of_getElem? (i := 76) rfl)
theorem cd_178_133 : mt_cd 178 133 = some (.lload_n 2) := mt_cd_of (q := (133, .lload_n 2, 1)) mq_178 ci_178 (List.mem_of_getElem? (i := 77) rfl)
theorem cd_178_134 : mt_cd 178 134 = some (.lload 4) := mt_cd_of (q := (134, .lload 4, 2)) mq_178 ci_178 (List.mem_of_getElem? (i := 78) rfl)
theorem cd_178_136 : mt_cd 178 136 = some (.lmul) := mt_cd_of (q := (136, .lmul, 1)) mq_178 ci_178 (List.mem_of_getElem? (i := 79) rfl)
theorem cd_178_137 : mt_cd 178 137 = some (.lstore 6) := mt_cd_of (q := (137, .lstore 6, 2)) mq_178 ci_178 (List.mem_of_getElem? (i := 80) rfl)
theorem cd_178_139 : mt_cd 178 139 = some (.lload_n 2) := mt_cd_of (q := (139, .lload_n 2, 1)) mq_178 ci_178 (List.mem_of_getElem? (i := 81) rfl)
theorem cd_178_140 : mt_cd 178 140 = some (.lload 4) := mt_cd_of (q := (140, .lload 4, 2)) mq_178 ci_178 (List.mem_of_getElem? (i := 82) rfl)
theorem cd_178_142 : mt_cd 178 142 = some (.invokestatic 484) := mt_cd_of (q := (142, .invokestatic 484, 3)) mq_178 ci_178 (List.mem_of_getElem? (i := 83) rfl)
theorem cd_178_145 : mt_cd 178 145 = some (.lload 6) := mt_cd_of (q := (145, .lload 6, 2)) mq_178 ci_178 (List.mem_of_getElem? (i := 84) rfl)
theorem cd_178_147 : mt_cd 178 147 = some (.bipush 63) := mt_cd_of (q := (147, .bipush 63, 2)) mq_178 ci_178 (List.mem_of_getElem? (i := 85) rfl)
theorem cd_178_149 : mt_cd 178 149 = some (.lshr) := mt_cd_of (q := (149, .lshr, 1)) mq_178 ci_178 (List.mem_of_getElem? (i := 86) rfl)
theorem cd_178_150 : mt_cd 178 150 = some (.lcmp) := mt_cd_of (q := (150, .lcmp, 1)) mq_178 ci_178 (List.mem_of_getElem? (i := 87) rfl)
theorem cd_178_151 : mt_cd 178 151 = some (.ifCond .eq 8) := mt_cd_of (q := (151, .ifCond .eq 8, 3)) mq_178 ci_178 (List.mem_of_getElem? (i := 88) rfl)
theorem cd_178_154 : mt_cd 178 154 = some (.aload_n 0) := mt_cd_of (q := (154, .aload_n 0, 1)) mq_178 ci_178 (List.mem_of_getElem? (i := 89) rfl)
theorem cd_178_155 : mt_cd 178 155 = some (.iconst 1) := mt_cd_of (q := (155, .iconst 1, 1)) mq_178 ci_178 (List.mem_of_getElem? (i := 90) rfl)
theorem cd_178_156 : mt_cd 178 156 = some (.putfield 441) := mt_cd_of (q := (156, .putfield 441, 3)) mq_178 ci_178 (List.mem_of_getElem? (i := 91) rfl)
theorem cd_178_159 : mt_cd 178 159 = some (.aload_n 0) := mt_cd_of (q := (159, .aload_n 0, 1)) mq_178 ci_178 (List.mem_of_getElem? (i := 92) rfl)
theorem cd_178_160 : mt_cd 178 160 = some (.lload 6) := mt_cd_of (q := (160, .lload 6, 2)) mq_178 ci_178 (List.mem_of_getElem? (i := 93) rfl)
theorem cd_178_162 : mt_cd 178 162 = some (.invokevirtual 455) := mt_cd_of (q := (162, .invokevirtual 455, 3)) mq_178 ci_178 (List.mem_of_getElem? (i := 94) rfl)
theorem cd_178_165 : mt_cd 178 165 = some (.lreturn) := mt_cd_of (q := (165, .lreturn, 1)) mq_178 ci_178 (List.mem_of_getElem? (i := 95) rfl)
theorem b_178_0 {d : Nat} {Q : (Option Value ⊕ Nat) → mi_H → Prop} (n sl : Nat) (f : Nat → mi_C) {l1 : Nat} {l2 : Int32} {l3 : Int64} {l4 : Int64} {o5 : Option Value} {o6 : Option Value} {o7 : Option Value} {fs8 : List Value} {x11 : Int32} (h9 : f l1 = .inr (12, fs8)) (h10 : l1 < n) (h12 : fs8[46]? = some (.int x11)) (h13 : x11 = (0 : Int32) → mi_W d 178 9 [some (.ref l1), some (.int l2), some (.long l3), none, some (.long l4), none, o5, o6, o7] [] (n, sl, f) Q) (h14 : ¬ (x11 = (0 : Int32)) → mi_W d 178 7 [some (.ref l1), some (.int l2), some (.long l3), none, some (.long l4), none, o5, o6, o7] [] (n, sl, f) Q) : mi_W d 178 0 [some (.ref l1), some (.int l2), some (.long l3), none, some (.long l4), none, o5, o6, o7] [] (n, sl, f) Q := by
  refine w_aload_n cd_178_0 rfl ?_
  refine w_getfield cd_178_1 (show mt_f 12 441 = some (12, 46) by decide +kernel) h9 h10 h12 ?_
  exact w_ifeq cd_178_4 (by decide) h13 h14
theorem b_178_7 {d : Nat} {Q : (Option Value ⊕ Nat) → mi_H → Prop} (n sl : Nat) (f : Nat → mi_C) {l1 : Nat} {l2 : Int32} {l3 : Int64} {l4 : Int64} {o5 : Option Value} {o6 : Option Value} {o7 : Option Value} (h8 : Q (.inl (some (.long 0))) (n, sl, f)) : mi_W d 178 7 [some (.ref l1), some (.int l2), some (.long l3), none, some (.long l4), none, o5, o6, o7] [] (n, sl, f) Q := by
  refine w_lconst (lv := 0) cd_178_7 (by decide) ?_
  exact w_lreturn cd_178_8 (by decide +kernel) h8
theorem b_178_9 {d : Nat} {Q : (Option Value ⊕ Nat) → mi_H → Prop} (n sl : Nat) (f : Nat → mi_C) {l1 : Nat} {l2 : Int32} {l3 : Int64} {l4 : Int64} {o5 : Option Value} {o6 : Option Value} {o7 : Option Value} (h8 : l2 = 13 → mi_W d 178 21 [some (.ref l1), some (.int l2), some (.long l3), none, some (.long l4), none, o5, o6, o7] [] (n, sl, f) Q) (h9 : ¬ (l2 = 13) → mi_W d 178 15 [some (.ref l1), some (.int l2), some (.long l3), none, some (.long l4), none, o5, o6, o7] [] (n, sl, f) Q) : mi_W d 178 9 [some (.ref l1), some (.int l2), some (.long l3), none, some (.long l4), none, o5, o6, o7] [] (n, sl, f) Q := by
  refine w_iload_n cd_178_9 rfl ?_
  refine w_bipush (v := 13) cd_178_10 (by decide) ?_
  exact w_if_icmpeq cd_178_12 (by decide) h8 h9
theorem b_178_15 {d : Nat} {Q : (Option Value ⊕ Nat) → mi_H → Prop} (n sl : Nat) (f : Nat → mi_C) {l1 : Nat} {l2 : Int32} {l3 : Int64} {l4 : Int64} {o5 : Option Value} {o6 : Option Value} {o7 : Option Value} (h8 : ¬ l2 = 14 → mi_W d 178 107 [some (.ref l1), some (.int l2), some (.long l3), none, some (.long l4), none, o5, o6, o7] [] (n, sl, f) Q) (h9 : ¬ (¬ l2 = 14) → mi_W d 178 21 [some (.ref l1), some (.int l2), some (.long l3), none, some (.long l4), none, o5, o6, o7] [] (n, sl, f) Q) : mi_W d 178 15 [some (.ref l1), some (.int l2), some (.long l3), none, some (.long l4), none, o5, o6, o7] [] (n, sl, f) Q := by
  refine w_iload_n cd_178_15 rfl ?_
  refine w_bipush (v := 14) cd_178_16 (by decide) ?_
  exact w_if_icmpne cd_178_18 (by decide) h8 h9
theorem b_178_21 {d : Nat} {Q : (Option Value ⊕ Nat) → mi_H → Prop} (n sl : Nat) (f : Nat → mi_C) {l1 : Nat} {l2 : Int32} {l3 : Int64} {l4 : Int64} {o5 : Option Value} {o6 : Option Value} {o7 : Option Value} (h8 : ¬ l2 = 13 → mi_W d 178 34 [some (.ref l1), some (.int l2), some (.long l3), none, some (.long l4), none, o5, o6, o7] [] (n, sl, f) Q) (h9 : ¬ (¬ l2 = 13) → mi_W d 178 27 [some (.ref l1), some (.int l2), some (.long l3), none, some (.long l4), none, o5, o6, o7] [] (n, sl, f) Q) : mi_W d 178 21 [some (.ref l1), some (.int l2), some (.long l3), none, some (.long l4), none, o5, o6, o7] [] (n, sl, f) Q := by
  refine w_iload_n cd_178_21 rfl ?_
  refine w_bipush (v := 13) cd_178_22 (by decide) ?_
  exact w_if_icmpne cd_178_24 (by decide) h8 h9
theorem b_178_27 {d : Nat} {Q : (Option Value ⊕ Nat) → mi_H → Prop} (n sl : Nat) (f : Nat → mi_C) {l1 : Nat} {l2 : Int32} {l3 : Int64} {l4 : Int64} {o5 : Option Value} {o6 : Option Value} {o7 : Option Value} (h8 : mi_W d 178 38 [some (.ref l1), some (.int l2), some (.long l3), none, some (.long l4), none, o5, o6, o7] [.long (l3 + l4)] (n, sl, f) Q) : mi_W d 178 27 [some (.ref l1), some (.int l2), some (.long l3), none, some (.long l4), none, o5, o6, o7] [] (n, sl, f) Q := by
  refine w_lload_n cd_178_27 rfl ?_
  refine w_lload cd_178_28 rfl ?_
  refine w_ladd cd_178_30 ?_
  exact w_goto cd_178_31 (by decide) h8
theorem b_178_34 {d : Nat} {Q : (Option Value ⊕ Nat) → mi_H → Prop} (n sl : Nat) (f : Nat → mi_C) {l1 : Nat} {l2 : Int32} {l3 : Int64} {l4 : Int64} {o5 : Option Value} {o6 : Option Value} {o7 : Option Value} (h8 : mi_W d 178 38 [some (.ref l1), some (.int l2), some (.long l3), none, some (.long l4), none, o5, o6, o7] [.long (l3 - l4)] (n, sl, f) Q) : mi_W d 178 34 [some (.ref l1), some (.int l2), some (.long l3), none, some (.long l4), none, o5, o6, o7] [] (n, sl, f) Q := by
  refine w_lload_n cd_178_34 rfl ?_
  refine w_lload cd_178_35 rfl ?_
  refine w_lsub cd_178_37 ?_
  exact h8
theorem b_178_38 {d : Nat} {Q : (Option Value ⊕ Nat) → mi_H → Prop} (n sl : Nat) (f : Nat → mi_C) {l1 : Nat} {l2 : Int32} {l3 : Int64} {l4 : Int64} {o5 : Option Value} {o6 : Option Value} {o7 : Option Value} {s8 : Int64} (h9 : ¬ l2 = 13 → mi_W d 178 69 [some (.ref l1), some (.int l2), some (.long l3), none, some (.long l4), none, some (.long s8), none, o7] [] (n, sl, f) Q) (h10 : ¬ (¬ l2 = 13) → mi_W d 178 46 [some (.ref l1), some (.int l2), some (.long l3), none, some (.long l4), none, some (.long s8), none, o7] [] (n, sl, f) Q) : mi_W d 178 38 [some (.ref l1), some (.int l2), some (.long l3), none, some (.long l4), none, o5, o6, o7] [.long s8] (n, sl, f) Q := by
  refine w_lstore (ls' := [some (.ref l1), some (.int l2), some (.long l3), none, some (.long l4), none, some (.long s8), none, o7]) cd_178_38 (Nat.le_of_ble_eq_true rfl) rfl ?_
  refine w_iload_n cd_178_40 rfl ?_
  refine w_bipush (v := 13) cd_178_41 (by decide) ?_
  exact w_if_icmpne cd_178_43 (by decide) h9 h10
theorem b_178_46 {d : Nat} {Q : (Option Value ⊕ Nat) → mi_H → Prop} (n sl : Nat) (f : Nat → mi_C) {l1 : Nat} {l2 : Int32} {l3 : Int64} {l4 : Int64} {l5 : Int64} {o6 : Option Value} (h7 : (0 : Int32) ≤ (lg_cmp ((l3 ^^^ l5) &&& (l4 ^^^ l5)) 0) → mi_W d 178 65 [some (.ref l1), some (.int l2), some (.long l3), none, some (.long l4), none, some (.long l5), none, o6] [] (n, sl, f) Q) (h8 : ¬ ((0 : Int32) ≤ (lg_cmp ((l3 ^^^ l5) &&& (l4 ^^^ l5)) 0)) → mi_W d 178 61 [some (.ref l1), some (.int l2), some (.long l3), none, some (.long l4), none, some (.long l5), none, o6] [] (n, sl, f) Q) : mi_W d 178 46 [some (.ref l1), some (.int l2), some (.long l3), none, some (.long l4), none, some (.long l5), none, o6] [] (n, sl, f) Q := by
  refine w_lload_n cd_178_46 rfl ?_
  refine w_lload cd_178_47 rfl ?_
  refine w_lxor cd_178_49 ?_
  refine w_lload cd_178_50 rfl ?_
  refine w_lload cd_178_52 rfl ?_
  refine w_lxor cd_178_54 ?_
  refine w_land cd_178_55 ?_
  refine w_lconst (lv := 0) cd_178_56 (by decide) ?_
  refine w_lcmp cd_178_57 ?_
  exact w_ifge cd_178_58 (by decide) h7 h8
theorem b_178_61 {d : Nat} {Q : (Option Value ⊕ Nat) → mi_H → Prop} (n sl : Nat) (f : Nat → mi_C) {l1 : Nat} {l2 : Int32} {l3 : Int64} {l4 : Int64} {l5 : Int64} {o6 : Option Value} (h7 : mi_W d 178 88 [some (.ref l1), some (.int l2), some (.long l3), none, some (.long l4), none, some (.long l5), none, o6] [.int 1] (n, sl, f) Q) : mi_W d 178 61 [some (.ref l1), some (.int l2), some (.long l3), none, some (.long l4), none, some (.long l5), none, o6] [] (n, sl, f) Q := by
  refine w_iconst (v := 1) cd_178_61 (by decide) ?_
  exact w_goto cd_178_62 (by decide) h7
theorem b_178_65 {d : Nat} {Q : (Option Value ⊕ Nat) → mi_H → Prop} (n sl : Nat) (f : Nat → mi_C) {l1 : Nat} {l2 : Int32} {l3 : Int64} {l4 : Int64} {l5 : Int64} {o6 : Option Value} (h7 : mi_W d 178 88 [some (.ref l1), some (.int l2), some (.long l3), none, some (.long l4), none, some (.long l5), none, o6] [.int 0] (n, sl, f) Q) : mi_W d 178 65 [some (.ref l1), some (.int l2), some (.long l3), none, some (.long l4), none, some (.long l5), none, o6] [] (n, sl, f) Q := by
  refine w_iconst (v := 0) cd_178_65 (by decide) ?_
  exact w_goto cd_178_66 (by decide) h7
theorem b_178_69 {d : Nat} {Q : (Option Value ⊕ Nat) → mi_H → Prop} (n sl : Nat) (f : Nat → mi_C) {l1 : Nat} {l2 : Int32} {l3 : Int64} {l4 : Int64} {l5 : Int64} {o6 : Option Value} (h7 : (0 : Int32) ≤ (lg_cmp ((l3 ^^^ l4) &&& (l3 ^^^ l5)) 0) → mi_W d 178 87 [some (.ref l1), some (.int l2), some (.long l3), none, some (.long l4), none, some (.long l5), none, o6] [] (n, sl, f) Q) (h8 : ¬ ((0 : Int32) ≤ (lg_cmp ((l3 ^^^ l4) &&& (l3 ^^^ l5)) 0)) → mi_W d 178 83 [some (.ref l1), some (.int l2), some (.long l3), none, some (.long l4), none, some (.long l5), none, o6] [] (n, sl, f) Q) : mi_W d 178 69 [some (.ref l1), some (.int l2), some (.long l3), none, some (.long l4), none, some (.long l5), none, o6] [] (n, sl, f) Q := by
  refine w_lload_n cd_178_69 rfl ?_
  refine w_lload cd_178_70 rfl ?_
  refine w_lxor cd_178_72 ?_
  refine w_lload_n cd_178_73 rfl ?_
  refine w_lload cd_178_74 rfl ?_
  refine w_lxor cd_178_76 ?_
  refine w_land cd_178_77 ?_
  refine w_lconst (lv := 0) cd_178_78 (by decide) ?_
  refine w_lcmp cd_178_79 ?_
  exact w_ifge cd_178_80 (by decide) h7 h8
theorem b_178_83 {d : Nat} {Q : (Option Value ⊕ Nat) → mi_H → Prop} (n sl : Nat) (f : Nat → mi_C) {l1 : Nat} {l2 : Int32} {l3 : Int64} {l4 : Int64} {l5 : Int64} {o6 : Option Value} (h7 : mi_W d 178 88 [some (.ref l1), some (.int l2), some (.long l3), none, some (.long l4), none, some (.long l5), none, o6] [.int 1] (n, sl, f) Q) : mi_W d 178 83 [some (.ref l1), some (.int l2), some (.long l3), none, some (.long l4), none, some (.long l5), none, o6] [] (n, sl, f) Q := by
  refine w_iconst (v := 1) cd_178_83 (by decide) ?_
  exact w_goto cd_178_84 (by decide) h7
theorem b_178_87 {d : Nat} {Q : (Option Value ⊕ Nat) → mi_H → Prop} (n sl : Nat) (f : Nat → mi_C) {l1 : Nat} {l2 : Int32} {l3 : Int64} {l4 : Int64} {l5 : Int64} {o6 : Option Value} (h7 : mi_W d 178 88 [some (.ref l1), some (.int l2), some (.long l3), none, some (.long l4), none, some (.long l5), none, o6] [.int 0] (n, sl, f) Q) : mi_W d 178 87 [some (.ref l1), some (.int l2), some (.long l3), none, some (.long l4), none, some (.long l5), none, o6] [] (n, sl, f) Q := by
  refine w_iconst (v := 0) cd_178_87 (by decide) ?_
  exact h7
theorem b_178_88 {d : Nat} {Q : (Option Value ⊕ Nat) → mi_H → Prop} (n sl : Nat) (f : Nat → mi_C) {l1 : Nat} {l2 : Int32} {l3 : Int64} {l4 : Int64} {l5 : Int64} {o6 : Option Value} {s7 : Int32} (h8 : s7 = (0 : Int32) → mi_W d 178 100 [some (.ref l1), some (.int l2), some (.long l3), none, some (.long l4), none, some (.long l5), none, some (.int s7)] [] (n, sl, f) Q) (h9 : ¬ (s7 = (0 : Int32)) → mi_W d 178 95 [some (.ref l1), some (.int l2), some (.long l3), none, some (.long l4), none, some (.long l5), none, some (.int s7)] [] (n, sl, f) Q) : mi_W d 178 88 [some (.ref l1), some (.int l2), some (.long l3), none, some (.long l4), none, some (.long l5), none, o6] [.int s7] (n, sl, f) Q := by
  refine w_istore (ls' := [some (.ref l1), some (.int l2), some (.long l3), none, some (.long l4), none, some (.long l5), none, some (.int s7)]) cd_178_88 (Nat.le_of_ble_eq_true rfl) rfl ?_
  refine w_iload cd_178_90 rfl ?_
  exact w_ifeq cd_178_92 (by decide) h8 h9
theorem b_178_95 {d : Nat} {Q : (Option Value ⊕ Nat) → mi_H → Prop} (n sl : Nat) (f : Nat → mi_C) {l1 : Nat} {l2 : Int32} {l3 : Int64} {l4 : Int64} {l5 : Int64} {l6 : Int32} {fs7 : List Value} (h8 : f l1 = .inr (12, fs7)) (h9 : l1 < n) (h10 : 46 < fs7.length) (h11 : mi_fk .boolean (.int 1) = true) (h12 : mi_W d 178 100 [some (.ref l1), some (.int l2), some (.long l3), none, some (.long l4), none, some (.long l5), none, some (.int l6)] [] (n, sl, (va_up f l1 (.inr (12, fs7.set 46 (.int 1))))) Q) : mi_W d 178 95 [some (.ref l1), some (.int l2), some (.long l3), none, some (.long l4), none, some (.long l5), none, some (.int l6)] [] (n, sl, f) Q := by
  refine w_aload_n cd_178_95 rfl ?_
  refine w_iconst (v := 1) cd_178_96 (by decide) ?_
  refine w_putfield (w := .int 1) cd_178_97 (show mt_f 12 441 = some (12, 46) by decide +kernel) h8 h9 ⟨h10, h11, Or.inl (by decide)⟩ ?_
  exact h12
theorem b_178_100 {d : Nat} {Q : (Option Value ⊕ Nat) → mi_H → Prop} (n sl : Nat) (f : Nat → mi_C) {l1 : Nat} {l2 : Int32} {l3 : Int64} {l4 : Int64} {l5 : Int64} {l6 : Int32} {fs7 : List Value} (h8 : f l1 = .inr (12, fs7)) (h9 : l1 < n) (h10 : mi_W d 176 0 (mi_en 3 [.ref l1, .long l5]) [] (n, sl, f) (mi_Kc d 178 103 [some (.ref l1), some (.int l2), some (.long l3), none, some (.long l4), none, some (.long l5), none, some (.int l6)] [] Q)) : mi_W (d + 1) 178 100 [some (.ref l1), some (.int l2), some (.long l3), none, some (.long l4), none, some (.long l5), none, some (.int l6)] [] (n, sl, f) Q := by
  refine w_aload_n cd_178_100 rfl ?_
  refine w_lload cd_178_101 rfl ?_
  exact w_invokevirtual cd_178_103 (show mt_m 12 455 = some (176, 0) by decide +kernel) (rest := []) rfl (as := [.ref l1, .long l5]) rfl h8 (Or.inl h9) ⟨Nat.le_of_ble_eq_true rfl, Nat.le_of_ble_eq_true rfl, Nat.le_of_ble_eq_true rfl⟩ h10
theorem b_178_106 {d : Nat} {Q : (Option Value ⊕ Nat) → mi_H → Prop} (n sl : Nat) (f : Nat → mi_C) {l1 : Nat} {l2 : Int32} {l3 : Int64} {l4 : Int64} {l5 : Int64} {l6 : Int32} {s7 : Int64} (h8 : Q (.inl (some (.long s7))) (n, sl, f)) : mi_W d 178 106 [some (.ref l1), some (.int l2), some (.long l3), none, some (.long l4), none, some (.long l5), none, some (.int l6)] [.long s7] (n, sl, f) Q := by
  exact w_lreturn cd_178_106 (by decide +kernel) h8
theorem b_178_107 {d : Nat} {Q : (Option Value ⊕ Nat) → mi_H → Prop} (n sl : Nat) (f : Nat → mi_C) {l1 : Nat} {l2 : Int32} {l3 : Int64} {l4 : Int64} {o5 : Option Value} {o6 : Option Value} {o7 : Option Value} (h8 : ¬ l2 = 16 → mi_W d 178 133 [some (.ref l1), some (.int l2), some (.long l3), none, some (.long l4), none, o5, o6, o7] [] (n, sl, f) Q) (h9 : ¬ (¬ l2 = 16) → mi_W d 178 113 [some (.ref l1), some (.int l2), some (.long l3), none, some (.long l4), none, o5, o6, o7] [] (n, sl, f) Q) : mi_W d 178 107 [some (.ref l1), some (.int l2), some (.long l3), none, some (.long l4), none, o5, o6, o7] [] (n, sl, f) Q := by
  refine w_iload_n cd_178_107 rfl ?_
  refine w_bipush (v := 16) cd_178_108 (by decide) ?_
  exact w_if_icmpne cd_178_110 (by decide) h8 h9
theorem b_178_113 {d : Nat} {Q : (Option Value ⊕ Nat) → mi_H → Prop} (n sl : Nat) (f : Nat → mi_C) {l1 : Nat} {l2 : Int32} {l3 : Int64} {l4 : Int64} {o5 : Option Value} {o6 : Option Value} {o7 : Option Value} (h8 : ¬ (lg_cmp l4 0) = (0 : Int32) → mi_W d 178 124 [some (.ref l1), some (.int l2), some (.long l3), none, some (.long l4), none, o5, o6, o7] [] (n, sl, f) Q) (h9 : ¬ (¬ (lg_cmp l4 0) = (0 : Int32)) → mi_W d 178 120 [some (.ref l1), some (.int l2), some (.long l3), none, some (.long l4), none, o5, o6, o7] [] (n, sl, f) Q) : mi_W d 178 113 [some (.ref l1), some (.int l2), some (.long l3), none, some (.long l4), none, o5, o6, o7] [] (n, sl, f) Q := by
  refine w_lload cd_178_113 rfl ?_
  refine w_lconst (lv := 0) cd_178_115 (by decide) ?_
  refine w_lcmp cd_178_116 ?_
  exact w_ifne cd_178_117 (by decide) h8 h9
theorem b_178_120 {d : Nat} {Q : (Option Value ⊕ Nat) → mi_H → Prop} (n sl : Nat) (f : Nat → mi_C) {l1 : Nat} {l2 : Int32} {l3 : Int64} {l4 : Int64} {o5 : Option Value} {o6 : Option Value} {o7 : Option Value} (h8 : mi_W d 178 132 [some (.ref l1), some (.int l2), some (.long l3), none, some (.long l4), none, o5, o6, o7] [.long 0] (n, sl, f) Q) : mi_W d 178 120 [some (.ref l1), some (.int l2), some (.long l3), none, some (.long l4), none, o5, o6, o7] [] (n, sl, f) Q := by
  refine w_lconst (lv := 0) cd_178_120 (by decide) ?_
  exact w_goto cd_178_121 (by decide) h8
theorem b_178_124 {d : Nat} {Q : (Option Value ⊕ Nat) → mi_H → Prop} (n sl : Nat) (f : Nat → mi_C) {l1 : Nat} {l2 : Int32} {l3 : Int64} {l4 : Int64} {o5 : Option Value} {o6 : Option Value} {o7 : Option Value} {fs9 : List Value} (h8 : ¬ l4 = (0 : Int64)) (h10 : f l1 = .inr (12, fs9)) (h11 : l1 < n) (h12 : mi_W d 176 0 (mi_en 3 [.ref l1, .long (l3 / l4)]) [] (n, sl, f) (mi_Kc d 178 129 [some (.ref l1), some (.int l2), some (.long l3), none, some (.long l4), none, o5, o6, o7] [] Q)) : mi_W (d + 1) 178 124 [some (.ref l1), some (.int l2), some (.long l3), none, some (.long l4), none, o5, o6, o7] [] (n, sl, f) Q := by
  refine w_aload_n cd_178_124 rfl ?_
  refine w_lload_n cd_178_125 rfl ?_
  refine w_lload cd_178_126 rfl ?_
  refine w_ldiv cd_178_128 h8 ?_
  exact w_invokevirtual cd_178_129 (show mt_m 12 455 = some (176, 0) by decide +kernel) (rest := []) rfl (as := [.ref l1, .long (l3 / l4)]) rfl h10 (Or.inl h11) ⟨Nat.le_of_ble_eq_true rfl, Nat.le_of_ble_eq_true rfl, Nat.le_of_ble_eq_true rfl⟩ h12
theorem b_178_132 {d : Nat} {Q : (Option Value ⊕ Nat) → mi_H → Prop} (n sl : Nat) (f : Nat → mi_C) {l1 : Nat} {l2 : Int32} {l3 : Int64} {l4 : Int64} {o5 : Option Value} {o6 : Option Value} {o7 : Option Value} {s8 : Int64} (h9 : Q (.inl (some (.long s8))) (n, sl, f)) : mi_W d 178 132 [some (.ref l1), some (.int l2), some (.long l3), none, some (.long l4), none, o5, o6, o7] [.long s8] (n, sl, f) Q := by
  exact w_lreturn cd_178_132 (by decide +kernel) h9
theorem b_178_133 {d : Nat} {Q : (Option Value ⊕ Nat) → mi_H → Prop} (n sl : Nat) (f : Nat → mi_C) {l1 : Nat} {l2 : Int32} {l3 : Int64} {l4 : Int64} {o5 : Option Value} {o6 : Option Value} {o7 : Option Value} (h8 : mi_W d 179 0 (mi_en 20 [.long l3, .long l4]) [] (n, sl, f) (mi_Kc d 178 142 [some (.ref l1), some (.int l2), some (.long l3), none, some (.long l4), none, some (.long (l3 * l4)), none, o7] [] Q)) : mi_W (d + 1) 178 133 [some (.ref l1), some (.int l2), some (.long l3), none, some (.long l4), none, o5, o6, o7] [] (n, sl, f) Q := by
  refine w_lload_n cd_178_133 rfl ?_
  refine w_lload cd_178_134 rfl ?_
  refine w_lmul cd_178_136 ?_
  refine w_lstore (ls' := [some (.ref l1), some (.int l2), some (.long l3), none, some (.long l4), none, some (.long (l3 * l4)), none, o7]) cd_178_137 (Nat.le_of_ble_eq_true rfl) rfl ?_
  refine w_lload_n cd_178_139 rfl ?_
  refine w_lload cd_178_140 rfl ?_
  exact w_invokestatic cd_178_142 (show mt_m 12 484 = some (179, 4) by decide +kernel) (by decide) (rest := []) rfl (as := [.long l3, .long l4]) rfl ⟨Nat.le_of_ble_eq_true rfl, Nat.le_of_ble_eq_true rfl, Nat.le_of_ble_eq_true rfl⟩ h8
theorem b_178_145 {d : Nat} {Q : (Option Value ⊕ Nat) → mi_H → Prop} (n sl : Nat) (f : Nat → mi_C) {l1 : Nat} {l2 : Int32} {l3 : Int64} {l4 : Int64} {l5 : Int64} {o6 : Option Value} {s7 : Int64} (h8 : (lg_cmp s7 (l5 >>> ((63 : Int32).toInt64 &&& 63))) = (0 : Int32) → mi_W d 178 159 [some (.ref l1), some (.int l2), some (.long l3), none, some (.long l4), none, some (.long l5), none, o6] [] (n, sl, f) Q) (h9 : ¬ ((lg_cmp s7 (l5 >>> ((63 : Int32).toInt64 &&& 63))) = (0 : Int32)) → mi_W d 178 154 [some (.ref l1), some (.int l2), some (.long l3), none, some (.long l4), none, some (.long l5), none, o6] [] (n, sl, f) Q) : mi_W d 178 145 [some (.ref l1), some (.int l2), some (.long l3), none, some (.long l4), none, some (.long l5), none, o6] [.long s7] (n, sl, f) Q := by
  refine w_lload cd_178_145 rfl ?_
  refine w_bipush (v := 63) cd_178_147 (by decide) ?_
  refine w_lshr cd_178_149 ?_
  refine w_lcmp cd_178_150 ?_
  exact w_ifeq cd_178_151 (by decide) h8 h9
theorem b_178_154 {d : Nat} {Q : (Option Value ⊕ Nat) → mi_H → Prop} (n sl : Nat) (f : Nat → mi_C) {l1 : Nat} {l2 : Int32} {l3 : Int64} {l4 : Int64} {l5 : Int64} {o6 : Option Value} {fs7 : List Value} (h8 : f l1 = .inr (12, fs7)) (h9 : l1 < n) (h10 : 46 < fs7.length) (h11 : mi_fk .boolean (.int 1) = true) (h12 : mi_W d 178 159 [some (.ref l1), some (.int l2), some (.long l3), none, some (.long l4), none, some (.long l5), none, o6] [] (n, sl, (va_up f l1 (.inr (12, fs7.set 46 (.int 1))))) Q) : mi_W d 178 154 [some (.ref l1), some (.int l2), some (.long l3), none, some (.long l4), none, some (.long l5), none, o6] [] (n, sl, f) Q := by
  refine w_aload_n cd_178_154 rfl ?_
  refine w_iconst (v := 1) cd_178_155 (by decide) ?_
  refine w_putfield (w := .int 1) cd_178_156 (show mt_f 12 441 = some (12, 46) by decide +kernel) h8 h9 ⟨h10, h11, Or.inl (by decide)⟩ ?_
  exact h12
theorem b_178_159 {d : Nat} {Q : (Option Value ⊕ Nat) → mi_H → Prop} (n sl : Nat) (f : Nat → mi_C) {l1 : Nat} {l2 : Int32} {l3 : Int64} {l4 : Int64} {l5 : Int64} {o6 : Option Value} {fs7 : List Value} (h8 : f l1 = .inr (12, fs7)) (h9 : l1 < n) (h10 : mi_W d 176 0 (mi_en 3 [.ref l1, .long l5]) [] (n, sl, f) (mi_Kc d 178 162 [some (.ref l1), some (.int l2), some (.long l3), none, some (.long l4), none, some (.long l5), none, o6] [] Q)) : mi_W (d + 1) 178 159 [some (.ref l1), some (.int l2), some (.long l3), none, some (.long l4), none, some (.long l5), none, o6] [] (n, sl, f) Q := by
  refine w_aload_n cd_178_159 rfl ?_
  refine w_lload cd_178_160 rfl ?_
  exact w_invokevirtual cd_178_162 (show mt_m 12 455 = some (176, 0) by decide +kernel) (rest := []) rfl (as := [.ref l1, .long l5]) rfl h8 (Or.inl h9) ⟨Nat.le_of_ble_eq_true rfl, Nat.le_of_ble_eq_true rfl, Nat.le_of_ble_eq_true rfl⟩ h10
theorem b_178_165 {d : Nat} {Q : (Option Value ⊕ Nat) → mi_H → Prop} (n sl : Nat) (f : Nat → mi_C) {l1 : Nat} {l2 : Int32} {l3 : Int64} {l4 : Int64} {l5 : Int64} {o6 : Option Value} {s7 : Int64} (h8 : Q (.inl (some (.long s7))) (n, sl, f)) : mi_W d 178 165 [some (.ref l1), some (.int l2), some (.long l3), none, some (.long l4), none, some (.long l5), none, o6] [.long s7] (n, sl, f) Q := by
  exact w_lreturn cd_178_165 (by decide +kernel) h8
/-! MarloweHostModel.warn(II)V -/
set_option maxRecDepth 100000 in
theorem mq_180 : mt_q 180 = my_180 := rfl
set_option maxRecDepth 100000 in
theorem ci_180 : mt_inc 0 my_180.cd = true := by decide +kernel
theorem cd_180_0 : mt_cd 180 0 = some (.aload_n 0) := mt_cd_of (q := (0, .aload_n 0, 1)) mq_180 ci_180 (List.mem_of_getElem? (i := 0) rfl)
theorem cd_180_1 : mt_cd 180 1 = some (.getfield 154) := mt_cd_of (q := (1, .getfield 154, 3)) mq_180 ci_180 (List.mem_of_getElem? (i := 1) rfl)
theorem cd_180_4 : mt_cd 180 4 = some (.aload_n 0) := mt_cd_of (q := (4, .aload_n 0, 1)) mq_180 ci_180 (List.mem_of_getElem? (i := 2) rfl)
theorem cd_180_5 : mt_cd 180 5 = some (.getfield 490) := mt_cd_of (q := (5, .getfield 490, 3)) mq_180 ci_180 (List.mem_of_getElem? (i := 3) rfl)
theorem cd_180_8 : mt_cd 180 8 = some (.iload_n 1) := mt_cd_of (q := (8, .iload_n 1, 1)) mq_180 ci_180 (List.mem_of_getElem? (i := 4) rfl)
theorem cd_180_9 : mt_cd 180 9 = some (.iastore) := mt_cd_of (q := (9, .iastore, 1)) mq_180 ci_180 (List.mem_of_getElem? (i := 5) rfl)
theorem cd_180_10 : mt_cd 180 10 = some (.aload_n 0) := mt_cd_of (q := (10, .aload_n 0, 1)) mq_180 ci_180 (List.mem_of_getElem? (i := 6) rfl)
theorem cd_180_11 : mt_cd 180 11 = some (.getfield 157) := mt_cd_of (q := (11, .getfield 157, 3)) mq_180 ci_180 (List.mem_of_getElem? (i := 7) rfl)
theorem cd_180_14 : mt_cd 180 14 = some (.aload_n 0) := mt_cd_of (q := (14, .aload_n 0, 1)) mq_180 ci_180 (List.mem_of_getElem? (i := 8) rfl)
theorem cd_180_15 : mt_cd 180 15 = some (.dup) := mt_cd_of (q := (15, .dup, 1)) mq_180 ci_180 (List.mem_of_getElem? (i := 9) rfl)
theorem cd_180_16 : mt_cd 180 16 = some (.getfield 490) := mt_cd_of (q := (16, .getfield 490, 3)) mq_180 ci_180 (List.mem_of_getElem? (i := 10) rfl)
theorem cd_180_19 : mt_cd 180 19 = some (.dup_x1) := mt_cd_of (q := (19, .dup_x1, 1)) mq_180 ci_180 (List.mem_of_getElem? (i := 11) rfl)
theorem cd_180_20 : mt_cd 180 20 = some (.iconst 1) := mt_cd_of (q := (20, .iconst 1, 1)) mq_180 ci_180 (List.mem_of_getElem? (i := 12) rfl)
theorem cd_180_21 : mt_cd 180 21 = some (.iadd) := mt_cd_of (q := (21, .iadd, 1)) mq_180 ci_180 (List.mem_of_getElem? (i := 13) rfl)
theorem cd_180_22 : mt_cd 180 22 = some (.putfield 490) := mt_cd_of (q := (22, .putfield 490, 3)) mq_180 ci_180 (List.mem_of_getElem? (i := 14) rfl)
theorem cd_180_25 : mt_cd 180 25 = some (.iload_n 2) := mt_cd_of (q := (25, .iload_n 2, 1)) mq_180 ci_180 (List.mem_of_getElem? (i := 15) rfl)
theorem cd_180_26 : mt_cd 180 26 = some (.iastore) := mt_cd_of (q := (26, .iastore, 1)) mq_180 ci_180 (List.mem_of_getElem? (i := 16) rfl)
theorem cd_180_27 : mt_cd 180 27 = some (.return_) := mt_cd_of (q := (27, .return_, 1)) mq_180 ci_180 (List.mem_of_getElem? (i := 17) rfl)
theorem b_180_0 {d : Nat} {Q : (Option Value ⊕ Nat) → mi_H → Prop} (n sl : Nat) (f : Nat → mi_C) {l1 : Nat} {l2 : Int32} {l3 : Int32} {fs4 : List Value} {x7 : Nat} {fs9 : List Value} {x12 : Int32} (m14 i14 : Nat) (g14 : Nat → Int32) {fs18 : List Value} {x21 : Nat} {fs23 : List Value} {x26 : Int32} {fs28 : List Value} (m32 i32 : Nat) (g32 : Nat → Int32) (h5 : f l1 = .inr (12, fs4)) (h6 : l1 < n) (h8 : fs4[49]? = some (.ref x7)) (h10 : f l1 = .inr (12, fs9)) (h11 : l1 < n) (h13 : fs9[47]? = some (.int x12)) (h15 : f x7 = .inl (0, m14, .inl g14)) (h16 : x7 < n) (h17 : mi_ix x12 m14 i14) (h19 : (va_up f x7 (.inl (0, m14, .inl (upd g14 i14 l2)))) l1 = .inr (12, fs18)) (h20 : l1 < n) (h22 : fs18[50]? = some (.ref x21)) (h24 : (va_up f x7 (.inl (0, m14, .inl (upd g14 i14 l2)))) l1 = .inr (12, fs23)) (h25 : l1 < n) (h27 : fs23[47]? = some (.int x26)) (h29 : (va_up f x7 (.inl (0, m14, .inl (upd g14 i14 l2)))) l1 = .inr (12, fs28)) (h30 : l1 < n) (h31 : 47 < fs28.length) (h33 : (va_up (va_up f x7 (.inl (0, m14, .inl (upd g14 i14 l2)))) l1 (.inr (12, fs28.set 47 (.int (x26 + 1))))) x21 = .inl (0, m32, .inl g32)) (h34 : x21 < n) (h35 : mi_ix x26 m32 i32) (h36 : Q (.inl none) (n, sl, (va_up (va_up (va_up f x7 (.inl (0, m14, .inl (upd g14 i14 l2)))) l1 (.inr (12, fs28.set 47 (.int (x26 + 1))))) x21 (.inl (0, m32, .inl (upd g32 i32 l3)))))) : mi_W d 180 0 [some (.ref l1), some (.int l2), some (.int l3)] [] (n, sl, f) Q := by
  refine w_aload_n cd_180_0 rfl ?_
  refine w_getfield cd_180_1 (show mt_f 12 154 = some (12, 49) by decide +kernel) h5 h6 h8 ?_
  refine w_aload_n cd_180_4 rfl ?_
  refine w_getfield cd_180_5 (show mt_f 12 490 = some (12, 47) by decide +kernel) h10 h11 h13 ?_
  refine w_iload_n cd_180_8 rfl ?_
  refine w_iastore cd_180_9 h15 h16 h17 ?_
  refine w_aload_n cd_180_10 rfl ?_
  refine w_getfield cd_180_11 (show mt_f 12 157 = some (12, 50) by decide +kernel) h19 h20 h22 ?_
  refine w_aload_n cd_180_14 rfl ?_
  refine w_dup_r cd_180_15 ?_
  refine w_getfield cd_180_16 (show mt_f 12 490 = some (12, 47) by decide +kernel) h24 h25 h27 ?_
  refine w_dup_x1_ir cd_180_19 ?_
  refine w_iconst (v := 1) cd_180_20 (by decide) ?_
  refine w_iadd cd_180_21 ?_
  refine w_putfield (w := .int (x26 + 1)) cd_180_22 (show mt_f 12 490 = some (12, 47) by decide +kernel) h29 h30 ⟨h31, rfl, Or.inl (by decide)⟩ ?_
  refine w_iload_n cd_180_25 rfl ?_
  refine w_iastore cd_180_26 h33 h34 h35 ?_
  exact w_return cd_180_27 (by decide +kernel) h36
/-! MarloweHostModel.take(I)I -/
set_option maxRecDepth 100000 in
theorem mq_181 : mt_q 181 = my_181 := rfl
set_option maxRecDepth 100000 in
theorem ci_181 : mt_inc 0 my_181.cd = true := by decide +kernel
theorem cd_181_0 : mt_cd 181 0 = some (.aload_n 0) := mt_cd_of (q := (0, .aload_n 0, 1)) mq_181 ci_181 (List.mem_append_left _ (show _ ∈ my_181_0 from List.mem_of_getElem? (i := 0) rfl))
theorem cd_181_1 : mt_cd 181 1 = some (.getfield 445) := mt_cd_of (q := (1, .getfield 445, 3)) mq_181 ci_181 (List.mem_append_left _ (show _ ∈ my_181_0 from List.mem_of_getElem? (i := 1) rfl))
theorem cd_181_4 : mt_cd 181 4 = some (.getfield 496) := mt_cd_of (q := (4, .getfield 496, 3)) mq_181 ci_181 (List.mem_append_left _ (show _ ∈ my_181_0 from List.mem_of_getElem? (i := 2) rfl))
theorem cd_181_7 : mt_cd 181 7 = some (.istore_n 2) := mt_cd_of (q := (7, .istore_n 2, 1)) mq_181 ci_181 (List.mem_append_left _ (show _ ∈ my_181_0 from List.mem_of_getElem? (i := 3) rfl))
theorem cd_181_8 : mt_cd 181 8 = some (.aload_n 0) := mt_cd_of (q := (8, .aload_n 0, 1)) mq_181 ci_181 (List.mem_append_left _ (show _ ∈ my_181_0 from List.mem_of_getElem? (i := 4) rfl))
theorem cd_181_9 : mt_cd 181 9 = some (.getfield 77) := mt_cd_of (q := (9, .getfield 77, 3)) mq_181 ci_181 (List.mem_append_left _ (show _ ∈ my_181_0 from List.mem_of_getElem? (i := 5) rfl))
theorem cd_181_12 : mt_cd 181 12 = some (.iload_n 2) := mt_cd_of (q := (12, .iload_n 2, 1)) mq_181 ci_181 (List.mem_append_left _ (show _ ∈ my_181_0 from List.mem_of_getElem? (i := 6) rfl))
theorem cd_181_13 : mt_cd 181 13 = some (.iaload) := mt_cd_of (q := (13, .iaload, 1)) mq_181 ci_181 (List.mem_append_left _ (show _ ∈ my_181_0 from List.mem_of_getElem? (i := 7) rfl))
theorem cd_181_14 : mt_cd 181 14 = some (.iconst 4) := mt_cd_of (q := (14, .iconst 4, 1)) mq_181 ci_181 (List.mem_append_left _ (show _ ∈ my_181_0 from List.mem_of_getElem? (i := 8) rfl))
theorem cd_181_15 : mt_cd 181 15 = some (.if_icmp .eq 5) := mt_cd_of (q := (15, .if_icmp .eq 5, 3)) mq_181 ci_181 (List.mem_append_left _ (show _ ∈ my_181_0 from List.mem_of_getElem? (i := 9) rfl))
theorem cd_181_18 : mt_cd 181 18 = some (.iconst 4) := mt_cd_of (q := (18, .iconst 4, 1)) mq_181 ci_181 (List.mem_append_left _ (show _ ∈ my_181_0 from List.mem_of_getElem? (i := 10) rfl))
theorem cd_181_19 : mt_cd 181 19 = some (.ireturn) := mt_cd_of (q := (19, .ireturn, 1)) mq_181 ci_181 (List.mem_append_left _ (show _ ∈ my_181_0 from List.mem_of_getElem? (i := 11) rfl))
theorem cd_181_20 : mt_cd 181 20 = some (.aload_n 0) := mt_cd_of (q := (20, .aload_n 0, 1)) mq_181 ci_181 (List.mem_append_left _ (show _ ∈ my_181_0 from List.mem_of_getElem? (i := 12) rfl))
theorem cd_181_21 : mt_cd 181 21 = some (.getfield 92) := mt_cd_of (q := (21, .getfield 92, 3)) mq_181 ci_181 (List.mem_append_left _ (show _ ∈ my_181_0 from List.mem_of_getElem? (i := 13) rfl))
theorem cd_181_24 : mt_cd 181 24 = some (.iload_n 2) := mt_cd_of (q := (24, .iload_n 2, 1)) mq_181 ci_181 (List.mem_append_left _ (show _ ∈ my_181_0 from List.mem_of_getElem? (i := 14) rfl))
theorem cd_181_25 : mt_cd 181 25 = some (.iaload) := mt_cd_of (q := (25, .iaload, 1)) mq_181 ci_181 (List.mem_append_left _ (show _ ∈ my_181_0 from List.mem_of_getElem? (i := 15) rfl))
theorem cd_181_26 : mt_cd 181 26 = some (.istore_n 3) := mt_cd_of (q := (26, .istore_n 3, 1)) mq_181 ci_181 (List.mem_append_left _ (show _ ∈ my_181_0 from List.mem_of_getElem? (i := 16) rfl))
theorem cd_181_27 : mt_cd 181 27 = some (.iload_n 3) := mt_cd_of (q := (27, .iload_n 3, 1)) mq_181 ci_181 (List.mem_append_left _ (show _ ∈ my_181_0 from List.mem_of_getElem? (i := 17) rfl))
theorem cd_181_28 : mt_cd 181 28 = some (.ifCond .lt 264) := mt_cd_of (q := (28, .ifCond .lt 264, 3)) mq_181 ci_181 (List.mem_append_left _ (show _ ∈ my_181_0 from List.mem_of_getElem? (i := 18) rfl))
theorem cd_181_31 : mt_cd 181 31 = some (.aload_n 0) := mt_cd_of (q := (31, .aload_n 0, 1)) mq_181 ci_181 (List.mem_append_left _ (show _ ∈ my_181_0 from List.mem_of_getElem? (i := 19) rfl))
theorem cd_181_32 : mt_cd 181 32 = some (.iload_n 3) := mt_cd_of (q := (32, .iload_n 3, 1)) mq_181 ci_181 (List.mem_append_left _ (show _ ∈ my_181_0 from List.mem_of_getElem? (i := 20) rfl))
theorem cd_181_33 : mt_cd 181 33 = some (.iload_n 1) := mt_cd_of (q := (33, .iload_n 1, 1)) mq_181 ci_181 (List.mem_append_left _ (show _ ∈ my_181_0 from List.mem_of_getElem? (i := 21) rfl))
theorem cd_181_34 : mt_cd 181 34 = some (.invokevirtual 509) := mt_cd_of (q := (34, .invokevirtual 509, 3)) mq_181 ci_181 (List.mem_append_left _ (show _ ∈ my_181_0 from List.mem_of_getElem? (i := 22) rfl))
theorem cd_181_37 : mt_cd 181 37 = some (.istore 4) := mt_cd_of (q := (37, .istore 4, 2)) mq_181 ci_181 (List.mem_append_left _ (show _ ∈ my_181_0 from List.mem_of_getElem? (i := 23) rfl))
theorem cd_181_39 : mt_cd 181 39 = some (.iload 4) := mt_cd_of (q := (39, .iload 4, 2)) mq_181 ci_181 (List.mem_append_left _ (show _ ∈ my_181_0 from List.mem_of_getElem? (i := 24) rfl))
theorem cd_181_41 : mt_cd 181 41 = some (.iconst 1) := mt_cd_of (q := (41, .iconst 1, 1)) mq_181 ci_181 (List.mem_append_left _ (show _ ∈ my_181_0 from List.mem_of_getElem? (i := 25) rfl))
theorem cd_181_42 : mt_cd 181 42 = some (.if_icmp .le 6) := mt_cd_of (q := (42, .if_icmp .le 6, 3)) mq_181 ci_181 (List.mem_append_left _ (show _ ∈ my_181_0 from List.mem_of_getElem? (i := 26) rfl))
theorem cd_181_45 : mt_cd 181 45 = some (.iload 4) := mt_cd_of (q := (45, .iload 4, 2)) mq_181 ci_181 (List.mem_append_left _ (show _ ∈ my_181_0 from List.mem_of_getElem? (i := 27) rfl))
theorem cd_181_47 : mt_cd 181 47 = some (.ireturn) := mt_cd_of (q := (47, .ireturn, 1)) mq_181 ci_181 (List.mem_append_left _ (show _ ∈ my_181_0 from List.mem_of_getElem? (i := 28) rfl))
theorem cd_181_48 : mt_cd 181 48 = some (.iload 4) := mt_cd_of (q := (48, .iload 4, 2)) mq_181 ci_181 (List.mem_append_left _ (show _ ∈ my_181_0 from List.mem_of_getElem? (i := 29) rfl))
theorem cd_181_50 : mt_cd 181 50 = some (.ifCond .ne 6) := mt_cd_of (q := (50, .ifCond .ne 6, 3)) mq_181 ci_181 (List.mem_append_left _ (show _ ∈ my_181_0 from List.mem_of_getElem? (i := 30) rfl))
theorem cd_181_53 : mt_cd 181 53 = some (.goto 229) := mt_cd_of (q := (53, .goto 229, 3)) mq_181 ci_181 (List.mem_append_left _ (show _ ∈ my_181_0 from List.mem_of_getElem? (i := 31) rfl))
theorem cd_181_56 : mt_cd 181 56 = some (.aload_n 0) := mt_cd_of (q := (56, .aload_n 0, 1)) mq_181 ci_181 (List.mem_append_left _ (show _ ∈ my_181_0 from List.mem_of_getElem? (i := 32) rfl))
theorem cd_181_57 : mt_cd 181 57 = some (.getfield 77) := mt_cd_of (q := (57, .getfield 77, 3)) mq_181 ci_181 (List.mem_append_left _ (show _ ∈ my_181_0 from List.mem_of_getElem? (i := 33) rfl))
theorem cd_181_60 : mt_cd 181 60 = some (.iload_n 3) := mt_cd_of (q := (60, .iload_n 3, 1)) mq_181 ci_181 (List.mem_append_left _ (show _ ∈ my_181_0 from List.mem_of_getElem? (i := 34) rfl))
theorem cd_181_61 : mt_cd 181 61 = some (.iaload) := mt_cd_of (q := (61, .iaload, 1)) mq_181 ci_181 (List.mem_append_left _ (show _ ∈ my_181_0 from List.mem_of_getElem? (i := 35) rfl))
theorem cd_181_62 : mt_cd 181 62 = some (.bipush 7) := mt_cd_of (q := (62, .bipush 7, 2)) mq_181 ci_181 (List.mem_append_left _ (show _ ∈ my_181_0 from List.mem_of_getElem? (i := 36) rfl))
theorem cd_181_64 : mt_cd 181 64 = some (.if_icmp .ne 157) := mt_cd_of (q := (64, .if_icmp .ne 157, 3)) mq_181 ci_181 (List.mem_append_left _ (show _ ∈ my_181_0 from List.mem_of_getElem? (i := 37) rfl))
theorem cd_181_67 : mt_cd 181 67 = some (.aload_n 0) := mt_cd_of (q := (67, .aload_n 0, 1)) mq_181 ci_181 (List.mem_append_left _ (show _ ∈ my_181_0 from List.mem_of_getElem? (i := 38) rfl))
theorem cd_181_68 : mt_cd 181 68 = some (.getfield 190) := mt_cd_of (q := (68, .getfield 190, 3)) mq_181 ci_181 (List.mem_append_left _ (show _ ∈ my_181_0 from List.mem_of_getElem? (i := 39) rfl))
theorem cd_181_71 : mt_cd 181 71 = some (.iload_n 1) := mt_cd_of (q := (71, .iload_n 1, 1)) mq_181 ci_181 (List.mem_append_left _ (show _ ∈ my_181_0 from List.mem_of_getElem? (i := 40) rfl))
theorem cd_181_72 : mt_cd 181 72 = some (.laload) := mt_cd_of (q := (72, .laload, 1)) mq_181 ci_181 (List.mem_append_left _ (show _ ∈ my_181_0 from List.mem_of_getElem? (i := 41) rfl))
theorem cd_181_73 : mt_cd 181 73 = some (.lstore 5) := mt_cd_of (q := (73, .lstore 5, 2)) mq_181 ci_181 (List.mem_append_left _ (show _ ∈ my_181_0 from List.mem_of_getElem? (i := 42) rfl))
theorem cd_181_75 : mt_cd 181 75 = some (.iconst 4) := mt_cd_of (q := (75, .iconst 4, 1)) mq_181 ci_181 (List.mem_append_left _ (show _ ∈ my_181_0 from List.mem_of_getElem? (i := 43) rfl))
theorem cd_181_76 : mt_cd 181 76 = some (.aload_n 0) := mt_cd_of (q := (76, .aload_n 0, 1)) mq_181 ci_181 (List.mem_append_left _ (show _ ∈ my_181_0 from List.mem_of_getElem? (i := 44) rfl))
theorem cd_181_77 : mt_cd 181 77 = some (.getfield 80) := mt_cd_of (q := (77, .getfield 80, 3)) mq_181 ci_181 (List.mem_append_left _ (show _ ∈ my_181_0 from List.mem_of_getElem? (i := 45) rfl))
theorem cd_181_80 : mt_cd 181 80 = some (.iload_n 3) := mt_cd_of (q := (80, .iload_n 3, 1)) mq_181 ci_181 (List.mem_append_left _ (show _ ∈ my_181_0 from List.mem_of_getElem? (i := 46) rfl))
theorem cd_181_81 : mt_cd 181 81 = some (.iaload) := mt_cd_of (q := (81, .iaload, 1)) mq_181 ci_181 (List.mem_append_left _ (show _ ∈ my_181_0 from List.mem_of_getElem? (i := 47) rfl))
theorem cd_181_82 : mt_cd 181 82 = some (.imul) := mt_cd_of (q := (82, .imul, 1)) mq_181 ci_181 (List.mem_append_left _ (show _ ∈ my_181_0 from List.mem_of_getElem? (i := 48) rfl))
theorem cd_181_83 : mt_cd 181 83 = some (.aload_n 0) := mt_cd_of (q := (83, .aload_n 0, 1)) mq_181 ci_181 (List.mem_append_left _ (show _ ∈ my_181_0 from List.mem_of_getElem? (i := 49) rfl))
theorem cd_181_84 : mt_cd 181 84 = some (.getfield 86) := mt_cd_of (q := (84, .getfield 86, 3)) mq_181 ci_181 (List.mem_append_left _ (show _ ∈ my_181_0 from List.mem_of_getElem? (i := 50) rfl))
theorem cd_181_87 : mt_cd 181 87 = some (.iload_n 3) := mt_cd_of (q := (87, .iload_n 3, 1)) mq_181 ci_181 (List.mem_append_left _ (show _ ∈ my_181_0 from List.mem_of_getElem? (i := 51) rfl))
theorem cd_181_88 : mt_cd 181 88 = some (.iaload) := mt_cd_of (q := (88, .iaload, 1)) mq_181 ci_181 (List.mem_append_left _ (show _ ∈ my_181_0 from List.mem_of_getElem? (i := 52) rfl))
theorem cd_181_89 : mt_cd 181 89 = some (.iadd) := mt_cd_of (q := (89, .iadd, 1)) mq_181 ci_181 (List.mem_append_left _ (show _ ∈ my_181_0 from List.mem_of_getElem? (i := 53) rfl))
theorem cd_181_90 : mt_cd 181 90 = some (.istore 7) := mt_cd_of (q := (90, .istore 7, 2)) mq_181 ci_181 (List.mem_append_left _ (show _ ∈ my_181_0 from List.mem_of_getElem? (i := 54) rfl))
theorem cd_181_92 : mt_cd 181 92 = some (.iconst 4) := mt_cd_of (q := (92, .iconst 4, 1)) mq_181 ci_181 (List.mem_append_left _ (show _ ∈ my_181_0 from List.mem_of_getElem? (i := 55) rfl))
theorem cd_181_93 : mt_cd 181 93 = some (.aload_n 0) := mt_cd_of (q := (93, .aload_n 0, 1)) mq_181 ci_181 (List.mem_append_left _ (show _ ∈ my_181_0 from List.mem_of_getElem? (i := 56) rfl))
theorem cd_181_94 : mt_cd 181 94 = some (.getfield 83) := mt_cd_of (q := (94, .getfield 83, 3)) mq_181 ci_181 (List.mem_append_left _ (show _ ∈ my_181_0 from List.mem_of_getElem? (i := 57) rfl))
theorem cd_181_97 : mt_cd 181 97 = some (.iload_n 3) := mt_cd_of (q := (97, .iload_n 3, 1)) mq_181 ci_181 (List.mem_append_left _ (show _ ∈ my_181_0 from List.mem_of_getElem? (i := 58) rfl))
theorem cd_181_98 : mt_cd 181 98 = some (.iaload) := mt_cd_of (q := (98, .iaload, 1)) mq_181 ci_181 (List.mem_append_left _ (show _ ∈ my_181_0 from List.mem_of_getElem? (i := 59) rfl))
theorem cd_181_99 : mt_cd 181 99 = some (.imul) := mt_cd_of (q := (99, .imul, 1)) mq_181 ci_181 (List.mem_append_right _ (List.mem_append_left _ (show _ ∈ my_181_1 from List.mem_of_getElem? (i := 0) rfl)))
theorem cd_181_100 : mt_cd 181 100 = some (.aload_n 0) := mt_cd_of (q := (100, .aload_n 0, 1)) mq_181 ci_181 (List.mem_append_right _ (List.mem_append_left _ (show _ ∈ my_181_1 from List.mem_of_getElem? (i := 1) rfl)))
theorem cd_181_101 : mt_cd 181 101 = some (.getfield 86) := mt_cd_of (q := (101, .getfield 86, 3)) mq_181 ci_181 (List.mem_append_right _ (List.mem_append_left _ (show _ ∈ my_181_1 from List.mem_of_getElem? (i := 2) rfl)))
theorem cd_181_104 : mt_cd 181 104 = some (.iload_n 3) := mt_cd_of (q := (104, .iload_n 3, 1)) mq_181 ci_181 (List.mem_append_right _ (List.mem_append_left _ (show _ ∈ my_181_1 from List.mem_of_getElem? (i := 3) rfl)))
theorem cd_181_105 : mt_cd 181 105 = some (.iaload) := mt_cd_of (q := (105, .iaload, 1)) mq_181 ci_181 (List.mem_append_right _ (List.mem_append_left _ (show _ ∈ my_181_1 from List.mem_of_getElem? (i := 4) rfl)))
theorem cd_181_106 : mt_cd 181 106 = some (.iadd) := mt_cd_of (q := (106, .iadd, 1)) mq_181 ci_181 (List.mem_append_right _ (List.mem_append_left _ (show _ ∈ my_181_1 from List.mem_of_getElem? (i := 5) rfl)))
theorem cd_181_107 : mt_cd 181 107 = some (.istore 8) := mt_cd_of (q := (107, .istore 8, 2)) mq_181 ci_181 (List.mem_append_right _ (List.mem_append_left _ (show _ ∈ my_181_1 from List.mem_of_getElem? (i := 6) rfl)))
theorem cd_181_109 : mt_cd 181 109 = some (.lload 5) := mt_cd_of (q := (109, .lload 5, 2)) mq_181 ci_181 (List.mem_append_right _ (List.mem_append_left _ (show _ ∈ my_181_1 from List.mem_of_getElem? (i := 7) rfl)))
theorem cd_181_111 : mt_cd 181 111 = some (.lconst 0) := mt_cd_of (q := (111, .lconst 0, 1)) mq_181 ci_181 (List.mem_append_right _ (List.mem_append_left _ (show _ ∈ my_181_1 from List.mem_of_getElem? (i := 8) rfl)))
theorem cd_181_112 : mt_cd 181 112 = some (.lcmp) := mt_cd_of (q := (112, .lcmp, 1)) mq_181 ci_181 (List.mem_append_right _ (List.mem_append_left _ (show _ ∈ my_181_1 from List.mem_of_getElem? (i := 9) rfl)))
theorem cd_181_113 : mt_cd 181 113 = some (.ifCond .gt 12) := mt_cd_of (q := (113, .ifCond .gt 12, 3)) mq_181 ci_181 (List.mem_append_right _ (List.mem_append_left _ (show _ ∈ my_181_1 from List.mem_of_getElem? (i := 10) rfl)))
theorem cd_181_116 : mt_cd 181 116 = some (.aload_n 0) := mt_cd_of (q := (116, .aload_n 0, 1)) mq_181 ci_181 (List.mem_append_right _ (List.mem_append_left _ (show _ ∈ my_181_1 from List.mem_of_getElem? (i := 11) rfl)))
theorem cd_181_117 : mt_cd 181 117 = some (.iconst 1) := mt_cd_of (q := (117, .iconst 1, 1)) mq_181 ci_181 (List.mem_append_right _ (List.mem_append_left _ (show _ ∈ my_181_1 from List.mem_of_getElem? (i := 12) rfl)))
theorem cd_181_118 : mt_cd 181 118 = some (.iload_n 3) := mt_cd_of (q := (118, .iload_n 3, 1)) mq_181 ci_181 (List.mem_append_right _ (List.mem_append_left _ (show _ ∈ my_181_1 from List.mem_of_getElem? (i := 13) rfl)))
theorem cd_181_119 : mt_cd 181 119 = some (.invokevirtual 502) := mt_cd_of (q := (119, .invokevirtual 502, 3)) mq_181 ci_181 (List.mem_append_right _ (List.mem_append_left _ (show _ ∈ my_181_1 from List.mem_of_getElem? (i := 14) rfl)))
theorem cd_181_122 : mt_cd 181 122 = some (.goto 96) := mt_cd_of (q := (122, .goto 96, 3)) mq_181 ci_181 (List.mem_append_right _ (List.mem_append_left _ (show _ ∈ my_181_1 from List.mem_of_getElem? (i := 15) rfl)))
theorem cd_181_125 : mt_cd 181 125 = some (.aload_n 0) := mt_cd_of (q := (125, .aload_n 0, 1)) mq_181 ci_181 (List.mem_append_right _ (List.mem_append_left _ (show _ ∈ my_181_1 from List.mem_of_getElem? (i := 16) rfl)))
theorem cd_181_126 : mt_cd 181 126 = some (.getfield 513) := mt_cd_of (q := (126, .getfield 513, 3)) mq_181 ci_181 (List.mem_append_right _ (List.mem_append_left _ (show _ ∈ my_181_1 from List.mem_of_getElem? (i := 17) rfl)))
theorem cd_181_129 : mt_cd 181 129 = some (.ifCond .eq 27) := mt_cd_of (q := (129, .ifCond .eq 27, 3)) mq_181 ci_181 (List.mem_append_right _ (List.mem_append_left _ (show _ ∈ my_181_1 from List.mem_of_getElem? (i := 18) rfl)))
theorem cd_181_132 : mt_cd 181 132 = some (.aload_n 0) := mt_cd_of (q := (132, .aload_n 0, 1)) mq_181 ci_181 (List.mem_append_right _ (List.mem_append_left _ (show _ ∈ my_181_1 from List.mem_of_getElem? (i := 19) rfl)))
theorem cd_181_133 : mt_cd 181 133 = some (.getfield 175) := mt_cd_of (q := (133, .getfield 175, 3)) mq_181 ci_181 (List.mem_append_right _ (List.mem_append_left _ (show _ ∈ my_181_1 from List.mem_of_getElem? (i := 20) rfl)))
theorem cd_181_136 : mt_cd 181 136 = some (.iload 8) := mt_cd_of (q := (136, .iload 8, 2)) mq_181 ci_181 (List.mem_append_right _ (List.mem_append_left _ (show _ ∈ my_181_1 from List.mem_of_getElem? (i := 21) rfl)))
theorem cd_181_138 : mt_cd 181 138 = some (.laload) := mt_cd_of (q := (138, .laload, 1)) mq_181 ci_181 (List.mem_append_right _ (List.mem_append_left _ (show _ ∈ my_181_1 from List.mem_of_getElem? (i := 22) rfl)))
theorem cd_181_139 : mt_cd 181 139 = some (.aload_n 0) := mt_cd_of (q := (139, .aload_n 0, 1)) mq_181 ci_181 (List.mem_append_right _ (List.mem_append_left _ (show _ ∈ my_181_1 from List.mem_of_getElem? (i := 23) rfl)))
theorem cd_181_140 : mt_cd 181 140 = some (.getfield 172) := mt_cd_of (q := (140, .getfield 172, 3)) mq_181 ci_181 (List.mem_append_right _ (List.mem_append_left _ (show _ ∈ my_181_1 from List.mem_of_getElem? (i := 24) rfl)))
theorem cd_181_143 : mt_cd 181 143 = some (.iload 8) := mt_cd_of (q := (143, .iload 8, 2)) mq_181 ci_181 (List.mem_append_right _ (List.mem_append_left _ (show _ ∈ my_181_1 from List.mem_of_getElem? (i := 25) rfl)))
theorem cd_181_145 : mt_cd 181 145 = some (.laload) := mt_cd_of (q := (145, .laload, 1)) mq_181 ci_181 (List.mem_append_right _ (List.mem_append_left _ (show _ ∈ my_181_1 from List.mem_of_getElem? (i := 26) rfl)))
theorem cd_181_146 : mt_cd 181 146 = some (.lsub) := mt_cd_of (q := (146, .lsub, 1)) mq_181 ci_181 (List.mem_append_right _ (List.mem_append_left _ (show _ ∈ my_181_1 from List.mem_of_getElem? (i := 27) rfl)))
theorem cd_181_147 : mt_cd 181 147 = some (.lload 5) := mt_cd_of (q := (147, .lload 5, 2)) mq_181 ci_181 (List.mem_append_right _ (List.mem_append_left _ (show _ ∈ my_181_1 from List.mem_of_getElem? (i := 28) rfl)))
theorem cd_181_149 : mt_cd 181 149 = some (.lcmp) := mt_cd_of (q := (149, .lcmp, 1)) mq_181 ci_181 (List.mem_append_right _ (List.mem_append_left _ (show _ ∈ my_181_1 from List.mem_of_getElem? (i := 29) rfl)))
theorem cd_181_150 : mt_cd 181 150 = some (.ifCond .ge 6) := mt_cd_of (q := (150, .ifCond .ge 6, 3)) mq_181 ci_181 (List.mem_append_right _ (List.mem_append_left _ (show _ ∈ my_181_1 from List.mem_of_getElem? (i := 30) rfl)))
theorem cd_181_153 : mt_cd 181 153 = some (.bipush 7) := mt_cd_of (q := (153, .bipush 7, 2)) mq_181 ci_181 (List.mem_append_right _ (List.mem_append_left _ (show _ ∈ my_181_1 from List.mem_of_getElem? (i := 31) rfl)))
theorem cd_181_155 : mt_cd 181 155 = some (.ireturn) := mt_cd_of (q := (155, .ireturn, 1)) mq_181 ci_181 (List.mem_append_right _ (List.mem_append_left _ (show _ ∈ my_181_1 from List.mem_of_getElem? (i := 32) rfl)))
theorem cd_181_156 : mt_cd 181 156 = some (.aload_n 0) := mt_cd_of (q := (156, .aload_n 0, 1)) mq_181 ci_181 (List.mem_append_right _ (List.mem_append_left _ (show _ ∈ my_181_1 from List.mem_of_getElem? (i := 33) rfl)))
theorem cd_181_157 : mt_cd 181 157 = some (.getfield 172) := mt_cd_of (q := (157, .getfield 172, 3)) mq_181 ci_181 (List.mem_append_right _ (List.mem_append_left _ (show _ ∈ my_181_1 from List.mem_of_getElem? (i := 34) rfl)))
theorem cd_181_160 : mt_cd 181 160 = some (.iload 8) := mt_cd_of (q := (160, .iload 8, 2)) mq_181 ci_181 (List.mem_append_right _ (List.mem_append_left _ (show _ ∈ my_181_1 from List.mem_of_getElem? (i := 35) rfl)))
theorem cd_181_162 : mt_cd 181 162 = some (.dup2) := mt_cd_of (q := (162, .dup2, 1)) mq_181 ci_181 (List.mem_append_right _ (List.mem_append_left _ (show _ ∈ my_181_1 from List.mem_of_getElem? (i := 36) rfl)))
theorem cd_181_163 : mt_cd 181 163 = some (.laload) := mt_cd_of (q := (163, .laload, 1)) mq_181 ci_181 (List.mem_append_right _ (List.mem_append_left _ (show _ ∈ my_181_1 from List.mem_of_getElem? (i := 37) rfl)))
theorem cd_181_164 : mt_cd 181 164 = some (.lload 5) := mt_cd_of (q := (164, .lload 5, 2)) mq_181 ci_181 (List.mem_append_right _ (List.mem_append_left _ (show _ ∈ my_181_1 from List.mem_of_getElem? (i := 38) rfl)))
theorem cd_181_166 : mt_cd 181 166 = some (.ladd) := mt_cd_of (q := (166, .ladd, 1)) mq_181 ci_181 (List.mem_append_right _ (List.mem_append_left _ (show _ ∈ my_181_1 from List.mem_of_getElem? (i := 39) rfl)))
theorem cd_181_167 : mt_cd 181 167 = some (.lastore) := mt_cd_of (q := (167, .lastore, 1)) mq_181 ci_181 (List.mem_append_right _ (List.mem_append_left _ (show _ ∈ my_181_1 from List.mem_of_getElem? (i := 40) rfl)))
theorem cd_181_168 : mt_cd 181 168 = some (.aload_n 0) := mt_cd_of (q := (168, .aload_n 0, 1)) mq_181 ci_181 (List.mem_append_right _ (List.mem_append_left _ (show _ ∈ my_181_1 from List.mem_of_getElem? (i := 41) rfl)))
theorem cd_181_169 : mt_cd 181 169 = some (.getfield 445) := mt_cd_of (q := (169, .getfield 445, 3)) mq_181 ci_181 (List.mem_append_right _ (List.mem_append_left _ (show _ ∈ my_181_1 from List.mem_of_getElem? (i := 42) rfl)))
theorem cd_181_172 : mt_cd 181 172 = some (.getfield 448) := mt_cd_of (q := (172, .getfield 448, 3)) mq_181 ci_181 (List.mem_append_right _ (List.mem_append_left _ (show _ ∈ my_181_1 from List.mem_of_getElem? (i := 43) rfl)))
theorem cd_181_175 : mt_cd 181 175 = some (.iload 7) := mt_cd_of (q := (175, .iload 7, 2)) mq_181 ci_181 (List.mem_append_right _ (List.mem_append_left _ (show _ ∈ my_181_1 from List.mem_of_getElem? (i := 44) rfl)))
theorem cd_181_177 : mt_cd 181 177 = some (.dup2) := mt_cd_of (q := (177, .dup2, 1)) mq_181 ci_181 (List.mem_append_right _ (List.mem_append_left _ (show _ ∈ my_181_1 from List.mem_of_getElem? (i := 45) rfl)))
theorem cd_181_178 : mt_cd 181 178 = some (.laload) := mt_cd_of (q := (178, .laload, 1)) mq_181 ci_181 (List.mem_append_right _ (List.mem_append_left _ (show _ ∈ my_181_1 from List.mem_of_getElem? (i := 46) rfl)))
theorem cd_181_179 : mt_cd 181 179 = some (.lload 5) := mt_cd_of (q := (179, .lload 5, 2)) mq_181 ci_181 (List.mem_append_right _ (List.mem_append_left _ (show _ ∈ my_181_1 from List.mem_of_getElem? (i := 47) rfl)))
theorem cd_181_181 : mt_cd 181 181 = some (.ladd) := mt_cd_of (q := (181, .ladd, 1)) mq_181 ci_181 (List.mem_append_right _ (List.mem_append_left _ (show _ ∈ my_181_1 from List.mem_of_getElem? (i := 48) rfl)))
theorem cd_181_182 : mt_cd 181 182 = some (.lastore) := mt_cd_of (q := (182, .lastore, 1)) mq_181 ci_181 (List.mem_append_right _ (List.mem_append_left _ (show _ ∈ my_181_1 from List.mem_of_getElem? (i := 49) rfl)))
theorem cd_181_183 : mt_cd 181 183 = some (.aload_n 0) := mt_cd_of (q := (183, .aload_n 0, 1)) mq_181 ci_181 (List.mem_append_right _ (List.mem_append_left _ (show _ ∈ my_181_1 from List.mem_of_getElem? (i := 50) rfl)))
theorem cd_181_184 : mt_cd 181 184 = some (.getfield 445) := mt_cd_of (q := (184, .getfield 445, 3)) mq_181 ci_181 (List.mem_append_right _ (List.mem_append_left _ (show _ ∈ my_181_1 from List.mem_of_getElem? (i := 51) rfl)))
theorem cd_181_187 : mt_cd 181 187 = some (.getfield 448) := mt_cd_of (q := (187, .getfield 448, 3)) mq_181 ci_181 (List.mem_append_right _ (List.mem_append_left _ (show _ ∈ my_181_1 from List.mem_of_getElem? (i := 52) rfl)))
theorem cd_181_190 : mt_cd 181 190 = some (.iload 7) := mt_cd_of (q := (190, .iload 7, 2)) mq_181 ci_181 (List.mem_append_right _ (List.mem_append_left _ (show _ ∈ my_181_1 from List.mem_of_getElem? (i := 53) rfl)))
theorem cd_181_192 : mt_cd 181 192 = some (.laload) := mt_cd_of (q := (192, .laload, 1)) mq_181 ci_181 (List.mem_append_right _ (List.mem_append_left _ (show _ ∈ my_181_1 from List.mem_of_getElem? (i := 54) rfl)))
theorem cd_181_193 : mt_cd 181 193 = some (.ldc2_w 437) := mt_cd_of (q := (193, .ldc2_w 437, 3)) mq_181 ci_181 (List.mem_append_right _ (List.mem_append_left _ (show _ ∈ my_181_1 from List.mem_of_getElem? (i := 55) rfl)))
theorem cd_181_196 : mt_cd 181 196 = some (.lcmp) := mt_cd_of (q := (196, .lcmp, 1)) mq_181 ci_181 (List.mem_append_right _ (List.mem_append_left _ (show _ ∈ my_181_1 from List.mem_of_getElem? (i := 56) rfl)))
theorem cd_181_197 : mt_cd 181 197 = some (.ifCond .gt 18) := mt_cd_of (q := (197, .ifCond .gt 18, 3)) mq_181 ci_181 (List.mem_append_right _ (List.mem_append_left _ (show _ ∈ my_181_1 from List.mem_of_getElem? (i := 57) rfl)))
theorem cd_181_200 : mt_cd 181 200 = some (.aload_n 0) := mt_cd_of (q := (200, .aload_n 0, 1)) mq_181 ci_181 (List.mem_append_right _ (List.mem_append_left _ (show _ ∈ my_181_1 from List.mem_of_getElem? (i := 58) rfl)))
theorem cd_181_201 : mt_cd 181 201 = some (.getfield 445) := mt_cd_of (q := (201, .getfield 445, 3)) mq_181 ci_181 (List.mem_append_right _ (List.mem_append_left _ (show _ ∈ my_181_1 from List.mem_of_getElem? (i := 59) rfl)))
theorem cd_181_204 : mt_cd 181 204 = some (.getfield 448) := mt_cd_of (q := (204, .getfield 448, 3)) mq_181 ci_181 (List.mem_append_right _ (List.mem_append_right _ ((show _ ∈ my_181_2 from List.mem_of_getElem? (i := 0) rfl))))
theorem cd_181_207 : mt_cd 181 207 = some (.iload 7) := mt_cd_of (q := (207, .iload 7, 2)) mq_181 ci_181 (List.mem_append_right _ (List.mem_append_right _ ((show _ ∈ my_181_2 from List.mem_of_getElem? (i := 1) rfl))))
theorem cd_181_209 : mt_cd 181 209 = some (.laload) := mt_cd_of (q := (209, .laload, 1)) mq_181 ci_181 (List.mem_append_right _ (List.mem_append_right _ ((show _ ∈ my_181_2 from List.mem_of_getElem? (i := 2) rfl))))
theorem cd_181_210 : mt_cd 181 210 = some (.lconst 0) := mt_cd_of (q := (210, .lconst 0, 1)) mq_181 ci_181 (List.mem_append_right _ (List.mem_append_right _ ((show _ ∈ my_181_2 from List.mem_of_getElem? (i := 3) rfl))))
theorem cd_181_211 : mt_cd 181 211 = some (.lcmp) := mt_cd_of (q := (211, .lcmp, 1)) mq_181 ci_181 (List.mem_append_right _ (List.mem_append_right _ ((show _ ∈ my_181_2 from List.mem_of_getElem? (i := 4) rfl))))
theorem cd_181_212 : mt_cd 181 212 = some (.ifCond .ge 6) := mt_cd_of (q := (212, .ifCond .ge 6, 3)) mq_181 ci_181 (List.mem_append_right _ (List.mem_append_right _ ((show _ ∈ my_181_2 from List.mem_of_getElem? (i := 5) rfl))))
theorem cd_181_215 : mt_cd 181 215 = some (.bipush 6) := mt_cd_of (q := (215, .bipush 6, 2)) mq_181 ci_181 (List.mem_append_right _ (List.mem_append_right _ ((show _ ∈ my_181_2 from List.mem_of_getElem? (i := 6) rfl))))
theorem cd_181_217 : mt_cd 181 217 = some (.ireturn) := mt_cd_of (q := (217, .ireturn, 1)) mq_181 ci_181 (List.mem_append_right _ (List.mem_append_right _ ((show _ ∈ my_181_2 from List.mem_of_getElem? (i := 7) rfl))))
theorem cd_181_218 : mt_cd 181 218 = some (.goto 49) := mt_cd_of (q := (218, .goto 49, 3)) mq_181 ci_181 (List.mem_append_right _ (List.mem_append_right _ ((show _ ∈ my_181_2 from List.mem_of_getElem? (i := 8) rfl))))
theorem cd_181_221 : mt_cd 181 221 = some (.aload_n 0) := mt_cd_of (q := (221, .aload_n 0, 1)) mq_181 ci_181 (List.mem_append_right _ (List.mem_append_right _ ((show _ ∈ my_181_2 from List.mem_of_getElem? (i := 9) rfl))))
theorem cd_181_222 : mt_cd 181 222 = some (.getfield 77) := mt_cd_of (q := (222, .getfield 77, 3)) mq_181 ci_181 (List.mem_append_right _ (List.mem_append_right _ ((show _ ∈ my_181_2 from List.mem_of_getElem? (i := 10) rfl))))
theorem cd_181_225 : mt_cd 181 225 = some (.iload_n 3) := mt_cd_of (q := (225, .iload_n 3, 1)) mq_181 ci_181 (List.mem_append_right _ (List.mem_append_right _ ((show _ ∈ my_181_2 from List.mem_of_getElem? (i := 11) rfl))))
theorem cd_181_226 : mt_cd 181 226 = some (.iaload) := mt_cd_of (q := (226, .iaload, 1)) mq_181 ci_181 (List.mem_append_right _ (List.mem_append_right _ ((show _ ∈ my_181_2 from List.mem_of_getElem? (i := 12) rfl))))
theorem cd_181_227 : mt_cd 181 227 = some (.bipush 8) := mt_cd_of (q := (227, .bipush 8, 2)) mq_181 ci_181 (List.mem_append_right _ (List.mem_append_right _ ((show _ ∈ my_181_2 from List.mem_of_getElem? (i := 13) rfl))))
theorem cd_181_229 : mt_cd 181 229 = some (.if_icmp .ne 38) := mt_cd_of (q := (229, .if_icmp .ne 38, 3)) mq_181 ci_181 (List.mem_append_right _ (List.mem_append_right _ ((show _ ∈ my_181_2 from List.mem_of_getElem? (i := 14) rfl))))
theorem cd_181_232 : mt_cd 181 232 = some (.aload_n 0) := mt_cd_of (q := (232, .aload_n 0, 1)) mq_181 ci_181 (List.mem_append_right _ (List.mem_append_right _ ((show _ ∈ my_181_2 from List.mem_of_getElem? (i := 15) rfl))))
theorem cd_181_233 : mt_cd 181 233 = some (.getfield 445) := mt_cd_of (q := (233, .getfield 445, 3)) mq_181 ci_181 (List.mem_append_right _ (List.mem_append_right _ ((show _ ∈ my_181_2 from List.mem_of_getElem? (i := 16) rfl))))
theorem cd_181_236 : mt_cd 181 236 = some (.getfield 459) := mt_cd_of (q := (236, .getfield 459, 3)) mq_181 ci_181 (List.mem_append_right _ (List.mem_append_right _ ((show _ ∈ my_181_2 from List.mem_of_getElem? (i := 17) rfl))))
theorem cd_181_239 : mt_cd 181 239 = some (.aload_n 0) := mt_cd_of (q := (239, .aload_n 0, 1)) mq_181 ci_181 (List.mem_append_right _ (List.mem_append_right _ ((show _ ∈ my_181_2 from List.mem_of_getElem? (i := 18) rfl))))
theorem cd_181_240 : mt_cd 181 240 = some (.getfield 80) := mt_cd_of (q := (240, .getfield 80, 3)) mq_181 ci_181 (List.mem_append_right _ (List.mem_append_right _ ((show _ ∈ my_181_2 from List.mem_of_getElem? (i := 19) rfl))))
theorem cd_181_243 : mt_cd 181 243 = some (.iload_n 3) := mt_cd_of (q := (243, .iload_n 3, 1)) mq_181 ci_181 (List.mem_append_right _ (List.mem_append_right _ ((show _ ∈ my_181_2 from List.mem_of_getElem? (i := 20) rfl))))
theorem cd_181_244 : mt_cd 181 244 = some (.iaload) := mt_cd_of (q := (244, .iaload, 1)) mq_181 ci_181 (List.mem_append_right _ (List.mem_append_right _ ((show _ ∈ my_181_2 from List.mem_of_getElem? (i := 21) rfl))))
theorem cd_181_245 : mt_cd 181 245 = some (.iconst 1) := mt_cd_of (q := (245, .iconst 1, 1)) mq_181 ci_181 (List.mem_append_right _ (List.mem_append_right _ ((show _ ∈ my_181_2 from List.mem_of_getElem? (i := 22) rfl))))
theorem cd_181_246 : mt_cd 181 246 = some (.bastore) := mt_cd_of (q := (246, .bastore, 1)) mq_181 ci_181 (List.mem_append_right _ (List.mem_append_right _ ((show _ ∈ my_181_2 from List.mem_of_getElem? (i := 23) rfl))))
theorem cd_181_247 : mt_cd 181 247 = some (.aload_n 0) := mt_cd_of (q := (247, .aload_n 0, 1)) mq_181 ci_181 (List.mem_append_right _ (List.mem_append_right _ ((show _ ∈ my_181_2 from List.mem_of_getElem? (i := 24) rfl))))
theorem cd_181_248 : mt_cd 181 248 = some (.getfield 445) := mt_cd_of (q := (248, .getfield 445, 3)) mq_181 ci_181 (List.mem_append_right _ (List.mem_append_right _ ((show _ ∈ my_181_2 from List.mem_of_getElem? (i := 25) rfl))))
theorem cd_181_251 : mt_cd 181 251 = some (.getfield 463) := mt_cd_of (q := (251, .getfield 463, 3)) mq_181 ci_181 (List.mem_append_right _ (List.mem_append_right _ ((show _ ∈ my_181_2 from List.mem_of_getElem? (i := 26) rfl))))
theorem cd_181_254 : mt_cd 181 254 = some (.aload_n 0) := mt_cd_of (q := (254, .aload_n 0, 1)) mq_181 ci_181 (List.mem_append_right _ (List.mem_append_right _ ((show _ ∈ my_181_2 from List.mem_of_getElem? (i := 27) rfl))))
theorem cd_181_255 : mt_cd 181 255 = some (.getfield 80) := mt_cd_of (q := (255, .getfield 80, 3)) mq_181 ci_181 (List.mem_append_right _ (List.mem_append_right _ ((show _ ∈ my_181_2 from List.mem_of_getElem? (i := 28) rfl))))
theorem cd_181_258 : mt_cd 181 258 = some (.iload_n 3) := mt_cd_of (q := (258, .iload_n 3, 1)) mq_181 ci_181 (List.mem_append_right _ (List.mem_append_right _ ((show _ ∈ my_181_2 from List.mem_of_getElem? (i := 29) rfl))))
theorem cd_181_259 : mt_cd 181 259 = some (.iaload) := mt_cd_of (q := (259, .iaload, 1)) mq_181 ci_181 (List.mem_append_right _ (List.mem_append_right _ ((show _ ∈ my_181_2 from List.mem_of_getElem? (i := 30) rfl))))
theorem cd_181_260 : mt_cd 181 260 = some (.aload_n 0) := mt_cd_of (q := (260, .aload_n 0, 1)) mq_181 ci_181 (List.mem_append_right _ (List.mem_append_right _ ((show _ ∈ my_181_2 from List.mem_of_getElem? (i := 31) rfl))))
theorem cd_181_261 : mt_cd 181 261 = some (.getfield 190) := mt_cd_of (q := (261, .getfield 190, 3)) mq_181 ci_181 (List.mem_append_right _ (List.mem_append_right _ ((show _ ∈ my_181_2 from List.mem_of_getElem? (i := 32) rfl))))
theorem cd_181_264 : mt_cd 181 264 = some (.iload_n 1) := mt_cd_of (q := (264, .iload_n 1, 1)) mq_181 ci_181 (List.mem_append_right _ (List.mem_append_right _ ((show _ ∈ my_181_2 from List.mem_of_getElem? (i := 33) rfl))))
theorem cd_181_265 : mt_cd 181 265 = some (.laload) := mt_cd_of (q := (265, .laload, 1)) mq_181 ci_181 (List.mem_append_right _ (List.mem_append_right _ ((show _ ∈ my_181_2 from List.mem_of_getElem? (i := 34) rfl))))
theorem cd_181_266 : mt_cd 181 266 = some (.lastore) := mt_cd_of (q := (266, .lastore, 1)) mq_181 ci_181 (List.mem_append_right _ (List.mem_append_right _ ((show _ ∈ my_181_2 from List.mem_of_getElem? (i := 35) rfl))))
theorem cd_181_267 : mt_cd 181 267 = some (.aload_n 0) := mt_cd_of (q := (267, .aload_n 0, 1)) mq_181 ci_181 (List.mem_append_right _ (List.mem_append_right _ ((show _ ∈ my_181_2 from List.mem_of_getElem? (i := 36) rfl))))
theorem cd_181_268 : mt_cd 181 268 = some (.getfield 445) := mt_cd_of (q := (268, .getfield 445, 3)) mq_181 ci_181 (List.mem_append_right _ (List.mem_append_right _ ((show _ ∈ my_181_2 from List.mem_of_getElem? (i := 37) rfl))))
theorem cd_181_271 : mt_cd 181 271 = some (.aload_n 0) := mt_cd_of (q := (271, .aload_n 0, 1)) mq_181 ci_181 (List.mem_append_right _ (List.mem_append_right _ ((show _ ∈ my_181_2 from List.mem_of_getElem? (i := 38) rfl))))
theorem cd_181_272 : mt_cd 181 272 = some (.getfield 98) := mt_cd_of (q := (272, .getfield 98, 3)) mq_181 ci_181 (List.mem_append_right _ (List.mem_append_right _ ((show _ ∈ my_181_2 from List.mem_of_getElem? (i := 39) rfl))))
theorem cd_181_275 : mt_cd 181 275 = some (.iload_n 3) := mt_cd_of (q := (275, .iload_n 3, 1)) mq_181 ci_181 (List.mem_append_right _ (List.mem_append_right _ ((show _ ∈ my_181_2 from List.mem_of_getElem? (i := 40) rfl))))
theorem cd_181_276 : mt_cd 181 276 = some (.iaload) := mt_cd_of (q := (276, .iaload, 1)) mq_181 ci_181 (List.mem_append_right _ (List.mem_append_right _ ((show _ ∈ my_181_2 from List.mem_of_getElem? (i := 41) rfl))))
theorem cd_181_277 : mt_cd 181 277 = some (.putfield 496) := mt_cd_of (q := (277, .putfield 496, 3)) mq_181 ci_181 (List.mem_append_right _ (List.mem_append_right _ ((show _ ∈ my_181_2 from List.mem_of_getElem? (i := 42) rfl))))
theorem cd_181_280 : mt_cd 181 280 = some (.iconst 0) := mt_cd_of (q := (280, .iconst 0, 1)) mq_181 ci_181 (List.mem_append_right _ (List.mem_append_right _ ((show _ ∈ my_181_2 from List.mem_of_getElem? (i := 43) rfl))))
theorem cd_181_281 : mt_cd 181 281 = some (.ireturn) := mt_cd_of (q := (281, .ireturn, 1)) mq_181 ci_181 (List.mem_append_right _ (List.mem_append_right _ ((show _ ∈ my_181_2 from List.mem_of_getElem? (i := 44) rfl))))
theorem cd_181_282 : mt_cd 181 282 = some (.aload_n 0) := mt_cd_of (q := (282, .aload_n 0, 1)) mq_181 ci_181 (List.mem_append_right _ (List.mem_append_right _ ((show _ ∈ my_181_2 from List.mem_of_getElem? (i := 45) rfl))))
theorem cd_181_283 : mt_cd 181 283 = some (.getfield 138) := mt_cd_of (q := (283, .getfield 138, 3)) mq_181 ci_181 (List.mem_append_right _ (List.mem_append_right _ ((show _ ∈ my_181_2 from List.mem_of_getElem? (i := 46) rfl))))
theorem cd_181_286 : mt_cd 181 286 = some (.iload_n 3) := mt_cd_of (q := (286, .iload_n 3, 1)) mq_181 ci_181 (List.mem_append_right _ (List.mem_append_right _ ((show _ ∈ my_181_2 from List.mem_of_getElem? (i := 47) rfl))))
theorem cd_181_287 : mt_cd 181 287 = some (.iaload) := mt_cd_of (q := (287, .iaload, 1)) mq_181 ci_181 (List.mem_append_right _ (List.mem_append_right _ ((show _ ∈ my_181_2 from List.mem_of_getElem? (i := 48) rfl))))
theorem cd_181_288 : mt_cd 181 288 = some (.istore_n 3) := mt_cd_of (q := (288, .istore_n 3, 1)) mq_181 ci_181 (List.mem_append_right _ (List.mem_append_right _ ((show _ ∈ my_181_2 from List.mem_of_getElem? (i := 49) rfl))))
theorem cd_181_289 : mt_cd 181 289 = some (.goto (-262)) := mt_cd_of (q := (289, .goto (-262), 3)) mq_181 ci_181 (List.mem_append_right _ (List.mem_append_right _ ((show _ ∈ my_181_2 from List.mem_of_getElem? (i := 50) rfl))))
theorem cd_181_292 : mt_cd 181 292 = some (.iconst 4) := mt_cd_of (q := (292, .iconst 4, 1)) mq_181 ci_181 (List.mem_append_right _ (List.mem_append_right _ ((show _ ∈ my_181_2 from List.mem_of_getElem? (i := 51) rfl))))
theorem cd_181_293 : mt_cd 181 293 = some (.ireturn) := mt_cd_of (q := (293, .ireturn, 1)) mq_181 ci_181 (List.mem_append_right _ (List.mem_append_right _ ((show _ ∈ my_181_2 from List.mem_of_getElem? (i := 52) rfl))))
theorem b_181_0 {d : Nat} {Q : (Option Value ⊕ Nat) → mi_H → Prop} (n sl : Nat) (f : Nat → mi_C) {l1 : Nat} {l2 : Int32} {o3 : Option Value} {o4 : Option Value} {o5 : Option Value} {o6 : Option Value} {o7 : Option Value} {o8 : Option Value} {o9 : Option Value} {fs10 : List Value} {x13 : Nat} {fs15 : List Value} {x18 : Int32} {fs20 : List Value} {x23 : Nat} (m25 i25 : Nat) (g25 : Nat → Int32) (h11 : f l1 = .inr (12, fs10)) (h12 : l1 < n) (h14 : fs10[43]? = some (.ref x13)) (h16 : f x13 = .inr (13, fs15)) (h17 : x13 < n) (h19 : fs15[0]? = some (.int x18)) (h21 : f l1 = .inr (12, fs20)) (h22 : l1 < n) (h24 : fs20[12]? = some (.ref x23)) (h26 : f x23 = .inl (0, m25, .inl g25)) (h27 : x23 < n ∨ x23 = mi_SC) (h28 : mi_ix x18 m25 i25) (h29 : (g25 i25) = 4 → mi_W d 181 20 [some (.ref l1), some (.int l2), some (.int x18), o4, o5, o6, o7, o8, o9] [] (n, sl, f) Q) (h30 : ¬ ((g25 i25) = 4) → mi_W d 181 18 [some (.ref l1), some (.int l2), some (.int x18), o4, o5, o6, o7, o8, o9] [] (n, sl, f) Q) : mi_W d 181 0 [some (.ref l1), some (.int l2), o3, o4, o5, o6, o7, o8, o9] [] (n, sl, f) Q := by
  refine w_aload_n cd_181_0 rfl ?_
  refine w_getfield cd_181_1 (show mt_f 12 445 = some (12, 43) by decide +kernel) h11 h12 h14 ?_
  refine w_getfield cd_181_4 (show mt_f 12 496 = some (13, 0) by decide +kernel) h16 h17 h19 ?_
  refine w_istore_n (ls' := [some (.ref l1), some (.int l2), some (.int x18), o4, o5, o6, o7, o8, o9]) cd_181_7 (Nat.le_of_ble_eq_true rfl) rfl ?_
  refine w_aload_n cd_181_8 rfl ?_
  refine w_getfield cd_181_9 (show mt_f 12 77 = some (12, 12) by decide +kernel) h21 h22 h24 ?_
  refine w_iload_n cd_181_12 rfl ?_
  refine w_iaload cd_181_13 h26 h27 h28 ?_
  refine w_iconst (v := 4) cd_181_14 (by decide) ?_
  exact w_if_icmpeq cd_181_15 (by decide) h29 h30
theorem b_181_18 {d : Nat} {Q : (Option Value ⊕ Nat) → mi_H → Prop} (n sl : Nat) (f : Nat → mi_C) {l1 : Nat} {l2 : Int32} {l3 : Int32} {o4 : Option Value} {o5 : Option Value} {o6 : Option Value} {o7 : Option Value} {o8 : Option Value} {o9 : Option Value} (h10 : Q (.inl (some (.int 4))) (n, sl, f)) : mi_W d 181 18 [some (.ref l1), some (.int l2), some (.int l3), o4, o5, o6, o7, o8, o9] [] (n, sl, f) Q := by
  refine w_iconst (v := 4) cd_181_18 (by decide) ?_
  exact w_ireturn_i cd_181_19 (by decide +kernel) h10
theorem b_181_20 {d : Nat} {Q : (Option Value ⊕ Nat) → mi_H → Prop} (n sl : Nat) (f : Nat → mi_C) {l1 : Nat} {l2 : Int32} {l3 : Int32} {o4 : Option Value} {o5 : Option Value} {o6 : Option Value} {o7 : Option Value} {o8 : Option Value} {o9 : Option Value} {fs10 : List Value} {x13 : Nat} (m15 i15 : Nat) (g15 : Nat → Int32) (h11 : f l1 = .inr (12, fs10)) (h12 : l1 < n) (h14 : fs10[17]? = some (.ref x13)) (h16 : f x13 = .inl (0, m15, .inl g15)) (h17 : x13 < n ∨ x13 = mi_SC) (h18 : mi_ix l3 m15 i15) (h19 : mi_W d 181 27 [some (.ref l1), some (.int l2), some (.int l3), some (.int (g15 i15)), o5, o6, o7, o8, o9] [] (n, sl, f) Q) : mi_W d 181 20 [some (.ref l1), some (.int l2), some (.int l3), o4, o5, o6, o7, o8, o9] [] (n, sl, f) Q := by
  refine w_aload_n cd_181_20 rfl ?_
  refine w_getfield cd_181_21 (show mt_f 12 92 = some (12, 17) by decide +kernel) h11 h12 h14 ?_
  refine w_iload_n cd_181_24 rfl ?_
  refine w_iaload cd_181_25 h16 h17 h18 ?_
  refine w_istore_n (ls' := [some (.ref l1), some (.int l2), some (.int l3), some (.int (g15 i15)), o5, o6, o7, o8, o9]) cd_181_26 (Nat.le_of_ble_eq_true rfl) rfl ?_
  exact h19
theorem b_181_27 {d : Nat} {Q : (Option Value ⊕ Nat) → mi_H → Prop} (n sl : Nat) (f : Nat → mi_C) {l1 : Nat} {l2 : Int32} {l3 : Int32} {l4 : Int32} {o5 : Option Value} {o6 : Option Value} {o7 : Option Value} {o8 : Option Value} {o9 : Option Value} (h10 : l4 < (0 : Int32) → mi_W d 181 292 [some (.ref l1), some (.int l2), some (.int l3), some (.int l4), o5, o6, o7, o8, o9] [] (n, sl, f) Q) (h11 : ¬ (l4 < (0 : Int32)) → mi_W d 181 31 [some (.ref l1), some (.int l2), some (.int l3), some (.int l4), o5, o6, o7, o8, o9] [] (n, sl, f) Q) : mi_W d 181 27 [some (.ref l1), some (.int l2), some (.int l3), some (.int l4), o5, o6, o7, o8, o9] [] (n, sl, f) Q := by
  refine w_iload_n cd_181_27 rfl ?_
  exact w_iflt cd_181_28 (by decide) h10 h11
theorem b_181_31 {d : Nat} {Q : (Option Value ⊕ Nat) → mi_H → Prop} (n sl : Nat) (f : Nat → mi_C) {l1 : Nat} {l2 : Int32} {l3 : Int32} {l4 : Int32} {o5 : Option Value} {o6 : Option Value} {o7 : Option Value} {o8 : Option Value} {o9 : Option Value} {fs10 : List Value} (h11 : f l1 = .inr (12, fs10)) (h12 : l1 < n) (h13 : mi_W d 182 0 (mi_en 5 [.ref l1, .int l4, .int l2]) [] (n, sl, f) (mi_Kc d 181 34 [some (.ref l1), some (.int l2), some (.int l3), some (.int l4), o5, o6, o7, o8, o9] [] Q)) : mi_W (d + 1) 181 31 [some (.ref l1), some (.int l2), some (.int l3), some (.int l4), o5, o6, o7, o8, o9] [] (n, sl, f) Q := by
  refine w_aload_n cd_181_31 rfl ?_
  refine w_iload_n cd_181_32 rfl ?_
  refine w_iload_n cd_181_33 rfl ?_
  exact w_invokevirtual cd_181_34 (show mt_m 12 509 = some (182, 0) by decide +kernel) (rest := []) rfl (as := [.ref l1, .int l4, .int l2]) rfl h11 (Or.inl h12) ⟨Nat.le_of_ble_eq_true rfl, Nat.le_of_ble_eq_true rfl, Nat.le_of_ble_eq_true rfl⟩ h13
theorem b_181_37 {d : Nat} {Q : (Option Value ⊕ Nat) → mi_H → Prop} (n sl : Nat) (f : Nat → mi_C) {l1 : Nat} {l2 : Int32} {l3 : Int32} {l4 : Int32} {o5 : Option Value} {o6 : Option Value} {o7 : Option Value} {o8 : Option Value} {o9 : Option Value} {s10 : Int32} (h11 : s10 ≤ 1 → mi_W d 181 48 [some (.ref l1), some (.int l2), some (.int l3), some (.int l4), some (.int s10), o6, o7, o8, o9] [] (n, sl, f) Q) (h12 : ¬ (s10 ≤ 1) → mi_W d 181 45 [some (.ref l1), some (.int l2), some (.int l3), some (.int l4), some (.int s10), o6, o7, o8, o9] [] (n, sl, f) Q) : mi_W d 181 37 [some (.ref l1), some (.int l2), some (.int l3), some (.int l4), o5, o6, o7, o8, o9] [.int s10] (n, sl, f) Q := by
  refine w_istore (ls' := [some (.ref l1), some (.int l2), some (.int l3), some (.int l4), some (.int s10), o6, o7, o8, o9]) cd_181_37 (Nat.le_of_ble_eq_true rfl) rfl ?_
  refine w_iload cd_181_39 rfl ?_
  refine w_iconst (v := 1) cd_181_41 (by decide) ?_
  exact w_if_icmple cd_181_42 (by decide) h11 h12
theorem b_181_45 {d : Nat} {Q : (Option Value ⊕ Nat) → mi_H → Prop} (n sl : Nat) (f : Nat → mi_C) {l1 : Nat} {l2 : Int32} {l3 : Int32} {l4 : Int32} {l5 : Int32} {o6 : Option Value} {o7 : Option Value} {o8 : Option Value} {o9 : Option Value} (h10 : Q (.inl (some (.int l5))) (n, sl, f)) : mi_W d 181 45 [some (.ref l1), some (.int l2), some (.int l3), some (.int l4), some (.int l5), o6, o7, o8, o9] [] (n, sl, f) Q := by
  refine w_iload cd_181_45 rfl ?_
  exact w_ireturn_i cd_181_47 (by decide +kernel) h10
theorem b_181_48 {d : Nat} {Q : (Option Value ⊕ Nat) → mi_H → Prop} (n sl : Nat) (f : Nat → mi_C) {l1 : Nat} {l2 : Int32} {l3 : Int32} {l4 : Int32} {l5 : Int32} {o6 : Option Value} {o7 : Option Value} {o8 : Option Value} {o9 : Option Value} (h10 : ¬ l5 = (0 : Int32) → mi_W d 181 56 [some (.ref l1), some (.int l2), some (.int l3), some (.int l4), some (.int l5), o6, o7, o8, o9] [] (n, sl, f) Q) (h11 : ¬ (¬ l5 = (0 : Int32)) → mi_W d 181 53 [some (.ref l1), some (.int l2), some (.int l3), some (.int l4), some (.int l5), o6, o7, o8, o9] [] (n, sl, f) Q) : mi_W d 181 48 [some (.ref l1), some (.int l2), some (.int l3), some (.int l4), some (.int l5), o6, o7, o8, o9] [] (n, sl, f) Q := by
  refine w_iload cd_181_48 rfl ?_
  exact w_ifne cd_181_50 (by decide) h10 h11
theorem b_181_53 {d : Nat} {Q : (Option Value ⊕ Nat) → mi_H → Prop} (n sl : Nat) (f : Nat → mi_C) {l1 : Nat} {l2 : Int32} {l3 : Int32} {l4 : Int32} {l5 : Int32} {o6 : Option Value} {o7 : Option Value} {o8 : Option Value} {o9 : Option Value} (h10 : mi_W d 181 282 [some (.ref l1), some (.int l2), some (.int l3), some (.int l4), some (.int l5), o6, o7, o8, o9] [] (n, sl, f) Q) : mi_W d 181 53 [some (.ref l1), some (.int l2), some (.int l3), some (.int l4), some (.int l5), o6, o7, o8, o9] [] (n, sl, f) Q := by
  exact w_goto cd_181_53 (by decide) h10
theorem b_181_56 {d : Nat} {Q : (Option Value ⊕ Nat) → mi_H → Prop} (n sl : Nat) (f : Nat → mi_C) {l1 : Nat} {l2 : Int32} {l3 : Int32} {l4 : Int32} {l5 : Int32} {o6 : Option Value} {o7 : Option Value} {o8 : Option Value} {o9 : Option Value} {fs10 : List Value} {x13 : Nat} (m15 i15 : Nat) (g15 : Nat → Int32) (h11 : f l1 = .inr (12, fs10)) (h12 : l1 < n) (h14 : fs10[12]? = some (.ref x13)) (h16 : f x13 = .inl (0, m15, .inl g15)) (h17 : x13 < n ∨ x13 = mi_SC) (h18 : mi_ix l4 m15 i15) (h19 : ¬ (g15 i15) = 7 → mi_W d 181 221 [some (.ref l1), some (.int l2), some (.int l3), some (.int l4), some (.int l5), o6, o7, o8, o9] [] (n, sl, f) Q) (h20 : ¬ (¬ (g15 i15) = 7) → mi_W d 181 67 [some (.ref l1), some (.int l2), some (.int l3), some (.int l4), some (.int l5), o6, o7, o8, o9] [] (n, sl, f) Q) : mi_W d 181 56 [some (.ref l1), some (.int l2), some (.int l3), some (.int l4), some (.int l5), o6, o7, o8, o9] [] (n, sl, f) Q := by
  refine w_aload_n cd_181_56 rfl ?_
  refine w_getfield cd_181_57 (show mt_f 12 77 = some (12, 12) by decide +kernel) h11 h12 h14 ?_
  refine w_iload_n cd_181_60 rfl ?_
  refine w_iaload cd_181_61 h16 h17 h18 ?_
  refine w_bipush (v := 7) cd_181_62 (by decide) ?_
  exact w_if_icmpne cd_181_64 (by decide) h19 h20
theorem b_181_67 {d : Nat} {Q : (Option Value ⊕ Nat) → mi_H → Prop} (n sl : Nat) (f : Nat → mi_C) {l1 : Nat} {l2 : Int32} {l3 : Int32} {l4 : Int32} {l5 : Int32} {o6 : Option Value} {o7 : Option Value} {o8 : Option Value} {o9 : Option Value} {fs10 : List Value} {x13 : Nat} (m15 i15 : Nat) (g15 : Nat → Int64) {fs19 : List Value} {x22 : Nat} (m24 i24 : Nat) (g24 : Nat → Int32) {fs28 : List Value} {x31 : Nat} (m33 i33 : Nat) (g33 : Nat → Int32) {fs37 : List Value} {x40 : Nat} (m42 i42 : Nat) (g42 : Nat → Int32) {fs46 : List Value} {x49 : Nat} (m51 i51 : Nat) (g51 : Nat → Int32) (h11 : f l1 = .inr (12, fs10)) (h12 : l1 < n) (h14 : fs10[64]? = some (.ref x13)) (h16 : f x13 = .inl (3, m15, .inr (.inl g15))) (h17 : x13 < n) (h18 : mi_ix l2 m15 i15) (h20 : f l1 = .inr (12, fs19)) (h21 : l1 < n) (h23 : fs19[13]? = some (.ref x22)) (h25 : f x22 = .inl (0, m24, .inl g24)) (h26 : x22 < n ∨ x22 = mi_SC) (h27 : mi_ix l4 m24 i24) (h29 : f l1 = .inr (12, fs28)) (h30 : l1 < n) (h32 : fs28[15]? = some (.ref x31)) (h34 : f x31 = .inl (0, m33, .inl g33)) (h35 : x31 < n ∨ x31 = mi_SC) (h36 : mi_ix l4 m33 i33) (h38 : f l1 = .inr (12, fs37)) (h39 : l1 < n) (h41 : fs37[14]? = some (.ref x40)) (h43 : f x40 = .inl (0, m42, .inl g42)) (h44 : x40 < n ∨ x40 = mi_SC) (h45 : mi_ix l4 m42 i42) (h47 : f l1 = .inr (12, fs46)) (h48 : l1 < n) (h50 : fs46[15]? = some (.ref x49)) (h52 : f x49 = .inl (0, m51, .inl g51)) (h53 : x49 < n ∨ x49 = mi_SC) (h54 : mi_ix l4 m51 i51) (h55 : (0 : Int32) < (lg_cmp (g15 i15) 0) → mi_W d 181 125 [some (.ref l1), some (.int l2), some (.int l3), some (.int l4), some (.int l5), some (.long (g15 i15)), none, some (.int ((4 * (g24 i24)) + (g33 i33))), some (.int ((4 * (g42 i42)) + (g51 i51)))] [] (n, sl, f) Q) (h56 : ¬ ((0 : Int32) < (lg_cmp (g15 i15) 0)) → mi_W d 181 116 [some (.ref l1), some (.int l2), some (.int l3), some (.int l4), some (.int l5), some (.long (g15 i15)), none, some (.int ((4 * (g24 i24)) + (g33 i33))), some (.int ((4 * (g42 i42)) + (g51 i51)))] [] (n, sl, f) Q) : mi_W d 181 67 [some (.ref l1), some (.int l2), some (.int l3), some (.int l4), some (.int l5), o6, o7, o8, o9] [] (n, sl, f) Q := by
  refine w_aload_n cd_181_67 rfl ?_
  refine w_getfield cd_181_68 (show mt_f 12 190 = some (12, 64) by decide +kernel) h11 h12 h14 ?_
  refine w_iload_n cd_181_71 rfl ?_
  refine w_laload cd_181_72 h16 h17 h18 ?_
  refine w_lstore (ls' := [some (.ref l1), some (.int l2), some (.int l3), some (.int l4), some (.int l5), some (.long (g15 i15)), none, o8, o9]) cd_181_73 (Nat.le_of_ble_eq_true rfl) rfl ?_
  refine w_iconst (v := 4) cd_181_75 (by decide) ?_
  refine w_aload_n cd_181_76 rfl ?_
  refine w_getfield cd_181_77 (show mt_f 12 80 = some (12, 13) by decide +kernel) h20 h21 h23 ?_
  refine w_iload_n cd_181_80 rfl ?_
  refine w_iaload cd_181_81 h25 h26 h27 ?_
  refine w_imul cd_181_82 ?_
  refine w_aload_n cd_181_83 rfl ?_
  refine w_getfield cd_181_84 (show mt_f 12 86 = some (12, 15) by decide +kernel) h29 h30 h32 ?_
  refine w_iload_n cd_181_87 rfl ?_
  refine w_iaload cd_181_88 h34 h35 h36 ?_
  refine w_iadd cd_181_89 ?_
  refine w_istore (ls' := [some (.ref l1), some (.int l2), some (.int l3), some (.int l4), some (.int l5), some (.long (g15 i15)), none, some (.int ((4 * (g24 i24)) + (g33 i33))), o9]) cd_181_90 (Nat.le_of_ble_eq_true rfl) rfl ?_
  refine w_iconst (v := 4) cd_181_92 (by decide) ?_
  refine w_aload_n cd_181_93 rfl ?_
  refine w_getfield cd_181_94 (show mt_f 12 83 = some (12, 14) by decide +kernel) h38 h39 h41 ?_
  refine w_iload_n cd_181_97 rfl ?_
  refine w_iaload cd_181_98 h43 h44 h45 ?_
  refine w_imul cd_181_99 ?_
  refine w_aload_n cd_181_100 rfl ?_
  refine w_getfield cd_181_101 (show mt_f 12 86 = some (12, 15) by decide +kernel) h47 h48 h50 ?_
  refine w_iload_n cd_181_104 rfl ?_
  refine w_iaload cd_181_105 h52 h53 h54 ?_
  refine w_iadd cd_181_106 ?_
  refine w_istore (ls' := [some (.ref l1), some (.int l2), some (.int l3), some (.int l4), some (.int l5), some (.long (g15 i15)), none, some (.int ((4 * (g24 i24)) + (g33 i33))), some (.int ((4 * (g42 i42)) + (g51 i51)))]) cd_181_107 (Nat.le_of_ble_eq_true rfl) rfl ?_
  refine w_lload cd_181_109 rfl ?_
  refine w_lconst (lv := 0) cd_181_111 (by decide) ?_
  refine w_lcmp cd_181_112 ?_
  exact w_ifgt cd_181_113 (by decide) h55 h56
theorem b_181_116 {d : Nat} {Q : (Option Value ⊕ Nat) → mi_H → Prop} (n sl : Nat) (f : Nat → mi_C) {l1 : Nat} {l2 : Int32} {l3 : Int32} {l4 : Int32} {l5 : Int32} {l6 : Int64} {l7 : Int32} {l8 : Int32} {fs9 : List Value} (h10 : f l1 = .inr (12, fs9)) (h11 : l1 < n) (h12 : mi_W d 180 0 (mi_en 3 [.ref l1, .int 1, .int l4]) [] (n, sl, f) (mi_Kc d 181 119 [some (.ref l1), some (.int l2), some (.int l3), some (.int l4), some (.int l5), some (.long l6), none, some (.int l7), some (.int l8)] [] Q)) : mi_W (d + 1) 181 116 [some (.ref l1), some (.int l2), some (.int l3), some (.int l4), some (.int l5), some (.long l6), none, some (.int l7), some (.int l8)] [] (n, sl, f) Q := by
  refine w_aload_n cd_181_116 rfl ?_
  refine w_iconst (v := 1) cd_181_117 (by decide) ?_
  refine w_iload_n cd_181_118 rfl ?_
  exact w_invokevirtual cd_181_119 (show mt_m 12 502 = some (180, 0) by decide +kernel) (rest := []) rfl (as := [.ref l1, .int 1, .int l4]) rfl h10 (Or.inl h11) ⟨Nat.le_of_ble_eq_true rfl, Nat.le_of_ble_eq_true rfl, Nat.le_of_ble_eq_true rfl⟩ h12
theorem b_181_122 {d : Nat} {Q : (Option Value ⊕ Nat) → mi_H → Prop} (n sl : Nat) (f : Nat → mi_C) {l1 : Nat} {l2 : Int32} {l3 : Int32} {l4 : Int32} {l5 : Int32} {l6 : Int64} {l7 : Int32} {l8 : Int32} (h9 : mi_W d 181 218 [some (.ref l1), some (.int l2), some (.int l3), some (.int l4), some (.int l5), some (.long l6), none, some (.int l7), some (.int l8)] [] (n, sl, f) Q) : mi_W d 181 122 [some (.ref l1), some (.int l2), some (.int l3), some (.int l4), some (.int l5), some (.long l6), none, some (.int l7), some (.int l8)] [] (n, sl, f) Q := by
  exact w_goto cd_181_122 (by decide) h9
theorem b_181_125 {d : Nat} {Q : (Option Value ⊕ Nat) → mi_H → Prop} (n sl : Nat) (f : Nat → mi_C) {l1 : Nat} {l2 : Int32} {l3 : Int32} {l4 : Int32} {l5 : Int32} {l6 : Int64} {l7 : Int32} {l8 : Int32} {fs9 : List Value} {x12 : Int32} (h10 : f l1 = .inr (12, fs9)) (h11 : l1 < n) (h13 : fs9[57]? = some (.int x12)) (h14 : x12 = (0 : Int32) → mi_W d 181 156 [some (.ref l1), some (.int l2), some (.int l3), some (.int l4), some (.int l5), some (.long l6), none, some (.int l7), some (.int l8)] [] (n, sl, f) Q) (h15 : ¬ (x12 = (0 : Int32)) → mi_W d 181 132 [some (.ref l1), some (.int l2), some (.int l3), some (.int l4), some (.int l5), some (.long l6), none, some (.int l7), some (.int l8)] [] (n, sl, f) Q) : mi_W d 181 125 [some (.ref l1), some (.int l2), some (.int l3), some (.int l4), some (.int l5), some (.long l6), none, some (.int l7), some (.int l8)] [] (n, sl, f) Q := by
  refine w_aload_n cd_181_125 rfl ?_
  refine w_getfield cd_181_126 (show mt_f 12 513 = some (12, 57) by decide +kernel) h10 h11 h13 ?_
  exact w_ifeq cd_181_129 (by decide) h14 h15
theorem b_181_132 {d : Nat} {Q : (Option Value ⊕ Nat) → mi_H → Prop} (n sl : Nat) (f : Nat → mi_C) {l1 : Nat} {l2 : Int32} {l3 : Int32} {l4 : Int32} {l5 : Int32} {l6 : Int64} {l7 : Int32} {l8 : Int32} {fs9 : List Value} {x12 : Nat} (m14 i14 : Nat) (g14 : Nat → Int64) {fs18 : List Value} {x21 : Nat} (m23 i23 : Nat) (g23 : Nat → Int64) (h10 : f l1 = .inr (12, fs9)) (h11 : l1 < n) (h13 : fs9[56]? = some (.ref x12)) (h15 : f x12 = .inl (3, m14, .inr (.inl g14))) (h16 : x12 < n) (h17 : mi_ix l8 m14 i14) (h19 : f l1 = .inr (12, fs18)) (h20 : l1 < n) (h22 : fs18[55]? = some (.ref x21)) (h24 : f x21 = .inl (3, m23, .inr (.inl g23))) (h25 : x21 < n) (h26 : mi_ix l8 m23 i23) (h27 : (0 : Int32) ≤ (lg_cmp ((g14 i14) - (g23 i23)) l6) → mi_W d 181 156 [some (.ref l1), some (.int l2), some (.int l3), some (.int l4), some (.int l5), some (.long l6), none, some (.int l7), some (.int l8)] [] (n, sl, f) Q) (h28 : ¬ ((0 : Int32) ≤ (lg_cmp ((g14 i14) - (g23 i23)) l6)) → mi_W d 181 153 [some (.ref l1), some (.int l2), some (.int l3), some (.int l4), some (.int l5), some (.long l6), none, some (.int l7), some (.int l8)] [] (n, sl, f) Q) : mi_W d 181 132 [some (.ref l1), some (.int l2), some (.int l3), some (.int l4), some (.int l5), some (.long l6), none, some (.int l7), some (.int l8)] [] (n, sl, f) Q := by
  refine w_aload_n cd_181_132 rfl ?_
  refine w_getfield cd_181_133 (show mt_f 12 175 = some (12, 56) by decide +kernel) h10 h11 h13 ?_
  refine w_iload cd_181_136 rfl ?_
  refine w_laload cd_181_138 h15 h16 h17 ?_
  refine w_aload_n cd_181_139 rfl ?_
  refine w_getfield cd_181_140 (show mt_f 12 172 = some (12, 55) by decide +kernel) h19 h20 h22 ?_
  refine w_iload cd_181_143 rfl ?_
  refine w_laload cd_181_145 h24 h25 h26 ?_
  refine w_lsub cd_181_146 ?_
  refine w_lload cd_181_147 rfl ?_
  refine w_lcmp cd_181_149 ?_
  exact w_ifge cd_181_150 (by decide) h27 h28
theorem b_181_153 {d : Nat} {Q : (Option Value ⊕ Nat) → mi_H → Prop} (n sl : Nat) (f : Nat → mi_C) {l1 : Nat} {l2 : Int32} {l3 : Int32} {l4 : Int32} {l5 : Int32} {l6 : Int64} {l7 : Int32} {l8 : Int32} (h9 : Q (.inl (some (.int 7))) (n, sl, f)) : mi_W d 181 153 [some (.ref l1), some (.int l2), some (.int l3), some (.int l4), some (.int l5), some (.long l6), none, some (.int l7), some (.int l8)] [] (n, sl, f) Q := by
  refine w_bipush (v := 7) cd_181_153 (by decide) ?_
  exact w_ireturn_i cd_181_155 (by decide +kernel) h9
theorem b_181_156 {d : Nat} {Q : (Option Value ⊕ Nat) → mi_H → Prop} (n sl : Nat) (f : Nat → mi_C) {l1 : Nat} {l2 : Int32} {l3 : Int32} {l4 : Int32} {l5 : Int32} {l6 : Int64} {l7 : Int32} {l8 : Int32} {fs9 : List Value} {x12 : Nat} (m14 i14 : Nat) (g14 : Nat → Int64) (m18 i18 : Nat) (g18 : Nat → Int64) {fs22 : List Value} {x25 : Nat} {fs27 : List Value} {x30 : Nat} (m32 i32 : Nat) (g32 : Nat → Int64) (m36 i36 : Nat) (g36 : Nat → Int64) {fs40 : List Value} {x43 : Nat} {fs45 : List Value} {x48 : Nat} (m50 i50 : Nat) (g50 : Nat → Int64) (h10 : f l1 = .inr (12, fs9)) (h11 : l1 < n) (h13 : fs9[55]? = some (.ref x12)) (h15 : f x12 = .inl (3, m14, .inr (.inl g14))) (h16 : x12 < n) (h17 : mi_ix l8 m14 i14) (h19 : f x12 = .inl (3, m18, .inr (.inl g18))) (h20 : x12 < n) (h21 : mi_ix l8 m18 i18) (h23 : (va_up f x12 (.inl (3, m18, .inr (.inl (vp_updL g18 i18 ((g14 i14) + l6)))))) l1 = .inr (12, fs22)) (h24 : l1 < n) (h26 : fs22[43]? = some (.ref x25)) (h28 : (va_up f x12 (.inl (3, m18, .inr (.inl (vp_updL g18 i18 ((g14 i14) + l6)))))) x25 = .inr (13, fs27)) (h29 : x25 < n) (h31 : fs27[2]? = some (.ref x30)) (h33 : (va_up f x12 (.inl (3, m18, .inr (.inl (vp_updL g18 i18 ((g14 i14) + l6)))))) x30 = .inl (3, m32, .inr (.inl g32))) (h34 : x30 < n) (h35 : mi_ix l7 m32 i32) (h37 : (va_up f x12 (.inl (3, m18, .inr (.inl (vp_updL g18 i18 ((g14 i14) + l6)))))) x30 = .inl (3, m36, .inr (.inl g36))) (h38 : x30 < n) (h39 : mi_ix l7 m36 i36) (h41 : (va_up (va_up f x12 (.inl (3, m18, .inr (.inl (vp_updL g18 i18 ((g14 i14) + l6)))))) x30 (.inl (3, m36, .inr (.inl (vp_updL g36 i36 ((g32 i32) + l6)))))) l1 = .inr (12, fs40)) (h42 : l1 < n) (h44 : fs40[43]? = some (.ref x43)) (h46 : (va_up (va_up f x12 (.inl (3, m18, .inr (.inl (vp_updL g18 i18 ((g14 i14) + l6)))))) x30 (.inl (3, m36, .inr (.inl (vp_updL g36 i36 ((g32 i32) + l6)))))) x43 = .inr (13, fs45)) (h47 : x43 < n) (h49 : fs45[2]? = some (.ref x48)) (h51 : (va_up (va_up f x12 (.inl (3, m18, .inr (.inl (vp_updL g18 i18 ((g14 i14) + l6)))))) x30 (.inl (3, m36, .inr (.inl (vp_updL g36 i36 ((g32 i32) + l6)))))) x48 = .inl (3, m50, .inr (.inl g50))) (h52 : x48 < n) (h53 : mi_ix l7 m50 i50) (h54 : (0 : Int32) < (lg_cmp (g50 i50) 4611686018427387904) → mi_W d 181 215 [some (.ref l1), some (.int l2), some (.int l3), some (.int l4), some (.int l5), some (.long l6), none, some (.int l7), some (.int l8)] [] (n, sl, (va_up (va_up f x12 (.inl (3, m18, .inr (.inl (vp_updL g18 i18 ((g14 i14) + l6)))))) x30 (.inl (3, m36, .inr (.inl (vp_updL g36 i36 ((g32 i32) + l6))))))) Q) (h55 : ¬ ((0 : Int32) < (lg_cmp (g50 i50) 4611686018427387904)) → mi_W d 181 200 [some (.ref l1), some (.int l2), some (.int l3), some (.int l4), some (.int l5), some (.long l6), none, some (.int l7), some (.int l8)] [] (n, sl, (va_up (va_up f x12 (.inl (3, m18, .inr (.inl (vp_updL g18 i18 ((g14 i14) + l6)))))) x30 (.inl (3, m36, .inr (.inl (vp_updL g36 i36 ((g32 i32) + l6))))))) Q) : mi_W d 181 156 [some (.ref l1), some (.int l2), some (.int l3), some (.int l4), some (.int l5), some (.long l6), none, some (.int l7), some (.int l8)] [] (n, sl, f) Q := by
  refine w_aload_n cd_181_156 rfl ?_
  refine w_getfield cd_181_157 (show mt_f 12 172 = some (12, 55) by decide +kernel) h10 h11 h13 ?_
  refine w_iload cd_181_160 rfl ?_
  refine w_dup2_ir cd_181_162 ?_
  refine w_laload cd_181_163 h15 h16 h17 ?_
  refine w_lload cd_181_164 rfl ?_
  refine w_ladd cd_181_166 ?_
  refine w_lastore cd_181_167 h19 h20 h21 ?_
  refine w_aload_n cd_181_168 rfl ?_
  refine w_getfield cd_181_169 (show mt_f 12 445 = some (12, 43) by decide +kernel) h23 h24 h26 ?_
  refine w_getfield cd_181_172 (show mt_f 12 448 = some (13, 2) by decide +kernel) h28 h29 h31 ?_
  refine w_iload cd_181_175 rfl ?_
  refine w_dup2_ir cd_181_177 ?_
  refine w_laload cd_181_178 h33 h34 h35 ?_
  refine w_lload cd_181_179 rfl ?_
  refine w_ladd cd_181_181 ?_
  refine w_lastore cd_181_182 h37 h38 h39 ?_
  refine w_aload_n cd_181_183 rfl ?_
  refine w_getfield cd_181_184 (show mt_f 12 445 = some (12, 43) by decide +kernel) h41 h42 h44 ?_
  refine w_getfield cd_181_187 (show mt_f 12 448 = some (13, 2) by decide +kernel) h46 h47 h49 ?_
  refine w_iload cd_181_190 rfl ?_
  refine w_laload cd_181_192 h51 h52 h53 ?_
  refine w_ldc2_w (lv := 4611686018427387904) cd_181_193 (by decide +kernel) ?_
  refine w_lcmp cd_181_196 ?_
  exact w_ifgt cd_181_197 (by decide) h54 h55
theorem b_181_200 {d : Nat} {Q : (Option Value ⊕ Nat) → mi_H → Prop} (n sl : Nat) (f : Nat → mi_C) {l1 : Nat} {l2 : Int32} {l3 : Int32} {l4 : Int32} {l5 : Int32} {l6 : Int64} {l7 : Int32} {l8 : Int32} {fs9 : List Value} {x12 : Nat} {fs14 : List Value} {x17 : Nat} (m19 i19 : Nat) (g19 : Nat → Int64) (h10 : f l1 = .inr (12, fs9)) (h11 : l1 < n) (h13 : fs9[43]? = some (.ref x12)) (h15 : f x12 = .inr (13, fs14)) (h16 : x12 < n) (h18 : fs14[2]? = some (.ref x17)) (h20 : f x17 = .inl (3, m19, .inr (.inl g19))) (h21 : x17 < n) (h22 : mi_ix l7 m19 i19) (h23 : (0 : Int32) ≤ (lg_cmp (g19 i19) 0) → mi_W d 181 218 [some (.ref l1), some (.int l2), some (.int l3), some (.int l4), some (.int l5), some (.long l6), none, some (.int l7), some (.int l8)] [] (n, sl, f) Q) (h24 : ¬ ((0 : Int32) ≤ (lg_cmp (g19 i19) 0)) → mi_W d 181 215 [some (.ref l1), some (.int l2), some (.int l3), some (.int l4), some (.int l5), some (.long l6), none, some (.int l7), some (.int l8)] [] (n, sl, f) Q) : mi_W d 181 200 [some (.ref l1), some (.int l2), some (.int l3), some (.int l4), some (.int l5), some (.long l6), none, some (.int l7), some (.int l8)] [] (n, sl, f) Q := by
  refine w_aload_n cd_181_200 rfl ?_
  refine w_getfield cd_181_201 (show mt_f 12 445 = some (12, 43) by decide +kernel) h10 h11 h13 ?_
  refine w_getfield cd_181_204 (show mt_f 12 448 = some (13, 2) by decide +kernel) h15 h16 h18 ?_
  refine w_iload cd_181_207 rfl ?_
  refine w_laload cd_181_209 h20 h21 h22 ?_
  refine w_lconst (lv := 0) cd_181_210 (by decide) ?_
  refine w_lcmp cd_181_211 ?_
  exact w_ifge cd_181_212 (by decide) h23 h24
theorem b_181_215 {d : Nat} {Q : (Option Value ⊕ Nat) → mi_H → Prop} (n sl : Nat) (f : Nat → mi_C) {l1 : Nat} {l2 : Int32} {l3 : Int32} {l4 : Int32} {l5 : Int32} {l6 : Int64} {l7 : Int32} {l8 : Int32} (h9 : Q (.inl (some (.int 6))) (n, sl, f)) : mi_W d 181 215 [some (.ref l1), some (.int l2), some (.int l3), some (.int l4), some (.int l5), some (.long l6), none, some (.int l7), some (.int l8)] [] (n, sl, f) Q := by
  refine w_bipush (v := 6) cd_181_215 (by decide) ?_
  exact w_ireturn_i cd_181_217 (by decide +kernel) h9
theorem b_181_218 {d : Nat} {Q : (Option Value ⊕ Nat) → mi_H → Prop} (n sl : Nat) (f : Nat → mi_C) {l1 : Nat} {l2 : Int32} {l3 : Int32} {l4 : Int32} {l5 : Int32} {l6 : Int64} {l7 : Int32} {l8 : Int32} (h9 : mi_W d 181 267 [some (.ref l1), some (.int l2), some (.int l3), some (.int l4), some (.int l5), some (.long l6), none, some (.int l7), some (.int l8)] [] (n, sl, f) Q) : mi_W d 181 218 [some (.ref l1), some (.int l2), some (.int l3), some (.int l4), some (.int l5), some (.long l6), none, some (.int l7), some (.int l8)] [] (n, sl, f) Q := by
  exact w_goto cd_181_218 (by decide) h9
theorem b_181_221 {d : Nat} {Q : (Option Value ⊕ Nat) → mi_H → Prop} (n sl : Nat) (f : Nat → mi_C) {l1 : Nat} {l2 : Int32} {l3 : Int32} {l4 : Int32} {l5 : Int32} {o6 : Option Value} {o7 : Option Value} {o8 : Option Value} {o9 : Option Value} {fs10 : List Value} {x13 : Nat} (m15 i15 : Nat) (g15 : Nat → Int32) (h11 : f l1 = .inr (12, fs10)) (h12 : l1 < n) (h14 : fs10[12]? = some (.ref x13)) (h16 : f x13 = .inl (0, m15, .inl g15)) (h17 : x13 < n ∨ x13 = mi_SC) (h18 : mi_ix l4 m15 i15) (h19 : ¬ (g15 i15) = 8 → mi_W d 181 267 [some (.ref l1), some (.int l2), some (.int l3), some (.int l4), some (.int l5), o6, o7, o8, o9] [] (n, sl, f) Q) (h20 : ¬ (¬ (g15 i15) = 8) → mi_W d 181 232 [some (.ref l1), some (.int l2), some (.int l3), some (.int l4), some (.int l5), o6, o7, o8, o9] [] (n, sl, f) Q) : mi_W d 181 221 [some (.ref l1), some (.int l2), some (.int l3), some (.int l4), some (.int l5), o6, o7, o8, o9] [] (n, sl, f) Q := by
  refine w_aload_n cd_181_221 rfl ?_
  refine w_getfield cd_181_222 (show mt_f 12 77 = some (12, 12) by decide +kernel) h11 h12 h14 ?_
  refine w_iload_n cd_181_225 rfl ?_
  refine w_iaload cd_181_226 h16 h17 h18 ?_
  refine w_bipush (v := 8) cd_181_227 (by decide) ?_
  exact w_if_icmpne cd_181_229 (by decide) h19 h20
theorem b_181_232 {d : Nat} {Q : (Option Value ⊕ Nat) → mi_H → Prop} (n sl : Nat) (f : Nat → mi_C) {l1 : Nat} {l2 : Int32} {l3 : Int32} {l4 : Int32} {l5 : Int32} {o6 : Option Value} {o7 : Option Value} {o8 : Option Value} {o9 : Option Value} {fs10 : List Value} {x13 : Nat} {fs15 : List Value} {x18 : Nat} {fs20 : List Value} {x23 : Nat} (m25 i25 : Nat) (g25 : Nat → Int32) (m29 i29 : Nat) (g29 : Nat → Int32) {fs33 : List Value} {x36 : Nat} {fs38 : List Value} {x41 : Nat} {fs43 : List Value} {x46 : Nat} (m48 i48 : Nat) (g48 : Nat → Int32) {fs52 : List Value} {x55 : Nat} (m57 i57 : Nat) (g57 : Nat → Int64) (m61 i61 : Nat) (g61 : Nat → Int64) (h11 : f l1 = .inr (12, fs10)) (h12 : l1 < n) (h14 : fs10[43]? = some (.ref x13)) (h16 : f x13 = .inr (13, fs15)) (h17 : x13 < n) (h19 : fs15[5]? = some (.ref x18)) (h21 : f l1 = .inr (12, fs20)) (h22 : l1 < n) (h24 : fs20[13]? = some (.ref x23)) (h26 : f x23 = .inl (0, m25, .inl g25)) (h27 : x23 < n ∨ x23 = mi_SC) (h28 : mi_ix l4 m25 i25) (h30 : f x18 = .inl (2, m29, .inl g29)) (h31 : x18 < n) (h32 : mi_ix (g25 i25) m29 i29) (h34 : (va_up f x18 (.inl (2, m29, .inl (upd g29 i29 (vp_nar .boolean 1))))) l1 = .inr (12, fs33)) (h35 : l1 < n) (h37 : fs33[43]? = some (.ref x36)) (h39 : (va_up f x18 (.inl (2, m29, .inl (upd g29 i29 (vp_nar .boolean 1))))) x36 = .inr (13, fs38)) (h40 : x36 < n) (h42 : fs38[3]? = some (.ref x41)) (h44 : (va_up f x18 (.inl (2, m29, .inl (upd g29 i29 (vp_nar .boolean 1))))) l1 = .inr (12, fs43)) (h45 : l1 < n) (h47 : fs43[13]? = some (.ref x46)) (h49 : (va_up f x18 (.inl (2, m29, .inl (upd g29 i29 (vp_nar .boolean 1))))) x46 = .inl (0, m48, .inl g48)) (h50 : x46 < n ∨ x46 = mi_SC) (h51 : mi_ix l4 m48 i48) (h53 : (va_up f x18 (.inl (2, m29, .inl (upd g29 i29 (vp_nar .boolean 1))))) l1 = .inr (12, fs52)) (h54 : l1 < n) (h56 : fs52[64]? = some (.ref x55)) (h58 : (va_up f x18 (.inl (2, m29, .inl (upd g29 i29 (vp_nar .boolean 1))))) x55 = .inl (3, m57, .inr (.inl g57))) (h59 : x55 < n) (h60 : mi_ix l2 m57 i57) (h62 : (va_up f x18 (.inl (2, m29, .inl (upd g29 i29 (vp_nar .boolean 1))))) x41 = .inl (3, m61, .inr (.inl g61))) (h63 : x41 < n) (h64 : mi_ix (g48 i48) m61 i61) (h65 : mi_W d 181 267 [some (.ref l1), some (.int l2), some (.int l3), some (.int l4), some (.int l5), o6, o7, o8, o9] [] (n, sl, (va_up (va_up f x18 (.inl (2, m29, .inl (upd g29 i29 (vp_nar .boolean 1))))) x41 (.inl (3, m61, .inr (.inl (vp_updL g61 i61 (g57 i57))))))) Q) : mi_W d 181 232 [some (.ref l1), some (.int l2), some (.int l3), some (.int l4), some (.int l5), o6, o7, o8, o9] [] (n, sl, f) Q := by
  refine w_aload_n cd_181_232 rfl ?_
  refine w_getfield cd_181_233 (show mt_f 12 445 = some (12, 43) by decide +kernel) h11 h12 h14 ?_
  refine w_getfield cd_181_236 (show mt_f 12 459 = some (13, 5) by decide +kernel) h16 h17 h19 ?_
  refine w_aload_n cd_181_239 rfl ?_
  refine w_getfield cd_181_240 (show mt_f 12 80 = some (12, 13) by decide +kernel) h21 h22 h24 ?_
  refine w_iload_n cd_181_243 rfl ?_
  refine w_iaload cd_181_244 h26 h27 h28 ?_
  refine w_iconst (v := 1) cd_181_245 (by decide) ?_
  refine w_bastore2 cd_181_246 h30 h31 h32 ?_
  refine w_aload_n cd_181_247 rfl ?_
  refine w_getfield cd_181_248 (show mt_f 12 445 = some (12, 43) by decide +kernel) h34 h35 h37 ?_
  refine w_getfield cd_181_251 (show mt_f 12 463 = some (13, 3) by decide +kernel) h39 h40 h42 ?_
  refine w_aload_n cd_181_254 rfl ?_
  refine w_getfield cd_181_255 (show mt_f 12 80 = some (12, 13) by decide +kernel) h44 h45 h47 ?_
  refine w_iload_n cd_181_258 rfl ?_
  refine w_iaload cd_181_259 h49 h50 h51 ?_
  refine w_aload_n cd_181_260 rfl ?_
  refine w_getfield cd_181_261 (show mt_f 12 190 = some (12, 64) by decide +kernel) h53 h54 h56 ?_
  refine w_iload_n cd_181_264 rfl ?_
  refine w_laload cd_181_265 h58 h59 h60 ?_
  refine w_lastore cd_181_266 h62 h63 h64 ?_
  exact h65
theorem b_181_267 {d : Nat} {Q : (Option Value ⊕ Nat) → mi_H → Prop} (n sl : Nat) (f : Nat → mi_C) {l1 : Nat} {l2 : Int32} {l3 : Int32} {l4 : Int32} {l5 : Int32} {o6 : Option Value} {o7 : Option Value} {o8 : Option Value} {o9 : Option Value} {fs10 : List Value} {x13 : Nat} {fs15 : List Value} {x18 : Nat} (m20 i20 : Nat) (g20 : Nat → Int32) {fs24 : List Value} (h11 : f l1 = .inr (12, fs10)) (h12 : l1 < n) (h14 : fs10[43]? = some (.ref x13)) (h16 : f l1 = .inr (12, fs15)) (h17 : l1 < n) (h19 : fs15[19]? = some (.ref x18)) (h21 : f x18 = .inl (0, m20, .inl g20)) (h22 : x18 < n ∨ x18 = mi_SC) (h23 : mi_ix l4 m20 i20) (h25 : f x13 = .inr (13, fs24)) (h26 : x13 < n) (h27 : 0 < fs24.length) (h28 : Q (.inl (some (.int 0))) (n, sl, (va_up f x13 (.inr (13, fs24.set 0 (.int (g20 i20))))))) : mi_W d 181 267 [some (.ref l1), some (.int l2), some (.int l3), some (.int l4), some (.int l5), o6, o7, o8, o9] [] (n, sl, f) Q := by
  refine w_aload_n cd_181_267 rfl ?_
  refine w_getfield cd_181_268 (show mt_f 12 445 = some (12, 43) by decide +kernel) h11 h12 h14 ?_
  refine w_aload_n cd_181_271 rfl ?_
  refine w_getfield cd_181_272 (show mt_f 12 98 = some (12, 19) by decide +kernel) h16 h17 h19 ?_
  refine w_iload_n cd_181_275 rfl ?_
  refine w_iaload cd_181_276 h21 h22 h23 ?_
  refine w_putfield (w := .int (g20 i20)) cd_181_277 (show mt_f 12 496 = some (13, 0) by decide +kernel) h25 h26 ⟨h27, rfl, Or.inl (by decide)⟩ ?_
  refine w_iconst (v := 0) cd_181_280 (by decide) ?_
  exact w_ireturn_i cd_181_281 (by decide +kernel) h28
theorem b_181_282 {d : Nat} {Q : (Option Value ⊕ Nat) → mi_H → Prop} (n sl : Nat) (f : Nat → mi_C) {l1 : Nat} {l2 : Int32} {l3 : Int32} {l4 : Int32} {l5 : Int32} {o6 : Option Value} {o7 : Option Value} {o8 : Option Value} {o9 : Option Value} {fs10 : List Value} {x13 : Nat} (m15 i15 : Nat) (g15 : Nat → Int32) (h11 : f l1 = .inr (12, fs10)) (h12 : l1 < n) (h14 : fs10[39]? = some (.ref x13)) (h16 : f x13 = .inl (0, m15, .inl g15)) (h17 : x13 < n ∨ x13 = mi_SC) (h18 : mi_ix l4 m15 i15) (h19 : mi_W d 181 27 [some (.ref l1), some (.int l2), some (.int l3), some (.int (g15 i15)), some (.int l5), o6, o7, o8, o9] [] (n, sl, f) Q) : mi_W d 181 282 [some (.ref l1), some (.int l2), some (.int l3), some (.int l4), some (.int l5), o6, o7, o8, o9] [] (n, sl, f) Q := by
  refine w_aload_n cd_181_282 rfl ?_
  refine w_getfield cd_181_283 (show mt_f 12 138 = some (12, 39) by decide +kernel) h11 h12 h14 ?_
  refine w_iload_n cd_181_286 rfl ?_
  refine w_iaload cd_181_287 h16 h17 h18 ?_
  refine w_istore_n (ls' := [some (.ref l1), some (.int l2), some (.int l3), some (.int (g15 i15)), some (.int l5), o6, o7, o8, o9]) cd_181_288 (Nat.le_of_ble_eq_true rfl) rfl ?_
  exact w_goto cd_181_289 (by decide) h19
theorem b_181_292 {d : Nat} {Q : (Option Value ⊕ Nat) → mi_H → Prop} (n sl : Nat) (f : Nat → mi_C) {l1 : Nat} {l2 : Int32} {l3 : Int32} {l4 : Int32} {o5 : Option Value} {o6 : Option Value} {o7 : Option Value} {o8 : Option Value} {o9 : Option Value} (h10 : Q (.inl (some (.int 4))) (n, sl, f)) : mi_W d 181 292 [some (.ref l1), some (.int l2), some (.int l3), some (.int l4), o5, o6, o7, o8, o9] [] (n, sl, f) Q := by
  refine w_iconst (v := 4) cd_181_292 (by decide) ?_
  exact w_ireturn_i cd_181_293 (by decide +kernel) h10
/-! MarloweHostModel.fits(II)I -/
set_option maxRecDepth 100000 in
theorem mq_182 : mt_q 182 = my_182 := rfl
set_option maxRecDepth 100000 in
theorem ci_182 : mt_inc 0 my_182.cd = true := by decide +kernel
theorem cd_182_0 : mt_cd 182 0 = some (.aload_n 0) := mt_cd_of (q := (0, .aload_n 0, 1)) mq_182 ci_182 (List.mem_append_left _ (show _ ∈ my_182_0 from List.mem_of_getElem? (i := 0) rfl))
theorem cd_182_1 : mt_cd 182 1 = some (.iconst 0) := mt_cd_of (q := (1, .iconst 0, 1)) mq_182 ci_182 (List.mem_append_left _ (show _ ∈ my_182_0 from List.mem_of_getElem? (i := 1) rfl))
theorem cd_182_2 : mt_cd 182 2 = some (.putfield 441) := mt_cd_of (q := (2, .putfield 441, 3)) mq_182 ci_182 (List.mem_append_left _ (show _ ∈ my_182_0 from List.mem_of_getElem? (i := 2) rfl))
theorem cd_182_5 : mt_cd 182 5 = some (.aload_n 0) := mt_cd_of (q := (5, .aload_n 0, 1)) mq_182 ci_182 (List.mem_append_left _ (show _ ∈ my_182_0 from List.mem_of_getElem? (i := 3) rfl))
theorem cd_182_6 : mt_cd 182 6 = some (.getfield 178) := mt_cd_of (q := (6, .getfield 178, 3)) mq_182 ci_182 (List.mem_append_left _ (show _ ∈ my_182_0 from List.mem_of_getElem? (i := 4) rfl))
theorem cd_182_9 : mt_cd 182 9 = some (.iload_n 2) := mt_cd_of (q := (9, .iload_n 2, 1)) mq_182 ci_182 (List.mem_append_left _ (show _ ∈ my_182_0 from List.mem_of_getElem? (i := 5) rfl))
theorem cd_182_10 : mt_cd 182 10 = some (.iaload) := mt_cd_of (q := (10, .iaload, 1)) mq_182 ci_182 (List.mem_append_left _ (show _ ∈ my_182_0 from List.mem_of_getElem? (i := 6) rfl))
theorem cd_182_11 : mt_cd 182 11 = some (.aload_n 0) := mt_cd_of (q := (11, .aload_n 0, 1)) mq_182 ci_182 (List.mem_append_left _ (show _ ∈ my_182_0 from List.mem_of_getElem? (i := 7) rfl))
theorem cd_182_12 : mt_cd 182 12 = some (.getfield 77) := mt_cd_of (q := (12, .getfield 77, 3)) mq_182 ci_182 (List.mem_append_left _ (show _ ∈ my_182_0 from List.mem_of_getElem? (i := 8) rfl))
theorem cd_182_15 : mt_cd 182 15 = some (.iload_n 1) := mt_cd_of (q := (15, .iload_n 1, 1)) mq_182 ci_182 (List.mem_append_left _ (show _ ∈ my_182_0 from List.mem_of_getElem? (i := 9) rfl))
theorem cd_182_16 : mt_cd 182 16 = some (.iaload) := mt_cd_of (q := (16, .iaload, 1)) mq_182 ci_182 (List.mem_append_left _ (show _ ∈ my_182_0 from List.mem_of_getElem? (i := 10) rfl))
theorem cd_182_17 : mt_cd 182 17 = some (.if_icmp .eq 5) := mt_cd_of (q := (17, .if_icmp .eq 5, 3)) mq_182 ci_182 (List.mem_append_left _ (show _ ∈ my_182_0 from List.mem_of_getElem? (i := 11) rfl))
theorem cd_182_20 : mt_cd 182 20 = some (.iconst 0) := mt_cd_of (q := (20, .iconst 0, 1)) mq_182 ci_182 (List.mem_append_left _ (show _ ∈ my_182_0 from List.mem_of_getElem? (i := 12) rfl))
theorem cd_182_21 : mt_cd 182 21 = some (.ireturn) := mt_cd_of (q := (21, .ireturn, 1)) mq_182 ci_182 (List.mem_append_left _ (show _ ∈ my_182_0 from List.mem_of_getElem? (i := 13) rfl))
theorem cd_182_22 : mt_cd 182 22 = some (.aload_n 0) := mt_cd_of (q := (22, .aload_n 0, 1)) mq_182 ci_182 (List.mem_append_left _ (show _ ∈ my_182_0 from List.mem_of_getElem? (i := 14) rfl))
theorem cd_182_23 : mt_cd 182 23 = some (.getfield 77) := mt_cd_of (q := (23, .getfield 77, 3)) mq_182 ci_182 (List.mem_append_left _ (show _ ∈ my_182_0 from List.mem_of_getElem? (i := 15) rfl))
theorem cd_182_26 : mt_cd 182 26 = some (.iload_n 1) := mt_cd_of (q := (26, .iload_n 1, 1)) mq_182 ci_182 (List.mem_append_left _ (show _ ∈ my_182_0 from List.mem_of_getElem? (i := 16) rfl))
theorem cd_182_27 : mt_cd 182 27 = some (.iaload) := mt_cd_of (q := (27, .iaload, 1)) mq_182 ci_182 (List.mem_append_left _ (show _ ∈ my_182_0 from List.mem_of_getElem? (i := 17) rfl))
theorem cd_182_28 : mt_cd 182 28 = some (.bipush 9) := mt_cd_of (q := (28, .bipush 9, 2)) mq_182 ci_182 (List.mem_append_left _ (show _ ∈ my_182_0 from List.mem_of_getElem? (i := 18) rfl))
theorem cd_182_30 : mt_cd 182 30 = some (.if_icmp .ne 36) := mt_cd_of (q := (30, .if_icmp .ne 36, 3)) mq_182 ci_182 (List.mem_append_left _ (show _ ∈ my_182_0 from List.mem_of_getElem? (i := 19) rfl))
theorem cd_182_33 : mt_cd 182 33 = some (.aload_n 0) := mt_cd_of (q := (33, .aload_n 0, 1)) mq_182 ci_182 (List.mem_append_left _ (show _ ∈ my_182_0 from List.mem_of_getElem? (i := 20) rfl))
theorem cd_182_34 : mt_cd 182 34 = some (.aload_n 0) := mt_cd_of (q := (34, .aload_n 0, 1)) mq_182 ci_182 (List.mem_append_left _ (show _ ∈ my_182_0 from List.mem_of_getElem? (i := 21) rfl))
theorem cd_182_35 : mt_cd 182 35 = some (.getfield 89) := mt_cd_of (q := (35, .getfield 89, 3)) mq_182 ci_182 (List.mem_append_left _ (show _ ∈ my_182_0 from List.mem_of_getElem? (i := 22) rfl))
theorem cd_182_38 : mt_cd 182 38 = some (.iload_n 1) := mt_cd_of (q := (38, .iload_n 1, 1)) mq_182 ci_182 (List.mem_append_left _ (show _ ∈ my_182_0 from List.mem_of_getElem? (i := 23) rfl))
theorem cd_182_39 : mt_cd 182 39 = some (.iaload) := mt_cd_of (q := (39, .iaload, 1)) mq_182 ci_182 (List.mem_append_left _ (show _ ∈ my_182_0 from List.mem_of_getElem? (i := 24) rfl))
theorem cd_182_40 : mt_cd 182 40 = some (.invokevirtual 477) := mt_cd_of (q := (40, .invokevirtual 477, 3)) mq_182 ci_182 (List.mem_append_left _ (show _ ∈ my_182_0 from List.mem_of_getElem? (i := 25) rfl))
theorem cd_182_43 : mt_cd 182 43 = some (.istore_n 3) := mt_cd_of (q := (43, .istore_n 3, 1)) mq_182 ci_182 (List.mem_append_left _ (show _ ∈ my_182_0 from List.mem_of_getElem? (i := 26) rfl))
theorem cd_182_44 : mt_cd 182 44 = some (.aload_n 0) := mt_cd_of (q := (44, .aload_n 0, 1)) mq_182 ci_182 (List.mem_append_left _ (show _ ∈ my_182_0 from List.mem_of_getElem? (i := 27) rfl))
theorem cd_182_45 : mt_cd 182 45 = some (.getfield 441) := mt_cd_of (q := (45, .getfield 441, 3)) mq_182 ci_182 (List.mem_append_left _ (show _ ∈ my_182_0 from List.mem_of_getElem? (i := 28) rfl))
theorem cd_182_48 : mt_cd 182 48 = some (.ifCond .eq 8) := mt_cd_of (q := (48, .ifCond .eq 8, 3)) mq_182 ci_182 (List.mem_append_left _ (show _ ∈ my_182_0 from List.mem_of_getElem? (i := 29) rfl))
theorem cd_182_51 : mt_cd 182 51 = some (.bipush 6) := mt_cd_of (q := (51, .bipush 6, 2)) mq_182 ci_182 (List.mem_append_left _ (show _ ∈ my_182_0 from List.mem_of_getElem? (i := 30) rfl))
theorem cd_182_53 : mt_cd 182 53 = some (.goto 12) := mt_cd_of (q := (53, .goto 12, 3)) mq_182 ci_182 (List.mem_append_left _ (show _ ∈ my_182_0 from List.mem_of_getElem? (i := 31) rfl))
theorem cd_182_56 : mt_cd 182 56 = some (.iload_n 3) := mt_cd_of (q := (56, .iload_n 3, 1)) mq_182 ci_182 (List.mem_append_left _ (show _ ∈ my_182_0 from List.mem_of_getElem? (i := 32) rfl))
theorem cd_182_57 : mt_cd 182 57 = some (.ifCond .eq 7) := mt_cd_of (q := (57, .ifCond .eq 7, 3)) mq_182 ci_182 (List.mem_append_left _ (show _ ∈ my_182_0 from List.mem_of_getElem? (i := 33) rfl))
theorem cd_182_60 : mt_cd 182 60 = some (.iconst 1) := mt_cd_of (q := (60, .iconst 1, 1)) mq_182 ci_182 (List.mem_append_left _ (show _ ∈ my_182_0 from List.mem_of_getElem? (i := 34) rfl))
theorem cd_182_61 : mt_cd 182 61 = some (.goto 4) := mt_cd_of (q := (61, .goto 4, 3)) mq_182 ci_182 (List.mem_append_left _ (show _ ∈ my_182_0 from List.mem_of_getElem? (i := 35) rfl))
theorem cd_182_64 : mt_cd 182 64 = some (.iconst 0) := mt_cd_of (q := (64, .iconst 0, 1)) mq_182 ci_182 (List.mem_append_left _ (show _ ∈ my_182_0 from List.mem_of_getElem? (i := 36) rfl))
theorem cd_182_65 : mt_cd 182 65 = some (.ireturn) := mt_cd_of (q := (65, .ireturn, 1)) mq_182 ci_182 (List.mem_append_left _ (show _ ∈ my_182_0 from List.mem_of_getElem? (i := 37) rfl))
theorem cd_182_66 : mt_cd 182 66 = some (.aload_n 0) := mt_cd_of (q := (66, .aload_n 0, 1)) mq_182 ci_182 (List.mem_append_left _ (show _ ∈ my_182_0 from List.mem_of_getElem? (i := 38) rfl))
theorem cd_182_67 : mt_cd 182 67 = some (.getfield 77) := mt_cd_of (q := (67, .getfield 77, 3)) mq_182 ci_182 (List.mem_append_left _ (show _ ∈ my_182_0 from List.mem_of_getElem? (i := 39) rfl))
theorem cd_182_70 : mt_cd 182 70 = some (.iload_n 1) := mt_cd_of (q := (70, .iload_n 1, 1)) mq_182 ci_182 (List.mem_append_left _ (show _ ∈ my_182_0 from List.mem_of_getElem? (i := 40) rfl))
theorem cd_182_71 : mt_cd 182 71 = some (.iaload) := mt_cd_of (q := (71, .iaload, 1)) mq_182 ci_182 (List.mem_append_left _ (show _ ∈ my_182_0 from List.mem_of_getElem? (i := 41) rfl))
theorem cd_182_72 : mt_cd 182 72 = some (.bipush 8) := mt_cd_of (q := (72, .bipush 8, 2)) mq_182 ci_182 (List.mem_append_left _ (show _ ∈ my_182_0 from List.mem_of_getElem? (i := 42) rfl))
theorem cd_182_74 : mt_cd 182 74 = some (.if_icmp .ne 78) := mt_cd_of (q := (74, .if_icmp .ne 78, 3)) mq_182 ci_182 (List.mem_append_left _ (show _ ∈ my_182_0 from List.mem_of_getElem? (i := 43) rfl))
theorem cd_182_77 : mt_cd 182 77 = some (.aload_n 0) := mt_cd_of (q := (77, .aload_n 0, 1)) mq_182 ci_182 (List.mem_append_left _ (show _ ∈ my_182_0 from List.mem_of_getElem? (i := 44) rfl))
theorem cd_182_78 : mt_cd 182 78 = some (.getfield 181) := mt_cd_of (q := (78, .getfield 181, 3)) mq_182 ci_182 (List.mem_append_left _ (show _ ∈ my_182_0 from List.mem_of_getElem? (i := 45) rfl))
theorem cd_182_81 : mt_cd 182 81 = some (.iload_n 2) := mt_cd_of (q := (81, .iload_n 2, 1)) mq_182 ci_182 (List.mem_append_left _ (show _ ∈ my_182_0 from List.mem_of_getElem? (i := 46) rfl))
theorem cd_182_82 : mt_cd 182 82 = some (.iaload) := mt_cd_of (q := (82, .iaload, 1)) mq_182 ci_182 (List.mem_append_left _ (show _ ∈ my_182_0 from List.mem_of_getElem? (i := 47) rfl))
theorem cd_182_83 : mt_cd 182 83 = some (.aload_n 0) := mt_cd_of (q := (83, .aload_n 0, 1)) mq_182 ci_182 (List.mem_append_left _ (show _ ∈ my_182_0 from List.mem_of_getElem? (i := 48) rfl))
theorem cd_182_84 : mt_cd 182 84 = some (.getfield 80) := mt_cd_of (q := (84, .getfield 80, 3)) mq_182 ci_182 (List.mem_append_left _ (show _ ∈ my_182_0 from List.mem_of_getElem? (i := 49) rfl))
theorem cd_182_87 : mt_cd 182 87 = some (.iload_n 1) := mt_cd_of (q := (87, .iload_n 1, 1)) mq_182 ci_182 (List.mem_append_left _ (show _ ∈ my_182_0 from List.mem_of_getElem? (i := 50) rfl))
theorem cd_182_88 : mt_cd 182 88 = some (.iaload) := mt_cd_of (q := (88, .iaload, 1)) mq_182 ci_182 (List.mem_append_left _ (show _ ∈ my_182_0 from List.mem_of_getElem? (i := 51) rfl))
theorem cd_182_89 : mt_cd 182 89 = some (.if_icmp .eq 5) := mt_cd_of (q := (89, .if_icmp .eq 5, 3)) mq_182 ci_182 (List.mem_append_left _ (show _ ∈ my_182_0 from List.mem_of_getElem? (i := 52) rfl))
theorem cd_182_92 : mt_cd 182 92 = some (.iconst 0) := mt_cd_of (q := (92, .iconst 0, 1)) mq_182 ci_182 (List.mem_append_left _ (show _ ∈ my_182_0 from List.mem_of_getElem? (i := 53) rfl))
theorem cd_182_93 : mt_cd 182 93 = some (.ireturn) := mt_cd_of (q := (93, .ireturn, 1)) mq_182 ci_182 (List.mem_append_left _ (show _ ∈ my_182_0 from List.mem_of_getElem? (i := 54) rfl))
theorem cd_182_94 : mt_cd 182 94 = some (.aload_n 0) := mt_cd_of (q := (94, .aload_n 0, 1)) mq_182 ci_182 (List.mem_append_left _ (show _ ∈ my_182_0 from List.mem_of_getElem? (i := 55) rfl))
theorem cd_182_95 : mt_cd 182 95 = some (.getfield 141) := mt_cd_of (q := (95, .getfield 141, 3)) mq_182 ci_182 (List.mem_append_left _ (show _ ∈ my_182_0 from List.mem_of_getElem? (i := 56) rfl))
theorem cd_182_98 : mt_cd 182 98 = some (.iload_n 1) := mt_cd_of (q := (98, .iload_n 1, 1)) mq_182 ci_182 (List.mem_append_left _ (show _ ∈ my_182_0 from List.mem_of_getElem? (i := 57) rfl))
theorem cd_182_99 : mt_cd 182 99 = some (.iaload) := mt_cd_of (q := (99, .iaload, 1)) mq_182 ci_182 (List.mem_append_left _ (show _ ∈ my_182_0 from List.mem_of_getElem? (i := 58) rfl))
theorem cd_182_100 : mt_cd 182 100 = some (.istore_n 3) := mt_cd_of (q := (100, .istore_n 3, 1)) mq_182 ci_182 (List.mem_append_left _ (show _ ∈ my_182_0 from List.mem_of_getElem? (i := 59) rfl))
theorem cd_182_101 : mt_cd 182 101 = some (.iload_n 3) := mt_cd_of (q := (101, .iload_n 3, 1)) mq_182 ci_182 (List.mem_append_right _ (List.mem_append_left _ (show _ ∈ my_182_1 from List.mem_of_getElem? (i := 0) rfl)))
theorem cd_182_102 : mt_cd 182 102 = some (.aload_n 0) := mt_cd_of (q := (102, .aload_n 0, 1)) mq_182 ci_182 (List.mem_append_right _ (List.mem_append_left _ (show _ ∈ my_182_1 from List.mem_of_getElem? (i := 1) rfl)))
theorem cd_182_103 : mt_cd 182 103 = some (.getfield 141) := mt_cd_of (q := (103, .getfield 141, 3)) mq_182 ci_182 (List.mem_append_right _ (List.mem_append_left _ (show _ ∈ my_182_1 from List.mem_of_getElem? (i := 2) rfl)))
theorem cd_182_106 : mt_cd 182 106 = some (.iload_n 1) := mt_cd_of (q := (106, .iload_n 1, 1)) mq_182 ci_182 (List.mem_append_right _ (List.mem_append_left _ (show _ ∈ my_182_1 from List.mem_of_getElem? (i := 3) rfl)))
theorem cd_182_107 : mt_cd 182 107 = some (.iaload) := mt_cd_of (q := (107, .iaload, 1)) mq_182 ci_182 (List.mem_append_right _ (List.mem_append_left _ (show _ ∈ my_182_1 from List.mem_of_getElem? (i := 4) rfl)))
theorem cd_182_108 : mt_cd 182 108 = some (.aload_n 0) := mt_cd_of (q := (108, .aload_n 0, 1)) mq_182 ci_182 (List.mem_append_right _ (List.mem_append_left _ (show _ ∈ my_182_1 from List.mem_of_getElem? (i := 5) rfl)))
theorem cd_182_109 : mt_cd 182 109 = some (.getfield 95) := mt_cd_of (q := (109, .getfield 95, 3)) mq_182 ci_182 (List.mem_append_right _ (List.mem_append_left _ (show _ ∈ my_182_1 from List.mem_of_getElem? (i := 6) rfl)))
theorem cd_182_112 : mt_cd 182 112 = some (.iload_n 1) := mt_cd_of (q := (112, .iload_n 1, 1)) mq_182 ci_182 (List.mem_append_right _ (List.mem_append_left _ (show _ ∈ my_182_1 from List.mem_of_getElem? (i := 7) rfl)))
theorem cd_182_113 : mt_cd 182 113 = some (.iaload) := mt_cd_of (q := (113, .iaload, 1)) mq_182 ci_182 (List.mem_append_right _ (List.mem_append_left _ (show _ ∈ my_182_1 from List.mem_of_getElem? (i := 8) rfl)))
theorem cd_182_114 : mt_cd 182 114 = some (.iadd) := mt_cd_of (q := (114, .iadd, 1)) mq_182 ci_182 (List.mem_append_right _ (List.mem_append_left _ (show _ ∈ my_182_1 from List.mem_of_getElem? (i := 9) rfl)))
theorem cd_182_115 : mt_cd 182 115 = some (.if_icmp .ge 35) := mt_cd_of (q := (115, .if_icmp .ge 35, 3)) mq_182 ci_182 (List.mem_append_right _ (List.mem_append_left _ (show _ ∈ my_182_1 from List.mem_of_getElem? (i := 10) rfl)))
theorem cd_182_118 : mt_cd 182 118 = some (.aload_n 0) := mt_cd_of (q := (118, .aload_n 0, 1)) mq_182 ci_182 (List.mem_append_right _ (List.mem_append_left _ (show _ ∈ my_182_1 from List.mem_of_getElem? (i := 11) rfl)))
theorem cd_182_119 : mt_cd 182 119 = some (.getfield 190) := mt_cd_of (q := (119, .getfield 190, 3)) mq_182 ci_182 (List.mem_append_right _ (List.mem_append_left _ (show _ ∈ my_182_1 from List.mem_of_getElem? (i := 12) rfl)))
theorem cd_182_122 : mt_cd 182 122 = some (.iload_n 2) := mt_cd_of (q := (122, .iload_n 2, 1)) mq_182 ci_182 (List.mem_append_right _ (List.mem_append_left _ (show _ ∈ my_182_1 from List.mem_of_getElem? (i := 13) rfl)))
theorem cd_182_123 : mt_cd 182 123 = some (.laload) := mt_cd_of (q := (123, .laload, 1)) mq_182 ci_182 (List.mem_append_right _ (List.mem_append_left _ (show _ ∈ my_182_1 from List.mem_of_getElem? (i := 14) rfl)))
theorem cd_182_124 : mt_cd 182 124 = some (.aload_n 0) := mt_cd_of (q := (124, .aload_n 0, 1)) mq_182 ci_182 (List.mem_append_right _ (List.mem_append_left _ (show _ ∈ my_182_1 from List.mem_of_getElem? (i := 15) rfl)))
theorem cd_182_125 : mt_cd 182 125 = some (.getfield 105) := mt_cd_of (q := (125, .getfield 105, 3)) mq_182 ci_182 (List.mem_append_right _ (List.mem_append_left _ (show _ ∈ my_182_1 from List.mem_of_getElem? (i := 16) rfl)))
theorem cd_182_128 : mt_cd 182 128 = some (.iload_n 3) := mt_cd_of (q := (128, .iload_n 3, 1)) mq_182 ci_182 (List.mem_append_right _ (List.mem_append_left _ (show _ ∈ my_182_1 from List.mem_of_getElem? (i := 17) rfl)))
theorem cd_182_129 : mt_cd 182 129 = some (.laload) := mt_cd_of (q := (129, .laload, 1)) mq_182 ci_182 (List.mem_append_right _ (List.mem_append_left _ (show _ ∈ my_182_1 from List.mem_of_getElem? (i := 18) rfl)))
theorem cd_182_130 : mt_cd 182 130 = some (.aload_n 0) := mt_cd_of (q := (130, .aload_n 0, 1)) mq_182 ci_182 (List.mem_append_right _ (List.mem_append_left _ (show _ ∈ my_182_1 from List.mem_of_getElem? (i := 19) rfl)))
theorem cd_182_131 : mt_cd 182 131 = some (.getfield 108) := mt_cd_of (q := (131, .getfield 108, 3)) mq_182 ci_182 (List.mem_append_right _ (List.mem_append_left _ (show _ ∈ my_182_1 from List.mem_of_getElem? (i := 20) rfl)))
theorem cd_182_134 : mt_cd 182 134 = some (.iload_n 3) := mt_cd_of (q := (134, .iload_n 3, 1)) mq_182 ci_182 (List.mem_append_right _ (List.mem_append_left _ (show _ ∈ my_182_1 from List.mem_of_getElem? (i := 21) rfl)))
theorem cd_182_135 : mt_cd 182 135 = some (.laload) := mt_cd_of (q := (135, .laload, 1)) mq_182 ci_182 (List.mem_append_right _ (List.mem_append_left _ (show _ ∈ my_182_1 from List.mem_of_getElem? (i := 22) rfl)))
theorem cd_182_136 : mt_cd 182 136 = some (.invokestatic 268) := mt_cd_of (q := (136, .invokestatic 268, 3)) mq_182 ci_182 (List.mem_append_right _ (List.mem_append_left _ (show _ ∈ my_182_1 from List.mem_of_getElem? (i := 23) rfl)))
theorem cd_182_139 : mt_cd 182 139 = some (.ifCond .eq 5) := mt_cd_of (q := (139, .ifCond .eq 5, 3)) mq_182 ci_182 (List.mem_append_right _ (List.mem_append_left _ (show _ ∈ my_182_1 from List.mem_of_getElem? (i := 24) rfl)))
theorem cd_182_142 : mt_cd 182 142 = some (.iconst 1) := mt_cd_of (q := (142, .iconst 1, 1)) mq_182 ci_182 (List.mem_append_right _ (List.mem_append_left _ (show _ ∈ my_182_1 from List.mem_of_getElem? (i := 25) rfl)))
theorem cd_182_143 : mt_cd 182 143 = some (.ireturn) := mt_cd_of (q := (143, .ireturn, 1)) mq_182 ci_182 (List.mem_append_right _ (List.mem_append_left _ (show _ ∈ my_182_1 from List.mem_of_getElem? (i := 26) rfl)))
theorem cd_182_144 : mt_cd 182 144 = some (.iinc 3 1) := mt_cd_of (q := (144, .iinc 3 1, 3)) mq_182 ci_182 (List.mem_append_right _ (List.mem_append_left _ (show _ ∈ my_182_1 from List.mem_of_getElem? (i := 27) rfl)))
theorem cd_182_147 : mt_cd 182 147 = some (.goto (-46)) := mt_cd_of (q := (147, .goto (-46), 3)) mq_182 ci_182 (List.mem_append_right _ (List.mem_append_left _ (show _ ∈ my_182_1 from List.mem_of_getElem? (i := 28) rfl)))
theorem cd_182_150 : mt_cd 182 150 = some (.iconst 0) := mt_cd_of (q := (150, .iconst 0, 1)) mq_182 ci_182 (List.mem_append_right _ (List.mem_append_left _ (show _ ∈ my_182_1 from List.mem_of_getElem? (i := 29) rfl)))
theorem cd_182_151 : mt_cd 182 151 = some (.ireturn) := mt_cd_of (q := (151, .ireturn, 1)) mq_182 ci_182 (List.mem_append_right _ (List.mem_append_left _ (show _ ∈ my_182_1 from List.mem_of_getElem? (i := 30) rfl)))
theorem cd_182_152 : mt_cd 182 152 = some (.aload_n 0) := mt_cd_of (q := (152, .aload_n 0, 1)) mq_182 ci_182 (List.mem_append_right _ (List.mem_append_left _ (show _ ∈ my_182_1 from List.mem_of_getElem? (i := 31) rfl)))
theorem cd_182_153 : mt_cd 182 153 = some (.getfield 181) := mt_cd_of (q := (153, .getfield 181, 3)) mq_182 ci_182 (List.mem_append_right _ (List.mem_append_left _ (show _ ∈ my_182_1 from List.mem_of_getElem? (i := 32) rfl)))
theorem cd_182_156 : mt_cd 182 156 = some (.iload_n 2) := mt_cd_of (q := (156, .iload_n 2, 1)) mq_182 ci_182 (List.mem_append_right _ (List.mem_append_left _ (show _ ∈ my_182_1 from List.mem_of_getElem? (i := 33) rfl)))
theorem cd_182_157 : mt_cd 182 157 = some (.iaload) := mt_cd_of (q := (157, .iaload, 1)) mq_182 ci_182 (List.mem_append_right _ (List.mem_append_left _ (show _ ∈ my_182_1 from List.mem_of_getElem? (i := 34) rfl)))
theorem cd_182_158 : mt_cd 182 158 = some (.aload_n 0) := mt_cd_of (q := (158, .aload_n 0, 1)) mq_182 ci_182 (List.mem_append_right _ (List.mem_append_left _ (show _ ∈ my_182_1 from List.mem_of_getElem? (i := 35) rfl)))
theorem cd_182_159 : mt_cd 182 159 = some (.getfield 80) := mt_cd_of (q := (159, .getfield 80, 3)) mq_182 ci_182 (List.mem_append_right _ (List.mem_append_left _ (show _ ∈ my_182_1 from List.mem_of_getElem? (i := 36) rfl)))
theorem cd_182_162 : mt_cd 182 162 = some (.iload_n 1) := mt_cd_of (q := (162, .iload_n 1, 1)) mq_182 ci_182 (List.mem_append_right _ (List.mem_append_left _ (show _ ∈ my_182_1 from List.mem_of_getElem? (i := 37) rfl)))
theorem cd_182_163 : mt_cd 182 163 = some (.iaload) := mt_cd_of (q := (163, .iaload, 1)) mq_182 ci_182 (List.mem_append_right _ (List.mem_append_left _ (show _ ∈ my_182_1 from List.mem_of_getElem? (i := 38) rfl)))
theorem cd_182_164 : mt_cd 182 164 = some (.if_icmp .ne 33) := mt_cd_of (q := (164, .if_icmp .ne 33, 3)) mq_182 ci_182 (List.mem_append_right _ (List.mem_append_left _ (show _ ∈ my_182_1 from List.mem_of_getElem? (i := 39) rfl)))
theorem cd_182_167 : mt_cd 182 167 = some (.aload_n 0) := mt_cd_of (q := (167, .aload_n 0, 1)) mq_182 ci_182 (List.mem_append_right _ (List.mem_append_left _ (show _ ∈ my_182_1 from List.mem_of_getElem? (i := 40) rfl)))
theorem cd_182_168 : mt_cd 182 168 = some (.getfield 184) := mt_cd_of (q := (168, .getfield 184, 3)) mq_182 ci_182 (List.mem_append_right _ (List.mem_append_left _ (show _ ∈ my_182_1 from List.mem_of_getElem? (i := 41) rfl)))
theorem cd_182_171 : mt_cd 182 171 = some (.iload_n 2) := mt_cd_of (q := (171, .iload_n 2, 1)) mq_182 ci_182 (List.mem_append_right _ (List.mem_append_left _ (show _ ∈ my_182_1 from List.mem_of_getElem? (i := 42) rfl)))
theorem cd_182_172 : mt_cd 182 172 = some (.iaload) := mt_cd_of (q := (172, .iaload, 1)) mq_182 ci_182 (List.mem_append_right _ (List.mem_append_left _ (show _ ∈ my_182_1 from List.mem_of_getElem? (i := 43) rfl)))
theorem cd_182_173 : mt_cd 182 173 = some (.aload_n 0) := mt_cd_of (q := (173, .aload_n 0, 1)) mq_182 ci_182 (List.mem_append_right _ (List.mem_append_left _ (show _ ∈ my_182_1 from List.mem_of_getElem? (i := 44) rfl)))
theorem cd_182_174 : mt_cd 182 174 = some (.getfield 83) := mt_cd_of (q := (174, .getfield 83, 3)) mq_182 ci_182 (List.mem_append_right _ (List.mem_append_left _ (show _ ∈ my_182_1 from List.mem_of_getElem? (i := 45) rfl)))
theorem cd_182_177 : mt_cd 182 177 = some (.iload_n 1) := mt_cd_of (q := (177, .iload_n 1, 1)) mq_182 ci_182 (List.mem_append_right _ (List.mem_append_left _ (show _ ∈ my_182_1 from List.mem_of_getElem? (i := 46) rfl)))
theorem cd_182_178 : mt_cd 182 178 = some (.iaload) := mt_cd_of (q := (178, .iaload, 1)) mq_182 ci_182 (List.mem_append_right _ (List.mem_append_left _ (show _ ∈ my_182_1 from List.mem_of_getElem? (i := 47) rfl)))
theorem cd_182_179 : mt_cd 182 179 = some (.if_icmp .ne 18) := mt_cd_of (q := (179, .if_icmp .ne 18, 3)) mq_182 ci_182 (List.mem_append_right _ (List.mem_append_left _ (show _ ∈ my_182_1 from List.mem_of_getElem? (i := 48) rfl)))
theorem cd_182_182 : mt_cd 182 182 = some (.aload_n 0) := mt_cd_of (q := (182, .aload_n 0, 1)) mq_182 ci_182 (List.mem_append_right _ (List.mem_append_left _ (show _ ∈ my_182_1 from List.mem_of_getElem? (i := 49) rfl)))
theorem cd_182_183 : mt_cd 182 183 = some (.getfield 187) := mt_cd_of (q := (183, .getfield 187, 3)) mq_182 ci_182 (List.mem_append_right _ (List.mem_append_left _ (show _ ∈ my_182_1 from List.mem_of_getElem? (i := 50) rfl)))
theorem cd_182_186 : mt_cd 182 186 = some (.iload_n 2) := mt_cd_of (q := (186, .iload_n 2, 1)) mq_182 ci_182 (List.mem_append_right _ (List.mem_append_left _ (show _ ∈ my_182_1 from List.mem_of_getElem? (i := 51) rfl)))
theorem cd_182_187 : mt_cd 182 187 = some (.iaload) := mt_cd_of (q := (187, .iaload, 1)) mq_182 ci_182 (List.mem_append_right _ (List.mem_append_left _ (show _ ∈ my_182_1 from List.mem_of_getElem? (i := 52) rfl)))
theorem cd_182_188 : mt_cd 182 188 = some (.aload_n 0) := mt_cd_of (q := (188, .aload_n 0, 1)) mq_182 ci_182 (List.mem_append_right _ (List.mem_append_left _ (show _ ∈ my_182_1 from List.mem_of_getElem? (i := 53) rfl)))
theorem cd_182_189 : mt_cd 182 189 = some (.getfield 86) := mt_cd_of (q := (189, .getfield 86, 3)) mq_182 ci_182 (List.mem_append_right _ (List.mem_append_left _ (show _ ∈ my_182_1 from List.mem_of_getElem? (i := 54) rfl)))
theorem cd_182_192 : mt_cd 182 192 = some (.iload_n 1) := mt_cd_of (q := (192, .iload_n 1, 1)) mq_182 ci_182 (List.mem_append_right _ (List.mem_append_left _ (show _ ∈ my_182_1 from List.mem_of_getElem? (i := 55) rfl)))
theorem cd_182_193 : mt_cd 182 193 = some (.iaload) := mt_cd_of (q := (193, .iaload, 1)) mq_182 ci_182 (List.mem_append_right _ (List.mem_append_left _ (show _ ∈ my_182_1 from List.mem_of_getElem? (i := 56) rfl)))
theorem cd_182_194 : mt_cd 182 194 = some (.if_icmp .eq 5) := mt_cd_of (q := (194, .if_icmp .eq 5, 3)) mq_182 ci_182 (List.mem_append_right _ (List.mem_append_left _ (show _ ∈ my_182_1 from List.mem_of_getElem? (i := 57) rfl)))
theorem cd_182_197 : mt_cd 182 197 = some (.iconst 0) := mt_cd_of (q := (197, .iconst 0, 1)) mq_182 ci_182 (List.mem_append_right _ (List.mem_append_left _ (show _ ∈ my_182_1 from List.mem_of_getElem? (i := 58) rfl)))
theorem cd_182_198 : mt_cd 182 198 = some (.ireturn) := mt_cd_of (q := (198, .ireturn, 1)) mq_182 ci_182 (List.mem_append_right _ (List.mem_append_left _ (show _ ∈ my_182_1 from List.mem_of_getElem? (i := 59) rfl)))
theorem cd_182_199 : mt_cd 182 199 = some (.aload_n 0) := mt_cd_of (q := (199, .aload_n 0, 1)) mq_182 ci_182 (List.mem_append_right _ (List.mem_append_right _ ((show _ ∈ my_182_2 from List.mem_of_getElem? (i := 0) rfl))))
theorem cd_182_200 : mt_cd 182 200 = some (.aload_n 0) := mt_cd_of (q := (200, .aload_n 0, 1)) mq_182 ci_182 (List.mem_append_right _ (List.mem_append_right _ ((show _ ∈ my_182_2 from List.mem_of_getElem? (i := 1) rfl))))
theorem cd_182_201 : mt_cd 182 201 = some (.getfield 89) := mt_cd_of (q := (201, .getfield 89, 3)) mq_182 ci_182 (List.mem_append_right _ (List.mem_append_right _ ((show _ ∈ my_182_2 from List.mem_of_getElem? (i := 2) rfl))))
theorem cd_182_204 : mt_cd 182 204 = some (.iload_n 1) := mt_cd_of (q := (204, .iload_n 1, 1)) mq_182 ci_182 (List.mem_append_right _ (List.mem_append_right _ ((show _ ∈ my_182_2 from List.mem_of_getElem? (i := 3) rfl))))
theorem cd_182_205 : mt_cd 182 205 = some (.iaload) := mt_cd_of (q := (205, .iaload, 1)) mq_182 ci_182 (List.mem_append_right _ (List.mem_append_right _ ((show _ ∈ my_182_2 from List.mem_of_getElem? (i := 4) rfl))))
theorem cd_182_206 : mt_cd 182 206 = some (.invokevirtual 451) := mt_cd_of (q := (206, .invokevirtual 451, 3)) mq_182 ci_182 (List.mem_append_right _ (List.mem_append_right _ ((show _ ∈ my_182_2 from List.mem_of_getElem? (i := 5) rfl))))
theorem cd_182_209 : mt_cd 182 209 = some (.lstore_n 3) := mt_cd_of (q := (209, .lstore_n 3, 1)) mq_182 ci_182 (List.mem_append_right _ (List.mem_append_right _ ((show _ ∈ my_182_2 from List.mem_of_getElem? (i := 6) rfl))))
theorem cd_182_210 : mt_cd 182 210 = some (.aload_n 0) := mt_cd_of (q := (210, .aload_n 0, 1)) mq_182 ci_182 (List.mem_append_right _ (List.mem_append_right _ ((show _ ∈ my_182_2 from List.mem_of_getElem? (i := 7) rfl))))
theorem cd_182_211 : mt_cd 182 211 = some (.getfield 441) := mt_cd_of (q := (211, .getfield 441, 3)) mq_182 ci_182 (List.mem_append_right _ (List.mem_append_right _ ((show _ ∈ my_182_2 from List.mem_of_getElem? (i := 8) rfl))))
theorem cd_182_214 : mt_cd 182 214 = some (.ifCond .eq 8) := mt_cd_of (q := (214, .ifCond .eq 8, 3)) mq_182 ci_182 (List.mem_append_right _ (List.mem_append_right _ ((show _ ∈ my_182_2 from List.mem_of_getElem? (i := 9) rfl))))
theorem cd_182_217 : mt_cd 182 217 = some (.bipush 6) := mt_cd_of (q := (217, .bipush 6, 2)) mq_182 ci_182 (List.mem_append_right _ (List.mem_append_right _ ((show _ ∈ my_182_2 from List.mem_of_getElem? (i := 10) rfl))))
theorem cd_182_219 : mt_cd 182 219 = some (.goto 19) := mt_cd_of (q := (219, .goto 19, 3)) mq_182 ci_182 (List.mem_append_right _ (List.mem_append_right _ ((show _ ∈ my_182_2 from List.mem_of_getElem? (i := 11) rfl))))
theorem cd_182_222 : mt_cd 182 222 = some (.lload_n 3) := mt_cd_of (q := (222, .lload_n 3, 1)) mq_182 ci_182 (List.mem_append_right _ (List.mem_append_right _ ((show _ ∈ my_182_2 from List.mem_of_getElem? (i := 12) rfl))))
theorem cd_182_223 : mt_cd 182 223 = some (.aload_n 0) := mt_cd_of (q := (223, .aload_n 0, 1)) mq_182 ci_182 (List.mem_append_right _ (List.mem_append_right _ ((show _ ∈ my_182_2 from List.mem_of_getElem? (i := 13) rfl))))
theorem cd_182_224 : mt_cd 182 224 = some (.getfield 190) := mt_cd_of (q := (224, .getfield 190, 3)) mq_182 ci_182 (List.mem_append_right _ (List.mem_append_right _ ((show _ ∈ my_182_2 from List.mem_of_getElem? (i := 14) rfl))))
theorem cd_182_227 : mt_cd 182 227 = some (.iload_n 2) := mt_cd_of (q := (227, .iload_n 2, 1)) mq_182 ci_182 (List.mem_append_right _ (List.mem_append_right _ ((show _ ∈ my_182_2 from List.mem_of_getElem? (i := 15) rfl))))
theorem cd_182_228 : mt_cd 182 228 = some (.laload) := mt_cd_of (q := (228, .laload, 1)) mq_182 ci_182 (List.mem_append_right _ (List.mem_append_right _ ((show _ ∈ my_182_2 from List.mem_of_getElem? (i := 16) rfl))))
theorem cd_182_229 : mt_cd 182 229 = some (.lcmp) := mt_cd_of (q := (229, .lcmp, 1)) mq_182 ci_182 (List.mem_append_right _ (List.mem_append_right _ ((show _ ∈ my_182_2 from List.mem_of_getElem? (i := 17) rfl))))
theorem cd_182_230 : mt_cd 182 230 = some (.ifCond .ne 7) := mt_cd_of (q := (230, .ifCond .ne 7, 3)) mq_182 ci_182 (List.mem_append_right _ (List.mem_append_right _ ((show _ ∈ my_182_2 from List.mem_of_getElem? (i := 18) rfl))))
theorem cd_182_233 : mt_cd 182 233 = some (.iconst 1) := mt_cd_of (q := (233, .iconst 1, 1)) mq_182 ci_182 (List.mem_append_right _ (List.mem_append_right _ ((show _ ∈ my_182_2 from List.mem_of_getElem? (i := 19) rfl))))
theorem cd_182_234 : mt_cd 182 234 = some (.goto 4) := mt_cd_of (q := (234, .goto 4, 3)) mq_182 ci_182 (List.mem_append_right _ (List.mem_append_right _ ((show _ ∈ my_182_2 from List.mem_of_getElem? (i := 20) rfl))))
theorem cd_182_237 : mt_cd 182 237 = some (.iconst 0) := mt_cd_of (q := (237, .iconst 0, 1)) mq_182 ci_182 (List.mem_append_right _ (List.mem_append_right _ ((show _ ∈ my_182_2 from List.mem_of_getElem? (i := 21) rfl))))
theorem cd_182_238 : mt_cd 182 238 = some (.ireturn) := mt_cd_of (q := (238, .ireturn, 1)) mq_182 ci_182 (List.mem_append_right _ (List.mem_append_right _ ((show _ ∈ my_182_2 from List.mem_of_getElem? (i := 22) rfl))))
theorem b_182_0 {d : Nat} {Q : (Option Value ⊕ Nat) → mi_H → Prop} (n sl : Nat) (f : Nat → mi_C) {l1 : Nat} {l2 : Int32} {l3 : Int32} {o4 : Option Value} {o5 : Option Value} {fs6 : List Value} {fs11 : List Value} {x14 : Nat} (m16 i16 : Nat) (g16 : Nat → Int32) {fs20 : List Value} {x23 : Nat} (m25 i25 : Nat) (g25 : Nat → Int32) (h7 : f l1 = .inr (12, fs6)) (h8 : l1 < n) (h9 : 46 < fs6.length) (h10 : mi_fk .boolean (.int 0) = true) (h12 : (va_up f l1 (.inr (12, fs6.set 46 (.int 0)))) l1 = .inr (12, fs11)) (h13 : l1 < n) (h15 : fs11[60]? = some (.ref x14)) (h17 : (va_up f l1 (.inr (12, fs6.set 46 (.int 0)))) x14 = .inl (0, m16, .inl g16)) (h18 : x14 < n ∨ x14 = mi_SC) (h19 : mi_ix l3 m16 i16) (h21 : (va_up f l1 (.inr (12, fs6.set 46 (.int 0)))) l1 = .inr (12, fs20)) (h22 : l1 < n) (h24 : fs20[12]? = some (.ref x23)) (h26 : (va_up f l1 (.inr (12, fs6.set 46 (.int 0)))) x23 = .inl (0, m25, .inl g25)) (h27 : x23 < n ∨ x23 = mi_SC) (h28 : mi_ix l2 m25 i25) (h29 : (g16 i16) = (g25 i25) → mi_W d 182 22 [some (.ref l1), some (.int l2), some (.int l3), o4, o5] [] (n, sl, (va_up f l1 (.inr (12, fs6.set 46 (.int 0))))) Q) (h30 : ¬ ((g16 i16) = (g25 i25)) → mi_W d 182 20 [some (.ref l1), some (.int l2), some (.int l3), o4, o5] [] (n, sl, (va_up f l1 (.inr (12, fs6.set 46 (.int 0))))) Q) : mi_W d 182 0 [some (.ref l1), some (.int l2), some (.int l3), o4, o5] [] (n, sl, f) Q := by
  refine w_aload_n cd_182_0 rfl ?_
  refine w_iconst (v := 0) cd_182_1 (by decide) ?_
  refine w_putfield (w := .int 0) cd_182_2 (show mt_f 12 441 = some (12, 46) by decide +kernel) h7 h8 ⟨h9, h10, Or.inl (by decide)⟩ ?_
  refine w_aload_n cd_182_5 rfl ?_
  refine w_getfield cd_182_6 (show mt_f 12 178 = some (12, 60) by decide +kernel) h12 h13 h15 ?_
  refine w_iload_n cd_182_9 rfl ?_
  refine w_iaload cd_182_10 h17 h18 h19 ?_
  refine w_aload_n cd_182_11 rfl ?_
  refine w_getfield cd_182_12 (show mt_f 12 77 = some (12, 12) by decide +kernel) h21 h22 h24 ?_
  refine w_iload_n cd_182_15 rfl ?_
  refine w_iaload cd_182_16 h26 h27 h28 ?_
  exact w_if_icmpeq cd_182_17 (by decide) h29 h30
theorem b_182_20 {d : Nat} {Q : (Option Value ⊕ Nat) → mi_H → Prop} (n sl : Nat) (f : Nat → mi_C) {l1 : Nat} {l2 : Int32} {l3 : Int32} {o4 : Option Value} {o5 : Option Value} (h6 : Q (.inl (some (.int 0))) (n, sl, f)) : mi_W d 182 20 [some (.ref l1), some (.int l2), some (.int l3), o4, o5] [] (n, sl, f) Q := by
  refine w_iconst (v := 0) cd_182_20 (by decide) ?_
  exact w_ireturn_i cd_182_21 (by decide +kernel) h6
theorem b_182_22 {d : Nat} {Q : (Option Value ⊕ Nat) → mi_H → Prop} (n sl : Nat) (f : Nat → mi_C) {l1 : Nat} {l2 : Int32} {l3 : Int32} {o4 : Option Value} {o5 : Option Value} {fs6 : List Value} {x9 : Nat} (m11 i11 : Nat) (g11 : Nat → Int32) (h7 : f l1 = .inr (12, fs6)) (h8 : l1 < n) (h10 : fs6[12]? = some (.ref x9)) (h12 : f x9 = .inl (0, m11, .inl g11)) (h13 : x9 < n ∨ x9 = mi_SC) (h14 : mi_ix l2 m11 i11) (h15 : ¬ (g11 i11) = 9 → mi_W d 182 66 [some (.ref l1), some (.int l2), some (.int l3), o4, o5] [] (n, sl, f) Q) (h16 : ¬ (¬ (g11 i11) = 9) → mi_W d 182 33 [some (.ref l1), some (.int l2), some (.int l3), o4, o5] [] (n, sl, f) Q) : mi_W d 182 22 [some (.ref l1), some (.int l2), some (.int l3), o4, o5] [] (n, sl, f) Q := by
  refine w_aload_n cd_182_22 rfl ?_
  refine w_getfield cd_182_23 (show mt_f 12 77 = some (12, 12) by decide +kernel) h7 h8 h10 ?_
  refine w_iload_n cd_182_26 rfl ?_
  refine w_iaload cd_182_27 h12 h13 h14 ?_
  refine w_bipush (v := 9) cd_182_28 (by decide) ?_
  exact w_if_icmpne cd_182_30 (by decide) h15 h16
theorem b_182_33 {d : Nat} {Q : (Option Value ⊕ Nat) → mi_H → Prop} (n sl : Nat) (f : Nat → mi_C) {l1 : Nat} {l2 : Int32} {l3 : Int32} {o4 : Option Value} {o5 : Option Value} {fs6 : List Value} {x9 : Nat} (m11 i11 : Nat) (g11 : Nat → Int32) {fs15 : List Value} (h7 : f l1 = .inr (12, fs6)) (h8 : l1 < n) (h10 : fs6[16]? = some (.ref x9)) (h12 : f x9 = .inl (0, m11, .inl g11)) (h13 : x9 < n ∨ x9 = mi_SC) (h14 : mi_ix l2 m11 i11) (h16 : f l1 = .inr (12, fs15)) (h17 : l1 < n) (h18 : mi_W d 177 0 (mi_en 6 [.ref l1, .int (g11 i11)]) [] (n, sl, f) (mi_Kc d 182 40 [some (.ref l1), some (.int l2), some (.int l3), o4, o5] [] Q)) : mi_W (d + 1) 182 33 [some (.ref l1), some (.int l2), some (.int l3), o4, o5] [] (n, sl, f) Q := by
  refine w_aload_n cd_182_33 rfl ?_
  refine w_aload_n cd_182_34 rfl ?_
  refine w_getfield cd_182_35 (show mt_f 12 89 = some (12, 16) by decide +kernel) h7 h8 h10 ?_
  refine w_iload_n cd_182_38 rfl ?_
  refine w_iaload cd_182_39 h12 h13 h14 ?_
  exact w_invokevirtual cd_182_40 (show mt_m 12 477 = some (177, 0) by decide +kernel) (rest := []) rfl (as := [.ref l1, .int (g11 i11)]) rfl h16 (Or.inl h17) ⟨Nat.le_of_ble_eq_true rfl, Nat.le_of_ble_eq_true rfl, Nat.le_of_ble_eq_true rfl⟩ h18
theorem b_182_43 {d : Nat} {Q : (Option Value ⊕ Nat) → mi_H → Prop} (n sl : Nat) (f : Nat → mi_C) {l1 : Nat} {l2 : Int32} {l3 : Int32} {o4 : Option Value} {o5 : Option Value} {s6 : Int32} {fs7 : List Value} {x10 : Int32} (h8 : f l1 = .inr (12, fs7)) (h9 : l1 < n) (h11 : fs7[46]? = some (.int x10)) (h12 : x10 = (0 : Int32) → mi_W d 182 56 [some (.ref l1), some (.int l2), some (.int l3), some (.int s6), o5] [] (n, sl, f) Q) (h13 : ¬ (x10 = (0 : Int32)) → mi_W d 182 51 [some (.ref l1), some (.int l2), some (.int l3), some (.int s6), o5] [] (n, sl, f) Q) : mi_W d 182 43 [some (.ref l1), some (.int l2), some (.int l3), o4, o5] [.int s6] (n, sl, f) Q := by
  refine w_istore_n (ls' := [some (.ref l1), some (.int l2), some (.int l3), some (.int s6), o5]) cd_182_43 (Nat.le_of_ble_eq_true rfl) rfl ?_
  refine w_aload_n cd_182_44 rfl ?_
  refine w_getfield cd_182_45 (show mt_f 12 441 = some (12, 46) by decide +kernel) h8 h9 h11 ?_
  exact w_ifeq cd_182_48 (by decide) h12 h13
theorem b_182_51 {d : Nat} {Q : (Option Value ⊕ Nat) → mi_H → Prop} (n sl : Nat) (f : Nat → mi_C) {l1 : Nat} {l2 : Int32} {l3 : Int32} {l4 : Int32} {o5 : Option Value} (h6 : mi_W d 182 65 [some (.ref l1), some (.int l2), some (.int l3), some (.int l4), o5] [.int 6] (n, sl, f) Q) : mi_W d 182 51 [some (.ref l1), some (.int l2), some (.int l3), some (.int l4), o5] [] (n, sl, f) Q := by
  refine w_bipush (v := 6) cd_182_51 (by decide) ?_
  exact w_goto cd_182_53 (by decide) h6
theorem b_182_56 {d : Nat} {Q : (Option Value ⊕ Nat) → mi_H → Prop} (n sl : Nat) (f : Nat → mi_C) {l1 : Nat} {l2 : Int32} {l3 : Int32} {l4 : Int32} {o5 : Option Value} (h6 : l4 = (0 : Int32) → mi_W d 182 64 [some (.ref l1), some (.int l2), some (.int l3), some (.int l4), o5] [] (n, sl, f) Q) (h7 : ¬ (l4 = (0 : Int32)) → mi_W d 182 60 [some (.ref l1), some (.int l2), some (.int l3), some (.int l4), o5] [] (n, sl, f) Q) : mi_W d 182 56 [some (.ref l1), some (.int l2), some (.int l3), some (.int l4), o5] [] (n, sl, f) Q := by
  refine w_iload_n cd_182_56 rfl ?_
  exact w_ifeq cd_182_57 (by decide) h6 h7
theorem b_182_60 {d : Nat} {Q : (Option Value ⊕ Nat) → mi_H → Prop} (n sl : Nat) (f : Nat → mi_C) {l1 : Nat} {l2 : Int32} {l3 : Int32} {l4 : Int32} {o5 : Option Value} (h6 : mi_W d 182 65 [some (.ref l1), some (.int l2), some (.int l3), some (.int l4), o5] [.int 1] (n, sl, f) Q) : mi_W d 182 60 [some (.ref l1), some (.int l2), some (.int l3), some (.int l4), o5] [] (n, sl, f) Q := by
  refine w_iconst (v := 1) cd_182_60 (by decide) ?_
  exact w_goto cd_182_61 (by decide) h6
theorem b_182_64 {d : Nat} {Q : (Option Value ⊕ Nat) → mi_H → Prop} (n sl : Nat) (f : Nat → mi_C) {l1 : Nat} {l2 : Int32} {l3 : Int32} {l4 : Int32} {o5 : Option Value} (h6 : mi_W d 182 65 [some (.ref l1), some (.int l2), some (.int l3), some (.int l4), o5] [.int 0] (n, sl, f) Q) : mi_W d 182 64 [some (.ref l1), some (.int l2), some (.int l3), some (.int l4), o5] [] (n, sl, f) Q := by
  refine w_iconst (v := 0) cd_182_64 (by decide) ?_
  exact h6
theorem b_182_65 {d : Nat} {Q : (Option Value ⊕ Nat) → mi_H → Prop} (n sl : Nat) (f : Nat → mi_C) {l1 : Nat} {l2 : Int32} {l3 : Int32} {l4 : Int32} {o5 : Option Value} {s6 : Int32} (h7 : Q (.inl (some (.int s6))) (n, sl, f)) : mi_W d 182 65 [some (.ref l1), some (.int l2), some (.int l3), some (.int l4), o5] [.int s6] (n, sl, f) Q := by
  exact w_ireturn_i cd_182_65 (by decide +kernel) h7
theorem b_182_66 {d : Nat} {Q : (Option Value ⊕ Nat) → mi_H → Prop} (n sl : Nat) (f : Nat → mi_C) {l1 : Nat} {l2 : Int32} {l3 : Int32} {o4 : Option Value} {o5 : Option Value} {fs6 : List Value} {x9 : Nat} (m11 i11 : Nat) (g11 : Nat → Int32) (h7 : f l1 = .inr (12, fs6)) (h8 : l1 < n) (h10 : fs6[12]? = some (.ref x9)) (h12 : f x9 = .inl (0, m11, .inl g11)) (h13 : x9 < n ∨ x9 = mi_SC) (h14 : mi_ix l2 m11 i11) (h15 : ¬ (g11 i11) = 8 → mi_W d 182 152 [some (.ref l1), some (.int l2), some (.int l3), o4, o5] [] (n, sl, f) Q) (h16 : ¬ (¬ (g11 i11) = 8) → mi_W d 182 77 [some (.ref l1), some (.int l2), some (.int l3), o4, o5] [] (n, sl, f) Q) : mi_W d 182 66 [some (.ref l1), some (.int l2), some (.int l3), o4, o5] [] (n, sl, f) Q := by
  refine w_aload_n cd_182_66 rfl ?_
  refine w_getfield cd_182_67 (show mt_f 12 77 = some (12, 12) by decide +kernel) h7 h8 h10 ?_
  refine w_iload_n cd_182_70 rfl ?_
  refine w_iaload cd_182_71 h12 h13 h14 ?_
  refine w_bipush (v := 8) cd_182_72 (by decide) ?_
  exact w_if_icmpne cd_182_74 (by decide) h15 h16
theorem b_182_77 {d : Nat} {Q : (Option Value ⊕ Nat) → mi_H → Prop} (n sl : Nat) (f : Nat → mi_C) {l1 : Nat} {l2 : Int32} {l3 : Int32} {o4 : Option Value} {o5 : Option Value} {fs6 : List Value} {x9 : Nat} (m11 i11 : Nat) (g11 : Nat → Int32) {fs15 : List Value} {x18 : Nat} (m20 i20 : Nat) (g20 : Nat → Int32) (h7 : f l1 = .inr (12, fs6)) (h8 : l1 < n) (h10 : fs6[61]? = some (.ref x9)) (h12 : f x9 = .inl (0, m11, .inl g11)) (h13 : x9 < n ∨ x9 = mi_SC) (h14 : mi_ix l3 m11 i11) (h16 : f l1 = .inr (12, fs15)) (h17 : l1 < n) (h19 : fs15[13]? = some (.ref x18)) (h21 : f x18 = .inl (0, m20, .inl g20)) (h22 : x18 < n ∨ x18 = mi_SC) (h23 : mi_ix l2 m20 i20) (h24 : (g11 i11) = (g20 i20) → mi_W d 182 94 [some (.ref l1), some (.int l2), some (.int l3), o4, o5] [] (n, sl, f) Q) (h25 : ¬ ((g11 i11) = (g20 i20)) → mi_W d 182 92 [some (.ref l1), some (.int l2), some (.int l3), o4, o5] [] (n, sl, f) Q) : mi_W d 182 77 [some (.ref l1), some (.int l2), some (.int l3), o4, o5] [] (n, sl, f) Q := by
  refine w_aload_n cd_182_77 rfl ?_
  refine w_getfield cd_182_78 (show mt_f 12 181 = some (12, 61) by decide +kernel) h7 h8 h10 ?_
  refine w_iload_n cd_182_81 rfl ?_
  refine w_iaload cd_182_82 h12 h13 h14 ?_
  refine w_aload_n cd_182_83 rfl ?_
  refine w_getfield cd_182_84 (show mt_f 12 80 = some (12, 13) by decide +kernel) h16 h17 h19 ?_
  refine w_iload_n cd_182_87 rfl ?_
  refine w_iaload cd_182_88 h21 h22 h23 ?_
  exact w_if_icmpeq cd_182_89 (by decide) h24 h25
theorem b_182_92 {d : Nat} {Q : (Option Value ⊕ Nat) → mi_H → Prop} (n sl : Nat) (f : Nat → mi_C) {l1 : Nat} {l2 : Int32} {l3 : Int32} {o4 : Option Value} {o5 : Option Value} (h6 : Q (.inl (some (.int 0))) (n, sl, f)) : mi_W d 182 92 [some (.ref l1), some (.int l2), some (.int l3), o4, o5] [] (n, sl, f) Q := by
  refine w_iconst (v := 0) cd_182_92 (by decide) ?_
  exact w_ireturn_i cd_182_93 (by decide +kernel) h6
theorem b_182_94 {d : Nat} {Q : (Option Value ⊕ Nat) → mi_H → Prop} (n sl : Nat) (f : Nat → mi_C) {l1 : Nat} {l2 : Int32} {l3 : Int32} {o4 : Option Value} {o5 : Option Value} {fs6 : List Value} {x9 : Nat} (m11 i11 : Nat) (g11 : Nat → Int32) (h7 : f l1 = .inr (12, fs6)) (h8 : l1 < n) (h10 : fs6[40]? = some (.ref x9)) (h12 : f x9 = .inl (0, m11, .inl g11)) (h13 : x9 < n ∨ x9 = mi_SC) (h14 : mi_ix l2 m11 i11) (h15 : mi_W d 182 101 [some (.ref l1), some (.int l2), some (.int l3), some (.int (g11 i11)), o5] [] (n, sl, f) Q) : mi_W d 182 94 [some (.ref l1), some (.int l2), some (.int l3), o4, o5] [] (n, sl, f) Q := by
  refine w_aload_n cd_182_94 rfl ?_
  refine w_getfield cd_182_95 (show mt_f 12 141 = some (12, 40) by decide +kernel) h7 h8 h10 ?_
  refine w_iload_n cd_182_98 rfl ?_
  refine w_iaload cd_182_99 h12 h13 h14 ?_
  refine w_istore_n (ls' := [some (.ref l1), some (.int l2), some (.int l3), some (.int (g11 i11)), o5]) cd_182_100 (Nat.le_of_ble_eq_true rfl) rfl ?_
  exact h15
theorem b_182_101 {d : Nat} {Q : (Option Value ⊕ Nat) → mi_H → Prop} (n sl : Nat) (f : Nat → mi_C) {l1 : Nat} {l2 : Int32} {l3 : Int32} {l4 : Int32} {o5 : Option Value} {fs6 : List Value} {x9 : Nat} (m11 i11 : Nat) (g11 : Nat → Int32) {fs15 : List Value} {x18 : Nat} (m20 i20 : Nat) (g20 : Nat → Int32) (h7 : f l1 = .inr (12, fs6)) (h8 : l1 < n) (h10 : fs6[40]? = some (.ref x9)) (h12 : f x9 = .inl (0, m11, .inl g11)) (h13 : x9 < n ∨ x9 = mi_SC) (h14 : mi_ix l2 m11 i11) (h16 : f l1 = .inr (12, fs15)) (h17 : l1 < n) (h19 : fs15[18]? = some (.ref x18)) (h21 : f x18 = .inl (0, m20, .inl g20)) (h22 : x18 < n ∨ x18 = mi_SC) (h23 : mi_ix l2 m20 i20) (h24 : ((g11 i11) + (g20 i20)) ≤ l4 → mi_W d 182 150 [some (.ref l1), some (.int l2), some (.int l3), some (.int l4), o5] [] (n, sl, f) Q) (h25 : ¬ (((g11 i11) + (g20 i20)) ≤ l4) → mi_W d 182 118 [some (.ref l1), some (.int l2), some (.int l3), some (.int l4), o5] [] (n, sl, f) Q) : mi_W d 182 101 [some (.ref l1), some (.int l2), some (.int l3), some (.int l4), o5] [] (n, sl, f) Q := by
  refine w_iload_n cd_182_101 rfl ?_
  refine w_aload_n cd_182_102 rfl ?_
  refine w_getfield cd_182_103 (show mt_f 12 141 = some (12, 40) by decide +kernel) h7 h8 h10 ?_
  refine w_iload_n cd_182_106 rfl ?_
  refine w_iaload cd_182_107 h12 h13 h14 ?_
  refine w_aload_n cd_182_108 rfl ?_
  refine w_getfield cd_182_109 (show mt_f 12 95 = some (12, 18) by decide +kernel) h16 h17 h19 ?_
  refine w_iload_n cd_182_112 rfl ?_
  refine w_iaload cd_182_113 h21 h22 h23 ?_
  refine w_iadd cd_182_114 ?_
  exact w_if_icmpge cd_182_115 (by decide) h24 h25
theorem b_182_118 {d : Nat} {Q : (Option Value ⊕ Nat) → mi_H → Prop} (n sl : Nat) (f : Nat → mi_C) {l1 : Nat} {l2 : Int32} {l3 : Int32} {l4 : Int32} {o5 : Option Value} {fs6 : List Value} {x9 : Nat} (m11 i11 : Nat) (g11 : Nat → Int64) {fs15 : List Value} {x18 : Nat} (m20 i20 : Nat) (g20 : Nat → Int64) {fs24 : List Value} {x27 : Nat} (m29 i29 : Nat) (g29 : Nat → Int64) (h7 : f l1 = .inr (12, fs6)) (h8 : l1 < n) (h10 : fs6[64]? = some (.ref x9)) (h12 : f x9 = .inl (3, m11, .inr (.inl g11))) (h13 : x9 < n) (h14 : mi_ix l3 m11 i11) (h16 : f l1 = .inr (12, fs15)) (h17 : l1 < n) (h19 : fs15[28]? = some (.ref x18)) (h21 : f x18 = .inl (3, m20, .inr (.inl g20))) (h22 : x18 < n) (h23 : mi_ix l4 m20 i20) (h25 : f l1 = .inr (12, fs24)) (h26 : l1 < n) (h28 : fs24[29]? = some (.ref x27)) (h30 : f x27 = .inl (3, m29, .inr (.inl g29))) (h31 : x27 < n) (h32 : mi_ix l4 m29 i29) (h33 : mi_W d 140 0 (mi_en 6 [.long (g11 i11), .long (g20 i20), .long (g29 i29)]) [] (n, sl, f) (mi_Kc d 182 136 [some (.ref l1), some (.int l2), some (.int l3), some (.int l4), o5] [] Q)) : mi_W (d + 1) 182 118 [some (.ref l1), some (.int l2), some (.int l3), some (.int l4), o5] [] (n, sl, f) Q := by
  refine w_aload_n cd_182_118 rfl ?_
  refine w_getfield cd_182_119 (show mt_f 12 190 = some (12, 64) by decide +kernel) h7 h8 h10 ?_
  refine w_iload_n cd_182_122 rfl ?_
  refine w_laload cd_182_123 h12 h13 h14 ?_
  refine w_aload_n cd_182_124 rfl ?_
  refine w_getfield cd_182_125 (show mt_f 12 105 = some (12, 28) by decide +kernel) h16 h17 h19 ?_
  refine w_iload_n cd_182_128 rfl ?_
  refine w_laload cd_182_129 h21 h22 h23 ?_
  refine w_aload_n cd_182_130 rfl ?_
  refine w_getfield cd_182_131 (show mt_f 12 108 = some (12, 29) by decide +kernel) h25 h26 h28 ?_
  refine w_iload_n cd_182_134 rfl ?_
  refine w_laload cd_182_135 h30 h31 h32 ?_
  exact w_invokestatic cd_182_136 (show mt_m 12 268 = some (140, 4) by decide +kernel) (by decide) (rest := []) rfl (as := [.long (g11 i11), .long (g20 i20), .long (g29 i29)]) rfl ⟨Nat.le_of_ble_eq_true rfl, Nat.le_of_ble_eq_true rfl, Nat.le_of_ble_eq_true rfl⟩ h33
theorem b_182_139 {d : Nat} {Q : (Option Value ⊕ Nat) → mi_H → Prop} (n sl : Nat) (f : Nat → mi_C) {l1 : Nat} {l2 : Int32} {l3 : Int32} {l4 : Int32} {o5 : Option Value} {s6 : Int32} (h7 : s6 = (0 : Int32) → mi_W d 182 144 [some (.ref l1), some (.int l2), some (.int l3), some (.int l4), o5] [] (n, sl, f) Q) (h8 : ¬ (s6 = (0 : Int32)) → mi_W d 182 142 [some (.ref l1), some (.int l2), some (.int l3), some (.int l4), o5] [] (n, sl, f) Q) : mi_W d 182 139 [some (.ref l1), some (.int l2), some (.int l3), some (.int l4), o5] [.int s6] (n, sl, f) Q := by
  exact w_ifeq cd_182_139 (by decide) h7 h8
theorem b_182_142 {d : Nat} {Q : (Option Value ⊕ Nat) → mi_H → Prop} (n sl : Nat) (f : Nat → mi_C) {l1 : Nat} {l2 : Int32} {l3 : Int32} {l4 : Int32} {o5 : Option Value} (h6 : Q (.inl (some (.int 1))) (n, sl, f)) : mi_W d 182 142 [some (.ref l1), some (.int l2), some (.int l3), some (.int l4), o5] [] (n, sl, f) Q := by
  refine w_iconst (v := 1) cd_182_142 (by decide) ?_
  exact w_ireturn_i cd_182_143 (by decide +kernel) h6
theorem b_182_144 {d : Nat} {Q : (Option Value ⊕ Nat) → mi_H → Prop} (n sl : Nat) (f : Nat → mi_C) {l1 : Nat} {l2 : Int32} {l3 : Int32} {l4 : Int32} {o5 : Option Value} (h6 : mi_W d 182 101 [some (.ref l1), some (.int l2), some (.int l3), some (.int (l4 + 1)), o5] [] (n, sl, f) Q) : mi_W d 182 144 [some (.ref l1), some (.int l2), some (.int l3), some (.int l4), o5] [] (n, sl, f) Q := by
  refine w_iinc (v := 1) (ls' := [some (.ref l1), some (.int l2), some (.int l3), some (.int (l4 + 1)), o5]) cd_182_144 rfl (by decide) rfl ?_
  exact w_goto cd_182_147 (by decide) h6
theorem b_182_150 {d : Nat} {Q : (Option Value ⊕ Nat) → mi_H → Prop} (n sl : Nat) (f : Nat → mi_C) {l1 : Nat} {l2 : Int32} {l3 : Int32} {l4 : Int32} {o5 : Option Value} (h6 : Q (.inl (some (.int 0))) (n, sl, f)) : mi_W d 182 150 [some (.ref l1), some (.int l2), some (.int l3), some (.int l4), o5] [] (n, sl, f) Q := by
  refine w_iconst (v := 0) cd_182_150 (by decide) ?_
  exact w_ireturn_i cd_182_151 (by decide +kernel) h6
theorem b_182_152 {d : Nat} {Q : (Option Value ⊕ Nat) → mi_H → Prop} (n sl : Nat) (f : Nat → mi_C) {l1 : Nat} {l2 : Int32} {l3 : Int32} {o4 : Option Value} {o5 : Option Value} {fs6 : List Value} {x9 : Nat} (m11 i11 : Nat) (g11 : Nat → Int32) {fs15 : List Value} {x18 : Nat} (m20 i20 : Nat) (g20 : Nat → Int32) (h7 : f l1 = .inr (12, fs6)) (h8 : l1 < n) (h10 : fs6[61]? = some (.ref x9)) (h12 : f x9 = .inl (0, m11, .inl g11)) (h13 : x9 < n ∨ x9 = mi_SC) (h14 : mi_ix l3 m11 i11) (h16 : f l1 = .inr (12, fs15)) (h17 : l1 < n) (h19 : fs15[13]? = some (.ref x18)) (h21 : f x18 = .inl (0, m20, .inl g20)) (h22 : x18 < n ∨ x18 = mi_SC) (h23 : mi_ix l2 m20 i20) (h24 : ¬ (g11 i11) = (g20 i20) → mi_W d 182 197 [some (.ref l1), some (.int l2), some (.int l3), o4, o5] [] (n, sl, f) Q) (h25 : ¬ (¬ (g11 i11) = (g20 i20)) → mi_W d 182 167 [some (.ref l1), some (.int l2), some (.int l3), o4, o5] [] (n, sl, f) Q) : mi_W d 182 152 [some (.ref l1), some (.int l2), some (.int l3), o4, o5] [] (n, sl, f) Q := by
  refine w_aload_n cd_182_152 rfl ?_
  refine w_getfield cd_182_153 (show mt_f 12 181 = some (12, 61) by decide +kernel) h7 h8 h10 ?_
  refine w_iload_n cd_182_156 rfl ?_
  refine w_iaload cd_182_157 h12 h13 h14 ?_
  refine w_aload_n cd_182_158 rfl ?_
  refine w_getfield cd_182_159 (show mt_f 12 80 = some (12, 13) by decide +kernel) h16 h17 h19 ?_
  refine w_iload_n cd_182_162 rfl ?_
  refine w_iaload cd_182_163 h21 h22 h23 ?_
  exact w_if_icmpne cd_182_164 (by decide) h24 h25
theorem b_182_167 {d : Nat} {Q : (Option Value ⊕ Nat) → mi_H → Prop} (n sl : Nat) (f : Nat → mi_C) {l1 : Nat} {l2 : Int32} {l3 : Int32} {o4 : Option Value} {o5 : Option Value} {fs6 : List Value} {x9 : Nat} (m11 i11 : Nat) (g11 : Nat → Int32) {fs15 : List Value} {x18 : Nat} (m20 i20 : Nat) (g20 : Nat → Int32) (h7 : f l1 = .inr (12, fs6)) (h8 : l1 < n) (h10 : fs6[62]? = some (.ref x9)) (h12 : f x9 = .inl (0, m11, .inl g11)) (h13 : x9 < n ∨ x9 = mi_SC) (h14 : mi_ix l3 m11 i11) (h16 : f l1 = .inr (12, fs15)) (h17 : l1 < n) (h19 : fs15[14]? = some (.ref x18)) (h21 : f x18 = .inl (0, m20, .inl g20)) (h22 : x18 < n ∨ x18 = mi_SC) (h23 : mi_ix l2 m20 i20) (h24 : ¬ (g11 i11) = (g20 i20) → mi_W d 182 197 [some (.ref l1), some (.int l2), some (.int l3), o4, o5] [] (n, sl, f) Q) (h25 : ¬ (¬ (g11 i11) = (g20 i20)) → mi_W d 182 182 [some (.ref l1), some (.int l2), some (.int l3), o4, o5] [] (n, sl, f) Q) : mi_W d 182 167 [some (.ref l1), some (.int l2), some (.int l3), o4, o5] [] (n, sl, f) Q := by
  refine w_aload_n cd_182_167 rfl ?_
  refine w_getfield cd_182_168 (show mt_f 12 184 = some (12, 62) by decide +kernel) h7 h8 h10 ?_
  refine w_iload_n cd_182_171 rfl ?_
  refine w_iaload cd_182_172 h12 h13 h14 ?_
  refine w_aload_n cd_182_173 rfl ?_
  refine w_getfield cd_182_174 (show mt_f 12 83 = some (12, 14) by decide +kernel) h16 h17 h19 ?_
  refine w_iload_n cd_182_177 rfl ?_
  refine w_iaload cd_182_178 h21 h22 h23 ?_
  exact w_if_icmpne cd_182_179 (by decide) h24 h25
theorem b_182_182 {d : Nat} {Q : (Option Value ⊕ Nat) → mi_H → Prop} (n sl : Nat) (f : Nat → mi_C) {l1 : Nat} {l2 : Int32} {l3 : Int32} {o4 : Option Value} {o5 : Option Value} {fs6 : List Value} {x9 : Nat} (m11 i11 : Nat) (g11 : Nat → Int32) {fs15 : List Value} {x18 : Nat} (m20 i20 : Nat) (g20 : Nat → Int32) (h7 : f l1 = .inr (12, fs6)) (h8 : l1 < n) (h10 : fs6[63]? = some (.ref x9)) (h12 : f x9 = .inl (0, m11, .inl g11)) (h13 : x9 < n ∨ x9 = mi_SC) (h14 : mi_ix l3 m11 i11) (h16 : f l1 = .inr (12, fs15)) (h17 : l1 < n) (h19 : fs15[15]? = some (.ref x18)) (h21 : f x18 = .inl (0, m20, .inl g20)) (h22 : x18 < n ∨ x18 = mi_SC) (h23 : mi_ix l2 m20 i20) (h24 : (g11 i11) = (g20 i20) → mi_W d 182 199 [some (.ref l1), some (.int l2), some (.int l3), o4, o5] [] (n, sl, f) Q) (h25 : ¬ ((g11 i11) = (g20 i20)) → mi_W d 182 197 [some (.ref l1), some (.int l2), some (.int l3), o4, o5] [] (n, sl, f) Q) : mi_W d 182 182 [some (.ref l1), some (.int l2), some (.int l3), o4, o5] [] (n, sl, f) Q := by
  refine w_aload_n cd_182_182 rfl ?_
  refine w_getfield cd_182_183 (show mt_f 12 187 = some (12, 63) by decide +kernel) h7 h8 h10 ?_
  refine w_iload_n cd_182_186 rfl ?_
  refine w_iaload cd_182_187 h12 h13 h14 ?_
  refine w_aload_n cd_182_188 rfl ?_
  refine w_getfield cd_182_189 (show mt_f 12 86 = some (12, 15) by decide +kernel) h16 h17 h19 ?_
  refine w_iload_n cd_182_192 rfl ?_
  refine w_iaload cd_182_193 h21 h22 h23 ?_
  exact w_if_icmpeq cd_182_194 (by decide) h24 h25
theorem b_182_197 {d : Nat} {Q : (Option Value ⊕ Nat) → mi_H → Prop} (n sl : Nat) (f : Nat → mi_C) {l1 : Nat} {l2 : Int32} {l3 : Int32} {o4 : Option Value} {o5 : Option Value} (h6 : Q (.inl (some (.int 0))) (n, sl, f)) : mi_W d 182 197 [some (.ref l1), some (.int l2), some (.int l3), o4, o5] [] (n, sl, f) Q := by
  refine w_iconst (v := 0) cd_182_197 (by decide) ?_
  exact w_ireturn_i cd_182_198 (by decide +kernel) h6
theorem b_182_199 {d : Nat} {Q : (Option Value ⊕ Nat) → mi_H → Prop} (n sl : Nat) (f : Nat → mi_C) {l1 : Nat} {l2 : Int32} {l3 : Int32} {o4 : Option Value} {o5 : Option Value} {fs6 : List Value} {x9 : Nat} (m11 i11 : Nat) (g11 : Nat → Int32) {fs15 : List Value} (h7 : f l1 = .inr (12, fs6)) (h8 : l1 < n) (h10 : fs6[16]? = some (.ref x9)) (h12 : f x9 = .inl (0, m11, .inl g11)) (h13 : x9 < n ∨ x9 = mi_SC) (h14 : mi_ix l2 m11 i11) (h16 : f l1 = .inr (12, fs15)) (h17 : l1 < n) (h18 : mi_W d 175 0 (mi_en 2 [.ref l1, .int (g11 i11)]) [] (n, sl, f) (mi_Kc d 182 206 [some (.ref l1), some (.int l2), some (.int l3), o4, o5] [] Q)) : mi_W (d + 1) 182 199 [some (.ref l1), some (.int l2), some (.int l3), o4, o5] [] (n, sl, f) Q := by
  refine w_aload_n cd_182_199 rfl ?_
  refine w_aload_n cd_182_200 rfl ?_
  refine w_getfield cd_182_201 (show mt_f 12 89 = some (12, 16) by decide +kernel) h7 h8 h10 ?_
  refine w_iload_n cd_182_204 rfl ?_
  refine w_iaload cd_182_205 h12 h13 h14 ?_
  exact w_invokevirtual cd_182_206 (show mt_m 12 451 = some (175, 0) by decide +kernel) (rest := []) rfl (as := [.ref l1, .int (g11 i11)]) rfl h16 (Or.inl h17) ⟨Nat.le_of_ble_eq_true rfl, Nat.le_of_ble_eq_true rfl, Nat.le_of_ble_eq_true rfl⟩ h18
theorem b_182_209 {d : Nat} {Q : (Option Value ⊕ Nat) → mi_H → Prop} (n sl : Nat) (f : Nat → mi_C) {l1 : Nat} {l2 : Int32} {l3 : Int32} {o4 : Option Value} {o5 : Option Value} {s6 : Int64} {fs7 : List Value} {x10 : Int32} (h8 : f l1 = .inr (12, fs7)) (h9 : l1 < n) (h11 : fs7[46]? = some (.int x10)) (h12 : x10 = (0 : Int32) → mi_W d 182 222 [some (.ref l1), some (.int l2), some (.int l3), some (.long s6), none] [] (n, sl, f) Q) (h13 : ¬ (x10 = (0 : Int32)) → mi_W d 182 217 [some (.ref l1), some (.int l2), some (.int l3), some (.long s6), none] [] (n, sl, f) Q) : mi_W d 182 209 [some (.ref l1), some (.int l2), some (.int l3), o4, o5] [.long s6] (n, sl, f) Q := by
  refine w_lstore_n (ls' := [some (.ref l1), some (.int l2), some (.int l3), some (.long s6), none]) cd_182_209 (Nat.le_of_ble_eq_true rfl) rfl ?_
  refine w_aload_n cd_182_210 rfl ?_
  refine w_getfield cd_182_211 (show mt_f 12 441 = some (12, 46) by decide +kernel) h8 h9 h11 ?_
  exact w_ifeq cd_182_214 (by decide) h12 h13
theorem b_182_217 {d : Nat} {Q : (Option Value ⊕ Nat) → mi_H → Prop} (n sl : Nat) (f : Nat → mi_C) {l1 : Nat} {l2 : Int32} {l3 : Int32} {l4 : Int64} (h5 : mi_W d 182 238 [some (.ref l1), some (.int l2), some (.int l3), some (.long l4), none] [.int 6] (n, sl, f) Q) : mi_W d 182 217 [some (.ref l1), some (.int l2), some (.int l3), some (.long l4), none] [] (n, sl, f) Q := by
  refine w_bipush (v := 6) cd_182_217 (by decide) ?_
  exact w_goto cd_182_219 (by decide) h5
theorem b_182_222 {d : Nat} {Q : (Option Value ⊕ Nat) → mi_H → Prop} (n sl : Nat) (f : Nat → mi_C) {l1 : Nat} {l2 : Int32} {l3 : Int32} {l4 : Int64} {fs5 : List Value} {x8 : Nat} (m10 i10 : Nat) (g10 : Nat → Int64) (h6 : f l1 = .inr (12, fs5)) (h7 : l1 < n) (h9 : fs5[64]? = some (.ref x8)) (h11 : f x8 = .inl (3, m10, .inr (.inl g10))) (h12 : x8 < n) (h13 : mi_ix l3 m10 i10) (h14 : ¬ (lg_cmp l4 (g10 i10)) = (0 : Int32) → mi_W d 182 237 [some (.ref l1), some (.int l2), some (.int l3), some (.long l4), none] [] (n, sl, f) Q) (h15 : ¬ (¬ (lg_cmp l4 (g10 i10)) = (0 : Int32)) → mi_W d 182 233 [some (.ref l1), some (.int l2), some (.int l3), some (.long l4), none] [] (n, sl, f) Q) : mi_W d 182 222 [some (.ref l1), some (.int l2), some (.int l3), some (.long l4), none] [] (n, sl, f) Q := by
  refine w_lload_n cd_182_222 rfl ?_
  refine w_aload_n cd_182_223 rfl ?_
  refine w_getfield cd_182_224 (show mt_f 12 190 = some (12, 64) by decide +kernel) h6 h7 h9 ?_
  refine w_iload_n cd_182_227 rfl ?_
  refine w_laload cd_182_228 h11 h12 h13 ?_
  refine w_lcmp cd_182_229 ?_
  exact w_ifne cd_182_230 (by decide) h14 h15
theorem b_182_233 {d : Nat} {Q : (Option Value ⊕ Nat) → mi_H → Prop} (n sl : Nat) (f : Nat → mi_C) {l1 : Nat} {l2 : Int32} {l3 : Int32} {l4 : Int64} (h5 : mi_W d 182 238 [some (.ref l1), some (.int l2), some (.int l3), some (.long l4), none] [.int 1] (n, sl, f) Q) : mi_W d 182 233 [some (.ref l1), some (.int l2), some (.int l3), some (.long l4), none] [] (n, sl, f) Q := by
  refine w_iconst (v := 1) cd_182_233 (by decide) ?_
  exact w_goto cd_182_234 (by decide) h5
theorem b_182_237 {d : Nat} {Q : (Option Value ⊕ Nat) → mi_H → Prop} (n sl : Nat) (f : Nat → mi_C) {l1 : Nat} {l2 : Int32} {l3 : Int32} {l4 : Int64} (h5 : mi_W d 182 238 [some (.ref l1), some (.int l2), some (.int l3), some (.long l4), none] [.int 0] (n, sl, f) Q) : mi_W d 182 237 [some (.ref l1), some (.int l2), some (.int l3), some (.long l4), none] [] (n, sl, f) Q := by
  refine w_iconst (v := 0) cd_182_237 (by decide) ?_
  exact h5
theorem b_182_238 {d : Nat} {Q : (Option Value ⊕ Nat) → mi_H → Prop} (n sl : Nat) (f : Nat → mi_C) {l1 : Nat} {l2 : Int32} {l3 : Int32} {l4 : Int64} {s5 : Int32} (h6 : Q (.inl (some (.int s5))) (n, sl, f)) : mi_W d 182 238 [some (.ref l1), some (.int l2), some (.int l3), some (.long l4), none] [.int s5] (n, sl, f) Q := by
  exact w_ireturn_i cd_182_238 (by decide +kernel) h6
/-! MarloweHostModel.settle()I -/
set_option maxRecDepth 100000 in
theorem mq_183 : mt_q 183 = my_183 := rfl
set_option maxRecDepth 100000 in
theorem ci_183 : mt_inc 0 my_183.cd = true := by decide +kernel
theorem cd_183_0 : mt_cd 183 0 = some (.iconst 0) := mt_cd_of (q := (0, .iconst 0, 1)) mq_183 ci_183 (List.mem_of_getElem? (i := 0) rfl)
theorem cd_183_1 : mt_cd 183 1 = some (.istore_n 1) := mt_cd_of (q := (1, .istore_n 1, 1)) mq_183 ci_183 (List.mem_of_getElem? (i := 1) rfl)
theorem cd_183_2 : mt_cd 183 2 = some (.iload_n 1) := mt_cd_of (q := (2, .iload_n 1, 1)) mq_183 ci_183 (List.mem_of_getElem? (i := 2) rfl)
theorem cd_183_3 : mt_cd 183 3 = some (.iconst 2) := mt_cd_of (q := (3, .iconst 2, 1)) mq_183 ci_183 (List.mem_of_getElem? (i := 3) rfl)
theorem cd_183_4 : mt_cd 183 4 = some (.if_icmp .ge 121) := mt_cd_of (q := (4, .if_icmp .ge 121, 3)) mq_183 ci_183 (List.mem_of_getElem? (i := 4) rfl)
theorem cd_183_7 : mt_cd 183 7 = some (.iconst 0) := mt_cd_of (q := (7, .iconst 0, 1)) mq_183 ci_183 (List.mem_of_getElem? (i := 5) rfl)
theorem cd_183_8 : mt_cd 183 8 = some (.istore_n 2) := mt_cd_of (q := (8, .istore_n 2, 1)) mq_183 ci_183 (List.mem_of_getElem? (i := 6) rfl)
theorem cd_183_9 : mt_cd 183 9 = some (.iload_n 2) := mt_cd_of (q := (9, .iload_n 2, 1)) mq_183 ci_183 (List.mem_of_getElem? (i := 7) rfl)
theorem cd_183_10 : mt_cd 183 10 = some (.bipush 32) := mt_cd_of (q := (10, .bipush 32, 2)) mq_183 ci_183 (List.mem_of_getElem? (i := 8) rfl)
theorem cd_183_12 : mt_cd 183 12 = some (.if_icmp .ge 107) := mt_cd_of (q := (12, .if_icmp .ge 107, 3)) mq_183 ci_183 (List.mem_of_getElem? (i := 9) rfl)
theorem cd_183_15 : mt_cd 183 15 = some (.aload_n 0) := mt_cd_of (q := (15, .aload_n 0, 1)) mq_183 ci_183 (List.mem_of_getElem? (i := 10) rfl)
theorem cd_183_16 : mt_cd 183 16 = some (.getfield 175) := mt_cd_of (q := (16, .getfield 175, 3)) mq_183 ci_183 (List.mem_of_getElem? (i := 11) rfl)
theorem cd_183_19 : mt_cd 183 19 = some (.iload_n 2) := mt_cd_of (q := (19, .iload_n 2, 1)) mq_183 ci_183 (List.mem_of_getElem? (i := 12) rfl)
theorem cd_183_20 : mt_cd 183 20 = some (.laload) := mt_cd_of (q := (20, .laload, 1)) mq_183 ci_183 (List.mem_of_getElem? (i := 13) rfl)
theorem cd_183_21 : mt_cd 183 21 = some (.aload_n 0) := mt_cd_of (q := (21, .aload_n 0, 1)) mq_183 ci_183 (List.mem_of_getElem? (i := 14) rfl)
theorem cd_183_22 : mt_cd 183 22 = some (.getfield 172) := mt_cd_of (q := (22, .getfield 172, 3)) mq_183 ci_183 (List.mem_of_getElem? (i := 15) rfl)
theorem cd_183_25 : mt_cd 183 25 = some (.iload_n 2) := mt_cd_of (q := (25, .iload_n 2, 1)) mq_183 ci_183 (List.mem_of_getElem? (i := 16) rfl)
theorem cd_183_26 : mt_cd 183 26 = some (.laload) := mt_cd_of (q := (26, .laload, 1)) mq_183 ci_183 (List.mem_of_getElem? (i := 17) rfl)
theorem cd_183_27 : mt_cd 183 27 = some (.lsub) := mt_cd_of (q := (27, .lsub, 1)) mq_183 ci_183 (List.mem_of_getElem? (i := 18) rfl)
theorem cd_183_28 : mt_cd 183 28 = some (.lstore_n 3) := mt_cd_of (q := (28, .lstore_n 3, 1)) mq_183 ci_183 (List.mem_of_getElem? (i := 19) rfl)
theorem cd_183_29 : mt_cd 183 29 = some (.iconst 0) := mt_cd_of (q := (29, .iconst 0, 1)) mq_183 ci_183 (List.mem_of_getElem? (i := 20) rfl)
theorem cd_183_30 : mt_cd 183 30 = some (.istore 5) := mt_cd_of (q := (30, .istore 5, 2)) mq_183 ci_183 (List.mem_of_getElem? (i := 21) rfl)
theorem cd_183_32 : mt_cd 183 32 = some (.iload 5) := mt_cd_of (q := (32, .iload 5, 2)) mq_183 ci_183 (List.mem_of_getElem? (i := 22) rfl)
theorem cd_183_34 : mt_cd 183 34 = some (.aload_n 0) := mt_cd_of (q := (34, .aload_n 0, 1)) mq_183 ci_183 (List.mem_of_getElem? (i := 23) rfl)
theorem cd_183_35 : mt_cd 183 35 = some (.getfield 493) := mt_cd_of (q := (35, .getfield 493, 3)) mq_183 ci_183 (List.mem_of_getElem? (i := 24) rfl)
theorem cd_183_38 : mt_cd 183 38 = some (.if_icmp .ge 52) := mt_cd_of (q := (38, .if_icmp .ge 52, 3)) mq_183 ci_183 (List.mem_of_getElem? (i := 25) rfl)
theorem cd_183_41 : mt_cd 183 41 = some (.iconst 4) := mt_cd_of (q := (41, .iconst 4, 1)) mq_183 ci_183 (List.mem_of_getElem? (i := 26) rfl)
theorem cd_183_42 : mt_cd 183 42 = some (.aload_n 0) := mt_cd_of (q := (42, .aload_n 0, 1)) mq_183 ci_183 (List.mem_of_getElem? (i := 27) rfl)
theorem cd_183_43 : mt_cd 183 43 = some (.getfield 163) := mt_cd_of (q := (43, .getfield 163, 3)) mq_183 ci_183 (List.mem_of_getElem? (i := 28) rfl)
theorem cd_183_46 : mt_cd 183 46 = some (.iload 5) := mt_cd_of (q := (46, .iload 5, 2)) mq_183 ci_183 (List.mem_of_getElem? (i := 29) rfl)
theorem cd_183_48 : mt_cd 183 48 = some (.iaload) := mt_cd_of (q := (48, .iaload, 1)) mq_183 ci_183 (List.mem_of_getElem? (i := 30) rfl)
theorem cd_183_49 : mt_cd 183 49 = some (.imul) := mt_cd_of (q := (49, .imul, 1)) mq_183 ci_183 (List.mem_of_getElem? (i := 31) rfl)
theorem cd_183_50 : mt_cd 183 50 = some (.aload_n 0) := mt_cd_of (q := (50, .aload_n 0, 1)) mq_183 ci_183 (List.mem_of_getElem? (i := 32) rfl)
theorem cd_183_51 : mt_cd 183 51 = some (.getfield 166) := mt_cd_of (q := (51, .getfield 166, 3)) mq_183 ci_183 (List.mem_of_getElem? (i := 33) rfl)
theorem cd_183_54 : mt_cd 183 54 = some (.iload 5) := mt_cd_of (q := (54, .iload 5, 2)) mq_183 ci_183 (List.mem_of_getElem? (i := 34) rfl)
theorem cd_183_56 : mt_cd 183 56 = some (.iaload) := mt_cd_of (q := (56, .iaload, 1)) mq_183 ci_183 (List.mem_of_getElem? (i := 35) rfl)
theorem cd_183_57 : mt_cd 183 57 = some (.iadd) := mt_cd_of (q := (57, .iadd, 1)) mq_183 ci_183 (List.mem_of_getElem? (i := 36) rfl)
theorem cd_183_58 : mt_cd 183 58 = some (.iload_n 2) := mt_cd_of (q := (58, .iload_n 2, 1)) mq_183 ci_183 (List.mem_of_getElem? (i := 37) rfl)
theorem cd_183_59 : mt_cd 183 59 = some (.if_icmp .eq 6) := mt_cd_of (q := (59, .if_icmp .eq 6, 3)) mq_183 ci_183 (List.mem_of_getElem? (i := 38) rfl)
theorem cd_183_62 : mt_cd 183 62 = some (.goto 22) := mt_cd_of (q := (62, .goto 22, 3)) mq_183 ci_183 (List.mem_of_getElem? (i := 39) rfl)
theorem cd_183_65 : mt_cd 183 65 = some (.lload_n 3) := mt_cd_of (q := (65, .lload_n 3, 1)) mq_183 ci_183 (List.mem_of_getElem? (i := 40) rfl)
theorem cd_183_66 : mt_cd 183 66 = some (.aload_n 0) := mt_cd_of (q := (66, .aload_n 0, 1)) mq_183 ci_183 (List.mem_of_getElem? (i := 41) rfl)
theorem cd_183_67 : mt_cd 183 67 = some (.getfield 169) := mt_cd_of (q := (67, .getfield 169, 3)) mq_183 ci_183 (List.mem_of_getElem? (i := 42) rfl)
theorem cd_183_70 : mt_cd 183 70 = some (.iload 5) := mt_cd_of (q := (70, .iload 5, 2)) mq_183 ci_183 (List.mem_of_getElem? (i := 43) rfl)
theorem cd_183_72 : mt_cd 183 72 = some (.laload) := mt_cd_of (q := (72, .laload, 1)) mq_183 ci_183 (List.mem_of_getElem? (i := 44) rfl)
theorem cd_183_73 : mt_cd 183 73 = some (.ladd) := mt_cd_of (q := (73, .ladd, 1)) mq_183 ci_183 (List.mem_of_getElem? (i := 45) rfl)
theorem cd_183_74 : mt_cd 183 74 = some (.lstore_n 3) := mt_cd_of (q := (74, .lstore_n 3, 1)) mq_183 ci_183 (List.mem_of_getElem? (i := 46) rfl)
theorem cd_183_75 : mt_cd 183 75 = some (.lload_n 3) := mt_cd_of (q := (75, .lload_n 3, 1)) mq_183 ci_183 (List.mem_of_getElem? (i := 47) rfl)
theorem cd_183_76 : mt_cd 183 76 = some (.lconst 0) := mt_cd_of (q := (76, .lconst 0, 1)) mq_183 ci_183 (List.mem_of_getElem? (i := 48) rfl)
theorem cd_183_77 : mt_cd 183 77 = some (.lcmp) := mt_cd_of (q := (77, .lcmp, 1)) mq_183 ci_183 (List.mem_of_getElem? (i := 49) rfl)
theorem cd_183_78 : mt_cd 183 78 = some (.ifCond .ge 6) := mt_cd_of (q := (78, .ifCond .ge 6, 3)) mq_183 ci_183 (List.mem_of_getElem? (i := 50) rfl)
theorem cd_183_81 : mt_cd 183 81 = some (.bipush 6) := mt_cd_of (q := (81, .bipush 6, 2)) mq_183 ci_183 (List.mem_of_getElem? (i := 51) rfl)
theorem cd_183_83 : mt_cd 183 83 = some (.ireturn) := mt_cd_of (q := (83, .ireturn, 1)) mq_183 ci_183 (List.mem_of_getElem? (i := 52) rfl)
theorem cd_183_84 : mt_cd 183 84 = some (.iinc 5 1) := mt_cd_of (q := (84, .iinc 5 1, 3)) mq_183 ci_183 (List.mem_of_getElem? (i := 53) rfl)
theorem cd_183_87 : mt_cd 183 87 = some (.goto (-55)) := mt_cd_of (q := (87, .goto (-55), 3)) mq_183 ci_183 (List.mem_of_getElem? (i := 54) rfl)
theorem cd_183_90 : mt_cd 183 90 = some (.lload_n 3) := mt_cd_of (q := (90, .lload_n 3, 1)) mq_183 ci_183 (List.mem_of_getElem? (i := 55) rfl)
theorem cd_183_91 : mt_cd 183 91 = some (.ldc2_w 437) := mt_cd_of (q := (91, .ldc2_w 437, 3)) mq_183 ci_183 (List.mem_of_getElem? (i := 56) rfl)
theorem cd_183_94 : mt_cd 183 94 = some (.lcmp) := mt_cd_of (q := (94, .lcmp, 1)) mq_183 ci_183 (List.mem_of_getElem? (i := 57) rfl)
theorem cd_183_95 : mt_cd 183 95 = some (.ifCond .le 6) := mt_cd_of (q := (95, .ifCond .le 6, 3)) mq_183 ci_183 (List.mem_of_getElem? (i := 58) rfl)
theorem cd_183_98 : mt_cd 183 98 = some (.bipush 6) := mt_cd_of (q := (98, .bipush 6, 2)) mq_183 ci_183 (List.mem_of_getElem? (i := 59) rfl)
theorem cd_183_100 : mt_cd 183 100 = some (.ireturn) := mt_cd_of (q := (100, .ireturn, 1)) mq_183 ci_183 (List.mem_of_getElem? (i := 60) rfl)
theorem cd_183_101 : mt_cd 183 101 = some (.iload_n 1) := mt_cd_of (q := (101, .iload_n 1, 1)) mq_183 ci_183 (List.mem_of_getElem? (i := 61) rfl)
theorem cd_183_102 : mt_cd 183 102 = some (.iconst 1) := mt_cd_of (q := (102, .iconst 1, 1)) mq_183 ci_183 (List.mem_of_getElem? (i := 62) rfl)
theorem cd_183_103 : mt_cd 183 103 = some (.if_icmp .ne 10) := mt_cd_of (q := (103, .if_icmp .ne 10, 3)) mq_183 ci_183 (List.mem_of_getElem? (i := 63) rfl)
theorem cd_183_106 : mt_cd 183 106 = some (.aload_n 0) := mt_cd_of (q := (106, .aload_n 0, 1)) mq_183 ci_183 (List.mem_of_getElem? (i := 64) rfl)
theorem cd_183_107 : mt_cd 183 107 = some (.getfield 175) := mt_cd_of (q := (107, .getfield 175, 3)) mq_183 ci_183 (List.mem_of_getElem? (i := 65) rfl)
theorem cd_183_110 : mt_cd 183 110 = some (.iload_n 2) := mt_cd_of (q := (110, .iload_n 2, 1)) mq_183 ci_183 (List.mem_of_getElem? (i := 66) rfl)
theorem cd_183_111 : mt_cd 183 111 = some (.lload_n 3) := mt_cd_of (q := (111, .lload_n 3, 1)) mq_183 ci_183 (List.mem_of_getElem? (i := 67) rfl)
theorem cd_183_112 : mt_cd 183 112 = some (.lastore) := mt_cd_of (q := (112, .lastore, 1)) mq_183 ci_183 (List.mem_of_getElem? (i := 68) rfl)
theorem cd_183_113 : mt_cd 183 113 = some (.iinc 2 1) := mt_cd_of (q := (113, .iinc 2 1, 3)) mq_183 ci_183 (List.mem_of_getElem? (i := 69) rfl)
theorem cd_183_116 : mt_cd 183 116 = some (.goto (-107)) := mt_cd_of (q := (116, .goto (-107), 3)) mq_183 ci_183 (List.mem_of_getElem? (i := 70) rfl)
theorem cd_183_119 : mt_cd 183 119 = some (.iinc 1 1) := mt_cd_of (q := (119, .iinc 1 1, 3)) mq_183 ci_183 (List.mem_of_getElem? (i := 71) rfl)
theorem cd_183_122 : mt_cd 183 122 = some (.goto (-120)) := mt_cd_of (q := (122, .goto (-120), 3)) mq_183 ci_183 (List.mem_of_getElem? (i := 72) rfl)
theorem cd_183_125 : mt_cd 183 125 = some (.iconst 0) := mt_cd_of (q := (125, .iconst 0, 1)) mq_183 ci_183 (List.mem_of_getElem? (i := 73) rfl)
theorem cd_183_126 : mt_cd 183 126 = some (.ireturn) := mt_cd_of (q := (126, .ireturn, 1)) mq_183 ci_183 (List.mem_of_getElem? (i := 74) rfl)
theorem b_183_0 {d : Nat} {Q : (Option Value ⊕ Nat) → mi_H → Prop} (n sl : Nat) (f : Nat → mi_C) {l1 : Nat} {o2 : Option Value} {o3 : Option Value} {o4 : Option Value} {o5 : Option Value} {o6 : Option Value} (h7 : mi_W d 183 2 [some (.ref l1), some (.int 0), o3, o4, o5, o6] [] (n, sl, f) Q) : mi_W d 183 0 [some (.ref l1), o2, o3, o4, o5, o6] [] (n, sl, f) Q := by
  refine w_iconst (v := 0) cd_183_0 (by decide) ?_
  refine w_istore_n (ls' := [some (.ref l1), some (.int 0), o3, o4, o5, o6]) cd_183_1 (Nat.le_of_ble_eq_true rfl) rfl ?_
  exact h7
theorem b_183_2 {d : Nat} {Q : (Option Value ⊕ Nat) → mi_H → Prop} (n sl : Nat) (f : Nat → mi_C) {l1 : Nat} {l2 : Int32} {o3 : Option Value} {o4 : Option Value} {o5 : Option Value} {o6 : Option Value} (h7 : 2 ≤ l2 → mi_W d 183 125 [some (.ref l1), some (.int l2), o3, o4, o5, o6] [] (n, sl, f) Q) (h8 : ¬ (2 ≤ l2) → mi_W d 183 7 [some (.ref l1), some (.int l2), o3, o4, o5, o6] [] (n, sl, f) Q) : mi_W d 183 2 [some (.ref l1), some (.int l2), o3, o4, o5, o6] [] (n, sl, f) Q := by
  refine w_iload_n cd_183_2 rfl ?_
  refine w_iconst (v := 2) cd_183_3 (by decide) ?_
  exact w_if_icmpge cd_183_4 (by decide) h7 h8
theorem b_183_7 {d : Nat} {Q : (Option Value ⊕ Nat) → mi_H → Prop} (n sl : Nat) (f : Nat → mi_C) {l1 : Nat} {l2 : Int32} {o3 : Option Value} {o4 : Option Value} {o5 : Option Value} {o6 : Option Value} (h7 : mi_W d 183 9 [some (.ref l1), some (.int l2), some (.int 0), o4, o5, o6] [] (n, sl, f) Q) : mi_W d 183 7 [some (.ref l1), some (.int l2), o3, o4, o5, o6] [] (n, sl, f) Q := by
  refine w_iconst (v := 0) cd_183_7 (by decide) ?_
  refine w_istore_n (ls' := [some (.ref l1), some (.int l2), some (.int 0), o4, o5, o6]) cd_183_8 (Nat.le_of_ble_eq_true rfl) rfl ?_
  exact h7
theorem b_183_9 {d : Nat} {Q : (Option Value ⊕ Nat) → mi_H → Prop} (n sl : Nat) (f : Nat → mi_C) {l1 : Nat} {l2 : Int32} {l3 : Int32} {o4 : Option Value} {o5 : Option Value} {o6 : Option Value} (h7 : 32 ≤ l3 → mi_W d 183 119 [some (.ref l1), some (.int l2), some (.int l3), o4, o5, o6] [] (n, sl, f) Q) (h8 : ¬ (32 ≤ l3) → mi_W d 183 15 [some (.ref l1), some (.int l2), some (.int l3), o4, o5, o6] [] (n, sl, f) Q) : mi_W d 183 9 [some (.ref l1), some (.int l2), some (.int l3), o4, o5, o6] [] (n, sl, f) Q := by
  refine w_iload_n cd_183_9 rfl ?_
  refine w_bipush (v := 32) cd_183_10 (by decide) ?_
  exact w_if_icmpge cd_183_12 (by decide) h7 h8
theorem b_183_15 {d : Nat} {Q : (Option Value ⊕ Nat) → mi_H → Prop} (n sl : Nat) (f : Nat → mi_C) {l1 : Nat} {l2 : Int32} {l3 : Int32} {o4 : Option Value} {o5 : Option Value} {o6 : Option Value} {fs7 : List Value} {x10 : Nat} (m12 i12 : Nat) (g12 : Nat → Int64) {fs16 : List Value} {x19 : Nat} (m21 i21 : Nat) (g21 : Nat → Int64) (h8 : f l1 = .inr (12, fs7)) (h9 : l1 < n) (h11 : fs7[56]? = some (.ref x10)) (h13 : f x10 = .inl (3, m12, .inr (.inl g12))) (h14 : x10 < n) (h15 : mi_ix l3 m12 i12) (h17 : f l1 = .inr (12, fs16)) (h18 : l1 < n) (h20 : fs16[55]? = some (.ref x19)) (h22 : f x19 = .inl (3, m21, .inr (.inl g21))) (h23 : x19 < n) (h24 : mi_ix l3 m21 i21) (h25 : mi_W d 183 32 [some (.ref l1), some (.int l2), some (.int l3), some (.long ((g12 i12) - (g21 i21))), none, some (.int 0)] [] (n, sl, f) Q) : mi_W d 183 15 [some (.ref l1), some (.int l2), some (.int l3), o4, o5, o6] [] (n, sl, f) Q := by
  refine w_aload_n cd_183_15 rfl ?_
  refine w_getfield cd_183_16 (show mt_f 12 175 = some (12, 56) by decide +kernel) h8 h9 h11 ?_
  refine w_iload_n cd_183_19 rfl ?_
  refine w_laload cd_183_20 h13 h14 h15 ?_
  refine w_aload_n cd_183_21 rfl ?_
  refine w_getfield cd_183_22 (show mt_f 12 172 = some (12, 55) by decide +kernel) h17 h18 h20 ?_
  refine w_iload_n cd_183_25 rfl ?_
  refine w_laload cd_183_26 h22 h23 h24 ?_
  refine w_lsub cd_183_27 ?_
  refine w_lstore_n (ls' := [some (.ref l1), some (.int l2), some (.int l3), some (.long ((g12 i12) - (g21 i21))), none, o6]) cd_183_28 (Nat.le_of_ble_eq_true rfl) rfl ?_
  refine w_iconst (v := 0) cd_183_29 (by decide) ?_
  refine w_istore (ls' := [some (.ref l1), some (.int l2), some (.int l3), some (.long ((g12 i12) - (g21 i21))), none, some (.int 0)]) cd_183_30 (Nat.le_of_ble_eq_true rfl) rfl ?_
  exact h25
theorem b_183_32 {d : Nat} {Q : (Option Value ⊕ Nat) → mi_H → Prop} (n sl : Nat) (f : Nat → mi_C) {l1 : Nat} {l2 : Int32} {l3 : Int32} {l4 : Int64} {l5 : Int32} {fs6 : List Value} {x9 : Int32} (h7 : f l1 = .inr (12, fs6)) (h8 : l1 < n) (h10 : fs6[48]? = some (.int x9)) (h11 : x9 ≤ l5 → mi_W d 183 90 [some (.ref l1), some (.int l2), some (.int l3), some (.long l4), none, some (.int l5)] [] (n, sl, f) Q) (h12 : ¬ (x9 ≤ l5) → mi_W d 183 41 [some (.ref l1), some (.int l2), some (.int l3), some (.long l4), none, some (.int l5)] [] (n, sl, f) Q) : mi_W d 183 32 [some (.ref l1), some (.int l2), some (.int l3), some (.long l4), none, some (.int l5)] [] (n, sl, f) Q := by
  refine w_iload cd_183_32 rfl ?_
  refine w_aload_n cd_183_34 rfl ?_
  refine w_getfield cd_183_35 (show mt_f 12 493 = some (12, 48) by decide +kernel) h7 h8 h10 ?_
  exact w_if_icmpge cd_183_38 (by decide) h11 h12
theorem b_183_41 {d : Nat} {Q : (Option Value ⊕ Nat) → mi_H → Prop} (n sl : Nat) (f : Nat → mi_C) {l1 : Nat} {l2 : Int32} {l3 : Int32} {l4 : Int64} {l5 : Int32} {fs6 : List Value} {x9 : Nat} (m11 i11 : Nat) (g11 : Nat → Int32) {fs15 : List Value} {x18 : Nat} (m20 i20 : Nat) (g20 : Nat → Int32) (h7 : f l1 = .inr (12, fs6)) (h8 : l1 < n) (h10 : fs6[52]? = some (.ref x9)) (h12 : f x9 = .inl (0, m11, .inl g11)) (h13 : x9 < n ∨ x9 = mi_SC) (h14 : mi_ix l5 m11 i11) (h16 : f l1 = .inr (12, fs15)) (h17 : l1 < n) (h19 : fs15[53]? = some (.ref x18)) (h21 : f x18 = .inl (0, m20, .inl g20)) (h22 : x18 < n ∨ x18 = mi_SC) (h23 : mi_ix l5 m20 i20) (h24 : ((4 * (g11 i11)) + (g20 i20)) = l3 → mi_W d 183 65 [some (.ref l1), some (.int l2), some (.int l3), some (.long l4), none, some (.int l5)] [] (n, sl, f) Q) (h25 : ¬ (((4 * (g11 i11)) + (g20 i20)) = l3) → mi_W d 183 62 [some (.ref l1), some (.int l2), some (.int l3), some (.long l4), none, some (.int l5)] [] (n, sl, f) Q) : mi_W d 183 41 [some (.ref l1), some (.int l2), some (.int l3), some (.long l4), none, some (.int l5)] [] (n, sl, f) Q := by
  refine w_iconst (v := 4) cd_183_41 (by decide) ?_
  refine w_aload_n cd_183_42 rfl ?_
  refine w_getfield cd_183_43 (show mt_f 12 163 = some (12, 52) by decide +kernel) h7 h8 h10 ?_
  refine w_iload cd_183_46 rfl ?_
  refine w_iaload cd_183_48 h12 h13 h14 ?_
  refine w_imul cd_183_49 ?_
  refine w_aload_n cd_183_50 rfl ?_
  refine w_getfield cd_183_51 (show mt_f 12 166 = some (12, 53) by decide +kernel) h16 h17 h19 ?_
  refine w_iload cd_183_54 rfl ?_
  refine w_iaload cd_183_56 h21 h22 h23 ?_
  refine w_iadd cd_183_57 ?_
  refine w_iload_n cd_183_58 rfl ?_
  exact w_if_icmpeq cd_183_59 (by decide) h24 h25
theorem b_183_62 {d : Nat} {Q : (Option Value ⊕ Nat) → mi_H → Prop} (n sl : Nat) (f : Nat → mi_C) {l1 : Nat} {l2 : Int32} {l3 : Int32} {l4 : Int64} {l5 : Int32} (h6 : mi_W d 183 84 [some (.ref l1), some (.int l2), some (.int l3), some (.long l4), none, some (.int l5)] [] (n, sl, f) Q) : mi_W d 183 62 [some (.ref l1), some (.int l2), some (.int l3), some (.long l4), none, some (.int l5)] [] (n, sl, f) Q := by
  exact w_goto cd_183_62 (by decide) h6
theorem b_183_65 {d : Nat} {Q : (Option Value ⊕ Nat) → mi_H → Prop} (n sl : Nat) (f : Nat → mi_C) {l1 : Nat} {l2 : Int32} {l3 : Int32} {l4 : Int64} {l5 : Int32} {fs6 : List Value} {x9 : Nat} (m11 i11 : Nat) (g11 : Nat → Int64) (h7 : f l1 = .inr (12, fs6)) (h8 : l1 < n) (h10 : fs6[54]? = some (.ref x9)) (h12 : f x9 = .inl (3, m11, .inr (.inl g11))) (h13 : x9 < n) (h14 : mi_ix l5 m11 i11) (h15 : (0 : Int32) ≤ (lg_cmp (l4 + (g11 i11)) 0) → mi_W d 183 84 [some (.ref l1), some (.int l2), some (.int l3), some (.long (l4 + (g11 i11))), none, some (.int l5)] [] (n, sl, f) Q) (h16 : ¬ ((0 : Int32) ≤ (lg_cmp (l4 + (g11 i11)) 0)) → mi_W d 183 81 [some (.ref l1), some (.int l2), some (.int l3), some (.long (l4 + (g11 i11))), none, some (.int l5)] [] (n, sl, f) Q) : mi_W d 183 65 [some (.ref l1), some (.int l2), some (.int l3), some (.long l4), none, some (.int l5)] [] (n, sl, f) Q := by
  refine w_lload_n cd_183_65 rfl ?_
  refine w_aload_n cd_183_66 rfl ?_
  refine w_getfield cd_183_67 (show mt_f 12 169 = some (12, 54) by decide +kernel) h7 h8 h10 ?_
  refine w_iload cd_183_70 rfl ?_
  refine w_laload cd_183_72 h12 h13 h14 ?_
  refine w_ladd cd_183_73 ?_
  refine w_lstore_n (ls' := [some (.ref l1), some (.int l2), some (.int l3), some (.long (l4 + (g11 i11))), none, some (.int l5)]) cd_183_74 (Nat.le_of_ble_eq_true rfl) rfl ?_
  refine w_lload_n cd_183_75 rfl ?_
  refine w_lconst (lv := 0) cd_183_76 (by decide) ?_
  refine w_lcmp cd_183_77 ?_
  exact w_ifge cd_183_78 (by decide) h15 h16
theorem b_183_81 {d : Nat} {Q : (Option Value ⊕ Nat) → mi_H → Prop} (n sl : Nat) (f : Nat → mi_C) {l1 : Nat} {l2 : Int32} {l3 : Int32} {l4 : Int64} {l5 : Int32} (h6 : Q (.inl (some (.int 6))) (n, sl, f)) : mi_W d 183 81 [some (.ref l1), some (.int l2), some (.int l3), some (.long l4), none, some (.int l5)] [] (n, sl, f) Q := by
  refine w_bipush (v := 6) cd_183_81 (by decide) ?_
  exact w_ireturn_i cd_183_83 (by decide +kernel) h6
theorem b_183_84 {d : Nat} {Q : (Option Value ⊕ Nat) → mi_H → Prop} (n sl : Nat) (f : Nat → mi_C) {l1 : Nat} {l2 : Int32} {l3 : Int32} {l4 : Int64} {l5 : Int32} (h6 : mi_W d 183 32 [some (.ref l1), some (.int l2), some (.int l3), some (.long l4), none, some (.int (l5 + 1))] [] (n, sl, f) Q) : mi_W d 183 84 [some (.ref l1), some (.int l2), some (.int l3), some (.long l4), none, some (.int l5)] [] (n, sl, f) Q := by
  refine w_iinc (v := 1) (ls' := [some (.ref l1), some (.int l2), some (.int l3), some (.long l4), none, some (.int (l5 + 1))]) cd_183_84 rfl (by decide) rfl ?_
  exact w_goto cd_183_87 (by decide) h6
theorem b_183_90 {d : Nat} {Q : (Option Value ⊕ Nat) → mi_H → Prop} (n sl : Nat) (f : Nat → mi_C) {l1 : Nat} {l2 : Int32} {l3 : Int32} {l4 : Int64} {l5 : Int32} (h6 : (lg_cmp l4 4611686018427387904) ≤ (0 : Int32) → mi_W d 183 101 [some (.ref l1), some (.int l2), some (.int l3), some (.long l4), none, some (.int l5)] [] (n, sl, f) Q) (h7 : ¬ ((lg_cmp l4 4611686018427387904) ≤ (0 : Int32)) → mi_W d 183 98 [some (.ref l1), some (.int l2), some (.int l3), some (.long l4), none, some (.int l5)] [] (n, sl, f) Q) : mi_W d 183 90 [some (.ref l1), some (.int l2), some (.int l3), some (.long l4), none, some (.int l5)] [] (n, sl, f) Q := by
  refine w_lload_n cd_183_90 rfl ?_
  refine w_ldc2_w (lv := 4611686018427387904) cd_183_91 (by decide +kernel) ?_
  refine w_lcmp cd_183_94 ?_
  exact w_ifle cd_183_95 (by decide) h6 h7
theorem b_183_98 {d : Nat} {Q : (Option Value ⊕ Nat) → mi_H → Prop} (n sl : Nat) (f : Nat → mi_C) {l1 : Nat} {l2 : Int32} {l3 : Int32} {l4 : Int64} {l5 : Int32} (h6 : Q (.inl (some (.int 6))) (n, sl, f)) : mi_W d 183 98 [some (.ref l1), some (.int l2), some (.int l3), some (.long l4), none, some (.int l5)] [] (n, sl, f) Q := by
  refine w_bipush (v := 6) cd_183_98 (by decide) ?_
  exact w_ireturn_i cd_183_100 (by decide +kernel) h6
theorem b_183_101 {d : Nat} {Q : (Option Value ⊕ Nat) → mi_H → Prop} (n sl : Nat) (f : Nat → mi_C) {l1 : Nat} {l2 : Int32} {l3 : Int32} {l4 : Int64} {l5 : Int32} (h6 : ¬ l2 = 1 → mi_W d 183 113 [some (.ref l1), some (.int l2), some (.int l3), some (.long l4), none, some (.int l5)] [] (n, sl, f) Q) (h7 : ¬ (¬ l2 = 1) → mi_W d 183 106 [some (.ref l1), some (.int l2), some (.int l3), some (.long l4), none, some (.int l5)] [] (n, sl, f) Q) : mi_W d 183 101 [some (.ref l1), some (.int l2), some (.int l3), some (.long l4), none, some (.int l5)] [] (n, sl, f) Q := by
  refine w_iload_n cd_183_101 rfl ?_
  refine w_iconst (v := 1) cd_183_102 (by decide) ?_
  exact w_if_icmpne cd_183_103 (by decide) h6 h7
theorem b_183_106 {d : Nat} {Q : (Option Value ⊕ Nat) → mi_H → Prop} (n sl : Nat) (f : Nat → mi_C) {l1 : Nat} {l2 : Int32} {l3 : Int32} {l4 : Int64} {l5 : Int32} {fs6 : List Value} {x9 : Nat} (m11 i11 : Nat) (g11 : Nat → Int64) (h7 : f l1 = .inr (12, fs6)) (h8 : l1 < n) (h10 : fs6[56]? = some (.ref x9)) (h12 : f x9 = .inl (3, m11, .inr (.inl g11))) (h13 : x9 < n) (h14 : mi_ix l3 m11 i11) (h15 : mi_W d 183 113 [some (.ref l1), some (.int l2), some (.int l3), some (.long l4), none, some (.int l5)] [] (n, sl, (va_up f x9 (.inl (3, m11, .inr (.inl (vp_updL g11 i11 l4)))))) Q) : mi_W d 183 106 [some (.ref l1), some (.int l2), some (.int l3), some (.long l4), none, some (.int l5)] [] (n, sl, f) Q := by
  refine w_aload_n cd_183_106 rfl ?_
  refine w_getfield cd_183_107 (show mt_f 12 175 = some (12, 56) by decide +kernel) h7 h8 h10 ?_
  refine w_iload_n cd_183_110 rfl ?_
  refine w_lload_n cd_183_111 rfl ?_
  refine w_lastore cd_183_112 h12 h13 h14 ?_
  exact h15
theorem b_183_113 {d : Nat} {Q : (Option Value ⊕ Nat) → mi_H → Prop} (n sl : Nat) (f : Nat → mi_C) {l1 : Nat} {l2 : Int32} {l3 : Int32} {l4 : Int64} {l5 : Int32} (h6 : mi_W d 183 9 [some (.ref l1), some (.int l2), some (.int (l3 + 1)), some (.long l4), none, some (.int l5)] [] (n, sl, f) Q) : mi_W d 183 113 [some (.ref l1), some (.int l2), some (.int l3), some (.long l4), none, some (.int l5)] [] (n, sl, f) Q := by
  refine w_iinc (v := 1) (ls' := [some (.ref l1), some (.int l2), some (.int (l3 + 1)), some (.long l4), none, some (.int l5)]) cd_183_113 rfl (by decide) rfl ?_
  exact w_goto cd_183_116 (by decide) h6
theorem b_183_119 {d : Nat} {Q : (Option Value ⊕ Nat) → mi_H → Prop} (n sl : Nat) (f : Nat → mi_C) {l1 : Nat} {l2 : Int32} {l3 : Int32} {o4 : Option Value} {o5 : Option Value} {o6 : Option Value} (h7 : mi_W d 183 2 [some (.ref l1), some (.int (l2 + 1)), some (.int l3), o4, o5, o6] [] (n, sl, f) Q) : mi_W d 183 119 [some (.ref l1), some (.int l2), some (.int l3), o4, o5, o6] [] (n, sl, f) Q := by
  refine w_iinc (v := 1) (ls' := [some (.ref l1), some (.int (l2 + 1)), some (.int l3), o4, o5, o6]) cd_183_119 rfl (by decide) rfl ?_
  exact w_goto cd_183_122 (by decide) h7
theorem b_183_125 {d : Nat} {Q : (Option Value ⊕ Nat) → mi_H → Prop} (n sl : Nat) (f : Nat → mi_C) {l1 : Nat} {l2 : Int32} {o3 : Option Value} {o4 : Option Value} {o5 : Option Value} {o6 : Option Value} (h7 : Q (.inl (some (.int 0))) (n, sl, f)) : mi_W d 183 125 [some (.ref l1), some (.int l2), o3, o4, o5, o6] [] (n, sl, f) Q := by
  refine w_iconst (v := 0) cd_183_125 (by decide) ?_
  exact w_ireturn_i cd_183_126 (by decide +kernel) h7
/-! MarloweHostModel.wallet(IIJ)J -/
set_option maxRecDepth 100000 in
theorem mq_184 : mt_q 184 = my_184 := rfl
set_option maxRecDepth 100000 in
theorem ci_184 : mt_inc 0 my_184.cd = true := by decide +kernel
theorem cd_184_0 : mt_cd 184 0 = some (.aload_n 0) := mt_cd_of (q := (0, .aload_n 0, 1)) mq_184 ci_184 (List.mem_of_getElem? (i := 0) rfl)
theorem cd_184_1 : mt_cd 184 1 = some (.iconst 0) := mt_cd_of (q := (1, .iconst 0, 1)) mq_184 ci_184 (List.mem_of_getElem? (i := 1) rfl)
theorem cd_184_2 : mt_cd 184 2 = some (.putfield 248) := mt_cd_of (q := (2, .putfield 248, 3)) mq_184 ci_184 (List.mem_of_getElem? (i := 2) rfl)
theorem cd_184_5 : mt_cd 184 5 = some (.aload_n 0) := mt_cd_of (q := (5, .aload_n 0, 1)) mq_184 ci_184 (List.mem_of_getElem? (i := 3) rfl)
theorem cd_184_6 : mt_cd 184 6 = some (.iload_n 1) := mt_cd_of (q := (6, .iload_n 1, 1)) mq_184 ci_184 (List.mem_of_getElem? (i := 4) rfl)
theorem cd_184_7 : mt_cd 184 7 = some (.i2l) := mt_cd_of (q := (7, .i2l, 1)) mq_184 ci_184 (List.mem_of_getElem? (i := 5) rfl)
theorem cd_184_8 : mt_cd 184 8 = some (.lconst 0) := mt_cd_of (q := (8, .lconst 0, 1)) mq_184 ci_184 (List.mem_of_getElem? (i := 6) rfl)
theorem cd_184_9 : mt_cd 184 9 = some (.ldc2_w 542) := mt_cd_of (q := (9, .ldc2_w 542, 3)) mq_184 ci_184 (List.mem_of_getElem? (i := 7) rfl)
theorem cd_184_12 : mt_cd 184 12 = some (.invokestatic 268) := mt_cd_of (q := (12, .invokestatic 268, 3)) mq_184 ci_184 (List.mem_of_getElem? (i := 8) rfl)
theorem cd_184_15 : mt_cd 184 15 = some (.ifCond .eq 26) := mt_cd_of (q := (15, .ifCond .eq 26, 3)) mq_184 ci_184 (List.mem_of_getElem? (i := 9) rfl)
theorem cd_184_18 : mt_cd 184 18 = some (.iload_n 2) := mt_cd_of (q := (18, .iload_n 2, 1)) mq_184 ci_184 (List.mem_of_getElem? (i := 10) rfl)
theorem cd_184_19 : mt_cd 184 19 = some (.i2l) := mt_cd_of (q := (19, .i2l, 1)) mq_184 ci_184 (List.mem_of_getElem? (i := 11) rfl)
theorem cd_184_20 : mt_cd 184 20 = some (.lconst 0) := mt_cd_of (q := (20, .lconst 0, 1)) mq_184 ci_184 (List.mem_of_getElem? (i := 12) rfl)
theorem cd_184_21 : mt_cd 184 21 = some (.ldc2_w 544) := mt_cd_of (q := (21, .ldc2_w 544, 3)) mq_184 ci_184 (List.mem_of_getElem? (i := 13) rfl)
theorem cd_184_24 : mt_cd 184 24 = some (.invokestatic 268) := mt_cd_of (q := (24, .invokestatic 268, 3)) mq_184 ci_184 (List.mem_of_getElem? (i := 14) rfl)
theorem cd_184_27 : mt_cd 184 27 = some (.ifCond .eq 14) := mt_cd_of (q := (27, .ifCond .eq 14, 3)) mq_184 ci_184 (List.mem_of_getElem? (i := 15) rfl)
theorem cd_184_30 : mt_cd 184 30 = some (.lload_n 3) := mt_cd_of (q := (30, .lload_n 3, 1)) mq_184 ci_184 (List.mem_of_getElem? (i := 16) rfl)
theorem cd_184_31 : mt_cd 184 31 = some (.lconst 0) := mt_cd_of (q := (31, .lconst 0, 1)) mq_184 ci_184 (List.mem_of_getElem? (i := 17) rfl)
theorem cd_184_32 : mt_cd 184 32 = some (.ldc2_w 546) := mt_cd_of (q := (32, .ldc2_w 546, 3)) mq_184 ci_184 (List.mem_of_getElem? (i := 18) rfl)
theorem cd_184_35 : mt_cd 184 35 = some (.invokestatic 268) := mt_cd_of (q := (35, .invokestatic 268, 3)) mq_184 ci_184 (List.mem_of_getElem? (i := 19) rfl)
theorem cd_184_38 : mt_cd 184 38 = some (.ifCond .ne 7) := mt_cd_of (q := (38, .ifCond .ne 7, 3)) mq_184 ci_184 (List.mem_of_getElem? (i := 20) rfl)
theorem cd_184_41 : mt_cd 184 41 = some (.iconst 1) := mt_cd_of (q := (41, .iconst 1, 1)) mq_184 ci_184 (List.mem_of_getElem? (i := 21) rfl)
theorem cd_184_42 : mt_cd 184 42 = some (.goto 4) := mt_cd_of (q := (42, .goto 4, 3)) mq_184 ci_184 (List.mem_of_getElem? (i := 22) rfl)
theorem cd_184_45 : mt_cd 184 45 = some (.iconst 0) := mt_cd_of (q := (45, .iconst 0, 1)) mq_184 ci_184 (List.mem_of_getElem? (i := 23) rfl)
theorem cd_184_46 : mt_cd 184 46 = some (.iconst 1) := mt_cd_of (q := (46, .iconst 1, 1)) mq_184 ci_184 (List.mem_of_getElem? (i := 24) rfl)
theorem cd_184_47 : mt_cd 184 47 = some (.invokevirtual 254) := mt_cd_of (q := (47, .invokevirtual 254, 3)) mq_184 ci_184 (List.mem_of_getElem? (i := 25) rfl)
theorem cd_184_50 : mt_cd 184 50 = some (.ifCond .eq 5) := mt_cd_of (q := (50, .ifCond .eq 5, 3)) mq_184 ci_184 (List.mem_of_getElem? (i := 26) rfl)
theorem cd_184_53 : mt_cd 184 53 = some (.lconst 0) := mt_cd_of (q := (53, .lconst 0, 1)) mq_184 ci_184 (List.mem_of_getElem? (i := 27) rfl)
theorem cd_184_54 : mt_cd 184 54 = some (.lreturn) := mt_cd_of (q := (54, .lreturn, 1)) mq_184 ci_184 (List.mem_of_getElem? (i := 28) rfl)
theorem cd_184_55 : mt_cd 184 55 = some (.aload_n 0) := mt_cd_of (q := (55, .aload_n 0, 1)) mq_184 ci_184 (List.mem_of_getElem? (i := 29) rfl)
theorem cd_184_56 : mt_cd 184 56 = some (.getfield 175) := mt_cd_of (q := (56, .getfield 175, 3)) mq_184 ci_184 (List.mem_of_getElem? (i := 30) rfl)
theorem cd_184_59 : mt_cd 184 59 = some (.iconst 4) := mt_cd_of (q := (59, .iconst 4, 1)) mq_184 ci_184 (List.mem_of_getElem? (i := 31) rfl)
theorem cd_184_60 : mt_cd 184 60 = some (.iload_n 1) := mt_cd_of (q := (60, .iload_n 1, 1)) mq_184 ci_184 (List.mem_of_getElem? (i := 32) rfl)
theorem cd_184_61 : mt_cd 184 61 = some (.imul) := mt_cd_of (q := (61, .imul, 1)) mq_184 ci_184 (List.mem_of_getElem? (i := 33) rfl)
theorem cd_184_62 : mt_cd 184 62 = some (.iload_n 2) := mt_cd_of (q := (62, .iload_n 2, 1)) mq_184 ci_184 (List.mem_of_getElem? (i := 34) rfl)
theorem cd_184_63 : mt_cd 184 63 = some (.iadd) := mt_cd_of (q := (63, .iadd, 1)) mq_184 ci_184 (List.mem_of_getElem? (i := 35) rfl)
theorem cd_184_64 : mt_cd 184 64 = some (.laload) := mt_cd_of (q := (64, .laload, 1)) mq_184 ci_184 (List.mem_of_getElem? (i := 36) rfl)
theorem cd_184_65 : mt_cd 184 65 = some (.lstore 5) := mt_cd_of (q := (65, .lstore 5, 2)) mq_184 ci_184 (List.mem_of_getElem? (i := 37) rfl)
theorem cd_184_67 : mt_cd 184 67 = some (.aload_n 0) := mt_cd_of (q := (67, .aload_n 0, 1)) mq_184 ci_184 (List.mem_of_getElem? (i := 38) rfl)
theorem cd_184_68 : mt_cd 184 68 = some (.getfield 175) := mt_cd_of (q := (68, .getfield 175, 3)) mq_184 ci_184 (List.mem_of_getElem? (i := 39) rfl)
theorem cd_184_71 : mt_cd 184 71 = some (.iconst 4) := mt_cd_of (q := (71, .iconst 4, 1)) mq_184 ci_184 (List.mem_of_getElem? (i := 40) rfl)
theorem cd_184_72 : mt_cd 184 72 = some (.iload_n 1) := mt_cd_of (q := (72, .iload_n 1, 1)) mq_184 ci_184 (List.mem_of_getElem? (i := 41) rfl)
theorem cd_184_73 : mt_cd 184 73 = some (.imul) := mt_cd_of (q := (73, .imul, 1)) mq_184 ci_184 (List.mem_of_getElem? (i := 42) rfl)
theorem cd_184_74 : mt_cd 184 74 = some (.iload_n 2) := mt_cd_of (q := (74, .iload_n 2, 1)) mq_184 ci_184 (List.mem_of_getElem? (i := 43) rfl)
theorem cd_184_75 : mt_cd 184 75 = some (.iadd) := mt_cd_of (q := (75, .iadd, 1)) mq_184 ci_184 (List.mem_of_getElem? (i := 44) rfl)
theorem cd_184_76 : mt_cd 184 76 = some (.lload_n 3) := mt_cd_of (q := (76, .lload_n 3, 1)) mq_184 ci_184 (List.mem_of_getElem? (i := 45) rfl)
theorem cd_184_77 : mt_cd 184 77 = some (.lastore) := mt_cd_of (q := (77, .lastore, 1)) mq_184 ci_184 (List.mem_of_getElem? (i := 46) rfl)
theorem cd_184_78 : mt_cd 184 78 = some (.lload 5) := mt_cd_of (q := (78, .lload 5, 2)) mq_184 ci_184 (List.mem_of_getElem? (i := 47) rfl)
theorem cd_184_80 : mt_cd 184 80 = some (.lreturn) := mt_cd_of (q := (80, .lreturn, 1)) mq_184 ci_184 (List.mem_of_getElem? (i := 48) rfl)
theorem b_184_0 {d : Nat} {Q : (Option Value ⊕ Nat) → mi_H → Prop} (n sl : Nat) (f : Nat → mi_C) {l1 : Nat} {l2 : Int32} {l3 : Int32} {l4 : Int64} {o5 : Option Value} {o6 : Option Value} {fs7 : List Value} (h8 : f l1 = .inr (12, fs7)) (h9 : l1 < n) (h10 : 0 < fs7.length) (h11 : mi_W d 140 0 (mi_en 6 [.long ((l2 : Int32).toInt64), .long 0, .long 7]) [] (n, sl, (va_up f l1 (.inr (12, fs7.set 0 (.int 0))))) (mi_Kc d 184 12 [some (.ref l1), some (.int l2), some (.int l3), some (.long l4), none, o5, o6] [.ref l1] Q)) : mi_W (d + 1) 184 0 [some (.ref l1), some (.int l2), some (.int l3), some (.long l4), none, o5, o6] [] (n, sl, f) Q := by
  refine w_aload_n cd_184_0 rfl ?_
  refine w_iconst (v := 0) cd_184_1 (by decide) ?_
  refine w_putfield (w := .int 0) cd_184_2 (show mt_f 12 248 = some (12, 0) by decide +kernel) h8 h9 ⟨h10, rfl, Or.inl (by decide)⟩ ?_
  refine w_aload_n cd_184_5 rfl ?_
  refine w_iload_n cd_184_6 rfl ?_
  refine w_i2l cd_184_7 ?_
  refine w_lconst (lv := 0) cd_184_8 (by decide) ?_
  refine w_ldc2_w (lv := 7) cd_184_9 (by decide +kernel) ?_
  exact w_invokestatic cd_184_12 (show mt_m 12 268 = some (140, 4) by decide +kernel) (by decide) (rest := [.ref l1]) rfl (as := [.long ((l2 : Int32).toInt64), .long 0, .long 7]) rfl ⟨Nat.le_of_ble_eq_true rfl, Nat.le_of_ble_eq_true rfl, Nat.le_of_ble_eq_true rfl⟩ h11
theorem b_184_15 {d : Nat} {Q : (Option Value ⊕ Nat) → mi_H → Prop} (n sl : Nat) (f : Nat → mi_C) {l1 : Nat} {l2 : Int32} {l3 : Int32} {l4 : Int64} {o5 : Option Value} {o6 : Option Value} {s7 : Int32} {s8 : Nat} (h9 : s7 = (0 : Int32) → mi_W d 184 41 [some (.ref l1), some (.int l2), some (.int l3), some (.long l4), none, o5, o6] [.ref s8] (n, sl, f) Q) (h10 : ¬ (s7 = (0 : Int32)) → mi_W d 184 18 [some (.ref l1), some (.int l2), some (.int l3), some (.long l4), none, o5, o6] [.ref s8] (n, sl, f) Q) : mi_W d 184 15 [some (.ref l1), some (.int l2), some (.int l3), some (.long l4), none, o5, o6] [.int s7, .ref s8] (n, sl, f) Q := by
  exact w_ifeq cd_184_15 (by decide) h9 h10
theorem b_184_18 {d : Nat} {Q : (Option Value ⊕ Nat) → mi_H → Prop} (n sl : Nat) (f : Nat → mi_C) {l1 : Nat} {l2 : Int32} {l3 : Int32} {l4 : Int64} {o5 : Option Value} {o6 : Option Value} {s7 : Nat} (h8 : mi_W d 140 0 (mi_en 6 [.long ((l3 : Int32).toInt64), .long 0, .long 3]) [] (n, sl, f) (mi_Kc d 184 24 [some (.ref l1), some (.int l2), some (.int l3), some (.long l4), none, o5, o6] [.ref s7] Q)) : mi_W (d + 1) 184 18 [some (.ref l1), some (.int l2), some (.int l3), some (.long l4), none, o5, o6] [.ref s7] (n, sl, f) Q := by
  refine w_iload_n cd_184_18 rfl ?_
  refine w_i2l cd_184_19 ?_
  refine w_lconst (lv := 0) cd_184_20 (by decide) ?_
  refine w_ldc2_w (lv := 3) cd_184_21 (by decide +kernel) ?_
  exact w_invokestatic cd_184_24 (show mt_m 12 268 = some (140, 4) by decide +kernel) (by decide) (rest := [.ref s7]) rfl (as := [.long ((l3 : Int32).toInt64), .long 0, .long 3]) rfl ⟨Nat.le_of_ble_eq_true rfl, Nat.le_of_ble_eq_true rfl, Nat.le_of_ble_eq_true rfl⟩ h8
theorem b_184_27 {d : Nat} {Q : (Option Value ⊕ Nat) → mi_H → Prop} (n sl : Nat) (f : Nat → mi_C) {l1 : Nat} {l2 : Int32} {l3 : Int32} {l4 : Int64} {o5 : Option Value} {o6 : Option Value} {s7 : Int32} {s8 : Nat} (h9 : s7 = (0 : Int32) → mi_W d 184 41 [some (.ref l1), some (.int l2), some (.int l3), some (.long l4), none, o5, o6] [.ref s8] (n, sl, f) Q) (h10 : ¬ (s7 = (0 : Int32)) → mi_W d 184 30 [some (.ref l1), some (.int l2), some (.int l3), some (.long l4), none, o5, o6] [.ref s8] (n, sl, f) Q) : mi_W d 184 27 [some (.ref l1), some (.int l2), some (.int l3), some (.long l4), none, o5, o6] [.int s7, .ref s8] (n, sl, f) Q := by
  exact w_ifeq cd_184_27 (by decide) h9 h10
theorem b_184_30 {d : Nat} {Q : (Option Value ⊕ Nat) → mi_H → Prop} (n sl : Nat) (f : Nat → mi_C) {l1 : Nat} {l2 : Int32} {l3 : Int32} {l4 : Int64} {o5 : Option Value} {o6 : Option Value} {s7 : Nat} (h8 : mi_W d 140 0 (mi_en 6 [.long l4, .long 0, .long 2305843009213693952]) [] (n, sl, f) (mi_Kc d 184 35 [some (.ref l1), some (.int l2), some (.int l3), some (.long l4), none, o5, o6] [.ref s7] Q)) : mi_W (d + 1) 184 30 [some (.ref l1), some (.int l2), some (.int l3), some (.long l4), none, o5, o6] [.ref s7] (n, sl, f) Q := by
  refine w_lload_n cd_184_30 rfl ?_
  refine w_lconst (lv := 0) cd_184_31 (by decide) ?_
  refine w_ldc2_w (lv := 2305843009213693952) cd_184_32 (by decide +kernel) ?_
  exact w_invokestatic cd_184_35 (show mt_m 12 268 = some (140, 4) by decide +kernel) (by decide) (rest := [.ref s7]) rfl (as := [.long l4, .long 0, .long 2305843009213693952]) rfl ⟨Nat.le_of_ble_eq_true rfl, Nat.le_of_ble_eq_true rfl, Nat.le_of_ble_eq_true rfl⟩ h8
theorem b_184_38 {d : Nat} {Q : (Option Value ⊕ Nat) → mi_H → Prop} (n sl : Nat) (f : Nat → mi_C) {l1 : Nat} {l2 : Int32} {l3 : Int32} {l4 : Int64} {o5 : Option Value} {o6 : Option Value} {s7 : Int32} {s8 : Nat} (h9 : ¬ s7 = (0 : Int32) → mi_W d 184 45 [some (.ref l1), some (.int l2), some (.int l3), some (.long l4), none, o5, o6] [.ref s8] (n, sl, f) Q) (h10 : ¬ (¬ s7 = (0 : Int32)) → mi_W d 184 41 [some (.ref l1), some (.int l2), some (.int l3), some (.long l4), none, o5, o6] [.ref s8] (n, sl, f) Q) : mi_W d 184 38 [some (.ref l1), some (.int l2), some (.int l3), some (.long l4), none, o5, o6] [.int s7, .ref s8] (n, sl, f) Q := by
  exact w_ifne cd_184_38 (by decide) h9 h10
theorem b_184_41 {d : Nat} {Q : (Option Value ⊕ Nat) → mi_H → Prop} (n sl : Nat) (f : Nat → mi_C) {l1 : Nat} {l2 : Int32} {l3 : Int32} {l4 : Int64} {o5 : Option Value} {o6 : Option Value} {s7 : Nat} (h8 : mi_W d 184 46 [some (.ref l1), some (.int l2), some (.int l3), some (.long l4), none, o5, o6] [.int 1, .ref s7] (n, sl, f) Q) : mi_W d 184 41 [some (.ref l1), some (.int l2), some (.int l3), some (.long l4), none, o5, o6] [.ref s7] (n, sl, f) Q := by
  refine w_iconst (v := 1) cd_184_41 (by decide) ?_
  exact w_goto cd_184_42 (by decide) h8
theorem b_184_45 {d : Nat} {Q : (Option Value ⊕ Nat) → mi_H → Prop} (n sl : Nat) (f : Nat → mi_C) {l1 : Nat} {l2 : Int32} {l3 : Int32} {l4 : Int64} {o5 : Option Value} {o6 : Option Value} {s7 : Nat} (h8 : mi_W d 184 46 [some (.ref l1), some (.int l2), some (.int l3), some (.long l4), none, o5, o6] [.int 0, .ref s7] (n, sl, f) Q) : mi_W d 184 45 [some (.ref l1), some (.int l2), some (.int l3), some (.long l4), none, o5, o6] [.ref s7] (n, sl, f) Q := by
  refine w_iconst (v := 0) cd_184_45 (by decide) ?_
  exact h8
theorem b_184_46 {d : Nat} {Q : (Option Value ⊕ Nat) → mi_H → Prop} (n sl : Nat) (f : Nat → mi_C) {l1 : Nat} {l2 : Int32} {l3 : Int32} {l4 : Int64} {o5 : Option Value} {o6 : Option Value} {s7 : Int32} {s8 : Nat} {fs9 : List Value} (h10 : f s8 = .inr (12, fs9)) (h11 : s8 < n) (h12 : mi_W d 138 0 (mi_en 3 [.ref s8, .int s7, .int 1]) [] (n, sl, f) (mi_Kc d 184 47 [some (.ref l1), some (.int l2), some (.int l3), some (.long l4), none, o5, o6] [] Q)) : mi_W (d + 1) 184 46 [some (.ref l1), some (.int l2), some (.int l3), some (.long l4), none, o5, o6] [.int s7, .ref s8] (n, sl, f) Q := by
  refine w_iconst (v := 1) cd_184_46 (by decide) ?_
  exact w_invokevirtual cd_184_47 (show mt_m 12 254 = some (138, 0) by decide +kernel) (rest := []) rfl (as := [.ref s8, .int s7, .int 1]) rfl h10 (Or.inl h11) ⟨Nat.le_of_ble_eq_true rfl, Nat.le_of_ble_eq_true rfl, Nat.le_of_ble_eq_true rfl⟩ h12
theorem b_184_50 {d : Nat} {Q : (Option Value ⊕ Nat) → mi_H → Prop} (n sl : Nat) (f : Nat → mi_C) {l1 : Nat} {l2 : Int32} {l3 : Int32} {l4 : Int64} {o5 : Option Value} {o6 : Option Value} {s7 : Int32} (h8 : s7 = (0 : Int32) → mi_W d 184 55 [some (.ref l1), some (.int l2), some (.int l3), some (.long l4), none, o5, o6] [] (n, sl, f) Q) (h9 : ¬ (s7 = (0 : Int32)) → mi_W d 184 53 [some (.ref l1), some (.int l2), some (.int l3), some (.long l4), none, o5, o6] [] (n, sl, f) Q) : mi_W d 184 50 [some (.ref l1), some (.int l2), some (.int l3), some (.long l4), none, o5, o6] [.int s7] (n, sl, f) Q := by
  exact w_ifeq cd_184_50 (by decide) h8 h9
theorem b_184_53 {d : Nat} {Q : (Option Value ⊕ Nat) → mi_H → Prop} (n sl : Nat) (f : Nat → mi_C) {l1 : Nat} {l2 : Int32} {l3 : Int32} {l4 : Int64} {o5 : Option Value} {o6 : Option Value} (h7 : Q (.inl (some (.long 0))) (n, sl, f)) : mi_W d 184 53 [some (.ref l1), some (.int l2), some (.int l3), some (.long l4), none, o5, o6] [] (n, sl, f) Q := by
  refine w_lconst (lv := 0) cd_184_53 (by decide) ?_
  exact w_lreturn cd_184_54 (by decide +kernel) h7
theorem b_184_55 {d : Nat} {Q : (Option Value ⊕ Nat) → mi_H → Prop} (n sl : Nat) (f : Nat → mi_C) {l1 : Nat} {l2 : Int32} {l3 : Int32} {l4 : Int64} {o5 : Option Value} {o6 : Option Value} {fs7 : List Value} {x10 : Nat} (m12 i12 : Nat) (g12 : Nat → Int64) {fs16 : List Value} {x19 : Nat} (m21 i21 : Nat) (g21 : Nat → Int64) (h8 : f l1 = .inr (12, fs7)) (h9 : l1 < n) (h11 : fs7[56]? = some (.ref x10)) (h13 : f x10 = .inl (3, m12, .inr (.inl g12))) (h14 : x10 < n) (h15 : mi_ix ((4 * l2) + l3) m12 i12) (h17 : f l1 = .inr (12, fs16)) (h18 : l1 < n) (h20 : fs16[56]? = some (.ref x19)) (h22 : f x19 = .inl (3, m21, .inr (.inl g21))) (h23 : x19 < n) (h24 : mi_ix ((4 * l2) + l3) m21 i21) (h25 : Q (.inl (some (.long (g12 i12)))) (n, sl, (va_up f x19 (.inl (3, m21, .inr (.inl (vp_updL g21 i21 l4))))))) : mi_W d 184 55 [some (.ref l1), some (.int l2), some (.int l3), some (.long l4), none, o5, o6] [] (n, sl, f) Q := by
  refine w_aload_n cd_184_55 rfl ?_
  refine w_getfield cd_184_56 (show mt_f 12 175 = some (12, 56) by decide +kernel) h8 h9 h11 ?_
  refine w_iconst (v := 4) cd_184_59 (by decide) ?_
  refine w_iload_n cd_184_60 rfl ?_
  refine w_imul cd_184_61 ?_
  refine w_iload_n cd_184_62 rfl ?_
  refine w_iadd cd_184_63 ?_
  refine w_laload cd_184_64 h13 h14 h15 ?_
  refine w_lstore (ls' := [some (.ref l1), some (.int l2), some (.int l3), some (.long l4), none, some (.long (g12 i12)), none]) cd_184_65 (Nat.le_of_ble_eq_true rfl) rfl ?_
  refine w_aload_n cd_184_67 rfl ?_
  refine w_getfield cd_184_68 (show mt_f 12 175 = some (12, 56) by decide +kernel) h17 h18 h20 ?_
  refine w_iconst (v := 4) cd_184_71 (by decide) ?_
  refine w_iload_n cd_184_72 rfl ?_
  refine w_imul cd_184_73 ?_
  refine w_iload_n cd_184_74 rfl ?_
  refine w_iadd cd_184_75 ?_
  refine w_lload_n cd_184_76 rfl ?_
  refine w_lastore cd_184_77 h22 h23 h24 ?_
  refine w_lload cd_184_78 rfl ?_
  exact w_lreturn cd_184_80 (by decide +kernel) h25
/-! MarloweHostModel.deposit(IIIJ)I -/
set_option maxRecDepth 100000 in
theorem mq_185 : mt_q 185 = my_185 := rfl
set_option maxRecDepth 100000 in
theorem ci_185 : mt_inc 0 my_185.cd = true := by decide +kernel
theorem cd_185_0 : mt_cd 185 0 = some (.aload_n 0) := mt_cd_of (q := (0, .aload_n 0, 1)) mq_185 ci_185 (List.mem_of_getElem? (i := 0) rfl)
theorem cd_185_1 : mt_cd 185 1 = some (.iconst 0) := mt_cd_of (q := (1, .iconst 0, 1)) mq_185 ci_185 (List.mem_of_getElem? (i := 1) rfl)
theorem cd_185_2 : mt_cd 185 2 = some (.putfield 248) := mt_cd_of (q := (2, .putfield 248, 3)) mq_185 ci_185 (List.mem_of_getElem? (i := 2) rfl)
theorem cd_185_5 : mt_cd 185 5 = some (.aload_n 0) := mt_cd_of (q := (5, .aload_n 0, 1)) mq_185 ci_185 (List.mem_of_getElem? (i := 3) rfl)
theorem cd_185_6 : mt_cd 185 6 = some (.iload_n 1) := mt_cd_of (q := (6, .iload_n 1, 1)) mq_185 ci_185 (List.mem_of_getElem? (i := 4) rfl)
theorem cd_185_7 : mt_cd 185 7 = some (.i2l) := mt_cd_of (q := (7, .i2l, 1)) mq_185 ci_185 (List.mem_of_getElem? (i := 5) rfl)
theorem cd_185_8 : mt_cd 185 8 = some (.lconst 0) := mt_cd_of (q := (8, .lconst 0, 1)) mq_185 ci_185 (List.mem_of_getElem? (i := 6) rfl)
theorem cd_185_9 : mt_cd 185 9 = some (.ldc2_w 542) := mt_cd_of (q := (9, .ldc2_w 542, 3)) mq_185 ci_185 (List.mem_of_getElem? (i := 7) rfl)
theorem cd_185_12 : mt_cd 185 12 = some (.invokestatic 268) := mt_cd_of (q := (12, .invokestatic 268, 3)) mq_185 ci_185 (List.mem_of_getElem? (i := 8) rfl)
theorem cd_185_15 : mt_cd 185 15 = some (.ifCond .eq 27) := mt_cd_of (q := (15, .ifCond .eq 27, 3)) mq_185 ci_185 (List.mem_of_getElem? (i := 9) rfl)
theorem cd_185_18 : mt_cd 185 18 = some (.iload_n 2) := mt_cd_of (q := (18, .iload_n 2, 1)) mq_185 ci_185 (List.mem_of_getElem? (i := 10) rfl)
theorem cd_185_19 : mt_cd 185 19 = some (.i2l) := mt_cd_of (q := (19, .i2l, 1)) mq_185 ci_185 (List.mem_of_getElem? (i := 11) rfl)
theorem cd_185_20 : mt_cd 185 20 = some (.lconst 0) := mt_cd_of (q := (20, .lconst 0, 1)) mq_185 ci_185 (List.mem_of_getElem? (i := 12) rfl)
theorem cd_185_21 : mt_cd 185 21 = some (.ldc2_w 542) := mt_cd_of (q := (21, .ldc2_w 542, 3)) mq_185 ci_185 (List.mem_of_getElem? (i := 13) rfl)
theorem cd_185_24 : mt_cd 185 24 = some (.invokestatic 268) := mt_cd_of (q := (24, .invokestatic 268, 3)) mq_185 ci_185 (List.mem_of_getElem? (i := 14) rfl)
theorem cd_185_27 : mt_cd 185 27 = some (.ifCond .eq 15) := mt_cd_of (q := (27, .ifCond .eq 15, 3)) mq_185 ci_185 (List.mem_of_getElem? (i := 15) rfl)
theorem cd_185_30 : mt_cd 185 30 = some (.iload_n 3) := mt_cd_of (q := (30, .iload_n 3, 1)) mq_185 ci_185 (List.mem_of_getElem? (i := 16) rfl)
theorem cd_185_31 : mt_cd 185 31 = some (.i2l) := mt_cd_of (q := (31, .i2l, 1)) mq_185 ci_185 (List.mem_of_getElem? (i := 17) rfl)
theorem cd_185_32 : mt_cd 185 32 = some (.lconst 0) := mt_cd_of (q := (32, .lconst 0, 1)) mq_185 ci_185 (List.mem_of_getElem? (i := 18) rfl)
theorem cd_185_33 : mt_cd 185 33 = some (.ldc2_w 544) := mt_cd_of (q := (33, .ldc2_w 544, 3)) mq_185 ci_185 (List.mem_of_getElem? (i := 19) rfl)
theorem cd_185_36 : mt_cd 185 36 = some (.invokestatic 268) := mt_cd_of (q := (36, .invokestatic 268, 3)) mq_185 ci_185 (List.mem_of_getElem? (i := 20) rfl)
theorem cd_185_39 : mt_cd 185 39 = some (.ifCond .ne 7) := mt_cd_of (q := (39, .ifCond .ne 7, 3)) mq_185 ci_185 (List.mem_of_getElem? (i := 21) rfl)
theorem cd_185_42 : mt_cd 185 42 = some (.iconst 1) := mt_cd_of (q := (42, .iconst 1, 1)) mq_185 ci_185 (List.mem_of_getElem? (i := 22) rfl)
theorem cd_185_43 : mt_cd 185 43 = some (.goto 4) := mt_cd_of (q := (43, .goto 4, 3)) mq_185 ci_185 (List.mem_of_getElem? (i := 23) rfl)
theorem cd_185_46 : mt_cd 185 46 = some (.iconst 0) := mt_cd_of (q := (46, .iconst 0, 1)) mq_185 ci_185 (List.mem_of_getElem? (i := 24) rfl)
theorem cd_185_47 : mt_cd 185 47 = some (.iconst 1) := mt_cd_of (q := (47, .iconst 1, 1)) mq_185 ci_185 (List.mem_of_getElem? (i := 25) rfl)
theorem cd_185_48 : mt_cd 185 48 = some (.invokevirtual 254) := mt_cd_of (q := (48, .invokevirtual 254, 3)) mq_185 ci_185 (List.mem_of_getElem? (i := 26) rfl)
theorem cd_185_51 : mt_cd 185 51 = some (.ifCond .ne 25) := mt_cd_of (q := (51, .ifCond .ne 25, 3)) mq_185 ci_185 (List.mem_of_getElem? (i := 27) rfl)
theorem cd_185_54 : mt_cd 185 54 = some (.aload_n 0) := mt_cd_of (q := (54, .aload_n 0, 1)) mq_185 ci_185 (List.mem_of_getElem? (i := 28) rfl)
theorem cd_185_55 : mt_cd 185 55 = some (.aload_n 0) := mt_cd_of (q := (55, .aload_n 0, 1)) mq_185 ci_185 (List.mem_of_getElem? (i := 29) rfl)
theorem cd_185_56 : mt_cd 185 56 = some (.getfield 258) := mt_cd_of (q := (56, .getfield 258, 3)) mq_185 ci_185 (List.mem_of_getElem? (i := 30) rfl)
theorem cd_185_59 : mt_cd 185 59 = some (.bipush 16) := mt_cd_of (q := (59, .bipush 16, 2)) mq_185 ci_185 (List.mem_of_getElem? (i := 31) rfl)
theorem cd_185_61 : mt_cd 185 61 = some (.if_icmp .ne 7) := mt_cd_of (q := (61, .if_icmp .ne 7, 3)) mq_185 ci_185 (List.mem_of_getElem? (i := 32) rfl)
theorem cd_185_64 : mt_cd 185 64 = some (.iconst 1) := mt_cd_of (q := (64, .iconst 1, 1)) mq_185 ci_185 (List.mem_of_getElem? (i := 33) rfl)
theorem cd_185_65 : mt_cd 185 65 = some (.goto 4) := mt_cd_of (q := (65, .goto 4, 3)) mq_185 ci_185 (List.mem_of_getElem? (i := 34) rfl)
theorem cd_185_68 : mt_cd 185 68 = some (.iconst 0) := mt_cd_of (q := (68, .iconst 0, 1)) mq_185 ci_185 (List.mem_of_getElem? (i := 35) rfl)
theorem cd_185_69 : mt_cd 185 69 = some (.iconst 2) := mt_cd_of (q := (69, .iconst 2, 1)) mq_185 ci_185 (List.mem_of_getElem? (i := 36) rfl)
theorem cd_185_70 : mt_cd 185 70 = some (.invokevirtual 254) := mt_cd_of (q := (70, .invokevirtual 254, 3)) mq_185 ci_185 (List.mem_of_getElem? (i := 37) rfl)
theorem cd_185_73 : mt_cd 185 73 = some (.ifCond .eq 5) := mt_cd_of (q := (73, .ifCond .eq 5, 3)) mq_185 ci_185 (List.mem_of_getElem? (i := 38) rfl)
theorem cd_185_76 : mt_cd 185 76 = some (.iconst 0) := mt_cd_of (q := (76, .iconst 0, 1)) mq_185 ci_185 (List.mem_of_getElem? (i := 39) rfl)
theorem cd_185_77 : mt_cd 185 77 = some (.ireturn) := mt_cd_of (q := (77, .ireturn, 1)) mq_185 ci_185 (List.mem_of_getElem? (i := 40) rfl)
theorem cd_185_78 : mt_cd 185 78 = some (.aload_n 0) := mt_cd_of (q := (78, .aload_n 0, 1)) mq_185 ci_185 (List.mem_of_getElem? (i := 41) rfl)
theorem cd_185_79 : mt_cd 185 79 = some (.bipush 7) := mt_cd_of (q := (79, .bipush 7, 2)) mq_185 ci_185 (List.mem_of_getElem? (i := 42) rfl)
theorem cd_185_81 : mt_cd 185 81 = some (.iload_n 1) := mt_cd_of (q := (81, .iload_n 1, 1)) mq_185 ci_185 (List.mem_of_getElem? (i := 43) rfl)
theorem cd_185_82 : mt_cd 185 82 = some (.iload_n 2) := mt_cd_of (q := (82, .iload_n 2, 1)) mq_185 ci_185 (List.mem_of_getElem? (i := 44) rfl)
theorem cd_185_83 : mt_cd 185 83 = some (.iload_n 3) := mt_cd_of (q := (83, .iload_n 3, 1)) mq_185 ci_185 (List.mem_of_getElem? (i := 45) rfl)
theorem cd_185_84 : mt_cd 185 84 = some (.lload 4) := mt_cd_of (q := (84, .lload 4, 2)) mq_185 ci_185 (List.mem_of_getElem? (i := 46) rfl)
theorem cd_185_86 : mt_cd 185 86 = some (.invokevirtual 548) := mt_cd_of (q := (86, .invokevirtual 548, 3)) mq_185 ci_185 (List.mem_of_getElem? (i := 47) rfl)
theorem cd_185_89 : mt_cd 185 89 = some (.ireturn) := mt_cd_of (q := (89, .ireturn, 1)) mq_185 ci_185 (List.mem_of_getElem? (i := 48) rfl)
theorem b_185_0 {d : Nat} {Q : (Option Value ⊕ Nat) → mi_H → Prop} (n sl : Nat) (f : Nat → mi_C) {l1 : Nat} {l2 : Int32} {l3 : Int32} {l4 : Int32} {l5 : Int64} {fs6 : List Value} (h7 : f l1 = .inr (12, fs6)) (h8 : l1 < n) (h9 : 0 < fs6.length) (h10 : mi_W d 140 0 (mi_en 6 [.long ((l2 : Int32).toInt64), .long 0, .long 7]) [] (n, sl, (va_up f l1 (.inr (12, fs6.set 0 (.int 0))))) (mi_Kc d 185 12 [some (.ref l1), some (.int l2), some (.int l3), some (.int l4), some (.long l5), none] [.ref l1] Q)) : mi_W (d + 1) 185 0 [some (.ref l1), some (.int l2), some (.int l3), some (.int l4), some (.long l5), none] [] (n, sl, f) Q := by
  refine w_aload_n cd_185_0 rfl ?_
  refine w_iconst (v := 0) cd_185_1 (by decide) ?_
  refine w_putfield (w := .int 0) cd_185_2 (show mt_f 12 248 = some (12, 0) by decide +kernel) h7 h8 ⟨h9, rfl, Or.inl (by decide)⟩ ?_
  refine w_aload_n cd_185_5 rfl ?_
  refine w_iload_n cd_185_6 rfl ?_
  refine w_i2l cd_185_7 ?_
  refine w_lconst (lv := 0) cd_185_8 (by decide) ?_
  refine w_ldc2_w (lv := 7) cd_185_9 (by decide +kernel) ?_
  exact w_invokestatic cd_185_12 (show mt_m 12 268 = some (140, 4) by decide +kernel) (by decide) (rest := [.ref l1]) rfl (as := [.long ((l2 : Int32).toInt64), .long 0, .long 7]) rfl ⟨Nat.le_of_ble_eq_true rfl, Nat.le_of_ble_eq_true rfl, Nat.le_of_ble_eq_true rfl⟩ h10
theorem b_185_15 {d : Nat} {Q : (Option Value ⊕ Nat) → mi_H → Prop} (n sl : Nat) (f : Nat → mi_C) {l1 : Nat} {l2 : Int32} {l3 : Int32} {l4 : Int32} {l5 : Int64} {s6 : Int32} {s7 : Nat} (h8 : s6 = (0 : Int32) → mi_W d 185 42 [some (.ref l1), some (.int l2), some (.int l3), some (.int l4), some (.long l5), none] [.ref s7] (n, sl, f) Q) (h9 : ¬ (s6 = (0 : Int32)) → mi_W d 185 18 [some (.ref l1), some (.int l2), some (.int l3), some (.int l4), some (.long l5), none] [.ref s7] (n, sl, f) Q) : mi_W d 185 15 [some (.ref l1), some (.int l2), some (.int l3), some (.int l4), some (.long l5), none] [.int s6, .ref s7] (n, sl, f) Q := by
  exact w_ifeq cd_185_15 (by decide) h8 h9
theorem b_185_18 {d : Nat} {Q : (Option Value ⊕ Nat) → mi_H → Prop} (n sl : Nat) (f : Nat → mi_C) {l1 : Nat} {l2 : Int32} {l3 : Int32} {l4 : Int32} {l5 : Int64} {s6 : Nat} (h7 : mi_W d 140 0 (mi_en 6 [.long ((l3 : Int32).toInt64), .long 0, .long 7]) [] (n, sl, f) (mi_Kc d 185 24 [some (.ref l1), some (.int l2), some (.int l3), some (.int l4), some (.long l5), none] [.ref s6] Q)) : mi_W (d + 1) 185 18 [some (.ref l1), some (.int l2), some (.int l3), some (.int l4), some (.long l5), none] [.ref s6] (n, sl, f) Q := by
  refine w_iload_n cd_185_18 rfl ?_
  refine w_i2l cd_185_19 ?_
  refine w_lconst (lv := 0) cd_185_20 (by decide) ?_
  refine w_ldc2_w (lv := 7) cd_185_21 (by decide +kernel) ?_
  exact w_invokestatic cd_185_24 (show mt_m 12 268 = some (140, 4) by decide +kernel) (by decide) (rest := [.ref s6]) rfl (as := [.long ((l3 : Int32).toInt64), .long 0, .long 7]) rfl ⟨Nat.le_of_ble_eq_true rfl, Nat.le_of_ble_eq_true rfl, Nat.le_of_ble_eq_true rfl⟩ h7
theorem b_185_27 {d : Nat} {Q : (Option Value ⊕ Nat) → mi_H → Prop} (n sl : Nat) (f : Nat → mi_C) {l1 : Nat} {l2 : Int32} {l3 : Int32} {l4 : Int32} {l5 : Int64} {s6 : Int32} {s7 : Nat} (h8 : s6 = (0 : Int32) → mi_W d 185 42 [some (.ref l1), some (.int l2), some (.int l3), some (.int l4), some (.long l5), none] [.ref s7] (n, sl, f) Q) (h9 : ¬ (s6 = (0 : Int32)) → mi_W d 185 30 [some (.ref l1), some (.int l2), some (.int l3), some (.int l4), some (.long l5), none] [.ref s7] (n, sl, f) Q) : mi_W d 185 27 [some (.ref l1), some (.int l2), some (.int l3), some (.int l4), some (.long l5), none] [.int s6, .ref s7] (n, sl, f) Q := by
  exact w_ifeq cd_185_27 (by decide) h8 h9
theorem b_185_30 {d : Nat} {Q : (Option Value ⊕ Nat) → mi_H → Prop} (n sl : Nat) (f : Nat → mi_C) {l1 : Nat} {l2 : Int32} {l3 : Int32} {l4 : Int32} {l5 : Int64} {s6 : Nat} (h7 : mi_W d 140 0 (mi_en 6 [.long ((l4 : Int32).toInt64), .long 0, .long 3]) [] (n, sl, f) (mi_Kc d 185 36 [some (.ref l1), some (.int l2), some (.int l3), some (.int l4), some (.long l5), none] [.ref s6] Q)) : mi_W (d + 1) 185 30 [some (.ref l1), some (.int l2), some (.int l3), some (.int l4), some (.long l5), none] [.ref s6] (n, sl, f) Q := by
  refine w_iload_n cd_185_30 rfl ?_
  refine w_i2l cd_185_31 ?_
  refine w_lconst (lv := 0) cd_185_32 (by decide) ?_
  refine w_ldc2_w (lv := 3) cd_185_33 (by decide +kernel) ?_
  exact w_invokestatic cd_185_36 (show mt_m 12 268 = some (140, 4) by decide +kernel) (by decide) (rest := [.ref s6]) rfl (as := [.long ((l4 : Int32).toInt64), .long 0, .long 3]) rfl ⟨Nat.le_of_ble_eq_true rfl, Nat.le_of_ble_eq_true rfl, Nat.le_of_ble_eq_true rfl⟩ h7
theorem b_185_39 {d : Nat} {Q : (Option Value ⊕ Nat) → mi_H → Prop} (n sl : Nat) (f : Nat → mi_C) {l1 : Nat} {l2 : Int32} {l3 : Int32} {l4 : Int32} {l5 : Int64} {s6 : Int32} {s7 : Nat} (h8 : ¬ s6 = (0 : Int32) → mi_W d 185 46 [some (.ref l1), some (.int l2), some (.int l3), some (.int l4), some (.long l5), none] [.ref s7] (n, sl, f) Q) (h9 : ¬ (¬ s6 = (0 : Int32)) → mi_W d 185 42 [some (.ref l1), some (.int l2), some (.int l3), some (.int l4), some (.long l5), none] [.ref s7] (n, sl, f) Q) : mi_W d 185 39 [some (.ref l1), some (.int l2), some (.int l3), some (.int l4), some (.long l5), none] [.int s6, .ref s7] (n, sl, f) Q := by
  exact w_ifne cd_185_39 (by decide) h8 h9
theorem b_185_42 {d : Nat} {Q : (Option Value ⊕ Nat) → mi_H → Prop} (n sl : Nat) (f : Nat → mi_C) {l1 : Nat} {l2 : Int32} {l3 : Int32} {l4 : Int32} {l5 : Int64} {s6 : Nat} (h7 : mi_W d 185 47 [some (.ref l1), some (.int l2), some (.int l3), some (.int l4), some (.long l5), none] [.int 1, .ref s6] (n, sl, f) Q) : mi_W d 185 42 [some (.ref l1), some (.int l2), some (.int l3), some (.int l4), some (.long l5), none] [.ref s6] (n, sl, f) Q := by
  refine w_iconst (v := 1) cd_185_42 (by decide) ?_
  exact w_goto cd_185_43 (by decide) h7
theorem b_185_46 {d : Nat} {Q : (Option Value ⊕ Nat) → mi_H → Prop} (n sl : Nat) (f : Nat → mi_C) {l1 : Nat} {l2 : Int32} {l3 : Int32} {l4 : Int32} {l5 : Int64} {s6 : Nat} (h7 : mi_W d 185 47 [some (.ref l1), some (.int l2), some (.int l3), some (.int l4), some (.long l5), none] [.int 0, .ref s6] (n, sl, f) Q) : mi_W d 185 46 [some (.ref l1), some (.int l2), some (.int l3), some (.int l4), some (.long l5), none] [.ref s6] (n, sl, f) Q := by
  refine w_iconst (v := 0) cd_185_46 (by decide) ?_
  exact h7
theorem b_185_47 {d : Nat} {Q : (Option Value ⊕ Nat) → mi_H → Prop} (n sl : Nat) (f : Nat → mi_C) {l1 : Nat} {l2 : Int32} {l3 : Int32} {l4 : Int32} {l5 : Int64} {s6 : Int32} {s7 : Nat} {fs8 : List Value} (h9 : f s7 = .inr (12, fs8)) (h10 : s7 < n) (h11 : mi_W d 138 0 (mi_en 3 [.ref s7, .int s6, .int 1]) [] (n, sl, f) (mi_Kc d 185 48 [some (.ref l1), some (.int l2), some (.int l3), some (.int l4), some (.long l5), none] [] Q)) : mi_W (d + 1) 185 47 [some (.ref l1), some (.int l2), some (.int l3), some (.int l4), some (.long l5), none] [.int s6, .ref s7] (n, sl, f) Q := by
  refine w_iconst (v := 1) cd_185_47 (by decide) ?_
  exact w_invokevirtual cd_185_48 (show mt_m 12 254 = some (138, 0) by decide +kernel) (rest := []) rfl (as := [.ref s7, .int s6, .int 1]) rfl h9 (Or.inl h10) ⟨Nat.le_of_ble_eq_true rfl, Nat.le_of_ble_eq_true rfl, Nat.le_of_ble_eq_true rfl⟩ h11
theorem b_185_51 {d : Nat} {Q : (Option Value ⊕ Nat) → mi_H → Prop} (n sl : Nat) (f : Nat → mi_C) {l1 : Nat} {l2 : Int32} {l3 : Int32} {l4 : Int32} {l5 : Int64} {s6 : Int32} (h7 : ¬ s6 = (0 : Int32) → mi_W d 185 76 [some (.ref l1), some (.int l2), some (.int l3), some (.int l4), some (.long l5), none] [] (n, sl, f) Q) (h8 : ¬ (¬ s6 = (0 : Int32)) → mi_W d 185 54 [some (.ref l1), some (.int l2), some (.int l3), some (.int l4), some (.long l5), none] [] (n, sl, f) Q) : mi_W d 185 51 [some (.ref l1), some (.int l2), some (.int l3), some (.int l4), some (.long l5), none] [.int s6] (n, sl, f) Q := by
  exact w_ifne cd_185_51 (by decide) h7 h8
theorem b_185_54 {d : Nat} {Q : (Option Value ⊕ Nat) → mi_H → Prop} (n sl : Nat) (f : Nat → mi_C) {l1 : Nat} {l2 : Int32} {l3 : Int32} {l4 : Int32} {l5 : Int64} {fs6 : List Value} {x9 : Int32} (h7 : f l1 = .inr (12, fs6)) (h8 : l1 < n) (h10 : fs6[59]? = some (.int x9)) (h11 : ¬ x9 = 16 → mi_W d 185 68 [some (.ref l1), some (.int l2), some (.int l3), some (.int l4), some (.long l5), none] [.ref l1] (n, sl, f) Q) (h12 : ¬ (¬ x9 = 16) → mi_W d 185 64 [some (.ref l1), some (.int l2), some (.int l3), some (.int l4), some (.long l5), none] [.ref l1] (n, sl, f) Q) : mi_W d 185 54 [some (.ref l1), some (.int l2), some (.int l3), some (.int l4), some (.long l5), none] [] (n, sl, f) Q := by
  refine w_aload_n cd_185_54 rfl ?_
  refine w_aload_n cd_185_55 rfl ?_
  refine w_getfield cd_185_56 (show mt_f 12 258 = some (12, 59) by decide +kernel) h7 h8 h10 ?_
  refine w_bipush (v := 16) cd_185_59 (by decide) ?_
  exact w_if_icmpne cd_185_61 (by decide) h11 h12
theorem b_185_64 {d : Nat} {Q : (Option Value ⊕ Nat) → mi_H → Prop} (n sl : Nat) (f : Nat → mi_C) {l1 : Nat} {l2 : Int32} {l3 : Int32} {l4 : Int32} {l5 : Int64} {s6 : Nat} (h7 : mi_W d 185 69 [some (.ref l1), some (.int l2), some (.int l3), some (.int l4), some (.long l5), none] [.int 1, .ref s6] (n, sl, f) Q) : mi_W d 185 64 [some (.ref l1), some (.int l2), some (.int l3), some (.int l4), some (.long l5), none] [.ref s6] (n, sl, f) Q := by
  refine w_iconst (v := 1) cd_185_64 (by decide) ?_
  exact w_goto cd_185_65 (by decide) h7
theorem b_185_68 {d : Nat} {Q : (Option Value ⊕ Nat) → mi_H → Prop} (n sl : Nat) (f : Nat → mi_C) {l1 : Nat} {l2 : Int32} {l3 : Int32} {l4 : Int32} {l5 : Int64} {s6 : Nat} (h7 : mi_W d 185 69 [some (.ref l1), some (.int l2), some (.int l3), some (.int l4), some (.long l5), none] [.int 0, .ref s6] (n, sl, f) Q) : mi_W d 185 68 [some (.ref l1), some (.int l2), some (.int l3), some (.int l4), some (.long l5), none] [.ref s6] (n, sl, f) Q := by
  refine w_iconst (v := 0) cd_185_68 (by decide) ?_
  exact h7
theorem b_185_69 {d : Nat} {Q : (Option Value ⊕ Nat) → mi_H → Prop} (n sl : Nat) (f : Nat → mi_C) {l1 : Nat} {l2 : Int32} {l3 : Int32} {l4 : Int32} {l5 : Int64} {s6 : Int32} {s7 : Nat} {fs8 : List Value} (h9 : f s7 = .inr (12, fs8)) (h10 : s7 < n) (h11 : mi_W d 138 0 (mi_en 3 [.ref s7, .int s6, .int 2]) [] (n, sl, f) (mi_Kc d 185 70 [some (.ref l1), some (.int l2), some (.int l3), some (.int l4), some (.long l5), none] [] Q)) : mi_W (d + 1) 185 69 [some (.ref l1), some (.int l2), some (.int l3), some (.int l4), some (.long l5), none] [.int s6, .ref s7] (n, sl, f) Q := by
  refine w_iconst (v := 2) cd_185_69 (by decide) ?_
  exact w_invokevirtual cd_185_70 (show mt_m 12 254 = some (138, 0) by decide +kernel) (rest := []) rfl (as := [.ref s7, .int s6, .int 2]) rfl h9 (Or.inl h10) ⟨Nat.le_of_ble_eq_true rfl, Nat.le_of_ble_eq_true rfl, Nat.le_of_ble_eq_true rfl⟩ h11
theorem b_185_73 {d : Nat} {Q : (Option Value ⊕ Nat) → mi_H → Prop} (n sl : Nat) (f : Nat → mi_C) {l1 : Nat} {l2 : Int32} {l3 : Int32} {l4 : Int32} {l5 : Int64} {s6 : Int32} (h7 : s6 = (0 : Int32) → mi_W d 185 78 [some (.ref l1), some (.int l2), some (.int l3), some (.int l4), some (.long l5), none] [] (n, sl, f) Q) (h8 : ¬ (s6 = (0 : Int32)) → mi_W d 185 76 [some (.ref l1), some (.int l2), some (.int l3), some (.int l4), some (.long l5), none] [] (n, sl, f) Q) : mi_W d 185 73 [some (.ref l1), some (.int l2), some (.int l3), some (.int l4), some (.long l5), none] [.int s6] (n, sl, f) Q := by
  exact w_ifeq cd_185_73 (by decide) h7 h8
theorem b_185_76 {d : Nat} {Q : (Option Value ⊕ Nat) → mi_H → Prop} (n sl : Nat) (f : Nat → mi_C) {l1 : Nat} {l2 : Int32} {l3 : Int32} {l4 : Int32} {l5 : Int64} (h6 : Q (.inl (some (.int 0))) (n, sl, f)) : mi_W d 185 76 [some (.ref l1), some (.int l2), some (.int l3), some (.int l4), some (.long l5), none] [] (n, sl, f) Q := by
  refine w_iconst (v := 0) cd_185_76 (by decide) ?_
  exact w_ireturn_i cd_185_77 (by decide +kernel) h6
theorem b_185_78 {d : Nat} {Q : (Option Value ⊕ Nat) → mi_H → Prop} (n sl : Nat) (f : Nat → mi_C) {l1 : Nat} {l2 : Int32} {l3 : Int32} {l4 : Int32} {l5 : Int64} {fs6 : List Value} (h7 : f l1 = .inr (12, fs6)) (h8 : l1 < n) (h9 : mi_W d 186 0 (mi_en 7 [.ref l1, .int 7, .int l2, .int l3, .int l4, .long l5]) [] (n, sl, f) (mi_Kc d 185 86 [some (.ref l1), some (.int l2), some (.int l3), some (.int l4), some (.long l5), none] [] Q)) : mi_W (d + 1) 185 78 [some (.ref l1), some (.int l2), some (.int l3), some (.int l4), some (.long l5), none] [] (n, sl, f) Q := by
  refine w_aload_n cd_185_78 rfl ?_
  refine w_bipush (v := 7) cd_185_79 (by decide) ?_
  refine w_iload_n cd_185_81 rfl ?_
  refine w_iload_n cd_185_82 rfl ?_
  refine w_iload_n cd_185_83 rfl ?_
  refine w_lload cd_185_84 rfl ?_
  exact w_invokevirtual cd_185_86 (show mt_m 12 548 = some (186, 0) by decide +kernel) (rest := []) rfl (as := [.ref l1, .int 7, .int l2, .int l3, .int l4, .long l5]) rfl h7 (Or.inl h8) ⟨Nat.le_of_ble_eq_true rfl, Nat.le_of_ble_eq_true rfl, Nat.le_of_ble_eq_true rfl⟩ h9
theorem b_185_89 {d : Nat} {Q : (Option Value ⊕ Nat) → mi_H → Prop} (n sl : Nat) (f : Nat → mi_C) {l1 : Nat} {l2 : Int32} {l3 : Int32} {l4 : Int32} {l5 : Int64} {s6 : Int32} (h7 : Q (.inl (some (.int s6))) (n, sl, f)) : mi_W d 185 89 [some (.ref l1), some (.int l2), some (.int l3), some (.int l4), some (.long l5), none] [.int s6] (n, sl, f) Q := by
  exact w_ireturn_i cd_185_89 (by decide +kernel) h7
/-! MarloweHostModel.input(IIIIJ)I -/
set_option maxRecDepth 100000 in
theorem mq_186 : mt_q 186 = my_186 := rfl
set_option maxRecDepth 100000 in
theorem ci_186 : mt_inc 0 my_186.cd = true := by decide +kernel
theorem cd_186_0 : mt_cd 186 0 = some (.aload_n 0) := mt_cd_of (q := (0, .aload_n 0, 1)) mq_186 ci_186 (List.mem_of_getElem? (i := 0) rfl)
theorem cd_186_1 : mt_cd 186 1 = some (.getfield 178) := mt_cd_of (q := (1, .getfield 178, 3)) mq_186 ci_186 (List.mem_of_getElem? (i := 1) rfl)
theorem cd_186_4 : mt_cd 186 4 = some (.aload_n 0) := mt_cd_of (q := (4, .aload_n 0, 1)) mq_186 ci_186 (List.mem_of_getElem? (i := 2) rfl)
theorem cd_186_5 : mt_cd 186 5 = some (.getfield 258) := mt_cd_of (q := (5, .getfield 258, 3)) mq_186 ci_186 (List.mem_of_getElem? (i := 3) rfl)
theorem cd_186_8 : mt_cd 186 8 = some (.iload_n 1) := mt_cd_of (q := (8, .iload_n 1, 1)) mq_186 ci_186 (List.mem_of_getElem? (i := 4) rfl)
theorem cd_186_9 : mt_cd 186 9 = some (.iastore) := mt_cd_of (q := (9, .iastore, 1)) mq_186 ci_186 (List.mem_of_getElem? (i := 5) rfl)
theorem cd_186_10 : mt_cd 186 10 = some (.aload_n 0) := mt_cd_of (q := (10, .aload_n 0, 1)) mq_186 ci_186 (List.mem_of_getElem? (i := 6) rfl)
theorem cd_186_11 : mt_cd 186 11 = some (.getfield 181) := mt_cd_of (q := (11, .getfield 181, 3)) mq_186 ci_186 (List.mem_of_getElem? (i := 7) rfl)
theorem cd_186_14 : mt_cd 186 14 = some (.aload_n 0) := mt_cd_of (q := (14, .aload_n 0, 1)) mq_186 ci_186 (List.mem_of_getElem? (i := 8) rfl)
theorem cd_186_15 : mt_cd 186 15 = some (.getfield 258) := mt_cd_of (q := (15, .getfield 258, 3)) mq_186 ci_186 (List.mem_of_getElem? (i := 9) rfl)
theorem cd_186_18 : mt_cd 186 18 = some (.iload_n 2) := mt_cd_of (q := (18, .iload_n 2, 1)) mq_186 ci_186 (List.mem_of_getElem? (i := 10) rfl)
theorem cd_186_19 : mt_cd 186 19 = some (.iastore) := mt_cd_of (q := (19, .iastore, 1)) mq_186 ci_186 (List.mem_of_getElem? (i := 11) rfl)
theorem cd_186_20 : mt_cd 186 20 = some (.aload_n 0) := mt_cd_of (q := (20, .aload_n 0, 1)) mq_186 ci_186 (List.mem_of_getElem? (i := 12) rfl)
theorem cd_186_21 : mt_cd 186 21 = some (.getfield 184) := mt_cd_of (q := (21, .getfield 184, 3)) mq_186 ci_186 (List.mem_of_getElem? (i := 13) rfl)
theorem cd_186_24 : mt_cd 186 24 = some (.aload_n 0) := mt_cd_of (q := (24, .aload_n 0, 1)) mq_186 ci_186 (List.mem_of_getElem? (i := 14) rfl)
theorem cd_186_25 : mt_cd 186 25 = some (.getfield 258) := mt_cd_of (q := (25, .getfield 258, 3)) mq_186 ci_186 (List.mem_of_getElem? (i := 15) rfl)
theorem cd_186_28 : mt_cd 186 28 = some (.iload_n 3) := mt_cd_of (q := (28, .iload_n 3, 1)) mq_186 ci_186 (List.mem_of_getElem? (i := 16) rfl)
theorem cd_186_29 : mt_cd 186 29 = some (.iastore) := mt_cd_of (q := (29, .iastore, 1)) mq_186 ci_186 (List.mem_of_getElem? (i := 17) rfl)
theorem cd_186_30 : mt_cd 186 30 = some (.aload_n 0) := mt_cd_of (q := (30, .aload_n 0, 1)) mq_186 ci_186 (List.mem_of_getElem? (i := 18) rfl)
theorem cd_186_31 : mt_cd 186 31 = some (.getfield 187) := mt_cd_of (q := (31, .getfield 187, 3)) mq_186 ci_186 (List.mem_of_getElem? (i := 19) rfl)
theorem cd_186_34 : mt_cd 186 34 = some (.aload_n 0) := mt_cd_of (q := (34, .aload_n 0, 1)) mq_186 ci_186 (List.mem_of_getElem? (i := 20) rfl)
theorem cd_186_35 : mt_cd 186 35 = some (.getfield 258) := mt_cd_of (q := (35, .getfield 258, 3)) mq_186 ci_186 (List.mem_of_getElem? (i := 21) rfl)
theorem cd_186_38 : mt_cd 186 38 = some (.iload 4) := mt_cd_of (q := (38, .iload 4, 2)) mq_186 ci_186 (List.mem_of_getElem? (i := 22) rfl)
theorem cd_186_40 : mt_cd 186 40 = some (.iastore) := mt_cd_of (q := (40, .iastore, 1)) mq_186 ci_186 (List.mem_of_getElem? (i := 23) rfl)
theorem cd_186_41 : mt_cd 186 41 = some (.aload_n 0) := mt_cd_of (q := (41, .aload_n 0, 1)) mq_186 ci_186 (List.mem_of_getElem? (i := 24) rfl)
theorem cd_186_42 : mt_cd 186 42 = some (.getfield 190) := mt_cd_of (q := (42, .getfield 190, 3)) mq_186 ci_186 (List.mem_of_getElem? (i := 25) rfl)
theorem cd_186_45 : mt_cd 186 45 = some (.aload_n 0) := mt_cd_of (q := (45, .aload_n 0, 1)) mq_186 ci_186 (List.mem_of_getElem? (i := 26) rfl)
theorem cd_186_46 : mt_cd 186 46 = some (.getfield 258) := mt_cd_of (q := (46, .getfield 258, 3)) mq_186 ci_186 (List.mem_of_getElem? (i := 27) rfl)
theorem cd_186_49 : mt_cd 186 49 = some (.lload 5) := mt_cd_of (q := (49, .lload 5, 2)) mq_186 ci_186 (List.mem_of_getElem? (i := 28) rfl)
theorem cd_186_51 : mt_cd 186 51 = some (.lastore) := mt_cd_of (q := (51, .lastore, 1)) mq_186 ci_186 (List.mem_of_getElem? (i := 29) rfl)
theorem cd_186_52 : mt_cd 186 52 = some (.aload_n 0) := mt_cd_of (q := (52, .aload_n 0, 1)) mq_186 ci_186 (List.mem_of_getElem? (i := 30) rfl)
theorem cd_186_53 : mt_cd 186 53 = some (.dup) := mt_cd_of (q := (53, .dup, 1)) mq_186 ci_186 (List.mem_of_getElem? (i := 31) rfl)
theorem cd_186_54 : mt_cd 186 54 = some (.getfield 258) := mt_cd_of (q := (54, .getfield 258, 3)) mq_186 ci_186 (List.mem_of_getElem? (i := 32) rfl)
theorem cd_186_57 : mt_cd 186 57 = some (.iconst 1) := mt_cd_of (q := (57, .iconst 1, 1)) mq_186 ci_186 (List.mem_of_getElem? (i := 33) rfl)
theorem cd_186_58 : mt_cd 186 58 = some (.iadd) := mt_cd_of (q := (58, .iadd, 1)) mq_186 ci_186 (List.mem_of_getElem? (i := 34) rfl)
theorem cd_186_59 : mt_cd 186 59 = some (.dup_x1) := mt_cd_of (q := (59, .dup_x1, 1)) mq_186 ci_186 (List.mem_of_getElem? (i := 35) rfl)
theorem cd_186_60 : mt_cd 186 60 = some (.putfield 258) := mt_cd_of (q := (60, .putfield 258, 3)) mq_186 ci_186 (List.mem_of_getElem? (i := 36) rfl)
theorem cd_186_63 : mt_cd 186 63 = some (.ireturn) := mt_cd_of (q := (63, .ireturn, 1)) mq_186 ci_186 (List.mem_of_getElem? (i := 37) rfl)
theorem b_186_0 {d : Nat} {Q : (Option Value ⊕ Nat) → mi_H → Prop} (n sl : Nat) (f : Nat → mi_C) {l1 : Nat} {l2 : Int32} {l3 : Int32} {l4 : Int32} {l5 : Int32} {l6 : Int64} {fs7 : List Value} {x10 : Nat} {fs12 : List Value} {x15 : Int32} (m17 i17 : Nat) (g17 : Nat → Int32) {fs21 : List Value} {x24 : Nat} {fs26 : List Value} {x29 : Int32} (m31 i31 : Nat) (g31 : Nat → Int32) {fs35 : List Value} {x38 : Nat} {fs40 : List Value} {x43 : Int32} (m45 i45 : Nat) (g45 : Nat → Int32) {fs49 : List Value} {x52 : Nat} {fs54 : List Value} {x57 : Int32} (m59 i59 : Nat) (g59 : Nat → Int32) {fs63 : List Value} {x66 : Nat} {fs68 : List Value} {x71 : Int32} (m73 i73 : Nat) (g73 : Nat → Int64) {fs77 : List Value} {x80 : Int32} {fs82 : List Value} (h8 : f l1 = .inr (12, fs7)) (h9 : l1 < n) (h11 : fs7[60]? = some (.ref x10)) (h13 : f l1 = .inr (12, fs12)) (h14 : l1 < n) (h16 : fs12[59]? = some (.int x15)) (h18 : f x10 = .inl (0, m17, .inl g17)) (h19 : x10 < n) (h20 : mi_ix x15 m17 i17) (h22 : (va_up f x10 (.inl (0, m17, .inl (upd g17 i17 l2)))) l1 = .inr (12, fs21)) (h23 : l1 < n) (h25 : fs21[61]? = some (.ref x24)) (h27 : (va_up f x10 (.inl (0, m17, .inl (upd g17 i17 l2)))) l1 = .inr (12, fs26)) (h28 : l1 < n) (h30 : fs26[59]? = some (.int x29)) (h32 : (va_up f x10 (.inl (0, m17, .inl (upd g17 i17 l2)))) x24 = .inl (0, m31, .inl g31)) (h33 : x24 < n) (h34 : mi_ix x29 m31 i31) (h36 : (va_up (va_up f x10 (.inl (0, m17, .inl (upd g17 i17 l2)))) x24 (.inl (0, m31, .inl (upd g31 i31 l3)))) l1 = .inr (12, fs35)) (h37 : l1 < n) (h39 : fs35[62]? = some (.ref x38)) (h41 : (va_up (va_up f x10 (.inl (0, m17, .inl (upd g17 i17 l2)))) x24 (.inl (0, m31, .inl (upd g31 i31 l3)))) l1 = .inr (12, fs40)) (h42 : l1 < n) (h44 : fs40[59]? = some (.int x43)) (h46 : (va_up (va_up f x10 (.inl (0, m17, .inl (upd g17 i17 l2)))) x24 (.inl (0, m31, .inl (upd g31 i31 l3)))) x38 = .inl (0, m45, .inl g45)) (h47 : x38 < n) (h48 : mi_ix x43 m45 i45) (h50 : (va_up (va_up (va_up f x10 (.inl (0, m17, .inl (upd g17 i17 l2)))) x24 (.inl (0, m31, .inl (upd g31 i31 l3)))) x38 (.inl (0, m45, .inl (upd g45 i45 l4)))) l1 = .inr (12, fs49)) (h51 : l1 < n) (h53 : fs49[63]? = some (.ref x52)) (h55 : (va_up (va_up (va_up f x10 (.inl (0, m17, .inl (upd g17 i17 l2)))) x24 (.inl (0, m31, .inl (upd g31 i31 l3)))) x38 (.inl (0, m45, .inl (upd g45 i45 l4)))) l1 = .inr (12, fs54)) (h56 : l1 < n) (h58 : fs54[59]? = some (.int x57)) (h60 : (va_up (va_up (va_up f x10 (.inl (0, m17, .inl (upd g17 i17 l2)))) x24 (.inl (0, m31, .inl (upd g31 i31 l3)))) x38 (.inl (0, m45, .inl (upd g45 i45 l4)))) x52 = .inl (0, m59, .inl g59)) (h61 : x52 < n) (h62 : mi_ix x57 m59 i59) (h64 : (va_up (va_up (va_up (va_up f x10 (.inl (0, m17, .inl (upd g17 i17 l2)))) x24 (.inl (0, m31, .inl (upd g31 i31 l3)))) x38 (.inl (0, m45, .inl (upd g45 i45 l4)))) x52 (.inl (0, m59, .inl (upd g59 i59 l5)))) l1 = .inr (12, fs63)) (h65 : l1 < n) (h67 : fs63[64]? = some (.ref x66)) (h69 : (va_up (va_up (va_up (va_up f x10 (.inl (0, m17, .inl (upd g17 i17 l2)))) x24 (.inl (0, m31, .inl (upd g31 i31 l3)))) x38 (.inl (0, m45, .inl (upd g45 i45 l4)))) x52 (.inl (0, m59, .inl (upd g59 i59 l5)))) l1 = .inr (12, fs68)) (h70 : l1 < n) (h72 : fs68[59]? = some (.int x71)) (h74 : (va_up (va_up (va_up (va_up f x10 (.inl (0, m17, .inl (upd g17 i17 l2)))) x24 (.inl (0, m31, .inl (upd g31 i31 l3)))) x38 (.inl (0, m45, .inl (upd g45 i45 l4)))) x52 (.inl (0, m59, .inl (upd g59 i59 l5)))) x66 = .inl (3, m73, .inr (.inl g73))) (h75 : x66 < n) (h76 : mi_ix x71 m73 i73) (h78 : (va_up (va_up (va_up (va_up (va_up f x10 (.inl (0, m17, .inl (upd g17 i17 l2)))) x24 (.inl (0, m31, .inl (upd g31 i31 l3)))) x38 (.inl (0, m45, .inl (upd g45 i45 l4)))) x52 (.inl (0, m59, .inl (upd g59 i59 l5)))) x66 (.inl (3, m73, .inr (.inl (vp_updL g73 i73 l6))))) l1 = .inr (12, fs77)) (h79 : l1 < n) (h81 : fs77[59]? = some (.int x80)) (h83 : (va_up (va_up (va_up (va_up (va_up f x10 (.inl (0, m17, .inl (upd g17 i17 l2)))) x24 (.inl (0, m31, .inl (upd g31 i31 l3)))) x38 (.inl (0, m45, .inl (upd g45 i45 l4)))) x52 (.inl (0, m59, .inl (upd g59 i59 l5)))) x66 (.inl (3, m73, .inr (.inl (vp_updL g73 i73 l6))))) l1 = .inr (12, fs82)) (h84 : l1 < n) (h85 : 59 < fs82.length) (h86 : Q (.inl (some (.int (x80 + 1)))) (n, sl, (va_up (va_up (va_up (va_up (va_up (va_up f x10 (.inl (0, m17, .inl (upd g17 i17 l2)))) x24 (.inl (0, m31, .inl (upd g31 i31 l3)))) x38 (.inl (0, m45, .inl (upd g45 i45 l4)))) x52 (.inl (0, m59, .inl (upd g59 i59 l5)))) x66 (.inl (3, m73, .inr (.inl (vp_updL g73 i73 l6))))) l1 (.inr (12, fs82.set 59 (.int (x80 + 1))))))) : mi_W d 186 0 [some (.ref l1), some (.int l2), some (.int l3), some (.int l4), some (.int l5), some (.long l6), none] [] (n, sl, f) Q := by
  refine w_aload_n cd_186_0 rfl ?_
  refine w_getfield cd_186_1 (show mt_f 12 178 = some (12, 60) by decide +kernel) h8 h9 h11 ?_
  refine w_aload_n cd_186_4 rfl ?_
  refine w_getfield cd_186_5 (show mt_f 12 258 = some (12, 59) by decide +kernel) h13 h14 h16 ?_
  refine w_iload_n cd_186_8 rfl ?_
  refine w_iastore cd_186_9 h18 h19 h20 ?_
  refine w_aload_n cd_186_10 rfl ?_
  refine w_getfield cd_186_11 (show mt_f 12 181 = some (12, 61) by decide +kernel) h22 h23 h25 ?_
  refine w_aload_n cd_186_14 rfl ?_
  refine w_getfield cd_186_15 (show mt_f 12 258 = some (12, 59) by decide +kernel) h27 h28 h30 ?_
  refine w_iload_n cd_186_18 rfl ?_
  refine w_iastore cd_186_19 h32 h33 h34 ?_
  refine w_aload_n cd_186_20 rfl ?_
  refine w_getfield cd_186_21 (show mt_f 12 184 = some (12, 62) by decide +kernel) h36 h37 h39 ?_
  refine w_aload_n cd_186_24 rfl ?_
  refine w_getfield cd_186_25 (show mt_f 12 258 = some (12, 59) by decide +kernel) h41 h42 h44 ?_
  refine w_iload_n cd_186_28 rfl ?_
  refine w_iastore cd_186_29 h46 h47 h48 ?_
  refine w_aload_n cd_186_30 rfl ?_
  refine w_getfield cd_186_31 (show mt_f 12 187 = some (12, 63) by decide +kernel) h50 h51 h53 ?_
  refine w_aload_n cd_186_34 rfl ?_
  refine w_getfield cd_186_35 (show mt_f 12 258 = some (12, 59) by decide +kernel) h55 h56 h58 ?_
  refine w_iload cd_186_38 rfl ?_
  refine w_iastore cd_186_40 h60 h61 h62 ?_
  refine w_aload_n cd_186_41 rfl ?_
  refine w_getfield cd_186_42 (show mt_f 12 190 = some (12, 64) by decide +kernel) h64 h65 h67 ?_
  refine w_aload_n cd_186_45 rfl ?_
  refine w_getfield cd_186_46 (show mt_f 12 258 = some (12, 59) by decide +kernel) h69 h70 h72 ?_
  refine w_lload cd_186_49 rfl ?_
  refine w_lastore cd_186_51 h74 h75 h76 ?_
  refine w_aload_n cd_186_52 rfl ?_
  refine w_dup_r cd_186_53 ?_
  refine w_getfield cd_186_54 (show mt_f 12 258 = some (12, 59) by decide +kernel) h78 h79 h81 ?_
  refine w_iconst (v := 1) cd_186_57 (by decide) ?_
  refine w_iadd cd_186_58 ?_
  refine w_dup_x1_ir cd_186_59 ?_
  refine w_putfield (w := .int (x80 + 1)) cd_186_60 (show mt_f 12 258 = some (12, 59) by decide +kernel) h83 h84 ⟨h85, rfl, Or.inl (by decide)⟩ ?_
  exact w_ireturn_i cd_186_63 (by decide +kernel) h86
/-! MarloweHostModel.choose(IJ)I -/
set_option maxRecDepth 100000 in
theorem mq_187 : mt_q 187 = my_187 := rfl
set_option maxRecDepth 100000 in
theorem ci_187 : mt_inc 0 my_187.cd = true := by decide +kernel
theorem cd_187_0 : mt_cd 187 0 = some (.aload_n 0) := mt_cd_of (q := (0, .aload_n 0, 1)) mq_187 ci_187 (List.mem_of_getElem? (i := 0) rfl)
theorem cd_187_1 : mt_cd 187 1 = some (.iconst 0) := mt_cd_of (q := (1, .iconst 0, 1)) mq_187 ci_187 (List.mem_of_getElem? (i := 1) rfl)
theorem cd_187_2 : mt_cd 187 2 = some (.putfield 248) := mt_cd_of (q := (2, .putfield 248, 3)) mq_187 ci_187 (List.mem_of_getElem? (i := 2) rfl)
theorem cd_187_5 : mt_cd 187 5 = some (.aload_n 0) := mt_cd_of (q := (5, .aload_n 0, 1)) mq_187 ci_187 (List.mem_of_getElem? (i := 3) rfl)
theorem cd_187_6 : mt_cd 187 6 = some (.iload_n 1) := mt_cd_of (q := (6, .iload_n 1, 1)) mq_187 ci_187 (List.mem_of_getElem? (i := 4) rfl)
theorem cd_187_7 : mt_cd 187 7 = some (.i2l) := mt_cd_of (q := (7, .i2l, 1)) mq_187 ci_187 (List.mem_of_getElem? (i := 5) rfl)
theorem cd_187_8 : mt_cd 187 8 = some (.lconst 0) := mt_cd_of (q := (8, .lconst 0, 1)) mq_187 ci_187 (List.mem_of_getElem? (i := 6) rfl)
theorem cd_187_9 : mt_cd 187 9 = some (.ldc2_w 542) := mt_cd_of (q := (9, .ldc2_w 542, 3)) mq_187 ci_187 (List.mem_of_getElem? (i := 7) rfl)
theorem cd_187_12 : mt_cd 187 12 = some (.invokestatic 268) := mt_cd_of (q := (12, .invokestatic 268, 3)) mq_187 ci_187 (List.mem_of_getElem? (i := 8) rfl)
theorem cd_187_15 : mt_cd 187 15 = some (.ifCond .ne 7) := mt_cd_of (q := (15, .ifCond .ne 7, 3)) mq_187 ci_187 (List.mem_of_getElem? (i := 9) rfl)
theorem cd_187_18 : mt_cd 187 18 = some (.iconst 1) := mt_cd_of (q := (18, .iconst 1, 1)) mq_187 ci_187 (List.mem_of_getElem? (i := 10) rfl)
theorem cd_187_19 : mt_cd 187 19 = some (.goto 4) := mt_cd_of (q := (19, .goto 4, 3)) mq_187 ci_187 (List.mem_of_getElem? (i := 11) rfl)
theorem cd_187_22 : mt_cd 187 22 = some (.iconst 0) := mt_cd_of (q := (22, .iconst 0, 1)) mq_187 ci_187 (List.mem_of_getElem? (i := 12) rfl)
theorem cd_187_23 : mt_cd 187 23 = some (.iconst 1) := mt_cd_of (q := (23, .iconst 1, 1)) mq_187 ci_187 (List.mem_of_getElem? (i := 13) rfl)
theorem cd_187_24 : mt_cd 187 24 = some (.invokevirtual 254) := mt_cd_of (q := (24, .invokevirtual 254, 3)) mq_187 ci_187 (List.mem_of_getElem? (i := 14) rfl)
theorem cd_187_27 : mt_cd 187 27 = some (.ifCond .ne 25) := mt_cd_of (q := (27, .ifCond .ne 25, 3)) mq_187 ci_187 (List.mem_of_getElem? (i := 15) rfl)
theorem cd_187_30 : mt_cd 187 30 = some (.aload_n 0) := mt_cd_of (q := (30, .aload_n 0, 1)) mq_187 ci_187 (List.mem_of_getElem? (i := 16) rfl)
theorem cd_187_31 : mt_cd 187 31 = some (.aload_n 0) := mt_cd_of (q := (31, .aload_n 0, 1)) mq_187 ci_187 (List.mem_of_getElem? (i := 17) rfl)
theorem cd_187_32 : mt_cd 187 32 = some (.getfield 258) := mt_cd_of (q := (32, .getfield 258, 3)) mq_187 ci_187 (List.mem_of_getElem? (i := 18) rfl)
theorem cd_187_35 : mt_cd 187 35 = some (.bipush 16) := mt_cd_of (q := (35, .bipush 16, 2)) mq_187 ci_187 (List.mem_of_getElem? (i := 19) rfl)
theorem cd_187_37 : mt_cd 187 37 = some (.if_icmp .ne 7) := mt_cd_of (q := (37, .if_icmp .ne 7, 3)) mq_187 ci_187 (List.mem_of_getElem? (i := 20) rfl)
theorem cd_187_40 : mt_cd 187 40 = some (.iconst 1) := mt_cd_of (q := (40, .iconst 1, 1)) mq_187 ci_187 (List.mem_of_getElem? (i := 21) rfl)
theorem cd_187_41 : mt_cd 187 41 = some (.goto 4) := mt_cd_of (q := (41, .goto 4, 3)) mq_187 ci_187 (List.mem_of_getElem? (i := 22) rfl)
theorem cd_187_44 : mt_cd 187 44 = some (.iconst 0) := mt_cd_of (q := (44, .iconst 0, 1)) mq_187 ci_187 (List.mem_of_getElem? (i := 23) rfl)
theorem cd_187_45 : mt_cd 187 45 = some (.iconst 2) := mt_cd_of (q := (45, .iconst 2, 1)) mq_187 ci_187 (List.mem_of_getElem? (i := 24) rfl)
theorem cd_187_46 : mt_cd 187 46 = some (.invokevirtual 254) := mt_cd_of (q := (46, .invokevirtual 254, 3)) mq_187 ci_187 (List.mem_of_getElem? (i := 25) rfl)
theorem cd_187_49 : mt_cd 187 49 = some (.ifCond .eq 5) := mt_cd_of (q := (49, .ifCond .eq 5, 3)) mq_187 ci_187 (List.mem_of_getElem? (i := 26) rfl)
theorem cd_187_52 : mt_cd 187 52 = some (.iconst 0) := mt_cd_of (q := (52, .iconst 0, 1)) mq_187 ci_187 (List.mem_of_getElem? (i := 27) rfl)
theorem cd_187_53 : mt_cd 187 53 = some (.ireturn) := mt_cd_of (q := (53, .ireturn, 1)) mq_187 ci_187 (List.mem_of_getElem? (i := 28) rfl)
theorem cd_187_54 : mt_cd 187 54 = some (.aload_n 0) := mt_cd_of (q := (54, .aload_n 0, 1)) mq_187 ci_187 (List.mem_of_getElem? (i := 29) rfl)
theorem cd_187_55 : mt_cd 187 55 = some (.bipush 8) := mt_cd_of (q := (55, .bipush 8, 2)) mq_187 ci_187 (List.mem_of_getElem? (i := 30) rfl)
theorem cd_187_57 : mt_cd 187 57 = some (.iload_n 1) := mt_cd_of (q := (57, .iload_n 1, 1)) mq_187 ci_187 (List.mem_of_getElem? (i := 31) rfl)
theorem cd_187_58 : mt_cd 187 58 = some (.iconst 0) := mt_cd_of (q := (58, .iconst 0, 1)) mq_187 ci_187 (List.mem_of_getElem? (i := 32) rfl)
theorem cd_187_59 : mt_cd 187 59 = some (.iconst 0) := mt_cd_of (q := (59, .iconst 0, 1)) mq_187 ci_187 (List.mem_of_getElem? (i := 33) rfl)
theorem cd_187_60 : mt_cd 187 60 = some (.lload_n 2) := mt_cd_of (q := (60, .lload_n 2, 1)) mq_187 ci_187 (List.mem_of_getElem? (i := 34) rfl)
theorem cd_187_61 : mt_cd 187 61 = some (.invokevirtual 548) := mt_cd_of (q := (61, .invokevirtual 548, 3)) mq_187 ci_187 (List.mem_of_getElem? (i := 35) rfl)
theorem cd_187_64 : mt_cd 187 64 = some (.ireturn) := mt_cd_of (q := (64, .ireturn, 1)) mq_187 ci_187 (List.mem_of_getElem? (i := 36) rfl)
theorem b_187_0 {d : Nat} {Q : (Option Value ⊕ Nat) → mi_H → Prop} (n sl : Nat) (f : Nat → mi_C) {l1 : Nat} {l2 : Int32} {l3 : Int64} {fs4 : List Value} (h5 : f l1 = .inr (12, fs4)) (h6 : l1 < n) (h7 : 0 < fs4.length) (h8 : mi_W d 140 0 (mi_en 6 [.long ((l2 : Int32).toInt64), .long 0, .long 7]) [] (n, sl, (va_up f l1 (.inr (12, fs4.set 0 (.int 0))))) (mi_Kc d 187 12 [some (.ref l1), some (.int l2), some (.long l3), none] [.ref l1] Q)) : mi_W (d + 1) 187 0 [some (.ref l1), some (.int l2), some (.long l3), none] [] (n, sl, f) Q := by
  refine w_aload_n cd_187_0 rfl ?_
  refine w_iconst (v := 0) cd_187_1 (by decide) ?_
  refine w_putfield (w := .int 0) cd_187_2 (show mt_f 12 248 = some (12, 0) by decide +kernel) h5 h6 ⟨h7, rfl, Or.inl (by decide)⟩ ?_
  refine w_aload_n cd_187_5 rfl ?_
  refine w_iload_n cd_187_6 rfl ?_
  refine w_i2l cd_187_7 ?_
  refine w_lconst (lv := 0) cd_187_8 (by decide) ?_
  refine w_ldc2_w (lv := 7) cd_187_9 (by decide +kernel) ?_
  exact w_invokestatic cd_187_12 (show mt_m 12 268 = some (140, 4) by decide +kernel) (by decide) (rest := [.ref l1]) rfl (as := [.long ((l2 : Int32).toInt64), .long 0, .long 7]) rfl ⟨Nat.le_of_ble_eq_true rfl, Nat.le_of_ble_eq_true rfl, Nat.le_of_ble_eq_true rfl⟩ h8
theorem b_187_15 {d : Nat} {Q : (Option Value ⊕ Nat) → mi_H → Prop} (n sl : Nat) (f : Nat → mi_C) {l1 : Nat} {l2 : Int32} {l3 : Int64} {s4 : Int32} {s5 : Nat} (h6 : ¬ s4 = (0 : Int32) → mi_W d 187 22 [some (.ref l1), some (.int l2), some (.long l3), none] [.ref s5] (n, sl, f) Q) (h7 : ¬ (¬ s4 = (0 : Int32)) → mi_W d 187 18 [some (.ref l1), some (.int l2), some (.long l3), none] [.ref s5] (n, sl, f) Q) : mi_W d 187 15 [some (.ref l1), some (.int l2), some (.long l3), none] [.int s4, .ref s5] (n, sl, f) Q := by
  exact w_ifne cd_187_15 (by decide) h6 h7
theorem b_187_18 {d : Nat} {Q : (Option Value ⊕ Nat) → mi_H → Prop} (n sl : Nat) (f : Nat → mi_C) {l1 : Nat} {l2 : Int32} {l3 : Int64} {s4 : Nat} (h5 : mi_W d 187 23 [some (.ref l1), some (.int l2), some (.long l3), none] [.int 1, .ref s4] (n, sl, f) Q) : mi_W d 187 18 [some (.ref l1), some (.int l2), some (.long l3), none] [.ref s4] (n, sl, f) Q := by
  refine w_iconst (v := 1) cd_187_18 (by decide) ?_
  exact w_goto cd_187_19 (by decide) h5
theorem b_187_22 {d : Nat} {Q : (Option Value ⊕ Nat) → mi_H → Prop} (n sl : Nat) (f : Nat → mi_C) {l1 : Nat} {l2 : Int32} {l3 : Int64} {s4 : Nat} (h5 : mi_W d 187 23 [some (.ref l1), some (.int l2), some (.long l3), none] [.int 0, .ref s4] (n, sl, f) Q) : mi_W d 187 22 [some (.ref l1), some (.int l2), some (.long l3), none] [.ref s4] (n, sl, f) Q := by
  refine w_iconst (v := 0) cd_187_22 (by decide) ?_
  exact h5
theorem b_187_23 {d : Nat} {Q : (Option Value ⊕ Nat) → mi_H → Prop} (n sl : Nat) (f : Nat → mi_C) {l1 : Nat} {l2 : Int32} {l3 : Int64} {s4 : Int32} {s5 : Nat} {fs6 : List Value} (h7 : f s5 = .inr (12, fs6)) (h8 : s5 < n) (h9 : mi_W d 138 0 (mi_en 3 [.ref s5, .int s4, .int 1]) [] (n, sl, f) (mi_Kc d 187 24 [some (.ref l1), some (.int l2), some (.long l3), none] [] Q)) : mi_W (d + 1) 187 23 [some (.ref l1), some (.int l2), some (.long l3), none] [.int s4, .ref s5] (n, sl, f) Q := by
  refine w_iconst (v := 1) cd_187_23 (by decide) ?_
  exact w_invokevirtual cd_187_24 (show mt_m 12 254 = some (138, 0) by decide +kernel) (rest := []) rfl (as := [.ref s5, .int s4, .int 1]) rfl h7 (Or.inl h8) ⟨Nat.le_of_ble_eq_true rfl, Nat.le_of_ble_eq_true rfl, Nat.le_of_ble_eq_true rfl⟩ h9
theorem b_187_27 {d : Nat} {Q : (Option Value ⊕ Nat) → mi_H → Prop} (n sl : Nat) (f : Nat → mi_C) {l1 : Nat} {l2 : Int32} {l3 : Int64} {s4 : Int32} (h5 : ¬ s4 = (0 : Int32) → mi_W d 187 52 [some (.ref l1), some (.int l2), some (.long l3), none] [] (n, sl, f) Q) (h6 : ¬ (¬ s4 = (0 : Int32)) → mi_W d 187 30 [some (.ref l1), some (.int l2), some (.long l3), none] [] (n, sl, f) Q) : mi_W d 187 27 [some (.ref l1), some (.int l2), some (.long l3), none] [.int s4] (n, sl, f) Q := by
  exact w_ifne cd_187_27 (by decide) h5 h6
theorem b_187_30 {d : Nat} {Q : (Option Value ⊕ Nat) → mi_H → Prop} (n sl : Nat) (f : Nat → mi_C) {l1 : Nat} {l2 : Int32} {l3 : Int64} {fs4 : List Value} {x7 : Int32} (h5 : f l1 = .inr (12, fs4)) (h6 : l1 < n) (h8 : fs4[59]? = some (.int x7)) (h9 : ¬ x7 = 16 → mi_W d 187 44 [some (.ref l1), some (.int l2), some (.long l3), none] [.ref l1] (n, sl, f) Q) (h10 : ¬ (¬ x7 = 16) → mi_W d 187 40 [some (.ref l1), some (.int l2), some (.long l3), none] [.ref l1] (n, sl, f) Q) : mi_W d 187 30 [some (.ref l1), some (.int l2), some (.long l3), none] [] (n, sl, f) Q := by
  refine w_aload_n cd_187_30 rfl ?_
  refine w_aload_n cd_187_31 rfl ?_
  refine w_getfield cd_187_32 (show mt_f 12 258 = some (12, 59) by decide +kernel) h5 h6 h8 ?_
  refine w_bipush (v := 16) cd_187_35 (by decide) ?_
  exact w_if_icmpne cd_187_37 (by decide) h9 h10
theorem b_187_40 {d : Nat} {Q : (Option Value ⊕ Nat) → mi_H → Prop} (n sl : Nat) (f : Nat → mi_C) {l1 : Nat} {l2 : Int32} {l3 : Int64} {s4 : Nat} (h5 : mi_W d 187 45 [some (.ref l1), some (.int l2), some (.long l3), none] [.int 1, .ref s4] (n, sl, f) Q) : mi_W d 187 40 [some (.ref l1), some (.int l2), some (.long l3), none] [.ref s4] (n, sl, f) Q := by
  refine w_iconst (v := 1) cd_187_40 (by decide) ?_
  exact w_goto cd_187_41 (by decide) h5
theorem b_187_44 {d : Nat} {Q : (Option Value ⊕ Nat) → mi_H → Prop} (n sl : Nat) (f : Nat → mi_C) {l1 : Nat} {l2 : Int32} {l3 : Int64} {s4 : Nat} (h5 : mi_W d 187 45 [some (.ref l1), some (.int l2), some (.long l3), none] [.int 0, .ref s4] (n, sl, f) Q) : mi_W d 187 44 [some (.ref l1), some (.int l2), some (.long l3), none] [.ref s4] (n, sl, f) Q := by
  refine w_iconst (v := 0) cd_187_44 (by decide) ?_
  exact h5
theorem b_187_45 {d : Nat} {Q : (Option Value ⊕ Nat) → mi_H → Prop} (n sl : Nat) (f : Nat → mi_C) {l1 : Nat} {l2 : Int32} {l3 : Int64} {s4 : Int32} {s5 : Nat} {fs6 : List Value} (h7 : f s5 = .inr (12, fs6)) (h8 : s5 < n) (h9 : mi_W d 138 0 (mi_en 3 [.ref s5, .int s4, .int 2]) [] (n, sl, f) (mi_Kc d 187 46 [some (.ref l1), some (.int l2), some (.long l3), none] [] Q)) : mi_W (d + 1) 187 45 [some (.ref l1), some (.int l2), some (.long l3), none] [.int s4, .ref s5] (n, sl, f) Q := by
  refine w_iconst (v := 2) cd_187_45 (by decide) ?_
  exact w_invokevirtual cd_187_46 (show mt_m 12 254 = some (138, 0) by decide +kernel) (rest := []) rfl (as := [.ref s5, .int s4, .int 2]) rfl h7 (Or.inl h8) ⟨Nat.le_of_ble_eq_true rfl, Nat.le_of_ble_eq_true rfl, Nat.le_of_ble_eq_true rfl⟩ h9
theorem b_187_49 {d : Nat} {Q : (Option Value ⊕ Nat) → mi_H → Prop} (n sl : Nat) (f : Nat → mi_C) {l1 : Nat} {l2 : Int32} {l3 : Int64} {s4 : Int32} (h5 : s4 = (0 : Int32) → mi_W d 187 54 [some (.ref l1), some (.int l2), some (.long l3), none] [] (n, sl, f) Q) (h6 : ¬ (s4 = (0 : Int32)) → mi_W d 187 52 [some (.ref l1), some (.int l2), some (.long l3), none] [] (n, sl, f) Q) : mi_W d 187 49 [some (.ref l1), some (.int l2), some (.long l3), none] [.int s4] (n, sl, f) Q := by
  exact w_ifeq cd_187_49 (by decide) h5 h6
theorem b_187_52 {d : Nat} {Q : (Option Value ⊕ Nat) → mi_H → Prop} (n sl : Nat) (f : Nat → mi_C) {l1 : Nat} {l2 : Int32} {l3 : Int64} (h4 : Q (.inl (some (.int 0))) (n, sl, f)) : mi_W d 187 52 [some (.ref l1), some (.int l2), some (.long l3), none] [] (n, sl, f) Q := by
  refine w_iconst (v := 0) cd_187_52 (by decide) ?_
  exact w_ireturn_i cd_187_53 (by decide +kernel) h4
theorem b_187_54 {d : Nat} {Q : (Option Value ⊕ Nat) → mi_H → Prop} (n sl : Nat) (f : Nat → mi_C) {l1 : Nat} {l2 : Int32} {l3 : Int64} {fs4 : List Value} (h5 : f l1 = .inr (12, fs4)) (h6 : l1 < n) (h7 : mi_W d 186 0 (mi_en 7 [.ref l1, .int 8, .int l2, .int 0, .int 0, .long l3]) [] (n, sl, f) (mi_Kc d 187 61 [some (.ref l1), some (.int l2), some (.long l3), none] [] Q)) : mi_W (d + 1) 187 54 [some (.ref l1), some (.int l2), some (.long l3), none] [] (n, sl, f) Q := by
  refine w_aload_n cd_187_54 rfl ?_
  refine w_bipush (v := 8) cd_187_55 (by decide) ?_
  refine w_iload_n cd_187_57 rfl ?_
  refine w_iconst (v := 0) cd_187_58 (by decide) ?_
  refine w_iconst (v := 0) cd_187_59 (by decide) ?_
  refine w_lload_n cd_187_60 rfl ?_
  exact w_invokevirtual cd_187_61 (show mt_m 12 548 = some (186, 0) by decide +kernel) (rest := []) rfl (as := [.ref l1, .int 8, .int l2, .int 0, .int 0, .long l3]) rfl h5 (Or.inl h6) ⟨Nat.le_of_ble_eq_true rfl, Nat.le_of_ble_eq_true rfl, Nat.le_of_ble_eq_true rfl⟩ h7
theorem b_187_64 {d : Nat} {Q : (Option Value ⊕ Nat) → mi_H → Prop} (n sl : Nat) (f : Nat → mi_C) {l1 : Nat} {l2 : Int32} {l3 : Int64} {s4 : Int32} (h5 : Q (.inl (some (.int s4))) (n, sl, f)) : mi_W d 187 64 [some (.ref l1), some (.int l2), some (.long l3), none] [.int s4] (n, sl, f) Q := by
  exact w_ireturn_i cd_187_64 (by decide +kernel) h5
/-! MarloweHostModel.remind()I -/
set_option maxRecDepth 100000 in
theorem mq_188 : mt_q 188 = my_188 := rfl
set_option maxRecDepth 100000 in
theorem ci_188 : mt_inc 0 my_188.cd = true := by decide +kernel
theorem cd_188_0 : mt_cd 188 0 = some (.aload_n 0) := mt_cd_of (q := (0, .aload_n 0, 1)) mq_188 ci_188 (List.mem_of_getElem? (i := 0) rfl)
theorem cd_188_1 : mt_cd 188 1 = some (.iconst 0) := mt_cd_of (q := (1, .iconst 0, 1)) mq_188 ci_188 (List.mem_of_getElem? (i := 1) rfl)
theorem cd_188_2 : mt_cd 188 2 = some (.putfield 248) := mt_cd_of (q := (2, .putfield 248, 3)) mq_188 ci_188 (List.mem_of_getElem? (i := 2) rfl)
theorem cd_188_5 : mt_cd 188 5 = some (.aload_n 0) := mt_cd_of (q := (5, .aload_n 0, 1)) mq_188 ci_188 (List.mem_of_getElem? (i := 3) rfl)
theorem cd_188_6 : mt_cd 188 6 = some (.aload_n 0) := mt_cd_of (q := (6, .aload_n 0, 1)) mq_188 ci_188 (List.mem_of_getElem? (i := 4) rfl)
theorem cd_188_7 : mt_cd 188 7 = some (.getfield 258) := mt_cd_of (q := (7, .getfield 258, 3)) mq_188 ci_188 (List.mem_of_getElem? (i := 5) rfl)
theorem cd_188_10 : mt_cd 188 10 = some (.bipush 16) := mt_cd_of (q := (10, .bipush 16, 2)) mq_188 ci_188 (List.mem_of_getElem? (i := 6) rfl)
theorem cd_188_12 : mt_cd 188 12 = some (.if_icmp .ne 7) := mt_cd_of (q := (12, .if_icmp .ne 7, 3)) mq_188 ci_188 (List.mem_of_getElem? (i := 7) rfl)
theorem cd_188_15 : mt_cd 188 15 = some (.iconst 1) := mt_cd_of (q := (15, .iconst 1, 1)) mq_188 ci_188 (List.mem_of_getElem? (i := 8) rfl)
theorem cd_188_16 : mt_cd 188 16 = some (.goto 4) := mt_cd_of (q := (16, .goto 4, 3)) mq_188 ci_188 (List.mem_of_getElem? (i := 9) rfl)
theorem cd_188_19 : mt_cd 188 19 = some (.iconst 0) := mt_cd_of (q := (19, .iconst 0, 1)) mq_188 ci_188 (List.mem_of_getElem? (i := 10) rfl)
theorem cd_188_20 : mt_cd 188 20 = some (.iconst 1) := mt_cd_of (q := (20, .iconst 1, 1)) mq_188 ci_188 (List.mem_of_getElem? (i := 11) rfl)
theorem cd_188_21 : mt_cd 188 21 = some (.invokevirtual 254) := mt_cd_of (q := (21, .invokevirtual 254, 3)) mq_188 ci_188 (List.mem_of_getElem? (i := 12) rfl)
theorem cd_188_24 : mt_cd 188 24 = some (.ifCond .eq 5) := mt_cd_of (q := (24, .ifCond .eq 5, 3)) mq_188 ci_188 (List.mem_of_getElem? (i := 13) rfl)
theorem cd_188_27 : mt_cd 188 27 = some (.iconst 0) := mt_cd_of (q := (27, .iconst 0, 1)) mq_188 ci_188 (List.mem_of_getElem? (i := 14) rfl)
theorem cd_188_28 : mt_cd 188 28 = some (.ireturn) := mt_cd_of (q := (28, .ireturn, 1)) mq_188 ci_188 (List.mem_of_getElem? (i := 15) rfl)
theorem cd_188_29 : mt_cd 188 29 = some (.aload_n 0) := mt_cd_of (q := (29, .aload_n 0, 1)) mq_188 ci_188 (List.mem_of_getElem? (i := 16) rfl)
theorem cd_188_30 : mt_cd 188 30 = some (.bipush 9) := mt_cd_of (q := (30, .bipush 9, 2)) mq_188 ci_188 (List.mem_of_getElem? (i := 17) rfl)
theorem cd_188_32 : mt_cd 188 32 = some (.iconst 0) := mt_cd_of (q := (32, .iconst 0, 1)) mq_188 ci_188 (List.mem_of_getElem? (i := 18) rfl)
theorem cd_188_33 : mt_cd 188 33 = some (.iconst 0) := mt_cd_of (q := (33, .iconst 0, 1)) mq_188 ci_188 (List.mem_of_getElem? (i := 19) rfl)
theorem cd_188_34 : mt_cd 188 34 = some (.iconst 0) := mt_cd_of (q := (34, .iconst 0, 1)) mq_188 ci_188 (List.mem_of_getElem? (i := 20) rfl)
theorem cd_188_35 : mt_cd 188 35 = some (.lconst 0) := mt_cd_of (q := (35, .lconst 0, 1)) mq_188 ci_188 (List.mem_of_getElem? (i := 21) rfl)
theorem cd_188_36 : mt_cd 188 36 = some (.invokevirtual 548) := mt_cd_of (q := (36, .invokevirtual 548, 3)) mq_188 ci_188 (List.mem_of_getElem? (i := 22) rfl)
theorem cd_188_39 : mt_cd 188 39 = some (.ireturn) := mt_cd_of (q := (39, .ireturn, 1)) mq_188 ci_188 (List.mem_of_getElem? (i := 23) rfl)
theorem b_188_0 {d : Nat} {Q : (Option Value ⊕ Nat) → mi_H → Prop} (n sl : Nat) (f : Nat → mi_C) {l1 : Nat} {fs2 : List Value} {fs6 : List Value} {x9 : Int32} (h3 : f l1 = .inr (12, fs2)) (h4 : l1 < n) (h5 : 0 < fs2.length) (h7 : (va_up f l1 (.inr (12, fs2.set 0 (.int 0)))) l1 = .inr (12, fs6)) (h8 : l1 < n) (h10 : fs6[59]? = some (.int x9)) (h11 : ¬ x9 = 16 → mi_W d 188 19 [some (.ref l1)] [.ref l1] (n, sl, (va_up f l1 (.inr (12, fs2.set 0 (.int 0))))) Q) (h12 : ¬ (¬ x9 = 16) → mi_W d 188 15 [some (.ref l1)] [.ref l1] (n, sl, (va_up f l1 (.inr (12, fs2.set 0 (.int 0))))) Q) : mi_W d 188 0 [some (.ref l1)] [] (n, sl, f) Q := by
  refine w_aload_n cd_188_0 rfl ?_
  refine w_iconst (v := 0) cd_188_1 (by decide) ?_
  refine w_putfield (w := .int 0) cd_188_2 (show mt_f 12 248 = some (12, 0) by decide +kernel) h3 h4 ⟨h5, rfl, Or.inl (by decide)⟩ ?_
  refine w_aload_n cd_188_5 rfl ?_
  refine w_aload_n cd_188_6 rfl ?_
  refine w_getfield cd_188_7 (show mt_f 12 258 = some (12, 59) by decide +kernel) h7 h8 h10 ?_
  refine w_bipush (v := 16) cd_188_10 (by decide) ?_
  exact w_if_icmpne cd_188_12 (by decide) h11 h12
theorem b_188_15 {d : Nat} {Q : (Option Value ⊕ Nat) → mi_H → Prop} (n sl : Nat) (f : Nat → mi_C) {l1 : Nat} {s2 : Nat} (h3 : mi_W d 188 20 [some (.ref l1)] [.int 1, .ref s2] (n, sl, f) Q) : mi_W d 188 15 [some (.ref l1)] [.ref s2] (n, sl, f) Q := by
  refine w_iconst (v := 1) cd_188_15 (by decide) ?_
  exact w_goto cd_188_16 (by decide) h3
theorem b_188_19 {d : Nat} {Q : (Option Value ⊕ Nat) → mi_H → Prop} (n sl : Nat) (f : Nat → mi_C) {l1 : Nat} {s2 : Nat} (h3 : mi_W d 188 20 [some (.ref l1)] [.int 0, .ref s2] (n, sl, f) Q) : mi_W d 188 19 [some (.ref l1)] [.ref s2] (n, sl, f) Q := by
  refine w_iconst (v := 0) cd_188_19 (by decide) ?_
  exact h3
theorem b_188_20 {d : Nat} {Q : (Option Value ⊕ Nat) → mi_H → Prop} (n sl : Nat) (f : Nat → mi_C) {l1 : Nat} {s2 : Int32} {s3 : Nat} {fs4 : List Value} (h5 : f s3 = .inr (12, fs4)) (h6 : s3 < n) (h7 : mi_W d 138 0 (mi_en 3 [.ref s3, .int s2, .int 1]) [] (n, sl, f) (mi_Kc d 188 21 [some (.ref l1)] [] Q)) : mi_W (d + 1) 188 20 [some (.ref l1)] [.int s2, .ref s3] (n, sl, f) Q := by
  refine w_iconst (v := 1) cd_188_20 (by decide) ?_
  exact w_invokevirtual cd_188_21 (show mt_m 12 254 = some (138, 0) by decide +kernel) (rest := []) rfl (as := [.ref s3, .int s2, .int 1]) rfl h5 (Or.inl h6) ⟨Nat.le_of_ble_eq_true rfl, Nat.le_of_ble_eq_true rfl, Nat.le_of_ble_eq_true rfl⟩ h7
theorem b_188_24 {d : Nat} {Q : (Option Value ⊕ Nat) → mi_H → Prop} (n sl : Nat) (f : Nat → mi_C) {l1 : Nat} {s2 : Int32} (h3 : s2 = (0 : Int32) → mi_W d 188 29 [some (.ref l1)] [] (n, sl, f) Q) (h4 : ¬ (s2 = (0 : Int32)) → mi_W d 188 27 [some (.ref l1)] [] (n, sl, f) Q) : mi_W d 188 24 [some (.ref l1)] [.int s2] (n, sl, f) Q := by
  exact w_ifeq cd_188_24 (by decide) h3 h4
theorem b_188_27 {d : Nat} {Q : (Option Value ⊕ Nat) → mi_H → Prop} (n sl : Nat) (f : Nat → mi_C) {l1 : Nat} (h2 : Q (.inl (some (.int 0))) (n, sl, f)) : mi_W d 188 27 [some (.ref l1)] [] (n, sl, f) Q := by
  refine w_iconst (v := 0) cd_188_27 (by decide) ?_
  exact w_ireturn_i cd_188_28 (by decide +kernel) h2
theorem b_188_29 {d : Nat} {Q : (Option Value ⊕ Nat) → mi_H → Prop} (n sl : Nat) (f : Nat → mi_C) {l1 : Nat} {fs2 : List Value} (h3 : f l1 = .inr (12, fs2)) (h4 : l1 < n) (h5 : mi_W d 186 0 (mi_en 7 [.ref l1, .int 9, .int 0, .int 0, .int 0, .long 0]) [] (n, sl, f) (mi_Kc d 188 36 [some (.ref l1)] [] Q)) : mi_W (d + 1) 188 29 [some (.ref l1)] [] (n, sl, f) Q := by
  refine w_aload_n cd_188_29 rfl ?_
  refine w_bipush (v := 9) cd_188_30 (by decide) ?_
  refine w_iconst (v := 0) cd_188_32 (by decide) ?_
  refine w_iconst (v := 0) cd_188_33 (by decide) ?_
  refine w_iconst (v := 0) cd_188_34 (by decide) ?_
  refine w_lconst (lv := 0) cd_188_35 (by decide) ?_
  exact w_invokevirtual cd_188_36 (show mt_m 12 548 = some (186, 0) by decide +kernel) (rest := []) rfl (as := [.ref l1, .int 9, .int 0, .int 0, .int 0, .long 0]) rfl h3 (Or.inl h4) ⟨Nat.le_of_ble_eq_true rfl, Nat.le_of_ble_eq_true rfl, Nat.le_of_ble_eq_true rfl⟩ h5
theorem b_188_39 {d : Nat} {Q : (Option Value ⊕ Nat) → mi_H → Prop} (n sl : Nat) (f : Nat → mi_C) {l1 : Nat} {s2 : Int32} (h3 : Q (.inl (some (.int s2))) (n, sl, f)) : mi_W d 188 39 [some (.ref l1)] [.int s2] (n, sl, f) Q := by
  exact w_ireturn_i cd_188_39 (by decide +kernel) h3
/-! MarloweHostModel.told(II)I -/
set_option maxRecDepth 100000 in
theorem mq_189 : mt_q 189 = my_189 := rfl
set_option maxRecDepth 100000 in
theorem ci_189 : mt_inc 0 my_189.cd = true := by decide +kernel
theorem cd_189_0 : mt_cd 189 0 = some (.aload_n 0) := mt_cd_of (q := (0, .aload_n 0, 1)) mq_189 ci_189 (List.mem_of_getElem? (i := 0) rfl)
theorem cd_189_1 : mt_cd 189 1 = some (.iconst 0) := mt_cd_of (q := (1, .iconst 0, 1)) mq_189 ci_189 (List.mem_of_getElem? (i := 1) rfl)
theorem cd_189_2 : mt_cd 189 2 = some (.putfield 248) := mt_cd_of (q := (2, .putfield 248, 3)) mq_189 ci_189 (List.mem_of_getElem? (i := 2) rfl)
theorem cd_189_5 : mt_cd 189 5 = some (.aload_n 0) := mt_cd_of (q := (5, .aload_n 0, 1)) mq_189 ci_189 (List.mem_of_getElem? (i := 3) rfl)
theorem cd_189_6 : mt_cd 189 6 = some (.iload_n 1) := mt_cd_of (q := (6, .iload_n 1, 1)) mq_189 ci_189 (List.mem_of_getElem? (i := 4) rfl)
theorem cd_189_7 : mt_cd 189 7 = some (.i2l) := mt_cd_of (q := (7, .i2l, 1)) mq_189 ci_189 (List.mem_of_getElem? (i := 5) rfl)
theorem cd_189_8 : mt_cd 189 8 = some (.lconst 0) := mt_cd_of (q := (8, .lconst 0, 1)) mq_189 ci_189 (List.mem_of_getElem? (i := 6) rfl)
theorem cd_189_9 : mt_cd 189 9 = some (.ldc2_w 552) := mt_cd_of (q := (9, .ldc2_w 552, 3)) mq_189 ci_189 (List.mem_of_getElem? (i := 7) rfl)
theorem cd_189_12 : mt_cd 189 12 = some (.invokestatic 268) := mt_cd_of (q := (12, .invokestatic 268, 3)) mq_189 ci_189 (List.mem_of_getElem? (i := 8) rfl)
theorem cd_189_15 : mt_cd 189 15 = some (.ifCond .ne 7) := mt_cd_of (q := (15, .ifCond .ne 7, 3)) mq_189 ci_189 (List.mem_of_getElem? (i := 9) rfl)
theorem cd_189_18 : mt_cd 189 18 = some (.iconst 1) := mt_cd_of (q := (18, .iconst 1, 1)) mq_189 ci_189 (List.mem_of_getElem? (i := 10) rfl)
theorem cd_189_19 : mt_cd 189 19 = some (.goto 4) := mt_cd_of (q := (19, .goto 4, 3)) mq_189 ci_189 (List.mem_of_getElem? (i := 11) rfl)
theorem cd_189_22 : mt_cd 189 22 = some (.iconst 0) := mt_cd_of (q := (22, .iconst 0, 1)) mq_189 ci_189 (List.mem_of_getElem? (i := 12) rfl)
theorem cd_189_23 : mt_cd 189 23 = some (.iconst 1) := mt_cd_of (q := (23, .iconst 1, 1)) mq_189 ci_189 (List.mem_of_getElem? (i := 13) rfl)
theorem cd_189_24 : mt_cd 189 24 = some (.invokevirtual 254) := mt_cd_of (q := (24, .invokevirtual 254, 3)) mq_189 ci_189 (List.mem_of_getElem? (i := 14) rfl)
theorem cd_189_27 : mt_cd 189 27 = some (.ifCond .ne 44) := mt_cd_of (q := (27, .ifCond .ne 44, 3)) mq_189 ci_189 (List.mem_of_getElem? (i := 15) rfl)
theorem cd_189_30 : mt_cd 189 30 = some (.aload_n 0) := mt_cd_of (q := (30, .aload_n 0, 1)) mq_189 ci_189 (List.mem_of_getElem? (i := 16) rfl)
theorem cd_189_31 : mt_cd 189 31 = some (.iload_n 2) := mt_cd_of (q := (31, .iload_n 2, 1)) mq_189 ci_189 (List.mem_of_getElem? (i := 17) rfl)
theorem cd_189_32 : mt_cd 189 32 = some (.i2l) := mt_cd_of (q := (32, .i2l, 1)) mq_189 ci_189 (List.mem_of_getElem? (i := 18) rfl)
theorem cd_189_33 : mt_cd 189 33 = some (.lconst 0) := mt_cd_of (q := (33, .lconst 0, 1)) mq_189 ci_189 (List.mem_of_getElem? (i := 19) rfl)
theorem cd_189_34 : mt_cd 189 34 = some (.iload_n 1) := mt_cd_of (q := (34, .iload_n 1, 1)) mq_189 ci_189 (List.mem_of_getElem? (i := 20) rfl)
theorem cd_189_35 : mt_cd 189 35 = some (.iconst 2) := mt_cd_of (q := (35, .iconst 2, 1)) mq_189 ci_189 (List.mem_of_getElem? (i := 21) rfl)
theorem cd_189_36 : mt_cd 189 36 = some (.if_icmp .ge 10) := mt_cd_of (q := (36, .if_icmp .ge 10, 3)) mq_189 ci_189 (List.mem_of_getElem? (i := 22) rfl)
theorem cd_189_39 : mt_cd 189 39 = some (.aload_n 0) := mt_cd_of (q := (39, .aload_n 0, 1)) mq_189 ci_189 (List.mem_of_getElem? (i := 23) rfl)
theorem cd_189_40 : mt_cd 189 40 = some (.getfield 536) := mt_cd_of (q := (40, .getfield 536, 3)) mq_189 ci_189 (List.mem_of_getElem? (i := 24) rfl)
theorem cd_189_43 : mt_cd 189 43 = some (.goto 7) := mt_cd_of (q := (43, .goto 7, 3)) mq_189 ci_189 (List.mem_of_getElem? (i := 25) rfl)
theorem cd_189_46 : mt_cd 189 46 = some (.aload_n 0) := mt_cd_of (q := (46, .aload_n 0, 1)) mq_189 ci_189 (List.mem_of_getElem? (i := 26) rfl)
theorem cd_189_47 : mt_cd 189 47 = some (.getfield 539) := mt_cd_of (q := (47, .getfield 539, 3)) mq_189 ci_189 (List.mem_of_getElem? (i := 27) rfl)
theorem cd_189_50 : mt_cd 189 50 = some (.iconst 1) := mt_cd_of (q := (50, .iconst 1, 1)) mq_189 ci_189 (List.mem_of_getElem? (i := 28) rfl)
theorem cd_189_51 : mt_cd 189 51 = some (.isub) := mt_cd_of (q := (51, .isub, 1)) mq_189 ci_189 (List.mem_of_getElem? (i := 29) rfl)
theorem cd_189_52 : mt_cd 189 52 = some (.i2l) := mt_cd_of (q := (52, .i2l, 1)) mq_189 ci_189 (List.mem_of_getElem? (i := 30) rfl)
theorem cd_189_53 : mt_cd 189 53 = some (.invokestatic 268) := mt_cd_of (q := (53, .invokestatic 268, 3)) mq_189 ci_189 (List.mem_of_getElem? (i := 31) rfl)
theorem cd_189_56 : mt_cd 189 56 = some (.ifCond .ne 7) := mt_cd_of (q := (56, .ifCond .ne 7, 3)) mq_189 ci_189 (List.mem_of_getElem? (i := 32) rfl)
theorem cd_189_59 : mt_cd 189 59 = some (.iconst 1) := mt_cd_of (q := (59, .iconst 1, 1)) mq_189 ci_189 (List.mem_of_getElem? (i := 33) rfl)
theorem cd_189_60 : mt_cd 189 60 = some (.goto 4) := mt_cd_of (q := (60, .goto 4, 3)) mq_189 ci_189 (List.mem_of_getElem? (i := 34) rfl)
theorem cd_189_63 : mt_cd 189 63 = some (.iconst 0) := mt_cd_of (q := (63, .iconst 0, 1)) mq_189 ci_189 (List.mem_of_getElem? (i := 35) rfl)
theorem cd_189_64 : mt_cd 189 64 = some (.iconst 2) := mt_cd_of (q := (64, .iconst 2, 1)) mq_189 ci_189 (List.mem_of_getElem? (i := 36) rfl)
theorem cd_189_65 : mt_cd 189 65 = some (.invokevirtual 254) := mt_cd_of (q := (65, .invokevirtual 254, 3)) mq_189 ci_189 (List.mem_of_getElem? (i := 37) rfl)
theorem cd_189_68 : mt_cd 189 68 = some (.ifCond .eq 5) := mt_cd_of (q := (68, .ifCond .eq 5, 3)) mq_189 ci_189 (List.mem_of_getElem? (i := 38) rfl)
theorem cd_189_71 : mt_cd 189 71 = some (.iconst 0) := mt_cd_of (q := (71, .iconst 0, 1)) mq_189 ci_189 (List.mem_of_getElem? (i := 39) rfl)
theorem cd_189_72 : mt_cd 189 72 = some (.ireturn) := mt_cd_of (q := (72, .ireturn, 1)) mq_189 ci_189 (List.mem_of_getElem? (i := 40) rfl)
theorem cd_189_73 : mt_cd 189 73 = some (.iload_n 1) := mt_cd_of (q := (73, .iload_n 1, 1)) mq_189 ci_189 (List.mem_of_getElem? (i := 41) rfl)
theorem cd_189_74 : mt_cd 189 74 = some (.ifCond .ne 12) := mt_cd_of (q := (74, .ifCond .ne 12, 3)) mq_189 ci_189 (List.mem_of_getElem? (i := 42) rfl)
theorem cd_189_77 : mt_cd 189 77 = some (.aload_n 0) := mt_cd_of (q := (77, .aload_n 0, 1)) mq_189 ci_189 (List.mem_of_getElem? (i := 43) rfl)
theorem cd_189_78 : mt_cd 189 78 = some (.getfield 193) := mt_cd_of (q := (78, .getfield 193, 3)) mq_189 ci_189 (List.mem_of_getElem? (i := 44) rfl)
theorem cd_189_81 : mt_cd 189 81 = some (.iload_n 2) := mt_cd_of (q := (81, .iload_n 2, 1)) mq_189 ci_189 (List.mem_of_getElem? (i := 45) rfl)
theorem cd_189_82 : mt_cd 189 82 = some (.iaload) := mt_cd_of (q := (82, .iaload, 1)) mq_189 ci_189 (List.mem_of_getElem? (i := 46) rfl)
theorem cd_189_83 : mt_cd 189 83 = some (.goto 51) := mt_cd_of (q := (83, .goto 51, 3)) mq_189 ci_189 (List.mem_of_getElem? (i := 47) rfl)
theorem cd_189_86 : mt_cd 189 86 = some (.iload_n 1) := mt_cd_of (q := (86, .iload_n 1, 1)) mq_189 ci_189 (List.mem_of_getElem? (i := 48) rfl)
theorem cd_189_87 : mt_cd 189 87 = some (.iconst 1) := mt_cd_of (q := (87, .iconst 1, 1)) mq_189 ci_189 (List.mem_of_getElem? (i := 49) rfl)
theorem cd_189_88 : mt_cd 189 88 = some (.if_icmp .ne 12) := mt_cd_of (q := (88, .if_icmp .ne 12, 3)) mq_189 ci_189 (List.mem_of_getElem? (i := 50) rfl)
theorem cd_189_91 : mt_cd 189 91 = some (.aload_n 0) := mt_cd_of (q := (91, .aload_n 0, 1)) mq_189 ci_189 (List.mem_of_getElem? (i := 51) rfl)
theorem cd_189_92 : mt_cd 189 92 = some (.getfield 196) := mt_cd_of (q := (92, .getfield 196, 3)) mq_189 ci_189 (List.mem_of_getElem? (i := 52) rfl)
theorem cd_189_95 : mt_cd 189 95 = some (.iload_n 2) := mt_cd_of (q := (95, .iload_n 2, 1)) mq_189 ci_189 (List.mem_of_getElem? (i := 53) rfl)
theorem cd_189_96 : mt_cd 189 96 = some (.iaload) := mt_cd_of (q := (96, .iaload, 1)) mq_189 ci_189 (List.mem_of_getElem? (i := 54) rfl)
theorem cd_189_97 : mt_cd 189 97 = some (.goto 37) := mt_cd_of (q := (97, .goto 37, 3)) mq_189 ci_189 (List.mem_of_getElem? (i := 55) rfl)
theorem cd_189_100 : mt_cd 189 100 = some (.iload_n 1) := mt_cd_of (q := (100, .iload_n 1, 1)) mq_189 ci_189 (List.mem_of_getElem? (i := 56) rfl)
theorem cd_189_101 : mt_cd 189 101 = some (.iconst 2) := mt_cd_of (q := (101, .iconst 2, 1)) mq_189 ci_189 (List.mem_of_getElem? (i := 57) rfl)
theorem cd_189_102 : mt_cd 189 102 = some (.if_icmp .ne 12) := mt_cd_of (q := (102, .if_icmp .ne 12, 3)) mq_189 ci_189 (List.mem_of_getElem? (i := 58) rfl)
theorem cd_189_105 : mt_cd 189 105 = some (.aload_n 0) := mt_cd_of (q := (105, .aload_n 0, 1)) mq_189 ci_189 (List.mem_of_getElem? (i := 59) rfl)
theorem cd_189_106 : mt_cd 189 106 = some (.getfield 199) := mt_cd_of (q := (106, .getfield 199, 3)) mq_189 ci_189 (List.mem_of_getElem? (i := 60) rfl)
theorem cd_189_109 : mt_cd 189 109 = some (.iload_n 2) := mt_cd_of (q := (109, .iload_n 2, 1)) mq_189 ci_189 (List.mem_of_getElem? (i := 61) rfl)
theorem cd_189_110 : mt_cd 189 110 = some (.iaload) := mt_cd_of (q := (110, .iaload, 1)) mq_189 ci_189 (List.mem_of_getElem? (i := 62) rfl)
theorem cd_189_111 : mt_cd 189 111 = some (.goto 23) := mt_cd_of (q := (111, .goto 23, 3)) mq_189 ci_189 (List.mem_of_getElem? (i := 63) rfl)
theorem cd_189_114 : mt_cd 189 114 = some (.iload_n 1) := mt_cd_of (q := (114, .iload_n 1, 1)) mq_189 ci_189 (List.mem_of_getElem? (i := 64) rfl)
theorem cd_189_115 : mt_cd 189 115 = some (.iconst 3) := mt_cd_of (q := (115, .iconst 3, 1)) mq_189 ci_189 (List.mem_of_getElem? (i := 65) rfl)
theorem cd_189_116 : mt_cd 189 116 = some (.if_icmp .ne 12) := mt_cd_of (q := (116, .if_icmp .ne 12, 3)) mq_189 ci_189 (List.mem_of_getElem? (i := 66) rfl)
theorem cd_189_119 : mt_cd 189 119 = some (.aload_n 0) := mt_cd_of (q := (119, .aload_n 0, 1)) mq_189 ci_189 (List.mem_of_getElem? (i := 67) rfl)
theorem cd_189_120 : mt_cd 189 120 = some (.getfield 202) := mt_cd_of (q := (120, .getfield 202, 3)) mq_189 ci_189 (List.mem_of_getElem? (i := 68) rfl)
theorem cd_189_123 : mt_cd 189 123 = some (.iload_n 2) := mt_cd_of (q := (123, .iload_n 2, 1)) mq_189 ci_189 (List.mem_of_getElem? (i := 69) rfl)
theorem cd_189_124 : mt_cd 189 124 = some (.iaload) := mt_cd_of (q := (124, .iaload, 1)) mq_189 ci_189 (List.mem_of_getElem? (i := 70) rfl)
theorem cd_189_125 : mt_cd 189 125 = some (.goto 9) := mt_cd_of (q := (125, .goto 9, 3)) mq_189 ci_189 (List.mem_of_getElem? (i := 71) rfl)
theorem cd_189_128 : mt_cd 189 128 = some (.aload_n 0) := mt_cd_of (q := (128, .aload_n 0, 1)) mq_189 ci_189 (List.mem_of_getElem? (i := 72) rfl)
theorem cd_189_129 : mt_cd 189 129 = some (.getfield 205) := mt_cd_of (q := (129, .getfield 205, 3)) mq_189 ci_189 (List.mem_of_getElem? (i := 73) rfl)
theorem cd_189_132 : mt_cd 189 132 = some (.iload_n 2) := mt_cd_of (q := (132, .iload_n 2, 1)) mq_189 ci_189 (List.mem_of_getElem? (i := 74) rfl)
theorem cd_189_133 : mt_cd 189 133 = some (.iaload) := mt_cd_of (q := (133, .iaload, 1)) mq_189 ci_189 (List.mem_of_getElem? (i := 75) rfl)
theorem cd_189_134 : mt_cd 189 134 = some (.ireturn) := mt_cd_of (q := (134, .ireturn, 1)) mq_189 ci_189 (List.mem_of_getElem? (i := 76) rfl)
theorem b_189_0 {d : Nat} {Q : (Option Value ⊕ Nat) → mi_H → Prop} (n sl : Nat) (f : Nat → mi_C) {l1 : Nat} {l2 : Int32} {l3 : Int32} {fs4 : List Value} (h5 : f l1 = .inr (12, fs4)) (h6 : l1 < n) (h7 : 0 < fs4.length) (h8 : mi_W d 140 0 (mi_en 6 [.long ((l2 : Int32).toInt64), .long 0, .long 4]) [] (n, sl, (va_up f l1 (.inr (12, fs4.set 0 (.int 0))))) (mi_Kc d 189 12 [some (.ref l1), some (.int l2), some (.int l3)] [.ref l1] Q)) : mi_W (d + 1) 189 0 [some (.ref l1), some (.int l2), some (.int l3)] [] (n, sl, f) Q := by
  refine w_aload_n cd_189_0 rfl ?_
  refine w_iconst (v := 0) cd_189_1 (by decide) ?_
  refine w_putfield (w := .int 0) cd_189_2 (show mt_f 12 248 = some (12, 0) by decide +kernel) h5 h6 ⟨h7, rfl, Or.inl (by decide)⟩ ?_
  refine w_aload_n cd_189_5 rfl ?_
  refine w_iload_n cd_189_6 rfl ?_
  refine w_i2l cd_189_7 ?_
  refine w_lconst (lv := 0) cd_189_8 (by decide) ?_
  refine w_ldc2_w (lv := 4) cd_189_9 (by decide +kernel) ?_
  exact w_invokestatic cd_189_12 (show mt_m 12 268 = some (140, 4) by decide +kernel) (by decide) (rest := [.ref l1]) rfl (as := [.long ((l2 : Int32).toInt64), .long 0, .long 4]) rfl ⟨Nat.le_of_ble_eq_true rfl, Nat.le_of_ble_eq_true rfl, Nat.le_of_ble_eq_true rfl⟩ h8
theorem b_189_15 {d : Nat} {Q : (Option Value ⊕ Nat) → mi_H → Prop} (n sl : Nat) (f : Nat → mi_C) {l1 : Nat} {l2 : Int32} {l3 : Int32} {s4 : Int32} {s5 : Nat} (h6 : ¬ s4 = (0 : Int32) → mi_W d 189 22 [some (.ref l1), some (.int l2), some (.int l3)] [.ref s5] (n, sl, f) Q) (h7 : ¬ (¬ s4 = (0 : Int32)) → mi_W d 189 18 [some (.ref l1), some (.int l2), some (.int l3)] [.ref s5] (n, sl, f) Q) : mi_W d 189 15 [some (.ref l1), some (.int l2), some (.int l3)] [.int s4, .ref s5] (n, sl, f) Q := by
  exact w_ifne cd_189_15 (by decide) h6 h7
theorem b_189_18 {d : Nat} {Q : (Option Value ⊕ Nat) → mi_H → Prop} (n sl : Nat) (f : Nat → mi_C) {l1 : Nat} {l2 : Int32} {l3 : Int32} {s4 : Nat} (h5 : mi_W d 189 23 [some (.ref l1), some (.int l2), some (.int l3)] [.int 1, .ref s4] (n, sl, f) Q) : mi_W d 189 18 [some (.ref l1), some (.int l2), some (.int l3)] [.ref s4] (n, sl, f) Q := by
  refine w_iconst (v := 1) cd_189_18 (by decide) ?_
  exact w_goto cd_189_19 (by decide) h5
theorem b_189_22 {d : Nat} {Q : (Option Value ⊕ Nat) → mi_H → Prop} (n sl : Nat) (f : Nat → mi_C) {l1 : Nat} {l2 : Int32} {l3 : Int32} {s4 : Nat} (h5 : mi_W d 189 23 [some (.ref l1), some (.int l2), some (.int l3)] [.int 0, .ref s4] (n, sl, f) Q) : mi_W d 189 22 [some (.ref l1), some (.int l2), some (.int l3)] [.ref s4] (n, sl, f) Q := by
  refine w_iconst (v := 0) cd_189_22 (by decide) ?_
  exact h5
theorem b_189_23 {d : Nat} {Q : (Option Value ⊕ Nat) → mi_H → Prop} (n sl : Nat) (f : Nat → mi_C) {l1 : Nat} {l2 : Int32} {l3 : Int32} {s4 : Int32} {s5 : Nat} {fs6 : List Value} (h7 : f s5 = .inr (12, fs6)) (h8 : s5 < n) (h9 : mi_W d 138 0 (mi_en 3 [.ref s5, .int s4, .int 1]) [] (n, sl, f) (mi_Kc d 189 24 [some (.ref l1), some (.int l2), some (.int l3)] [] Q)) : mi_W (d + 1) 189 23 [some (.ref l1), some (.int l2), some (.int l3)] [.int s4, .ref s5] (n, sl, f) Q := by
  refine w_iconst (v := 1) cd_189_23 (by decide) ?_
  exact w_invokevirtual cd_189_24 (show mt_m 12 254 = some (138, 0) by decide +kernel) (rest := []) rfl (as := [.ref s5, .int s4, .int 1]) rfl h7 (Or.inl h8) ⟨Nat.le_of_ble_eq_true rfl, Nat.le_of_ble_eq_true rfl, Nat.le_of_ble_eq_true rfl⟩ h9
theorem b_189_27 {d : Nat} {Q : (Option Value ⊕ Nat) → mi_H → Prop} (n sl : Nat) (f : Nat → mi_C) {l1 : Nat} {l2 : Int32} {l3 : Int32} {s4 : Int32} (h5 : ¬ s4 = (0 : Int32) → mi_W d 189 71 [some (.ref l1), some (.int l2), some (.int l3)] [] (n, sl, f) Q) (h6 : ¬ (¬ s4 = (0 : Int32)) → mi_W d 189 30 [some (.ref l1), some (.int l2), some (.int l3)] [] (n, sl, f) Q) : mi_W d 189 27 [some (.ref l1), some (.int l2), some (.int l3)] [.int s4] (n, sl, f) Q := by
  exact w_ifne cd_189_27 (by decide) h5 h6
theorem b_189_30 {d : Nat} {Q : (Option Value ⊕ Nat) → mi_H → Prop} (n sl : Nat) (f : Nat → mi_C) {l1 : Nat} {l2 : Int32} {l3 : Int32} (h4 : 2 ≤ l2 → mi_W d 189 46 [some (.ref l1), some (.int l2), some (.int l3)] [.long 0, .long ((l3 : Int32).toInt64), .ref l1] (n, sl, f) Q) (h5 : ¬ (2 ≤ l2) → mi_W d 189 39 [some (.ref l1), some (.int l2), some (.int l3)] [.long 0, .long ((l3 : Int32).toInt64), .ref l1] (n, sl, f) Q) : mi_W d 189 30 [some (.ref l1), some (.int l2), some (.int l3)] [] (n, sl, f) Q := by
  refine w_aload_n cd_189_30 rfl ?_
  refine w_iload_n cd_189_31 rfl ?_
  refine w_i2l cd_189_32 ?_
  refine w_lconst (lv := 0) cd_189_33 (by decide) ?_
  refine w_iload_n cd_189_34 rfl ?_
  refine w_iconst (v := 2) cd_189_35 (by decide) ?_
  exact w_if_icmpge cd_189_36 (by decide) h4 h5
theorem b_189_39 {d : Nat} {Q : (Option Value ⊕ Nat) → mi_H → Prop} (n sl : Nat) (f : Nat → mi_C) {l1 : Nat} {l2 : Int32} {l3 : Int32} {s4 : Int64} {s5 : Int64} {s6 : Nat} {fs7 : List Value} {x10 : Int32} (h8 : f l1 = .inr (12, fs7)) (h9 : l1 < n) (h11 : fs7[65]? = some (.int x10)) (h12 : mi_W d 189 50 [some (.ref l1), some (.int l2), some (.int l3)] [.int x10, .long s4, .long s5, .ref s6] (n, sl, f) Q) : mi_W d 189 39 [some (.ref l1), some (.int l2), some (.int l3)] [.long s4, .long s5, .ref s6] (n, sl, f) Q := by
  refine w_aload_n cd_189_39 rfl ?_
  refine w_getfield cd_189_40 (show mt_f 12 536 = some (12, 65) by decide +kernel) h8 h9 h11 ?_
  exact w_goto cd_189_43 (by decide) h12
theorem b_189_46 {d : Nat} {Q : (Option Value ⊕ Nat) → mi_H → Prop} (n sl : Nat) (f : Nat → mi_C) {l1 : Nat} {l2 : Int32} {l3 : Int32} {s4 : Int64} {s5 : Int64} {s6 : Nat} {fs7 : List Value} {x10 : Int32} (h8 : f l1 = .inr (12, fs7)) (h9 : l1 < n) (h11 : fs7[66]? = some (.int x10)) (h12 : mi_W d 189 50 [some (.ref l1), some (.int l2), some (.int l3)] [.int x10, .long s4, .long s5, .ref s6] (n, sl, f) Q) : mi_W d 189 46 [some (.ref l1), some (.int l2), some (.int l3)] [.long s4, .long s5, .ref s6] (n, sl, f) Q := by
  refine w_aload_n cd_189_46 rfl ?_
  refine w_getfield cd_189_47 (show mt_f 12 539 = some (12, 66) by decide +kernel) h8 h9 h11 ?_
  exact h12
theorem b_189_50 {d : Nat} {Q : (Option Value ⊕ Nat) → mi_H → Prop} (n sl : Nat) (f : Nat → mi_C) {l1 : Nat} {l2 : Int32} {l3 : Int32} {s4 : Int32} {s5 : Int64} {s6 : Int64} {s7 : Nat} (h8 : mi_W d 140 0 (mi_en 6 [.long s6, .long s5, .long (((s4 - 1) : Int32).toInt64)]) [] (n, sl, f) (mi_Kc d 189 53 [some (.ref l1), some (.int l2), some (.int l3)] [.ref s7] Q)) : mi_W (d + 1) 189 50 [some (.ref l1), some (.int l2), some (.int l3)] [.int s4, .long s5, .long s6, .ref s7] (n, sl, f) Q := by
  refine w_iconst (v := 1) cd_189_50 (by decide) ?_
  refine w_isub cd_189_51 ?_
  refine w_i2l cd_189_52 ?_
  exact w_invokestatic cd_189_53 (show mt_m 12 268 = some (140, 4) by decide +kernel) (by decide) (rest := [.ref s7]) rfl (as := [.long s6, .long s5, .long (((s4 - 1) : Int32).toInt64)]) rfl ⟨Nat.le_of_ble_eq_true rfl, Nat.le_of_ble_eq_true rfl, Nat.le_of_ble_eq_true rfl⟩ h8
theorem b_189_56 {d : Nat} {Q : (Option Value ⊕ Nat) → mi_H → Prop} (n sl : Nat) (f : Nat → mi_C) {l1 : Nat} {l2 : Int32} {l3 : Int32} {s4 : Int32} {s5 : Nat} (h6 : ¬ s4 = (0 : Int32) → mi_W d 189 63 [some (.ref l1), some (.int l2), some (.int l3)] [.ref s5] (n, sl, f) Q) (h7 : ¬ (¬ s4 = (0 : Int32)) → mi_W d 189 59 [some (.ref l1), some (.int l2), some (.int l3)] [.ref s5] (n, sl, f) Q) : mi_W d 189 56 [some (.ref l1), some (.int l2), some (.int l3)] [.int s4, .ref s5] (n, sl, f) Q := by
  exact w_ifne cd_189_56 (by decide) h6 h7
theorem b_189_59 {d : Nat} {Q : (Option Value ⊕ Nat) → mi_H → Prop} (n sl : Nat) (f : Nat → mi_C) {l1 : Nat} {l2 : Int32} {l3 : Int32} {s4 : Nat} (h5 : mi_W d 189 64 [some (.ref l1), some (.int l2), some (.int l3)] [.int 1, .ref s4] (n, sl, f) Q) : mi_W d 189 59 [some (.ref l1), some (.int l2), some (.int l3)] [.ref s4] (n, sl, f) Q := by
  refine w_iconst (v := 1) cd_189_59 (by decide) ?_
  exact w_goto cd_189_60 (by decide) h5
theorem b_189_63 {d : Nat} {Q : (Option Value ⊕ Nat) → mi_H → Prop} (n sl : Nat) (f : Nat → mi_C) {l1 : Nat} {l2 : Int32} {l3 : Int32} {s4 : Nat} (h5 : mi_W d 189 64 [some (.ref l1), some (.int l2), some (.int l3)] [.int 0, .ref s4] (n, sl, f) Q) : mi_W d 189 63 [some (.ref l1), some (.int l2), some (.int l3)] [.ref s4] (n, sl, f) Q := by
  refine w_iconst (v := 0) cd_189_63 (by decide) ?_
  exact h5
theorem b_189_64 {d : Nat} {Q : (Option Value ⊕ Nat) → mi_H → Prop} (n sl : Nat) (f : Nat → mi_C) {l1 : Nat} {l2 : Int32} {l3 : Int32} {s4 : Int32} {s5 : Nat} {fs6 : List Value} (h7 : f s5 = .inr (12, fs6)) (h8 : s5 < n) (h9 : mi_W d 138 0 (mi_en 3 [.ref s5, .int s4, .int 2]) [] (n, sl, f) (mi_Kc d 189 65 [some (.ref l1), some (.int l2), some (.int l3)] [] Q)) : mi_W (d + 1) 189 64 [some (.ref l1), some (.int l2), some (.int l3)] [.int s4, .ref s5] (n, sl, f) Q := by
  refine w_iconst (v := 2) cd_189_64 (by decide) ?_
  exact w_invokevirtual cd_189_65 (show mt_m 12 254 = some (138, 0) by decide +kernel) (rest := []) rfl (as := [.ref s5, .int s4, .int 2]) rfl h7 (Or.inl h8) ⟨Nat.le_of_ble_eq_true rfl, Nat.le_of_ble_eq_true rfl, Nat.le_of_ble_eq_true rfl⟩ h9
theorem b_189_68 {d : Nat} {Q : (Option Value ⊕ Nat) → mi_H → Prop} (n sl : Nat) (f : Nat → mi_C) {l1 : Nat} {l2 : Int32} {l3 : Int32} {s4 : Int32} (h5 : s4 = (0 : Int32) → mi_W d 189 73 [some (.ref l1), some (.int l2), some (.int l3)] [] (n, sl, f) Q) (h6 : ¬ (s4 = (0 : Int32)) → mi_W d 189 71 [some (.ref l1), some (.int l2), some (.int l3)] [] (n, sl, f) Q) : mi_W d 189 68 [some (.ref l1), some (.int l2), some (.int l3)] [.int s4] (n, sl, f) Q := by
  exact w_ifeq cd_189_68 (by decide) h5 h6
theorem b_189_71 {d : Nat} {Q : (Option Value ⊕ Nat) → mi_H → Prop} (n sl : Nat) (f : Nat → mi_C) {l1 : Nat} {l2 : Int32} {l3 : Int32} (h4 : Q (.inl (some (.int 0))) (n, sl, f)) : mi_W d 189 71 [some (.ref l1), some (.int l2), some (.int l3)] [] (n, sl, f) Q := by
  refine w_iconst (v := 0) cd_189_71 (by decide) ?_
  exact w_ireturn_i cd_189_72 (by decide +kernel) h4
theorem b_189_73 {d : Nat} {Q : (Option Value ⊕ Nat) → mi_H → Prop} (n sl : Nat) (f : Nat → mi_C) {l1 : Nat} {l2 : Int32} {l3 : Int32} (h4 : ¬ l2 = (0 : Int32) → mi_W d 189 86 [some (.ref l1), some (.int l2), some (.int l3)] [] (n, sl, f) Q) (h5 : ¬ (¬ l2 = (0 : Int32)) → mi_W d 189 77 [some (.ref l1), some (.int l2), some (.int l3)] [] (n, sl, f) Q) : mi_W d 189 73 [some (.ref l1), some (.int l2), some (.int l3)] [] (n, sl, f) Q := by
  refine w_iload_n cd_189_73 rfl ?_
  exact w_ifne cd_189_74 (by decide) h4 h5
theorem b_189_77 {d : Nat} {Q : (Option Value ⊕ Nat) → mi_H → Prop} (n sl : Nat) (f : Nat → mi_C) {l1 : Nat} {l2 : Int32} {l3 : Int32} {fs4 : List Value} {x7 : Nat} (m9 i9 : Nat) (g9 : Nat → Int32) (h5 : f l1 = .inr (12, fs4)) (h6 : l1 < n) (h8 : fs4[67]? = some (.ref x7)) (h10 : f x7 = .inl (0, m9, .inl g9)) (h11 : x7 < n ∨ x7 = mi_SC) (h12 : mi_ix l3 m9 i9) (h13 : mi_W d 189 134 [some (.ref l1), some (.int l2), some (.int l3)] [.int (g9 i9)] (n, sl, f) Q) : mi_W d 189 77 [some (.ref l1), some (.int l2), some (.int l3)] [] (n, sl, f) Q := by
  refine w_aload_n cd_189_77 rfl ?_
  refine w_getfield cd_189_78 (show mt_f 12 193 = some (12, 67) by decide +kernel) h5 h6 h8 ?_
  refine w_iload_n cd_189_81 rfl ?_
  refine w_iaload cd_189_82 h10 h11 h12 ?_
  exact w_goto cd_189_83 (by decide) h13
theorem b_189_86 {d : Nat} {Q : (Option Value ⊕ Nat) → mi_H → Prop} (n sl : Nat) (f : Nat → mi_C) {l1 : Nat} {l2 : Int32} {l3 : Int32} (h4 : ¬ l2 = 1 → mi_W d 189 100 [some (.ref l1), some (.int l2), some (.int l3)] [] (n, sl, f) Q) (h5 : ¬ (¬ l2 = 1) → mi_W d 189 91 [some (.ref l1), some (.int l2), some (.int l3)] [] (n, sl, f) Q) : mi_W d 189 86 [some (.ref l1), some (.int l2), some (.int l3)] [] (n, sl, f) Q := by
  refine w_iload_n cd_189_86 rfl ?_
  refine w_iconst (v := 1) cd_189_87 (by decide) ?_
  exact w_if_icmpne cd_189_88 (by decide) h4 h5
theorem b_189_91 {d : Nat} {Q : (Option Value ⊕ Nat) → mi_H → Prop} (n sl : Nat) (f : Nat → mi_C) {l1 : Nat} {l2 : Int32} {l3 : Int32} {fs4 : List Value} {x7 : Nat} (m9 i9 : Nat) (g9 : Nat → Int32) (h5 : f l1 = .inr (12, fs4)) (h6 : l1 < n) (h8 : fs4[68]? = some (.ref x7)) (h10 : f x7 = .inl (0, m9, .inl g9)) (h11 : x7 < n ∨ x7 = mi_SC) (h12 : mi_ix l3 m9 i9) (h13 : mi_W d 189 134 [some (.ref l1), some (.int l2), some (.int l3)] [.int (g9 i9)] (n, sl, f) Q) : mi_W d 189 91 [some (.ref l1), some (.int l2), some (.int l3)] [] (n, sl, f) Q := by
  refine w_aload_n cd_189_91 rfl ?_
  refine w_getfield cd_189_92 (show mt_f 12 196 = some (12, 68) by decide +kernel) h5 h6 h8 ?_
  refine w_iload_n cd_189_95 rfl ?_
  refine w_iaload cd_189_96 h10 h11 h12 ?_
  exact w_goto cd_189_97 (by decide) h13
theorem b_189_100 {d : Nat} {Q : (Option Value ⊕ Nat) → mi_H → Prop} (n sl : Nat) (f : Nat → mi_C) {l1 : Nat} {l2 : Int32} {l3 : Int32} (h4 : ¬ l2 = 2 → mi_W d 189 114 [some (.ref l1), some (.int l2), some (.int l3)] [] (n, sl, f) Q) (h5 : ¬ (¬ l2 = 2) → mi_W d 189 105 [some (.ref l1), some (.int l2), some (.int l3)] [] (n, sl, f) Q) : mi_W d 189 100 [some (.ref l1), some (.int l2), some (.int l3)] [] (n, sl, f) Q := by
  refine w_iload_n cd_189_100 rfl ?_
  refine w_iconst (v := 2) cd_189_101 (by decide) ?_
  exact w_if_icmpne cd_189_102 (by decide) h4 h5
theorem b_189_105 {d : Nat} {Q : (Option Value ⊕ Nat) → mi_H → Prop} (n sl : Nat) (f : Nat → mi_C) {l1 : Nat} {l2 : Int32} {l3 : Int32} {fs4 : List Value} {x7 : Nat} (m9 i9 : Nat) (g9 : Nat → Int32) (h5 : f l1 = .inr (12, fs4)) (h6 : l1 < n) (h8 : fs4[69]? = some (.ref x7)) (h10 : f x7 = .inl (0, m9, .inl g9)) (h11 : x7 < n ∨ x7 = mi_SC) (h12 : mi_ix l3 m9 i9) (h13 : mi_W d 189 134 [some (.ref l1), some (.int l2), some (.int l3)] [.int (g9 i9)] (n, sl, f) Q) : mi_W d 189 105 [some (.ref l1), some (.int l2), some (.int l3)] [] (n, sl, f) Q := by
  refine w_aload_n cd_189_105 rfl ?_
  refine w_getfield cd_189_106 (show mt_f 12 199 = some (12, 69) by decide +kernel) h5 h6 h8 ?_
  refine w_iload_n cd_189_109 rfl ?_
  refine w_iaload cd_189_110 h10 h11 h12 ?_
  exact w_goto cd_189_111 (by decide) h13
theorem b_189_114 {d : Nat} {Q : (Option Value ⊕ Nat) → mi_H → Prop} (n sl : Nat) (f : Nat → mi_C) {l1 : Nat} {l2 : Int32} {l3 : Int32} (h4 : ¬ l2 = 3 → mi_W d 189 128 [some (.ref l1), some (.int l2), some (.int l3)] [] (n, sl, f) Q) (h5 : ¬ (¬ l2 = 3) → mi_W d 189 119 [some (.ref l1), some (.int l2), some (.int l3)] [] (n, sl, f) Q) : mi_W d 189 114 [some (.ref l1), some (.int l2), some (.int l3)] [] (n, sl, f) Q := by
  refine w_iload_n cd_189_114 rfl ?_
  refine w_iconst (v := 3) cd_189_115 (by decide) ?_
  exact w_if_icmpne cd_189_116 (by decide) h4 h5
theorem b_189_119 {d : Nat} {Q : (Option Value ⊕ Nat) → mi_H → Prop} (n sl : Nat) (f : Nat → mi_C) {l1 : Nat} {l2 : Int32} {l3 : Int32} {fs4 : List Value} {x7 : Nat} (m9 i9 : Nat) (g9 : Nat → Int32) (h5 : f l1 = .inr (12, fs4)) (h6 : l1 < n) (h8 : fs4[70]? = some (.ref x7)) (h10 : f x7 = .inl (0, m9, .inl g9)) (h11 : x7 < n ∨ x7 = mi_SC) (h12 : mi_ix l3 m9 i9) (h13 : mi_W d 189 134 [some (.ref l1), some (.int l2), some (.int l3)] [.int (g9 i9)] (n, sl, f) Q) : mi_W d 189 119 [some (.ref l1), some (.int l2), some (.int l3)] [] (n, sl, f) Q := by
  refine w_aload_n cd_189_119 rfl ?_
  refine w_getfield cd_189_120 (show mt_f 12 202 = some (12, 70) by decide +kernel) h5 h6 h8 ?_
  refine w_iload_n cd_189_123 rfl ?_
  refine w_iaload cd_189_124 h10 h11 h12 ?_
  exact w_goto cd_189_125 (by decide) h13
theorem b_189_128 {d : Nat} {Q : (Option Value ⊕ Nat) → mi_H → Prop} (n sl : Nat) (f : Nat → mi_C) {l1 : Nat} {l2 : Int32} {l3 : Int32} {fs4 : List Value} {x7 : Nat} (m9 i9 : Nat) (g9 : Nat → Int32) (h5 : f l1 = .inr (12, fs4)) (h6 : l1 < n) (h8 : fs4[71]? = some (.ref x7)) (h10 : f x7 = .inl (0, m9, .inl g9)) (h11 : x7 < n ∨ x7 = mi_SC) (h12 : mi_ix l3 m9 i9) (h13 : mi_W d 189 134 [some (.ref l1), some (.int l2), some (.int l3)] [.int (g9 i9)] (n, sl, f) Q) : mi_W d 189 128 [some (.ref l1), some (.int l2), some (.int l3)] [] (n, sl, f) Q := by
  refine w_aload_n cd_189_128 rfl ?_
  refine w_getfield cd_189_129 (show mt_f 12 205 = some (12, 71) by decide +kernel) h5 h6 h8 ?_
  refine w_iload_n cd_189_132 rfl ?_
  refine w_iaload cd_189_133 h10 h11 h12 ?_
  exact h13
theorem b_189_134 {d : Nat} {Q : (Option Value ⊕ Nat) → mi_H → Prop} (n sl : Nat) (f : Nat → mi_C) {l1 : Nat} {l2 : Int32} {l3 : Int32} {s4 : Int32} (h5 : Q (.inl (some (.int s4))) (n, sl, f)) : mi_W d 189 134 [some (.ref l1), some (.int l2), some (.int l3)] [.int s4] (n, sl, f) Q := by
  exact w_ireturn_i cd_189_134 (by decide +kernel) h5
/-! MarloweHostModel.paid(I)J -/
set_option maxRecDepth 100000 in
theorem mq_190 : mt_q 190 = my_190 := rfl
set_option maxRecDepth 100000 in
theorem ci_190 : mt_inc 0 my_190.cd = true := by decide +kernel
theorem cd_190_0 : mt_cd 190 0 = some (.aload_n 0) := mt_cd_of (q := (0, .aload_n 0, 1)) mq_190 ci_190 (List.mem_of_getElem? (i := 0) rfl)
theorem cd_190_1 : mt_cd 190 1 = some (.iconst 0) := mt_cd_of (q := (1, .iconst 0, 1)) mq_190 ci_190 (List.mem_of_getElem? (i := 1) rfl)
theorem cd_190_2 : mt_cd 190 2 = some (.putfield 248) := mt_cd_of (q := (2, .putfield 248, 3)) mq_190 ci_190 (List.mem_of_getElem? (i := 2) rfl)
theorem cd_190_5 : mt_cd 190 5 = some (.aload_n 0) := mt_cd_of (q := (5, .aload_n 0, 1)) mq_190 ci_190 (List.mem_of_getElem? (i := 3) rfl)
theorem cd_190_6 : mt_cd 190 6 = some (.iload_n 1) := mt_cd_of (q := (6, .iload_n 1, 1)) mq_190 ci_190 (List.mem_of_getElem? (i := 4) rfl)
theorem cd_190_7 : mt_cd 190 7 = some (.i2l) := mt_cd_of (q := (7, .i2l, 1)) mq_190 ci_190 (List.mem_of_getElem? (i := 5) rfl)
theorem cd_190_8 : mt_cd 190 8 = some (.lconst 0) := mt_cd_of (q := (8, .lconst 0, 1)) mq_190 ci_190 (List.mem_of_getElem? (i := 6) rfl)
theorem cd_190_9 : mt_cd 190 9 = some (.aload_n 0) := mt_cd_of (q := (9, .aload_n 0, 1)) mq_190 ci_190 (List.mem_of_getElem? (i := 7) rfl)
theorem cd_190_10 : mt_cd 190 10 = some (.getfield 539) := mt_cd_of (q := (10, .getfield 539, 3)) mq_190 ci_190 (List.mem_of_getElem? (i := 8) rfl)
theorem cd_190_13 : mt_cd 190 13 = some (.iconst 1) := mt_cd_of (q := (13, .iconst 1, 1)) mq_190 ci_190 (List.mem_of_getElem? (i := 9) rfl)
theorem cd_190_14 : mt_cd 190 14 = some (.isub) := mt_cd_of (q := (14, .isub, 1)) mq_190 ci_190 (List.mem_of_getElem? (i := 10) rfl)
theorem cd_190_15 : mt_cd 190 15 = some (.i2l) := mt_cd_of (q := (15, .i2l, 1)) mq_190 ci_190 (List.mem_of_getElem? (i := 11) rfl)
theorem cd_190_16 : mt_cd 190 16 = some (.invokestatic 268) := mt_cd_of (q := (16, .invokestatic 268, 3)) mq_190 ci_190 (List.mem_of_getElem? (i := 12) rfl)
theorem cd_190_19 : mt_cd 190 19 = some (.ifCond .ne 7) := mt_cd_of (q := (19, .ifCond .ne 7, 3)) mq_190 ci_190 (List.mem_of_getElem? (i := 13) rfl)
theorem cd_190_22 : mt_cd 190 22 = some (.iconst 1) := mt_cd_of (q := (22, .iconst 1, 1)) mq_190 ci_190 (List.mem_of_getElem? (i := 14) rfl)
theorem cd_190_23 : mt_cd 190 23 = some (.goto 4) := mt_cd_of (q := (23, .goto 4, 3)) mq_190 ci_190 (List.mem_of_getElem? (i := 15) rfl)
theorem cd_190_26 : mt_cd 190 26 = some (.iconst 0) := mt_cd_of (q := (26, .iconst 0, 1)) mq_190 ci_190 (List.mem_of_getElem? (i := 16) rfl)
theorem cd_190_27 : mt_cd 190 27 = some (.iconst 1) := mt_cd_of (q := (27, .iconst 1, 1)) mq_190 ci_190 (List.mem_of_getElem? (i := 17) rfl)
theorem cd_190_28 : mt_cd 190 28 = some (.invokevirtual 254) := mt_cd_of (q := (28, .invokevirtual 254, 3)) mq_190 ci_190 (List.mem_of_getElem? (i := 18) rfl)
theorem cd_190_31 : mt_cd 190 31 = some (.ifCond .eq 7) := mt_cd_of (q := (31, .ifCond .eq 7, 3)) mq_190 ci_190 (List.mem_of_getElem? (i := 19) rfl)
theorem cd_190_34 : mt_cd 190 34 = some (.lconst 0) := mt_cd_of (q := (34, .lconst 0, 1)) mq_190 ci_190 (List.mem_of_getElem? (i := 20) rfl)
theorem cd_190_35 : mt_cd 190 35 = some (.goto 9) := mt_cd_of (q := (35, .goto 9, 3)) mq_190 ci_190 (List.mem_of_getElem? (i := 21) rfl)
theorem cd_190_38 : mt_cd 190 38 = some (.aload_n 0) := mt_cd_of (q := (38, .aload_n 0, 1)) mq_190 ci_190 (List.mem_of_getElem? (i := 22) rfl)
theorem cd_190_39 : mt_cd 190 39 = some (.getfield 208) := mt_cd_of (q := (39, .getfield 208, 3)) mq_190 ci_190 (List.mem_of_getElem? (i := 23) rfl)
theorem cd_190_42 : mt_cd 190 42 = some (.iload_n 1) := mt_cd_of (q := (42, .iload_n 1, 1)) mq_190 ci_190 (List.mem_of_getElem? (i := 24) rfl)
theorem cd_190_43 : mt_cd 190 43 = some (.laload) := mt_cd_of (q := (43, .laload, 1)) mq_190 ci_190 (List.mem_of_getElem? (i := 25) rfl)
theorem cd_190_44 : mt_cd 190 44 = some (.lreturn) := mt_cd_of (q := (44, .lreturn, 1)) mq_190 ci_190 (List.mem_of_getElem? (i := 26) rfl)
theorem b_190_0 {d : Nat} {Q : (Option Value ⊕ Nat) → mi_H → Prop} (n sl : Nat) (f : Nat → mi_C) {l1 : Nat} {l2 : Int32} {fs3 : List Value} {fs7 : List Value} {x10 : Int32} (h4 : f l1 = .inr (12, fs3)) (h5 : l1 < n) (h6 : 0 < fs3.length) (h8 : (va_up f l1 (.inr (12, fs3.set 0 (.int 0)))) l1 = .inr (12, fs7)) (h9 : l1 < n) (h11 : fs7[66]? = some (.int x10)) (h12 : mi_W d 140 0 (mi_en 6 [.long ((l2 : Int32).toInt64), .long 0, .long (((x10 - 1) : Int32).toInt64)]) [] (n, sl, (va_up f l1 (.inr (12, fs3.set 0 (.int 0))))) (mi_Kc d 190 16 [some (.ref l1), some (.int l2)] [.ref l1] Q)) : mi_W (d + 1) 190 0 [some (.ref l1), some (.int l2)] [] (n, sl, f) Q := by
  refine w_aload_n cd_190_0 rfl ?_
  refine w_iconst (v := 0) cd_190_1 (by decide) ?_
  refine w_putfield (w := .int 0) cd_190_2 (show mt_f 12 248 = some (12, 0) by decide +kernel) h4 h5 ⟨h6, rfl, Or.inl (by decide)⟩ ?_
  refine w_aload_n cd_190_5 rfl ?_
  refine w_iload_n cd_190_6 rfl ?_
  refine w_i2l cd_190_7 ?_
  refine w_lconst (lv := 0) cd_190_8 (by decide) ?_
  refine w_aload_n cd_190_9 rfl ?_
  refine w_getfield cd_190_10 (show mt_f 12 539 = some (12, 66) by decide +kernel) h8 h9 h11 ?_
  refine w_iconst (v := 1) cd_190_13 (by decide) ?_
  refine w_isub cd_190_14 ?_
  refine w_i2l cd_190_15 ?_
  exact w_invokestatic cd_190_16 (show mt_m 12 268 = some (140, 4) by decide +kernel) (by decide) (rest := [.ref l1]) rfl (as := [.long ((l2 : Int32).toInt64), .long 0, .long (((x10 - 1) : Int32).toInt64)]) rfl ⟨Nat.le_of_ble_eq_true rfl, Nat.le_of_ble_eq_true rfl, Nat.le_of_ble_eq_true rfl⟩ h12
theorem b_190_19 {d : Nat} {Q : (Option Value ⊕ Nat) → mi_H → Prop} (n sl : Nat) (f : Nat → mi_C) {l1 : Nat} {l2 : Int32} {s3 : Int32} {s4 : Nat} (h5 : ¬ s3 = (0 : Int32) → mi_W d 190 26 [some (.ref l1), some (.int l2)] [.ref s4] (n, sl, f) Q) (h6 : ¬ (¬ s3 = (0 : Int32)) → mi_W d 190 22 [some (.ref l1), some (.int l2)] [.ref s4] (n, sl, f) Q) : mi_W d 190 19 [some (.ref l1), some (.int l2)] [.int s3, .ref s4] (n, sl, f) Q := by
  exact w_ifne cd_190_19 (by decide) h5 h6
theorem b_190_22 {d : Nat} {Q : (Option Value ⊕ Nat) → mi_H → Prop} (n sl : Nat) (f : Nat → mi_C) {l1 : Nat} {l2 : Int32} {s3 : Nat} (h4 : mi_W d 190 27 [some (.ref l1), some (.int l2)] [.int 1, .ref s3] (n, sl, f) Q) : mi_W d 190 22 [some (.ref l1), some (.int l2)] [.ref s3] (n, sl, f) Q := by
  refine w_iconst (v := 1) cd_190_22 (by decide) ?_
  exact w_goto cd_190_23 (by decide) h4
theorem b_190_26 {d : Nat} {Q : (Option Value ⊕ Nat) → mi_H → Prop} (n sl : Nat) (f : Nat → mi_C) {l1 : Nat} {l2 : Int32} {s3 : Nat} (h4 : mi_W d 190 27 [some (.ref l1), some (.int l2)] [.int 0, .ref s3] (n, sl, f) Q) : mi_W d 190 26 [some (.ref l1), some (.int l2)] [.ref s3] (n, sl, f) Q := by
  refine w_iconst (v := 0) cd_190_26 (by decide) ?_
  exact h4
theorem b_190_27 {d : Nat} {Q : (Option Value ⊕ Nat) → mi_H → Prop} (n sl : Nat) (f : Nat → mi_C) {l1 : Nat} {l2 : Int32} {s3 : Int32} {s4 : Nat} {fs5 : List Value} (h6 : f s4 = .inr (12, fs5)) (h7 : s4 < n) (h8 : mi_W d 138 0 (mi_en 3 [.ref s4, .int s3, .int 1]) [] (n, sl, f) (mi_Kc d 190 28 [some (.ref l1), some (.int l2)] [] Q)) : mi_W (d + 1) 190 27 [some (.ref l1), some (.int l2)] [.int s3, .ref s4] (n, sl, f) Q := by
  refine w_iconst (v := 1) cd_190_27 (by decide) ?_
  exact w_invokevirtual cd_190_28 (show mt_m 12 254 = some (138, 0) by decide +kernel) (rest := []) rfl (as := [.ref s4, .int s3, .int 1]) rfl h6 (Or.inl h7) ⟨Nat.le_of_ble_eq_true rfl, Nat.le_of_ble_eq_true rfl, Nat.le_of_ble_eq_true rfl⟩ h8
theorem b_190_31 {d : Nat} {Q : (Option Value ⊕ Nat) → mi_H → Prop} (n sl : Nat) (f : Nat → mi_C) {l1 : Nat} {l2 : Int32} {s3 : Int32} (h4 : s3 = (0 : Int32) → mi_W d 190 38 [some (.ref l1), some (.int l2)] [] (n, sl, f) Q) (h5 : ¬ (s3 = (0 : Int32)) → mi_W d 190 34 [some (.ref l1), some (.int l2)] [] (n, sl, f) Q) : mi_W d 190 31 [some (.ref l1), some (.int l2)] [.int s3] (n, sl, f) Q := by
  exact w_ifeq cd_190_31 (by decide) h4 h5
theorem b_190_34 {d : Nat} {Q : (Option Value ⊕ Nat) → mi_H → Prop} (n sl : Nat) (f : Nat → mi_C) {l1 : Nat} {l2 : Int32} (h3 : mi_W d 190 44 [some (.ref l1), some (.int l2)] [.long 0] (n, sl, f) Q) : mi_W d 190 34 [some (.ref l1), some (.int l2)] [] (n, sl, f) Q := by
  refine w_lconst (lv := 0) cd_190_34 (by decide) ?_
  exact w_goto cd_190_35 (by decide) h3
theorem b_190_38 {d : Nat} {Q : (Option Value ⊕ Nat) → mi_H → Prop} (n sl : Nat) (f : Nat → mi_C) {l1 : Nat} {l2 : Int32} {fs3 : List Value} {x6 : Nat} (m8 i8 : Nat) (g8 : Nat → Int64) (h4 : f l1 = .inr (12, fs3)) (h5 : l1 < n) (h7 : fs3[72]? = some (.ref x6)) (h9 : f x6 = .inl (3, m8, .inr (.inl g8))) (h10 : x6 < n) (h11 : mi_ix l2 m8 i8) (h12 : mi_W d 190 44 [some (.ref l1), some (.int l2)] [.long (g8 i8)] (n, sl, f) Q) : mi_W d 190 38 [some (.ref l1), some (.int l2)] [] (n, sl, f) Q := by
  refine w_aload_n cd_190_38 rfl ?_
  refine w_getfield cd_190_39 (show mt_f 12 208 = some (12, 72) by decide +kernel) h4 h5 h7 ?_
  refine w_iload_n cd_190_42 rfl ?_
  refine w_laload cd_190_43 h9 h10 h11 ?_
  exact h12
theorem b_190_44 {d : Nat} {Q : (Option Value ⊕ Nat) → mi_H → Prop} (n sl : Nat) (f : Nat → mi_C) {l1 : Nat} {l2 : Int32} {s3 : Int64} (h4 : Q (.inl (some (.long s3))) (n, sl, f)) : mi_W d 190 44 [some (.ref l1), some (.int l2)] [.long s3] (n, sl, f) Q := by
  exact w_lreturn cd_190_44 (by decide +kernel) h4
/-! MarloweHostModel.state(III)J -/
set_option maxRecDepth 100000 in
theorem mq_191 : mt_q 191 = my_191 := rfl
set_option maxRecDepth 100000 in
theorem ci_191 : mt_inc 0 my_191.cd = true := by decide +kernel
theorem cd_191_0 : mt_cd 191 0 = some (.aload_n 0) := mt_cd_of (q := (0, .aload_n 0, 1)) mq_191 ci_191 (List.mem_of_getElem? (i := 0) rfl)
theorem cd_191_1 : mt_cd 191 1 = some (.iconst 0) := mt_cd_of (q := (1, .iconst 0, 1)) mq_191 ci_191 (List.mem_of_getElem? (i := 1) rfl)
theorem cd_191_2 : mt_cd 191 2 = some (.putfield 248) := mt_cd_of (q := (2, .putfield 248, 3)) mq_191 ci_191 (List.mem_of_getElem? (i := 2) rfl)
theorem cd_191_5 : mt_cd 191 5 = some (.aload_n 0) := mt_cd_of (q := (5, .aload_n 0, 1)) mq_191 ci_191 (List.mem_of_getElem? (i := 3) rfl)
theorem cd_191_6 : mt_cd 191 6 = some (.iload_n 1) := mt_cd_of (q := (6, .iload_n 1, 1)) mq_191 ci_191 (List.mem_of_getElem? (i := 4) rfl)
theorem cd_191_7 : mt_cd 191 7 = some (.i2l) := mt_cd_of (q := (7, .i2l, 1)) mq_191 ci_191 (List.mem_of_getElem? (i := 5) rfl)
theorem cd_191_8 : mt_cd 191 8 = some (.lconst 0) := mt_cd_of (q := (8, .lconst 0, 1)) mq_191 ci_191 (List.mem_of_getElem? (i := 6) rfl)
theorem cd_191_9 : mt_cd 191 9 = some (.ldc2_w 552) := mt_cd_of (q := (9, .ldc2_w 552, 3)) mq_191 ci_191 (List.mem_of_getElem? (i := 7) rfl)
theorem cd_191_12 : mt_cd 191 12 = some (.invokestatic 268) := mt_cd_of (q := (12, .invokestatic 268, 3)) mq_191 ci_191 (List.mem_of_getElem? (i := 8) rfl)
theorem cd_191_15 : mt_cd 191 15 = some (.ifCond .eq 27) := mt_cd_of (q := (15, .ifCond .eq 27, 3)) mq_191 ci_191 (List.mem_of_getElem? (i := 9) rfl)
theorem cd_191_18 : mt_cd 191 18 = some (.iload_n 2) := mt_cd_of (q := (18, .iload_n 2, 1)) mq_191 ci_191 (List.mem_of_getElem? (i := 10) rfl)
theorem cd_191_19 : mt_cd 191 19 = some (.i2l) := mt_cd_of (q := (19, .i2l, 1)) mq_191 ci_191 (List.mem_of_getElem? (i := 11) rfl)
theorem cd_191_20 : mt_cd 191 20 = some (.lconst 0) := mt_cd_of (q := (20, .lconst 0, 1)) mq_191 ci_191 (List.mem_of_getElem? (i := 12) rfl)
theorem cd_191_21 : mt_cd 191 21 = some (.ldc2_w 542) := mt_cd_of (q := (21, .ldc2_w 542, 3)) mq_191 ci_191 (List.mem_of_getElem? (i := 13) rfl)
theorem cd_191_24 : mt_cd 191 24 = some (.invokestatic 268) := mt_cd_of (q := (24, .invokestatic 268, 3)) mq_191 ci_191 (List.mem_of_getElem? (i := 14) rfl)
theorem cd_191_27 : mt_cd 191 27 = some (.ifCond .eq 15) := mt_cd_of (q := (27, .ifCond .eq 15, 3)) mq_191 ci_191 (List.mem_of_getElem? (i := 15) rfl)
theorem cd_191_30 : mt_cd 191 30 = some (.iload_n 3) := mt_cd_of (q := (30, .iload_n 3, 1)) mq_191 ci_191 (List.mem_of_getElem? (i := 16) rfl)
theorem cd_191_31 : mt_cd 191 31 = some (.i2l) := mt_cd_of (q := (31, .i2l, 1)) mq_191 ci_191 (List.mem_of_getElem? (i := 17) rfl)
theorem cd_191_32 : mt_cd 191 32 = some (.lconst 0) := mt_cd_of (q := (32, .lconst 0, 1)) mq_191 ci_191 (List.mem_of_getElem? (i := 18) rfl)
theorem cd_191_33 : mt_cd 191 33 = some (.ldc2_w 544) := mt_cd_of (q := (33, .ldc2_w 544, 3)) mq_191 ci_191 (List.mem_of_getElem? (i := 19) rfl)
theorem cd_191_36 : mt_cd 191 36 = some (.invokestatic 268) := mt_cd_of (q := (36, .invokestatic 268, 3)) mq_191 ci_191 (List.mem_of_getElem? (i := 20) rfl)
theorem cd_191_39 : mt_cd 191 39 = some (.ifCond .ne 7) := mt_cd_of (q := (39, .ifCond .ne 7, 3)) mq_191 ci_191 (List.mem_of_getElem? (i := 21) rfl)
theorem cd_191_42 : mt_cd 191 42 = some (.iconst 1) := mt_cd_of (q := (42, .iconst 1, 1)) mq_191 ci_191 (List.mem_of_getElem? (i := 22) rfl)
theorem cd_191_43 : mt_cd 191 43 = some (.goto 4) := mt_cd_of (q := (43, .goto 4, 3)) mq_191 ci_191 (List.mem_of_getElem? (i := 23) rfl)
theorem cd_191_46 : mt_cd 191 46 = some (.iconst 0) := mt_cd_of (q := (46, .iconst 0, 1)) mq_191 ci_191 (List.mem_of_getElem? (i := 24) rfl)
theorem cd_191_47 : mt_cd 191 47 = some (.iconst 1) := mt_cd_of (q := (47, .iconst 1, 1)) mq_191 ci_191 (List.mem_of_getElem? (i := 25) rfl)
theorem cd_191_48 : mt_cd 191 48 = some (.invokevirtual 254) := mt_cd_of (q := (48, .invokevirtual 254, 3)) mq_191 ci_191 (List.mem_of_getElem? (i := 26) rfl)
theorem cd_191_51 : mt_cd 191 51 = some (.ifCond .ne 28) := mt_cd_of (q := (51, .ifCond .ne 28, 3)) mq_191 ci_191 (List.mem_of_getElem? (i := 27) rfl)
theorem cd_191_54 : mt_cd 191 54 = some (.aload_n 0) := mt_cd_of (q := (54, .aload_n 0, 1)) mq_191 ci_191 (List.mem_of_getElem? (i := 28) rfl)
theorem cd_191_55 : mt_cd 191 55 = some (.iload_n 1) := mt_cd_of (q := (55, .iload_n 1, 1)) mq_191 ci_191 (List.mem_of_getElem? (i := 29) rfl)
theorem cd_191_56 : mt_cd 191 56 = some (.iconst 1) := mt_cd_of (q := (56, .iconst 1, 1)) mq_191 ci_191 (List.mem_of_getElem? (i := 30) rfl)
theorem cd_191_57 : mt_cd 191 57 = some (.if_icmp .eq 14) := mt_cd_of (q := (57, .if_icmp .eq 14, 3)) mq_191 ci_191 (List.mem_of_getElem? (i := 31) rfl)
theorem cd_191_60 : mt_cd 191 60 = some (.aload_n 0) := mt_cd_of (q := (60, .aload_n 0, 1)) mq_191 ci_191 (List.mem_of_getElem? (i := 32) rfl)
theorem cd_191_61 : mt_cd 191 61 = some (.getfield 13) := mt_cd_of (q := (61, .getfield 13, 3)) mq_191 ci_191 (List.mem_of_getElem? (i := 33) rfl)
theorem cd_191_64 : mt_cd 191 64 = some (.ifCond .ge 7) := mt_cd_of (q := (64, .ifCond .ge 7, 3)) mq_191 ci_191 (List.mem_of_getElem? (i := 34) rfl)
theorem cd_191_67 : mt_cd 191 67 = some (.iconst 1) := mt_cd_of (q := (67, .iconst 1, 1)) mq_191 ci_191 (List.mem_of_getElem? (i := 35) rfl)
theorem cd_191_68 : mt_cd 191 68 = some (.goto 4) := mt_cd_of (q := (68, .goto 4, 3)) mq_191 ci_191 (List.mem_of_getElem? (i := 36) rfl)
theorem cd_191_71 : mt_cd 191 71 = some (.iconst 0) := mt_cd_of (q := (71, .iconst 0, 1)) mq_191 ci_191 (List.mem_of_getElem? (i := 37) rfl)
theorem cd_191_72 : mt_cd 191 72 = some (.iconst 2) := mt_cd_of (q := (72, .iconst 2, 1)) mq_191 ci_191 (List.mem_of_getElem? (i := 38) rfl)
theorem cd_191_73 : mt_cd 191 73 = some (.invokevirtual 254) := mt_cd_of (q := (73, .invokevirtual 254, 3)) mq_191 ci_191 (List.mem_of_getElem? (i := 39) rfl)
theorem cd_191_76 : mt_cd 191 76 = some (.ifCond .eq 5) := mt_cd_of (q := (76, .ifCond .eq 5, 3)) mq_191 ci_191 (List.mem_of_getElem? (i := 40) rfl)
theorem cd_191_79 : mt_cd 191 79 = some (.lconst 0) := mt_cd_of (q := (79, .lconst 0, 1)) mq_191 ci_191 (List.mem_of_getElem? (i := 41) rfl)
theorem cd_191_80 : mt_cd 191 80 = some (.lreturn) := mt_cd_of (q := (80, .lreturn, 1)) mq_191 ci_191 (List.mem_of_getElem? (i := 42) rfl)
theorem cd_191_81 : mt_cd 191 81 = some (.iload_n 1) := mt_cd_of (q := (81, .iload_n 1, 1)) mq_191 ci_191 (List.mem_of_getElem? (i := 43) rfl)
theorem cd_191_82 : mt_cd 191 82 = some (.tableswitch 107 0 3 #[30, 44, 55, 81]) := mt_cd_of (q := (82, .tableswitch 107 0 3 #[30, 44, 55, 81], 30)) mq_191 ci_191 (List.mem_of_getElem? (i := 44) rfl)
theorem cd_191_112 : mt_cd 191 112 = some (.aload_n 0) := mt_cd_of (q := (112, .aload_n 0, 1)) mq_191 ci_191 (List.mem_of_getElem? (i := 45) rfl)
theorem cd_191_113 : mt_cd 191 113 = some (.getfield 147) := mt_cd_of (q := (113, .getfield 147, 3)) mq_191 ci_191 (List.mem_of_getElem? (i := 46) rfl)
theorem cd_191_116 : mt_cd 191 116 = some (.getfield 448) := mt_cd_of (q := (116, .getfield 448, 3)) mq_191 ci_191 (List.mem_of_getElem? (i := 47) rfl)
theorem cd_191_119 : mt_cd 191 119 = some (.iconst 4) := mt_cd_of (q := (119, .iconst 4, 1)) mq_191 ci_191 (List.mem_of_getElem? (i := 48) rfl)
theorem cd_191_120 : mt_cd 191 120 = some (.iload_n 2) := mt_cd_of (q := (120, .iload_n 2, 1)) mq_191 ci_191 (List.mem_of_getElem? (i := 49) rfl)
theorem cd_191_121 : mt_cd 191 121 = some (.imul) := mt_cd_of (q := (121, .imul, 1)) mq_191 ci_191 (List.mem_of_getElem? (i := 50) rfl)
theorem cd_191_122 : mt_cd 191 122 = some (.iload_n 3) := mt_cd_of (q := (122, .iload_n 3, 1)) mq_191 ci_191 (List.mem_of_getElem? (i := 51) rfl)
theorem cd_191_123 : mt_cd 191 123 = some (.iadd) := mt_cd_of (q := (123, .iadd, 1)) mq_191 ci_191 (List.mem_of_getElem? (i := 52) rfl)
theorem cd_191_124 : mt_cd 191 124 = some (.laload) := mt_cd_of (q := (124, .laload, 1)) mq_191 ci_191 (List.mem_of_getElem? (i := 53) rfl)
theorem cd_191_125 : mt_cd 191 125 = some (.lreturn) := mt_cd_of (q := (125, .lreturn, 1)) mq_191 ci_191 (List.mem_of_getElem? (i := 54) rfl)
theorem cd_191_126 : mt_cd 191 126 = some (.aload_n 0) := mt_cd_of (q := (126, .aload_n 0, 1)) mq_191 ci_191 (List.mem_of_getElem? (i := 55) rfl)
theorem cd_191_127 : mt_cd 191 127 = some (.getfield 175) := mt_cd_of (q := (127, .getfield 175, 3)) mq_191 ci_191 (List.mem_of_getElem? (i := 56) rfl)
theorem cd_191_130 : mt_cd 191 130 = some (.iconst 4) := mt_cd_of (q := (130, .iconst 4, 1)) mq_191 ci_191 (List.mem_of_getElem? (i := 57) rfl)
theorem cd_191_131 : mt_cd 191 131 = some (.iload_n 2) := mt_cd_of (q := (131, .iload_n 2, 1)) mq_191 ci_191 (List.mem_of_getElem? (i := 58) rfl)
theorem cd_191_132 : mt_cd 191 132 = some (.imul) := mt_cd_of (q := (132, .imul, 1)) mq_191 ci_191 (List.mem_of_getElem? (i := 59) rfl)
theorem cd_191_133 : mt_cd 191 133 = some (.iload_n 3) := mt_cd_of (q := (133, .iload_n 3, 1)) mq_191 ci_191 (List.mem_of_getElem? (i := 60) rfl)
theorem cd_191_134 : mt_cd 191 134 = some (.iadd) := mt_cd_of (q := (134, .iadd, 1)) mq_191 ci_191 (List.mem_of_getElem? (i := 61) rfl)
theorem cd_191_135 : mt_cd 191 135 = some (.laload) := mt_cd_of (q := (135, .laload, 1)) mq_191 ci_191 (List.mem_of_getElem? (i := 62) rfl)
theorem cd_191_136 : mt_cd 191 136 = some (.lreturn) := mt_cd_of (q := (136, .lreturn, 1)) mq_191 ci_191 (List.mem_of_getElem? (i := 63) rfl)
theorem cd_191_137 : mt_cd 191 137 = some (.aload_n 0) := mt_cd_of (q := (137, .aload_n 0, 1)) mq_191 ci_191 (List.mem_of_getElem? (i := 64) rfl)
theorem cd_191_138 : mt_cd 191 138 = some (.getfield 147) := mt_cd_of (q := (138, .getfield 147, 3)) mq_191 ci_191 (List.mem_of_getElem? (i := 65) rfl)
theorem cd_191_141 : mt_cd 191 141 = some (.getfield 459) := mt_cd_of (q := (141, .getfield 459, 3)) mq_191 ci_191 (List.mem_of_getElem? (i := 66) rfl)
theorem cd_191_144 : mt_cd 191 144 = some (.iload_n 2) := mt_cd_of (q := (144, .iload_n 2, 1)) mq_191 ci_191 (List.mem_of_getElem? (i := 67) rfl)
theorem cd_191_145 : mt_cd 191 145 = some (.baload) := mt_cd_of (q := (145, .baload, 1)) mq_191 ci_191 (List.mem_of_getElem? (i := 68) rfl)
theorem cd_191_146 : mt_cd 191 146 = some (.ifCond .eq 15) := mt_cd_of (q := (146, .ifCond .eq 15, 3)) mq_191 ci_191 (List.mem_of_getElem? (i := 69) rfl)
theorem cd_191_149 : mt_cd 191 149 = some (.aload_n 0) := mt_cd_of (q := (149, .aload_n 0, 1)) mq_191 ci_191 (List.mem_of_getElem? (i := 70) rfl)
theorem cd_191_150 : mt_cd 191 150 = some (.getfield 147) := mt_cd_of (q := (150, .getfield 147, 3)) mq_191 ci_191 (List.mem_of_getElem? (i := 71) rfl)
theorem cd_191_153 : mt_cd 191 153 = some (.getfield 463) := mt_cd_of (q := (153, .getfield 463, 3)) mq_191 ci_191 (List.mem_of_getElem? (i := 72) rfl)
theorem cd_191_156 : mt_cd 191 156 = some (.iload_n 2) := mt_cd_of (q := (156, .iload_n 2, 1)) mq_191 ci_191 (List.mem_of_getElem? (i := 73) rfl)
theorem cd_191_157 : mt_cd 191 157 = some (.laload) := mt_cd_of (q := (157, .laload, 1)) mq_191 ci_191 (List.mem_of_getElem? (i := 74) rfl)
theorem cd_191_158 : mt_cd 191 158 = some (.goto 4) := mt_cd_of (q := (158, .goto 4, 3)) mq_191 ci_191 (List.mem_of_getElem? (i := 75) rfl)
theorem cd_191_161 : mt_cd 191 161 = some (.lconst 0) := mt_cd_of (q := (161, .lconst 0, 1)) mq_191 ci_191 (List.mem_of_getElem? (i := 76) rfl)
theorem cd_191_162 : mt_cd 191 162 = some (.lreturn) := mt_cd_of (q := (162, .lreturn, 1)) mq_191 ci_191 (List.mem_of_getElem? (i := 77) rfl)
theorem cd_191_163 : mt_cd 191 163 = some (.aload_n 0) := mt_cd_of (q := (163, .aload_n 0, 1)) mq_191 ci_191 (List.mem_of_getElem? (i := 78) rfl)
theorem cd_191_164 : mt_cd 191 164 = some (.getfield 147) := mt_cd_of (q := (164, .getfield 147, 3)) mq_191 ci_191 (List.mem_of_getElem? (i := 79) rfl)
theorem cd_191_167 : mt_cd 191 167 = some (.getfield 465) := mt_cd_of (q := (167, .getfield 465, 3)) mq_191 ci_191 (List.mem_of_getElem? (i := 80) rfl)
theorem cd_191_170 : mt_cd 191 170 = some (.iload_n 2) := mt_cd_of (q := (170, .iload_n 2, 1)) mq_191 ci_191 (List.mem_of_getElem? (i := 81) rfl)
theorem cd_191_171 : mt_cd 191 171 = some (.baload) := mt_cd_of (q := (171, .baload, 1)) mq_191 ci_191 (List.mem_of_getElem? (i := 82) rfl)
theorem cd_191_172 : mt_cd 191 172 = some (.ifCond .eq 15) := mt_cd_of (q := (172, .ifCond .eq 15, 3)) mq_191 ci_191 (List.mem_of_getElem? (i := 83) rfl)
theorem cd_191_175 : mt_cd 191 175 = some (.aload_n 0) := mt_cd_of (q := (175, .aload_n 0, 1)) mq_191 ci_191 (List.mem_of_getElem? (i := 84) rfl)
theorem cd_191_176 : mt_cd 191 176 = some (.getfield 147) := mt_cd_of (q := (176, .getfield 147, 3)) mq_191 ci_191 (List.mem_of_getElem? (i := 85) rfl)
theorem cd_191_179 : mt_cd 191 179 = some (.getfield 468) := mt_cd_of (q := (179, .getfield 468, 3)) mq_191 ci_191 (List.mem_of_getElem? (i := 86) rfl)
theorem cd_191_182 : mt_cd 191 182 = some (.iload_n 2) := mt_cd_of (q := (182, .iload_n 2, 1)) mq_191 ci_191 (List.mem_of_getElem? (i := 87) rfl)
theorem cd_191_183 : mt_cd 191 183 = some (.laload) := mt_cd_of (q := (183, .laload, 1)) mq_191 ci_191 (List.mem_of_getElem? (i := 88) rfl)
theorem cd_191_184 : mt_cd 191 184 = some (.goto 4) := mt_cd_of (q := (184, .goto 4, 3)) mq_191 ci_191 (List.mem_of_getElem? (i := 89) rfl)
theorem cd_191_187 : mt_cd 191 187 = some (.lconst 0) := mt_cd_of (q := (187, .lconst 0, 1)) mq_191 ci_191 (List.mem_of_getElem? (i := 90) rfl)
theorem cd_191_188 : mt_cd 191 188 = some (.lreturn) := mt_cd_of (q := (188, .lreturn, 1)) mq_191 ci_191 (List.mem_of_getElem? (i := 91) rfl)
theorem cd_191_189 : mt_cd 191 189 = some (.aload_n 0) := mt_cd_of (q := (189, .aload_n 0, 1)) mq_191 ci_191 (List.mem_of_getElem? (i := 92) rfl)
theorem cd_191_190 : mt_cd 191 190 = some (.getfield 147) := mt_cd_of (q := (190, .getfield 147, 3)) mq_191 ci_191 (List.mem_of_getElem? (i := 93) rfl)
theorem cd_191_193 : mt_cd 191 193 = some (.getfield 516) := mt_cd_of (q := (193, .getfield 516, 3)) mq_191 ci_191 (List.mem_of_getElem? (i := 94) rfl)
theorem cd_191_196 : mt_cd 191 196 = some (.lreturn) := mt_cd_of (q := (196, .lreturn, 1)) mq_191 ci_191 (List.mem_of_getElem? (i := 95) rfl)
theorem b_191_0 {d : Nat} {Q : (Option Value ⊕ Nat) → mi_H → Prop} (n sl : Nat) (f : Nat → mi_C) {l1 : Nat} {l2 : Int32} {l3 : Int32} {l4 : Int32} {fs5 : List Value} (h6 : f l1 = .inr (12, fs5)) (h7 : l1 < n) (h8 : 0 < fs5.length) (h9 : mi_W d 140 0 (mi_en 6 [.long ((l2 : Int32).toInt64), .long 0, .long 4]) [] (n, sl, (va_up f l1 (.inr (12, fs5.set 0 (.int 0))))) (mi_Kc d 191 12 [some (.ref l1), some (.int l2), some (.int l3), some (.int l4)] [.ref l1] Q)) : mi_W (d + 1) 191 0 [some (.ref l1), some (.int l2), some (.int l3), some (.int l4)] [] (n, sl, f) Q := by
  refine w_aload_n cd_191_0 rfl ?_
  refine w_iconst (v := 0) cd_191_1 (by decide) ?_
  refine w_putfield (w := .int 0) cd_191_2 (show mt_f 12 248 = some (12, 0) by decide +kernel) h6 h7 ⟨h8, rfl, Or.inl (by decide)⟩ ?_
  refine w_aload_n cd_191_5 rfl ?_
  refine w_iload_n cd_191_6 rfl ?_
  refine w_i2l cd_191_7 ?_
  refine w_lconst (lv := 0) cd_191_8 (by decide) ?_
  refine w_ldc2_w (lv := 4) cd_191_9 (by decide +kernel) ?_
  exact w_invokestatic cd_191_12 (show mt_m 12 268 = some (140, 4) by decide +kernel) (by decide) (rest := [.ref l1]) rfl (as := [.long ((l2 : Int32).toInt64), .long 0, .long 4]) rfl ⟨Nat.le_of_ble_eq_true rfl, Nat.le_of_ble_eq_true rfl, Nat.le_of_ble_eq_true rfl⟩ h9
theorem b_191_15 {d : Nat} {Q : (Option Value ⊕ Nat) → mi_H → Prop} (n sl : Nat) (f : Nat → mi_C) {l1 : Nat} {l2 : Int32} {l3 : Int32} {l4 : Int32} {s5 : Int32} {s6 : Nat} (h7 : s5 = (0 : Int32) → mi_W d 191 42 [some (.ref l1), some (.int l2), some (.int l3), some (.int l4)] [.ref s6] (n, sl, f) Q) (h8 : ¬ (s5 = (0 : Int32)) → mi_W d 191 18 [some (.ref l1), some (.int l2), some (.int l3), some (.int l4)] [.ref s6] (n, sl, f) Q) : mi_W d 191 15 [some (.ref l1), some (.int l2), some (.int l3), some (.int l4)] [.int s5, .ref s6] (n, sl, f) Q := by
  exact w_ifeq cd_191_15 (by decide) h7 h8
theorem b_191_18 {d : Nat} {Q : (Option Value ⊕ Nat) → mi_H → Prop} (n sl : Nat) (f : Nat → mi_C) {l1 : Nat} {l2 : Int32} {l3 : Int32} {l4 : Int32} {s5 : Nat} (h6 : mi_W d 140 0 (mi_en 6 [.long ((l3 : Int32).toInt64), .long 0, .long 7]) [] (n, sl, f) (mi_Kc d 191 24 [some (.ref l1), some (.int l2), some (.int l3), some (.int l4)] [.ref s5] Q)) : mi_W (d + 1) 191 18 [some (.ref l1), some (.int l2), some (.int l3), some (.int l4)] [.ref s5] (n, sl, f) Q := by
  refine w_iload_n cd_191_18 rfl ?_
  refine w_i2l cd_191_19 ?_
  refine w_lconst (lv := 0) cd_191_20 (by decide) ?_
  refine w_ldc2_w (lv := 7) cd_191_21 (by decide +kernel) ?_
  exact w_invokestatic cd_191_24 (show mt_m 12 268 = some (140, 4) by decide +kernel) (by decide) (rest := [.ref s5]) rfl (as := [.long ((l3 : Int32).toInt64), .long 0, .long 7]) rfl ⟨Nat.le_of_ble_eq_true rfl, Nat.le_of_ble_eq_true rfl, Nat.le_of_ble_eq_true rfl⟩ h6
theorem b_191_27 {d : Nat} {Q : (Option Value ⊕ Nat) → mi_H → Prop} (n sl : Nat) (f : Nat → mi_C) {l1 : Nat} {l2 : Int32} {l3 : Int32} {l4 : Int32} {s5 : Int32} {s6 : Nat} (h7 : s5 = (0 : Int32) → mi_W d 191 42 [some (.ref l1), some (.int l2), some (.int l3), some (.int l4)] [.ref s6] (n, sl, f) Q) (h8 : ¬ (s5 = (0 : Int32)) → mi_W d 191 30 [some (.ref l1), some (.int l2), some (.int l3), some (.int l4)] [.ref s6] (n, sl, f) Q) : mi_W d 191 27 [some (.ref l1), some (.int l2), some (.int l3), some (.int l4)] [.int s5, .ref s6] (n, sl, f) Q := by
  exact w_ifeq cd_191_27 (by decide) h7 h8
theorem b_191_30 {d : Nat} {Q : (Option Value ⊕ Nat) → mi_H → Prop} (n sl : Nat) (f : Nat → mi_C) {l1 : Nat} {l2 : Int32} {l3 : Int32} {l4 : Int32} {s5 : Nat} (h6 : mi_W d 140 0 (mi_en 6 [.long ((l4 : Int32).toInt64), .long 0, .long 3]) [] (n, sl, f) (mi_Kc d 191 36 [some (.ref l1), some (.int l2), some (.int l3), some (.int l4)] [.ref s5] Q)) : mi_W (d + 1) 191 30 [some (.ref l1), some (.int l2), some (.int l3), some (.int l4)] [.ref s5] (n, sl, f) Q := by
  refine w_iload_n cd_191_30 rfl ?_
  refine w_i2l cd_191_31 ?_
  refine w_lconst (lv := 0) cd_191_32 (by decide) ?_
  refine w_ldc2_w (lv := 3) cd_191_33 (by decide +kernel) ?_
  exact w_invokestatic cd_191_36 (show mt_m 12 268 = some (140, 4) by decide +kernel) (by decide) (rest := [.ref s5]) rfl (as := [.long ((l4 : Int32).toInt64), .long 0, .long 3]) rfl ⟨Nat.le_of_ble_eq_true rfl, Nat.le_of_ble_eq_true rfl, Nat.le_of_ble_eq_true rfl⟩ h6
theorem b_191_39 {d : Nat} {Q : (Option Value ⊕ Nat) → mi_H → Prop} (n sl : Nat) (f : Nat → mi_C) {l1 : Nat} {l2 : Int32} {l3 : Int32} {l4 : Int32} {s5 : Int32} {s6 : Nat} (h7 : ¬ s5 = (0 : Int32) → mi_W d 191 46 [some (.ref l1), some (.int l2), some (.int l3), some (.int l4)] [.ref s6] (n, sl, f) Q) (h8 : ¬ (¬ s5 = (0 : Int32)) → mi_W d 191 42 [some (.ref l1), some (.int l2), some (.int l3), some (.int l4)] [.ref s6] (n, sl, f) Q) : mi_W d 191 39 [some (.ref l1), some (.int l2), some (.int l3), some (.int l4)] [.int s5, .ref s6] (n, sl, f) Q := by
  exact w_ifne cd_191_39 (by decide) h7 h8
theorem b_191_42 {d : Nat} {Q : (Option Value ⊕ Nat) → mi_H → Prop} (n sl : Nat) (f : Nat → mi_C) {l1 : Nat} {l2 : Int32} {l3 : Int32} {l4 : Int32} {s5 : Nat} (h6 : mi_W d 191 47 [some (.ref l1), some (.int l2), some (.int l3), some (.int l4)] [.int 1, .ref s5] (n, sl, f) Q) : mi_W d 191 42 [some (.ref l1), some (.int l2), some (.int l3), some (.int l4)] [.ref s5] (n, sl, f) Q := by
  refine w_iconst (v := 1) cd_191_42 (by decide) ?_
  exact w_goto cd_191_43 (by decide) h6
theorem b_191_46 {d : Nat} {Q : (Option Value ⊕ Nat) → mi_H → Prop} (n sl : Nat) (f : Nat → mi_C) {l1 : Nat} {l2 : Int32} {l3 : Int32} {l4 : Int32} {s5 : Nat} (h6 : mi_W d 191 47 [some (.ref l1), some (.int l2), some (.int l3), some (.int l4)] [.int 0, .ref s5] (n, sl, f) Q) : mi_W d 191 46 [some (.ref l1), some (.int l2), some (.int l3), some (.int l4)] [.ref s5] (n, sl, f) Q := by
  refine w_iconst (v := 0) cd_191_46 (by decide) ?_
  exact h6
theorem b_191_47 {d : Nat} {Q : (Option Value ⊕ Nat) → mi_H → Prop} (n sl : Nat) (f : Nat → mi_C) {l1 : Nat} {l2 : Int32} {l3 : Int32} {l4 : Int32} {s5 : Int32} {s6 : Nat} {fs7 : List Value} (h8 : f s6 = .inr (12, fs7)) (h9 : s6 < n) (h10 : mi_W d 138 0 (mi_en 3 [.ref s6, .int s5, .int 1]) [] (n, sl, f) (mi_Kc d 191 48 [some (.ref l1), some (.int l2), some (.int l3), some (.int l4)] [] Q)) : mi_W (d + 1) 191 47 [some (.ref l1), some (.int l2), some (.int l3), some (.int l4)] [.int s5, .ref s6] (n, sl, f) Q := by
  refine w_iconst (v := 1) cd_191_47 (by decide) ?_
  exact w_invokevirtual cd_191_48 (show mt_m 12 254 = some (138, 0) by decide +kernel) (rest := []) rfl (as := [.ref s6, .int s5, .int 1]) rfl h8 (Or.inl h9) ⟨Nat.le_of_ble_eq_true rfl, Nat.le_of_ble_eq_true rfl, Nat.le_of_ble_eq_true rfl⟩ h10
theorem b_191_51 {d : Nat} {Q : (Option Value ⊕ Nat) → mi_H → Prop} (n sl : Nat) (f : Nat → mi_C) {l1 : Nat} {l2 : Int32} {l3 : Int32} {l4 : Int32} {s5 : Int32} (h6 : ¬ s5 = (0 : Int32) → mi_W d 191 79 [some (.ref l1), some (.int l2), some (.int l3), some (.int l4)] [] (n, sl, f) Q) (h7 : ¬ (¬ s5 = (0 : Int32)) → mi_W d 191 54 [some (.ref l1), some (.int l2), some (.int l3), some (.int l4)] [] (n, sl, f) Q) : mi_W d 191 51 [some (.ref l1), some (.int l2), some (.int l3), some (.int l4)] [.int s5] (n, sl, f) Q := by
  exact w_ifne cd_191_51 (by decide) h6 h7
theorem b_191_54 {d : Nat} {Q : (Option Value ⊕ Nat) → mi_H → Prop} (n sl : Nat) (f : Nat → mi_C) {l1 : Nat} {l2 : Int32} {l3 : Int32} {l4 : Int32} (h5 : l2 = 1 → mi_W d 191 71 [some (.ref l1), some (.int l2), some (.int l3), some (.int l4)] [.ref l1] (n, sl, f) Q) (h6 : ¬ (l2 = 1) → mi_W d 191 60 [some (.ref l1), some (.int l2), some (.int l3), some (.int l4)] [.ref l1] (n, sl, f) Q) : mi_W d 191 54 [some (.ref l1), some (.int l2), some (.int l3), some (.int l4)] [] (n, sl, f) Q := by
  refine w_aload_n cd_191_54 rfl ?_
  refine w_iload_n cd_191_55 rfl ?_
  refine w_iconst (v := 1) cd_191_56 (by decide) ?_
  exact w_if_icmpeq cd_191_57 (by decide) h5 h6
theorem b_191_60 {d : Nat} {Q : (Option Value ⊕ Nat) → mi_H → Prop} (n sl : Nat) (f : Nat → mi_C) {l1 : Nat} {l2 : Int32} {l3 : Int32} {l4 : Int32} {s5 : Nat} {fs6 : List Value} {x9 : Int32} (h7 : f l1 = .inr (12, fs6)) (h8 : l1 < n) (h10 : fs6[4]? = some (.int x9)) (h11 : (0 : Int32) ≤ x9 → mi_W d 191 71 [some (.ref l1), some (.int l2), some (.int l3), some (.int l4)] [.ref s5] (n, sl, f) Q) (h12 : ¬ ((0 : Int32) ≤ x9) → mi_W d 191 67 [some (.ref l1), some (.int l2), some (.int l3), some (.int l4)] [.ref s5] (n, sl, f) Q) : mi_W d 191 60 [some (.ref l1), some (.int l2), some (.int l3), some (.int l4)] [.ref s5] (n, sl, f) Q := by
  refine w_aload_n cd_191_60 rfl ?_
  refine w_getfield cd_191_61 (show mt_f 12 13 = some (12, 4) by decide +kernel) h7 h8 h10 ?_
  exact w_ifge cd_191_64 (by decide) h11 h12
theorem b_191_67 {d : Nat} {Q : (Option Value ⊕ Nat) → mi_H → Prop} (n sl : Nat) (f : Nat → mi_C) {l1 : Nat} {l2 : Int32} {l3 : Int32} {l4 : Int32} {s5 : Nat} (h6 : mi_W d 191 72 [some (.ref l1), some (.int l2), some (.int l3), some (.int l4)] [.int 1, .ref s5] (n, sl, f) Q) : mi_W d 191 67 [some (.ref l1), some (.int l2), some (.int l3), some (.int l4)] [.ref s5] (n, sl, f) Q := by
  refine w_iconst (v := 1) cd_191_67 (by decide) ?_
  exact w_goto cd_191_68 (by decide) h6
theorem b_191_71 {d : Nat} {Q : (Option Value ⊕ Nat) → mi_H → Prop} (n sl : Nat) (f : Nat → mi_C) {l1 : Nat} {l2 : Int32} {l3 : Int32} {l4 : Int32} {s5 : Nat} (h6 : mi_W d 191 72 [some (.ref l1), some (.int l2), some (.int l3), some (.int l4)] [.int 0, .ref s5] (n, sl, f) Q) : mi_W d 191 71 [some (.ref l1), some (.int l2), some (.int l3), some (.int l4)] [.ref s5] (n, sl, f) Q := by
  refine w_iconst (v := 0) cd_191_71 (by decide) ?_
  exact h6
theorem b_191_72 {d : Nat} {Q : (Option Value ⊕ Nat) → mi_H → Prop} (n sl : Nat) (f : Nat → mi_C) {l1 : Nat} {l2 : Int32} {l3 : Int32} {l4 : Int32} {s5 : Int32} {s6 : Nat} {fs7 : List Value} (h8 : f s6 = .inr (12, fs7)) (h9 : s6 < n) (h10 : mi_W d 138 0 (mi_en 3 [.ref s6, .int s5, .int 2]) [] (n, sl, f) (mi_Kc d 191 73 [some (.ref l1), some (.int l2), some (.int l3), some (.int l4)] [] Q)) : mi_W (d + 1) 191 72 [some (.ref l1), some (.int l2), some (.int l3), some (.int l4)] [.int s5, .ref s6] (n, sl, f) Q := by
  refine w_iconst (v := 2) cd_191_72 (by decide) ?_
  exact w_invokevirtual cd_191_73 (show mt_m 12 254 = some (138, 0) by decide +kernel) (rest := []) rfl (as := [.ref s6, .int s5, .int 2]) rfl h8 (Or.inl h9) ⟨Nat.le_of_ble_eq_true rfl, Nat.le_of_ble_eq_true rfl, Nat.le_of_ble_eq_true rfl⟩ h10
theorem b_191_76 {d : Nat} {Q : (Option Value ⊕ Nat) → mi_H → Prop} (n sl : Nat) (f : Nat → mi_C) {l1 : Nat} {l2 : Int32} {l3 : Int32} {l4 : Int32} {s5 : Int32} (h6 : s5 = (0 : Int32) → mi_W d 191 81 [some (.ref l1), some (.int l2), some (.int l3), some (.int l4)] [] (n, sl, f) Q) (h7 : ¬ (s5 = (0 : Int32)) → mi_W d 191 79 [some (.ref l1), some (.int l2), some (.int l3), some (.int l4)] [] (n, sl, f) Q) : mi_W d 191 76 [some (.ref l1), some (.int l2), some (.int l3), some (.int l4)] [.int s5] (n, sl, f) Q := by
  exact w_ifeq cd_191_76 (by decide) h6 h7
theorem b_191_79 {d : Nat} {Q : (Option Value ⊕ Nat) → mi_H → Prop} (n sl : Nat) (f : Nat → mi_C) {l1 : Nat} {l2 : Int32} {l3 : Int32} {l4 : Int32} (h5 : Q (.inl (some (.long 0))) (n, sl, f)) : mi_W d 191 79 [some (.ref l1), some (.int l2), some (.int l3), some (.int l4)] [] (n, sl, f) Q := by
  refine w_lconst (lv := 0) cd_191_79 (by decide) ?_
  exact w_lreturn cd_191_80 (by decide +kernel) h5
theorem b_191_81 {d : Nat} {Q : (Option Value ⊕ Nat) → mi_H → Prop} (n sl : Nat) (f : Nat → mi_C) {l1 : Nat} {l2 : Int32} {l3 : Int32} {l4 : Int32} {t5 : Nat} (h6 : mi_ts 82 107 0 3 #[30, 44, 55, 81] (l2 : Int32).toInt = some t5) (h7 : mi_W d 191 t5 [some (.ref l1), some (.int l2), some (.int l3), some (.int l4)] [] (n, sl, f) Q) : mi_W d 191 81 [some (.ref l1), some (.int l2), some (.int l3), some (.int l4)] [] (n, sl, f) Q := by
  refine w_iload_n cd_191_81 rfl ?_
  exact w_tableswitch cd_191_82 h6 h7
theorem b_191_112 {d : Nat} {Q : (Option Value ⊕ Nat) → mi_H → Prop} (n sl : Nat) (f : Nat → mi_C) {l1 : Nat} {l2 : Int32} {l3 : Int32} {l4 : Int32} {fs5 : List Value} {x8 : Nat} {fs10 : List Value} {x13 : Nat} (m15 i15 : Nat) (g15 : Nat → Int64) (h6 : f l1 = .inr (12, fs5)) (h7 : l1 < n) (h9 : fs5[41]? = some (.ref x8)) (h11 : f x8 = .inr (13, fs10)) (h12 : x8 < n) (h14 : fs10[2]? = some (.ref x13)) (h16 : f x13 = .inl (3, m15, .inr (.inl g15))) (h17 : x13 < n) (h18 : mi_ix ((4 * l3) + l4) m15 i15) (h19 : Q (.inl (some (.long (g15 i15)))) (n, sl, f)) : mi_W d 191 112 [some (.ref l1), some (.int l2), some (.int l3), some (.int l4)] [] (n, sl, f) Q := by
  refine w_aload_n cd_191_112 rfl ?_
  refine w_getfield cd_191_113 (show mt_f 12 147 = some (12, 41) by decide +kernel) h6 h7 h9 ?_
  refine w_getfield cd_191_116 (show mt_f 12 448 = some (13, 2) by decide +kernel) h11 h12 h14 ?_
  refine w_iconst (v := 4) cd_191_119 (by decide) ?_
  refine w_iload_n cd_191_120 rfl ?_
  refine w_imul cd_191_121 ?_
  refine w_iload_n cd_191_122 rfl ?_
  refine w_iadd cd_191_123 ?_
  refine w_laload cd_191_124 h16 h17 h18 ?_
  exact w_lreturn cd_191_125 (by decide +kernel) h19
theorem b_191_126 {d : Nat} {Q : (Option Value ⊕ Nat) → mi_H → Prop} (n sl : Nat) (f : Nat → mi_C) {l1 : Nat} {l2 : Int32} {l3 : Int32} {l4 : Int32} {fs5 : List Value} {x8 : Nat} (m10 i10 : Nat) (g10 : Nat → Int64) (h6 : f l1 = .inr (12, fs5)) (h7 : l1 < n) (h9 : fs5[56]? = some (.ref x8)) (h11 : f x8 = .inl (3, m10, .inr (.inl g10))) (h12 : x8 < n) (h13 : mi_ix ((4 * l3) + l4) m10 i10) (h14 : Q (.inl (some (.long (g10 i10)))) (n, sl, f)) : mi_W d 191 126 [some (.ref l1), some (.int l2), some (.int l3), some (.int l4)] [] (n, sl, f) Q := by
  refine w_aload_n cd_191_126 rfl ?_
  refine w_getfield cd_191_127 (show mt_f 12 175 = some (12, 56) by decide +kernel) h6 h7 h9 ?_
  refine w_iconst (v := 4) cd_191_130 (by decide) ?_
  refine w_iload_n cd_191_131 rfl ?_
  refine w_imul cd_191_132 ?_
  refine w_iload_n cd_191_133 rfl ?_
  refine w_iadd cd_191_134 ?_
  refine w_laload cd_191_135 h11 h12 h13 ?_
  exact w_lreturn cd_191_136 (by decide +kernel) h14
theorem b_191_137 {d : Nat} {Q : (Option Value ⊕ Nat) → mi_H → Prop} (n sl : Nat) (f : Nat → mi_C) {l1 : Nat} {l2 : Int32} {l3 : Int32} {l4 : Int32} {fs5 : List Value} {x8 : Nat} {fs10 : List Value} {x13 : Nat} (m15 i15 : Nat) (g15 : Nat → Int32) (h6 : f l1 = .inr (12, fs5)) (h7 : l1 < n) (h9 : fs5[41]? = some (.ref x8)) (h11 : f x8 = .inr (13, fs10)) (h12 : x8 < n) (h14 : fs10[5]? = some (.ref x13)) (h16 : f x13 = .inl (2, m15, .inl g15)) (h17 : x13 < n) (h18 : mi_ix l3 m15 i15) (h19 : (g15 i15) = (0 : Int32) → mi_W d 191 161 [some (.ref l1), some (.int l2), some (.int l3), some (.int l4)] [] (n, sl, f) Q) (h20 : ¬ ((g15 i15) = (0 : Int32)) → mi_W d 191 149 [some (.ref l1), some (.int l2), some (.int l3), some (.int l4)] [] (n, sl, f) Q) : mi_W d 191 137 [some (.ref l1), some (.int l2), some (.int l3), some (.int l4)] [] (n, sl, f) Q := by
  refine w_aload_n cd_191_137 rfl ?_
  refine w_getfield cd_191_138 (show mt_f 12 147 = some (12, 41) by decide +kernel) h6 h7 h9 ?_
  refine w_getfield cd_191_141 (show mt_f 12 459 = some (13, 5) by decide +kernel) h11 h12 h14 ?_
  refine w_iload_n cd_191_144 rfl ?_
  refine w_baload2 cd_191_145 h16 h17 h18 ?_
  exact w_ifeq cd_191_146 (by decide) h19 h20
theorem b_191_149 {d : Nat} {Q : (Option Value ⊕ Nat) → mi_H → Prop} (n sl : Nat) (f : Nat → mi_C) {l1 : Nat} {l2 : Int32} {l3 : Int32} {l4 : Int32} {fs5 : List Value} {x8 : Nat} {fs10 : List Value} {x13 : Nat} (m15 i15 : Nat) (g15 : Nat → Int64) (h6 : f l1 = .inr (12, fs5)) (h7 : l1 < n) (h9 : fs5[41]? = some (.ref x8)) (h11 : f x8 = .inr (13, fs10)) (h12 : x8 < n) (h14 : fs10[3]? = some (.ref x13)) (h16 : f x13 = .inl (3, m15, .inr (.inl g15))) (h17 : x13 < n) (h18 : mi_ix l3 m15 i15) (h19 : mi_W d 191 162 [some (.ref l1), some (.int l2), some (.int l3), some (.int l4)] [.long (g15 i15)] (n, sl, f) Q) : mi_W d 191 149 [some (.ref l1), some (.int l2), some (.int l3), some (.int l4)] [] (n, sl, f) Q := by
  refine w_aload_n cd_191_149 rfl ?_
  refine w_getfield cd_191_150 (show mt_f 12 147 = some (12, 41) by decide +kernel) h6 h7 h9 ?_
  refine w_getfield cd_191_153 (show mt_f 12 463 = some (13, 3) by decide +kernel) h11 h12 h14 ?_
  refine w_iload_n cd_191_156 rfl ?_
  refine w_laload cd_191_157 h16 h17 h18 ?_
  exact w_goto cd_191_158 (by decide) h19
theorem b_191_161 {d : Nat} {Q : (Option Value ⊕ Nat) → mi_H → Prop} (n sl : Nat) (f : Nat → mi_C) {l1 : Nat} {l2 : Int32} {l3 : Int32} {l4 : Int32} (h5 : mi_W d 191 162 [some (.ref l1), some (.int l2), some (.int l3), some (.int l4)] [.long 0] (n, sl, f) Q) : mi_W d 191 161 [some (.ref l1), some (.int l2), some (.int l3), some (.int l4)] [] (n, sl, f) Q := by
  refine w_lconst (lv := 0) cd_191_161 (by decide) ?_
  exact h5
theorem b_191_162 {d : Nat} {Q : (Option Value ⊕ Nat) → mi_H → Prop} (n sl : Nat) (f : Nat → mi_C) {l1 : Nat} {l2 : Int32} {l3 : Int32} {l4 : Int32} {s5 : Int64} (h6 : Q (.inl (some (.long s5))) (n, sl, f)) : mi_W d 191 162 [some (.ref l1), some (.int l2), some (.int l3), some (.int l4)] [.long s5] (n, sl, f) Q := by
  exact w_lreturn cd_191_162 (by decide +kernel) h6
theorem b_191_163 {d : Nat} {Q : (Option Value ⊕ Nat) → mi_H → Prop} (n sl : Nat) (f : Nat → mi_C) {l1 : Nat} {l2 : Int32} {l3 : Int32} {l4 : Int32} {fs5 : List Value} {x8 : Nat} {fs10 : List Value} {x13 : Nat} (m15 i15 : Nat) (g15 : Nat → Int32) (h6 : f l1 = .inr (12, fs5)) (h7 : l1 < n) (h9 : fs5[41]? = some (.ref x8)) (h11 : f x8 = .inr (13, fs10)) (h12 : x8 < n) (h14 : fs10[6]? = some (.ref x13)) (h16 : f x13 = .inl (2, m15, .inl g15)) (h17 : x13 < n) (h18 : mi_ix l3 m15 i15) (h19 : (g15 i15) = (0 : Int32) → mi_W d 191 187 [some (.ref l1), some (.int l2), some (.int l3), some (.int l4)] [] (n, sl, f) Q) (h20 : ¬ ((g15 i15) = (0 : Int32)) → mi_W d 191 175 [some (.ref l1), some (.int l2), some (.int l3), some (.int l4)] [] (n, sl, f) Q) : mi_W d 191 163 [some (.ref l1), some (.int l2), some (.int l3), some (.int l4)] [] (n, sl, f) Q := by
  refine w_aload_n cd_191_163 rfl ?_
  refine w_getfield cd_191_164 (show mt_f 12 147 = some (12, 41) by decide +kernel) h6 h7 h9 ?_
  refine w_getfield cd_191_167 (show mt_f 12 465 = some (13, 6) by decide +kernel) h11 h12 h14 ?_
  refine w_iload_n cd_191_170 rfl ?_
  refine w_baload2 cd_191_171 h16 h17 h18 ?_
  exact w_ifeq cd_191_172 (by decide) h19 h20
theorem b_191_175 {d : Nat} {Q : (Option Value ⊕ Nat) → mi_H → Prop} (n sl : Nat) (f : Nat → mi_C) {l1 : Nat} {l2 : Int32} {l3 : Int32} {l4 : Int32} {fs5 : List Value} {x8 : Nat} {fs10 : List Value} {x13 : Nat} (m15 i15 : Nat) (g15 : Nat → Int64) (h6 : f l1 = .inr (12, fs5)) (h7 : l1 < n) (h9 : fs5[41]? = some (.ref x8)) (h11 : f x8 = .inr (13, fs10)) (h12 : x8 < n) (h14 : fs10[4]? = some (.ref x13)) (h16 : f x13 = .inl (3, m15, .inr (.inl g15))) (h17 : x13 < n) (h18 : mi_ix l3 m15 i15) (h19 : mi_W d 191 188 [some (.ref l1), some (.int l2), some (.int l3), some (.int l4)] [.long (g15 i15)] (n, sl, f) Q) : mi_W d 191 175 [some (.ref l1), some (.int l2), some (.int l3), some (.int l4)] [] (n, sl, f) Q := by
  refine w_aload_n cd_191_175 rfl ?_
  refine w_getfield cd_191_176 (show mt_f 12 147 = some (12, 41) by decide +kernel) h6 h7 h9 ?_
  refine w_getfield cd_191_179 (show mt_f 12 468 = some (13, 4) by decide +kernel) h11 h12 h14 ?_
  refine w_iload_n cd_191_182 rfl ?_
  refine w_laload cd_191_183 h16 h17 h18 ?_
  exact w_goto cd_191_184 (by decide) h19
theorem b_191_187 {d : Nat} {Q : (Option Value ⊕ Nat) → mi_H → Prop} (n sl : Nat) (f : Nat → mi_C) {l1 : Nat} {l2 : Int32} {l3 : Int32} {l4 : Int32} (h5 : mi_W d 191 188 [some (.ref l1), some (.int l2), some (.int l3), some (.int l4)] [.long 0] (n, sl, f) Q) : mi_W d 191 187 [some (.ref l1), some (.int l2), some (.int l3), some (.int l4)] [] (n, sl, f) Q := by
  refine w_lconst (lv := 0) cd_191_187 (by decide) ?_
  exact h5
theorem b_191_188 {d : Nat} {Q : (Option Value ⊕ Nat) → mi_H → Prop} (n sl : Nat) (f : Nat → mi_C) {l1 : Nat} {l2 : Int32} {l3 : Int32} {l4 : Int32} {s5 : Int64} (h6 : Q (.inl (some (.long s5))) (n, sl, f)) : mi_W d 191 188 [some (.ref l1), some (.int l2), some (.int l3), some (.int l4)] [.long s5] (n, sl, f) Q := by
  exact w_lreturn cd_191_188 (by decide +kernel) h6
theorem b_191_189 {d : Nat} {Q : (Option Value ⊕ Nat) → mi_H → Prop} (n sl : Nat) (f : Nat → mi_C) {l1 : Nat} {l2 : Int32} {l3 : Int32} {l4 : Int32} {fs5 : List Value} {x8 : Nat} {fs10 : List Value} {x13 : Int64} (h6 : f l1 = .inr (12, fs5)) (h7 : l1 < n) (h9 : fs5[41]? = some (.ref x8)) (h11 : f x8 = .inr (13, fs10)) (h12 : x8 < n) (h14 : fs10[1]? = some (.long x13)) (h15 : Q (.inl (some (.long x13))) (n, sl, f)) : mi_W d 191 189 [some (.ref l1), some (.int l2), some (.int l3), some (.int l4)] [] (n, sl, f) Q := by
  refine w_aload_n cd_191_189 rfl ?_
  refine w_getfield cd_191_190 (show mt_f 12 147 = some (12, 41) by decide +kernel) h6 h7 h9 ?_
  refine w_getfield cd_191_193 (show mt_f 12 516 = some (13, 1) by decide +kernel) h11 h12 h14 ?_
  exact w_lreturn cd_191_196 (by decide +kernel) h15
/-! MarloweHostModel.analyse()I -/
set_option maxRecDepth 100000 in
theorem mq_192 : mt_q 192 = my_192 := rfl
set_option maxRecDepth 100000 in
theorem ci_192 : mt_inc 0 my_192.cd = true := by decide +kernel
theorem cd_192_0 : mt_cd 192 0 = some (.aload_n 0) := mt_cd_of (q := (0, .aload_n 0, 1)) mq_192 ci_192 (List.mem_append_left _ (show _ ∈ my_192_0 from List.mem_of_getElem? (i := 0) rfl))
theorem cd_192_1 : mt_cd 192 1 = some (.iconst 0) := mt_cd_of (q := (1, .iconst 0, 1)) mq_192 ci_192 (List.mem_append_left _ (show _ ∈ my_192_0 from List.mem_of_getElem? (i := 1) rfl))
theorem cd_192_2 : mt_cd 192 2 = some (.putfield 248) := mt_cd_of (q := (2, .putfield 248, 3)) mq_192 ci_192 (List.mem_append_left _ (show _ ∈ my_192_0 from List.mem_of_getElem? (i := 2) rfl))
theorem cd_192_5 : mt_cd 192 5 = some (.aload_n 0) := mt_cd_of (q := (5, .aload_n 0, 1)) mq_192 ci_192 (List.mem_append_left _ (show _ ∈ my_192_0 from List.mem_of_getElem? (i := 3) rfl))
theorem cd_192_6 : mt_cd 192 6 = some (.aload_n 0) := mt_cd_of (q := (6, .aload_n 0, 1)) mq_192 ci_192 (List.mem_append_left _ (show _ ∈ my_192_0 from List.mem_of_getElem? (i := 4) rfl))
theorem cd_192_7 : mt_cd 192 7 = some (.getfield 13) := mt_cd_of (q := (7, .getfield 13, 3)) mq_192 ci_192 (List.mem_append_left _ (show _ ∈ my_192_0 from List.mem_of_getElem? (i := 5) rfl))
theorem cd_192_10 : mt_cd 192 10 = some (.ifCond .ge 7) := mt_cd_of (q := (10, .ifCond .ge 7, 3)) mq_192 ci_192 (List.mem_append_left _ (show _ ∈ my_192_0 from List.mem_of_getElem? (i := 6) rfl))
theorem cd_192_13 : mt_cd 192 13 = some (.iconst 1) := mt_cd_of (q := (13, .iconst 1, 1)) mq_192 ci_192 (List.mem_append_left _ (show _ ∈ my_192_0 from List.mem_of_getElem? (i := 7) rfl))
theorem cd_192_14 : mt_cd 192 14 = some (.goto 4) := mt_cd_of (q := (14, .goto 4, 3)) mq_192 ci_192 (List.mem_append_left _ (show _ ∈ my_192_0 from List.mem_of_getElem? (i := 8) rfl))
theorem cd_192_17 : mt_cd 192 17 = some (.iconst 0) := mt_cd_of (q := (17, .iconst 0, 1)) mq_192 ci_192 (List.mem_append_left _ (show _ ∈ my_192_0 from List.mem_of_getElem? (i := 9) rfl))
theorem cd_192_18 : mt_cd 192 18 = some (.iconst 1) := mt_cd_of (q := (18, .iconst 1, 1)) mq_192 ci_192 (List.mem_append_left _ (show _ ∈ my_192_0 from List.mem_of_getElem? (i := 10) rfl))
theorem cd_192_19 : mt_cd 192 19 = some (.invokevirtual 254) := mt_cd_of (q := (19, .invokevirtual 254, 3)) mq_192 ci_192 (List.mem_append_left _ (show _ ∈ my_192_0 from List.mem_of_getElem? (i := 11) rfl))
theorem cd_192_22 : mt_cd 192 22 = some (.ifCond .eq 5) := mt_cd_of (q := (22, .ifCond .eq 5, 3)) mq_192 ci_192 (List.mem_append_left _ (show _ ∈ my_192_0 from List.mem_of_getElem? (i := 12) rfl))
theorem cd_192_25 : mt_cd 192 25 = some (.iconst 0) := mt_cd_of (q := (25, .iconst 0, 1)) mq_192 ci_192 (List.mem_append_left _ (show _ ∈ my_192_0 from List.mem_of_getElem? (i := 13) rfl))
theorem cd_192_26 : mt_cd 192 26 = some (.ireturn) := mt_cd_of (q := (26, .ireturn, 1)) mq_192 ci_192 (List.mem_append_left _ (show _ ∈ my_192_0 from List.mem_of_getElem? (i := 14) rfl))
theorem cd_192_27 : mt_cd 192 27 = some (.aload_n 0) := mt_cd_of (q := (27, .aload_n 0, 1)) mq_192 ci_192 (List.mem_append_left _ (show _ ∈ my_192_0 from List.mem_of_getElem? (i := 15) rfl))
theorem cd_192_28 : mt_cd 192 28 = some (.iconst 0) := mt_cd_of (q := (28, .iconst 0, 1)) mq_192 ci_192 (List.mem_append_left _ (show _ ∈ my_192_0 from List.mem_of_getElem? (i := 16) rfl))
theorem cd_192_29 : mt_cd 192 29 = some (.putfield 562) := mt_cd_of (q := (29, .putfield 562, 3)) mq_192 ci_192 (List.mem_append_left _ (show _ ∈ my_192_0 from List.mem_of_getElem? (i := 17) rfl))
theorem cd_192_32 : mt_cd 192 32 = some (.aload_n 0) := mt_cd_of (q := (32, .aload_n 0, 1)) mq_192 ci_192 (List.mem_append_left _ (show _ ∈ my_192_0 from List.mem_of_getElem? (i := 18) rfl))
theorem cd_192_33 : mt_cd 192 33 = some (.iconst 0) := mt_cd_of (q := (33, .iconst 0, 1)) mq_192 ci_192 (List.mem_append_left _ (show _ ∈ my_192_0 from List.mem_of_getElem? (i := 19) rfl))
theorem cd_192_34 : mt_cd 192 34 = some (.putfield 565) := mt_cd_of (q := (34, .putfield 565, 3)) mq_192 ci_192 (List.mem_append_left _ (show _ ∈ my_192_0 from List.mem_of_getElem? (i := 20) rfl))
theorem cd_192_37 : mt_cd 192 37 = some (.aload_n 0) := mt_cd_of (q := (37, .aload_n 0, 1)) mq_192 ci_192 (List.mem_append_left _ (show _ ∈ my_192_0 from List.mem_of_getElem? (i := 21) rfl))
theorem cd_192_38 : mt_cd 192 38 = some (.iconst 0) := mt_cd_of (q := (38, .iconst 0, 1)) mq_192 ci_192 (List.mem_append_left _ (show _ ∈ my_192_0 from List.mem_of_getElem? (i := 22) rfl))
theorem cd_192_39 : mt_cd 192 39 = some (.putfield 568) := mt_cd_of (q := (39, .putfield 568, 3)) mq_192 ci_192 (List.mem_append_left _ (show _ ∈ my_192_0 from List.mem_of_getElem? (i := 23) rfl))
theorem cd_192_42 : mt_cd 192 42 = some (.aload_n 0) := mt_cd_of (q := (42, .aload_n 0, 1)) mq_192 ci_192 (List.mem_append_left _ (show _ ∈ my_192_0 from List.mem_of_getElem? (i := 24) rfl))
theorem cd_192_43 : mt_cd 192 43 = some (.aload_n 0) := mt_cd_of (q := (43, .aload_n 0, 1)) mq_192 ci_192 (List.mem_append_left _ (show _ ∈ my_192_0 from List.mem_of_getElem? (i := 25) rfl))
theorem cd_192_44 : mt_cd 192 44 = some (.getfield 147) := mt_cd_of (q := (44, .getfield 147, 3)) mq_192 ci_192 (List.mem_append_left _ (show _ ∈ my_192_0 from List.mem_of_getElem? (i := 26) rfl))
theorem cd_192_47 : mt_cd 192 47 = some (.getfield 496) := mt_cd_of (q := (47, .getfield 496, 3)) mq_192 ci_192 (List.mem_append_left _ (show _ ∈ my_192_0 from List.mem_of_getElem? (i := 27) rfl))
theorem cd_192_50 : mt_cd 192 50 = some (.invokevirtual 557) := mt_cd_of (q := (50, .invokevirtual 557, 3)) mq_192 ci_192 (List.mem_append_left _ (show _ ∈ my_192_0 from List.mem_of_getElem? (i := 28) rfl))
theorem cd_192_53 : mt_cd 192 53 = some (.ifCond .eq 5) := mt_cd_of (q := (53, .ifCond .eq 5, 3)) mq_192 ci_192 (List.mem_append_left _ (show _ ∈ my_192_0 from List.mem_of_getElem? (i := 29) rfl))
theorem cd_192_56 : mt_cd 192 56 = some (.iconst 3) := mt_cd_of (q := (56, .iconst 3, 1)) mq_192 ci_192 (List.mem_append_left _ (show _ ∈ my_192_0 from List.mem_of_getElem? (i := 30) rfl))
theorem cd_192_57 : mt_cd 192 57 = some (.ireturn) := mt_cd_of (q := (57, .ireturn, 1)) mq_192 ci_192 (List.mem_append_left _ (show _ ∈ my_192_0 from List.mem_of_getElem? (i := 31) rfl))
theorem cd_192_58 : mt_cd 192 58 = some (.aload_n 0) := mt_cd_of (q := (58, .aload_n 0, 1)) mq_192 ci_192 (List.mem_append_left _ (show _ ∈ my_192_0 from List.mem_of_getElem? (i := 32) rfl))
theorem cd_192_59 : mt_cd 192 59 = some (.iconst 0) := mt_cd_of (q := (59, .iconst 0, 1)) mq_192 ci_192 (List.mem_append_left _ (show _ ∈ my_192_0 from List.mem_of_getElem? (i := 33) rfl))
theorem cd_192_60 : mt_cd 192 60 = some (.putfield 513) := mt_cd_of (q := (60, .putfield 513, 3)) mq_192 ci_192 (List.mem_append_left _ (show _ ∈ my_192_0 from List.mem_of_getElem? (i := 34) rfl))
theorem cd_192_63 : mt_cd 192 63 = some (.aload_n 0) := mt_cd_of (q := (63, .aload_n 0, 1)) mq_192 ci_192 (List.mem_append_left _ (show _ ∈ my_192_0 from List.mem_of_getElem? (i := 35) rfl))
theorem cd_192_64 : mt_cd 192 64 = some (.getfield 258) := mt_cd_of (q := (64, .getfield 258, 3)) mq_192 ci_192 (List.mem_append_left _ (show _ ∈ my_192_0 from List.mem_of_getElem? (i := 36) rfl))
theorem cd_192_67 : mt_cd 192 67 = some (.istore_n 1) := mt_cd_of (q := (67, .istore_n 1, 1)) mq_192 ci_192 (List.mem_append_left _ (show _ ∈ my_192_0 from List.mem_of_getElem? (i := 37) rfl))
theorem cd_192_68 : mt_cd 192 68 = some (.iconst 0) := mt_cd_of (q := (68, .iconst 0, 1)) mq_192 ci_192 (List.mem_append_left _ (show _ ∈ my_192_0 from List.mem_of_getElem? (i := 38) rfl))
theorem cd_192_69 : mt_cd 192 69 = some (.istore_n 2) := mt_cd_of (q := (69, .istore_n 2, 1)) mq_192 ci_192 (List.mem_append_left _ (show _ ∈ my_192_0 from List.mem_of_getElem? (i := 39) rfl))
theorem cd_192_70 : mt_cd 192 70 = some (.iload_n 2) := mt_cd_of (q := (70, .iload_n 2, 1)) mq_192 ci_192 (List.mem_append_left _ (show _ ∈ my_192_0 from List.mem_of_getElem? (i := 40) rfl))
theorem cd_192_71 : mt_cd 192 71 = some (.iload_n 1) := mt_cd_of (q := (71, .iload_n 1, 1)) mq_192 ci_192 (List.mem_append_left _ (show _ ∈ my_192_0 from List.mem_of_getElem? (i := 41) rfl))
theorem cd_192_72 : mt_cd 192 72 = some (.if_icmp .ge 69) := mt_cd_of (q := (72, .if_icmp .ge 69, 3)) mq_192 ci_192 (List.mem_append_left _ (show _ ∈ my_192_0 from List.mem_of_getElem? (i := 42) rfl))
theorem cd_192_75 : mt_cd 192 75 = some (.aload_n 0) := mt_cd_of (q := (75, .aload_n 0, 1)) mq_192 ci_192 (List.mem_append_left _ (show _ ∈ my_192_0 from List.mem_of_getElem? (i := 43) rfl))
theorem cd_192_76 : mt_cd 192 76 = some (.getfield 233) := mt_cd_of (q := (76, .getfield 233, 3)) mq_192 ci_192 (List.mem_append_left _ (show _ ∈ my_192_0 from List.mem_of_getElem? (i := 44) rfl))
theorem cd_192_79 : mt_cd 192 79 = some (.iload_n 2) := mt_cd_of (q := (79, .iload_n 2, 1)) mq_192 ci_192 (List.mem_append_left _ (show _ ∈ my_192_0 from List.mem_of_getElem? (i := 45) rfl))
theorem cd_192_80 : mt_cd 192 80 = some (.aload_n 0) := mt_cd_of (q := (80, .aload_n 0, 1)) mq_192 ci_192 (List.mem_append_left _ (show _ ∈ my_192_0 from List.mem_of_getElem? (i := 46) rfl))
theorem cd_192_81 : mt_cd 192 81 = some (.getfield 178) := mt_cd_of (q := (81, .getfield 178, 3)) mq_192 ci_192 (List.mem_append_left _ (show _ ∈ my_192_0 from List.mem_of_getElem? (i := 47) rfl))
theorem cd_192_84 : mt_cd 192 84 = some (.iload_n 2) := mt_cd_of (q := (84, .iload_n 2, 1)) mq_192 ci_192 (List.mem_append_left _ (show _ ∈ my_192_0 from List.mem_of_getElem? (i := 48) rfl))
theorem cd_192_85 : mt_cd 192 85 = some (.iaload) := mt_cd_of (q := (85, .iaload, 1)) mq_192 ci_192 (List.mem_append_left _ (show _ ∈ my_192_0 from List.mem_of_getElem? (i := 49) rfl))
theorem cd_192_86 : mt_cd 192 86 = some (.iastore) := mt_cd_of (q := (86, .iastore, 1)) mq_192 ci_192 (List.mem_append_left _ (show _ ∈ my_192_0 from List.mem_of_getElem? (i := 50) rfl))
theorem cd_192_87 : mt_cd 192 87 = some (.aload_n 0) := mt_cd_of (q := (87, .aload_n 0, 1)) mq_192 ci_192 (List.mem_append_left _ (show _ ∈ my_192_0 from List.mem_of_getElem? (i := 51) rfl))
theorem cd_192_88 : mt_cd 192 88 = some (.getfield 236) := mt_cd_of (q := (88, .getfield 236, 3)) mq_192 ci_192 (List.mem_append_left _ (show _ ∈ my_192_0 from List.mem_of_getElem? (i := 52) rfl))
theorem cd_192_91 : mt_cd 192 91 = some (.iload_n 2) := mt_cd_of (q := (91, .iload_n 2, 1)) mq_192 ci_192 (List.mem_append_left _ (show _ ∈ my_192_0 from List.mem_of_getElem? (i := 53) rfl))
theorem cd_192_92 : mt_cd 192 92 = some (.aload_n 0) := mt_cd_of (q := (92, .aload_n 0, 1)) mq_192 ci_192 (List.mem_append_left _ (show _ ∈ my_192_0 from List.mem_of_getElem? (i := 54) rfl))
theorem cd_192_93 : mt_cd 192 93 = some (.getfield 181) := mt_cd_of (q := (93, .getfield 181, 3)) mq_192 ci_192 (List.mem_append_left _ (show _ ∈ my_192_0 from List.mem_of_getElem? (i := 55) rfl))
theorem cd_192_96 : mt_cd 192 96 = some (.iload_n 2) := mt_cd_of (q := (96, .iload_n 2, 1)) mq_192 ci_192 (List.mem_append_left _ (show _ ∈ my_192_0 from List.mem_of_getElem? (i := 56) rfl))
theorem cd_192_97 : mt_cd 192 97 = some (.iaload) := mt_cd_of (q := (97, .iaload, 1)) mq_192 ci_192 (List.mem_append_left _ (show _ ∈ my_192_0 from List.mem_of_getElem? (i := 57) rfl))
theorem cd_192_98 : mt_cd 192 98 = some (.iastore) := mt_cd_of (q := (98, .iastore, 1)) mq_192 ci_192 (List.mem_append_left _ (show _ ∈ my_192_0 from List.mem_of_getElem? (i := 58) rfl))
theorem cd_192_99 : mt_cd 192 99 = some (.aload_n 0) := mt_cd_of (q := (99, .aload_n 0, 1)) mq_192 ci_192 (List.mem_append_left _ (show _ ∈ my_192_0 from List.mem_of_getElem? (i := 59) rfl))
theorem cd_192_100 : mt_cd 192 100 = some (.getfield 239) := mt_cd_of (q := (100, .getfield 239, 3)) mq_192 ci_192 (List.mem_append_right _ (List.mem_append_left _ (show _ ∈ my_192_1 from List.mem_of_getElem? (i := 0) rfl)))
theorem cd_192_103 : mt_cd 192 103 = some (.iload_n 2) := mt_cd_of (q := (103, .iload_n 2, 1)) mq_192 ci_192 (List.mem_append_right _ (List.mem_append_left _ (show _ ∈ my_192_1 from List.mem_of_getElem? (i := 1) rfl)))
theorem cd_192_104 : mt_cd 192 104 = some (.aload_n 0) := mt_cd_of (q := (104, .aload_n 0, 1)) mq_192 ci_192 (List.mem_append_right _ (List.mem_append_left _ (show _ ∈ my_192_1 from List.mem_of_getElem? (i := 2) rfl)))
theorem cd_192_105 : mt_cd 192 105 = some (.getfield 184) := mt_cd_of (q := (105, .getfield 184, 3)) mq_192 ci_192 (List.mem_append_right _ (List.mem_append_left _ (show _ ∈ my_192_1 from List.mem_of_getElem? (i := 3) rfl)))
theorem cd_192_108 : mt_cd 192 108 = some (.iload_n 2) := mt_cd_of (q := (108, .iload_n 2, 1)) mq_192 ci_192 (List.mem_append_right _ (List.mem_append_left _ (show _ ∈ my_192_1 from List.mem_of_getElem? (i := 4) rfl)))
theorem cd_192_109 : mt_cd 192 109 = some (.iaload) := mt_cd_of (q := (109, .iaload, 1)) mq_192 ci_192 (List.mem_append_right _ (List.mem_append_left _ (show _ ∈ my_192_1 from List.mem_of_getElem? (i := 5) rfl)))
theorem cd_192_110 : mt_cd 192 110 = some (.iastore) := mt_cd_of (q := (110, .iastore, 1)) mq_192 ci_192 (List.mem_append_right _ (List.mem_append_left _ (show _ ∈ my_192_1 from List.mem_of_getElem? (i := 6) rfl)))
theorem cd_192_111 : mt_cd 192 111 = some (.aload_n 0) := mt_cd_of (q := (111, .aload_n 0, 1)) mq_192 ci_192 (List.mem_append_right _ (List.mem_append_left _ (show _ ∈ my_192_1 from List.mem_of_getElem? (i := 7) rfl)))
theorem cd_192_112 : mt_cd 192 112 = some (.getfield 242) := mt_cd_of (q := (112, .getfield 242, 3)) mq_192 ci_192 (List.mem_append_right _ (List.mem_append_left _ (show _ ∈ my_192_1 from List.mem_of_getElem? (i := 8) rfl)))
theorem cd_192_115 : mt_cd 192 115 = some (.iload_n 2) := mt_cd_of (q := (115, .iload_n 2, 1)) mq_192 ci_192 (List.mem_append_right _ (List.mem_append_left _ (show _ ∈ my_192_1 from List.mem_of_getElem? (i := 9) rfl)))
theorem cd_192_116 : mt_cd 192 116 = some (.aload_n 0) := mt_cd_of (q := (116, .aload_n 0, 1)) mq_192 ci_192 (List.mem_append_right _ (List.mem_append_left _ (show _ ∈ my_192_1 from List.mem_of_getElem? (i := 10) rfl)))
theorem cd_192_117 : mt_cd 192 117 = some (.getfield 187) := mt_cd_of (q := (117, .getfield 187, 3)) mq_192 ci_192 (List.mem_append_right _ (List.mem_append_left _ (show _ ∈ my_192_1 from List.mem_of_getElem? (i := 11) rfl)))
theorem cd_192_120 : mt_cd 192 120 = some (.iload_n 2) := mt_cd_of (q := (120, .iload_n 2, 1)) mq_192 ci_192 (List.mem_append_right _ (List.mem_append_left _ (show _ ∈ my_192_1 from List.mem_of_getElem? (i := 12) rfl)))
theorem cd_192_121 : mt_cd 192 121 = some (.iaload) := mt_cd_of (q := (121, .iaload, 1)) mq_192 ci_192 (List.mem_append_right _ (List.mem_append_left _ (show _ ∈ my_192_1 from List.mem_of_getElem? (i := 13) rfl)))
theorem cd_192_122 : mt_cd 192 122 = some (.iastore) := mt_cd_of (q := (122, .iastore, 1)) mq_192 ci_192 (List.mem_append_right _ (List.mem_append_left _ (show _ ∈ my_192_1 from List.mem_of_getElem? (i := 14) rfl)))
theorem cd_192_123 : mt_cd 192 123 = some (.aload_n 0) := mt_cd_of (q := (123, .aload_n 0, 1)) mq_192 ci_192 (List.mem_append_right _ (List.mem_append_left _ (show _ ∈ my_192_1 from List.mem_of_getElem? (i := 15) rfl)))
theorem cd_192_124 : mt_cd 192 124 = some (.getfield 245) := mt_cd_of (q := (124, .getfield 245, 3)) mq_192 ci_192 (List.mem_append_right _ (List.mem_append_left _ (show _ ∈ my_192_1 from List.mem_of_getElem? (i := 16) rfl)))
theorem cd_192_127 : mt_cd 192 127 = some (.iload_n 2) := mt_cd_of (q := (127, .iload_n 2, 1)) mq_192 ci_192 (List.mem_append_right _ (List.mem_append_left _ (show _ ∈ my_192_1 from List.mem_of_getElem? (i := 17) rfl)))
theorem cd_192_128 : mt_cd 192 128 = some (.aload_n 0) := mt_cd_of (q := (128, .aload_n 0, 1)) mq_192 ci_192 (List.mem_append_right _ (List.mem_append_left _ (show _ ∈ my_192_1 from List.mem_of_getElem? (i := 18) rfl)))
theorem cd_192_129 : mt_cd 192 129 = some (.getfield 190) := mt_cd_of (q := (129, .getfield 190, 3)) mq_192 ci_192 (List.mem_append_right _ (List.mem_append_left _ (show _ ∈ my_192_1 from List.mem_of_getElem? (i := 19) rfl)))
theorem cd_192_132 : mt_cd 192 132 = some (.iload_n 2) := mt_cd_of (q := (132, .iload_n 2, 1)) mq_192 ci_192 (List.mem_append_right _ (List.mem_append_left _ (show _ ∈ my_192_1 from List.mem_of_getElem? (i := 20) rfl)))
theorem cd_192_133 : mt_cd 192 133 = some (.laload) := mt_cd_of (q := (133, .laload, 1)) mq_192 ci_192 (List.mem_append_right _ (List.mem_append_left _ (show _ ∈ my_192_1 from List.mem_of_getElem? (i := 21) rfl)))
theorem cd_192_134 : mt_cd 192 134 = some (.lastore) := mt_cd_of (q := (134, .lastore, 1)) mq_192 ci_192 (List.mem_append_right _ (List.mem_append_left _ (show _ ∈ my_192_1 from List.mem_of_getElem? (i := 22) rfl)))
theorem cd_192_135 : mt_cd 192 135 = some (.iinc 2 1) := mt_cd_of (q := (135, .iinc 2 1, 3)) mq_192 ci_192 (List.mem_append_right _ (List.mem_append_left _ (show _ ∈ my_192_1 from List.mem_of_getElem? (i := 23) rfl)))
theorem cd_192_138 : mt_cd 192 138 = some (.goto (-68)) := mt_cd_of (q := (138, .goto (-68), 3)) mq_192 ci_192 (List.mem_append_right _ (List.mem_append_left _ (show _ ∈ my_192_1 from List.mem_of_getElem? (i := 24) rfl)))
theorem cd_192_141 : mt_cd 192 141 = some (.aload_n 0) := mt_cd_of (q := (141, .aload_n 0, 1)) mq_192 ci_192 (List.mem_append_right _ (List.mem_append_left _ (show _ ∈ my_192_1 from List.mem_of_getElem? (i := 25) rfl)))
theorem cd_192_142 : mt_cd 192 142 = some (.aload_n 0) := mt_cd_of (q := (142, .aload_n 0, 1)) mq_192 ci_192 (List.mem_append_right _ (List.mem_append_left _ (show _ ∈ my_192_1 from List.mem_of_getElem? (i := 26) rfl)))
theorem cd_192_143 : mt_cd 192 143 = some (.getfield 147) := mt_cd_of (q := (143, .getfield 147, 3)) mq_192 ci_192 (List.mem_append_right _ (List.mem_append_left _ (show _ ∈ my_192_1 from List.mem_of_getElem? (i := 27) rfl)))
theorem cd_192_146 : mt_cd 192 146 = some (.invokevirtual 571) := mt_cd_of (q := (146, .invokevirtual 571, 3)) mq_192 ci_192 (List.mem_append_right _ (List.mem_append_left _ (show _ ∈ my_192_1 from List.mem_of_getElem? (i := 28) rfl)))
theorem cd_192_149 : mt_cd 192 149 = some (.istore_n 2) := mt_cd_of (q := (149, .istore_n 2, 1)) mq_192 ci_192 (List.mem_append_right _ (List.mem_append_left _ (show _ ∈ my_192_1 from List.mem_of_getElem? (i := 29) rfl)))
theorem cd_192_150 : mt_cd 192 150 = some (.aload_n 0) := mt_cd_of (q := (150, .aload_n 0, 1)) mq_192 ci_192 (List.mem_append_right _ (List.mem_append_left _ (show _ ∈ my_192_1 from List.mem_of_getElem? (i := 30) rfl)))
theorem cd_192_151 : mt_cd 192 151 = some (.iload_n 1) := mt_cd_of (q := (151, .iload_n 1, 1)) mq_192 ci_192 (List.mem_append_right _ (List.mem_append_left _ (show _ ∈ my_192_1 from List.mem_of_getElem? (i := 31) rfl)))
theorem cd_192_152 : mt_cd 192 152 = some (.putfield 258) := mt_cd_of (q := (152, .putfield 258, 3)) mq_192 ci_192 (List.mem_append_right _ (List.mem_append_left _ (show _ ∈ my_192_1 from List.mem_of_getElem? (i := 32) rfl)))
theorem cd_192_155 : mt_cd 192 155 = some (.iconst 0) := mt_cd_of (q := (155, .iconst 0, 1)) mq_192 ci_192 (List.mem_append_right _ (List.mem_append_left _ (show _ ∈ my_192_1 from List.mem_of_getElem? (i := 33) rfl)))
theorem cd_192_156 : mt_cd 192 156 = some (.istore_n 3) := mt_cd_of (q := (156, .istore_n 3, 1)) mq_192 ci_192 (List.mem_append_right _ (List.mem_append_left _ (show _ ∈ my_192_1 from List.mem_of_getElem? (i := 34) rfl)))
theorem cd_192_157 : mt_cd 192 157 = some (.iload_n 3) := mt_cd_of (q := (157, .iload_n 3, 1)) mq_192 ci_192 (List.mem_append_right _ (List.mem_append_left _ (show _ ∈ my_192_1 from List.mem_of_getElem? (i := 35) rfl)))
theorem cd_192_158 : mt_cd 192 158 = some (.iload_n 1) := mt_cd_of (q := (158, .iload_n 1, 1)) mq_192 ci_192 (List.mem_append_right _ (List.mem_append_left _ (show _ ∈ my_192_1 from List.mem_of_getElem? (i := 36) rfl)))
theorem cd_192_159 : mt_cd 192 159 = some (.if_icmp .ge 69) := mt_cd_of (q := (159, .if_icmp .ge 69, 3)) mq_192 ci_192 (List.mem_append_right _ (List.mem_append_left _ (show _ ∈ my_192_1 from List.mem_of_getElem? (i := 37) rfl)))
theorem cd_192_162 : mt_cd 192 162 = some (.aload_n 0) := mt_cd_of (q := (162, .aload_n 0, 1)) mq_192 ci_192 (List.mem_append_right _ (List.mem_append_left _ (show _ ∈ my_192_1 from List.mem_of_getElem? (i := 38) rfl)))
theorem cd_192_163 : mt_cd 192 163 = some (.getfield 178) := mt_cd_of (q := (163, .getfield 178, 3)) mq_192 ci_192 (List.mem_append_right _ (List.mem_append_left _ (show _ ∈ my_192_1 from List.mem_of_getElem? (i := 39) rfl)))
theorem cd_192_166 : mt_cd 192 166 = some (.iload_n 3) := mt_cd_of (q := (166, .iload_n 3, 1)) mq_192 ci_192 (List.mem_append_right _ (List.mem_append_left _ (show _ ∈ my_192_1 from List.mem_of_getElem? (i := 40) rfl)))
theorem cd_192_167 : mt_cd 192 167 = some (.aload_n 0) := mt_cd_of (q := (167, .aload_n 0, 1)) mq_192 ci_192 (List.mem_append_right _ (List.mem_append_left _ (show _ ∈ my_192_1 from List.mem_of_getElem? (i := 41) rfl)))
theorem cd_192_168 : mt_cd 192 168 = some (.getfield 233) := mt_cd_of (q := (168, .getfield 233, 3)) mq_192 ci_192 (List.mem_append_right _ (List.mem_append_left _ (show _ ∈ my_192_1 from List.mem_of_getElem? (i := 42) rfl)))
theorem cd_192_171 : mt_cd 192 171 = some (.iload_n 3) := mt_cd_of (q := (171, .iload_n 3, 1)) mq_192 ci_192 (List.mem_append_right _ (List.mem_append_left _ (show _ ∈ my_192_1 from List.mem_of_getElem? (i := 43) rfl)))
theorem cd_192_172 : mt_cd 192 172 = some (.iaload) := mt_cd_of (q := (172, .iaload, 1)) mq_192 ci_192 (List.mem_append_right _ (List.mem_append_left _ (show _ ∈ my_192_1 from List.mem_of_getElem? (i := 44) rfl)))
theorem cd_192_173 : mt_cd 192 173 = some (.iastore) := mt_cd_of (q := (173, .iastore, 1)) mq_192 ci_192 (List.mem_append_right _ (List.mem_append_left _ (show _ ∈ my_192_1 from List.mem_of_getElem? (i := 45) rfl)))
theorem cd_192_174 : mt_cd 192 174 = some (.aload_n 0) := mt_cd_of (q := (174, .aload_n 0, 1)) mq_192 ci_192 (List.mem_append_right _ (List.mem_append_left _ (show _ ∈ my_192_1 from List.mem_of_getElem? (i := 46) rfl)))
theorem cd_192_175 : mt_cd 192 175 = some (.getfield 181) := mt_cd_of (q := (175, .getfield 181, 3)) mq_192 ci_192 (List.mem_append_right _ (List.mem_append_left _ (show _ ∈ my_192_1 from List.mem_of_getElem? (i := 47) rfl)))
theorem cd_192_178 : mt_cd 192 178 = some (.iload_n 3) := mt_cd_of (q := (178, .iload_n 3, 1)) mq_192 ci_192 (List.mem_append_right _ (List.mem_append_left _ (show _ ∈ my_192_1 from List.mem_of_getElem? (i := 48) rfl)))
theorem cd_192_179 : mt_cd 192 179 = some (.aload_n 0) := mt_cd_of (q := (179, .aload_n 0, 1)) mq_192 ci_192 (List.mem_append_right _ (List.mem_append_left _ (show _ ∈ my_192_1 from List.mem_of_getElem? (i := 49) rfl)))
theorem cd_192_180 : mt_cd 192 180 = some (.getfield 236) := mt_cd_of (q := (180, .getfield 236, 3)) mq_192 ci_192 (List.mem_append_right _ (List.mem_append_left _ (show _ ∈ my_192_1 from List.mem_of_getElem? (i := 50) rfl)))
theorem cd_192_183 : mt_cd 192 183 = some (.iload_n 3) := mt_cd_of (q := (183, .iload_n 3, 1)) mq_192 ci_192 (List.mem_append_right _ (List.mem_append_left _ (show _ ∈ my_192_1 from List.mem_of_getElem? (i := 51) rfl)))
theorem cd_192_184 : mt_cd 192 184 = some (.iaload) := mt_cd_of (q := (184, .iaload, 1)) mq_192 ci_192 (List.mem_append_right _ (List.mem_append_left _ (show _ ∈ my_192_1 from List.mem_of_getElem? (i := 52) rfl)))
theorem cd_192_185 : mt_cd 192 185 = some (.iastore) := mt_cd_of (q := (185, .iastore, 1)) mq_192 ci_192 (List.mem_append_right _ (List.mem_append_left _ (show _ ∈ my_192_1 from List.mem_of_getElem? (i := 53) rfl)))
theorem cd_192_186 : mt_cd 192 186 = some (.aload_n 0) := mt_cd_of (q := (186, .aload_n 0, 1)) mq_192 ci_192 (List.mem_append_right _ (List.mem_append_left _ (show _ ∈ my_192_1 from List.mem_of_getElem? (i := 54) rfl)))
theorem cd_192_187 : mt_cd 192 187 = some (.getfield 184) := mt_cd_of (q := (187, .getfield 184, 3)) mq_192 ci_192 (List.mem_append_right _ (List.mem_append_left _ (show _ ∈ my_192_1 from List.mem_of_getElem? (i := 55) rfl)))
theorem cd_192_190 : mt_cd 192 190 = some (.iload_n 3) := mt_cd_of (q := (190, .iload_n 3, 1)) mq_192 ci_192 (List.mem_append_right _ (List.mem_append_left _ (show _ ∈ my_192_1 from List.mem_of_getElem? (i := 56) rfl)))
theorem cd_192_191 : mt_cd 192 191 = some (.aload_n 0) := mt_cd_of (q := (191, .aload_n 0, 1)) mq_192 ci_192 (List.mem_append_right _ (List.mem_append_left _ (show _ ∈ my_192_1 from List.mem_of_getElem? (i := 57) rfl)))
theorem cd_192_192 : mt_cd 192 192 = some (.getfield 239) := mt_cd_of (q := (192, .getfield 239, 3)) mq_192 ci_192 (List.mem_append_right _ (List.mem_append_left _ (show _ ∈ my_192_1 from List.mem_of_getElem? (i := 58) rfl)))
theorem cd_192_195 : mt_cd 192 195 = some (.iload_n 3) := mt_cd_of (q := (195, .iload_n 3, 1)) mq_192 ci_192 (List.mem_append_right _ (List.mem_append_left _ (show _ ∈ my_192_1 from List.mem_of_getElem? (i := 59) rfl)))
theorem cd_192_196 : mt_cd 192 196 = some (.iaload) := mt_cd_of (q := (196, .iaload, 1)) mq_192 ci_192 (List.mem_append_right _ (List.mem_append_right _ ((show _ ∈ my_192_2 from List.mem_of_getElem? (i := 0) rfl))))
theorem cd_192_197 : mt_cd 192 197 = some (.iastore) := mt_cd_of (q := (197, .iastore, 1)) mq_192 ci_192 (List.mem_append_right _ (List.mem_append_right _ ((show _ ∈ my_192_2 from List.mem_of_getElem? (i := 1) rfl))))
theorem cd_192_198 : mt_cd 192 198 = some (.aload_n 0) := mt_cd_of (q := (198, .aload_n 0, 1)) mq_192 ci_192 (List.mem_append_right _ (List.mem_append_right _ ((show _ ∈ my_192_2 from List.mem_of_getElem? (i := 2) rfl))))
theorem cd_192_199 : mt_cd 192 199 = some (.getfield 187) := mt_cd_of (q := (199, .getfield 187, 3)) mq_192 ci_192 (List.mem_append_right _ (List.mem_append_right _ ((show _ ∈ my_192_2 from List.mem_of_getElem? (i := 3) rfl))))
theorem cd_192_202 : mt_cd 192 202 = some (.iload_n 3) := mt_cd_of (q := (202, .iload_n 3, 1)) mq_192 ci_192 (List.mem_append_right _ (List.mem_append_right _ ((show _ ∈ my_192_2 from List.mem_of_getElem? (i := 4) rfl))))
theorem cd_192_203 : mt_cd 192 203 = some (.aload_n 0) := mt_cd_of (q := (203, .aload_n 0, 1)) mq_192 ci_192 (List.mem_append_right _ (List.mem_append_right _ ((show _ ∈ my_192_2 from List.mem_of_getElem? (i := 5) rfl))))
theorem cd_192_204 : mt_cd 192 204 = some (.getfield 242) := mt_cd_of (q := (204, .getfield 242, 3)) mq_192 ci_192 (List.mem_append_right _ (List.mem_append_right _ ((show _ ∈ my_192_2 from List.mem_of_getElem? (i := 6) rfl))))
theorem cd_192_207 : mt_cd 192 207 = some (.iload_n 3) := mt_cd_of (q := (207, .iload_n 3, 1)) mq_192 ci_192 (List.mem_append_right _ (List.mem_append_right _ ((show _ ∈ my_192_2 from List.mem_of_getElem? (i := 7) rfl))))
theorem cd_192_208 : mt_cd 192 208 = some (.iaload) := mt_cd_of (q := (208, .iaload, 1)) mq_192 ci_192 (List.mem_append_right _ (List.mem_append_right _ ((show _ ∈ my_192_2 from List.mem_of_getElem? (i := 8) rfl))))
theorem cd_192_209 : mt_cd 192 209 = some (.iastore) := mt_cd_of (q := (209, .iastore, 1)) mq_192 ci_192 (List.mem_append_right _ (List.mem_append_right _ ((show _ ∈ my_192_2 from List.mem_of_getElem? (i := 9) rfl))))
theorem cd_192_210 : mt_cd 192 210 = some (.aload_n 0) := mt_cd_of (q := (210, .aload_n 0, 1)) mq_192 ci_192 (List.mem_append_right _ (List.mem_append_right _ ((show _ ∈ my_192_2 from List.mem_of_getElem? (i := 10) rfl))))
theorem cd_192_211 : mt_cd 192 211 = some (.getfield 190) := mt_cd_of (q := (211, .getfield 190, 3)) mq_192 ci_192 (List.mem_append_right _ (List.mem_append_right _ ((show _ ∈ my_192_2 from List.mem_of_getElem? (i := 11) rfl))))
theorem cd_192_214 : mt_cd 192 214 = some (.iload_n 3) := mt_cd_of (q := (214, .iload_n 3, 1)) mq_192 ci_192 (List.mem_append_right _ (List.mem_append_right _ ((show _ ∈ my_192_2 from List.mem_of_getElem? (i := 12) rfl))))
theorem cd_192_215 : mt_cd 192 215 = some (.aload_n 0) := mt_cd_of (q := (215, .aload_n 0, 1)) mq_192 ci_192 (List.mem_append_right _ (List.mem_append_right _ ((show _ ∈ my_192_2 from List.mem_of_getElem? (i := 13) rfl))))
theorem cd_192_216 : mt_cd 192 216 = some (.getfield 245) := mt_cd_of (q := (216, .getfield 245, 3)) mq_192 ci_192 (List.mem_append_right _ (List.mem_append_right _ ((show _ ∈ my_192_2 from List.mem_of_getElem? (i := 14) rfl))))
theorem cd_192_219 : mt_cd 192 219 = some (.iload_n 3) := mt_cd_of (q := (219, .iload_n 3, 1)) mq_192 ci_192 (List.mem_append_right _ (List.mem_append_right _ ((show _ ∈ my_192_2 from List.mem_of_getElem? (i := 15) rfl))))
theorem cd_192_220 : mt_cd 192 220 = some (.laload) := mt_cd_of (q := (220, .laload, 1)) mq_192 ci_192 (List.mem_append_right _ (List.mem_append_right _ ((show _ ∈ my_192_2 from List.mem_of_getElem? (i := 16) rfl))))
theorem cd_192_221 : mt_cd 192 221 = some (.lastore) := mt_cd_of (q := (221, .lastore, 1)) mq_192 ci_192 (List.mem_append_right _ (List.mem_append_right _ ((show _ ∈ my_192_2 from List.mem_of_getElem? (i := 17) rfl))))
theorem cd_192_222 : mt_cd 192 222 = some (.iinc 3 1) := mt_cd_of (q := (222, .iinc 3 1, 3)) mq_192 ci_192 (List.mem_append_right _ (List.mem_append_right _ ((show _ ∈ my_192_2 from List.mem_of_getElem? (i := 18) rfl))))
theorem cd_192_225 : mt_cd 192 225 = some (.goto (-68)) := mt_cd_of (q := (225, .goto (-68), 3)) mq_192 ci_192 (List.mem_append_right _ (List.mem_append_right _ ((show _ ∈ my_192_2 from List.mem_of_getElem? (i := 19) rfl))))
theorem cd_192_228 : mt_cd 192 228 = some (.iload_n 2) := mt_cd_of (q := (228, .iload_n 2, 1)) mq_192 ci_192 (List.mem_append_right _ (List.mem_append_right _ ((show _ ∈ my_192_2 from List.mem_of_getElem? (i := 20) rfl))))
theorem cd_192_229 : mt_cd 192 229 = some (.ireturn) := mt_cd_of (q := (229, .ireturn, 1)) mq_192 ci_192 (List.mem_append_right _ (List.mem_append_right _ ((show _ ∈ my_192_2 from List.mem_of_getElem? (i := 21) rfl))))
theorem b_192_0 {d : Nat} {Q : (Option Value ⊕ Nat) → mi_H → Prop} (n sl : Nat) (f : Nat → mi_C) {l1 : Nat} {o2 : Option Value} {o3 : Option Value} {o4 : Option Value} {fs5 : List Value} {fs9 : List Value} {x12 : Int32} (h6 : f l1 = .inr (12, fs5)) (h7 : l1 < n) (h8 : 0 < fs5.length) (h10 : (va_up f l1 (.inr (12, fs5.set 0 (.int 0)))) l1 = .inr (12, fs9)) (h11 : l1 < n) (h13 : fs9[4]? = some (.int x12)) (h14 : (0 : Int32) ≤ x12 → mi_W d 192 17 [some (.ref l1), o2, o3, o4] [.ref l1] (n, sl, (va_up f l1 (.inr (12, fs5.set 0 (.int 0))))) Q) (h15 : ¬ ((0 : Int32) ≤ x12) → mi_W d 192 13 [some (.ref l1), o2, o3, o4] [.ref l1] (n, sl, (va_up f l1 (.inr (12, fs5.set 0 (.int 0))))) Q) : mi_W d 192 0 [some (.ref l1), o2, o3, o4] [] (n, sl, f) Q := by
  refine w_aload_n cd_192_0 rfl ?_
  refine w_iconst (v := 0) cd_192_1 (by decide) ?_
  refine w_putfield (w := .int 0) cd_192_2 (show mt_f 12 248 = some (12, 0) by decide +kernel) h6 h7 ⟨h8, rfl, Or.inl (by decide)⟩ ?_
  refine w_aload_n cd_192_5 rfl ?_
  refine w_aload_n cd_192_6 rfl ?_
  refine w_getfield cd_192_7 (show mt_f 12 13 = some (12, 4) by decide +kernel) h10 h11 h13 ?_
  exact w_ifge cd_192_10 (by decide) h14 h15
theorem b_192_13 {d : Nat} {Q : (Option Value ⊕ Nat) → mi_H → Prop} (n sl : Nat) (f : Nat → mi_C) {l1 : Nat} {o2 : Option Value} {o3 : Option Value} {o4 : Option Value} {s5 : Nat} (h6 : mi_W d 192 18 [some (.ref l1), o2, o3, o4] [.int 1, .ref s5] (n, sl, f) Q) : mi_W d 192 13 [some (.ref l1), o2, o3, o4] [.ref s5] (n, sl, f) Q := by
  refine w_iconst (v := 1) cd_192_13 (by decide) ?_
  exact w_goto cd_192_14 (by decide) h6
theorem b_192_17 {d : Nat} {Q : (Option Value ⊕ Nat) → mi_H → Prop} (n sl : Nat) (f : Nat → mi_C) {l1 : Nat} {o2 : Option Value} {o3 : Option Value} {o4 : Option Value} {s5 : Nat} (h6 : mi_W d 192 18 [some (.ref l1), o2, o3, o4] [.int 0, .ref s5] (n, sl, f) Q) : mi_W d 192 17 [some (.ref l1), o2, o3, o4] [.ref s5] (n, sl, f) Q := by
  refine w_iconst (v := 0) cd_192_17 (by decide) ?_
  exact h6
theorem b_192_18 {d : Nat} {Q : (Option Value ⊕ Nat) → mi_H → Prop} (n sl : Nat) (f : Nat → mi_C) {l1 : Nat} {o2 : Option Value} {o3 : Option Value} {o4 : Option Value} {s5 : Int32} {s6 : Nat} {fs7 : List Value} (h8 : f s6 = .inr (12, fs7)) (h9 : s6 < n) (h10 : mi_W d 138 0 (mi_en 3 [.ref s6, .int s5, .int 1]) [] (n, sl, f) (mi_Kc d 192 19 [some (.ref l1), o2, o3, o4] [] Q)) : mi_W (d + 1) 192 18 [some (.ref l1), o2, o3, o4] [.int s5, .ref s6] (n, sl, f) Q := by
  refine w_iconst (v := 1) cd_192_18 (by decide) ?_
  exact w_invokevirtual cd_192_19 (show mt_m 12 254 = some (138, 0) by decide +kernel) (rest := []) rfl (as := [.ref s6, .int s5, .int 1]) rfl h8 (Or.inl h9) ⟨Nat.le_of_ble_eq_true rfl, Nat.le_of_ble_eq_true rfl, Nat.le_of_ble_eq_true rfl⟩ h10
theorem b_192_22 {d : Nat} {Q : (Option Value ⊕ Nat) → mi_H → Prop} (n sl : Nat) (f : Nat → mi_C) {l1 : Nat} {o2 : Option Value} {o3 : Option Value} {o4 : Option Value} {s5 : Int32} (h6 : s5 = (0 : Int32) → mi_W d 192 27 [some (.ref l1), o2, o3, o4] [] (n, sl, f) Q) (h7 : ¬ (s5 = (0 : Int32)) → mi_W d 192 25 [some (.ref l1), o2, o3, o4] [] (n, sl, f) Q) : mi_W d 192 22 [some (.ref l1), o2, o3, o4] [.int s5] (n, sl, f) Q := by
  exact w_ifeq cd_192_22 (by decide) h6 h7
theorem b_192_25 {d : Nat} {Q : (Option Value ⊕ Nat) → mi_H → Prop} (n sl : Nat) (f : Nat → mi_C) {l1 : Nat} {o2 : Option Value} {o3 : Option Value} {o4 : Option Value} (h5 : Q (.inl (some (.int 0))) (n, sl, f)) : mi_W d 192 25 [some (.ref l1), o2, o3, o4] [] (n, sl, f) Q := by
  refine w_iconst (v := 0) cd_192_25 (by decide) ?_
  exact w_ireturn_i cd_192_26 (by decide +kernel) h5
theorem b_192_27 {d : Nat} {Q : (Option Value ⊕ Nat) → mi_H → Prop} (n sl : Nat) (f : Nat → mi_C) {l1 : Nat} {o2 : Option Value} {o3 : Option Value} {o4 : Option Value} {fs5 : List Value} {fs9 : List Value} {fs13 : List Value} {fs17 : List Value} {x20 : Nat} {fs22 : List Value} {x25 : Int32} {fs27 : List Value} (h6 : f l1 = .inr (12, fs5)) (h7 : l1 < n) (h8 : 73 < fs5.length) (h10 : (va_up f l1 (.inr (12, fs5.set 73 (.int 0)))) l1 = .inr (12, fs9)) (h11 : l1 < n) (h12 : 75 < fs9.length) (h14 : (va_up (va_up f l1 (.inr (12, fs5.set 73 (.int 0)))) l1 (.inr (12, fs9.set 75 (.int 0)))) l1 = .inr (12, fs13)) (h15 : l1 < n) (h16 : 74 < fs13.length) (h18 : (va_up (va_up (va_up f l1 (.inr (12, fs5.set 73 (.int 0)))) l1 (.inr (12, fs9.set 75 (.int 0)))) l1 (.inr (12, fs13.set 74 (.int 0)))) l1 = .inr (12, fs17)) (h19 : l1 < n) (h21 : fs17[41]? = some (.ref x20)) (h23 : (va_up (va_up (va_up f l1 (.inr (12, fs5.set 73 (.int 0)))) l1 (.inr (12, fs9.set 75 (.int 0)))) l1 (.inr (12, fs13.set 74 (.int 0)))) x20 = .inr (13, fs22)) (h24 : x20 < n) (h26 : fs22[0]? = some (.int x25)) (h28 : (va_up (va_up (va_up f l1 (.inr (12, fs5.set 73 (.int 0)))) l1 (.inr (12, fs9.set 75 (.int 0)))) l1 (.inr (12, fs13.set 74 (.int 0)))) l1 = .inr (12, fs27)) (h29 : l1 < n) (h30 : mi_W d 193 0 (mi_en 6 [.ref l1, .int x25]) [] (n, sl, (va_up (va_up (va_up f l1 (.inr (12, fs5.set 73 (.int 0)))) l1 (.inr (12, fs9.set 75 (.int 0)))) l1 (.inr (12, fs13.set 74 (.int 0))))) (mi_Kc d 192 50 [some (.ref l1), o2, o3, o4] [] Q)) : mi_W (d + 1) 192 27 [some (.ref l1), o2, o3, o4] [] (n, sl, f) Q := by
  refine w_aload_n cd_192_27 rfl ?_
  refine w_iconst (v := 0) cd_192_28 (by decide) ?_
  refine w_putfield (w := .int 0) cd_192_29 (show mt_f 12 562 = some (12, 73) by decide +kernel) h6 h7 ⟨h8, rfl, Or.inl (by decide)⟩ ?_
  refine w_aload_n cd_192_32 rfl ?_
  refine w_iconst (v := 0) cd_192_33 (by decide) ?_
  refine w_putfield (w := .int 0) cd_192_34 (show mt_f 12 565 = some (12, 75) by decide +kernel) h10 h11 ⟨h12, rfl, Or.inl (by decide)⟩ ?_
  refine w_aload_n cd_192_37 rfl ?_
  refine w_iconst (v := 0) cd_192_38 (by decide) ?_
  refine w_putfield (w := .int 0) cd_192_39 (show mt_f 12 568 = some (12, 74) by decide +kernel) h14 h15 ⟨h16, rfl, Or.inl (by decide)⟩ ?_
  refine w_aload_n cd_192_42 rfl ?_
  refine w_aload_n cd_192_43 rfl ?_
  refine w_getfield cd_192_44 (show mt_f 12 147 = some (12, 41) by decide +kernel) h18 h19 h21 ?_
  refine w_getfield cd_192_47 (show mt_f 12 496 = some (13, 0) by decide +kernel) h23 h24 h26 ?_
  exact w_invokevirtual cd_192_50 (show mt_m 12 557 = some (193, 0) by decide +kernel) (rest := []) rfl (as := [.ref l1, .int x25]) rfl h28 (Or.inl h29) ⟨Nat.le_of_ble_eq_true rfl, Nat.le_of_ble_eq_true rfl, Nat.le_of_ble_eq_true rfl⟩ h30
theorem b_192_53 {d : Nat} {Q : (Option Value ⊕ Nat) → mi_H → Prop} (n sl : Nat) (f : Nat → mi_C) {l1 : Nat} {o2 : Option Value} {o3 : Option Value} {o4 : Option Value} {s5 : Int32} (h6 : s5 = (0 : Int32) → mi_W d 192 58 [some (.ref l1), o2, o3, o4] [] (n, sl, f) Q) (h7 : ¬ (s5 = (0 : Int32)) → mi_W d 192 56 [some (.ref l1), o2, o3, o4] [] (n, sl, f) Q) : mi_W d 192 53 [some (.ref l1), o2, o3, o4] [.int s5] (n, sl, f) Q := by
  exact w_ifeq cd_192_53 (by decide) h6 h7
theorem b_192_56 {d : Nat} {Q : (Option Value ⊕ Nat) → mi_H → Prop} (n sl : Nat) (f : Nat → mi_C) {l1 : Nat} {o2 : Option Value} {o3 : Option Value} {o4 : Option Value} (h5 : Q (.inl (some (.int 3))) (n, sl, f)) : mi_W d 192 56 [some (.ref l1), o2, o3, o4] [] (n, sl, f) Q := by
  refine w_iconst (v := 3) cd_192_56 (by decide) ?_
  exact w_ireturn_i cd_192_57 (by decide +kernel) h5
theorem b_192_58 {d : Nat} {Q : (Option Value ⊕ Nat) → mi_H → Prop} (n sl : Nat) (f : Nat → mi_C) {l1 : Nat} {o2 : Option Value} {o3 : Option Value} {o4 : Option Value} {fs5 : List Value} {fs10 : List Value} {x13 : Int32} (h6 : f l1 = .inr (12, fs5)) (h7 : l1 < n) (h8 : 57 < fs5.length) (h9 : mi_fk .boolean (.int 0) = true) (h11 : (va_up f l1 (.inr (12, fs5.set 57 (.int 0)))) l1 = .inr (12, fs10)) (h12 : l1 < n) (h14 : fs10[59]? = some (.int x13)) (h15 : mi_W d 192 70 [some (.ref l1), some (.int x13), some (.int 0), o4] [] (n, sl, (va_up f l1 (.inr (12, fs5.set 57 (.int 0))))) Q) : mi_W d 192 58 [some (.ref l1), o2, o3, o4] [] (n, sl, f) Q := by
  refine w_aload_n cd_192_58 rfl ?_
  refine w_iconst (v := 0) cd_192_59 (by decide) ?_
  refine w_putfield (w := .int 0) cd_192_60 (show mt_f 12 513 = some (12, 57) by decide +kernel) h6 h7 ⟨h8, h9, Or.inl (by decide)⟩ ?_
  refine w_aload_n cd_192_63 rfl ?_
  refine w_getfield cd_192_64 (show mt_f 12 258 = some (12, 59) by decide +kernel) h11 h12 h14 ?_
  refine w_istore_n (ls' := [some (.ref l1), some (.int x13), o3, o4]) cd_192_67 (Nat.le_of_ble_eq_true rfl) rfl ?_
  refine w_iconst (v := 0) cd_192_68 (by decide) ?_
  refine w_istore_n (ls' := [some (.ref l1), some (.int x13), some (.int 0), o4]) cd_192_69 (Nat.le_of_ble_eq_true rfl) rfl ?_
  exact h15
theorem b_192_70 {d : Nat} {Q : (Option Value ⊕ Nat) → mi_H → Prop} (n sl : Nat) (f : Nat → mi_C) {l1 : Nat} {l2 : Int32} {l3 : Int32} {o4 : Option Value} (h5 : l2 ≤ l3 → mi_W d 192 141 [some (.ref l1), some (.int l2), some (.int l3), o4] [] (n, sl, f) Q) (h6 : ¬ (l2 ≤ l3) → mi_W d 192 75 [some (.ref l1), some (.int l2), some (.int l3), o4] [] (n, sl, f) Q) : mi_W d 192 70 [some (.ref l1), some (.int l2), some (.int l3), o4] [] (n, sl, f) Q := by
  refine w_iload_n cd_192_70 rfl ?_
  refine w_iload_n cd_192_71 rfl ?_
  exact w_if_icmpge cd_192_72 (by decide) h5 h6
theorem b_192_75 {d : Nat} {Q : (Option Value ⊕ Nat) → mi_H → Prop} (n sl : Nat) (f : Nat → mi_C) {l1 : Nat} {l2 : Int32} {l3 : Int32} {o4 : Option Value} {fs5 : List Value} {x8 : Nat} {fs10 : List Value} {x13 : Nat} (m15 i15 : Nat) (g15 : Nat → Int32) (m19 i19 : Nat) (g19 : Nat → Int32) {fs23 : List Value} {x26 : Nat} {fs28 : List Value} {x31 : Nat} (m33 i33 : Nat) (g33 : Nat → Int32) (m37 i37 : Nat) (g37 : Nat → Int32) {fs41 : List Value} {x44 : Nat} {fs46 : List Value} {x49 : Nat} (m51 i51 : Nat) (g51 : Nat → Int32) (m55 i55 : Nat) (g55 : Nat → Int32) {fs59 : List Value} {x62 : Nat} {fs64 : List Value} {x67 : Nat} (m69 i69 : Nat) (g69 : Nat → Int32) (m73 i73 : Nat) (g73 : Nat → Int32) {fs77 : List Value} {x80 : Nat} {fs82 : List Value} {x85 : Nat} (m87 i87 : Nat) (g87 : Nat → Int64) (m91 i91 : Nat) (g91 : Nat → Int64) (h6 : f l1 = .inr (12, fs5)) (h7 : l1 < n) (h9 : fs5[83]? = some (.ref x8)) (h11 : f l1 = .inr (12, fs10)) (h12 : l1 < n) (h14 : fs10[60]? = some (.ref x13)) (h16 : f x13 = .inl (0, m15, .inl g15)) (h17 : x13 < n ∨ x13 = mi_SC) (h18 : mi_ix l3 m15 i15) (h20 : f x8 = .inl (0, m19, .inl g19)) (h21 : x8 < n) (h22 : mi_ix l3 m19 i19) (h24 : (va_up f x8 (.inl (0, m19, .inl (upd g19 i19 (g15 i15))))) l1 = .inr (12, fs23)) (h25 : l1 < n) (h27 : fs23[84]? = some (.ref x26)) (h29 : (va_up f x8 (.inl (0, m19, .inl (upd g19 i19 (g15 i15))))) l1 = .inr (12, fs28)) (h30 : l1 < n) (h32 : fs28[61]? = some (.ref x31)) (h34 : (va_up f x8 (.inl (0, m19, .inl (upd g19 i19 (g15 i15))))) x31 = .inl (0, m33, .inl g33)) (h35 : x31 < n ∨ x31 = mi_SC) (h36 : mi_ix l3 m33 i33) (h38 : (va_up f x8 (.inl (0, m19, .inl (upd g19 i19 (g15 i15))))) x26 = .inl (0, m37, .inl g37)) (h39 : x26 < n) (h40 : mi_ix l3 m37 i37) (h42 : (va_up (va_up f x8 (.inl (0, m19, .inl (upd g19 i19 (g15 i15))))) x26 (.inl (0, m37, .inl (upd g37 i37 (g33 i33))))) l1 = .inr (12, fs41)) (h43 : l1 < n) (h45 : fs41[85]? = some (.ref x44)) (h47 : (va_up (va_up f x8 (.inl (0, m19, .inl (upd g19 i19 (g15 i15))))) x26 (.inl (0, m37, .inl (upd g37 i37 (g33 i33))))) l1 = .inr (12, fs46)) (h48 : l1 < n) (h50 : fs46[62]? = some (.ref x49)) (h52 : (va_up (va_up f x8 (.inl (0, m19, .inl (upd g19 i19 (g15 i15))))) x26 (.inl (0, m37, .inl (upd g37 i37 (g33 i33))))) x49 = .inl (0, m51, .inl g51)) (h53 : x49 < n ∨ x49 = mi_SC) (h54 : mi_ix l3 m51 i51) (h56 : (va_up (va_up f x8 (.inl (0, m19, .inl (upd g19 i19 (g15 i15))))) x26 (.inl (0, m37, .inl (upd g37 i37 (g33 i33))))) x44 = .inl (0, m55, .inl g55)) (h57 : x44 < n) (h58 : mi_ix l3 m55 i55) (h60 : (va_up (va_up (va_up f x8 (.inl (0, m19, .inl (upd g19 i19 (g15 i15))))) x26 (.inl (0, m37, .inl (upd g37 i37 (g33 i33))))) x44 (.inl (0, m55, .inl (upd g55 i55 (g51 i51))))) l1 = .inr (12, fs59)) (h61 : l1 < n) (h63 : fs59[86]? = some (.ref x62)) (h65 : (va_up (va_up (va_up f x8 (.inl (0, m19, .inl (upd g19 i19 (g15 i15))))) x26 (.inl (0, m37, .inl (upd g37 i37 (g33 i33))))) x44 (.inl (0, m55, .inl (upd g55 i55 (g51 i51))))) l1 = .inr (12, fs64)) (h66 : l1 < n) (h68 : fs64[63]? = some (.ref x67)) (h70 : (va_up (va_up (va_up f x8 (.inl (0, m19, .inl (upd g19 i19 (g15 i15))))) x26 (.inl (0, m37, .inl (upd g37 i37 (g33 i33))))) x44 (.inl (0, m55, .inl (upd g55 i55 (g51 i51))))) x67 = .inl (0, m69, .inl g69)) (h71 : x67 < n ∨ x67 = mi_SC) (h72 : mi_ix l3 m69 i69) (h74 : (va_up (va_up (va_up f x8 (.inl (0, m19, .inl (upd g19 i19 (g15 i15))))) x26 (.inl (0, m37, .inl (upd g37 i37 (g33 i33))))) x44 (.inl (0, m55, .inl (upd g55 i55 (g51 i51))))) x62 = .inl (0, m73, .inl g73)) (h75 : x62 < n) (h76 : mi_ix l3 m73 i73) (h78 : (va_up (va_up (va_up (va_up f x8 (.inl (0, m19, .inl (upd g19 i19 (g15 i15))))) x26 (.inl (0, m37, .inl (upd g37 i37 (g33 i33))))) x44 (.inl (0, m55, .inl (upd g55 i55 (g51 i51))))) x62 (.inl (0, m73, .inl (upd g73 i73 (g69 i69))))) l1 = .inr (12, fs77)) (h79 : l1 < n) (h81 : fs77[87]? = some (.ref x80)) (h83 : (va_up (va_up (va_up (va_up f x8 (.inl (0, m19, .inl (upd g19 i19 (g15 i15))))) x26 (.inl (0, m37, .inl (upd g37 i37 (g33 i33))))) x44 (.inl (0, m55, .inl (upd g55 i55 (g51 i51))))) x62 (.inl (0, m73, .inl (upd g73 i73 (g69 i69))))) l1 = .inr (12, fs82)) (h84 : l1 < n) (h86 : fs82[64]? = some (.ref x85)) (h88 : (va_up (va_up (va_up (va_up f x8 (.inl (0, m19, .inl (upd g19 i19 (g15 i15))))) x26 (.inl (0, m37, .inl (upd g37 i37 (g33 i33))))) x44 (.inl (0, m55, .inl (upd g55 i55 (g51 i51))))) x62 (.inl (0, m73, .inl (upd g73 i73 (g69 i69))))) x85 = .inl (3, m87, .inr (.inl g87))) (h89 : x85 < n) (h90 : mi_ix l3 m87 i87) (h92 : (va_up (va_up (va_up (va_up f x8 (.inl (0, m19, .inl (upd g19 i19 (g15 i15))))) x26 (.inl (0, m37, .inl (upd g37 i37 (g33 i33))))) x44 (.inl (0, m55, .inl (upd g55 i55 (g51 i51))))) x62 (.inl (0, m73, .inl (upd g73 i73 (g69 i69))))) x80 = .inl (3, m91, .inr (.inl g91))) (h93 : x80 < n) (h94 : mi_ix l3 m91 i91) (h95 : mi_W d 192 70 [some (.ref l1), some (.int l2), some (.int (l3 + 1)), o4] [] (n, sl, (va_up (va_up (va_up (va_up (va_up f x8 (.inl (0, m19, .inl (upd g19 i19 (g15 i15))))) x26 (.inl (0, m37, .inl (upd g37 i37 (g33 i33))))) x44 (.inl (0, m55, .inl (upd g55 i55 (g51 i51))))) x62 (.inl (0, m73, .inl (upd g73 i73 (g69 i69))))) x80 (.inl (3, m91, .inr (.inl (vp_updL g91 i91 (g87 i87))))))) Q) : mi_W d 192 75 [some (.ref l1), some (.int l2), some (.int l3), o4] [] (n, sl, f) Q := by
  refine w_aload_n cd_192_75 rfl ?_
  refine w_getfield cd_192_76 (show mt_f 12 233 = some (12, 83) by decide +kernel) h6 h7 h9 ?_
  refine w_iload_n cd_192_79 rfl ?_
  refine w_aload_n cd_192_80 rfl ?_
  refine w_getfield cd_192_81 (show mt_f 12 178 = some (12, 60) by decide +kernel) h11 h12 h14 ?_
  refine w_iload_n cd_192_84 rfl ?_
  refine w_iaload cd_192_85 h16 h17 h18 ?_
  refine w_iastore cd_192_86 h20 h21 h22 ?_
  refine w_aload_n cd_192_87 rfl ?_
  refine w_getfield cd_192_88 (show mt_f 12 236 = some (12, 84) by decide +kernel) h24 h25 h27 ?_
  refine w_iload_n cd_192_91 rfl ?_
  refine w_aload_n cd_192_92 rfl ?_
  refine w_getfield cd_192_93 (show mt_f 12 181 = some (12, 61) by decide +kernel) h29 h30 h32 ?_
  refine w_iload_n cd_192_96 rfl ?_
  refine w_iaload cd_192_97 h34 h35 h36 ?_
  refine w_iastore cd_192_98 h38 h39 h40 ?_
  refine w_aload_n cd_192_99 rfl ?_
  refine w_getfield cd_192_100 (show mt_f 12 239 = some (12, 85) by decide +kernel) h42 h43 h45 ?_
  refine w_iload_n cd_192_103 rfl ?_
  refine w_aload_n cd_192_104 rfl ?_
  refine w_getfield cd_192_105 (show mt_f 12 184 = some (12, 62) by decide +kernel) h47 h48 h50 ?_
  refine w_iload_n cd_192_108 rfl ?_
  refine w_iaload cd_192_109 h52 h53 h54 ?_
  refine w_iastore cd_192_110 h56 h57 h58 ?_
  refine w_aload_n cd_192_111 rfl ?_
  refine w_getfield cd_192_112 (show mt_f 12 242 = some (12, 86) by decide +kernel) h60 h61 h63 ?_
  refine w_iload_n cd_192_115 rfl ?_
  refine w_aload_n cd_192_116 rfl ?_
  refine w_getfield cd_192_117 (show mt_f 12 187 = some (12, 63) by decide +kernel) h65 h66 h68 ?_
  refine w_iload_n cd_192_120 rfl ?_
  refine w_iaload cd_192_121 h70 h71 h72 ?_
  refine w_iastore cd_192_122 h74 h75 h76 ?_
  refine w_aload_n cd_192_123 rfl ?_
  refine w_getfield cd_192_124 (show mt_f 12 245 = some (12, 87) by decide +kernel) h78 h79 h81 ?_
  refine w_iload_n cd_192_127 rfl ?_
  refine w_aload_n cd_192_128 rfl ?_
  refine w_getfield cd_192_129 (show mt_f 12 190 = some (12, 64) by decide +kernel) h83 h84 h86 ?_
  refine w_iload_n cd_192_132 rfl ?_
  refine w_laload cd_192_133 h88 h89 h90 ?_
  refine w_lastore cd_192_134 h92 h93 h94 ?_
  refine w_iinc (v := 1) (ls' := [some (.ref l1), some (.int l2), some (.int (l3 + 1)), o4]) cd_192_135 rfl (by decide) rfl ?_
  exact w_goto cd_192_138 (by decide) h95
theorem b_192_141 {d : Nat} {Q : (Option Value ⊕ Nat) → mi_H → Prop} (n sl : Nat) (f : Nat → mi_C) {l1 : Nat} {l2 : Int32} {l3 : Int32} {o4 : Option Value} {fs5 : List Value} {x8 : Nat} {fs10 : List Value} (h6 : f l1 = .inr (12, fs5)) (h7 : l1 < n) (h9 : fs5[41]? = some (.ref x8)) (h11 : f l1 = .inr (12, fs10)) (h12 : l1 < n) (h13 : mi_W d 195 0 (mi_en 6 [.ref l1, .ref x8]) [] (n, sl, f) (mi_Kc d 192 146 [some (.ref l1), some (.int l2), some (.int l3), o4] [] Q)) : mi_W (d + 1) 192 141 [some (.ref l1), some (.int l2), some (.int l3), o4] [] (n, sl, f) Q := by
  refine w_aload_n cd_192_141 rfl ?_
  refine w_aload_n cd_192_142 rfl ?_
  refine w_getfield cd_192_143 (show mt_f 12 147 = some (12, 41) by decide +kernel) h6 h7 h9 ?_
  exact w_invokevirtual cd_192_146 (show mt_m 12 571 = some (195, 0) by decide +kernel) (rest := []) rfl (as := [.ref l1, .ref x8]) rfl h11 (Or.inl h12) ⟨Nat.le_of_ble_eq_true rfl, Nat.le_of_ble_eq_true rfl, Nat.le_of_ble_eq_true rfl⟩ h13
theorem b_192_149 {d : Nat} {Q : (Option Value ⊕ Nat) → mi_H → Prop} (n sl : Nat) (f : Nat → mi_C) {l1 : Nat} {l2 : Int32} {l3 : Int32} {o4 : Option Value} {s5 : Int32} {fs6 : List Value} (h7 : f l1 = .inr (12, fs6)) (h8 : l1 < n) (h9 : 59 < fs6.length) (h10 : mi_W d 192 157 [some (.ref l1), some (.int l2), some (.int s5), some (.int 0)] [] (n, sl, (va_up f l1 (.inr (12, fs6.set 59 (.int l2))))) Q) : mi_W d 192 149 [some (.ref l1), some (.int l2), some (.int l3), o4] [.int s5] (n, sl, f) Q := by
  refine w_istore_n (ls' := [some (.ref l1), some (.int l2), some (.int s5), o4]) cd_192_149 (Nat.le_of_ble_eq_true rfl) rfl ?_
  refine w_aload_n cd_192_150 rfl ?_
  refine w_iload_n cd_192_151 rfl ?_
  refine w_putfield (w := .int l2) cd_192_152 (show mt_f 12 258 = some (12, 59) by decide +kernel) h7 h8 ⟨h9, rfl, Or.inl (by decide)⟩ ?_
  refine w_iconst (v := 0) cd_192_155 (by decide) ?_
  refine w_istore_n (ls' := [some (.ref l1), some (.int l2), some (.int s5), some (.int 0)]) cd_192_156 (Nat.le_of_ble_eq_true rfl) rfl ?_
  exact h10
theorem b_192_157 {d : Nat} {Q : (Option Value ⊕ Nat) → mi_H → Prop} (n sl : Nat) (f : Nat → mi_C) {l1 : Nat} {l2 : Int32} {l3 : Int32} {l4 : Int32} (h5 : l2 ≤ l4 → mi_W d 192 228 [some (.ref l1), some (.int l2), some (.int l3), some (.int l4)] [] (n, sl, f) Q) (h6 : ¬ (l2 ≤ l4) → mi_W d 192 162 [some (.ref l1), some (.int l2), some (.int l3), some (.int l4)] [] (n, sl, f) Q) : mi_W d 192 157 [some (.ref l1), some (.int l2), some (.int l3), some (.int l4)] [] (n, sl, f) Q := by
  refine w_iload_n cd_192_157 rfl ?_
  refine w_iload_n cd_192_158 rfl ?_
  exact w_if_icmpge cd_192_159 (by decide) h5 h6
theorem b_192_162 {d : Nat} {Q : (Option Value ⊕ Nat) → mi_H → Prop} (n sl : Nat) (f : Nat → mi_C) {l1 : Nat} {l2 : Int32} {l3 : Int32} {l4 : Int32} {fs5 : List Value} {x8 : Nat} {fs10 : List Value} {x13 : Nat} (m15 i15 : Nat) (g15 : Nat → Int32) (m19 i19 : Nat) (g19 : Nat → Int32) {fs23 : List Value} {x26 : Nat} {fs28 : List Value} {x31 : Nat} (m33 i33 : Nat) (g33 : Nat → Int32) (m37 i37 : Nat) (g37 : Nat → Int32) {fs41 : List Value} {x44 : Nat} {fs46 : List Value} {x49 : Nat} (m51 i51 : Nat) (g51 : Nat → Int32) (m55 i55 : Nat) (g55 : Nat → Int32) {fs59 : List Value} {x62 : Nat} {fs64 : List Value} {x67 : Nat} (m69 i69 : Nat) (g69 : Nat → Int32) (m73 i73 : Nat) (g73 : Nat → Int32) {fs77 : List Value} {x80 : Nat} {fs82 : List Value} {x85 : Nat} (m87 i87 : Nat) (g87 : Nat → Int64) (m91 i91 : Nat) (g91 : Nat → Int64) (h6 : f l1 = .inr (12, fs5)) (h7 : l1 < n) (h9 : fs5[60]? = some (.ref x8)) (h11 : f l1 = .inr (12, fs10)) (h12 : l1 < n) (h14 : fs10[83]? = some (.ref x13)) (h16 : f x13 = .inl (0, m15, .inl g15)) (h17 : x13 < n ∨ x13 = mi_SC) (h18 : mi_ix l4 m15 i15) (h20 : f x8 = .inl (0, m19, .inl g19)) (h21 : x8 < n) (h22 : mi_ix l4 m19 i19) (h24 : (va_up f x8 (.inl (0, m19, .inl (upd g19 i19 (g15 i15))))) l1 = .inr (12, fs23)) (h25 : l1 < n) (h27 : fs23[61]? = some (.ref x26)) (h29 : (va_up f x8 (.inl (0, m19, .inl (upd g19 i19 (g15 i15))))) l1 = .inr (12, fs28)) (h30 : l1 < n) (h32 : fs28[84]? = some (.ref x31)) (h34 : (va_up f x8 (.inl (0, m19, .inl (upd g19 i19 (g15 i15))))) x31 = .inl (0, m33, .inl g33)) (h35 : x31 < n ∨ x31 = mi_SC) (h36 : mi_ix l4 m33 i33) (h38 : (va_up f x8 (.inl (0, m19, .inl (upd g19 i19 (g15 i15))))) x26 = .inl (0, m37, .inl g37)) (h39 : x26 < n) (h40 : mi_ix l4 m37 i37) (h42 : (va_up (va_up f x8 (.inl (0, m19, .inl (upd g19 i19 (g15 i15))))) x26 (.inl (0, m37, .inl (upd g37 i37 (g33 i33))))) l1 = .inr (12, fs41)) (h43 : l1 < n) (h45 : fs41[62]? = some (.ref x44)) (h47 : (va_up (va_up f x8 (.inl (0, m19, .inl (upd g19 i19 (g15 i15))))) x26 (.inl (0, m37, .inl (upd g37 i37 (g33 i33))))) l1 = .inr (12, fs46)) (h48 : l1 < n) (h50 : fs46[85]? = some (.ref x49)) (h52 : (va_up (va_up f x8 (.inl (0, m19, .inl (upd g19 i19 (g15 i15))))) x26 (.inl (0, m37, .inl (upd g37 i37 (g33 i33))))) x49 = .inl (0, m51, .inl g51)) (h53 : x49 < n ∨ x49 = mi_SC) (h54 : mi_ix l4 m51 i51) (h56 : (va_up (va_up f x8 (.inl (0, m19, .inl (upd g19 i19 (g15 i15))))) x26 (.inl (0, m37, .inl (upd g37 i37 (g33 i33))))) x44 = .inl (0, m55, .inl g55)) (h57 : x44 < n) (h58 : mi_ix l4 m55 i55) (h60 : (va_up (va_up (va_up f x8 (.inl (0, m19, .inl (upd g19 i19 (g15 i15))))) x26 (.inl (0, m37, .inl (upd g37 i37 (g33 i33))))) x44 (.inl (0, m55, .inl (upd g55 i55 (g51 i51))))) l1 = .inr (12, fs59)) (h61 : l1 < n) (h63 : fs59[63]? = some (.ref x62)) (h65 : (va_up (va_up (va_up f x8 (.inl (0, m19, .inl (upd g19 i19 (g15 i15))))) x26 (.inl (0, m37, .inl (upd g37 i37 (g33 i33))))) x44 (.inl (0, m55, .inl (upd g55 i55 (g51 i51))))) l1 = .inr (12, fs64)) (h66 : l1 < n) (h68 : fs64[86]? = some (.ref x67)) (h70 : (va_up (va_up (va_up f x8 (.inl (0, m19, .inl (upd g19 i19 (g15 i15))))) x26 (.inl (0, m37, .inl (upd g37 i37 (g33 i33))))) x44 (.inl (0, m55, .inl (upd g55 i55 (g51 i51))))) x67 = .inl (0, m69, .inl g69)) (h71 : x67 < n ∨ x67 = mi_SC) (h72 : mi_ix l4 m69 i69) (h74 : (va_up (va_up (va_up f x8 (.inl (0, m19, .inl (upd g19 i19 (g15 i15))))) x26 (.inl (0, m37, .inl (upd g37 i37 (g33 i33))))) x44 (.inl (0, m55, .inl (upd g55 i55 (g51 i51))))) x62 = .inl (0, m73, .inl g73)) (h75 : x62 < n) (h76 : mi_ix l4 m73 i73) (h78 : (va_up (va_up (va_up (va_up f x8 (.inl (0, m19, .inl (upd g19 i19 (g15 i15))))) x26 (.inl (0, m37, .inl (upd g37 i37 (g33 i33))))) x44 (.inl (0, m55, .inl (upd g55 i55 (g51 i51))))) x62 (.inl (0, m73, .inl (upd g73 i73 (g69 i69))))) l1 = .inr (12, fs77)) (h79 : l1 < n) (h81 : fs77[64]? = some (.ref x80)) (h83 : (va_up (va_up (va_up (va_up f x8 (.inl (0, m19, .inl (upd g19 i19 (g15 i15))))) x26 (.inl (0, m37, .inl (upd g37 i37 (g33 i33))))) x44 (.inl (0, m55, .inl (upd g55 i55 (g51 i51))))) x62 (.inl (0, m73, .inl (upd g73 i73 (g69 i69))))) l1 = .inr (12, fs82)) (h84 : l1 < n) (h86 : fs82[87]? = some (.ref x85)) (h88 : (va_up (va_up (va_up (va_up f x8 (.inl (0, m19, .inl (upd g19 i19 (g15 i15))))) x26 (.inl (0, m37, .inl (upd g37 i37 (g33 i33))))) x44 (.inl (0, m55, .inl (upd g55 i55 (g51 i51))))) x62 (.inl (0, m73, .inl (upd g73 i73 (g69 i69))))) x85 = .inl (3, m87, .inr (.inl g87))) (h89 : x85 < n) (h90 : mi_ix l4 m87 i87) (h92 : (va_up (va_up (va_up (va_up f x8 (.inl (0, m19, .inl (upd g19 i19 (g15 i15))))) x26 (.inl (0, m37, .inl (upd g37 i37 (g33 i33))))) x44 (.inl (0, m55, .inl (upd g55 i55 (g51 i51))))) x62 (.inl (0, m73, .inl (upd g73 i73 (g69 i69))))) x80 = .inl (3, m91, .inr (.inl g91))) (h93 : x80 < n) (h94 : mi_ix l4 m91 i91) (h95 : mi_W d 192 157 [some (.ref l1), some (.int l2), some (.int l3), some (.int (l4 + 1))] [] (n, sl, (va_up (va_up (va_up (va_up (va_up f x8 (.inl (0, m19, .inl (upd g19 i19 (g15 i15))))) x26 (.inl (0, m37, .inl (upd g37 i37 (g33 i33))))) x44 (.inl (0, m55, .inl (upd g55 i55 (g51 i51))))) x62 (.inl (0, m73, .inl (upd g73 i73 (g69 i69))))) x80 (.inl (3, m91, .inr (.inl (vp_updL g91 i91 (g87 i87))))))) Q) : mi_W d 192 162 [some (.ref l1), some (.int l2), some (.int l3), some (.int l4)] [] (n, sl, f) Q := by
  refine w_aload_n cd_192_162 rfl ?_
  refine w_getfield cd_192_163 (show mt_f 12 178 = some (12, 60) by decide +kernel) h6 h7 h9 ?_
  refine w_iload_n cd_192_166 rfl ?_
  refine w_aload_n cd_192_167 rfl ?_
  refine w_getfield cd_192_168 (show mt_f 12 233 = some (12, 83) by decide +kernel) h11 h12 h14 ?_
  refine w_iload_n cd_192_171 rfl ?_
  refine w_iaload cd_192_172 h16 h17 h18 ?_
  refine w_iastore cd_192_173 h20 h21 h22 ?_
  refine w_aload_n cd_192_174 rfl ?_
  refine w_getfield cd_192_175 (show mt_f 12 181 = some (12, 61) by decide +kernel) h24 h25 h27 ?_
  refine w_iload_n cd_192_178 rfl ?_
  refine w_aload_n cd_192_179 rfl ?_
  refine w_getfield cd_192_180 (show mt_f 12 236 = some (12, 84) by decide +kernel) h29 h30 h32 ?_
  refine w_iload_n cd_192_183 rfl ?_
  refine w_iaload cd_192_184 h34 h35 h36 ?_
  refine w_iastore cd_192_185 h38 h39 h40 ?_
  refine w_aload_n cd_192_186 rfl ?_
  refine w_getfield cd_192_187 (show mt_f 12 184 = some (12, 62) by decide +kernel) h42 h43 h45 ?_
  refine w_iload_n cd_192_190 rfl ?_
  refine w_aload_n cd_192_191 rfl ?_
  refine w_getfield cd_192_192 (show mt_f 12 239 = some (12, 85) by decide +kernel) h47 h48 h50 ?_
  refine w_iload_n cd_192_195 rfl ?_
  refine w_iaload cd_192_196 h52 h53 h54 ?_
  refine w_iastore cd_192_197 h56 h57 h58 ?_
  refine w_aload_n cd_192_198 rfl ?_
  refine w_getfield cd_192_199 (show mt_f 12 187 = some (12, 63) by decide +kernel) h60 h61 h63 ?_
  refine w_iload_n cd_192_202 rfl ?_
  refine w_aload_n cd_192_203 rfl ?_
  refine w_getfield cd_192_204 (show mt_f 12 242 = some (12, 86) by decide +kernel) h65 h66 h68 ?_
  refine w_iload_n cd_192_207 rfl ?_
  refine w_iaload cd_192_208 h70 h71 h72 ?_
  refine w_iastore cd_192_209 h74 h75 h76 ?_
  refine w_aload_n cd_192_210 rfl ?_
  refine w_getfield cd_192_211 (show mt_f 12 190 = some (12, 64) by decide +kernel) h78 h79 h81 ?_
  refine w_iload_n cd_192_214 rfl ?_
  refine w_aload_n cd_192_215 rfl ?_
  refine w_getfield cd_192_216 (show mt_f 12 245 = some (12, 87) by decide +kernel) h83 h84 h86 ?_
  refine w_iload_n cd_192_219 rfl ?_
  refine w_laload cd_192_220 h88 h89 h90 ?_
  refine w_lastore cd_192_221 h92 h93 h94 ?_
  refine w_iinc (v := 1) (ls' := [some (.ref l1), some (.int l2), some (.int l3), some (.int (l4 + 1))]) cd_192_222 rfl (by decide) rfl ?_
  exact w_goto cd_192_225 (by decide) h95
theorem b_192_228 {d : Nat} {Q : (Option Value ⊕ Nat) → mi_H → Prop} (n sl : Nat) (f : Nat → mi_C) {l1 : Nat} {l2 : Int32} {l3 : Int32} {l4 : Int32} (h5 : Q (.inl (some (.int l3))) (n, sl, f)) : mi_W d 192 228 [some (.ref l1), some (.int l2), some (.int l3), some (.int l4)] [] (n, sl, f) Q := by
  refine w_iload_n cd_192_228 rfl ?_
  exact w_ireturn_i cd_192_229 (by decide +kernel) h5
/-! MarloweHostModel.outside(I)Z -/
set_option maxRecDepth 100000 in
theorem mq_193 : mt_q 193 = my_193 := rfl
set_option maxRecDepth 100000 in
theorem ci_193 : mt_inc 0 my_193.cd = true := by decide +kernel
theorem cd_193_0 : mt_cd 193 0 = some (.aload_n 0) := mt_cd_of (q := (0, .aload_n 0, 1)) mq_193 ci_193 (List.mem_append_left _ (show _ ∈ my_193_0 from List.mem_of_getElem? (i := 0) rfl))
theorem cd_193_1 : mt_cd 193 1 = some (.getfield 77) := mt_cd_of (q := (1, .getfield 77, 3)) mq_193 ci_193 (List.mem_append_left _ (show _ ∈ my_193_0 from List.mem_of_getElem? (i := 1) rfl))
theorem cd_193_4 : mt_cd 193 4 = some (.iload_n 1) := mt_cd_of (q := (4, .iload_n 1, 1)) mq_193 ci_193 (List.mem_append_left _ (show _ ∈ my_193_0 from List.mem_of_getElem? (i := 2) rfl))
theorem cd_193_5 : mt_cd 193 5 = some (.iaload) := mt_cd_of (q := (5, .iaload, 1)) mq_193 ci_193 (List.mem_append_left _ (show _ ∈ my_193_0 from List.mem_of_getElem? (i := 3) rfl))
theorem cd_193_6 : mt_cd 193 6 = some (.tableswitch 121 0 6 #[42, 44, 44, 76, 121, 44, 44]) := mt_cd_of (q := (6, .tableswitch 121 0 6 #[42, 44, 44, 76, 121, 44, 44], 42)) mq_193 ci_193 (List.mem_append_left _ (show _ ∈ my_193_0 from List.mem_of_getElem? (i := 4) rfl))
theorem cd_193_48 : mt_cd 193 48 = some (.iconst 0) := mt_cd_of (q := (48, .iconst 0, 1)) mq_193 ci_193 (List.mem_append_left _ (show _ ∈ my_193_0 from List.mem_of_getElem? (i := 5) rfl))
theorem cd_193_49 : mt_cd 193 49 = some (.ireturn) := mt_cd_of (q := (49, .ireturn, 1)) mq_193 ci_193 (List.mem_append_left _ (show _ ∈ my_193_0 from List.mem_of_getElem? (i := 6) rfl))
theorem cd_193_50 : mt_cd 193 50 = some (.aload_n 0) := mt_cd_of (q := (50, .aload_n 0, 1)) mq_193 ci_193 (List.mem_append_left _ (show _ ∈ my_193_0 from List.mem_of_getElem? (i := 7) rfl))
theorem cd_193_51 : mt_cd 193 51 = some (.aload_n 0) := mt_cd_of (q := (51, .aload_n 0, 1)) mq_193 ci_193 (List.mem_append_left _ (show _ ∈ my_193_0 from List.mem_of_getElem? (i := 8) rfl))
theorem cd_193_52 : mt_cd 193 52 = some (.getfield 89) := mt_cd_of (q := (52, .getfield 89, 3)) mq_193 ci_193 (List.mem_append_left _ (show _ ∈ my_193_0 from List.mem_of_getElem? (i := 9) rfl))
theorem cd_193_55 : mt_cd 193 55 = some (.iload_n 1) := mt_cd_of (q := (55, .iload_n 1, 1)) mq_193 ci_193 (List.mem_append_left _ (show _ ∈ my_193_0 from List.mem_of_getElem? (i := 10) rfl))
theorem cd_193_56 : mt_cd 193 56 = some (.iaload) := mt_cd_of (q := (56, .iaload, 1)) mq_193 ci_193 (List.mem_append_left _ (show _ ∈ my_193_0 from List.mem_of_getElem? (i := 11) rfl))
theorem cd_193_57 : mt_cd 193 57 = some (.invokevirtual 554) := mt_cd_of (q := (57, .invokevirtual 554, 3)) mq_193 ci_193 (List.mem_append_left _ (show _ ∈ my_193_0 from List.mem_of_getElem? (i := 12) rfl))
theorem cd_193_60 : mt_cd 193 60 = some (.ifCond .ne 16) := mt_cd_of (q := (60, .ifCond .ne 16, 3)) mq_193 ci_193 (List.mem_append_left _ (show _ ∈ my_193_0 from List.mem_of_getElem? (i := 13) rfl))
theorem cd_193_63 : mt_cd 193 63 = some (.aload_n 0) := mt_cd_of (q := (63, .aload_n 0, 1)) mq_193 ci_193 (List.mem_append_left _ (show _ ∈ my_193_0 from List.mem_of_getElem? (i := 14) rfl))
theorem cd_193_64 : mt_cd 193 64 = some (.aload_n 0) := mt_cd_of (q := (64, .aload_n 0, 1)) mq_193 ci_193 (List.mem_append_left _ (show _ ∈ my_193_0 from List.mem_of_getElem? (i := 15) rfl))
theorem cd_193_65 : mt_cd 193 65 = some (.getfield 98) := mt_cd_of (q := (65, .getfield 98, 3)) mq_193 ci_193 (List.mem_append_left _ (show _ ∈ my_193_0 from List.mem_of_getElem? (i := 16) rfl))
theorem cd_193_68 : mt_cd 193 68 = some (.iload_n 1) := mt_cd_of (q := (68, .iload_n 1, 1)) mq_193 ci_193 (List.mem_append_left _ (show _ ∈ my_193_0 from List.mem_of_getElem? (i := 17) rfl))
theorem cd_193_69 : mt_cd 193 69 = some (.iaload) := mt_cd_of (q := (69, .iaload, 1)) mq_193 ci_193 (List.mem_append_left _ (show _ ∈ my_193_0 from List.mem_of_getElem? (i := 18) rfl))
theorem cd_193_70 : mt_cd 193 70 = some (.invokevirtual 557) := mt_cd_of (q := (70, .invokevirtual 557, 3)) mq_193 ci_193 (List.mem_append_left _ (show _ ∈ my_193_0 from List.mem_of_getElem? (i := 19) rfl))
theorem cd_193_73 : mt_cd 193 73 = some (.ifCond .eq 7) := mt_cd_of (q := (73, .ifCond .eq 7, 3)) mq_193 ci_193 (List.mem_append_left _ (show _ ∈ my_193_0 from List.mem_of_getElem? (i := 20) rfl))
theorem cd_193_76 : mt_cd 193 76 = some (.iconst 1) := mt_cd_of (q := (76, .iconst 1, 1)) mq_193 ci_193 (List.mem_append_left _ (show _ ∈ my_193_0 from List.mem_of_getElem? (i := 21) rfl))
theorem cd_193_77 : mt_cd 193 77 = some (.goto 4) := mt_cd_of (q := (77, .goto 4, 3)) mq_193 ci_193 (List.mem_append_left _ (show _ ∈ my_193_0 from List.mem_of_getElem? (i := 22) rfl))
theorem cd_193_80 : mt_cd 193 80 = some (.iconst 0) := mt_cd_of (q := (80, .iconst 0, 1)) mq_193 ci_193 (List.mem_append_left _ (show _ ∈ my_193_0 from List.mem_of_getElem? (i := 23) rfl))
theorem cd_193_81 : mt_cd 193 81 = some (.ireturn) := mt_cd_of (q := (81, .ireturn, 1)) mq_193 ci_193 (List.mem_append_left _ (show _ ∈ my_193_0 from List.mem_of_getElem? (i := 24) rfl))
theorem cd_193_82 : mt_cd 193 82 = some (.aload_n 0) := mt_cd_of (q := (82, .aload_n 0, 1)) mq_193 ci_193 (List.mem_append_left _ (show _ ∈ my_193_0 from List.mem_of_getElem? (i := 25) rfl))
theorem cd_193_83 : mt_cd 193 83 = some (.aload_n 0) := mt_cd_of (q := (83, .aload_n 0, 1)) mq_193 ci_193 (List.mem_append_left _ (show _ ∈ my_193_0 from List.mem_of_getElem? (i := 26) rfl))
theorem cd_193_84 : mt_cd 193 84 = some (.getfield 89) := mt_cd_of (q := (84, .getfield 89, 3)) mq_193 ci_193 (List.mem_append_left _ (show _ ∈ my_193_0 from List.mem_of_getElem? (i := 27) rfl))
theorem cd_193_87 : mt_cd 193 87 = some (.iload_n 1) := mt_cd_of (q := (87, .iload_n 1, 1)) mq_193 ci_193 (List.mem_append_left _ (show _ ∈ my_193_0 from List.mem_of_getElem? (i := 28) rfl))
theorem cd_193_88 : mt_cd 193 88 = some (.iaload) := mt_cd_of (q := (88, .iaload, 1)) mq_193 ci_193 (List.mem_append_left _ (show _ ∈ my_193_0 from List.mem_of_getElem? (i := 29) rfl))
theorem cd_193_89 : mt_cd 193 89 = some (.invokevirtual 554) := mt_cd_of (q := (89, .invokevirtual 554, 3)) mq_193 ci_193 (List.mem_append_left _ (show _ ∈ my_193_0 from List.mem_of_getElem? (i := 30) rfl))
theorem cd_193_92 : mt_cd 193 92 = some (.ifCond .ne 29) := mt_cd_of (q := (92, .ifCond .ne 29, 3)) mq_193 ci_193 (List.mem_append_left _ (show _ ∈ my_193_0 from List.mem_of_getElem? (i := 31) rfl))
theorem cd_193_95 : mt_cd 193 95 = some (.aload_n 0) := mt_cd_of (q := (95, .aload_n 0, 1)) mq_193 ci_193 (List.mem_append_left _ (show _ ∈ my_193_0 from List.mem_of_getElem? (i := 32) rfl))
theorem cd_193_96 : mt_cd 193 96 = some (.aload_n 0) := mt_cd_of (q := (96, .aload_n 0, 1)) mq_193 ci_193 (List.mem_append_left _ (show _ ∈ my_193_0 from List.mem_of_getElem? (i := 33) rfl))
theorem cd_193_97 : mt_cd 193 97 = some (.getfield 80) := mt_cd_of (q := (97, .getfield 80, 3)) mq_193 ci_193 (List.mem_append_left _ (show _ ∈ my_193_0 from List.mem_of_getElem? (i := 34) rfl))
theorem cd_193_100 : mt_cd 193 100 = some (.iload_n 1) := mt_cd_of (q := (100, .iload_n 1, 1)) mq_193 ci_193 (List.mem_append_left _ (show _ ∈ my_193_0 from List.mem_of_getElem? (i := 35) rfl))
theorem cd_193_101 : mt_cd 193 101 = some (.iaload) := mt_cd_of (q := (101, .iaload, 1)) mq_193 ci_193 (List.mem_append_left _ (show _ ∈ my_193_0 from List.mem_of_getElem? (i := 36) rfl))
theorem cd_193_102 : mt_cd 193 102 = some (.invokevirtual 557) := mt_cd_of (q := (102, .invokevirtual 557, 3)) mq_193 ci_193 (List.mem_append_left _ (show _ ∈ my_193_0 from List.mem_of_getElem? (i := 37) rfl))
theorem cd_193_105 : mt_cd 193 105 = some (.ifCond .ne 16) := mt_cd_of (q := (105, .ifCond .ne 16, 3)) mq_193 ci_193 (List.mem_append_left _ (show _ ∈ my_193_0 from List.mem_of_getElem? (i := 38) rfl))
theorem cd_193_108 : mt_cd 193 108 = some (.aload_n 0) := mt_cd_of (q := (108, .aload_n 0, 1)) mq_193 ci_193 (List.mem_append_left _ (show _ ∈ my_193_0 from List.mem_of_getElem? (i := 39) rfl))
theorem cd_193_109 : mt_cd 193 109 = some (.aload_n 0) := mt_cd_of (q := (109, .aload_n 0, 1)) mq_193 ci_193 (List.mem_append_left _ (show _ ∈ my_193_0 from List.mem_of_getElem? (i := 40) rfl))
theorem cd_193_110 : mt_cd 193 110 = some (.getfield 83) := mt_cd_of (q := (110, .getfield 83, 3)) mq_193 ci_193 (List.mem_append_left _ (show _ ∈ my_193_0 from List.mem_of_getElem? (i := 41) rfl))
theorem cd_193_113 : mt_cd 193 113 = some (.iload_n 1) := mt_cd_of (q := (113, .iload_n 1, 1)) mq_193 ci_193 (List.mem_append_left _ (show _ ∈ my_193_0 from List.mem_of_getElem? (i := 42) rfl))
theorem cd_193_114 : mt_cd 193 114 = some (.iaload) := mt_cd_of (q := (114, .iaload, 1)) mq_193 ci_193 (List.mem_append_left _ (show _ ∈ my_193_0 from List.mem_of_getElem? (i := 43) rfl))
theorem cd_193_115 : mt_cd 193 115 = some (.invokevirtual 557) := mt_cd_of (q := (115, .invokevirtual 557, 3)) mq_193 ci_193 (List.mem_append_left _ (show _ ∈ my_193_0 from List.mem_of_getElem? (i := 44) rfl))
theorem cd_193_118 : mt_cd 193 118 = some (.ifCond .eq 7) := mt_cd_of (q := (118, .ifCond .eq 7, 3)) mq_193 ci_193 (List.mem_append_left _ (show _ ∈ my_193_0 from List.mem_of_getElem? (i := 45) rfl))
theorem cd_193_121 : mt_cd 193 121 = some (.iconst 1) := mt_cd_of (q := (121, .iconst 1, 1)) mq_193 ci_193 (List.mem_append_left _ (show _ ∈ my_193_0 from List.mem_of_getElem? (i := 46) rfl))
theorem cd_193_122 : mt_cd 193 122 = some (.goto 4) := mt_cd_of (q := (122, .goto 4, 3)) mq_193 ci_193 (List.mem_append_left _ (show _ ∈ my_193_0 from List.mem_of_getElem? (i := 47) rfl))
theorem cd_193_125 : mt_cd 193 125 = some (.iconst 0) := mt_cd_of (q := (125, .iconst 0, 1)) mq_193 ci_193 (List.mem_append_left _ (show _ ∈ my_193_0 from List.mem_of_getElem? (i := 48) rfl))
theorem cd_193_126 : mt_cd 193 126 = some (.ireturn) := mt_cd_of (q := (126, .ireturn, 1)) mq_193 ci_193 (List.mem_append_left _ (show _ ∈ my_193_0 from List.mem_of_getElem? (i := 49) rfl))
theorem cd_193_127 : mt_cd 193 127 = some (.aload_n 0) := mt_cd_of (q := (127, .aload_n 0, 1)) mq_193 ci_193 (List.mem_append_left _ (show _ ∈ my_193_0 from List.mem_of_getElem? (i := 50) rfl))
theorem cd_193_128 : mt_cd 193 128 = some (.getfield 92) := mt_cd_of (q := (128, .getfield 92, 3)) mq_193 ci_193 (List.mem_append_left _ (show _ ∈ my_193_0 from List.mem_of_getElem? (i := 51) rfl))
theorem cd_193_131 : mt_cd 193 131 = some (.iload_n 1) := mt_cd_of (q := (131, .iload_n 1, 1)) mq_193 ci_193 (List.mem_append_left _ (show _ ∈ my_193_0 from List.mem_of_getElem? (i := 52) rfl))
theorem cd_193_132 : mt_cd 193 132 = some (.iaload) := mt_cd_of (q := (132, .iaload, 1)) mq_193 ci_193 (List.mem_append_left _ (show _ ∈ my_193_0 from List.mem_of_getElem? (i := 53) rfl))
theorem cd_193_133 : mt_cd 193 133 = some (.istore_n 2) := mt_cd_of (q := (133, .istore_n 2, 1)) mq_193 ci_193 (List.mem_append_left _ (show _ ∈ my_193_0 from List.mem_of_getElem? (i := 54) rfl))
theorem cd_193_134 : mt_cd 193 134 = some (.iload_n 2) := mt_cd_of (q := (134, .iload_n 2, 1)) mq_193 ci_193 (List.mem_append_left _ (show _ ∈ my_193_0 from List.mem_of_getElem? (i := 55) rfl))
theorem cd_193_135 : mt_cd 193 135 = some (.ifCond .lt 138) := mt_cd_of (q := (135, .ifCond .lt 138, 3)) mq_193 ci_193 (List.mem_append_left _ (show _ ∈ my_193_0 from List.mem_of_getElem? (i := 56) rfl))
theorem cd_193_138 : mt_cd 193 138 = some (.aload_n 0) := mt_cd_of (q := (138, .aload_n 0, 1)) mq_193 ci_193 (List.mem_append_left _ (show _ ∈ my_193_0 from List.mem_of_getElem? (i := 57) rfl))
theorem cd_193_139 : mt_cd 193 139 = some (.getfield 77) := mt_cd_of (q := (139, .getfield 77, 3)) mq_193 ci_193 (List.mem_append_left _ (show _ ∈ my_193_0 from List.mem_of_getElem? (i := 58) rfl))
theorem cd_193_142 : mt_cd 193 142 = some (.iload_n 2) := mt_cd_of (q := (142, .iload_n 2, 1)) mq_193 ci_193 (List.mem_append_left _ (show _ ∈ my_193_0 from List.mem_of_getElem? (i := 59) rfl))
theorem cd_193_143 : mt_cd 193 143 = some (.iaload) := mt_cd_of (q := (143, .iaload, 1)) mq_193 ci_193 (List.mem_append_right _ (List.mem_append_left _ (show _ ∈ my_193_1 from List.mem_of_getElem? (i := 0) rfl)))
theorem cd_193_144 : mt_cd 193 144 = some (.bipush 8) := mt_cd_of (q := (144, .bipush 8, 2)) mq_193 ci_193 (List.mem_append_right _ (List.mem_append_left _ (show _ ∈ my_193_1 from List.mem_of_getElem? (i := 1) rfl)))
theorem cd_193_146 : mt_cd 193 146 = some (.if_icmp .eq 16) := mt_cd_of (q := (146, .if_icmp .eq 16, 3)) mq_193 ci_193 (List.mem_append_right _ (List.mem_append_left _ (show _ ∈ my_193_1 from List.mem_of_getElem? (i := 2) rfl)))
theorem cd_193_149 : mt_cd 193 149 = some (.aload_n 0) := mt_cd_of (q := (149, .aload_n 0, 1)) mq_193 ci_193 (List.mem_append_right _ (List.mem_append_left _ (show _ ∈ my_193_1 from List.mem_of_getElem? (i := 3) rfl)))
theorem cd_193_150 : mt_cd 193 150 = some (.aload_n 0) := mt_cd_of (q := (150, .aload_n 0, 1)) mq_193 ci_193 (List.mem_append_right _ (List.mem_append_left _ (show _ ∈ my_193_1 from List.mem_of_getElem? (i := 4) rfl)))
theorem cd_193_151 : mt_cd 193 151 = some (.getfield 89) := mt_cd_of (q := (151, .getfield 89, 3)) mq_193 ci_193 (List.mem_append_right _ (List.mem_append_left _ (show _ ∈ my_193_1 from List.mem_of_getElem? (i := 5) rfl)))
theorem cd_193_154 : mt_cd 193 154 = some (.iload_n 2) := mt_cd_of (q := (154, .iload_n 2, 1)) mq_193 ci_193 (List.mem_append_right _ (List.mem_append_left _ (show _ ∈ my_193_1 from List.mem_of_getElem? (i := 6) rfl)))
theorem cd_193_155 : mt_cd 193 155 = some (.iaload) := mt_cd_of (q := (155, .iaload, 1)) mq_193 ci_193 (List.mem_append_right _ (List.mem_append_left _ (show _ ∈ my_193_1 from List.mem_of_getElem? (i := 7) rfl)))
theorem cd_193_156 : mt_cd 193 156 = some (.invokevirtual 554) := mt_cd_of (q := (156, .invokevirtual 554, 3)) mq_193 ci_193 (List.mem_append_right _ (List.mem_append_left _ (show _ ∈ my_193_1 from List.mem_of_getElem? (i := 8) rfl)))
theorem cd_193_159 : mt_cd 193 159 = some (.ifCond .ne 16) := mt_cd_of (q := (159, .ifCond .ne 16, 3)) mq_193 ci_193 (List.mem_append_right _ (List.mem_append_left _ (show _ ∈ my_193_1 from List.mem_of_getElem? (i := 9) rfl)))
theorem cd_193_162 : mt_cd 193 162 = some (.aload_n 0) := mt_cd_of (q := (162, .aload_n 0, 1)) mq_193 ci_193 (List.mem_append_right _ (List.mem_append_left _ (show _ ∈ my_193_1 from List.mem_of_getElem? (i := 10) rfl)))
theorem cd_193_163 : mt_cd 193 163 = some (.aload_n 0) := mt_cd_of (q := (163, .aload_n 0, 1)) mq_193 ci_193 (List.mem_append_right _ (List.mem_append_left _ (show _ ∈ my_193_1 from List.mem_of_getElem? (i := 11) rfl)))
theorem cd_193_164 : mt_cd 193 164 = some (.getfield 98) := mt_cd_of (q := (164, .getfield 98, 3)) mq_193 ci_193 (List.mem_append_right _ (List.mem_append_left _ (show _ ∈ my_193_1 from List.mem_of_getElem? (i := 12) rfl)))
theorem cd_193_167 : mt_cd 193 167 = some (.iload_n 2) := mt_cd_of (q := (167, .iload_n 2, 1)) mq_193 ci_193 (List.mem_append_right _ (List.mem_append_left _ (show _ ∈ my_193_1 from List.mem_of_getElem? (i := 13) rfl)))
theorem cd_193_168 : mt_cd 193 168 = some (.iaload) := mt_cd_of (q := (168, .iaload, 1)) mq_193 ci_193 (List.mem_append_right _ (List.mem_append_left _ (show _ ∈ my_193_1 from List.mem_of_getElem? (i := 14) rfl)))
theorem cd_193_169 : mt_cd 193 169 = some (.invokevirtual 557) := mt_cd_of (q := (169, .invokevirtual 557, 3)) mq_193 ci_193 (List.mem_append_right _ (List.mem_append_left _ (show _ ∈ my_193_1 from List.mem_of_getElem? (i := 15) rfl)))
theorem cd_193_172 : mt_cd 193 172 = some (.ifCond .eq 5) := mt_cd_of (q := (172, .ifCond .eq 5, 3)) mq_193 ci_193 (List.mem_append_right _ (List.mem_append_left _ (show _ ∈ my_193_1 from List.mem_of_getElem? (i := 16) rfl)))
theorem cd_193_175 : mt_cd 193 175 = some (.iconst 1) := mt_cd_of (q := (175, .iconst 1, 1)) mq_193 ci_193 (List.mem_append_right _ (List.mem_append_left _ (show _ ∈ my_193_1 from List.mem_of_getElem? (i := 17) rfl)))
theorem cd_193_176 : mt_cd 193 176 = some (.ireturn) := mt_cd_of (q := (176, .ireturn, 1)) mq_193 ci_193 (List.mem_append_right _ (List.mem_append_left _ (show _ ∈ my_193_1 from List.mem_of_getElem? (i := 18) rfl)))
theorem cd_193_177 : mt_cd 193 177 = some (.aload_n 0) := mt_cd_of (q := (177, .aload_n 0, 1)) mq_193 ci_193 (List.mem_append_right _ (List.mem_append_left _ (show _ ∈ my_193_1 from List.mem_of_getElem? (i := 19) rfl)))
theorem cd_193_178 : mt_cd 193 178 = some (.getfield 77) := mt_cd_of (q := (178, .getfield 77, 3)) mq_193 ci_193 (List.mem_append_right _ (List.mem_append_left _ (show _ ∈ my_193_1 from List.mem_of_getElem? (i := 20) rfl)))
theorem cd_193_181 : mt_cd 193 181 = some (.iload_n 2) := mt_cd_of (q := (181, .iload_n 2, 1)) mq_193 ci_193 (List.mem_append_right _ (List.mem_append_left _ (show _ ∈ my_193_1 from List.mem_of_getElem? (i := 21) rfl)))
theorem cd_193_182 : mt_cd 193 182 = some (.iaload) := mt_cd_of (q := (182, .iaload, 1)) mq_193 ci_193 (List.mem_append_right _ (List.mem_append_left _ (show _ ∈ my_193_1 from List.mem_of_getElem? (i := 22) rfl)))
theorem cd_193_183 : mt_cd 193 183 = some (.bipush 8) := mt_cd_of (q := (183, .bipush 8, 2)) mq_193 ci_193 (List.mem_append_right _ (List.mem_append_left _ (show _ ∈ my_193_1 from List.mem_of_getElem? (i := 23) rfl)))
theorem cd_193_185 : mt_cd 193 185 = some (.if_icmp .eq 6) := mt_cd_of (q := (185, .if_icmp .eq 6, 3)) mq_193 ci_193 (List.mem_append_right _ (List.mem_append_left _ (show _ ∈ my_193_1 from List.mem_of_getElem? (i := 24) rfl)))
theorem cd_193_188 : mt_cd 193 188 = some (.goto 75) := mt_cd_of (q := (188, .goto 75, 3)) mq_193 ci_193 (List.mem_append_right _ (List.mem_append_left _ (show _ ∈ my_193_1 from List.mem_of_getElem? (i := 25) rfl)))
theorem cd_193_191 : mt_cd 193 191 = some (.lconst 0) := mt_cd_of (q := (191, .lconst 0, 1)) mq_193 ci_193 (List.mem_append_right _ (List.mem_append_left _ (show _ ∈ my_193_1 from List.mem_of_getElem? (i := 26) rfl)))
theorem cd_193_192 : mt_cd 193 192 = some (.lstore_n 3) := mt_cd_of (q := (192, .lstore_n 3, 1)) mq_193 ci_193 (List.mem_append_right _ (List.mem_append_left _ (show _ ∈ my_193_1 from List.mem_of_getElem? (i := 27) rfl)))
theorem cd_193_193 : mt_cd 193 193 = some (.aload_n 0) := mt_cd_of (q := (193, .aload_n 0, 1)) mq_193 ci_193 (List.mem_append_right _ (List.mem_append_left _ (show _ ∈ my_193_1 from List.mem_of_getElem? (i := 28) rfl)))
theorem cd_193_194 : mt_cd 193 194 = some (.getfield 141) := mt_cd_of (q := (194, .getfield 141, 3)) mq_193 ci_193 (List.mem_append_right _ (List.mem_append_left _ (show _ ∈ my_193_1 from List.mem_of_getElem? (i := 29) rfl)))
theorem cd_193_197 : mt_cd 193 197 = some (.iload_n 2) := mt_cd_of (q := (197, .iload_n 2, 1)) mq_193 ci_193 (List.mem_append_right _ (List.mem_append_left _ (show _ ∈ my_193_1 from List.mem_of_getElem? (i := 30) rfl)))
theorem cd_193_198 : mt_cd 193 198 = some (.iaload) := mt_cd_of (q := (198, .iaload, 1)) mq_193 ci_193 (List.mem_append_right _ (List.mem_append_left _ (show _ ∈ my_193_1 from List.mem_of_getElem? (i := 31) rfl)))
theorem cd_193_199 : mt_cd 193 199 = some (.istore 5) := mt_cd_of (q := (199, .istore 5, 2)) mq_193 ci_193 (List.mem_append_right _ (List.mem_append_left _ (show _ ∈ my_193_1 from List.mem_of_getElem? (i := 32) rfl)))
theorem cd_193_201 : mt_cd 193 201 = some (.iload 5) := mt_cd_of (q := (201, .iload 5, 2)) mq_193 ci_193 (List.mem_append_right _ (List.mem_append_left _ (show _ ∈ my_193_1 from List.mem_of_getElem? (i := 33) rfl)))
theorem cd_193_203 : mt_cd 193 203 = some (.aload_n 0) := mt_cd_of (q := (203, .aload_n 0, 1)) mq_193 ci_193 (List.mem_append_right _ (List.mem_append_left _ (show _ ∈ my_193_1 from List.mem_of_getElem? (i := 34) rfl)))
theorem cd_193_204 : mt_cd 193 204 = some (.getfield 141) := mt_cd_of (q := (204, .getfield 141, 3)) mq_193 ci_193 (List.mem_append_right _ (List.mem_append_left _ (show _ ∈ my_193_1 from List.mem_of_getElem? (i := 35) rfl)))
theorem cd_193_207 : mt_cd 193 207 = some (.iload_n 2) := mt_cd_of (q := (207, .iload_n 2, 1)) mq_193 ci_193 (List.mem_append_right _ (List.mem_append_left _ (show _ ∈ my_193_1 from List.mem_of_getElem? (i := 36) rfl)))
theorem cd_193_208 : mt_cd 193 208 = some (.iaload) := mt_cd_of (q := (208, .iaload, 1)) mq_193 ci_193 (List.mem_append_right _ (List.mem_append_left _ (show _ ∈ my_193_1 from List.mem_of_getElem? (i := 37) rfl)))
theorem cd_193_209 : mt_cd 193 209 = some (.aload_n 0) := mt_cd_of (q := (209, .aload_n 0, 1)) mq_193 ci_193 (List.mem_append_right _ (List.mem_append_left _ (show _ ∈ my_193_1 from List.mem_of_getElem? (i := 38) rfl)))
theorem cd_193_210 : mt_cd 193 210 = some (.getfield 95) := mt_cd_of (q := (210, .getfield 95, 3)) mq_193 ci_193 (List.mem_append_right _ (List.mem_append_left _ (show _ ∈ my_193_1 from List.mem_of_getElem? (i := 39) rfl)))
theorem cd_193_213 : mt_cd 193 213 = some (.iload_n 2) := mt_cd_of (q := (213, .iload_n 2, 1)) mq_193 ci_193 (List.mem_append_right _ (List.mem_append_left _ (show _ ∈ my_193_1 from List.mem_of_getElem? (i := 40) rfl)))
theorem cd_193_214 : mt_cd 193 214 = some (.iaload) := mt_cd_of (q := (214, .iaload, 1)) mq_193 ci_193 (List.mem_append_right _ (List.mem_append_left _ (show _ ∈ my_193_1 from List.mem_of_getElem? (i := 41) rfl)))
theorem cd_193_215 : mt_cd 193 215 = some (.iadd) := mt_cd_of (q := (215, .iadd, 1)) mq_193 ci_193 (List.mem_append_right _ (List.mem_append_left _ (show _ ∈ my_193_1 from List.mem_of_getElem? (i := 42) rfl)))
theorem cd_193_216 : mt_cd 193 216 = some (.if_icmp .ge 37) := mt_cd_of (q := (216, .if_icmp .ge 37, 3)) mq_193 ci_193 (List.mem_append_right _ (List.mem_append_left _ (show _ ∈ my_193_1 from List.mem_of_getElem? (i := 43) rfl)))
theorem cd_193_219 : mt_cd 193 219 = some (.lload_n 3) := mt_cd_of (q := (219, .lload_n 3, 1)) mq_193 ci_193 (List.mem_append_right _ (List.mem_append_left _ (show _ ∈ my_193_1 from List.mem_of_getElem? (i := 44) rfl)))
theorem cd_193_220 : mt_cd 193 220 = some (.ldc2_w 560) := mt_cd_of (q := (220, .ldc2_w 560, 3)) mq_193 ci_193 (List.mem_append_right _ (List.mem_append_left _ (show _ ∈ my_193_1 from List.mem_of_getElem? (i := 45) rfl)))
theorem cd_193_223 : mt_cd 193 223 = some (.lcmp) := mt_cd_of (q := (223, .lcmp, 1)) mq_193 ci_193 (List.mem_append_right _ (List.mem_append_left _ (show _ ∈ my_193_1 from List.mem_of_getElem? (i := 46) rfl)))
theorem cd_193_224 : mt_cd 193 224 = some (.ifCond .gt 29) := mt_cd_of (q := (224, .ifCond .gt 29, 3)) mq_193 ci_193 (List.mem_append_right _ (List.mem_append_left _ (show _ ∈ my_193_1 from List.mem_of_getElem? (i := 47) rfl)))
theorem cd_193_227 : mt_cd 193 227 = some (.lload_n 3) := mt_cd_of (q := (227, .lload_n 3, 1)) mq_193 ci_193 (List.mem_append_right _ (List.mem_append_left _ (show _ ∈ my_193_1 from List.mem_of_getElem? (i := 48) rfl)))
theorem cd_193_228 : mt_cd 193 228 = some (.aload_n 0) := mt_cd_of (q := (228, .aload_n 0, 1)) mq_193 ci_193 (List.mem_append_right _ (List.mem_append_left _ (show _ ∈ my_193_1 from List.mem_of_getElem? (i := 49) rfl)))
theorem cd_193_229 : mt_cd 193 229 = some (.getfield 108) := mt_cd_of (q := (229, .getfield 108, 3)) mq_193 ci_193 (List.mem_append_right _ (List.mem_append_left _ (show _ ∈ my_193_1 from List.mem_of_getElem? (i := 50) rfl)))
theorem cd_193_232 : mt_cd 193 232 = some (.iload 5) := mt_cd_of (q := (232, .iload 5, 2)) mq_193 ci_193 (List.mem_append_right _ (List.mem_append_left _ (show _ ∈ my_193_1 from List.mem_of_getElem? (i := 51) rfl)))
theorem cd_193_234 : mt_cd 193 234 = some (.laload) := mt_cd_of (q := (234, .laload, 1)) mq_193 ci_193 (List.mem_append_right _ (List.mem_append_left _ (show _ ∈ my_193_1 from List.mem_of_getElem? (i := 52) rfl)))
theorem cd_193_235 : mt_cd 193 235 = some (.aload_n 0) := mt_cd_of (q := (235, .aload_n 0, 1)) mq_193 ci_193 (List.mem_append_right _ (List.mem_append_left _ (show _ ∈ my_193_1 from List.mem_of_getElem? (i := 53) rfl)))
theorem cd_193_236 : mt_cd 193 236 = some (.getfield 105) := mt_cd_of (q := (236, .getfield 105, 3)) mq_193 ci_193 (List.mem_append_right _ (List.mem_append_left _ (show _ ∈ my_193_1 from List.mem_of_getElem? (i := 54) rfl)))
theorem cd_193_239 : mt_cd 193 239 = some (.iload 5) := mt_cd_of (q := (239, .iload 5, 2)) mq_193 ci_193 (List.mem_append_right _ (List.mem_append_left _ (show _ ∈ my_193_1 from List.mem_of_getElem? (i := 55) rfl)))
theorem cd_193_241 : mt_cd 193 241 = some (.laload) := mt_cd_of (q := (241, .laload, 1)) mq_193 ci_193 (List.mem_append_right _ (List.mem_append_left _ (show _ ∈ my_193_1 from List.mem_of_getElem? (i := 56) rfl)))
theorem cd_193_242 : mt_cd 193 242 = some (.lsub) := mt_cd_of (q := (242, .lsub, 1)) mq_193 ci_193 (List.mem_append_right _ (List.mem_append_left _ (show _ ∈ my_193_1 from List.mem_of_getElem? (i := 57) rfl)))
theorem cd_193_243 : mt_cd 193 243 = some (.lconst 1) := mt_cd_of (q := (243, .lconst 1, 1)) mq_193 ci_193 (List.mem_append_right _ (List.mem_append_left _ (show _ ∈ my_193_1 from List.mem_of_getElem? (i := 58) rfl)))
theorem cd_193_244 : mt_cd 193 244 = some (.ladd) := mt_cd_of (q := (244, .ladd, 1)) mq_193 ci_193 (List.mem_append_right _ (List.mem_append_left _ (show _ ∈ my_193_1 from List.mem_of_getElem? (i := 59) rfl)))
theorem cd_193_245 : mt_cd 193 245 = some (.ladd) := mt_cd_of (q := (245, .ladd, 1)) mq_193 ci_193 (List.mem_append_right _ (List.mem_append_right _ ((show _ ∈ my_193_2 from List.mem_of_getElem? (i := 0) rfl))))
theorem cd_193_246 : mt_cd 193 246 = some (.lstore_n 3) := mt_cd_of (q := (246, .lstore_n 3, 1)) mq_193 ci_193 (List.mem_append_right _ (List.mem_append_right _ ((show _ ∈ my_193_2 from List.mem_of_getElem? (i := 1) rfl))))
theorem cd_193_247 : mt_cd 193 247 = some (.iinc 5 1) := mt_cd_of (q := (247, .iinc 5 1, 3)) mq_193 ci_193 (List.mem_append_right _ (List.mem_append_right _ ((show _ ∈ my_193_2 from List.mem_of_getElem? (i := 2) rfl))))
theorem cd_193_250 : mt_cd 193 250 = some (.goto (-49)) := mt_cd_of (q := (250, .goto (-49), 3)) mq_193 ci_193 (List.mem_append_right _ (List.mem_append_right _ ((show _ ∈ my_193_2 from List.mem_of_getElem? (i := 3) rfl))))
theorem cd_193_253 : mt_cd 193 253 = some (.lload_n 3) := mt_cd_of (q := (253, .lload_n 3, 1)) mq_193 ci_193 (List.mem_append_right _ (List.mem_append_right _ ((show _ ∈ my_193_2 from List.mem_of_getElem? (i := 4) rfl))))
theorem cd_193_254 : mt_cd 193 254 = some (.ldc2_w 560) := mt_cd_of (q := (254, .ldc2_w 560, 3)) mq_193 ci_193 (List.mem_append_right _ (List.mem_append_right _ ((show _ ∈ my_193_2 from List.mem_of_getElem? (i := 5) rfl))))
theorem cd_193_257 : mt_cd 193 257 = some (.lcmp) := mt_cd_of (q := (257, .lcmp, 1)) mq_193 ci_193 (List.mem_append_right _ (List.mem_append_right _ ((show _ ∈ my_193_2 from List.mem_of_getElem? (i := 6) rfl))))
theorem cd_193_258 : mt_cd 193 258 = some (.ifCond .le 5) := mt_cd_of (q := (258, .ifCond .le 5, 3)) mq_193 ci_193 (List.mem_append_right _ (List.mem_append_right _ ((show _ ∈ my_193_2 from List.mem_of_getElem? (i := 7) rfl))))
theorem cd_193_261 : mt_cd 193 261 = some (.iconst 1) := mt_cd_of (q := (261, .iconst 1, 1)) mq_193 ci_193 (List.mem_append_right _ (List.mem_append_right _ ((show _ ∈ my_193_2 from List.mem_of_getElem? (i := 8) rfl))))
theorem cd_193_262 : mt_cd 193 262 = some (.ireturn) := mt_cd_of (q := (262, .ireturn, 1)) mq_193 ci_193 (List.mem_append_right _ (List.mem_append_right _ ((show _ ∈ my_193_2 from List.mem_of_getElem? (i := 9) rfl))))
theorem cd_193_263 : mt_cd 193 263 = some (.aload_n 0) := mt_cd_of (q := (263, .aload_n 0, 1)) mq_193 ci_193 (List.mem_append_right _ (List.mem_append_right _ ((show _ ∈ my_193_2 from List.mem_of_getElem? (i := 10) rfl))))
theorem cd_193_264 : mt_cd 193 264 = some (.getfield 138) := mt_cd_of (q := (264, .getfield 138, 3)) mq_193 ci_193 (List.mem_append_right _ (List.mem_append_right _ ((show _ ∈ my_193_2 from List.mem_of_getElem? (i := 11) rfl))))
theorem cd_193_267 : mt_cd 193 267 = some (.iload_n 2) := mt_cd_of (q := (267, .iload_n 2, 1)) mq_193 ci_193 (List.mem_append_right _ (List.mem_append_right _ ((show _ ∈ my_193_2 from List.mem_of_getElem? (i := 12) rfl))))
theorem cd_193_268 : mt_cd 193 268 = some (.iaload) := mt_cd_of (q := (268, .iaload, 1)) mq_193 ci_193 (List.mem_append_right _ (List.mem_append_right _ ((show _ ∈ my_193_2 from List.mem_of_getElem? (i := 13) rfl))))
theorem cd_193_269 : mt_cd 193 269 = some (.istore_n 2) := mt_cd_of (q := (269, .istore_n 2, 1)) mq_193 ci_193 (List.mem_append_right _ (List.mem_append_right _ ((show _ ∈ my_193_2 from List.mem_of_getElem? (i := 14) rfl))))
theorem cd_193_270 : mt_cd 193 270 = some (.goto (-136)) := mt_cd_of (q := (270, .goto (-136), 3)) mq_193 ci_193 (List.mem_append_right _ (List.mem_append_right _ ((show _ ∈ my_193_2 from List.mem_of_getElem? (i := 15) rfl))))
theorem cd_193_273 : mt_cd 193 273 = some (.aload_n 0) := mt_cd_of (q := (273, .aload_n 0, 1)) mq_193 ci_193 (List.mem_append_right _ (List.mem_append_right _ ((show _ ∈ my_193_2 from List.mem_of_getElem? (i := 16) rfl))))
theorem cd_193_274 : mt_cd 193 274 = some (.aload_n 0) := mt_cd_of (q := (274, .aload_n 0, 1)) mq_193 ci_193 (List.mem_append_right _ (List.mem_append_right _ ((show _ ∈ my_193_2 from List.mem_of_getElem? (i := 17) rfl))))
theorem cd_193_275 : mt_cd 193 275 = some (.getfield 98) := mt_cd_of (q := (275, .getfield 98, 3)) mq_193 ci_193 (List.mem_append_right _ (List.mem_append_right _ ((show _ ∈ my_193_2 from List.mem_of_getElem? (i := 18) rfl))))
theorem cd_193_278 : mt_cd 193 278 = some (.iload_n 1) := mt_cd_of (q := (278, .iload_n 1, 1)) mq_193 ci_193 (List.mem_append_right _ (List.mem_append_right _ ((show _ ∈ my_193_2 from List.mem_of_getElem? (i := 19) rfl))))
theorem cd_193_279 : mt_cd 193 279 = some (.iaload) := mt_cd_of (q := (279, .iaload, 1)) mq_193 ci_193 (List.mem_append_right _ (List.mem_append_right _ ((show _ ∈ my_193_2 from List.mem_of_getElem? (i := 20) rfl))))
theorem cd_193_280 : mt_cd 193 280 = some (.invokevirtual 557) := mt_cd_of (q := (280, .invokevirtual 557, 3)) mq_193 ci_193 (List.mem_append_right _ (List.mem_append_right _ ((show _ ∈ my_193_2 from List.mem_of_getElem? (i := 21) rfl))))
theorem cd_193_283 : mt_cd 193 283 = some (.ireturn) := mt_cd_of (q := (283, .ireturn, 1)) mq_193 ci_193 (List.mem_append_right _ (List.mem_append_right _ ((show _ ∈ my_193_2 from List.mem_of_getElem? (i := 22) rfl))))
theorem b_193_0 {d : Nat} {Q : (Option Value ⊕ Nat) → mi_H → Prop} (n sl : Nat) (f : Nat → mi_C) {l1 : Nat} {l2 : Int32} {o3 : Option Value} {o4 : Option Value} {o5 : Option Value} {o6 : Option Value} {fs7 : List Value} {x10 : Nat} (m12 i12 : Nat) (g12 : Nat → Int32) {t16 : Nat} (h8 : f l1 = .inr (12, fs7)) (h9 : l1 < n) (h11 : fs7[12]? = some (.ref x10)) (h13 : f x10 = .inl (0, m12, .inl g12)) (h14 : x10 < n ∨ x10 = mi_SC) (h15 : mi_ix l2 m12 i12) (h17 : mi_ts 6 121 0 6 #[42, 44, 44, 76, 121, 44, 44] ((g12 i12) : Int32).toInt = some t16) (h18 : mi_W d 193 t16 [some (.ref l1), some (.int l2), o3, o4, o5, o6] [] (n, sl, f) Q) : mi_W d 193 0 [some (.ref l1), some (.int l2), o3, o4, o5, o6] [] (n, sl, f) Q := by
  refine w_aload_n cd_193_0 rfl ?_
  refine w_getfield cd_193_1 (show mt_f 12 77 = some (12, 12) by decide +kernel) h8 h9 h11 ?_
  refine w_iload_n cd_193_4 rfl ?_
  refine w_iaload cd_193_5 h13 h14 h15 ?_
  exact w_tableswitch cd_193_6 h17 h18
theorem b_193_48 {d : Nat} {Q : (Option Value ⊕ Nat) → mi_H → Prop} (n sl : Nat) (f : Nat → mi_C) {l1 : Nat} {l2 : Int32} {o3 : Option Value} {o4 : Option Value} {o5 : Option Value} {o6 : Option Value} (h7 : Q (.inl (some (.int 0))) (n, sl, f)) : mi_W d 193 48 [some (.ref l1), some (.int l2), o3, o4, o5, o6] [] (n, sl, f) Q := by
  refine w_iconst (v := 0) cd_193_48 (by decide) ?_
  exact w_ireturn_z cd_193_49 (by decide +kernel) (by decide) h7
theorem b_193_50 {d : Nat} {Q : (Option Value ⊕ Nat) → mi_H → Prop} (n sl : Nat) (f : Nat → mi_C) {l1 : Nat} {l2 : Int32} {o3 : Option Value} {o4 : Option Value} {o5 : Option Value} {o6 : Option Value} {fs7 : List Value} {x10 : Nat} (m12 i12 : Nat) (g12 : Nat → Int32) {fs16 : List Value} (h8 : f l1 = .inr (12, fs7)) (h9 : l1 < n) (h11 : fs7[16]? = some (.ref x10)) (h13 : f x10 = .inl (0, m12, .inl g12)) (h14 : x10 < n ∨ x10 = mi_SC) (h15 : mi_ix l2 m12 i12) (h17 : f l1 = .inr (12, fs16)) (h18 : l1 < n) (h19 : mi_W d 194 0 (mi_en 2 [.ref l1, .int (g12 i12)]) [] (n, sl, f) (mi_Kc d 193 57 [some (.ref l1), some (.int l2), o3, o4, o5, o6] [] Q)) : mi_W (d + 1) 193 50 [some (.ref l1), some (.int l2), o3, o4, o5, o6] [] (n, sl, f) Q := by
  refine w_aload_n cd_193_50 rfl ?_
  refine w_aload_n cd_193_51 rfl ?_
  refine w_getfield cd_193_52 (show mt_f 12 89 = some (12, 16) by decide +kernel) h8 h9 h11 ?_
  refine w_iload_n cd_193_55 rfl ?_
  refine w_iaload cd_193_56 h13 h14 h15 ?_
  exact w_invokevirtual cd_193_57 (show mt_m 12 554 = some (194, 0) by decide +kernel) (rest := []) rfl (as := [.ref l1, .int (g12 i12)]) rfl h17 (Or.inl h18) ⟨Nat.le_of_ble_eq_true rfl, Nat.le_of_ble_eq_true rfl, Nat.le_of_ble_eq_true rfl⟩ h19
theorem b_193_60 {d : Nat} {Q : (Option Value ⊕ Nat) → mi_H → Prop} (n sl : Nat) (f : Nat → mi_C) {l1 : Nat} {l2 : Int32} {o3 : Option Value} {o4 : Option Value} {o5 : Option Value} {o6 : Option Value} {s7 : Int32} (h8 : ¬ s7 = (0 : Int32) → mi_W d 193 76 [some (.ref l1), some (.int l2), o3, o4, o5, o6] [] (n, sl, f) Q) (h9 : ¬ (¬ s7 = (0 : Int32)) → mi_W d 193 63 [some (.ref l1), some (.int l2), o3, o4, o5, o6] [] (n, sl, f) Q) : mi_W d 193 60 [some (.ref l1), some (.int l2), o3, o4, o5, o6] [.int s7] (n, sl, f) Q := by
  exact w_ifne cd_193_60 (by decide) h8 h9
theorem b_193_63 {d : Nat} {Q : (Option Value ⊕ Nat) → mi_H → Prop} (n sl : Nat) (f : Nat → mi_C) {l1 : Nat} {l2 : Int32} {o3 : Option Value} {o4 : Option Value} {o5 : Option Value} {o6 : Option Value} {fs7 : List Value} {x10 : Nat} (m12 i12 : Nat) (g12 : Nat → Int32) {fs16 : List Value} (h8 : f l1 = .inr (12, fs7)) (h9 : l1 < n) (h11 : fs7[19]? = some (.ref x10)) (h13 : f x10 = .inl (0, m12, .inl g12)) (h14 : x10 < n ∨ x10 = mi_SC) (h15 : mi_ix l2 m12 i12) (h17 : f l1 = .inr (12, fs16)) (h18 : l1 < n) (h19 : mi_W d 193 0 (mi_en 6 [.ref l1, .int (g12 i12)]) [] (n, sl, f) (mi_Kc d 193 70 [some (.ref l1), some (.int l2), o3, o4, o5, o6] [] Q)) : mi_W (d + 1) 193 63 [some (.ref l1), some (.int l2), o3, o4, o5, o6] [] (n, sl, f) Q := by
  refine w_aload_n cd_193_63 rfl ?_
  refine w_aload_n cd_193_64 rfl ?_
  refine w_getfield cd_193_65 (show mt_f 12 98 = some (12, 19) by decide +kernel) h8 h9 h11 ?_
  refine w_iload_n cd_193_68 rfl ?_
  refine w_iaload cd_193_69 h13 h14 h15 ?_
  exact w_invokevirtual cd_193_70 (show mt_m 12 557 = some (193, 0) by decide +kernel) (rest := []) rfl (as := [.ref l1, .int (g12 i12)]) rfl h17 (Or.inl h18) ⟨Nat.le_of_ble_eq_true rfl, Nat.le_of_ble_eq_true rfl, Nat.le_of_ble_eq_true rfl⟩ h19
theorem b_193_73 {d : Nat} {Q : (Option Value ⊕ Nat) → mi_H → Prop} (n sl : Nat) (f : Nat → mi_C) {l1 : Nat} {l2 : Int32} {o3 : Option Value} {o4 : Option Value} {o5 : Option Value} {o6 : Option Value} {s7 : Int32} (h8 : s7 = (0 : Int32) → mi_W d 193 80 [some (.ref l1), some (.int l2), o3, o4, o5, o6] [] (n, sl, f) Q) (h9 : ¬ (s7 = (0 : Int32)) → mi_W d 193 76 [some (.ref l1), some (.int l2), o3, o4, o5, o6] [] (n, sl, f) Q) : mi_W d 193 73 [some (.ref l1), some (.int l2), o3, o4, o5, o6] [.int s7] (n, sl, f) Q := by
  exact w_ifeq cd_193_73 (by decide) h8 h9
theorem b_193_76 {d : Nat} {Q : (Option Value ⊕ Nat) → mi_H → Prop} (n sl : Nat) (f : Nat → mi_C) {l1 : Nat} {l2 : Int32} {o3 : Option Value} {o4 : Option Value} {o5 : Option Value} {o6 : Option Value} (h7 : mi_W d 193 81 [some (.ref l1), some (.int l2), o3, o4, o5, o6] [.int 1] (n, sl, f) Q) : mi_W d 193 76 [some (.ref l1), some (.int l2), o3, o4, o5, o6] [] (n, sl, f) Q := by
  refine w_iconst (v := 1) cd_193_76 (by decide) ?_
  exact w_goto cd_193_77 (by decide) h7
theorem b_193_80 {d : Nat} {Q : (Option Value ⊕ Nat) → mi_H → Prop} (n sl : Nat) (f : Nat → mi_C) {l1 : Nat} {l2 : Int32} {o3 : Option Value} {o4 : Option Value} {o5 : Option Value} {o6 : Option Value} (h7 : mi_W d 193 81 [some (.ref l1), some (.int l2), o3, o4, o5, o6] [.int 0] (n, sl, f) Q) : mi_W d 193 80 [some (.ref l1), some (.int l2), o3, o4, o5, o6] [] (n, sl, f) Q := by
  refine w_iconst (v := 0) cd_193_80 (by decide) ?_
  exact h7
theorem b_193_81 {d : Nat} {Q : (Option Value ⊕ Nat) → mi_H → Prop} (n sl : Nat) (f : Nat → mi_C) {l1 : Nat} {l2 : Int32} {o3 : Option Value} {o4 : Option Value} {o5 : Option Value} {o6 : Option Value} {s7 : Int32} (h8 : s7 = 0 ∨ s7 = 1) (h9 : Q (.inl (some (.int s7))) (n, sl, f)) : mi_W d 193 81 [some (.ref l1), some (.int l2), o3, o4, o5, o6] [.int s7] (n, sl, f) Q := by
  exact w_ireturn_z cd_193_81 (by decide +kernel) h8 h9
theorem b_193_82 {d : Nat} {Q : (Option Value ⊕ Nat) → mi_H → Prop} (n sl : Nat) (f : Nat → mi_C) {l1 : Nat} {l2 : Int32} {o3 : Option Value} {o4 : Option Value} {o5 : Option Value} {o6 : Option Value} {fs7 : List Value} {x10 : Nat} (m12 i12 : Nat) (g12 : Nat → Int32) {fs16 : List Value} (h8 : f l1 = .inr (12, fs7)) (h9 : l1 < n) (h11 : fs7[16]? = some (.ref x10)) (h13 : f x10 = .inl (0, m12, .inl g12)) (h14 : x10 < n ∨ x10 = mi_SC) (h15 : mi_ix l2 m12 i12) (h17 : f l1 = .inr (12, fs16)) (h18 : l1 < n) (h19 : mi_W d 194 0 (mi_en 2 [.ref l1, .int (g12 i12)]) [] (n, sl, f) (mi_Kc d 193 89 [some (.ref l1), some (.int l2), o3, o4, o5, o6] [] Q)) : mi_W (d + 1) 193 82 [some (.ref l1), some (.int l2), o3, o4, o5, o6] [] (n, sl, f) Q := by
  refine w_aload_n cd_193_82 rfl ?_
  refine w_aload_n cd_193_83 rfl ?_
  refine w_getfield cd_193_84 (show mt_f 12 89 = some (12, 16) by decide +kernel) h8 h9 h11 ?_
  refine w_iload_n cd_193_87 rfl ?_
  refine w_iaload cd_193_88 h13 h14 h15 ?_
  exact w_invokevirtual cd_193_89 (show mt_m 12 554 = some (194, 0) by decide +kernel) (rest := []) rfl (as := [.ref l1, .int (g12 i12)]) rfl h17 (Or.inl h18) ⟨Nat.le_of_ble_eq_true rfl, Nat.le_of_ble_eq_true rfl, Nat.le_of_ble_eq_true rfl⟩ h19
theorem b_193_92 {d : Nat} {Q : (Option Value ⊕ Nat) → mi_H → Prop} (n sl : Nat) (f : Nat → mi_C) {l1 : Nat} {l2 : Int32} {o3 : Option Value} {o4 : Option Value} {o5 : Option Value} {o6 : Option Value} {s7 : Int32} (h8 : ¬ s7 = (0 : Int32) → mi_W d 193 121 [some (.ref l1), some (.int l2), o3, o4, o5, o6] [] (n, sl, f) Q) (h9 : ¬ (¬ s7 = (0 : Int32)) → mi_W d 193 95 [some (.ref l1), some (.int l2), o3, o4, o5, o6] [] (n, sl, f) Q) : mi_W d 193 92 [some (.ref l1), some (.int l2), o3, o4, o5, o6] [.int s7] (n, sl, f) Q := by
  exact w_ifne cd_193_92 (by decide) h8 h9
theorem b_193_95 {d : Nat} {Q : (Option Value ⊕ Nat) → mi_H → Prop} (n sl : Nat) (f : Nat → mi_C) {l1 : Nat} {l2 : Int32} {o3 : Option Value} {o4 : Option Value} {o5 : Option Value} {o6 : Option Value} {fs7 : List Value} {x10 : Nat} (m12 i12 : Nat) (g12 : Nat → Int32) {fs16 : List Value} (h8 : f l1 = .inr (12, fs7)) (h9 : l1 < n) (h11 : fs7[13]? = some (.ref x10)) (h13 : f x10 = .inl (0, m12, .inl g12)) (h14 : x10 < n ∨ x10 = mi_SC) (h15 : mi_ix l2 m12 i12) (h17 : f l1 = .inr (12, fs16)) (h18 : l1 < n) (h19 : mi_W d 193 0 (mi_en 6 [.ref l1, .int (g12 i12)]) [] (n, sl, f) (mi_Kc d 193 102 [some (.ref l1), some (.int l2), o3, o4, o5, o6] [] Q)) : mi_W (d + 1) 193 95 [some (.ref l1), some (.int l2), o3, o4, o5, o6] [] (n, sl, f) Q := by
  refine w_aload_n cd_193_95 rfl ?_
  refine w_aload_n cd_193_96 rfl ?_
  refine w_getfield cd_193_97 (show mt_f 12 80 = some (12, 13) by decide +kernel) h8 h9 h11 ?_
  refine w_iload_n cd_193_100 rfl ?_
  refine w_iaload cd_193_101 h13 h14 h15 ?_
  exact w_invokevirtual cd_193_102 (show mt_m 12 557 = some (193, 0) by decide +kernel) (rest := []) rfl (as := [.ref l1, .int (g12 i12)]) rfl h17 (Or.inl h18) ⟨Nat.le_of_ble_eq_true rfl, Nat.le_of_ble_eq_true rfl, Nat.le_of_ble_eq_true rfl⟩ h19
theorem b_193_105 {d : Nat} {Q : (Option Value ⊕ Nat) → mi_H → Prop} (n sl : Nat) (f : Nat → mi_C) {l1 : Nat} {l2 : Int32} {o3 : Option Value} {o4 : Option Value} {o5 : Option Value} {o6 : Option Value} {s7 : Int32} (h8 : ¬ s7 = (0 : Int32) → mi_W d 193 121 [some (.ref l1), some (.int l2), o3, o4, o5, o6] [] (n, sl, f) Q) (h9 : ¬ (¬ s7 = (0 : Int32)) → mi_W d 193 108 [some (.ref l1), some (.int l2), o3, o4, o5, o6] [] (n, sl, f) Q) : mi_W d 193 105 [some (.ref l1), some (.int l2), o3, o4, o5, o6] [.int s7] (n, sl, f) Q := by
  exact w_ifne cd_193_105 (by decide) h8 h9
theorem b_193_108 {d : Nat} {Q : (Option Value ⊕ Nat) → mi_H → Prop} (n sl : Nat) (f : Nat → mi_C) {l1 : Nat} {l2 : Int32} {o3 : Option Value} {o4 : Option Value} {o5 : Option Value} {o6 : Option Value} {fs7 : List Value} {x10 : Nat} (m12 i12 : Nat) (g12 : Nat → Int32) {fs16 : List Value} (h8 : f l1 = .inr (12, fs7)) (h9 : l1 < n) (h11 : fs7[14]? = some (.ref x10)) (h13 : f x10 = .inl (0, m12, .inl g12)) (h14 : x10 < n ∨ x10 = mi_SC) (h15 : mi_ix l2 m12 i12) (h17 : f l1 = .inr (12, fs16)) (h18 : l1 < n) (h19 : mi_W d 193 0 (mi_en 6 [.ref l1, .int (g12 i12)]) [] (n, sl, f) (mi_Kc d 193 115 [some (.ref l1), some (.int l2), o3, o4, o5, o6] [] Q)) : mi_W (d + 1) 193 108 [some (.ref l1), some (.int l2), o3, o4, o5, o6] [] (n, sl, f) Q := by
  refine w_aload_n cd_193_108 rfl ?_
  refine w_aload_n cd_193_109 rfl ?_
  refine w_getfield cd_193_110 (show mt_f 12 83 = some (12, 14) by decide +kernel) h8 h9 h11 ?_
  refine w_iload_n cd_193_113 rfl ?_
  refine w_iaload cd_193_114 h13 h14 h15 ?_
  exact w_invokevirtual cd_193_115 (show mt_m 12 557 = some (193, 0) by decide +kernel) (rest := []) rfl (as := [.ref l1, .int (g12 i12)]) rfl h17 (Or.inl h18) ⟨Nat.le_of_ble_eq_true rfl, Nat.le_of_ble_eq_true rfl, Nat.le_of_ble_eq_true rfl⟩ h19
theorem b_193_118 {d : Nat} {Q : (Option Value ⊕ Nat) → mi_H → Prop} (n sl : Nat) (f : Nat → mi_C) {l1 : Nat} {l2 : Int32} {o3 : Option Value} {o4 : Option Value} {o5 : Option Value} {o6 : Option Value} {s7 : Int32} (h8 : s7 = (0 : Int32) → mi_W d 193 125 [some (.ref l1), some (.int l2), o3, o4, o5, o6] [] (n, sl, f) Q) (h9 : ¬ (s7 = (0 : Int32)) → mi_W d 193 121 [some (.ref l1), some (.int l2), o3, o4, o5, o6] [] (n, sl, f) Q) : mi_W d 193 118 [some (.ref l1), some (.int l2), o3, o4, o5, o6] [.int s7] (n, sl, f) Q := by
  exact w_ifeq cd_193_118 (by decide) h8 h9
theorem b_193_121 {d : Nat} {Q : (Option Value ⊕ Nat) → mi_H → Prop} (n sl : Nat) (f : Nat → mi_C) {l1 : Nat} {l2 : Int32} {o3 : Option Value} {o4 : Option Value} {o5 : Option Value} {o6 : Option Value} (h7 : mi_W d 193 126 [some (.ref l1), some (.int l2), o3, o4, o5, o6] [.int 1] (n, sl, f) Q) : mi_W d 193 121 [some (.ref l1), some (.int l2), o3, o4, o5, o6] [] (n, sl, f) Q := by
  refine w_iconst (v := 1) cd_193_121 (by decide) ?_
  exact w_goto cd_193_122 (by decide) h7
theorem b_193_125 {d : Nat} {Q : (Option Value ⊕ Nat) → mi_H → Prop} (n sl : Nat) (f : Nat → mi_C) {l1 : Nat} {l2 : Int32} {o3 : Option Value} {o4 : Option Value} {o5 : Option Value} {o6 : Option Value} (h7 : mi_W d 193 126 [some (.ref l1), some (.int l2), o3, o4, o5, o6] [.int 0] (n, sl, f) Q) : mi_W d 193 125 [some (.ref l1), some (.int l2), o3, o4, o5, o6] [] (n, sl, f) Q := by
  refine w_iconst (v := 0) cd_193_125 (by decide) ?_
  exact h7
theorem b_193_126 {d : Nat} {Q : (Option Value ⊕ Nat) → mi_H → Prop} (n sl : Nat) (f : Nat → mi_C) {l1 : Nat} {l2 : Int32} {o3 : Option Value} {o4 : Option Value} {o5 : Option Value} {o6 : Option Value} {s7 : Int32} (h8 : s7 = 0 ∨ s7 = 1) (h9 : Q (.inl (some (.int s7))) (n, sl, f)) : mi_W d 193 126 [some (.ref l1), some (.int l2), o3, o4, o5, o6] [.int s7] (n, sl, f) Q := by
  exact w_ireturn_z cd_193_126 (by decide +kernel) h8 h9
theorem b_193_127 {d : Nat} {Q : (Option Value ⊕ Nat) → mi_H → Prop} (n sl : Nat) (f : Nat → mi_C) {l1 : Nat} {l2 : Int32} {o3 : Option Value} {o4 : Option Value} {o5 : Option Value} {o6 : Option Value} {fs7 : List Value} {x10 : Nat} (m12 i12 : Nat) (g12 : Nat → Int32) (h8 : f l1 = .inr (12, fs7)) (h9 : l1 < n) (h11 : fs7[17]? = some (.ref x10)) (h13 : f x10 = .inl (0, m12, .inl g12)) (h14 : x10 < n ∨ x10 = mi_SC) (h15 : mi_ix l2 m12 i12) (h16 : mi_W d 193 134 [some (.ref l1), some (.int l2), some (.int (g12 i12)), o4, o5, o6] [] (n, sl, f) Q) : mi_W d 193 127 [some (.ref l1), some (.int l2), o3, o4, o5, o6] [] (n, sl, f) Q := by
  refine w_aload_n cd_193_127 rfl ?_
  refine w_getfield cd_193_128 (show mt_f 12 92 = some (12, 17) by decide +kernel) h8 h9 h11 ?_
  refine w_iload_n cd_193_131 rfl ?_
  refine w_iaload cd_193_132 h13 h14 h15 ?_
  refine w_istore_n (ls' := [some (.ref l1), some (.int l2), some (.int (g12 i12)), o4, o5, o6]) cd_193_133 (Nat.le_of_ble_eq_true rfl) rfl ?_
  exact h16
theorem b_193_134 {d : Nat} {Q : (Option Value ⊕ Nat) → mi_H → Prop} (n sl : Nat) (f : Nat → mi_C) {l1 : Nat} {l2 : Int32} {l3 : Int32} {o4 : Option Value} {o5 : Option Value} {o6 : Option Value} (h7 : l3 < (0 : Int32) → mi_W d 193 273 [some (.ref l1), some (.int l2), some (.int l3), o4, o5, o6] [] (n, sl, f) Q) (h8 : ¬ (l3 < (0 : Int32)) → mi_W d 193 138 [some (.ref l1), some (.int l2), some (.int l3), o4, o5, o6] [] (n, sl, f) Q) : mi_W d 193 134 [some (.ref l1), some (.int l2), some (.int l3), o4, o5, o6] [] (n, sl, f) Q := by
  refine w_iload_n cd_193_134 rfl ?_
  exact w_iflt cd_193_135 (by decide) h7 h8
theorem b_193_138 {d : Nat} {Q : (Option Value ⊕ Nat) → mi_H → Prop} (n sl : Nat) (f : Nat → mi_C) {l1 : Nat} {l2 : Int32} {l3 : Int32} {o4 : Option Value} {o5 : Option Value} {o6 : Option Value} {fs7 : List Value} {x10 : Nat} (m12 i12 : Nat) (g12 : Nat → Int32) (h8 : f l1 = .inr (12, fs7)) (h9 : l1 < n) (h11 : fs7[12]? = some (.ref x10)) (h13 : f x10 = .inl (0, m12, .inl g12)) (h14 : x10 < n ∨ x10 = mi_SC) (h15 : mi_ix l3 m12 i12) (h16 : (g12 i12) = 8 → mi_W d 193 162 [some (.ref l1), some (.int l2), some (.int l3), o4, o5, o6] [] (n, sl, f) Q) (h17 : ¬ ((g12 i12) = 8) → mi_W d 193 149 [some (.ref l1), some (.int l2), some (.int l3), o4, o5, o6] [] (n, sl, f) Q) : mi_W d 193 138 [some (.ref l1), some (.int l2), some (.int l3), o4, o5, o6] [] (n, sl, f) Q := by
  refine w_aload_n cd_193_138 rfl ?_
  refine w_getfield cd_193_139 (show mt_f 12 77 = some (12, 12) by decide +kernel) h8 h9 h11 ?_
  refine w_iload_n cd_193_142 rfl ?_
  refine w_iaload cd_193_143 h13 h14 h15 ?_
  refine w_bipush (v := 8) cd_193_144 (by decide) ?_
  exact w_if_icmpeq cd_193_146 (by decide) h16 h17
theorem b_193_149 {d : Nat} {Q : (Option Value ⊕ Nat) → mi_H → Prop} (n sl : Nat) (f : Nat → mi_C) {l1 : Nat} {l2 : Int32} {l3 : Int32} {o4 : Option Value} {o5 : Option Value} {o6 : Option Value} {fs7 : List Value} {x10 : Nat} (m12 i12 : Nat) (g12 : Nat → Int32) {fs16 : List Value} (h8 : f l1 = .inr (12, fs7)) (h9 : l1 < n) (h11 : fs7[16]? = some (.ref x10)) (h13 : f x10 = .inl (0, m12, .inl g12)) (h14 : x10 < n ∨ x10 = mi_SC) (h15 : mi_ix l3 m12 i12) (h17 : f l1 = .inr (12, fs16)) (h18 : l1 < n) (h19 : mi_W d 194 0 (mi_en 2 [.ref l1, .int (g12 i12)]) [] (n, sl, f) (mi_Kc d 193 156 [some (.ref l1), some (.int l2), some (.int l3), o4, o5, o6] [] Q)) : mi_W (d + 1) 193 149 [some (.ref l1), some (.int l2), some (.int l3), o4, o5, o6] [] (n, sl, f) Q := by
  refine w_aload_n cd_193_149 rfl ?_
  refine w_aload_n cd_193_150 rfl ?_
  refine w_getfield cd_193_151 (show mt_f 12 89 = some (12, 16) by decide +kernel) h8 h9 h11 ?_
  refine w_iload_n cd_193_154 rfl ?_
  refine w_iaload cd_193_155 h13 h14 h15 ?_
  exact w_invokevirtual cd_193_156 (show mt_m 12 554 = some (194, 0) by decide +kernel) (rest := []) rfl (as := [.ref l1, .int (g12 i12)]) rfl h17 (Or.inl h18) ⟨Nat.le_of_ble_eq_true rfl, Nat.le_of_ble_eq_true rfl, Nat.le_of_ble_eq_true rfl⟩ h19
theorem b_193_159 {d : Nat} {Q : (Option Value ⊕ Nat) → mi_H → Prop} (n sl : Nat) (f : Nat → mi_C) {l1 : Nat} {l2 : Int32} {l3 : Int32} {o4 : Option Value} {o5 : Option Value} {o6 : Option Value} {s7 : Int32} (h8 : ¬ s7 = (0 : Int32) → mi_W d 193 175 [some (.ref l1), some (.int l2), some (.int l3), o4, o5, o6] [] (n, sl, f) Q) (h9 : ¬ (¬ s7 = (0 : Int32)) → mi_W d 193 162 [some (.ref l1), some (.int l2), some (.int l3), o4, o5, o6] [] (n, sl, f) Q) : mi_W d 193 159 [some (.ref l1), some (.int l2), some (.int l3), o4, o5, o6] [.int s7] (n, sl, f) Q := by
  exact w_ifne cd_193_159 (by decide) h8 h9
theorem b_193_162 {d : Nat} {Q : (Option Value ⊕ Nat) → mi_H → Prop} (n sl : Nat) (f : Nat → mi_C) {l1 : Nat} {l2 : Int32} {l3 : Int32} {o4 : Option Value} {o5 : Option Value} {o6 : Option Value} {fs7 : List Value} {x10 : Nat} (m12 i12 : Nat) (g12 : Nat → Int32) {fs16 : List Value} (h8 : f l1 = .inr (12, fs7)) (h9 : l1 < n) (h11 : fs7[19]? = some (.ref x10)) (h13 : f x10 = .inl (0, m12, .inl g12)) (h14 : x10 < n ∨ x10 = mi_SC) (h15 : mi_ix l3 m12 i12) (h17 : f l1 = .inr (12, fs16)) (h18 : l1 < n) (h19 : mi_W d 193 0 (mi_en 6 [.ref l1, .int (g12 i12)]) [] (n, sl, f) (mi_Kc d 193 169 [some (.ref l1), some (.int l2), some (.int l3), o4, o5, o6] [] Q)) : mi_W (d + 1) 193 162 [some (.ref l1), some (.int l2), some (.int l3), o4, o5, o6] [] (n, sl, f) Q := by
  refine w_aload_n cd_193_162 rfl ?_
  refine w_aload_n cd_193_163 rfl ?_
  refine w_getfield cd_193_164 (show mt_f 12 98 = some (12, 19) by decide +kernel) h8 h9 h11 ?_
  refine w_iload_n cd_193_167 rfl ?_
  refine w_iaload cd_193_168 h13 h14 h15 ?_
  exact w_invokevirtual cd_193_169 (show mt_m 12 557 = some (193, 0) by decide +kernel) (rest := []) rfl (as := [.ref l1, .int (g12 i12)]) rfl h17 (Or.inl h18) ⟨Nat.le_of_ble_eq_true rfl, Nat.le_of_ble_eq_true rfl, Nat.le_of_ble_eq_true rfl⟩ h19
theorem b_193_172 {d : Nat} {Q : (Option Value ⊕ Nat) → mi_H → Prop} (n sl : Nat) (f : Nat → mi_C) {l1 : Nat} {l2 : Int32} {l3 : Int32} {o4 : Option Value} {o5 : Option Value} {o6 : Option Value} {s7 : Int32} (h8 : s7 = (0 : Int32) → mi_W d 193 177 [some (.ref l1), some (.int l2), some (.int l3), o4, o5, o6] [] (n, sl, f) Q) (h9 : ¬ (s7 = (0 : Int32)) → mi_W d 193 175 [some (.ref l1), some (.int l2), some (.int l3), o4, o5, o6] [] (n, sl, f) Q) : mi_W d 193 172 [some (.ref l1), some (.int l2), some (.int l3), o4, o5, o6] [.int s7] (n, sl, f) Q := by
  exact w_ifeq cd_193_172 (by decide) h8 h9
theorem b_193_175 {d : Nat} {Q : (Option Value ⊕ Nat) → mi_H → Prop} (n sl : Nat) (f : Nat → mi_C) {l1 : Nat} {l2 : Int32} {l3 : Int32} {o4 : Option Value} {o5 : Option Value} {o6 : Option Value} (h7 : Q (.inl (some (.int 1))) (n, sl, f)) : mi_W d 193 175 [some (.ref l1), some (.int l2), some (.int l3), o4, o5, o6] [] (n, sl, f) Q := by
  refine w_iconst (v := 1) cd_193_175 (by decide) ?_
  exact w_ireturn_z cd_193_176 (by decide +kernel) (by decide) h7
theorem b_193_177 {d : Nat} {Q : (Option Value ⊕ Nat) → mi_H → Prop} (n sl : Nat) (f : Nat → mi_C) {l1 : Nat} {l2 : Int32} {l3 : Int32} {o4 : Option Value} {o5 : Option Value} {o6 : Option Value} {fs7 : List Value} {x10 : Nat} (m12 i12 : Nat) (g12 : Nat → Int32) (h8 : f l1 = .inr (12, fs7)) (h9 : l1 < n) (h11 : fs7[12]? = some (.ref x10)) (h13 : f x10 = .inl (0, m12, .inl g12)) (h14 : x10 < n ∨ x10 = mi_SC) (h15 : mi_ix l3 m12 i12) (h16 : (g12 i12) = 8 → mi_W d 193 191 [some (.ref l1), some (.int l2), some (.int l3), o4, o5, o6] [] (n, sl, f) Q) (h17 : ¬ ((g12 i12) = 8) → mi_W d 193 188 [some (.ref l1), some (.int l2), some (.int l3), o4, o5, o6] [] (n, sl, f) Q) : mi_W d 193 177 [some (.ref l1), some (.int l2), some (.int l3), o4, o5, o6] [] (n, sl, f) Q := by
  refine w_aload_n cd_193_177 rfl ?_
  refine w_getfield cd_193_178 (show mt_f 12 77 = some (12, 12) by decide +kernel) h8 h9 h11 ?_
  refine w_iload_n cd_193_181 rfl ?_
  refine w_iaload cd_193_182 h13 h14 h15 ?_
  refine w_bipush (v := 8) cd_193_183 (by decide) ?_
  exact w_if_icmpeq cd_193_185 (by decide) h16 h17
theorem b_193_188 {d : Nat} {Q : (Option Value ⊕ Nat) → mi_H → Prop} (n sl : Nat) (f : Nat → mi_C) {l1 : Nat} {l2 : Int32} {l3 : Int32} {o4 : Option Value} {o5 : Option Value} {o6 : Option Value} (h7 : mi_W d 193 263 [some (.ref l1), some (.int l2), some (.int l3), o4, o5, o6] [] (n, sl, f) Q) : mi_W d 193 188 [some (.ref l1), some (.int l2), some (.int l3), o4, o5, o6] [] (n, sl, f) Q := by
  exact w_goto cd_193_188 (by decide) h7
theorem b_193_191 {d : Nat} {Q : (Option Value ⊕ Nat) → mi_H → Prop} (n sl : Nat) (f : Nat → mi_C) {l1 : Nat} {l2 : Int32} {l3 : Int32} {o4 : Option Value} {o5 : Option Value} {o6 : Option Value} {fs7 : List Value} {x10 : Nat} (m12 i12 : Nat) (g12 : Nat → Int32) (h8 : f l1 = .inr (12, fs7)) (h9 : l1 < n) (h11 : fs7[40]? = some (.ref x10)) (h13 : f x10 = .inl (0, m12, .inl g12)) (h14 : x10 < n ∨ x10 = mi_SC) (h15 : mi_ix l3 m12 i12) (h16 : mi_W d 193 201 [some (.ref l1), some (.int l2), some (.int l3), some (.long 0), none, some (.int (g12 i12))] [] (n, sl, f) Q) : mi_W d 193 191 [some (.ref l1), some (.int l2), some (.int l3), o4, o5, o6] [] (n, sl, f) Q := by
  refine w_lconst (lv := 0) cd_193_191 (by decide) ?_
  refine w_lstore_n (ls' := [some (.ref l1), some (.int l2), some (.int l3), some (.long 0), none, o6]) cd_193_192 (Nat.le_of_ble_eq_true rfl) rfl ?_
  refine w_aload_n cd_193_193 rfl ?_
  refine w_getfield cd_193_194 (show mt_f 12 141 = some (12, 40) by decide +kernel) h8 h9 h11 ?_
  refine w_iload_n cd_193_197 rfl ?_
  refine w_iaload cd_193_198 h13 h14 h15 ?_
  refine w_istore (ls' := [some (.ref l1), some (.int l2), some (.int l3), some (.long 0), none, some (.int (g12 i12))]) cd_193_199 (Nat.le_of_ble_eq_true rfl) rfl ?_
  exact h16
theorem b_193_201 {d : Nat} {Q : (Option Value ⊕ Nat) → mi_H → Prop} (n sl : Nat) (f : Nat → mi_C) {l1 : Nat} {l2 : Int32} {l3 : Int32} {l4 : Int64} {l5 : Int32} {fs6 : List Value} {x9 : Nat} (m11 i11 : Nat) (g11 : Nat → Int32) {fs15 : List Value} {x18 : Nat} (m20 i20 : Nat) (g20 : Nat → Int32) (h7 : f l1 = .inr (12, fs6)) (h8 : l1 < n) (h10 : fs6[40]? = some (.ref x9)) (h12 : f x9 = .inl (0, m11, .inl g11)) (h13 : x9 < n ∨ x9 = mi_SC) (h14 : mi_ix l3 m11 i11) (h16 : f l1 = .inr (12, fs15)) (h17 : l1 < n) (h19 : fs15[18]? = some (.ref x18)) (h21 : f x18 = .inl (0, m20, .inl g20)) (h22 : x18 < n ∨ x18 = mi_SC) (h23 : mi_ix l3 m20 i20) (h24 : ((g11 i11) + (g20 i20)) ≤ l5 → mi_W d 193 253 [some (.ref l1), some (.int l2), some (.int l3), some (.long l4), none, some (.int l5)] [] (n, sl, f) Q) (h25 : ¬ (((g11 i11) + (g20 i20)) ≤ l5) → mi_W d 193 219 [some (.ref l1), some (.int l2), some (.int l3), some (.long l4), none, some (.int l5)] [] (n, sl, f) Q) : mi_W d 193 201 [some (.ref l1), some (.int l2), some (.int l3), some (.long l4), none, some (.int l5)] [] (n, sl, f) Q := by
  refine w_iload cd_193_201 rfl ?_
  refine w_aload_n cd_193_203 rfl ?_
  refine w_getfield cd_193_204 (show mt_f 12 141 = some (12, 40) by decide +kernel) h7 h8 h10 ?_
  refine w_iload_n cd_193_207 rfl ?_
  refine w_iaload cd_193_208 h12 h13 h14 ?_
  refine w_aload_n cd_193_209 rfl ?_
  refine w_getfield cd_193_210 (show mt_f 12 95 = some (12, 18) by decide +kernel) h16 h17 h19 ?_
  refine w_iload_n cd_193_213 rfl ?_
  refine w_iaload cd_193_214 h21 h22 h23 ?_
  refine w_iadd cd_193_215 ?_
  exact w_if_icmpge cd_193_216 (by decide) h24 h25
theorem b_193_219 {d : Nat} {Q : (Option Value ⊕ Nat) → mi_H → Prop} (n sl : Nat) (f : Nat → mi_C) {l1 : Nat} {l2 : Int32} {l3 : Int32} {l4 : Int64} {l5 : Int32} (h6 : (0 : Int32) < (lg_cmp l4 16) → mi_W d 193 253 [some (.ref l1), some (.int l2), some (.int l3), some (.long l4), none, some (.int l5)] [] (n, sl, f) Q) (h7 : ¬ ((0 : Int32) < (lg_cmp l4 16)) → mi_W d 193 227 [some (.ref l1), some (.int l2), some (.int l3), some (.long l4), none, some (.int l5)] [] (n, sl, f) Q) : mi_W d 193 219 [some (.ref l1), some (.int l2), some (.int l3), some (.long l4), none, some (.int l5)] [] (n, sl, f) Q := by
  refine w_lload_n cd_193_219 rfl ?_
  refine w_ldc2_w (lv := 16) cd_193_220 (by decide +kernel) ?_
  refine w_lcmp cd_193_223 ?_
  exact w_ifgt cd_193_224 (by decide) h6 h7
theorem b_193_227 {d : Nat} {Q : (Option Value ⊕ Nat) → mi_H → Prop} (n sl : Nat) (f : Nat → mi_C) {l1 : Nat} {l2 : Int32} {l3 : Int32} {l4 : Int64} {l5 : Int32} {fs6 : List Value} {x9 : Nat} (m11 i11 : Nat) (g11 : Nat → Int64) {fs15 : List Value} {x18 : Nat} (m20 i20 : Nat) (g20 : Nat → Int64) (h7 : f l1 = .inr (12, fs6)) (h8 : l1 < n) (h10 : fs6[29]? = some (.ref x9)) (h12 : f x9 = .inl (3, m11, .inr (.inl g11))) (h13 : x9 < n) (h14 : mi_ix l5 m11 i11) (h16 : f l1 = .inr (12, fs15)) (h17 : l1 < n) (h19 : fs15[28]? = some (.ref x18)) (h21 : f x18 = .inl (3, m20, .inr (.inl g20))) (h22 : x18 < n) (h23 : mi_ix l5 m20 i20) (h24 : mi_W d 193 201 [some (.ref l1), some (.int l2), some (.int l3), some (.long (l4 + (((g11 i11) - (g20 i20)) + 1))), none, some (.int (l5 + 1))] [] (n, sl, f) Q) : mi_W d 193 227 [some (.ref l1), some (.int l2), some (.int l3), some (.long l4), none, some (.int l5)] [] (n, sl, f) Q := by
  refine w_lload_n cd_193_227 rfl ?_
  refine w_aload_n cd_193_228 rfl ?_
  refine w_getfield cd_193_229 (show mt_f 12 108 = some (12, 29) by decide +kernel) h7 h8 h10 ?_
  refine w_iload cd_193_232 rfl ?_
  refine w_laload cd_193_234 h12 h13 h14 ?_
  refine w_aload_n cd_193_235 rfl ?_
  refine w_getfield cd_193_236 (show mt_f 12 105 = some (12, 28) by decide +kernel) h16 h17 h19 ?_
  refine w_iload cd_193_239 rfl ?_
  refine w_laload cd_193_241 h21 h22 h23 ?_
  refine w_lsub cd_193_242 ?_
  refine w_lconst (lv := 1) cd_193_243 (by decide) ?_
  refine w_ladd cd_193_244 ?_
  refine w_ladd cd_193_245 ?_
  refine w_lstore_n (ls' := [some (.ref l1), some (.int l2), some (.int l3), some (.long (l4 + (((g11 i11) - (g20 i20)) + 1))), none, some (.int l5)]) cd_193_246 (Nat.le_of_ble_eq_true rfl) rfl ?_
  refine w_iinc (v := 1) (ls' := [some (.ref l1), some (.int l2), some (.int l3), some (.long (l4 + (((g11 i11) - (g20 i20)) + 1))), none, some (.int (l5 + 1))]) cd_193_247 rfl (by decide) rfl ?_
  exact w_goto cd_193_250 (by decide) h24
theorem b_193_253 {d : Nat} {Q : (Option Value ⊕ Nat) → mi_H → Prop} (n sl : Nat) (f : Nat → mi_C) {l1 : Nat} {l2 : Int32} {l3 : Int32} {l4 : Int64} {l5 : Int32} (h6 : (lg_cmp l4 16) ≤ (0 : Int32) → mi_W d 193 263 [some (.ref l1), some (.int l2), some (.int l3), some (.long l4), none, some (.int l5)] [] (n, sl, f) Q) (h7 : ¬ ((lg_cmp l4 16) ≤ (0 : Int32)) → mi_W d 193 261 [some (.ref l1), some (.int l2), some (.int l3), some (.long l4), none, some (.int l5)] [] (n, sl, f) Q) : mi_W d 193 253 [some (.ref l1), some (.int l2), some (.int l3), some (.long l4), none, some (.int l5)] [] (n, sl, f) Q := by
  refine w_lload_n cd_193_253 rfl ?_
  refine w_ldc2_w (lv := 16) cd_193_254 (by decide +kernel) ?_
  refine w_lcmp cd_193_257 ?_
  exact w_ifle cd_193_258 (by decide) h6 h7
theorem b_193_261 {d : Nat} {Q : (Option Value ⊕ Nat) → mi_H → Prop} (n sl : Nat) (f : Nat → mi_C) {l1 : Nat} {l2 : Int32} {l3 : Int32} {l4 : Int64} {l5 : Int32} (h6 : Q (.inl (some (.int 1))) (n, sl, f)) : mi_W d 193 261 [some (.ref l1), some (.int l2), some (.int l3), some (.long l4), none, some (.int l5)] [] (n, sl, f) Q := by
  refine w_iconst (v := 1) cd_193_261 (by decide) ?_
  exact w_ireturn_z cd_193_262 (by decide +kernel) (by decide) h6
theorem b_193_263 {d : Nat} {Q : (Option Value ⊕ Nat) → mi_H → Prop} (n sl : Nat) (f : Nat → mi_C) {l1 : Nat} {l2 : Int32} {l3 : Int32} {o4 : Option Value} {o5 : Option Value} {o6 : Option Value} {fs7 : List Value} {x10 : Nat} (m12 i12 : Nat) (g12 : Nat → Int32) (h8 : f l1 = .inr (12, fs7)) (h9 : l1 < n) (h11 : fs7[39]? = some (.ref x10)) (h13 : f x10 = .inl (0, m12, .inl g12)) (h14 : x10 < n ∨ x10 = mi_SC) (h15 : mi_ix l3 m12 i12) (h16 : mi_W d 193 134 [some (.ref l1), some (.int l2), some (.int (g12 i12)), o4, o5, o6] [] (n, sl, f) Q) : mi_W d 193 263 [some (.ref l1), some (.int l2), some (.int l3), o4, o5, o6] [] (n, sl, f) Q := by
  refine w_aload_n cd_193_263 rfl ?_
  refine w_getfield cd_193_264 (show mt_f 12 138 = some (12, 39) by decide +kernel) h8 h9 h11 ?_
  refine w_iload_n cd_193_267 rfl ?_
  refine w_iaload cd_193_268 h13 h14 h15 ?_
  refine w_istore_n (ls' := [some (.ref l1), some (.int l2), some (.int (g12 i12)), o4, o5, o6]) cd_193_269 (Nat.le_of_ble_eq_true rfl) rfl ?_
  exact w_goto cd_193_270 (by decide) h16
theorem b_193_273 {d : Nat} {Q : (Option Value ⊕ Nat) → mi_H → Prop} (n sl : Nat) (f : Nat → mi_C) {l1 : Nat} {l2 : Int32} {l3 : Int32} {o4 : Option Value} {o5 : Option Value} {o6 : Option Value} {fs7 : List Value} {x10 : Nat} (m12 i12 : Nat) (g12 : Nat → Int32) {fs16 : List Value} (h8 : f l1 = .inr (12, fs7)) (h9 : l1 < n) (h11 : fs7[19]? = some (.ref x10)) (h13 : f x10 = .inl (0, m12, .inl g12)) (h14 : x10 < n ∨ x10 = mi_SC) (h15 : mi_ix l2 m12 i12) (h17 : f l1 = .inr (12, fs16)) (h18 : l1 < n) (h19 : mi_W d 193 0 (mi_en 6 [.ref l1, .int (g12 i12)]) [] (n, sl, f) (mi_Kc d 193 280 [some (.ref l1), some (.int l2), some (.int l3), o4, o5, o6] [] Q)) : mi_W (d + 1) 193 273 [some (.ref l1), some (.int l2), some (.int l3), o4, o5, o6] [] (n, sl, f) Q := by
  refine w_aload_n cd_193_273 rfl ?_
  refine w_aload_n cd_193_274 rfl ?_
  refine w_getfield cd_193_275 (show mt_f 12 98 = some (12, 19) by decide +kernel) h8 h9 h11 ?_
  refine w_iload_n cd_193_278 rfl ?_
  refine w_iaload cd_193_279 h13 h14 h15 ?_
  exact w_invokevirtual cd_193_280 (show mt_m 12 557 = some (193, 0) by decide +kernel) (rest := []) rfl (as := [.ref l1, .int (g12 i12)]) rfl h17 (Or.inl h18) ⟨Nat.le_of_ble_eq_true rfl, Nat.le_of_ble_eq_true rfl, Nat.le_of_ble_eq_true rfl⟩ h19
theorem b_193_283 {d : Nat} {Q : (Option Value ⊕ Nat) → mi_H → Prop} (n sl : Nat) (f : Nat → mi_C) {l1 : Nat} {l2 : Int32} {l3 : Int32} {o4 : Option Value} {o5 : Option Value} {o6 : Option Value} {s7 : Int32} (h8 : s7 = 0 ∨ s7 = 1) (h9 : Q (.inl (some (.int s7))) (n, sl, f)) : mi_W d 193 283 [some (.ref l1), some (.int l2), some (.int l3), o4, o5, o6] [.int s7] (n, sl, f) Q := by
  exact w_ireturn_z cd_193_283 (by decide +kernel) h8 h9
end
