section
/-! MarloweHostModel.fit(J)J -/
set_option maxRecDepth 100000 in
theorem mq_177 : mt_q 177 = my_177 := rfl
set_option maxRecDepth 100000 in
theorem ci_177 : mt_inc 0 my_177.cd = true := by decide +kernel
theorem cd_177_0 : mt_cd 177 0 = some (.lload_n 1) := mt_cd_of (q := (0, .lload_n 1, 1)) mq_177 ci_177 (List.mem_of_getElem? (i := 0) rfl)
theorem cd_177_1 : mt_cd 177 1 = some (.ldc2_w 437) := mt_cd_of (q := (1, .ldc2_w 437, 3)) mq_177 ci_177 (List.mem_of_getElem? (i := 1) rfl)
theorem cd_177_4 : mt_cd 177 4 = some (.lcmp) := mt_cd_of (q := (4, .lcmp, 1)) mq_177 ci_177 (List.mem_of_getElem? (i := 2) rfl)
theorem cd_177_5 : mt_cd 177 5 = some (.ifCond .gt 11) := mt_cd_of (q := (5, .ifCond .gt 11, 3)) mq_177 ci_177 (List.mem_of_getElem? (i := 3) rfl)
theorem cd_177_8 : mt_cd 177 8 = some (.lload_n 1) := mt_cd_of (q := (8, .lload_n 1, 1)) mq_177 ci_177 (List.mem_of_getElem? (i := 4) rfl)
theorem cd_177_9 : mt_cd 177 9 = some (.ldc2_w 439) := mt_cd_of (q := (9, .ldc2_w 439, 3)) mq_177 ci_177 (List.mem_of_getElem? (i := 5) rfl)
theorem cd_177_12 : mt_cd 177 12 = some (.lcmp) := mt_cd_of (q := (12, .lcmp, 1)) mq_177 ci_177 (List.mem_of_getElem? (i := 6) rfl)
theorem cd_177_13 : mt_cd 177 13 = some (.ifCond .ge 8) := mt_cd_of (q := (13, .ifCond .ge 8, 3)) mq_177 ci_177 (List.mem_of_getElem? (i := 7) rfl)
theorem cd_177_16 : mt_cd 177 16 = some (.aload_n 0) := mt_cd_of (q := (16, .aload_n 0, 1)) mq_177 ci_177 (List.mem_of_getElem? (i := 8) rfl)
theorem cd_177_17 : mt_cd 177 17 = some (.iconst 1) := mt_cd_of (q := (17, .iconst 1, 1)) mq_177 ci_177 (List.mem_of_getElem? (i := 9) rfl)
theorem cd_177_18 : mt_cd 177 18 = some (.putfield 441) := mt_cd_of (q := (18, .putfield 441, 3)) mq_177 ci_177 (List.mem_of_getElem? (i := 10) rfl)
theorem cd_177_21 : mt_cd 177 21 = some (.lload_n 1) := mt_cd_of (q := (21, .lload_n 1, 1)) mq_177 ci_177 (List.mem_of_getElem? (i := 11) rfl)
theorem cd_177_22 : mt_cd 177 22 = some (.lreturn) := mt_cd_of (q := (22, .lreturn, 1)) mq_177 ci_177 (List.mem_of_getElem? (i := 12) rfl)
theorem b_177_0 {d : Nat} {Q : (Option Value ⊕ Nat) → mi_H → Prop} (n sl : Nat) (f : Nat → mi_C) {l1 : Nat} {l2 : Int64} (h3 : (0 : Int32) < (lg_cmp l2 4611686018427387904) → mi_W d 177 16 [some (.ref l1), some (.long l2), none] [] (n, sl, f) Q) (h4 : ¬ ((0 : Int32) < (lg_cmp l2 4611686018427387904)) → mi_W d 177 8 [some (.ref l1), some (.long l2), none] [] (n, sl, f) Q) : mi_W d 177 0 [some (.ref l1), some (.long l2), none] [] (n, sl, f) Q := by
  refine w_lload_n cd_177_0 rfl ?_
  refine w_ldc2_w (lv := 4611686018427387904) cd_177_1 (by decide +kernel) ?_
  refine w_lcmp cd_177_4 ?_
  exact w_ifgt cd_177_5 (by decide) h3 h4
theorem b_177_8 {d : Nat} {Q : (Option Value ⊕ Nat) → mi_H → Prop} (n sl : Nat) (f : Nat → mi_C) {l1 : Nat} {l2 : Int64} (h3 : (0 : Int32) ≤ (lg_cmp l2 ((-4611686018427387904))) → mi_W d 177 21 [some (.ref l1), some (.long l2), none] [] (n, sl, f) Q) (h4 : ¬ ((0 : Int32) ≤ (lg_cmp l2 ((-4611686018427387904)))) → mi_W d 177 16 [some (.ref l1), some (.long l2), none] [] (n, sl, f) Q) : mi_W d 177 8 [some (.ref l1), some (.long l2), none] [] (n, sl, f) Q := by
  refine w_lload_n cd_177_8 rfl ?_
  refine w_ldc2_w (lv := (-4611686018427387904)) cd_177_9 (by decide +kernel) ?_
  refine w_lcmp cd_177_12 ?_
  exact w_ifge cd_177_13 (by decide) h3 h4
theorem b_177_16 {d : Nat} {Q : (Option Value ⊕ Nat) → mi_H → Prop} (n sl : Nat) (f : Nat → mi_C) {l1 : Nat} {l2 : Int64} {fs3 : List Value} (h4 : f l1 = .inr (12, fs3)) (h5 : l1 < n) (h6 : 46 < fs3.length) (h7 : mi_fk .boolean (.int 1) = true) (h8 : mi_W d 177 21 [some (.ref l1), some (.long l2), none] [] (n, sl, (va_up f l1 (.inr (12, fs3.set 46 (.int 1))))) Q) : mi_W d 177 16 [some (.ref l1), some (.long l2), none] [] (n, sl, f) Q := by
  refine w_aload_n cd_177_16 rfl ?_
  refine w_iconst (v := 1) cd_177_17 (by decide) ?_
  refine w_putfield (w := .int 1) cd_177_18 (show mt_f 12 441 = some (12, 46) by decide +kernel) h4 h5 ⟨h6, h7, Or.inl (by decide)⟩ ?_
  exact h8
theorem b_177_21 {d : Nat} {Q : (Option Value ⊕ Nat) → mi_H → Prop} (n sl : Nat) (f : Nat → mi_C) {l1 : Nat} {l2 : Int64} (h3 : Q (.inl (some (.long l2))) (n, sl, f)) : mi_W d 177 21 [some (.ref l1), some (.long l2), none] [] (n, sl, f) Q := by
  refine w_lload_n cd_177_21 rfl ?_
  exact w_lreturn cd_177_22 (by decide +kernel) h3
/-! MarloweHostModel.holds(I)Z -/
set_option maxRecDepth 100000 in
theorem mq_178 : mt_q 178 = my_178 := rfl
set_option maxRecDepth 100000 in
theorem ci_178 : mt_inc 0 my_178.cd = true := by decide +kernel
theorem cd_178_0 : mt_cd 178 0 = some (.aload_n 0) := mt_cd_of (q := (0, .aload_n 0, 1)) mq_178 ci_178 (List.mem_append_left _ (show _ ∈ my_178_0 from List.mem_of_getElem? (i := 0) rfl))
theorem cd_178_1 : mt_cd 178 1 = some (.getfield 441) := mt_cd_of (q := (1, .getfield 441, 3)) mq_178 ci_178 (List.mem_append_left _ (show _ ∈ my_178_0 from List.mem_of_getElem? (i := 1) rfl))
theorem cd_178_4 : mt_cd 178 4 = some (.ifCond .eq 5) := mt_cd_of (q := (4, .ifCond .eq 5, 3)) mq_178 ci_178 (List.mem_append_left _ (show _ ∈ my_178_0 from List.mem_of_getElem? (i := 2) rfl))
theorem cd_178_7 : mt_cd 178 7 = some (.iconst 0) := mt_cd_of (q := (7, .iconst 0, 1)) mq_178 ci_178 (List.mem_append_left _ (show _ ∈ my_178_0 from List.mem_of_getElem? (i := 3) rfl))
theorem cd_178_8 : mt_cd 178 8 = some (.ireturn) := mt_cd_of (q := (8, .ireturn, 1)) mq_178 ci_178 (List.mem_append_left _ (show _ ∈ my_178_0 from List.mem_of_getElem? (i := 4) rfl))
theorem cd_178_9 : mt_cd 178 9 = some (.aload_n 0) := mt_cd_of (q := (9, .aload_n 0, 1)) mq_178 ci_178 (List.mem_append_left _ (show _ ∈ my_178_0 from List.mem_of_getElem? (i := 5) rfl))
theorem cd_178_10 : mt_cd 178 10 = some (.getfield 77) := mt_cd_of (q := (10, .getfield 77, 3)) mq_178 ci_178 (List.mem_append_left _ (show _ ∈ my_178_0 from List.mem_of_getElem? (i := 6) rfl))
theorem cd_178_13 : mt_cd 178 13 = some (.iload_n 1) := mt_cd_of (q := (13, .iload_n 1, 1)) mq_178 ci_178 (List.mem_append_left _ (show _ ∈ my_178_0 from List.mem_of_getElem? (i := 7) rfl))
theorem cd_178_14 : mt_cd 178 14 = some (.iaload) := mt_cd_of (q := (14, .iaload, 1)) mq_178 ci_178 (List.mem_append_left _ (show _ ∈ my_178_0 from List.mem_of_getElem? (i := 8) rfl))
theorem cd_178_15 : mt_cd 178 15 = some (.tableswitch 147 22 27 #[37, 39, 41, 77, 113, 132]) := mt_cd_of (q := (15, .tableswitch 147 22 27 #[37, 39, 41, 77, 113, 132], 37)) mq_178 ci_178 (List.mem_append_left _ (show _ ∈ my_178_0 from List.mem_of_getElem? (i := 9) rfl))
theorem cd_178_52 : mt_cd 178 52 = some (.iconst 1) := mt_cd_of (q := (52, .iconst 1, 1)) mq_178 ci_178 (List.mem_append_left _ (show _ ∈ my_178_0 from List.mem_of_getElem? (i := 10) rfl))
theorem cd_178_53 : mt_cd 178 53 = some (.ireturn) := mt_cd_of (q := (53, .ireturn, 1)) mq_178 ci_178 (List.mem_append_left _ (show _ ∈ my_178_0 from List.mem_of_getElem? (i := 11) rfl))
theorem cd_178_54 : mt_cd 178 54 = some (.iconst 0) := mt_cd_of (q := (54, .iconst 0, 1)) mq_178 ci_178 (List.mem_append_left _ (show _ ∈ my_178_0 from List.mem_of_getElem? (i := 12) rfl))
theorem cd_178_55 : mt_cd 178 55 = some (.ireturn) := mt_cd_of (q := (55, .ireturn, 1)) mq_178 ci_178 (List.mem_append_left _ (show _ ∈ my_178_0 from List.mem_of_getElem? (i := 13) rfl))
theorem cd_178_56 : mt_cd 178 56 = some (.aload_n 0) := mt_cd_of (q := (56, .aload_n 0, 1)) mq_178 ci_178 (List.mem_append_left _ (show _ ∈ my_178_0 from List.mem_of_getElem? (i := 14) rfl))
theorem cd_178_57 : mt_cd 178 57 = some (.aload_n 0) := mt_cd_of (q := (57, .aload_n 0, 1)) mq_178 ci_178 (List.mem_append_left _ (show _ ∈ my_178_0 from List.mem_of_getElem? (i := 15) rfl))
theorem cd_178_58 : mt_cd 178 58 = some (.getfield 80) := mt_cd_of (q := (58, .getfield 80, 3)) mq_178 ci_178 (List.mem_append_left _ (show _ ∈ my_178_0 from List.mem_of_getElem? (i := 16) rfl))
theorem cd_178_61 : mt_cd 178 61 = some (.iload_n 1) := mt_cd_of (q := (61, .iload_n 1, 1)) mq_178 ci_178 (List.mem_append_left _ (show _ ∈ my_178_0 from List.mem_of_getElem? (i := 17) rfl))
theorem cd_178_62 : mt_cd 178 62 = some (.iaload) := mt_cd_of (q := (62, .iaload, 1)) mq_178 ci_178 (List.mem_append_left _ (show _ ∈ my_178_0 from List.mem_of_getElem? (i := 18) rfl))
theorem cd_178_63 : mt_cd 178 63 = some (.invokevirtual 477) := mt_cd_of (q := (63, .invokevirtual 477, 3)) mq_178 ci_178 (List.mem_append_left _ (show _ ∈ my_178_0 from List.mem_of_getElem? (i := 19) rfl))
theorem cd_178_66 : mt_cd 178 66 = some (.istore_n 2) := mt_cd_of (q := (66, .istore_n 2, 1)) mq_178 ci_178 (List.mem_append_left _ (show _ ∈ my_178_0 from List.mem_of_getElem? (i := 20) rfl))
theorem cd_178_67 : mt_cd 178 67 = some (.aload_n 0) := mt_cd_of (q := (67, .aload_n 0, 1)) mq_178 ci_178 (List.mem_append_left _ (show _ ∈ my_178_0 from List.mem_of_getElem? (i := 21) rfl))
theorem cd_178_68 : mt_cd 178 68 = some (.aload_n 0) := mt_cd_of (q := (68, .aload_n 0, 1)) mq_178 ci_178 (List.mem_append_left _ (show _ ∈ my_178_0 from List.mem_of_getElem? (i := 22) rfl))
theorem cd_178_69 : mt_cd 178 69 = some (.getfield 83) := mt_cd_of (q := (69, .getfield 83, 3)) mq_178 ci_178 (List.mem_append_left _ (show _ ∈ my_178_0 from List.mem_of_getElem? (i := 23) rfl))
theorem cd_178_72 : mt_cd 178 72 = some (.iload_n 1) := mt_cd_of (q := (72, .iload_n 1, 1)) mq_178 ci_178 (List.mem_append_left _ (show _ ∈ my_178_0 from List.mem_of_getElem? (i := 24) rfl))
theorem cd_178_73 : mt_cd 178 73 = some (.iaload) := mt_cd_of (q := (73, .iaload, 1)) mq_178 ci_178 (List.mem_append_left _ (show _ ∈ my_178_0 from List.mem_of_getElem? (i := 25) rfl))
theorem cd_178_74 : mt_cd 178 74 = some (.invokevirtual 477) := mt_cd_of (q := (74, .invokevirtual 477, 3)) mq_178 ci_178 (List.mem_append_left _ (show _ ∈ my_178_0 from List.mem_of_getElem? (i := 26) rfl))
theorem cd_178_77 : mt_cd 178 77 = some (.istore_n 3) := mt_cd_of (q := (77, .istore_n 3, 1)) mq_178 ci_178 (List.mem_append_left _ (show _ ∈ my_178_0 from List.mem_of_getElem? (i := 27) rfl))
theorem cd_178_78 : mt_cd 178 78 = some (.iload_n 2) := mt_cd_of (q := (78, .iload_n 2, 1)) mq_178 ci_178 (List.mem_append_left _ (show _ ∈ my_178_0 from List.mem_of_getElem? (i := 28) rfl))
theorem cd_178_79 : mt_cd 178 79 = some (.ifCond .eq 11) := mt_cd_of (q := (79, .ifCond .eq 11, 3)) mq_178 ci_178 (List.mem_append_left _ (show _ ∈ my_178_0 from List.mem_of_getElem? (i := 29) rfl))
theorem cd_178_82 : mt_cd 178 82 = some (.iload_n 3) := mt_cd_of (q := (82, .iload_n 3, 1)) mq_178 ci_178 (List.mem_append_left _ (show _ ∈ my_178_0 from List.mem_of_getElem? (i := 30) rfl))
theorem cd_178_83 : mt_cd 178 83 = some (.ifCond .eq 7) := mt_cd_of (q := (83, .ifCond .eq 7, 3)) mq_178 ci_178 (List.mem_append_left _ (show _ ∈ my_178_0 from List.mem_of_getElem? (i := 31) rfl))
theorem cd_178_86 : mt_cd 178 86 = some (.iconst 1) := mt_cd_of (q := (86, .iconst 1, 1)) mq_178 ci_178 (List.mem_append_left _ (show _ ∈ my_178_0 from List.mem_of_getElem? (i := 32) rfl))
theorem cd_178_87 : mt_cd 178 87 = some (.goto 4) := mt_cd_of (q := (87, .goto 4, 3)) mq_178 ci_178 (List.mem_append_left _ (show _ ∈ my_178_0 from List.mem_of_getElem? (i := 33) rfl))
theorem cd_178_90 : mt_cd 178 90 = some (.iconst 0) := mt_cd_of (q := (90, .iconst 0, 1)) mq_178 ci_178 (List.mem_append_left _ (show _ ∈ my_178_0 from List.mem_of_getElem? (i := 34) rfl))
theorem cd_178_91 : mt_cd 178 91 = some (.ireturn) := mt_cd_of (q := (91, .ireturn, 1)) mq_178 ci_178 (List.mem_append_left _ (show _ ∈ my_178_0 from List.mem_of_getElem? (i := 35) rfl))
theorem cd_178_92 : mt_cd 178 92 = some (.aload_n 0) := mt_cd_of (q := (92, .aload_n 0, 1)) mq_178 ci_178 (List.mem_append_left _ (show _ ∈ my_178_0 from List.mem_of_getElem? (i := 36) rfl))
theorem cd_178_93 : mt_cd 178 93 = some (.aload_n 0) := mt_cd_of (q := (93, .aload_n 0, 1)) mq_178 ci_178 (List.mem_append_left _ (show _ ∈ my_178_0 from List.mem_of_getElem? (i := 37) rfl))
theorem cd_178_94 : mt_cd 178 94 = some (.getfield 80) := mt_cd_of (q := (94, .getfield 80, 3)) mq_178 ci_178 (List.mem_append_left _ (show _ ∈ my_178_0 from List.mem_of_getElem? (i := 38) rfl))
theorem cd_178_97 : mt_cd 178 97 = some (.iload_n 1) := mt_cd_of (q := (97, .iload_n 1, 1)) mq_178 ci_178 (List.mem_append_left _ (show _ ∈ my_178_0 from List.mem_of_getElem? (i := 39) rfl))
theorem cd_178_98 : mt_cd 178 98 = some (.iaload) := mt_cd_of (q := (98, .iaload, 1)) mq_178 ci_178 (List.mem_append_left _ (show _ ∈ my_178_0 from List.mem_of_getElem? (i := 40) rfl))
theorem cd_178_99 : mt_cd 178 99 = some (.invokevirtual 477) := mt_cd_of (q := (99, .invokevirtual 477, 3)) mq_178 ci_178 (List.mem_append_left _ (show _ ∈ my_178_0 from List.mem_of_getElem? (i := 41) rfl))
theorem cd_178_102 : mt_cd 178 102 = some (.istore_n 2) := mt_cd_of (q := (102, .istore_n 2, 1)) mq_178 ci_178 (List.mem_append_left _ (show _ ∈ my_178_0 from List.mem_of_getElem? (i := 42) rfl))
theorem cd_178_103 : mt_cd 178 103 = some (.aload_n 0) := mt_cd_of (q := (103, .aload_n 0, 1)) mq_178 ci_178 (List.mem_append_left _ (show _ ∈ my_178_0 from List.mem_of_getElem? (i := 43) rfl))
theorem cd_178_104 : mt_cd 178 104 = some (.aload_n 0) := mt_cd_of (q := (104, .aload_n 0, 1)) mq_178 ci_178 (List.mem_append_left _ (show _ ∈ my_178_0 from List.mem_of_getElem? (i := 44) rfl))
theorem cd_178_105 : mt_cd 178 105 = some (.getfield 83) := mt_cd_of (q := (105, .getfield 83, 3)) mq_178 ci_178 (List.mem_append_left _ (show _ ∈ my_178_0 from List.mem_of_getElem? (i := 45) rfl))
theorem cd_178_108 : mt_cd 178 108 = some (.iload_n 1) := mt_cd_of (q := (108, .iload_n 1, 1)) mq_178 ci_178 (List.mem_append_left _ (show _ ∈ my_178_0 from List.mem_of_getElem? (i := 46) rfl))
theorem cd_178_109 : mt_cd 178 109 = some (.iaload) := mt_cd_of (q := (109, .iaload, 1)) mq_178 ci_178 (List.mem_append_left _ (show _ ∈ my_178_0 from List.mem_of_getElem? (i := 47) rfl))
theorem cd_178_110 : mt_cd 178 110 = some (.invokevirtual 477) := mt_cd_of (q := (110, .invokevirtual 477, 3)) mq_178 ci_178 (List.mem_append_left _ (show _ ∈ my_178_0 from List.mem_of_getElem? (i := 48) rfl))
theorem cd_178_113 : mt_cd 178 113 = some (.istore_n 3) := mt_cd_of (q := (113, .istore_n 3, 1)) mq_178 ci_178 (List.mem_append_left _ (show _ ∈ my_178_0 from List.mem_of_getElem? (i := 49) rfl))
theorem cd_178_114 : mt_cd 178 114 = some (.iload_n 2) := mt_cd_of (q := (114, .iload_n 2, 1)) mq_178 ci_178 (List.mem_append_left _ (show _ ∈ my_178_0 from List.mem_of_getElem? (i := 50) rfl))
theorem cd_178_115 : mt_cd 178 115 = some (.ifCond .ne 7) := mt_cd_of (q := (115, .ifCond .ne 7, 3)) mq_178 ci_178 (List.mem_append_left _ (show _ ∈ my_178_0 from List.mem_of_getElem? (i := 51) rfl))
theorem cd_178_118 : mt_cd 178 118 = some (.iload_n 3) := mt_cd_of (q := (118, .iload_n 3, 1)) mq_178 ci_178 (List.mem_append_left _ (show _ ∈ my_178_0 from List.mem_of_getElem? (i := 52) rfl))
theorem cd_178_119 : mt_cd 178 119 = some (.ifCond .eq 7) := mt_cd_of (q := (119, .ifCond .eq 7, 3)) mq_178 ci_178 (List.mem_append_left _ (show _ ∈ my_178_0 from List.mem_of_getElem? (i := 53) rfl))
theorem cd_178_122 : mt_cd 178 122 = some (.iconst 1) := mt_cd_of (q := (122, .iconst 1, 1)) mq_178 ci_178 (List.mem_append_left _ (show _ ∈ my_178_0 from List.mem_of_getElem? (i := 54) rfl))
theorem cd_178_123 : mt_cd 178 123 = some (.goto 4) := mt_cd_of (q := (123, .goto 4, 3)) mq_178 ci_178 (List.mem_append_left _ (show _ ∈ my_178_0 from List.mem_of_getElem? (i := 55) rfl))
theorem cd_178_126 : mt_cd 178 126 = some (.iconst 0) := mt_cd_of (q := (126, .iconst 0, 1)) mq_178 ci_178 (List.mem_append_left _ (show _ ∈ my_178_0 from List.mem_of_getElem? (i := 56) rfl))
theorem cd_178_127 : mt_cd 178 127 = some (.ireturn) := mt_cd_of (q := (127, .ireturn, 1)) mq_178 ci_178 (List.mem_append_left _ (show _ ∈ my_178_0 from List.mem_of_getElem? (i := 57) rfl))
theorem cd_178_128 : mt_cd 178 128 = some (.aload_n 0) := mt_cd_of (q := (128, .aload_n 0, 1)) mq_178 ci_178 (List.mem_append_left _ (show _ ∈ my_178_0 from List.mem_of_getElem? (i := 58) rfl))
theorem cd_178_129 : mt_cd 178 129 = some (.aload_n 0) := mt_cd_of (q := (129, .aload_n 0, 1)) mq_178 ci_178 (List.mem_append_left _ (show _ ∈ my_178_0 from List.mem_of_getElem? (i := 59) rfl))
theorem cd_178_130 : mt_cd 178 130 = some (.getfield 80) := mt_cd_of (q := (130, .getfield 80, 3)) mq_178 ci_178 (List.mem_append_right _ (List.mem_append_left _ (show _ ∈ my_178_1 from List.mem_of_getElem? (i := 0) rfl)))
theorem cd_178_133 : mt_cd 178 133 = some (.iload_n 1) := mt_cd_of (q := (133, .iload_n 1, 1)) mq_178 ci_178 (List.mem_append_right _ (List.mem_append_left _ (show _ ∈ my_178_1 from List.mem_of_getElem? (i := 1) rfl)))
theorem cd_178_134 : mt_cd 178 134 = some (.iaload) := mt_cd_of (q := (134, .iaload, 1)) mq_178 ci_178 (List.mem_append_right _ (List.mem_append_left _ (show _ ∈ my_178_1 from List.mem_of_getElem? (i := 2) rfl)))
theorem cd_178_135 : mt_cd 178 135 = some (.invokevirtual 477) := mt_cd_of (q := (135, .invokevirtual 477, 3)) mq_178 ci_178 (List.mem_append_right _ (List.mem_append_left _ (show _ ∈ my_178_1 from List.mem_of_getElem? (i := 3) rfl)))
theorem cd_178_138 : mt_cd 178 138 = some (.ifCond .ne 7) := mt_cd_of (q := (138, .ifCond .ne 7, 3)) mq_178 ci_178 (List.mem_append_right _ (List.mem_append_left _ (show _ ∈ my_178_1 from List.mem_of_getElem? (i := 4) rfl)))
theorem cd_178_141 : mt_cd 178 141 = some (.iconst 1) := mt_cd_of (q := (141, .iconst 1, 1)) mq_178 ci_178 (List.mem_append_right _ (List.mem_append_left _ (show _ ∈ my_178_1 from List.mem_of_getElem? (i := 5) rfl)))
theorem cd_178_142 : mt_cd 178 142 = some (.goto 4) := mt_cd_of (q := (142, .goto 4, 3)) mq_178 ci_178 (List.mem_append_right _ (List.mem_append_left _ (show _ ∈ my_178_1 from List.mem_of_getElem? (i := 6) rfl)))
theorem cd_178_145 : mt_cd 178 145 = some (.iconst 0) := mt_cd_of (q := (145, .iconst 0, 1)) mq_178 ci_178 (List.mem_append_right _ (List.mem_append_left _ (show _ ∈ my_178_1 from List.mem_of_getElem? (i := 7) rfl)))
theorem cd_178_146 : mt_cd 178 146 = some (.ireturn) := mt_cd_of (q := (146, .ireturn, 1)) mq_178 ci_178 (List.mem_append_right _ (List.mem_append_left _ (show _ ∈ my_178_1 from List.mem_of_getElem? (i := 8) rfl)))
theorem cd_178_147 : mt_cd 178 147 = some (.aload_n 0) := mt_cd_of (q := (147, .aload_n 0, 1)) mq_178 ci_178 (List.mem_append_right _ (List.mem_append_left _ (show _ ∈ my_178_1 from List.mem_of_getElem? (i := 9) rfl)))
theorem cd_178_148 : mt_cd 178 148 = some (.getfield 445) := mt_cd_of (q := (148, .getfield 445, 3)) mq_178 ci_178 (List.mem_append_right _ (List.mem_append_left _ (show _ ∈ my_178_1 from List.mem_of_getElem? (i := 10) rfl)))
theorem cd_178_151 : mt_cd 178 151 = some (.getfield 459) := mt_cd_of (q := (151, .getfield 459, 3)) mq_178 ci_178 (List.mem_append_right _ (List.mem_append_left _ (show _ ∈ my_178_1 from List.mem_of_getElem? (i := 11) rfl)))
theorem cd_178_154 : mt_cd 178 154 = some (.aload_n 0) := mt_cd_of (q := (154, .aload_n 0, 1)) mq_178 ci_178 (List.mem_append_right _ (List.mem_append_left _ (show _ ∈ my_178_1 from List.mem_of_getElem? (i := 12) rfl)))
theorem cd_178_155 : mt_cd 178 155 = some (.getfield 80) := mt_cd_of (q := (155, .getfield 80, 3)) mq_178 ci_178 (List.mem_append_right _ (List.mem_append_left _ (show _ ∈ my_178_1 from List.mem_of_getElem? (i := 13) rfl)))
theorem cd_178_158 : mt_cd 178 158 = some (.iload_n 1) := mt_cd_of (q := (158, .iload_n 1, 1)) mq_178 ci_178 (List.mem_append_right _ (List.mem_append_left _ (show _ ∈ my_178_1 from List.mem_of_getElem? (i := 14) rfl)))
theorem cd_178_159 : mt_cd 178 159 = some (.iaload) := mt_cd_of (q := (159, .iaload, 1)) mq_178 ci_178 (List.mem_append_right _ (List.mem_append_left _ (show _ ∈ my_178_1 from List.mem_of_getElem? (i := 15) rfl)))
theorem cd_178_160 : mt_cd 178 160 = some (.baload) := mt_cd_of (q := (160, .baload, 1)) mq_178 ci_178 (List.mem_append_right _ (List.mem_append_left _ (show _ ∈ my_178_1 from List.mem_of_getElem? (i := 16) rfl)))
theorem cd_178_161 : mt_cd 178 161 = some (.ireturn) := mt_cd_of (q := (161, .ireturn, 1)) mq_178 ci_178 (List.mem_append_right _ (List.mem_append_left _ (show _ ∈ my_178_1 from List.mem_of_getElem? (i := 17) rfl)))
theorem cd_178_162 : mt_cd 178 162 = some (.aload_n 0) := mt_cd_of (q := (162, .aload_n 0, 1)) mq_178 ci_178 (List.mem_append_right _ (List.mem_append_left _ (show _ ∈ my_178_1 from List.mem_of_getElem? (i := 18) rfl)))
theorem cd_178_163 : mt_cd 178 163 = some (.aload_n 0) := mt_cd_of (q := (163, .aload_n 0, 1)) mq_178 ci_178 (List.mem_append_right _ (List.mem_append_left _ (show _ ∈ my_178_1 from List.mem_of_getElem? (i := 19) rfl)))
theorem cd_178_164 : mt_cd 178 164 = some (.getfield 80) := mt_cd_of (q := (164, .getfield 80, 3)) mq_178 ci_178 (List.mem_append_right _ (List.mem_append_left _ (show _ ∈ my_178_1 from List.mem_of_getElem? (i := 20) rfl)))
theorem cd_178_167 : mt_cd 178 167 = some (.iload_n 1) := mt_cd_of (q := (167, .iload_n 1, 1)) mq_178 ci_178 (List.mem_append_right _ (List.mem_append_left _ (show _ ∈ my_178_1 from List.mem_of_getElem? (i := 21) rfl)))
theorem cd_178_168 : mt_cd 178 168 = some (.iaload) := mt_cd_of (q := (168, .iaload, 1)) mq_178 ci_178 (List.mem_append_right _ (List.mem_append_left _ (show _ ∈ my_178_1 from List.mem_of_getElem? (i := 22) rfl)))
theorem cd_178_169 : mt_cd 178 169 = some (.invokevirtual 451) := mt_cd_of (q := (169, .invokevirtual 451, 3)) mq_178 ci_178 (List.mem_append_right _ (List.mem_append_left _ (show _ ∈ my_178_1 from List.mem_of_getElem? (i := 23) rfl)))
theorem cd_178_172 : mt_cd 178 172 = some (.lstore_n 2) := mt_cd_of (q := (172, .lstore_n 2, 1)) mq_178 ci_178 (List.mem_append_right _ (List.mem_append_left _ (show _ ∈ my_178_1 from List.mem_of_getElem? (i := 24) rfl)))
theorem cd_178_173 : mt_cd 178 173 = some (.aload_n 0) := mt_cd_of (q := (173, .aload_n 0, 1)) mq_178 ci_178 (List.mem_append_right _ (List.mem_append_left _ (show _ ∈ my_178_1 from List.mem_of_getElem? (i := 25) rfl)))
theorem cd_178_174 : mt_cd 178 174 = some (.aload_n 0) := mt_cd_of (q := (174, .aload_n 0, 1)) mq_178 ci_178 (List.mem_append_right _ (List.mem_append_left _ (show _ ∈ my_178_1 from List.mem_of_getElem? (i := 26) rfl)))
theorem cd_178_175 : mt_cd 178 175 = some (.getfield 83) := mt_cd_of (q := (175, .getfield 83, 3)) mq_178 ci_178 (List.mem_append_right _ (List.mem_append_left _ (show _ ∈ my_178_1 from List.mem_of_getElem? (i := 27) rfl)))
theorem cd_178_178 : mt_cd 178 178 = some (.iload_n 1) := mt_cd_of (q := (178, .iload_n 1, 1)) mq_178 ci_178 (List.mem_append_right _ (List.mem_append_left _ (show _ ∈ my_178_1 from List.mem_of_getElem? (i := 28) rfl)))
theorem cd_178_179 : mt_cd 178 179 = some (.iaload) := mt_cd_of (q := (179, .iaload, 1)) mq_178 ci_178 (List.mem_append_right _ (List.mem_append_left _ (show _ ∈ my_178_1 from List.mem_of_getElem? (i := 29) rfl)))
theorem cd_178_180 : mt_cd 178 180 = some (.invokevirtual 451) := mt_cd_of (q := (180, .invokevirtual 451, 3)) mq_178 ci_178 (List.mem_append_right _ (List.mem_append_left _ (show _ ∈ my_178_1 from List.mem_of_getElem? (i := 30) rfl)))
theorem cd_178_183 : mt_cd 178 183 = some (.lstore 4) := mt_cd_of (q := (183, .lstore 4, 2)) mq_178 ci_178 (List.mem_append_right _ (List.mem_append_left _ (show _ ∈ my_178_1 from List.mem_of_getElem? (i := 31) rfl)))
theorem cd_178_185 : mt_cd 178 185 = some (.aload_n 0) := mt_cd_of (q := (185, .aload_n 0, 1)) mq_178 ci_178 (List.mem_append_right _ (List.mem_append_left _ (show _ ∈ my_178_1 from List.mem_of_getElem? (i := 32) rfl)))
theorem cd_178_186 : mt_cd 178 186 = some (.getfield 77) := mt_cd_of (q := (186, .getfield 77, 3)) mq_178 ci_178 (List.mem_append_right _ (List.mem_append_left _ (show _ ∈ my_178_1 from List.mem_of_getElem? (i := 33) rfl)))
theorem cd_178_189 : mt_cd 178 189 = some (.iload_n 1) := mt_cd_of (q := (189, .iload_n 1, 1)) mq_178 ci_178 (List.mem_append_right _ (List.mem_append_left _ (show _ ∈ my_178_1 from List.mem_of_getElem? (i := 34) rfl)))
theorem cd_178_190 : mt_cd 178 190 = some (.iaload) := mt_cd_of (q := (190, .iaload, 1)) mq_178 ci_178 (List.mem_append_right _ (List.mem_append_left _ (show _ ∈ my_178_1 from List.mem_of_getElem? (i := 35) rfl)))
theorem cd_178_191 : mt_cd 178 191 = some (.bipush 28) := mt_cd_of (q := (191, .bipush 28, 2)) mq_178 ci_178 (List.mem_append_right _ (List.mem_append_left _ (show _ ∈ my_178_1 from List.mem_of_getElem? (i := 36) rfl)))
theorem cd_178_193 : mt_cd 178 193 = some (.if_icmp .ne 18) := mt_cd_of (q := (193, .if_icmp .ne 18, 3)) mq_178 ci_178 (List.mem_append_right _ (List.mem_append_left _ (show _ ∈ my_178_1 from List.mem_of_getElem? (i := 37) rfl)))
theorem cd_178_196 : mt_cd 178 196 = some (.lload_n 2) := mt_cd_of (q := (196, .lload_n 2, 1)) mq_178 ci_178 (List.mem_append_right _ (List.mem_append_left _ (show _ ∈ my_178_1 from List.mem_of_getElem? (i := 38) rfl)))
theorem cd_178_197 : mt_cd 178 197 = some (.lload 4) := mt_cd_of (q := (197, .lload 4, 2)) mq_178 ci_178 (List.mem_append_right _ (List.mem_append_left _ (show _ ∈ my_178_1 from List.mem_of_getElem? (i := 39) rfl)))
theorem cd_178_199 : mt_cd 178 199 = some (.lcmp) := mt_cd_of (q := (199, .lcmp, 1)) mq_178 ci_178 (List.mem_append_right _ (List.mem_append_left _ (show _ ∈ my_178_1 from List.mem_of_getElem? (i := 40) rfl)))
theorem cd_178_200 : mt_cd 178 200 = some (.ifCond .lt 7) := mt_cd_of (q := (200, .ifCond .lt 7, 3)) mq_178 ci_178 (List.mem_append_right _ (List.mem_append_left _ (show _ ∈ my_178_1 from List.mem_of_getElem? (i := 41) rfl)))
theorem cd_178_203 : mt_cd 178 203 = some (.iconst 1) := mt_cd_of (q := (203, .iconst 1, 1)) mq_178 ci_178 (List.mem_append_right _ (List.mem_append_left _ (show _ ∈ my_178_1 from List.mem_of_getElem? (i := 42) rfl)))
theorem cd_178_204 : mt_cd 178 204 = some (.goto 97) := mt_cd_of (q := (204, .goto 97, 3)) mq_178 ci_178 (List.mem_append_right _ (List.mem_append_left _ (show _ ∈ my_178_1 from List.mem_of_getElem? (i := 43) rfl)))
theorem cd_178_207 : mt_cd 178 207 = some (.iconst 0) := mt_cd_of (q := (207, .iconst 0, 1)) mq_178 ci_178 (List.mem_append_right _ (List.mem_append_left _ (show _ ∈ my_178_1 from List.mem_of_getElem? (i := 44) rfl)))
theorem cd_178_208 : mt_cd 178 208 = some (.goto 93) := mt_cd_of (q := (208, .goto 93, 3)) mq_178 ci_178 (List.mem_append_right _ (List.mem_append_left _ (show _ ∈ my_178_1 from List.mem_of_getElem? (i := 45) rfl)))
theorem cd_178_211 : mt_cd 178 211 = some (.aload_n 0) := mt_cd_of (q := (211, .aload_n 0, 1)) mq_178 ci_178 (List.mem_append_right _ (List.mem_append_left _ (show _ ∈ my_178_1 from List.mem_of_getElem? (i := 46) rfl)))
theorem cd_178_212 : mt_cd 178 212 = some (.getfield 77) := mt_cd_of (q := (212, .getfield 77, 3)) mq_178 ci_178 (List.mem_append_right _ (List.mem_append_left _ (show _ ∈ my_178_1 from List.mem_of_getElem? (i := 47) rfl)))
theorem cd_178_215 : mt_cd 178 215 = some (.iload_n 1) := mt_cd_of (q := (215, .iload_n 1, 1)) mq_178 ci_178 (List.mem_append_right _ (List.mem_append_left _ (show _ ∈ my_178_1 from List.mem_of_getElem? (i := 48) rfl)))
theorem cd_178_216 : mt_cd 178 216 = some (.iaload) := mt_cd_of (q := (216, .iaload, 1)) mq_178 ci_178 (List.mem_append_right _ (List.mem_append_left _ (show _ ∈ my_178_1 from List.mem_of_getElem? (i := 49) rfl)))
theorem cd_178_217 : mt_cd 178 217 = some (.bipush 29) := mt_cd_of (q := (217, .bipush 29, 2)) mq_178 ci_178 (List.mem_append_right _ (List.mem_append_left _ (show _ ∈ my_178_1 from List.mem_of_getElem? (i := 50) rfl)))
theorem cd_178_219 : mt_cd 178 219 = some (.if_icmp .ne 18) := mt_cd_of (q := (219, .if_icmp .ne 18, 3)) mq_178 ci_178 (List.mem_append_right _ (List.mem_append_left _ (show _ ∈ my_178_1 from List.mem_of_getElem? (i := 51) rfl)))
theorem cd_178_222 : mt_cd 178 222 = some (.lload_n 2) := mt_cd_of (q := (222, .lload_n 2, 1)) mq_178 ci_178 (List.mem_append_right _ (List.mem_append_left _ (show _ ∈ my_178_1 from List.mem_of_getElem? (i := 52) rfl)))
theorem cd_178_223 : mt_cd 178 223 = some (.lload 4) := mt_cd_of (q := (223, .lload 4, 2)) mq_178 ci_178 (List.mem_append_right _ (List.mem_append_left _ (show _ ∈ my_178_1 from List.mem_of_getElem? (i := 53) rfl)))
theorem cd_178_225 : mt_cd 178 225 = some (.lcmp) := mt_cd_of (q := (225, .lcmp, 1)) mq_178 ci_178 (List.mem_append_right _ (List.mem_append_left _ (show _ ∈ my_178_1 from List.mem_of_getElem? (i := 54) rfl)))
theorem cd_178_226 : mt_cd 178 226 = some (.ifCond .le 7) := mt_cd_of (q := (226, .ifCond .le 7, 3)) mq_178 ci_178 (List.mem_append_right _ (List.mem_append_left _ (show _ ∈ my_178_1 from List.mem_of_getElem? (i := 55) rfl)))
theorem cd_178_229 : mt_cd 178 229 = some (.iconst 1) := mt_cd_of (q := (229, .iconst 1, 1)) mq_178 ci_178 (List.mem_append_right _ (List.mem_append_left _ (show _ ∈ my_178_1 from List.mem_of_getElem? (i := 56) rfl)))
theorem cd_178_230 : mt_cd 178 230 = some (.goto 71) := mt_cd_of (q := (230, .goto 71, 3)) mq_178 ci_178 (List.mem_append_right _ (List.mem_append_left _ (show _ ∈ my_178_1 from List.mem_of_getElem? (i := 57) rfl)))
theorem cd_178_233 : mt_cd 178 233 = some (.iconst 0) := mt_cd_of (q := (233, .iconst 0, 1)) mq_178 ci_178 (List.mem_append_right _ (List.mem_append_left _ (show _ ∈ my_178_1 from List.mem_of_getElem? (i := 58) rfl)))
theorem cd_178_234 : mt_cd 178 234 = some (.goto 67) := mt_cd_of (q := (234, .goto 67, 3)) mq_178 ci_178 (List.mem_append_right _ (List.mem_append_left _ (show _ ∈ my_178_1 from List.mem_of_getElem? (i := 59) rfl)))
theorem cd_178_237 : mt_cd 178 237 = some (.aload_n 0) := mt_cd_of (q := (237, .aload_n 0, 1)) mq_178 ci_178 (List.mem_append_right _ (List.mem_append_right _ ((show _ ∈ my_178_2 from List.mem_of_getElem? (i := 0) rfl))))
theorem cd_178_238 : mt_cd 178 238 = some (.getfield 77) := mt_cd_of (q := (238, .getfield 77, 3)) mq_178 ci_178 (List.mem_append_right _ (List.mem_append_right _ ((show _ ∈ my_178_2 from List.mem_of_getElem? (i := 1) rfl))))
theorem cd_178_241 : mt_cd 178 241 = some (.iload_n 1) := mt_cd_of (q := (241, .iload_n 1, 1)) mq_178 ci_178 (List.mem_append_right _ (List.mem_append_right _ ((show _ ∈ my_178_2 from List.mem_of_getElem? (i := 2) rfl))))
theorem cd_178_242 : mt_cd 178 242 = some (.iaload) := mt_cd_of (q := (242, .iaload, 1)) mq_178 ci_178 (List.mem_append_right _ (List.mem_append_right _ ((show _ ∈ my_178_2 from List.mem_of_getElem? (i := 3) rfl))))
theorem cd_178_243 : mt_cd 178 243 = some (.bipush 30) := mt_cd_of (q := (243, .bipush 30, 2)) mq_178 ci_178 (List.mem_append_right _ (List.mem_append_right _ ((show _ ∈ my_178_2 from List.mem_of_getElem? (i := 4) rfl))))
theorem cd_178_245 : mt_cd 178 245 = some (.if_icmp .ne 18) := mt_cd_of (q := (245, .if_icmp .ne 18, 3)) mq_178 ci_178 (List.mem_append_right _ (List.mem_append_right _ ((show _ ∈ my_178_2 from List.mem_of_getElem? (i := 5) rfl))))
theorem cd_178_248 : mt_cd 178 248 = some (.lload_n 2) := mt_cd_of (q := (248, .lload_n 2, 1)) mq_178 ci_178 (List.mem_append_right _ (List.mem_append_right _ ((show _ ∈ my_178_2 from List.mem_of_getElem? (i := 6) rfl))))
theorem cd_178_249 : mt_cd 178 249 = some (.lload 4) := mt_cd_of (q := (249, .lload 4, 2)) mq_178 ci_178 (List.mem_append_right _ (List.mem_append_right _ ((show _ ∈ my_178_2 from List.mem_of_getElem? (i := 7) rfl))))
theorem cd_178_251 : mt_cd 178 251 = some (.lcmp) := mt_cd_of (q := (251, .lcmp, 1)) mq_178 ci_178 (List.mem_append_right _ (List.mem_append_right _ ((show _ ∈ my_178_2 from List.mem_of_getElem? (i := 8) rfl))))
theorem cd_178_252 : mt_cd 178 252 = some (.ifCond .gt 7) := mt_cd_of (q := (252, .ifCond .gt 7, 3)) mq_178 ci_178 (List.mem_append_right _ (List.mem_append_right _ ((show _ ∈ my_178_2 from List.mem_of_getElem? (i := 9) rfl))))
theorem cd_178_255 : mt_cd 178 255 = some (.iconst 1) := mt_cd_of (q := (255, .iconst 1, 1)) mq_178 ci_178 (List.mem_append_right _ (List.mem_append_right _ ((show _ ∈ my_178_2 from List.mem_of_getElem? (i := 10) rfl))))
theorem cd_178_256 : mt_cd 178 256 = some (.goto 45) := mt_cd_of (q := (256, .goto 45, 3)) mq_178 ci_178 (List.mem_append_right _ (List.mem_append_right _ ((show _ ∈ my_178_2 from List.mem_of_getElem? (i := 11) rfl))))
theorem cd_178_259 : mt_cd 178 259 = some (.iconst 0) := mt_cd_of (q := (259, .iconst 0, 1)) mq_178 ci_178 (List.mem_append_right _ (List.mem_append_right _ ((show _ ∈ my_178_2 from List.mem_of_getElem? (i := 12) rfl))))
theorem cd_178_260 : mt_cd 178 260 = some (.goto 41) := mt_cd_of (q := (260, .goto 41, 3)) mq_178 ci_178 (List.mem_append_right _ (List.mem_append_right _ ((show _ ∈ my_178_2 from List.mem_of_getElem? (i := 13) rfl))))
theorem cd_178_263 : mt_cd 178 263 = some (.aload_n 0) := mt_cd_of (q := (263, .aload_n 0, 1)) mq_178 ci_178 (List.mem_append_right _ (List.mem_append_right _ ((show _ ∈ my_178_2 from List.mem_of_getElem? (i := 14) rfl))))
theorem cd_178_264 : mt_cd 178 264 = some (.getfield 77) := mt_cd_of (q := (264, .getfield 77, 3)) mq_178 ci_178 (List.mem_append_right _ (List.mem_append_right _ ((show _ ∈ my_178_2 from List.mem_of_getElem? (i := 15) rfl))))
theorem cd_178_267 : mt_cd 178 267 = some (.iload_n 1) := mt_cd_of (q := (267, .iload_n 1, 1)) mq_178 ci_178 (List.mem_append_right _ (List.mem_append_right _ ((show _ ∈ my_178_2 from List.mem_of_getElem? (i := 16) rfl))))
theorem cd_178_268 : mt_cd 178 268 = some (.iaload) := mt_cd_of (q := (268, .iaload, 1)) mq_178 ci_178 (List.mem_append_right _ (List.mem_append_right _ ((show _ ∈ my_178_2 from List.mem_of_getElem? (i := 17) rfl))))
theorem cd_178_269 : mt_cd 178 269 = some (.bipush 31) := mt_cd_of (q := (269, .bipush 31, 2)) mq_178 ci_178 (List.mem_append_right _ (List.mem_append_right _ ((show _ ∈ my_178_2 from List.mem_of_getElem? (i := 18) rfl))))
theorem cd_178_271 : mt_cd 178 271 = some (.if_icmp .ne 18) := mt_cd_of (q := (271, .if_icmp .ne 18, 3)) mq_178 ci_178 (List.mem_append_right _ (List.mem_append_right _ ((show _ ∈ my_178_2 from List.mem_of_getElem? (i := 19) rfl))))
theorem cd_178_274 : mt_cd 178 274 = some (.lload_n 2) := mt_cd_of (q := (274, .lload_n 2, 1)) mq_178 ci_178 (List.mem_append_right _ (List.mem_append_right _ ((show _ ∈ my_178_2 from List.mem_of_getElem? (i := 20) rfl))))
theorem cd_178_275 : mt_cd 178 275 = some (.lload 4) := mt_cd_of (q := (275, .lload 4, 2)) mq_178 ci_178 (List.mem_append_right _ (List.mem_append_right _ ((show _ ∈ my_178_2 from List.mem_of_getElem? (i := 21) rfl))))
theorem cd_178_277 : mt_cd 178 277 = some (.lcmp) := mt_cd_of (q := (277, .lcmp, 1)) mq_178 ci_178 (List.mem_append_right _ (List.mem_append_right _ ((show _ ∈ my_178_2 from List.mem_of_getElem? (i := 22) rfl))))
theorem cd_178_278 : mt_cd 178 278 = some (.ifCond .ge 7) := mt_cd_of (q := (278, .ifCond .ge 7, 3)) mq_178 ci_178 (List.mem_append_right _ (List.mem_append_right _ ((show _ ∈ my_178_2 from List.mem_of_getElem? (i := 23) rfl))))
theorem cd_178_281 : mt_cd 178 281 = some (.iconst 1) := mt_cd_of (q := (281, .iconst 1, 1)) mq_178 ci_178 (List.mem_append_right _ (List.mem_append_right _ ((show _ ∈ my_178_2 from List.mem_of_getElem? (i := 24) rfl))))
theorem cd_178_282 : mt_cd 178 282 = some (.goto 19) := mt_cd_of (q := (282, .goto 19, 3)) mq_178 ci_178 (List.mem_append_right _ (List.mem_append_right _ ((show _ ∈ my_178_2 from List.mem_of_getElem? (i := 25) rfl))))
theorem cd_178_285 : mt_cd 178 285 = some (.iconst 0) := mt_cd_of (q := (285, .iconst 0, 1)) mq_178 ci_178 (List.mem_append_right _ (List.mem_append_right _ ((show _ ∈ my_178_2 from List.mem_of_getElem? (i := 26) rfl))))
theorem cd_178_286 : mt_cd 178 286 = some (.goto 15) := mt_cd_of (q := (286, .goto 15, 3)) mq_178 ci_178 (List.mem_append_right _ (List.mem_append_right _ ((show _ ∈ my_178_2 from List.mem_of_getElem? (i := 27) rfl))))
theorem cd_178_289 : mt_cd 178 289 = some (.lload_n 2) := mt_cd_of (q := (289, .lload_n 2, 1)) mq_178 ci_178 (List.mem_append_right _ (List.mem_append_right _ ((show _ ∈ my_178_2 from List.mem_of_getElem? (i := 28) rfl))))
theorem cd_178_290 : mt_cd 178 290 = some (.lload 4) := mt_cd_of (q := (290, .lload 4, 2)) mq_178 ci_178 (List.mem_append_right _ (List.mem_append_right _ ((show _ ∈ my_178_2 from List.mem_of_getElem? (i := 29) rfl))))
theorem cd_178_292 : mt_cd 178 292 = some (.lcmp) := mt_cd_of (q := (292, .lcmp, 1)) mq_178 ci_178 (List.mem_append_right _ (List.mem_append_right _ ((show _ ∈ my_178_2 from List.mem_of_getElem? (i := 30) rfl))))
theorem cd_178_293 : mt_cd 178 293 = some (.ifCond .ne 7) := mt_cd_of (q := (293, .ifCond .ne 7, 3)) mq_178 ci_178 (List.mem_append_right _ (List.mem_append_right _ ((show _ ∈ my_178_2 from List.mem_of_getElem? (i := 31) rfl))))
theorem cd_178_296 : mt_cd 178 296 = some (.iconst 1) := mt_cd_of (q := (296, .iconst 1, 1)) mq_178 ci_178 (List.mem_append_right _ (List.mem_append_right _ ((show _ ∈ my_178_2 from List.mem_of_getElem? (i := 32) rfl))))
theorem cd_178_297 : mt_cd 178 297 = some (.goto 4) := mt_cd_of (q := (297, .goto 4, 3)) mq_178 ci_178 (List.mem_append_right _ (List.mem_append_right _ ((show _ ∈ my_178_2 from List.mem_of_getElem? (i := 33) rfl))))
theorem cd_178_300 : mt_cd 178 300 = some (.iconst 0) := mt_cd_of (q := (300, .iconst 0, 1)) mq_178 ci_178 (List.mem_append_right _ (List.mem_append_right _ ((show _ ∈ my_178_2 from List.mem_of_getElem? (i := 34) rfl))))
theorem cd_178_301 : mt_cd 178 301 = some (.ireturn) := mt_cd_of (q := (301, .ireturn, 1)) mq_178 ci_178 (List.mem_append_right _ (List.mem_append_right _ ((show _ ∈ my_178_2 from List.mem_of_getElem? (i := 35) rfl))))
theorem b_178_0 {d : Nat} {Q : (Option Value ⊕ Nat) → mi_H → Prop} (n sl : Nat) (f : Nat → mi_C) {l1 : Nat} {l2 : Int32} {o3 : Option Value} {o4 : Option Value} {o5 : Option Value} {o6 : Option Value} {fs7 : List Value} {x10 : Int32} (h8 : f l1 = .inr (12, fs7)) (h9 : l1 < n) (h11 : fs7[46]? = some (.int x10)) (h12 : x10 = (0 : Int32) → mi_W d 178 9 [some (.ref l1), some (.int l2), o3, o4, o5, o6] [] (n, sl, f) Q) (h13 : ¬ (x10 = (0 : Int32)) → mi_W d 178 7 [some (.ref l1), some (.int l2), o3, o4, o5, o6] [] (n, sl, f) Q) : mi_W d 178 0 [some (.ref l1), some (.int l2), o3, o4, o5, o6] [] (n, sl, f) Q := by
  refine w_aload_n cd_178_0 rfl ?_
  refine w_getfield cd_178_1 (show mt_f 12 441 = some (12, 46) by decide +kernel) h8 h9 h11 ?_
  exact w_ifeq cd_178_4 (by decide) h12 h13
theorem b_178_7 {d : Nat} {Q : (Option Value ⊕ Nat) → mi_H → Prop} (n sl : Nat) (f : Nat → mi_C) {l1 : Nat} {l2 : Int32} {o3 : Option Value} {o4 : Option Value} {o5 : Option Value} {o6 : Option Value} (h7 : Q (.inl (some (.int 0))) (n, sl, f)) : mi_W d 178 7 [some (.ref l1), some (.int l2), o3, o4, o5, o6] [] (n, sl, f) Q := by
  refine w_iconst (v := 0) cd_178_7 (by decide) ?_
  exact w_ireturn_z cd_178_8 (by decide +kernel) (by decide) h7
theorem b_178_9 {d : Nat} {Q : (Option Value ⊕ Nat) → mi_H → Prop} (n sl : Nat) (f : Nat → mi_C) {l1 : Nat} {l2 : Int32} {o3 : Option Value} {o4 : Option Value} {o5 : Option Value} {o6 : Option Value} {fs7 : List Value} {x10 : Nat} (m12 i12 : Nat) (g12 : Nat → Int32) {t16 : Nat} (h8 : f l1 = .inr (12, fs7)) (h9 : l1 < n) (h11 : fs7[12]? = some (.ref x10)) (h13 : f x10 = .inl (0, m12, .inl g12)) (h14 : x10 < n ∨ x10 = mi_SC) (h15 : mi_ix l2 m12 i12) (h17 : mi_ts 15 147 22 27 #[37, 39, 41, 77, 113, 132] ((g12 i12) : Int32).toInt = some t16) (h18 : mi_W d 178 t16 [some (.ref l1), some (.int l2), o3, o4, o5, o6] [] (n, sl, f) Q) : mi_W d 178 9 [some (.ref l1), some (.int l2), o3, o4, o5, o6] [] (n, sl, f) Q := by
  refine w_aload_n cd_178_9 rfl ?_
  refine w_getfield cd_178_10 (show mt_f 12 77 = some (12, 12) by decide +kernel) h8 h9 h11 ?_
  refine w_iload_n cd_178_13 rfl ?_
  refine w_iaload cd_178_14 h13 h14 h15 ?_
  exact w_tableswitch cd_178_15 h17 h18
theorem b_178_52 {d : Nat} {Q : (Option Value ⊕ Nat) → mi_H → Prop} (n sl : Nat) (f : Nat → mi_C) {l1 : Nat} {l2 : Int32} {o3 : Option Value} {o4 : Option Value} {o5 : Option Value} {o6 : Option Value} (h7 : Q (.inl (some (.int 1))) (n, sl, f)) : mi_W d 178 52 [some (.ref l1), some (.int l2), o3, o4, o5, o6] [] (n, sl, f) Q := by
  refine w_iconst (v := 1) cd_178_52 (by decide) ?_
  exact w_ireturn_z cd_178_53 (by decide +kernel) (by decide) h7
theorem b_178_54 {d : Nat} {Q : (Option Value ⊕ Nat) → mi_H → Prop} (n sl : Nat) (f : Nat → mi_C) {l1 : Nat} {l2 : Int32} {o3 : Option Value} {o4 : Option Value} {o5 : Option Value} {o6 : Option Value} (h7 : Q (.inl (some (.int 0))) (n, sl, f)) : mi_W d 178 54 [some (.ref l1), some (.int l2), o3, o4, o5, o6] [] (n, sl, f) Q := by
  refine w_iconst (v := 0) cd_178_54 (by decide) ?_
  exact w_ireturn_z cd_178_55 (by decide +kernel) (by decide) h7
theorem b_178_56 {d : Nat} {Q : (Option Value ⊕ Nat) → mi_H → Prop} (n sl : Nat) (f : Nat → mi_C) {l1 : Nat} {l2 : Int32} {o3 : Option Value} {o4 : Option Value} {o5 : Option Value} {o6 : Option Value} {fs7 : List Value} {x10 : Nat} (m12 i12 : Nat) (g12 : Nat → Int32) {fs16 : List Value} (h8 : f l1 = .inr (12, fs7)) (h9 : l1 < n) (h11 : fs7[13]? = some (.ref x10)) (h13 : f x10 = .inl (0, m12, .inl g12)) (h14 : x10 < n ∨ x10 = mi_SC) (h15 : mi_ix l2 m12 i12) (h17 : f l1 = .inr (12, fs16)) (h18 : l1 < n) (h19 : mi_W d 178 0 (mi_en 6 [.ref l1, .int (g12 i12)]) [] (n, sl, f) (mi_Kc d 178 63 [some (.ref l1), some (.int l2), o3, o4, o5, o6] [] Q)) : mi_W (d + 1) 178 56 [some (.ref l1), some (.int l2), o3, o4, o5, o6] [] (n, sl, f) Q := by
  refine w_aload_n cd_178_56 rfl ?_
  refine w_aload_n cd_178_57 rfl ?_
  refine w_getfield cd_178_58 (show mt_f 12 80 = some (12, 13) by decide +kernel) h8 h9 h11 ?_
  refine w_iload_n cd_178_61 rfl ?_
  refine w_iaload cd_178_62 h13 h14 h15 ?_
  exact w_invokevirtual cd_178_63 (show mt_m 12 477 = some (178, 0) by decide +kernel) (rest := []) rfl (as := [.ref l1, .int (g12 i12)]) rfl h17 (Or.inl h18) ⟨Nat.le_of_ble_eq_true rfl, Nat.le_of_ble_eq_true rfl, Nat.le_of_ble_eq_true rfl⟩ h19
theorem b_178_66 {d : Nat} {Q : (Option Value ⊕ Nat) → mi_H → Prop} (n sl : Nat) (f : Nat → mi_C) {l1 : Nat} {l2 : Int32} {o3 : Option Value} {o4 : Option Value} {o5 : Option Value} {o6 : Option Value} {s7 : Int32} {fs8 : List Value} {x11 : Nat} (m13 i13 : Nat) (g13 : Nat → Int32) {fs17 : List Value} (h9 : f l1 = .inr (12, fs8)) (h10 : l1 < n) (h12 : fs8[14]? = some (.ref x11)) (h14 : f x11 = .inl (0, m13, .inl g13)) (h15 : x11 < n ∨ x11 = mi_SC) (h16 : mi_ix l2 m13 i13) (h18 : f l1 = .inr (12, fs17)) (h19 : l1 < n) (h20 : mi_W d 178 0 (mi_en 6 [.ref l1, .int (g13 i13)]) [] (n, sl, f) (mi_Kc d 178 74 [some (.ref l1), some (.int l2), some (.int s7), o4, o5, o6] [] Q)) : mi_W (d + 1) 178 66 [some (.ref l1), some (.int l2), o3, o4, o5, o6] [.int s7] (n, sl, f) Q := by
  refine w_istore_n (ls' := [some (.ref l1), some (.int l2), some (.int s7), o4, o5, o6]) cd_178_66 (Nat.le_of_ble_eq_true rfl) rfl ?_
  refine w_aload_n cd_178_67 rfl ?_
  refine w_aload_n cd_178_68 rfl ?_
  refine w_getfield cd_178_69 (show mt_f 12 83 = some (12, 14) by decide +kernel) h9 h10 h12 ?_
  refine w_iload_n cd_178_72 rfl ?_
  refine w_iaload cd_178_73 h14 h15 h16 ?_
  exact w_invokevirtual cd_178_74 (show mt_m 12 477 = some (178, 0) by decide +kernel) (rest := []) rfl (as := [.ref l1, .int (g13 i13)]) rfl h18 (Or.inl h19) ⟨Nat.le_of_ble_eq_true rfl, Nat.le_of_ble_eq_true rfl, Nat.le_of_ble_eq_true rfl⟩ h20
theorem b_178_77 {d : Nat} {Q : (Option Value ⊕ Nat) → mi_H → Prop} (n sl : Nat) (f : Nat → mi_C) {l1 : Nat} {l2 : Int32} {l3 : Int32} {o4 : Option Value} {o5 : Option Value} {o6 : Option Value} {s7 : Int32} (h8 : l3 = (0 : Int32) → mi_W d 178 90 [some (.ref l1), some (.int l2), some (.int l3), some (.int s7), o5, o6] [] (n, sl, f) Q) (h9 : ¬ (l3 = (0 : Int32)) → mi_W d 178 82 [some (.ref l1), some (.int l2), some (.int l3), some (.int s7), o5, o6] [] (n, sl, f) Q) : mi_W d 178 77 [some (.ref l1), some (.int l2), some (.int l3), o4, o5, o6] [.int s7] (n, sl, f) Q := by
  refine w_istore_n (ls' := [some (.ref l1), some (.int l2), some (.int l3), some (.int s7), o5, o6]) cd_178_77 (Nat.le_of_ble_eq_true rfl) rfl ?_
  refine w_iload_n cd_178_78 rfl ?_
  exact w_ifeq cd_178_79 (by decide) h8 h9
theorem b_178_82 {d : Nat} {Q : (Option Value ⊕ Nat) → mi_H → Prop} (n sl : Nat) (f : Nat → mi_C) {l1 : Nat} {l2 : Int32} {l3 : Int32} {l4 : Int32} {o5 : Option Value} {o6 : Option Value} (h7 : l4 = (0 : Int32) → mi_W d 178 90 [some (.ref l1), some (.int l2), some (.int l3), some (.int l4), o5, o6] [] (n, sl, f) Q) (h8 : ¬ (l4 = (0 : Int32)) → mi_W d 178 86 [some (.ref l1), some (.int l2), some (.int l3), some (.int l4), o5, o6] [] (n, sl, f) Q) : mi_W d 178 82 [some (.ref l1), some (.int l2), some (.int l3), some (.int l4), o5, o6] [] (n, sl, f) Q := by
  refine w_iload_n cd_178_82 rfl ?_
  exact w_ifeq cd_178_83 (by decide) h7 h8
theorem b_178_86 {d : Nat} {Q : (Option Value ⊕ Nat) → mi_H → Prop} (n sl : Nat) (f : Nat → mi_C) {l1 : Nat} {l2 : Int32} {l3 : Int32} {l4 : Int32} {o5 : Option Value} {o6 : Option Value} (h7 : mi_W d 178 91 [some (.ref l1), some (.int l2), some (.int l3), some (.int l4), o5, o6] [.int 1] (n, sl, f) Q) : mi_W d 178 86 [some (.ref l1), some (.int l2), some (.int l3), some (.int l4), o5, o6] [] (n, sl, f) Q := by
  refine w_iconst (v := 1) cd_178_86 (by decide) ?_
  exact w_goto cd_178_87 (by decide) h7
theorem b_178_90 {d : Nat} {Q : (Option Value ⊕ Nat) → mi_H → Prop} (n sl : Nat) (f : Nat → mi_C) {l1 : Nat} {l2 : Int32} {l3 : Int32} {l4 : Int32} {o5 : Option Value} {o6 : Option Value} (h7 : mi_W d 178 91 [some (.ref l1), some (.int l2), some (.int l3), some (.int l4), o5, o6] [.int 0] (n, sl, f) Q) : mi_W d 178 90 [some (.ref l1), some (.int l2), some (.int l3), some (.int l4), o5, o6] [] (n, sl, f) Q := by
  refine w_iconst (v := 0) cd_178_90 (by decide) ?_
  exact h7
theorem b_178_91 {d : Nat} {Q : (Option Value ⊕ Nat) → mi_H → Prop} (n sl : Nat) (f : Nat → mi_C) {l1 : Nat} {l2 : Int32} {l3 : Int32} {l4 : Int32} {o5 : Option Value} {o6 : Option Value} {s7 : Int32} (h8 : s7 = 0 ∨ s7 = 1) (h9 : Q (.inl (some (.int s7))) (n, sl, f)) : mi_W d 178 91 [some (.ref l1), some (.int l2), some (.int l3), some (.int l4), o5, o6] [.int s7] (n, sl, f) Q := by
  exact w_ireturn_z cd_178_91 (by decide +kernel) h8 h9
theorem b_178_92 {d : Nat} {Q : (Option Value ⊕ Nat) → mi_H → Prop} (n sl : Nat) (f : Nat → mi_C) {l1 : Nat} {l2 : Int32} {o3 : Option Value} {o4 : Option Value} {o5 : Option Value} {o6 : Option Value} {fs7 : List Value} {x10 : Nat} (m12 i12 : Nat) (g12 : Nat → Int32) {fs16 : List Value} (h8 : f l1 = .inr (12, fs7)) (h9 : l1 < n) (h11 : fs7[13]? = some (.ref x10)) (h13 : f x10 = .inl (0, m12, .inl g12)) (h14 : x10 < n ∨ x10 = mi_SC) (h15 : mi_ix l2 m12 i12) (h17 : f l1 = .inr (12, fs16)) (h18 : l1 < n) (h19 : mi_W d 178 0 (mi_en 6 [.ref l1, .int (g12 i12)]) [] (n, sl, f) (mi_Kc d 178 99 [some (.ref l1), some (.int l2), o3, o4, o5, o6] [] Q)) : mi_W (d + 1) 178 92 [some (.ref l1), some (.int l2), o3, o4, o5, o6] [] (n, sl, f) Q := by
  refine w_aload_n cd_178_92 rfl ?_
  refine w_aload_n cd_178_93 rfl ?_
  refine w_getfield cd_178_94 (show mt_f 12 80 = some (12, 13) by decide +kernel) h8 h9 h11 ?_
  refine w_iload_n cd_178_97 rfl ?_
  refine w_iaload cd_178_98 h13 h14 h15 ?_
  exact w_invokevirtual cd_178_99 (show mt_m 12 477 = some (178, 0) by decide +kernel) (rest := []) rfl (as := [.ref l1, .int (g12 i12)]) rfl h17 (Or.inl h18) ⟨Nat.le_of_ble_eq_true rfl, Nat.le_of_ble_eq_true rfl, Nat.le_of_ble_eq_true rfl⟩ h19
theorem b_178_102 {d : Nat} {Q : (Option Value ⊕ Nat) → mi_H → Prop} (n sl : Nat) (f : Nat → mi_C) {l1 : Nat} {l2 : Int32} {o3 : Option Value} {o4 : Option Value} {o5 : Option Value} {o6 : Option Value} {s7 : Int32} {fs8 : List Value} {x11 : Nat} (m13 i13 : Nat) (g13 : Nat → Int32) {fs17 : List Value} (h9 : f l1 = .inr (12, fs8)) (h10 : l1 < n) (h12 : fs8[14]? = some (.ref x11)) (h14 : f x11 = .inl (0, m13, .inl g13)) (h15 : x11 < n ∨ x11 = mi_SC) (h16 : mi_ix l2 m13 i13) (h18 : f l1 = .inr (12, fs17)) (h19 : l1 < n) (h20 : mi_W d 178 0 (mi_en 6 [.ref l1, .int (g13 i13)]) [] (n, sl, f) (mi_Kc d 178 110 [some (.ref l1), some (.int l2), some (.int s7), o4, o5, o6] [] Q)) : mi_W (d + 1) 178 102 [some (.ref l1), some (.int l2), o3, o4, o5, o6] [.int s7] (n, sl, f) Q := by
  refine w_istore_n (ls' := [some (.ref l1), some (.int l2), some (.int s7), o4, o5, o6]) cd_178_102 (Nat.le_of_ble_eq_true rfl) rfl ?_
  refine w_aload_n cd_178_103 rfl ?_
  refine w_aload_n cd_178_104 rfl ?_
  refine w_getfield cd_178_105 (show mt_f 12 83 = some (12, 14) by decide +kernel) h9 h10 h12 ?_
  refine w_iload_n cd_178_108 rfl ?_
  refine w_iaload cd_178_109 h14 h15 h16 ?_
  exact w_invokevirtual cd_178_110 (show mt_m 12 477 = some (178, 0) by decide +kernel) (rest := []) rfl (as := [.ref l1, .int (g13 i13)]) rfl h18 (Or.inl h19) ⟨Nat.le_of_ble_eq_true rfl, Nat.le_of_ble_eq_true rfl, Nat.le_of_ble_eq_true rfl⟩ h20
theorem b_178_113 {d : Nat} {Q : (Option Value ⊕ Nat) → mi_H → Prop} (n sl : Nat) (f : Nat → mi_C) {l1 : Nat} {l2 : Int32} {l3 : Int32} {o4 : Option Value} {o5 : Option Value} {o6 : Option Value} {s7 : Int32} (h8 : ¬ l3 = (0 : Int32) → mi_W d 178 122 [some (.ref l1), some (.int l2), some (.int l3), some (.int s7), o5, o6] [] (n, sl, f) Q) (h9 : ¬ (¬ l3 = (0 : Int32)) → mi_W d 178 118 [some (.ref l1), some (.int l2), some (.int l3), some (.int s7), o5, o6] [] (n, sl, f) Q) : mi_W d 178 113 [some (.ref l1), some (.int l2), some (.int l3), o4, o5, o6] [.int s7] (n, sl, f) Q := by
  refine w_istore_n (ls' := [some (.ref l1), some (.int l2), some (.int l3), some (.int s7), o5, o6]) cd_178_113 (Nat.le_of_ble_eq_true rfl) rfl ?_
  refine w_iload_n cd_178_114 rfl ?_
  exact w_ifne cd_178_115 (by decide) h8 h9
theorem b_178_118 {d : Nat} {Q : (Option Value ⊕ Nat) → mi_H → Prop} (n sl : Nat) (f : Nat → mi_C) {l1 : Nat} {l2 : Int32} {l3 : Int32} {l4 : Int32} {o5 : Option Value} {o6 : Option Value} (h7 : l4 = (0 : Int32) → mi_W d 178 126 [some (.ref l1), some (.int l2), some (.int l3), some (.int l4), o5, o6] [] (n, sl, f) Q) (h8 : ¬ (l4 = (0 : Int32)) → mi_W d 178 122 [some (.ref l1), some (.int l2), some (.int l3), some (.int l4), o5, o6] [] (n, sl, f) Q) : mi_W d 178 118 [some (.ref l1), some (.int l2), some (.int l3), some (.int l4), o5, o6] [] (n, sl, f) Q := by
  refine w_iload_n cd_178_118 rfl ?_
  exact w_ifeq cd_178_119 (by decide) h7 h8
theorem b_178_122 {d : Nat} {Q : (Option Value ⊕ Nat) → mi_H → Prop} (n sl : Nat) (f : Nat → mi_C) {l1 : Nat} {l2 : Int32} {l3 : Int32} {l4 : Int32} {o5 : Option Value} {o6 : Option Value} (h7 : mi_W d 178 127 [some (.ref l1), some (.int l2), some (.int l3), some (.int l4), o5, o6] [.int 1] (n, sl, f) Q) : mi_W d 178 122 [some (.ref l1), some (.int l2), some (.int l3), some (.int l4), o5, o6] [] (n, sl, f) Q := by
  refine w_iconst (v := 1) cd_178_122 (by decide) ?_
  exact w_goto cd_178_123 (by decide) h7
theorem b_178_126 {d : Nat} {Q : (Option Value ⊕ Nat) → mi_H → Prop} (n sl : Nat) (f : Nat → mi_C) {l1 : Nat} {l2 : Int32} {l3 : Int32} {l4 : Int32} {o5 : Option Value} {o6 : Option Value} (h7 : mi_W d 178 127 [some (.ref l1), some (.int l2), some (.int l3), some (.int l4), o5, o6] [.int 0] (n, sl, f) Q) : mi_W d 178 126 [some (.ref l1), some (.int l2), some (.int l3), some (.int l4), o5, o6] [] (n, sl, f) Q := by
  refine w_iconst (v := 0) cd_178_126 (by decide) ?_
  exact h7
theorem b_178_127 {d : Nat} {Q : (Option Value ⊕ Nat) → mi_H → Prop} (n sl : Nat) (f : Nat → mi_C) {l1 : Nat} {l2 : Int32} {l3 : Int32} {l4 : Int32} {o5 : Option Value} {o6 : Option Value} {s7 : Int32} (h8 : s7 = 0 ∨ s7 = 1) (h9 : Q (.inl (some (.int s7))) (n, sl, f)) : mi_W d 178 127 [some (.ref l1), some (.int l2), some (.int l3), some (.int l4), o5, o6] [.int s7] (n, sl, f) Q := by
  exact w_ireturn_z cd_178_127 (by decide +kernel) h8 h9
theorem b_178_128 {d : Nat} {Q : (Option Value ⊕ Nat) → mi_H → Prop} (n sl : Nat) (f : Nat → mi_C) {l1 : Nat} {l2 : Int32} {o3 : Option Value} {o4 : Option Value} {o5 : Option Value} {o6 : Option Value} {fs7 : List Value} {x10 : Nat} (m12 i12 : Nat) (g12 : Nat → Int32) {fs16 : List Value} (h8 : f l1 = .inr (12, fs7)) (h9 : l1 < n) (h11 : fs7[13]? = some (.ref x10)) (h13 : f x10 = .inl (0, m12, .inl g12)) (h14 : x10 < n ∨ x10 = mi_SC) (h15 : mi_ix l2 m12 i12) (h17 : f l1 = .inr (12, fs16)) (h18 : l1 < n) (h19 : mi_W d 178 0 (mi_en 6 [.ref l1, .int (g12 i12)]) [] (n, sl, f) (mi_Kc d 178 135 [some (.ref l1), some (.int l2), o3, o4, o5, o6] [] Q)) : mi_W (d + 1) 178 128 [some (.ref l1), some (.int l2), o3, o4, o5, o6] [] (n, sl, f) Q := by
  refine w_aload_n cd_178_128 rfl ?_
  refine w_aload_n cd_178_129 rfl ?_
  refine w_getfield cd_178_130 (show mt_f 12 80 = some (12, 13) by decide +kernel) h8 h9 h11 ?_
  refine w_iload_n cd_178_133 rfl ?_
  refine w_iaload cd_178_134 h13 h14 h15 ?_
  exact w_invokevirtual cd_178_135 (show mt_m 12 477 = some (178, 0) by decide +kernel) (rest := []) rfl (as := [.ref l1, .int (g12 i12)]) rfl h17 (Or.inl h18) ⟨Nat.le_of_ble_eq_true rfl, Nat.le_of_ble_eq_true rfl, Nat.le_of_ble_eq_true rfl⟩ h19
theorem b_178_138 {d : Nat} {Q : (Option Value ⊕ Nat) → mi_H → Prop} (n sl : Nat) (f : Nat → mi_C) {l1 : Nat} {l2 : Int32} {o3 : Option Value} {o4 : Option Value} {o5 : Option Value} {o6 : Option Value} {s7 : Int32} (h8 : ¬ s7 = (0 : Int32) → mi_W d 178 145 [some (.ref l1), some (.int l2), o3, o4, o5, o6] [] (n, sl, f) Q) (h9 : ¬ (¬ s7 = (0 : Int32)) → mi_W d 178 141 [some (.ref l1), some (.int l2), o3, o4, o5, o6] [] (n, sl, f) Q) : mi_W d 178 138 [some (.ref l1), some (.int l2), o3, o4, o5, o6] [.int s7] (n, sl, f) Q := by
  exact w_ifne cd_178_138 (by decide) h8 h9
theorem b_178_141 {d : Nat} {Q : (Option Value ⊕ Nat) → mi_H → Prop} (n sl : Nat) (f : Nat → mi_C) {l1 : Nat} {l2 : Int32} {o3 : Option Value} {o4 : Option Value} {o5 : Option Value} {o6 : Option Value} (h7 : mi_W d 178 146 [some (.ref l1), some (.int l2), o3, o4, o5, o6] [.int 1] (n, sl, f) Q) : mi_W d 178 141 [some (.ref l1), some (.int l2), o3, o4, o5, o6] [] (n, sl, f) Q := by
  refine w_iconst (v := 1) cd_178_141 (by decide) ?_
  exact w_goto cd_178_142 (by decide) h7
theorem b_178_145 {d : Nat} {Q : (Option Value ⊕ Nat) → mi_H → Prop} (n sl : Nat) (f : Nat → mi_C) {l1 : Nat} {l2 : Int32} {o3 : Option Value} {o4 : Option Value} {o5 : Option Value} {o6 : Option Value} (h7 : mi_W d 178 146 [some (.ref l1), some (.int l2), o3, o4, o5, o6] [.int 0] (n, sl, f) Q) : mi_W d 178 145 [some (.ref l1), some (.int l2), o3, o4, o5, o6] [] (n, sl, f) Q := by
  refine w_iconst (v := 0) cd_178_145 (by decide) ?_
  exact h7
theorem b_178_146 {d : Nat} {Q : (Option Value ⊕ Nat) → mi_H → Prop} (n sl : Nat) (f : Nat → mi_C) {l1 : Nat} {l2 : Int32} {o3 : Option Value} {o4 : Option Value} {o5 : Option Value} {o6 : Option Value} {s7 : Int32} (h8 : s7 = 0 ∨ s7 = 1) (h9 : Q (.inl (some (.int s7))) (n, sl, f)) : mi_W d 178 146 [some (.ref l1), some (.int l2), o3, o4, o5, o6] [.int s7] (n, sl, f) Q := by
  exact w_ireturn_z cd_178_146 (by decide +kernel) h8 h9
theorem b_178_147 {d : Nat} {Q : (Option Value ⊕ Nat) → mi_H → Prop} (n sl : Nat) (f : Nat → mi_C) {l1 : Nat} {l2 : Int32} {o3 : Option Value} {o4 : Option Value} {o5 : Option Value} {o6 : Option Value} {fs7 : List Value} {x10 : Nat} {fs12 : List Value} {x15 : Nat} {fs17 : List Value} {x20 : Nat} (m22 i22 : Nat) (g22 : Nat → Int32) (m26 i26 : Nat) (g26 : Nat → Int32) (h8 : f l1 = .inr (12, fs7)) (h9 : l1 < n) (h11 : fs7[43]? = some (.ref x10)) (h13 : f x10 = .inr (13, fs12)) (h14 : x10 < n) (h16 : fs12[5]? = some (.ref x15)) (h18 : f l1 = .inr (12, fs17)) (h19 : l1 < n) (h21 : fs17[13]? = some (.ref x20)) (h23 : f x20 = .inl (0, m22, .inl g22)) (h24 : x20 < n ∨ x20 = mi_SC) (h25 : mi_ix l2 m22 i22) (h27 : f x15 = .inl (2, m26, .inl g26)) (h28 : x15 < n) (h29 : mi_ix (g22 i22) m26 i26) (h30 : (g26 i26) = 0 ∨ (g26 i26) = 1) (h31 : Q (.inl (some (.int (g26 i26)))) (n, sl, f)) : mi_W d 178 147 [some (.ref l1), some (.int l2), o3, o4, o5, o6] [] (n, sl, f) Q := by
  refine w_aload_n cd_178_147 rfl ?_
  refine w_getfield cd_178_148 (show mt_f 12 445 = some (12, 43) by decide +kernel) h8 h9 h11 ?_
  refine w_getfield cd_178_151 (show mt_f 12 459 = some (13, 5) by decide +kernel) h13 h14 h16 ?_
  refine w_aload_n cd_178_154 rfl ?_
  refine w_getfield cd_178_155 (show mt_f 12 80 = some (12, 13) by decide +kernel) h18 h19 h21 ?_
  refine w_iload_n cd_178_158 rfl ?_
  refine w_iaload cd_178_159 h23 h24 h25 ?_
  refine w_baload2 cd_178_160 h27 h28 h29 ?_
  exact w_ireturn_z cd_178_161 (by decide +kernel) h30 h31
theorem b_178_162 {d : Nat} {Q : (Option Value ⊕ Nat) → mi_H → Prop} (n sl : Nat) (f : Nat → mi_C) {l1 : Nat} {l2 : Int32} {o3 : Option Value} {o4 : Option Value} {o5 : Option Value} {o6 : Option Value} {fs7 : List Value} {x10 : Nat} (m12 i12 : Nat) (g12 : Nat → Int32) {fs16 : List Value} (h8 : f l1 = .inr (12, fs7)) (h9 : l1 < n) (h11 : fs7[13]? = some (.ref x10)) (h13 : f x10 = .inl (0, m12, .inl g12)) (h14 : x10 < n ∨ x10 = mi_SC) (h15 : mi_ix l2 m12 i12) (h17 : f l1 = .inr (12, fs16)) (h18 : l1 < n) (h19 : mi_W d 176 0 (mi_en 2 [.ref l1, .int (g12 i12)]) [] (n, sl, f) (mi_Kc d 178 169 [some (.ref l1), some (.int l2), o3, o4, o5, o6] [] Q)) : mi_W (d + 1) 178 162 [some (.ref l1), some (.int l2), o3, o4, o5, o6] [] (n, sl, f) Q := by
  refine w_aload_n cd_178_162 rfl ?_
  refine w_aload_n cd_178_163 rfl ?_
  refine w_getfield cd_178_164 (show mt_f 12 80 = some (12, 13) by decide +kernel) h8 h9 h11 ?_
  refine w_iload_n cd_178_167 rfl ?_
  refine w_iaload cd_178_168 h13 h14 h15 ?_
  exact w_invokevirtual cd_178_169 (show mt_m 12 451 = some (176, 0) by decide +kernel) (rest := []) rfl (as := [.ref l1, .int (g12 i12)]) rfl h17 (Or.inl h18) ⟨Nat.le_of_ble_eq_true rfl, Nat.le_of_ble_eq_true rfl, Nat.le_of_ble_eq_true rfl⟩ h19
theorem b_178_172 {d : Nat} {Q : (Option Value ⊕ Nat) → mi_H → Prop} (n sl : Nat) (f : Nat → mi_C) {l1 : Nat} {l2 : Int32} {o3 : Option Value} {o4 : Option Value} {o5 : Option Value} {o6 : Option Value} {s7 : Int64} {fs8 : List Value} {x11 : Nat} (m13 i13 : Nat) (g13 : Nat → Int32) {fs17 : List Value} (h9 : f l1 = .inr (12, fs8)) (h10 : l1 < n) (h12 : fs8[14]? = some (.ref x11)) (h14 : f x11 = .inl (0, m13, .inl g13)) (h15 : x11 < n ∨ x11 = mi_SC) (h16 : mi_ix l2 m13 i13) (h18 : f l1 = .inr (12, fs17)) (h19 : l1 < n) (h20 : mi_W d 176 0 (mi_en 2 [.ref l1, .int (g13 i13)]) [] (n, sl, f) (mi_Kc d 178 180 [some (.ref l1), some (.int l2), some (.long s7), none, o5, o6] [] Q)) : mi_W (d + 1) 178 172 [some (.ref l1), some (.int l2), o3, o4, o5, o6] [.long s7] (n, sl, f) Q := by
  refine w_lstore_n (ls' := [some (.ref l1), some (.int l2), some (.long s7), none, o5, o6]) cd_178_172 (Nat.le_of_ble_eq_true rfl) rfl ?_
  refine w_aload_n cd_178_173 rfl ?_
  refine w_aload_n cd_178_174 rfl ?_
  refine w_getfield cd_178_175 (show mt_f 12 83 = some (12, 14) by decide +kernel) h9 h10 h12 ?_
  refine w_iload_n cd_178_178 rfl ?_
  refine w_iaload cd_178_179 h14 h15 h16 ?_
  exact w_invokevirtual cd_178_180 (show mt_m 12 451 = some (176, 0) by decide +kernel) (rest := []) rfl (as := [.ref l1, .int (g13 i13)]) rfl h18 (Or.inl h19) ⟨Nat.le_of_ble_eq_true rfl, Nat.le_of_ble_eq_true rfl, Nat.le_of_ble_eq_true rfl⟩ h20
theorem b_178_183 {d : Nat} {Q : (Option Value ⊕ Nat) → mi_H → Prop} (n sl : Nat) (f : Nat → mi_C) {l1 : Nat} {l2 : Int32} {l3 : Int64} {o4 : Option Value} {o5 : Option Value} {s6 : Int64} {fs7 : List Value} {x10 : Nat} (m12 i12 : Nat) (g12 : Nat → Int32) (h8 : f l1 = .inr (12, fs7)) (h9 : l1 < n) (h11 : fs7[12]? = some (.ref x10)) (h13 : f x10 = .inl (0, m12, .inl g12)) (h14 : x10 < n ∨ x10 = mi_SC) (h15 : mi_ix l2 m12 i12) (h16 : ¬ (g12 i12) = 28 → mi_W d 178 211 [some (.ref l1), some (.int l2), some (.long l3), none, some (.long s6), none] [] (n, sl, f) Q) (h17 : ¬ (¬ (g12 i12) = 28) → mi_W d 178 196 [some (.ref l1), some (.int l2), some (.long l3), none, some (.long s6), none] [] (n, sl, f) Q) : mi_W d 178 183 [some (.ref l1), some (.int l2), some (.long l3), none, o4, o5] [.long s6] (n, sl, f) Q := by
  refine w_lstore (ls' := [some (.ref l1), some (.int l2), some (.long l3), none, some (.long s6), none]) cd_178_183 (Nat.le_of_ble_eq_true rfl) rfl ?_
  refine w_aload_n cd_178_185 rfl ?_
  refine w_getfield cd_178_186 (show mt_f 12 77 = some (12, 12) by decide +kernel) h8 h9 h11 ?_
  refine w_iload_n cd_178_189 rfl ?_
  refine w_iaload cd_178_190 h13 h14 h15 ?_
  refine w_bipush (v := 28) cd_178_191 (by decide) ?_
  exact w_if_icmpne cd_178_193 (by decide) h16 h17
theorem b_178_196 {d : Nat} {Q : (Option Value ⊕ Nat) → mi_H → Prop} (n sl : Nat) (f : Nat → mi_C) {l1 : Nat} {l2 : Int32} {l3 : Int64} {l4 : Int64} (h5 : (lg_cmp l3 l4) < (0 : Int32) → mi_W d 178 207 [some (.ref l1), some (.int l2), some (.long l3), none, some (.long l4), none] [] (n, sl, f) Q) (h6 : ¬ ((lg_cmp l3 l4) < (0 : Int32)) → mi_W d 178 203 [some (.ref l1), some (.int l2), some (.long l3), none, some (.long l4), none] [] (n, sl, f) Q) : mi_W d 178 196 [some (.ref l1), some (.int l2), some (.long l3), none, some (.long l4), none] [] (n, sl, f) Q := by
  refine w_lload_n cd_178_196 rfl ?_
  refine w_lload cd_178_197 rfl ?_
  refine w_lcmp cd_178_199 ?_
  exact w_iflt cd_178_200 (by decide) h5 h6
theorem b_178_203 {d : Nat} {Q : (Option Value ⊕ Nat) → mi_H → Prop} (n sl : Nat) (f : Nat → mi_C) {l1 : Nat} {l2 : Int32} {l3 : Int64} {l4 : Int64} (h5 : mi_W d 178 301 [some (.ref l1), some (.int l2), some (.long l3), none, some (.long l4), none] [.int 1] (n, sl, f) Q) : mi_W d 178 203 [some (.ref l1), some (.int l2), some (.long l3), none, some (.long l4), none] [] (n, sl, f) Q := by
  refine w_iconst (v := 1) cd_178_203 (by decide) ?_
  exact w_goto cd_178_204 (by decide) h5
theorem b_178_207 {d : Nat} {Q : (Option Value ⊕ Nat) → mi_H → Prop} (n sl : Nat) (f : Nat → mi_C) {l1 : Nat} {l2 : Int32} {l3 : Int64} {l4 : Int64} (h5 : mi_W d 178 301 [some (.ref l1), some (.int l2), some (.long l3), none, some (.long l4), none] [.int 0] (n, sl, f) Q) : mi_W d 178 207 [some (.ref l1), some (.int l2), some (.long l3), none, some (.long l4), none] [] (n, sl, f) Q := by
  refine w_iconst (v := 0) cd_178_207 (by decide) ?_
  exact w_goto cd_178_208 (by decide) h5
theorem b_178_211 {d : Nat} {Q : (Option Value ⊕ Nat) → mi_H → Prop} (n sl : Nat) (f : Nat → mi_C) {l1 : Nat} {l2 : Int32} {l3 : Int64} {l4 : Int64} {fs5 : List Value} {x8 : Nat} (m10 i10 : Nat) (g10 : Nat → Int32) (h6 : f l1 = .inr (12, fs5)) (h7 : l1 < n) (h9 : fs5[12]? = some (.ref x8)) (h11 : f x8 = .inl (0, m10, .inl g10)) (h12 : x8 < n ∨ x8 = mi_SC) (h13 : mi_ix l2 m10 i10) (h14 : ¬ (g10 i10) = 29 → mi_W d 178 237 [some (.ref l1), some (.int l2), some (.long l3), none, some (.long l4), none] [] (n, sl, f) Q) (h15 : ¬ (¬ (g10 i10) = 29) → mi_W d 178 222 [some (.ref l1), some (.int l2), some (.long l3), none, some (.long l4), none] [] (n, sl, f) Q) : mi_W d 178 211 [some (.ref l1), some (.int l2), some (.long l3), none, some (.long l4), none] [] (n, sl, f) Q := by
  refine w_aload_n cd_178_211 rfl ?_
  refine w_getfield cd_178_212 (show mt_f 12 77 = some (12, 12) by decide +kernel) h6 h7 h9 ?_
  refine w_iload_n cd_178_215 rfl ?_
  refine w_iaload cd_178_216 h11 h12 h13 ?_
  refine w_bipush (v := 29) cd_178_217 (by decide) ?_
  exact w_if_icmpne cd_178_219 (by decide) h14 h15
theorem b_178_222 {d : Nat} {Q : (Option Value ⊕ Nat) → mi_H → Prop} (n sl : Nat) (f : Nat → mi_C) {l1 : Nat} {l2 : Int32} {l3 : Int64} {l4 : Int64} (h5 : (lg_cmp l3 l4) ≤ (0 : Int32) → mi_W d 178 233 [some (.ref l1), some (.int l2), some (.long l3), none, some (.long l4), none] [] (n, sl, f) Q) (h6 : ¬ ((lg_cmp l3 l4) ≤ (0 : Int32)) → mi_W d 178 229 [some (.ref l1), some (.int l2), some (.long l3), none, some (.long l4), none] [] (n, sl, f) Q) : mi_W d 178 222 [some (.ref l1), some (.int l2), some (.long l3), none, some (.long l4), none] [] (n, sl, f) Q := by
  refine w_lload_n cd_178_222 rfl ?_
  refine w_lload cd_178_223 rfl ?_
  refine w_lcmp cd_178_225 ?_
  exact w_ifle cd_178_226 (by decide) h5 h6
theorem b_178_229 {d : Nat} {Q : (Option Value ⊕ Nat) → mi_H → Prop} (n sl : Nat) (f : Nat → mi_C) {l1 : Nat} {l2 : Int32} {l3 : Int64} {l4 : Int64} (h5 : mi_W d 178 301 [some (.ref l1), some (.int l2), some (.long l3), none, some (.long l4), none] [.int 1] (n, sl, f) Q) : mi_W d 178 229 [some (.ref l1), some (.int l2), some (.long l3), none, some (.long l4), none] [] (n, sl, f) Q := by
  refine w_iconst (v := 1) cd_178_229 (by decide) ?_
  exact w_goto cd_178_230 (by decide) h5
theorem b_178_233 {d : Nat} {Q : (Option Value ⊕ Nat) → mi_H → Prop} (n sl : Nat) (f : Nat → mi_C) {l1 : Nat} {l2 : Int32} {l3 : Int64} {l4 : Int64} (h5 : mi_W d 178 301 [some (.ref l1), some (.int l2), some (.long l3), none, some (.long l4), none] [.int 0] (n, sl, f) Q) : mi_W d 178 233 [some (.ref l1), some (.int l2), some (.long l3), none, some (.long l4), none] [] (n, sl, f) Q := by
  refine w_iconst (v := 0) cd_178_233 (by decide) ?_
  exact w_goto cd_178_234 (by decide) h5
theorem b_178_237 {d : Nat} {Q : (Option Value ⊕ Nat) → mi_H → Prop} (n sl : Nat) (f : Nat → mi_C) {l1 : Nat} {l2 : Int32} {l3 : Int64} {l4 : Int64} {fs5 : List Value} {x8 : Nat} (m10 i10 : Nat) (g10 : Nat → Int32) (h6 : f l1 = .inr (12, fs5)) (h7 : l1 < n) (h9 : fs5[12]? = some (.ref x8)) (h11 : f x8 = .inl (0, m10, .inl g10)) (h12 : x8 < n ∨ x8 = mi_SC) (h13 : mi_ix l2 m10 i10) (h14 : ¬ (g10 i10) = 30 → mi_W d 178 263 [some (.ref l1), some (.int l2), some (.long l3), none, some (.long l4), none] [] (n, sl, f) Q) (h15 : ¬ (¬ (g10 i10) = 30) → mi_W d 178 248 [some (.ref l1), some (.int l2), some (.long l3), none, some (.long l4), none] [] (n, sl, f) Q) : mi_W d 178 237 [some (.ref l1), some (.int l2), some (.long l3), none, some (.long l4), none] [] (n, sl, f) Q := by
  refine w_aload_n cd_178_237 rfl ?_
  refine w_getfield cd_178_238 (show mt_f 12 77 = some (12, 12) by decide +kernel) h6 h7 h9 ?_
  refine w_iload_n cd_178_241 rfl ?_
  refine w_iaload cd_178_242 h11 h12 h13 ?_
  refine w_bipush (v := 30) cd_178_243 (by decide) ?_
  exact w_if_icmpne cd_178_245 (by decide) h14 h15
theorem b_178_248 {d : Nat} {Q : (Option Value ⊕ Nat) → mi_H → Prop} (n sl : Nat) (f : Nat → mi_C) {l1 : Nat} {l2 : Int32} {l3 : Int64} {l4 : Int64} (h5 : (0 : Int32) < (lg_cmp l3 l4) → mi_W d 178 259 [some (.ref l1), some (.int l2), some (.long l3), none, some (.long l4), none] [] (n, sl, f) Q) (h6 : ¬ ((0 : Int32) < (lg_cmp l3 l4)) → mi_W d 178 255 [some (.ref l1), some (.int l2), some (.long l3), none, some (.long l4), none] [] (n, sl, f) Q) : mi_W d 178 248 [some (.ref l1), some (.int l2), some (.long l3), none, some (.long l4), none] [] (n, sl, f) Q := by
  refine w_lload_n cd_178_248 rfl ?_
  refine w_lload cd_178_249 rfl ?_
  refine w_lcmp cd_178_251 ?_
  exact w_ifgt cd_178_252 (by decide) h5 h6
theorem b_178_255 {d : Nat} {Q : (Option Value ⊕ Nat) → mi_H → Prop} (n sl : Nat) (f : Nat → mi_C) {l1 : Nat} {l2 : Int32} {l3 : Int64} {l4 : Int64} (h5 : mi_W d 178 301 [some (.ref l1), some (.int l2), some (.long l3), none, some (.long l4), none] [.int 1] (n, sl, f) Q) : mi_W d 178 255 [some (.ref l1), some (.int l2), some (.long l3), none, some (.long l4), none] [] (n, sl, f) Q := by
  refine w_iconst (v := 1) cd_178_255 (by decide) ?_
  exact w_goto cd_178_256 (by decide) h5
theorem b_178_259 {d : Nat} {Q : (Option Value ⊕ Nat) → mi_H → Prop} (n sl : Nat) (f : Nat → mi_C) {l1 : Nat} {l2 : Int32} {l3 : Int64} {l4 : Int64} (h5 : mi_W d 178 301 [some (.ref l1), some (.int l2), some (.long l3), none, some (.long l4), none] [.int 0] (n, sl, f) Q) : mi_W d 178 259 [some (.ref l1), some (.int l2), some (.long l3), none, some (.long l4), none] [] (n, sl, f) Q := by
  refine w_iconst (v := 0) cd_178_259 (by decide) ?_
  exact w_goto cd_178_260 (by decide) h5
theorem b_178_263 {d : Nat} {Q : (Option Value ⊕ Nat) → mi_H → Prop} (n sl : Nat) (f : Nat → mi_C) {l1 : Nat} {l2 : Int32} {l3 : Int64} {l4 : Int64} {fs5 : List Value} {x8 : Nat} (m10 i10 : Nat) (g10 : Nat → Int32) (h6 : f l1 = .inr (12, fs5)) (h7 : l1 < n) (h9 : fs5[12]? = some (.ref x8)) (h11 : f x8 = .inl (0, m10, .inl g10)) (h12 : x8 < n ∨ x8 = mi_SC) (h13 : mi_ix l2 m10 i10) (h14 : ¬ (g10 i10) = 31 → mi_W d 178 289 [some (.ref l1), some (.int l2), some (.long l3), none, some (.long l4), none] [] (n, sl, f) Q) (h15 : ¬ (¬ (g10 i10) = 31) → mi_W d 178 274 [some (.ref l1), some (.int l2), some (.long l3), none, some (.long l4), none] [] (n, sl, f) Q) : mi_W d 178 263 [some (.ref l1), some (.int l2), some (.long l3), none, some (.long l4), none] [] (n, sl, f) Q := by
  refine w_aload_n cd_178_263 rfl ?_
  refine w_getfield cd_178_264 (show mt_f 12 77 = some (12, 12) by decide +kernel) h6 h7 h9 ?_
  refine w_iload_n cd_178_267 rfl ?_
  refine w_iaload cd_178_268 h11 h12 h13 ?_
  refine w_bipush (v := 31) cd_178_269 (by decide) ?_
  exact w_if_icmpne cd_178_271 (by decide) h14 h15
theorem b_178_274 {d : Nat} {Q : (Option Value ⊕ Nat) → mi_H → Prop} (n sl : Nat) (f : Nat → mi_C) {l1 : Nat} {l2 : Int32} {l3 : Int64} {l4 : Int64} (h5 : (0 : Int32) ≤ (lg_cmp l3 l4) → mi_W d 178 285 [some (.ref l1), some (.int l2), some (.long l3), none, some (.long l4), none] [] (n, sl, f) Q) (h6 : ¬ ((0 : Int32) ≤ (lg_cmp l3 l4)) → mi_W d 178 281 [some (.ref l1), some (.int l2), some (.long l3), none, some (.long l4), none] [] (n, sl, f) Q) : mi_W d 178 274 [some (.ref l1), some (.int l2), some (.long l3), none, some (.long l4), none] [] (n, sl, f) Q := by
  refine w_lload_n cd_178_274 rfl ?_
  refine w_lload cd_178_275 rfl ?_
  refine w_lcmp cd_178_277 ?_
  exact w_ifge cd_178_278 (by decide) h5 h6
theorem b_178_281 {d : Nat} {Q : (Option Value ⊕ Nat) → mi_H → Prop} (n sl : Nat) (f : Nat → mi_C) {l1 : Nat} {l2 : Int32} {l3 : Int64} {l4 : Int64} (h5 : mi_W d 178 301 [some (.ref l1), some (.int l2), some (.long l3), none, some (.long l4), none] [.int 1] (n, sl, f) Q) : mi_W d 178 281 [some (.ref l1), some (.int l2), some (.long l3), none, some (.long l4), none] [] (n, sl, f) Q := by
  refine w_iconst (v := 1) cd_178_281 (by decide) ?_
  exact w_goto cd_178_282 (by decide) h5
theorem b_178_285 {d : Nat} {Q : (Option Value ⊕ Nat) → mi_H → Prop} (n sl : Nat) (f : Nat → mi_C) {l1 : Nat} {l2 : Int32} {l3 : Int64} {l4 : Int64} (h5 : mi_W d 178 301 [some (.ref l1), some (.int l2), some (.long l3), none, some (.long l4), none] [.int 0] (n, sl, f) Q) : mi_W d 178 285 [some (.ref l1), some (.int l2), some (.long l3), none, some (.long l4), none] [] (n, sl, f) Q := by
  refine w_iconst (v := 0) cd_178_285 (by decide) ?_
  exact w_goto cd_178_286 (by decide) h5
theorem b_178_289 {d : Nat} {Q : (Option Value ⊕ Nat) → mi_H → Prop} (n sl : Nat) (f : Nat → mi_C) {l1 : Nat} {l2 : Int32} {l3 : Int64} {l4 : Int64} (h5 : ¬ (lg_cmp l3 l4) = (0 : Int32) → mi_W d 178 300 [some (.ref l1), some (.int l2), some (.long l3), none, some (.long l4), none] [] (n, sl, f) Q) (h6 : ¬ (¬ (lg_cmp l3 l4) = (0 : Int32)) → mi_W d 178 296 [some (.ref l1), some (.int l2), some (.long l3), none, some (.long l4), none] [] (n, sl, f) Q) : mi_W d 178 289 [some (.ref l1), some (.int l2), some (.long l3), none, some (.long l4), none] [] (n, sl, f) Q := by
  refine w_lload_n cd_178_289 rfl ?_
  refine w_lload cd_178_290 rfl ?_
  refine w_lcmp cd_178_292 ?_
  exact w_ifne cd_178_293 (by decide) h5 h6
theorem b_178_296 {d : Nat} {Q : (Option Value ⊕ Nat) → mi_H → Prop} (n sl : Nat) (f : Nat → mi_C) {l1 : Nat} {l2 : Int32} {l3 : Int64} {l4 : Int64} (h5 : mi_W d 178 301 [some (.ref l1), some (.int l2), some (.long l3), none, some (.long l4), none] [.int 1] (n, sl, f) Q) : mi_W d 178 296 [some (.ref l1), some (.int l2), some (.long l3), none, some (.long l4), none] [] (n, sl, f) Q := by
  refine w_iconst (v := 1) cd_178_296 (by decide) ?_
  exact w_goto cd_178_297 (by decide) h5
theorem b_178_300 {d : Nat} {Q : (Option Value ⊕ Nat) → mi_H → Prop} (n sl : Nat) (f : Nat → mi_C) {l1 : Nat} {l2 : Int32} {l3 : Int64} {l4 : Int64} (h5 : mi_W d 178 301 [some (.ref l1), some (.int l2), some (.long l3), none, some (.long l4), none] [.int 0] (n, sl, f) Q) : mi_W d 178 300 [some (.ref l1), some (.int l2), some (.long l3), none, some (.long l4), none] [] (n, sl, f) Q := by
  refine w_iconst (v := 0) cd_178_300 (by decide) ?_
  exact h5
theorem b_178_301 {d : Nat} {Q : (Option Value ⊕ Nat) → mi_H → Prop} (n sl : Nat) (f : Nat → mi_C) {l1 : Nat} {l2 : Int32} {l3 : Int64} {l4 : Int64} {s5 : Int32} (h6 : s5 = 0 ∨ s5 = 1) (h7 : Q (.inl (some (.int s5))) (n, sl, f)) : mi_W d 178 301 [some (.ref l1), some (.int l2), some (.long l3), none, some (.long l4), none] [.int s5] (n, sl, f) Q := by
  exact w_ireturn_z cd_178_301 (by decide +kernel) h6 h7
/-! MarloweHostModel.two(IJJ)J -/
set_option maxRecDepth 100000 in
theorem mq_179 : mt_q 179 = my_179 := rfl
set_option maxRecDepth 100000 in
theorem ci_179 : mt_inc 0 my_179.cd = true := by decide +kernel
theorem cd_179_0 : mt_cd 179 0 = some (.aload_n 0) := mt_cd_of (q := (0, .aload_n 0, 1)) mq_179 ci_179 (List.mem_of_getElem? (i := 0) rfl)
theorem cd_179_1 : mt_cd 179 1 = some (.getfield 441) := mt_cd_of (q := (1, .getfield 441, 3)) mq_179 ci_179 (List.mem_of_getElem? (i := 1) rfl)
theorem cd_179_4 : mt_cd 179 4 = some (.ifCond .eq 5) := mt_cd_of (q := (4, .ifCond .eq 5, 3)) mq_179 ci_179 (List.mem_of_getElem? (i := 2) rfl)
theorem cd_179_7 : mt_cd 179 7 = some (.lconst 0) := mt_cd_of (q := (7, .lconst 0, 1)) mq_179 ci_179 (List.mem_of_getElem? (i := 3) rfl)
theorem cd_179_8 : mt_cd 179 8 = some (.lreturn) := mt_cd_of (q := (8, .lreturn, 1)) mq_179 ci_179 (List.mem_of_getElem? (i := 4) rfl)
theorem cd_179_9 : mt_cd 179 9 = some (.iload_n 1) := mt_cd_of (q := (9, .iload_n 1, 1)) mq_179 ci_179 (List.mem_of_getElem? (i := 5) rfl)
theorem cd_179_10 : mt_cd 179 10 = some (.bipush 13) := mt_cd_of (q := (10, .bipush 13, 2)) mq_179 ci_179 (List.mem_of_getElem? (i := 6) rfl)
theorem cd_179_12 : mt_cd 179 12 = some (.if_icmp .eq 9) := mt_cd_of (q := (12, .if_icmp .eq 9, 3)) mq_179 ci_179 (List.mem_of_getElem? (i := 7) rfl)
theorem cd_179_15 : mt_cd 179 15 = some (.iload_n 1) := mt_cd_of (q := (15, .iload_n 1, 1)) mq_179 ci_179 (List.mem_of_getElem? (i := 8) rfl)
theorem cd_179_16 : mt_cd 179 16 = some (.bipush 14) := mt_cd_of (q := (16, .bipush 14, 2)) mq_179 ci_179 (List.mem_of_getElem? (i := 9) rfl)
theorem cd_179_18 : mt_cd 179 18 = some (.if_icmp .ne 89) := mt_cd_of (q := (18, .if_icmp .ne 89, 3)) mq_179 ci_179 (List.mem_of_getElem? (i := 10) rfl)
theorem cd_179_21 : mt_cd 179 21 = some (.iload_n 1) := mt_cd_of (q := (21, .iload_n 1, 1)) mq_179 ci_179 (List.mem_of_getElem? (i := 11) rfl)
theorem cd_179_22 : mt_cd 179 22 = some (.bipush 13) := mt_cd_of (q := (22, .bipush 13, 2)) mq_179 ci_179 (List.mem_of_getElem? (i := 12) rfl)
theorem cd_179_24 : mt_cd 179 24 = some (.if_icmp .ne 10) := mt_cd_of (q := (24, .if_icmp .ne 10, 3)) mq_179 ci_179 (List.mem_of_getElem? (i := 13) rfl)
theorem cd_179_27 : mt_cd 179 27 = some (.lload_n 2) := mt_cd_of (q := (27, .lload_n 2, 1)) mq_179 ci_179 (List.mem_of_getElem? (i := 14) rfl)
theorem cd_179_28 : mt_cd 179 28 = some (.lload 4) := mt_cd_of (q := (28, .lload 4, 2)) mq_179 ci_179 (List.mem_of_getElem? (i := 15) rfl)
theorem cd_179_30 : mt_cd 179 30 = some (.ladd) := mt_cd_of (q := (30, .ladd, 1)) mq_179 ci_179 (List.mem_of_getElem? (i := 16) rfl)
theorem cd_179_31 : mt_cd 179 31 = some (.goto 7) := mt_cd_of (q := (31, .goto 7, 3)) mq_179 ci_179 (List.mem_of_getElem? (i := 17) rfl)
theorem cd_179_34 : mt_cd 179 34 = some (.lload_n 2) := mt_cd_of (q := (34, .lload_n 2, 1)) mq_179 ci_179 (List.mem_of_getElem? (i := 18) rfl)
theorem cd_179_35 : mt_cd 179 35 = some (.lload 4) := mt_cd_of (q := (35, .lload 4, 2)) mq_179 ci_179 (List.mem_of_getElem? (i := 19) rfl)
theorem cd_179_37 : mt_cd 179 37 = some (.lsub) := mt_cd_of (q := (37, .lsub, 1)) mq_179 ci_179 (List.mem_of_getElem? (i := 20) rfl)
theorem cd_179_38 : mt_cd 179 38 = some (.lstore 6) := mt_cd_of (q := (38, .lstore 6, 2)) mq_179 ci_179 (List.mem_of_getElem? (i := 21) rfl)
theorem cd_179_40 : mt_cd 179 40 = some (.iload_n 1) := mt_cd_of (q := (40, .iload_n 1, 1)) mq_179 ci_179 (List.mem_of_getElem? (i := 22) rfl)
theorem cd_179_41 : mt_cd 179 41 = some (.bipush 13) := mt_cd_of (q := (41, .bipush 13, 2)) mq_179 ci_179 (List.mem_of_getElem? (i := 23) rfl)
theorem cd_179_43 : mt_cd 179 43 = some (.if_icmp .ne 26) := mt_cd_of (q := (43, .if_icmp .ne 26, 3)) mq_179 ci_179 (List.mem_of_getElem? (i := 24) rfl)
theorem cd_179_46 : mt_cd 179 46 = some (.lload_n 2) := mt_cd_of (q := (46, .lload_n 2, 1)) mq_179 ci_179 (List.mem_of_getElem? (i := 25) rfl)
theorem cd_179_47 : mt_cd 179 47 = some (.lload 6) := mt_cd_of (q := (47, .lload 6, 2)) mq_179 ci_179 (List.mem_of_getElem? (i := 26) rfl)
theorem cd_179_49 : mt_cd 179 49 = some (.lxor) := mt_cd_of (q := (49, .lxor, 1)) mq_179 ci_179 (List.mem_of_getElem? (i := 27) rfl)
theorem cd_179_50 : mt_cd 179 50 = some (.lload 4) := mt_cd_of (q := (50, .lload 4, 2)) mq_179 ci_179 (List.mem_of_getElem? (i := 28) rfl)
theorem cd_179_52 : mt_cd 179 52 = some (.lload 6) := mt_cd_of (q := (52, .lload 6, 2)) mq_179 ci_179 (List.mem_of_getElem? (i := 29) rfl)
theorem cd_179_54 : mt_cd 179 54 = some (.lxor) := mt_cd_of (q := (54, .lxor, 1)) mq_179 ci_179 (List.mem_of_getElem? (i := 30) rfl)
theorem cd_179_55 : mt_cd 179 55 = some (.land) := mt_cd_of (q := (55, .land, 1)) mq_179 ci_179 (List.mem_of_getElem? (i := 31) rfl)
theorem cd_179_56 : mt_cd 179 56 = some (.lconst 0) := mt_cd_of (q := (56, .lconst 0, 1)) mq_179 ci_179 (List.mem_of_getElem? (i := 32) rfl)
theorem cd_179_57 : mt_cd 179 57 = some (.lcmp) := mt_cd_of (q := (57, .lcmp, 1)) mq_179 ci_179 (List.mem_of_getElem? (i := 33) rfl)
theorem cd_179_58 : mt_cd 179 58 = some (.ifCond .ge 7) := mt_cd_of (q := (58, .ifCond .ge 7, 3)) mq_179 ci_179 (List.mem_of_getElem? (i := 34) rfl)
theorem cd_179_61 : mt_cd 179 61 = some (.iconst 1) := mt_cd_of (q := (61, .iconst 1, 1)) mq_179 ci_179 (List.mem_of_getElem? (i := 35) rfl)
theorem cd_179_62 : mt_cd 179 62 = some (.goto 26) := mt_cd_of (q := (62, .goto 26, 3)) mq_179 ci_179 (List.mem_of_getElem? (i := 36) rfl)
theorem cd_179_65 : mt_cd 179 65 = some (.iconst 0) := mt_cd_of (q := (65, .iconst 0, 1)) mq_179 ci_179 (List.mem_of_getElem? (i := 37) rfl)
theorem cd_179_66 : mt_cd 179 66 = some (.goto 22) := mt_cd_of (q := (66, .goto 22, 3)) mq_179 ci_179 (List.mem_of_getElem? (i := 38) rfl)
theorem cd_179_69 : mt_cd 179 69 = some (.lload_n 2) := mt_cd_of (q := (69, .lload_n 2, 1)) mq_179 ci_179 (List.mem_of_getElem? (i := 39) rfl)
theorem cd_179_70 : mt_cd 179 70 = some (.lload 4) := mt_cd_of (q := (70, .lload 4, 2)) mq_179 ci_179 (List.mem_of_getElem? (i := 40) rfl)
theorem cd_179_72 : mt_cd 179 72 = some (.lxor) := mt_cd_of (q := (72, .lxor, 1)) mq_179 ci_179 (List.mem_of_getElem? (i := 41) rfl)
theorem cd_179_73 : mt_cd 179 73 = some (.lload_n 2) := mt_cd_of (q := (73, .lload_n 2, 1)) mq_179 ci_179 (List.mem_of_getElem? (i := 42) rfl)
theorem cd_179_74 : mt_cd 179 74 = some (.lload 6) := mt_cd_of (q := (74, .lload 6, 2)) mq_179 ci_179 (List.mem_of_getElem? (i := 43) rfl)
theorem cd_179_76 : mt_cd 179 76 = some (.lxor) := mt_cd_of (q := (76, .lxor, 1)) mq_179 ci_179 (List.mem_of_getElem? (i := 44) rfl)
theorem cd_179_77 : mt_cd 179 77 = some (.land) := mt_cd_of (q := (77, .land, 1)) mq_179 ci_179 (List.mem_of_getElem? (i := 45) rfl)
theorem cd_179_78 : mt_cd 179 78 = some (.lconst 0) := mt_cd_of (q := (78, .lconst 0, 1)) mq_179 ci_179 (List.mem_of_getElem? (i := 46) rfl)
theorem cd_179_79 : mt_cd 179 79 = some (.lcmp) := mt_cd_of (q := (79, .lcmp, 1)) mq_179 ci_179 (List.mem_of_getElem? (i := 47) rfl)
theorem cd_179_80 : mt_cd 179 80 = some (.ifCond .ge 7) := mt_cd_of (q := (80, .ifCond .ge 7, 3)) mq_179 ci_179 (List.mem_of_getElem? (i := 48) rfl)
theorem cd_179_83 : mt_cd 179 83 = some (.iconst 1) := mt_cd_of (q := (83, .iconst 1, 1)) mq_179 ci_179 (List.mem_of_getElem? (i := 49) rfl)
theorem cd_179_84 : mt_cd 179 84 = some (.goto 4) := mt_cd_of (q := (84, .goto 4, 3)) mq_179 ci_179 (List.mem_of_getElem? (i := 50) rfl)
theorem cd_179_87 : mt_cd 179 87 = some (.iconst 0) := mt_cd_of (q := (87, .iconst 0, 1)) mq_179 ci_179 (List.mem_of_getElem? (i := 51) rfl)
theorem cd_179_88 : mt_cd 179 88 = some (.istore 8) := mt_cd_of (q := (88, .istore 8, 2)) mq_179 ci_179 (List.mem_of_getElem? (i := 52) rfl)
theorem cd_179_90 : mt_cd 179 90 = some (.iload 8) := mt_cd_of (q := (90, .iload 8, 2)) mq_179 ci_179 (List.mem_of_getElem? (i := 53) rfl)
theorem cd_179_92 : mt_cd 179 92 = some (.ifCond .eq 8) := mt_cd_of (q := (92, .ifCond .eq 8, 3)) mq_179 ci_179 (List.mem_of_getElem? (i := 54) rfl)
theorem cd_179_95 : mt_cd 179 95 = some (.aload_n 0) := mt_cd_of (q := (95, .aload_n 0, 1)) mq_179 ci_179 (List.mem_of_getElem? (i := 55) rfl)
theorem cd_179_96 : mt_cd 179 96 = some (.iconst 1) := mt_cd_of (q := (96, .iconst 1, 1)) mq_179 ci_179 (List.mem_of_getElem? (i := 56) rfl)
theorem cd_179_97 : mt_cd 179 97 = some (.putfield 441) := mt_cd_of (q := (97, .putfield 441, 3)) mq_179 ci_179 (List.mem_of_getElem? (i := 57) rfl)
theorem cd_179_100 : mt_cd 179 100 = some (.aload_n 0) := mt_cd_of (q := (100, .aload_n 0, 1)) mq_179 ci_179 (List.mem_of_getElem? (i := 58) rfl)
theorem cd_179_101 : mt_cd 179 101 = some (.lload 6) := mt_cd_of (q := (101, .lload 6, 2)) mq_179 ci_179 (List.mem_of_getElem? (i := 59) rfl)
theorem cd_179_103 : mt_cd 179 103 = some (.invokevirtual 455) := mt_cd_of (q := (103, .invokevirtual 455, 3)) mq_179 ci_179 (List.mem_of_getElem? (i := 60) rfl)
theorem cd_179_106 : mt_cd 179 106 = some (.lreturn) := mt_cd_of (q := (106, .lreturn, 1)) mq_179 ci_179 (List.mem_of_getElem? (i := 61) rfl)
theorem cd_179_107 : mt_cd 179 107 = some (.iload_n 1) := mt_cd_of (q := (107, .iload_n 1, 1)) mq_179 ci_179 (List.mem_of_getElem? (i := 62) rfl)
theorem cd_179_108 : mt_cd 179 108 = some (.bipush 16) := mt_cd_of (q := (108, .bipush 16, 2)) mq_179 ci_179 (List.mem_of_getElem? (i := 63) rfl)
theorem cd_179_110 : mt_cd 179 110 = some (.if_icmp .ne 23) := mt_cd_of (q := (110, .if_icmp .ne 23, 3)) mq_179 ci_179 (List.mem_of_getElem? (i := 64) rfl)
theorem cd_179_113 : mt_cd 179 113 = some (.lload 4) := mt_cd_of (q := (113, .lload 4, 2)) mq_179 ci_179 (List.mem_of_getElem? (i := 65) rfl)
theorem cd_179_115 : mt_cd 179 115 = some (.lconst 0) := mt_cd_of (q := (115, .lconst 0, 1)) mq_179 ci_179 (List.mem_of_getElem? (i := 66) rfl)
theorem cd_179_116 : mt_cd 179 116 = some (.lcmp) := mt_cd_of (q := (116, .lcmp, 1)) mq_179 ci_179 (List.mem_of_getElem? (i := 67) rfl)
theorem cd_179_117 : mt_cd 179 117 = some (.ifCond .ne 7) := mt_cd_of (q := (117, .ifCond .ne 7, 3)) mq_179 ci_179 (List.mem_of_getElem? (i := 68) rfl)
theorem cd_179_120 : mt_cd 179 120 = some (.lconst 0) := mt_cd_of (q := (120, .lconst 0, 1)) mq_179 ci_179 (List.mem_of_getElem? (i := 69) rfl)
theorem cd_179_121 : mt_cd 179 121 = some (.goto 11) := mt_cd_of (q := (121, .goto 11, 3)) mq_179 ci_179 (List.mem_of_getElem? (i := 70) rfl)
theorem cd_179_124 : mt_cd 179 124 = some (.aload_n 0) := mt_cd_of (q := (124, .aload_n 0, 1)) mq_179 ci_179 (List.mem_of_getElem? (i := 71) rfl)
theorem cd_179_125 : mt_cd 179 125 = some (.lload_n 2) := mt_cd_of (q := (125, .lload_n 2, 1)) mq_179 ci_179 (List.mem_of_getElem? (i := 72) rfl)
theorem cd_179_126 : mt_cd 179 126 = some (.lload 4) := mt_cd_of (q := (126, .lload 4, 2)) mq_179 ci_179 (List.mem_of_getElem? (i := 73) rfl)
theorem cd_179_128 : mt_cd 179 128 = some (.ldiv) := mt_cd_of (q := (128, .ldiv, 1)) mq_179 ci_179 (List.mem_of_getElem? (i := 74) rfl)
theorem cd_179_129 : mt_cd 179 129 = some (.invokevirtual 455) := mt_cd_of (q := (129, .invokevirtual 455, 3)) mq_179 ci_179 (List.mem_of_getElem? (i := 75) rfl)
theorem cd_179_132 : mt_cd 179 132 = some (.lreturn) := mt_cd_of (q := (132, .lreturn, 1)) mq_179 ci_179 (List.mem_of_getElem? (i := 76) rfl)
theorem cd_179_133 : mt_cd 179 133 = some (.lload_n 2) := mt_cd_of (q := (133, .lload_n 2, 1)) mq_179 ci_179 (List.mem_of_getElem? (i := 77) rfl)
theorem cd_179_134 : mt_cd 179 134 = some (.lload 4) := mt_cd_of (q := (134, .lload 4, 2)) mq_179 ci_179 (List.mem_of_getElem? (i := 78) rfl)
theorem cd_179_136 : mt_cd 179 136 = some (.lmul) := mt_cd_of (q := (136, .lmul, 1)) mq_179 ci_179 (List.mem_of_getElem? (i := 79) rfl)
theorem cd_179_137 : mt_cd 179 137 = some (.lstore 6) := mt_cd_of (q := (137, .lstore 6, 2)) mq_179 ci_179 (List.mem_of_getElem? (i := 80) rfl)
theorem cd_179_139 : mt_cd 179 139 = some (.lload_n 2) := mt_cd_of (q := (139, .lload_n 2, 1)) mq_179 ci_179 (List.mem_of_getElem? (i := 81) rfl)
theorem cd_179_140 : mt_cd 179 140 = some (.lload 4) := mt_cd_of (q := (140, .lload 4, 2)) mq_179 ci_179 (List.mem_of_getElem? (i := 82) rfl)
theorem cd_179_142 : mt_cd 179 142 = some (.invokestatic 484) := mt_cd_of (q := (142, .invokestatic 484, 3)) mq_179 ci_179 (List.mem_of_getElem? (i := 83) rfl)
theorem cd_179_145 : mt_cd 179 145 = some (.lload 6) := mt_cd_of (q := (145, .lload 6, 2)) mq_179 ci_179 (List.mem_of_getElem? (i := 84) rfl)
theorem cd_179_147 : mt_cd 179 147 = some (.bipush 63) := mt_cd_of (q := (147, .bipush 63, 2)) mq_179 ci_179 (List.mem_of_getElem? (i := 85) rfl)
theorem cd_179_149 : mt_cd 179 149 = some (.lshr) := mt_cd_of (q := (149, .lshr, 1)) mq_179 ci_179 (List.mem_of_getElem? (i := 86) rfl)
theorem cd_179_150 : mt_cd 179 150 = some (.lcmp) := mt_cd_of (q := (150, .lcmp, 1)) mq_179 ci_179 (List.mem_of_getElem? (i := 87) rfl)
theorem cd_179_151 : mt_cd 179 151 = some (.ifCond .eq 8) := mt_cd_of (q := (151, .ifCond .eq 8, 3)) mq_179 ci_179 (List.mem_of_getElem? (i := 88) rfl)
theorem cd_179_154 : mt_cd 179 154 = some (.aload_n 0) := mt_cd_of (q := (154, .aload_n 0, 1)) mq_179 ci_179 (List.mem_of_getElem? (i := 89) rfl)
theorem cd_179_155 : mt_cd 179 155 = some (.iconst 1) := mt_cd_of (q := (155, .iconst 1, 1)) mq_179 ci_179 (List.mem_of_getElem? (i := 90) rfl)
theorem cd_179_156 : mt_cd 179 156 = some (.putfield 441) := mt_cd_of (q := (156, .putfield 441, 3)) mq_179 ci_179 (List.mem_of_getElem? (i := 91) rfl)
theorem cd_179_159 : mt_cd 179 159 = some (.aload_n 0) := mt_cd_of (q := (159, .aload_n 0, 1)) mq_179 ci_179 (List.mem_of_getElem? (i := 92) rfl)
theorem cd_179_160 : mt_cd 179 160 = some (.lload 6) := mt_cd_of (q := (160, .lload 6, 2)) mq_179 ci_179 (List.mem_of_getElem? (i := 93) rfl)
theorem cd_179_162 : mt_cd 179 162 = some (.invokevirtual 455) := mt_cd_of (q := (162, .invokevirtual 455, 3)) mq_179 ci_179 (List.mem_of_getElem? (i := 94) rfl)
theorem cd_179_165 : mt_cd 179 165 = some (.lreturn) := mt_cd_of (q := (165, .lreturn, 1)) mq_179 ci_179 (List.mem_of_getElem? (i := 95) rfl)
theorem b_179_0 {d : Nat} {Q : (Option Value ⊕ Nat) → mi_H → Prop} (n sl : Nat) (f : Nat → mi_C) {l1 : Nat} {l2 : Int32} {l3 : Int64} {l4 : Int64} {o5 : Option Value} {o6 : Option Value} {o7 : Option Value} {fs8 : List Value} {x11 : Int32} (h9 : f l1 = .inr (12, fs8)) (h10 : l1 < n) (h12 : fs8[46]? = some (.int x11)) (h13 : x11 = (0 : Int32) → mi_W d 179 9 [some (.ref l1), some (.int l2), some (.long l3), none, some (.long l4), none, o5, o6, o7] [] (n, sl, f) Q) (h14 : ¬ (x11 = (0 : Int32)) → mi_W d 179 7 [some (.ref l1), some (.int l2), some (.long l3), none, some (.long l4), none, o5, o6, o7] [] (n, sl, f) Q) : mi_W d 179 0 [some (.ref l1), some (.int l2), some (.long l3), none, some (.long l4), none, o5, o6, o7] [] (n, sl, f) Q := by
  refine w_aload_n cd_179_0 rfl ?_
  refine w_getfield cd_179_1 (show mt_f 12 441 = some (12, 46) by decide +kernel) h9 h10 h12 ?_
  exact w_ifeq cd_179_4 (by decide) h13 h14
theorem b_179_7 {d : Nat} {Q : (Option Value ⊕ Nat) → mi_H → Prop} (n sl : Nat) (f : Nat → mi_C) {l1 : Nat} {l2 : Int32} {l3 : Int64} {l4 : Int64} {o5 : Option Value} {o6 : Option Value} {o7 : Option Value} (h8 : Q (.inl (some (.long 0))) (n, sl, f)) : mi_W d 179 7 [some (.ref l1), some (.int l2), some (.long l3), none, some (.long l4), none, o5, o6, o7] [] (n, sl, f) Q := by
  refine w_lconst (lv := 0) cd_179_7 (by decide) ?_
  exact w_lreturn cd_179_8 (by decide +kernel) h8
theorem b_179_9 {d : Nat} {Q : (Option Value ⊕ Nat) → mi_H → Prop} (n sl : Nat) (f : Nat → mi_C) {l1 : Nat} {l2 : Int32} {l3 : Int64} {l4 : Int64} {o5 : Option Value} {o6 : Option Value} {o7 : Option Value} (h8 : l2 = 13 → mi_W d 179 21 [some (.ref l1), some (.int l2), some (.long l3), none, some (.long l4), none, o5, o6, o7] [] (n, sl, f) Q) (h9 : ¬ (l2 = 13) → mi_W d 179 15 [some (.ref l1), some (.int l2), some (.long l3), none, some (.long l4), none, o5, o6, o7] [] (n, sl, f) Q) : mi_W d 179 9 [some (.ref l1), some (.int l2), some (.long l3), none, some (.long l4), none, o5, o6, o7] [] (n, sl, f) Q := by
  refine w_iload_n cd_179_9 rfl ?_
  refine w_bipush (v := 13) cd_179_10 (by decide) ?_
  exact w_if_icmpeq cd_179_12 (by decide) h8 h9
theorem b_179_15 {d : Nat} {Q : (Option Value ⊕ Nat) → mi_H → Prop} (n sl : Nat) (f : Nat → mi_C) {l1 : Nat} {l2 : Int32} {l3 : Int64} {l4 : Int64} {o5 : Option Value} {o6 : Option Value} {o7 : Option Value} (h8 : ¬ l2 = 14 → mi_W d 179 107 [some (.ref l1), some (.int l2), some (.long l3), none, some (.long l4), none, o5, o6, o7] [] (n, sl, f) Q) (h9 : ¬ (¬ l2 = 14) → mi_W d 179 21 [some (.ref l1), some (.int l2), some (.long l3), none, some (.long l4), none, o5, o6, o7] [] (n, sl, f) Q) : mi_W d 179 15 [some (.ref l1), some (.int l2), some (.long l3), none, some (.long l4), none, o5, o6, o7] [] (n, sl, f) Q := by
  refine w_iload_n cd_179_15 rfl ?_
  refine w_bipush (v := 14) cd_179_16 (by decide) ?_
  exact w_if_icmpne cd_179_18 (by decide) h8 h9
theorem b_179_21 {d : Nat} {Q : (Option Value ⊕ Nat) → mi_H → Prop} (n sl : Nat) (f : Nat → mi_C) {l1 : Nat} {l2 : Int32} {l3 : Int64} {l4 : Int64} {o5 : Option Value} {o6 : Option Value} {o7 : Option Value} (h8 : ¬ l2 = 13 → mi_W d 179 34 [some (.ref l1), some (.int l2), some (.long l3), none, some (.long l4), none, o5, o6, o7] [] (n, sl, f) Q) (h9 : ¬ (¬ l2 = 13) → mi_W d 179 27 [some (.ref l1), some (.int l2), some (.long l3), none, some (.long l4), none, o5, o6, o7] [] (n, sl, f) Q) : mi_W d 179 21 [some (.ref l1), some (.int l2), some (.long l3), none, some (.long l4), none, o5, o6, o7] [] (n, sl, f) Q := by
  refine w_iload_n cd_179_21 rfl ?_
  refine w_bipush (v := 13) cd_179_22 (by decide) ?_
  exact w_if_icmpne cd_179_24 (by decide) h8 h9
theorem b_179_27 {d : Nat} {Q : (Option Value ⊕ Nat) → mi_H → Prop} (n sl : Nat) (f : Nat → mi_C) {l1 : Nat} {l2 : Int32} {l3 : Int64} {l4 : Int64} {o5 : Option Value} {o6 : Option Value} {o7 : Option Value} (h8 : mi_W d 179 38 [some (.ref l1), some (.int l2), some (.long l3), none, some (.long l4), none, o5, o6, o7] [.long (l3 + l4)] (n, sl, f) Q) : mi_W d 179 27 [some (.ref l1), some (.int l2), some (.long l3), none, some (.long l4), none, o5, o6, o7] [] (n, sl, f) Q := by
  refine w_lload_n cd_179_27 rfl ?_
  refine w_lload cd_179_28 rfl ?_
  refine w_ladd cd_179_30 ?_
  exact w_goto cd_179_31 (by decide) h8
theorem b_179_34 {d : Nat} {Q : (Option Value ⊕ Nat) → mi_H → Prop} (n sl : Nat) (f : Nat → mi_C) {l1 : Nat} {l2 : Int32} {l3 : Int64} {l4 : Int64} {o5 : Option Value} {o6 : Option Value} {o7 : Option Value} (h8 : mi_W d 179 38 [some (.ref l1), some (.int l2), some (.long l3), none, some (.long l4), none, o5, o6, o7] [.long (l3 - l4)] (n, sl, f) Q) : mi_W d 179 34 [some (.ref l1), some (.int l2), some (.long l3), none, some (.long l4), none, o5, o6, o7] [] (n, sl, f) Q := by
  refine w_lload_n cd_179_34 rfl ?_
  refine w_lload cd_179_35 rfl ?_
  refine w_lsub cd_179_37 ?_
  exact h8
theorem b_179_38 {d : Nat} {Q : (Option Value ⊕ Nat) → mi_H → Prop} (n sl : Nat) (f : Nat → mi_C) {l1 : Nat} {l2 : Int32} {l3 : Int64} {l4 : Int64} {o5 : Option Value} {o6 : Option Value} {o7 : Option Value} {s8 : Int64} (h9 : ¬ l2 = 13 → mi_W d 179 69 [some (.ref l1), some (.int l2), some (.long l3), none, some (.long l4), none, some (.long s8), none, o7] [] (n, sl, f) Q) (h10 : ¬ (¬ l2 = 13) → mi_W d 179 46 [some (.ref l1), some (.int l2), some (.long l3), none, some (.long l4), none, some (.long s8), none, o7] [] (n, sl, f) Q) : mi_W d 179 38 [some (.ref l1), some (.int l2), some (.long l3), none, some (.long l4), none, o5, o6, o7] [.long s8] (n, sl, f) Q := by
  refine w_lstore (ls' := [some (.ref l1), some (.int l2), some (.long l3), none, some (.long l4), none, some (.long s8), none, o7]) cd_179_38 (Nat.le_of_ble_eq_true rfl) rfl ?_
  refine w_iload_n cd_179_40 rfl ?_
  refine w_bipush (v := 13) cd_179_41 (by decide) ?_
  exact w_if_icmpne cd_179_43 (by decide) h9 h10
theorem b_179_46 {d : Nat} {Q : (Option Value ⊕ Nat) → mi_H → Prop} (n sl : Nat) (f : Nat → mi_C) {l1 : Nat} {l2 : Int32} {l3 : Int64} {l4 : Int64} {l5 : Int64} {o6 : Option Value} (h7 : (0 : Int32) ≤ (lg_cmp ((l3 ^^^ l5) &&& (l4 ^^^ l5)) 0) → mi_W d 179 65 [some (.ref l1), some (.int l2), some (.long l3), none, some (.long l4), none, some (.long l5), none, o6] [] (n, sl, f) Q) (h8 : ¬ ((0 : Int32) ≤ (lg_cmp ((l3 ^^^ l5) &&& (l4 ^^^ l5)) 0)) → mi_W d 179 61 [some (.ref l1), some (.int l2), some (.long l3), none, some (.long l4), none, some (.long l5), none, o6] [] (n, sl, f) Q) : mi_W d 179 46 [some (.ref l1), some (.int l2), some (.long l3), none, some (.long l4), none, some (.long l5), none, o6] [] (n, sl, f) Q := by
  refine w_lload_n cd_179_46 rfl ?_
  refine w_lload cd_179_47 rfl ?_
  refine w_lxor cd_179_49 ?_
  refine w_lload cd_179_50 rfl ?_
  refine w_lload cd_179_52 rfl ?_
  refine w_lxor cd_179_54 ?_
  refine w_land cd_179_55 ?_
  refine w_lconst (lv := 0) cd_179_56 (by decide) ?_
  refine w_lcmp cd_179_57 ?_
  exact w_ifge cd_179_58 (by decide) h7 h8
theorem b_179_61 {d : Nat} {Q : (Option Value ⊕ Nat) → mi_H → Prop} (n sl : Nat) (f : Nat → mi_C) {l1 : Nat} {l2 : Int32} {l3 : Int64} {l4 : Int64} {l5 : Int64} {o6 : Option Value} (h7 : mi_W d 179 88 [some (.ref l1), some (.int l2), some (.long l3), none, some (.long l4), none, some (.long l5), none, o6] [.int 1] (n, sl, f) Q) : mi_W d 179 61 [some (.ref l1), some (.int l2), some (.long l3), none, some (.long l4), none, some (.long l5), none, o6] [] (n, sl, f) Q := by
  refine w_iconst (v := 1) cd_179_61 (by decide) ?_
  exact w_goto cd_179_62 (by decide) h7
theorem b_179_65 {d : Nat} {Q : (Option Value ⊕ Nat) → mi_H → Prop} (n sl : Nat) (f : Nat → mi_C) {l1 : Nat} {l2 : Int32} {l3 : Int64} {l4 : Int64} {l5 : Int64} {o6 : Option Value} (h7 : mi_W d 179 88 [some (.ref l1), some (.int l2), some (.long l3), none, some (.long l4), none, some (.long l5), none, o6] [.int 0] (n, sl, f) Q) : mi_W d 179 65 [some (.ref l1), some (.int l2), some (.long l3), none, some (.long l4), none, some (.long l5), none, o6] [] (n, sl, f) Q := by
  refine w_iconst (v := 0) cd_179_65 (by decide) ?_
  exact w_goto cd_179_66 (by decide) h7
theorem b_179_69 {d : Nat} {Q : (Option Value ⊕ Nat) → mi_H → Prop} (n sl : Nat) (f : Nat → mi_C) {l1 : Nat} {l2 : Int32} {l3 : Int64} {l4 : Int64} {l5 : Int64} {o6 : Option Value} (h7 : (0 : Int32) ≤ (lg_cmp ((l3 ^^^ l4) &&& (l3 ^^^ l5)) 0) → mi_W d 179 87 [some (.ref l1), some (.int l2), some (.long l3), none, some (.long l4), none, some (.long l5), none, o6] [] (n, sl, f) Q) (h8 : ¬ ((0 : Int32) ≤ (lg_cmp ((l3 ^^^ l4) &&& (l3 ^^^ l5)) 0)) → mi_W d 179 83 [some (.ref l1), some (.int l2), some (.long l3), none, some (.long l4), none, some (.long l5), none, o6] [] (n, sl, f) Q) : mi_W d 179 69 [some (.ref l1), some (.int l2), some (.long l3), none, some (.long l4), none, some (.long l5), none, o6] [] (n, sl, f) Q := by
  refine w_lload_n cd_179_69 rfl ?_
  refine w_lload cd_179_70 rfl ?_
  refine w_lxor cd_179_72 ?_
  refine w_lload_n cd_179_73 rfl ?_
  refine w_lload cd_179_74 rfl ?_
  refine w_lxor cd_179_76 ?_
  refine w_land cd_179_77 ?_
  refine w_lconst (lv := 0) cd_179_78 (by decide) ?_
  refine w_lcmp cd_179_79 ?_
  exact w_ifge cd_179_80 (by decide) h7 h8
theorem b_179_83 {d : Nat} {Q : (Option Value ⊕ Nat) → mi_H → Prop} (n sl : Nat) (f : Nat → mi_C) {l1 : Nat} {l2 : Int32} {l3 : Int64} {l4 : Int64} {l5 : Int64} {o6 : Option Value} (h7 : mi_W d 179 88 [some (.ref l1), some (.int l2), some (.long l3), none, some (.long l4), none, some (.long l5), none, o6] [.int 1] (n, sl, f) Q) : mi_W d 179 83 [some (.ref l1), some (.int l2), some (.long l3), none, some (.long l4), none, some (.long l5), none, o6] [] (n, sl, f) Q := by
  refine w_iconst (v := 1) cd_179_83 (by decide) ?_
  exact w_goto cd_179_84 (by decide) h7
theorem b_179_87 {d : Nat} {Q : (Option Value ⊕ Nat) → mi_H → Prop} (n sl : Nat) (f : Nat → mi_C) {l1 : Nat} {l2 : Int32} {l3 : Int64} {l4 : Int64} {l5 : Int64} {o6 : Option Value} (h7 : mi_W d 179 88 [some (.ref l1), some (.int l2), some (.long l3), none, some (.long l4), none, some (.long l5), none, o6] [.int 0] (n, sl, f) Q) : mi_W d 179 87 [some (.ref l1), some (.int l2), some (.long l3), none, some (.long l4), none, some (.long l5), none, o6] [] (n, sl, f) Q := by
  refine w_iconst (v := 0) cd_179_87 (by decide) ?_
  exact h7
theorem b_179_88 {d : Nat} {Q : (Option Value ⊕ Nat) → mi_H → Prop} (n sl : Nat) (f : Nat → mi_C) {l1 : Nat} {l2 : Int32} {l3 : Int64} {l4 : Int64} {l5 : Int64} {o6 : Option Value} {s7 : Int32} (h8 : s7 = (0 : Int32) → mi_W d 179 100 [some (.ref l1), some (.int l2), some (.long l3), none, some (.long l4), none, some (.long l5), none, some (.int s7)] [] (n, sl, f) Q) (h9 : ¬ (s7 = (0 : Int32)) → mi_W d 179 95 [some (.ref l1), some (.int l2), some (.long l3), none, some (.long l4), none, some (.long l5), none, some (.int s7)] [] (n, sl, f) Q) : mi_W d 179 88 [some (.ref l1), some (.int l2), some (.long l3), none, some (.long l4), none, some (.long l5), none, o6] [.int s7] (n, sl, f) Q := by
  refine w_istore (ls' := [some (.ref l1), some (.int l2), some (.long l3), none, some (.long l4), none, some (.long l5), none, some (.int s7)]) cd_179_88 (Nat.le_of_ble_eq_true rfl) rfl ?_
  refine w_iload cd_179_90 rfl ?_
  exact w_ifeq cd_179_92 (by decide) h8 h9
theorem b_179_95 {d : Nat} {Q : (Option Value ⊕ Nat) → mi_H → Prop} (n sl : Nat) (f : Nat → mi_C) {l1 : Nat} {l2 : Int32} {l3 : Int64} {l4 : Int64} {l5 : Int64} {l6 : Int32} {fs7 : List Value} (h8 : f l1 = .inr (12, fs7)) (h9 : l1 < n) (h10 : 46 < fs7.length) (h11 : mi_fk .boolean (.int 1) = true) (h12 : mi_W d 179 100 [some (.ref l1), some (.int l2), some (.long l3), none, some (.long l4), none, some (.long l5), none, some (.int l6)] [] (n, sl, (va_up f l1 (.inr (12, fs7.set 46 (.int 1))))) Q) : mi_W d 179 95 [some (.ref l1), some (.int l2), some (.long l3), none, some (.long l4), none, some (.long l5), none, some (.int l6)] [] (n, sl, f) Q := by
  refine w_aload_n cd_179_95 rfl ?_
  refine w_iconst (v := 1) cd_179_96 (by decide) ?_
  refine w_putfield (w := .int 1) cd_179_97 (show mt_f 12 441 = some (12, 46) by decide +kernel) h8 h9 ⟨h10, h11, Or.inl (by decide)⟩ ?_
  exact h12
theorem b_179_100 {d : Nat} {Q : (Option Value ⊕ Nat) → mi_H → Prop} (n sl : Nat) (f : Nat → mi_C) {l1 : Nat} {l2 : Int32} {l3 : Int64} {l4 : Int64} {l5 : Int64} {l6 : Int32} {fs7 : List Value} (h8 : f l1 = .inr (12, fs7)) (h9 : l1 < n) (h10 : mi_W d 177 0 (mi_en 3 [.ref l1, .long l5]) [] (n, sl, f) (mi_Kc d 179 103 [some (.ref l1), some (.int l2), some (.long l3), none, some (.long l4), none, some (.long l5), none, some (.int l6)] [] Q)) : mi_W (d + 1) 179 100 [some (.ref l1), some (.int l2), some (.long l3), none, some (.long l4), none, some (.long l5), none, some (.int l6)] [] (n, sl, f) Q := by
  refine w_aload_n cd_179_100 rfl ?_
  refine w_lload cd_179_101 rfl ?_
  exact w_invokevirtual cd_179_103 (show mt_m 12 455 = some (177, 0) by decide +kernel) (rest := []) rfl (as := [.ref l1, .long l5]) rfl h8 (Or.inl h9) ⟨Nat.le_of_ble_eq_true rfl, Nat.le_of_ble_eq_true rfl, Nat.le_of_ble_eq_true rfl⟩ h10
theorem b_179_106 {d : Nat} {Q : (Option Value ⊕ Nat) → mi_H → Prop} (n sl : Nat) (f : Nat → mi_C) {l1 : Nat} {l2 : Int32} {l3 : Int64} {l4 : Int64} {l5 : Int64} {l6 : Int32} {s7 : Int64} (h8 : Q (.inl (some (.long s7))) (n, sl, f)) : mi_W d 179 106 [some (.ref l1), some (.int l2), some (.long l3), none, some (.long l4), none, some (.long l5), none, some (.int l6)] [.long s7] (n, sl, f) Q := by
  exact w_lreturn cd_179_106 (by decide +kernel) h8
theorem b_179_107 {d : Nat} {Q : (Option Value ⊕ Nat) → mi_H → Prop} (n sl : Nat) (f : Nat → mi_C) {l1 : Nat} {l2 : Int32} {l3 : Int64} {l4 : Int64} {o5 : Option Value} {o6 : Option Value} {o7 : Option Value} (h8 : ¬ l2 = 16 → mi_W d 179 133 [some (.ref l1), some (.int l2), some (.long l3), none, some (.long l4), none, o5, o6, o7] [] (n, sl, f) Q) (h9 : ¬ (¬ l2 = 16) → mi_W d 179 113 [some (.ref l1), some (.int l2), some (.long l3), none, some (.long l4), none, o5, o6, o7] [] (n, sl, f) Q) : mi_W d 179 107 [some (.ref l1), some (.int l2), some (.long l3), none, some (.long l4), none, o5, o6, o7] [] (n, sl, f) Q := by
  refine w_iload_n cd_179_107 rfl ?_
  refine w_bipush (v := 16) cd_179_108 (by decide) ?_
  exact w_if_icmpne cd_179_110 (by decide) h8 h9
theorem b_179_113 {d : Nat} {Q : (Option Value ⊕ Nat) → mi_H → Prop} (n sl : Nat) (f : Nat → mi_C) {l1 : Nat} {l2 : Int32} {l3 : Int64} {l4 : Int64} {o5 : Option Value} {o6 : Option Value} {o7 : Option Value} (h8 : ¬ (lg_cmp l4 0) = (0 : Int32) → mi_W d 179 124 [some (.ref l1), some (.int l2), some (.long l3), none, some (.long l4), none, o5, o6, o7] [] (n, sl, f) Q) (h9 : ¬ (¬ (lg_cmp l4 0) = (0 : Int32)) → mi_W d 179 120 [some (.ref l1), some (.int l2), some (.long l3), none, some (.long l4), none, o5, o6, o7] [] (n, sl, f) Q) : mi_W d 179 113 [some (.ref l1), some (.int l2), some (.long l3), none, some (.long l4), none, o5, o6, o7] [] (n, sl, f) Q := by
  refine w_lload cd_179_113 rfl ?_
  refine w_lconst (lv := 0) cd_179_115 (by decide) ?_
  refine w_lcmp cd_179_116 ?_
  exact w_ifne cd_179_117 (by decide) h8 h9
theorem b_179_120 {d : Nat} {Q : (Option Value ⊕ Nat) → mi_H → Prop} (n sl : Nat) (f : Nat → mi_C) {l1 : Nat} {l2 : Int32} {l3 : Int64} {l4 : Int64} {o5 : Option Value} {o6 : Option Value} {o7 : Option Value} (h8 : mi_W d 179 132 [some (.ref l1), some (.int l2), some (.long l3), none, some (.long l4), none, o5, o6, o7] [.long 0] (n, sl, f) Q) : mi_W d 179 120 [some (.ref l1), some (.int l2), some (.long l3), none, some (.long l4), none, o5, o6, o7] [] (n, sl, f) Q := by
  refine w_lconst (lv := 0) cd_179_120 (by decide) ?_
  exact w_goto cd_179_121 (by decide) h8
theorem b_179_124 {d : Nat} {Q : (Option Value ⊕ Nat) → mi_H → Prop} (n sl : Nat) (f : Nat → mi_C) {l1 : Nat} {l2 : Int32} {l3 : Int64} {l4 : Int64} {o5 : Option Value} {o6 : Option Value} {o7 : Option Value} {fs9 : List Value} (h8 : ¬ l4 = (0 : Int64)) (h10 : f l1 = .inr (12, fs9)) (h11 : l1 < n) (h12 : mi_W d 177 0 (mi_en 3 [.ref l1, .long (l3 / l4)]) [] (n, sl, f) (mi_Kc d 179 129 [some (.ref l1), some (.int l2), some (.long l3), none, some (.long l4), none, o5, o6, o7] [] Q)) : mi_W (d + 1) 179 124 [some (.ref l1), some (.int l2), some (.long l3), none, some (.long l4), none, o5, o6, o7] [] (n, sl, f) Q := by
  refine w_aload_n cd_179_124 rfl ?_
  refine w_lload_n cd_179_125 rfl ?_
  refine w_lload cd_179_126 rfl ?_
  refine w_ldiv cd_179_128 h8 ?_
  exact w_invokevirtual cd_179_129 (show mt_m 12 455 = some (177, 0) by decide +kernel) (rest := []) rfl (as := [.ref l1, .long (l3 / l4)]) rfl h10 (Or.inl h11) ⟨Nat.le_of_ble_eq_true rfl, Nat.le_of_ble_eq_true rfl, Nat.le_of_ble_eq_true rfl⟩ h12
theorem b_179_132 {d : Nat} {Q : (Option Value ⊕ Nat) → mi_H → Prop} (n sl : Nat) (f : Nat → mi_C) {l1 : Nat} {l2 : Int32} {l3 : Int64} {l4 : Int64} {o5 : Option Value} {o6 : Option Value} {o7 : Option Value} {s8 : Int64} (h9 : Q (.inl (some (.long s8))) (n, sl, f)) : mi_W d 179 132 [some (.ref l1), some (.int l2), some (.long l3), none, some (.long l4), none, o5, o6, o7] [.long s8] (n, sl, f) Q := by
  exact w_lreturn cd_179_132 (by decide +kernel) h9
theorem b_179_133 {d : Nat} {Q : (Option Value ⊕ Nat) → mi_H → Prop} (n sl : Nat) (f : Nat → mi_C) {l1 : Nat} {l2 : Int32} {l3 : Int64} {l4 : Int64} {o5 : Option Value} {o6 : Option Value} {o7 : Option Value} (h8 : mi_W d 180 0 (mi_en 20 [.long l3, .long l4]) [] (n, sl, f) (mi_Kc d 179 142 [some (.ref l1), some (.int l2), some (.long l3), none, some (.long l4), none, some (.long (l3 * l4)), none, o7] [] Q)) : mi_W (d + 1) 179 133 [some (.ref l1), some (.int l2), some (.long l3), none, some (.long l4), none, o5, o6, o7] [] (n, sl, f) Q := by
  refine w_lload_n cd_179_133 rfl ?_
  refine w_lload cd_179_134 rfl ?_
  refine w_lmul cd_179_136 ?_
  refine w_lstore (ls' := [some (.ref l1), some (.int l2), some (.long l3), none, some (.long l4), none, some (.long (l3 * l4)), none, o7]) cd_179_137 (Nat.le_of_ble_eq_true rfl) rfl ?_
  refine w_lload_n cd_179_139 rfl ?_
  refine w_lload cd_179_140 rfl ?_
  exact w_invokestatic cd_179_142 (show mt_m 12 484 = some (180, 4) by decide +kernel) (by decide) (rest := []) rfl (as := [.long l3, .long l4]) rfl ⟨Nat.le_of_ble_eq_true rfl, Nat.le_of_ble_eq_true rfl, Nat.le_of_ble_eq_true rfl⟩ h8
theorem b_179_145 {d : Nat} {Q : (Option Value ⊕ Nat) → mi_H → Prop} (n sl : Nat) (f : Nat → mi_C) {l1 : Nat} {l2 : Int32} {l3 : Int64} {l4 : Int64} {l5 : Int64} {o6 : Option Value} {s7 : Int64} (h8 : (lg_cmp s7 (l5 >>> ((63 : Int32).toInt64 &&& 63))) = (0 : Int32) → mi_W d 179 159 [some (.ref l1), some (.int l2), some (.long l3), none, some (.long l4), none, some (.long l5), none, o6] [] (n, sl, f) Q) (h9 : ¬ ((lg_cmp s7 (l5 >>> ((63 : Int32).toInt64 &&& 63))) = (0 : Int32)) → mi_W d 179 154 [some (.ref l1), some (.int l2), some (.long l3), none, some (.long l4), none, some (.long l5), none, o6] [] (n, sl, f) Q) : mi_W d 179 145 [some (.ref l1), some (.int l2), some (.long l3), none, some (.long l4), none, some (.long l5), none, o6] [.long s7] (n, sl, f) Q := by
  refine w_lload cd_179_145 rfl ?_
  refine w_bipush (v := 63) cd_179_147 (by decide) ?_
  refine w_lshr cd_179_149 ?_
  refine w_lcmp cd_179_150 ?_
  exact w_ifeq cd_179_151 (by decide) h8 h9
theorem b_179_154 {d : Nat} {Q : (Option Value ⊕ Nat) → mi_H → Prop} (n sl : Nat) (f : Nat → mi_C) {l1 : Nat} {l2 : Int32} {l3 : Int64} {l4 : Int64} {l5 : Int64} {o6 : Option Value} {fs7 : List Value} (h8 : f l1 = .inr (12, fs7)) (h9 : l1 < n) (h10 : 46 < fs7.length) (h11 : mi_fk .boolean (.int 1) = true) (h12 : mi_W d 179 159 [some (.ref l1), some (.int l2), some (.long l3), none, some (.long l4), none, some (.long l5), none, o6] [] (n, sl, (va_up f l1 (.inr (12, fs7.set 46 (.int 1))))) Q) : mi_W d 179 154 [some (.ref l1), some (.int l2), some (.long l3), none, some (.long l4), none, some (.long l5), none, o6] [] (n, sl, f) Q := by
  refine w_aload_n cd_179_154 rfl ?_
  refine w_iconst (v := 1) cd_179_155 (by decide) ?_
  refine w_putfield (w := .int 1) cd_179_156 (show mt_f 12 441 = some (12, 46) by decide +kernel) h8 h9 ⟨h10, h11, Or.inl (by decide)⟩ ?_
  exact h12
theorem b_179_159 {d : Nat} {Q : (Option Value ⊕ Nat) → mi_H → Prop} (n sl : Nat) (f : Nat → mi_C) {l1 : Nat} {l2 : Int32} {l3 : Int64} {l4 : Int64} {l5 : Int64} {o6 : Option Value} {fs7 : List Value} (h8 : f l1 = .inr (12, fs7)) (h9 : l1 < n) (h10 : mi_W d 177 0 (mi_en 3 [.ref l1, .long l5]) [] (n, sl, f) (mi_Kc d 179 162 [some (.ref l1), some (.int l2), some (.long l3), none, some (.long l4), none, some (.long l5), none, o6] [] Q)) : mi_W (d + 1) 179 159 [some (.ref l1), some (.int l2), some (.long l3), none, some (.long l4), none, some (.long l5), none, o6] [] (n, sl, f) Q := by
  refine w_aload_n cd_179_159 rfl ?_
  refine w_lload cd_179_160 rfl ?_
  exact w_invokevirtual cd_179_162 (show mt_m 12 455 = some (177, 0) by decide +kernel) (rest := []) rfl (as := [.ref l1, .long l5]) rfl h8 (Or.inl h9) ⟨Nat.le_of_ble_eq_true rfl, Nat.le_of_ble_eq_true rfl, Nat.le_of_ble_eq_true rfl⟩ h10
theorem b_179_165 {d : Nat} {Q : (Option Value ⊕ Nat) → mi_H → Prop} (n sl : Nat) (f : Nat → mi_C) {l1 : Nat} {l2 : Int32} {l3 : Int64} {l4 : Int64} {l5 : Int64} {o6 : Option Value} {s7 : Int64} (h8 : Q (.inl (some (.long s7))) (n, sl, f)) : mi_W d 179 165 [some (.ref l1), some (.int l2), some (.long l3), none, some (.long l4), none, some (.long l5), none, o6] [.long s7] (n, sl, f) Q := by
  exact w_lreturn cd_179_165 (by decide +kernel) h8
/-! MarloweHostModel.warn(II)V -/
set_option maxRecDepth 100000 in
theorem mq_181 : mt_q 181 = my_181 := rfl
set_option maxRecDepth 100000 in
theorem ci_181 : mt_inc 0 my_181.cd = true := by decide +kernel
theorem cd_181_0 : mt_cd 181 0 = some (.aload_n 0) := mt_cd_of (q := (0, .aload_n 0, 1)) mq_181 ci_181 (List.mem_of_getElem? (i := 0) rfl)
theorem cd_181_1 : mt_cd 181 1 = some (.getfield 154) := mt_cd_of (q := (1, .getfield 154, 3)) mq_181 ci_181 (List.mem_of_getElem? (i := 1) rfl)
theorem cd_181_4 : mt_cd 181 4 = some (.aload_n 0) := mt_cd_of (q := (4, .aload_n 0, 1)) mq_181 ci_181 (List.mem_of_getElem? (i := 2) rfl)
theorem cd_181_5 : mt_cd 181 5 = some (.getfield 490) := mt_cd_of (q := (5, .getfield 490, 3)) mq_181 ci_181 (List.mem_of_getElem? (i := 3) rfl)
theorem cd_181_8 : mt_cd 181 8 = some (.iload_n 1) := mt_cd_of (q := (8, .iload_n 1, 1)) mq_181 ci_181 (List.mem_of_getElem? (i := 4) rfl)
theorem cd_181_9 : mt_cd 181 9 = some (.iastore) := mt_cd_of (q := (9, .iastore, 1)) mq_181 ci_181 (List.mem_of_getElem? (i := 5) rfl)
theorem cd_181_10 : mt_cd 181 10 = some (.aload_n 0) := mt_cd_of (q := (10, .aload_n 0, 1)) mq_181 ci_181 (List.mem_of_getElem? (i := 6) rfl)
theorem cd_181_11 : mt_cd 181 11 = some (.getfield 157) := mt_cd_of (q := (11, .getfield 157, 3)) mq_181 ci_181 (List.mem_of_getElem? (i := 7) rfl)
theorem cd_181_14 : mt_cd 181 14 = some (.aload_n 0) := mt_cd_of (q := (14, .aload_n 0, 1)) mq_181 ci_181 (List.mem_of_getElem? (i := 8) rfl)
theorem cd_181_15 : mt_cd 181 15 = some (.dup) := mt_cd_of (q := (15, .dup, 1)) mq_181 ci_181 (List.mem_of_getElem? (i := 9) rfl)
theorem cd_181_16 : mt_cd 181 16 = some (.getfield 490) := mt_cd_of (q := (16, .getfield 490, 3)) mq_181 ci_181 (List.mem_of_getElem? (i := 10) rfl)
theorem cd_181_19 : mt_cd 181 19 = some (.dup_x1) := mt_cd_of (q := (19, .dup_x1, 1)) mq_181 ci_181 (List.mem_of_getElem? (i := 11) rfl)
theorem cd_181_20 : mt_cd 181 20 = some (.iconst 1) := mt_cd_of (q := (20, .iconst 1, 1)) mq_181 ci_181 (List.mem_of_getElem? (i := 12) rfl)
theorem cd_181_21 : mt_cd 181 21 = some (.iadd) := mt_cd_of (q := (21, .iadd, 1)) mq_181 ci_181 (List.mem_of_getElem? (i := 13) rfl)
theorem cd_181_22 : mt_cd 181 22 = some (.putfield 490) := mt_cd_of (q := (22, .putfield 490, 3)) mq_181 ci_181 (List.mem_of_getElem? (i := 14) rfl)
theorem cd_181_25 : mt_cd 181 25 = some (.iload_n 2) := mt_cd_of (q := (25, .iload_n 2, 1)) mq_181 ci_181 (List.mem_of_getElem? (i := 15) rfl)
theorem cd_181_26 : mt_cd 181 26 = some (.iastore) := mt_cd_of (q := (26, .iastore, 1)) mq_181 ci_181 (List.mem_of_getElem? (i := 16) rfl)
theorem cd_181_27 : mt_cd 181 27 = some (.return_) := mt_cd_of (q := (27, .return_, 1)) mq_181 ci_181 (List.mem_of_getElem? (i := 17) rfl)
theorem b_181_0 {d : Nat} {Q : (Option Value ⊕ Nat) → mi_H → Prop} (n sl : Nat) (f : Nat → mi_C) {l1 : Nat} {l2 : Int32} {l3 : Int32} {fs4 : List Value} {x7 : Nat} {fs9 : List Value} {x12 : Int32} (m14 i14 : Nat) (g14 : Nat → Int32) {fs18 : List Value} {x21 : Nat} {fs23 : List Value} {x26 : Int32} {fs28 : List Value} (m32 i32 : Nat) (g32 : Nat → Int32) (h5 : f l1 = .inr (12, fs4)) (h6 : l1 < n) (h8 : fs4[49]? = some (.ref x7)) (h10 : f l1 = .inr (12, fs9)) (h11 : l1 < n) (h13 : fs9[47]? = some (.int x12)) (h15 : f x7 = .inl (0, m14, .inl g14)) (h16 : x7 < n) (h17 : mi_ix x12 m14 i14) (h19 : (va_up f x7 (.inl (0, m14, .inl (upd g14 i14 l2)))) l1 = .inr (12, fs18)) (h20 : l1 < n) (h22 : fs18[50]? = some (.ref x21)) (h24 : (va_up f x7 (.inl (0, m14, .inl (upd g14 i14 l2)))) l1 = .inr (12, fs23)) (h25 : l1 < n) (h27 : fs23[47]? = some (.int x26)) (h29 : (va_up f x7 (.inl (0, m14, .inl (upd g14 i14 l2)))) l1 = .inr (12, fs28)) (h30 : l1 < n) (h31 : 47 < fs28.length) (h33 : (va_up (va_up f x7 (.inl (0, m14, .inl (upd g14 i14 l2)))) l1 (.inr (12, fs28.set 47 (.int (x26 + 1))))) x21 = .inl (0, m32, .inl g32)) (h34 : x21 < n) (h35 : mi_ix x26 m32 i32) (h36 : Q (.inl none) (n, sl, (va_up (va_up (va_up f x7 (.inl (0, m14, .inl (upd g14 i14 l2)))) l1 (.inr (12, fs28.set 47 (.int (x26 + 1))))) x21 (.inl (0, m32, .inl (upd g32 i32 l3)))))) : mi_W d 181 0 [some (.ref l1), some (.int l2), some (.int l3)] [] (n, sl, f) Q := by
  refine w_aload_n cd_181_0 rfl ?_
  refine w_getfield cd_181_1 (show mt_f 12 154 = some (12, 49) by decide +kernel) h5 h6 h8 ?_
  refine w_aload_n cd_181_4 rfl ?_
  refine w_getfield cd_181_5 (show mt_f 12 490 = some (12, 47) by decide +kernel) h10 h11 h13 ?_
  refine w_iload_n cd_181_8 rfl ?_
  refine w_iastore cd_181_9 h15 h16 h17 ?_
  refine w_aload_n cd_181_10 rfl ?_
  refine w_getfield cd_181_11 (show mt_f 12 157 = some (12, 50) by decide +kernel) h19 h20 h22 ?_
  refine w_aload_n cd_181_14 rfl ?_
  refine w_dup_r cd_181_15 ?_
  refine w_getfield cd_181_16 (show mt_f 12 490 = some (12, 47) by decide +kernel) h24 h25 h27 ?_
  refine w_dup_x1_ir cd_181_19 ?_
  refine w_iconst (v := 1) cd_181_20 (by decide) ?_
  refine w_iadd cd_181_21 ?_
  refine w_putfield (w := .int (x26 + 1)) cd_181_22 (show mt_f 12 490 = some (12, 47) by decide +kernel) h29 h30 ⟨h31, rfl, Or.inl (by decide)⟩ ?_
  refine w_iload_n cd_181_25 rfl ?_
  refine w_iastore cd_181_26 h33 h34 h35 ?_
  exact w_return cd_181_27 (by decide +kernel) h36
/-! MarloweHostModel.take(I)I -/
set_option maxRecDepth 100000 in
theorem mq_182 : mt_q 182 = my_182 := rfl
set_option maxRecDepth 100000 in
theorem ci_182 : mt_inc 0 my_182.cd = true := by decide +kernel
theorem cd_182_0 : mt_cd 182 0 = some (.aload_n 0) := mt_cd_of (q := (0, .aload_n 0, 1)) mq_182 ci_182 (List.mem_append_left _ (show _ ∈ my_182_0 from List.mem_of_getElem? (i := 0) rfl))
theorem cd_182_1 : mt_cd 182 1 = some (.getfield 445) := mt_cd_of (q := (1, .getfield 445, 3)) mq_182 ci_182 (List.mem_append_left _ (show _ ∈ my_182_0 from List.mem_of_getElem? (i := 1) rfl))
theorem cd_182_4 : mt_cd 182 4 = some (.getfield 496) := mt_cd_of (q := (4, .getfield 496, 3)) mq_182 ci_182 (List.mem_append_left _ (show _ ∈ my_182_0 from List.mem_of_getElem? (i := 2) rfl))
theorem cd_182_7 : mt_cd 182 7 = some (.istore_n 2) := mt_cd_of (q := (7, .istore_n 2, 1)) mq_182 ci_182 (List.mem_append_left _ (show _ ∈ my_182_0 from List.mem_of_getElem? (i := 3) rfl))
theorem cd_182_8 : mt_cd 182 8 = some (.aload_n 0) := mt_cd_of (q := (8, .aload_n 0, 1)) mq_182 ci_182 (List.mem_append_left _ (show _ ∈ my_182_0 from List.mem_of_getElem? (i := 4) rfl))
theorem cd_182_9 : mt_cd 182 9 = some (.getfield 77) := mt_cd_of (q := (9, .getfield 77, 3)) mq_182 ci_182 (List.mem_append_left _ (show _ ∈ my_182_0 from List.mem_of_getElem? (i := 5) rfl))
theorem cd_182_12 : mt_cd 182 12 = some (.iload_n 2) := mt_cd_of (q := (12, .iload_n 2, 1)) mq_182 ci_182 (List.mem_append_left _ (show _ ∈ my_182_0 from List.mem_of_getElem? (i := 6) rfl))
theorem cd_182_13 : mt_cd 182 13 = some (.iaload) := mt_cd_of (q := (13, .iaload, 1)) mq_182 ci_182 (List.mem_append_left _ (show _ ∈ my_182_0 from List.mem_of_getElem? (i := 7) rfl))
theorem cd_182_14 : mt_cd 182 14 = some (.iconst 4) := mt_cd_of (q := (14, .iconst 4, 1)) mq_182 ci_182 (List.mem_append_left _ (show _ ∈ my_182_0 from List.mem_of_getElem? (i := 8) rfl))
theorem cd_182_15 : mt_cd 182 15 = some (.if_icmp .eq 5) := mt_cd_of (q := (15, .if_icmp .eq 5, 3)) mq_182 ci_182 (List.mem_append_left _ (show _ ∈ my_182_0 from List.mem_of_getElem? (i := 9) rfl))
theorem cd_182_18 : mt_cd 182 18 = some (.iconst 4) := mt_cd_of (q := (18, .iconst 4, 1)) mq_182 ci_182 (List.mem_append_left _ (show _ ∈ my_182_0 from List.mem_of_getElem? (i := 10) rfl))
theorem cd_182_19 : mt_cd 182 19 = some (.ireturn) := mt_cd_of (q := (19, .ireturn, 1)) mq_182 ci_182 (List.mem_append_left _ (show _ ∈ my_182_0 from List.mem_of_getElem? (i := 11) rfl))
theorem cd_182_20 : mt_cd 182 20 = some (.aload_n 0) := mt_cd_of (q := (20, .aload_n 0, 1)) mq_182 ci_182 (List.mem_append_left _ (show _ ∈ my_182_0 from List.mem_of_getElem? (i := 12) rfl))
theorem cd_182_21 : mt_cd 182 21 = some (.getfield 92) := mt_cd_of (q := (21, .getfield 92, 3)) mq_182 ci_182 (List.mem_append_left _ (show _ ∈ my_182_0 from List.mem_of_getElem? (i := 13) rfl))
theorem cd_182_24 : mt_cd 182 24 = some (.iload_n 2) := mt_cd_of (q := (24, .iload_n 2, 1)) mq_182 ci_182 (List.mem_append_left _ (show _ ∈ my_182_0 from List.mem_of_getElem? (i := 14) rfl))
theorem cd_182_25 : mt_cd 182 25 = some (.iaload) := mt_cd_of (q := (25, .iaload, 1)) mq_182 ci_182 (List.mem_append_left _ (show _ ∈ my_182_0 from List.mem_of_getElem? (i := 15) rfl))
theorem cd_182_26 : mt_cd 182 26 = some (.istore_n 3) := mt_cd_of (q := (26, .istore_n 3, 1)) mq_182 ci_182 (List.mem_append_left _ (show _ ∈ my_182_0 from List.mem_of_getElem? (i := 16) rfl))
theorem cd_182_27 : mt_cd 182 27 = some (.iload_n 3) := mt_cd_of (q := (27, .iload_n 3, 1)) mq_182 ci_182 (List.mem_append_left _ (show _ ∈ my_182_0 from List.mem_of_getElem? (i := 17) rfl))
theorem cd_182_28 : mt_cd 182 28 = some (.ifCond .lt 264) := mt_cd_of (q := (28, .ifCond .lt 264, 3)) mq_182 ci_182 (List.mem_append_left _ (show _ ∈ my_182_0 from List.mem_of_getElem? (i := 18) rfl))
theorem cd_182_31 : mt_cd 182 31 = some (.aload_n 0) := mt_cd_of (q := (31, .aload_n 0, 1)) mq_182 ci_182 (List.mem_append_left _ (show _ ∈ my_182_0 from List.mem_of_getElem? (i := 19) rfl))
theorem cd_182_32 : mt_cd 182 32 = some (.iload_n 3) := mt_cd_of (q := (32, .iload_n 3, 1)) mq_182 ci_182 (List.mem_append_left _ (show _ ∈ my_182_0 from List.mem_of_getElem? (i := 20) rfl))
theorem cd_182_33 : mt_cd 182 33 = some (.iload_n 1) := mt_cd_of (q := (33, .iload_n 1, 1)) mq_182 ci_182 (List.mem_append_left _ (show _ ∈ my_182_0 from List.mem_of_getElem? (i := 21) rfl))
theorem cd_182_34 : mt_cd 182 34 = some (.invokevirtual 509) := mt_cd_of (q := (34, .invokevirtual 509, 3)) mq_182 ci_182 (List.mem_append_left _ (show _ ∈ my_182_0 from List.mem_of_getElem? (i := 22) rfl))
theorem cd_182_37 : mt_cd 182 37 = some (.istore 4) := mt_cd_of (q := (37, .istore 4, 2)) mq_182 ci_182 (List.mem_append_left _ (show _ ∈ my_182_0 from List.mem_of_getElem? (i := 23) rfl))
theorem cd_182_39 : mt_cd 182 39 = some (.iload 4) := mt_cd_of (q := (39, .iload 4, 2)) mq_182 ci_182 (List.mem_append_left _ (show _ ∈ my_182_0 from List.mem_of_getElem? (i := 24) rfl))
theorem cd_182_41 : mt_cd 182 41 = some (.iconst 1) := mt_cd_of (q := (41, .iconst 1, 1)) mq_182 ci_182 (List.mem_append_left _ (show _ ∈ my_182_0 from List.mem_of_getElem? (i := 25) rfl))
theorem cd_182_42 : mt_cd 182 42 = some (.if_icmp .le 6) := mt_cd_of (q := (42, .if_icmp .le 6, 3)) mq_182 ci_182 (List.mem_append_left _ (show _ ∈ my_182_0 from List.mem_of_getElem? (i := 26) rfl))
theorem cd_182_45 : mt_cd 182 45 = some (.iload 4) := mt_cd_of (q := (45, .iload 4, 2)) mq_182 ci_182 (List.mem_append_left _ (show _ ∈ my_182_0 from List.mem_of_getElem? (i := 27) rfl))
theorem cd_182_47 : mt_cd 182 47 = some (.ireturn) := mt_cd_of (q := (47, .ireturn, 1)) mq_182 ci_182 (List.mem_append_left _ (show _ ∈ my_182_0 from List.mem_of_getElem? (i := 28) rfl))
theorem cd_182_48 : mt_cd 182 48 = some (.iload 4) := mt_cd_of (q := (48, .iload 4, 2)) mq_182 ci_182 (List.mem_append_left _ (show _ ∈ my_182_0 from List.mem_of_getElem? (i := 29) rfl))
theorem cd_182_50 : mt_cd 182 50 = some (.ifCond .ne 6) := mt_cd_of (q := (50, .ifCond .ne 6, 3)) mq_182 ci_182 (List.mem_append_left _ (show _ ∈ my_182_0 from List.mem_of_getElem? (i := 30) rfl))
theorem cd_182_53 : mt_cd 182 53 = some (.goto 229) := mt_cd_of (q := (53, .goto 229, 3)) mq_182 ci_182 (List.mem_append_left _ (show _ ∈ my_182_0 from List.mem_of_getElem? (i := 31) rfl))
theorem cd_182_56 : mt_cd 182 56 = some (.aload_n 0) := mt_cd_of (q := (56, .aload_n 0, 1)) mq_182 ci_182 (List.mem_append_left _ (show _ ∈ my_182_0 from List.mem_of_getElem? (i := 32) rfl))
theorem cd_182_57 : mt_cd 182 57 = some (.getfield 77) := mt_cd_of (q := (57, .getfield 77, 3)) mq_182 ci_182 (List.mem_append_left _ (show _ ∈ my_182_0 from List.mem_of_getElem? (i := 33) rfl))
theorem cd_182_60 : mt_cd 182 60 = some (.iload_n 3) := mt_cd_of (q := (60, .iload_n 3, 1)) mq_182 ci_182 (List.mem_append_left _ (show _ ∈ my_182_0 from List.mem_of_getElem? (i := 34) rfl))
theorem cd_182_61 : mt_cd 182 61 = some (.iaload) := mt_cd_of (q := (61, .iaload, 1)) mq_182 ci_182 (List.mem_append_left _ (show _ ∈ my_182_0 from List.mem_of_getElem? (i := 35) rfl))
theorem cd_182_62 : mt_cd 182 62 = some (.bipush 7) := mt_cd_of (q := (62, .bipush 7, 2)) mq_182 ci_182 (List.mem_append_left _ (show _ ∈ my_182_0 from List.mem_of_getElem? (i := 36) rfl))
theorem cd_182_64 : mt_cd 182 64 = some (.if_icmp .ne 157) := mt_cd_of (q := (64, .if_icmp .ne 157, 3)) mq_182 ci_182 (List.mem_append_left _ (show _ ∈ my_182_0 from List.mem_of_getElem? (i := 37) rfl))
theorem cd_182_67 : mt_cd 182 67 = some (.aload_n 0) := mt_cd_of (q := (67, .aload_n 0, 1)) mq_182 ci_182 (List.mem_append_left _ (show _ ∈ my_182_0 from List.mem_of_getElem? (i := 38) rfl))
theorem cd_182_68 : mt_cd 182 68 = some (.getfield 190) := mt_cd_of (q := (68, .getfield 190, 3)) mq_182 ci_182 (List.mem_append_left _ (show _ ∈ my_182_0 from List.mem_of_getElem? (i := 39) rfl))
theorem cd_182_71 : mt_cd 182 71 = some (.iload_n 1) := mt_cd_of (q := (71, .iload_n 1, 1)) mq_182 ci_182 (List.mem_append_left _ (show _ ∈ my_182_0 from List.mem_of_getElem? (i := 40) rfl))
theorem cd_182_72 : mt_cd 182 72 = some (.laload) := mt_cd_of (q := (72, .laload, 1)) mq_182 ci_182 (List.mem_append_left _ (show _ ∈ my_182_0 from List.mem_of_getElem? (i := 41) rfl))
theorem cd_182_73 : mt_cd 182 73 = some (.lstore 5) := mt_cd_of (q := (73, .lstore 5, 2)) mq_182 ci_182 (List.mem_append_left _ (show _ ∈ my_182_0 from List.mem_of_getElem? (i := 42) rfl))
theorem cd_182_75 : mt_cd 182 75 = some (.iconst 4) := mt_cd_of (q := (75, .iconst 4, 1)) mq_182 ci_182 (List.mem_append_left _ (show _ ∈ my_182_0 from List.mem_of_getElem? (i := 43) rfl))
theorem cd_182_76 : mt_cd 182 76 = some (.aload_n 0) := mt_cd_of (q := (76, .aload_n 0, 1)) mq_182 ci_182 (List.mem_append_left _ (show _ ∈ my_182_0 from List.mem_of_getElem? (i := 44) rfl))
theorem cd_182_77 : mt_cd 182 77 = some (.getfield 80) := mt_cd_of (q := (77, .getfield 80, 3)) mq_182 ci_182 (List.mem_append_left _ (show _ ∈ my_182_0 from List.mem_of_getElem? (i := 45) rfl))
theorem cd_182_80 : mt_cd 182 80 = some (.iload_n 3) := mt_cd_of (q := (80, .iload_n 3, 1)) mq_182 ci_182 (List.mem_append_left _ (show _ ∈ my_182_0 from List.mem_of_getElem? (i := 46) rfl))
theorem cd_182_81 : mt_cd 182 81 = some (.iaload) := mt_cd_of (q := (81, .iaload, 1)) mq_182 ci_182 (List.mem_append_left _ (show _ ∈ my_182_0 from List.mem_of_getElem? (i := 47) rfl))
theorem cd_182_82 : mt_cd 182 82 = some (.imul) := mt_cd_of (q := (82, .imul, 1)) mq_182 ci_182 (List.mem_append_left _ (show _ ∈ my_182_0 from List.mem_of_getElem? (i := 48) rfl))
theorem cd_182_83 : mt_cd 182 83 = some (.aload_n 0) := mt_cd_of (q := (83, .aload_n 0, 1)) mq_182 ci_182 (List.mem_append_left _ (show _ ∈ my_182_0 from List.mem_of_getElem? (i := 49) rfl))
theorem cd_182_84 : mt_cd 182 84 = some (.getfield 86) := mt_cd_of (q := (84, .getfield 86, 3)) mq_182 ci_182 (List.mem_append_left _ (show _ ∈ my_182_0 from List.mem_of_getElem? (i := 50) rfl))
theorem cd_182_87 : mt_cd 182 87 = some (.iload_n 3) := mt_cd_of (q := (87, .iload_n 3, 1)) mq_182 ci_182 (List.mem_append_left _ (show _ ∈ my_182_0 from List.mem_of_getElem? (i := 51) rfl))
theorem cd_182_88 : mt_cd 182 88 = some (.iaload) := mt_cd_of (q := (88, .iaload, 1)) mq_182 ci_182 (List.mem_append_left _ (show _ ∈ my_182_0 from List.mem_of_getElem? (i := 52) rfl))
theorem cd_182_89 : mt_cd 182 89 = some (.iadd) := mt_cd_of (q := (89, .iadd, 1)) mq_182 ci_182 (List.mem_append_left _ (show _ ∈ my_182_0 from List.mem_of_getElem? (i := 53) rfl))
theorem cd_182_90 : mt_cd 182 90 = some (.istore 7) := mt_cd_of (q := (90, .istore 7, 2)) mq_182 ci_182 (List.mem_append_left _ (show _ ∈ my_182_0 from List.mem_of_getElem? (i := 54) rfl))
theorem cd_182_92 : mt_cd 182 92 = some (.iconst 4) := mt_cd_of (q := (92, .iconst 4, 1)) mq_182 ci_182 (List.mem_append_left _ (show _ ∈ my_182_0 from List.mem_of_getElem? (i := 55) rfl))
theorem cd_182_93 : mt_cd 182 93 = some (.aload_n 0) := mt_cd_of (q := (93, .aload_n 0, 1)) mq_182 ci_182 (List.mem_append_left _ (show _ ∈ my_182_0 from List.mem_of_getElem? (i := 56) rfl))
theorem cd_182_94 : mt_cd 182 94 = some (.getfield 83) := mt_cd_of (q := (94, .getfield 83, 3)) mq_182 ci_182 (List.mem_append_left _ (show _ ∈ my_182_0 from List.mem_of_getElem? (i := 57) rfl))
theorem cd_182_97 : mt_cd 182 97 = some (.iload_n 3) := mt_cd_of (q := (97, .iload_n 3, 1)) mq_182 ci_182 (List.mem_append_left _ (show _ ∈ my_182_0 from List.mem_of_getElem? (i := 58) rfl))
theorem cd_182_98 : mt_cd 182 98 = some (.iaload) := mt_cd_of (q := (98, .iaload, 1)) mq_182 ci_182 (List.mem_append_left _ (show _ ∈ my_182_0 from List.mem_of_getElem? (i := 59) rfl))
theorem cd_182_99 : mt_cd 182 99 = some (.imul) := mt_cd_of (q := (99, .imul, 1)) mq_182 ci_182 (List.mem_append_right _ (List.mem_append_left _ (show _ ∈ my_182_1 from List.mem_of_getElem? (i := 0) rfl)))
theorem cd_182_100 : mt_cd 182 100 = some (.aload_n 0) := mt_cd_of (q := (100, .aload_n 0, 1)) mq_182 ci_182 (List.mem_append_right _ (List.mem_append_left _ (show _ ∈ my_182_1 from List.mem_of_getElem? (i := 1) rfl)))
theorem cd_182_101 : mt_cd 182 101 = some (.getfield 86) := mt_cd_of (q := (101, .getfield 86, 3)) mq_182 ci_182 (List.mem_append_right _ (List.mem_append_left _ (show _ ∈ my_182_1 from List.mem_of_getElem? (i := 2) rfl)))
theorem cd_182_104 : mt_cd 182 104 = some (.iload_n 3) := mt_cd_of (q := (104, .iload_n 3, 1)) mq_182 ci_182 (List.mem_append_right _ (List.mem_append_left _ (show _ ∈ my_182_1 from List.mem_of_getElem? (i := 3) rfl)))
theorem cd_182_105 : mt_cd 182 105 = some (.iaload) := mt_cd_of (q := (105, .iaload, 1)) mq_182 ci_182 (List.mem_append_right _ (List.mem_append_left _ (show _ ∈ my_182_1 from List.mem_of_getElem? (i := 4) rfl)))
theorem cd_182_106 : mt_cd 182 106 = some (.iadd) := mt_cd_of (q := (106, .iadd, 1)) mq_182 ci_182 (List.mem_append_right _ (List.mem_append_left _ (show _ ∈ my_182_1 from List.mem_of_getElem? (i := 5) rfl)))
theorem cd_182_107 : mt_cd 182 107 = some (.istore 8) := mt_cd_of (q := (107, .istore 8, 2)) mq_182 ci_182 (List.mem_append_right _ (List.mem_append_left _ (show _ ∈ my_182_1 from List.mem_of_getElem? (i := 6) rfl)))
theorem cd_182_109 : mt_cd 182 109 = some (.lload 5) := mt_cd_of (q := (109, .lload 5, 2)) mq_182 ci_182 (List.mem_append_right _ (List.mem_append_left _ (show _ ∈ my_182_1 from List.mem_of_getElem? (i := 7) rfl)))
theorem cd_182_111 : mt_cd 182 111 = some (.lconst 0) := mt_cd_of (q := (111, .lconst 0, 1)) mq_182 ci_182 (List.mem_append_right _ (List.mem_append_left _ (show _ ∈ my_182_1 from List.mem_of_getElem? (i := 8) rfl)))
theorem cd_182_112 : mt_cd 182 112 = some (.lcmp) := mt_cd_of (q := (112, .lcmp, 1)) mq_182 ci_182 (List.mem_append_right _ (List.mem_append_left _ (show _ ∈ my_182_1 from List.mem_of_getElem? (i := 9) rfl)))
theorem cd_182_113 : mt_cd 182 113 = some (.ifCond .gt 12) := mt_cd_of (q := (113, .ifCond .gt 12, 3)) mq_182 ci_182 (List.mem_append_right _ (List.mem_append_left _ (show _ ∈ my_182_1 from List.mem_of_getElem? (i := 10) rfl)))
theorem cd_182_116 : mt_cd 182 116 = some (.aload_n 0) := mt_cd_of (q := (116, .aload_n 0, 1)) mq_182 ci_182 (List.mem_append_right _ (List.mem_append_left _ (show _ ∈ my_182_1 from List.mem_of_getElem? (i := 11) rfl)))
theorem cd_182_117 : mt_cd 182 117 = some (.iconst 1) := mt_cd_of (q := (117, .iconst 1, 1)) mq_182 ci_182 (List.mem_append_right _ (List.mem_append_left _ (show _ ∈ my_182_1 from List.mem_of_getElem? (i := 12) rfl)))
theorem cd_182_118 : mt_cd 182 118 = some (.iload_n 3) := mt_cd_of (q := (118, .iload_n 3, 1)) mq_182 ci_182 (List.mem_append_right _ (List.mem_append_left _ (show _ ∈ my_182_1 from List.mem_of_getElem? (i := 13) rfl)))
theorem cd_182_119 : mt_cd 182 119 = some (.invokevirtual 502) := mt_cd_of (q := (119, .invokevirtual 502, 3)) mq_182 ci_182 (List.mem_append_right _ (List.mem_append_left _ (show _ ∈ my_182_1 from List.mem_of_getElem? (i := 14) rfl)))
theorem cd_182_122 : mt_cd 182 122 = some (.goto 96) := mt_cd_of (q := (122, .goto 96, 3)) mq_182 ci_182 (List.mem_append_right _ (List.mem_append_left _ (show _ ∈ my_182_1 from List.mem_of_getElem? (i := 15) rfl)))
theorem cd_182_125 : mt_cd 182 125 = some (.aload_n 0) := mt_cd_of (q := (125, .aload_n 0, 1)) mq_182 ci_182 (List.mem_append_right _ (List.mem_append_left _ (show _ ∈ my_182_1 from List.mem_of_getElem? (i := 16) rfl)))
theorem cd_182_126 : mt_cd 182 126 = some (.getfield 513) := mt_cd_of (q := (126, .getfield 513, 3)) mq_182 ci_182 (List.mem_append_right _ (List.mem_append_left _ (show _ ∈ my_182_1 from List.mem_of_getElem? (i := 17) rfl)))
theorem cd_182_129 : mt_cd 182 129 = some (.ifCond .eq 27) := mt_cd_of (q := (129, .ifCond .eq 27, 3)) mq_182 ci_182 (List.mem_append_right _ (List.mem_append_left _ (show _ ∈ my_182_1 from List.mem_of_getElem? (i := 18) rfl)))
theorem cd_182_132 : mt_cd 182 132 = some (.aload_n 0) := mt_cd_of (q := (132, .aload_n 0, 1)) mq_182 ci_182 (List.mem_append_right _ (List.mem_append_left _ (show _ ∈ my_182_1 from List.mem_of_getElem? (i := 19) rfl)))
theorem cd_182_133 : mt_cd 182 133 = some (.getfield 175) := mt_cd_of (q := (133, .getfield 175, 3)) mq_182 ci_182 (List.mem_append_right _ (List.mem_append_left _ (show _ ∈ my_182_1 from List.mem_of_getElem? (i := 20) rfl)))
theorem cd_182_136 : mt_cd 182 136 = some (.iload 8) := mt_cd_of (q := (136, .iload 8, 2)) mq_182 ci_182 (List.mem_append_right _ (List.mem_append_left _ (show _ ∈ my_182_1 from List.mem_of_getElem? (i := 21) rfl)))
theorem cd_182_138 : mt_cd 182 138 = some (.laload) := mt_cd_of (q := (138, .laload, 1)) mq_182 ci_182 (List.mem_append_right _ (List.mem_append_left _ (show _ ∈ my_182_1 from List.mem_of_getElem? (i := 22) rfl)))
theorem cd_182_139 : mt_cd 182 139 = some (.aload_n 0) := mt_cd_of (q := (139, .aload_n 0, 1)) mq_182 ci_182 (List.mem_append_right _ (List.mem_append_left _ (show _ ∈ my_182_1 from List.mem_of_getElem? (i := 23) rfl)))
theorem cd_182_140 : mt_cd 182 140 = some (.getfield 172) := mt_cd_of (q := (140, .getfield 172, 3)) mq_182 ci_182 (List.mem_append_right _ (List.mem_append_left _ (show _ ∈ my_182_1 from List.mem_of_getElem? (i := 24) rfl)))
theorem cd_182_143 : mt_cd 182 143 = some (.iload 8) := mt_cd_of (q := (143, .iload 8, 2)) mq_182 ci_182 (List.mem_append_right _ (List.mem_append_left _ (show _ ∈ my_182_1 from List.mem_of_getElem? (i := 25) rfl)))
theorem cd_182_145 : mt_cd 182 145 = some (.laload) := mt_cd_of (q := (145, .laload, 1)) mq_182 ci_182 (List.mem_append_right _ (List.mem_append_left _ (show _ ∈ my_182_1 from List.mem_of_getElem? (i := 26) rfl)))
theorem cd_182_146 : mt_cd 182 146 = some (.lsub) := mt_cd_of (q := (146, .lsub, 1)) mq_182 ci_182 (List.mem_append_right _ (List.mem_append_left _ (show _ ∈ my_182_1 from List.mem_of_getElem? (i := 27) rfl)))
theorem cd_182_147 : mt_cd 182 147 = some (.lload 5) := mt_cd_of (q := (147, .lload 5, 2)) mq_182 ci_182 (List.mem_append_right _ (List.mem_append_left _ (show _ ∈ my_182_1 from List.mem_of_getElem? (i := 28) rfl)))
theorem cd_182_149 : mt_cd 182 149 = some (.lcmp) := mt_cd_of (q := (149, .lcmp, 1)) mq_182 ci_182 (List.mem_append_right _ (List.mem_append_left _ (show _ ∈ my_182_1 from List.mem_of_getElem? (i := 29) rfl)))
theorem cd_182_150 : mt_cd 182 150 = some (.ifCond .ge 6) := mt_cd_of (q := (150, .ifCond .ge 6, 3)) mq_182 ci_182 (List.mem_append_right _ (List.mem_append_left _ (show _ ∈ my_182_1 from List.mem_of_getElem? (i := 30) rfl)))
theorem cd_182_153 : mt_cd 182 153 = some (.bipush 7) := mt_cd_of (q := (153, .bipush 7, 2)) mq_182 ci_182 (List.mem_append_right _ (List.mem_append_left _ (show _ ∈ my_182_1 from List.mem_of_getElem? (i := 31) rfl)))
theorem cd_182_155 : mt_cd 182 155 = some (.ireturn) := mt_cd_of (q := (155, .ireturn, 1)) mq_182 ci_182 (List.mem_append_right _ (List.mem_append_left _ (show _ ∈ my_182_1 from List.mem_of_getElem? (i := 32) rfl)))
theorem cd_182_156 : mt_cd 182 156 = some (.aload_n 0) := mt_cd_of (q := (156, .aload_n 0, 1)) mq_182 ci_182 (List.mem_append_right _ (List.mem_append_left _ (show _ ∈ my_182_1 from List.mem_of_getElem? (i := 33) rfl)))
theorem cd_182_157 : mt_cd 182 157 = some (.getfield 172) := mt_cd_of (q := (157, .getfield 172, 3)) mq_182 ci_182 (List.mem_append_right _ (List.mem_append_left _ (show _ ∈ my_182_1 from List.mem_of_getElem? (i := 34) rfl)))
theorem cd_182_160 : mt_cd 182 160 = some (.iload 8) := mt_cd_of (q := (160, .iload 8, 2)) mq_182 ci_182 (List.mem_append_right _ (List.mem_append_left _ (show _ ∈ my_182_1 from List.mem_of_getElem? (i := 35) rfl)))
theorem cd_182_162 : mt_cd 182 162 = some (.dup2) := mt_cd_of (q := (162, .dup2, 1)) mq_182 ci_182 (List.mem_append_right _ (List.mem_append_left _ (show _ ∈ my_182_1 from List.mem_of_getElem? (i := 36) rfl)))
theorem cd_182_163 : mt_cd 182 163 = some (.laload) := mt_cd_of (q := (163, .laload, 1)) mq_182 ci_182 (List.mem_append_right _ (List.mem_append_left _ (show _ ∈ my_182_1 from List.mem_of_getElem? (i := 37) rfl)))
theorem cd_182_164 : mt_cd 182 164 = some (.lload 5) := mt_cd_of (q := (164, .lload 5, 2)) mq_182 ci_182 (List.mem_append_right _ (List.mem_append_left _ (show _ ∈ my_182_1 from List.mem_of_getElem? (i := 38) rfl)))
theorem cd_182_166 : mt_cd 182 166 = some (.ladd) := mt_cd_of (q := (166, .ladd, 1)) mq_182 ci_182 (List.mem_append_right _ (List.mem_append_left _ (show _ ∈ my_182_1 from List.mem_of_getElem? (i := 39) rfl)))
theorem cd_182_167 : mt_cd 182 167 = some (.lastore) := mt_cd_of (q := (167, .lastore, 1)) mq_182 ci_182 (List.mem_append_right _ (List.mem_append_left _ (show _ ∈ my_182_1 from List.mem_of_getElem? (i := 40) rfl)))
theorem cd_182_168 : mt_cd 182 168 = some (.aload_n 0) := mt_cd_of (q := (168, .aload_n 0, 1)) mq_182 ci_182 (List.mem_append_right _ (List.mem_append_left _ (show _ ∈ my_182_1 from List.mem_of_getElem? (i := 41) rfl)))
theorem cd_182_169 : mt_cd 182 169 = some (.getfield 445) := mt_cd_of (q := (169, .getfield 445, 3)) mq_182 ci_182 (List.mem_append_right _ (List.mem_append_left _ (show _ ∈ my_182_1 from List.mem_of_getElem? (i := 42) rfl)))
theorem cd_182_172 : mt_cd 182 172 = some (.getfield 448) := mt_cd_of (q := (172, .getfield 448, 3)) mq_182 ci_182 (List.mem_append_right _ (List.mem_append_left _ (show _ ∈ my_182_1 from List.mem_of_getElem? (i := 43) rfl)))
theorem cd_182_175 : mt_cd 182 175 = some (.iload 7) := mt_cd_of (q := (175, .iload 7, 2)) mq_182 ci_182 (List.mem_append_right _ (List.mem_append_left _ (show _ ∈ my_182_1 from List.mem_of_getElem? (i := 44) rfl)))
theorem cd_182_177 : mt_cd 182 177 = some (.dup2) := mt_cd_of (q := (177, .dup2, 1)) mq_182 ci_182 (List.mem_append_right _ (List.mem_append_left _ (show _ ∈ my_182_1 from List.mem_of_getElem? (i := 45) rfl)))
theorem cd_182_178 : mt_cd 182 178 = some (.laload) := mt_cd_of (q := (178, .laload, 1)) mq_182 ci_182 (List.mem_append_right _ (List.mem_append_left _ (show _ ∈ my_182_1 from List.mem_of_getElem? (i := 46) rfl)))
theorem cd_182_179 : mt_cd 182 179 = some (.lload 5) := mt_cd_of (q := (179, .lload 5, 2)) mq_182 ci_182 (List.mem_append_right _ (List.mem_append_left _ (show _ ∈ my_182_1 from List.mem_of_getElem? (i := 47) rfl)))
theorem cd_182_181 : mt_cd 182 181 = some (.ladd) := mt_cd_of (q := (181, .ladd, 1)) mq_182 ci_182 (List.mem_append_right _ (List.mem_append_left _ (show _ ∈ my_182_1 from List.mem_of_getElem? (i := 48) rfl)))
theorem cd_182_182 : mt_cd 182 182 = some (.lastore) := mt_cd_of (q := (182, .lastore, 1)) mq_182 ci_182 (List.mem_append_right _ (List.mem_append_left _ (show _ ∈ my_182_1 from List.mem_of_getElem? (i := 49) rfl)))
theorem cd_182_183 : mt_cd 182 183 = some (.aload_n 0) := mt_cd_of (q := (183, .aload_n 0, 1)) mq_182 ci_182 (List.mem_append_right _ (List.mem_append_left _ (show _ ∈ my_182_1 from List.mem_of_getElem? (i := 50) rfl)))
theorem cd_182_184 : mt_cd 182 184 = some (.getfield 445) := mt_cd_of (q := (184, .getfield 445, 3)) mq_182 ci_182 (List.mem_append_right _ (List.mem_append_left _ (show _ ∈ my_182_1 from List.mem_of_getElem? (i := 51) rfl)))
theorem cd_182_187 : mt_cd 182 187 = some (.getfield 448) := mt_cd_of (q := (187, .getfield 448, 3)) mq_182 ci_182 (List.mem_append_right _ (List.mem_append_left _ (show _ ∈ my_182_1 from List.mem_of_getElem? (i := 52) rfl)))
theorem cd_182_190 : mt_cd 182 190 = some (.iload 7) := mt_cd_of (q := (190, .iload 7, 2)) mq_182 ci_182 (List.mem_append_right _ (List.mem_append_left _ (show _ ∈ my_182_1 from List.mem_of_getElem? (i := 53) rfl)))
theorem cd_182_192 : mt_cd 182 192 = some (.laload) := mt_cd_of (q := (192, .laload, 1)) mq_182 ci_182 (List.mem_append_right _ (List.mem_append_left _ (show _ ∈ my_182_1 from List.mem_of_getElem? (i := 54) rfl)))
theorem cd_182_193 : mt_cd 182 193 = some (.ldc2_w 437) := mt_cd_of (q := (193, .ldc2_w 437, 3)) mq_182 ci_182 (List.mem_append_right _ (List.mem_append_left _ (show _ ∈ my_182_1 from List.mem_of_getElem? (i := 55) rfl)))
theorem cd_182_196 : mt_cd 182 196 = some (.lcmp) := mt_cd_of (q := (196, .lcmp, 1)) mq_182 ci_182 (List.mem_append_right _ (List.mem_append_left _ (show _ ∈ my_182_1 from List.mem_of_getElem? (i := 56) rfl)))
theorem cd_182_197 : mt_cd 182 197 = some (.ifCond .gt 18) := mt_cd_of (q := (197, .ifCond .gt 18, 3)) mq_182 ci_182 (List.mem_append_right _ (List.mem_append_left _ (show _ ∈ my_182_1 from List.mem_of_getElem? (i := 57) rfl)))
theorem cd_182_200 : mt_cd 182 200 = some (.aload_n 0) := mt_cd_of (q := (200, .aload_n 0, 1)) mq_182 ci_182 (List.mem_append_right _ (List.mem_append_left _ (show _ ∈ my_182_1 from List.mem_of_getElem? (i := 58) rfl)))
theorem cd_182_201 : mt_cd 182 201 = some (.getfield 445) := mt_cd_of (q := (201, .getfield 445, 3)) mq_182 ci_182 (List.mem_append_right _ (List.mem_append_left _ (show _ ∈ my_182_1 from List.mem_of_getElem? (i := 59) rfl)))
theorem cd_182_204 : mt_cd 182 204 = some (.getfield 448) := mt_cd_of (q := (204, .getfield 448, 3)) mq_182 ci_182 (List.mem_append_right _ (List.mem_append_right _ ((show _ ∈ my_182_2 from List.mem_of_getElem? (i := 0) rfl))))
theorem cd_182_207 : mt_cd 182 207 = some (.iload 7) := mt_cd_of (q := (207, .iload 7, 2)) mq_182 ci_182 (List.mem_append_right _ (List.mem_append_right _ ((show _ ∈ my_182_2 from List.mem_of_getElem? (i := 1) rfl))))
theorem cd_182_209 : mt_cd 182 209 = some (.laload) := mt_cd_of (q := (209, .laload, 1)) mq_182 ci_182 (List.mem_append_right _ (List.mem_append_right _ ((show _ ∈ my_182_2 from List.mem_of_getElem? (i := 2) rfl))))
theorem cd_182_210 : mt_cd 182 210 = some (.lconst 0) := mt_cd_of (q := (210, .lconst 0, 1)) mq_182 ci_182 (List.mem_append_right _ (List.mem_append_right _ ((show _ ∈ my_182_2 from List.mem_of_getElem? (i := 3) rfl))))
theorem cd_182_211 : mt_cd 182 211 = some (.lcmp) := mt_cd_of (q := (211, .lcmp, 1)) mq_182 ci_182 (List.mem_append_right _ (List.mem_append_right _ ((show _ ∈ my_182_2 from List.mem_of_getElem? (i := 4) rfl))))
theorem cd_182_212 : mt_cd 182 212 = some (.ifCond .ge 6) := mt_cd_of (q := (212, .ifCond .ge 6, 3)) mq_182 ci_182 (List.mem_append_right _ (List.mem_append_right _ ((show _ ∈ my_182_2 from List.mem_of_getElem? (i := 5) rfl))))
theorem cd_182_215 : mt_cd 182 215 = some (.bipush 6) := mt_cd_of (q := (215, .bipush 6, 2)) mq_182 ci_182 (List.mem_append_right _ (List.mem_append_right _ ((show _ ∈ my_182_2 from List.mem_of_getElem? (i := 6) rfl))))
theorem cd_182_217 : mt_cd 182 217 = some (.ireturn) := mt_cd_of (q := (217, .ireturn, 1)) mq_182 ci_182 (List.mem_append_right _ (List.mem_append_right _ ((show _ ∈ my_182_2 from List.mem_of_getElem? (i := 7) rfl))))
theorem cd_182_218 : mt_cd 182 218 = some (.goto 49) := mt_cd_of (q := (218, .goto 49, 3)) mq_182 ci_182 (List.mem_append_right _ (List.mem_append_right _ ((show _ ∈ my_182_2 from List.mem_of_getElem? (i := 8) rfl))))
theorem cd_182_221 : mt_cd 182 221 = some (.aload_n 0) := mt_cd_of (q := (221, .aload_n 0, 1)) mq_182 ci_182 (List.mem_append_right _ (List.mem_append_right _ ((show _ ∈ my_182_2 from List.mem_of_getElem? (i := 9) rfl))))
theorem cd_182_222 : mt_cd 182 222 = some (.getfield 77) := mt_cd_of (q := (222, .getfield 77, 3)) mq_182 ci_182 (List.mem_append_right _ (List.mem_append_right _ ((show _ ∈ my_182_2 from List.mem_of_getElem? (i := 10) rfl))))
theorem cd_182_225 : mt_cd 182 225 = some (.iload_n 3) := mt_cd_of (q := (225, .iload_n 3, 1)) mq_182 ci_182 (List.mem_append_right _ (List.mem_append_right _ ((show _ ∈ my_182_2 from List.mem_of_getElem? (i := 11) rfl))))
theorem cd_182_226 : mt_cd 182 226 = some (.iaload) := mt_cd_of (q := (226, .iaload, 1)) mq_182 ci_182 (List.mem_append_right _ (List.mem_append_right _ ((show _ ∈ my_182_2 from List.mem_of_getElem? (i := 12) rfl))))
theorem cd_182_227 : mt_cd 182 227 = some (.bipush 8) := mt_cd_of (q := (227, .bipush 8, 2)) mq_182 ci_182 (List.mem_append_right _ (List.mem_append_right _ ((show _ ∈ my_182_2 from List.mem_of_getElem? (i := 13) rfl))))
theorem cd_182_229 : mt_cd 182 229 = some (.if_icmp .ne 38) := mt_cd_of (q := (229, .if_icmp .ne 38, 3)) mq_182 ci_182 (List.mem_append_right _ (List.mem_append_right _ ((show _ ∈ my_182_2 from List.mem_of_getElem? (i := 14) rfl))))
theorem cd_182_232 : mt_cd 182 232 = some (.aload_n 0) := mt_cd_of (q := (232, .aload_n 0, 1)) mq_182 ci_182 (List.mem_append_right _ (List.mem_append_right _ ((show _ ∈ my_182_2 from List.mem_of_getElem? (i := 15) rfl))))
theorem cd_182_233 : mt_cd 182 233 = some (.getfield 445) := mt_cd_of (q := (233, .getfield 445, 3)) mq_182 ci_182 (List.mem_append_right _ (List.mem_append_right _ ((show _ ∈ my_182_2 from List.mem_of_getElem? (i := 16) rfl))))
theorem cd_182_236 : mt_cd 182 236 = some (.getfield 459) := mt_cd_of (q := (236, .getfield 459, 3)) mq_182 ci_182 (List.mem_append_right _ (List.mem_append_right _ ((show _ ∈ my_182_2 from List.mem_of_getElem? (i := 17) rfl))))
theorem cd_182_239 : mt_cd 182 239 = some (.aload_n 0) := mt_cd_of (q := (239, .aload_n 0, 1)) mq_182 ci_182 (List.mem_append_right _ (List.mem_append_right _ ((show _ ∈ my_182_2 from List.mem_of_getElem? (i := 18) rfl))))
theorem cd_182_240 : mt_cd 182 240 = some (.getfield 80) := mt_cd_of (q := (240, .getfield 80, 3)) mq_182 ci_182 (List.mem_append_right _ (List.mem_append_right _ ((show _ ∈ my_182_2 from List.mem_of_getElem? (i := 19) rfl))))
theorem cd_182_243 : mt_cd 182 243 = some (.iload_n 3) := mt_cd_of (q := (243, .iload_n 3, 1)) mq_182 ci_182 (List.mem_append_right _ (List.mem_append_right _ ((show _ ∈ my_182_2 from List.mem_of_getElem? (i := 20) rfl))))
theorem cd_182_244 : mt_cd 182 244 = some (.iaload) := mt_cd_of (q := (244, .iaload, 1)) mq_182 ci_182 (List.mem_append_right _ (List.mem_append_right _ ((show _ ∈ my_182_2 from List.mem_of_getElem? (i := 21) rfl))))
theorem cd_182_245 : mt_cd 182 245 = some (.iconst 1) := mt_cd_of (q := (245, .iconst 1, 1)) mq_182 ci_182 (List.mem_append_right _ (List.mem_append_right _ ((show _ ∈ my_182_2 from List.mem_of_getElem? (i := 22) rfl))))
theorem cd_182_246 : mt_cd 182 246 = some (.bastore) := mt_cd_of (q := (246, .bastore, 1)) mq_182 ci_182 (List.mem_append_right _ (List.mem_append_right _ ((show _ ∈ my_182_2 from List.mem_of_getElem? (i := 23) rfl))))
theorem cd_182_247 : mt_cd 182 247 = some (.aload_n 0) := mt_cd_of (q := (247, .aload_n 0, 1)) mq_182 ci_182 (List.mem_append_right _ (List.mem_append_right _ ((show _ ∈ my_182_2 from List.mem_of_getElem? (i := 24) rfl))))
theorem cd_182_248 : mt_cd 182 248 = some (.getfield 445) := mt_cd_of (q := (248, .getfield 445, 3)) mq_182 ci_182 (List.mem_append_right _ (List.mem_append_right _ ((show _ ∈ my_182_2 from List.mem_of_getElem? (i := 25) rfl))))
theorem cd_182_251 : mt_cd 182 251 = some (.getfield 463) := mt_cd_of (q := (251, .getfield 463, 3)) mq_182 ci_182 (List.mem_append_right _ (List.mem_append_right _ ((show _ ∈ my_182_2 from List.mem_of_getElem? (i := 26) rfl))))
theorem cd_182_254 : mt_cd 182 254 = some (.aload_n 0) := mt_cd_of (q := (254, .aload_n 0, 1)) mq_182 ci_182 (List.mem_append_right _ (List.mem_append_right _ ((show _ ∈ my_182_2 from List.mem_of_getElem? (i := 27) rfl))))
theorem cd_182_255 : mt_cd 182 255 = some (.getfield 80) := mt_cd_of (q := (255, .getfield 80, 3)) mq_182 ci_182 (List.mem_append_right _ (List.mem_append_right _ ((show _ ∈ my_182_2 from List.mem_of_getElem? (i := 28) rfl))))
theorem cd_182_258 : mt_cd 182 258 = some (.iload_n 3) := mt_cd_of (q := (258, .iload_n 3, 1)) mq_182 ci_182 (List.mem_append_right _ (List.mem_append_right _ ((show _ ∈ my_182_2 from List.mem_of_getElem? (i := 29) rfl))))
theorem cd_182_259 : mt_cd 182 259 = some (.iaload) := mt_cd_of (q := (259, .iaload, 1)) mq_182 ci_182 (List.mem_append_right _ (List.mem_append_right _ ((show _ ∈ my_182_2 from List.mem_of_getElem? (i := 30) rfl))))
theorem cd_182_260 : mt_cd 182 260 = some (.aload_n 0) := mt_cd_of (q := (260, .aload_n 0, 1)) mq_182 ci_182 (List.mem_append_right _ (List.mem_append_right _ ((show _ ∈ my_182_2 from List.mem_of_getElem? (i := 31) rfl))))
theorem cd_182_261 : mt_cd 182 261 = some (.getfield 190) := mt_cd_of (q := (261, .getfield 190, 3)) mq_182 ci_182 (List.mem_append_right _ (List.mem_append_right _ ((show _ ∈ my_182_2 from List.mem_of_getElem? (i := 32) rfl))))
theorem cd_182_264 : mt_cd 182 264 = some (.iload_n 1) := mt_cd_of (q := (264, .iload_n 1, 1)) mq_182 ci_182 (List.mem_append_right _ (List.mem_append_right _ ((show _ ∈ my_182_2 from List.mem_of_getElem? (i := 33) rfl))))
theorem cd_182_265 : mt_cd 182 265 = some (.laload) := mt_cd_of (q := (265, .laload, 1)) mq_182 ci_182 (List.mem_append_right _ (List.mem_append_right _ ((show _ ∈ my_182_2 from List.mem_of_getElem? (i := 34) rfl))))
theorem cd_182_266 : mt_cd 182 266 = some (.lastore) := mt_cd_of (q := (266, .lastore, 1)) mq_182 ci_182 (List.mem_append_right _ (List.mem_append_right _ ((show _ ∈ my_182_2 from List.mem_of_getElem? (i := 35) rfl))))
theorem cd_182_267 : mt_cd 182 267 = some (.aload_n 0) := mt_cd_of (q := (267, .aload_n 0, 1)) mq_182 ci_182 (List.mem_append_right _ (List.mem_append_right _ ((show _ ∈ my_182_2 from List.mem_of_getElem? (i := 36) rfl))))
theorem cd_182_268 : mt_cd 182 268 = some (.getfield 445) := mt_cd_of (q := (268, .getfield 445, 3)) mq_182 ci_182 (List.mem_append_right _ (List.mem_append_right _ ((show _ ∈ my_182_2 from List.mem_of_getElem? (i := 37) rfl))))
theorem cd_182_271 : mt_cd 182 271 = some (.aload_n 0) := mt_cd_of (q := (271, .aload_n 0, 1)) mq_182 ci_182 (List.mem_append_right _ (List.mem_append_right _ ((show _ ∈ my_182_2 from List.mem_of_getElem? (i := 38) rfl))))
theorem cd_182_272 : mt_cd 182 272 = some (.getfield 98) := mt_cd_of (q := (272, .getfield 98, 3)) mq_182 ci_182 (List.mem_append_right _ (List.mem_append_right _ ((show _ ∈ my_182_2 from List.mem_of_getElem? (i := 39) rfl))))
theorem cd_182_275 : mt_cd 182 275 = some (.iload_n 3) := mt_cd_of (q := (275, .iload_n 3, 1)) mq_182 ci_182 (List.mem_append_right _ (List.mem_append_right _ ((show _ ∈ my_182_2 from List.mem_of_getElem? (i := 40) rfl))))
theorem cd_182_276 : mt_cd 182 276 = some (.iaload) := mt_cd_of (q := (276, .iaload, 1)) mq_182 ci_182 (List.mem_append_right _ (List.mem_append_right _ ((show _ ∈ my_182_2 from List.mem_of_getElem? (i := 41) rfl))))
theorem cd_182_277 : mt_cd 182 277 = some (.putfield 496) := mt_cd_of (q := (277, .putfield 496, 3)) mq_182 ci_182 (List.mem_append_right _ (List.mem_append_right _ ((show _ ∈ my_182_2 from List.mem_of_getElem? (i := 42) rfl))))
theorem cd_182_280 : mt_cd 182 280 = some (.iconst 0) := mt_cd_of (q := (280, .iconst 0, 1)) mq_182 ci_182 (List.mem_append_right _ (List.mem_append_right _ ((show _ ∈ my_182_2 from List.mem_of_getElem? (i := 43) rfl))))
theorem cd_182_281 : mt_cd 182 281 = some (.ireturn) := mt_cd_of (q := (281, .ireturn, 1)) mq_182 ci_182 (List.mem_append_right _ (List.mem_append_right _ ((show _ ∈ my_182_2 from List.mem_of_getElem? (i := 44) rfl))))
theorem cd_182_282 : mt_cd 182 282 = some (.aload_n 0) := mt_cd_of (q := (282, .aload_n 0, 1)) mq_182 ci_182 (List.mem_append_right _ (List.mem_append_right _ ((show _ ∈ my_182_2 from List.mem_of_getElem? (i := 45) rfl))))
theorem cd_182_283 : mt_cd 182 283 = some (.getfield 138) := mt_cd_of (q := (283, .getfield 138, 3)) mq_182 ci_182 (List.mem_append_right _ (List.mem_append_right _ ((show _ ∈ my_182_2 from List.mem_of_getElem? (i := 46) rfl))))
theorem cd_182_286 : mt_cd 182 286 = some (.iload_n 3) := mt_cd_of (q := (286, .iload_n 3, 1)) mq_182 ci_182 (List.mem_append_right _ (List.mem_append_right _ ((show _ ∈ my_182_2 from List.mem_of_getElem? (i := 47) rfl))))
theorem cd_182_287 : mt_cd 182 287 = some (.iaload) := mt_cd_of (q := (287, .iaload, 1)) mq_182 ci_182 (List.mem_append_right _ (List.mem_append_right _ ((show _ ∈ my_182_2 from List.mem_of_getElem? (i := 48) rfl))))
theorem cd_182_288 : mt_cd 182 288 = some (.istore_n 3) := mt_cd_of (q := (288, .istore_n 3, 1)) mq_182 ci_182 (List.mem_append_right _ (List.mem_append_right _ ((show _ ∈ my_182_2 from List.mem_of_getElem? (i := 49) rfl))))
theorem cd_182_289 : mt_cd 182 289 = some (.goto (-262)) := mt_cd_of (q := (289, .goto (-262), 3)) mq_182 ci_182 (List.mem_append_right _ (List.mem_append_right _ ((show _ ∈ my_182_2 from List.mem_of_getElem? (i := 50) rfl))))
theorem cd_182_292 : mt_cd 182 292 = some (.iconst 4) := mt_cd_of (q := (292, .iconst 4, 1)) mq_182 ci_182 (List.mem_append_right _ (List.mem_append_right _ ((show _ ∈ my_182_2 from List.mem_of_getElem? (i := 51) rfl))))
theorem cd_182_293 : mt_cd 182 293 = some (.ireturn) := mt_cd_of (q := (293, .ireturn, 1)) mq_182 ci_182 (List.mem_append_right _ (List.mem_append_right _ ((show _ ∈ my_182_2 from List.mem_of_getElem? (i := 52) rfl))))
theorem b_182_0 {d : Nat} {Q : (Option Value ⊕ Nat) → mi_H → Prop} (n sl : Nat) (f : Nat → mi_C) {l1 : Nat} {l2 : Int32} {o3 : Option Value} {o4 : Option Value} {o5 : Option Value} {o6 : Option Value} {o7 : Option Value} {o8 : Option Value} {o9 : Option Value} {fs10 : List Value} {x13 : Nat} {fs15 : List Value} {x18 : Int32} {fs20 : List Value} {x23 : Nat} (m25 i25 : Nat) (g25 : Nat → Int32) (h11 : f l1 = .inr (12, fs10)) (h12 : l1 < n) (h14 : fs10[43]? = some (.ref x13)) (h16 : f x13 = .inr (13, fs15)) (h17 : x13 < n) (h19 : fs15[0]? = some (.int x18)) (h21 : f l1 = .inr (12, fs20)) (h22 : l1 < n) (h24 : fs20[12]? = some (.ref x23)) (h26 : f x23 = .inl (0, m25, .inl g25)) (h27 : x23 < n ∨ x23 = mi_SC) (h28 : mi_ix x18 m25 i25) (h29 : (g25 i25) = 4 → mi_W d 182 20 [some (.ref l1), some (.int l2), some (.int x18), o4, o5, o6, o7, o8, o9] [] (n, sl, f) Q) (h30 : ¬ ((g25 i25) = 4) → mi_W d 182 18 [some (.ref l1), some (.int l2), some (.int x18), o4, o5, o6, o7, o8, o9] [] (n, sl, f) Q) : mi_W d 182 0 [some (.ref l1), some (.int l2), o3, o4, o5, o6, o7, o8, o9] [] (n, sl, f) Q := by
  refine w_aload_n cd_182_0 rfl ?_
  refine w_getfield cd_182_1 (show mt_f 12 445 = some (12, 43) by decide +kernel) h11 h12 h14 ?_
  refine w_getfield cd_182_4 (show mt_f 12 496 = some (13, 0) by decide +kernel) h16 h17 h19 ?_
  refine w_istore_n (ls' := [some (.ref l1), some (.int l2), some (.int x18), o4, o5, o6, o7, o8, o9]) cd_182_7 (Nat.le_of_ble_eq_true rfl) rfl ?_
  refine w_aload_n cd_182_8 rfl ?_
  refine w_getfield cd_182_9 (show mt_f 12 77 = some (12, 12) by decide +kernel) h21 h22 h24 ?_
  refine w_iload_n cd_182_12 rfl ?_
  refine w_iaload cd_182_13 h26 h27 h28 ?_
  refine w_iconst (v := 4) cd_182_14 (by decide) ?_
  exact w_if_icmpeq cd_182_15 (by decide) h29 h30
theorem b_182_18 {d : Nat} {Q : (Option Value ⊕ Nat) → mi_H → Prop} (n sl : Nat) (f : Nat → mi_C) {l1 : Nat} {l2 : Int32} {l3 : Int32} {o4 : Option Value} {o5 : Option Value} {o6 : Option Value} {o7 : Option Value} {o8 : Option Value} {o9 : Option Value} (h10 : Q (.inl (some (.int 4))) (n, sl, f)) : mi_W d 182 18 [some (.ref l1), some (.int l2), some (.int l3), o4, o5, o6, o7, o8, o9] [] (n, sl, f) Q := by
  refine w_iconst (v := 4) cd_182_18 (by decide) ?_
  exact w_ireturn_i cd_182_19 (by decide +kernel) h10
theorem b_182_20 {d : Nat} {Q : (Option Value ⊕ Nat) → mi_H → Prop} (n sl : Nat) (f : Nat → mi_C) {l1 : Nat} {l2 : Int32} {l3 : Int32} {o4 : Option Value} {o5 : Option Value} {o6 : Option Value} {o7 : Option Value} {o8 : Option Value} {o9 : Option Value} {fs10 : List Value} {x13 : Nat} (m15 i15 : Nat) (g15 : Nat → Int32) (h11 : f l1 = .inr (12, fs10)) (h12 : l1 < n) (h14 : fs10[17]? = some (.ref x13)) (h16 : f x13 = .inl (0, m15, .inl g15)) (h17 : x13 < n ∨ x13 = mi_SC) (h18 : mi_ix l3 m15 i15) (h19 : mi_W d 182 27 [some (.ref l1), some (.int l2), some (.int l3), some (.int (g15 i15)), o5, o6, o7, o8, o9] [] (n, sl, f) Q) : mi_W d 182 20 [some (.ref l1), some (.int l2), some (.int l3), o4, o5, o6, o7, o8, o9] [] (n, sl, f) Q := by
  refine w_aload_n cd_182_20 rfl ?_
  refine w_getfield cd_182_21 (show mt_f 12 92 = some (12, 17) by decide +kernel) h11 h12 h14 ?_
  refine w_iload_n cd_182_24 rfl ?_
  refine w_iaload cd_182_25 h16 h17 h18 ?_
  refine w_istore_n (ls' := [some (.ref l1), some (.int l2), some (.int l3), some (.int (g15 i15)), o5, o6, o7, o8, o9]) cd_182_26 (Nat.le_of_ble_eq_true rfl) rfl ?_
  exact h19
theorem b_182_27 {d : Nat} {Q : (Option Value ⊕ Nat) → mi_H → Prop} (n sl : Nat) (f : Nat → mi_C) {l1 : Nat} {l2 : Int32} {l3 : Int32} {l4 : Int32} {o5 : Option Value} {o6 : Option Value} {o7 : Option Value} {o8 : Option Value} {o9 : Option Value} (h10 : l4 < (0 : Int32) → mi_W d 182 292 [some (.ref l1), some (.int l2), some (.int l3), some (.int l4), o5, o6, o7, o8, o9] [] (n, sl, f) Q) (h11 : ¬ (l4 < (0 : Int32)) → mi_W d 182 31 [some (.ref l1), some (.int l2), some (.int l3), some (.int l4), o5, o6, o7, o8, o9] [] (n, sl, f) Q) : mi_W d 182 27 [some (.ref l1), some (.int l2), some (.int l3), some (.int l4), o5, o6, o7, o8, o9] [] (n, sl, f) Q := by
  refine w_iload_n cd_182_27 rfl ?_
  exact w_iflt cd_182_28 (by decide) h10 h11
theorem b_182_31 {d : Nat} {Q : (Option Value ⊕ Nat) → mi_H → Prop} (n sl : Nat) (f : Nat → mi_C) {l1 : Nat} {l2 : Int32} {l3 : Int32} {l4 : Int32} {o5 : Option Value} {o6 : Option Value} {o7 : Option Value} {o8 : Option Value} {o9 : Option Value} {fs10 : List Value} (h11 : f l1 = .inr (12, fs10)) (h12 : l1 < n) (h13 : mi_W d 183 0 (mi_en 5 [.ref l1, .int l4, .int l2]) [] (n, sl, f) (mi_Kc d 182 34 [some (.ref l1), some (.int l2), some (.int l3), some (.int l4), o5, o6, o7, o8, o9] [] Q)) : mi_W (d + 1) 182 31 [some (.ref l1), some (.int l2), some (.int l3), some (.int l4), o5, o6, o7, o8, o9] [] (n, sl, f) Q := by
  refine w_aload_n cd_182_31 rfl ?_
  refine w_iload_n cd_182_32 rfl ?_
  refine w_iload_n cd_182_33 rfl ?_
  exact w_invokevirtual cd_182_34 (show mt_m 12 509 = some (183, 0) by decide +kernel) (rest := []) rfl (as := [.ref l1, .int l4, .int l2]) rfl h11 (Or.inl h12) ⟨Nat.le_of_ble_eq_true rfl, Nat.le_of_ble_eq_true rfl, Nat.le_of_ble_eq_true rfl⟩ h13
theorem b_182_37 {d : Nat} {Q : (Option Value ⊕ Nat) → mi_H → Prop} (n sl : Nat) (f : Nat → mi_C) {l1 : Nat} {l2 : Int32} {l3 : Int32} {l4 : Int32} {o5 : Option Value} {o6 : Option Value} {o7 : Option Value} {o8 : Option Value} {o9 : Option Value} {s10 : Int32} (h11 : s10 ≤ 1 → mi_W d 182 48 [some (.ref l1), some (.int l2), some (.int l3), some (.int l4), some (.int s10), o6, o7, o8, o9] [] (n, sl, f) Q) (h12 : ¬ (s10 ≤ 1) → mi_W d 182 45 [some (.ref l1), some (.int l2), some (.int l3), some (.int l4), some (.int s10), o6, o7, o8, o9] [] (n, sl, f) Q) : mi_W d 182 37 [some (.ref l1), some (.int l2), some (.int l3), some (.int l4), o5, o6, o7, o8, o9] [.int s10] (n, sl, f) Q := by
  refine w_istore (ls' := [some (.ref l1), some (.int l2), some (.int l3), some (.int l4), some (.int s10), o6, o7, o8, o9]) cd_182_37 (Nat.le_of_ble_eq_true rfl) rfl ?_
  refine w_iload cd_182_39 rfl ?_
  refine w_iconst (v := 1) cd_182_41 (by decide) ?_
  exact w_if_icmple cd_182_42 (by decide) h11 h12
theorem b_182_45 {d : Nat} {Q : (Option Value ⊕ Nat) → mi_H → Prop} (n sl : Nat) (f : Nat → mi_C) {l1 : Nat} {l2 : Int32} {l3 : Int32} {l4 : Int32} {l5 : Int32} {o6 : Option Value} {o7 : Option Value} {o8 : Option Value} {o9 : Option Value} (h10 : Q (.inl (some (.int l5))) (n, sl, f)) : mi_W d 182 45 [some (.ref l1), some (.int l2), some (.int l3), some (.int l4), some (.int l5), o6, o7, o8, o9] [] (n, sl, f) Q := by
  refine w_iload cd_182_45 rfl ?_
  exact w_ireturn_i cd_182_47 (by decide +kernel) h10
theorem b_182_48 {d : Nat} {Q : (Option Value ⊕ Nat) → mi_H → Prop} (n sl : Nat) (f : Nat → mi_C) {l1 : Nat} {l2 : Int32} {l3 : Int32} {l4 : Int32} {l5 : Int32} {o6 : Option Value} {o7 : Option Value} {o8 : Option Value} {o9 : Option Value} (h10 : ¬ l5 = (0 : Int32) → mi_W d 182 56 [some (.ref l1), some (.int l2), some (.int l3), some (.int l4), some (.int l5), o6, o7, o8, o9] [] (n, sl, f) Q) (h11 : ¬ (¬ l5 = (0 : Int32)) → mi_W d 182 53 [some (.ref l1), some (.int l2), some (.int l3), some (.int l4), some (.int l5), o6, o7, o8, o9] [] (n, sl, f) Q) : mi_W d 182 48 [some (.ref l1), some (.int l2), some (.int l3), some (.int l4), some (.int l5), o6, o7, o8, o9] [] (n, sl, f) Q := by
  refine w_iload cd_182_48 rfl ?_
  exact w_ifne cd_182_50 (by decide) h10 h11
theorem b_182_53 {d : Nat} {Q : (Option Value ⊕ Nat) → mi_H → Prop} (n sl : Nat) (f : Nat → mi_C) {l1 : Nat} {l2 : Int32} {l3 : Int32} {l4 : Int32} {l5 : Int32} {o6 : Option Value} {o7 : Option Value} {o8 : Option Value} {o9 : Option Value} (h10 : mi_W d 182 282 [some (.ref l1), some (.int l2), some (.int l3), some (.int l4), some (.int l5), o6, o7, o8, o9] [] (n, sl, f) Q) : mi_W d 182 53 [some (.ref l1), some (.int l2), some (.int l3), some (.int l4), some (.int l5), o6, o7, o8, o9] [] (n, sl, f) Q := by
  exact w_goto cd_182_53 (by decide) h10
theorem b_182_56 {d : Nat} {Q : (Option Value ⊕ Nat) → mi_H → Prop} (n sl : Nat) (f : Nat → mi_C) {l1 : Nat} {l2 : Int32} {l3 : Int32} {l4 : Int32} {l5 : Int32} {o6 : Option Value} {o7 : Option Value} {o8 : Option Value} {o9 : Option Value} {fs10 : List Value} {x13 : Nat} (m15 i15 : Nat) (g15 : Nat → Int32) (h11 : f l1 = .inr (12, fs10)) (h12 : l1 < n) (h14 : fs10[12]? = some (.ref x13)) (h16 : f x13 = .inl (0, m15, .inl g15)) (h17 : x13 < n ∨ x13 = mi_SC) (h18 : mi_ix l4 m15 i15) (h19 : ¬ (g15 i15) = 7 → mi_W d 182 221 [some (.ref l1), some (.int l2), some (.int l3), some (.int l4), some (.int l5), o6, o7, o8, o9] [] (n, sl, f) Q) (h20 : ¬ (¬ (g15 i15) = 7) → mi_W d 182 67 [some (.ref l1), some (.int l2), some (.int l3), some (.int l4), some (.int l5), o6, o7, o8, o9] [] (n, sl, f) Q) : mi_W d 182 56 [some (.ref l1), some (.int l2), some (.int l3), some (.int l4), some (.int l5), o6, o7, o8, o9] [] (n, sl, f) Q := by
  refine w_aload_n cd_182_56 rfl ?_
  refine w_getfield cd_182_57 (show mt_f 12 77 = some (12, 12) by decide +kernel) h11 h12 h14 ?_
  refine w_iload_n cd_182_60 rfl ?_
  refine w_iaload cd_182_61 h16 h17 h18 ?_
  refine w_bipush (v := 7) cd_182_62 (by decide) ?_
  exact w_if_icmpne cd_182_64 (by decide) h19 h20
theorem b_182_67 {d : Nat} {Q : (Option Value ⊕ Nat) → mi_H → Prop} (n sl : Nat) (f : Nat → mi_C) {l1 : Nat} {l2 : Int32} {l3 : Int32} {l4 : Int32} {l5 : Int32} {o6 : Option Value} {o7 : Option Value} {o8 : Option Value} {o9 : Option Value} {fs10 : List Value} {x13 : Nat} (m15 i15 : Nat) (g15 : Nat → Int64) {fs19 : List Value} {x22 : Nat} (m24 i24 : Nat) (g24 : Nat → Int32) {fs28 : List Value} {x31 : Nat} (m33 i33 : Nat) (g33 : Nat → Int32) {fs37 : List Value} {x40 : Nat} (m42 i42 : Nat) (g42 : Nat → Int32) {fs46 : List Value} {x49 : Nat} (m51 i51 : Nat) (g51 : Nat → Int32) (h11 : f l1 = .inr (12, fs10)) (h12 : l1 < n) (h14 : fs10[64]? = some (.ref x13)) (h16 : f x13 = .inl (3, m15, .inr (.inl g15))) (h17 : x13 < n) (h18 : mi_ix l2 m15 i15) (h20 : f l1 = .inr (12, fs19)) (h21 : l1 < n) (h23 : fs19[13]? = some (.ref x22)) (h25 : f x22 = .inl (0, m24, .inl g24)) (h26 : x22 < n ∨ x22 = mi_SC) (h27 : mi_ix l4 m24 i24) (h29 : f l1 = .inr (12, fs28)) (h30 : l1 < n) (h32 : fs28[15]? = some (.ref x31)) (h34 : f x31 = .inl (0, m33, .inl g33)) (h35 : x31 < n ∨ x31 = mi_SC) (h36 : mi_ix l4 m33 i33) (h38 : f l1 = .inr (12, fs37)) (h39 : l1 < n) (h41 : fs37[14]? = some (.ref x40)) (h43 : f x40 = .inl (0, m42, .inl g42)) (h44 : x40 < n ∨ x40 = mi_SC) (h45 : mi_ix l4 m42 i42) (h47 : f l1 = .inr (12, fs46)) (h48 : l1 < n) (h50 : fs46[15]? = some (.ref x49)) (h52 : f x49 = .inl (0, m51, .inl g51)) (h53 : x49 < n ∨ x49 = mi_SC) (h54 : mi_ix l4 m51 i51) (h55 : (0 : Int32) < (lg_cmp (g15 i15) 0) → mi_W d 182 125 [some (.ref l1), some (.int l2), some (.int l3), some (.int l4), some (.int l5), some (.long (g15 i15)), none, some (.int ((4 * (g24 i24)) + (g33 i33))), some (.int ((4 * (g42 i42)) + (g51 i51)))] [] (n, sl, f) Q) (h56 : ¬ ((0 : Int32) < (lg_cmp (g15 i15) 0)) → mi_W d 182 116 [some (.ref l1), some (.int l2), some (.int l3), some (.int l4), some (.int l5), some (.long (g15 i15)), none, some (.int ((4 * (g24 i24)) + (g33 i33))), some (.int ((4 * (g42 i42)) + (g51 i51)))] [] (n, sl, f) Q) : mi_W d 182 67 [some (.ref l1), some (.int l2), some (.int l3), some (.int l4), some (.int l5), o6, o7, o8, o9] [] (n, sl, f) Q := by
  refine w_aload_n cd_182_67 rfl ?_
  refine w_getfield cd_182_68 (show mt_f 12 190 = some (12, 64) by decide +kernel) h11 h12 h14 ?_
  refine w_iload_n cd_182_71 rfl ?_
  refine w_laload cd_182_72 h16 h17 h18 ?_
  refine w_lstore (ls' := [some (.ref l1), some (.int l2), some (.int l3), some (.int l4), some (.int l5), some (.long (g15 i15)), none, o8, o9]) cd_182_73 (Nat.le_of_ble_eq_true rfl) rfl ?_
  refine w_iconst (v := 4) cd_182_75 (by decide) ?_
  refine w_aload_n cd_182_76 rfl ?_
  refine w_getfield cd_182_77 (show mt_f 12 80 = some (12, 13) by decide +kernel) h20 h21 h23 ?_
  refine w_iload_n cd_182_80 rfl ?_
  refine w_iaload cd_182_81 h25 h26 h27 ?_
  refine w_imul cd_182_82 ?_
  refine w_aload_n cd_182_83 rfl ?_
  refine w_getfield cd_182_84 (show mt_f 12 86 = some (12, 15) by decide +kernel) h29 h30 h32 ?_
  refine w_iload_n cd_182_87 rfl ?_
  refine w_iaload cd_182_88 h34 h35 h36 ?_
  refine w_iadd cd_182_89 ?_
  refine w_istore (ls' := [some (.ref l1), some (.int l2), some (.int l3), some (.int l4), some (.int l5), some (.long (g15 i15)), none, some (.int ((4 * (g24 i24)) + (g33 i33))), o9]) cd_182_90 (Nat.le_of_ble_eq_true rfl) rfl ?_
  refine w_iconst (v := 4) cd_182_92 (by decide) ?_
  refine w_aload_n cd_182_93 rfl ?_
  refine w_getfield cd_182_94 (show mt_f 12 83 = some (12, 14) by decide +kernel) h38 h39 h41 ?_
  refine w_iload_n cd_182_97 rfl ?_
  refine w_iaload cd_182_98 h43 h44 h45 ?_
  refine w_imul cd_182_99 ?_
  refine w_aload_n cd_182_100 rfl ?_
  refine w_getfield cd_182_101 (show mt_f 12 86 = some (12, 15) by decide +kernel) h47 h48 h50 ?_
  refine w_iload_n cd_182_104 rfl ?_
  refine w_iaload cd_182_105 h52 h53 h54 ?_
  refine w_iadd cd_182_106 ?_
  refine w_istore (ls' := [some (.ref l1), some (.int l2), some (.int l3), some (.int l4), some (.int l5), some (.long (g15 i15)), none, some (.int ((4 * (g24 i24)) + (g33 i33))), some (.int ((4 * (g42 i42)) + (g51 i51)))]) cd_182_107 (Nat.le_of_ble_eq_true rfl) rfl ?_
  refine w_lload cd_182_109 rfl ?_
  refine w_lconst (lv := 0) cd_182_111 (by decide) ?_
  refine w_lcmp cd_182_112 ?_
  exact w_ifgt cd_182_113 (by decide) h55 h56
theorem b_182_116 {d : Nat} {Q : (Option Value ⊕ Nat) → mi_H → Prop} (n sl : Nat) (f : Nat → mi_C) {l1 : Nat} {l2 : Int32} {l3 : Int32} {l4 : Int32} {l5 : Int32} {l6 : Int64} {l7 : Int32} {l8 : Int32} {fs9 : List Value} (h10 : f l1 = .inr (12, fs9)) (h11 : l1 < n) (h12 : mi_W d 181 0 (mi_en 3 [.ref l1, .int 1, .int l4]) [] (n, sl, f) (mi_Kc d 182 119 [some (.ref l1), some (.int l2), some (.int l3), some (.int l4), some (.int l5), some (.long l6), none, some (.int l7), some (.int l8)] [] Q)) : mi_W (d + 1) 182 116 [some (.ref l1), some (.int l2), some (.int l3), some (.int l4), some (.int l5), some (.long l6), none, some (.int l7), some (.int l8)] [] (n, sl, f) Q := by
  refine w_aload_n cd_182_116 rfl ?_
  refine w_iconst (v := 1) cd_182_117 (by decide) ?_
  refine w_iload_n cd_182_118 rfl ?_
  exact w_invokevirtual cd_182_119 (show mt_m 12 502 = some (181, 0) by decide +kernel) (rest := []) rfl (as := [.ref l1, .int 1, .int l4]) rfl h10 (Or.inl h11) ⟨Nat.le_of_ble_eq_true rfl, Nat.le_of_ble_eq_true rfl, Nat.le_of_ble_eq_true rfl⟩ h12
theorem b_182_122 {d : Nat} {Q : (Option Value ⊕ Nat) → mi_H → Prop} (n sl : Nat) (f : Nat → mi_C) {l1 : Nat} {l2 : Int32} {l3 : Int32} {l4 : Int32} {l5 : Int32} {l6 : Int64} {l7 : Int32} {l8 : Int32} (h9 : mi_W d 182 218 [some (.ref l1), some (.int l2), some (.int l3), some (.int l4), some (.int l5), some (.long l6), none, some (.int l7), some (.int l8)] [] (n, sl, f) Q) : mi_W d 182 122 [some (.ref l1), some (.int l2), some (.int l3), some (.int l4), some (.int l5), some (.long l6), none, some (.int l7), some (.int l8)] [] (n, sl, f) Q := by
  exact w_goto cd_182_122 (by decide) h9
theorem b_182_125 {d : Nat} {Q : (Option Value ⊕ Nat) → mi_H → Prop} (n sl : Nat) (f : Nat → mi_C) {l1 : Nat} {l2 : Int32} {l3 : Int32} {l4 : Int32} {l5 : Int32} {l6 : Int64} {l7 : Int32} {l8 : Int32} {fs9 : List Value} {x12 : Int32} (h10 : f l1 = .inr (12, fs9)) (h11 : l1 < n) (h13 : fs9[57]? = some (.int x12)) (h14 : x12 = (0 : Int32) → mi_W d 182 156 [some (.ref l1), some (.int l2), some (.int l3), some (.int l4), some (.int l5), some (.long l6), none, some (.int l7), some (.int l8)] [] (n, sl, f) Q) (h15 : ¬ (x12 = (0 : Int32)) → mi_W d 182 132 [some (.ref l1), some (.int l2), some (.int l3), some (.int l4), some (.int l5), some (.long l6), none, some (.int l7), some (.int l8)] [] (n, sl, f) Q) : mi_W d 182 125 [some (.ref l1), some (.int l2), some (.int l3), some (.int l4), some (.int l5), some (.long l6), none, some (.int l7), some (.int l8)] [] (n, sl, f) Q := by
  refine w_aload_n cd_182_125 rfl ?_
  refine w_getfield cd_182_126 (show mt_f 12 513 = some (12, 57) by decide +kernel) h10 h11 h13 ?_
  exact w_ifeq cd_182_129 (by decide) h14 h15
theorem b_182_132 {d : Nat} {Q : (Option Value ⊕ Nat) → mi_H → Prop} (n sl : Nat) (f : Nat → mi_C) {l1 : Nat} {l2 : Int32} {l3 : Int32} {l4 : Int32} {l5 : Int32} {l6 : Int64} {l7 : Int32} {l8 : Int32} {fs9 : List Value} {x12 : Nat} (m14 i14 : Nat) (g14 : Nat → Int64) {fs18 : List Value} {x21 : Nat} (m23 i23 : Nat) (g23 : Nat → Int64) (h10 : f l1 = .inr (12, fs9)) (h11 : l1 < n) (h13 : fs9[56]? = some (.ref x12)) (h15 : f x12 = .inl (3, m14, .inr (.inl g14))) (h16 : x12 < n) (h17 : mi_ix l8 m14 i14) (h19 : f l1 = .inr (12, fs18)) (h20 : l1 < n) (h22 : fs18[55]? = some (.ref x21)) (h24 : f x21 = .inl (3, m23, .inr (.inl g23))) (h25 : x21 < n) (h26 : mi_ix l8 m23 i23) (h27 : (0 : Int32) ≤ (lg_cmp ((g14 i14) - (g23 i23)) l6) → mi_W d 182 156 [some (.ref l1), some (.int l2), some (.int l3), some (.int l4), some (.int l5), some (.long l6), none, some (.int l7), some (.int l8)] [] (n, sl, f) Q) (h28 : ¬ ((0 : Int32) ≤ (lg_cmp ((g14 i14) - (g23 i23)) l6)) → mi_W d 182 153 [some (.ref l1), some (.int l2), some (.int l3), some (.int l4), some (.int l5), some (.long l6), none, some (.int l7), some (.int l8)] [] (n, sl, f) Q) : mi_W d 182 132 [some (.ref l1), some (.int l2), some (.int l3), some (.int l4), some (.int l5), some (.long l6), none, some (.int l7), some (.int l8)] [] (n, sl, f) Q := by
  refine w_aload_n cd_182_132 rfl ?_
  refine w_getfield cd_182_133 (show mt_f 12 175 = some (12, 56) by decide +kernel) h10 h11 h13 ?_
  refine w_iload cd_182_136 rfl ?_
  refine w_laload cd_182_138 h15 h16 h17 ?_
  refine w_aload_n cd_182_139 rfl ?_
  refine w_getfield cd_182_140 (show mt_f 12 172 = some (12, 55) by decide +kernel) h19 h20 h22 ?_
  refine w_iload cd_182_143 rfl ?_
  refine w_laload cd_182_145 h24 h25 h26 ?_
  refine w_lsub cd_182_146 ?_
  refine w_lload cd_182_147 rfl ?_
  refine w_lcmp cd_182_149 ?_
  exact w_ifge cd_182_150 (by decide) h27 h28
theorem b_182_153 {d : Nat} {Q : (Option Value ⊕ Nat) → mi_H → Prop} (n sl : Nat) (f : Nat → mi_C) {l1 : Nat} {l2 : Int32} {l3 : Int32} {l4 : Int32} {l5 : Int32} {l6 : Int64} {l7 : Int32} {l8 : Int32} (h9 : Q (.inl (some (.int 7))) (n, sl, f)) : mi_W d 182 153 [some (.ref l1), some (.int l2), some (.int l3), some (.int l4), some (.int l5), some (.long l6), none, some (.int l7), some (.int l8)] [] (n, sl, f) Q := by
  refine w_bipush (v := 7) cd_182_153 (by decide) ?_
  exact w_ireturn_i cd_182_155 (by decide +kernel) h9
theorem b_182_156 {d : Nat} {Q : (Option Value ⊕ Nat) → mi_H → Prop} (n sl : Nat) (f : Nat → mi_C) {l1 : Nat} {l2 : Int32} {l3 : Int32} {l4 : Int32} {l5 : Int32} {l6 : Int64} {l7 : Int32} {l8 : Int32} {fs9 : List Value} {x12 : Nat} (m14 i14 : Nat) (g14 : Nat → Int64) (m18 i18 : Nat) (g18 : Nat → Int64) {fs22 : List Value} {x25 : Nat} {fs27 : List Value} {x30 : Nat} (m32 i32 : Nat) (g32 : Nat → Int64) (m36 i36 : Nat) (g36 : Nat → Int64) {fs40 : List Value} {x43 : Nat} {fs45 : List Value} {x48 : Nat} (m50 i50 : Nat) (g50 : Nat → Int64) (h10 : f l1 = .inr (12, fs9)) (h11 : l1 < n) (h13 : fs9[55]? = some (.ref x12)) (h15 : f x12 = .inl (3, m14, .inr (.inl g14))) (h16 : x12 < n) (h17 : mi_ix l8 m14 i14) (h19 : f x12 = .inl (3, m18, .inr (.inl g18))) (h20 : x12 < n) (h21 : mi_ix l8 m18 i18) (h23 : (va_up f x12 (.inl (3, m18, .inr (.inl (vp_updL g18 i18 ((g14 i14) + l6)))))) l1 = .inr (12, fs22)) (h24 : l1 < n) (h26 : fs22[43]? = some (.ref x25)) (h28 : (va_up f x12 (.inl (3, m18, .inr (.inl (vp_updL g18 i18 ((g14 i14) + l6)))))) x25 = .inr (13, fs27)) (h29 : x25 < n) (h31 : fs27[2]? = some (.ref x30)) (h33 : (va_up f x12 (.inl (3, m18, .inr (.inl (vp_updL g18 i18 ((g14 i14) + l6)))))) x30 = .inl (3, m32, .inr (.inl g32))) (h34 : x30 < n) (h35 : mi_ix l7 m32 i32) (h37 : (va_up f x12 (.inl (3, m18, .inr (.inl (vp_updL g18 i18 ((g14 i14) + l6)))))) x30 = .inl (3, m36, .inr (.inl g36))) (h38 : x30 < n) (h39 : mi_ix l7 m36 i36) (h41 : (va_up (va_up f x12 (.inl (3, m18, .inr (.inl (vp_updL g18 i18 ((g14 i14) + l6)))))) x30 (.inl (3, m36, .inr (.inl (vp_updL g36 i36 ((g32 i32) + l6)))))) l1 = .inr (12, fs40)) (h42 : l1 < n) (h44 : fs40[43]? = some (.ref x43)) (h46 : (va_up (va_up f x12 (.inl (3, m18, .inr (.inl (vp_updL g18 i18 ((g14 i14) + l6)))))) x30 (.inl (3, m36, .inr (.inl (vp_updL g36 i36 ((g32 i32) + l6)))))) x43 = .inr (13, fs45)) (h47 : x43 < n) (h49 : fs45[2]? = some (.ref x48)) (h51 : (va_up (va_up f x12 (.inl (3, m18, .inr (.inl (vp_updL g18 i18 ((g14 i14) + l6)))))) x30 (.inl (3, m36, .inr (.inl (vp_updL g36 i36 ((g32 i32) + l6)))))) x48 = .inl (3, m50, .inr (.inl g50))) (h52 : x48 < n) (h53 : mi_ix l7 m50 i50) (h54 : (0 : Int32) < (lg_cmp (g50 i50) 4611686018427387904) → mi_W d 182 215 [some (.ref l1), some (.int l2), some (.int l3), some (.int l4), some (.int l5), some (.long l6), none, some (.int l7), some (.int l8)] [] (n, sl, (va_up (va_up f x12 (.inl (3, m18, .inr (.inl (vp_updL g18 i18 ((g14 i14) + l6)))))) x30 (.inl (3, m36, .inr (.inl (vp_updL g36 i36 ((g32 i32) + l6))))))) Q) (h55 : ¬ ((0 : Int32) < (lg_cmp (g50 i50) 4611686018427387904)) → mi_W d 182 200 [some (.ref l1), some (.int l2), some (.int l3), some (.int l4), some (.int l5), some (.long l6), none, some (.int l7), some (.int l8)] [] (n, sl, (va_up (va_up f x12 (.inl (3, m18, .inr (.inl (vp_updL g18 i18 ((g14 i14) + l6)))))) x30 (.inl (3, m36, .inr (.inl (vp_updL g36 i36 ((g32 i32) + l6))))))) Q) : mi_W d 182 156 [some (.ref l1), some (.int l2), some (.int l3), some (.int l4), some (.int l5), some (.long l6), none, some (.int l7), some (.int l8)] [] (n, sl, f) Q := by
  refine w_aload_n cd_182_156 rfl ?_
  refine w_getfield cd_182_157 (show mt_f 12 172 = some (12, 55) by decide +kernel) h10 h11 h13 ?_
  refine w_iload cd_182_160 rfl ?_
  refine w_dup2_ir cd_182_162 ?_
  refine w_laload cd_182_163 h15 h16 h17 ?_
  refine w_lload cd_182_164 rfl ?_
  refine w_ladd cd_182_166 ?_
  refine w_lastore cd_182_167 h19 h20 h21 ?_
  refine w_aload_n cd_182_168 rfl ?_
  refine w_getfield cd_182_169 (show mt_f 12 445 = some (12, 43) by decide +kernel) h23 h24 h26 ?_
  refine w_getfield cd_182_172 (show mt_f 12 448 = some (13, 2) by decide +kernel) h28 h29 h31 ?_
  refine w_iload cd_182_175 rfl ?_
  refine w_dup2_ir cd_182_177 ?_
  refine w_laload cd_182_178 h33 h34 h35 ?_
  refine w_lload cd_182_179 rfl ?_
  refine w_ladd cd_182_181 ?_
  refine w_lastore cd_182_182 h37 h38 h39 ?_
  refine w_aload_n cd_182_183 rfl ?_
  refine w_getfield cd_182_184 (show mt_f 12 445 = some (12, 43) by decide +kernel) h41 h42 h44 ?_
  refine w_getfield cd_182_187 (show mt_f 12 448 = some (13, 2) by decide +kernel) h46 h47 h49 ?_
  refine w_iload cd_182_190 rfl ?_
  refine w_laload cd_182_192 h51 h52 h53 ?_
  refine w_ldc2_w (lv := 4611686018427387904) cd_182_193 (by decide +kernel) ?_
  refine w_lcmp cd_182_196 ?_
  exact w_ifgt cd_182_197 (by decide) h54 h55
theorem b_182_200 {d : Nat} {Q : (Option Value ⊕ Nat) → mi_H → Prop} (n sl : Nat) (f : Nat → mi_C) {l1 : Nat} {l2 : Int32} {l3 : Int32} {l4 : Int32} {l5 : Int32} {l6 : Int64} {l7 : Int32} {l8 : Int32} {fs9 : List Value} {x12 : Nat} {fs14 : List Value} {x17 : Nat} (m19 i19 : Nat) (g19 : Nat → Int64) (h10 : f l1 = .inr (12, fs9)) (h11 : l1 < n) (h13 : fs9[43]? = some (.ref x12)) (h15 : f x12 = .inr (13, fs14)) (h16 : x12 < n) (h18 : fs14[2]? = some (.ref x17)) (h20 : f x17 = .inl (3, m19, .inr (.inl g19))) (h21 : x17 < n) (h22 : mi_ix l7 m19 i19) (h23 : (0 : Int32) ≤ (lg_cmp (g19 i19) 0) → mi_W d 182 218 [some (.ref l1), some (.int l2), some (.int l3), some (.int l4), some (.int l5), some (.long l6), none, some (.int l7), some (.int l8)] [] (n, sl, f) Q) (h24 : ¬ ((0 : Int32) ≤ (lg_cmp (g19 i19) 0)) → mi_W d 182 215 [some (.ref l1), some (.int l2), some (.int l3), some (.int l4), some (.int l5), some (.long l6), none, some (.int l7), some (.int l8)] [] (n, sl, f) Q) : mi_W d 182 200 [some (.ref l1), some (.int l2), some (.int l3), some (.int l4), some (.int l5), some (.long l6), none, some (.int l7), some (.int l8)] [] (n, sl, f) Q := by
  refine w_aload_n cd_182_200 rfl ?_
  refine w_getfield cd_182_201 (show mt_f 12 445 = some (12, 43) by decide +kernel) h10 h11 h13 ?_
  refine w_getfield cd_182_204 (show mt_f 12 448 = some (13, 2) by decide +kernel) h15 h16 h18 ?_
  refine w_iload cd_182_207 rfl ?_
  refine w_laload cd_182_209 h20 h21 h22 ?_
  refine w_lconst (lv := 0) cd_182_210 (by decide) ?_
  refine w_lcmp cd_182_211 ?_
  exact w_ifge cd_182_212 (by decide) h23 h24
theorem b_182_215 {d : Nat} {Q : (Option Value ⊕ Nat) → mi_H → Prop} (n sl : Nat) (f : Nat → mi_C) {l1 : Nat} {l2 : Int32} {l3 : Int32} {l4 : Int32} {l5 : Int32} {l6 : Int64} {l7 : Int32} {l8 : Int32} (h9 : Q (.inl (some (.int 6))) (n, sl, f)) : mi_W d 182 215 [some (.ref l1), some (.int l2), some (.int l3), some (.int l4), some (.int l5), some (.long l6), none, some (.int l7), some (.int l8)] [] (n, sl, f) Q := by
  refine w_bipush (v := 6) cd_182_215 (by decide) ?_
  exact w_ireturn_i cd_182_217 (by decide +kernel) h9
theorem b_182_218 {d : Nat} {Q : (Option Value ⊕ Nat) → mi_H → Prop} (n sl : Nat) (f : Nat → mi_C) {l1 : Nat} {l2 : Int32} {l3 : Int32} {l4 : Int32} {l5 : Int32} {l6 : Int64} {l7 : Int32} {l8 : Int32} (h9 : mi_W d 182 267 [some (.ref l1), some (.int l2), some (.int l3), some (.int l4), some (.int l5), some (.long l6), none, some (.int l7), some (.int l8)] [] (n, sl, f) Q) : mi_W d 182 218 [some (.ref l1), some (.int l2), some (.int l3), some (.int l4), some (.int l5), some (.long l6), none, some (.int l7), some (.int l8)] [] (n, sl, f) Q := by
  exact w_goto cd_182_218 (by decide) h9
theorem b_182_221 {d : Nat} {Q : (Option Value ⊕ Nat) → mi_H → Prop} (n sl : Nat) (f : Nat → mi_C) {l1 : Nat} {l2 : Int32} {l3 : Int32} {l4 : Int32} {l5 : Int32} {o6 : Option Value} {o7 : Option Value} {o8 : Option Value} {o9 : Option Value} {fs10 : List Value} {x13 : Nat} (m15 i15 : Nat) (g15 : Nat → Int32) (h11 : f l1 = .inr (12, fs10)) (h12 : l1 < n) (h14 : fs10[12]? = some (.ref x13)) (h16 : f x13 = .inl (0, m15, .inl g15)) (h17 : x13 < n ∨ x13 = mi_SC) (h18 : mi_ix l4 m15 i15) (h19 : ¬ (g15 i15) = 8 → mi_W d 182 267 [some (.ref l1), some (.int l2), some (.int l3), some (.int l4), some (.int l5), o6, o7, o8, o9] [] (n, sl, f) Q) (h20 : ¬ (¬ (g15 i15) = 8) → mi_W d 182 232 [some (.ref l1), some (.int l2), some (.int l3), some (.int l4), some (.int l5), o6, o7, o8, o9] [] (n, sl, f) Q) : mi_W d 182 221 [some (.ref l1), some (.int l2), some (.int l3), some (.int l4), some (.int l5), o6, o7, o8, o9] [] (n, sl, f) Q := by
  refine w_aload_n cd_182_221 rfl ?_
  refine w_getfield cd_182_222 (show mt_f 12 77 = some (12, 12) by decide +kernel) h11 h12 h14 ?_
  refine w_iload_n cd_182_225 rfl ?_
  refine w_iaload cd_182_226 h16 h17 h18 ?_
  refine w_bipush (v := 8) cd_182_227 (by decide) ?_
  exact w_if_icmpne cd_182_229 (by decide) h19 h20
theorem b_182_232 {d : Nat} {Q : (Option Value ⊕ Nat) → mi_H → Prop} (n sl : Nat) (f : Nat → mi_C) {l1 : Nat} {l2 : Int32} {l3 : Int32} {l4 : Int32} {l5 : Int32} {o6 : Option Value} {o7 : Option Value} {o8 : Option Value} {o9 : Option Value} {fs10 : List Value} {x13 : Nat} {fs15 : List Value} {x18 : Nat} {fs20 : List Value} {x23 : Nat} (m25 i25 : Nat) (g25 : Nat → Int32) (m29 i29 : Nat) (g29 : Nat → Int32) {fs33 : List Value} {x36 : Nat} {fs38 : List Value} {x41 : Nat} {fs43 : List Value} {x46 : Nat} (m48 i48 : Nat) (g48 : Nat → Int32) {fs52 : List Value} {x55 : Nat} (m57 i57 : Nat) (g57 : Nat → Int64) (m61 i61 : Nat) (g61 : Nat → Int64) (h11 : f l1 = .inr (12, fs10)) (h12 : l1 < n) (h14 : fs10[43]? = some (.ref x13)) (h16 : f x13 = .inr (13, fs15)) (h17 : x13 < n) (h19 : fs15[5]? = some (.ref x18)) (h21 : f l1 = .inr (12, fs20)) (h22 : l1 < n) (h24 : fs20[13]? = some (.ref x23)) (h26 : f x23 = .inl (0, m25, .inl g25)) (h27 : x23 < n ∨ x23 = mi_SC) (h28 : mi_ix l4 m25 i25) (h30 : f x18 = .inl (2, m29, .inl g29)) (h31 : x18 < n) (h32 : mi_ix (g25 i25) m29 i29) (h34 : (va_up f x18 (.inl (2, m29, .inl (upd g29 i29 (vp_nar .boolean 1))))) l1 = .inr (12, fs33)) (h35 : l1 < n) (h37 : fs33[43]? = some (.ref x36)) (h39 : (va_up f x18 (.inl (2, m29, .inl (upd g29 i29 (vp_nar .boolean 1))))) x36 = .inr (13, fs38)) (h40 : x36 < n) (h42 : fs38[3]? = some (.ref x41)) (h44 : (va_up f x18 (.inl (2, m29, .inl (upd g29 i29 (vp_nar .boolean 1))))) l1 = .inr (12, fs43)) (h45 : l1 < n) (h47 : fs43[13]? = some (.ref x46)) (h49 : (va_up f x18 (.inl (2, m29, .inl (upd g29 i29 (vp_nar .boolean 1))))) x46 = .inl (0, m48, .inl g48)) (h50 : x46 < n ∨ x46 = mi_SC) (h51 : mi_ix l4 m48 i48) (h53 : (va_up f x18 (.inl (2, m29, .inl (upd g29 i29 (vp_nar .boolean 1))))) l1 = .inr (12, fs52)) (h54 : l1 < n) (h56 : fs52[64]? = some (.ref x55)) (h58 : (va_up f x18 (.inl (2, m29, .inl (upd g29 i29 (vp_nar .boolean 1))))) x55 = .inl (3, m57, .inr (.inl g57))) (h59 : x55 < n) (h60 : mi_ix l2 m57 i57) (h62 : (va_up f x18 (.inl (2, m29, .inl (upd g29 i29 (vp_nar .boolean 1))))) x41 = .inl (3, m61, .inr (.inl g61))) (h63 : x41 < n) (h64 : mi_ix (g48 i48) m61 i61) (h65 : mi_W d 182 267 [some (.ref l1), some (.int l2), some (.int l3), some (.int l4), some (.int l5), o6, o7, o8, o9] [] (n, sl, (va_up (va_up f x18 (.inl (2, m29, .inl (upd g29 i29 (vp_nar .boolean 1))))) x41 (.inl (3, m61, .inr (.inl (vp_updL g61 i61 (g57 i57))))))) Q) : mi_W d 182 232 [some (.ref l1), some (.int l2), some (.int l3), some (.int l4), some (.int l5), o6, o7, o8, o9] [] (n, sl, f) Q := by
  refine w_aload_n cd_182_232 rfl ?_
  refine w_getfield cd_182_233 (show mt_f 12 445 = some (12, 43) by decide +kernel) h11 h12 h14 ?_
  refine w_getfield cd_182_236 (show mt_f 12 459 = some (13, 5) by decide +kernel) h16 h17 h19 ?_
  refine w_aload_n cd_182_239 rfl ?_
  refine w_getfield cd_182_240 (show mt_f 12 80 = some (12, 13) by decide +kernel) h21 h22 h24 ?_
  refine w_iload_n cd_182_243 rfl ?_
  refine w_iaload cd_182_244 h26 h27 h28 ?_
  refine w_iconst (v := 1) cd_182_245 (by decide) ?_
  refine w_bastore2 cd_182_246 h30 h31 h32 ?_
  refine w_aload_n cd_182_247 rfl ?_
  refine w_getfield cd_182_248 (show mt_f 12 445 = some (12, 43) by decide +kernel) h34 h35 h37 ?_
  refine w_getfield cd_182_251 (show mt_f 12 463 = some (13, 3) by decide +kernel) h39 h40 h42 ?_
  refine w_aload_n cd_182_254 rfl ?_
  refine w_getfield cd_182_255 (show mt_f 12 80 = some (12, 13) by decide +kernel) h44 h45 h47 ?_
  refine w_iload_n cd_182_258 rfl ?_
  refine w_iaload cd_182_259 h49 h50 h51 ?_
  refine w_aload_n cd_182_260 rfl ?_
  refine w_getfield cd_182_261 (show mt_f 12 190 = some (12, 64) by decide +kernel) h53 h54 h56 ?_
  refine w_iload_n cd_182_264 rfl ?_
  refine w_laload cd_182_265 h58 h59 h60 ?_
  refine w_lastore cd_182_266 h62 h63 h64 ?_
  exact h65
theorem b_182_267 {d : Nat} {Q : (Option Value ⊕ Nat) → mi_H → Prop} (n sl : Nat) (f : Nat → mi_C) {l1 : Nat} {l2 : Int32} {l3 : Int32} {l4 : Int32} {l5 : Int32} {o6 : Option Value} {o7 : Option Value} {o8 : Option Value} {o9 : Option Value} {fs10 : List Value} {x13 : Nat} {fs15 : List Value} {x18 : Nat} (m20 i20 : Nat) (g20 : Nat → Int32) {fs24 : List Value} (h11 : f l1 = .inr (12, fs10)) (h12 : l1 < n) (h14 : fs10[43]? = some (.ref x13)) (h16 : f l1 = .inr (12, fs15)) (h17 : l1 < n) (h19 : fs15[19]? = some (.ref x18)) (h21 : f x18 = .inl (0, m20, .inl g20)) (h22 : x18 < n ∨ x18 = mi_SC) (h23 : mi_ix l4 m20 i20) (h25 : f x13 = .inr (13, fs24)) (h26 : x13 < n) (h27 : 0 < fs24.length) (h28 : Q (.inl (some (.int 0))) (n, sl, (va_up f x13 (.inr (13, fs24.set 0 (.int (g20 i20))))))) : mi_W d 182 267 [some (.ref l1), some (.int l2), some (.int l3), some (.int l4), some (.int l5), o6, o7, o8, o9] [] (n, sl, f) Q := by
  refine w_aload_n cd_182_267 rfl ?_
  refine w_getfield cd_182_268 (show mt_f 12 445 = some (12, 43) by decide +kernel) h11 h12 h14 ?_
  refine w_aload_n cd_182_271 rfl ?_
  refine w_getfield cd_182_272 (show mt_f 12 98 = some (12, 19) by decide +kernel) h16 h17 h19 ?_
  refine w_iload_n cd_182_275 rfl ?_
  refine w_iaload cd_182_276 h21 h22 h23 ?_
  refine w_putfield (w := .int (g20 i20)) cd_182_277 (show mt_f 12 496 = some (13, 0) by decide +kernel) h25 h26 ⟨h27, rfl, Or.inl (by decide)⟩ ?_
  refine w_iconst (v := 0) cd_182_280 (by decide) ?_
  exact w_ireturn_i cd_182_281 (by decide +kernel) h28
theorem b_182_282 {d : Nat} {Q : (Option Value ⊕ Nat) → mi_H → Prop} (n sl : Nat) (f : Nat → mi_C) {l1 : Nat} {l2 : Int32} {l3 : Int32} {l4 : Int32} {l5 : Int32} {o6 : Option Value} {o7 : Option Value} {o8 : Option Value} {o9 : Option Value} {fs10 : List Value} {x13 : Nat} (m15 i15 : Nat) (g15 : Nat → Int32) (h11 : f l1 = .inr (12, fs10)) (h12 : l1 < n) (h14 : fs10[39]? = some (.ref x13)) (h16 : f x13 = .inl (0, m15, .inl g15)) (h17 : x13 < n ∨ x13 = mi_SC) (h18 : mi_ix l4 m15 i15) (h19 : mi_W d 182 27 [some (.ref l1), some (.int l2), some (.int l3), some (.int (g15 i15)), some (.int l5), o6, o7, o8, o9] [] (n, sl, f) Q) : mi_W d 182 282 [some (.ref l1), some (.int l2), some (.int l3), some (.int l4), some (.int l5), o6, o7, o8, o9] [] (n, sl, f) Q := by
  refine w_aload_n cd_182_282 rfl ?_
  refine w_getfield cd_182_283 (show mt_f 12 138 = some (12, 39) by decide +kernel) h11 h12 h14 ?_
  refine w_iload_n cd_182_286 rfl ?_
  refine w_iaload cd_182_287 h16 h17 h18 ?_
  refine w_istore_n (ls' := [some (.ref l1), some (.int l2), some (.int l3), some (.int (g15 i15)), some (.int l5), o6, o7, o8, o9]) cd_182_288 (Nat.le_of_ble_eq_true rfl) rfl ?_
  exact w_goto cd_182_289 (by decide) h19
theorem b_182_292 {d : Nat} {Q : (Option Value ⊕ Nat) → mi_H → Prop} (n sl : Nat) (f : Nat → mi_C) {l1 : Nat} {l2 : Int32} {l3 : Int32} {l4 : Int32} {o5 : Option Value} {o6 : Option Value} {o7 : Option Value} {o8 : Option Value} {o9 : Option Value} (h10 : Q (.inl (some (.int 4))) (n, sl, f)) : mi_W d 182 292 [some (.ref l1), some (.int l2), some (.int l3), some (.int l4), o5, o6, o7, o8, o9] [] (n, sl, f) Q := by
  refine w_iconst (v := 4) cd_182_292 (by decide) ?_
  exact w_ireturn_i cd_182_293 (by decide +kernel) h10
/-! MarloweHostModel.fits(II)I -/
set_option maxRecDepth 100000 in
theorem mq_183 : mt_q 183 = my_183 := rfl
set_option maxRecDepth 100000 in
theorem ci_183 : mt_inc 0 my_183.cd = true := by decide +kernel
theorem cd_183_0 : mt_cd 183 0 = some (.aload_n 0) := mt_cd_of (q := (0, .aload_n 0, 1)) mq_183 ci_183 (List.mem_append_left _ (show _ ∈ my_183_0 from List.mem_of_getElem? (i := 0) rfl))
theorem cd_183_1 : mt_cd 183 1 = some (.iconst 0) := mt_cd_of (q := (1, .iconst 0, 1)) mq_183 ci_183 (List.mem_append_left _ (show _ ∈ my_183_0 from List.mem_of_getElem? (i := 1) rfl))
theorem cd_183_2 : mt_cd 183 2 = some (.putfield 441) := mt_cd_of (q := (2, .putfield 441, 3)) mq_183 ci_183 (List.mem_append_left _ (show _ ∈ my_183_0 from List.mem_of_getElem? (i := 2) rfl))
theorem cd_183_5 : mt_cd 183 5 = some (.aload_n 0) := mt_cd_of (q := (5, .aload_n 0, 1)) mq_183 ci_183 (List.mem_append_left _ (show _ ∈ my_183_0 from List.mem_of_getElem? (i := 3) rfl))
theorem cd_183_6 : mt_cd 183 6 = some (.getfield 178) := mt_cd_of (q := (6, .getfield 178, 3)) mq_183 ci_183 (List.mem_append_left _ (show _ ∈ my_183_0 from List.mem_of_getElem? (i := 4) rfl))
theorem cd_183_9 : mt_cd 183 9 = some (.iload_n 2) := mt_cd_of (q := (9, .iload_n 2, 1)) mq_183 ci_183 (List.mem_append_left _ (show _ ∈ my_183_0 from List.mem_of_getElem? (i := 5) rfl))
theorem cd_183_10 : mt_cd 183 10 = some (.iaload) := mt_cd_of (q := (10, .iaload, 1)) mq_183 ci_183 (List.mem_append_left _ (show _ ∈ my_183_0 from List.mem_of_getElem? (i := 6) rfl))
theorem cd_183_11 : mt_cd 183 11 = some (.aload_n 0) := mt_cd_of (q := (11, .aload_n 0, 1)) mq_183 ci_183 (List.mem_append_left _ (show _ ∈ my_183_0 from List.mem_of_getElem? (i := 7) rfl))
theorem cd_183_12 : mt_cd 183 12 = some (.getfield 77) := mt_cd_of (q := (12, .getfield 77, 3)) mq_183 ci_183 (List.mem_append_left _ (show _ ∈ my_183_0 from List.mem_of_getElem? (i := 8) rfl))
theorem cd_183_15 : mt_cd 183 15 = some (.iload_n 1) := mt_cd_of (q := (15, .iload_n 1, 1)) mq_183 ci_183 (List.mem_append_left _ (show _ ∈ my_183_0 from List.mem_of_getElem? (i := 9) rfl))
theorem cd_183_16 : mt_cd 183 16 = some (.iaload) := mt_cd_of (q := (16, .iaload, 1)) mq_183 ci_183 (List.mem_append_left _ (show _ ∈ my_183_0 from List.mem_of_getElem? (i := 10) rfl))
theorem cd_183_17 : mt_cd 183 17 = some (.if_icmp .eq 5) := mt_cd_of (q := (17, .if_icmp .eq 5, 3)) mq_183 ci_183 (List.mem_append_left _ (show _ ∈ my_183_0 from List.mem_of_getElem? (i := 11) rfl))
theorem cd_183_20 : mt_cd 183 20 = some (.iconst 0) := mt_cd_of (q := (20, .iconst 0, 1)) mq_183 ci_183 (List.mem_append_left _ (show _ ∈ my_183_0 from List.mem_of_getElem? (i := 12) rfl))
theorem cd_183_21 : mt_cd 183 21 = some (.ireturn) := mt_cd_of (q := (21, .ireturn, 1)) mq_183 ci_183 (List.mem_append_left _ (show _ ∈ my_183_0 from List.mem_of_getElem? (i := 13) rfl))
theorem cd_183_22 : mt_cd 183 22 = some (.aload_n 0) := mt_cd_of (q := (22, .aload_n 0, 1)) mq_183 ci_183 (List.mem_append_left _ (show _ ∈ my_183_0 from List.mem_of_getElem? (i := 14) rfl))
theorem cd_183_23 : mt_cd 183 23 = some (.getfield 77) := mt_cd_of (q := (23, .getfield 77, 3)) mq_183 ci_183 (List.mem_append_left _ (show _ ∈ my_183_0 from List.mem_of_getElem? (i := 15) rfl))
theorem cd_183_26 : mt_cd 183 26 = some (.iload_n 1) := mt_cd_of (q := (26, .iload_n 1, 1)) mq_183 ci_183 (List.mem_append_left _ (show _ ∈ my_183_0 from List.mem_of_getElem? (i := 16) rfl))
theorem cd_183_27 : mt_cd 183 27 = some (.iaload) := mt_cd_of (q := (27, .iaload, 1)) mq_183 ci_183 (List.mem_append_left _ (show _ ∈ my_183_0 from List.mem_of_getElem? (i := 17) rfl))
theorem cd_183_28 : mt_cd 183 28 = some (.bipush 9) := mt_cd_of (q := (28, .bipush 9, 2)) mq_183 ci_183 (List.mem_append_left _ (show _ ∈ my_183_0 from List.mem_of_getElem? (i := 18) rfl))
theorem cd_183_30 : mt_cd 183 30 = some (.if_icmp .ne 36) := mt_cd_of (q := (30, .if_icmp .ne 36, 3)) mq_183 ci_183 (List.mem_append_left _ (show _ ∈ my_183_0 from List.mem_of_getElem? (i := 19) rfl))
theorem cd_183_33 : mt_cd 183 33 = some (.aload_n 0) := mt_cd_of (q := (33, .aload_n 0, 1)) mq_183 ci_183 (List.mem_append_left _ (show _ ∈ my_183_0 from List.mem_of_getElem? (i := 20) rfl))
theorem cd_183_34 : mt_cd 183 34 = some (.aload_n 0) := mt_cd_of (q := (34, .aload_n 0, 1)) mq_183 ci_183 (List.mem_append_left _ (show _ ∈ my_183_0 from List.mem_of_getElem? (i := 21) rfl))
theorem cd_183_35 : mt_cd 183 35 = some (.getfield 89) := mt_cd_of (q := (35, .getfield 89, 3)) mq_183 ci_183 (List.mem_append_left _ (show _ ∈ my_183_0 from List.mem_of_getElem? (i := 22) rfl))
theorem cd_183_38 : mt_cd 183 38 = some (.iload_n 1) := mt_cd_of (q := (38, .iload_n 1, 1)) mq_183 ci_183 (List.mem_append_left _ (show _ ∈ my_183_0 from List.mem_of_getElem? (i := 23) rfl))
theorem cd_183_39 : mt_cd 183 39 = some (.iaload) := mt_cd_of (q := (39, .iaload, 1)) mq_183 ci_183 (List.mem_append_left _ (show _ ∈ my_183_0 from List.mem_of_getElem? (i := 24) rfl))
theorem cd_183_40 : mt_cd 183 40 = some (.invokevirtual 477) := mt_cd_of (q := (40, .invokevirtual 477, 3)) mq_183 ci_183 (List.mem_append_left _ (show _ ∈ my_183_0 from List.mem_of_getElem? (i := 25) rfl))
theorem cd_183_43 : mt_cd 183 43 = some (.istore_n 3) := mt_cd_of (q := (43, .istore_n 3, 1)) mq_183 ci_183 (List.mem_append_left _ (show _ ∈ my_183_0 from List.mem_of_getElem? (i := 26) rfl))
theorem cd_183_44 : mt_cd 183 44 = some (.aload_n 0) := mt_cd_of (q := (44, .aload_n 0, 1)) mq_183 ci_183 (List.mem_append_left _ (show _ ∈ my_183_0 from List.mem_of_getElem? (i := 27) rfl))
theorem cd_183_45 : mt_cd 183 45 = some (.getfield 441) := mt_cd_of (q := (45, .getfield 441, 3)) mq_183 ci_183 (List.mem_append_left _ (show _ ∈ my_183_0 from List.mem_of_getElem? (i := 28) rfl))
theorem cd_183_48 : mt_cd 183 48 = some (.ifCond .eq 8) := mt_cd_of (q := (48, .ifCond .eq 8, 3)) mq_183 ci_183 (List.mem_append_left _ (show _ ∈ my_183_0 from List.mem_of_getElem? (i := 29) rfl))
theorem cd_183_51 : mt_cd 183 51 = some (.bipush 6) := mt_cd_of (q := (51, .bipush 6, 2)) mq_183 ci_183 (List.mem_append_left _ (show _ ∈ my_183_0 from List.mem_of_getElem? (i := 30) rfl))
theorem cd_183_53 : mt_cd 183 53 = some (.goto 12) := mt_cd_of (q := (53, .goto 12, 3)) mq_183 ci_183 (List.mem_append_left _ (show _ ∈ my_183_0 from List.mem_of_getElem? (i := 31) rfl))
theorem cd_183_56 : mt_cd 183 56 = some (.iload_n 3) := mt_cd_of (q := (56, .iload_n 3, 1)) mq_183 ci_183 (List.mem_append_left _ (show _ ∈ my_183_0 from List.mem_of_getElem? (i := 32) rfl))
theorem cd_183_57 : mt_cd 183 57 = some (.ifCond .eq 7) := mt_cd_of (q := (57, .ifCond .eq 7, 3)) mq_183 ci_183 (List.mem_append_left _ (show _ ∈ my_183_0 from List.mem_of_getElem? (i := 33) rfl))
theorem cd_183_60 : mt_cd 183 60 = some (.iconst 1) := mt_cd_of (q := (60, .iconst 1, 1)) mq_183 ci_183 (List.mem_append_left _ (show _ ∈ my_183_0 from List.mem_of_getElem? (i := 34) rfl))
theorem cd_183_61 : mt_cd 183 61 = some (.goto 4) := mt_cd_of (q := (61, .goto 4, 3)) mq_183 ci_183 (List.mem_append_left _ (show _ ∈ my_183_0 from List.mem_of_getElem? (i := 35) rfl))
theorem cd_183_64 : mt_cd 183 64 = some (.iconst 0) := mt_cd_of (q := (64, .iconst 0, 1)) mq_183 ci_183 (List.mem_append_left _ (show _ ∈ my_183_0 from List.mem_of_getElem? (i := 36) rfl))
theorem cd_183_65 : mt_cd 183 65 = some (.ireturn) := mt_cd_of (q := (65, .ireturn, 1)) mq_183 ci_183 (List.mem_append_left _ (show _ ∈ my_183_0 from List.mem_of_getElem? (i := 37) rfl))
theorem cd_183_66 : mt_cd 183 66 = some (.aload_n 0) := mt_cd_of (q := (66, .aload_n 0, 1)) mq_183 ci_183 (List.mem_append_left _ (show _ ∈ my_183_0 from List.mem_of_getElem? (i := 38) rfl))
theorem cd_183_67 : mt_cd 183 67 = some (.getfield 77) := mt_cd_of (q := (67, .getfield 77, 3)) mq_183 ci_183 (List.mem_append_left _ (show _ ∈ my_183_0 from List.mem_of_getElem? (i := 39) rfl))
theorem cd_183_70 : mt_cd 183 70 = some (.iload_n 1) := mt_cd_of (q := (70, .iload_n 1, 1)) mq_183 ci_183 (List.mem_append_left _ (show _ ∈ my_183_0 from List.mem_of_getElem? (i := 40) rfl))
theorem cd_183_71 : mt_cd 183 71 = some (.iaload) := mt_cd_of (q := (71, .iaload, 1)) mq_183 ci_183 (List.mem_append_left _ (show _ ∈ my_183_0 from List.mem_of_getElem? (i := 41) rfl))
theorem cd_183_72 : mt_cd 183 72 = some (.bipush 8) := mt_cd_of (q := (72, .bipush 8, 2)) mq_183 ci_183 (List.mem_append_left _ (show _ ∈ my_183_0 from List.mem_of_getElem? (i := 42) rfl))
theorem cd_183_74 : mt_cd 183 74 = some (.if_icmp .ne 78) := mt_cd_of (q := (74, .if_icmp .ne 78, 3)) mq_183 ci_183 (List.mem_append_left _ (show _ ∈ my_183_0 from List.mem_of_getElem? (i := 43) rfl))
theorem cd_183_77 : mt_cd 183 77 = some (.aload_n 0) := mt_cd_of (q := (77, .aload_n 0, 1)) mq_183 ci_183 (List.mem_append_left _ (show _ ∈ my_183_0 from List.mem_of_getElem? (i := 44) rfl))
theorem cd_183_78 : mt_cd 183 78 = some (.getfield 181) := mt_cd_of (q := (78, .getfield 181, 3)) mq_183 ci_183 (List.mem_append_left _ (show _ ∈ my_183_0 from List.mem_of_getElem? (i := 45) rfl))
theorem cd_183_81 : mt_cd 183 81 = some (.iload_n 2) := mt_cd_of (q := (81, .iload_n 2, 1)) mq_183 ci_183 (List.mem_append_left _ (show _ ∈ my_183_0 from List.mem_of_getElem? (i := 46) rfl))
theorem cd_183_82 : mt_cd 183 82 = some (.iaload) := mt_cd_of (q := (82, .iaload, 1)) mq_183 ci_183 (List.mem_append_left _ (show _ ∈ my_183_0 from List.mem_of_getElem? (i := 47) rfl))
theorem cd_183_83 : mt_cd 183 83 = some (.aload_n 0) := mt_cd_of (q := (83, .aload_n 0, 1)) mq_183 ci_183 (List.mem_append_left _ (show _ ∈ my_183_0 from List.mem_of_getElem? (i := 48) rfl))
theorem cd_183_84 : mt_cd 183 84 = some (.getfield 80) := mt_cd_of (q := (84, .getfield 80, 3)) mq_183 ci_183 (List.mem_append_left _ (show _ ∈ my_183_0 from List.mem_of_getElem? (i := 49) rfl))
theorem cd_183_87 : mt_cd 183 87 = some (.iload_n 1) := mt_cd_of (q := (87, .iload_n 1, 1)) mq_183 ci_183 (List.mem_append_left _ (show _ ∈ my_183_0 from List.mem_of_getElem? (i := 50) rfl))
theorem cd_183_88 : mt_cd 183 88 = some (.iaload) := mt_cd_of (q := (88, .iaload, 1)) mq_183 ci_183 (List.mem_append_left _ (show _ ∈ my_183_0 from List.mem_of_getElem? (i := 51) rfl))
theorem cd_183_89 : mt_cd 183 89 = some (.if_icmp .eq 5) := mt_cd_of (q := (89, .if_icmp .eq 5, 3)) mq_183 ci_183 (List.mem_append_left _ (show _ ∈ my_183_0 from List.mem_of_getElem? (i := 52) rfl))
theorem cd_183_92 : mt_cd 183 92 = some (.iconst 0) := mt_cd_of (q := (92, .iconst 0, 1)) mq_183 ci_183 (List.mem_append_left _ (show _ ∈ my_183_0 from List.mem_of_getElem? (i := 53) rfl))
theorem cd_183_93 : mt_cd 183 93 = some (.ireturn) := mt_cd_of (q := (93, .ireturn, 1)) mq_183 ci_183 (List.mem_append_left _ (show _ ∈ my_183_0 from List.mem_of_getElem? (i := 54) rfl))
theorem cd_183_94 : mt_cd 183 94 = some (.aload_n 0) := mt_cd_of (q := (94, .aload_n 0, 1)) mq_183 ci_183 (List.mem_append_left _ (show _ ∈ my_183_0 from List.mem_of_getElem? (i := 55) rfl))
theorem cd_183_95 : mt_cd 183 95 = some (.getfield 141) := mt_cd_of (q := (95, .getfield 141, 3)) mq_183 ci_183 (List.mem_append_left _ (show _ ∈ my_183_0 from List.mem_of_getElem? (i := 56) rfl))
theorem cd_183_98 : mt_cd 183 98 = some (.iload_n 1) := mt_cd_of (q := (98, .iload_n 1, 1)) mq_183 ci_183 (List.mem_append_left _ (show _ ∈ my_183_0 from List.mem_of_getElem? (i := 57) rfl))
theorem cd_183_99 : mt_cd 183 99 = some (.iaload) := mt_cd_of (q := (99, .iaload, 1)) mq_183 ci_183 (List.mem_append_left _ (show _ ∈ my_183_0 from List.mem_of_getElem? (i := 58) rfl))
theorem cd_183_100 : mt_cd 183 100 = some (.istore_n 3) := mt_cd_of (q := (100, .istore_n 3, 1)) mq_183 ci_183 (List.mem_append_left _ (show _ ∈ my_183_0 from List.mem_of_getElem? (i := 59) rfl))
theorem cd_183_101 : mt_cd 183 101 = some (.iload_n 3) := mt_cd_of (q := (101, .iload_n 3, 1)) mq_183 ci_183 (List.mem_append_right _ (List.mem_append_left _ (show _ ∈ my_183_1 from List.mem_of_getElem? (i := 0) rfl)))
theorem cd_183_102 : mt_cd 183 102 = some (.aload_n 0) := mt_cd_of (q := (102, .aload_n 0, 1)) mq_183 ci_183 (List.mem_append_right _ (List.mem_append_left _ (show _ ∈ my_183_1 from List.mem_of_getElem? (i := 1) rfl)))
theorem cd_183_103 : mt_cd 183 103 = some (.getfield 141) := mt_cd_of (q := (103, .getfield 141, 3)) mq_183 ci_183 (List.mem_append_right _ (List.mem_append_left _ (show _ ∈ my_183_1 from List.mem_of_getElem? (i := 2) rfl)))
theorem cd_183_106 : mt_cd 183 106 = some (.iload_n 1) := mt_cd_of (q := (106, .iload_n 1, 1)) mq_183 ci_183 (List.mem_append_right _ (List.mem_append_left _ (show _ ∈ my_183_1 from List.mem_of_getElem? (i := 3) rfl)))
theorem cd_183_107 : mt_cd 183 107 = some (.iaload) := mt_cd_of (q := (107, .iaload, 1)) mq_183 ci_183 (List.mem_append_right _ (List.mem_append_left _ (show _ ∈ my_183_1 from List.mem_of_getElem? (i := 4) rfl)))
theorem cd_183_108 : mt_cd 183 108 = some (.aload_n 0) := mt_cd_of (q := (108, .aload_n 0, 1)) mq_183 ci_183 (List.mem_append_right _ (List.mem_append_left _ (show _ ∈ my_183_1 from List.mem_of_getElem? (i := 5) rfl)))
theorem cd_183_109 : mt_cd 183 109 = some (.getfield 95) := mt_cd_of (q := (109, .getfield 95, 3)) mq_183 ci_183 (List.mem_append_right _ (List.mem_append_left _ (show _ ∈ my_183_1 from List.mem_of_getElem? (i := 6) rfl)))
theorem cd_183_112 : mt_cd 183 112 = some (.iload_n 1) := mt_cd_of (q := (112, .iload_n 1, 1)) mq_183 ci_183 (List.mem_append_right _ (List.mem_append_left _ (show _ ∈ my_183_1 from List.mem_of_getElem? (i := 7) rfl)))
theorem cd_183_113 : mt_cd 183 113 = some (.iaload) := mt_cd_of (q := (113, .iaload, 1)) mq_183 ci_183 (List.mem_append_right _ (List.mem_append_left _ (show _ ∈ my_183_1 from List.mem_of_getElem? (i := 8) rfl)))
theorem cd_183_114 : mt_cd 183 114 = some (.iadd) := mt_cd_of (q := (114, .iadd, 1)) mq_183 ci_183 (List.mem_append_right _ (List.mem_append_left _ (show _ ∈ my_183_1 from List.mem_of_getElem? (i := 9) rfl)))
theorem cd_183_115 : mt_cd 183 115 = some (.if_icmp .ge 35) := mt_cd_of (q := (115, .if_icmp .ge 35, 3)) mq_183 ci_183 (List.mem_append_right _ (List.mem_append_left _ (show _ ∈ my_183_1 from List.mem_of_getElem? (i := 10) rfl)))
theorem cd_183_118 : mt_cd 183 118 = some (.aload_n 0) := mt_cd_of (q := (118, .aload_n 0, 1)) mq_183 ci_183 (List.mem_append_right _ (List.mem_append_left _ (show _ ∈ my_183_1 from List.mem_of_getElem? (i := 11) rfl)))
theorem cd_183_119 : mt_cd 183 119 = some (.getfield 190) := mt_cd_of (q := (119, .getfield 190, 3)) mq_183 ci_183 (List.mem_append_right _ (List.mem_append_left _ (show _ ∈ my_183_1 from List.mem_of_getElem? (i := 12) rfl)))
theorem cd_183_122 : mt_cd 183 122 = some (.iload_n 2) := mt_cd_of (q := (122, .iload_n 2, 1)) mq_183 ci_183 (List.mem_append_right _ (List.mem_append_left _ (show _ ∈ my_183_1 from List.mem_of_getElem? (i := 13) rfl)))
theorem cd_183_123 : mt_cd 183 123 = some (.laload) := mt_cd_of (q := (123, .laload, 1)) mq_183 ci_183 (List.mem_append_right _ (List.mem_append_left _ (show _ ∈ my_183_1 from List.mem_of_getElem? (i := 14) rfl)))
theorem cd_183_124 : mt_cd 183 124 = some (.aload_n 0) := mt_cd_of (q := (124, .aload_n 0, 1)) mq_183 ci_183 (List.mem_append_right _ (List.mem_append_left _ (show _ ∈ my_183_1 from List.mem_of_getElem? (i := 15) rfl)))
theorem cd_183_125 : mt_cd 183 125 = some (.getfield 105) := mt_cd_of (q := (125, .getfield 105, 3)) mq_183 ci_183 (List.mem_append_right _ (List.mem_append_left _ (show _ ∈ my_183_1 from List.mem_of_getElem? (i := 16) rfl)))
theorem cd_183_128 : mt_cd 183 128 = some (.iload_n 3) := mt_cd_of (q := (128, .iload_n 3, 1)) mq_183 ci_183 (List.mem_append_right _ (List.mem_append_left _ (show _ ∈ my_183_1 from List.mem_of_getElem? (i := 17) rfl)))
theorem cd_183_129 : mt_cd 183 129 = some (.laload) := mt_cd_of (q := (129, .laload, 1)) mq_183 ci_183 (List.mem_append_right _ (List.mem_append_left _ (show _ ∈ my_183_1 from List.mem_of_getElem? (i := 18) rfl)))
theorem cd_183_130 : mt_cd 183 130 = some (.aload_n 0) := mt_cd_of (q := (130, .aload_n 0, 1)) mq_183 ci_183 (List.mem_append_right _ (List.mem_append_left _ (show _ ∈ my_183_1 from List.mem_of_getElem? (i := 19) rfl)))
theorem cd_183_131 : mt_cd 183 131 = some (.getfield 108) := mt_cd_of (q := (131, .getfield 108, 3)) mq_183 ci_183 (List.mem_append_right _ (List.mem_append_left _ (show _ ∈ my_183_1 from List.mem_of_getElem? (i := 20) rfl)))
theorem cd_183_134 : mt_cd 183 134 = some (.iload_n 3) := mt_cd_of (q := (134, .iload_n 3, 1)) mq_183 ci_183 (List.mem_append_right _ (List.mem_append_left _ (show _ ∈ my_183_1 from List.mem_of_getElem? (i := 21) rfl)))
theorem cd_183_135 : mt_cd 183 135 = some (.laload) := mt_cd_of (q := (135, .laload, 1)) mq_183 ci_183 (List.mem_append_right _ (List.mem_append_left _ (show _ ∈ my_183_1 from List.mem_of_getElem? (i := 22) rfl)))
theorem cd_183_136 : mt_cd 183 136 = some (.invokestatic 268) := mt_cd_of (q := (136, .invokestatic 268, 3)) mq_183 ci_183 (List.mem_append_right _ (List.mem_append_left _ (show _ ∈ my_183_1 from List.mem_of_getElem? (i := 23) rfl)))
theorem cd_183_139 : mt_cd 183 139 = some (.ifCond .eq 5) := mt_cd_of (q := (139, .ifCond .eq 5, 3)) mq_183 ci_183 (List.mem_append_right _ (List.mem_append_left _ (show _ ∈ my_183_1 from List.mem_of_getElem? (i := 24) rfl)))
theorem cd_183_142 : mt_cd 183 142 = some (.iconst 1) := mt_cd_of (q := (142, .iconst 1, 1)) mq_183 ci_183 (List.mem_append_right _ (List.mem_append_left _ (show _ ∈ my_183_1 from List.mem_of_getElem? (i := 25) rfl)))
theorem cd_183_143 : mt_cd 183 143 = some (.ireturn) := mt_cd_of (q := (143, .ireturn, 1)) mq_183 ci_183 (List.mem_append_right _ (List.mem_append_left _ (show _ ∈ my_183_1 from List.mem_of_getElem? (i := 26) rfl)))
theorem cd_183_144 : mt_cd 183 144 = some (.iinc 3 1) := mt_cd_of (q := (144, .iinc 3 1, 3)) mq_183 ci_183 (List.mem_append_right _ (List.mem_append_left _ (show _ ∈ my_183_1 from List.mem_of_getElem? (i := 27) rfl)))
theorem cd_183_147 : mt_cd 183 147 = some (.goto (-46)) := mt_cd_of (q := (147, .goto (-46), 3)) mq_183 ci_183 (List.mem_append_right _ (List.mem_append_left _ (show _ ∈ my_183_1 from List.mem_of_getElem? (i := 28) rfl)))
theorem cd_183_150 : mt_cd 183 150 = some (.iconst 0) := mt_cd_of (q := (150, .iconst 0, 1)) mq_183 ci_183 (List.mem_append_right _ (List.mem_append_left _ (show _ ∈ my_183_1 from List.mem_of_getElem? (i := 29) rfl)))
theorem cd_183_151 : mt_cd 183 151 = some (.ireturn) := mt_cd_of (q := (151, .ireturn, 1)) mq_183 ci_183 (List.mem_append_right _ (List.mem_append_left _ (show _ ∈ my_183_1 from List.mem_of_getElem? (i := 30) rfl)))
theorem cd_183_152 : mt_cd 183 152 = some (.aload_n 0) := mt_cd_of (q := (152, .aload_n 0, 1)) mq_183 ci_183 (List.mem_append_right _ (List.mem_append_left _ (show _ ∈ my_183_1 from List.mem_of_getElem? (i := 31) rfl)))
theorem cd_183_153 : mt_cd 183 153 = some (.getfield 181) := mt_cd_of (q := (153, .getfield 181, 3)) mq_183 ci_183 (List.mem_append_right _ (List.mem_append_left _ (show _ ∈ my_183_1 from List.mem_of_getElem? (i := 32) rfl)))
theorem cd_183_156 : mt_cd 183 156 = some (.iload_n 2) := mt_cd_of (q := (156, .iload_n 2, 1)) mq_183 ci_183 (List.mem_append_right _ (List.mem_append_left _ (show _ ∈ my_183_1 from List.mem_of_getElem? (i := 33) rfl)))
theorem cd_183_157 : mt_cd 183 157 = some (.iaload) := mt_cd_of (q := (157, .iaload, 1)) mq_183 ci_183 (List.mem_append_right _ (List.mem_append_left _ (show _ ∈ my_183_1 from List.mem_of_getElem? (i := 34) rfl)))
theorem cd_183_158 : mt_cd 183 158 = some (.aload_n 0) := mt_cd_of (q := (158, .aload_n 0, 1)) mq_183 ci_183 (List.mem_append_right _ (List.mem_append_left _ (show _ ∈ my_183_1 from List.mem_of_getElem? (i := 35) rfl)))
theorem cd_183_159 : mt_cd 183 159 = some (.getfield 80) := mt_cd_of (q := (159, .getfield 80, 3)) mq_183 ci_183 (List.mem_append_right _ (List.mem_append_left _ (show _ ∈ my_183_1 from List.mem_of_getElem? (i := 36) rfl)))
theorem cd_183_162 : mt_cd 183 162 = some (.iload_n 1) := mt_cd_of (q := (162, .iload_n 1, 1)) mq_183 ci_183 (List.mem_append_right _ (List.mem_append_left _ (show _ ∈ my_183_1 from List.mem_of_getElem? (i := 37) rfl)))
theorem cd_183_163 : mt_cd 183 163 = some (.iaload) := mt_cd_of (q := (163, .iaload, 1)) mq_183 ci_183 (List.mem_append_right _ (List.mem_append_left _ (show _ ∈ my_183_1 from List.mem_of_getElem? (i := 38) rfl)))
theorem cd_183_164 : mt_cd 183 164 = some (.if_icmp .ne 33) := mt_cd_of (q := (164, .if_icmp .ne 33, 3)) mq_183 ci_183 (List.mem_append_right _ (List.mem_append_left _ (show _ ∈ my_183_1 from List.mem_of_getElem? (i := 39) rfl)))
theorem cd_183_167 : mt_cd 183 167 = some (.aload_n 0) := mt_cd_of (q := (167, .aload_n 0, 1)) mq_183 ci_183 (List.mem_append_right _ (List.mem_append_left _ (show _ ∈ my_183_1 from List.mem_of_getElem? (i := 40) rfl)))
theorem cd_183_168 : mt_cd 183 168 = some (.getfield 184) := mt_cd_of (q := (168, .getfield 184, 3)) mq_183 ci_183 (List.mem_append_right _ (List.mem_append_left _ (show _ ∈ my_183_1 from List.mem_of_getElem? (i := 41) rfl)))
theorem cd_183_171 : mt_cd 183 171 = some (.iload_n 2) := mt_cd_of (q := (171, .iload_n 2, 1)) mq_183 ci_183 (List.mem_append_right _ (List.mem_append_left _ (show _ ∈ my_183_1 from List.mem_of_getElem? (i := 42) rfl)))
theorem cd_183_172 : mt_cd 183 172 = some (.iaload) := mt_cd_of (q := (172, .iaload, 1)) mq_183 ci_183 (List.mem_append_right _ (List.mem_append_left _ (show _ ∈ my_183_1 from List.mem_of_getElem? (i := 43) rfl)))
theorem cd_183_173 : mt_cd 183 173 = some (.aload_n 0) := mt_cd_of (q := (173, .aload_n 0, 1)) mq_183 ci_183 (List.mem_append_right _ (List.mem_append_left _ (show _ ∈ my_183_1 from List.mem_of_getElem? (i := 44) rfl)))
theorem cd_183_174 : mt_cd 183 174 = some (.getfield 83) := mt_cd_of (q := (174, .getfield 83, 3)) mq_183 ci_183 (List.mem_append_right _ (List.mem_append_left _ (show _ ∈ my_183_1 from List.mem_of_getElem? (i := 45) rfl)))
theorem cd_183_177 : mt_cd 183 177 = some (.iload_n 1) := mt_cd_of (q := (177, .iload_n 1, 1)) mq_183 ci_183 (List.mem_append_right _ (List.mem_append_left _ (show _ ∈ my_183_1 from List.mem_of_getElem? (i := 46) rfl)))
theorem cd_183_178 : mt_cd 183 178 = some (.iaload) := mt_cd_of (q := (178, .iaload, 1)) mq_183 ci_183 (List.mem_append_right _ (List.mem_append_left _ (show _ ∈ my_183_1 from List.mem_of_getElem? (i := 47) rfl)))
theorem cd_183_179 : mt_cd 183 179 = some (.if_icmp .ne 18) := mt_cd_of (q := (179, .if_icmp .ne 18, 3)) mq_183 ci_183 (List.mem_append_right _ (List.mem_append_left _ (show _ ∈ my_183_1 from List.mem_of_getElem? (i := 48) rfl)))
theorem cd_183_182 : mt_cd 183 182 = some (.aload_n 0) := mt_cd_of (q := (182, .aload_n 0, 1)) mq_183 ci_183 (List.mem_append_right _ (List.mem_append_left _ (show _ ∈ my_183_1 from List.mem_of_getElem? (i := 49) rfl)))
theorem cd_183_183 : mt_cd 183 183 = some (.getfield 187) := mt_cd_of (q := (183, .getfield 187, 3)) mq_183 ci_183 (List.mem_append_right _ (List.mem_append_left _ (show _ ∈ my_183_1 from List.mem_of_getElem? (i := 50) rfl)))
theorem cd_183_186 : mt_cd 183 186 = some (.iload_n 2) := mt_cd_of (q := (186, .iload_n 2, 1)) mq_183 ci_183 (List.mem_append_right _ (List.mem_append_left _ (show _ ∈ my_183_1 from List.mem_of_getElem? (i := 51) rfl)))
theorem cd_183_187 : mt_cd 183 187 = some (.iaload) := mt_cd_of (q := (187, .iaload, 1)) mq_183 ci_183 (List.mem_append_right _ (List.mem_append_left _ (show _ ∈ my_183_1 from List.mem_of_getElem? (i := 52) rfl)))
theorem cd_183_188 : mt_cd 183 188 = some (.aload_n 0) := mt_cd_of (q := (188, .aload_n 0, 1)) mq_183 ci_183 (List.mem_append_right _ (List.mem_append_left _ (show _ ∈ my_183_1 from List.mem_of_getElem? (i := 53) rfl)))
theorem cd_183_189 : mt_cd 183 189 = some (.getfield 86) := mt_cd_of (q := (189, .getfield 86, 3)) mq_183 ci_183 (List.mem_append_right _ (List.mem_append_left _ (show _ ∈ my_183_1 from List.mem_of_getElem? (i := 54) rfl)))
theorem cd_183_192 : mt_cd 183 192 = some (.iload_n 1) := mt_cd_of (q := (192, .iload_n 1, 1)) mq_183 ci_183 (List.mem_append_right _ (List.mem_append_left _ (show _ ∈ my_183_1 from List.mem_of_getElem? (i := 55) rfl)))
theorem cd_183_193 : mt_cd 183 193 = some (.iaload) := mt_cd_of (q := (193, .iaload, 1)) mq_183 ci_183 (List.mem_append_right _ (List.mem_append_left _ (show _ ∈ my_183_1 from List.mem_of_getElem? (i := 56) rfl)))
theorem cd_183_194 : mt_cd 183 194 = some (.if_icmp .eq 5) := mt_cd_of (q := (194, .if_icmp .eq 5, 3)) mq_183 ci_183 (List.mem_append_right _ (List.mem_append_left _ (show _ ∈ my_183_1 from List.mem_of_getElem? (i := 57) rfl)))
theorem cd_183_197 : mt_cd 183 197 = some (.iconst 0) := mt_cd_of (q := (197, .iconst 0, 1)) mq_183 ci_183 (List.mem_append_right _ (List.mem_append_left _ (show _ ∈ my_183_1 from List.mem_of_getElem? (i := 58) rfl)))
theorem cd_183_198 : mt_cd 183 198 = some (.ireturn) := mt_cd_of (q := (198, .ireturn, 1)) mq_183 ci_183 (List.mem_append_right _ (List.mem_append_left _ (show _ ∈ my_183_1 from List.mem_of_getElem? (i := 59) rfl)))
theorem cd_183_199 : mt_cd 183 199 = some (.aload_n 0) := mt_cd_of (q := (199, .aload_n 0, 1)) mq_183 ci_183 (List.mem_append_right _ (List.mem_append_right _ ((show _ ∈ my_183_2 from List.mem_of_getElem? (i := 0) rfl))))
theorem cd_183_200 : mt_cd 183 200 = some (.aload_n 0) := mt_cd_of (q := (200, .aload_n 0, 1)) mq_183 ci_183 (List.mem_append_right _ (List.mem_append_right _ ((show _ ∈ my_183_2 from List.mem_of_getElem? (i := 1) rfl))))
theorem cd_183_201 : mt_cd 183 201 = some (.getfield 89) := mt_cd_of (q := (201, .getfield 89, 3)) mq_183 ci_183 (List.mem_append_right _ (List.mem_append_right _ ((show _ ∈ my_183_2 from List.mem_of_getElem? (i := 2) rfl))))
theorem cd_183_204 : mt_cd 183 204 = some (.iload_n 1) := mt_cd_of (q := (204, .iload_n 1, 1)) mq_183 ci_183 (List.mem_append_right _ (List.mem_append_right _ ((show _ ∈ my_183_2 from List.mem_of_getElem? (i := 3) rfl))))
theorem cd_183_205 : mt_cd 183 205 = some (.iaload) := mt_cd_of (q := (205, .iaload, 1)) mq_183 ci_183 (List.mem_append_right _ (List.mem_append_right _ ((show _ ∈ my_183_2 from List.mem_of_getElem? (i := 4) rfl))))
theorem cd_183_206 : mt_cd 183 206 = some (.invokevirtual 451) := mt_cd_of (q := (206, .invokevirtual 451, 3)) mq_183 ci_183 (List.mem_append_right _ (List.mem_append_right _ ((show _ ∈ my_183_2 from List.mem_of_getElem? (i := 5) rfl))))
theorem cd_183_209 : mt_cd 183 209 = some (.lstore_n 3) := mt_cd_of (q := (209, .lstore_n 3, 1)) mq_183 ci_183 (List.mem_append_right _ (List.mem_append_right _ ((show _ ∈ my_183_2 from List.mem_of_getElem? (i := 6) rfl))))
theorem cd_183_210 : mt_cd 183 210 = some (.aload_n 0) := mt_cd_of (q := (210, .aload_n 0, 1)) mq_183 ci_183 (List.mem_append_right _ (List.mem_append_right _ ((show _ ∈ my_183_2 from List.mem_of_getElem? (i := 7) rfl))))
theorem cd_183_211 : mt_cd 183 211 = some (.getfield 441) := mt_cd_of (q := (211, .getfield 441, 3)) mq_183 ci_183 (List.mem_append_right _ (List.mem_append_right _ ((show _ ∈ my_183_2 from List.mem_of_getElem? (i := 8) rfl))))
theorem cd_183_214 : mt_cd 183 214 = some (.ifCond .eq 8) := mt_cd_of (q := (214, .ifCond .eq 8, 3)) mq_183 ci_183 (List.mem_append_right _ (List.mem_append_right _ ((show _ ∈ my_183_2 from List.mem_of_getElem? (i := 9) rfl))))
theorem cd_183_217 : mt_cd 183 217 = some (.bipush 6) := mt_cd_of (q := (217, .bipush 6, 2)) mq_183 ci_183 (List.mem_append_right _ (List.mem_append_right _ ((show _ ∈ my_183_2 from List.mem_of_getElem? (i := 10) rfl))))
theorem cd_183_219 : mt_cd 183 219 = some (.goto 19) := mt_cd_of (q := (219, .goto 19, 3)) mq_183 ci_183 (List.mem_append_right _ (List.mem_append_right _ ((show _ ∈ my_183_2 from List.mem_of_getElem? (i := 11) rfl))))
theorem cd_183_222 : mt_cd 183 222 = some (.lload_n 3) := mt_cd_of (q := (222, .lload_n 3, 1)) mq_183 ci_183 (List.mem_append_right _ (List.mem_append_right _ ((show _ ∈ my_183_2 from List.mem_of_getElem? (i := 12) rfl))))
theorem cd_183_223 : mt_cd 183 223 = some (.aload_n 0) := mt_cd_of (q := (223, .aload_n 0, 1)) mq_183 ci_183 (List.mem_append_right _ (List.mem_append_right _ ((show _ ∈ my_183_2 from List.mem_of_getElem? (i := 13) rfl))))
theorem cd_183_224 : mt_cd 183 224 = some (.getfield 190) := mt_cd_of (q := (224, .getfield 190, 3)) mq_183 ci_183 (List.mem_append_right _ (List.mem_append_right _ ((show _ ∈ my_183_2 from List.mem_of_getElem? (i := 14) rfl))))
theorem cd_183_227 : mt_cd 183 227 = some (.iload_n 2) := mt_cd_of (q := (227, .iload_n 2, 1)) mq_183 ci_183 (List.mem_append_right _ (List.mem_append_right _ ((show _ ∈ my_183_2 from List.mem_of_getElem? (i := 15) rfl))))
theorem cd_183_228 : mt_cd 183 228 = some (.laload) := mt_cd_of (q := (228, .laload, 1)) mq_183 ci_183 (List.mem_append_right _ (List.mem_append_right _ ((show _ ∈ my_183_2 from List.mem_of_getElem? (i := 16) rfl))))
theorem cd_183_229 : mt_cd 183 229 = some (.lcmp) := mt_cd_of (q := (229, .lcmp, 1)) mq_183 ci_183 (List.mem_append_right _ (List.mem_append_right _ ((show _ ∈ my_183_2 from List.mem_of_getElem? (i := 17) rfl))))
theorem cd_183_230 : mt_cd 183 230 = some (.ifCond .ne 7) := mt_cd_of (q := (230, .ifCond .ne 7, 3)) mq_183 ci_183 (List.mem_append_right _ (List.mem_append_right _ ((show _ ∈ my_183_2 from List.mem_of_getElem? (i := 18) rfl))))
theorem cd_183_233 : mt_cd 183 233 = some (.iconst 1) := mt_cd_of (q := (233, .iconst 1, 1)) mq_183 ci_183 (List.mem_append_right _ (List.mem_append_right _ ((show _ ∈ my_183_2 from List.mem_of_getElem? (i := 19) rfl))))
theorem cd_183_234 : mt_cd 183 234 = some (.goto 4) := mt_cd_of (q := (234, .goto 4, 3)) mq_183 ci_183 (List.mem_append_right _ (List.mem_append_right _ ((show _ ∈ my_183_2 from List.mem_of_getElem? (i := 20) rfl))))
theorem cd_183_237 : mt_cd 183 237 = some (.iconst 0) := mt_cd_of (q := (237, .iconst 0, 1)) mq_183 ci_183 (List.mem_append_right _ (List.mem_append_right _ ((show _ ∈ my_183_2 from List.mem_of_getElem? (i := 21) rfl))))
theorem cd_183_238 : mt_cd 183 238 = some (.ireturn) := mt_cd_of (q := (238, .ireturn, 1)) mq_183 ci_183 (List.mem_append_right _ (List.mem_append_right _ ((show _ ∈ my_183_2 from List.mem_of_getElem? (i := 22) rfl))))
theorem b_183_0 {d : Nat} {Q : (Option Value ⊕ Nat) → mi_H → Prop} (n sl : Nat) (f : Nat → mi_C) {l1 : Nat} {l2 : Int32} {l3 : Int32} {o4 : Option Value} {o5 : Option Value} {fs6 : List Value} {fs11 : List Value} {x14 : Nat} (m16 i16 : Nat) (g16 : Nat → Int32) {fs20 : List Value} {x23 : Nat} (m25 i25 : Nat) (g25 : Nat → Int32) (h7 : f l1 = .inr (12, fs6)) (h8 : l1 < n) (h9 : 46 < fs6.length) (h10 : mi_fk .boolean (.int 0) = true) (h12 : (va_up f l1 (.inr (12, fs6.set 46 (.int 0)))) l1 = .inr (12, fs11)) (h13 : l1 < n) (h15 : fs11[60]? = some (.ref x14)) (h17 : (va_up f l1 (.inr (12, fs6.set 46 (.int 0)))) x14 = .inl (0, m16, .inl g16)) (h18 : x14 < n ∨ x14 = mi_SC) (h19 : mi_ix l3 m16 i16) (h21 : (va_up f l1 (.inr (12, fs6.set 46 (.int 0)))) l1 = .inr (12, fs20)) (h22 : l1 < n) (h24 : fs20[12]? = some (.ref x23)) (h26 : (va_up f l1 (.inr (12, fs6.set 46 (.int 0)))) x23 = .inl (0, m25, .inl g25)) (h27 : x23 < n ∨ x23 = mi_SC) (h28 : mi_ix l2 m25 i25) (h29 : (g16 i16) = (g25 i25) → mi_W d 183 22 [some (.ref l1), some (.int l2), some (.int l3), o4, o5] [] (n, sl, (va_up f l1 (.inr (12, fs6.set 46 (.int 0))))) Q) (h30 : ¬ ((g16 i16) = (g25 i25)) → mi_W d 183 20 [some (.ref l1), some (.int l2), some (.int l3), o4, o5] [] (n, sl, (va_up f l1 (.inr (12, fs6.set 46 (.int 0))))) Q) : mi_W d 183 0 [some (.ref l1), some (.int l2), some (.int l3), o4, o5] [] (n, sl, f) Q := by
  refine w_aload_n cd_183_0 rfl ?_
  refine w_iconst (v := 0) cd_183_1 (by decide) ?_
  refine w_putfield (w := .int 0) cd_183_2 (show mt_f 12 441 = some (12, 46) by decide +kernel) h7 h8 ⟨h9, h10, Or.inl (by decide)⟩ ?_
  refine w_aload_n cd_183_5 rfl ?_
  refine w_getfield cd_183_6 (show mt_f 12 178 = some (12, 60) by decide +kernel) h12 h13 h15 ?_
  refine w_iload_n cd_183_9 rfl ?_
  refine w_iaload cd_183_10 h17 h18 h19 ?_
  refine w_aload_n cd_183_11 rfl ?_
  refine w_getfield cd_183_12 (show mt_f 12 77 = some (12, 12) by decide +kernel) h21 h22 h24 ?_
  refine w_iload_n cd_183_15 rfl ?_
  refine w_iaload cd_183_16 h26 h27 h28 ?_
  exact w_if_icmpeq cd_183_17 (by decide) h29 h30
theorem b_183_20 {d : Nat} {Q : (Option Value ⊕ Nat) → mi_H → Prop} (n sl : Nat) (f : Nat → mi_C) {l1 : Nat} {l2 : Int32} {l3 : Int32} {o4 : Option Value} {o5 : Option Value} (h6 : Q (.inl (some (.int 0))) (n, sl, f)) : mi_W d 183 20 [some (.ref l1), some (.int l2), some (.int l3), o4, o5] [] (n, sl, f) Q := by
  refine w_iconst (v := 0) cd_183_20 (by decide) ?_
  exact w_ireturn_i cd_183_21 (by decide +kernel) h6
theorem b_183_22 {d : Nat} {Q : (Option Value ⊕ Nat) → mi_H → Prop} (n sl : Nat) (f : Nat → mi_C) {l1 : Nat} {l2 : Int32} {l3 : Int32} {o4 : Option Value} {o5 : Option Value} {fs6 : List Value} {x9 : Nat} (m11 i11 : Nat) (g11 : Nat → Int32) (h7 : f l1 = .inr (12, fs6)) (h8 : l1 < n) (h10 : fs6[12]? = some (.ref x9)) (h12 : f x9 = .inl (0, m11, .inl g11)) (h13 : x9 < n ∨ x9 = mi_SC) (h14 : mi_ix l2 m11 i11) (h15 : ¬ (g11 i11) = 9 → mi_W d 183 66 [some (.ref l1), some (.int l2), some (.int l3), o4, o5] [] (n, sl, f) Q) (h16 : ¬ (¬ (g11 i11) = 9) → mi_W d 183 33 [some (.ref l1), some (.int l2), some (.int l3), o4, o5] [] (n, sl, f) Q) : mi_W d 183 22 [some (.ref l1), some (.int l2), some (.int l3), o4, o5] [] (n, sl, f) Q := by
  refine w_aload_n cd_183_22 rfl ?_
  refine w_getfield cd_183_23 (show mt_f 12 77 = some (12, 12) by decide +kernel) h7 h8 h10 ?_
  refine w_iload_n cd_183_26 rfl ?_
  refine w_iaload cd_183_27 h12 h13 h14 ?_
  refine w_bipush (v := 9) cd_183_28 (by decide) ?_
  exact w_if_icmpne cd_183_30 (by decide) h15 h16
theorem b_183_33 {d : Nat} {Q : (Option Value ⊕ Nat) → mi_H → Prop} (n sl : Nat) (f : Nat → mi_C) {l1 : Nat} {l2 : Int32} {l3 : Int32} {o4 : Option Value} {o5 : Option Value} {fs6 : List Value} {x9 : Nat} (m11 i11 : Nat) (g11 : Nat → Int32) {fs15 : List Value} (h7 : f l1 = .inr (12, fs6)) (h8 : l1 < n) (h10 : fs6[16]? = some (.ref x9)) (h12 : f x9 = .inl (0, m11, .inl g11)) (h13 : x9 < n ∨ x9 = mi_SC) (h14 : mi_ix l2 m11 i11) (h16 : f l1 = .inr (12, fs15)) (h17 : l1 < n) (h18 : mi_W d 178 0 (mi_en 6 [.ref l1, .int (g11 i11)]) [] (n, sl, f) (mi_Kc d 183 40 [some (.ref l1), some (.int l2), some (.int l3), o4, o5] [] Q)) : mi_W (d + 1) 183 33 [some (.ref l1), some (.int l2), some (.int l3), o4, o5] [] (n, sl, f) Q := by
  refine w_aload_n cd_183_33 rfl ?_
  refine w_aload_n cd_183_34 rfl ?_
  refine w_getfield cd_183_35 (show mt_f 12 89 = some (12, 16) by decide +kernel) h7 h8 h10 ?_
  refine w_iload_n cd_183_38 rfl ?_
  refine w_iaload cd_183_39 h12 h13 h14 ?_
  exact w_invokevirtual cd_183_40 (show mt_m 12 477 = some (178, 0) by decide +kernel) (rest := []) rfl (as := [.ref l1, .int (g11 i11)]) rfl h16 (Or.inl h17) ⟨Nat.le_of_ble_eq_true rfl, Nat.le_of_ble_eq_true rfl, Nat.le_of_ble_eq_true rfl⟩ h18
theorem b_183_43 {d : Nat} {Q : (Option Value ⊕ Nat) → mi_H → Prop} (n sl : Nat) (f : Nat → mi_C) {l1 : Nat} {l2 : Int32} {l3 : Int32} {o4 : Option Value} {o5 : Option Value} {s6 : Int32} {fs7 : List Value} {x10 : Int32} (h8 : f l1 = .inr (12, fs7)) (h9 : l1 < n) (h11 : fs7[46]? = some (.int x10)) (h12 : x10 = (0 : Int32) → mi_W d 183 56 [some (.ref l1), some (.int l2), some (.int l3), some (.int s6), o5] [] (n, sl, f) Q) (h13 : ¬ (x10 = (0 : Int32)) → mi_W d 183 51 [some (.ref l1), some (.int l2), some (.int l3), some (.int s6), o5] [] (n, sl, f) Q) : mi_W d 183 43 [some (.ref l1), some (.int l2), some (.int l3), o4, o5] [.int s6] (n, sl, f) Q := by
  refine w_istore_n (ls' := [some (.ref l1), some (.int l2), some (.int l3), some (.int s6), o5]) cd_183_43 (Nat.le_of_ble_eq_true rfl) rfl ?_
  refine w_aload_n cd_183_44 rfl ?_
  refine w_getfield cd_183_45 (show mt_f 12 441 = some (12, 46) by decide +kernel) h8 h9 h11 ?_
  exact w_ifeq cd_183_48 (by decide) h12 h13
theorem b_183_51 {d : Nat} {Q : (Option Value ⊕ Nat) → mi_H → Prop} (n sl : Nat) (f : Nat → mi_C) {l1 : Nat} {l2 : Int32} {l3 : Int32} {l4 : Int32} {o5 : Option Value} (h6 : mi_W d 183 65 [some (.ref l1), some (.int l2), some (.int l3), some (.int l4), o5] [.int 6] (n, sl, f) Q) : mi_W d 183 51 [some (.ref l1), some (.int l2), some (.int l3), some (.int l4), o5] [] (n, sl, f) Q := by
  refine w_bipush (v := 6) cd_183_51 (by decide) ?_
  exact w_goto cd_183_53 (by decide) h6
theorem b_183_56 {d : Nat} {Q : (Option Value ⊕ Nat) → mi_H → Prop} (n sl : Nat) (f : Nat → mi_C) {l1 : Nat} {l2 : Int32} {l3 : Int32} {l4 : Int32} {o5 : Option Value} (h6 : l4 = (0 : Int32) → mi_W d 183 64 [some (.ref l1), some (.int l2), some (.int l3), some (.int l4), o5] [] (n, sl, f) Q) (h7 : ¬ (l4 = (0 : Int32)) → mi_W d 183 60 [some (.ref l1), some (.int l2), some (.int l3), some (.int l4), o5] [] (n, sl, f) Q) : mi_W d 183 56 [some (.ref l1), some (.int l2), some (.int l3), some (.int l4), o5] [] (n, sl, f) Q := by
  refine w_iload_n cd_183_56 rfl ?_
  exact w_ifeq cd_183_57 (by decide) h6 h7
theorem b_183_60 {d : Nat} {Q : (Option Value ⊕ Nat) → mi_H → Prop} (n sl : Nat) (f : Nat → mi_C) {l1 : Nat} {l2 : Int32} {l3 : Int32} {l4 : Int32} {o5 : Option Value} (h6 : mi_W d 183 65 [some (.ref l1), some (.int l2), some (.int l3), some (.int l4), o5] [.int 1] (n, sl, f) Q) : mi_W d 183 60 [some (.ref l1), some (.int l2), some (.int l3), some (.int l4), o5] [] (n, sl, f) Q := by
  refine w_iconst (v := 1) cd_183_60 (by decide) ?_
  exact w_goto cd_183_61 (by decide) h6
theorem b_183_64 {d : Nat} {Q : (Option Value ⊕ Nat) → mi_H → Prop} (n sl : Nat) (f : Nat → mi_C) {l1 : Nat} {l2 : Int32} {l3 : Int32} {l4 : Int32} {o5 : Option Value} (h6 : mi_W d 183 65 [some (.ref l1), some (.int l2), some (.int l3), some (.int l4), o5] [.int 0] (n, sl, f) Q) : mi_W d 183 64 [some (.ref l1), some (.int l2), some (.int l3), some (.int l4), o5] [] (n, sl, f) Q := by
  refine w_iconst (v := 0) cd_183_64 (by decide) ?_
  exact h6
theorem b_183_65 {d : Nat} {Q : (Option Value ⊕ Nat) → mi_H → Prop} (n sl : Nat) (f : Nat → mi_C) {l1 : Nat} {l2 : Int32} {l3 : Int32} {l4 : Int32} {o5 : Option Value} {s6 : Int32} (h7 : Q (.inl (some (.int s6))) (n, sl, f)) : mi_W d 183 65 [some (.ref l1), some (.int l2), some (.int l3), some (.int l4), o5] [.int s6] (n, sl, f) Q := by
  exact w_ireturn_i cd_183_65 (by decide +kernel) h7
theorem b_183_66 {d : Nat} {Q : (Option Value ⊕ Nat) → mi_H → Prop} (n sl : Nat) (f : Nat → mi_C) {l1 : Nat} {l2 : Int32} {l3 : Int32} {o4 : Option Value} {o5 : Option Value} {fs6 : List Value} {x9 : Nat} (m11 i11 : Nat) (g11 : Nat → Int32) (h7 : f l1 = .inr (12, fs6)) (h8 : l1 < n) (h10 : fs6[12]? = some (.ref x9)) (h12 : f x9 = .inl (0, m11, .inl g11)) (h13 : x9 < n ∨ x9 = mi_SC) (h14 : mi_ix l2 m11 i11) (h15 : ¬ (g11 i11) = 8 → mi_W d 183 152 [some (.ref l1), some (.int l2), some (.int l3), o4, o5] [] (n, sl, f) Q) (h16 : ¬ (¬ (g11 i11) = 8) → mi_W d 183 77 [some (.ref l1), some (.int l2), some (.int l3), o4, o5] [] (n, sl, f) Q) : mi_W d 183 66 [some (.ref l1), some (.int l2), some (.int l3), o4, o5] [] (n, sl, f) Q := by
  refine w_aload_n cd_183_66 rfl ?_
  refine w_getfield cd_183_67 (show mt_f 12 77 = some (12, 12) by decide +kernel) h7 h8 h10 ?_
  refine w_iload_n cd_183_70 rfl ?_
  refine w_iaload cd_183_71 h12 h13 h14 ?_
  refine w_bipush (v := 8) cd_183_72 (by decide) ?_
  exact w_if_icmpne cd_183_74 (by decide) h15 h16
theorem b_183_77 {d : Nat} {Q : (Option Value ⊕ Nat) → mi_H → Prop} (n sl : Nat) (f : Nat → mi_C) {l1 : Nat} {l2 : Int32} {l3 : Int32} {o4 : Option Value} {o5 : Option Value} {fs6 : List Value} {x9 : Nat} (m11 i11 : Nat) (g11 : Nat → Int32) {fs15 : List Value} {x18 : Nat} (m20 i20 : Nat) (g20 : Nat → Int32) (h7 : f l1 = .inr (12, fs6)) (h8 : l1 < n) (h10 : fs6[61]? = some (.ref x9)) (h12 : f x9 = .inl (0, m11, .inl g11)) (h13 : x9 < n ∨ x9 = mi_SC) (h14 : mi_ix l3 m11 i11) (h16 : f l1 = .inr (12, fs15)) (h17 : l1 < n) (h19 : fs15[13]? = some (.ref x18)) (h21 : f x18 = .inl (0, m20, .inl g20)) (h22 : x18 < n ∨ x18 = mi_SC) (h23 : mi_ix l2 m20 i20) (h24 : (g11 i11) = (g20 i20) → mi_W d 183 94 [some (.ref l1), some (.int l2), some (.int l3), o4, o5] [] (n, sl, f) Q) (h25 : ¬ ((g11 i11) = (g20 i20)) → mi_W d 183 92 [some (.ref l1), some (.int l2), some (.int l3), o4, o5] [] (n, sl, f) Q) : mi_W d 183 77 [some (.ref l1), some (.int l2), some (.int l3), o4, o5] [] (n, sl, f) Q := by
  refine w_aload_n cd_183_77 rfl ?_
  refine w_getfield cd_183_78 (show mt_f 12 181 = some (12, 61) by decide +kernel) h7 h8 h10 ?_
  refine w_iload_n cd_183_81 rfl ?_
  refine w_iaload cd_183_82 h12 h13 h14 ?_
  refine w_aload_n cd_183_83 rfl ?_
  refine w_getfield cd_183_84 (show mt_f 12 80 = some (12, 13) by decide +kernel) h16 h17 h19 ?_
  refine w_iload_n cd_183_87 rfl ?_
  refine w_iaload cd_183_88 h21 h22 h23 ?_
  exact w_if_icmpeq cd_183_89 (by decide) h24 h25
theorem b_183_92 {d : Nat} {Q : (Option Value ⊕ Nat) → mi_H → Prop} (n sl : Nat) (f : Nat → mi_C) {l1 : Nat} {l2 : Int32} {l3 : Int32} {o4 : Option Value} {o5 : Option Value} (h6 : Q (.inl (some (.int 0))) (n, sl, f)) : mi_W d 183 92 [some (.ref l1), some (.int l2), some (.int l3), o4, o5] [] (n, sl, f) Q := by
  refine w_iconst (v := 0) cd_183_92 (by decide) ?_
  exact w_ireturn_i cd_183_93 (by decide +kernel) h6
theorem b_183_94 {d : Nat} {Q : (Option Value ⊕ Nat) → mi_H → Prop} (n sl : Nat) (f : Nat → mi_C) {l1 : Nat} {l2 : Int32} {l3 : Int32} {o4 : Option Value} {o5 : Option Value} {fs6 : List Value} {x9 : Nat} (m11 i11 : Nat) (g11 : Nat → Int32) (h7 : f l1 = .inr (12, fs6)) (h8 : l1 < n) (h10 : fs6[40]? = some (.ref x9)) (h12 : f x9 = .inl (0, m11, .inl g11)) (h13 : x9 < n ∨ x9 = mi_SC) (h14 : mi_ix l2 m11 i11) (h15 : mi_W d 183 101 [some (.ref l1), some (.int l2), some (.int l3), some (.int (g11 i11)), o5] [] (n, sl, f) Q) : mi_W d 183 94 [some (.ref l1), some (.int l2), some (.int l3), o4, o5] [] (n, sl, f) Q := by
  refine w_aload_n cd_183_94 rfl ?_
  refine w_getfield cd_183_95 (show mt_f 12 141 = some (12, 40) by decide +kernel) h7 h8 h10 ?_
  refine w_iload_n cd_183_98 rfl ?_
  refine w_iaload cd_183_99 h12 h13 h14 ?_
  refine w_istore_n (ls' := [some (.ref l1), some (.int l2), some (.int l3), some (.int (g11 i11)), o5]) cd_183_100 (Nat.le_of_ble_eq_true rfl) rfl ?_
  exact h15
theorem b_183_101 {d : Nat} {Q : (Option Value ⊕ Nat) → mi_H → Prop} (n sl : Nat) (f : Nat → mi_C) {l1 : Nat} {l2 : Int32} {l3 : Int32} {l4 : Int32} {o5 : Option Value} {fs6 : List Value} {x9 : Nat} (m11 i11 : Nat) (g11 : Nat → Int32) {fs15 : List Value} {x18 : Nat} (m20 i20 : Nat) (g20 : Nat → Int32) (h7 : f l1 = .inr (12, fs6)) (h8 : l1 < n) (h10 : fs6[40]? = some (.ref x9)) (h12 : f x9 = .inl (0, m11, .inl g11)) (h13 : x9 < n ∨ x9 = mi_SC) (h14 : mi_ix l2 m11 i11) (h16 : f l1 = .inr (12, fs15)) (h17 : l1 < n) (h19 : fs15[18]? = some (.ref x18)) (h21 : f x18 = .inl (0, m20, .inl g20)) (h22 : x18 < n ∨ x18 = mi_SC) (h23 : mi_ix l2 m20 i20) (h24 : ((g11 i11) + (g20 i20)) ≤ l4 → mi_W d 183 150 [some (.ref l1), some (.int l2), some (.int l3), some (.int l4), o5] [] (n, sl, f) Q) (h25 : ¬ (((g11 i11) + (g20 i20)) ≤ l4) → mi_W d 183 118 [some (.ref l1), some (.int l2), some (.int l3), some (.int l4), o5] [] (n, sl, f) Q) : mi_W d 183 101 [some (.ref l1), some (.int l2), some (.int l3), some (.int l4), o5] [] (n, sl, f) Q := by
  refine w_iload_n cd_183_101 rfl ?_
  refine w_aload_n cd_183_102 rfl ?_
  refine w_getfield cd_183_103 (show mt_f 12 141 = some (12, 40) by decide +kernel) h7 h8 h10 ?_
  refine w_iload_n cd_183_106 rfl ?_
  refine w_iaload cd_183_107 h12 h13 h14 ?_
  refine w_aload_n cd_183_108 rfl ?_
  refine w_getfield cd_183_109 (show mt_f 12 95 = some (12, 18) by decide +kernel) h16 h17 h19 ?_
  refine w_iload_n cd_183_112 rfl ?_
  refine w_iaload cd_183_113 h21 h22 h23 ?_
  refine w_iadd cd_183_114 ?_
  exact w_if_icmpge cd_183_115 (by decide) h24 h25
theorem b_183_118 {d : Nat} {Q : (Option Value ⊕ Nat) → mi_H → Prop} (n sl : Nat) (f : Nat → mi_C) {l1 : Nat} {l2 : Int32} {l3 : Int32} {l4 : Int32} {o5 : Option Value} {fs6 : List Value} {x9 : Nat} (m11 i11 : Nat) (g11 : Nat → Int64) {fs15 : List Value} {x18 : Nat} (m20 i20 : Nat) (g20 : Nat → Int64) {fs24 : List Value} {x27 : Nat} (m29 i29 : Nat) (g29 : Nat → Int64) (h7 : f l1 = .inr (12, fs6)) (h8 : l1 < n) (h10 : fs6[64]? = some (.ref x9)) (h12 : f x9 = .inl (3, m11, .inr (.inl g11))) (h13 : x9 < n) (h14 : mi_ix l3 m11 i11) (h16 : f l1 = .inr (12, fs15)) (h17 : l1 < n) (h19 : fs15[28]? = some (.ref x18)) (h21 : f x18 = .inl (3, m20, .inr (.inl g20))) (h22 : x18 < n) (h23 : mi_ix l4 m20 i20) (h25 : f l1 = .inr (12, fs24)) (h26 : l1 < n) (h28 : fs24[29]? = some (.ref x27)) (h30 : f x27 = .inl (3, m29, .inr (.inl g29))) (h31 : x27 < n) (h32 : mi_ix l4 m29 i29) (h33 : mi_W d 141 0 (mi_en 6 [.long (g11 i11), .long (g20 i20), .long (g29 i29)]) [] (n, sl, f) (mi_Kc d 183 136 [some (.ref l1), some (.int l2), some (.int l3), some (.int l4), o5] [] Q)) : mi_W (d + 1) 183 118 [some (.ref l1), some (.int l2), some (.int l3), some (.int l4), o5] [] (n, sl, f) Q := by
  refine w_aload_n cd_183_118 rfl ?_
  refine w_getfield cd_183_119 (show mt_f 12 190 = some (12, 64) by decide +kernel) h7 h8 h10 ?_
  refine w_iload_n cd_183_122 rfl ?_
  refine w_laload cd_183_123 h12 h13 h14 ?_
  refine w_aload_n cd_183_124 rfl ?_
  refine w_getfield cd_183_125 (show mt_f 12 105 = some (12, 28) by decide +kernel) h16 h17 h19 ?_
  refine w_iload_n cd_183_128 rfl ?_
  refine w_laload cd_183_129 h21 h22 h23 ?_
  refine w_aload_n cd_183_130 rfl ?_
  refine w_getfield cd_183_131 (show mt_f 12 108 = some (12, 29) by decide +kernel) h25 h26 h28 ?_
  refine w_iload_n cd_183_134 rfl ?_
  refine w_laload cd_183_135 h30 h31 h32 ?_
  exact w_invokestatic cd_183_136 (show mt_m 12 268 = some (141, 4) by decide +kernel) (by decide) (rest := []) rfl (as := [.long (g11 i11), .long (g20 i20), .long (g29 i29)]) rfl ⟨Nat.le_of_ble_eq_true rfl, Nat.le_of_ble_eq_true rfl, Nat.le_of_ble_eq_true rfl⟩ h33
theorem b_183_139 {d : Nat} {Q : (Option Value ⊕ Nat) → mi_H → Prop} (n sl : Nat) (f : Nat → mi_C) {l1 : Nat} {l2 : Int32} {l3 : Int32} {l4 : Int32} {o5 : Option Value} {s6 : Int32} (h7 : s6 = (0 : Int32) → mi_W d 183 144 [some (.ref l1), some (.int l2), some (.int l3), some (.int l4), o5] [] (n, sl, f) Q) (h8 : ¬ (s6 = (0 : Int32)) → mi_W d 183 142 [some (.ref l1), some (.int l2), some (.int l3), some (.int l4), o5] [] (n, sl, f) Q) : mi_W d 183 139 [some (.ref l1), some (.int l2), some (.int l3), some (.int l4), o5] [.int s6] (n, sl, f) Q := by
  exact w_ifeq cd_183_139 (by decide) h7 h8
theorem b_183_142 {d : Nat} {Q : (Option Value ⊕ Nat) → mi_H → Prop} (n sl : Nat) (f : Nat → mi_C) {l1 : Nat} {l2 : Int32} {l3 : Int32} {l4 : Int32} {o5 : Option Value} (h6 : Q (.inl (some (.int 1))) (n, sl, f)) : mi_W d 183 142 [some (.ref l1), some (.int l2), some (.int l3), some (.int l4), o5] [] (n, sl, f) Q := by
  refine w_iconst (v := 1) cd_183_142 (by decide) ?_
  exact w_ireturn_i cd_183_143 (by decide +kernel) h6
theorem b_183_144 {d : Nat} {Q : (Option Value ⊕ Nat) → mi_H → Prop} (n sl : Nat) (f : Nat → mi_C) {l1 : Nat} {l2 : Int32} {l3 : Int32} {l4 : Int32} {o5 : Option Value} (h6 : mi_W d 183 101 [some (.ref l1), some (.int l2), some (.int l3), some (.int (l4 + 1)), o5] [] (n, sl, f) Q) : mi_W d 183 144 [some (.ref l1), some (.int l2), some (.int l3), some (.int l4), o5] [] (n, sl, f) Q := by
  refine w_iinc (v := 1) (ls' := [some (.ref l1), some (.int l2), some (.int l3), some (.int (l4 + 1)), o5]) cd_183_144 rfl (by decide) rfl ?_
  exact w_goto cd_183_147 (by decide) h6
theorem b_183_150 {d : Nat} {Q : (Option Value ⊕ Nat) → mi_H → Prop} (n sl : Nat) (f : Nat → mi_C) {l1 : Nat} {l2 : Int32} {l3 : Int32} {l4 : Int32} {o5 : Option Value} (h6 : Q (.inl (some (.int 0))) (n, sl, f)) : mi_W d 183 150 [some (.ref l1), some (.int l2), some (.int l3), some (.int l4), o5] [] (n, sl, f) Q := by
  refine w_iconst (v := 0) cd_183_150 (by decide) ?_
  exact w_ireturn_i cd_183_151 (by decide +kernel) h6
theorem b_183_152 {d : Nat} {Q : (Option Value ⊕ Nat) → mi_H → Prop} (n sl : Nat) (f : Nat → mi_C) {l1 : Nat} {l2 : Int32} {l3 : Int32} {o4 : Option Value} {o5 : Option Value} {fs6 : List Value} {x9 : Nat} (m11 i11 : Nat) (g11 : Nat → Int32) {fs15 : List Value} {x18 : Nat} (m20 i20 : Nat) (g20 : Nat → Int32) (h7 : f l1 = .inr (12, fs6)) (h8 : l1 < n) (h10 : fs6[61]? = some (.ref x9)) (h12 : f x9 = .inl (0, m11, .inl g11)) (h13 : x9 < n ∨ x9 = mi_SC) (h14 : mi_ix l3 m11 i11) (h16 : f l1 = .inr (12, fs15)) (h17 : l1 < n) (h19 : fs15[13]? = some (.ref x18)) (h21 : f x18 = .inl (0, m20, .inl g20)) (h22 : x18 < n ∨ x18 = mi_SC) (h23 : mi_ix l2 m20 i20) (h24 : ¬ (g11 i11) = (g20 i20) → mi_W d 183 197 [some (.ref l1), some (.int l2), some (.int l3), o4, o5] [] (n, sl, f) Q) (h25 : ¬ (¬ (g11 i11) = (g20 i20)) → mi_W d 183 167 [some (.ref l1), some (.int l2), some (.int l3), o4, o5] [] (n, sl, f) Q) : mi_W d 183 152 [some (.ref l1), some (.int l2), some (.int l3), o4, o5] [] (n, sl, f) Q := by
  refine w_aload_n cd_183_152 rfl ?_
  refine w_getfield cd_183_153 (show mt_f 12 181 = some (12, 61) by decide +kernel) h7 h8 h10 ?_
  refine w_iload_n cd_183_156 rfl ?_
  refine w_iaload cd_183_157 h12 h13 h14 ?_
  refine w_aload_n cd_183_158 rfl ?_
  refine w_getfield cd_183_159 (show mt_f 12 80 = some (12, 13) by decide +kernel) h16 h17 h19 ?_
  refine w_iload_n cd_183_162 rfl ?_
  refine w_iaload cd_183_163 h21 h22 h23 ?_
  exact w_if_icmpne cd_183_164 (by decide) h24 h25
theorem b_183_167 {d : Nat} {Q : (Option Value ⊕ Nat) → mi_H → Prop} (n sl : Nat) (f : Nat → mi_C) {l1 : Nat} {l2 : Int32} {l3 : Int32} {o4 : Option Value} {o5 : Option Value} {fs6 : List Value} {x9 : Nat} (m11 i11 : Nat) (g11 : Nat → Int32) {fs15 : List Value} {x18 : Nat} (m20 i20 : Nat) (g20 : Nat → Int32) (h7 : f l1 = .inr (12, fs6)) (h8 : l1 < n) (h10 : fs6[62]? = some (.ref x9)) (h12 : f x9 = .inl (0, m11, .inl g11)) (h13 : x9 < n ∨ x9 = mi_SC) (h14 : mi_ix l3 m11 i11) (h16 : f l1 = .inr (12, fs15)) (h17 : l1 < n) (h19 : fs15[14]? = some (.ref x18)) (h21 : f x18 = .inl (0, m20, .inl g20)) (h22 : x18 < n ∨ x18 = mi_SC) (h23 : mi_ix l2 m20 i20) (h24 : ¬ (g11 i11) = (g20 i20) → mi_W d 183 197 [some (.ref l1), some (.int l2), some (.int l3), o4, o5] [] (n, sl, f) Q) (h25 : ¬ (¬ (g11 i11) = (g20 i20)) → mi_W d 183 182 [some (.ref l1), some (.int l2), some (.int l3), o4, o5] [] (n, sl, f) Q) : mi_W d 183 167 [some (.ref l1), some (.int l2), some (.int l3), o4, o5] [] (n, sl, f) Q := by
  refine w_aload_n cd_183_167 rfl ?_
  refine w_getfield cd_183_168 (show mt_f 12 184 = some (12, 62) by decide +kernel) h7 h8 h10 ?_
  refine w_iload_n cd_183_171 rfl ?_
  refine w_iaload cd_183_172 h12 h13 h14 ?_
  refine w_aload_n cd_183_173 rfl ?_
  refine w_getfield cd_183_174 (show mt_f 12 83 = some (12, 14) by decide +kernel) h16 h17 h19 ?_
  refine w_iload_n cd_183_177 rfl ?_
  refine w_iaload cd_183_178 h21 h22 h23 ?_
  exact w_if_icmpne cd_183_179 (by decide) h24 h25
theorem b_183_182 {d : Nat} {Q : (Option Value ⊕ Nat) → mi_H → Prop} (n sl : Nat) (f : Nat → mi_C) {l1 : Nat} {l2 : Int32} {l3 : Int32} {o4 : Option Value} {o5 : Option Value} {fs6 : List Value} {x9 : Nat} (m11 i11 : Nat) (g11 : Nat → Int32) {fs15 : List Value} {x18 : Nat} (m20 i20 : Nat) (g20 : Nat → Int32) (h7 : f l1 = .inr (12, fs6)) (h8 : l1 < n) (h10 : fs6[63]? = some (.ref x9)) (h12 : f x9 = .inl (0, m11, .inl g11)) (h13 : x9 < n ∨ x9 = mi_SC) (h14 : mi_ix l3 m11 i11) (h16 : f l1 = .inr (12, fs15)) (h17 : l1 < n) (h19 : fs15[15]? = some (.ref x18)) (h21 : f x18 = .inl (0, m20, .inl g20)) (h22 : x18 < n ∨ x18 = mi_SC) (h23 : mi_ix l2 m20 i20) (h24 : (g11 i11) = (g20 i20) → mi_W d 183 199 [some (.ref l1), some (.int l2), some (.int l3), o4, o5] [] (n, sl, f) Q) (h25 : ¬ ((g11 i11) = (g20 i20)) → mi_W d 183 197 [some (.ref l1), some (.int l2), some (.int l3), o4, o5] [] (n, sl, f) Q) : mi_W d 183 182 [some (.ref l1), some (.int l2), some (.int l3), o4, o5] [] (n, sl, f) Q := by
  refine w_aload_n cd_183_182 rfl ?_
  refine w_getfield cd_183_183 (show mt_f 12 187 = some (12, 63) by decide +kernel) h7 h8 h10 ?_
  refine w_iload_n cd_183_186 rfl ?_
  refine w_iaload cd_183_187 h12 h13 h14 ?_
  refine w_aload_n cd_183_188 rfl ?_
  refine w_getfield cd_183_189 (show mt_f 12 86 = some (12, 15) by decide +kernel) h16 h17 h19 ?_
  refine w_iload_n cd_183_192 rfl ?_
  refine w_iaload cd_183_193 h21 h22 h23 ?_
  exact w_if_icmpeq cd_183_194 (by decide) h24 h25
theorem b_183_197 {d : Nat} {Q : (Option Value ⊕ Nat) → mi_H → Prop} (n sl : Nat) (f : Nat → mi_C) {l1 : Nat} {l2 : Int32} {l3 : Int32} {o4 : Option Value} {o5 : Option Value} (h6 : Q (.inl (some (.int 0))) (n, sl, f)) : mi_W d 183 197 [some (.ref l1), some (.int l2), some (.int l3), o4, o5] [] (n, sl, f) Q := by
  refine w_iconst (v := 0) cd_183_197 (by decide) ?_
  exact w_ireturn_i cd_183_198 (by decide +kernel) h6
theorem b_183_199 {d : Nat} {Q : (Option Value ⊕ Nat) → mi_H → Prop} (n sl : Nat) (f : Nat → mi_C) {l1 : Nat} {l2 : Int32} {l3 : Int32} {o4 : Option Value} {o5 : Option Value} {fs6 : List Value} {x9 : Nat} (m11 i11 : Nat) (g11 : Nat → Int32) {fs15 : List Value} (h7 : f l1 = .inr (12, fs6)) (h8 : l1 < n) (h10 : fs6[16]? = some (.ref x9)) (h12 : f x9 = .inl (0, m11, .inl g11)) (h13 : x9 < n ∨ x9 = mi_SC) (h14 : mi_ix l2 m11 i11) (h16 : f l1 = .inr (12, fs15)) (h17 : l1 < n) (h18 : mi_W d 176 0 (mi_en 2 [.ref l1, .int (g11 i11)]) [] (n, sl, f) (mi_Kc d 183 206 [some (.ref l1), some (.int l2), some (.int l3), o4, o5] [] Q)) : mi_W (d + 1) 183 199 [some (.ref l1), some (.int l2), some (.int l3), o4, o5] [] (n, sl, f) Q := by
  refine w_aload_n cd_183_199 rfl ?_
  refine w_aload_n cd_183_200 rfl ?_
  refine w_getfield cd_183_201 (show mt_f 12 89 = some (12, 16) by decide +kernel) h7 h8 h10 ?_
  refine w_iload_n cd_183_204 rfl ?_
  refine w_iaload cd_183_205 h12 h13 h14 ?_
  exact w_invokevirtual cd_183_206 (show mt_m 12 451 = some (176, 0) by decide +kernel) (rest := []) rfl (as := [.ref l1, .int (g11 i11)]) rfl h16 (Or.inl h17) ⟨Nat.le_of_ble_eq_true rfl, Nat.le_of_ble_eq_true rfl, Nat.le_of_ble_eq_true rfl⟩ h18
theorem b_183_209 {d : Nat} {Q : (Option Value ⊕ Nat) → mi_H → Prop} (n sl : Nat) (f : Nat → mi_C) {l1 : Nat} {l2 : Int32} {l3 : Int32} {o4 : Option Value} {o5 : Option Value} {s6 : Int64} {fs7 : List Value} {x10 : Int32} (h8 : f l1 = .inr (12, fs7)) (h9 : l1 < n) (h11 : fs7[46]? = some (.int x10)) (h12 : x10 = (0 : Int32) → mi_W d 183 222 [some (.ref l1), some (.int l2), some (.int l3), some (.long s6), none] [] (n, sl, f) Q) (h13 : ¬ (x10 = (0 : Int32)) → mi_W d 183 217 [some (.ref l1), some (.int l2), some (.int l3), some (.long s6), none] [] (n, sl, f) Q) : mi_W d 183 209 [some (.ref l1), some (.int l2), some (.int l3), o4, o5] [.long s6] (n, sl, f) Q := by
  refine w_lstore_n (ls' := [some (.ref l1), some (.int l2), some (.int l3), some (.long s6), none]) cd_183_209 (Nat.le_of_ble_eq_true rfl) rfl ?_
  refine w_aload_n cd_183_210 rfl ?_
  refine w_getfield cd_183_211 (show mt_f 12 441 = some (12, 46) by decide +kernel) h8 h9 h11 ?_
  exact w_ifeq cd_183_214 (by decide) h12 h13
theorem b_183_217 {d : Nat} {Q : (Option Value ⊕ Nat) → mi_H → Prop} (n sl : Nat) (f : Nat → mi_C) {l1 : Nat} {l2 : Int32} {l3 : Int32} {l4 : Int64} (h5 : mi_W d 183 238 [some (.ref l1), some (.int l2), some (.int l3), some (.long l4), none] [.int 6] (n, sl, f) Q) : mi_W d 183 217 [some (.ref l1), some (.int l2), some (.int l3), some (.long l4), none] [] (n, sl, f) Q := by
  refine w_bipush (v := 6) cd_183_217 (by decide) ?_
  exact w_goto cd_183_219 (by decide) h5
theorem b_183_222 {d : Nat} {Q : (Option Value ⊕ Nat) → mi_H → Prop} (n sl : Nat) (f : Nat → mi_C) {l1 : Nat} {l2 : Int32} {l3 : Int32} {l4 : Int64} {fs5 : List Value} {x8 : Nat} (m10 i10 : Nat) (g10 : Nat → Int64) (h6 : f l1 = .inr (12, fs5)) (h7 : l1 < n) (h9 : fs5[64]? = some (.ref x8)) (h11 : f x8 = .inl (3, m10, .inr (.inl g10))) (h12 : x8 < n) (h13 : mi_ix l3 m10 i10) (h14 : ¬ (lg_cmp l4 (g10 i10)) = (0 : Int32) → mi_W d 183 237 [some (.ref l1), some (.int l2), some (.int l3), some (.long l4), none] [] (n, sl, f) Q) (h15 : ¬ (¬ (lg_cmp l4 (g10 i10)) = (0 : Int32)) → mi_W d 183 233 [some (.ref l1), some (.int l2), some (.int l3), some (.long l4), none] [] (n, sl, f) Q) : mi_W d 183 222 [some (.ref l1), some (.int l2), some (.int l3), some (.long l4), none] [] (n, sl, f) Q := by
  refine w_lload_n cd_183_222 rfl ?_
  refine w_aload_n cd_183_223 rfl ?_
  refine w_getfield cd_183_224 (show mt_f 12 190 = some (12, 64) by decide +kernel) h6 h7 h9 ?_
  refine w_iload_n cd_183_227 rfl ?_
  refine w_laload cd_183_228 h11 h12 h13 ?_
  refine w_lcmp cd_183_229 ?_
  exact w_ifne cd_183_230 (by decide) h14 h15
theorem b_183_233 {d : Nat} {Q : (Option Value ⊕ Nat) → mi_H → Prop} (n sl : Nat) (f : Nat → mi_C) {l1 : Nat} {l2 : Int32} {l3 : Int32} {l4 : Int64} (h5 : mi_W d 183 238 [some (.ref l1), some (.int l2), some (.int l3), some (.long l4), none] [.int 1] (n, sl, f) Q) : mi_W d 183 233 [some (.ref l1), some (.int l2), some (.int l3), some (.long l4), none] [] (n, sl, f) Q := by
  refine w_iconst (v := 1) cd_183_233 (by decide) ?_
  exact w_goto cd_183_234 (by decide) h5
theorem b_183_237 {d : Nat} {Q : (Option Value ⊕ Nat) → mi_H → Prop} (n sl : Nat) (f : Nat → mi_C) {l1 : Nat} {l2 : Int32} {l3 : Int32} {l4 : Int64} (h5 : mi_W d 183 238 [some (.ref l1), some (.int l2), some (.int l3), some (.long l4), none] [.int 0] (n, sl, f) Q) : mi_W d 183 237 [some (.ref l1), some (.int l2), some (.int l3), some (.long l4), none] [] (n, sl, f) Q := by
  refine w_iconst (v := 0) cd_183_237 (by decide) ?_
  exact h5
theorem b_183_238 {d : Nat} {Q : (Option Value ⊕ Nat) → mi_H → Prop} (n sl : Nat) (f : Nat → mi_C) {l1 : Nat} {l2 : Int32} {l3 : Int32} {l4 : Int64} {s5 : Int32} (h6 : Q (.inl (some (.int s5))) (n, sl, f)) : mi_W d 183 238 [some (.ref l1), some (.int l2), some (.int l3), some (.long l4), none] [.int s5] (n, sl, f) Q := by
  exact w_ireturn_i cd_183_238 (by decide +kernel) h6
/-! MarloweHostModel.settle()I -/
set_option maxRecDepth 100000 in
theorem mq_184 : mt_q 184 = my_184 := rfl
set_option maxRecDepth 100000 in
theorem ci_184 : mt_inc 0 my_184.cd = true := by decide +kernel
theorem cd_184_0 : mt_cd 184 0 = some (.iconst 0) := mt_cd_of (q := (0, .iconst 0, 1)) mq_184 ci_184 (List.mem_of_getElem? (i := 0) rfl)
theorem cd_184_1 : mt_cd 184 1 = some (.istore_n 1) := mt_cd_of (q := (1, .istore_n 1, 1)) mq_184 ci_184 (List.mem_of_getElem? (i := 1) rfl)
theorem cd_184_2 : mt_cd 184 2 = some (.iload_n 1) := mt_cd_of (q := (2, .iload_n 1, 1)) mq_184 ci_184 (List.mem_of_getElem? (i := 2) rfl)
theorem cd_184_3 : mt_cd 184 3 = some (.iconst 2) := mt_cd_of (q := (3, .iconst 2, 1)) mq_184 ci_184 (List.mem_of_getElem? (i := 3) rfl)
theorem cd_184_4 : mt_cd 184 4 = some (.if_icmp .ge 121) := mt_cd_of (q := (4, .if_icmp .ge 121, 3)) mq_184 ci_184 (List.mem_of_getElem? (i := 4) rfl)
theorem cd_184_7 : mt_cd 184 7 = some (.iconst 0) := mt_cd_of (q := (7, .iconst 0, 1)) mq_184 ci_184 (List.mem_of_getElem? (i := 5) rfl)
theorem cd_184_8 : mt_cd 184 8 = some (.istore_n 2) := mt_cd_of (q := (8, .istore_n 2, 1)) mq_184 ci_184 (List.mem_of_getElem? (i := 6) rfl)
theorem cd_184_9 : mt_cd 184 9 = some (.iload_n 2) := mt_cd_of (q := (9, .iload_n 2, 1)) mq_184 ci_184 (List.mem_of_getElem? (i := 7) rfl)
theorem cd_184_10 : mt_cd 184 10 = some (.bipush 32) := mt_cd_of (q := (10, .bipush 32, 2)) mq_184 ci_184 (List.mem_of_getElem? (i := 8) rfl)
theorem cd_184_12 : mt_cd 184 12 = some (.if_icmp .ge 107) := mt_cd_of (q := (12, .if_icmp .ge 107, 3)) mq_184 ci_184 (List.mem_of_getElem? (i := 9) rfl)
theorem cd_184_15 : mt_cd 184 15 = some (.aload_n 0) := mt_cd_of (q := (15, .aload_n 0, 1)) mq_184 ci_184 (List.mem_of_getElem? (i := 10) rfl)
theorem cd_184_16 : mt_cd 184 16 = some (.getfield 175) := mt_cd_of (q := (16, .getfield 175, 3)) mq_184 ci_184 (List.mem_of_getElem? (i := 11) rfl)
theorem cd_184_19 : mt_cd 184 19 = some (.iload_n 2) := mt_cd_of (q := (19, .iload_n 2, 1)) mq_184 ci_184 (List.mem_of_getElem? (i := 12) rfl)
theorem cd_184_20 : mt_cd 184 20 = some (.laload) := mt_cd_of (q := (20, .laload, 1)) mq_184 ci_184 (List.mem_of_getElem? (i := 13) rfl)
theorem cd_184_21 : mt_cd 184 21 = some (.aload_n 0) := mt_cd_of (q := (21, .aload_n 0, 1)) mq_184 ci_184 (List.mem_of_getElem? (i := 14) rfl)
theorem cd_184_22 : mt_cd 184 22 = some (.getfield 172) := mt_cd_of (q := (22, .getfield 172, 3)) mq_184 ci_184 (List.mem_of_getElem? (i := 15) rfl)
theorem cd_184_25 : mt_cd 184 25 = some (.iload_n 2) := mt_cd_of (q := (25, .iload_n 2, 1)) mq_184 ci_184 (List.mem_of_getElem? (i := 16) rfl)
theorem cd_184_26 : mt_cd 184 26 = some (.laload) := mt_cd_of (q := (26, .laload, 1)) mq_184 ci_184 (List.mem_of_getElem? (i := 17) rfl)
theorem cd_184_27 : mt_cd 184 27 = some (.lsub) := mt_cd_of (q := (27, .lsub, 1)) mq_184 ci_184 (List.mem_of_getElem? (i := 18) rfl)
theorem cd_184_28 : mt_cd 184 28 = some (.lstore_n 3) := mt_cd_of (q := (28, .lstore_n 3, 1)) mq_184 ci_184 (List.mem_of_getElem? (i := 19) rfl)
theorem cd_184_29 : mt_cd 184 29 = some (.iconst 0) := mt_cd_of (q := (29, .iconst 0, 1)) mq_184 ci_184 (List.mem_of_getElem? (i := 20) rfl)
theorem cd_184_30 : mt_cd 184 30 = some (.istore 5) := mt_cd_of (q := (30, .istore 5, 2)) mq_184 ci_184 (List.mem_of_getElem? (i := 21) rfl)
theorem cd_184_32 : mt_cd 184 32 = some (.iload 5) := mt_cd_of (q := (32, .iload 5, 2)) mq_184 ci_184 (List.mem_of_getElem? (i := 22) rfl)
theorem cd_184_34 : mt_cd 184 34 = some (.aload_n 0) := mt_cd_of (q := (34, .aload_n 0, 1)) mq_184 ci_184 (List.mem_of_getElem? (i := 23) rfl)
theorem cd_184_35 : mt_cd 184 35 = some (.getfield 493) := mt_cd_of (q := (35, .getfield 493, 3)) mq_184 ci_184 (List.mem_of_getElem? (i := 24) rfl)
theorem cd_184_38 : mt_cd 184 38 = some (.if_icmp .ge 52) := mt_cd_of (q := (38, .if_icmp .ge 52, 3)) mq_184 ci_184 (List.mem_of_getElem? (i := 25) rfl)
theorem cd_184_41 : mt_cd 184 41 = some (.iconst 4) := mt_cd_of (q := (41, .iconst 4, 1)) mq_184 ci_184 (List.mem_of_getElem? (i := 26) rfl)
theorem cd_184_42 : mt_cd 184 42 = some (.aload_n 0) := mt_cd_of (q := (42, .aload_n 0, 1)) mq_184 ci_184 (List.mem_of_getElem? (i := 27) rfl)
theorem cd_184_43 : mt_cd 184 43 = some (.getfield 163) := mt_cd_of (q := (43, .getfield 163, 3)) mq_184 ci_184 (List.mem_of_getElem? (i := 28) rfl)
theorem cd_184_46 : mt_cd 184 46 = some (.iload 5) := mt_cd_of (q := (46, .iload 5, 2)) mq_184 ci_184 (List.mem_of_getElem? (i := 29) rfl)
theorem cd_184_48 : mt_cd 184 48 = some (.iaload) := mt_cd_of (q := (48, .iaload, 1)) mq_184 ci_184 (List.mem_of_getElem? (i := 30) rfl)
theorem cd_184_49 : mt_cd 184 49 = some (.imul) := mt_cd_of (q := (49, .imul, 1)) mq_184 ci_184 (List.mem_of_getElem? (i := 31) rfl)
theorem cd_184_50 : mt_cd 184 50 = some (.aload_n 0) := mt_cd_of (q := (50, .aload_n 0, 1)) mq_184 ci_184 (List.mem_of_getElem? (i := 32) rfl)
theorem cd_184_51 : mt_cd 184 51 = some (.getfield 166) := mt_cd_of (q := (51, .getfield 166, 3)) mq_184 ci_184 (List.mem_of_getElem? (i := 33) rfl)
theorem cd_184_54 : mt_cd 184 54 = some (.iload 5) := mt_cd_of (q := (54, .iload 5, 2)) mq_184 ci_184 (List.mem_of_getElem? (i := 34) rfl)
theorem cd_184_56 : mt_cd 184 56 = some (.iaload) := mt_cd_of (q := (56, .iaload, 1)) mq_184 ci_184 (List.mem_of_getElem? (i := 35) rfl)
theorem cd_184_57 : mt_cd 184 57 = some (.iadd) := mt_cd_of (q := (57, .iadd, 1)) mq_184 ci_184 (List.mem_of_getElem? (i := 36) rfl)
theorem cd_184_58 : mt_cd 184 58 = some (.iload_n 2) := mt_cd_of (q := (58, .iload_n 2, 1)) mq_184 ci_184 (List.mem_of_getElem? (i := 37) rfl)
theorem cd_184_59 : mt_cd 184 59 = some (.if_icmp .eq 6) := mt_cd_of (q := (59, .if_icmp .eq 6, 3)) mq_184 ci_184 (List.mem_of_getElem? (i := 38) rfl)
theorem cd_184_62 : mt_cd 184 62 = some (.goto 22) := mt_cd_of (q := (62, .goto 22, 3)) mq_184 ci_184 (List.mem_of_getElem? (i := 39) rfl)
theorem cd_184_65 : mt_cd 184 65 = some (.lload_n 3) := mt_cd_of (q := (65, .lload_n 3, 1)) mq_184 ci_184 (List.mem_of_getElem? (i := 40) rfl)
theorem cd_184_66 : mt_cd 184 66 = some (.aload_n 0) := mt_cd_of (q := (66, .aload_n 0, 1)) mq_184 ci_184 (List.mem_of_getElem? (i := 41) rfl)
theorem cd_184_67 : mt_cd 184 67 = some (.getfield 169) := mt_cd_of (q := (67, .getfield 169, 3)) mq_184 ci_184 (List.mem_of_getElem? (i := 42) rfl)
theorem cd_184_70 : mt_cd 184 70 = some (.iload 5) := mt_cd_of (q := (70, .iload 5, 2)) mq_184 ci_184 (List.mem_of_getElem? (i := 43) rfl)
theorem cd_184_72 : mt_cd 184 72 = some (.laload) := mt_cd_of (q := (72, .laload, 1)) mq_184 ci_184 (List.mem_of_getElem? (i := 44) rfl)
theorem cd_184_73 : mt_cd 184 73 = some (.ladd) := mt_cd_of (q := (73, .ladd, 1)) mq_184 ci_184 (List.mem_of_getElem? (i := 45) rfl)
theorem cd_184_74 : mt_cd 184 74 = some (.lstore_n 3) := mt_cd_of (q := (74, .lstore_n 3, 1)) mq_184 ci_184 (List.mem_of_getElem? (i := 46) rfl)
theorem cd_184_75 : mt_cd 184 75 = some (.lload_n 3) := mt_cd_of (q := (75, .lload_n 3, 1)) mq_184 ci_184 (List.mem_of_getElem? (i := 47) rfl)
theorem cd_184_76 : mt_cd 184 76 = some (.lconst 0) := mt_cd_of (q := (76, .lconst 0, 1)) mq_184 ci_184 (List.mem_of_getElem? (i := 48) rfl)
theorem cd_184_77 : mt_cd 184 77 = some (.lcmp) := mt_cd_of (q := (77, .lcmp, 1)) mq_184 ci_184 (List.mem_of_getElem? (i := 49) rfl)
theorem cd_184_78 : mt_cd 184 78 = some (.ifCond .ge 6) := mt_cd_of (q := (78, .ifCond .ge 6, 3)) mq_184 ci_184 (List.mem_of_getElem? (i := 50) rfl)
theorem cd_184_81 : mt_cd 184 81 = some (.bipush 6) := mt_cd_of (q := (81, .bipush 6, 2)) mq_184 ci_184 (List.mem_of_getElem? (i := 51) rfl)
theorem cd_184_83 : mt_cd 184 83 = some (.ireturn) := mt_cd_of (q := (83, .ireturn, 1)) mq_184 ci_184 (List.mem_of_getElem? (i := 52) rfl)
theorem cd_184_84 : mt_cd 184 84 = some (.iinc 5 1) := mt_cd_of (q := (84, .iinc 5 1, 3)) mq_184 ci_184 (List.mem_of_getElem? (i := 53) rfl)
theorem cd_184_87 : mt_cd 184 87 = some (.goto (-55)) := mt_cd_of (q := (87, .goto (-55), 3)) mq_184 ci_184 (List.mem_of_getElem? (i := 54) rfl)
theorem cd_184_90 : mt_cd 184 90 = some (.lload_n 3) := mt_cd_of (q := (90, .lload_n 3, 1)) mq_184 ci_184 (List.mem_of_getElem? (i := 55) rfl)
theorem cd_184_91 : mt_cd 184 91 = some (.ldc2_w 437) := mt_cd_of (q := (91, .ldc2_w 437, 3)) mq_184 ci_184 (List.mem_of_getElem? (i := 56) rfl)
theorem cd_184_94 : mt_cd 184 94 = some (.lcmp) := mt_cd_of (q := (94, .lcmp, 1)) mq_184 ci_184 (List.mem_of_getElem? (i := 57) rfl)
theorem cd_184_95 : mt_cd 184 95 = some (.ifCond .le 6) := mt_cd_of (q := (95, .ifCond .le 6, 3)) mq_184 ci_184 (List.mem_of_getElem? (i := 58) rfl)
theorem cd_184_98 : mt_cd 184 98 = some (.bipush 6) := mt_cd_of (q := (98, .bipush 6, 2)) mq_184 ci_184 (List.mem_of_getElem? (i := 59) rfl)
theorem cd_184_100 : mt_cd 184 100 = some (.ireturn) := mt_cd_of (q := (100, .ireturn, 1)) mq_184 ci_184 (List.mem_of_getElem? (i := 60) rfl)
theorem cd_184_101 : mt_cd 184 101 = some (.iload_n 1) := mt_cd_of (q := (101, .iload_n 1, 1)) mq_184 ci_184 (List.mem_of_getElem? (i := 61) rfl)
theorem cd_184_102 : mt_cd 184 102 = some (.iconst 1) := mt_cd_of (q := (102, .iconst 1, 1)) mq_184 ci_184 (List.mem_of_getElem? (i := 62) rfl)
theorem cd_184_103 : mt_cd 184 103 = some (.if_icmp .ne 10) := mt_cd_of (q := (103, .if_icmp .ne 10, 3)) mq_184 ci_184 (List.mem_of_getElem? (i := 63) rfl)
theorem cd_184_106 : mt_cd 184 106 = some (.aload_n 0) := mt_cd_of (q := (106, .aload_n 0, 1)) mq_184 ci_184 (List.mem_of_getElem? (i := 64) rfl)
theorem cd_184_107 : mt_cd 184 107 = some (.getfield 175) := mt_cd_of (q := (107, .getfield 175, 3)) mq_184 ci_184 (List.mem_of_getElem? (i := 65) rfl)
theorem cd_184_110 : mt_cd 184 110 = some (.iload_n 2) := mt_cd_of (q := (110, .iload_n 2, 1)) mq_184 ci_184 (List.mem_of_getElem? (i := 66) rfl)
theorem cd_184_111 : mt_cd 184 111 = some (.lload_n 3) := mt_cd_of (q := (111, .lload_n 3, 1)) mq_184 ci_184 (List.mem_of_getElem? (i := 67) rfl)
theorem cd_184_112 : mt_cd 184 112 = some (.lastore) := mt_cd_of (q := (112, .lastore, 1)) mq_184 ci_184 (List.mem_of_getElem? (i := 68) rfl)
theorem cd_184_113 : mt_cd 184 113 = some (.iinc 2 1) := mt_cd_of (q := (113, .iinc 2 1, 3)) mq_184 ci_184 (List.mem_of_getElem? (i := 69) rfl)
theorem cd_184_116 : mt_cd 184 116 = some (.goto (-107)) := mt_cd_of (q := (116, .goto (-107), 3)) mq_184 ci_184 (List.mem_of_getElem? (i := 70) rfl)
theorem cd_184_119 : mt_cd 184 119 = some (.iinc 1 1) := mt_cd_of (q := (119, .iinc 1 1, 3)) mq_184 ci_184 (List.mem_of_getElem? (i := 71) rfl)
theorem cd_184_122 : mt_cd 184 122 = some (.goto (-120)) := mt_cd_of (q := (122, .goto (-120), 3)) mq_184 ci_184 (List.mem_of_getElem? (i := 72) rfl)
theorem cd_184_125 : mt_cd 184 125 = some (.iconst 0) := mt_cd_of (q := (125, .iconst 0, 1)) mq_184 ci_184 (List.mem_of_getElem? (i := 73) rfl)
theorem cd_184_126 : mt_cd 184 126 = some (.ireturn) := mt_cd_of (q := (126, .ireturn, 1)) mq_184 ci_184 (List.mem_of_getElem? (i := 74) rfl)
theorem b_184_0 {d : Nat} {Q : (Option Value ⊕ Nat) → mi_H → Prop} (n sl : Nat) (f : Nat → mi_C) {l1 : Nat} {o2 : Option Value} {o3 : Option Value} {o4 : Option Value} {o5 : Option Value} {o6 : Option Value} (h7 : mi_W d 184 2 [some (.ref l1), some (.int 0), o3, o4, o5, o6] [] (n, sl, f) Q) : mi_W d 184 0 [some (.ref l1), o2, o3, o4, o5, o6] [] (n, sl, f) Q := by
  refine w_iconst (v := 0) cd_184_0 (by decide) ?_
  refine w_istore_n (ls' := [some (.ref l1), some (.int 0), o3, o4, o5, o6]) cd_184_1 (Nat.le_of_ble_eq_true rfl) rfl ?_
  exact h7
theorem b_184_2 {d : Nat} {Q : (Option Value ⊕ Nat) → mi_H → Prop} (n sl : Nat) (f : Nat → mi_C) {l1 : Nat} {l2 : Int32} {o3 : Option Value} {o4 : Option Value} {o5 : Option Value} {o6 : Option Value} (h7 : 2 ≤ l2 → mi_W d 184 125 [some (.ref l1), some (.int l2), o3, o4, o5, o6] [] (n, sl, f) Q) (h8 : ¬ (2 ≤ l2) → mi_W d 184 7 [some (.ref l1), some (.int l2), o3, o4, o5, o6] [] (n, sl, f) Q) : mi_W d 184 2 [some (.ref l1), some (.int l2), o3, o4, o5, o6] [] (n, sl, f) Q := by
  refine w_iload_n cd_184_2 rfl ?_
  refine w_iconst (v := 2) cd_184_3 (by decide) ?_
  exact w_if_icmpge cd_184_4 (by decide) h7 h8
theorem b_184_7 {d : Nat} {Q : (Option Value ⊕ Nat) → mi_H → Prop} (n sl : Nat) (f : Nat → mi_C) {l1 : Nat} {l2 : Int32} {o3 : Option Value} {o4 : Option Value} {o5 : Option Value} {o6 : Option Value} (h7 : mi_W d 184 9 [some (.ref l1), some (.int l2), some (.int 0), o4, o5, o6] [] (n, sl, f) Q) : mi_W d 184 7 [some (.ref l1), some (.int l2), o3, o4, o5, o6] [] (n, sl, f) Q := by
  refine w_iconst (v := 0) cd_184_7 (by decide) ?_
  refine w_istore_n (ls' := [some (.ref l1), some (.int l2), some (.int 0), o4, o5, o6]) cd_184_8 (Nat.le_of_ble_eq_true rfl) rfl ?_
  exact h7
theorem b_184_9 {d : Nat} {Q : (Option Value ⊕ Nat) → mi_H → Prop} (n sl : Nat) (f : Nat → mi_C) {l1 : Nat} {l2 : Int32} {l3 : Int32} {o4 : Option Value} {o5 : Option Value} {o6 : Option Value} (h7 : 32 ≤ l3 → mi_W d 184 119 [some (.ref l1), some (.int l2), some (.int l3), o4, o5, o6] [] (n, sl, f) Q) (h8 : ¬ (32 ≤ l3) → mi_W d 184 15 [some (.ref l1), some (.int l2), some (.int l3), o4, o5, o6] [] (n, sl, f) Q) : mi_W d 184 9 [some (.ref l1), some (.int l2), some (.int l3), o4, o5, o6] [] (n, sl, f) Q := by
  refine w_iload_n cd_184_9 rfl ?_
  refine w_bipush (v := 32) cd_184_10 (by decide) ?_
  exact w_if_icmpge cd_184_12 (by decide) h7 h8
theorem b_184_15 {d : Nat} {Q : (Option Value ⊕ Nat) → mi_H → Prop} (n sl : Nat) (f : Nat → mi_C) {l1 : Nat} {l2 : Int32} {l3 : Int32} {o4 : Option Value} {o5 : Option Value} {o6 : Option Value} {fs7 : List Value} {x10 : Nat} (m12 i12 : Nat) (g12 : Nat → Int64) {fs16 : List Value} {x19 : Nat} (m21 i21 : Nat) (g21 : Nat → Int64) (h8 : f l1 = .inr (12, fs7)) (h9 : l1 < n) (h11 : fs7[56]? = some (.ref x10)) (h13 : f x10 = .inl (3, m12, .inr (.inl g12))) (h14 : x10 < n) (h15 : mi_ix l3 m12 i12) (h17 : f l1 = .inr (12, fs16)) (h18 : l1 < n) (h20 : fs16[55]? = some (.ref x19)) (h22 : f x19 = .inl (3, m21, .inr (.inl g21))) (h23 : x19 < n) (h24 : mi_ix l3 m21 i21) (h25 : mi_W d 184 32 [some (.ref l1), some (.int l2), some (.int l3), some (.long ((g12 i12) - (g21 i21))), none, some (.int 0)] [] (n, sl, f) Q) : mi_W d 184 15 [some (.ref l1), some (.int l2), some (.int l3), o4, o5, o6] [] (n, sl, f) Q := by
  refine w_aload_n cd_184_15 rfl ?_
  refine w_getfield cd_184_16 (show mt_f 12 175 = some (12, 56) by decide +kernel) h8 h9 h11 ?_
  refine w_iload_n cd_184_19 rfl ?_
  refine w_laload cd_184_20 h13 h14 h15 ?_
  refine w_aload_n cd_184_21 rfl ?_
  refine w_getfield cd_184_22 (show mt_f 12 172 = some (12, 55) by decide +kernel) h17 h18 h20 ?_
  refine w_iload_n cd_184_25 rfl ?_
  refine w_laload cd_184_26 h22 h23 h24 ?_
  refine w_lsub cd_184_27 ?_
  refine w_lstore_n (ls' := [some (.ref l1), some (.int l2), some (.int l3), some (.long ((g12 i12) - (g21 i21))), none, o6]) cd_184_28 (Nat.le_of_ble_eq_true rfl) rfl ?_
  refine w_iconst (v := 0) cd_184_29 (by decide) ?_
  refine w_istore (ls' := [some (.ref l1), some (.int l2), some (.int l3), some (.long ((g12 i12) - (g21 i21))), none, some (.int 0)]) cd_184_30 (Nat.le_of_ble_eq_true rfl) rfl ?_
  exact h25
theorem b_184_32 {d : Nat} {Q : (Option Value ⊕ Nat) → mi_H → Prop} (n sl : Nat) (f : Nat → mi_C) {l1 : Nat} {l2 : Int32} {l3 : Int32} {l4 : Int64} {l5 : Int32} {fs6 : List Value} {x9 : Int32} (h7 : f l1 = .inr (12, fs6)) (h8 : l1 < n) (h10 : fs6[48]? = some (.int x9)) (h11 : x9 ≤ l5 → mi_W d 184 90 [some (.ref l1), some (.int l2), some (.int l3), some (.long l4), none, some (.int l5)] [] (n, sl, f) Q) (h12 : ¬ (x9 ≤ l5) → mi_W d 184 41 [some (.ref l1), some (.int l2), some (.int l3), some (.long l4), none, some (.int l5)] [] (n, sl, f) Q) : mi_W d 184 32 [some (.ref l1), some (.int l2), some (.int l3), some (.long l4), none, some (.int l5)] [] (n, sl, f) Q := by
  refine w_iload cd_184_32 rfl ?_
  refine w_aload_n cd_184_34 rfl ?_
  refine w_getfield cd_184_35 (show mt_f 12 493 = some (12, 48) by decide +kernel) h7 h8 h10 ?_
  exact w_if_icmpge cd_184_38 (by decide) h11 h12
theorem b_184_41 {d : Nat} {Q : (Option Value ⊕ Nat) → mi_H → Prop} (n sl : Nat) (f : Nat → mi_C) {l1 : Nat} {l2 : Int32} {l3 : Int32} {l4 : Int64} {l5 : Int32} {fs6 : List Value} {x9 : Nat} (m11 i11 : Nat) (g11 : Nat → Int32) {fs15 : List Value} {x18 : Nat} (m20 i20 : Nat) (g20 : Nat → Int32) (h7 : f l1 = .inr (12, fs6)) (h8 : l1 < n) (h10 : fs6[52]? = some (.ref x9)) (h12 : f x9 = .inl (0, m11, .inl g11)) (h13 : x9 < n ∨ x9 = mi_SC) (h14 : mi_ix l5 m11 i11) (h16 : f l1 = .inr (12, fs15)) (h17 : l1 < n) (h19 : fs15[53]? = some (.ref x18)) (h21 : f x18 = .inl (0, m20, .inl g20)) (h22 : x18 < n ∨ x18 = mi_SC) (h23 : mi_ix l5 m20 i20) (h24 : ((4 * (g11 i11)) + (g20 i20)) = l3 → mi_W d 184 65 [some (.ref l1), some (.int l2), some (.int l3), some (.long l4), none, some (.int l5)] [] (n, sl, f) Q) (h25 : ¬ (((4 * (g11 i11)) + (g20 i20)) = l3) → mi_W d 184 62 [some (.ref l1), some (.int l2), some (.int l3), some (.long l4), none, some (.int l5)] [] (n, sl, f) Q) : mi_W d 184 41 [some (.ref l1), some (.int l2), some (.int l3), some (.long l4), none, some (.int l5)] [] (n, sl, f) Q := by
  refine w_iconst (v := 4) cd_184_41 (by decide) ?_
  refine w_aload_n cd_184_42 rfl ?_
  refine w_getfield cd_184_43 (show mt_f 12 163 = some (12, 52) by decide +kernel) h7 h8 h10 ?_
  refine w_iload cd_184_46 rfl ?_
  refine w_iaload cd_184_48 h12 h13 h14 ?_
  refine w_imul cd_184_49 ?_
  refine w_aload_n cd_184_50 rfl ?_
  refine w_getfield cd_184_51 (show mt_f 12 166 = some (12, 53) by decide +kernel) h16 h17 h19 ?_
  refine w_iload cd_184_54 rfl ?_
  refine w_iaload cd_184_56 h21 h22 h23 ?_
  refine w_iadd cd_184_57 ?_
  refine w_iload_n cd_184_58 rfl ?_
  exact w_if_icmpeq cd_184_59 (by decide) h24 h25
theorem b_184_62 {d : Nat} {Q : (Option Value ⊕ Nat) → mi_H → Prop} (n sl : Nat) (f : Nat → mi_C) {l1 : Nat} {l2 : Int32} {l3 : Int32} {l4 : Int64} {l5 : Int32} (h6 : mi_W d 184 84 [some (.ref l1), some (.int l2), some (.int l3), some (.long l4), none, some (.int l5)] [] (n, sl, f) Q) : mi_W d 184 62 [some (.ref l1), some (.int l2), some (.int l3), some (.long l4), none, some (.int l5)] [] (n, sl, f) Q := by
  exact w_goto cd_184_62 (by decide) h6
theorem b_184_65 {d : Nat} {Q : (Option Value ⊕ Nat) → mi_H → Prop} (n sl : Nat) (f : Nat → mi_C) {l1 : Nat} {l2 : Int32} {l3 : Int32} {l4 : Int64} {l5 : Int32} {fs6 : List Value} {x9 : Nat} (m11 i11 : Nat) (g11 : Nat → Int64) (h7 : f l1 = .inr (12, fs6)) (h8 : l1 < n) (h10 : fs6[54]? = some (.ref x9)) (h12 : f x9 = .inl (3, m11, .inr (.inl g11))) (h13 : x9 < n) (h14 : mi_ix l5 m11 i11) (h15 : (0 : Int32) ≤ (lg_cmp (l4 + (g11 i11)) 0) → mi_W d 184 84 [some (.ref l1), some (.int l2), some (.int l3), some (.long (l4 + (g11 i11))), none, some (.int l5)] [] (n, sl, f) Q) (h16 : ¬ ((0 : Int32) ≤ (lg_cmp (l4 + (g11 i11)) 0)) → mi_W d 184 81 [some (.ref l1), some (.int l2), some (.int l3), some (.long (l4 + (g11 i11))), none, some (.int l5)] [] (n, sl, f) Q) : mi_W d 184 65 [some (.ref l1), some (.int l2), some (.int l3), some (.long l4), none, some (.int l5)] [] (n, sl, f) Q := by
  refine w_lload_n cd_184_65 rfl ?_
  refine w_aload_n cd_184_66 rfl ?_
  refine w_getfield cd_184_67 (show mt_f 12 169 = some (12, 54) by decide +kernel) h7 h8 h10 ?_
  refine w_iload cd_184_70 rfl ?_
  refine w_laload cd_184_72 h12 h13 h14 ?_
  refine w_ladd cd_184_73 ?_
  refine w_lstore_n (ls' := [some (.ref l1), some (.int l2), some (.int l3), some (.long (l4 + (g11 i11))), none, some (.int l5)]) cd_184_74 (Nat.le_of_ble_eq_true rfl) rfl ?_
  refine w_lload_n cd_184_75 rfl ?_
  refine w_lconst (lv := 0) cd_184_76 (by decide) ?_
  refine w_lcmp cd_184_77 ?_
  exact w_ifge cd_184_78 (by decide) h15 h16
theorem b_184_81 {d : Nat} {Q : (Option Value ⊕ Nat) → mi_H → Prop} (n sl : Nat) (f : Nat → mi_C) {l1 : Nat} {l2 : Int32} {l3 : Int32} {l4 : Int64} {l5 : Int32} (h6 : Q (.inl (some (.int 6))) (n, sl, f)) : mi_W d 184 81 [some (.ref l1), some (.int l2), some (.int l3), some (.long l4), none, some (.int l5)] [] (n, sl, f) Q := by
  refine w_bipush (v := 6) cd_184_81 (by decide) ?_
  exact w_ireturn_i cd_184_83 (by decide +kernel) h6
theorem b_184_84 {d : Nat} {Q : (Option Value ⊕ Nat) → mi_H → Prop} (n sl : Nat) (f : Nat → mi_C) {l1 : Nat} {l2 : Int32} {l3 : Int32} {l4 : Int64} {l5 : Int32} (h6 : mi_W d 184 32 [some (.ref l1), some (.int l2), some (.int l3), some (.long l4), none, some (.int (l5 + 1))] [] (n, sl, f) Q) : mi_W d 184 84 [some (.ref l1), some (.int l2), some (.int l3), some (.long l4), none, some (.int l5)] [] (n, sl, f) Q := by
  refine w_iinc (v := 1) (ls' := [some (.ref l1), some (.int l2), some (.int l3), some (.long l4), none, some (.int (l5 + 1))]) cd_184_84 rfl (by decide) rfl ?_
  exact w_goto cd_184_87 (by decide) h6
theorem b_184_90 {d : Nat} {Q : (Option Value ⊕ Nat) → mi_H → Prop} (n sl : Nat) (f : Nat → mi_C) {l1 : Nat} {l2 : Int32} {l3 : Int32} {l4 : Int64} {l5 : Int32} (h6 : (lg_cmp l4 4611686018427387904) ≤ (0 : Int32) → mi_W d 184 101 [some (.ref l1), some (.int l2), some (.int l3), some (.long l4), none, some (.int l5)] [] (n, sl, f) Q) (h7 : ¬ ((lg_cmp l4 4611686018427387904) ≤ (0 : Int32)) → mi_W d 184 98 [some (.ref l1), some (.int l2), some (.int l3), some (.long l4), none, some (.int l5)] [] (n, sl, f) Q) : mi_W d 184 90 [some (.ref l1), some (.int l2), some (.int l3), some (.long l4), none, some (.int l5)] [] (n, sl, f) Q := by
  refine w_lload_n cd_184_90 rfl ?_
  refine w_ldc2_w (lv := 4611686018427387904) cd_184_91 (by decide +kernel) ?_
  refine w_lcmp cd_184_94 ?_
  exact w_ifle cd_184_95 (by decide) h6 h7
theorem b_184_98 {d : Nat} {Q : (Option Value ⊕ Nat) → mi_H → Prop} (n sl : Nat) (f : Nat → mi_C) {l1 : Nat} {l2 : Int32} {l3 : Int32} {l4 : Int64} {l5 : Int32} (h6 : Q (.inl (some (.int 6))) (n, sl, f)) : mi_W d 184 98 [some (.ref l1), some (.int l2), some (.int l3), some (.long l4), none, some (.int l5)] [] (n, sl, f) Q := by
  refine w_bipush (v := 6) cd_184_98 (by decide) ?_
  exact w_ireturn_i cd_184_100 (by decide +kernel) h6
theorem b_184_101 {d : Nat} {Q : (Option Value ⊕ Nat) → mi_H → Prop} (n sl : Nat) (f : Nat → mi_C) {l1 : Nat} {l2 : Int32} {l3 : Int32} {l4 : Int64} {l5 : Int32} (h6 : ¬ l2 = 1 → mi_W d 184 113 [some (.ref l1), some (.int l2), some (.int l3), some (.long l4), none, some (.int l5)] [] (n, sl, f) Q) (h7 : ¬ (¬ l2 = 1) → mi_W d 184 106 [some (.ref l1), some (.int l2), some (.int l3), some (.long l4), none, some (.int l5)] [] (n, sl, f) Q) : mi_W d 184 101 [some (.ref l1), some (.int l2), some (.int l3), some (.long l4), none, some (.int l5)] [] (n, sl, f) Q := by
  refine w_iload_n cd_184_101 rfl ?_
  refine w_iconst (v := 1) cd_184_102 (by decide) ?_
  exact w_if_icmpne cd_184_103 (by decide) h6 h7
theorem b_184_106 {d : Nat} {Q : (Option Value ⊕ Nat) → mi_H → Prop} (n sl : Nat) (f : Nat → mi_C) {l1 : Nat} {l2 : Int32} {l3 : Int32} {l4 : Int64} {l5 : Int32} {fs6 : List Value} {x9 : Nat} (m11 i11 : Nat) (g11 : Nat → Int64) (h7 : f l1 = .inr (12, fs6)) (h8 : l1 < n) (h10 : fs6[56]? = some (.ref x9)) (h12 : f x9 = .inl (3, m11, .inr (.inl g11))) (h13 : x9 < n) (h14 : mi_ix l3 m11 i11) (h15 : mi_W d 184 113 [some (.ref l1), some (.int l2), some (.int l3), some (.long l4), none, some (.int l5)] [] (n, sl, (va_up f x9 (.inl (3, m11, .inr (.inl (vp_updL g11 i11 l4)))))) Q) : mi_W d 184 106 [some (.ref l1), some (.int l2), some (.int l3), some (.long l4), none, some (.int l5)] [] (n, sl, f) Q := by
  refine w_aload_n cd_184_106 rfl ?_
  refine w_getfield cd_184_107 (show mt_f 12 175 = some (12, 56) by decide +kernel) h7 h8 h10 ?_
  refine w_iload_n cd_184_110 rfl ?_
  refine w_lload_n cd_184_111 rfl ?_
  refine w_lastore cd_184_112 h12 h13 h14 ?_
  exact h15
theorem b_184_113 {d : Nat} {Q : (Option Value ⊕ Nat) → mi_H → Prop} (n sl : Nat) (f : Nat → mi_C) {l1 : Nat} {l2 : Int32} {l3 : Int32} {l4 : Int64} {l5 : Int32} (h6 : mi_W d 184 9 [some (.ref l1), some (.int l2), some (.int (l3 + 1)), some (.long l4), none, some (.int l5)] [] (n, sl, f) Q) : mi_W d 184 113 [some (.ref l1), some (.int l2), some (.int l3), some (.long l4), none, some (.int l5)] [] (n, sl, f) Q := by
  refine w_iinc (v := 1) (ls' := [some (.ref l1), some (.int l2), some (.int (l3 + 1)), some (.long l4), none, some (.int l5)]) cd_184_113 rfl (by decide) rfl ?_
  exact w_goto cd_184_116 (by decide) h6
theorem b_184_119 {d : Nat} {Q : (Option Value ⊕ Nat) → mi_H → Prop} (n sl : Nat) (f : Nat → mi_C) {l1 : Nat} {l2 : Int32} {l3 : Int32} {o4 : Option Value} {o5 : Option Value} {o6 : Option Value} (h7 : mi_W d 184 2 [some (.ref l1), some (.int (l2 + 1)), some (.int l3), o4, o5, o6] [] (n, sl, f) Q) : mi_W d 184 119 [some (.ref l1), some (.int l2), some (.int l3), o4, o5, o6] [] (n, sl, f) Q := by
  refine w_iinc (v := 1) (ls' := [some (.ref l1), some (.int (l2 + 1)), some (.int l3), o4, o5, o6]) cd_184_119 rfl (by decide) rfl ?_
  exact w_goto cd_184_122 (by decide) h7
theorem b_184_125 {d : Nat} {Q : (Option Value ⊕ Nat) → mi_H → Prop} (n sl : Nat) (f : Nat → mi_C) {l1 : Nat} {l2 : Int32} {o3 : Option Value} {o4 : Option Value} {o5 : Option Value} {o6 : Option Value} (h7 : Q (.inl (some (.int 0))) (n, sl, f)) : mi_W d 184 125 [some (.ref l1), some (.int l2), o3, o4, o5, o6] [] (n, sl, f) Q := by
  refine w_iconst (v := 0) cd_184_125 (by decide) ?_
  exact w_ireturn_i cd_184_126 (by decide +kernel) h7
/-! MarloweHostModel.wallet(IIJ)J -/
set_option maxRecDepth 100000 in
theorem mq_185 : mt_q 185 = my_185 := rfl
set_option maxRecDepth 100000 in
theorem ci_185 : mt_inc 0 my_185.cd = true := by decide +kernel
theorem cd_185_0 : mt_cd 185 0 = some (.aload_n 0) := mt_cd_of (q := (0, .aload_n 0, 1)) mq_185 ci_185 (List.mem_of_getElem? (i := 0) rfl)
theorem cd_185_1 : mt_cd 185 1 = some (.iconst 0) := mt_cd_of (q := (1, .iconst 0, 1)) mq_185 ci_185 (List.mem_of_getElem? (i := 1) rfl)
theorem cd_185_2 : mt_cd 185 2 = some (.putfield 248) := mt_cd_of (q := (2, .putfield 248, 3)) mq_185 ci_185 (List.mem_of_getElem? (i := 2) rfl)
theorem cd_185_5 : mt_cd 185 5 = some (.aload_n 0) := mt_cd_of (q := (5, .aload_n 0, 1)) mq_185 ci_185 (List.mem_of_getElem? (i := 3) rfl)
theorem cd_185_6 : mt_cd 185 6 = some (.iload_n 1) := mt_cd_of (q := (6, .iload_n 1, 1)) mq_185 ci_185 (List.mem_of_getElem? (i := 4) rfl)
theorem cd_185_7 : mt_cd 185 7 = some (.i2l) := mt_cd_of (q := (7, .i2l, 1)) mq_185 ci_185 (List.mem_of_getElem? (i := 5) rfl)
theorem cd_185_8 : mt_cd 185 8 = some (.lconst 0) := mt_cd_of (q := (8, .lconst 0, 1)) mq_185 ci_185 (List.mem_of_getElem? (i := 6) rfl)
theorem cd_185_9 : mt_cd 185 9 = some (.ldc2_w 542) := mt_cd_of (q := (9, .ldc2_w 542, 3)) mq_185 ci_185 (List.mem_of_getElem? (i := 7) rfl)
theorem cd_185_12 : mt_cd 185 12 = some (.invokestatic 268) := mt_cd_of (q := (12, .invokestatic 268, 3)) mq_185 ci_185 (List.mem_of_getElem? (i := 8) rfl)
theorem cd_185_15 : mt_cd 185 15 = some (.ifCond .eq 26) := mt_cd_of (q := (15, .ifCond .eq 26, 3)) mq_185 ci_185 (List.mem_of_getElem? (i := 9) rfl)
theorem cd_185_18 : mt_cd 185 18 = some (.iload_n 2) := mt_cd_of (q := (18, .iload_n 2, 1)) mq_185 ci_185 (List.mem_of_getElem? (i := 10) rfl)
theorem cd_185_19 : mt_cd 185 19 = some (.i2l) := mt_cd_of (q := (19, .i2l, 1)) mq_185 ci_185 (List.mem_of_getElem? (i := 11) rfl)
theorem cd_185_20 : mt_cd 185 20 = some (.lconst 0) := mt_cd_of (q := (20, .lconst 0, 1)) mq_185 ci_185 (List.mem_of_getElem? (i := 12) rfl)
theorem cd_185_21 : mt_cd 185 21 = some (.ldc2_w 544) := mt_cd_of (q := (21, .ldc2_w 544, 3)) mq_185 ci_185 (List.mem_of_getElem? (i := 13) rfl)
theorem cd_185_24 : mt_cd 185 24 = some (.invokestatic 268) := mt_cd_of (q := (24, .invokestatic 268, 3)) mq_185 ci_185 (List.mem_of_getElem? (i := 14) rfl)
theorem cd_185_27 : mt_cd 185 27 = some (.ifCond .eq 14) := mt_cd_of (q := (27, .ifCond .eq 14, 3)) mq_185 ci_185 (List.mem_of_getElem? (i := 15) rfl)
theorem cd_185_30 : mt_cd 185 30 = some (.lload_n 3) := mt_cd_of (q := (30, .lload_n 3, 1)) mq_185 ci_185 (List.mem_of_getElem? (i := 16) rfl)
theorem cd_185_31 : mt_cd 185 31 = some (.lconst 0) := mt_cd_of (q := (31, .lconst 0, 1)) mq_185 ci_185 (List.mem_of_getElem? (i := 17) rfl)
theorem cd_185_32 : mt_cd 185 32 = some (.ldc2_w 546) := mt_cd_of (q := (32, .ldc2_w 546, 3)) mq_185 ci_185 (List.mem_of_getElem? (i := 18) rfl)
theorem cd_185_35 : mt_cd 185 35 = some (.invokestatic 268) := mt_cd_of (q := (35, .invokestatic 268, 3)) mq_185 ci_185 (List.mem_of_getElem? (i := 19) rfl)
theorem cd_185_38 : mt_cd 185 38 = some (.ifCond .ne 7) := mt_cd_of (q := (38, .ifCond .ne 7, 3)) mq_185 ci_185 (List.mem_of_getElem? (i := 20) rfl)
theorem cd_185_41 : mt_cd 185 41 = some (.iconst 1) := mt_cd_of (q := (41, .iconst 1, 1)) mq_185 ci_185 (List.mem_of_getElem? (i := 21) rfl)
theorem cd_185_42 : mt_cd 185 42 = some (.goto 4) := mt_cd_of (q := (42, .goto 4, 3)) mq_185 ci_185 (List.mem_of_getElem? (i := 22) rfl)
theorem cd_185_45 : mt_cd 185 45 = some (.iconst 0) := mt_cd_of (q := (45, .iconst 0, 1)) mq_185 ci_185 (List.mem_of_getElem? (i := 23) rfl)
theorem cd_185_46 : mt_cd 185 46 = some (.iconst 1) := mt_cd_of (q := (46, .iconst 1, 1)) mq_185 ci_185 (List.mem_of_getElem? (i := 24) rfl)
theorem cd_185_47 : mt_cd 185 47 = some (.invokevirtual 254) := mt_cd_of (q := (47, .invokevirtual 254, 3)) mq_185 ci_185 (List.mem_of_getElem? (i := 25) rfl)
theorem cd_185_50 : mt_cd 185 50 = some (.ifCond .eq 5) := mt_cd_of (q := (50, .ifCond .eq 5, 3)) mq_185 ci_185 (List.mem_of_getElem? (i := 26) rfl)
theorem cd_185_53 : mt_cd 185 53 = some (.lconst 0) := mt_cd_of (q := (53, .lconst 0, 1)) mq_185 ci_185 (List.mem_of_getElem? (i := 27) rfl)
theorem cd_185_54 : mt_cd 185 54 = some (.lreturn) := mt_cd_of (q := (54, .lreturn, 1)) mq_185 ci_185 (List.mem_of_getElem? (i := 28) rfl)
theorem cd_185_55 : mt_cd 185 55 = some (.aload_n 0) := mt_cd_of (q := (55, .aload_n 0, 1)) mq_185 ci_185 (List.mem_of_getElem? (i := 29) rfl)
theorem cd_185_56 : mt_cd 185 56 = some (.getfield 175) := mt_cd_of (q := (56, .getfield 175, 3)) mq_185 ci_185 (List.mem_of_getElem? (i := 30) rfl)
theorem cd_185_59 : mt_cd 185 59 = some (.iconst 4) := mt_cd_of (q := (59, .iconst 4, 1)) mq_185 ci_185 (List.mem_of_getElem? (i := 31) rfl)
theorem cd_185_60 : mt_cd 185 60 = some (.iload_n 1) := mt_cd_of (q := (60, .iload_n 1, 1)) mq_185 ci_185 (List.mem_of_getElem? (i := 32) rfl)
theorem cd_185_61 : mt_cd 185 61 = some (.imul) := mt_cd_of (q := (61, .imul, 1)) mq_185 ci_185 (List.mem_of_getElem? (i := 33) rfl)
theorem cd_185_62 : mt_cd 185 62 = some (.iload_n 2) := mt_cd_of (q := (62, .iload_n 2, 1)) mq_185 ci_185 (List.mem_of_getElem? (i := 34) rfl)
theorem cd_185_63 : mt_cd 185 63 = some (.iadd) := mt_cd_of (q := (63, .iadd, 1)) mq_185 ci_185 (List.mem_of_getElem? (i := 35) rfl)
theorem cd_185_64 : mt_cd 185 64 = some (.laload) := mt_cd_of (q := (64, .laload, 1)) mq_185 ci_185 (List.mem_of_getElem? (i := 36) rfl)
theorem cd_185_65 : mt_cd 185 65 = some (.lstore 5) := mt_cd_of (q := (65, .lstore 5, 2)) mq_185 ci_185 (List.mem_of_getElem? (i := 37) rfl)
theorem cd_185_67 : mt_cd 185 67 = some (.aload_n 0) := mt_cd_of (q := (67, .aload_n 0, 1)) mq_185 ci_185 (List.mem_of_getElem? (i := 38) rfl)
theorem cd_185_68 : mt_cd 185 68 = some (.getfield 175) := mt_cd_of (q := (68, .getfield 175, 3)) mq_185 ci_185 (List.mem_of_getElem? (i := 39) rfl)
theorem cd_185_71 : mt_cd 185 71 = some (.iconst 4) := mt_cd_of (q := (71, .iconst 4, 1)) mq_185 ci_185 (List.mem_of_getElem? (i := 40) rfl)
theorem cd_185_72 : mt_cd 185 72 = some (.iload_n 1) := mt_cd_of (q := (72, .iload_n 1, 1)) mq_185 ci_185 (List.mem_of_getElem? (i := 41) rfl)
theorem cd_185_73 : mt_cd 185 73 = some (.imul) := mt_cd_of (q := (73, .imul, 1)) mq_185 ci_185 (List.mem_of_getElem? (i := 42) rfl)
theorem cd_185_74 : mt_cd 185 74 = some (.iload_n 2) := mt_cd_of (q := (74, .iload_n 2, 1)) mq_185 ci_185 (List.mem_of_getElem? (i := 43) rfl)
theorem cd_185_75 : mt_cd 185 75 = some (.iadd) := mt_cd_of (q := (75, .iadd, 1)) mq_185 ci_185 (List.mem_of_getElem? (i := 44) rfl)
theorem cd_185_76 : mt_cd 185 76 = some (.lload_n 3) := mt_cd_of (q := (76, .lload_n 3, 1)) mq_185 ci_185 (List.mem_of_getElem? (i := 45) rfl)
theorem cd_185_77 : mt_cd 185 77 = some (.lastore) := mt_cd_of (q := (77, .lastore, 1)) mq_185 ci_185 (List.mem_of_getElem? (i := 46) rfl)
theorem cd_185_78 : mt_cd 185 78 = some (.lload 5) := mt_cd_of (q := (78, .lload 5, 2)) mq_185 ci_185 (List.mem_of_getElem? (i := 47) rfl)
theorem cd_185_80 : mt_cd 185 80 = some (.lreturn) := mt_cd_of (q := (80, .lreturn, 1)) mq_185 ci_185 (List.mem_of_getElem? (i := 48) rfl)
theorem b_185_0 {d : Nat} {Q : (Option Value ⊕ Nat) → mi_H → Prop} (n sl : Nat) (f : Nat → mi_C) {l1 : Nat} {l2 : Int32} {l3 : Int32} {l4 : Int64} {o5 : Option Value} {o6 : Option Value} {fs7 : List Value} (h8 : f l1 = .inr (12, fs7)) (h9 : l1 < n) (h10 : 0 < fs7.length) (h11 : mi_W d 141 0 (mi_en 6 [.long ((l2 : Int32).toInt64), .long 0, .long 7]) [] (n, sl, (va_up f l1 (.inr (12, fs7.set 0 (.int 0))))) (mi_Kc d 185 12 [some (.ref l1), some (.int l2), some (.int l3), some (.long l4), none, o5, o6] [.ref l1] Q)) : mi_W (d + 1) 185 0 [some (.ref l1), some (.int l2), some (.int l3), some (.long l4), none, o5, o6] [] (n, sl, f) Q := by
  refine w_aload_n cd_185_0 rfl ?_
  refine w_iconst (v := 0) cd_185_1 (by decide) ?_
  refine w_putfield (w := .int 0) cd_185_2 (show mt_f 12 248 = some (12, 0) by decide +kernel) h8 h9 ⟨h10, rfl, Or.inl (by decide)⟩ ?_
  refine w_aload_n cd_185_5 rfl ?_
  refine w_iload_n cd_185_6 rfl ?_
  refine w_i2l cd_185_7 ?_
  refine w_lconst (lv := 0) cd_185_8 (by decide) ?_
  refine w_ldc2_w (lv := 7) cd_185_9 (by decide +kernel) ?_
  exact w_invokestatic cd_185_12 (show mt_m 12 268 = some (141, 4) by decide +kernel) (by decide) (rest := [.ref l1]) rfl (as := [.long ((l2 : Int32).toInt64), .long 0, .long 7]) rfl ⟨Nat.le_of_ble_eq_true rfl, Nat.le_of_ble_eq_true rfl, Nat.le_of_ble_eq_true rfl⟩ h11
theorem b_185_15 {d : Nat} {Q : (Option Value ⊕ Nat) → mi_H → Prop} (n sl : Nat) (f : Nat → mi_C) {l1 : Nat} {l2 : Int32} {l3 : Int32} {l4 : Int64} {o5 : Option Value} {o6 : Option Value} {s7 : Int32} {s8 : Nat} (h9 : s7 = (0 : Int32) → mi_W d 185 41 [some (.ref l1), some (.int l2), some (.int l3), some (.long l4), none, o5, o6] [.ref s8] (n, sl, f) Q) (h10 : ¬ (s7 = (0 : Int32)) → mi_W d 185 18 [some (.ref l1), some (.int l2), some (.int l3), some (.long l4), none, o5, o6] [.ref s8] (n, sl, f) Q) : mi_W d 185 15 [some (.ref l1), some (.int l2), some (.int l3), some (.long l4), none, o5, o6] [.int s7, .ref s8] (n, sl, f) Q := by
  exact w_ifeq cd_185_15 (by decide) h9 h10
theorem b_185_18 {d : Nat} {Q : (Option Value ⊕ Nat) → mi_H → Prop} (n sl : Nat) (f : Nat → mi_C) {l1 : Nat} {l2 : Int32} {l3 : Int32} {l4 : Int64} {o5 : Option Value} {o6 : Option Value} {s7 : Nat} (h8 : mi_W d 141 0 (mi_en 6 [.long ((l3 : Int32).toInt64), .long 0, .long 3]) [] (n, sl, f) (mi_Kc d 185 24 [some (.ref l1), some (.int l2), some (.int l3), some (.long l4), none, o5, o6] [.ref s7] Q)) : mi_W (d + 1) 185 18 [some (.ref l1), some (.int l2), some (.int l3), some (.long l4), none, o5, o6] [.ref s7] (n, sl, f) Q := by
  refine w_iload_n cd_185_18 rfl ?_
  refine w_i2l cd_185_19 ?_
  refine w_lconst (lv := 0) cd_185_20 (by decide) ?_
  refine w_ldc2_w (lv := 3) cd_185_21 (by decide +kernel) ?_
  exact w_invokestatic cd_185_24 (show mt_m 12 268 = some (141, 4) by decide +kernel) (by decide) (rest := [.ref s7]) rfl (as := [.long ((l3 : Int32).toInt64), .long 0, .long 3]) rfl ⟨Nat.le_of_ble_eq_true rfl, Nat.le_of_ble_eq_true rfl, Nat.le_of_ble_eq_true rfl⟩ h8
theorem b_185_27 {d : Nat} {Q : (Option Value ⊕ Nat) → mi_H → Prop} (n sl : Nat) (f : Nat → mi_C) {l1 : Nat} {l2 : Int32} {l3 : Int32} {l4 : Int64} {o5 : Option Value} {o6 : Option Value} {s7 : Int32} {s8 : Nat} (h9 : s7 = (0 : Int32) → mi_W d 185 41 [some (.ref l1), some (.int l2), some (.int l3), some (.long l4), none, o5, o6] [.ref s8] (n, sl, f) Q) (h10 : ¬ (s7 = (0 : Int32)) → mi_W d 185 30 [some (.ref l1), some (.int l2), some (.int l3), some (.long l4), none, o5, o6] [.ref s8] (n, sl, f) Q) : mi_W d 185 27 [some (.ref l1), some (.int l2), some (.int l3), some (.long l4), none, o5, o6] [.int s7, .ref s8] (n, sl, f) Q := by
  exact w_ifeq cd_185_27 (by decide) h9 h10
theorem b_185_30 {d : Nat} {Q : (Option Value ⊕ Nat) → mi_H → Prop} (n sl : Nat) (f : Nat → mi_C) {l1 : Nat} {l2 : Int32} {l3 : Int32} {l4 : Int64} {o5 : Option Value} {o6 : Option Value} {s7 : Nat} (h8 : mi_W d 141 0 (mi_en 6 [.long l4, .long 0, .long 2305843009213693952]) [] (n, sl, f) (mi_Kc d 185 35 [some (.ref l1), some (.int l2), some (.int l3), some (.long l4), none, o5, o6] [.ref s7] Q)) : mi_W (d + 1) 185 30 [some (.ref l1), some (.int l2), some (.int l3), some (.long l4), none, o5, o6] [.ref s7] (n, sl, f) Q := by
  refine w_lload_n cd_185_30 rfl ?_
  refine w_lconst (lv := 0) cd_185_31 (by decide) ?_
  refine w_ldc2_w (lv := 2305843009213693952) cd_185_32 (by decide +kernel) ?_
  exact w_invokestatic cd_185_35 (show mt_m 12 268 = some (141, 4) by decide +kernel) (by decide) (rest := [.ref s7]) rfl (as := [.long l4, .long 0, .long 2305843009213693952]) rfl ⟨Nat.le_of_ble_eq_true rfl, Nat.le_of_ble_eq_true rfl, Nat.le_of_ble_eq_true rfl⟩ h8
theorem b_185_38 {d : Nat} {Q : (Option Value ⊕ Nat) → mi_H → Prop} (n sl : Nat) (f : Nat → mi_C) {l1 : Nat} {l2 : Int32} {l3 : Int32} {l4 : Int64} {o5 : Option Value} {o6 : Option Value} {s7 : Int32} {s8 : Nat} (h9 : ¬ s7 = (0 : Int32) → mi_W d 185 45 [some (.ref l1), some (.int l2), some (.int l3), some (.long l4), none, o5, o6] [.ref s8] (n, sl, f) Q) (h10 : ¬ (¬ s7 = (0 : Int32)) → mi_W d 185 41 [some (.ref l1), some (.int l2), some (.int l3), some (.long l4), none, o5, o6] [.ref s8] (n, sl, f) Q) : mi_W d 185 38 [some (.ref l1), some (.int l2), some (.int l3), some (.long l4), none, o5, o6] [.int s7, .ref s8] (n, sl, f) Q := by
  exact w_ifne cd_185_38 (by decide) h9 h10
theorem b_185_41 {d : Nat} {Q : (Option Value ⊕ Nat) → mi_H → Prop} (n sl : Nat) (f : Nat → mi_C) {l1 : Nat} {l2 : Int32} {l3 : Int32} {l4 : Int64} {o5 : Option Value} {o6 : Option Value} {s7 : Nat} (h8 : mi_W d 185 46 [some (.ref l1), some (.int l2), some (.int l3), some (.long l4), none, o5, o6] [.int 1, .ref s7] (n, sl, f) Q) : mi_W d 185 41 [some (.ref l1), some (.int l2), some (.int l3), some (.long l4), none, o5, o6] [.ref s7] (n, sl, f) Q := by
  refine w_iconst (v := 1) cd_185_41 (by decide) ?_
  exact w_goto cd_185_42 (by decide) h8
theorem b_185_45 {d : Nat} {Q : (Option Value ⊕ Nat) → mi_H → Prop} (n sl : Nat) (f : Nat → mi_C) {l1 : Nat} {l2 : Int32} {l3 : Int32} {l4 : Int64} {o5 : Option Value} {o6 : Option Value} {s7 : Nat} (h8 : mi_W d 185 46 [some (.ref l1), some (.int l2), some (.int l3), some (.long l4), none, o5, o6] [.int 0, .ref s7] (n, sl, f) Q) : mi_W d 185 45 [some (.ref l1), some (.int l2), some (.int l3), some (.long l4), none, o5, o6] [.ref s7] (n, sl, f) Q := by
  refine w_iconst (v := 0) cd_185_45 (by decide) ?_
  exact h8
theorem b_185_46 {d : Nat} {Q : (Option Value ⊕ Nat) → mi_H → Prop} (n sl : Nat) (f : Nat → mi_C) {l1 : Nat} {l2 : Int32} {l3 : Int32} {l4 : Int64} {o5 : Option Value} {o6 : Option Value} {s7 : Int32} {s8 : Nat} {fs9 : List Value} (h10 : f s8 = .inr (12, fs9)) (h11 : s8 < n) (h12 : mi_W d 139 0 (mi_en 3 [.ref s8, .int s7, .int 1]) [] (n, sl, f) (mi_Kc d 185 47 [some (.ref l1), some (.int l2), some (.int l3), some (.long l4), none, o5, o6] [] Q)) : mi_W (d + 1) 185 46 [some (.ref l1), some (.int l2), some (.int l3), some (.long l4), none, o5, o6] [.int s7, .ref s8] (n, sl, f) Q := by
  refine w_iconst (v := 1) cd_185_46 (by decide) ?_
  exact w_invokevirtual cd_185_47 (show mt_m 12 254 = some (139, 0) by decide +kernel) (rest := []) rfl (as := [.ref s8, .int s7, .int 1]) rfl h10 (Or.inl h11) ⟨Nat.le_of_ble_eq_true rfl, Nat.le_of_ble_eq_true rfl, Nat.le_of_ble_eq_true rfl⟩ h12
theorem b_185_50 {d : Nat} {Q : (Option Value ⊕ Nat) → mi_H → Prop} (n sl : Nat) (f : Nat → mi_C) {l1 : Nat} {l2 : Int32} {l3 : Int32} {l4 : Int64} {o5 : Option Value} {o6 : Option Value} {s7 : Int32} (h8 : s7 = (0 : Int32) → mi_W d 185 55 [some (.ref l1), some (.int l2), some (.int l3), some (.long l4), none, o5, o6] [] (n, sl, f) Q) (h9 : ¬ (s7 = (0 : Int32)) → mi_W d 185 53 [some (.ref l1), some (.int l2), some (.int l3), some (.long l4), none, o5, o6] [] (n, sl, f) Q) : mi_W d 185 50 [some (.ref l1), some (.int l2), some (.int l3), some (.long l4), none, o5, o6] [.int s7] (n, sl, f) Q := by
  exact w_ifeq cd_185_50 (by decide) h8 h9
theorem b_185_53 {d : Nat} {Q : (Option Value ⊕ Nat) → mi_H → Prop} (n sl : Nat) (f : Nat → mi_C) {l1 : Nat} {l2 : Int32} {l3 : Int32} {l4 : Int64} {o5 : Option Value} {o6 : Option Value} (h7 : Q (.inl (some (.long 0))) (n, sl, f)) : mi_W d 185 53 [some (.ref l1), some (.int l2), some (.int l3), some (.long l4), none, o5, o6] [] (n, sl, f) Q := by
  refine w_lconst (lv := 0) cd_185_53 (by decide) ?_
  exact w_lreturn cd_185_54 (by decide +kernel) h7
theorem b_185_55 {d : Nat} {Q : (Option Value ⊕ Nat) → mi_H → Prop} (n sl : Nat) (f : Nat → mi_C) {l1 : Nat} {l2 : Int32} {l3 : Int32} {l4 : Int64} {o5 : Option Value} {o6 : Option Value} {fs7 : List Value} {x10 : Nat} (m12 i12 : Nat) (g12 : Nat → Int64) {fs16 : List Value} {x19 : Nat} (m21 i21 : Nat) (g21 : Nat → Int64) (h8 : f l1 = .inr (12, fs7)) (h9 : l1 < n) (h11 : fs7[56]? = some (.ref x10)) (h13 : f x10 = .inl (3, m12, .inr (.inl g12))) (h14 : x10 < n) (h15 : mi_ix ((4 * l2) + l3) m12 i12) (h17 : f l1 = .inr (12, fs16)) (h18 : l1 < n) (h20 : fs16[56]? = some (.ref x19)) (h22 : f x19 = .inl (3, m21, .inr (.inl g21))) (h23 : x19 < n) (h24 : mi_ix ((4 * l2) + l3) m21 i21) (h25 : Q (.inl (some (.long (g12 i12)))) (n, sl, (va_up f x19 (.inl (3, m21, .inr (.inl (vp_updL g21 i21 l4))))))) : mi_W d 185 55 [some (.ref l1), some (.int l2), some (.int l3), some (.long l4), none, o5, o6] [] (n, sl, f) Q := by
  refine w_aload_n cd_185_55 rfl ?_
  refine w_getfield cd_185_56 (show mt_f 12 175 = some (12, 56) by decide +kernel) h8 h9 h11 ?_
  refine w_iconst (v := 4) cd_185_59 (by decide) ?_
  refine w_iload_n cd_185_60 rfl ?_
  refine w_imul cd_185_61 ?_
  refine w_iload_n cd_185_62 rfl ?_
  refine w_iadd cd_185_63 ?_
  refine w_laload cd_185_64 h13 h14 h15 ?_
  refine w_lstore (ls' := [some (.ref l1), some (.int l2), some (.int l3), some (.long l4), none, some (.long (g12 i12)), none]) cd_185_65 (Nat.le_of_ble_eq_true rfl) rfl ?_
  refine w_aload_n cd_185_67 rfl ?_
  refine w_getfield cd_185_68 (show mt_f 12 175 = some (12, 56) by decide +kernel) h17 h18 h20 ?_
  refine w_iconst (v := 4) cd_185_71 (by decide) ?_
  refine w_iload_n cd_185_72 rfl ?_
  refine w_imul cd_185_73 ?_
  refine w_iload_n cd_185_74 rfl ?_
  refine w_iadd cd_185_75 ?_
  refine w_lload_n cd_185_76 rfl ?_
  refine w_lastore cd_185_77 h22 h23 h24 ?_
  refine w_lload cd_185_78 rfl ?_
  exact w_lreturn cd_185_80 (by decide +kernel) h25
/-! MarloweHostModel.deposit(IIIJ)I -/
set_option maxRecDepth 100000 in
theorem mq_186 : mt_q 186 = my_186 := rfl
set_option maxRecDepth 100000 in
theorem ci_186 : mt_inc 0 my_186.cd = true := by decide +kernel
theorem cd_186_0 : mt_cd 186 0 = some (.aload_n 0) := mt_cd_of (q := (0, .aload_n 0, 1)) mq_186 ci_186 (List.mem_of_getElem? (i := 0) rfl)
theorem cd_186_1 : mt_cd 186 1 = some (.iconst 0) := mt_cd_of (q := (1, .iconst 0, 1)) mq_186 ci_186 (List.mem_of_getElem? (i := 1) rfl)
theorem cd_186_2 : mt_cd 186 2 = some (.putfield 248) := mt_cd_of (q := (2, .putfield 248, 3)) mq_186 ci_186 (List.mem_of_getElem? (i := 2) rfl)
theorem cd_186_5 : mt_cd 186 5 = some (.aload_n 0) := mt_cd_of (q := (5, .aload_n 0, 1)) mq_186 ci_186 (List.mem_of_getElem? (i := 3) rfl)
theorem cd_186_6 : mt_cd 186 6 = some (.iload_n 1) := mt_cd_of (q := (6, .iload_n 1, 1)) mq_186 ci_186 (List.mem_of_getElem? (i := 4) rfl)
theorem cd_186_7 : mt_cd 186 7 = some (.i2l) := mt_cd_of (q := (7, .i2l, 1)) mq_186 ci_186 (List.mem_of_getElem? (i := 5) rfl)
theorem cd_186_8 : mt_cd 186 8 = some (.lconst 0) := mt_cd_of (q := (8, .lconst 0, 1)) mq_186 ci_186 (List.mem_of_getElem? (i := 6) rfl)
theorem cd_186_9 : mt_cd 186 9 = some (.ldc2_w 542) := mt_cd_of (q := (9, .ldc2_w 542, 3)) mq_186 ci_186 (List.mem_of_getElem? (i := 7) rfl)
theorem cd_186_12 : mt_cd 186 12 = some (.invokestatic 268) := mt_cd_of (q := (12, .invokestatic 268, 3)) mq_186 ci_186 (List.mem_of_getElem? (i := 8) rfl)
theorem cd_186_15 : mt_cd 186 15 = some (.ifCond .eq 27) := mt_cd_of (q := (15, .ifCond .eq 27, 3)) mq_186 ci_186 (List.mem_of_getElem? (i := 9) rfl)
theorem cd_186_18 : mt_cd 186 18 = some (.iload_n 2) := mt_cd_of (q := (18, .iload_n 2, 1)) mq_186 ci_186 (List.mem_of_getElem? (i := 10) rfl)
theorem cd_186_19 : mt_cd 186 19 = some (.i2l) := mt_cd_of (q := (19, .i2l, 1)) mq_186 ci_186 (List.mem_of_getElem? (i := 11) rfl)
theorem cd_186_20 : mt_cd 186 20 = some (.lconst 0) := mt_cd_of (q := (20, .lconst 0, 1)) mq_186 ci_186 (List.mem_of_getElem? (i := 12) rfl)
theorem cd_186_21 : mt_cd 186 21 = some (.ldc2_w 542) := mt_cd_of (q := (21, .ldc2_w 542, 3)) mq_186 ci_186 (List.mem_of_getElem? (i := 13) rfl)
theorem cd_186_24 : mt_cd 186 24 = some (.invokestatic 268) := mt_cd_of (q := (24, .invokestatic 268, 3)) mq_186 ci_186 (List.mem_of_getElem? (i := 14) rfl)
theorem cd_186_27 : mt_cd 186 27 = some (.ifCond .eq 15) := mt_cd_of (q := (27, .ifCond .eq 15, 3)) mq_186 ci_186 (List.mem_of_getElem? (i := 15) rfl)
theorem cd_186_30 : mt_cd 186 30 = some (.iload_n 3) := mt_cd_of (q := (30, .iload_n 3, 1)) mq_186 ci_186 (List.mem_of_getElem? (i := 16) rfl)
theorem cd_186_31 : mt_cd 186 31 = some (.i2l) := mt_cd_of (q := (31, .i2l, 1)) mq_186 ci_186 (List.mem_of_getElem? (i := 17) rfl)
theorem cd_186_32 : mt_cd 186 32 = some (.lconst 0) := mt_cd_of (q := (32, .lconst 0, 1)) mq_186 ci_186 (List.mem_of_getElem? (i := 18) rfl)
theorem cd_186_33 : mt_cd 186 33 = some (.ldc2_w 544) := mt_cd_of (q := (33, .ldc2_w 544, 3)) mq_186 ci_186 (List.mem_of_getElem? (i := 19) rfl)
theorem cd_186_36 : mt_cd 186 36 = some (.invokestatic 268) := mt_cd_of (q := (36, .invokestatic 268, 3)) mq_186 ci_186 (List.mem_of_getElem? (i := 20) rfl)
theorem cd_186_39 : mt_cd 186 39 = some (.ifCond .ne 7) := mt_cd_of (q := (39, .ifCond .ne 7, 3)) mq_186 ci_186 (List.mem_of_getElem? (i := 21) rfl)
theorem cd_186_42 : mt_cd 186 42 = some (.iconst 1) := mt_cd_of (q := (42, .iconst 1, 1)) mq_186 ci_186 (List.mem_of_getElem? (i := 22) rfl)
theorem cd_186_43 : mt_cd 186 43 = some (.goto 4) := mt_cd_of (q := (43, .goto 4, 3)) mq_186 ci_186 (List.mem_of_getElem? (i := 23) rfl)
theorem cd_186_46 : mt_cd 186 46 = some (.iconst 0) := mt_cd_of (q := (46, .iconst 0, 1)) mq_186 ci_186 (List.mem_of_getElem? (i := 24) rfl)
theorem cd_186_47 : mt_cd 186 47 = some (.iconst 1) := mt_cd_of (q := (47, .iconst 1, 1)) mq_186 ci_186 (List.mem_of_getElem? (i := 25) rfl)
theorem cd_186_48 : mt_cd 186 48 = some (.invokevirtual 254) := mt_cd_of (q := (48, .invokevirtual 254, 3)) mq_186 ci_186 (List.mem_of_getElem? (i := 26) rfl)
theorem cd_186_51 : mt_cd 186 51 = some (.ifCond .ne 25) := mt_cd_of (q := (51, .ifCond .ne 25, 3)) mq_186 ci_186 (List.mem_of_getElem? (i := 27) rfl)
theorem cd_186_54 : mt_cd 186 54 = some (.aload_n 0) := mt_cd_of (q := (54, .aload_n 0, 1)) mq_186 ci_186 (List.mem_of_getElem? (i := 28) rfl)
theorem cd_186_55 : mt_cd 186 55 = some (.aload_n 0) := mt_cd_of (q := (55, .aload_n 0, 1)) mq_186 ci_186 (List.mem_of_getElem? (i := 29) rfl)
theorem cd_186_56 : mt_cd 186 56 = some (.getfield 258) := mt_cd_of (q := (56, .getfield 258, 3)) mq_186 ci_186 (List.mem_of_getElem? (i := 30) rfl)
theorem cd_186_59 : mt_cd 186 59 = some (.bipush 16) := mt_cd_of (q := (59, .bipush 16, 2)) mq_186 ci_186 (List.mem_of_getElem? (i := 31) rfl)
theorem cd_186_61 : mt_cd 186 61 = some (.if_icmp .ne 7) := mt_cd_of (q := (61, .if_icmp .ne 7, 3)) mq_186 ci_186 (List.mem_of_getElem? (i := 32) rfl)
theorem cd_186_64 : mt_cd 186 64 = some (.iconst 1) := mt_cd_of (q := (64, .iconst 1, 1)) mq_186 ci_186 (List.mem_of_getElem? (i := 33) rfl)
theorem cd_186_65 : mt_cd 186 65 = some (.goto 4) := mt_cd_of (q := (65, .goto 4, 3)) mq_186 ci_186 (List.mem_of_getElem? (i := 34) rfl)
theorem cd_186_68 : mt_cd 186 68 = some (.iconst 0) := mt_cd_of (q := (68, .iconst 0, 1)) mq_186 ci_186 (List.mem_of_getElem? (i := 35) rfl)
theorem cd_186_69 : mt_cd 186 69 = some (.iconst 2) := mt_cd_of (q := (69, .iconst 2, 1)) mq_186 ci_186 (List.mem_of_getElem? (i := 36) rfl)
theorem cd_186_70 : mt_cd 186 70 = some (.invokevirtual 254) := mt_cd_of (q := (70, .invokevirtual 254, 3)) mq_186 ci_186 (List.mem_of_getElem? (i := 37) rfl)
theorem cd_186_73 : mt_cd 186 73 = some (.ifCond .eq 5) := mt_cd_of (q := (73, .ifCond .eq 5, 3)) mq_186 ci_186 (List.mem_of_getElem? (i := 38) rfl)
theorem cd_186_76 : mt_cd 186 76 = some (.iconst 0) := mt_cd_of (q := (76, .iconst 0, 1)) mq_186 ci_186 (List.mem_of_getElem? (i := 39) rfl)
theorem cd_186_77 : mt_cd 186 77 = some (.ireturn) := mt_cd_of (q := (77, .ireturn, 1)) mq_186 ci_186 (List.mem_of_getElem? (i := 40) rfl)
theorem cd_186_78 : mt_cd 186 78 = some (.aload_n 0) := mt_cd_of (q := (78, .aload_n 0, 1)) mq_186 ci_186 (List.mem_of_getElem? (i := 41) rfl)
theorem cd_186_79 : mt_cd 186 79 = some (.bipush 7) := mt_cd_of (q := (79, .bipush 7, 2)) mq_186 ci_186 (List.mem_of_getElem? (i := 42) rfl)
theorem cd_186_81 : mt_cd 186 81 = some (.iload_n 1) := mt_cd_of (q := (81, .iload_n 1, 1)) mq_186 ci_186 (List.mem_of_getElem? (i := 43) rfl)
theorem cd_186_82 : mt_cd 186 82 = some (.iload_n 2) := mt_cd_of (q := (82, .iload_n 2, 1)) mq_186 ci_186 (List.mem_of_getElem? (i := 44) rfl)
theorem cd_186_83 : mt_cd 186 83 = some (.iload_n 3) := mt_cd_of (q := (83, .iload_n 3, 1)) mq_186 ci_186 (List.mem_of_getElem? (i := 45) rfl)
theorem cd_186_84 : mt_cd 186 84 = some (.lload 4) := mt_cd_of (q := (84, .lload 4, 2)) mq_186 ci_186 (List.mem_of_getElem? (i := 46) rfl)
theorem cd_186_86 : mt_cd 186 86 = some (.invokevirtual 548) := mt_cd_of (q := (86, .invokevirtual 548, 3)) mq_186 ci_186 (List.mem_of_getElem? (i := 47) rfl)
theorem cd_186_89 : mt_cd 186 89 = some (.ireturn) := mt_cd_of (q := (89, .ireturn, 1)) mq_186 ci_186 (List.mem_of_getElem? (i := 48) rfl)
theorem b_186_0 {d : Nat} {Q : (Option Value ⊕ Nat) → mi_H → Prop} (n sl : Nat) (f : Nat → mi_C) {l1 : Nat} {l2 : Int32} {l3 : Int32} {l4 : Int32} {l5 : Int64} {fs6 : List Value} (h7 : f l1 = .inr (12, fs6)) (h8 : l1 < n) (h9 : 0 < fs6.length) (h10 : mi_W d 141 0 (mi_en 6 [.long ((l2 : Int32).toInt64), .long 0, .long 7]) [] (n, sl, (va_up f l1 (.inr (12, fs6.set 0 (.int 0))))) (mi_Kc d 186 12 [some (.ref l1), some (.int l2), some (.int l3), some (.int l4), some (.long l5), none] [.ref l1] Q)) : mi_W (d + 1) 186 0 [some (.ref l1), some (.int l2), some (.int l3), some (.int l4), some (.long l5), none] [] (n, sl, f) Q := by
  refine w_aload_n cd_186_0 rfl ?_
  refine w_iconst (v := 0) cd_186_1 (by decide) ?_
  refine w_putfield (w := .int 0) cd_186_2 (show mt_f 12 248 = some (12, 0) by decide +kernel) h7 h8 ⟨h9, rfl, Or.inl (by decide)⟩ ?_
  refine w_aload_n cd_186_5 rfl ?_
  refine w_iload_n cd_186_6 rfl ?_
  refine w_i2l cd_186_7 ?_
  refine w_lconst (lv := 0) cd_186_8 (by decide) ?_
  refine w_ldc2_w (lv := 7) cd_186_9 (by decide +kernel) ?_
  exact w_invokestatic cd_186_12 (show mt_m 12 268 = some (141, 4) by decide +kernel) (by decide) (rest := [.ref l1]) rfl (as := [.long ((l2 : Int32).toInt64), .long 0, .long 7]) rfl ⟨Nat.le_of_ble_eq_true rfl, Nat.le_of_ble_eq_true rfl, Nat.le_of_ble_eq_true rfl⟩ h10
theorem b_186_15 {d : Nat} {Q : (Option Value ⊕ Nat) → mi_H → Prop} (n sl : Nat) (f : Nat → mi_C) {l1 : Nat} {l2 : Int32} {l3 : Int32} {l4 : Int32} {l5 : Int64} {s6 : Int32} {s7 : Nat} (h8 : s6 = (0 : Int32) → mi_W d 186 42 [some (.ref l1), some (.int l2), some (.int l3), some (.int l4), some (.long l5), none] [.ref s7] (n, sl, f) Q) (h9 : ¬ (s6 = (0 : Int32)) → mi_W d 186 18 [some (.ref l1), some (.int l2), some (.int l3), some (.int l4), some (.long l5), none] [.ref s7] (n, sl, f) Q) : mi_W d 186 15 [some (.ref l1), some (.int l2), some (.int l3), some (.int l4), some (.long l5), none] [.int s6, .ref s7] (n, sl, f) Q := by
  exact w_ifeq cd_186_15 (by decide) h8 h9
theorem b_186_18 {d : Nat} {Q : (Option Value ⊕ Nat) → mi_H → Prop} (n sl : Nat) (f : Nat → mi_C) {l1 : Nat} {l2 : Int32} {l3 : Int32} {l4 : Int32} {l5 : Int64} {s6 : Nat} (h7 : mi_W d 141 0 (mi_en 6 [.long ((l3 : Int32).toInt64), .long 0, .long 7]) [] (n, sl, f) (mi_Kc d 186 24 [some (.ref l1), some (.int l2), some (.int l3), some (.int l4), some (.long l5), none] [.ref s6] Q)) : mi_W (d + 1) 186 18 [some (.ref l1), some (.int l2), some (.int l3), some (.int l4), some (.long l5), none] [.ref s6] (n, sl, f) Q := by
  refine w_iload_n cd_186_18 rfl ?_
  refine w_i2l cd_186_19 ?_
  refine w_lconst (lv := 0) cd_186_20 (by decide) ?_
  refine w_ldc2_w (lv := 7) cd_186_21 (by decide +kernel) ?_
  exact w_invokestatic cd_186_24 (show mt_m 12 268 = some (141, 4) by decide +kernel) (by decide) (rest := [.ref s6]) rfl (as := [.long ((l3 : Int32).toInt64), .long 0, .long 7]) rfl ⟨Nat.le_of_ble_eq_true rfl, Nat.le_of_ble_eq_true rfl, Nat.le_of_ble_eq_true rfl⟩ h7
theorem b_186_27 {d : Nat} {Q : (Option Value ⊕ Nat) → mi_H → Prop} (n sl : Nat) (f : Nat → mi_C) {l1 : Nat} {l2 : Int32} {l3 : Int32} {l4 : Int32} {l5 : Int64} {s6 : Int32} {s7 : Nat} (h8 : s6 = (0 : Int32) → mi_W d 186 42 [some (.ref l1), some (.int l2), some (.int l3), some (.int l4), some (.long l5), none] [.ref s7] (n, sl, f) Q) (h9 : ¬ (s6 = (0 : Int32)) → mi_W d 186 30 [some (.ref l1), some (.int l2), some (.int l3), some (.int l4), some (.long l5), none] [.ref s7] (n, sl, f) Q) : mi_W d 186 27 [some (.ref l1), some (.int l2), some (.int l3), some (.int l4), some (.long l5), none] [.int s6, .ref s7] (n, sl, f) Q := by
  exact w_ifeq cd_186_27 (by decide) h8 h9
theorem b_186_30 {d : Nat} {Q : (Option Value ⊕ Nat) → mi_H → Prop} (n sl : Nat) (f : Nat → mi_C) {l1 : Nat} {l2 : Int32} {l3 : Int32} {l4 : Int32} {l5 : Int64} {s6 : Nat} (h7 : mi_W d 141 0 (mi_en 6 [.long ((l4 : Int32).toInt64), .long 0, .long 3]) [] (n, sl, f) (mi_Kc d 186 36 [some (.ref l1), some (.int l2), some (.int l3), some (.int l4), some (.long l5), none] [.ref s6] Q)) : mi_W (d + 1) 186 30 [some (.ref l1), some (.int l2), some (.int l3), some (.int l4), some (.long l5), none] [.ref s6] (n, sl, f) Q := by
  refine w_iload_n cd_186_30 rfl ?_
  refine w_i2l cd_186_31 ?_
  refine w_lconst (lv := 0) cd_186_32 (by decide) ?_
  refine w_ldc2_w (lv := 3) cd_186_33 (by decide +kernel) ?_
  exact w_invokestatic cd_186_36 (show mt_m 12 268 = some (141, 4) by decide +kernel) (by decide) (rest := [.ref s6]) rfl (as := [.long ((l4 : Int32).toInt64), .long 0, .long 3]) rfl ⟨Nat.le_of_ble_eq_true rfl, Nat.le_of_ble_eq_true rfl, Nat.le_of_ble_eq_true rfl⟩ h7
theorem b_186_39 {d : Nat} {Q : (Option Value ⊕ Nat) → mi_H → Prop} (n sl : Nat) (f : Nat → mi_C) {l1 : Nat} {l2 : Int32} {l3 : Int32} {l4 : Int32} {l5 : Int64} {s6 : Int32} {s7 : Nat} (h8 : ¬ s6 = (0 : Int32) → mi_W d 186 46 [some (.ref l1), some (.int l2), some (.int l3), some (.int l4), some (.long l5), none] [.ref s7] (n, sl, f) Q) (h9 : ¬ (¬ s6 = (0 : Int32)) → mi_W d 186 42 [some (.ref l1), some (.int l2), some (.int l3), some (.int l4), some (.long l5), none] [.ref s7] (n, sl, f) Q) : mi_W d 186 39 [some (.ref l1), some (.int l2), some (.int l3), some (.int l4), some (.long l5), none] [.int s6, .ref s7] (n, sl, f) Q := by
  exact w_ifne cd_186_39 (by decide) h8 h9
theorem b_186_42 {d : Nat} {Q : (Option Value ⊕ Nat) → mi_H → Prop} (n sl : Nat) (f : Nat → mi_C) {l1 : Nat} {l2 : Int32} {l3 : Int32} {l4 : Int32} {l5 : Int64} {s6 : Nat} (h7 : mi_W d 186 47 [some (.ref l1), some (.int l2), some (.int l3), some (.int l4), some (.long l5), none] [.int 1, .ref s6] (n, sl, f) Q) : mi_W d 186 42 [some (.ref l1), some (.int l2), some (.int l3), some (.int l4), some (.long l5), none] [.ref s6] (n, sl, f) Q := by
  refine w_iconst (v := 1) cd_186_42 (by decide) ?_
  exact w_goto cd_186_43 (by decide) h7
theorem b_186_46 {d : Nat} {Q : (Option Value ⊕ Nat) → mi_H → Prop} (n sl : Nat) (f : Nat → mi_C) {l1 : Nat} {l2 : Int32} {l3 : Int32} {l4 : Int32} {l5 : Int64} {s6 : Nat} (h7 : mi_W d 186 47 [some (.ref l1), some (.int l2), some (.int l3), some (.int l4), some (.long l5), none] [.int 0, .ref s6] (n, sl, f) Q) : mi_W d 186 46 [some (.ref l1), some (.int l2), some (.int l3), some (.int l4), some (.long l5), none] [.ref s6] (n, sl, f) Q := by
  refine w_iconst (v := 0) cd_186_46 (by decide) ?_
  exact h7
theorem b_186_47 {d : Nat} {Q : (Option Value ⊕ Nat) → mi_H → Prop} (n sl : Nat) (f : Nat → mi_C) {l1 : Nat} {l2 : Int32} {l3 : Int32} {l4 : Int32} {l5 : Int64} {s6 : Int32} {s7 : Nat} {fs8 : List Value} (h9 : f s7 = .inr (12, fs8)) (h10 : s7 < n) (h11 : mi_W d 139 0 (mi_en 3 [.ref s7, .int s6, .int 1]) [] (n, sl, f) (mi_Kc d 186 48 [some (.ref l1), some (.int l2), some (.int l3), some (.int l4), some (.long l5), none] [] Q)) : mi_W (d + 1) 186 47 [some (.ref l1), some (.int l2), some (.int l3), some (.int l4), some (.long l5), none] [.int s6, .ref s7] (n, sl, f) Q := by
  refine w_iconst (v := 1) cd_186_47 (by decide) ?_
  exact w_invokevirtual cd_186_48 (show mt_m 12 254 = some (139, 0) by decide +kernel) (rest := []) rfl (as := [.ref s7, .int s6, .int 1]) rfl h9 (Or.inl h10) ⟨Nat.le_of_ble_eq_true rfl, Nat.le_of_ble_eq_true rfl, Nat.le_of_ble_eq_true rfl⟩ h11
theorem b_186_51 {d : Nat} {Q : (Option Value ⊕ Nat) → mi_H → Prop} (n sl : Nat) (f : Nat → mi_C) {l1 : Nat} {l2 : Int32} {l3 : Int32} {l4 : Int32} {l5 : Int64} {s6 : Int32} (h7 : ¬ s6 = (0 : Int32) → mi_W d 186 76 [some (.ref l1), some (.int l2), some (.int l3), some (.int l4), some (.long l5), none] [] (n, sl, f) Q) (h8 : ¬ (¬ s6 = (0 : Int32)) → mi_W d 186 54 [some (.ref l1), some (.int l2), some (.int l3), some (.int l4), some (.long l5), none] [] (n, sl, f) Q) : mi_W d 186 51 [some (.ref l1), some (.int l2), some (.int l3), some (.int l4), some (.long l5), none] [.int s6] (n, sl, f) Q := by
  exact w_ifne cd_186_51 (by decide) h7 h8
theorem b_186_54 {d : Nat} {Q : (Option Value ⊕ Nat) → mi_H → Prop} (n sl : Nat) (f : Nat → mi_C) {l1 : Nat} {l2 : Int32} {l3 : Int32} {l4 : Int32} {l5 : Int64} {fs6 : List Value} {x9 : Int32} (h7 : f l1 = .inr (12, fs6)) (h8 : l1 < n) (h10 : fs6[59]? = some (.int x9)) (h11 : ¬ x9 = 16 → mi_W d 186 68 [some (.ref l1), some (.int l2), some (.int l3), some (.int l4), some (.long l5), none] [.ref l1] (n, sl, f) Q) (h12 : ¬ (¬ x9 = 16) → mi_W d 186 64 [some (.ref l1), some (.int l2), some (.int l3), some (.int l4), some (.long l5), none] [.ref l1] (n, sl, f) Q) : mi_W d 186 54 [some (.ref l1), some (.int l2), some (.int l3), some (.int l4), some (.long l5), none] [] (n, sl, f) Q := by
  refine w_aload_n cd_186_54 rfl ?_
  refine w_aload_n cd_186_55 rfl ?_
  refine w_getfield cd_186_56 (show mt_f 12 258 = some (12, 59) by decide +kernel) h7 h8 h10 ?_
  refine w_bipush (v := 16) cd_186_59 (by decide) ?_
  exact w_if_icmpne cd_186_61 (by decide) h11 h12
theorem b_186_64 {d : Nat} {Q : (Option Value ⊕ Nat) → mi_H → Prop} (n sl : Nat) (f : Nat → mi_C) {l1 : Nat} {l2 : Int32} {l3 : Int32} {l4 : Int32} {l5 : Int64} {s6 : Nat} (h7 : mi_W d 186 69 [some (.ref l1), some (.int l2), some (.int l3), some (.int l4), some (.long l5), none] [.int 1, .ref s6] (n, sl, f) Q) : mi_W d 186 64 [some (.ref l1), some (.int l2), some (.int l3), some (.int l4), some (.long l5), none] [.ref s6] (n, sl, f) Q := by
  refine w_iconst (v := 1) cd_186_64 (by decide) ?_
  exact w_goto cd_186_65 (by decide) h7
theorem b_186_68 {d : Nat} {Q : (Option Value ⊕ Nat) → mi_H → Prop} (n sl : Nat) (f : Nat → mi_C) {l1 : Nat} {l2 : Int32} {l3 : Int32} {l4 : Int32} {l5 : Int64} {s6 : Nat} (h7 : mi_W d 186 69 [some (.ref l1), some (.int l2), some (.int l3), some (.int l4), some (.long l5), none] [.int 0, .ref s6] (n, sl, f) Q) : mi_W d 186 68 [some (.ref l1), some (.int l2), some (.int l3), some (.int l4), some (.long l5), none] [.ref s6] (n, sl, f) Q := by
  refine w_iconst (v := 0) cd_186_68 (by decide) ?_
  exact h7
theorem b_186_69 {d : Nat} {Q : (Option Value ⊕ Nat) → mi_H → Prop} (n sl : Nat) (f : Nat → mi_C) {l1 : Nat} {l2 : Int32} {l3 : Int32} {l4 : Int32} {l5 : Int64} {s6 : Int32} {s7 : Nat} {fs8 : List Value} (h9 : f s7 = .inr (12, fs8)) (h10 : s7 < n) (h11 : mi_W d 139 0 (mi_en 3 [.ref s7, .int s6, .int 2]) [] (n, sl, f) (mi_Kc d 186 70 [some (.ref l1), some (.int l2), some (.int l3), some (.int l4), some (.long l5), none] [] Q)) : mi_W (d + 1) 186 69 [some (.ref l1), some (.int l2), some (.int l3), some (.int l4), some (.long l5), none] [.int s6, .ref s7] (n, sl, f) Q := by
  refine w_iconst (v := 2) cd_186_69 (by decide) ?_
  exact w_invokevirtual cd_186_70 (show mt_m 12 254 = some (139, 0) by decide +kernel) (rest := []) rfl (as := [.ref s7, .int s6, .int 2]) rfl h9 (Or.inl h10) ⟨Nat.le_of_ble_eq_true rfl, Nat.le_of_ble_eq_true rfl, Nat.le_of_ble_eq_true rfl⟩ h11
theorem b_186_73 {d : Nat} {Q : (Option Value ⊕ Nat) → mi_H → Prop} (n sl : Nat) (f : Nat → mi_C) {l1 : Nat} {l2 : Int32} {l3 : Int32} {l4 : Int32} {l5 : Int64} {s6 : Int32} (h7 : s6 = (0 : Int32) → mi_W d 186 78 [some (.ref l1), some (.int l2), some (.int l3), some (.int l4), some (.long l5), none] [] (n, sl, f) Q) (h8 : ¬ (s6 = (0 : Int32)) → mi_W d 186 76 [some (.ref l1), some (.int l2), some (.int l3), some (.int l4), some (.long l5), none] [] (n, sl, f) Q) : mi_W d 186 73 [some (.ref l1), some (.int l2), some (.int l3), some (.int l4), some (.long l5), none] [.int s6] (n, sl, f) Q := by
  exact w_ifeq cd_186_73 (by decide) h7 h8
theorem b_186_76 {d : Nat} {Q : (Option Value ⊕ Nat) → mi_H → Prop} (n sl : Nat) (f : Nat → mi_C) {l1 : Nat} {l2 : Int32} {l3 : Int32} {l4 : Int32} {l5 : Int64} (h6 : Q (.inl (some (.int 0))) (n, sl, f)) : mi_W d 186 76 [some (.ref l1), some (.int l2), some (.int l3), some (.int l4), some (.long l5), none] [] (n, sl, f) Q := by
  refine w_iconst (v := 0) cd_186_76 (by decide) ?_
  exact w_ireturn_i cd_186_77 (by decide +kernel) h6
theorem b_186_78 {d : Nat} {Q : (Option Value ⊕ Nat) → mi_H → Prop} (n sl : Nat) (f : Nat → mi_C) {l1 : Nat} {l2 : Int32} {l3 : Int32} {l4 : Int32} {l5 : Int64} {fs6 : List Value} (h7 : f l1 = .inr (12, fs6)) (h8 : l1 < n) (h9 : mi_W d 187 0 (mi_en 7 [.ref l1, .int 7, .int l2, .int l3, .int l4, .long l5]) [] (n, sl, f) (mi_Kc d 186 86 [some (.ref l1), some (.int l2), some (.int l3), some (.int l4), some (.long l5), none] [] Q)) : mi_W (d + 1) 186 78 [some (.ref l1), some (.int l2), some (.int l3), some (.int l4), some (.long l5), none] [] (n, sl, f) Q := by
  refine w_aload_n cd_186_78 rfl ?_
  refine w_bipush (v := 7) cd_186_79 (by decide) ?_
  refine w_iload_n cd_186_81 rfl ?_
  refine w_iload_n cd_186_82 rfl ?_
  refine w_iload_n cd_186_83 rfl ?_
  refine w_lload cd_186_84 rfl ?_
  exact w_invokevirtual cd_186_86 (show mt_m 12 548 = some (187, 0) by decide +kernel) (rest := []) rfl (as := [.ref l1, .int 7, .int l2, .int l3, .int l4, .long l5]) rfl h7 (Or.inl h8) ⟨Nat.le_of_ble_eq_true rfl, Nat.le_of_ble_eq_true rfl, Nat.le_of_ble_eq_true rfl⟩ h9
theorem b_186_89 {d : Nat} {Q : (Option Value ⊕ Nat) → mi_H → Prop} (n sl : Nat) (f : Nat → mi_C) {l1 : Nat} {l2 : Int32} {l3 : Int32} {l4 : Int32} {l5 : Int64} {s6 : Int32} (h7 : Q (.inl (some (.int s6))) (n, sl, f)) : mi_W d 186 89 [some (.ref l1), some (.int l2), some (.int l3), some (.int l4), some (.long l5), none] [.int s6] (n, sl, f) Q := by
  exact w_ireturn_i cd_186_89 (by decide +kernel) h7
/-! MarloweHostModel.input(IIIIJ)I -/
set_option maxRecDepth 100000 in
theorem mq_187 : mt_q 187 = my_187 := rfl
set_option maxRecDepth 100000 in
theorem ci_187 : mt_inc 0 my_187.cd = true := by decide +kernel
theorem cd_187_0 : mt_cd 187 0 = some (.aload_n 0) := mt_cd_of (q := (0, .aload_n 0, 1)) mq_187 ci_187 (List.mem_of_getElem? (i := 0) rfl)
theorem cd_187_1 : mt_cd 187 1 = some (.getfield 178) := mt_cd_of (q := (1, .getfield 178, 3)) mq_187 ci_187 (List.mem_of_getElem? (i := 1) rfl)
theorem cd_187_4 : mt_cd 187 4 = some (.aload_n 0) := mt_cd_of (q := (4, .aload_n 0, 1)) mq_187 ci_187 (List.mem_of_getElem? (i := 2) rfl)
theorem cd_187_5 : mt_cd 187 5 = some (.getfield 258) := mt_cd_of (q := (5, .getfield 258, 3)) mq_187 ci_187 (List.mem_of_getElem? (i := 3) rfl)
theorem cd_187_8 : mt_cd 187 8 = some (.iload_n 1) := mt_cd_of (q := (8, .iload_n 1, 1)) mq_187 ci_187 (List.mem_of_getElem? (i := 4) rfl)
theorem cd_187_9 : mt_cd 187 9 = some (.iastore) := mt_cd_of (q := (9, .iastore, 1)) mq_187 ci_187 (List.mem_of_getElem? (i := 5) rfl)
theorem cd_187_10 : mt_cd 187 10 = some (.aload_n 0) := mt_cd_of (q := (10, .aload_n 0, 1)) mq_187 ci_187 (List.mem_of_getElem? (i := 6) rfl)
theorem cd_187_11 : mt_cd 187 11 = some (.getfield 181) := mt_cd_of (q := (11, .getfield 181, 3)) mq_187 ci_187 (List.mem_of_getElem? (i := 7) rfl)
theorem cd_187_14 : mt_cd 187 14 = some (.aload_n 0) := mt_cd_of (q := (14, .aload_n 0, 1)) mq_187 ci_187 (List.mem_of_getElem? (i := 8) rfl)
theorem cd_187_15 : mt_cd 187 15 = some (.getfield 258) := mt_cd_of (q := (15, .getfield 258, 3)) mq_187 ci_187 (List.mem_of_getElem? (i := 9) rfl)
theorem cd_187_18 : mt_cd 187 18 = some (.iload_n 2) := mt_cd_of (q := (18, .iload_n 2, 1)) mq_187 ci_187 (List.mem_of_getElem? (i := 10) rfl)
theorem cd_187_19 : mt_cd 187 19 = some (.iastore) := mt_cd_of (q := (19, .iastore, 1)) mq_187 ci_187 (List.mem_of_getElem? (i := 11) rfl)
theorem cd_187_20 : mt_cd 187 20 = some (.aload_n 0) := mt_cd_of (q := (20, .aload_n 0, 1)) mq_187 ci_187 (List.mem_of_getElem? (i := 12) rfl)
theorem cd_187_21 : mt_cd 187 21 = some (.getfield 184) := mt_cd_of (q := (21, .getfield 184, 3)) mq_187 ci_187 (List.mem_of_getElem? (i := 13) rfl)
theorem cd_187_24 : mt_cd 187 24 = some (.aload_n 0) := mt_cd_of (q := (24, .aload_n 0, 1)) mq_187 ci_187 (List.mem_of_getElem? (i := 14) rfl)
theorem cd_187_25 : mt_cd 187 25 = some (.getfield 258) := mt_cd_of (q := (25, .getfield 258, 3)) mq_187 ci_187 (List.mem_of_getElem? (i := 15) rfl)
theorem cd_187_28 : mt_cd 187 28 = some (.iload_n 3) := mt_cd_of (q := (28, .iload_n 3, 1)) mq_187 ci_187 (List.mem_of_getElem? (i := 16) rfl)
theorem cd_187_29 : mt_cd 187 29 = some (.iastore) := mt_cd_of (q := (29, .iastore, 1)) mq_187 ci_187 (List.mem_of_getElem? (i := 17) rfl)
theorem cd_187_30 : mt_cd 187 30 = some (.aload_n 0) := mt_cd_of (q := (30, .aload_n 0, 1)) mq_187 ci_187 (List.mem_of_getElem? (i := 18) rfl)
theorem cd_187_31 : mt_cd 187 31 = some (.getfield 187) := mt_cd_of (q := (31, .getfield 187, 3)) mq_187 ci_187 (List.mem_of_getElem? (i := 19) rfl)
theorem cd_187_34 : mt_cd 187 34 = some (.aload_n 0) := mt_cd_of (q := (34, .aload_n 0, 1)) mq_187 ci_187 (List.mem_of_getElem? (i := 20) rfl)
theorem cd_187_35 : mt_cd 187 35 = some (.getfield 258) := mt_cd_of (q := (35, .getfield 258, 3)) mq_187 ci_187 (List.mem_of_getElem? (i := 21) rfl)
theorem cd_187_38 : mt_cd 187 38 = some (.iload 4) := mt_cd_of (q := (38, .iload 4, 2)) mq_187 ci_187 (List.mem_of_getElem? (i := 22) rfl)
theorem cd_187_40 : mt_cd 187 40 = some (.iastore) := mt_cd_of (q := (40, .iastore, 1)) mq_187 ci_187 (List.mem_of_getElem? (i := 23) rfl)
theorem cd_187_41 : mt_cd 187 41 = some (.aload_n 0) := mt_cd_of (q := (41, .aload_n 0, 1)) mq_187 ci_187 (List.mem_of_getElem? (i := 24) rfl)
theorem cd_187_42 : mt_cd 187 42 = some (.getfield 190) := mt_cd_of (q := (42, .getfield 190, 3)) mq_187 ci_187 (List.mem_of_getElem? (i := 25) rfl)
theorem cd_187_45 : mt_cd 187 45 = some (.aload_n 0) := mt_cd_of (q := (45, .aload_n 0, 1)) mq_187 ci_187 (List.mem_of_getElem? (i := 26) rfl)
theorem cd_187_46 : mt_cd 187 46 = some (.getfield 258) := mt_cd_of (q := (46, .getfield 258, 3)) mq_187 ci_187 (List.mem_of_getElem? (i := 27) rfl)
theorem cd_187_49 : mt_cd 187 49 = some (.lload 5) := mt_cd_of (q := (49, .lload 5, 2)) mq_187 ci_187 (List.mem_of_getElem? (i := 28) rfl)
theorem cd_187_51 : mt_cd 187 51 = some (.lastore) := mt_cd_of (q := (51, .lastore, 1)) mq_187 ci_187 (List.mem_of_getElem? (i := 29) rfl)
theorem cd_187_52 : mt_cd 187 52 = some (.aload_n 0) := mt_cd_of (q := (52, .aload_n 0, 1)) mq_187 ci_187 (List.mem_of_getElem? (i := 30) rfl)
theorem cd_187_53 : mt_cd 187 53 = some (.dup) := mt_cd_of (q := (53, .dup, 1)) mq_187 ci_187 (List.mem_of_getElem? (i := 31) rfl)
theorem cd_187_54 : mt_cd 187 54 = some (.getfield 258) := mt_cd_of (q := (54, .getfield 258, 3)) mq_187 ci_187 (List.mem_of_getElem? (i := 32) rfl)
theorem cd_187_57 : mt_cd 187 57 = some (.iconst 1) := mt_cd_of (q := (57, .iconst 1, 1)) mq_187 ci_187 (List.mem_of_getElem? (i := 33) rfl)
theorem cd_187_58 : mt_cd 187 58 = some (.iadd) := mt_cd_of (q := (58, .iadd, 1)) mq_187 ci_187 (List.mem_of_getElem? (i := 34) rfl)
theorem cd_187_59 : mt_cd 187 59 = some (.dup_x1) := mt_cd_of (q := (59, .dup_x1, 1)) mq_187 ci_187 (List.mem_of_getElem? (i := 35) rfl)
theorem cd_187_60 : mt_cd 187 60 = some (.putfield 258) := mt_cd_of (q := (60, .putfield 258, 3)) mq_187 ci_187 (List.mem_of_getElem? (i := 36) rfl)
theorem cd_187_63 : mt_cd 187 63 = some (.ireturn) := mt_cd_of (q := (63, .ireturn, 1)) mq_187 ci_187 (List.mem_of_getElem? (i := 37) rfl)
theorem b_187_0 {d : Nat} {Q : (Option Value ⊕ Nat) → mi_H → Prop} (n sl : Nat) (f : Nat → mi_C) {l1 : Nat} {l2 : Int32} {l3 : Int32} {l4 : Int32} {l5 : Int32} {l6 : Int64} {fs7 : List Value} {x10 : Nat} {fs12 : List Value} {x15 : Int32} (m17 i17 : Nat) (g17 : Nat → Int32) {fs21 : List Value} {x24 : Nat} {fs26 : List Value} {x29 : Int32} (m31 i31 : Nat) (g31 : Nat → Int32) {fs35 : List Value} {x38 : Nat} {fs40 : List Value} {x43 : Int32} (m45 i45 : Nat) (g45 : Nat → Int32) {fs49 : List Value} {x52 : Nat} {fs54 : List Value} {x57 : Int32} (m59 i59 : Nat) (g59 : Nat → Int32) {fs63 : List Value} {x66 : Nat} {fs68 : List Value} {x71 : Int32} (m73 i73 : Nat) (g73 : Nat → Int64) {fs77 : List Value} {x80 : Int32} {fs82 : List Value} (h8 : f l1 = .inr (12, fs7)) (h9 : l1 < n) (h11 : fs7[60]? = some (.ref x10)) (h13 : f l1 = .inr (12, fs12)) (h14 : l1 < n) (h16 : fs12[59]? = some (.int x15)) (h18 : f x10 = .inl (0, m17, .inl g17)) (h19 : x10 < n) (h20 : mi_ix x15 m17 i17) (h22 : (va_up f x10 (.inl (0, m17, .inl (upd g17 i17 l2)))) l1 = .inr (12, fs21)) (h23 : l1 < n) (h25 : fs21[61]? = some (.ref x24)) (h27 : (va_up f x10 (.inl (0, m17, .inl (upd g17 i17 l2)))) l1 = .inr (12, fs26)) (h28 : l1 < n) (h30 : fs26[59]? = some (.int x29)) (h32 : (va_up f x10 (.inl (0, m17, .inl (upd g17 i17 l2)))) x24 = .inl (0, m31, .inl g31)) (h33 : x24 < n) (h34 : mi_ix x29 m31 i31) (h36 : (va_up (va_up f x10 (.inl (0, m17, .inl (upd g17 i17 l2)))) x24 (.inl (0, m31, .inl (upd g31 i31 l3)))) l1 = .inr (12, fs35)) (h37 : l1 < n) (h39 : fs35[62]? = some (.ref x38)) (h41 : (va_up (va_up f x10 (.inl (0, m17, .inl (upd g17 i17 l2)))) x24 (.inl (0, m31, .inl (upd g31 i31 l3)))) l1 = .inr (12, fs40)) (h42 : l1 < n) (h44 : fs40[59]? = some (.int x43)) (h46 : (va_up (va_up f x10 (.inl (0, m17, .inl (upd g17 i17 l2)))) x24 (.inl (0, m31, .inl (upd g31 i31 l3)))) x38 = .inl (0, m45, .inl g45)) (h47 : x38 < n) (h48 : mi_ix x43 m45 i45) (h50 : (va_up (va_up (va_up f x10 (.inl (0, m17, .inl (upd g17 i17 l2)))) x24 (.inl (0, m31, .inl (upd g31 i31 l3)))) x38 (.inl (0, m45, .inl (upd g45 i45 l4)))) l1 = .inr (12, fs49)) (h51 : l1 < n) (h53 : fs49[63]? = some (.ref x52)) (h55 : (va_up (va_up (va_up f x10 (.inl (0, m17, .inl (upd g17 i17 l2)))) x24 (.inl (0, m31, .inl (upd g31 i31 l3)))) x38 (.inl (0, m45, .inl (upd g45 i45 l4)))) l1 = .inr (12, fs54)) (h56 : l1 < n) (h58 : fs54[59]? = some (.int x57)) (h60 : (va_up (va_up (va_up f x10 (.inl (0, m17, .inl (upd g17 i17 l2)))) x24 (.inl (0, m31, .inl (upd g31 i31 l3)))) x38 (.inl (0, m45, .inl (upd g45 i45 l4)))) x52 = .inl (0, m59, .inl g59)) (h61 : x52 < n) (h62 : mi_ix x57 m59 i59) (h64 : (va_up (va_up (va_up (va_up f x10 (.inl (0, m17, .inl (upd g17 i17 l2)))) x24 (.inl (0, m31, .inl (upd g31 i31 l3)))) x38 (.inl (0, m45, .inl (upd g45 i45 l4)))) x52 (.inl (0, m59, .inl (upd g59 i59 l5)))) l1 = .inr (12, fs63)) (h65 : l1 < n) (h67 : fs63[64]? = some (.ref x66)) (h69 : (va_up (va_up (va_up (va_up f x10 (.inl (0, m17, .inl (upd g17 i17 l2)))) x24 (.inl (0, m31, .inl (upd g31 i31 l3)))) x38 (.inl (0, m45, .inl (upd g45 i45 l4)))) x52 (.inl (0, m59, .inl (upd g59 i59 l5)))) l1 = .inr (12, fs68)) (h70 : l1 < n) (h72 : fs68[59]? = some (.int x71)) (h74 : (va_up (va_up (va_up (va_up f x10 (.inl (0, m17, .inl (upd g17 i17 l2)))) x24 (.inl (0, m31, .inl (upd g31 i31 l3)))) x38 (.inl (0, m45, .inl (upd g45 i45 l4)))) x52 (.inl (0, m59, .inl (upd g59 i59 l5)))) x66 = .inl (3, m73, .inr (.inl g73))) (h75 : x66 < n) (h76 : mi_ix x71 m73 i73) (h78 : (va_up (va_up (va_up (va_up (va_up f x10 (.inl (0, m17, .inl (upd g17 i17 l2)))) x24 (.inl (0, m31, .inl (upd g31 i31 l3)))) x38 (.inl (0, m45, .inl (upd g45 i45 l4)))) x52 (.inl (0, m59, .inl (upd g59 i59 l5)))) x66 (.inl (3, m73, .inr (.inl (vp_updL g73 i73 l6))))) l1 = .inr (12, fs77)) (h79 : l1 < n) (h81 : fs77[59]? = some (.int x80)) (h83 : (va_up (va_up (va_up (va_up (va_up f x10 (.inl (0, m17, .inl (upd g17 i17 l2)))) x24 (.inl (0, m31, .inl (upd g31 i31 l3)))) x38 (.inl (0, m45, .inl (upd g45 i45 l4)))) x52 (.inl (0, m59, .inl (upd g59 i59 l5)))) x66 (.inl (3, m73, .inr (.inl (vp_updL g73 i73 l6))))) l1 = .inr (12, fs82)) (h84 : l1 < n) (h85 : 59 < fs82.length) (h86 : Q (.inl (some (.int (x80 + 1)))) (n, sl, (va_up (va_up (va_up (va_up (va_up (va_up f x10 (.inl (0, m17, .inl (upd g17 i17 l2)))) x24 (.inl (0, m31, .inl (upd g31 i31 l3)))) x38 (.inl (0, m45, .inl (upd g45 i45 l4)))) x52 (.inl (0, m59, .inl (upd g59 i59 l5)))) x66 (.inl (3, m73, .inr (.inl (vp_updL g73 i73 l6))))) l1 (.inr (12, fs82.set 59 (.int (x80 + 1))))))) : mi_W d 187 0 [some (.ref l1), some (.int l2), some (.int l3), some (.int l4), some (.int l5), some (.long l6), none] [] (n, sl, f) Q := by
  refine w_aload_n cd_187_0 rfl ?_
  refine w_getfield cd_187_1 (show mt_f 12 178 = some (12, 60) by decide +kernel) h8 h9 h11 ?_
  refine w_aload_n cd_187_4 rfl ?_
  refine w_getfield cd_187_5 (show mt_f 12 258 = some (12, 59) by decide +kernel) h13 h14 h16 ?_
  refine w_iload_n cd_187_8 rfl ?_
  refine w_iastore cd_187_9 h18 h19 h20 ?_
  refine w_aload_n cd_187_10 rfl ?_
  refine w_getfield cd_187_11 (show mt_f 12 181 = some (12, 61) by decide +kernel) h22 h23 h25 ?_
  refine w_aload_n cd_187_14 rfl ?_
  refine w_getfield cd_187_15 (show mt_f 12 258 = some (12, 59) by decide +kernel) h27 h28 h30 ?_
  refine w_iload_n cd_187_18 rfl ?_
  refine w_iastore cd_187_19 h32 h33 h34 ?_
  refine w_aload_n cd_187_20 rfl ?_
  refine w_getfield cd_187_21 (show mt_f 12 184 = some (12, 62) by decide +kernel) h36 h37 h39 ?_
  refine w_aload_n cd_187_24 rfl ?_
  refine w_getfield cd_187_25 (show mt_f 12 258 = some (12, 59) by decide +kernel) h41 h42 h44 ?_
  refine w_iload_n cd_187_28 rfl ?_
  refine w_iastore cd_187_29 h46 h47 h48 ?_
  refine w_aload_n cd_187_30 rfl ?_
  refine w_getfield cd_187_31 (show mt_f 12 187 = some (12, 63) by decide +kernel) h50 h51 h53 ?_
  refine w_aload_n cd_187_34 rfl ?_
  refine w_getfield cd_187_35 (show mt_f 12 258 = some (12, 59) by decide +kernel) h55 h56 h58 ?_
  refine w_iload cd_187_38 rfl ?_
  refine w_iastore cd_187_40 h60 h61 h62 ?_
  refine w_aload_n cd_187_41 rfl ?_
  refine w_getfield cd_187_42 (show mt_f 12 190 = some (12, 64) by decide +kernel) h64 h65 h67 ?_
  refine w_aload_n cd_187_45 rfl ?_
  refine w_getfield cd_187_46 (show mt_f 12 258 = some (12, 59) by decide +kernel) h69 h70 h72 ?_
  refine w_lload cd_187_49 rfl ?_
  refine w_lastore cd_187_51 h74 h75 h76 ?_
  refine w_aload_n cd_187_52 rfl ?_
  refine w_dup_r cd_187_53 ?_
  refine w_getfield cd_187_54 (show mt_f 12 258 = some (12, 59) by decide +kernel) h78 h79 h81 ?_
  refine w_iconst (v := 1) cd_187_57 (by decide) ?_
  refine w_iadd cd_187_58 ?_
  refine w_dup_x1_ir cd_187_59 ?_
  refine w_putfield (w := .int (x80 + 1)) cd_187_60 (show mt_f 12 258 = some (12, 59) by decide +kernel) h83 h84 ⟨h85, rfl, Or.inl (by decide)⟩ ?_
  exact w_ireturn_i cd_187_63 (by decide +kernel) h86
/-! MarloweHostModel.choose(IJ)I -/
set_option maxRecDepth 100000 in
theorem mq_188 : mt_q 188 = my_188 := rfl
set_option maxRecDepth 100000 in
theorem ci_188 : mt_inc 0 my_188.cd = true := by decide +kernel
theorem cd_188_0 : mt_cd 188 0 = some (.aload_n 0) := mt_cd_of (q := (0, .aload_n 0, 1)) mq_188 ci_188 (List.mem_of_getElem? (i := 0) rfl)
theorem cd_188_1 : mt_cd 188 1 = some (.iconst 0) := mt_cd_of (q := (1, .iconst 0, 1)) mq_188 ci_188 (List.mem_of_getElem? (i := 1) rfl)
theorem cd_188_2 : mt_cd 188 2 = some (.putfield 248) := mt_cd_of (q := (2, .putfield 248, 3)) mq_188 ci_188 (List.mem_of_getElem? (i := 2) rfl)
theorem cd_188_5 : mt_cd 188 5 = some (.aload_n 0) := mt_cd_of (q := (5, .aload_n 0, 1)) mq_188 ci_188 (List.mem_of_getElem? (i := 3) rfl)
theorem cd_188_6 : mt_cd 188 6 = some (.iload_n 1) := mt_cd_of (q := (6, .iload_n 1, 1)) mq_188 ci_188 (List.mem_of_getElem? (i := 4) rfl)
theorem cd_188_7 : mt_cd 188 7 = some (.i2l) := mt_cd_of (q := (7, .i2l, 1)) mq_188 ci_188 (List.mem_of_getElem? (i := 5) rfl)
theorem cd_188_8 : mt_cd 188 8 = some (.lconst 0) := mt_cd_of (q := (8, .lconst 0, 1)) mq_188 ci_188 (List.mem_of_getElem? (i := 6) rfl)
theorem cd_188_9 : mt_cd 188 9 = some (.ldc2_w 542) := mt_cd_of (q := (9, .ldc2_w 542, 3)) mq_188 ci_188 (List.mem_of_getElem? (i := 7) rfl)
theorem cd_188_12 : mt_cd 188 12 = some (.invokestatic 268) := mt_cd_of (q := (12, .invokestatic 268, 3)) mq_188 ci_188 (List.mem_of_getElem? (i := 8) rfl)
theorem cd_188_15 : mt_cd 188 15 = some (.ifCond .ne 7) := mt_cd_of (q := (15, .ifCond .ne 7, 3)) mq_188 ci_188 (List.mem_of_getElem? (i := 9) rfl)
theorem cd_188_18 : mt_cd 188 18 = some (.iconst 1) := mt_cd_of (q := (18, .iconst 1, 1)) mq_188 ci_188 (List.mem_of_getElem? (i := 10) rfl)
theorem cd_188_19 : mt_cd 188 19 = some (.goto 4) := mt_cd_of (q := (19, .goto 4, 3)) mq_188 ci_188 (List.mem_of_getElem? (i := 11) rfl)
theorem cd_188_22 : mt_cd 188 22 = some (.iconst 0) := mt_cd_of (q := (22, .iconst 0, 1)) mq_188 ci_188 (List.mem_of_getElem? (i := 12) rfl)
theorem cd_188_23 : mt_cd 188 23 = some (.iconst 1) := mt_cd_of (q := (23, .iconst 1, 1)) mq_188 ci_188 (List.mem_of_getElem? (i := 13) rfl)
theorem cd_188_24 : mt_cd 188 24 = some (.invokevirtual 254) := mt_cd_of (q := (24, .invokevirtual 254, 3)) mq_188 ci_188 (List.mem_of_getElem? (i := 14) rfl)
theorem cd_188_27 : mt_cd 188 27 = some (.ifCond .ne 25) := mt_cd_of (q := (27, .ifCond .ne 25, 3)) mq_188 ci_188 (List.mem_of_getElem? (i := 15) rfl)
theorem cd_188_30 : mt_cd 188 30 = some (.aload_n 0) := mt_cd_of (q := (30, .aload_n 0, 1)) mq_188 ci_188 (List.mem_of_getElem? (i := 16) rfl)
theorem cd_188_31 : mt_cd 188 31 = some (.aload_n 0) := mt_cd_of (q := (31, .aload_n 0, 1)) mq_188 ci_188 (List.mem_of_getElem? (i := 17) rfl)
theorem cd_188_32 : mt_cd 188 32 = some (.getfield 258) := mt_cd_of (q := (32, .getfield 258, 3)) mq_188 ci_188 (List.mem_of_getElem? (i := 18) rfl)
theorem cd_188_35 : mt_cd 188 35 = some (.bipush 16) := mt_cd_of (q := (35, .bipush 16, 2)) mq_188 ci_188 (List.mem_of_getElem? (i := 19) rfl)
theorem cd_188_37 : mt_cd 188 37 = some (.if_icmp .ne 7) := mt_cd_of (q := (37, .if_icmp .ne 7, 3)) mq_188 ci_188 (List.mem_of_getElem? (i := 20) rfl)
theorem cd_188_40 : mt_cd 188 40 = some (.iconst 1) := mt_cd_of (q := (40, .iconst 1, 1)) mq_188 ci_188 (List.mem_of_getElem? (i := 21) rfl)
theorem cd_188_41 : mt_cd 188 41 = some (.goto 4) := mt_cd_of (q := (41, .goto 4, 3)) mq_188 ci_188 (List.mem_of_getElem? (i := 22) rfl)
theorem cd_188_44 : mt_cd 188 44 = some (.iconst 0) := mt_cd_of (q := (44, .iconst 0, 1)) mq_188 ci_188 (List.mem_of_getElem? (i := 23) rfl)
theorem cd_188_45 : mt_cd 188 45 = some (.iconst 2) := mt_cd_of (q := (45, .iconst 2, 1)) mq_188 ci_188 (List.mem_of_getElem? (i := 24) rfl)
theorem cd_188_46 : mt_cd 188 46 = some (.invokevirtual 254) := mt_cd_of (q := (46, .invokevirtual 254, 3)) mq_188 ci_188 (List.mem_of_getElem? (i := 25) rfl)
theorem cd_188_49 : mt_cd 188 49 = some (.ifCond .eq 5) := mt_cd_of (q := (49, .ifCond .eq 5, 3)) mq_188 ci_188 (List.mem_of_getElem? (i := 26) rfl)
theorem cd_188_52 : mt_cd 188 52 = some (.iconst 0) := mt_cd_of (q := (52, .iconst 0, 1)) mq_188 ci_188 (List.mem_of_getElem? (i := 27) rfl)
theorem cd_188_53 : mt_cd 188 53 = some (.ireturn) := mt_cd_of (q := (53, .ireturn, 1)) mq_188 ci_188 (List.mem_of_getElem? (i := 28) rfl)
theorem cd_188_54 : mt_cd 188 54 = some (.aload_n 0) := mt_cd_of (q := (54, .aload_n 0, 1)) mq_188 ci_188 (List.mem_of_getElem? (i := 29) rfl)
theorem cd_188_55 : mt_cd 188 55 = some (.bipush 8) := mt_cd_of (q := (55, .bipush 8, 2)) mq_188 ci_188 (List.mem_of_getElem? (i := 30) rfl)
theorem cd_188_57 : mt_cd 188 57 = some (.iload_n 1) := mt_cd_of (q := (57, .iload_n 1, 1)) mq_188 ci_188 (List.mem_of_getElem? (i := 31) rfl)
theorem cd_188_58 : mt_cd 188 58 = some (.iconst 0) := mt_cd_of (q := (58, .iconst 0, 1)) mq_188 ci_188 (List.mem_of_getElem? (i := 32) rfl)
theorem cd_188_59 : mt_cd 188 59 = some (.iconst 0) := mt_cd_of (q := (59, .iconst 0, 1)) mq_188 ci_188 (List.mem_of_getElem? (i := 33) rfl)
theorem cd_188_60 : mt_cd 188 60 = some (.lload_n 2) := mt_cd_of (q := (60, .lload_n 2, 1)) mq_188 ci_188 (List.mem_of_getElem? (i := 34) rfl)
theorem cd_188_61 : mt_cd 188 61 = some (.invokevirtual 548) := mt_cd_of (q := (61, .invokevirtual 548, 3)) mq_188 ci_188 (List.mem_of_getElem? (i := 35) rfl)
theorem cd_188_64 : mt_cd 188 64 = some (.ireturn) := mt_cd_of (q := (64, .ireturn, 1)) mq_188 ci_188 (List.mem_of_getElem? (i := 36) rfl)
theorem b_188_0 {d : Nat} {Q : (Option Value ⊕ Nat) → mi_H → Prop} (n sl : Nat) (f : Nat → mi_C) {l1 : Nat} {l2 : Int32} {l3 : Int64} {fs4 : List Value} (h5 : f l1 = .inr (12, fs4)) (h6 : l1 < n) (h7 : 0 < fs4.length) (h8 : mi_W d 141 0 (mi_en 6 [.long ((l2 : Int32).toInt64), .long 0, .long 7]) [] (n, sl, (va_up f l1 (.inr (12, fs4.set 0 (.int 0))))) (mi_Kc d 188 12 [some (.ref l1), some (.int l2), some (.long l3), none] [.ref l1] Q)) : mi_W (d + 1) 188 0 [some (.ref l1), some (.int l2), some (.long l3), none] [] (n, sl, f) Q := by
  refine w_aload_n cd_188_0 rfl ?_
  refine w_iconst (v := 0) cd_188_1 (by decide) ?_
  refine w_putfield (w := .int 0) cd_188_2 (show mt_f 12 248 = some (12, 0) by decide +kernel) h5 h6 ⟨h7, rfl, Or.inl (by decide)⟩ ?_
  refine w_aload_n cd_188_5 rfl ?_
  refine w_iload_n cd_188_6 rfl ?_
  refine w_i2l cd_188_7 ?_
  refine w_lconst (lv := 0) cd_188_8 (by decide) ?_
  refine w_ldc2_w (lv := 7) cd_188_9 (by decide +kernel) ?_
  exact w_invokestatic cd_188_12 (show mt_m 12 268 = some (141, 4) by decide +kernel) (by decide) (rest := [.ref l1]) rfl (as := [.long ((l2 : Int32).toInt64), .long 0, .long 7]) rfl ⟨Nat.le_of_ble_eq_true rfl, Nat.le_of_ble_eq_true rfl, Nat.le_of_ble_eq_true rfl⟩ h8
theorem b_188_15 {d : Nat} {Q : (Option Value ⊕ Nat) → mi_H → Prop} (n sl : Nat) (f : Nat → mi_C) {l1 : Nat} {l2 : Int32} {l3 : Int64} {s4 : Int32} {s5 : Nat} (h6 : ¬ s4 = (0 : Int32) → mi_W d 188 22 [some (.ref l1), some (.int l2), some (.long l3), none] [.ref s5] (n, sl, f) Q) (h7 : ¬ (¬ s4 = (0 : Int32)) → mi_W d 188 18 [some (.ref l1), some (.int l2), some (.long l3), none] [.ref s5] (n, sl, f) Q) : mi_W d 188 15 [some (.ref l1), some (.int l2), some (.long l3), none] [.int s4, .ref s5] (n, sl, f) Q := by
  exact w_ifne cd_188_15 (by decide) h6 h7
theorem b_188_18 {d : Nat} {Q : (Option Value ⊕ Nat) → mi_H → Prop} (n sl : Nat) (f : Nat → mi_C) {l1 : Nat} {l2 : Int32} {l3 : Int64} {s4 : Nat} (h5 : mi_W d 188 23 [some (.ref l1), some (.int l2), some (.long l3), none] [.int 1, .ref s4] (n, sl, f) Q) : mi_W d 188 18 [some (.ref l1), some (.int l2), some (.long l3), none] [.ref s4] (n, sl, f) Q := by
  refine w_iconst (v := 1) cd_188_18 (by decide) ?_
  exact w_goto cd_188_19 (by decide) h5
theorem b_188_22 {d : Nat} {Q : (Option Value ⊕ Nat) → mi_H → Prop} (n sl : Nat) (f : Nat → mi_C) {l1 : Nat} {l2 : Int32} {l3 : Int64} {s4 : Nat} (h5 : mi_W d 188 23 [some (.ref l1), some (.int l2), some (.long l3), none] [.int 0, .ref s4] (n, sl, f) Q) : mi_W d 188 22 [some (.ref l1), some (.int l2), some (.long l3), none] [.ref s4] (n, sl, f) Q := by
  refine w_iconst (v := 0) cd_188_22 (by decide) ?_
  exact h5
theorem b_188_23 {d : Nat} {Q : (Option Value ⊕ Nat) → mi_H → Prop} (n sl : Nat) (f : Nat → mi_C) {l1 : Nat} {l2 : Int32} {l3 : Int64} {s4 : Int32} {s5 : Nat} {fs6 : List Value} (h7 : f s5 = .inr (12, fs6)) (h8 : s5 < n) (h9 : mi_W d 139 0 (mi_en 3 [.ref s5, .int s4, .int 1]) [] (n, sl, f) (mi_Kc d 188 24 [some (.ref l1), some (.int l2), some (.long l3), none] [] Q)) : mi_W (d + 1) 188 23 [some (.ref l1), some (.int l2), some (.long l3), none] [.int s4, .ref s5] (n, sl, f) Q := by
  refine w_iconst (v := 1) cd_188_23 (by decide) ?_
  exact w_invokevirtual cd_188_24 (show mt_m 12 254 = some (139, 0) by decide +kernel) (rest := []) rfl (as := [.ref s5, .int s4, .int 1]) rfl h7 (Or.inl h8) ⟨Nat.le_of_ble_eq_true rfl, Nat.le_of_ble_eq_true rfl, Nat.le_of_ble_eq_true rfl⟩ h9
theorem b_188_27 {d : Nat} {Q : (Option Value ⊕ Nat) → mi_H → Prop} (n sl : Nat) (f : Nat → mi_C) {l1 : Nat} {l2 : Int32} {l3 : Int64} {s4 : Int32} (h5 : ¬ s4 = (0 : Int32) → mi_W d 188 52 [some (.ref l1), some (.int l2), some (.long l3), none] [] (n, sl, f) Q) (h6 : ¬ (¬ s4 = (0 : Int32)) → mi_W d 188 30 [some (.ref l1), some (.int l2), some (.long l3), none] [] (n, sl, f) Q) : mi_W d 188 27 [some (.ref l1), some (.int l2), some (.long l3), none] [.int s4] (n, sl, f) Q := by
  exact w_ifne cd_188_27 (by decide) h5 h6
theorem b_188_30 {d : Nat} {Q : (Option Value ⊕ Nat) → mi_H → Prop} (n sl : Nat) (f : Nat → mi_C) {l1 : Nat} {l2 : Int32} {l3 : Int64} {fs4 : List Value} {x7 : Int32} (h5 : f l1 = .inr (12, fs4)) (h6 : l1 < n) (h8 : fs4[59]? = some (.int x7)) (h9 : ¬ x7 = 16 → mi_W d 188 44 [some (.ref l1), some (.int l2), some (.long l3), none] [.ref l1] (n, sl, f) Q) (h10 : ¬ (¬ x7 = 16) → mi_W d 188 40 [some (.ref l1), some (.int l2), some (.long l3), none] [.ref l1] (n, sl, f) Q) : mi_W d 188 30 [some (.ref l1), some (.int l2), some (.long l3), none] [] (n, sl, f) Q := by
  refine w_aload_n cd_188_30 rfl ?_
  refine w_aload_n cd_188_31 rfl ?_
  refine w_getfield cd_188_32 (show mt_f 12 258 = some (12, 59) by decide +kernel) h5 h6 h8 ?_
  refine w_bipush (v := 16) cd_188_35 (by decide) ?_
  exact w_if_icmpne cd_188_37 (by decide) h9 h10
theorem b_188_40 {d : Nat} {Q : (Option Value ⊕ Nat) → mi_H → Prop} (n sl : Nat) (f : Nat → mi_C) {l1 : Nat} {l2 : Int32} {l3 : Int64} {s4 : Nat} (h5 : mi_W d 188 45 [some (.ref l1), some (.int l2), some (.long l3), none] [.int 1, .ref s4] (n, sl, f) Q) : mi_W d 188 40 [some (.ref l1), some (.int l2), some (.long l3), none] [.ref s4] (n, sl, f) Q := by
  refine w_iconst (v := 1) cd_188_40 (by decide) ?_
  exact w_goto cd_188_41 (by decide) h5
theorem b_188_44 {d : Nat} {Q : (Option Value ⊕ Nat) → mi_H → Prop} (n sl : Nat) (f : Nat → mi_C) {l1 : Nat} {l2 : Int32} {l3 : Int64} {s4 : Nat} (h5 : mi_W d 188 45 [some (.ref l1), some (.int l2), some (.long l3), none] [.int 0, .ref s4] (n, sl, f) Q) : mi_W d 188 44 [some (.ref l1), some (.int l2), some (.long l3), none] [.ref s4] (n, sl, f) Q := by
  refine w_iconst (v := 0) cd_188_44 (by decide) ?_
  exact h5
theorem b_188_45 {d : Nat} {Q : (Option Value ⊕ Nat) → mi_H → Prop} (n sl : Nat) (f : Nat → mi_C) {l1 : Nat} {l2 : Int32} {l3 : Int64} {s4 : Int32} {s5 : Nat} {fs6 : List Value} (h7 : f s5 = .inr (12, fs6)) (h8 : s5 < n) (h9 : mi_W d 139 0 (mi_en 3 [.ref s5, .int s4, .int 2]) [] (n, sl, f) (mi_Kc d 188 46 [some (.ref l1), some (.int l2), some (.long l3), none] [] Q)) : mi_W (d + 1) 188 45 [some (.ref l1), some (.int l2), some (.long l3), none] [.int s4, .ref s5] (n, sl, f) Q := by
  refine w_iconst (v := 2) cd_188_45 (by decide) ?_
  exact w_invokevirtual cd_188_46 (show mt_m 12 254 = some (139, 0) by decide +kernel) (rest := []) rfl (as := [.ref s5, .int s4, .int 2]) rfl h7 (Or.inl h8) ⟨Nat.le_of_ble_eq_true rfl, Nat.le_of_ble_eq_true rfl, Nat.le_of_ble_eq_true rfl⟩ h9
theorem b_188_49 {d : Nat} {Q : (Option Value ⊕ Nat) → mi_H → Prop} (n sl : Nat) (f : Nat → mi_C) {l1 : Nat} {l2 : Int32} {l3 : Int64} {s4 : Int32} (h5 : s4 = (0 : Int32) → mi_W d 188 54 [some (.ref l1), some (.int l2), some (.long l3), none] [] (n, sl, f) Q) (h6 : ¬ (s4 = (0 : Int32)) → mi_W d 188 52 [some (.ref l1), some (.int l2), some (.long l3), none] [] (n, sl, f) Q) : mi_W d 188 49 [some (.ref l1), some (.int l2), some (.long l3), none] [.int s4] (n, sl, f) Q := by
  exact w_ifeq cd_188_49 (by decide) h5 h6
theorem b_188_52 {d : Nat} {Q : (Option Value ⊕ Nat) → mi_H → Prop} (n sl : Nat) (f : Nat → mi_C) {l1 : Nat} {l2 : Int32} {l3 : Int64} (h4 : Q (.inl (some (.int 0))) (n, sl, f)) : mi_W d 188 52 [some (.ref l1), some (.int l2), some (.long l3), none] [] (n, sl, f) Q := by
  refine w_iconst (v := 0) cd_188_52 (by decide) ?_
  exact w_ireturn_i cd_188_53 (by decide +kernel) h4
theorem b_188_54 {d : Nat} {Q : (Option Value ⊕ Nat) → mi_H → Prop} (n sl : Nat) (f : Nat → mi_C) {l1 : Nat} {l2 : Int32} {l3 : Int64} {fs4 : List Value} (h5 : f l1 = .inr (12, fs4)) (h6 : l1 < n) (h7 : mi_W d 187 0 (mi_en 7 [.ref l1, .int 8, .int l2, .int 0, .int 0, .long l3]) [] (n, sl, f) (mi_Kc d 188 61 [some (.ref l1), some (.int l2), some (.long l3), none] [] Q)) : mi_W (d + 1) 188 54 [some (.ref l1), some (.int l2), some (.long l3), none] [] (n, sl, f) Q := by
  refine w_aload_n cd_188_54 rfl ?_
  refine w_bipush (v := 8) cd_188_55 (by decide) ?_
  refine w_iload_n cd_188_57 rfl ?_
  refine w_iconst (v := 0) cd_188_58 (by decide) ?_
  refine w_iconst (v := 0) cd_188_59 (by decide) ?_
  refine w_lload_n cd_188_60 rfl ?_
  exact w_invokevirtual cd_188_61 (show mt_m 12 548 = some (187, 0) by decide +kernel) (rest := []) rfl (as := [.ref l1, .int 8, .int l2, .int 0, .int 0, .long l3]) rfl h5 (Or.inl h6) ⟨Nat.le_of_ble_eq_true rfl, Nat.le_of_ble_eq_true rfl, Nat.le_of_ble_eq_true rfl⟩ h7
theorem b_188_64 {d : Nat} {Q : (Option Value ⊕ Nat) → mi_H → Prop} (n sl : Nat) (f : Nat → mi_C) {l1 : Nat} {l2 : Int32} {l3 : Int64} {s4 : Int32} (h5 : Q (.inl (some (.int s4))) (n, sl, f)) : mi_W d 188 64 [some (.ref l1), some (.int l2), some (.long l3), none] [.int s4] (n, sl, f) Q := by
  exact w_ireturn_i cd_188_64 (by decide +kernel) h5
/-! MarloweHostModel.remind()I -/
set_option maxRecDepth 100000 in
theorem mq_189 : mt_q 189 = my_189 := rfl
set_option maxRecDepth 100000 in
theorem ci_189 : mt_inc 0 my_189.cd = true := by decide +kernel
theorem cd_189_0 : mt_cd 189 0 = some (.aload_n 0) := mt_cd_of (q := (0, .aload_n 0, 1)) mq_189 ci_189 (List.mem_of_getElem? (i := 0) rfl)
theorem cd_189_1 : mt_cd 189 1 = some (.iconst 0) := mt_cd_of (q := (1, .iconst 0, 1)) mq_189 ci_189 (List.mem_of_getElem? (i := 1) rfl)
theorem cd_189_2 : mt_cd 189 2 = some (.putfield 248) := mt_cd_of (q := (2, .putfield 248, 3)) mq_189 ci_189 (List.mem_of_getElem? (i := 2) rfl)
theorem cd_189_5 : mt_cd 189 5 = some (.aload_n 0) := mt_cd_of (q := (5, .aload_n 0, 1)) mq_189 ci_189 (List.mem_of_getElem? (i := 3) rfl)
theorem cd_189_6 : mt_cd 189 6 = some (.aload_n 0) := mt_cd_of (q := (6, .aload_n 0, 1)) mq_189 ci_189 (List.mem_of_getElem? (i := 4) rfl)
theorem cd_189_7 : mt_cd 189 7 = some (.getfield 258) := mt_cd_of (q := (7, .getfield 258, 3)) mq_189 ci_189 (List.mem_of_getElem? (i := 5) rfl)
theorem cd_189_10 : mt_cd 189 10 = some (.bipush 16) := mt_cd_of (q := (10, .bipush 16, 2)) mq_189 ci_189 (List.mem_of_getElem? (i := 6) rfl)
theorem cd_189_12 : mt_cd 189 12 = some (.if_icmp .ne 7) := mt_cd_of (q := (12, .if_icmp .ne 7, 3)) mq_189 ci_189 (List.mem_of_getElem? (i := 7) rfl)
theorem cd_189_15 : mt_cd 189 15 = some (.iconst 1) := mt_cd_of (q := (15, .iconst 1, 1)) mq_189 ci_189 (List.mem_of_getElem? (i := 8) rfl)
theorem cd_189_16 : mt_cd 189 16 = some (.goto 4) := mt_cd_of (q := (16, .goto 4, 3)) mq_189 ci_189 (List.mem_of_getElem? (i := 9) rfl)
theorem cd_189_19 : mt_cd 189 19 = some (.iconst 0) := mt_cd_of (q := (19, .iconst 0, 1)) mq_189 ci_189 (List.mem_of_getElem? (i := 10) rfl)
theorem cd_189_20 : mt_cd 189 20 = some (.iconst 1) := mt_cd_of (q := (20, .iconst 1, 1)) mq_189 ci_189 (List.mem_of_getElem? (i := 11) rfl)
theorem cd_189_21 : mt_cd 189 21 = some (.invokevirtual 254) := mt_cd_of (q := (21, .invokevirtual 254, 3)) mq_189 ci_189 (List.mem_of_getElem? (i := 12) rfl)
theorem cd_189_24 : mt_cd 189 24 = some (.ifCond .eq 5) := mt_cd_of (q := (24, .ifCond .eq 5, 3)) mq_189 ci_189 (List.mem_of_getElem? (i := 13) rfl)
theorem cd_189_27 : mt_cd 189 27 = some (.iconst 0) := mt_cd_of (q := (27, .iconst 0, 1)) mq_189 ci_189 (List.mem_of_getElem? (i := 14) rfl)
theorem cd_189_28 : mt_cd 189 28 = some (.ireturn) := mt_cd_of (q := (28, .ireturn, 1)) mq_189 ci_189 (List.mem_of_getElem? (i := 15) rfl)
theorem cd_189_29 : mt_cd 189 29 = some (.aload_n 0) := mt_cd_of (q := (29, .aload_n 0, 1)) mq_189 ci_189 (List.mem_of_getElem? (i := 16) rfl)
theorem cd_189_30 : mt_cd 189 30 = some (.bipush 9) := mt_cd_of (q := (30, .bipush 9, 2)) mq_189 ci_189 (List.mem_of_getElem? (i := 17) rfl)
theorem cd_189_32 : mt_cd 189 32 = some (.iconst 0) := mt_cd_of (q := (32, .iconst 0, 1)) mq_189 ci_189 (List.mem_of_getElem? (i := 18) rfl)
theorem cd_189_33 : mt_cd 189 33 = some (.iconst 0) := mt_cd_of (q := (33, .iconst 0, 1)) mq_189 ci_189 (List.mem_of_getElem? (i := 19) rfl)
theorem cd_189_34 : mt_cd 189 34 = some (.iconst 0) := mt_cd_of (q := (34, .iconst 0, 1)) mq_189 ci_189 (List.mem_of_getElem? (i := 20) rfl)
theorem cd_189_35 : mt_cd 189 35 = some (.lconst 0) := mt_cd_of (q := (35, .lconst 0, 1)) mq_189 ci_189 (List.mem_of_getElem? (i := 21) rfl)
theorem cd_189_36 : mt_cd 189 36 = some (.invokevirtual 548) := mt_cd_of (q := (36, .invokevirtual 548, 3)) mq_189 ci_189 (List.mem_of_getElem? (i := 22) rfl)
theorem cd_189_39 : mt_cd 189 39 = some (.ireturn) := mt_cd_of (q := (39, .ireturn, 1)) mq_189 ci_189 (List.mem_of_getElem? (i := 23) rfl)
theorem b_189_0 {d : Nat} {Q : (Option Value ⊕ Nat) → mi_H → Prop} (n sl : Nat) (f : Nat → mi_C) {l1 : Nat} {fs2 : List Value} {fs6 : List Value} {x9 : Int32} (h3 : f l1 = .inr (12, fs2)) (h4 : l1 < n) (h5 : 0 < fs2.length) (h7 : (va_up f l1 (.inr (12, fs2.set 0 (.int 0)))) l1 = .inr (12, fs6)) (h8 : l1 < n) (h10 : fs6[59]? = some (.int x9)) (h11 : ¬ x9 = 16 → mi_W d 189 19 [some (.ref l1)] [.ref l1] (n, sl, (va_up f l1 (.inr (12, fs2.set 0 (.int 0))))) Q) (h12 : ¬ (¬ x9 = 16) → mi_W d 189 15 [some (.ref l1)] [.ref l1] (n, sl, (va_up f l1 (.inr (12, fs2.set 0 (.int 0))))) Q) : mi_W d 189 0 [some (.ref l1)] [] (n, sl, f) Q := by
  refine w_aload_n cd_189_0 rfl ?_
  refine w_iconst (v := 0) cd_189_1 (by decide) ?_
  refine w_putfield (w := .int 0) cd_189_2 (show mt_f 12 248 = some (12, 0) by decide +kernel) h3 h4 ⟨h5, rfl, Or.inl (by decide)⟩ ?_
  refine w_aload_n cd_189_5 rfl ?_
  refine w_aload_n cd_189_6 rfl ?_
  refine w_getfield cd_189_7 (show mt_f 12 258 = some (12, 59) by decide +kernel) h7 h8 h10 ?_
  refine w_bipush (v := 16) cd_189_10 (by decide) ?_
  exact w_if_icmpne cd_189_12 (by decide) h11 h12
theorem b_189_15 {d : Nat} {Q : (Option Value ⊕ Nat) → mi_H → Prop} (n sl : Nat) (f : Nat → mi_C) {l1 : Nat} {s2 : Nat} (h3 : mi_W d 189 20 [some (.ref l1)] [.int 1, .ref s2] (n, sl, f) Q) : mi_W d 189 15 [some (.ref l1)] [.ref s2] (n, sl, f) Q := by
  refine w_iconst (v := 1) cd_189_15 (by decide) ?_
  exact w_goto cd_189_16 (by decide) h3
theorem b_189_19 {d : Nat} {Q : (Option Value ⊕ Nat) → mi_H → Prop} (n sl : Nat) (f : Nat → mi_C) {l1 : Nat} {s2 : Nat} (h3 : mi_W d 189 20 [some (.ref l1)] [.int 0, .ref s2] (n, sl, f) Q) : mi_W d 189 19 [some (.ref l1)] [.ref s2] (n, sl, f) Q := by
  refine w_iconst (v := 0) cd_189_19 (by decide) ?_
  exact h3
theorem b_189_20 {d : Nat} {Q : (Option Value ⊕ Nat) → mi_H → Prop} (n sl : Nat) (f : Nat → mi_C) {l1 : Nat} {s2 : Int32} {s3 : Nat} {fs4 : List Value} (h5 : f s3 = .inr (12, fs4)) (h6 : s3 < n) (h7 : mi_W d 139 0 (mi_en 3 [.ref s3, .int s2, .int 1]) [] (n, sl, f) (mi_Kc d 189 21 [some (.ref l1)] [] Q)) : mi_W (d + 1) 189 20 [some (.ref l1)] [.int s2, .ref s3] (n, sl, f) Q := by
  refine w_iconst (v := 1) cd_189_20 (by decide) ?_
  exact w_invokevirtual cd_189_21 (show mt_m 12 254 = some (139, 0) by decide +kernel) (rest := []) rfl (as := [.ref s3, .int s2, .int 1]) rfl h5 (Or.inl h6) ⟨Nat.le_of_ble_eq_true rfl, Nat.le_of_ble_eq_true rfl, Nat.le_of_ble_eq_true rfl⟩ h7
theorem b_189_24 {d : Nat} {Q : (Option Value ⊕ Nat) → mi_H → Prop} (n sl : Nat) (f : Nat → mi_C) {l1 : Nat} {s2 : Int32} (h3 : s2 = (0 : Int32) → mi_W d 189 29 [some (.ref l1)] [] (n, sl, f) Q) (h4 : ¬ (s2 = (0 : Int32)) → mi_W d 189 27 [some (.ref l1)] [] (n, sl, f) Q) : mi_W d 189 24 [some (.ref l1)] [.int s2] (n, sl, f) Q := by
  exact w_ifeq cd_189_24 (by decide) h3 h4
theorem b_189_27 {d : Nat} {Q : (Option Value ⊕ Nat) → mi_H → Prop} (n sl : Nat) (f : Nat → mi_C) {l1 : Nat} (h2 : Q (.inl (some (.int 0))) (n, sl, f)) : mi_W d 189 27 [some (.ref l1)] [] (n, sl, f) Q := by
  refine w_iconst (v := 0) cd_189_27 (by decide) ?_
  exact w_ireturn_i cd_189_28 (by decide +kernel) h2
theorem b_189_29 {d : Nat} {Q : (Option Value ⊕ Nat) → mi_H → Prop} (n sl : Nat) (f : Nat → mi_C) {l1 : Nat} {fs2 : List Value} (h3 : f l1 = .inr (12, fs2)) (h4 : l1 < n) (h5 : mi_W d 187 0 (mi_en 7 [.ref l1, .int 9, .int 0, .int 0, .int 0, .long 0]) [] (n, sl, f) (mi_Kc d 189 36 [some (.ref l1)] [] Q)) : mi_W (d + 1) 189 29 [some (.ref l1)] [] (n, sl, f) Q := by
  refine w_aload_n cd_189_29 rfl ?_
  refine w_bipush (v := 9) cd_189_30 (by decide) ?_
  refine w_iconst (v := 0) cd_189_32 (by decide) ?_
  refine w_iconst (v := 0) cd_189_33 (by decide) ?_
  refine w_iconst (v := 0) cd_189_34 (by decide) ?_
  refine w_lconst (lv := 0) cd_189_35 (by decide) ?_
  exact w_invokevirtual cd_189_36 (show mt_m 12 548 = some (187, 0) by decide +kernel) (rest := []) rfl (as := [.ref l1, .int 9, .int 0, .int 0, .int 0, .long 0]) rfl h3 (Or.inl h4) ⟨Nat.le_of_ble_eq_true rfl, Nat.le_of_ble_eq_true rfl, Nat.le_of_ble_eq_true rfl⟩ h5
theorem b_189_39 {d : Nat} {Q : (Option Value ⊕ Nat) → mi_H → Prop} (n sl : Nat) (f : Nat → mi_C) {l1 : Nat} {s2 : Int32} (h3 : Q (.inl (some (.int s2))) (n, sl, f)) : mi_W d 189 39 [some (.ref l1)] [.int s2] (n, sl, f) Q := by
  exact w_ireturn_i cd_189_39 (by decide +kernel) h3
/-! MarloweHostModel.told(II)I -/
set_option maxRecDepth 100000 in
theorem mq_190 : mt_q 190 = my_190 := rfl
set_option maxRecDepth 100000 in
theorem ci_190 : mt_inc 0 my_190.cd = true := by decide +kernel
theorem cd_190_0 : mt_cd 190 0 = some (.aload_n 0) := mt_cd_of (q := (0, .aload_n 0, 1)) mq_190 ci_190 (List.mem_of_getElem? (i := 0) rfl)
theorem cd_190_1 : mt_cd 190 1 = some (.iconst 0) := mt_cd_of (q := (1, .iconst 0, 1)) mq_190 ci_190 (List.mem_of_getElem? (i := 1) rfl)
theorem cd_190_2 : mt_cd 190 2 = some (.putfield 248) := mt_cd_of (q := (2, .putfield 248, 3)) mq_190 ci_190 (List.mem_of_getElem? (i := 2) rfl)
theorem cd_190_5 : mt_cd 190 5 = some (.aload_n 0) := mt_cd_of (q := (5, .aload_n 0, 1)) mq_190 ci_190 (List.mem_of_getElem? (i := 3) rfl)
theorem cd_190_6 : mt_cd 190 6 = some (.iload_n 1) := mt_cd_of (q := (6, .iload_n 1, 1)) mq_190 ci_190 (List.mem_of_getElem? (i := 4) rfl)
theorem cd_190_7 : mt_cd 190 7 = some (.i2l) := mt_cd_of (q := (7, .i2l, 1)) mq_190 ci_190 (List.mem_of_getElem? (i := 5) rfl)
theorem cd_190_8 : mt_cd 190 8 = some (.lconst 0) := mt_cd_of (q := (8, .lconst 0, 1)) mq_190 ci_190 (List.mem_of_getElem? (i := 6) rfl)
theorem cd_190_9 : mt_cd 190 9 = some (.ldc2_w 552) := mt_cd_of (q := (9, .ldc2_w 552, 3)) mq_190 ci_190 (List.mem_of_getElem? (i := 7) rfl)
theorem cd_190_12 : mt_cd 190 12 = some (.invokestatic 268) := mt_cd_of (q := (12, .invokestatic 268, 3)) mq_190 ci_190 (List.mem_of_getElem? (i := 8) rfl)
theorem cd_190_15 : mt_cd 190 15 = some (.ifCond .ne 7) := mt_cd_of (q := (15, .ifCond .ne 7, 3)) mq_190 ci_190 (List.mem_of_getElem? (i := 9) rfl)
theorem cd_190_18 : mt_cd 190 18 = some (.iconst 1) := mt_cd_of (q := (18, .iconst 1, 1)) mq_190 ci_190 (List.mem_of_getElem? (i := 10) rfl)
theorem cd_190_19 : mt_cd 190 19 = some (.goto 4) := mt_cd_of (q := (19, .goto 4, 3)) mq_190 ci_190 (List.mem_of_getElem? (i := 11) rfl)
theorem cd_190_22 : mt_cd 190 22 = some (.iconst 0) := mt_cd_of (q := (22, .iconst 0, 1)) mq_190 ci_190 (List.mem_of_getElem? (i := 12) rfl)
theorem cd_190_23 : mt_cd 190 23 = some (.iconst 1) := mt_cd_of (q := (23, .iconst 1, 1)) mq_190 ci_190 (List.mem_of_getElem? (i := 13) rfl)
theorem cd_190_24 : mt_cd 190 24 = some (.invokevirtual 254) := mt_cd_of (q := (24, .invokevirtual 254, 3)) mq_190 ci_190 (List.mem_of_getElem? (i := 14) rfl)
theorem cd_190_27 : mt_cd 190 27 = some (.ifCond .ne 44) := mt_cd_of (q := (27, .ifCond .ne 44, 3)) mq_190 ci_190 (List.mem_of_getElem? (i := 15) rfl)
theorem cd_190_30 : mt_cd 190 30 = some (.aload_n 0) := mt_cd_of (q := (30, .aload_n 0, 1)) mq_190 ci_190 (List.mem_of_getElem? (i := 16) rfl)
theorem cd_190_31 : mt_cd 190 31 = some (.iload_n 2) := mt_cd_of (q := (31, .iload_n 2, 1)) mq_190 ci_190 (List.mem_of_getElem? (i := 17) rfl)
theorem cd_190_32 : mt_cd 190 32 = some (.i2l) := mt_cd_of (q := (32, .i2l, 1)) mq_190 ci_190 (List.mem_of_getElem? (i := 18) rfl)
theorem cd_190_33 : mt_cd 190 33 = some (.lconst 0) := mt_cd_of (q := (33, .lconst 0, 1)) mq_190 ci_190 (List.mem_of_getElem? (i := 19) rfl)
theorem cd_190_34 : mt_cd 190 34 = some (.iload_n 1) := mt_cd_of (q := (34, .iload_n 1, 1)) mq_190 ci_190 (List.mem_of_getElem? (i := 20) rfl)
theorem cd_190_35 : mt_cd 190 35 = some (.iconst 2) := mt_cd_of (q := (35, .iconst 2, 1)) mq_190 ci_190 (List.mem_of_getElem? (i := 21) rfl)
theorem cd_190_36 : mt_cd 190 36 = some (.if_icmp .ge 10) := mt_cd_of (q := (36, .if_icmp .ge 10, 3)) mq_190 ci_190 (List.mem_of_getElem? (i := 22) rfl)
theorem cd_190_39 : mt_cd 190 39 = some (.aload_n 0) := mt_cd_of (q := (39, .aload_n 0, 1)) mq_190 ci_190 (List.mem_of_getElem? (i := 23) rfl)
theorem cd_190_40 : mt_cd 190 40 = some (.getfield 536) := mt_cd_of (q := (40, .getfield 536, 3)) mq_190 ci_190 (List.mem_of_getElem? (i := 24) rfl)
theorem cd_190_43 : mt_cd 190 43 = some (.goto 7) := mt_cd_of (q := (43, .goto 7, 3)) mq_190 ci_190 (List.mem_of_getElem? (i := 25) rfl)
theorem cd_190_46 : mt_cd 190 46 = some (.aload_n 0) := mt_cd_of (q := (46, .aload_n 0, 1)) mq_190 ci_190 (List.mem_of_getElem? (i := 26) rfl)
theorem cd_190_47 : mt_cd 190 47 = some (.getfield 539) := mt_cd_of (q := (47, .getfield 539, 3)) mq_190 ci_190 (List.mem_of_getElem? (i := 27) rfl)
theorem cd_190_50 : mt_cd 190 50 = some (.iconst 1) := mt_cd_of (q := (50, .iconst 1, 1)) mq_190 ci_190 (List.mem_of_getElem? (i := 28) rfl)
theorem cd_190_51 : mt_cd 190 51 = some (.isub) := mt_cd_of (q := (51, .isub, 1)) mq_190 ci_190 (List.mem_of_getElem? (i := 29) rfl)
theorem cd_190_52 : mt_cd 190 52 = some (.i2l) := mt_cd_of (q := (52, .i2l, 1)) mq_190 ci_190 (List.mem_of_getElem? (i := 30) rfl)
theorem cd_190_53 : mt_cd 190 53 = some (.invokestatic 268) := mt_cd_of (q := (53, .invokestatic 268, 3)) mq_190 ci_190 (List.mem_of_getElem? (i := 31) rfl)
theorem cd_190_56 : mt_cd 190 56 = some (.ifCond .ne 7) := mt_cd_of (q := (56, .ifCond .ne 7, 3)) mq_190 ci_190 (List.mem_of_getElem? (i := 32) rfl)
theorem cd_190_59 : mt_cd 190 59 = some (.iconst 1) := mt_cd_of (q := (59, .iconst 1, 1)) mq_190 ci_190 (List.mem_of_getElem? (i := 33) rfl)
theorem cd_190_60 : mt_cd 190 60 = some (.goto 4) := mt_cd_of (q := (60, .goto 4, 3)) mq_190 ci_190 (List.mem_of_getElem? (i := 34) rfl)
theorem cd_190_63 : mt_cd 190 63 = some (.iconst 0) := mt_cd_of (q := (63, .iconst 0, 1)) mq_190 ci_190 (List.mem_of_getElem? (i := 35) rfl)
theorem cd_190_64 : mt_cd 190 64 = some (.iconst 2) := mt_cd_of (q := (64, .iconst 2, 1)) mq_190 ci_190 (List.mem_of_getElem? (i := 36) rfl)
theorem cd_190_65 : mt_cd 190 65 = some (.invokevirtual 254) := mt_cd_of (q := (65, .invokevirtual 254, 3)) mq_190 ci_190 (List.mem_of_getElem? (i := 37) rfl)
theorem cd_190_68 : mt_cd 190 68 = some (.ifCond .eq 5) := mt_cd_of (q := (68, .ifCond .eq 5, 3)) mq_190 ci_190 (List.mem_of_getElem? (i := 38) rfl)
theorem cd_190_71 : mt_cd 190 71 = some (.iconst 0) := mt_cd_of (q := (71, .iconst 0, 1)) mq_190 ci_190 (List.mem_of_getElem? (i := 39) rfl)
theorem cd_190_72 : mt_cd 190 72 = some (.ireturn) := mt_cd_of (q := (72, .ireturn, 1)) mq_190 ci_190 (List.mem_of_getElem? (i := 40) rfl)
theorem cd_190_73 : mt_cd 190 73 = some (.iload_n 1) := mt_cd_of (q := (73, .iload_n 1, 1)) mq_190 ci_190 (List.mem_of_getElem? (i := 41) rfl)
theorem cd_190_74 : mt_cd 190 74 = some (.ifCond .ne 12) := mt_cd_of (q := (74, .ifCond .ne 12, 3)) mq_190 ci_190 (List.mem_of_getElem? (i := 42) rfl)
theorem cd_190_77 : mt_cd 190 77 = some (.aload_n 0) := mt_cd_of (q := (77, .aload_n 0, 1)) mq_190 ci_190 (List.mem_of_getElem? (i := 43) rfl)
theorem cd_190_78 : mt_cd 190 78 = some (.getfield 193) := mt_cd_of (q := (78, .getfield 193, 3)) mq_190 ci_190 (List.mem_of_getElem? (i := 44) rfl)
theorem cd_190_81 : mt_cd 190 81 = some (.iload_n 2) := mt_cd_of (q := (81, .iload_n 2, 1)) mq_190 ci_190 (List.mem_of_getElem? (i := 45) rfl)
theorem cd_190_82 : mt_cd 190 82 = some (.iaload) := mt_cd_of (q := (82, .iaload, 1)) mq_190 ci_190 (List.mem_of_getElem? (i := 46) rfl)
theorem cd_190_83 : mt_cd 190 83 = some (.goto 51) := mt_cd_of (q := (83, .goto 51, 3)) mq_190 ci_190 (List.mem_of_getElem? (i := 47) rfl)
theorem cd_190_86 : mt_cd 190 86 = some (.iload_n 1) := mt_cd_of (q := (86, .iload_n 1, 1)) mq_190 ci_190 (List.mem_of_getElem? (i := 48) rfl)
theorem cd_190_87 : mt_cd 190 87 = some (.iconst 1) := mt_cd_of (q := (87, .iconst 1, 1)) mq_190 ci_190 (List.mem_of_getElem? (i := 49) rfl)
theorem cd_190_88 : mt_cd 190 88 = some (.if_icmp .ne 12) := mt_cd_of (q := (88, .if_icmp .ne 12, 3)) mq_190 ci_190 (List.mem_of_getElem? (i := 50) rfl)
theorem cd_190_91 : mt_cd 190 91 = some (.aload_n 0) := mt_cd_of (q := (91, .aload_n 0, 1)) mq_190 ci_190 (List.mem_of_getElem? (i := 51) rfl)
theorem cd_190_92 : mt_cd 190 92 = some (.getfield 196) := mt_cd_of (q := (92, .getfield 196, 3)) mq_190 ci_190 (List.mem_of_getElem? (i := 52) rfl)
theorem cd_190_95 : mt_cd 190 95 = some (.iload_n 2) := mt_cd_of (q := (95, .iload_n 2, 1)) mq_190 ci_190 (List.mem_of_getElem? (i := 53) rfl)
theorem cd_190_96 : mt_cd 190 96 = some (.iaload) := mt_cd_of (q := (96, .iaload, 1)) mq_190 ci_190 (List.mem_of_getElem? (i := 54) rfl)
theorem cd_190_97 : mt_cd 190 97 = some (.goto 37) := mt_cd_of (q := (97, .goto 37, 3)) mq_190 ci_190 (List.mem_of_getElem? (i := 55) rfl)
theorem cd_190_100 : mt_cd 190 100 = some (.iload_n 1) := mt_cd_of (q := (100, .iload_n 1, 1)) mq_190 ci_190 (List.mem_of_getElem? (i := 56) rfl)
theorem cd_190_101 : mt_cd 190 101 = some (.iconst 2) := mt_cd_of (q := (101, .iconst 2, 1)) mq_190 ci_190 (List.mem_of_getElem? (i := 57) rfl)
theorem cd_190_102 : mt_cd 190 102 = some (.if_icmp .ne 12) := mt_cd_of (q := (102, .if_icmp .ne 12, 3)) mq_190 ci_190 (List.mem_of_getElem? (i := 58) rfl)
theorem cd_190_105 : mt_cd 190 105 = some (.aload_n 0) := mt_cd_of (q := (105, .aload_n 0, 1)) mq_190 ci_190 (List.mem_of_getElem? (i := 59) rfl)
theorem cd_190_106 : mt_cd 190 106 = some (.getfield 199) := mt_cd_of (q := (106, .getfield 199, 3)) mq_190 ci_190 (List.mem_of_getElem? (i := 60) rfl)
theorem cd_190_109 : mt_cd 190 109 = some (.iload_n 2) := mt_cd_of (q := (109, .iload_n 2, 1)) mq_190 ci_190 (List.mem_of_getElem? (i := 61) rfl)
theorem cd_190_110 : mt_cd 190 110 = some (.iaload) := mt_cd_of (q := (110, .iaload, 1)) mq_190 ci_190 (List.mem_of_getElem? (i := 62) rfl)
theorem cd_190_111 : mt_cd 190 111 = some (.goto 23) := mt_cd_of (q := (111, .goto 23, 3)) mq_190 ci_190 (List.mem_of_getElem? (i := 63) rfl)
theorem cd_190_114 : mt_cd 190 114 = some (.iload_n 1) := mt_cd_of (q := (114, .iload_n 1, 1)) mq_190 ci_190 (List.mem_of_getElem? (i := 64) rfl)
theorem cd_190_115 : mt_cd 190 115 = some (.iconst 3) := mt_cd_of (q := (115, .iconst 3, 1)) mq_190 ci_190 (List.mem_of_getElem? (i := 65) rfl)
theorem cd_190_116 : mt_cd 190 116 = some (.if_icmp .ne 12) := mt_cd_of (q := (116, .if_icmp .ne 12, 3)) mq_190 ci_190 (List.mem_of_getElem? (i := 66) rfl)
theorem cd_190_119 : mt_cd 190 119 = some (.aload_n 0) := mt_cd_of (q := (119, .aload_n 0, 1)) mq_190 ci_190 (List.mem_of_getElem? (i := 67) rfl)
theorem cd_190_120 : mt_cd 190 120 = some (.getfield 202) := mt_cd_of (q := (120, .getfield 202, 3)) mq_190 ci_190 (List.mem_of_getElem? (i := 68) rfl)
theorem cd_190_123 : mt_cd 190 123 = some (.iload_n 2) := mt_cd_of (q := (123, .iload_n 2, 1)) mq_190 ci_190 (List.mem_of_getElem? (i := 69) rfl)
theorem cd_190_124 : mt_cd 190 124 = some (.iaload) := mt_cd_of (q := (124, .iaload, 1)) mq_190 ci_190 (List.mem_of_getElem? (i := 70) rfl)
theorem cd_190_125 : mt_cd 190 125 = some (.goto 9) := mt_cd_of (q := (125, .goto 9, 3)) mq_190 ci_190 (List.mem_of_getElem? (i := 71) rfl)
theorem cd_190_128 : mt_cd 190 128 = some (.aload_n 0) := mt_cd_of (q := (128, .aload_n 0, 1)) mq_190 ci_190 (List.mem_of_getElem? (i := 72) rfl)
theorem cd_190_129 : mt_cd 190 129 = some (.getfield 205) := mt_cd_of (q := (129, .getfield 205, 3)) mq_190 ci_190 (List.mem_of_getElem? (i := 73) rfl)
theorem cd_190_132 : mt_cd 190 132 = some (.iload_n 2) := mt_cd_of (q := (132, .iload_n 2, 1)) mq_190 ci_190 (List.mem_of_getElem? (i := 74) rfl)
theorem cd_190_133 : mt_cd 190 133 = some (.iaload) := mt_cd_of (q := (133, .iaload, 1)) mq_190 ci_190 (List.mem_of_getElem? (i := 75) rfl)
theorem cd_190_134 : mt_cd 190 134 = some (.ireturn) := mt_cd_of (q := (134, .ireturn, 1)) mq_190 ci_190 (List.mem_of_getElem? (i := 76) rfl)
theorem b_190_0 {d : Nat} {Q : (Option Value ⊕ Nat) → mi_H → Prop} (n sl : Nat) (f : Nat → mi_C) {l1 : Nat} {l2 : Int32} {l3 : Int32} {fs4 : List Value} (h5 : f l1 = .inr (12, fs4)) (h6 : l1 < n) (h7 : 0 < fs4.length) (h8 : mi_W d 141 0 (mi_en 6 [.long ((l2 : Int32).toInt64), .long 0, .long 4]) [] (n, sl, (va_up f l1 (.inr (12, fs4.set 0 (.int 0))))) (mi_Kc d 190 12 [some (.ref l1), some (.int l2), some (.int l3)] [.ref l1] Q)) : mi_W (d + 1) 190 0 [some (.ref l1), some (.int l2), some (.int l3)] [] (n, sl, f) Q := by
  refine w_aload_n cd_190_0 rfl ?_
  refine w_iconst (v := 0) cd_190_1 (by decide) ?_
  refine w_putfield (w := .int 0) cd_190_2 (show mt_f 12 248 = some (12, 0) by decide +kernel) h5 h6 ⟨h7, rfl, Or.inl (by decide)⟩ ?_
  refine w_aload_n cd_190_5 rfl ?_
  refine w_iload_n cd_190_6 rfl ?_
  refine w_i2l cd_190_7 ?_
  refine w_lconst (lv := 0) cd_190_8 (by decide) ?_
  refine w_ldc2_w (lv := 4) cd_190_9 (by decide +kernel) ?_
  exact w_invokestatic cd_190_12 (show mt_m 12 268 = some (141, 4) by decide +kernel) (by decide) (rest := [.ref l1]) rfl (as := [.long ((l2 : Int32).toInt64), .long 0, .long 4]) rfl ⟨Nat.le_of_ble_eq_true rfl, Nat.le_of_ble_eq_true rfl, Nat.le_of_ble_eq_true rfl⟩ h8
theorem b_190_15 {d : Nat} {Q : (Option Value ⊕ Nat) → mi_H → Prop} (n sl : Nat) (f : Nat → mi_C) {l1 : Nat} {l2 : Int32} {l3 : Int32} {s4 : Int32} {s5 : Nat} (h6 : ¬ s4 = (0 : Int32) → mi_W d 190 22 [some (.ref l1), some (.int l2), some (.int l3)] [.ref s5] (n, sl, f) Q) (h7 : ¬ (¬ s4 = (0 : Int32)) → mi_W d 190 18 [some (.ref l1), some (.int l2), some (.int l3)] [.ref s5] (n, sl, f) Q) : mi_W d 190 15 [some (.ref l1), some (.int l2), some (.int l3)] [.int s4, .ref s5] (n, sl, f) Q := by
  exact w_ifne cd_190_15 (by decide) h6 h7
theorem b_190_18 {d : Nat} {Q : (Option Value ⊕ Nat) → mi_H → Prop} (n sl : Nat) (f : Nat → mi_C) {l1 : Nat} {l2 : Int32} {l3 : Int32} {s4 : Nat} (h5 : mi_W d 190 23 [some (.ref l1), some (.int l2), some (.int l3)] [.int 1, .ref s4] (n, sl, f) Q) : mi_W d 190 18 [some (.ref l1), some (.int l2), some (.int l3)] [.ref s4] (n, sl, f) Q := by
  refine w_iconst (v := 1) cd_190_18 (by decide) ?_
  exact w_goto cd_190_19 (by decide) h5
theorem b_190_22 {d : Nat} {Q : (Option Value ⊕ Nat) → mi_H → Prop} (n sl : Nat) (f : Nat → mi_C) {l1 : Nat} {l2 : Int32} {l3 : Int32} {s4 : Nat} (h5 : mi_W d 190 23 [some (.ref l1), some (.int l2), some (.int l3)] [.int 0, .ref s4] (n, sl, f) Q) : mi_W d 190 22 [some (.ref l1), some (.int l2), some (.int l3)] [.ref s4] (n, sl, f) Q := by
  refine w_iconst (v := 0) cd_190_22 (by decide) ?_
  exact h5
theorem b_190_23 {d : Nat} {Q : (Option Value ⊕ Nat) → mi_H → Prop} (n sl : Nat) (f : Nat → mi_C) {l1 : Nat} {l2 : Int32} {l3 : Int32} {s4 : Int32} {s5 : Nat} {fs6 : List Value} (h7 : f s5 = .inr (12, fs6)) (h8 : s5 < n) (h9 : mi_W d 139 0 (mi_en 3 [.ref s5, .int s4, .int 1]) [] (n, sl, f) (mi_Kc d 190 24 [some (.ref l1), some (.int l2), some (.int l3)] [] Q)) : mi_W (d + 1) 190 23 [some (.ref l1), some (.int l2), some (.int l3)] [.int s4, .ref s5] (n, sl, f) Q := by
  refine w_iconst (v := 1) cd_190_23 (by decide) ?_
  exact w_invokevirtual cd_190_24 (show mt_m 12 254 = some (139, 0) by decide +kernel) (rest := []) rfl (as := [.ref s5, .int s4, .int 1]) rfl h7 (Or.inl h8) ⟨Nat.le_of_ble_eq_true rfl, Nat.le_of_ble_eq_true rfl, Nat.le_of_ble_eq_true rfl⟩ h9
theorem b_190_27 {d : Nat} {Q : (Option Value ⊕ Nat) → mi_H → Prop} (n sl : Nat) (f : Nat → mi_C) {l1 : Nat} {l2 : Int32} {l3 : Int32} {s4 : Int32} (h5 : ¬ s4 = (0 : Int32) → mi_W d 190 71 [some (.ref l1), some (.int l2), some (.int l3)] [] (n, sl, f) Q) (h6 : ¬ (¬ s4 = (0 : Int32)) → mi_W d 190 30 [some (.ref l1), some (.int l2), some (.int l3)] [] (n, sl, f) Q) : mi_W d 190 27 [some (.ref l1), some (.int l2), some (.int l3)] [.int s4] (n, sl, f) Q := by
  exact w_ifne cd_190_27 (by decide) h5 h6
theorem b_190_30 {d : Nat} {Q : (Option Value ⊕ Nat) → mi_H → Prop} (n sl : Nat) (f : Nat → mi_C) {l1 : Nat} {l2 : Int32} {l3 : Int32} (h4 : 2 ≤ l2 → mi_W d 190 46 [some (.ref l1), some (.int l2), some (.int l3)] [.long 0, .long ((l3 : Int32).toInt64), .ref l1] (n, sl, f) Q) (h5 : ¬ (2 ≤ l2) → mi_W d 190 39 [some (.ref l1), some (.int l2), some (.int l3)] [.long 0, .long ((l3 : Int32).toInt64), .ref l1] (n, sl, f) Q) : mi_W d 190 30 [some (.ref l1), some (.int l2), some (.int l3)] [] (n, sl, f) Q := by
  refine w_aload_n cd_190_30 rfl ?_
  refine w_iload_n cd_190_31 rfl ?_
  refine w_i2l cd_190_32 ?_
  refine w_lconst (lv := 0) cd_190_33 (by decide) ?_
  refine w_iload_n cd_190_34 rfl ?_
  refine w_iconst (v := 2) cd_190_35 (by decide) ?_
  exact w_if_icmpge cd_190_36 (by decide) h4 h5
theorem b_190_39 {d : Nat} {Q : (Option Value ⊕ Nat) → mi_H → Prop} (n sl : Nat) (f : Nat → mi_C) {l1 : Nat} {l2 : Int32} {l3 : Int32} {s4 : Int64} {s5 : Int64} {s6 : Nat} {fs7 : List Value} {x10 : Int32} (h8 : f l1 = .inr (12, fs7)) (h9 : l1 < n) (h11 : fs7[65]? = some (.int x10)) (h12 : mi_W d 190 50 [some (.ref l1), some (.int l2), some (.int l3)] [.int x10, .long s4, .long s5, .ref s6] (n, sl, f) Q) : mi_W d 190 39 [some (.ref l1), some (.int l2), some (.int l3)] [.long s4, .long s5, .ref s6] (n, sl, f) Q := by
  refine w_aload_n cd_190_39 rfl ?_
  refine w_getfield cd_190_40 (show mt_f 12 536 = some (12, 65) by decide +kernel) h8 h9 h11 ?_
  exact w_goto cd_190_43 (by decide) h12
theorem b_190_46 {d : Nat} {Q : (Option Value ⊕ Nat) → mi_H → Prop} (n sl : Nat) (f : Nat → mi_C) {l1 : Nat} {l2 : Int32} {l3 : Int32} {s4 : Int64} {s5 : Int64} {s6 : Nat} {fs7 : List Value} {x10 : Int32} (h8 : f l1 = .inr (12, fs7)) (h9 : l1 < n) (h11 : fs7[66]? = some (.int x10)) (h12 : mi_W d 190 50 [some (.ref l1), some (.int l2), some (.int l3)] [.int x10, .long s4, .long s5, .ref s6] (n, sl, f) Q) : mi_W d 190 46 [some (.ref l1), some (.int l2), some (.int l3)] [.long s4, .long s5, .ref s6] (n, sl, f) Q := by
  refine w_aload_n cd_190_46 rfl ?_
  refine w_getfield cd_190_47 (show mt_f 12 539 = some (12, 66) by decide +kernel) h8 h9 h11 ?_
  exact h12
theorem b_190_50 {d : Nat} {Q : (Option Value ⊕ Nat) → mi_H → Prop} (n sl : Nat) (f : Nat → mi_C) {l1 : Nat} {l2 : Int32} {l3 : Int32} {s4 : Int32} {s5 : Int64} {s6 : Int64} {s7 : Nat} (h8 : mi_W d 141 0 (mi_en 6 [.long s6, .long s5, .long (((s4 - 1) : Int32).toInt64)]) [] (n, sl, f) (mi_Kc d 190 53 [some (.ref l1), some (.int l2), some (.int l3)] [.ref s7] Q)) : mi_W (d + 1) 190 50 [some (.ref l1), some (.int l2), some (.int l3)] [.int s4, .long s5, .long s6, .ref s7] (n, sl, f) Q := by
  refine w_iconst (v := 1) cd_190_50 (by decide) ?_
  refine w_isub cd_190_51 ?_
  refine w_i2l cd_190_52 ?_
  exact w_invokestatic cd_190_53 (show mt_m 12 268 = some (141, 4) by decide +kernel) (by decide) (rest := [.ref s7]) rfl (as := [.long s6, .long s5, .long (((s4 - 1) : Int32).toInt64)]) rfl ⟨Nat.le_of_ble_eq_true rfl, Nat.le_of_ble_eq_true rfl, Nat.le_of_ble_eq_true rfl⟩ h8
theorem b_190_56 {d : Nat} {Q : (Option Value ⊕ Nat) → mi_H → Prop} (n sl : Nat) (f : Nat → mi_C) {l1 : Nat} {l2 : Int32} {l3 : Int32} {s4 : Int32} {s5 : Nat} (h6 : ¬ s4 = (0 : Int32) → mi_W d 190 63 [some (.ref l1), some (.int l2), some (.int l3)] [.ref s5] (n, sl, f) Q) (h7 : ¬ (¬ s4 = (0 : Int32)) → mi_W d 190 59 [some (.ref l1), some (.int l2), some (.int l3)] [.ref s5] (n, sl, f) Q) : mi_W d 190 56 [some (.ref l1), some (.int l2), some (.int l3)] [.int s4, .ref s5] (n, sl, f) Q := by
  exact w_ifne cd_190_56 (by decide) h6 h7
theorem b_190_59 {d : Nat} {Q : (Option Value ⊕ Nat) → mi_H → Prop} (n sl : Nat) (f : Nat → mi_C) {l1 : Nat} {l2 : Int32} {l3 : Int32} {s4 : Nat} (h5 : mi_W d 190 64 [some (.ref l1), some (.int l2), some (.int l3)] [.int 1, .ref s4] (n, sl, f) Q) : mi_W d 190 59 [some (.ref l1), some (.int l2), some (.int l3)] [.ref s4] (n, sl, f) Q := by
  refine w_iconst (v := 1) cd_190_59 (by decide) ?_
  exact w_goto cd_190_60 (by decide) h5
theorem b_190_63 {d : Nat} {Q : (Option Value ⊕ Nat) → mi_H → Prop} (n sl : Nat) (f : Nat → mi_C) {l1 : Nat} {l2 : Int32} {l3 : Int32} {s4 : Nat} (h5 : mi_W d 190 64 [some (.ref l1), some (.int l2), some (.int l3)] [.int 0, .ref s4] (n, sl, f) Q) : mi_W d 190 63 [some (.ref l1), some (.int l2), some (.int l3)] [.ref s4] (n, sl, f) Q := by
  refine w_iconst (v := 0) cd_190_63 (by decide) ?_
  exact h5
theorem b_190_64 {d : Nat} {Q : (Option Value ⊕ Nat) → mi_H → Prop} (n sl : Nat) (f : Nat → mi_C) {l1 : Nat} {l2 : Int32} {l3 : Int32} {s4 : Int32} {s5 : Nat} {fs6 : List Value} (h7 : f s5 = .inr (12, fs6)) (h8 : s5 < n) (h9 : mi_W d 139 0 (mi_en 3 [.ref s5, .int s4, .int 2]) [] (n, sl, f) (mi_Kc d 190 65 [some (.ref l1), some (.int l2), some (.int l3)] [] Q)) : mi_W (d + 1) 190 64 [some (.ref l1), some (.int l2), some (.int l3)] [.int s4, .ref s5] (n, sl, f) Q := by
  refine w_iconst (v := 2) cd_190_64 (by decide) ?_
  exact w_invokevirtual cd_190_65 (show mt_m 12 254 = some (139, 0) by decide +kernel) (rest := []) rfl (as := [.ref s5, .int s4, .int 2]) rfl h7 (Or.inl h8) ⟨Nat.le_of_ble_eq_true rfl, Nat.le_of_ble_eq_true rfl, Nat.le_of_ble_eq_true rfl⟩ h9
theorem b_190_68 {d : Nat} {Q : (Option Value ⊕ Nat) → mi_H → Prop} (n sl : Nat) (f : Nat → mi_C) {l1 : Nat} {l2 : Int32} {l3 : Int32} {s4 : Int32} (h5 : s4 = (0 : Int32) → mi_W d 190 73 [some (.ref l1), some (.int l2), some (.int l3)] [] (n, sl, f) Q) (h6 : ¬ (s4 = (0 : Int32)) → mi_W d 190 71 [some (.ref l1), some (.int l2), some (.int l3)] [] (n, sl, f) Q) : mi_W d 190 68 [some (.ref l1), some (.int l2), some (.int l3)] [.int s4] (n, sl, f) Q := by
  exact w_ifeq cd_190_68 (by decide) h5 h6
theorem b_190_71 {d : Nat} {Q : (Option Value ⊕ Nat) → mi_H → Prop} (n sl : Nat) (f : Nat → mi_C) {l1 : Nat} {l2 : Int32} {l3 : Int32} (h4 : Q (.inl (some (.int 0))) (n, sl, f)) : mi_W d 190 71 [some (.ref l1), some (.int l2), some (.int l3)] [] (n, sl, f) Q := by
  refine w_iconst (v := 0) cd_190_71 (by decide) ?_
  exact w_ireturn_i cd_190_72 (by decide +kernel) h4
theorem b_190_73 {d : Nat} {Q : (Option Value ⊕ Nat) → mi_H → Prop} (n sl : Nat) (f : Nat → mi_C) {l1 : Nat} {l2 : Int32} {l3 : Int32} (h4 : ¬ l2 = (0 : Int32) → mi_W d 190 86 [some (.ref l1), some (.int l2), some (.int l3)] [] (n, sl, f) Q) (h5 : ¬ (¬ l2 = (0 : Int32)) → mi_W d 190 77 [some (.ref l1), some (.int l2), some (.int l3)] [] (n, sl, f) Q) : mi_W d 190 73 [some (.ref l1), some (.int l2), some (.int l3)] [] (n, sl, f) Q := by
  refine w_iload_n cd_190_73 rfl ?_
  exact w_ifne cd_190_74 (by decide) h4 h5
theorem b_190_77 {d : Nat} {Q : (Option Value ⊕ Nat) → mi_H → Prop} (n sl : Nat) (f : Nat → mi_C) {l1 : Nat} {l2 : Int32} {l3 : Int32} {fs4 : List Value} {x7 : Nat} (m9 i9 : Nat) (g9 : Nat → Int32) (h5 : f l1 = .inr (12, fs4)) (h6 : l1 < n) (h8 : fs4[67]? = some (.ref x7)) (h10 : f x7 = .inl (0, m9, .inl g9)) (h11 : x7 < n ∨ x7 = mi_SC) (h12 : mi_ix l3 m9 i9) (h13 : mi_W d 190 134 [some (.ref l1), some (.int l2), some (.int l3)] [.int (g9 i9)] (n, sl, f) Q) : mi_W d 190 77 [some (.ref l1), some (.int l2), some (.int l3)] [] (n, sl, f) Q := by
  refine w_aload_n cd_190_77 rfl ?_
  refine w_getfield cd_190_78 (show mt_f 12 193 = some (12, 67) by decide +kernel) h5 h6 h8 ?_
  refine w_iload_n cd_190_81 rfl ?_
  refine w_iaload cd_190_82 h10 h11 h12 ?_
  exact w_goto cd_190_83 (by decide) h13
theorem b_190_86 {d : Nat} {Q : (Option Value ⊕ Nat) → mi_H → Prop} (n sl : Nat) (f : Nat → mi_C) {l1 : Nat} {l2 : Int32} {l3 : Int32} (h4 : ¬ l2 = 1 → mi_W d 190 100 [some (.ref l1), some (.int l2), some (.int l3)] [] (n, sl, f) Q) (h5 : ¬ (¬ l2 = 1) → mi_W d 190 91 [some (.ref l1), some (.int l2), some (.int l3)] [] (n, sl, f) Q) : mi_W d 190 86 [some (.ref l1), some (.int l2), some (.int l3)] [] (n, sl, f) Q := by
  refine w_iload_n cd_190_86 rfl ?_
  refine w_iconst (v := 1) cd_190_87 (by decide) ?_
  exact w_if_icmpne cd_190_88 (by decide) h4 h5
theorem b_190_91 {d : Nat} {Q : (Option Value ⊕ Nat) → mi_H → Prop} (n sl : Nat) (f : Nat → mi_C) {l1 : Nat} {l2 : Int32} {l3 : Int32} {fs4 : List Value} {x7 : Nat} (m9 i9 : Nat) (g9 : Nat → Int32) (h5 : f l1 = .inr (12, fs4)) (h6 : l1 < n) (h8 : fs4[68]? = some (.ref x7)) (h10 : f x7 = .inl (0, m9, .inl g9)) (h11 : x7 < n ∨ x7 = mi_SC) (h12 : mi_ix l3 m9 i9) (h13 : mi_W d 190 134 [some (.ref l1), some (.int l2), some (.int l3)] [.int (g9 i9)] (n, sl, f) Q) : mi_W d 190 91 [some (.ref l1), some (.int l2), some (.int l3)] [] (n, sl, f) Q := by
  refine w_aload_n cd_190_91 rfl ?_
  refine w_getfield cd_190_92 (show mt_f 12 196 = some (12, 68) by decide +kernel) h5 h6 h8 ?_
  refine w_iload_n cd_190_95 rfl ?_
  refine w_iaload cd_190_96 h10 h11 h12 ?_
  exact w_goto cd_190_97 (by decide) h13
theorem b_190_100 {d : Nat} {Q : (Option Value ⊕ Nat) → mi_H → Prop} (n sl : Nat) (f : Nat → mi_C) {l1 : Nat} {l2 : Int32} {l3 : Int32} (h4 : ¬ l2 = 2 → mi_W d 190 114 [some (.ref l1), some (.int l2), some (.int l3)] [] (n, sl, f) Q) (h5 : ¬ (¬ l2 = 2) → mi_W d 190 105 [some (.ref l1), some (.int l2), some (.int l3)] [] (n, sl, f) Q) : mi_W d 190 100 [some (.ref l1), some (.int l2), some (.int l3)] [] (n, sl, f) Q := by
  refine w_iload_n cd_190_100 rfl ?_
  refine w_iconst (v := 2) cd_190_101 (by decide) ?_
  exact w_if_icmpne cd_190_102 (by decide) h4 h5
theorem b_190_105 {d : Nat} {Q : (Option Value ⊕ Nat) → mi_H → Prop} (n sl : Nat) (f : Nat → mi_C) {l1 : Nat} {l2 : Int32} {l3 : Int32} {fs4 : List Value} {x7 : Nat} (m9 i9 : Nat) (g9 : Nat → Int32) (h5 : f l1 = .inr (12, fs4)) (h6 : l1 < n) (h8 : fs4[69]? = some (.ref x7)) (h10 : f x7 = .inl (0, m9, .inl g9)) (h11 : x7 < n ∨ x7 = mi_SC) (h12 : mi_ix l3 m9 i9) (h13 : mi_W d 190 134 [some (.ref l1), some (.int l2), some (.int l3)] [.int (g9 i9)] (n, sl, f) Q) : mi_W d 190 105 [some (.ref l1), some (.int l2), some (.int l3)] [] (n, sl, f) Q := by
  refine w_aload_n cd_190_105 rfl ?_
  refine w_getfield cd_190_106 (show mt_f 12 199 = some (12, 69) by decide +kernel) h5 h6 h8 ?_
  refine w_iload_n cd_190_109 rfl ?_
  refine w_iaload cd_190_110 h10 h11 h12 ?_
  exact w_goto cd_190_111 (by decide) h13
theorem b_190_114 {d : Nat} {Q : (Option Value ⊕ Nat) → mi_H → Prop} (n sl : Nat) (f : Nat → mi_C) {l1 : Nat} {l2 : Int32} {l3 : Int32} (h4 : ¬ l2 = 3 → mi_W d 190 128 [some (.ref l1), some (.int l2), some (.int l3)] [] (n, sl, f) Q) (h5 : ¬ (¬ l2 = 3) → mi_W d 190 119 [some (.ref l1), some (.int l2), some (.int l3)] [] (n, sl, f) Q) : mi_W d 190 114 [some (.ref l1), some (.int l2), some (.int l3)] [] (n, sl, f) Q := by
  refine w_iload_n cd_190_114 rfl ?_
  refine w_iconst (v := 3) cd_190_115 (by decide) ?_
  exact w_if_icmpne cd_190_116 (by decide) h4 h5
theorem b_190_119 {d : Nat} {Q : (Option Value ⊕ Nat) → mi_H → Prop} (n sl : Nat) (f : Nat → mi_C) {l1 : Nat} {l2 : Int32} {l3 : Int32} {fs4 : List Value} {x7 : Nat} (m9 i9 : Nat) (g9 : Nat → Int32) (h5 : f l1 = .inr (12, fs4)) (h6 : l1 < n) (h8 : fs4[70]? = some (.ref x7)) (h10 : f x7 = .inl (0, m9, .inl g9)) (h11 : x7 < n ∨ x7 = mi_SC) (h12 : mi_ix l3 m9 i9) (h13 : mi_W d 190 134 [some (.ref l1), some (.int l2), some (.int l3)] [.int (g9 i9)] (n, sl, f) Q) : mi_W d 190 119 [some (.ref l1), some (.int l2), some (.int l3)] [] (n, sl, f) Q := by
  refine w_aload_n cd_190_119 rfl ?_
  refine w_getfield cd_190_120 (show mt_f 12 202 = some (12, 70) by decide +kernel) h5 h6 h8 ?_
  refine w_iload_n cd_190_123 rfl ?_
  refine w_iaload cd_190_124 h10 h11 h12 ?_
  exact w_goto cd_190_125 (by decide) h13
theorem b_190_128 {d : Nat} {Q : (Option Value ⊕ Nat) → mi_H → Prop} (n sl : Nat) (f : Nat → mi_C) {l1 : Nat} {l2 : Int32} {l3 : Int32} {fs4 : List Value} {x7 : Nat} (m9 i9 : Nat) (g9 : Nat → Int32) (h5 : f l1 = .inr (12, fs4)) (h6 : l1 < n) (h8 : fs4[71]? = some (.ref x7)) (h10 : f x7 = .inl (0, m9, .inl g9)) (h11 : x7 < n ∨ x7 = mi_SC) (h12 : mi_ix l3 m9 i9) (h13 : mi_W d 190 134 [some (.ref l1), some (.int l2), some (.int l3)] [.int (g9 i9)] (n, sl, f) Q) : mi_W d 190 128 [some (.ref l1), some (.int l2), some (.int l3)] [] (n, sl, f) Q := by
  refine w_aload_n cd_190_128 rfl ?_
  refine w_getfield cd_190_129 (show mt_f 12 205 = some (12, 71) by decide +kernel) h5 h6 h8 ?_
  refine w_iload_n cd_190_132 rfl ?_
  refine w_iaload cd_190_133 h10 h11 h12 ?_
  exact h13
theorem b_190_134 {d : Nat} {Q : (Option Value ⊕ Nat) → mi_H → Prop} (n sl : Nat) (f : Nat → mi_C) {l1 : Nat} {l2 : Int32} {l3 : Int32} {s4 : Int32} (h5 : Q (.inl (some (.int s4))) (n, sl, f)) : mi_W d 190 134 [some (.ref l1), some (.int l2), some (.int l3)] [.int s4] (n, sl, f) Q := by
  exact w_ireturn_i cd_190_134 (by decide +kernel) h5
/-! MarloweHostModel.paid(I)J -/
set_option maxRecDepth 100000 in
theorem mq_191 : mt_q 191 = my_191 := rfl
set_option maxRecDepth 100000 in
theorem ci_191 : mt_inc 0 my_191.cd = true := by decide +kernel
theorem cd_191_0 : mt_cd 191 0 = some (.aload_n 0) := mt_cd_of (q := (0, .aload_n 0, 1)) mq_191 ci_191 (List.mem_of_getElem? (i := 0) rfl)
theorem cd_191_1 : mt_cd 191 1 = some (.iconst 0) := mt_cd_of (q := (1, .iconst 0, 1)) mq_191 ci_191 (List.mem_of_getElem? (i := 1) rfl)
theorem cd_191_2 : mt_cd 191 2 = some (.putfield 248) := mt_cd_of (q := (2, .putfield 248, 3)) mq_191 ci_191 (List.mem_of_getElem? (i := 2) rfl)
theorem cd_191_5 : mt_cd 191 5 = some (.aload_n 0) := mt_cd_of (q := (5, .aload_n 0, 1)) mq_191 ci_191 (List.mem_of_getElem? (i := 3) rfl)
theorem cd_191_6 : mt_cd 191 6 = some (.iload_n 1) := mt_cd_of (q := (6, .iload_n 1, 1)) mq_191 ci_191 (List.mem_of_getElem? (i := 4) rfl)
theorem cd_191_7 : mt_cd 191 7 = some (.i2l) := mt_cd_of (q := (7, .i2l, 1)) mq_191 ci_191 (List.mem_of_getElem? (i := 5) rfl)
theorem cd_191_8 : mt_cd 191 8 = some (.lconst 0) := mt_cd_of (q := (8, .lconst 0, 1)) mq_191 ci_191 (List.mem_of_getElem? (i := 6) rfl)
theorem cd_191_9 : mt_cd 191 9 = some (.aload_n 0) := mt_cd_of (q := (9, .aload_n 0, 1)) mq_191 ci_191 (List.mem_of_getElem? (i := 7) rfl)
theorem cd_191_10 : mt_cd 191 10 = some (.getfield 539) := mt_cd_of (q := (10, .getfield 539, 3)) mq_191 ci_191 (List.mem_of_getElem? (i := 8) rfl)
theorem cd_191_13 : mt_cd 191 13 = some (.iconst 1) := mt_cd_of (q := (13, .iconst 1, 1)) mq_191 ci_191 (List.mem_of_getElem? (i := 9) rfl)
theorem cd_191_14 : mt_cd 191 14 = some (.isub) := mt_cd_of (q := (14, .isub, 1)) mq_191 ci_191 (List.mem_of_getElem? (i := 10) rfl)
theorem cd_191_15 : mt_cd 191 15 = some (.i2l) := mt_cd_of (q := (15, .i2l, 1)) mq_191 ci_191 (List.mem_of_getElem? (i := 11) rfl)
theorem cd_191_16 : mt_cd 191 16 = some (.invokestatic 268) := mt_cd_of (q := (16, .invokestatic 268, 3)) mq_191 ci_191 (List.mem_of_getElem? (i := 12) rfl)
theorem cd_191_19 : mt_cd 191 19 = some (.ifCond .ne 7) := mt_cd_of (q := (19, .ifCond .ne 7, 3)) mq_191 ci_191 (List.mem_of_getElem? (i := 13) rfl)
theorem cd_191_22 : mt_cd 191 22 = some (.iconst 1) := mt_cd_of (q := (22, .iconst 1, 1)) mq_191 ci_191 (List.mem_of_getElem? (i := 14) rfl)
theorem cd_191_23 : mt_cd 191 23 = some (.goto 4) := mt_cd_of (q := (23, .goto 4, 3)) mq_191 ci_191 (List.mem_of_getElem? (i := 15) rfl)
theorem cd_191_26 : mt_cd 191 26 = some (.iconst 0) := mt_cd_of (q := (26, .iconst 0, 1)) mq_191 ci_191 (List.mem_of_getElem? (i := 16) rfl)
theorem cd_191_27 : mt_cd 191 27 = some (.iconst 1) := mt_cd_of (q := (27, .iconst 1, 1)) mq_191 ci_191 (List.mem_of_getElem? (i := 17) rfl)
theorem cd_191_28 : mt_cd 191 28 = some (.invokevirtual 254) := mt_cd_of (q := (28, .invokevirtual 254, 3)) mq_191 ci_191 (List.mem_of_getElem? (i := 18) rfl)
theorem cd_191_31 : mt_cd 191 31 = some (.ifCond .eq 7) := mt_cd_of (q := (31, .ifCond .eq 7, 3)) mq_191 ci_191 (List.mem_of_getElem? (i := 19) rfl)
theorem cd_191_34 : mt_cd 191 34 = some (.lconst 0) := mt_cd_of (q := (34, .lconst 0, 1)) mq_191 ci_191 (List.mem_of_getElem? (i := 20) rfl)
theorem cd_191_35 : mt_cd 191 35 = some (.goto 9) := mt_cd_of (q := (35, .goto 9, 3)) mq_191 ci_191 (List.mem_of_getElem? (i := 21) rfl)
theorem cd_191_38 : mt_cd 191 38 = some (.aload_n 0) := mt_cd_of (q := (38, .aload_n 0, 1)) mq_191 ci_191 (List.mem_of_getElem? (i := 22) rfl)
theorem cd_191_39 : mt_cd 191 39 = some (.getfield 208) := mt_cd_of (q := (39, .getfield 208, 3)) mq_191 ci_191 (List.mem_of_getElem? (i := 23) rfl)
theorem cd_191_42 : mt_cd 191 42 = some (.iload_n 1) := mt_cd_of (q := (42, .iload_n 1, 1)) mq_191 ci_191 (List.mem_of_getElem? (i := 24) rfl)
theorem cd_191_43 : mt_cd 191 43 = some (.laload) := mt_cd_of (q := (43, .laload, 1)) mq_191 ci_191 (List.mem_of_getElem? (i := 25) rfl)
theorem cd_191_44 : mt_cd 191 44 = some (.lreturn) := mt_cd_of (q := (44, .lreturn, 1)) mq_191 ci_191 (List.mem_of_getElem? (i := 26) rfl)
theorem b_191_0 {d : Nat} {Q : (Option Value ⊕ Nat) → mi_H → Prop} (n sl : Nat) (f : Nat → mi_C) {l1 : Nat} {l2 : Int32} {fs3 : List Value} {fs7 : List Value} {x10 : Int32} (h4 : f l1 = .inr (12, fs3)) (h5 : l1 < n) (h6 : 0 < fs3.length) (h8 : (va_up f l1 (.inr (12, fs3.set 0 (.int 0)))) l1 = .inr (12, fs7)) (h9 : l1 < n) (h11 : fs7[66]? = some (.int x10)) (h12 : mi_W d 141 0 (mi_en 6 [.long ((l2 : Int32).toInt64), .long 0, .long (((x10 - 1) : Int32).toInt64)]) [] (n, sl, (va_up f l1 (.inr (12, fs3.set 0 (.int 0))))) (mi_Kc d 191 16 [some (.ref l1), some (.int l2)] [.ref l1] Q)) : mi_W (d + 1) 191 0 [some (.ref l1), some (.int l2)] [] (n, sl, f) Q := by
  refine w_aload_n cd_191_0 rfl ?_
  refine w_iconst (v := 0) cd_191_1 (by decide) ?_
  refine w_putfield (w := .int 0) cd_191_2 (show mt_f 12 248 = some (12, 0) by decide +kernel) h4 h5 ⟨h6, rfl, Or.inl (by decide)⟩ ?_
  refine w_aload_n cd_191_5 rfl ?_
  refine w_iload_n cd_191_6 rfl ?_
  refine w_i2l cd_191_7 ?_
  refine w_lconst (lv := 0) cd_191_8 (by decide) ?_
  refine w_aload_n cd_191_9 rfl ?_
  refine w_getfield cd_191_10 (show mt_f 12 539 = some (12, 66) by decide +kernel) h8 h9 h11 ?_
  refine w_iconst (v := 1) cd_191_13 (by decide) ?_
  refine w_isub cd_191_14 ?_
  refine w_i2l cd_191_15 ?_
  exact w_invokestatic cd_191_16 (show mt_m 12 268 = some (141, 4) by decide +kernel) (by decide) (rest := [.ref l1]) rfl (as := [.long ((l2 : Int32).toInt64), .long 0, .long (((x10 - 1) : Int32).toInt64)]) rfl ⟨Nat.le_of_ble_eq_true rfl, Nat.le_of_ble_eq_true rfl, Nat.le_of_ble_eq_true rfl⟩ h12
theorem b_191_19 {d : Nat} {Q : (Option Value ⊕ Nat) → mi_H → Prop} (n sl : Nat) (f : Nat → mi_C) {l1 : Nat} {l2 : Int32} {s3 : Int32} {s4 : Nat} (h5 : ¬ s3 = (0 : Int32) → mi_W d 191 26 [some (.ref l1), some (.int l2)] [.ref s4] (n, sl, f) Q) (h6 : ¬ (¬ s3 = (0 : Int32)) → mi_W d 191 22 [some (.ref l1), some (.int l2)] [.ref s4] (n, sl, f) Q) : mi_W d 191 19 [some (.ref l1), some (.int l2)] [.int s3, .ref s4] (n, sl, f) Q := by
  exact w_ifne cd_191_19 (by decide) h5 h6
theorem b_191_22 {d : Nat} {Q : (Option Value ⊕ Nat) → mi_H → Prop} (n sl : Nat) (f : Nat → mi_C) {l1 : Nat} {l2 : Int32} {s3 : Nat} (h4 : mi_W d 191 27 [some (.ref l1), some (.int l2)] [.int 1, .ref s3] (n, sl, f) Q) : mi_W d 191 22 [some (.ref l1), some (.int l2)] [.ref s3] (n, sl, f) Q := by
  refine w_iconst (v := 1) cd_191_22 (by decide) ?_
  exact w_goto cd_191_23 (by decide) h4
theorem b_191_26 {d : Nat} {Q : (Option Value ⊕ Nat) → mi_H → Prop} (n sl : Nat) (f : Nat → mi_C) {l1 : Nat} {l2 : Int32} {s3 : Nat} (h4 : mi_W d 191 27 [some (.ref l1), some (.int l2)] [.int 0, .ref s3] (n, sl, f) Q) : mi_W d 191 26 [some (.ref l1), some (.int l2)] [.ref s3] (n, sl, f) Q := by
  refine w_iconst (v := 0) cd_191_26 (by decide) ?_
  exact h4
theorem b_191_27 {d : Nat} {Q : (Option Value ⊕ Nat) → mi_H → Prop} (n sl : Nat) (f : Nat → mi_C) {l1 : Nat} {l2 : Int32} {s3 : Int32} {s4 : Nat} {fs5 : List Value} (h6 : f s4 = .inr (12, fs5)) (h7 : s4 < n) (h8 : mi_W d 139 0 (mi_en 3 [.ref s4, .int s3, .int 1]) [] (n, sl, f) (mi_Kc d 191 28 [some (.ref l1), some (.int l2)] [] Q)) : mi_W (d + 1) 191 27 [some (.ref l1), some (.int l2)] [.int s3, .ref s4] (n, sl, f) Q := by
  refine w_iconst (v := 1) cd_191_27 (by decide) ?_
  exact w_invokevirtual cd_191_28 (show mt_m 12 254 = some (139, 0) by decide +kernel) (rest := []) rfl (as := [.ref s4, .int s3, .int 1]) rfl h6 (Or.inl h7) ⟨Nat.le_of_ble_eq_true rfl, Nat.le_of_ble_eq_true rfl, Nat.le_of_ble_eq_true rfl⟩ h8
theorem b_191_31 {d : Nat} {Q : (Option Value ⊕ Nat) → mi_H → Prop} (n sl : Nat) (f : Nat → mi_C) {l1 : Nat} {l2 : Int32} {s3 : Int32} (h4 : s3 = (0 : Int32) → mi_W d 191 38 [some (.ref l1), some (.int l2)] [] (n, sl, f) Q) (h5 : ¬ (s3 = (0 : Int32)) → mi_W d 191 34 [some (.ref l1), some (.int l2)] [] (n, sl, f) Q) : mi_W d 191 31 [some (.ref l1), some (.int l2)] [.int s3] (n, sl, f) Q := by
  exact w_ifeq cd_191_31 (by decide) h4 h5
theorem b_191_34 {d : Nat} {Q : (Option Value ⊕ Nat) → mi_H → Prop} (n sl : Nat) (f : Nat → mi_C) {l1 : Nat} {l2 : Int32} (h3 : mi_W d 191 44 [some (.ref l1), some (.int l2)] [.long 0] (n, sl, f) Q) : mi_W d 191 34 [some (.ref l1), some (.int l2)] [] (n, sl, f) Q := by
  refine w_lconst (lv := 0) cd_191_34 (by decide) ?_
  exact w_goto cd_191_35 (by decide) h3
theorem b_191_38 {d : Nat} {Q : (Option Value ⊕ Nat) → mi_H → Prop} (n sl : Nat) (f : Nat → mi_C) {l1 : Nat} {l2 : Int32} {fs3 : List Value} {x6 : Nat} (m8 i8 : Nat) (g8 : Nat → Int64) (h4 : f l1 = .inr (12, fs3)) (h5 : l1 < n) (h7 : fs3[72]? = some (.ref x6)) (h9 : f x6 = .inl (3, m8, .inr (.inl g8))) (h10 : x6 < n) (h11 : mi_ix l2 m8 i8) (h12 : mi_W d 191 44 [some (.ref l1), some (.int l2)] [.long (g8 i8)] (n, sl, f) Q) : mi_W d 191 38 [some (.ref l1), some (.int l2)] [] (n, sl, f) Q := by
  refine w_aload_n cd_191_38 rfl ?_
  refine w_getfield cd_191_39 (show mt_f 12 208 = some (12, 72) by decide +kernel) h4 h5 h7 ?_
  refine w_iload_n cd_191_42 rfl ?_
  refine w_laload cd_191_43 h9 h10 h11 ?_
  exact h12
theorem b_191_44 {d : Nat} {Q : (Option Value ⊕ Nat) → mi_H → Prop} (n sl : Nat) (f : Nat → mi_C) {l1 : Nat} {l2 : Int32} {s3 : Int64} (h4 : Q (.inl (some (.long s3))) (n, sl, f)) : mi_W d 191 44 [some (.ref l1), some (.int l2)] [.long s3] (n, sl, f) Q := by
  exact w_lreturn cd_191_44 (by decide +kernel) h4
/-! MarloweHostModel.state(III)J -/
set_option maxRecDepth 100000 in
theorem mq_192 : mt_q 192 = my_192 := rfl
set_option maxRecDepth 100000 in
theorem ci_192 : mt_inc 0 my_192.cd = true := by decide +kernel
theorem cd_192_0 : mt_cd 192 0 = some (.aload_n 0) := mt_cd_of (q := (0, .aload_n 0, 1)) mq_192 ci_192 (List.mem_of_getElem? (i := 0) rfl)
theorem cd_192_1 : mt_cd 192 1 = some (.iconst 0) := mt_cd_of (q := (1, .iconst 0, 1)) mq_192 ci_192 (List.mem_of_getElem? (i := 1) rfl)
theorem cd_192_2 : mt_cd 192 2 = some (.putfield 248) := mt_cd_of (q := (2, .putfield 248, 3)) mq_192 ci_192 (List.mem_of_getElem? (i := 2) rfl)
theorem cd_192_5 : mt_cd 192 5 = some (.aload_n 0) := mt_cd_of (q := (5, .aload_n 0, 1)) mq_192 ci_192 (List.mem_of_getElem? (i := 3) rfl)
theorem cd_192_6 : mt_cd 192 6 = some (.iload_n 1) := mt_cd_of (q := (6, .iload_n 1, 1)) mq_192 ci_192 (List.mem_of_getElem? (i := 4) rfl)
theorem cd_192_7 : mt_cd 192 7 = some (.i2l) := mt_cd_of (q := (7, .i2l, 1)) mq_192 ci_192 (List.mem_of_getElem? (i := 5) rfl)
theorem cd_192_8 : mt_cd 192 8 = some (.lconst 0) := mt_cd_of (q := (8, .lconst 0, 1)) mq_192 ci_192 (List.mem_of_getElem? (i := 6) rfl)
theorem cd_192_9 : mt_cd 192 9 = some (.ldc2_w 552) := mt_cd_of (q := (9, .ldc2_w 552, 3)) mq_192 ci_192 (List.mem_of_getElem? (i := 7) rfl)
theorem cd_192_12 : mt_cd 192 12 = some (.invokestatic 268) := mt_cd_of (q := (12, .invokestatic 268, 3)) mq_192 ci_192 (List.mem_of_getElem? (i := 8) rfl)
theorem cd_192_15 : mt_cd 192 15 = some (.ifCond .eq 27) := mt_cd_of (q := (15, .ifCond .eq 27, 3)) mq_192 ci_192 (List.mem_of_getElem? (i := 9) rfl)
theorem cd_192_18 : mt_cd 192 18 = some (.iload_n 2) := mt_cd_of (q := (18, .iload_n 2, 1)) mq_192 ci_192 (List.mem_of_getElem? (i := 10) rfl)
theorem cd_192_19 : mt_cd 192 19 = some (.i2l) := mt_cd_of (q := (19, .i2l, 1)) mq_192 ci_192 (List.mem_of_getElem? (i := 11) rfl)
theorem cd_192_20 : mt_cd 192 20 = some (.lconst 0) := mt_cd_of (q := (20, .lconst 0, 1)) mq_192 ci_192 (List.mem_of_getElem? (i := 12) rfl)
theorem cd_192_21 : mt_cd 192 21 = some (.ldc2_w 542) := mt_cd_of (q := (21, .ldc2_w 542, 3)) mq_192 ci_192 (List.mem_of_getElem? (i := 13) rfl)
theorem cd_192_24 : mt_cd 192 24 = some (.invokestatic 268) := mt_cd_of (q := (24, .invokestatic 268, 3)) mq_192 ci_192 (List.mem_of_getElem? (i := 14) rfl)
theorem cd_192_27 : mt_cd 192 27 = some (.ifCond .eq 15) := mt_cd_of (q := (27, .ifCond .eq 15, 3)) mq_192 ci_192 (List.mem_of_getElem? (i := 15) rfl)
theorem cd_192_30 : mt_cd 192 30 = some (.iload_n 3) := mt_cd_of (q := (30, .iload_n 3, 1)) mq_192 ci_192 (List.mem_of_getElem? (i := 16) rfl)
theorem cd_192_31 : mt_cd 192 31 = some (.i2l) := mt_cd_of (q := (31, .i2l, 1)) mq_192 ci_192 (List.mem_of_getElem? (i := 17) rfl)
theorem cd_192_32 : mt_cd 192 32 = some (.lconst 0) := mt_cd_of (q := (32, .lconst 0, 1)) mq_192 ci_192 (List.mem_of_getElem? (i := 18) rfl)
theorem cd_192_33 : mt_cd 192 33 = some (.ldc2_w 544) := mt_cd_of (q := (33, .ldc2_w 544, 3)) mq_192 ci_192 (List.mem_of_getElem? (i := 19) rfl)
theorem cd_192_36 : mt_cd 192 36 = some (.invokestatic 268) := mt_cd_of (q := (36, .invokestatic 268, 3)) mq_192 ci_192 (List.mem_of_getElem? (i := 20) rfl)
theorem cd_192_39 : mt_cd 192 39 = some (.ifCond .ne 7) := mt_cd_of (q := (39, .ifCond .ne 7, 3)) mq_192 ci_192 (List.mem_of_getElem? (i := 21) rfl)
theorem cd_192_42 : mt_cd 192 42 = some (.iconst 1) := mt_cd_of (q := (42, .iconst 1, 1)) mq_192 ci_192 (List.mem_of_getElem? (i := 22) rfl)
theorem cd_192_43 : mt_cd 192 43 = some (.goto 4) := mt_cd_of (q := (43, .goto 4, 3)) mq_192 ci_192 (List.mem_of_getElem? (i := 23) rfl)
theorem cd_192_46 : mt_cd 192 46 = some (.iconst 0) := mt_cd_of (q := (46, .iconst 0, 1)) mq_192 ci_192 (List.mem_of_getElem? (i := 24) rfl)
theorem cd_192_47 : mt_cd 192 47 = some (.iconst 1) := mt_cd_of (q := (47, .iconst 1, 1)) mq_192 ci_192 (List.mem_of_getElem? (i := 25) rfl)
theorem cd_192_48 : mt_cd 192 48 = some (.invokevirtual 254) := mt_cd_of (q := (48, .invokevirtual 254, 3)) mq_192 ci_192 (List.mem_of_getElem? (i := 26) rfl)
theorem cd_192_51 : mt_cd 192 51 = some (.ifCond .ne 28) := mt_cd_of (q := (51, .ifCond .ne 28, 3)) mq_192 ci_192 (List.mem_of_getElem? (i := 27) rfl)
theorem cd_192_54 : mt_cd 192 54 = some (.aload_n 0) := mt_cd_of (q := (54, .aload_n 0, 1)) mq_192 ci_192 (List.mem_of_getElem? (i := 28) rfl)
theorem cd_192_55 : mt_cd 192 55 = some (.iload_n 1) := mt_cd_of (q := (55, .iload_n 1, 1)) mq_192 ci_192 (List.mem_of_getElem? (i := 29) rfl)
theorem cd_192_56 : mt_cd 192 56 = some (.iconst 1) := mt_cd_of (q := (56, .iconst 1, 1)) mq_192 ci_192 (List.mem_of_getElem? (i := 30) rfl)
theorem cd_192_57 : mt_cd 192 57 = some (.if_icmp .eq 14) := mt_cd_of (q := (57, .if_icmp .eq 14, 3)) mq_192 ci_192 (List.mem_of_getElem? (i := 31) rfl)
theorem cd_192_60 : mt_cd 192 60 = some (.aload_n 0) := mt_cd_of (q := (60, .aload_n 0, 1)) mq_192 ci_192 (List.mem_of_getElem? (i := 32) rfl)
theorem cd_192_61 : mt_cd 192 61 = some (.getfield 13) := mt_cd_of (q := (61, .getfield 13, 3)) mq_192 ci_192 (List.mem_of_getElem? (i := 33) rfl)
theorem cd_192_64 : mt_cd 192 64 = some (.ifCond .ge 7) := mt_cd_of (q := (64, .ifCond .ge 7, 3)) mq_192 ci_192 (List.mem_of_getElem? (i := 34) rfl)
theorem cd_192_67 : mt_cd 192 67 = some (.iconst 1) := mt_cd_of (q := (67, .iconst 1, 1)) mq_192 ci_192 (List.mem_of_getElem? (i := 35) rfl)
theorem cd_192_68 : mt_cd 192 68 = some (.goto 4) := mt_cd_of (q := (68, .goto 4, 3)) mq_192 ci_192 (List.mem_of_getElem? (i := 36) rfl)
theorem cd_192_71 : mt_cd 192 71 = some (.iconst 0) := mt_cd_of (q := (71, .iconst 0, 1)) mq_192 ci_192 (List.mem_of_getElem? (i := 37) rfl)
theorem cd_192_72 : mt_cd 192 72 = some (.iconst 2) := mt_cd_of (q := (72, .iconst 2, 1)) mq_192 ci_192 (List.mem_of_getElem? (i := 38) rfl)
theorem cd_192_73 : mt_cd 192 73 = some (.invokevirtual 254) := mt_cd_of (q := (73, .invokevirtual 254, 3)) mq_192 ci_192 (List.mem_of_getElem? (i := 39) rfl)
theorem cd_192_76 : mt_cd 192 76 = some (.ifCond .eq 5) := mt_cd_of (q := (76, .ifCond .eq 5, 3)) mq_192 ci_192 (List.mem_of_getElem? (i := 40) rfl)
theorem cd_192_79 : mt_cd 192 79 = some (.lconst 0) := mt_cd_of (q := (79, .lconst 0, 1)) mq_192 ci_192 (List.mem_of_getElem? (i := 41) rfl)
theorem cd_192_80 : mt_cd 192 80 = some (.lreturn) := mt_cd_of (q := (80, .lreturn, 1)) mq_192 ci_192 (List.mem_of_getElem? (i := 42) rfl)
theorem cd_192_81 : mt_cd 192 81 = some (.iload_n 1) := mt_cd_of (q := (81, .iload_n 1, 1)) mq_192 ci_192 (List.mem_of_getElem? (i := 43) rfl)
theorem cd_192_82 : mt_cd 192 82 = some (.tableswitch 107 0 3 #[30, 44, 55, 81]) := mt_cd_of (q := (82, .tableswitch 107 0 3 #[30, 44, 55, 81], 30)) mq_192 ci_192 (List.mem_of_getElem? (i := 44) rfl)
theorem cd_192_112 : mt_cd 192 112 = some (.aload_n 0) := mt_cd_of (q := (112, .aload_n 0, 1)) mq_192 ci_192 (List.mem_of_getElem? (i := 45) rfl)
theorem cd_192_113 : mt_cd 192 113 = some (.getfield 147) := mt_cd_of (q := (113, .getfield 147, 3)) mq_192 ci_192 (List.mem_of_getElem? (i := 46) rfl)
theorem cd_192_116 : mt_cd 192 116 = some (.getfield 448) := mt_cd_of (q := (116, .getfield 448, 3)) mq_192 ci_192 (List.mem_of_getElem? (i := 47) rfl)
theorem cd_192_119 : mt_cd 192 119 = some (.iconst 4) := mt_cd_of (q := (119, .iconst 4, 1)) mq_192 ci_192 (List.mem_of_getElem? (i := 48) rfl)
theorem cd_192_120 : mt_cd 192 120 = some (.iload_n 2) := mt_cd_of (q := (120, .iload_n 2, 1)) mq_192 ci_192 (List.mem_of_getElem? (i := 49) rfl)
theorem cd_192_121 : mt_cd 192 121 = some (.imul) := mt_cd_of (q := (121, .imul, 1)) mq_192 ci_192 (List.mem_of_getElem? (i := 50) rfl)
theorem cd_192_122 : mt_cd 192 122 = some (.iload_n 3) := mt_cd_of (q := (122, .iload_n 3, 1)) mq_192 ci_192 (List.mem_of_getElem? (i := 51) rfl)
theorem cd_192_123 : mt_cd 192 123 = some (.iadd) := mt_cd_of (q := (123, .iadd, 1)) mq_192 ci_192 (List.mem_of_getElem? (i := 52) rfl)
theorem cd_192_124 : mt_cd 192 124 = some (.laload) := mt_cd_of (q := (124, .laload, 1)) mq_192 ci_192 (List.mem_of_getElem? (i := 53) rfl)
theorem cd_192_125 : mt_cd 192 125 = some (.lreturn) := mt_cd_of (q := (125, .lreturn, 1)) mq_192 ci_192 (List.mem_of_getElem? (i := 54) rfl)
theorem cd_192_126 : mt_cd 192 126 = some (.aload_n 0) := mt_cd_of (q := (126, .aload_n 0, 1)) mq_192 ci_192 (List.mem_of_getElem? (i := 55) rfl)
theorem cd_192_127 : mt_cd 192 127 = some (.getfield 175) := mt_cd_of (q := (127, .getfield 175, 3)) mq_192 ci_192 (List.mem_of_getElem? (i := 56) rfl)
theorem cd_192_130 : mt_cd 192 130 = some (.iconst 4) := mt_cd_of (q := (130, .iconst 4, 1)) mq_192 ci_192 (List.mem_of_getElem? (i := 57) rfl)
theorem cd_192_131 : mt_cd 192 131 = some (.iload_n 2) := mt_cd_of (q := (131, .iload_n 2, 1)) mq_192 ci_192 (List.mem_of_getElem? (i := 58) rfl)
theorem cd_192_132 : mt_cd 192 132 = some (.imul) := mt_cd_of (q := (132, .imul, 1)) mq_192 ci_192 (List.mem_of_getElem? (i := 59) rfl)
theorem cd_192_133 : mt_cd 192 133 = some (.iload_n 3) := mt_cd_of (q := (133, .iload_n 3, 1)) mq_192 ci_192 (List.mem_of_getElem? (i := 60) rfl)
theorem cd_192_134 : mt_cd 192 134 = some (.iadd) := mt_cd_of (q := (134, .iadd, 1)) mq_192 ci_192 (List.mem_of_getElem? (i := 61) rfl)
theorem cd_192_135 : mt_cd 192 135 = some (.laload) := mt_cd_of (q := (135, .laload, 1)) mq_192 ci_192 (List.mem_of_getElem? (i := 62) rfl)
theorem cd_192_136 : mt_cd 192 136 = some (.lreturn) := mt_cd_of (q := (136, .lreturn, 1)) mq_192 ci_192 (List.mem_of_getElem? (i := 63) rfl)
theorem cd_192_137 : mt_cd 192 137 = some (.aload_n 0) := mt_cd_of (q := (137, .aload_n 0, 1)) mq_192 ci_192 (List.mem_of_getElem? (i := 64) rfl)
theorem cd_192_138 : mt_cd 192 138 = some (.getfield 147) := mt_cd_of (q := (138, .getfield 147, 3)) mq_192 ci_192 (List.mem_of_getElem? (i := 65) rfl)
theorem cd_192_141 : mt_cd 192 141 = some (.getfield 459) := mt_cd_of (q := (141, .getfield 459, 3)) mq_192 ci_192 (List.mem_of_getElem? (i := 66) rfl)
theorem cd_192_144 : mt_cd 192 144 = some (.iload_n 2) := mt_cd_of (q := (144, .iload_n 2, 1)) mq_192 ci_192 (List.mem_of_getElem? (i := 67) rfl)
theorem cd_192_145 : mt_cd 192 145 = some (.baload) := mt_cd_of (q := (145, .baload, 1)) mq_192 ci_192 (List.mem_of_getElem? (i := 68) rfl)
theorem cd_192_146 : mt_cd 192 146 = some (.ifCond .eq 15) := mt_cd_of (q := (146, .ifCond .eq 15, 3)) mq_192 ci_192 (List.mem_of_getElem? (i := 69) rfl)
theorem cd_192_149 : mt_cd 192 149 = some (.aload_n 0) := mt_cd_of (q := (149, .aload_n 0, 1)) mq_192 ci_192 (List.mem_of_getElem? (i := 70) rfl)
theorem cd_192_150 : mt_cd 192 150 = some (.getfield 147) := mt_cd_of (q := (150, .getfield 147, 3)) mq_192 ci_192 (List.mem_of_getElem? (i := 71) rfl)
theorem cd_192_153 : mt_cd 192 153 = some (.getfield 463) := mt_cd_of (q := (153, .getfield 463, 3)) mq_192 ci_192 (List.mem_of_getElem? (i := 72) rfl)
theorem cd_192_156 : mt_cd 192 156 = some (.iload_n 2) := mt_cd_of (q := (156, .iload_n 2, 1)) mq_192 ci_192 (List.mem_of_getElem? (i := 73) rfl)
theorem cd_192_157 : mt_cd 192 157 = some (.laload) := mt_cd_of (q := (157, .laload, 1)) mq_192 ci_192 (List.mem_of_getElem? (i := 74) rfl)
theorem cd_192_158 : mt_cd 192 158 = some (.goto 4) := mt_cd_of (q := (158, .goto 4, 3)) mq_192 ci_192 (List.mem_of_getElem? (i := 75) rfl)
theorem cd_192_161 : mt_cd 192 161 = some (.lconst 0) := mt_cd_of (q := (161, .lconst 0, 1)) mq_192 ci_192 (List.mem_of_getElem? (i := 76) rfl)
theorem cd_192_162 : mt_cd 192 162 = some (.lreturn) := mt_cd_of (q := (162, .lreturn, 1)) mq_192 ci_192 (List.mem_of_getElem? (i := 77) rfl)
theorem cd_192_163 : mt_cd 192 163 = some (.aload_n 0) := mt_cd_of (q := (163, .aload_n 0, 1)) mq_192 ci_192 (List.mem_of_getElem? (i := 78) rfl)
theorem cd_192_164 : mt_cd 192 164 = some (.getfield 147) := mt_cd_of (q := (164, .getfield 147, 3)) mq_192 ci_192 (List.mem_of_getElem? (i := 79) rfl)
theorem cd_192_167 : mt_cd 192 167 = some (.getfield 465) := mt_cd_of (q := (167, .getfield 465, 3)) mq_192 ci_192 (List.mem_of_getElem? (i := 80) rfl)
theorem cd_192_170 : mt_cd 192 170 = some (.iload_n 2) := mt_cd_of (q := (170, .iload_n 2, 1)) mq_192 ci_192 (List.mem_of_getElem? (i := 81) rfl)
theorem cd_192_171 : mt_cd 192 171 = some (.baload) := mt_cd_of (q := (171, .baload, 1)) mq_192 ci_192 (List.mem_of_getElem? (i := 82) rfl)
theorem cd_192_172 : mt_cd 192 172 = some (.ifCond .eq 15) := mt_cd_of (q := (172, .ifCond .eq 15, 3)) mq_192 ci_192 (List.mem_of_getElem? (i := 83) rfl)
theorem cd_192_175 : mt_cd 192 175 = some (.aload_n 0) := mt_cd_of (q := (175, .aload_n 0, 1)) mq_192 ci_192 (List.mem_of_getElem? (i := 84) rfl)
theorem cd_192_176 : mt_cd 192 176 = some (.getfield 147) := mt_cd_of (q := (176, .getfield 147, 3)) mq_192 ci_192 (List.mem_of_getElem? (i := 85) rfl)
theorem cd_192_179 : mt_cd 192 179 = some (.getfield 468) := mt_cd_of (q := (179, .getfield 468, 3)) mq_192 ci_192 (List.mem_of_getElem? (i := 86) rfl)
theorem cd_192_182 : mt_cd 192 182 = some (.iload_n 2) := mt_cd_of (q := (182, .iload_n 2, 1)) mq_192 ci_192 (List.mem_of_getElem? (i := 87) rfl)
theorem cd_192_183 : mt_cd 192 183 = some (.laload) := mt_cd_of (q := (183, .laload, 1)) mq_192 ci_192 (List.mem_of_getElem? (i := 88) rfl)
theorem cd_192_184 : mt_cd 192 184 = some (.goto 4) := mt_cd_of (q := (184, .goto 4, 3)) mq_192 ci_192 (List.mem_of_getElem? (i := 89) rfl)
theorem cd_192_187 : mt_cd 192 187 = some (.lconst 0) := mt_cd_of (q := (187, .lconst 0, 1)) mq_192 ci_192 (List.mem_of_getElem? (i := 90) rfl)
theorem cd_192_188 : mt_cd 192 188 = some (.lreturn) := mt_cd_of (q := (188, .lreturn, 1)) mq_192 ci_192 (List.mem_of_getElem? (i := 91) rfl)
theorem cd_192_189 : mt_cd 192 189 = some (.aload_n 0) := mt_cd_of (q := (189, .aload_n 0, 1)) mq_192 ci_192 (List.mem_of_getElem? (i := 92) rfl)
theorem cd_192_190 : mt_cd 192 190 = some (.getfield 147) := mt_cd_of (q := (190, .getfield 147, 3)) mq_192 ci_192 (List.mem_of_getElem? (i := 93) rfl)
theorem cd_192_193 : mt_cd 192 193 = some (.getfield 516) := mt_cd_of (q := (193, .getfield 516, 3)) mq_192 ci_192 (List.mem_of_getElem? (i := 94) rfl)
theorem cd_192_196 : mt_cd 192 196 = some (.lreturn) := mt_cd_of (q := (196, .lreturn, 1)) mq_192 ci_192 (List.mem_of_getElem? (i := 95) rfl)
theorem b_192_0 {d : Nat} {Q : (Option Value ⊕ Nat) → mi_H → Prop} (n sl : Nat) (f : Nat → mi_C) {l1 : Nat} {l2 : Int32} {l3 : Int32} {l4 : Int32} {fs5 : List Value} (h6 : f l1 = .inr (12, fs5)) (h7 : l1 < n) (h8 : 0 < fs5.length) (h9 : mi_W d 141 0 (mi_en 6 [.long ((l2 : Int32).toInt64), .long 0, .long 4]) [] (n, sl, (va_up f l1 (.inr (12, fs5.set 0 (.int 0))))) (mi_Kc d 192 12 [some (.ref l1), some (.int l2), some (.int l3), some (.int l4)] [.ref l1] Q)) : mi_W (d + 1) 192 0 [some (.ref l1), some (.int l2), some (.int l3), some (.int l4)] [] (n, sl, f) Q := by
  refine w_aload_n cd_192_0 rfl ?_
  refine w_iconst (v := 0) cd_192_1 (by decide) ?_
  refine w_putfield (w := .int 0) cd_192_2 (show mt_f 12 248 = some (12, 0) by decide +kernel) h6 h7 ⟨h8, rfl, Or.inl (by decide)⟩ ?_
  refine w_aload_n cd_192_5 rfl ?_
  refine w_iload_n cd_192_6 rfl ?_
  refine w_i2l cd_192_7 ?_
  refine w_lconst (lv := 0) cd_192_8 (by decide) ?_
  refine w_ldc2_w (lv := 4) cd_192_9 (by decide +kernel) ?_
  exact w_invokestatic cd_192_12 (show mt_m 12 268 = some (141, 4) by decide +kernel) (by decide) (rest := [.ref l1]) rfl (as := [.long ((l2 : Int32).toInt64), .long 0, .long 4]) rfl ⟨Nat.le_of_ble_eq_true rfl, Nat.le_of_ble_eq_true rfl, Nat.le_of_ble_eq_true rfl⟩ h9
theorem b_192_15 {d : Nat} {Q : (Option Value ⊕ Nat) → mi_H → Prop} (n sl : Nat) (f : Nat → mi_C) {l1 : Nat} {l2 : Int32} {l3 : Int32} {l4 : Int32} {s5 : Int32} {s6 : Nat} (h7 : s5 = (0 : Int32) → mi_W d 192 42 [some (.ref l1), some (.int l2), some (.int l3), some (.int l4)] [.ref s6] (n, sl, f) Q) (h8 : ¬ (s5 = (0 : Int32)) → mi_W d 192 18 [some (.ref l1), some (.int l2), some (.int l3), some (.int l4)] [.ref s6] (n, sl, f) Q) : mi_W d 192 15 [some (.ref l1), some (.int l2), some (.int l3), some (.int l4)] [.int s5, .ref s6] (n, sl, f) Q := by
  exact w_ifeq cd_192_15 (by decide) h7 h8
theorem b_192_18 {d : Nat} {Q : (Option Value ⊕ Nat) → mi_H → Prop} (n sl : Nat) (f : Nat → mi_C) {l1 : Nat} {l2 : Int32} {l3 : Int32} {l4 : Int32} {s5 : Nat} (h6 : mi_W d 141 0 (mi_en 6 [.long ((l3 : Int32).toInt64), .long 0, .long 7]) [] (n, sl, f) (mi_Kc d 192 24 [some (.ref l1), some (.int l2), some (.int l3), some (.int l4)] [.ref s5] Q)) : mi_W (d + 1) 192 18 [some (.ref l1), some (.int l2), some (.int l3), some (.int l4)] [.ref s5] (n, sl, f) Q := by
  refine w_iload_n cd_192_18 rfl ?_
  refine w_i2l cd_192_19 ?_
  refine w_lconst (lv := 0) cd_192_20 (by decide) ?_
  refine w_ldc2_w (lv := 7) cd_192_21 (by decide +kernel) ?_
  exact w_invokestatic cd_192_24 (show mt_m 12 268 = some (141, 4) by decide +kernel) (by decide) (rest := [.ref s5]) rfl (as := [.long ((l3 : Int32).toInt64), .long 0, .long 7]) rfl ⟨Nat.le_of_ble_eq_true rfl, Nat.le_of_ble_eq_true rfl, Nat.le_of_ble_eq_true rfl⟩ h6
theorem b_192_27 {d : Nat} {Q : (Option Value ⊕ Nat) → mi_H → Prop} (n sl : Nat) (f : Nat → mi_C) {l1 : Nat} {l2 : Int32} {l3 : Int32} {l4 : Int32} {s5 : Int32} {s6 : Nat} (h7 : s5 = (0 : Int32) → mi_W d 192 42 [some (.ref l1), some (.int l2), some (.int l3), some (.int l4)] [.ref s6] (n, sl, f) Q) (h8 : ¬ (s5 = (0 : Int32)) → mi_W d 192 30 [some (.ref l1), some (.int l2), some (.int l3), some (.int l4)] [.ref s6] (n, sl, f) Q) : mi_W d 192 27 [some (.ref l1), some (.int l2), some (.int l3), some (.int l4)] [.int s5, .ref s6] (n, sl, f) Q := by
  exact w_ifeq cd_192_27 (by decide) h7 h8
theorem b_192_30 {d : Nat} {Q : (Option Value ⊕ Nat) → mi_H → Prop} (n sl : Nat) (f : Nat → mi_C) {l1 : Nat} {l2 : Int32} {l3 : Int32} {l4 : Int32} {s5 : Nat} (h6 : mi_W d 141 0 (mi_en 6 [.long ((l4 : Int32).toInt64), .long 0, .long 3]) [] (n, sl, f) (mi_Kc d 192 36 [some (.ref l1), some (.int l2), some (.int l3), some (.int l4)] [.ref s5] Q)) : mi_W (d + 1) 192 30 [some (.ref l1), some (.int l2), some (.int l3), some (.int l4)] [.ref s5] (n, sl, f) Q := by
  refine w_iload_n cd_192_30 rfl ?_
  refine w_i2l cd_192_31 ?_
  refine w_lconst (lv := 0) cd_192_32 (by decide) ?_
  refine w_ldc2_w (lv := 3) cd_192_33 (by decide +kernel) ?_
  exact w_invokestatic cd_192_36 (show mt_m 12 268 = some (141, 4) by decide +kernel) (by decide) (rest := [.ref s5]) rfl (as := [.long ((l4 : Int32).toInt64), .long 0, .long 3]) rfl ⟨Nat.le_of_ble_eq_true rfl, Nat.le_of_ble_eq_true rfl, Nat.le_of_ble_eq_true rfl⟩ h6
theorem b_192_39 {d : Nat} {Q : (Option Value ⊕ Nat) → mi_H → Prop} (n sl : Nat) (f : Nat → mi_C) {l1 : Nat} {l2 : Int32} {l3 : Int32} {l4 : Int32} {s5 : Int32} {s6 : Nat} (h7 : ¬ s5 = (0 : Int32) → mi_W d 192 46 [some (.ref l1), some (.int l2), some (.int l3), some (.int l4)] [.ref s6] (n, sl, f) Q) (h8 : ¬ (¬ s5 = (0 : Int32)) → mi_W d 192 42 [some (.ref l1), some (.int l2), some (.int l3), some (.int l4)] [.ref s6] (n, sl, f) Q) : mi_W d 192 39 [some (.ref l1), some (.int l2), some (.int l3), some (.int l4)] [.int s5, .ref s6] (n, sl, f) Q := by
  exact w_ifne cd_192_39 (by decide) h7 h8
theorem b_192_42 {d : Nat} {Q : (Option Value ⊕ Nat) → mi_H → Prop} (n sl : Nat) (f : Nat → mi_C) {l1 : Nat} {l2 : Int32} {l3 : Int32} {l4 : Int32} {s5 : Nat} (h6 : mi_W d 192 47 [some (.ref l1), some (.int l2), some (.int l3), some (.int l4)] [.int 1, .ref s5] (n, sl, f) Q) : mi_W d 192 42 [some (.ref l1), some (.int l2), some (.int l3), some (.int l4)] [.ref s5] (n, sl, f) Q := by
  refine w_iconst (v := 1) cd_192_42 (by decide) ?_
  exact w_goto cd_192_43 (by decide) h6
theorem b_192_46 {d : Nat} {Q : (Option Value ⊕ Nat) → mi_H → Prop} (n sl : Nat) (f : Nat → mi_C) {l1 : Nat} {l2 : Int32} {l3 : Int32} {l4 : Int32} {s5 : Nat} (h6 : mi_W d 192 47 [some (.ref l1), some (.int l2), some (.int l3), some (.int l4)] [.int 0, .ref s5] (n, sl, f) Q) : mi_W d 192 46 [some (.ref l1), some (.int l2), some (.int l3), some (.int l4)] [.ref s5] (n, sl, f) Q := by
  refine w_iconst (v := 0) cd_192_46 (by decide) ?_
  exact h6
theorem b_192_47 {d : Nat} {Q : (Option Value ⊕ Nat) → mi_H → Prop} (n sl : Nat) (f : Nat → mi_C) {l1 : Nat} {l2 : Int32} {l3 : Int32} {l4 : Int32} {s5 : Int32} {s6 : Nat} {fs7 : List Value} (h8 : f s6 = .inr (12, fs7)) (h9 : s6 < n) (h10 : mi_W d 139 0 (mi_en 3 [.ref s6, .int s5, .int 1]) [] (n, sl, f) (mi_Kc d 192 48 [some (.ref l1), some (.int l2), some (.int l3), some (.int l4)] [] Q)) : mi_W (d + 1) 192 47 [some (.ref l1), some (.int l2), some (.int l3), some (.int l4)] [.int s5, .ref s6] (n, sl, f) Q := by
  refine w_iconst (v := 1) cd_192_47 (by decide) ?_
  exact w_invokevirtual cd_192_48 (show mt_m 12 254 = some (139, 0) by decide +kernel) (rest := []) rfl (as := [.ref s6, .int s5, .int 1]) rfl h8 (Or.inl h9) ⟨Nat.le_of_ble_eq_true rfl, Nat.le_of_ble_eq_true rfl, Nat.le_of_ble_eq_true rfl⟩ h10
theorem b_192_51 {d : Nat} {Q : (Option Value ⊕ Nat) → mi_H → Prop} (n sl : Nat) (f : Nat → mi_C) {l1 : Nat} {l2 : Int32} {l3 : Int32} {l4 : Int32} {s5 : Int32} (h6 : ¬ s5 = (0 : Int32) → mi_W d 192 79 [some (.ref l1), some (.int l2), some (.int l3), some (.int l4)] [] (n, sl, f) Q) (h7 : ¬ (¬ s5 = (0 : Int32)) → mi_W d 192 54 [some (.ref l1), some (.int l2), some (.int l3), some (.int l4)] [] (n, sl, f) Q) : mi_W d 192 51 [some (.ref l1), some (.int l2), some (.int l3), some (.int l4)] [.int s5] (n, sl, f) Q := by
  exact w_ifne cd_192_51 (by decide) h6 h7
theorem b_192_54 {d : Nat} {Q : (Option Value ⊕ Nat) → mi_H → Prop} (n sl : Nat) (f : Nat → mi_C) {l1 : Nat} {l2 : Int32} {l3 : Int32} {l4 : Int32} (h5 : l2 = 1 → mi_W d 192 71 [some (.ref l1), some (.int l2), some (.int l3), some (.int l4)] [.ref l1] (n, sl, f) Q) (h6 : ¬ (l2 = 1) → mi_W d 192 60 [some (.ref l1), some (.int l2), some (.int l3), some (.int l4)] [.ref l1] (n, sl, f) Q) : mi_W d 192 54 [some (.ref l1), some (.int l2), some (.int l3), some (.int l4)] [] (n, sl, f) Q := by
  refine w_aload_n cd_192_54 rfl ?_
  refine w_iload_n cd_192_55 rfl ?_
  refine w_iconst (v := 1) cd_192_56 (by decide) ?_
  exact w_if_icmpeq cd_192_57 (by decide) h5 h6
theorem b_192_60 {d : Nat} {Q : (Option Value ⊕ Nat) → mi_H → Prop} (n sl : Nat) (f : Nat → mi_C) {l1 : Nat} {l2 : Int32} {l3 : Int32} {l4 : Int32} {s5 : Nat} {fs6 : List Value} {x9 : Int32} (h7 : f l1 = .inr (12, fs6)) (h8 : l1 < n) (h10 : fs6[4]? = some (.int x9)) (h11 : (0 : Int32) ≤ x9 → mi_W d 192 71 [some (.ref l1), some (.int l2), some (.int l3), some (.int l4)] [.ref s5] (n, sl, f) Q) (h12 : ¬ ((0 : Int32) ≤ x9) → mi_W d 192 67 [some (.ref l1), some (.int l2), some (.int l3), some (.int l4)] [.ref s5] (n, sl, f) Q) : mi_W d 192 60 [some (.ref l1), some (.int l2), some (.int l3), some (.int l4)] [.ref s5] (n, sl, f) Q := by
  refine w_aload_n cd_192_60 rfl ?_
  refine w_getfield cd_192_61 (show mt_f 12 13 = some (12, 4) by decide +kernel) h7 h8 h10 ?_
  exact w_ifge cd_192_64 (by decide) h11 h12
theorem b_192_67 {d : Nat} {Q : (Option Value ⊕ Nat) → mi_H → Prop} (n sl : Nat) (f : Nat → mi_C) {l1 : Nat} {l2 : Int32} {l3 : Int32} {l4 : Int32} {s5 : Nat} (h6 : mi_W d 192 72 [some (.ref l1), some (.int l2), some (.int l3), some (.int l4)] [.int 1, .ref s5] (n, sl, f) Q) : mi_W d 192 67 [some (.ref l1), some (.int l2), some (.int l3), some (.int l4)] [.ref s5] (n, sl, f) Q := by
  refine w_iconst (v := 1) cd_192_67 (by decide) ?_
  exact w_goto cd_192_68 (by decide) h6
theorem b_192_71 {d : Nat} {Q : (Option Value ⊕ Nat) → mi_H → Prop} (n sl : Nat) (f : Nat → mi_C) {l1 : Nat} {l2 : Int32} {l3 : Int32} {l4 : Int32} {s5 : Nat} (h6 : mi_W d 192 72 [some (.ref l1), some (.int l2), some (.int l3), some (.int l4)] [.int 0, .ref s5] (n, sl, f) Q) : mi_W d 192 71 [some (.ref l1), some (.int l2), some (.int l3), some (.int l4)] [.ref s5] (n, sl, f) Q := by
  refine w_iconst (v := 0) cd_192_71 (by decide) ?_
  exact h6
theorem b_192_72 {d : Nat} {Q : (Option Value ⊕ Nat) → mi_H → Prop} (n sl : Nat) (f : Nat → mi_C) {l1 : Nat} {l2 : Int32} {l3 : Int32} {l4 : Int32} {s5 : Int32} {s6 : Nat} {fs7 : List Value} (h8 : f s6 = .inr (12, fs7)) (h9 : s6 < n) (h10 : mi_W d 139 0 (mi_en 3 [.ref s6, .int s5, .int 2]) [] (n, sl, f) (mi_Kc d 192 73 [some (.ref l1), some (.int l2), some (.int l3), some (.int l4)] [] Q)) : mi_W (d + 1) 192 72 [some (.ref l1), some (.int l2), some (.int l3), some (.int l4)] [.int s5, .ref s6] (n, sl, f) Q := by
  refine w_iconst (v := 2) cd_192_72 (by decide) ?_
  exact w_invokevirtual cd_192_73 (show mt_m 12 254 = some (139, 0) by decide +kernel) (rest := []) rfl (as := [.ref s6, .int s5, .int 2]) rfl h8 (Or.inl h9) ⟨Nat.le_of_ble_eq_true rfl, Nat.le_of_ble_eq_true rfl, Nat.le_of_ble_eq_true rfl⟩ h10
theorem b_192_76 {d : Nat} {Q : (Option Value ⊕ Nat) → mi_H → Prop} (n sl : Nat) (f : Nat → mi_C) {l1 : Nat} {l2 : Int32} {l3 : Int32} {l4 : Int32} {s5 : Int32} (h6 : s5 = (0 : Int32) → mi_W d 192 81 [some (.ref l1), some (.int l2), some (.int l3), some (.int l4)] [] (n, sl, f) Q) (h7 : ¬ (s5 = (0 : Int32)) → mi_W d 192 79 [some (.ref l1), some (.int l2), some (.int l3), some (.int l4)] [] (n, sl, f) Q) : mi_W d 192 76 [some (.ref l1), some (.int l2), some (.int l3), some (.int l4)] [.int s5] (n, sl, f) Q := by
  exact w_ifeq cd_192_76 (by decide) h6 h7
theorem b_192_79 {d : Nat} {Q : (Option Value ⊕ Nat) → mi_H → Prop} (n sl : Nat) (f : Nat → mi_C) {l1 : Nat} {l2 : Int32} {l3 : Int32} {l4 : Int32} (h5 : Q (.inl (some (.long 0))) (n, sl, f)) : mi_W d 192 79 [some (.ref l1), some (.int l2), some (.int l3), some (.int l4)] [] (n, sl, f) Q := by
  refine w_lconst (lv := 0) cd_192_79 (by decide) ?_
  exact w_lreturn cd_192_80 (by decide +kernel) h5
theorem b_192_81 {d : Nat} {Q : (Option Value ⊕ Nat) → mi_H → Prop} (n sl : Nat) (f : Nat → mi_C) {l1 : Nat} {l2 : Int32} {l3 : Int32} {l4 : Int32} {t5 : Nat} (h6 : mi_ts 82 107 0 3 #[30, 44, 55, 81] (l2 : Int32).toInt = some t5) (h7 : mi_W d 192 t5 [some (.ref l1), some (.int l2), some (.int l3), some (.int l4)] [] (n, sl, f) Q) : mi_W d 192 81 [some (.ref l1), some (.int l2), some (.int l3), some (.int l4)] [] (n, sl, f) Q := by
  refine w_iload_n cd_192_81 rfl ?_
  exact w_tableswitch cd_192_82 h6 h7
theorem b_192_112 {d : Nat} {Q : (Option Value ⊕ Nat) → mi_H → Prop} (n sl : Nat) (f : Nat → mi_C) {l1 : Nat} {l2 : Int32} {l3 : Int32} {l4 : Int32} {fs5 : List Value} {x8 : Nat} {fs10 : List Value} {x13 : Nat} (m15 i15 : Nat) (g15 : Nat → Int64) (h6 : f l1 = .inr (12, fs5)) (h7 : l1 < n) (h9 : fs5[41]? = some (.ref x8)) (h11 : f x8 = .inr (13, fs10)) (h12 : x8 < n) (h14 : fs10[2]? = some (.ref x13)) (h16 : f x13 = .inl (3, m15, .inr (.inl g15))) (h17 : x13 < n) (h18 : mi_ix ((4 * l3) + l4) m15 i15) (h19 : Q (.inl (some (.long (g15 i15)))) (n, sl, f)) : mi_W d 192 112 [some (.ref l1), some (.int l2), some (.int l3), some (.int l4)] [] (n, sl, f) Q := by
  refine w_aload_n cd_192_112 rfl ?_
  refine w_getfield cd_192_113 (show mt_f 12 147 = some (12, 41) by decide +kernel) h6 h7 h9 ?_
  refine w_getfield cd_192_116 (show mt_f 12 448 = some (13, 2) by decide +kernel) h11 h12 h14 ?_
  refine w_iconst (v := 4) cd_192_119 (by decide) ?_
  refine w_iload_n cd_192_120 rfl ?_
  refine w_imul cd_192_121 ?_
  refine w_iload_n cd_192_122 rfl ?_
  refine w_iadd cd_192_123 ?_
  refine w_laload cd_192_124 h16 h17 h18 ?_
  exact w_lreturn cd_192_125 (by decide +kernel) h19
theorem b_192_126 {d : Nat} {Q : (Option Value ⊕ Nat) → mi_H → Prop} (n sl : Nat) (f : Nat → mi_C) {l1 : Nat} {l2 : Int32} {l3 : Int32} {l4 : Int32} {fs5 : List Value} {x8 : Nat} (m10 i10 : Nat) (g10 : Nat → Int64) (h6 : f l1 = .inr (12, fs5)) (h7 : l1 < n) (h9 : fs5[56]? = some (.ref x8)) (h11 : f x8 = .inl (3, m10, .inr (.inl g10))) (h12 : x8 < n) (h13 : mi_ix ((4 * l3) + l4) m10 i10) (h14 : Q (.inl (some (.long (g10 i10)))) (n, sl, f)) : mi_W d 192 126 [some (.ref l1), some (.int l2), some (.int l3), some (.int l4)] [] (n, sl, f) Q := by
  refine w_aload_n cd_192_126 rfl ?_
  refine w_getfield cd_192_127 (show mt_f 12 175 = some (12, 56) by decide +kernel) h6 h7 h9 ?_
  refine w_iconst (v := 4) cd_192_130 (by decide) ?_
  refine w_iload_n cd_192_131 rfl ?_
  refine w_imul cd_192_132 ?_
  refine w_iload_n cd_192_133 rfl ?_
  refine w_iadd cd_192_134 ?_
  refine w_laload cd_192_135 h11 h12 h13 ?_
  exact w_lreturn cd_192_136 (by decide +kernel) h14
theorem b_192_137 {d : Nat} {Q : (Option Value ⊕ Nat) → mi_H → Prop} (n sl : Nat) (f : Nat → mi_C) {l1 : Nat} {l2 : Int32} {l3 : Int32} {l4 : Int32} {fs5 : List Value} {x8 : Nat} {fs10 : List Value} {x13 : Nat} (m15 i15 : Nat) (g15 : Nat → Int32) (h6 : f l1 = .inr (12, fs5)) (h7 : l1 < n) (h9 : fs5[41]? = some (.ref x8)) (h11 : f x8 = .inr (13, fs10)) (h12 : x8 < n) (h14 : fs10[5]? = some (.ref x13)) (h16 : f x13 = .inl (2, m15, .inl g15)) (h17 : x13 < n) (h18 : mi_ix l3 m15 i15) (h19 : (g15 i15) = (0 : Int32) → mi_W d 192 161 [some (.ref l1), some (.int l2), some (.int l3), some (.int l4)] [] (n, sl, f) Q) (h20 : ¬ ((g15 i15) = (0 : Int32)) → mi_W d 192 149 [some (.ref l1), some (.int l2), some (.int l3), some (.int l4)] [] (n, sl, f) Q) : mi_W d 192 137 [some (.ref l1), some (.int l2), some (.int l3), some (.int l4)] [] (n, sl, f) Q := by
  refine w_aload_n cd_192_137 rfl ?_
  refine w_getfield cd_192_138 (show mt_f 12 147 = some (12, 41) by decide +kernel) h6 h7 h9 ?_
  refine w_getfield cd_192_141 (show mt_f 12 459 = some (13, 5) by decide +kernel) h11 h12 h14 ?_
  refine w_iload_n cd_192_144 rfl ?_
  refine w_baload2 cd_192_145 h16 h17 h18 ?_
  exact w_ifeq cd_192_146 (by decide) h19 h20
theorem b_192_149 {d : Nat} {Q : (Option Value ⊕ Nat) → mi_H → Prop} (n sl : Nat) (f : Nat → mi_C) {l1 : Nat} {l2 : Int32} {l3 : Int32} {l4 : Int32} {fs5 : List Value} {x8 : Nat} {fs10 : List Value} {x13 : Nat} (m15 i15 : Nat) (g15 : Nat → Int64) (h6 : f l1 = .inr (12, fs5)) (h7 : l1 < n) (h9 : fs5[41]? = some (.ref x8)) (h11 : f x8 = .inr (13, fs10)) (h12 : x8 < n) (h14 : fs10[3]? = some (.ref x13)) (h16 : f x13 = .inl (3, m15, .inr (.inl g15))) (h17 : x13 < n) (h18 : mi_ix l3 m15 i15) (h19 : mi_W d 192 162 [some (.ref l1), some (.int l2), some (.int l3), some (.int l4)] [.long (g15 i15)] (n, sl, f) Q) : mi_W d 192 149 [some (.ref l1), some (.int l2), some (.int l3), some (.int l4)] [] (n, sl, f) Q := by
  refine w_aload_n cd_192_149 rfl ?_
  refine w_getfield cd_192_150 (show mt_f 12 147 = some (12, 41) by decide +kernel) h6 h7 h9 ?_
  refine w_getfield cd_192_153 (show mt_f 12 463 = some (13, 3) by decide +kernel) h11 h12 h14 ?_
  refine w_iload_n cd_192_156 rfl ?_
  refine w_laload cd_192_157 h16 h17 h18 ?_
  exact w_goto cd_192_158 (by decide) h19
theorem b_192_161 {d : Nat} {Q : (Option Value ⊕ Nat) → mi_H → Prop} (n sl : Nat) (f : Nat → mi_C) {l1 : Nat} {l2 : Int32} {l3 : Int32} {l4 : Int32} (h5 : mi_W d 192 162 [some (.ref l1), some (.int l2), some (.int l3), some (.int l4)] [.long 0] (n, sl, f) Q) : mi_W d 192 161 [some (.ref l1), some (.int l2), some (.int l3), some (.int l4)] [] (n, sl, f) Q := by
  refine w_lconst (lv := 0) cd_192_161 (by decide) ?_
  exact h5
theorem b_192_162 {d : Nat} {Q : (Option Value ⊕ Nat) → mi_H → Prop} (n sl : Nat) (f : Nat → mi_C) {l1 : Nat} {l2 : Int32} {l3 : Int32} {l4 : Int32} {s5 : Int64} (h6 : Q (.inl (some (.long s5))) (n, sl, f)) : mi_W d 192 162 [some (.ref l1), some (.int l2), some (.int l3), some (.int l4)] [.long s5] (n, sl, f) Q := by
  exact w_lreturn cd_192_162 (by decide +kernel) h6
theorem b_192_163 {d : Nat} {Q : (Option Value ⊕ Nat) → mi_H → Prop} (n sl : Nat) (f : Nat → mi_C) {l1 : Nat} {l2 : Int32} {l3 : Int32} {l4 : Int32} {fs5 : List Value} {x8 : Nat} {fs10 : List Value} {x13 : Nat} (m15 i15 : Nat) (g15 : Nat → Int32) (h6 : f l1 = .inr (12, fs5)) (h7 : l1 < n) (h9 : fs5[41]? = some (.ref x8)) (h11 : f x8 = .inr (13, fs10)) (h12 : x8 < n) (h14 : fs10[6]? = some (.ref x13)) (h16 : f x13 = .inl (2, m15, .inl g15)) (h17 : x13 < n) (h18 : mi_ix l3 m15 i15) (h19 : (g15 i15) = (0 : Int32) → mi_W d 192 187 [some (.ref l1), some (.int l2), some (.int l3), some (.int l4)] [] (n, sl, f) Q) (h20 : ¬ ((g15 i15) = (0 : Int32)) → mi_W d 192 175 [some (.ref l1), some (.int l2), some (.int l3), some (.int l4)] [] (n, sl, f) Q) : mi_W d 192 163 [some (.ref l1), some (.int l2), some (.int l3), some (.int l4)] [] (n, sl, f) Q := by
  refine w_aload_n cd_192_163 rfl ?_
  refine w_getfield cd_192_164 (show mt_f 12 147 = some (12, 41) by decide +kernel) h6 h7 h9 ?_
  refine w_getfield cd_192_167 (show mt_f 12 465 = some (13, 6) by decide +kernel) h11 h12 h14 ?_
  refine w_iload_n cd_192_170 rfl ?_
  refine w_baload2 cd_192_171 h16 h17 h18 ?_
  exact w_ifeq cd_192_172 (by decide) h19 h20
theorem b_192_175 {d : Nat} {Q : (Option Value ⊕ Nat) → mi_H → Prop} (n sl : Nat) (f : Nat → mi_C) {l1 : Nat} {l2 : Int32} {l3 : Int32} {l4 : Int32} {fs5 : List Value} {x8 : Nat} {fs10 : List Value} {x13 : Nat} (m15 i15 : Nat) (g15 : Nat → Int64) (h6 : f l1 = .inr (12, fs5)) (h7 : l1 < n) (h9 : fs5[41]? = some (.ref x8)) (h11 : f x8 = .inr (13, fs10)) (h12 : x8 < n) (h14 : fs10[4]? = some (.ref x13)) (h16 : f x13 = .inl (3, m15, .inr (.inl g15))) (h17 : x13 < n) (h18 : mi_ix l3 m15 i15) (h19 : mi_W d 192 188 [some (.ref l1), some (.int l2), some (.int l3), some (.int l4)] [.long (g15 i15)] (n, sl, f) Q) : mi_W d 192 175 [some (.ref l1), some (.int l2), some (.int l3), some (.int l4)] [] (n, sl, f) Q := by
  refine w_aload_n cd_192_175 rfl ?_
  refine w_getfield cd_192_176 (show mt_f 12 147 = some (12, 41) by decide +kernel) h6 h7 h9 ?_
  refine w_getfield cd_192_179 (show mt_f 12 468 = some (13, 4) by decide +kernel) h11 h12 h14 ?_
  refine w_iload_n cd_192_182 rfl ?_
  refine w_laload cd_192_183 h16 h17 h18 ?_
  exact w_goto cd_192_184 (by decide) h19
theorem b_192_187 {d : Nat} {Q : (Option Value ⊕ Nat) → mi_H → Prop} (n sl : Nat) (f : Nat → mi_C) {l1 : Nat} {l2 : Int32} {l3 : Int32} {l4 : Int32} (h5 : mi_W d 192 188 [some (.ref l1), some (.int l2), some (.int l3), some (.int l4)] [.long 0] (n, sl, f) Q) : mi_W d 192 187 [some (.ref l1), some (.int l2), some (.int l3), some (.int l4)] [] (n, sl, f) Q := by
  refine w_lconst (lv := 0) cd_192_187 (by decide) ?_
  exact h5
theorem b_192_188 {d : Nat} {Q : (Option Value ⊕ Nat) → mi_H → Prop} (n sl : Nat) (f : Nat → mi_C) {l1 : Nat} {l2 : Int32} {l3 : Int32} {l4 : Int32} {s5 : Int64} (h6 : Q (.inl (some (.long s5))) (n, sl, f)) : mi_W d 192 188 [some (.ref l1), some (.int l2), some (.int l3), some (.int l4)] [.long s5] (n, sl, f) Q := by
  exact w_lreturn cd_192_188 (by decide +kernel) h6
theorem b_192_189 {d : Nat} {Q : (Option Value ⊕ Nat) → mi_H → Prop} (n sl : Nat) (f : Nat → mi_C) {l1 : Nat} {l2 : Int32} {l3 : Int32} {l4 : Int32} {fs5 : List Value} {x8 : Nat} {fs10 : List Value} {x13 : Int64} (h6 : f l1 = .inr (12, fs5)) (h7 : l1 < n) (h9 : fs5[41]? = some (.ref x8)) (h11 : f x8 = .inr (13, fs10)) (h12 : x8 < n) (h14 : fs10[1]? = some (.long x13)) (h15 : Q (.inl (some (.long x13))) (n, sl, f)) : mi_W d 192 189 [some (.ref l1), some (.int l2), some (.int l3), some (.int l4)] [] (n, sl, f) Q := by
  refine w_aload_n cd_192_189 rfl ?_
  refine w_getfield cd_192_190 (show mt_f 12 147 = some (12, 41) by decide +kernel) h6 h7 h9 ?_
  refine w_getfield cd_192_193 (show mt_f 12 516 = some (13, 1) by decide +kernel) h11 h12 h14 ?_
  exact w_lreturn cd_192_196 (by decide +kernel) h15
/-! MarloweHostModel.analyse()I -/
set_option maxRecDepth 100000 in
theorem mq_193 : mt_q 193 = my_193 := rfl
set_option maxRecDepth 100000 in
theorem ci_193 : mt_inc 0 my_193.cd = true := by decide +kernel
theorem cd_193_0 : mt_cd 193 0 = some (.aload_n 0) := mt_cd_of (q := (0, .aload_n 0, 1)) mq_193 ci_193 (List.mem_append_left _ (show _ ∈ my_193_0 from List.mem_of_getElem? (i := 0) rfl))
theorem cd_193_1 : mt_cd 193 1 = some (.iconst 0) := mt_cd_of (q := (1, .iconst 0, 1)) mq_193 ci_193 (List.mem_append_left _ (show _ ∈ my_193_0 from List.mem_of_getElem? (i := 1) rfl))
theorem cd_193_2 : mt_cd 193 2 = some (.putfield 248) := mt_cd_of (q := (2, .putfield 248, 3)) mq_193 ci_193 (List.mem_append_left _ (show _ ∈ my_193_0 from List.mem_of_getElem? (i := 2) rfl))
theorem cd_193_5 : mt_cd 193 5 = some (.aload_n 0) := mt_cd_of (q := (5, .aload_n 0, 1)) mq_193 ci_193 (List.mem_append_left _ (show _ ∈ my_193_0 from List.mem_of_getElem? (i := 3) rfl))
theorem cd_193_6 : mt_cd 193 6 = some (.aload_n 0) := mt_cd_of (q := (6, .aload_n 0, 1)) mq_193 ci_193 (List.mem_append_left _ (show _ ∈ my_193_0 from List.mem_of_getElem? (i := 4) rfl))
theorem cd_193_7 : mt_cd 193 7 = some (.getfield 13) := mt_cd_of (q := (7, .getfield 13, 3)) mq_193 ci_193 (List.mem_append_left _ (show _ ∈ my_193_0 from List.mem_of_getElem? (i := 5) rfl))
theorem cd_193_10 : mt_cd 193 10 = some (.ifCond .ge 7) := mt_cd_of (q := (10, .ifCond .ge 7, 3)) mq_193 ci_193 (List.mem_append_left _ (show _ ∈ my_193_0 from List.mem_of_getElem? (i := 6) rfl))
theorem cd_193_13 : mt_cd 193 13 = some (.iconst 1) := mt_cd_of (q := (13, .iconst 1, 1)) mq_193 ci_193 (List.mem_append_left _ (show _ ∈ my_193_0 from List.mem_of_getElem? (i := 7) rfl))
theorem cd_193_14 : mt_cd 193 14 = some (.goto 4) := mt_cd_of (q := (14, .goto 4, 3)) mq_193 ci_193 (List.mem_append_left _ (show _ ∈ my_193_0 from List.mem_of_getElem? (i := 8) rfl))
theorem cd_193_17 : mt_cd 193 17 = some (.iconst 0) := mt_cd_of (q := (17, .iconst 0, 1)) mq_193 ci_193 (List.mem_append_left _ (show _ ∈ my_193_0 from List.mem_of_getElem? (i := 9) rfl))
theorem cd_193_18 : mt_cd 193 18 = some (.iconst 1) := mt_cd_of (q := (18, .iconst 1, 1)) mq_193 ci_193 (List.mem_append_left _ (show _ ∈ my_193_0 from List.mem_of_getElem? (i := 10) rfl))
theorem cd_193_19 : mt_cd 193 19 = some (.invokevirtual 254) := mt_cd_of (q := (19, .invokevirtual 254, 3)) mq_193 ci_193 (List.mem_append_left _ (show _ ∈ my_193_0 from List.mem_of_getElem? (i := 11) rfl))
theorem cd_193_22 : mt_cd 193 22 = some (.ifCond .eq 5) := mt_cd_of (q := (22, .ifCond .eq 5, 3)) mq_193 ci_193 (List.mem_append_left _ (show _ ∈ my_193_0 from List.mem_of_getElem? (i := 12) rfl))
theorem cd_193_25 : mt_cd 193 25 = some (.iconst 0) := mt_cd_of (q := (25, .iconst 0, 1)) mq_193 ci_193 (List.mem_append_left _ (show _ ∈ my_193_0 from List.mem_of_getElem? (i := 13) rfl))
theorem cd_193_26 : mt_cd 193 26 = some (.ireturn) := mt_cd_of (q := (26, .ireturn, 1)) mq_193 ci_193 (List.mem_append_left _ (show _ ∈ my_193_0 from List.mem_of_getElem? (i := 14) rfl))
theorem cd_193_27 : mt_cd 193 27 = some (.aload_n 0) := mt_cd_of (q := (27, .aload_n 0, 1)) mq_193 ci_193 (List.mem_append_left _ (show _ ∈ my_193_0 from List.mem_of_getElem? (i := 15) rfl))
theorem cd_193_28 : mt_cd 193 28 = some (.iconst 0) := mt_cd_of (q := (28, .iconst 0, 1)) mq_193 ci_193 (List.mem_append_left _ (show _ ∈ my_193_0 from List.mem_of_getElem? (i := 16) rfl))
theorem cd_193_29 : mt_cd 193 29 = some (.putfield 562) := mt_cd_of (q := (29, .putfield 562, 3)) mq_193 ci_193 (List.mem_append_left _ (show _ ∈ my_193_0 from List.mem_of_getElem? (i := 17) rfl))
theorem cd_193_32 : mt_cd 193 32 = some (.aload_n 0) := mt_cd_of (q := (32, .aload_n 0, 1)) mq_193 ci_193 (List.mem_append_left _ (show _ ∈ my_193_0 from List.mem_of_getElem? (i := 18) rfl))
theorem cd_193_33 : mt_cd 193 33 = some (.iconst 0) := mt_cd_of (q := (33, .iconst 0, 1)) mq_193 ci_193 (List.mem_append_left _ (show _ ∈ my_193_0 from List.mem_of_getElem? (i := 19) rfl))
theorem cd_193_34 : mt_cd 193 34 = some (.putfield 565) := mt_cd_of (q := (34, .putfield 565, 3)) mq_193 ci_193 (List.mem_append_left _ (show _ ∈ my_193_0 from List.mem_of_getElem? (i := 20) rfl))
theorem cd_193_37 : mt_cd 193 37 = some (.aload_n 0) := mt_cd_of (q := (37, .aload_n 0, 1)) mq_193 ci_193 (List.mem_append_left _ (show _ ∈ my_193_0 from List.mem_of_getElem? (i := 21) rfl))
theorem cd_193_38 : mt_cd 193 38 = some (.iconst 0) := mt_cd_of (q := (38, .iconst 0, 1)) mq_193 ci_193 (List.mem_append_left _ (show _ ∈ my_193_0 from List.mem_of_getElem? (i := 22) rfl))
theorem cd_193_39 : mt_cd 193 39 = some (.putfield 568) := mt_cd_of (q := (39, .putfield 568, 3)) mq_193 ci_193 (List.mem_append_left _ (show _ ∈ my_193_0 from List.mem_of_getElem? (i := 23) rfl))
theorem cd_193_42 : mt_cd 193 42 = some (.aload_n 0) := mt_cd_of (q := (42, .aload_n 0, 1)) mq_193 ci_193 (List.mem_append_left _ (show _ ∈ my_193_0 from List.mem_of_getElem? (i := 24) rfl))
theorem cd_193_43 : mt_cd 193 43 = some (.aload_n 0) := mt_cd_of (q := (43, .aload_n 0, 1)) mq_193 ci_193 (List.mem_append_left _ (show _ ∈ my_193_0 from List.mem_of_getElem? (i := 25) rfl))
theorem cd_193_44 : mt_cd 193 44 = some (.getfield 147) := mt_cd_of (q := (44, .getfield 147, 3)) mq_193 ci_193 (List.mem_append_left _ (show _ ∈ my_193_0 from List.mem_of_getElem? (i := 26) rfl))
theorem cd_193_47 : mt_cd 193 47 = some (.getfield 496) := mt_cd_of (q := (47, .getfield 496, 3)) mq_193 ci_193 (List.mem_append_left _ (show _ ∈ my_193_0 from List.mem_of_getElem? (i := 27) rfl))
theorem cd_193_50 : mt_cd 193 50 = some (.invokevirtual 557) := mt_cd_of (q := (50, .invokevirtual 557, 3)) mq_193 ci_193 (List.mem_append_left _ (show _ ∈ my_193_0 from List.mem_of_getElem? (i := 28) rfl))
theorem cd_193_53 : mt_cd 193 53 = some (.ifCond .eq 5) := mt_cd_of (q := (53, .ifCond .eq 5, 3)) mq_193 ci_193 (List.mem_append_left _ (show _ ∈ my_193_0 from List.mem_of_getElem? (i := 29) rfl))
theorem cd_193_56 : mt_cd 193 56 = some (.iconst 3) := mt_cd_of (q := (56, .iconst 3, 1)) mq_193 ci_193 (List.mem_append_left _ (show _ ∈ my_193_0 from List.mem_of_getElem? (i := 30) rfl))
theorem cd_193_57 : mt_cd 193 57 = some (.ireturn) := mt_cd_of (q := (57, .ireturn, 1)) mq_193 ci_193 (List.mem_append_left _ (show _ ∈ my_193_0 from List.mem_of_getElem? (i := 31) rfl))
theorem cd_193_58 : mt_cd 193 58 = some (.aload_n 0) := mt_cd_of (q := (58, .aload_n 0, 1)) mq_193 ci_193 (List.mem_append_left _ (show _ ∈ my_193_0 from List.mem_of_getElem? (i := 32) rfl))
theorem cd_193_59 : mt_cd 193 59 = some (.iconst 0) := mt_cd_of (q := (59, .iconst 0, 1)) mq_193 ci_193 (List.mem_append_left _ (show _ ∈ my_193_0 from List.mem_of_getElem? (i := 33) rfl))
theorem cd_193_60 : mt_cd 193 60 = some (.putfield 513) := mt_cd_of (q := (60, .putfield 513, 3)) mq_193 ci_193 (List.mem_append_left _ (show _ ∈ my_193_0 from List.mem_of_getElem? (i := 34) rfl))
theorem cd_193_63 : mt_cd 193 63 = some (.aload_n 0) := mt_cd_of (q := (63, .aload_n 0, 1)) mq_193 ci_193 (List.mem_append_left _ (show _ ∈ my_193_0 from List.mem_of_getElem? (i := 35) rfl))
theorem cd_193_64 : mt_cd 193 64 = some (.getfield 258) := mt_cd_of (q := (64, .getfield 258, 3)) mq_193 ci_193 (List.mem_append_left _ (show _ ∈ my_193_0 from List.mem_of_getElem? (i := 36) rfl))
theorem cd_193_67 : mt_cd 193 67 = some (.istore_n 1) := mt_cd_of (q := (67, .istore_n 1, 1)) mq_193 ci_193 (List.mem_append_left _ (show _ ∈ my_193_0 from List.mem_of_getElem? (i := 37) rfl))
theorem cd_193_68 : mt_cd 193 68 = some (.iconst 0) := mt_cd_of (q := (68, .iconst 0, 1)) mq_193 ci_193 (List.mem_append_left _ (show _ ∈ my_193_0 from List.mem_of_getElem? (i := 38) rfl))
theorem cd_193_69 : mt_cd 193 69 = some (.istore_n 2) := mt_cd_of (q := (69, .istore_n 2, 1)) mq_193 ci_193 (List.mem_append_left _ (show _ ∈ my_193_0 from List.mem_of_getElem? (i := 39) rfl))
theorem cd_193_70 : mt_cd 193 70 = some (.iload_n 2) := mt_cd_of (q := (70, .iload_n 2, 1)) mq_193 ci_193 (List.mem_append_left _ (show _ ∈ my_193_0 from List.mem_of_getElem? (i := 40) rfl))
theorem cd_193_71 : mt_cd 193 71 = some (.iload_n 1) := mt_cd_of (q := (71, .iload_n 1, 1)) mq_193 ci_193 (List.mem_append_left _ (show _ ∈ my_193_0 from List.mem_of_getElem? (i := 41) rfl))
theorem cd_193_72 : mt_cd 193 72 = some (.if_icmp .ge 69) := mt_cd_of (q := (72, .if_icmp .ge 69, 3)) mq_193 ci_193 (List.mem_append_left _ (show _ ∈ my_193_0 from List.mem_of_getElem? (i := 42) rfl))
theorem cd_193_75 : mt_cd 193 75 = some (.aload_n 0) := mt_cd_of (q := (75, .aload_n 0, 1)) mq_193 ci_193 (List.mem_append_left _ (show _ ∈ my_193_0 from List.mem_of_getElem? (i := 43) rfl))
theorem cd_193_76 : mt_cd 193 76 = some (.getfield 233) := mt_cd_of (q := (76, .getfield 233, 3)) mq_193 ci_193 (List.mem_append_left _ (show _ ∈ my_193_0 from List.mem_of_getElem? (i := 44) rfl))
theorem cd_193_79 : mt_cd 193 79 = some (.iload_n 2) := mt_cd_of (q := (79, .iload_n 2, 1)) mq_193 ci_193 (List.mem_append_left _ (show _ ∈ my_193_0 from List.mem_of_getElem? (i := 45) rfl))
theorem cd_193_80 : mt_cd 193 80 = some (.aload_n 0) := mt_cd_of (q := (80, .aload_n 0, 1)) mq_193 ci_193 (List.mem_append_left _ (show _ ∈ my_193_0 from List.mem_of_getElem? (i := 46) rfl))
theorem cd_193_81 : mt_cd 193 81 = some (.getfield 178) := mt_cd_of (q := (81, .getfield 178, 3)) mq_193 ci_193 (List.mem_append_left _ (show _ ∈ my_193_0 from List.mem_of_getElem? (i := 47) rfl))
theorem cd_193_84 : mt_cd 193 84 = some (.iload_n 2) := mt_cd_of (q := (84, .iload_n 2, 1)) mq_193 ci_193 (List.mem_append_left _ (show _ ∈ my_193_0 from List.mem_of_getElem? (i := 48) rfl))
theorem cd_193_85 : mt_cd 193 85 = some (.iaload) := mt_cd_of (q := (85, .iaload, 1)) mq_193 ci_193 (List.mem_append_left _ (show _ ∈ my_193_0 from List.mem_of_getElem? (i := 49) rfl))
theorem cd_193_86 : mt_cd 193 86 = some (.iastore) := mt_cd_of (q := (86, .iastore, 1)) mq_193 ci_193 (List.mem_append_left _ (show _ ∈ my_193_0 from List.mem_of_getElem? (i := 50) rfl))
theorem cd_193_87 : mt_cd 193 87 = some (.aload_n 0) := mt_cd_of (q := (87, .aload_n 0, 1)) mq_193 ci_193 (List.mem_append_left _ (show _ ∈ my_193_0 from List.mem_of_getElem? (i := 51) rfl))
theorem cd_193_88 : mt_cd 193 88 = some (.getfield 236) := mt_cd_of (q := (88, .getfield 236, 3)) mq_193 ci_193 (List.mem_append_left _ (show _ ∈ my_193_0 from List.mem_of_getElem? (i := 52) rfl))
theorem cd_193_91 : mt_cd 193 91 = some (.iload_n 2) := mt_cd_of (q := (91, .iload_n 2, 1)) mq_193 ci_193 (List.mem_append_left _ (show _ ∈ my_193_0 from List.mem_of_getElem? (i := 53) rfl))
theorem cd_193_92 : mt_cd 193 92 = some (.aload_n 0) := mt_cd_of (q := (92, .aload_n 0, 1)) mq_193 ci_193 (List.mem_append_left _ (show _ ∈ my_193_0 from List.mem_of_getElem? (i := 54) rfl))
theorem cd_193_93 : mt_cd 193 93 = some (.getfield 181) := mt_cd_of (q := (93, .getfield 181, 3)) mq_193 ci_193 (List.mem_append_left _ (show _ ∈ my_193_0 from List.mem_of_getElem? (i := 55) rfl))
theorem cd_193_96 : mt_cd 193 96 = some (.iload_n 2) := mt_cd_of (q := (96, .iload_n 2, 1)) mq_193 ci_193 (List.mem_append_left _ (show _ ∈ my_193_0 from List.mem_of_getElem? (i := 56) rfl))
theorem cd_193_97 : mt_cd 193 97 = some (.iaload) := mt_cd_of (q := (97, .iaload, 1)) mq_193 ci_193 (List.mem_append_left _ (show _ ∈ my_193_0 from List.mem_of_getElem? (i := 57) rfl))
theorem cd_193_98 : mt_cd 193 98 = some (.iastore) := mt_cd_of (q := (98, .iastore, 1)) mq_193 ci_193 (List.mem_append_left _ (show _ ∈ my_193_0 from List.mem_of_getElem? (i := 58) rfl))
theorem cd_193_99 : mt_cd 193 99 = some (.aload_n 0) := mt_cd_of (q := (99, .aload_n 0, 1)) mq_193 ci_193 (List.mem_append_left _ (show _ ∈ my_193_0 from List.mem_of_getElem? (i := 59) rfl))
theorem cd_193_100 : mt_cd 193 100 = some (.getfield 239) := mt_cd_of (q := (100, .getfield 239, 3)) mq_193 ci_193 (List.mem_append_right _ (List.mem_append_left _ (show _ ∈ my_193_1 from List.mem_of_getElem? (i := 0) rfl)))
theorem cd_193_103 : mt_cd 193 103 = some (.iload_n 2) := mt_cd_of (q := (103, .iload_n 2, 1)) mq_193 ci_193 (List.mem_append_right _ (List.mem_append_left _ (show _ ∈ my_193_1 from List.mem_of_getElem? (i := 1) rfl)))
theorem cd_193_104 : mt_cd 193 104 = some (.aload_n 0) := mt_cd_of (q := (104, .aload_n 0, 1)) mq_193 ci_193 (List.mem_append_right _ (List.mem_append_left _ (show _ ∈ my_193_1 from List.mem_of_getElem? (i := 2) rfl)))
theorem cd_193_105 : mt_cd 193 105 = some (.getfield 184) := mt_cd_of (q := (105, .getfield 184, 3)) mq_193 ci_193 (List.mem_append_right _ (List.mem_append_left _ (show _ ∈ my_193_1 from List.mem_of_getElem? (i := 3) rfl)))
theorem cd_193_108 : mt_cd 193 108 = some (.iload_n 2) := mt_cd_of (q := (108, .iload_n 2, 1)) mq_193 ci_193 (List.mem_append_right _ (List.mem_append_left _ (show _ ∈ my_193_1 from List.mem_of_getElem? (i := 4) rfl)))
theorem cd_193_109 : mt_cd 193 109 = some (.iaload) := mt_cd_of (q := (109, .iaload, 1)) mq_193 ci_193 (List.mem_append_right _ (List.mem_append_left _ (show _ ∈ my_193_1 from List.mem_of_getElem? (i := 5) rfl)))
theorem cd_193_110 : mt_cd 193 110 = some (.iastore) := mt_cd_of (q := (110, .iastore, 1)) mq_193 ci_193 (List.mem_append_right _ (List.mem_append_left _ (show _ ∈ my_193_1 from List.mem_of_getElem? (i := 6) rfl)))
theorem cd_193_111 : mt_cd 193 111 = some (.aload_n 0) := mt_cd_of (q := (111, .aload_n 0, 1)) mq_193 ci_193 (List.mem_append_right _ (List.mem_append_left _ (show _ ∈ my_193_1 from List.mem_of_getElem? (i := 7) rfl)))
theorem cd_193_112 : mt_cd 193 112 = some (.getfield 242) := mt_cd_of (q := (112, .getfield 242, 3)) mq_193 ci_193 (List.mem_append_right _ (List.mem_append_left _ (show _ ∈ my_193_1 from List.mem_of_getElem? (i := 8) rfl)))
theorem cd_193_115 : mt_cd 193 115 = some (.iload_n 2) := mt_cd_of (q := (115, .iload_n 2, 1)) mq_193 ci_193 (List.mem_append_right _ (List.mem_append_left _ (show _ ∈ my_193_1 from List.mem_of_getElem? (i := 9) rfl)))
theorem cd_193_116 : mt_cd 193 116 = some (.aload_n 0) := mt_cd_of (q := (116, .aload_n 0, 1)) mq_193 ci_193 (List.mem_append_right _ (List.mem_append_left _ (show _ ∈ my_193_1 from List.mem_of_getElem? (i := 10) rfl)))
theorem cd_193_117 : mt_cd 193 117 = some (.getfield 187) := mt_cd_of (q := (117, .getfield 187, 3)) mq_193 ci_193 (List.mem_append_right _ (List.mem_append_left _ (show _ ∈ my_193_1 from List.mem_of_getElem? (i := 11) rfl)))
theorem cd_193_120 : mt_cd 193 120 = some (.iload_n 2) := mt_cd_of (q := (120, .iload_n 2, 1)) mq_193 ci_193 (List.mem_append_right _ (List.mem_append_left _ (show _ ∈ my_193_1 from List.mem_of_getElem? (i := 12) rfl)))
theorem cd_193_121 : mt_cd 193 121 = some (.iaload) := mt_cd_of (q := (121, .iaload, 1)) mq_193 ci_193 (List.mem_append_right _ (List.mem_append_left _ (show _ ∈ my_193_1 from List.mem_of_getElem? (i := 13) rfl)))
theorem cd_193_122 : mt_cd 193 122 = some (.iastore) := mt_cd_of (q := (122, .iastore, 1)) mq_193 ci_193 (List.mem_append_right _ (List.mem_append_left _ (show _ ∈ my_193_1 from List.mem_of_getElem? (i := 14) rfl)))
theorem cd_193_123 : mt_cd 193 123 = some (.aload_n 0) := mt_cd_of (q := (123, .aload_n 0, 1)) mq_193 ci_193 (List.mem_append_right _ (List.mem_append_left _ (show _ ∈ my_193_1 from List.mem_of_getElem? (i := 15) rfl)))
theorem cd_193_124 : mt_cd 193 124 = some (.getfield 245) := mt_cd_of (q := (124, .getfield 245, 3)) mq_193 ci_193 (List.mem_append_right _ (List.mem_append_left _ (show _ ∈ my_193_1 from List.mem_of_getElem? (i := 16) rfl)))
theorem cd_193_127 : mt_cd 193 127 = some (.iload_n 2) := mt_cd_of (q := (127, .iload_n 2, 1)) mq_193 ci_193 (List.mem_append_right _ (List.mem_append_left _ (show _ ∈ my_193_1 from List.mem_of_getElem? (i := 17) rfl)))
theorem cd_193_128 : mt_cd 193 128 = some (.aload_n 0) := mt_cd_of (q := (128, .aload_n 0, 1)) mq_193 ci_193 (List.mem_append_right _ (List.mem_append_left _ (show _ ∈ my_193_1 from List.mem_of_getElem? (i := 18) rfl)))
theorem cd_193_129 : mt_cd 193 129 = some (.getfield 190) := mt_cd_of (q := (129, .getfield 190, 3)) mq_193 ci_193 (List.mem_append_right _ (List.mem_append_left _ (show _ ∈ my_193_1 from List.mem_of_getElem? (i := 19) rfl)))
theorem cd_193_132 : mt_cd 193 132 = some (.iload_n 2) := mt_cd_of (q := (132, .iload_n 2, 1)) mq_193 ci_193 (List.mem_append_right _ (List.mem_append_left _ (show _ ∈ my_193_1 from List.mem_of_getElem? (i := 20) rfl)))
theorem cd_193_133 : mt_cd 193 133 = some (.laload) := mt_cd_of (q := (133, .laload, 1)) mq_193 ci_193 (List.mem_append_right _ (List.mem_append_left _ (show _ ∈ my_193_1 from List.mem_of_getElem? (i := 21) rfl)))
theorem cd_193_134 : mt_cd 193 134 = some (.lastore) := mt_cd_of (q := (134, .lastore, 1)) mq_193 ci_193 (List.mem_append_right _ (List.mem_append_left _ (show _ ∈ my_193_1 from List.mem_of_getElem? (i := 22) rfl)))
theorem cd_193_135 : mt_cd 193 135 = some (.iinc 2 1) := mt_cd_of (q := (135, .iinc 2 1, 3)) mq_193 ci_193 (List.mem_append_right _ (List.mem_append_left _ (show _ ∈ my_193_1 from List.mem_of_getElem? (i := 23) rfl)))
theorem cd_193_138 : mt_cd 193 138 = some (.goto (-68)) := mt_cd_of (q := (138, .goto (-68), 3)) mq_193 ci_193 (List.mem_append_right _ (List.mem_append_left _ (show _ ∈ my_193_1 from List.mem_of_getElem? (i := 24) rfl)))
theorem cd_193_141 : mt_cd 193 141 = some (.aload_n 0) := mt_cd_of (q := (141, .aload_n 0, 1)) mq_193 ci_193 (List.mem_append_right _ (List.mem_append_left _ (show _ ∈ my_193_1 from List.mem_of_getElem? (i := 25) rfl)))
theorem cd_193_142 : mt_cd 193 142 = some (.aload_n 0) := mt_cd_of (q := (142, .aload_n 0, 1)) mq_193 ci_193 (List.mem_append_right _ (List.mem_append_left _ (show _ ∈ my_193_1 from List.mem_of_getElem? (i := 26) rfl)))
theorem cd_193_143 : mt_cd 193 143 = some (.getfield 147) := mt_cd_of (q := (143, .getfield 147, 3)) mq_193 ci_193 (List.mem_append_right _ (List.mem_append_left _ (show _ ∈ my_193_1 from List.mem_of_getElem? (i := 27) rfl)))
theorem cd_193_146 : mt_cd 193 146 = some (.invokevirtual 571) := mt_cd_of (q := (146, .invokevirtual 571, 3)) mq_193 ci_193 (List.mem_append_right _ (List.mem_append_left _ (show _ ∈ my_193_1 from List.mem_of_getElem? (i := 28) rfl)))
theorem cd_193_149 : mt_cd 193 149 = some (.istore_n 2) := mt_cd_of (q := (149, .istore_n 2, 1)) mq_193 ci_193 (List.mem_append_right _ (List.mem_append_left _ (show _ ∈ my_193_1 from List.mem_of_getElem? (i := 29) rfl)))
theorem cd_193_150 : mt_cd 193 150 = some (.aload_n 0) := mt_cd_of (q := (150, .aload_n 0, 1)) mq_193 ci_193 (List.mem_append_right _ (List.mem_append_left _ (show _ ∈ my_193_1 from List.mem_of_getElem? (i := 30) rfl)))
theorem cd_193_151 : mt_cd 193 151 = some (.iload_n 1) := mt_cd_of (q := (151, .iload_n 1, 1)) mq_193 ci_193 (List.mem_append_right _ (List.mem_append_left _ (show _ ∈ my_193_1 from List.mem_of_getElem? (i := 31) rfl)))
theorem cd_193_152 : mt_cd 193 152 = some (.putfield 258) := mt_cd_of (q := (152, .putfield 258, 3)) mq_193 ci_193 (List.mem_append_right _ (List.mem_append_left _ (show _ ∈ my_193_1 from List.mem_of_getElem? (i := 32) rfl)))
theorem cd_193_155 : mt_cd 193 155 = some (.iconst 0) := mt_cd_of (q := (155, .iconst 0, 1)) mq_193 ci_193 (List.mem_append_right _ (List.mem_append_left _ (show _ ∈ my_193_1 from List.mem_of_getElem? (i := 33) rfl)))
theorem cd_193_156 : mt_cd 193 156 = some (.istore_n 3) := mt_cd_of (q := (156, .istore_n 3, 1)) mq_193 ci_193 (List.mem_append_right _ (List.mem_append_left _ (show _ ∈ my_193_1 from List.mem_of_getElem? (i := 34) rfl)))
theorem cd_193_157 : mt_cd 193 157 = some (.iload_n 3) := mt_cd_of (q := (157, .iload_n 3, 1)) mq_193 ci_193 (List.mem_append_right _ (List.mem_append_left _ (show _ ∈ my_193_1 from List.mem_of_getElem? (i := 35) rfl)))
theorem cd_193_158 : mt_cd 193 158 = some (.iload_n 1) := mt_cd_of (q := (158, .iload_n 1, 1)) mq_193 ci_193 (List.mem_append_right _ (List.mem_append_left _ (show _ ∈ my_193_1 from List.mem_of_getElem? (i := 36) rfl)))
theorem cd_193_159 : mt_cd 193 159 = some (.if_icmp .ge 69) := mt_cd_of (q := (159, .if_icmp .ge 69, 3)) mq_193 ci_193 (List.mem_append_right _ (List.mem_append_left _ (show _ ∈ my_193_1 from List.mem_of_getElem? (i := 37) rfl)))
theorem cd_193_162 : mt_cd 193 162 = some (.aload_n 0) := mt_cd_of (q := (162, .aload_n 0, 1)) mq_193 ci_193 (List.mem_append_right _ (List.mem_append_left _ (show _ ∈ my_193_1 from List.mem_of_getElem? (i := 38) rfl)))
theorem cd_193_163 : mt_cd 193 163 = some (.getfield 178) := mt_cd_of (q := (163, .getfield 178, 3)) mq_193 ci_193 (List.mem_append_right _ (List.mem_append_left _ (show _ ∈ my_193_1 from List.mem_of_getElem? (i := 39) rfl)))
theorem cd_193_166 : mt_cd 193 166 = some (.iload_n 3) := mt_cd_of (q := (166, .iload_n 3, 1)) mq_193 ci_193 (List.mem_append_right _ (List.mem_append_left _ (show _ ∈ my_193_1 from List.mem_of_getElem? (i := 40) rfl)))
theorem cd_193_167 : mt_cd 193 167 = some (.aload_n 0) := mt_cd_of (q := (167, .aload_n 0, 1)) mq_193 ci_193 (List.mem_append_right _ (List.mem_append_left _ (show _ ∈ my_193_1 from List.mem_of_getElem? (i := 41) rfl)))
theorem cd_193_168 : mt_cd 193 168 = some (.getfield 233) := mt_cd_of (q := (168, .getfield 233, 3)) mq_193 ci_193 (List.mem_append_right _ (List.mem_append_left _ (show _ ∈ my_193_1 from List.mem_of_getElem? (i := 42) rfl)))
theorem cd_193_171 : mt_cd 193 171 = some (.iload_n 3) := mt_cd_of (q := (171, .iload_n 3, 1)) mq_193 ci_193 (List.mem_append_right _ (List.mem_append_left _ (show _ ∈ my_193_1 from List.mem_of_getElem? (i := 43) rfl)))
theorem cd_193_172 : mt_cd 193 172 = some (.iaload) := mt_cd_of (q := (172, .iaload, 1)) mq_193 ci_193 (List.mem_append_right _ (List.mem_append_left _ (show _ ∈ my_193_1 from List.mem_of_getElem? (i := 44) rfl)))
theorem cd_193_173 : mt_cd 193 173 = some (.iastore) := mt_cd_of (q := (173, .iastore, 1)) mq_193 ci_193 (List.mem_append_right _ (List.mem_append_left _ (show _ ∈ my_193_1 from List.mem_of_getElem? (i := 45) rfl)))
theorem cd_193_174 : mt_cd 193 174 = some (.aload_n 0) := mt_cd_of (q := (174, .aload_n 0, 1)) mq_193 ci_193 (List.mem_append_right _ (List.mem_append_left _ (show _ ∈ my_193_1 from List.mem_of_getElem? (i := 46) rfl)))
theorem cd_193_175 : mt_cd 193 175 = some (.getfield 181) := mt_cd_of (q := (175, .getfield 181, 3)) mq_193 ci_193 (List.mem_append_right _ (List.mem_append_left _ (show _ ∈ my_193_1 from List.mem_of_getElem? (i := 47) rfl)))
theorem cd_193_178 : mt_cd 193 178 = some (.iload_n 3) := mt_cd_of (q := (178, .iload_n 3, 1)) mq_193 ci_193 (List.mem_append_right _ (List.mem_append_left _ (show _ ∈ my_193_1 from List.mem_of_getElem? (i := 48) rfl)))
theorem cd_193_179 : mt_cd 193 179 = some (.aload_n 0) := mt_cd_of (q := (179, .aload_n 0, 1)) mq_193 ci_193 (List.mem_append_right _ (List.mem_append_left _ (show _ ∈ my_193_1 from List.mem_of_getElem? (i := 49) rfl)))
theorem cd_193_180 : mt_cd 193 180 = some (.getfield 236) := mt_cd_of (q := (180, .getfield 236, 3)) mq_193 ci_193 (List.mem_append_right _ (List.mem_append_left _ (show _ ∈ my_193_1 from List.mem_of_getElem? (i := 50) rfl)))
theorem cd_193_183 : mt_cd 193 183 = some (.iload_n 3) := mt_cd_of (q := (183, .iload_n 3, 1)) mq_193 ci_193 (List.mem_append_right _ (List.mem_append_left _ (show _ ∈ my_193_1 from List.mem_of_getElem? (i := 51) rfl)))
theorem cd_193_184 : mt_cd 193 184 = some (.iaload) := mt_cd_of (q := (184, .iaload, 1)) mq_193 ci_193 (List.mem_append_right _ (List.mem_append_left _ (show _ ∈ my_193_1 from List.mem_of_getElem? (i := 52) rfl)))
theorem cd_193_185 : mt_cd 193 185 = some (.iastore) := mt_cd_of (q := (185, .iastore, 1)) mq_193 ci_193 (List.mem_append_right _ (List.mem_append_left _ (show _ ∈ my_193_1 from List.mem_of_getElem? (i := 53) rfl)))
theorem cd_193_186 : mt_cd 193 186 = some (.aload_n 0) := mt_cd_of (q := (186, .aload_n 0, 1)) mq_193 ci_193 (List.mem_append_right _ (List.mem_append_left _ (show _ ∈ my_193_1 from List.mem_of_getElem? (i := 54) rfl)))
theorem cd_193_187 : mt_cd 193 187 = some (.getfield 184) := mt_cd_of (q := (187, .getfield 184, 3)) mq_193 ci_193 (List.mem_append_right _ (List.mem_append_left _ (show _ ∈ my_193_1 from List.mem_of_getElem? (i := 55) rfl)))
theorem cd_193_190 : mt_cd 193 190 = some (.iload_n 3) := mt_cd_of (q := (190, .iload_n 3, 1)) mq_193 ci_193 (List.mem_append_right _ (List.mem_append_left _ (show _ ∈ my_193_1 from List.mem_of_getElem? (i := 56) rfl)))
theorem cd_193_191 : mt_cd 193 191 = some (.aload_n 0) := mt_cd_of (q := (191, .aload_n 0, 1)) mq_193 ci_193 (List.mem_append_right _ (List.mem_append_left _ (show _ ∈ my_193_1 from List.mem_of_getElem? (i := 57) rfl)))
theorem cd_193_192 : mt_cd 193 192 = some (.getfield 239) := mt_cd_of (q := (192, .getfield 239, 3)) mq_193 ci_193 (List.mem_append_right _ (List.mem_append_left _ (show _ ∈ my_193_1 from List.mem_of_getElem? (i := 58) rfl)))
theorem cd_193_195 : mt_cd 193 195 = some (.iload_n 3) := mt_cd_of (q := (195, .iload_n 3, 1)) mq_193 ci_193 (List.mem_append_right _ (List.mem_append_left _ (show _ ∈ my_193_1 from List.mem_of_getElem? (i := 59) rfl)))
theorem cd_193_196 : mt_cd 193 196 = some (.iaload) := mt_cd_of (q := (196, .iaload, 1)) mq_193 ci_193 (List.mem_append_right _ (List.mem_append_right _ ((show _ ∈ my_193_2 from List.mem_of_getElem? (i := 0) rfl))))
theorem cd_193_197 : mt_cd 193 197 = some (.iastore) := mt_cd_of (q := (197, .iastore, 1)) mq_193 ci_193 (List.mem_append_right _ (List.mem_append_right _ ((show _ ∈ my_193_2 from List.mem_of_getElem? (i := 1) rfl))))
theorem cd_193_198 : mt_cd 193 198 = some (.aload_n 0) := mt_cd_of (q := (198, .aload_n 0, 1)) mq_193 ci_193 (List.mem_append_right _ (List.mem_append_right _ ((show _ ∈ my_193_2 from List.mem_of_getElem? (i := 2) rfl))))
theorem cd_193_199 : mt_cd 193 199 = some (.getfield 187) := mt_cd_of (q := (199, .getfield 187, 3)) mq_193 ci_193 (List.mem_append_right _ (List.mem_append_right _ ((show _ ∈ my_193_2 from List.mem_of_getElem? (i := 3) rfl))))
theorem cd_193_202 : mt_cd 193 202 = some (.iload_n 3) := mt_cd_of (q := (202, .iload_n 3, 1)) mq_193 ci_193 (List.mem_append_right _ (List.mem_append_right _ ((show _ ∈ my_193_2 from List.mem_of_getElem? (i := 4) rfl))))
theorem cd_193_203 : mt_cd 193 203 = some (.aload_n 0) := mt_cd_of (q := (203, .aload_n 0, 1)) mq_193 ci_193 (List.mem_append_right _ (List.mem_append_right _ ((show _ ∈ my_193_2 from List.mem_of_getElem? (i := 5) rfl))))
theorem cd_193_204 : mt_cd 193 204 = some (.getfield 242) := mt_cd_of (q := (204, .getfield 242, 3)) mq_193 ci_193 (List.mem_append_right _ (List.mem_append_right _ ((show _ ∈ my_193_2 from List.mem_of_getElem? (i := 6) rfl))))
theorem cd_193_207 : mt_cd 193 207 = some (.iload_n 3) := mt_cd_of (q := (207, .iload_n 3, 1)) mq_193 ci_193 (List.mem_append_right _ (List.mem_append_right _ ((show _ ∈ my_193_2 from List.mem_of_getElem? (i := 7) rfl))))
theorem cd_193_208 : mt_cd 193 208 = some (.iaload) := mt_cd_of (q := (208, .iaload, 1)) mq_193 ci_193 (List.mem_append_right _ (List.mem_append_right _ ((show _ ∈ my_193_2 from List.mem_of_getElem? (i := 8) rfl))))
theorem cd_193_209 : mt_cd 193 209 = some (.iastore) := mt_cd_of (q := (209, .iastore, 1)) mq_193 ci_193 (List.mem_append_right _ (List.mem_append_right _ ((show _ ∈ my_193_2 from List.mem_of_getElem? (i := 9) rfl))))
theorem cd_193_210 : mt_cd 193 210 = some (.aload_n 0) := mt_cd_of (q := (210, .aload_n 0, 1)) mq_193 ci_193 (List.mem_append_right _ (List.mem_append_right _ ((show _ ∈ my_193_2 from List.mem_of_getElem? (i := 10) rfl))))
theorem cd_193_211 : mt_cd 193 211 = some (.getfield 190) := mt_cd_of (q := (211, .getfield 190, 3)) mq_193 ci_193 (List.mem_append_right _ (List.mem_append_right _ ((show _ ∈ my_193_2 from List.mem_of_getElem? (i := 11) rfl))))
theorem cd_193_214 : mt_cd 193 214 = some (.iload_n 3) := mt_cd_of (q := (214, .iload_n 3, 1)) mq_193 ci_193 (List.mem_append_right _ (List.mem_append_right _ ((show _ ∈ my_193_2 from List.mem_of_getElem? (i := 12) rfl))))
theorem cd_193_215 : mt_cd 193 215 = some (.aload_n 0) := mt_cd_of (q := (215, .aload_n 0, 1)) mq_193 ci_193 (List.mem_append_right _ (List.mem_append_right _ ((show _ ∈ my_193_2 from List.mem_of_getElem? (i := 13) rfl))))
theorem cd_193_216 : mt_cd 193 216 = some (.getfield 245) := mt_cd_of (q := (216, .getfield 245, 3)) mq_193 ci_193 (List.mem_append_right _ (List.mem_append_right _ ((show _ ∈ my_193_2 from List.mem_of_getElem? (i := 14) rfl))))
theorem cd_193_219 : mt_cd 193 219 = some (.iload_n 3) := mt_cd_of (q := (219, .iload_n 3, 1)) mq_193 ci_193 (List.mem_append_right _ (List.mem_append_right _ ((show _ ∈ my_193_2 from List.mem_of_getElem? (i := 15) rfl))))
theorem cd_193_220 : mt_cd 193 220 = some (.laload) := mt_cd_of (q := (220, .laload, 1)) mq_193 ci_193 (List.mem_append_right _ (List.mem_append_right _ ((show _ ∈ my_193_2 from List.mem_of_getElem? (i := 16) rfl))))
theorem cd_193_221 : mt_cd 193 221 = some (.lastore) := mt_cd_of (q := (221, .lastore, 1)) mq_193 ci_193 (List.mem_append_right _ (List.mem_append_right _ ((show _ ∈ my_193_2 from List.mem_of_getElem? (i := 17) rfl))))
theorem cd_193_222 : mt_cd 193 222 = some (.iinc 3 1) := mt_cd_of (q := (222, .iinc 3 1, 3)) mq_193 ci_193 (List.mem_append_right _ (List.mem_append_right _ ((show _ ∈ my_193_2 from List.mem_of_getElem? (i := 18) rfl))))
theorem cd_193_225 : mt_cd 193 225 = some (.goto (-68)) := mt_cd_of (q := (225, .goto (-68), 3)) mq_193 ci_193 (List.mem_append_right _ (List.mem_append_right _ ((show _ ∈ my_193_2 from List.mem_of_getElem? (i := 19) rfl))))
theorem cd_193_228 : mt_cd 193 228 = some (.iload_n 2) := mt_cd_of (q := (228, .iload_n 2, 1)) mq_193 ci_193 (List.mem_append_right _ (List.mem_append_right _ ((show _ ∈ my_193_2 from List.mem_of_getElem? (i := 20) rfl))))
theorem cd_193_229 : mt_cd 193 229 = some (.ireturn) := mt_cd_of (q := (229, .ireturn, 1)) mq_193 ci_193 (List.mem_append_right _ (List.mem_append_right _ ((show _ ∈ my_193_2 from List.mem_of_getElem? (i := 21) rfl))))
theorem b_193_0 {d : Nat} {Q : (Option Value ⊕ Nat) → mi_H → Prop} (n sl : Nat) (f : Nat → mi_C) {l1 : Nat} {o2 : Option Value} {o3 : Option Value} {o4 : Option Value} {fs5 : List Value} {fs9 : List Value} {x12 : Int32} (h6 : f l1 = .inr (12, fs5)) (h7 : l1 < n) (h8 : 0 < fs5.length) (h10 : (va_up f l1 (.inr (12, fs5.set 0 (.int 0)))) l1 = .inr (12, fs9)) (h11 : l1 < n) (h13 : fs9[4]? = some (.int x12)) (h14 : (0 : Int32) ≤ x12 → mi_W d 193 17 [some (.ref l1), o2, o3, o4] [.ref l1] (n, sl, (va_up f l1 (.inr (12, fs5.set 0 (.int 0))))) Q) (h15 : ¬ ((0 : Int32) ≤ x12) → mi_W d 193 13 [some (.ref l1), o2, o3, o4] [.ref l1] (n, sl, (va_up f l1 (.inr (12, fs5.set 0 (.int 0))))) Q) : mi_W d 193 0 [some (.ref l1), o2, o3, o4] [] (n, sl, f) Q := by
  refine w_aload_n cd_193_0 rfl ?_
  refine w_iconst (v := 0) cd_193_1 (by decide) ?_
  refine w_putfield (w := .int 0) cd_193_2 (show mt_f 12 248 = some (12, 0) by decide +kernel) h6 h7 ⟨h8, rfl, Or.inl (by decide)⟩ ?_
  refine w_aload_n cd_193_5 rfl ?_
  refine w_aload_n cd_193_6 rfl ?_
  refine w_getfield cd_193_7 (show mt_f 12 13 = some (12, 4) by decide +kernel) h10 h11 h13 ?_
  exact w_ifge cd_193_10 (by decide) h14 h15
theorem b_193_13 {d : Nat} {Q : (Option Value ⊕ Nat) → mi_H → Prop} (n sl : Nat) (f : Nat → mi_C) {l1 : Nat} {o2 : Option Value} {o3 : Option Value} {o4 : Option Value} {s5 : Nat} (h6 : mi_W d 193 18 [some (.ref l1), o2, o3, o4] [.int 1, .ref s5] (n, sl, f) Q) : mi_W d 193 13 [some (.ref l1), o2, o3, o4] [.ref s5] (n, sl, f) Q := by
  refine w_iconst (v := 1) cd_193_13 (by decide) ?_
  exact w_goto cd_193_14 (by decide) h6
theorem b_193_17 {d : Nat} {Q : (Option Value ⊕ Nat) → mi_H → Prop} (n sl : Nat) (f : Nat → mi_C) {l1 : Nat} {o2 : Option Value} {o3 : Option Value} {o4 : Option Value} {s5 : Nat} (h6 : mi_W d 193 18 [some (.ref l1), o2, o3, o4] [.int 0, .ref s5] (n, sl, f) Q) : mi_W d 193 17 [some (.ref l1), o2, o3, o4] [.ref s5] (n, sl, f) Q := by
  refine w_iconst (v := 0) cd_193_17 (by decide) ?_
  exact h6
theorem b_193_18 {d : Nat} {Q : (Option Value ⊕ Nat) → mi_H → Prop} (n sl : Nat) (f : Nat → mi_C) {l1 : Nat} {o2 : Option Value} {o3 : Option Value} {o4 : Option Value} {s5 : Int32} {s6 : Nat} {fs7 : List Value} (h8 : f s6 = .inr (12, fs7)) (h9 : s6 < n) (h10 : mi_W d 139 0 (mi_en 3 [.ref s6, .int s5, .int 1]) [] (n, sl, f) (mi_Kc d 193 19 [some (.ref l1), o2, o3, o4] [] Q)) : mi_W (d + 1) 193 18 [some (.ref l1), o2, o3, o4] [.int s5, .ref s6] (n, sl, f) Q := by
  refine w_iconst (v := 1) cd_193_18 (by decide) ?_
  exact w_invokevirtual cd_193_19 (show mt_m 12 254 = some (139, 0) by decide +kernel) (rest := []) rfl (as := [.ref s6, .int s5, .int 1]) rfl h8 (Or.inl h9) ⟨Nat.le_of_ble_eq_true rfl, Nat.le_of_ble_eq_true rfl, Nat.le_of_ble_eq_true rfl⟩ h10
theorem b_193_22 {d : Nat} {Q : (Option Value ⊕ Nat) → mi_H → Prop} (n sl : Nat) (f : Nat → mi_C) {l1 : Nat} {o2 : Option Value} {o3 : Option Value} {o4 : Option Value} {s5 : Int32} (h6 : s5 = (0 : Int32) → mi_W d 193 27 [some (.ref l1), o2, o3, o4] [] (n, sl, f) Q) (h7 : ¬ (s5 = (0 : Int32)) → mi_W d 193 25 [some (.ref l1), o2, o3, o4] [] (n, sl, f) Q) : mi_W d 193 22 [some (.ref l1), o2, o3, o4] [.int s5] (n, sl, f) Q := by
  exact w_ifeq cd_193_22 (by decide) h6 h7
theorem b_193_25 {d : Nat} {Q : (Option Value ⊕ Nat) → mi_H → Prop} (n sl : Nat) (f : Nat → mi_C) {l1 : Nat} {o2 : Option Value} {o3 : Option Value} {o4 : Option Value} (h5 : Q (.inl (some (.int 0))) (n, sl, f)) : mi_W d 193 25 [some (.ref l1), o2, o3, o4] [] (n, sl, f) Q := by
  refine w_iconst (v := 0) cd_193_25 (by decide) ?_
  exact w_ireturn_i cd_193_26 (by decide +kernel) h5
theorem b_193_27 {d : Nat} {Q : (Option Value ⊕ Nat) → mi_H → Prop} (n sl : Nat) (f : Nat → mi_C) {l1 : Nat} {o2 : Option Value} {o3 : Option Value} {o4 : Option Value} {fs5 : List Value} {fs9 : List Value} {fs13 : List Value} {fs17 : List Value} {x20 : Nat} {fs22 : List Value} {x25 : Int32} {fs27 : List Value} (h6 : f l1 = .inr (12, fs5)) (h7 : l1 < n) (h8 : 73 < fs5.length) (h10 : (va_up f l1 (.inr (12, fs5.set 73 (.int 0)))) l1 = .inr (12, fs9)) (h11 : l1 < n) (h12 : 75 < fs9.length) (h14 : (va_up (va_up f l1 (.inr (12, fs5.set 73 (.int 0)))) l1 (.inr (12, fs9.set 75 (.int 0)))) l1 = .inr (12, fs13)) (h15 : l1 < n) (h16 : 74 < fs13.length) (h18 : (va_up (va_up (va_up f l1 (.inr (12, fs5.set 73 (.int 0)))) l1 (.inr (12, fs9.set 75 (.int 0)))) l1 (.inr (12, fs13.set 74 (.int 0)))) l1 = .inr (12, fs17)) (h19 : l1 < n) (h21 : fs17[41]? = some (.ref x20)) (h23 : (va_up (va_up (va_up f l1 (.inr (12, fs5.set 73 (.int 0)))) l1 (.inr (12, fs9.set 75 (.int 0)))) l1 (.inr (12, fs13.set 74 (.int 0)))) x20 = .inr (13, fs22)) (h24 : x20 < n) (h26 : fs22[0]? = some (.int x25)) (h28 : (va_up (va_up (va_up f l1 (.inr (12, fs5.set 73 (.int 0)))) l1 (.inr (12, fs9.set 75 (.int 0)))) l1 (.inr (12, fs13.set 74 (.int 0)))) l1 = .inr (12, fs27)) (h29 : l1 < n) (h30 : mi_W d 194 0 (mi_en 6 [.ref l1, .int x25]) [] (n, sl, (va_up (va_up (va_up f l1 (.inr (12, fs5.set 73 (.int 0)))) l1 (.inr (12, fs9.set 75 (.int 0)))) l1 (.inr (12, fs13.set 74 (.int 0))))) (mi_Kc d 193 50 [some (.ref l1), o2, o3, o4] [] Q)) : mi_W (d + 1) 193 27 [some (.ref l1), o2, o3, o4] [] (n, sl, f) Q := by
  refine w_aload_n cd_193_27 rfl ?_
  refine w_iconst (v := 0) cd_193_28 (by decide) ?_
  refine w_putfield (w := .int 0) cd_193_29 (show mt_f 12 562 = some (12, 73) by decide +kernel) h6 h7 ⟨h8, rfl, Or.inl (by decide)⟩ ?_
  refine w_aload_n cd_193_32 rfl ?_
  refine w_iconst (v := 0) cd_193_33 (by decide) ?_
  refine w_putfield (w := .int 0) cd_193_34 (show mt_f 12 565 = some (12, 75) by decide +kernel) h10 h11 ⟨h12, rfl, Or.inl (by decide)⟩ ?_
  refine w_aload_n cd_193_37 rfl ?_
  refine w_iconst (v := 0) cd_193_38 (by decide) ?_
  refine w_putfield (w := .int 0) cd_193_39 (show mt_f 12 568 = some (12, 74) by decide +kernel) h14 h15 ⟨h16, rfl, Or.inl (by decide)⟩ ?_
  refine w_aload_n cd_193_42 rfl ?_
  refine w_aload_n cd_193_43 rfl ?_
  refine w_getfield cd_193_44 (show mt_f 12 147 = some (12, 41) by decide +kernel) h18 h19 h21 ?_
  refine w_getfield cd_193_47 (show mt_f 12 496 = some (13, 0) by decide +kernel) h23 h24 h26 ?_
  exact w_invokevirtual cd_193_50 (show mt_m 12 557 = some (194, 0) by decide +kernel) (rest := []) rfl (as := [.ref l1, .int x25]) rfl h28 (Or.inl h29) ⟨Nat.le_of_ble_eq_true rfl, Nat.le_of_ble_eq_true rfl, Nat.le_of_ble_eq_true rfl⟩ h30
theorem b_193_53 {d : Nat} {Q : (Option Value ⊕ Nat) → mi_H → Prop} (n sl : Nat) (f : Nat → mi_C) {l1 : Nat} {o2 : Option Value} {o3 : Option Value} {o4 : Option Value} {s5 : Int32} (h6 : s5 = (0 : Int32) → mi_W d 193 58 [some (.ref l1), o2, o3, o4] [] (n, sl, f) Q) (h7 : ¬ (s5 = (0 : Int32)) → mi_W d 193 56 [some (.ref l1), o2, o3, o4] [] (n, sl, f) Q) : mi_W d 193 53 [some (.ref l1), o2, o3, o4] [.int s5] (n, sl, f) Q := by
  exact w_ifeq cd_193_53 (by decide) h6 h7
theorem b_193_56 {d : Nat} {Q : (Option Value ⊕ Nat) → mi_H → Prop} (n sl : Nat) (f : Nat → mi_C) {l1 : Nat} {o2 : Option Value} {o3 : Option Value} {o4 : Option Value} (h5 : Q (.inl (some (.int 3))) (n, sl, f)) : mi_W d 193 56 [some (.ref l1), o2, o3, o4] [] (n, sl, f) Q := by
  refine w_iconst (v := 3) cd_193_56 (by decide) ?_
  exact w_ireturn_i cd_193_57 (by decide +kernel) h5
theorem b_193_58 {d : Nat} {Q : (Option Value ⊕ Nat) → mi_H → Prop} (n sl : Nat) (f : Nat → mi_C) {l1 : Nat} {o2 : Option Value} {o3 : Option Value} {o4 : Option Value} {fs5 : List Value} {fs10 : List Value} {x13 : Int32} (h6 : f l1 = .inr (12, fs5)) (h7 : l1 < n) (h8 : 57 < fs5.length) (h9 : mi_fk .boolean (.int 0) = true) (h11 : (va_up f l1 (.inr (12, fs5.set 57 (.int 0)))) l1 = .inr (12, fs10)) (h12 : l1 < n) (h14 : fs10[59]? = some (.int x13)) (h15 : mi_W d 193 70 [some (.ref l1), some (.int x13), some (.int 0), o4] [] (n, sl, (va_up f l1 (.inr (12, fs5.set 57 (.int 0))))) Q) : mi_W d 193 58 [some (.ref l1), o2, o3, o4] [] (n, sl, f) Q := by
  refine w_aload_n cd_193_58 rfl ?_
  refine w_iconst (v := 0) cd_193_59 (by decide) ?_
  refine w_putfield (w := .int 0) cd_193_60 (show mt_f 12 513 = some (12, 57) by decide +kernel) h6 h7 ⟨h8, h9, Or.inl (by decide)⟩ ?_
  refine w_aload_n cd_193_63 rfl ?_
  refine w_getfield cd_193_64 (show mt_f 12 258 = some (12, 59) by decide +kernel) h11 h12 h14 ?_
  refine w_istore_n (ls' := [some (.ref l1), some (.int x13), o3, o4]) cd_193_67 (Nat.le_of_ble_eq_true rfl) rfl ?_
  refine w_iconst (v := 0) cd_193_68 (by decide) ?_
  refine w_istore_n (ls' := [some (.ref l1), some (.int x13), some (.int 0), o4]) cd_193_69 (Nat.le_of_ble_eq_true rfl) rfl ?_
  exact h15
theorem b_193_70 {d : Nat} {Q : (Option Value ⊕ Nat) → mi_H → Prop} (n sl : Nat) (f : Nat → mi_C) {l1 : Nat} {l2 : Int32} {l3 : Int32} {o4 : Option Value} (h5 : l2 ≤ l3 → mi_W d 193 141 [some (.ref l1), some (.int l2), some (.int l3), o4] [] (n, sl, f) Q) (h6 : ¬ (l2 ≤ l3) → mi_W d 193 75 [some (.ref l1), some (.int l2), some (.int l3), o4] [] (n, sl, f) Q) : mi_W d 193 70 [some (.ref l1), some (.int l2), some (.int l3), o4] [] (n, sl, f) Q := by
  refine w_iload_n cd_193_70 rfl ?_
  refine w_iload_n cd_193_71 rfl ?_
  exact w_if_icmpge cd_193_72 (by decide) h5 h6
theorem b_193_75 {d : Nat} {Q : (Option Value ⊕ Nat) → mi_H → Prop} (n sl : Nat) (f : Nat → mi_C) {l1 : Nat} {l2 : Int32} {l3 : Int32} {o4 : Option Value} {fs5 : List Value} {x8 : Nat} {fs10 : List Value} {x13 : Nat} (m15 i15 : Nat) (g15 : Nat → Int32) (m19 i19 : Nat) (g19 : Nat → Int32) {fs23 : List Value} {x26 : Nat} {fs28 : List Value} {x31 : Nat} (m33 i33 : Nat) (g33 : Nat → Int32) (m37 i37 : Nat) (g37 : Nat → Int32) {fs41 : List Value} {x44 : Nat} {fs46 : List Value} {x49 : Nat} (m51 i51 : Nat) (g51 : Nat → Int32) (m55 i55 : Nat) (g55 : Nat → Int32) {fs59 : List Value} {x62 : Nat} {fs64 : List Value} {x67 : Nat} (m69 i69 : Nat) (g69 : Nat → Int32) (m73 i73 : Nat) (g73 : Nat → Int32) {fs77 : List Value} {x80 : Nat} {fs82 : List Value} {x85 : Nat} (m87 i87 : Nat) (g87 : Nat → Int64) (m91 i91 : Nat) (g91 : Nat → Int64) (h6 : f l1 = .inr (12, fs5)) (h7 : l1 < n) (h9 : fs5[83]? = some (.ref x8)) (h11 : f l1 = .inr (12, fs10)) (h12 : l1 < n) (h14 : fs10[60]? = some (.ref x13)) (h16 : f x13 = .inl (0, m15, .inl g15)) (h17 : x13 < n ∨ x13 = mi_SC) (h18 : mi_ix l3 m15 i15) (h20 : f x8 = .inl (0, m19, .inl g19)) (h21 : x8 < n) (h22 : mi_ix l3 m19 i19) (h24 : (va_up f x8 (.inl (0, m19, .inl (upd g19 i19 (g15 i15))))) l1 = .inr (12, fs23)) (h25 : l1 < n) (h27 : fs23[84]? = some (.ref x26)) (h29 : (va_up f x8 (.inl (0, m19, .inl (upd g19 i19 (g15 i15))))) l1 = .inr (12, fs28)) (h30 : l1 < n) (h32 : fs28[61]? = some (.ref x31)) (h34 : (va_up f x8 (.inl (0, m19, .inl (upd g19 i19 (g15 i15))))) x31 = .inl (0, m33, .inl g33)) (h35 : x31 < n ∨ x31 = mi_SC) (h36 : mi_ix l3 m33 i33) (h38 : (va_up f x8 (.inl (0, m19, .inl (upd g19 i19 (g15 i15))))) x26 = .inl (0, m37, .inl g37)) (h39 : x26 < n) (h40 : mi_ix l3 m37 i37) (h42 : (va_up (va_up f x8 (.inl (0, m19, .inl (upd g19 i19 (g15 i15))))) x26 (.inl (0, m37, .inl (upd g37 i37 (g33 i33))))) l1 = .inr (12, fs41)) (h43 : l1 < n) (h45 : fs41[85]? = some (.ref x44)) (h47 : (va_up (va_up f x8 (.inl (0, m19, .inl (upd g19 i19 (g15 i15))))) x26 (.inl (0, m37, .inl (upd g37 i37 (g33 i33))))) l1 = .inr (12, fs46)) (h48 : l1 < n) (h50 : fs46[62]? = some (.ref x49)) (h52 : (va_up (va_up f x8 (.inl (0, m19, .inl (upd g19 i19 (g15 i15))))) x26 (.inl (0, m37, .inl (upd g37 i37 (g33 i33))))) x49 = .inl (0, m51, .inl g51)) (h53 : x49 < n ∨ x49 = mi_SC) (h54 : mi_ix l3 m51 i51) (h56 : (va_up (va_up f x8 (.inl (0, m19, .inl (upd g19 i19 (g15 i15))))) x26 (.inl (0, m37, .inl (upd g37 i37 (g33 i33))))) x44 = .inl (0, m55, .inl g55)) (h57 : x44 < n) (h58 : mi_ix l3 m55 i55) (h60 : (va_up (va_up (va_up f x8 (.inl (0, m19, .inl (upd g19 i19 (g15 i15))))) x26 (.inl (0, m37, .inl (upd g37 i37 (g33 i33))))) x44 (.inl (0, m55, .inl (upd g55 i55 (g51 i51))))) l1 = .inr (12, fs59)) (h61 : l1 < n) (h63 : fs59[86]? = some (.ref x62)) (h65 : (va_up (va_up (va_up f x8 (.inl (0, m19, .inl (upd g19 i19 (g15 i15))))) x26 (.inl (0, m37, .inl (upd g37 i37 (g33 i33))))) x44 (.inl (0, m55, .inl (upd g55 i55 (g51 i51))))) l1 = .inr (12, fs64)) (h66 : l1 < n) (h68 : fs64[63]? = some (.ref x67)) (h70 : (va_up (va_up (va_up f x8 (.inl (0, m19, .inl (upd g19 i19 (g15 i15))))) x26 (.inl (0, m37, .inl (upd g37 i37 (g33 i33))))) x44 (.inl (0, m55, .inl (upd g55 i55 (g51 i51))))) x67 = .inl (0, m69, .inl g69)) (h71 : x67 < n ∨ x67 = mi_SC) (h72 : mi_ix l3 m69 i69) (h74 : (va_up (va_up (va_up f x8 (.inl (0, m19, .inl (upd g19 i19 (g15 i15))))) x26 (.inl (0, m37, .inl (upd g37 i37 (g33 i33))))) x44 (.inl (0, m55, .inl (upd g55 i55 (g51 i51))))) x62 = .inl (0, m73, .inl g73)) (h75 : x62 < n) (h76 : mi_ix l3 m73 i73) (h78 : (va_up (va_up (va_up (va_up f x8 (.inl (0, m19, .inl (upd g19 i19 (g15 i15))))) x26 (.inl (0, m37, .inl (upd g37 i37 (g33 i33))))) x44 (.inl (0, m55, .inl (upd g55 i55 (g51 i51))))) x62 (.inl (0, m73, .inl (upd g73 i73 (g69 i69))))) l1 = .inr (12, fs77)) (h79 : l1 < n) (h81 : fs77[87]? = some (.ref x80)) (h83 : (va_up (va_up (va_up (va_up f x8 (.inl (0, m19, .inl (upd g19 i19 (g15 i15))))) x26 (.inl (0, m37, .inl (upd g37 i37 (g33 i33))))) x44 (.inl (0, m55, .inl (upd g55 i55 (g51 i51))))) x62 (.inl (0, m73, .inl (upd g73 i73 (g69 i69))))) l1 = .inr (12, fs82)) (h84 : l1 < n) (h86 : fs82[64]? = some (.ref x85)) (h88 : (va_up (va_up (va_up (va_up f x8 (.inl (0, m19, .inl (upd g19 i19 (g15 i15))))) x26 (.inl (0, m37, .inl (upd g37 i37 (g33 i33))))) x44 (.inl (0, m55, .inl (upd g55 i55 (g51 i51))))) x62 (.inl (0, m73, .inl (upd g73 i73 (g69 i69))))) x85 = .inl (3, m87, .inr (.inl g87))) (h89 : x85 < n) (h90 : mi_ix l3 m87 i87) (h92 : (va_up (va_up (va_up (va_up f x8 (.inl (0, m19, .inl (upd g19 i19 (g15 i15))))) x26 (.inl (0, m37, .inl (upd g37 i37 (g33 i33))))) x44 (.inl (0, m55, .inl (upd g55 i55 (g51 i51))))) x62 (.inl (0, m73, .inl (upd g73 i73 (g69 i69))))) x80 = .inl (3, m91, .inr (.inl g91))) (h93 : x80 < n) (h94 : mi_ix l3 m91 i91) (h95 : mi_W d 193 70 [some (.ref l1), some (.int l2), some (.int (l3 + 1)), o4] [] (n, sl, (va_up (va_up (va_up (va_up (va_up f x8 (.inl (0, m19, .inl (upd g19 i19 (g15 i15))))) x26 (.inl (0, m37, .inl (upd g37 i37 (g33 i33))))) x44 (.inl (0, m55, .inl (upd g55 i55 (g51 i51))))) x62 (.inl (0, m73, .inl (upd g73 i73 (g69 i69))))) x80 (.inl (3, m91, .inr (.inl (vp_updL g91 i91 (g87 i87))))))) Q) : mi_W d 193 75 [some (.ref l1), some (.int l2), some (.int l3), o4] [] (n, sl, f) Q := by
  refine w_aload_n cd_193_75 rfl ?_
  refine w_getfield cd_193_76 (show mt_f 12 233 = some (12, 83) by decide +kernel) h6 h7 h9 ?_
  refine w_iload_n cd_193_79 rfl ?_
  refine w_aload_n cd_193_80 rfl ?_
  refine w_getfield cd_193_81 (show mt_f 12 178 = some (12, 60) by decide +kernel) h11 h12 h14 ?_
  refine w_iload_n cd_193_84 rfl ?_
  refine w_iaload cd_193_85 h16 h17 h18 ?_
  refine w_iastore cd_193_86 h20 h21 h22 ?_
  refine w_aload_n cd_193_87 rfl ?_
  refine w_getfield cd_193_88 (show mt_f 12 236 = some (12, 84) by decide +kernel) h24 h25 h27 ?_
  refine w_iload_n cd_193_91 rfl ?_
  refine w_aload_n cd_193_92 rfl ?_
  refine w_getfield cd_193_93 (show mt_f 12 181 = some (12, 61) by decide +kernel) h29 h30 h32 ?_
  refine w_iload_n cd_193_96 rfl ?_
  refine w_iaload cd_193_97 h34 h35 h36 ?_
  refine w_iastore cd_193_98 h38 h39 h40 ?_
  refine w_aload_n cd_193_99 rfl ?_
  refine w_getfield cd_193_100 (show mt_f 12 239 = some (12, 85) by decide +kernel) h42 h43 h45 ?_
  refine w_iload_n cd_193_103 rfl ?_
  refine w_aload_n cd_193_104 rfl ?_
  refine w_getfield cd_193_105 (show mt_f 12 184 = some (12, 62) by decide +kernel) h47 h48 h50 ?_
  refine w_iload_n cd_193_108 rfl ?_
  refine w_iaload cd_193_109 h52 h53 h54 ?_
  refine w_iastore cd_193_110 h56 h57 h58 ?_
  refine w_aload_n cd_193_111 rfl ?_
  refine w_getfield cd_193_112 (show mt_f 12 242 = some (12, 86) by decide +kernel) h60 h61 h63 ?_
  refine w_iload_n cd_193_115 rfl ?_
  refine w_aload_n cd_193_116 rfl ?_
  refine w_getfield cd_193_117 (show mt_f 12 187 = some (12, 63) by decide +kernel) h65 h66 h68 ?_
  refine w_iload_n cd_193_120 rfl ?_
  refine w_iaload cd_193_121 h70 h71 h72 ?_
  refine w_iastore cd_193_122 h74 h75 h76 ?_
  refine w_aload_n cd_193_123 rfl ?_
  refine w_getfield cd_193_124 (show mt_f 12 245 = some (12, 87) by decide +kernel) h78 h79 h81 ?_
  refine w_iload_n cd_193_127 rfl ?_
  refine w_aload_n cd_193_128 rfl ?_
  refine w_getfield cd_193_129 (show mt_f 12 190 = some (12, 64) by decide +kernel) h83 h84 h86 ?_
  refine w_iload_n cd_193_132 rfl ?_
  refine w_laload cd_193_133 h88 h89 h90 ?_
  refine w_lastore cd_193_134 h92 h93 h94 ?_
  refine w_iinc (v := 1) (ls' := [some (.ref l1), some (.int l2), some (.int (l3 + 1)), o4]) cd_193_135 rfl (by decide) rfl ?_
  exact w_goto cd_193_138 (by decide) h95
theorem b_193_141 {d : Nat} {Q : (Option Value ⊕ Nat) → mi_H → Prop} (n sl : Nat) (f : Nat → mi_C) {l1 : Nat} {l2 : Int32} {l3 : Int32} {o4 : Option Value} {fs5 : List Value} {x8 : Nat} {fs10 : List Value} (h6 : f l1 = .inr (12, fs5)) (h7 : l1 < n) (h9 : fs5[41]? = some (.ref x8)) (h11 : f l1 = .inr (12, fs10)) (h12 : l1 < n) (h13 : mi_W d 196 0 (mi_en 6 [.ref l1, .ref x8]) [] (n, sl, f) (mi_Kc d 193 146 [some (.ref l1), some (.int l2), some (.int l3), o4] [] Q)) : mi_W (d + 1) 193 141 [some (.ref l1), some (.int l2), some (.int l3), o4] [] (n, sl, f) Q := by
  refine w_aload_n cd_193_141 rfl ?_
  refine w_aload_n cd_193_142 rfl ?_
  refine w_getfield cd_193_143 (show mt_f 12 147 = some (12, 41) by decide +kernel) h6 h7 h9 ?_
  exact w_invokevirtual cd_193_146 (show mt_m 12 571 = some (196, 0) by decide +kernel) (rest := []) rfl (as := [.ref l1, .ref x8]) rfl h11 (Or.inl h12) ⟨Nat.le_of_ble_eq_true rfl, Nat.le_of_ble_eq_true rfl, Nat.le_of_ble_eq_true rfl⟩ h13
theorem b_193_149 {d : Nat} {Q : (Option Value ⊕ Nat) → mi_H → Prop} (n sl : Nat) (f : Nat → mi_C) {l1 : Nat} {l2 : Int32} {l3 : Int32} {o4 : Option Value} {s5 : Int32} {fs6 : List Value} (h7 : f l1 = .inr (12, fs6)) (h8 : l1 < n) (h9 : 59 < fs6.length) (h10 : mi_W d 193 157 [some (.ref l1), some (.int l2), some (.int s5), some (.int 0)] [] (n, sl, (va_up f l1 (.inr (12, fs6.set 59 (.int l2))))) Q) : mi_W d 193 149 [some (.ref l1), some (.int l2), some (.int l3), o4] [.int s5] (n, sl, f) Q := by
  refine w_istore_n (ls' := [some (.ref l1), some (.int l2), some (.int s5), o4]) cd_193_149 (Nat.le_of_ble_eq_true rfl) rfl ?_
  refine w_aload_n cd_193_150 rfl ?_
  refine w_iload_n cd_193_151 rfl ?_
  refine w_putfield (w := .int l2) cd_193_152 (show mt_f 12 258 = some (12, 59) by decide +kernel) h7 h8 ⟨h9, rfl, Or.inl (by decide)⟩ ?_
  refine w_iconst (v := 0) cd_193_155 (by decide) ?_
  refine w_istore_n (ls' := [some (.ref l1), some (.int l2), some (.int s5), some (.int 0)]) cd_193_156 (Nat.le_of_ble_eq_true rfl) rfl ?_
  exact h10
theorem b_193_157 {d : Nat} {Q : (Option Value ⊕ Nat) → mi_H → Prop} (n sl : Nat) (f : Nat → mi_C) {l1 : Nat} {l2 : Int32} {l3 : Int32} {l4 : Int32} (h5 : l2 ≤ l4 → mi_W d 193 228 [some (.ref l1), some (.int l2), some (.int l3), some (.int l4)] [] (n, sl, f) Q) (h6 : ¬ (l2 ≤ l4) → mi_W d 193 162 [some (.ref l1), some (.int l2), some (.int l3), some (.int l4)] [] (n, sl, f) Q) : mi_W d 193 157 [some (.ref l1), some (.int l2), some (.int l3), some (.int l4)] [] (n, sl, f) Q := by
  refine w_iload_n cd_193_157 rfl ?_
  refine w_iload_n cd_193_158 rfl ?_
  exact w_if_icmpge cd_193_159 (by decide) h5 h6
theorem b_193_162 {d : Nat} {Q : (Option Value ⊕ Nat) → mi_H → Prop} (n sl : Nat) (f : Nat → mi_C) {l1 : Nat} {l2 : Int32} {l3 : Int32} {l4 : Int32} {fs5 : List Value} {x8 : Nat} {fs10 : List Value} {x13 : Nat} (m15 i15 : Nat) (g15 : Nat → Int32) (m19 i19 : Nat) (g19 : Nat → Int32) {fs23 : List Value} {x26 : Nat} {fs28 : List Value} {x31 : Nat} (m33 i33 : Nat) (g33 : Nat → Int32) (m37 i37 : Nat) (g37 : Nat → Int32) {fs41 : List Value} {x44 : Nat} {fs46 : List Value} {x49 : Nat} (m51 i51 : Nat) (g51 : Nat → Int32) (m55 i55 : Nat) (g55 : Nat → Int32) {fs59 : List Value} {x62 : Nat} {fs64 : List Value} {x67 : Nat} (m69 i69 : Nat) (g69 : Nat → Int32) (m73 i73 : Nat) (g73 : Nat → Int32) {fs77 : List Value} {x80 : Nat} {fs82 : List Value} {x85 : Nat} (m87 i87 : Nat) (g87 : Nat → Int64) (m91 i91 : Nat) (g91 : Nat → Int64) (h6 : f l1 = .inr (12, fs5)) (h7 : l1 < n) (h9 : fs5[60]? = some (.ref x8)) (h11 : f l1 = .inr (12, fs10)) (h12 : l1 < n) (h14 : fs10[83]? = some (.ref x13)) (h16 : f x13 = .inl (0, m15, .inl g15)) (h17 : x13 < n ∨ x13 = mi_SC) (h18 : mi_ix l4 m15 i15) (h20 : f x8 = .inl (0, m19, .inl g19)) (h21 : x8 < n) (h22 : mi_ix l4 m19 i19) (h24 : (va_up f x8 (.inl (0, m19, .inl (upd g19 i19 (g15 i15))))) l1 = .inr (12, fs23)) (h25 : l1 < n) (h27 : fs23[61]? = some (.ref x26)) (h29 : (va_up f x8 (.inl (0, m19, .inl (upd g19 i19 (g15 i15))))) l1 = .inr (12, fs28)) (h30 : l1 < n) (h32 : fs28[84]? = some (.ref x31)) (h34 : (va_up f x8 (.inl (0, m19, .inl (upd g19 i19 (g15 i15))))) x31 = .inl (0, m33, .inl g33)) (h35 : x31 < n ∨ x31 = mi_SC) (h36 : mi_ix l4 m33 i33) (h38 : (va_up f x8 (.inl (0, m19, .inl (upd g19 i19 (g15 i15))))) x26 = .inl (0, m37, .inl g37)) (h39 : x26 < n) (h40 : mi_ix l4 m37 i37) (h42 : (va_up (va_up f x8 (.inl (0, m19, .inl (upd g19 i19 (g15 i15))))) x26 (.inl (0, m37, .inl (upd g37 i37 (g33 i33))))) l1 = .inr (12, fs41)) (h43 : l1 < n) (h45 : fs41[62]? = some (.ref x44)) (h47 : (va_up (va_up f x8 (.inl (0, m19, .inl (upd g19 i19 (g15 i15))))) x26 (.inl (0, m37, .inl (upd g37 i37 (g33 i33))))) l1 = .inr (12, fs46)) (h48 : l1 < n) (h50 : fs46[85]? = some (.ref x49)) (h52 : (va_up (va_up f x8 (.inl (0, m19, .inl (upd g19 i19 (g15 i15))))) x26 (.inl (0, m37, .inl (upd g37 i37 (g33 i33))))) x49 = .inl (0, m51, .inl g51)) (h53 : x49 < n ∨ x49 = mi_SC) (h54 : mi_ix l4 m51 i51) (h56 : (va_up (va_up f x8 (.inl (0, m19, .inl (upd g19 i19 (g15 i15))))) x26 (.inl (0, m37, .inl (upd g37 i37 (g33 i33))))) x44 = .inl (0, m55, .inl g55)) (h57 : x44 < n) (h58 : mi_ix l4 m55 i55) (h60 : (va_up (va_up (va_up f x8 (.inl (0, m19, .inl (upd g19 i19 (g15 i15))))) x26 (.inl (0, m37, .inl (upd g37 i37 (g33 i33))))) x44 (.inl (0, m55, .inl (upd g55 i55 (g51 i51))))) l1 = .inr (12, fs59)) (h61 : l1 < n) (h63 : fs59[63]? = some (.ref x62)) (h65 : (va_up (va_up (va_up f x8 (.inl (0, m19, .inl (upd g19 i19 (g15 i15))))) x26 (.inl (0, m37, .inl (upd g37 i37 (g33 i33))))) x44 (.inl (0, m55, .inl (upd g55 i55 (g51 i51))))) l1 = .inr (12, fs64)) (h66 : l1 < n) (h68 : fs64[86]? = some (.ref x67)) (h70 : (va_up (va_up (va_up f x8 (.inl (0, m19, .inl (upd g19 i19 (g15 i15))))) x26 (.inl (0, m37, .inl (upd g37 i37 (g33 i33))))) x44 (.inl (0, m55, .inl (upd g55 i55 (g51 i51))))) x67 = .inl (0, m69, .inl g69)) (h71 : x67 < n ∨ x67 = mi_SC) (h72 : mi_ix l4 m69 i69) (h74 : (va_up (va_up (va_up f x8 (.inl (0, m19, .inl (upd g19 i19 (g15 i15))))) x26 (.inl (0, m37, .inl (upd g37 i37 (g33 i33))))) x44 (.inl (0, m55, .inl (upd g55 i55 (g51 i51))))) x62 = .inl (0, m73, .inl g73)) (h75 : x62 < n) (h76 : mi_ix l4 m73 i73) (h78 : (va_up (va_up (va_up (va_up f x8 (.inl (0, m19, .inl (upd g19 i19 (g15 i15))))) x26 (.inl (0, m37, .inl (upd g37 i37 (g33 i33))))) x44 (.inl (0, m55, .inl (upd g55 i55 (g51 i51))))) x62 (.inl (0, m73, .inl (upd g73 i73 (g69 i69))))) l1 = .inr (12, fs77)) (h79 : l1 < n) (h81 : fs77[64]? = some (.ref x80)) (h83 : (va_up (va_up (va_up (va_up f x8 (.inl (0, m19, .inl (upd g19 i19 (g15 i15))))) x26 (.inl (0, m37, .inl (upd g37 i37 (g33 i33))))) x44 (.inl (0, m55, .inl (upd g55 i55 (g51 i51))))) x62 (.inl (0, m73, .inl (upd g73 i73 (g69 i69))))) l1 = .inr (12, fs82)) (h84 : l1 < n) (h86 : fs82[87]? = some (.ref x85)) (h88 : (va_up (va_up (va_up (va_up f x8 (.inl (0, m19, .inl (upd g19 i19 (g15 i15))))) x26 (.inl (0, m37, .inl (upd g37 i37 (g33 i33))))) x44 (.inl (0, m55, .inl (upd g55 i55 (g51 i51))))) x62 (.inl (0, m73, .inl (upd g73 i73 (g69 i69))))) x85 = .inl (3, m87, .inr (.inl g87))) (h89 : x85 < n) (h90 : mi_ix l4 m87 i87) (h92 : (va_up (va_up (va_up (va_up f x8 (.inl (0, m19, .inl (upd g19 i19 (g15 i15))))) x26 (.inl (0, m37, .inl (upd g37 i37 (g33 i33))))) x44 (.inl (0, m55, .inl (upd g55 i55 (g51 i51))))) x62 (.inl (0, m73, .inl (upd g73 i73 (g69 i69))))) x80 = .inl (3, m91, .inr (.inl g91))) (h93 : x80 < n) (h94 : mi_ix l4 m91 i91) (h95 : mi_W d 193 157 [some (.ref l1), some (.int l2), some (.int l3), some (.int (l4 + 1))] [] (n, sl, (va_up (va_up (va_up (va_up (va_up f x8 (.inl (0, m19, .inl (upd g19 i19 (g15 i15))))) x26 (.inl (0, m37, .inl (upd g37 i37 (g33 i33))))) x44 (.inl (0, m55, .inl (upd g55 i55 (g51 i51))))) x62 (.inl (0, m73, .inl (upd g73 i73 (g69 i69))))) x80 (.inl (3, m91, .inr (.inl (vp_updL g91 i91 (g87 i87))))))) Q) : mi_W d 193 162 [some (.ref l1), some (.int l2), some (.int l3), some (.int l4)] [] (n, sl, f) Q := by
  refine w_aload_n cd_193_162 rfl ?_
  refine w_getfield cd_193_163 (show mt_f 12 178 = some (12, 60) by decide +kernel) h6 h7 h9 ?_
  refine w_iload_n cd_193_166 rfl ?_
  refine w_aload_n cd_193_167 rfl ?_
  refine w_getfield cd_193_168 (show mt_f 12 233 = some (12, 83) by decide +kernel) h11 h12 h14 ?_
  refine w_iload_n cd_193_171 rfl ?_
  refine w_iaload cd_193_172 h16 h17 h18 ?_
  refine w_iastore cd_193_173 h20 h21 h22 ?_
  refine w_aload_n cd_193_174 rfl ?_
  refine w_getfield cd_193_175 (show mt_f 12 181 = some (12, 61) by decide +kernel) h24 h25 h27 ?_
  refine w_iload_n cd_193_178 rfl ?_
  refine w_aload_n cd_193_179 rfl ?_
  refine w_getfield cd_193_180 (show mt_f 12 236 = some (12, 84) by decide +kernel) h29 h30 h32 ?_
  refine w_iload_n cd_193_183 rfl ?_
  refine w_iaload cd_193_184 h34 h35 h36 ?_
  refine w_iastore cd_193_185 h38 h39 h40 ?_
  refine w_aload_n cd_193_186 rfl ?_
  refine w_getfield cd_193_187 (show mt_f 12 184 = some (12, 62) by decide +kernel) h42 h43 h45 ?_
  refine w_iload_n cd_193_190 rfl ?_
  refine w_aload_n cd_193_191 rfl ?_
  refine w_getfield cd_193_192 (show mt_f 12 239 = some (12, 85) by decide +kernel) h47 h48 h50 ?_
  refine w_iload_n cd_193_195 rfl ?_
  refine w_iaload cd_193_196 h52 h53 h54 ?_
  refine w_iastore cd_193_197 h56 h57 h58 ?_
  refine w_aload_n cd_193_198 rfl ?_
  refine w_getfield cd_193_199 (show mt_f 12 187 = some (12, 63) by decide +kernel) h60 h61 h63 ?_
  refine w_iload_n cd_193_202 rfl ?_
  refine w_aload_n cd_193_203 rfl ?_
  refine w_getfield cd_193_204 (show mt_f 12 242 = some (12, 86) by decide +kernel) h65 h66 h68 ?_
  refine w_iload_n cd_193_207 rfl ?_
  refine w_iaload cd_193_208 h70 h71 h72 ?_
  refine w_iastore cd_193_209 h74 h75 h76 ?_
  refine w_aload_n cd_193_210 rfl ?_
  refine w_getfield cd_193_211 (show mt_f 12 190 = some (12, 64) by decide +kernel) h78 h79 h81 ?_
  refine w_iload_n cd_193_214 rfl ?_
  refine w_aload_n cd_193_215 rfl ?_
  refine w_getfield cd_193_216 (show mt_f 12 245 = some (12, 87) by decide +kernel) h83 h84 h86 ?_
  refine w_iload_n cd_193_219 rfl ?_
  refine w_laload cd_193_220 h88 h89 h90 ?_
  refine w_lastore cd_193_221 h92 h93 h94 ?_
  refine w_iinc (v := 1) (ls' := [some (.ref l1), some (.int l2), some (.int l3), some (.int (l4 + 1))]) cd_193_222 rfl (by decide) rfl ?_
  exact w_goto cd_193_225 (by decide) h95
theorem b_193_228 {d : Nat} {Q : (Option Value ⊕ Nat) → mi_H → Prop} (n sl : Nat) (f : Nat → mi_C) {l1 : Nat} {l2 : Int32} {l3 : Int32} {l4 : Int32} (h5 : Q (.inl (some (.int l3))) (n, sl, f)) : mi_W d 193 228 [some (.ref l1), some (.int l2), some (.int l3), some (.int l4)] [] (n, sl, f) Q := by
  refine w_iload_n cd_193_228 rfl ?_
  exact w_ireturn_i cd_193_229 (by decide +kernel) h5
/-! MarloweHostModel.outside(I)Z -/
set_option maxRecDepth 100000 in
theorem mq_194 : mt_q 194 = my_194 := rfl
set_option maxRecDepth 100000 in
theorem ci_194 : mt_inc 0 my_194.cd = true := by decide +kernel
theorem cd_194_0 : mt_cd 194 0 = some (.aload_n 0) := mt_cd_of (q := (0, .aload_n 0, 1)) mq_194 ci_194 (List.mem_append_left _ (show _ ∈ my_194_0 from List.mem_of_getElem? (i := 0) rfl))
theorem cd_194_1 : mt_cd 194 1 = some (.getfield 77) := mt_cd_of (q := (1, .getfield 77, 3)) mq_194 ci_194 (List.mem_append_left _ (show _ ∈ my_194_0 from List.mem_of_getElem? (i := 1) rfl))
theorem cd_194_4 : mt_cd 194 4 = some (.iload_n 1) := mt_cd_of (q := (4, .iload_n 1, 1)) mq_194 ci_194 (List.mem_append_left _ (show _ ∈ my_194_0 from List.mem_of_getElem? (i := 2) rfl))
theorem cd_194_5 : mt_cd 194 5 = some (.iaload) := mt_cd_of (q := (5, .iaload, 1)) mq_194 ci_194 (List.mem_append_left _ (show _ ∈ my_194_0 from List.mem_of_getElem? (i := 3) rfl))
theorem cd_194_6 : mt_cd 194 6 = some (.tableswitch 121 0 6 #[42, 44, 44, 76, 121, 44, 44]) := mt_cd_of (q := (6, .tableswitch 121 0 6 #[42, 44, 44, 76, 121, 44, 44], 42)) mq_194 ci_194 (List.mem_append_left _ (show _ ∈ my_194_0 from List.mem_of_getElem? (i := 4) rfl))
theorem cd_194_48 : mt_cd 194 48 = some (.iconst 0) := mt_cd_of (q := (48, .iconst 0, 1)) mq_194 ci_194 (List.mem_append_left _ (show _ ∈ my_194_0 from List.mem_of_getElem? (i := 5) rfl))
theorem cd_194_49 : mt_cd 194 49 = some (.ireturn) := mt_cd_of (q := (49, .ireturn, 1)) mq_194 ci_194 (List.mem_append_left _ (show _ ∈ my_194_0 from List.mem_of_getElem? (i := 6) rfl))
theorem cd_194_50 : mt_cd 194 50 = some (.aload_n 0) := mt_cd_of (q := (50, .aload_n 0, 1)) mq_194 ci_194 (List.mem_append_left _ (show _ ∈ my_194_0 from List.mem_of_getElem? (i := 7) rfl))
theorem cd_194_51 : mt_cd 194 51 = some (.aload_n 0) := mt_cd_of (q := (51, .aload_n 0, 1)) mq_194 ci_194 (List.mem_append_left _ (show _ ∈ my_194_0 from List.mem_of_getElem? (i := 8) rfl))
theorem cd_194_52 : mt_cd 194 52 = some (.getfield 89) := mt_cd_of (q := (52, .getfield 89, 3)) mq_194 ci_194 (List.mem_append_left _ (show _ ∈ my_194_0 from List.mem_of_getElem? (i := 9) rfl))
theorem cd_194_55 : mt_cd 194 55 = some (.iload_n 1) := mt_cd_of (q := (55, .iload_n 1, 1)) mq_194 ci_194 (List.mem_append_left _ (show _ ∈ my_194_0 from List.mem_of_getElem? (i := 10) rfl))
theorem cd_194_56 : mt_cd 194 56 = some (.iaload) := mt_cd_of (q := (56, .iaload, 1)) mq_194 ci_194 (List.mem_append_left _ (show _ ∈ my_194_0 from List.mem_of_getElem? (i := 11) rfl))
theorem cd_194_57 : mt_cd 194 57 = some (.invokevirtual 554) := mt_cd_of (q := (57, .invokevirtual 554, 3)) mq_194 ci_194 (List.mem_append_left _ (show _ ∈ my_194_0 from List.mem_of_getElem? (i := 12) rfl))
theorem cd_194_60 : mt_cd 194 60 = some (.ifCond .ne 16) := mt_cd_of (q := (60, .ifCond .ne 16, 3)) mq_194 ci_194 (List.mem_append_left _ (show _ ∈ my_194_0 from List.mem_of_getElem? (i := 13) rfl))
theorem cd_194_63 : mt_cd 194 63 = some (.aload_n 0) := mt_cd_of (q := (63, .aload_n 0, 1)) mq_194 ci_194 (List.mem_append_left _ (show _ ∈ my_194_0 from List.mem_of_getElem? (i := 14) rfl))
theorem cd_194_64 : mt_cd 194 64 = some (.aload_n 0) := mt_cd_of (q := (64, .aload_n 0, 1)) mq_194 ci_194 (List.mem_append_left _ (show _ ∈ my_194_0 from List.mem_of_getElem? (i := 15) rfl))
theorem cd_194_65 : mt_cd 194 65 = some (.getfield 98) := mt_cd_of (q := (65, .getfield 98, 3)) mq_194 ci_194 (List.mem_append_left _ (show _ ∈ my_194_0 from List.mem_of_getElem? (i := 16) rfl))
theorem cd_194_68 : mt_cd 194 68 = some (.iload_n 1) := mt_cd_of (q := (68, .iload_n 1, 1)) mq_194 ci_194 (List.mem_append_left _ (show _ ∈ my_194_0 from List.mem_of_getElem? (i := 17) rfl))
theorem cd_194_69 : mt_cd 194 69 = some (.iaload) := mt_cd_of (q := (69, .iaload, 1)) mq_194 ci_194 (List.mem_append_left _ (show _ ∈ my_194_0 from List.mem_of_getElem? (i := 18) rfl))
theorem cd_194_70 : mt_cd 194 70 = some (.invokevirtual 557) := mt_cd_of (q := (70, .invokevirtual 557, 3)) mq_194 ci_194 (List.mem_append_left _ (show _ ∈ my_194_0 from List.mem_of_getElem? (i := 19) rfl))
theorem cd_194_73 : mt_cd 194 73 = some (.ifCond .eq 7) := mt_cd_of (q := (73, .ifCond .eq 7, 3)) mq_194 ci_194 (List.mem_append_left _ (show _ ∈ my_194_0 from List.mem_of_getElem? (i := 20) rfl))
theorem cd_194_76 : mt_cd 194 76 = some (.iconst 1) := mt_cd_of (q := (76, .iconst 1, 1)) mq_194 ci_194 (List.mem_append_left _ (show _ ∈ my_194_0 from List.mem_of_getElem? (i := 21) rfl))
theorem cd_194_77 : mt_cd 194 77 = some (.goto 4) := mt_cd_of (q := (77, .goto 4, 3)) mq_194 ci_194 (List.mem_append_left _ (show _ ∈ my_194_0 from List.mem_of_getElem? (i := 22) rfl))
theorem cd_194_80 : mt_cd 194 80 = some (.iconst 0) := mt_cd_of (q := (80, .iconst 0, 1)) mq_194 ci_194 (List.mem_append_left _ (show _ ∈ my_194_0 from List.mem_of_getElem? (i := 23) rfl))
theorem cd_194_81 : mt_cd 194 81 = some (.ireturn) := mt_cd_of (q := (81, .ireturn, 1)) mq_194 ci_194 (List.mem_append_left _ (show _ ∈ my_194_0 from List.mem_of_getElem? (i := 24) rfl))
theorem cd_194_82 : mt_cd 194 82 = some (.aload_n 0) := mt_cd_of (q := (82, .aload_n 0, 1)) mq_194 ci_194 (List.mem_append_left _ (show _ ∈ my_194_0 from List.mem_of_getElem? (i := 25) rfl))
theorem cd_194_83 : mt_cd 194 83 = some (.aload_n 0) := mt_cd_of (q := (83, .aload_n 0, 1)) mq_194 ci_194 (List.mem_append_left _ (show _ ∈ my_194_0 from List.mem_of_getElem? (i := 26) rfl))
theorem cd_194_84 : mt_cd 194 84 = some (.getfield 89) := mt_cd_of (q := (84, .getfield 89, 3)) mq_194 ci_194 (List.mem_append_left _ (show _ ∈ my_194_0 from List.mem_of_getElem? (i := 27) rfl))
theorem cd_194_87 : mt_cd 194 87 = some (.iload_n 1) := mt_cd_of (q := (87, .iload_n 1, 1)) mq_194 ci_194 (List.mem_append_left _ (show _ ∈ my_194_0 from List.mem_of_getElem? (i := 28) rfl))
theorem cd_194_88 : mt_cd 194 88 = some (.iaload) := mt_cd_of (q := (88, .iaload, 1)) mq_194 ci_194 (List.mem_append_left _ (show _ ∈ my_194_0 from List.mem_of_getElem? (i := 29) rfl))
theorem cd_194_89 : mt_cd 194 89 = some (.invokevirtual 554) := mt_cd_of (q := (89, .invokevirtual 554, 3)) mq_194 ci_194 (List.mem_append_left _ (show _ ∈ my_194_0 from List.mem_of_getElem? (i := 30) rfl))
theorem cd_194_92 : mt_cd 194 92 = some (.ifCond .ne 29) := mt_cd_of (q := (92, .ifCond .ne 29, 3)) mq_194 ci_194 (List.mem_append_left _ (show _ ∈ my_194_0 from List.mem_of_getElem? (i := 31) rfl))
theorem cd_194_95 : mt_cd 194 95 = some (.aload_n 0) := mt_cd_of (q := (95, .aload_n 0, 1)) mq_194 ci_194 (List.mem_append_left _ (show _ ∈ my_194_0 from List.mem_of_getElem? (i := 32) rfl))
theorem cd_194_96 : mt_cd 194 96 = some (.aload_n 0) := mt_cd_of (q := (96, .aload_n 0, 1)) mq_194 ci_194 (List.mem_append_left _ (show _ ∈ my_194_0 from List.mem_of_getElem? (i := 33) rfl))
theorem cd_194_97 : mt_cd 194 97 = some (.getfield 80) := mt_cd_of (q := (97, .getfield 80, 3)) mq_194 ci_194 (List.mem_append_left _ (show _ ∈ my_194_0 from List.mem_of_getElem? (i := 34) rfl))
theorem cd_194_100 : mt_cd 194 100 = some (.iload_n 1) := mt_cd_of (q := (100, .iload_n 1, 1)) mq_194 ci_194 (List.mem_append_left _ (show _ ∈ my_194_0 from List.mem_of_getElem? (i := 35) rfl))
theorem cd_194_101 : mt_cd 194 101 = some (.iaload) := mt_cd_of (q := (101, .iaload, 1)) mq_194 ci_194 (List.mem_append_left _ (show _ ∈ my_194_0 from List.mem_of_getElem? (i := 36) rfl))
theorem cd_194_102 : mt_cd 194 102 = some (.invokevirtual 557) := mt_cd_of (q := (102, .invokevirtual 557, 3)) mq_194 ci_194 (List.mem_append_left _ (show _ ∈ my_194_0 from List.mem_of_getElem? (i := 37) rfl))
theorem cd_194_105 : mt_cd 194 105 = some (.ifCond .ne 16) := mt_cd_of (q := (105, .ifCond .ne 16, 3)) mq_194 ci_194 (List.mem_append_left _ (show _ ∈ my_194_0 from List.mem_of_getElem? (i := 38) rfl))
theorem cd_194_108 : mt_cd 194 108 = some (.aload_n 0) := mt_cd_of (q := (108, .aload_n 0, 1)) mq_194 ci_194 (List.mem_append_left _ (show _ ∈ my_194_0 from List.mem_of_getElem? (i := 39) rfl))
theorem cd_194_109 : mt_cd 194 109 = some (.aload_n 0) := mt_cd_of (q := (109, .aload_n 0, 1)) mq_194 ci_194 (List.mem_append_left _ (show _ ∈ my_194_0 from List.mem_of_getElem? (i := 40) rfl))
theorem cd_194_110 : mt_cd 194 110 = some (.getfield 83) := mt_cd_of (q := (110, .getfield 83, 3)) mq_194 ci_194 (List.mem_append_left _ (show _ ∈ my_194_0 from List.mem_of_getElem? (i := 41) rfl))
theorem cd_194_113 : mt_cd 194 113 = some (.iload_n 1) := mt_cd_of (q := (113, .iload_n 1, 1)) mq_194 ci_194 (List.mem_append_left _ (show _ ∈ my_194_0 from List.mem_of_getElem? (i := 42) rfl))
theorem cd_194_114 : mt_cd 194 114 = some (.iaload) := mt_cd_of (q := (114, .iaload, 1)) mq_194 ci_194 (List.mem_append_left _ (show _ ∈ my_194_0 from List.mem_of_getElem? (i := 43) rfl))
theorem cd_194_115 : mt_cd 194 115 = some (.invokevirtual 557) := mt_cd_of (q := (115, .invokevirtual 557, 3)) mq_194 ci_194 (List.mem_append_left _ (show _ ∈ my_194_0 from List.mem_of_getElem? (i := 44) rfl))
theorem cd_194_118 : mt_cd 194 118 = some (.ifCond .eq 7) := mt_cd_of (q := (118, .ifCond .eq 7, 3)) mq_194 ci_194 (List.mem_append_left _ (show _ ∈ my_194_0 from List.mem_of_getElem? (i := 45) rfl))
theorem cd_194_121 : mt_cd 194 121 = some (.iconst 1) := mt_cd_of (q := (121, .iconst 1, 1)) mq_194 ci_194 (List.mem_append_left _ (show _ ∈ my_194_0 from List.mem_of_getElem? (i := 46) rfl))
theorem cd_194_122 : mt_cd 194 122 = some (.goto 4) := mt_cd_of (q := (122, .goto 4, 3)) mq_194 ci_194 (List.mem_append_left _ (show _ ∈ my_194_0 from List.mem_of_getElem? (i := 47) rfl))
theorem cd_194_125 : mt_cd 194 125 = some (.iconst 0) := mt_cd_of (q := (125, .iconst 0, 1)) mq_194 ci_194 (List.mem_append_left _ (show _ ∈ my_194_0 from List.mem_of_getElem? (i := 48) rfl))
theorem cd_194_126 : mt_cd 194 126 = some (.ireturn) := mt_cd_of (q := (126, .ireturn, 1)) mq_194 ci_194 (List.mem_append_left _ (show _ ∈ my_194_0 from List.mem_of_getElem? (i := 49) rfl))
theorem cd_194_127 : mt_cd 194 127 = some (.aload_n 0) := mt_cd_of (q := (127, .aload_n 0, 1)) mq_194 ci_194 (List.mem_append_left _ (show _ ∈ my_194_0 from List.mem_of_getElem? (i := 50) rfl))
theorem cd_194_128 : mt_cd 194 128 = some (.getfield 92) := mt_cd_of (q := (128, .getfield 92, 3)) mq_194 ci_194 (List.mem_append_left _ (show _ ∈ my_194_0 from List.mem_of_getElem? (i := 51) rfl))
theorem cd_194_131 : mt_cd 194 131 = some (.iload_n 1) := mt_cd_of (q := (131, .iload_n 1, 1)) mq_194 ci_194 (List.mem_append_left _ (show _ ∈ my_194_0 from List.mem_of_getElem? (i := 52) rfl))
theorem cd_194_132 : mt_cd 194 132 = some (.iaload) := mt_cd_of (q := (132, .iaload, 1)) mq_194 ci_194 (List.mem_append_left _ (show _ ∈ my_194_0 from List.mem_of_getElem? (i := 53) rfl))
theorem cd_194_133 : mt_cd 194 133 = some (.istore_n 2) := mt_cd_of (q := (133, .istore_n 2, 1)) mq_194 ci_194 (List.mem_append_left _ (show _ ∈ my_194_0 from List.mem_of_getElem? (i := 54) rfl))
theorem cd_194_134 : mt_cd 194 134 = some (.iload_n 2) := mt_cd_of (q := (134, .iload_n 2, 1)) mq_194 ci_194 (List.mem_append_left _ (show _ ∈ my_194_0 from List.mem_of_getElem? (i := 55) rfl))
theorem cd_194_135 : mt_cd 194 135 = some (.ifCond .lt 138) := mt_cd_of (q := (135, .ifCond .lt 138, 3)) mq_194 ci_194 (List.mem_append_left _ (show _ ∈ my_194_0 from List.mem_of_getElem? (i := 56) rfl))
theorem cd_194_138 : mt_cd 194 138 = some (.aload_n 0) := mt_cd_of (q := (138, .aload_n 0, 1)) mq_194 ci_194 (List.mem_append_left _ (show _ ∈ my_194_0 from List.mem_of_getElem? (i := 57) rfl))
theorem cd_194_139 : mt_cd 194 139 = some (.getfield 77) := mt_cd_of (q := (139, .getfield 77, 3)) mq_194 ci_194 (List.mem_append_left _ (show _ ∈ my_194_0 from List.mem_of_getElem? (i := 58) rfl))
theorem cd_194_142 : mt_cd 194 142 = some (.iload_n 2) := mt_cd_of (q := (142, .iload_n 2, 1)) mq_194 ci_194 (List.mem_append_left _ (show _ ∈ my_194_0 from List.mem_of_getElem? (i := 59) rfl))
theorem cd_194_143 : mt_cd 194 143 = some (.iaload) := mt_cd_of (q := (143, .iaload, 1)) mq_194 ci_194 (List.mem_append_right _ (List.mem_append_left _ (show _ ∈ my_194_1 from List.mem_of_getElem? (i := 0) rfl)))
theorem cd_194_144 : mt_cd 194 144 = some (.bipush 8) := mt_cd_of (q := (144, .bipush 8, 2)) mq_194 ci_194 (List.mem_append_right _ (List.mem_append_left _ (show _ ∈ my_194_1 from List.mem_of_getElem? (i := 1) rfl)))
theorem cd_194_146 : mt_cd 194 146 = some (.if_icmp .eq 16) := mt_cd_of (q := (146, .if_icmp .eq 16, 3)) mq_194 ci_194 (List.mem_append_right _ (List.mem_append_left _ (show _ ∈ my_194_1 from List.mem_of_getElem? (i := 2) rfl)))
theorem cd_194_149 : mt_cd 194 149 = some (.aload_n 0) := mt_cd_of (q := (149, .aload_n 0, 1)) mq_194 ci_194 (List.mem_append_right _ (List.mem_append_left _ (show _ ∈ my_194_1 from List.mem_of_getElem? (i := 3) rfl)))
theorem cd_194_150 : mt_cd 194 150 = some (.aload_n 0) := mt_cd_of (q := (150, .aload_n 0, 1)) mq_194 ci_194 (List.mem_append_right _ (List.mem_append_left _ (show _ ∈ my_194_1 from List.mem_of_getElem? (i := 4) rfl)))
theorem cd_194_151 : mt_cd 194 151 = some (.getfield 89) := mt_cd_of (q := (151, .getfield 89, 3)) mq_194 ci_194 (List.mem_append_right _ (List.mem_append_left _ (show _ ∈ my_194_1 from List.mem_of_getElem? (i := 5) rfl)))
theorem cd_194_154 : mt_cd 194 154 = some (.iload_n 2) := mt_cd_of (q := (154, .iload_n 2, 1)) mq_194 ci_194 (List.mem_append_right _ (List.mem_append_left _ (show _ ∈ my_194_1 from List.mem_of_getElem? (i := 6) rfl)))
theorem cd_194_155 : mt_cd 194 155 = some (.iaload) := mt_cd_of (q := (155, .iaload, 1)) mq_194 ci_194 (List.mem_append_right _ (List.mem_append_left _ (show _ ∈ my_194_1 from List.mem_of_getElem? (i := 7) rfl)))
theorem cd_194_156 : mt_cd 194 156 = some (.invokevirtual 554) := mt_cd_of (q := (156, .invokevirtual 554, 3)) mq_194 ci_194 (List.mem_append_right _ (List.mem_append_left _ (show _ ∈ my_194_1 from List.mem_of_getElem? (i := 8) rfl)))
theorem cd_194_159 : mt_cd 194 159 = some (.ifCond .ne 16) := mt_cd_of (q := (159, .ifCond .ne 16, 3)) mq_194 ci_194 (List.mem_append_right _ (List.mem_append_left _ (show _ ∈ my_194_1 from List.mem_of_getElem? (i := 9) rfl)))
theorem cd_194_162 : mt_cd 194 162 = some (.aload_n 0) := mt_cd_of (q := (162, .aload_n 0, 1)) mq_194 ci_194 (List.mem_append_right _ (List.mem_append_left _ (show _ ∈ my_194_1 from List.mem_of_getElem? (i := 10) rfl)))
theorem cd_194_163 : mt_cd 194 163 = some (.aload_n 0) := mt_cd_of (q := (163, .aload_n 0, 1)) mq_194 ci_194 (List.mem_append_right _ (List.mem_append_left _ (show _ ∈ my_194_1 from List.mem_of_getElem? (i := 11) rfl)))
theorem cd_194_164 : mt_cd 194 164 = some (.getfield 98) := mt_cd_of (q := (164, .getfield 98, 3)) mq_194 ci_194 (List.mem_append_right _ (List.mem_append_left _ (show _ ∈ my_194_1 from List.mem_of_getElem? (i := 12) rfl)))
theorem cd_194_167 : mt_cd 194 167 = some (.iload_n 2) := mt_cd_of (q := (167, .iload_n 2, 1)) mq_194 ci_194 (List.mem_append_right _ (List.mem_append_left _ (show _ ∈ my_194_1 from List.mem_of_getElem? (i := 13) rfl)))
theorem cd_194_168 : mt_cd 194 168 = some (.iaload) := mt_cd_of (q := (168, .iaload, 1)) mq_194 ci_194 (List.mem_append_right _ (List.mem_append_left _ (show _ ∈ my_194_1 from List.mem_of_getElem? (i := 14) rfl)))
theorem cd_194_169 : mt_cd 194 169 = some (.invokevirtual 557) := mt_cd_of (q := (169, .invokevirtual 557, 3)) mq_194 ci_194 (List.mem_append_right _ (List.mem_append_left _ (show _ ∈ my_194_1 from List.mem_of_getElem? (i := 15) rfl)))
theorem cd_194_172 : mt_cd 194 172 = some (.ifCond .eq 5) := mt_cd_of (q := (172, .ifCond .eq 5, 3)) mq_194 ci_194 (List.mem_append_right _ (List.mem_append_left _ (show _ ∈ my_194_1 from List.mem_of_getElem? (i := 16) rfl)))
theorem cd_194_175 : mt_cd 194 175 = some (.iconst 1) := mt_cd_of (q := (175, .iconst 1, 1)) mq_194 ci_194 (List.mem_append_right _ (List.mem_append_left _ (show _ ∈ my_194_1 from List.mem_of_getElem? (i := 17) rfl)))
theorem cd_194_176 : mt_cd 194 176 = some (.ireturn) := mt_cd_of (q := (176, .ireturn, 1)) mq_194 ci_194 (List.mem_append_right _ (List.mem_append_left _ (show _ ∈ my_194_1 from List.mem_of_getElem? (i := 18) rfl)))
theorem cd_194_177 : mt_cd 194 177 = some (.aload_n 0) := mt_cd_of (q := (177, .aload_n 0, 1)) mq_194 ci_194 (List.mem_append_right _ (List.mem_append_left _ (show _ ∈ my_194_1 from List.mem_of_getElem? (i := 19) rfl)))
theorem cd_194_178 : mt_cd 194 178 = some (.getfield 77) := mt_cd_of (q := (178, .getfield 77, 3)) mq_194 ci_194 (List.mem_append_right _ (List.mem_append_left _ (show _ ∈ my_194_1 from List.mem_of_getElem? (i := 20) rfl)))
theorem cd_194_181 : mt_cd 194 181 = some (.iload_n 2) := mt_cd_of (q := (181, .iload_n 2, 1)) mq_194 ci_194 (List.mem_append_right _ (List.mem_append_left _ (show _ ∈ my_194_1 from List.mem_of_getElem? (i := 21) rfl)))
theorem cd_194_182 : mt_cd 194 182 = some (.iaload) := mt_cd_of (q := (182, .iaload, 1)) mq_194 ci_194 (List.mem_append_right _ (List.mem_append_left _ (show _ ∈ my_194_1 from List.mem_of_getElem? (i := 22) rfl)))
theorem cd_194_183 : mt_cd 194 183 = some (.bipush 8) := mt_cd_of (q := (183, .bipush 8, 2)) mq_194 ci_194 (List.mem_append_right _ (List.mem_append_left _ (show _ ∈ my_194_1 from List.mem_of_getElem? (i := 23) rfl)))
theorem cd_194_185 : mt_cd 194 185 = some (.if_icmp .eq 6) := mt_cd_of (q := (185, .if_icmp .eq 6, 3)) mq_194 ci_194 (List.mem_append_right _ (List.mem_append_left _ (show _ ∈ my_194_1 from List.mem_of_getElem? (i := 24) rfl)))
theorem cd_194_188 : mt_cd 194 188 = some (.goto 75) := mt_cd_of (q := (188, .goto 75, 3)) mq_194 ci_194 (List.mem_append_right _ (List.mem_append_left _ (show _ ∈ my_194_1 from List.mem_of_getElem? (i := 25) rfl)))
theorem cd_194_191 : mt_cd 194 191 = some (.lconst 0) := mt_cd_of (q := (191, .lconst 0, 1)) mq_194 ci_194 (List.mem_append_right _ (List.mem_append_left _ (show _ ∈ my_194_1 from List.mem_of_getElem? (i := 26) rfl)))
theorem cd_194_192 : mt_cd 194 192 = some (.lstore_n 3) := mt_cd_of (q := (192, .lstore_n 3, 1)) mq_194 ci_194 (List.mem_append_right _ (List.mem_append_left _ (show _ ∈ my_194_1 from List.mem_of_getElem? (i := 27) rfl)))
theorem cd_194_193 : mt_cd 194 193 = some (.aload_n 0) := mt_cd_of (q := (193, .aload_n 0, 1)) mq_194 ci_194 (List.mem_append_right _ (List.mem_append_left _ (show _ ∈ my_194_1 from List.mem_of_getElem? (i := 28) rfl)))
theorem cd_194_194 : mt_cd 194 194 = some (.getfield 141) := mt_cd_of (q := (194, .getfield 141, 3)) mq_194 ci_194 (List.mem_append_right _ (List.mem_append_left _ (show _ ∈ my_194_1 from List.mem_of_getElem? (i := 29) rfl)))
theorem cd_194_197 : mt_cd 194 197 = some (.iload_n 2) := mt_cd_of (q := (197, .iload_n 2, 1)) mq_194 ci_194 (List.mem_append_right _ (List.mem_append_left _ (show _ ∈ my_194_1 from List.mem_of_getElem? (i := 30) rfl)))
theorem cd_194_198 : mt_cd 194 198 = some (.iaload) := mt_cd_of (q := (198, .iaload, 1)) mq_194 ci_194 (List.mem_append_right _ (List.mem_append_left _ (show _ ∈ my_194_1 from List.mem_of_getElem? (i := 31) rfl)))
theorem cd_194_199 : mt_cd 194 199 = some (.istore 5) := mt_cd_of (q := (199, .istore 5, 2)) mq_194 ci_194 (List.mem_append_right _ (List.mem_append_left _ (show _ ∈ my_194_1 from List.mem_of_getElem? (i := 32) rfl)))
theorem cd_194_201 : mt_cd 194 201 = some (.iload 5) := mt_cd_of (q := (201, .iload 5, 2)) mq_194 ci_194 (List.mem_append_right _ (List.mem_append_left _ (show _ ∈ my_194_1 from List.mem_of_getElem? (i := 33) rfl)))
theorem cd_194_203 : mt_cd 194 203 = some (.aload_n 0) := mt_cd_of (q := (203, .aload_n 0, 1)) mq_194 ci_194 (List.mem_append_right _ (List.mem_append_left _ (show _ ∈ my_194_1 from List.mem_of_getElem? (i := 34) rfl)))
theorem cd_194_204 : mt_cd 194 204 = some (.getfield 141) := mt_cd_of (q := (204, .getfield 141, 3)) mq_194 ci_194 (List.mem_append_right _ (List.mem_append_left _ (show _ ∈ my_194_1 from List.mem_of_getElem? (i := 35) rfl)))
theorem cd_194_207 : mt_cd 194 207 = some (.iload_n 2) := mt_cd_of (q := (207, .iload_n 2, 1)) mq_194 ci_194 (List.mem_append_right _ (List.mem_append_left _ (show _ ∈ my_194_1 from List.mem_of_getElem? (i := 36) rfl)))
theorem cd_194_208 : mt_cd 194 208 = some (.iaload) := mt_cd_of (q := (208, .iaload, 1)) mq_194 ci_194 (List.mem_append_right _ (List.mem_append_left _ (show _ ∈ my_194_1 from List.mem_of_getElem? (i := 37) rfl)))
theorem cd_194_209 : mt_cd 194 209 = some (.aload_n 0) := mt_cd_of (q := (209, .aload_n 0, 1)) mq_194 ci_194 (List.mem_append_right _ (List.mem_append_left _ (show _ ∈ my_194_1 from List.mem_of_getElem? (i := 38) rfl)))
theorem cd_194_210 : mt_cd 194 210 = some (.getfield 95) := mt_cd_of (q := (210, .getfield 95, 3)) mq_194 ci_194 (List.mem_append_right _ (List.mem_append_left _ (show _ ∈ my_194_1 from List.mem_of_getElem? (i := 39) rfl)))
theorem cd_194_213 : mt_cd 194 213 = some (.iload_n 2) := mt_cd_of (q := (213, .iload_n 2, 1)) mq_194 ci_194 (List.mem_append_right _ (List.mem_append_left _ (show _ ∈ my_194_1 from List.mem_of_getElem? (i := 40) rfl)))
theorem cd_194_214 : mt_cd 194 214 = some (.iaload) := mt_cd_of (q := (214, .iaload, 1)) mq_194 ci_194 (List.mem_append_right _ (List.mem_append_left _ (show _ ∈ my_194_1 from List.mem_of_getElem? (i := 41) rfl)))
theorem cd_194_215 : mt_cd 194 215 = some (.iadd) := mt_cd_of (q := (215, .iadd, 1)) mq_194 ci_194 (List.mem_append_right _ (List.mem_append_left _ (show _ ∈ my_194_1 from List.mem_of_getElem? (i := 42) rfl)))
theorem cd_194_216 : mt_cd 194 216 = some (.if_icmp .ge 37) := mt_cd_of (q := (216, .if_icmp .ge 37, 3)) mq_194 ci_194 (List.mem_append_right _ (List.mem_append_left _ (show _ ∈ my_194_1 from List.mem_of_getElem? (i := 43) rfl)))
theorem cd_194_219 : mt_cd 194 219 = some (.lload_n 3) := mt_cd_of (q := (219, .lload_n 3, 1)) mq_194 ci_194 (List.mem_append_right _ (List.mem_append_left _ (show _ ∈ my_194_1 from List.mem_of_getElem? (i := 44) rfl)))
theorem cd_194_220 : mt_cd 194 220 = some (.ldc2_w 560) := mt_cd_of (q := (220, .ldc2_w 560, 3)) mq_194 ci_194 (List.mem_append_right _ (List.mem_append_left _ (show _ ∈ my_194_1 from List.mem_of_getElem? (i := 45) rfl)))
theorem cd_194_223 : mt_cd 194 223 = some (.lcmp) := mt_cd_of (q := (223, .lcmp, 1)) mq_194 ci_194 (List.mem_append_right _ (List.mem_append_left _ (show _ ∈ my_194_1 from List.mem_of_getElem? (i := 46) rfl)))
theorem cd_194_224 : mt_cd 194 224 = some (.ifCond .gt 29) := mt_cd_of (q := (224, .ifCond .gt 29, 3)) mq_194 ci_194 (List.mem_append_right _ (List.mem_append_left _ (show _ ∈ my_194_1 from List.mem_of_getElem? (i := 47) rfl)))
theorem cd_194_227 : mt_cd 194 227 = some (.lload_n 3) := mt_cd_of (q := (227, .lload_n 3, 1)) mq_194 ci_194 (List.mem_append_right _ (List.mem_append_left _ (show _ ∈ my_194_1 from List.mem_of_getElem? (i := 48) rfl)))
theorem cd_194_228 : mt_cd 194 228 = some (.aload_n 0) := mt_cd_of (q := (228, .aload_n 0, 1)) mq_194 ci_194 (List.mem_append_right _ (List.mem_append_left _ (show _ ∈ my_194_1 from List.mem_of_getElem? (i := 49) rfl)))
theorem cd_194_229 : mt_cd 194 229 = some (.getfield 108) := mt_cd_of (q := (229, .getfield 108, 3)) mq_194 ci_194 (List.mem_append_right _ (List.mem_append_left _ (show _ ∈ my_194_1 from List.mem_of_getElem? (i := 50) rfl)))
theorem cd_194_232 : mt_cd 194 232 = some (.iload 5) := mt_cd_of (q := (232, .iload 5, 2)) mq_194 ci_194 (List.mem_append_right _ (List.mem_append_left _ (show _ ∈ my_194_1 from List.mem_of_getElem? (i := 51) rfl)))
theorem cd_194_234 : mt_cd 194 234 = some (.laload) := mt_cd_of (q := (234, .laload, 1)) mq_194 ci_194 (List.mem_append_right _ (List.mem_append_left _ (show _ ∈ my_194_1 from List.mem_of_getElem? (i := 52) rfl)))
theorem cd_194_235 : mt_cd 194 235 = some (.aload_n 0) := mt_cd_of (q := (235, .aload_n 0, 1)) mq_194 ci_194 (List.mem_append_right _ (List.mem_append_left _ (show _ ∈ my_194_1 from List.mem_of_getElem? (i := 53) rfl)))
theorem cd_194_236 : mt_cd 194 236 = some (.getfield 105) := mt_cd_of (q := (236, .getfield 105, 3)) mq_194 ci_194 (List.mem_append_right _ (List.mem_append_left _ (show _ ∈ my_194_1 from List.mem_of_getElem? (i := 54) rfl)))
theorem cd_194_239 : mt_cd 194 239 = some (.iload 5) := mt_cd_of (q := (239, .iload 5, 2)) mq_194 ci_194 (List.mem_append_right _ (List.mem_append_left _ (show _ ∈ my_194_1 from List.mem_of_getElem? (i := 55) rfl)))
theorem cd_194_241 : mt_cd 194 241 = some (.laload) := mt_cd_of (q := (241, .laload, 1)) mq_194 ci_194 (List.mem_append_right _ (List.mem_append_left _ (show _ ∈ my_194_1 from List.mem_of_getElem? (i := 56) rfl)))
theorem cd_194_242 : mt_cd 194 242 = some (.lsub) := mt_cd_of (q := (242, .lsub, 1)) mq_194 ci_194 (List.mem_append_right _ (List.mem_append_left _ (show _ ∈ my_194_1 from List.mem_of_getElem? (i := 57) rfl)))
theorem cd_194_243 : mt_cd 194 243 = some (.lconst 1) := mt_cd_of (q := (243, .lconst 1, 1)) mq_194 ci_194 (List.mem_append_right _ (List.mem_append_left _ (show _ ∈ my_194_1 from List.mem_of_getElem? (i := 58) rfl)))
theorem cd_194_244 : mt_cd 194 244 = some (.ladd) := mt_cd_of (q := (244, .ladd, 1)) mq_194 ci_194 (List.mem_append_right _ (List.mem_append_left _ (show _ ∈ my_194_1 from List.mem_of_getElem? (i := 59) rfl)))
theorem cd_194_245 : mt_cd 194 245 = some (.ladd) := mt_cd_of (q := (245, .ladd, 1)) mq_194 ci_194 (List.mem_append_right _ (List.mem_append_right _ ((show _ ∈ my_194_2 from List.mem_of_getElem? (i := 0) rfl))))
theorem cd_194_246 : mt_cd 194 246 = some (.lstore_n 3) := mt_cd_of (q := (246, .lstore_n 3, 1)) mq_194 ci_194 (List.mem_append_right _ (List.mem_append_right _ ((show _ ∈ my_194_2 from List.mem_of_getElem? (i := 1) rfl))))
theorem cd_194_247 : mt_cd 194 247 = some (.iinc 5 1) := mt_cd_of (q := (247, .iinc 5 1, 3)) mq_194 ci_194 (List.mem_append_right _ (List.mem_append_right _ ((show _ ∈ my_194_2 from List.mem_of_getElem? (i := 2) rfl))))
theorem cd_194_250 : mt_cd 194 250 = some (.goto (-49)) := mt_cd_of (q := (250, .goto (-49), 3)) mq_194 ci_194 (List.mem_append_right _ (List.mem_append_right _ ((show _ ∈ my_194_2 from List.mem_of_getElem? (i := 3) rfl))))
theorem cd_194_253 : mt_cd 194 253 = some (.lload_n 3) := mt_cd_of (q := (253, .lload_n 3, 1)) mq_194 ci_194 (List.mem_append_right _ (List.mem_append_right _ ((show _ ∈ my_194_2 from List.mem_of_getElem? (i := 4) rfl))))
theorem cd_194_254 : mt_cd 194 254 = some (.ldc2_w 560) := mt_cd_of (q := (254, .ldc2_w 560, 3)) mq_194 ci_194 (List.mem_append_right _ (List.mem_append_right _ ((show _ ∈ my_194_2 from List.mem_of_getElem? (i := 5) rfl))))
theorem cd_194_257 : mt_cd 194 257 = some (.lcmp) := mt_cd_of (q := (257, .lcmp, 1)) mq_194 ci_194 (List.mem_append_right _ (List.mem_append_right _ ((show _ ∈ my_194_2 from List.mem_of_getElem? (i := 6) rfl))))
theorem cd_194_258 : mt_cd 194 258 = some (.ifCond .le 5) := mt_cd_of (q := (258, .ifCond .le 5, 3)) mq_194 ci_194 (List.mem_append_right _ (List.mem_append_right _ ((show _ ∈ my_194_2 from List.mem_of_getElem? (i := 7) rfl))))
theorem cd_194_261 : mt_cd 194 261 = some (.iconst 1) := mt_cd_of (q := (261, .iconst 1, 1)) mq_194 ci_194 (List.mem_append_right _ (List.mem_append_right _ ((show _ ∈ my_194_2 from List.mem_of_getElem? (i := 8) rfl))))
theorem cd_194_262 : mt_cd 194 262 = some (.ireturn) := mt_cd_of (q := (262, .ireturn, 1)) mq_194 ci_194 (List.mem_append_right _ (List.mem_append_right _ ((show _ ∈ my_194_2 from List.mem_of_getElem? (i := 9) rfl))))
theorem cd_194_263 : mt_cd 194 263 = some (.aload_n 0) := mt_cd_of (q := (263, .aload_n 0, 1)) mq_194 ci_194 (List.mem_append_right _ (List.mem_append_right _ ((show _ ∈ my_194_2 from List.mem_of_getElem? (i := 10) rfl))))
theorem cd_194_264 : mt_cd 194 264 = some (.getfield 138) := mt_cd_of (q := (264, .getfield 138, 3)) mq_194 ci_194 (List.mem_append_right _ (List.mem_append_right _ ((show _ ∈ my_194_2 from List.mem_of_getElem? (i := 11) rfl))))
theorem cd_194_267 : mt_cd 194 267 = some (.iload_n 2) := mt_cd_of (q := (267, .iload_n 2, 1)) mq_194 ci_194 (List.mem_append_right _ (List.mem_append_right _ ((show _ ∈ my_194_2 from List.mem_of_getElem? (i := 12) rfl))))
theorem cd_194_268 : mt_cd 194 268 = some (.iaload) := mt_cd_of (q := (268, .iaload, 1)) mq_194 ci_194 (List.mem_append_right _ (List.mem_append_right _ ((show _ ∈ my_194_2 from List.mem_of_getElem? (i := 13) rfl))))
theorem cd_194_269 : mt_cd 194 269 = some (.istore_n 2) := mt_cd_of (q := (269, .istore_n 2, 1)) mq_194 ci_194 (List.mem_append_right _ (List.mem_append_right _ ((show _ ∈ my_194_2 from List.mem_of_getElem? (i := 14) rfl))))
theorem cd_194_270 : mt_cd 194 270 = some (.goto (-136)) := mt_cd_of (q := (270, .goto (-136), 3)) mq_194 ci_194 (List.mem_append_right _ (List.mem_append_right _ ((show _ ∈ my_194_2 from List.mem_of_getElem? (i := 15) rfl))))
theorem cd_194_273 : mt_cd 194 273 = some (.aload_n 0) := mt_cd_of (q := (273, .aload_n 0, 1)) mq_194 ci_194 (List.mem_append_right _ (List.mem_append_right _ ((show _ ∈ my_194_2 from List.mem_of_getElem? (i := 16) rfl))))
theorem cd_194_274 : mt_cd 194 274 = some (.aload_n 0) := mt_cd_of (q := (274, .aload_n 0, 1)) mq_194 ci_194 (List.mem_append_right _ (List.mem_append_right _ ((show _ ∈ my_194_2 from List.mem_of_getElem? (i := 17) rfl))))
theorem cd_194_275 : mt_cd 194 275 = some (.getfield 98) := mt_cd_of (q := (275, .getfield 98, 3)) mq_194 ci_194 (List.mem_append_right _ (List.mem_append_right _ ((show _ ∈ my_194_2 from List.mem_of_getElem? (i := 18) rfl))))
theorem cd_194_278 : mt_cd 194 278 = some (.iload_n 1) := mt_cd_of (q := (278, .iload_n 1, 1)) mq_194 ci_194 (List.mem_append_right _ (List.mem_append_right _ ((show _ ∈ my_194_2 from List.mem_of_getElem? (i := 19) rfl))))
theorem cd_194_279 : mt_cd 194 279 = some (.iaload) := mt_cd_of (q := (279, .iaload, 1)) mq_194 ci_194 (List.mem_append_right _ (List.mem_append_right _ ((show _ ∈ my_194_2 from List.mem_of_getElem? (i := 20) rfl))))
theorem cd_194_280 : mt_cd 194 280 = some (.invokevirtual 557) := mt_cd_of (q := (280, .invokevirtual 557, 3)) mq_194 ci_194 (List.mem_append_right _ (List.mem_append_right _ ((show _ ∈ my_194_2 from List.mem_of_getElem? (i := 21) rfl))))
theorem cd_194_283 : mt_cd 194 283 = some (.ireturn) := mt_cd_of (q := (283, .ireturn, 1)) mq_194 ci_194 (List.mem_append_right _ (List.mem_append_right _ ((show _ ∈ my_194_2 from List.mem_of_getElem? (i := 22) rfl))))
theorem b_194_0 {d : Nat} {Q : (Option Value ⊕ Nat) → mi_H → Prop} (n sl : Nat) (f : Nat → mi_C) {l1 : Nat} {l2 : Int32} {o3 : Option Value} {o4 : Option Value} {o5 : Option Value} {o6 : Option Value} {fs7 : List Value} {x10 : Nat} (m12 i12 : Nat) (g12 : Nat → Int32) {t16 : Nat} (h8 : f l1 = .inr (12, fs7)) (h9 : l1 < n) (h11 : fs7[12]? = some (.ref x10)) (h13 : f x10 = .inl (0, m12, .inl g12)) (h14 : x10 < n ∨ x10 = mi_SC) (h15 : mi_ix l2 m12 i12) (h17 : mi_ts 6 121 0 6 #[42, 44, 44, 76, 121, 44, 44] ((g12 i12) : Int32).toInt = some t16) (h18 : mi_W d 194 t16 [some (.ref l1), some (.int l2), o3, o4, o5, o6] [] (n, sl, f) Q) : mi_W d 194 0 [some (.ref l1), some (.int l2), o3, o4, o5, o6] [] (n, sl, f) Q := by
  refine w_aload_n cd_194_0 rfl ?_
  refine w_getfield cd_194_1 (show mt_f 12 77 = some (12, 12) by decide +kernel) h8 h9 h11 ?_
  refine w_iload_n cd_194_4 rfl ?_
  refine w_iaload cd_194_5 h13 h14 h15 ?_
  exact w_tableswitch cd_194_6 h17 h18
theorem b_194_48 {d : Nat} {Q : (Option Value ⊕ Nat) → mi_H → Prop} (n sl : Nat) (f : Nat → mi_C) {l1 : Nat} {l2 : Int32} {o3 : Option Value} {o4 : Option Value} {o5 : Option Value} {o6 : Option Value} (h7 : Q (.inl (some (.int 0))) (n, sl, f)) : mi_W d 194 48 [some (.ref l1), some (.int l2), o3, o4, o5, o6] [] (n, sl, f) Q := by
  refine w_iconst (v := 0) cd_194_48 (by decide) ?_
  exact w_ireturn_z cd_194_49 (by decide +kernel) (by decide) h7
theorem b_194_50 {d : Nat} {Q : (Option Value ⊕ Nat) → mi_H → Prop} (n sl : Nat) (f : Nat → mi_C) {l1 : Nat} {l2 : Int32} {o3 : Option Value} {o4 : Option Value} {o5 : Option Value} {o6 : Option Value} {fs7 : List Value} {x10 : Nat} (m12 i12 : Nat) (g12 : Nat → Int32) {fs16 : List Value} (h8 : f l1 = .inr (12, fs7)) (h9 : l1 < n) (h11 : fs7[16]? = some (.ref x10)) (h13 : f x10 = .inl (0, m12, .inl g12)) (h14 : x10 < n ∨ x10 = mi_SC) (h15 : mi_ix l2 m12 i12) (h17 : f l1 = .inr (12, fs16)) (h18 : l1 < n) (h19 : mi_W d 195 0 (mi_en 2 [.ref l1, .int (g12 i12)]) [] (n, sl, f) (mi_Kc d 194 57 [some (.ref l1), some (.int l2), o3, o4, o5, o6] [] Q)) : mi_W (d + 1) 194 50 [some (.ref l1), some (.int l2), o3, o4, o5, o6] [] (n, sl, f) Q := by
  refine w_aload_n cd_194_50 rfl ?_
  refine w_aload_n cd_194_51 rfl ?_
  refine w_getfield cd_194_52 (show mt_f 12 89 = some (12, 16) by decide +kernel) h8 h9 h11 ?_
  refine w_iload_n cd_194_55 rfl ?_
  refine w_iaload cd_194_56 h13 h14 h15 ?_
  exact w_invokevirtual cd_194_57 (show mt_m 12 554 = some (195, 0) by decide +kernel) (rest := []) rfl (as := [.ref l1, .int (g12 i12)]) rfl h17 (Or.inl h18) ⟨Nat.le_of_ble_eq_true rfl, Nat.le_of_ble_eq_true rfl, Nat.le_of_ble_eq_true rfl⟩ h19
theorem b_194_60 {d : Nat} {Q : (Option Value ⊕ Nat) → mi_H → Prop} (n sl : Nat) (f : Nat → mi_C) {l1 : Nat} {l2 : Int32} {o3 : Option Value} {o4 : Option Value} {o5 : Option Value} {o6 : Option Value} {s7 : Int32} (h8 : ¬ s7 = (0 : Int32) → mi_W d 194 76 [some (.ref l1), some (.int l2), o3, o4, o5, o6] [] (n, sl, f) Q) (h9 : ¬ (¬ s7 = (0 : Int32)) → mi_W d 194 63 [some (.ref l1), some (.int l2), o3, o4, o5, o6] [] (n, sl, f) Q) : mi_W d 194 60 [some (.ref l1), some (.int l2), o3, o4, o5, o6] [.int s7] (n, sl, f) Q := by
  exact w_ifne cd_194_60 (by decide) h8 h9
theorem b_194_63 {d : Nat} {Q : (Option Value ⊕ Nat) → mi_H → Prop} (n sl : Nat) (f : Nat → mi_C) {l1 : Nat} {l2 : Int32} {o3 : Option Value} {o4 : Option Value} {o5 : Option Value} {o6 : Option Value} {fs7 : List Value} {x10 : Nat} (m12 i12 : Nat) (g12 : Nat → Int32) {fs16 : List Value} (h8 : f l1 = .inr (12, fs7)) (h9 : l1 < n) (h11 : fs7[19]? = some (.ref x10)) (h13 : f x10 = .inl (0, m12, .inl g12)) (h14 : x10 < n ∨ x10 = mi_SC) (h15 : mi_ix l2 m12 i12) (h17 : f l1 = .inr (12, fs16)) (h18 : l1 < n) (h19 : mi_W d 194 0 (mi_en 6 [.ref l1, .int (g12 i12)]) [] (n, sl, f) (mi_Kc d 194 70 [some (.ref l1), some (.int l2), o3, o4, o5, o6] [] Q)) : mi_W (d + 1) 194 63 [some (.ref l1), some (.int l2), o3, o4, o5, o6] [] (n, sl, f) Q := by
  refine w_aload_n cd_194_63 rfl ?_
  refine w_aload_n cd_194_64 rfl ?_
  refine w_getfield cd_194_65 (show mt_f 12 98 = some (12, 19) by decide +kernel) h8 h9 h11 ?_
  refine w_iload_n cd_194_68 rfl ?_
  refine w_iaload cd_194_69 h13 h14 h15 ?_
  exact w_invokevirtual cd_194_70 (show mt_m 12 557 = some (194, 0) by decide +kernel) (rest := []) rfl (as := [.ref l1, .int (g12 i12)]) rfl h17 (Or.inl h18) ⟨Nat.le_of_ble_eq_true rfl, Nat.le_of_ble_eq_true rfl, Nat.le_of_ble_eq_true rfl⟩ h19
theorem b_194_73 {d : Nat} {Q : (Option Value ⊕ Nat) → mi_H → Prop} (n sl : Nat) (f : Nat → mi_C) {l1 : Nat} {l2 : Int32} {o3 : Option Value} {o4 : Option Value} {o5 : Option Value} {o6 : Option Value} {s7 : Int32} (h8 : s7 = (0 : Int32) → mi_W d 194 80 [some (.ref l1), some (.int l2), o3, o4, o5, o6] [] (n, sl, f) Q) (h9 : ¬ (s7 = (0 : Int32)) → mi_W d 194 76 [some (.ref l1), some (.int l2), o3, o4, o5, o6] [] (n, sl, f) Q) : mi_W d 194 73 [some (.ref l1), some (.int l2), o3, o4, o5, o6] [.int s7] (n, sl, f) Q := by
  exact w_ifeq cd_194_73 (by decide) h8 h9
theorem b_194_76 {d : Nat} {Q : (Option Value ⊕ Nat) → mi_H → Prop} (n sl : Nat) (f : Nat → mi_C) {l1 : Nat} {l2 : Int32} {o3 : Option Value} {o4 : Option Value} {o5 : Option Value} {o6 : Option Value} (h7 : mi_W d 194 81 [some (.ref l1), some (.int l2), o3, o4, o5, o6] [.int 1] (n, sl, f) Q) : mi_W d 194 76 [some (.ref l1), some (.int l2), o3, o4, o5, o6] [] (n, sl, f) Q := by
  refine w_iconst (v := 1) cd_194_76 (by decide) ?_
  exact w_goto cd_194_77 (by decide) h7
theorem b_194_80 {d : Nat} {Q : (Option Value ⊕ Nat) → mi_H → Prop} (n sl : Nat) (f : Nat → mi_C) {l1 : Nat} {l2 : Int32} {o3 : Option Value} {o4 : Option Value} {o5 : Option Value} {o6 : Option Value} (h7 : mi_W d 194 81 [some (.ref l1), some (.int l2), o3, o4, o5, o6] [.int 0] (n, sl, f) Q) : mi_W d 194 80 [some (.ref l1), some (.int l2), o3, o4, o5, o6] [] (n, sl, f) Q := by
  refine w_iconst (v := 0) cd_194_80 (by decide) ?_
  exact h7
theorem b_194_81 {d : Nat} {Q : (Option Value ⊕ Nat) → mi_H → Prop} (n sl : Nat) (f : Nat → mi_C) {l1 : Nat} {l2 : Int32} {o3 : Option Value} {o4 : Option Value} {o5 : Option Value} {o6 : Option Value} {s7 : Int32} (h8 : s7 = 0 ∨ s7 = 1) (h9 : Q (.inl (some (.int s7))) (n, sl, f)) : mi_W d 194 81 [some (.ref l1), some (.int l2), o3, o4, o5, o6] [.int s7] (n, sl, f) Q := by
  exact w_ireturn_z cd_194_81 (by decide +kernel) h8 h9
theorem b_194_82 {d : Nat} {Q : (Option Value ⊕ Nat) → mi_H → Prop} (n sl : Nat) (f : Nat → mi_C) {l1 : Nat} {l2 : Int32} {o3 : Option Value} {o4 : Option Value} {o5 : Option Value} {o6 : Option Value} {fs7 : List Value} {x10 : Nat} (m12 i12 : Nat) (g12 : Nat → Int32) {fs16 : List Value} (h8 : f l1 = .inr (12, fs7)) (h9 : l1 < n) (h11 : fs7[16]? = some (.ref x10)) (h13 : f x10 = .inl (0, m12, .inl g12)) (h14 : x10 < n ∨ x10 = mi_SC) (h15 : mi_ix l2 m12 i12) (h17 : f l1 = .inr (12, fs16)) (h18 : l1 < n) (h19 : mi_W d 195 0 (mi_en 2 [.ref l1, .int (g12 i12)]) [] (n, sl, f) (mi_Kc d 194 89 [some (.ref l1), some (.int l2), o3, o4, o5, o6] [] Q)) : mi_W (d + 1) 194 82 [some (.ref l1), some (.int l2), o3, o4, o5, o6] [] (n, sl, f) Q := by
  refine w_aload_n cd_194_82 rfl ?_
  refine w_aload_n cd_194_83 rfl ?_
  refine w_getfield cd_194_84 (show mt_f 12 89 = some (12, 16) by decide +kernel) h8 h9 h11 ?_
  refine w_iload_n cd_194_87 rfl ?_
  refine w_iaload cd_194_88 h13 h14 h15 ?_
  exact w_invokevirtual cd_194_89 (show mt_m 12 554 = some (195, 0) by decide +kernel) (rest := []) rfl (as := [.ref l1, .int (g12 i12)]) rfl h17 (Or.inl h18) ⟨Nat.le_of_ble_eq_true rfl, Nat.le_of_ble_eq_true rfl, Nat.le_of_ble_eq_true rfl⟩ h19
theorem b_194_92 {d : Nat} {Q : (Option Value ⊕ Nat) → mi_H → Prop} (n sl : Nat) (f : Nat → mi_C) {l1 : Nat} {l2 : Int32} {o3 : Option Value} {o4 : Option Value} {o5 : Option Value} {o6 : Option Value} {s7 : Int32} (h8 : ¬ s7 = (0 : Int32) → mi_W d 194 121 [some (.ref l1), some (.int l2), o3, o4, o5, o6] [] (n, sl, f) Q) (h9 : ¬ (¬ s7 = (0 : Int32)) → mi_W d 194 95 [some (.ref l1), some (.int l2), o3, o4, o5, o6] [] (n, sl, f) Q) : mi_W d 194 92 [some (.ref l1), some (.int l2), o3, o4, o5, o6] [.int s7] (n, sl, f) Q := by
  exact w_ifne cd_194_92 (by decide) h8 h9
theorem b_194_95 {d : Nat} {Q : (Option Value ⊕ Nat) → mi_H → Prop} (n sl : Nat) (f : Nat → mi_C) {l1 : Nat} {l2 : Int32} {o3 : Option Value} {o4 : Option Value} {o5 : Option Value} {o6 : Option Value} {fs7 : List Value} {x10 : Nat} (m12 i12 : Nat) (g12 : Nat → Int32) {fs16 : List Value} (h8 : f l1 = .inr (12, fs7)) (h9 : l1 < n) (h11 : fs7[13]? = some (.ref x10)) (h13 : f x10 = .inl (0, m12, .inl g12)) (h14 : x10 < n ∨ x10 = mi_SC) (h15 : mi_ix l2 m12 i12) (h17 : f l1 = .inr (12, fs16)) (h18 : l1 < n) (h19 : mi_W d 194 0 (mi_en 6 [.ref l1, .int (g12 i12)]) [] (n, sl, f) (mi_Kc d 194 102 [some (.ref l1), some (.int l2), o3, o4, o5, o6] [] Q)) : mi_W (d + 1) 194 95 [some (.ref l1), some (.int l2), o3, o4, o5, o6] [] (n, sl, f) Q := by
  refine w_aload_n cd_194_95 rfl ?_
  refine w_aload_n cd_194_96 rfl ?_
  refine w_getfield cd_194_97 (show mt_f 12 80 = some (12, 13) by decide +kernel) h8 h9 h11 ?_
  refine w_iload_n cd_194_100 rfl ?_
  refine w_iaload cd_194_101 h13 h14 h15 ?_
  exact w_invokevirtual cd_194_102 (show mt_m 12 557 = some (194, 0) by decide +kernel) (rest := []) rfl (as := [.ref l1, .int (g12 i12)]) rfl h17 (Or.inl h18) ⟨Nat.le_of_ble_eq_true rfl, Nat.le_of_ble_eq_true rfl, Nat.le_of_ble_eq_true rfl⟩ h19
theorem b_194_105 {d : Nat} {Q : (Option Value ⊕ Nat) → mi_H → Prop} (n sl : Nat) (f : Nat → mi_C) {l1 : Nat} {l2 : Int32} {o3 : Option Value} {o4 : Option Value} {o5 : Option Value} {o6 : Option Value} {s7 : Int32} (h8 : ¬ s7 = (0 : Int32) → mi_W d 194 121 [some (.ref l1), some (.int l2), o3, o4, o5, o6] [] (n, sl, f) Q) (h9 : ¬ (¬ s7 = (0 : Int32)) → mi_W d 194 108 [some (.ref l1), some (.int l2), o3, o4, o5, o6] [] (n, sl, f) Q) : mi_W d 194 105 [some (.ref l1), some (.int l2), o3, o4, o5, o6] [.int s7] (n, sl, f) Q := by
  exact w_ifne cd_194_105 (by decide) h8 h9
theorem b_194_108 {d : Nat} {Q : (Option Value ⊕ Nat) → mi_H → Prop} (n sl : Nat) (f : Nat → mi_C) {l1 : Nat} {l2 : Int32} {o3 : Option Value} {o4 : Option Value} {o5 : Option Value} {o6 : Option Value} {fs7 : List Value} {x10 : Nat} (m12 i12 : Nat) (g12 : Nat → Int32) {fs16 : List Value} (h8 : f l1 = .inr (12, fs7)) (h9 : l1 < n) (h11 : fs7[14]? = some (.ref x10)) (h13 : f x10 = .inl (0, m12, .inl g12)) (h14 : x10 < n ∨ x10 = mi_SC) (h15 : mi_ix l2 m12 i12) (h17 : f l1 = .inr (12, fs16)) (h18 : l1 < n) (h19 : mi_W d 194 0 (mi_en 6 [.ref l1, .int (g12 i12)]) [] (n, sl, f) (mi_Kc d 194 115 [some (.ref l1), some (.int l2), o3, o4, o5, o6] [] Q)) : mi_W (d + 1) 194 108 [some (.ref l1), some (.int l2), o3, o4, o5, o6] [] (n, sl, f) Q := by
  refine w_aload_n cd_194_108 rfl ?_
  refine w_aload_n cd_194_109 rfl ?_
  refine w_getfield cd_194_110 (show mt_f 12 83 = some (12, 14) by decide +kernel) h8 h9 h11 ?_
  refine w_iload_n cd_194_113 rfl ?_
  refine w_iaload cd_194_114 h13 h14 h15 ?_
  exact w_invokevirtual cd_194_115 (show mt_m 12 557 = some (194, 0) by decide +kernel) (rest := []) rfl (as := [.ref l1, .int (g12 i12)]) rfl h17 (Or.inl h18) ⟨Nat.le_of_ble_eq_true rfl, Nat.le_of_ble_eq_true rfl, Nat.le_of_ble_eq_true rfl⟩ h19
theorem b_194_118 {d : Nat} {Q : (Option Value ⊕ Nat) → mi_H → Prop} (n sl : Nat) (f : Nat → mi_C) {l1 : Nat} {l2 : Int32} {o3 : Option Value} {o4 : Option Value} {o5 : Option Value} {o6 : Option Value} {s7 : Int32} (h8 : s7 = (0 : Int32) → mi_W d 194 125 [some (.ref l1), some (.int l2), o3, o4, o5, o6] [] (n, sl, f) Q) (h9 : ¬ (s7 = (0 : Int32)) → mi_W d 194 121 [some (.ref l1), some (.int l2), o3, o4, o5, o6] [] (n, sl, f) Q) : mi_W d 194 118 [some (.ref l1), some (.int l2), o3, o4, o5, o6] [.int s7] (n, sl, f) Q := by
  exact w_ifeq cd_194_118 (by decide) h8 h9
theorem b_194_121 {d : Nat} {Q : (Option Value ⊕ Nat) → mi_H → Prop} (n sl : Nat) (f : Nat → mi_C) {l1 : Nat} {l2 : Int32} {o3 : Option Value} {o4 : Option Value} {o5 : Option Value} {o6 : Option Value} (h7 : mi_W d 194 126 [some (.ref l1), some (.int l2), o3, o4, o5, o6] [.int 1] (n, sl, f) Q) : mi_W d 194 121 [some (.ref l1), some (.int l2), o3, o4, o5, o6] [] (n, sl, f) Q := by
  refine w_iconst (v := 1) cd_194_121 (by decide) ?_
  exact w_goto cd_194_122 (by decide) h7
theorem b_194_125 {d : Nat} {Q : (Option Value ⊕ Nat) → mi_H → Prop} (n sl : Nat) (f : Nat → mi_C) {l1 : Nat} {l2 : Int32} {o3 : Option Value} {o4 : Option Value} {o5 : Option Value} {o6 : Option Value} (h7 : mi_W d 194 126 [some (.ref l1), some (.int l2), o3, o4, o5, o6] [.int 0] (n, sl, f) Q) : mi_W d 194 125 [some (.ref l1), some (.int l2), o3, o4, o5, o6] [] (n, sl, f) Q := by
  refine w_iconst (v := 0) cd_194_125 (by decide) ?_
  exact h7
theorem b_194_126 {d : Nat} {Q : (Option Value ⊕ Nat) → mi_H → Prop} (n sl : Nat) (f : Nat → mi_C) {l1 : Nat} {l2 : Int32} {o3 : Option Value} {o4 : Option Value} {o5 : Option Value} {o6 : Option Value} {s7 : Int32} (h8 : s7 = 0 ∨ s7 = 1) (h9 : Q (.inl (some (.int s7))) (n, sl, f)) : mi_W d 194 126 [some (.ref l1), some (.int l2), o3, o4, o5, o6] [.int s7] (n, sl, f) Q := by
  exact w_ireturn_z cd_194_126 (by decide +kernel) h8 h9
theorem b_194_127 {d : Nat} {Q : (Option Value ⊕ Nat) → mi_H → Prop} (n sl : Nat) (f : Nat → mi_C) {l1 : Nat} {l2 : Int32} {o3 : Option Value} {o4 : Option Value} {o5 : Option Value} {o6 : Option Value} {fs7 : List Value} {x10 : Nat} (m12 i12 : Nat) (g12 : Nat → Int32) (h8 : f l1 = .inr (12, fs7)) (h9 : l1 < n) (h11 : fs7[17]? = some (.ref x10)) (h13 : f x10 = .inl (0, m12, .inl g12)) (h14 : x10 < n ∨ x10 = mi_SC) (h15 : mi_ix l2 m12 i12) (h16 : mi_W d 194 134 [some (.ref l1), some (.int l2), some (.int (g12 i12)), o4, o5, o6] [] (n, sl, f) Q) : mi_W d 194 127 [some (.ref l1), some (.int l2), o3, o4, o5, o6] [] (n, sl, f) Q := by
  refine w_aload_n cd_194_127 rfl ?_
  refine w_getfield cd_194_128 (show mt_f 12 92 = some (12, 17) by decide +kernel) h8 h9 h11 ?_
  refine w_iload_n cd_194_131 rfl ?_
  refine w_iaload cd_194_132 h13 h14 h15 ?_
  refine w_istore_n (ls' := [some (.ref l1), some (.int l2), some (.int (g12 i12)), o4, o5, o6]) cd_194_133 (Nat.le_of_ble_eq_true rfl) rfl ?_
  exact h16
theorem b_194_134 {d : Nat} {Q : (Option Value ⊕ Nat) → mi_H → Prop} (n sl : Nat) (f : Nat → mi_C) {l1 : Nat} {l2 : Int32} {l3 : Int32} {o4 : Option Value} {o5 : Option Value} {o6 : Option Value} (h7 : l3 < (0 : Int32) → mi_W d 194 273 [some (.ref l1), some (.int l2), some (.int l3), o4, o5, o6] [] (n, sl, f) Q) (h8 : ¬ (l3 < (0 : Int32)) → mi_W d 194 138 [some (.ref l1), some (.int l2), some (.int l3), o4, o5, o6] [] (n, sl, f) Q) : mi_W d 194 134 [some (.ref l1), some (.int l2), some (.int l3), o4, o5, o6] [] (n, sl, f) Q := by
  refine w_iload_n cd_194_134 rfl ?_
  exact w_iflt cd_194_135 (by decide) h7 h8
theorem b_194_138 {d : Nat} {Q : (Option Value ⊕ Nat) → mi_H → Prop} (n sl : Nat) (f : Nat → mi_C) {l1 : Nat} {l2 : Int32} {l3 : Int32} {o4 : Option Value} {o5 : Option Value} {o6 : Option Value} {fs7 : List Value} {x10 : Nat} (m12 i12 : Nat) (g12 : Nat → Int32) (h8 : f l1 = .inr (12, fs7)) (h9 : l1 < n) (h11 : fs7[12]? = some (.ref x10)) (h13 : f x10 = .inl (0, m12, .inl g12)) (h14 : x10 < n ∨ x10 = mi_SC) (h15 : mi_ix l3 m12 i12) (h16 : (g12 i12) = 8 → mi_W d 194 162 [some (.ref l1), some (.int l2), some (.int l3), o4, o5, o6] [] (n, sl, f) Q) (h17 : ¬ ((g12 i12) = 8) → mi_W d 194 149 [some (.ref l1), some (.int l2), some (.int l3), o4, o5, o6] [] (n, sl, f) Q) : mi_W d 194 138 [some (.ref l1), some (.int l2), some (.int l3), o4, o5, o6] [] (n, sl, f) Q := by
  refine w_aload_n cd_194_138 rfl ?_
  refine w_getfield cd_194_139 (show mt_f 12 77 = some (12, 12) by decide +kernel) h8 h9 h11 ?_
  refine w_iload_n cd_194_142 rfl ?_
  refine w_iaload cd_194_143 h13 h14 h15 ?_
  refine w_bipush (v := 8) cd_194_144 (by decide) ?_
  exact w_if_icmpeq cd_194_146 (by decide) h16 h17
theorem b_194_149 {d : Nat} {Q : (Option Value ⊕ Nat) → mi_H → Prop} (n sl : Nat) (f : Nat → mi_C) {l1 : Nat} {l2 : Int32} {l3 : Int32} {o4 : Option Value} {o5 : Option Value} {o6 : Option Value} {fs7 : List Value} {x10 : Nat} (m12 i12 : Nat) (g12 : Nat → Int32) {fs16 : List Value} (h8 : f l1 = .inr (12, fs7)) (h9 : l1 < n) (h11 : fs7[16]? = some (.ref x10)) (h13 : f x10 = .inl (0, m12, .inl g12)) (h14 : x10 < n ∨ x10 = mi_SC) (h15 : mi_ix l3 m12 i12) (h17 : f l1 = .inr (12, fs16)) (h18 : l1 < n) (h19 : mi_W d 195 0 (mi_en 2 [.ref l1, .int (g12 i12)]) [] (n, sl, f) (mi_Kc d 194 156 [some (.ref l1), some (.int l2), some (.int l3), o4, o5, o6] [] Q)) : mi_W (d + 1) 194 149 [some (.ref l1), some (.int l2), some (.int l3), o4, o5, o6] [] (n, sl, f) Q := by
  refine w_aload_n cd_194_149 rfl ?_
  refine w_aload_n cd_194_150 rfl ?_
  refine w_getfield cd_194_151 (show mt_f 12 89 = some (12, 16) by decide +kernel) h8 h9 h11 ?_
  refine w_iload_n cd_194_154 rfl ?_
  refine w_iaload cd_194_155 h13 h14 h15 ?_
  exact w_invokevirtual cd_194_156 (show mt_m 12 554 = some (195, 0) by decide +kernel) (rest := []) rfl (as := [.ref l1, .int (g12 i12)]) rfl h17 (Or.inl h18) ⟨Nat.le_of_ble_eq_true rfl, Nat.le_of_ble_eq_true rfl, Nat.le_of_ble_eq_true rfl⟩ h19
theorem b_194_159 {d : Nat} {Q : (Option Value ⊕ Nat) → mi_H → Prop} (n sl : Nat) (f : Nat → mi_C) {l1 : Nat} {l2 : Int32} {l3 : Int32} {o4 : Option Value} {o5 : Option Value} {o6 : Option Value} {s7 : Int32} (h8 : ¬ s7 = (0 : Int32) → mi_W d 194 175 [some (.ref l1), some (.int l2), some (.int l3), o4, o5, o6] [] (n, sl, f) Q) (h9 : ¬ (¬ s7 = (0 : Int32)) → mi_W d 194 162 [some (.ref l1), some (.int l2), some (.int l3), o4, o5, o6] [] (n, sl, f) Q) : mi_W d 194 159 [some (.ref l1), some (.int l2), some (.int l3), o4, o5, o6] [.int s7] (n, sl, f) Q := by
  exact w_ifne cd_194_159 (by decide) h8 h9
theorem b_194_162 {d : Nat} {Q : (Option Value ⊕ Nat) → mi_H → Prop} (n sl : Nat) (f : Nat → mi_C) {l1 : Nat} {l2 : Int32} {l3 : Int32} {o4 : Option Value} {o5 : Option Value} {o6 : Option Value} {fs7 : List Value} {x10 : Nat} (m12 i12 : Nat) (g12 : Nat → Int32) {fs16 : List Value} (h8 : f l1 = .inr (12, fs7)) (h9 : l1 < n) (h11 : fs7[19]? = some (.ref x10)) (h13 : f x10 = .inl (0, m12, .inl g12)) (h14 : x10 < n ∨ x10 = mi_SC) (h15 : mi_ix l3 m12 i12) (h17 : f l1 = .inr (12, fs16)) (h18 : l1 < n) (h19 : mi_W d 194 0 (mi_en 6 [.ref l1, .int (g12 i12)]) [] (n, sl, f) (mi_Kc d 194 169 [some (.ref l1), some (.int l2), some (.int l3), o4, o5, o6] [] Q)) : mi_W (d + 1) 194 162 [some (.ref l1), some (.int l2), some (.int l3), o4, o5, o6] [] (n, sl, f) Q := by
  refine w_aload_n cd_194_162 rfl ?_
  refine w_aload_n cd_194_163 rfl ?_
  refine w_getfield cd_194_164 (show mt_f 12 98 = some (12, 19) by decide +kernel) h8 h9 h11 ?_
  refine w_iload_n cd_194_167 rfl ?_
  refine w_iaload cd_194_168 h13 h14 h15 ?_
  exact w_invokevirtual cd_194_169 (show mt_m 12 557 = some (194, 0) by decide +kernel) (rest := []) rfl (as := [.ref l1, .int (g12 i12)]) rfl h17 (Or.inl h18) ⟨Nat.le_of_ble_eq_true rfl, Nat.le_of_ble_eq_true rfl, Nat.le_of_ble_eq_true rfl⟩ h19
theorem b_194_172 {d : Nat} {Q : (Option Value ⊕ Nat) → mi_H → Prop} (n sl : Nat) (f : Nat → mi_C) {l1 : Nat} {l2 : Int32} {l3 : Int32} {o4 : Option Value} {o5 : Option Value} {o6 : Option Value} {s7 : Int32} (h8 : s7 = (0 : Int32) → mi_W d 194 177 [some (.ref l1), some (.int l2), some (.int l3), o4, o5, o6] [] (n, sl, f) Q) (h9 : ¬ (s7 = (0 : Int32)) → mi_W d 194 175 [some (.ref l1), some (.int l2), some (.int l3), o4, o5, o6] [] (n, sl, f) Q) : mi_W d 194 172 [some (.ref l1), some (.int l2), some (.int l3), o4, o5, o6] [.int s7] (n, sl, f) Q := by
  exact w_ifeq cd_194_172 (by decide) h8 h9
theorem b_194_175 {d : Nat} {Q : (Option Value ⊕ Nat) → mi_H → Prop} (n sl : Nat) (f : Nat → mi_C) {l1 : Nat} {l2 : Int32} {l3 : Int32} {o4 : Option Value} {o5 : Option Value} {o6 : Option Value} (h7 : Q (.inl (some (.int 1))) (n, sl, f)) : mi_W d 194 175 [some (.ref l1), some (.int l2), some (.int l3), o4, o5, o6] [] (n, sl, f) Q := by
  refine w_iconst (v := 1) cd_194_175 (by decide) ?_
  exact w_ireturn_z cd_194_176 (by decide +kernel) (by decide) h7
theorem b_194_177 {d : Nat} {Q : (Option Value ⊕ Nat) → mi_H → Prop} (n sl : Nat) (f : Nat → mi_C) {l1 : Nat} {l2 : Int32} {l3 : Int32} {o4 : Option Value} {o5 : Option Value} {o6 : Option Value} {fs7 : List Value} {x10 : Nat} (m12 i12 : Nat) (g12 : Nat → Int32) (h8 : f l1 = .inr (12, fs7)) (h9 : l1 < n) (h11 : fs7[12]? = some (.ref x10)) (h13 : f x10 = .inl (0, m12, .inl g12)) (h14 : x10 < n ∨ x10 = mi_SC) (h15 : mi_ix l3 m12 i12) (h16 : (g12 i12) = 8 → mi_W d 194 191 [some (.ref l1), some (.int l2), some (.int l3), o4, o5, o6] [] (n, sl, f) Q) (h17 : ¬ ((g12 i12) = 8) → mi_W d 194 188 [some (.ref l1), some (.int l2), some (.int l3), o4, o5, o6] [] (n, sl, f) Q) : mi_W d 194 177 [some (.ref l1), some (.int l2), some (.int l3), o4, o5, o6] [] (n, sl, f) Q := by
  refine w_aload_n cd_194_177 rfl ?_
  refine w_getfield cd_194_178 (show mt_f 12 77 = some (12, 12) by decide +kernel) h8 h9 h11 ?_
  refine w_iload_n cd_194_181 rfl ?_
  refine w_iaload cd_194_182 h13 h14 h15 ?_
  refine w_bipush (v := 8) cd_194_183 (by decide) ?_
  exact w_if_icmpeq cd_194_185 (by decide) h16 h17
theorem b_194_188 {d : Nat} {Q : (Option Value ⊕ Nat) → mi_H → Prop} (n sl : Nat) (f : Nat → mi_C) {l1 : Nat} {l2 : Int32} {l3 : Int32} {o4 : Option Value} {o5 : Option Value} {o6 : Option Value} (h7 : mi_W d 194 263 [some (.ref l1), some (.int l2), some (.int l3), o4, o5, o6] [] (n, sl, f) Q) : mi_W d 194 188 [some (.ref l1), some (.int l2), some (.int l3), o4, o5, o6] [] (n, sl, f) Q := by
  exact w_goto cd_194_188 (by decide) h7
theorem b_194_191 {d : Nat} {Q : (Option Value ⊕ Nat) → mi_H → Prop} (n sl : Nat) (f : Nat → mi_C) {l1 : Nat} {l2 : Int32} {l3 : Int32} {o4 : Option Value} {o5 : Option Value} {o6 : Option Value} {fs7 : List Value} {x10 : Nat} (m12 i12 : Nat) (g12 : Nat → Int32) (h8 : f l1 = .inr (12, fs7)) (h9 : l1 < n) (h11 : fs7[40]? = some (.ref x10)) (h13 : f x10 = .inl (0, m12, .inl g12)) (h14 : x10 < n ∨ x10 = mi_SC) (h15 : mi_ix l3 m12 i12) (h16 : mi_W d 194 201 [some (.ref l1), some (.int l2), some (.int l3), some (.long 0), none, some (.int (g12 i12))] [] (n, sl, f) Q) : mi_W d 194 191 [some (.ref l1), some (.int l2), some (.int l3), o4, o5, o6] [] (n, sl, f) Q := by
  refine w_lconst (lv := 0) cd_194_191 (by decide) ?_
  refine w_lstore_n (ls' := [some (.ref l1), some (.int l2), some (.int l3), some (.long 0), none, o6]) cd_194_192 (Nat.le_of_ble_eq_true rfl) rfl ?_
  refine w_aload_n cd_194_193 rfl ?_
  refine w_getfield cd_194_194 (show mt_f 12 141 = some (12, 40) by decide +kernel) h8 h9 h11 ?_
  refine w_iload_n cd_194_197 rfl ?_
  refine w_iaload cd_194_198 h13 h14 h15 ?_
  refine w_istore (ls' := [some (.ref l1), some (.int l2), some (.int l3), some (.long 0), none, some (.int (g12 i12))]) cd_194_199 (Nat.le_of_ble_eq_true rfl) rfl ?_
  exact h16
theorem b_194_201 {d : Nat} {Q : (Option Value ⊕ Nat) → mi_H → Prop} (n sl : Nat) (f : Nat → mi_C) {l1 : Nat} {l2 : Int32} {l3 : Int32} {l4 : Int64} {l5 : Int32} {fs6 : List Value} {x9 : Nat} (m11 i11 : Nat) (g11 : Nat → Int32) {fs15 : List Value} {x18 : Nat} (m20 i20 : Nat) (g20 : Nat → Int32) (h7 : f l1 = .inr (12, fs6)) (h8 : l1 < n) (h10 : fs6[40]? = some (.ref x9)) (h12 : f x9 = .inl (0, m11, .inl g11)) (h13 : x9 < n ∨ x9 = mi_SC) (h14 : mi_ix l3 m11 i11) (h16 : f l1 = .inr (12, fs15)) (h17 : l1 < n) (h19 : fs15[18]? = some (.ref x18)) (h21 : f x18 = .inl (0, m20, .inl g20)) (h22 : x18 < n ∨ x18 = mi_SC) (h23 : mi_ix l3 m20 i20) (h24 : ((g11 i11) + (g20 i20)) ≤ l5 → mi_W d 194 253 [some (.ref l1), some (.int l2), some (.int l3), some (.long l4), none, some (.int l5)] [] (n, sl, f) Q) (h25 : ¬ (((g11 i11) + (g20 i20)) ≤ l5) → mi_W d 194 219 [some (.ref l1), some (.int l2), some (.int l3), some (.long l4), none, some (.int l5)] [] (n, sl, f) Q) : mi_W d 194 201 [some (.ref l1), some (.int l2), some (.int l3), some (.long l4), none, some (.int l5)] [] (n, sl, f) Q := by
  refine w_iload cd_194_201 rfl ?_
  refine w_aload_n cd_194_203 rfl ?_
  refine w_getfield cd_194_204 (show mt_f 12 141 = some (12, 40) by decide +kernel) h7 h8 h10 ?_
  refine w_iload_n cd_194_207 rfl ?_
  refine w_iaload cd_194_208 h12 h13 h14 ?_
  refine w_aload_n cd_194_209 rfl ?_
  refine w_getfield cd_194_210 (show mt_f 12 95 = some (12, 18) by decide +kernel) h16 h17 h19 ?_
  refine w_iload_n cd_194_213 rfl ?_
  refine w_iaload cd_194_214 h21 h22 h23 ?_
  refine w_iadd cd_194_215 ?_
  exact w_if_icmpge cd_194_216 (by decide) h24 h25
theorem b_194_219 {d : Nat} {Q : (Option Value ⊕ Nat) → mi_H → Prop} (n sl : Nat) (f : Nat → mi_C) {l1 : Nat} {l2 : Int32} {l3 : Int32} {l4 : Int64} {l5 : Int32} (h6 : (0 : Int32) < (lg_cmp l4 16) → mi_W d 194 253 [some (.ref l1), some (.int l2), some (.int l3), some (.long l4), none, some (.int l5)] [] (n, sl, f) Q) (h7 : ¬ ((0 : Int32) < (lg_cmp l4 16)) → mi_W d 194 227 [some (.ref l1), some (.int l2), some (.int l3), some (.long l4), none, some (.int l5)] [] (n, sl, f) Q) : mi_W d 194 219 [some (.ref l1), some (.int l2), some (.int l3), some (.long l4), none, some (.int l5)] [] (n, sl, f) Q := by
  refine w_lload_n cd_194_219 rfl ?_
  refine w_ldc2_w (lv := 16) cd_194_220 (by decide +kernel) ?_
  refine w_lcmp cd_194_223 ?_
  exact w_ifgt cd_194_224 (by decide) h6 h7
theorem b_194_227 {d : Nat} {Q : (Option Value ⊕ Nat) → mi_H → Prop} (n sl : Nat) (f : Nat → mi_C) {l1 : Nat} {l2 : Int32} {l3 : Int32} {l4 : Int64} {l5 : Int32} {fs6 : List Value} {x9 : Nat} (m11 i11 : Nat) (g11 : Nat → Int64) {fs15 : List Value} {x18 : Nat} (m20 i20 : Nat) (g20 : Nat → Int64) (h7 : f l1 = .inr (12, fs6)) (h8 : l1 < n) (h10 : fs6[29]? = some (.ref x9)) (h12 : f x9 = .inl (3, m11, .inr (.inl g11))) (h13 : x9 < n) (h14 : mi_ix l5 m11 i11) (h16 : f l1 = .inr (12, fs15)) (h17 : l1 < n) (h19 : fs15[28]? = some (.ref x18)) (h21 : f x18 = .inl (3, m20, .inr (.inl g20))) (h22 : x18 < n) (h23 : mi_ix l5 m20 i20) (h24 : mi_W d 194 201 [some (.ref l1), some (.int l2), some (.int l3), some (.long (l4 + (((g11 i11) - (g20 i20)) + 1))), none, some (.int (l5 + 1))] [] (n, sl, f) Q) : mi_W d 194 227 [some (.ref l1), some (.int l2), some (.int l3), some (.long l4), none, some (.int l5)] [] (n, sl, f) Q := by
  refine w_lload_n cd_194_227 rfl ?_
  refine w_aload_n cd_194_228 rfl ?_
  refine w_getfield cd_194_229 (show mt_f 12 108 = some (12, 29) by decide +kernel) h7 h8 h10 ?_
  refine w_iload cd_194_232 rfl ?_
  refine w_laload cd_194_234 h12 h13 h14 ?_
  refine w_aload_n cd_194_235 rfl ?_
  refine w_getfield cd_194_236 (show mt_f 12 105 = some (12, 28) by decide +kernel) h16 h17 h19 ?_
  refine w_iload cd_194_239 rfl ?_
  refine w_laload cd_194_241 h21 h22 h23 ?_
  refine w_lsub cd_194_242 ?_
  refine w_lconst (lv := 1) cd_194_243 (by decide) ?_
  refine w_ladd cd_194_244 ?_
  refine w_ladd cd_194_245 ?_
  refine w_lstore_n (ls' := [some (.ref l1), some (.int l2), some (.int l3), some (.long (l4 + (((g11 i11) - (g20 i20)) + 1))), none, some (.int l5)]) cd_194_246 (Nat.le_of_ble_eq_true rfl) rfl ?_
  refine w_iinc (v := 1) (ls' := [some (.ref l1), some (.int l2), some (.int l3), some (.long (l4 + (((g11 i11) - (g20 i20)) + 1))), none, some (.int (l5 + 1))]) cd_194_247 rfl (by decide) rfl ?_
  exact w_goto cd_194_250 (by decide) h24
theorem b_194_253 {d : Nat} {Q : (Option Value ⊕ Nat) → mi_H → Prop} (n sl : Nat) (f : Nat → mi_C) {l1 : Nat} {l2 : Int32} {l3 : Int32} {l4 : Int64} {l5 : Int32} (h6 : (lg_cmp l4 16) ≤ (0 : Int32) → mi_W d 194 263 [some (.ref l1), some (.int l2), some (.int l3), some (.long l4), none, some (.int l5)] [] (n, sl, f) Q) (h7 : ¬ ((lg_cmp l4 16) ≤ (0 : Int32)) → mi_W d 194 261 [some (.ref l1), some (.int l2), some (.int l3), some (.long l4), none, some (.int l5)] [] (n, sl, f) Q) : mi_W d 194 253 [some (.ref l1), some (.int l2), some (.int l3), some (.long l4), none, some (.int l5)] [] (n, sl, f) Q := by
  refine w_lload_n cd_194_253 rfl ?_
  refine w_ldc2_w (lv := 16) cd_194_254 (by decide +kernel) ?_
  refine w_lcmp cd_194_257 ?_
  exact w_ifle cd_194_258 (by decide) h6 h7
theorem b_194_261 {d : Nat} {Q : (Option Value ⊕ Nat) → mi_H → Prop} (n sl : Nat) (f : Nat → mi_C) {l1 : Nat} {l2 : Int32} {l3 : Int32} {l4 : Int64} {l5 : Int32} (h6 : Q (.inl (some (.int 1))) (n, sl, f)) : mi_W d 194 261 [some (.ref l1), some (.int l2), some (.int l3), some (.long l4), none, some (.int l5)] [] (n, sl, f) Q := by
  refine w_iconst (v := 1) cd_194_261 (by decide) ?_
  exact w_ireturn_z cd_194_262 (by decide +kernel) (by decide) h6
theorem b_194_263 {d : Nat} {Q : (Option Value ⊕ Nat) → mi_H → Prop} (n sl : Nat) (f : Nat → mi_C) {l1 : Nat} {l2 : Int32} {l3 : Int32} {o4 : Option Value} {o5 : Option Value} {o6 : Option Value} {fs7 : List Value} {x10 : Nat} (m12 i12 : Nat) (g12 : Nat → Int32) (h8 : f l1 = .inr (12, fs7)) (h9 : l1 < n) (h11 : fs7[39]? = some (.ref x10)) (h13 : f x10 = .inl (0, m12, .inl g12)) (h14 : x10 < n ∨ x10 = mi_SC) (h15 : mi_ix l3 m12 i12) (h16 : mi_W d 194 134 [some (.ref l1), some (.int l2), some (.int (g12 i12)), o4, o5, o6] [] (n, sl, f) Q) : mi_W d 194 263 [some (.ref l1), some (.int l2), some (.int l3), o4, o5, o6] [] (n, sl, f) Q := by
  refine w_aload_n cd_194_263 rfl ?_
  refine w_getfield cd_194_264 (show mt_f 12 138 = some (12, 39) by decide +kernel) h8 h9 h11 ?_
  refine w_iload_n cd_194_267 rfl ?_
  refine w_iaload cd_194_268 h13 h14 h15 ?_
  refine w_istore_n (ls' := [some (.ref l1), some (.int l2), some (.int (g12 i12)), o4, o5, o6]) cd_194_269 (Nat.le_of_ble_eq_true rfl) rfl ?_
  exact w_goto cd_194_270 (by decide) h16
theorem b_194_273 {d : Nat} {Q : (Option Value ⊕ Nat) → mi_H → Prop} (n sl : Nat) (f : Nat → mi_C) {l1 : Nat} {l2 : Int32} {l3 : Int32} {o4 : Option Value} {o5 : Option Value} {o6 : Option Value} {fs7 : List Value} {x10 : Nat} (m12 i12 : Nat) (g12 : Nat → Int32) {fs16 : List Value} (h8 : f l1 = .inr (12, fs7)) (h9 : l1 < n) (h11 : fs7[19]? = some (.ref x10)) (h13 : f x10 = .inl (0, m12, .inl g12)) (h14 : x10 < n ∨ x10 = mi_SC) (h15 : mi_ix l2 m12 i12) (h17 : f l1 = .inr (12, fs16)) (h18 : l1 < n) (h19 : mi_W d 194 0 (mi_en 6 [.ref l1, .int (g12 i12)]) [] (n, sl, f) (mi_Kc d 194 280 [some (.ref l1), some (.int l2), some (.int l3), o4, o5, o6] [] Q)) : mi_W (d + 1) 194 273 [some (.ref l1), some (.int l2), some (.int l3), o4, o5, o6] [] (n, sl, f) Q := by
  refine w_aload_n cd_194_273 rfl ?_
  refine w_aload_n cd_194_274 rfl ?_
  refine w_getfield cd_194_275 (show mt_f 12 98 = some (12, 19) by decide +kernel) h8 h9 h11 ?_
  refine w_iload_n cd_194_278 rfl ?_
  refine w_iaload cd_194_279 h13 h14 h15 ?_
  exact w_invokevirtual cd_194_280 (show mt_m 12 557 = some (194, 0) by decide +kernel) (rest := []) rfl (as := [.ref l1, .int (g12 i12)]) rfl h17 (Or.inl h18) ⟨Nat.le_of_ble_eq_true rfl, Nat.le_of_ble_eq_true rfl, Nat.le_of_ble_eq_true rfl⟩ h19
theorem b_194_283 {d : Nat} {Q : (Option Value ⊕ Nat) → mi_H → Prop} (n sl : Nat) (f : Nat → mi_C) {l1 : Nat} {l2 : Int32} {l3 : Int32} {o4 : Option Value} {o5 : Option Value} {o6 : Option Value} {s7 : Int32} (h8 : s7 = 0 ∨ s7 = 1) (h9 : Q (.inl (some (.int s7))) (n, sl, f)) : mi_W d 194 283 [some (.ref l1), some (.int l2), some (.int l3), o4, o5, o6] [.int s7] (n, sl, f) Q := by
  exact w_ireturn_z cd_194_283 (by decide +kernel) h8 h9
end
