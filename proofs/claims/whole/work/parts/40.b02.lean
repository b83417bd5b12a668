section
/-! MarloweHost$Reckoner.look(LMarloweHost$Situation;JJ)V -/
set_option maxRecDepth 100000 in
theorem mq_78 : mt_q 78 = my_78 := rfl
set_option maxRecDepth 100000 in
theorem ci_78 : mt_inc 0 my_78.cd = true := by decide +kernel
theorem cd_78_0 : mt_cd 78 0 = some (.aload_n 0) := mt_cd_of (q := (0, .aload_n 0, 1)) mq_78 ci_78 (List.mem_of_getElem? (i := 0) rfl)
theorem cd_78_1 : mt_cd 78 1 = some (.aload_n 1) := mt_cd_of (q := (1, .aload_n 1, 1)) mq_78 ci_78 (List.mem_of_getElem? (i := 1) rfl)
theorem cd_78_2 : mt_cd 78 2 = some (.putfield 15) := mt_cd_of (q := (2, .putfield 15, 3)) mq_78 ci_78 (List.mem_of_getElem? (i := 2) rfl)
theorem cd_78_5 : mt_cd 78 5 = some (.aload_n 0) := mt_cd_of (q := (5, .aload_n 0, 1)) mq_78 ci_78 (List.mem_of_getElem? (i := 3) rfl)
theorem cd_78_6 : mt_cd 78 6 = some (.lload_n 2) := mt_cd_of (q := (6, .lload_n 2, 1)) mq_78 ci_78 (List.mem_of_getElem? (i := 4) rfl)
theorem cd_78_7 : mt_cd 78 7 = some (.putfield 19) := mt_cd_of (q := (7, .putfield 19, 3)) mq_78 ci_78 (List.mem_of_getElem? (i := 5) rfl)
theorem cd_78_10 : mt_cd 78 10 = some (.aload_n 0) := mt_cd_of (q := (10, .aload_n 0, 1)) mq_78 ci_78 (List.mem_of_getElem? (i := 6) rfl)
theorem cd_78_11 : mt_cd 78 11 = some (.lload 4) := mt_cd_of (q := (11, .lload 4, 2)) mq_78 ci_78 (List.mem_of_getElem? (i := 7) rfl)
theorem cd_78_13 : mt_cd 78 13 = some (.putfield 23) := mt_cd_of (q := (13, .putfield 23, 3)) mq_78 ci_78 (List.mem_of_getElem? (i := 8) rfl)
theorem cd_78_16 : mt_cd 78 16 = some (.aload_n 0) := mt_cd_of (q := (16, .aload_n 0, 1)) mq_78 ci_78 (List.mem_of_getElem? (i := 9) rfl)
theorem cd_78_17 : mt_cd 78 17 = some (.iconst 0) := mt_cd_of (q := (17, .iconst 0, 1)) mq_78 ci_78 (List.mem_of_getElem? (i := 10) rfl)
theorem cd_78_18 : mt_cd 78 18 = some (.putfield 26) := mt_cd_of (q := (18, .putfield 26, 3)) mq_78 ci_78 (List.mem_of_getElem? (i := 11) rfl)
theorem cd_78_21 : mt_cd 78 21 = some (.return_) := mt_cd_of (q := (21, .return_, 1)) mq_78 ci_78 (List.mem_of_getElem? (i := 12) rfl)
theorem b_78_0 {d : Nat} {Q : (Option Value ⊕ Nat) → mi_H → Prop} (n sl : Nat) (f : Nat → mi_C) {l1 : Nat} {l2 : Nat} {l3 : Int64} {l4 : Int64} {fs5 : List Value} {fs9 : List Value} {fs13 : List Value} {fs17 : List Value} (h6 : f l1 = .inr (10, fs5)) (h7 : l1 < n) (h8 : 1 < fs5.length) (h10 : (va_up f l1 (.inr (10, fs5.set 1 (.ref l2)))) l1 = .inr (10, fs9)) (h11 : l1 < n) (h12 : 2 < fs9.length) (h14 : (va_up (va_up f l1 (.inr (10, fs5.set 1 (.ref l2)))) l1 (.inr (10, fs9.set 2 (.long l3)))) l1 = .inr (10, fs13)) (h15 : l1 < n) (h16 : 3 < fs13.length) (h18 : (va_up (va_up (va_up f l1 (.inr (10, fs5.set 1 (.ref l2)))) l1 (.inr (10, fs9.set 2 (.long l3)))) l1 (.inr (10, fs13.set 3 (.long l4)))) l1 = .inr (10, fs17)) (h19 : l1 < n) (h20 : 4 < fs17.length) (h21 : mi_fk .boolean (.int 0) = true) (h22 : Q (.inl none) (n, sl, (va_up (va_up (va_up (va_up f l1 (.inr (10, fs5.set 1 (.ref l2)))) l1 (.inr (10, fs9.set 2 (.long l3)))) l1 (.inr (10, fs13.set 3 (.long l4)))) l1 (.inr (10, fs17.set 4 (.int 0)))))) : mi_W d 78 0 [some (.ref l1), some (.ref l2), some (.long l3), none, some (.long l4), none] [] (n, sl, f) Q := by
  refine w_aload_n cd_78_0 rfl ?_
  refine w_aload_n cd_78_1 rfl ?_
  refine w_putfield (w := .ref l2) cd_78_2 (show mt_f 10 15 = some (10, 1) by decide +kernel) h6 h7 ⟨h8, rfl, Or.inl (by decide)⟩ ?_
  refine w_aload_n cd_78_5 rfl ?_
  refine w_lload_n cd_78_6 rfl ?_
  refine w_putfield (w := .long l3) cd_78_7 (show mt_f 10 19 = some (10, 2) by decide +kernel) h10 h11 ⟨h12, rfl, Or.inl (by decide)⟩ ?_
  refine w_aload_n cd_78_10 rfl ?_
  refine w_lload cd_78_11 rfl ?_
  refine w_putfield (w := .long l4) cd_78_13 (show mt_f 10 23 = some (10, 3) by decide +kernel) h14 h15 ⟨h16, rfl, Or.inl (by decide)⟩ ?_
  refine w_aload_n cd_78_16 rfl ?_
  refine w_iconst (v := 0) cd_78_17 (by decide) ?_
  refine w_putfield (w := .int 0) cd_78_18 (show mt_f 10 26 = some (10, 4) by decide +kernel) h18 h19 ⟨h20, h21, Or.inl (by decide)⟩ ?_
  exact w_return cd_78_21 (by decide +kernel) h22
/-! MarloweHost$Wallets.begin()V -/
set_option maxRecDepth 100000 in
theorem mq_79 : mt_q 79 = my_79 := rfl
set_option maxRecDepth 100000 in
theorem ci_79 : mt_inc 0 my_79.cd = true := by decide +kernel
theorem cd_79_0 : mt_cd 79 0 = some (.aload_n 0) := mt_cd_of (q := (0, .aload_n 0, 1)) mq_79 ci_79 (List.mem_of_getElem? (i := 0) rfl)
theorem cd_79_1 : mt_cd 79 1 = some (.getfield 9) := mt_cd_of (q := (1, .getfield 9, 3)) mq_79 ci_79 (List.mem_of_getElem? (i := 1) rfl)
theorem cd_79_4 : mt_cd 79 4 = some (.iconst 0) := mt_cd_of (q := (4, .iconst 0, 1)) mq_79 ci_79 (List.mem_of_getElem? (i := 2) rfl)
theorem cd_79_5 : mt_cd 79 5 = some (.aload_n 0) := mt_cd_of (q := (5, .aload_n 0, 1)) mq_79 ci_79 (List.mem_of_getElem? (i := 3) rfl)
theorem cd_79_6 : mt_cd 79 6 = some (.getfield 15) := mt_cd_of (q := (6, .getfield 15, 3)) mq_79 ci_79 (List.mem_of_getElem? (i := 4) rfl)
theorem cd_79_9 : mt_cd 79 9 = some (.iconst 0) := mt_cd_of (q := (9, .iconst 0, 1)) mq_79 ci_79 (List.mem_of_getElem? (i := 5) rfl)
theorem cd_79_10 : mt_cd 79 10 = some (.bipush 32) := mt_cd_of (q := (10, .bipush 32, 2)) mq_79 ci_79 (List.mem_of_getElem? (i := 6) rfl)
theorem cd_79_12 : mt_cd 79 12 = some (.invokestatic 18) := mt_cd_of (q := (12, .invokestatic 18, 3)) mq_79 ci_79 (List.mem_of_getElem? (i := 7) rfl)
theorem cd_79_15 : mt_cd 79 15 = some (.return_) := mt_cd_of (q := (15, .return_, 1)) mq_79 ci_79 (List.mem_of_getElem? (i := 8) rfl)
theorem b_79_0 {d : Nat} {Q : (Option Value ⊕ Nat) → mi_H → Prop} (n sl : Nat) (f : Nat → mi_C) {l1 : Nat} {fs2 : List Value} {x5 : Nat} {fs7 : List Value} {x10 : Nat} (m12 k12 : Nat) (g12 e12 : Nat → Int64) (h3 : f l1 = .inr (5, fs2)) (h4 : l1 < n) (h6 : fs2[0]? = some (.ref x5)) (h8 : f l1 = .inr (5, fs7)) (h9 : l1 < n) (h11 : fs7[1]? = some (.ref x10)) (h13 : f x5 = .inl (3, m12, .inr (.inl g12))) (h14 : x5 < n) (h15 : f x10 = .inl (3, k12, .inr (.inl e12))) (h16 : x10 < n) (h17 : ¬ (0 : Int32) < 0 ∧ ¬ (0 : Int32) < 0 ∧ ¬ (32 : Int32) < 0 ∧ (0 : Int32).toNatClampNeg + (32 : Int32).toNatClampNeg ≤ m12 ∧ (0 : Int32).toNatClampNeg + (32 : Int32).toNatClampNeg ≤ k12) (h18 : Q (.inl none) (n, sl, (va_up f x10 (.inl (3, k12, .inr (.inl (va_cpy g12 e12 (0 : Int32).toNatClampNeg (0 : Int32).toNatClampNeg (32 : Int32).toNatClampNeg))))))) : mi_W d 79 0 [some (.ref l1)] [] (n, sl, f) Q := by
  refine w_aload_n cd_79_0 rfl ?_
  refine w_getfield cd_79_1 (show mt_f 5 9 = some (5, 0) by decide +kernel) h3 h4 h6 ?_
  refine w_iconst (v := 0) cd_79_4 (by decide) ?_
  refine w_aload_n cd_79_5 rfl ?_
  refine w_getfield cd_79_6 (show mt_f 5 15 = some (5, 1) by decide +kernel) h8 h9 h11 ?_
  refine w_iconst (v := 0) cd_79_9 (by decide) ?_
  refine w_bipush (v := 32) cd_79_10 (by decide) ?_
  refine w_arraycopy cd_79_12 (by decide) h13 h14 h15 h16 (Nat.le_of_ble_eq_true rfl) h17 ?_
  exact w_return cd_79_15 (by decide +kernel) h18
/-! MarloweHost$Machine.reduce()Z -/
set_option maxRecDepth 100000 in
theorem mq_80 : mt_q 80 = my_80 := rfl
set_option maxRecDepth 100000 in
theorem ci_80 : mt_inc 0 my_80.cd = true := by decide +kernel
theorem cd_80_0 : mt_cd 80 0 = some (.iconst 0) := mt_cd_of (q := (0, .iconst 0, 1)) mq_80 ci_80 (List.mem_append_left _ (show _ ∈ my_80_0 from List.mem_of_getElem? (i := 0) rfl))
theorem cd_80_1 : mt_cd 80 1 = some (.istore_n 1) := mt_cd_of (q := (1, .istore_n 1, 1)) mq_80 ci_80 (List.mem_append_left _ (show _ ∈ my_80_0 from List.mem_of_getElem? (i := 1) rfl))
theorem cd_80_2 : mt_cd 80 2 = some (.iconst 0) := mt_cd_of (q := (2, .iconst 0, 1)) mq_80 ci_80 (List.mem_append_left _ (show _ ∈ my_80_0 from List.mem_of_getElem? (i := 2) rfl))
theorem cd_80_3 : mt_cd 80 3 = some (.istore_n 2) := mt_cd_of (q := (3, .istore_n 2, 1)) mq_80 ci_80 (List.mem_append_left _ (show _ ∈ my_80_0 from List.mem_of_getElem? (i := 3) rfl))
theorem cd_80_4 : mt_cd 80 4 = some (.iload_n 2) := mt_cd_of (q := (4, .iload_n 2, 1)) mq_80 ci_80 (List.mem_append_left _ (show _ ∈ my_80_0 from List.mem_of_getElem? (i := 4) rfl))
theorem cd_80_5 : mt_cd 80 5 = some (.sipush 148) := mt_cd_of (q := (5, .sipush 148, 3)) mq_80 ci_80 (List.mem_append_left _ (show _ ∈ my_80_0 from List.mem_of_getElem? (i := 5) rfl))
theorem cd_80_8 : mt_cd 80 8 = some (.if_icmp .ge 244) := mt_cd_of (q := (8, .if_icmp .ge 244, 3)) mq_80 ci_80 (List.mem_append_left _ (show _ ∈ my_80_0 from List.mem_of_getElem? (i := 6) rfl))
theorem cd_80_11 : mt_cd 80 11 = some (.aload_n 0) := mt_cd_of (q := (11, .aload_n 0, 1)) mq_80 ci_80 (List.mem_append_left _ (show _ ∈ my_80_0 from List.mem_of_getElem? (i := 7) rfl))
theorem cd_80_12 : mt_cd 80 12 = some (.getfield 49) := mt_cd_of (q := (12, .getfield 49, 3)) mq_80 ci_80 (List.mem_append_left _ (show _ ∈ my_80_0 from List.mem_of_getElem? (i := 8) rfl))
theorem cd_80_15 : mt_cd 80 15 = some (.ifCond .ne 237) := mt_cd_of (q := (15, .ifCond .ne 237, 3)) mq_80 ci_80 (List.mem_append_left _ (show _ ∈ my_80_0 from List.mem_of_getElem? (i := 9) rfl))
theorem cd_80_18 : mt_cd 80 18 = some (.aload_n 0) := mt_cd_of (q := (18, .aload_n 0, 1)) mq_80 ci_80 (List.mem_append_left _ (show _ ∈ my_80_0 from List.mem_of_getElem? (i := 10) rfl))
theorem cd_80_19 : mt_cd 80 19 = some (.getfield 29) := mt_cd_of (q := (19, .getfield 29, 3)) mq_80 ci_80 (List.mem_append_left _ (show _ ∈ my_80_0 from List.mem_of_getElem? (i := 11) rfl))
theorem cd_80_22 : mt_cd 80 22 = some (.getfield 94) := mt_cd_of (q := (22, .getfield 94, 3)) mq_80 ci_80 (List.mem_append_left _ (show _ ∈ my_80_0 from List.mem_of_getElem? (i := 12) rfl))
theorem cd_80_25 : mt_cd 80 25 = some (.istore_n 3) := mt_cd_of (q := (25, .istore_n 3, 1)) mq_80 ci_80 (List.mem_append_left _ (show _ ∈ my_80_0 from List.mem_of_getElem? (i := 13) rfl))
theorem cd_80_26 : mt_cd 80 26 = some (.iconst 1) := mt_cd_of (q := (26, .iconst 1, 1)) mq_80 ci_80 (List.mem_append_left _ (show _ ∈ my_80_0 from List.mem_of_getElem? (i := 14) rfl))
theorem cd_80_27 : mt_cd 80 27 = some (.istore 4) := mt_cd_of (q := (27, .istore 4, 2)) mq_80 ci_80 (List.mem_append_left _ (show _ ∈ my_80_0 from List.mem_of_getElem? (i := 15) rfl))
theorem cd_80_29 : mt_cd 80 29 = some (.aload_n 0) := mt_cd_of (q := (29, .aload_n 0, 1)) mq_80 ci_80 (List.mem_append_left _ (show _ ∈ my_80_0 from List.mem_of_getElem? (i := 16) rfl))
theorem cd_80_30 : mt_cd 80 30 = some (.getfield 18) := mt_cd_of (q := (30, .getfield 18, 3)) mq_80 ci_80 (List.mem_append_left _ (show _ ∈ my_80_0 from List.mem_of_getElem? (i := 17) rfl))
theorem cd_80_33 : mt_cd 80 33 = some (.iload_n 3) := mt_cd_of (q := (33, .iload_n 3, 1)) mq_80 ci_80 (List.mem_append_left _ (show _ ∈ my_80_0 from List.mem_of_getElem? (i := 18) rfl))
theorem cd_80_34 : mt_cd 80 34 = some (.invokevirtual 97) := mt_cd_of (q := (34, .invokevirtual 97, 3)) mq_80 ci_80 (List.mem_append_left _ (show _ ∈ my_80_0 from List.mem_of_getElem? (i := 19) rfl))
theorem cd_80_37 : mt_cd 80 37 = some (.tableswitch 181 0 7 #[47, 56, 181, 181, 64, 115, 125, 133]) := mt_cd_of (q := (37, .tableswitch 181 0 7 #[47, 56, 181, 181, 64, 115, 125, 133], 47)) mq_80 ci_80 (List.mem_append_left _ (show _ ∈ my_80_0 from List.mem_of_getElem? (i := 20) rfl))
theorem cd_80_84 : mt_cd 80 84 = some (.aload_n 0) := mt_cd_of (q := (84, .aload_n 0, 1)) mq_80 ci_80 (List.mem_append_left _ (show _ ∈ my_80_0 from List.mem_of_getElem? (i := 21) rfl))
theorem cd_80_85 : mt_cd 80 85 = some (.invokevirtual 111) := mt_cd_of (q := (85, .invokevirtual 111, 3)) mq_80 ci_80 (List.mem_append_left _ (show _ ∈ my_80_0 from List.mem_of_getElem? (i := 22) rfl))
theorem cd_80_88 : mt_cd 80 88 = some (.istore 4) := mt_cd_of (q := (88, .istore 4, 2)) mq_80 ci_80 (List.mem_append_left _ (show _ ∈ my_80_0 from List.mem_of_getElem? (i := 23) rfl))
theorem cd_80_90 : mt_cd 80 90 = some (.goto 131) := mt_cd_of (q := (90, .goto 131, 3)) mq_80 ci_80 (List.mem_append_left _ (show _ ∈ my_80_0 from List.mem_of_getElem? (i := 24) rfl))
theorem cd_80_93 : mt_cd 80 93 = some (.aload_n 0) := mt_cd_of (q := (93, .aload_n 0, 1)) mq_80 ci_80 (List.mem_append_left _ (show _ ∈ my_80_0 from List.mem_of_getElem? (i := 25) rfl))
theorem cd_80_94 : mt_cd 80 94 = some (.iload_n 3) := mt_cd_of (q := (94, .iload_n 3, 1)) mq_80 ci_80 (List.mem_append_left _ (show _ ∈ my_80_0 from List.mem_of_getElem? (i := 26) rfl))
theorem cd_80_95 : mt_cd 80 95 = some (.invokevirtual 114) := mt_cd_of (q := (95, .invokevirtual 114, 3)) mq_80 ci_80 (List.mem_append_left _ (show _ ∈ my_80_0 from List.mem_of_getElem? (i := 27) rfl))
theorem cd_80_98 : mt_cd 80 98 = some (.goto 123) := mt_cd_of (q := (98, .goto 123, 3)) mq_80 ci_80 (List.mem_append_left _ (show _ ∈ my_80_0 from List.mem_of_getElem? (i := 28) rfl))
theorem cd_80_101 : mt_cd 80 101 = some (.aload_n 0) := mt_cd_of (q := (101, .aload_n 0, 1)) mq_80 ci_80 (List.mem_append_left _ (show _ ∈ my_80_0 from List.mem_of_getElem? (i := 29) rfl))
theorem cd_80_102 : mt_cd 80 102 = some (.getfield 29) := mt_cd_of (q := (102, .getfield 29, 3)) mq_80 ci_80 (List.mem_append_left _ (show _ ∈ my_80_0 from List.mem_of_getElem? (i := 30) rfl))
theorem cd_80_105 : mt_cd 80 105 = some (.aload_n 0) := mt_cd_of (q := (105, .aload_n 0, 1)) mq_80 ci_80 (List.mem_append_left _ (show _ ∈ my_80_0 from List.mem_of_getElem? (i := 31) rfl))
theorem cd_80_106 : mt_cd 80 106 = some (.getfield 38) := mt_cd_of (q := (106, .getfield 38, 3)) mq_80 ci_80 (List.mem_append_left _ (show _ ∈ my_80_0 from List.mem_of_getElem? (i := 32) rfl))
theorem cd_80_109 : mt_cd 80 109 = some (.aload_n 0) := mt_cd_of (q := (109, .aload_n 0, 1)) mq_80 ci_80 (List.mem_append_left _ (show _ ∈ my_80_0 from List.mem_of_getElem? (i := 33) rfl))
theorem cd_80_110 : mt_cd 80 110 = some (.getfield 18) := mt_cd_of (q := (110, .getfield 18, 3)) mq_80 ci_80 (List.mem_append_left _ (show _ ∈ my_80_0 from List.mem_of_getElem? (i := 34) rfl))
theorem cd_80_113 : mt_cd 80 113 = some (.getfield 118) := mt_cd_of (q := (113, .getfield 118, 3)) mq_80 ci_80 (List.mem_append_left _ (show _ ∈ my_80_0 from List.mem_of_getElem? (i := 35) rfl))
theorem cd_80_116 : mt_cd 80 116 = some (.iload_n 3) := mt_cd_of (q := (116, .iload_n 3, 1)) mq_80 ci_80 (List.mem_append_left _ (show _ ∈ my_80_0 from List.mem_of_getElem? (i := 36) rfl))
theorem cd_80_117 : mt_cd 80 117 = some (.iaload) := mt_cd_of (q := (117, .iaload, 1)) mq_80 ci_80 (List.mem_append_left _ (show _ ∈ my_80_0 from List.mem_of_getElem? (i := 37) rfl))
theorem cd_80_118 : mt_cd 80 118 = some (.iconst 1) := mt_cd_of (q := (118, .iconst 1, 1)) mq_80 ci_80 (List.mem_append_left _ (show _ ∈ my_80_0 from List.mem_of_getElem? (i := 38) rfl))
theorem cd_80_119 : mt_cd 80 119 = some (.invokevirtual 122) := mt_cd_of (q := (119, .invokevirtual 122, 3)) mq_80 ci_80 (List.mem_append_left _ (show _ ∈ my_80_0 from List.mem_of_getElem? (i := 39) rfl))
theorem cd_80_122 : mt_cd 80 122 = some (.ifCond .eq 15) := mt_cd_of (q := (122, .ifCond .eq 15, 3)) mq_80 ci_80 (List.mem_append_left _ (show _ ∈ my_80_0 from List.mem_of_getElem? (i := 40) rfl))
theorem cd_80_125 : mt_cd 80 125 = some (.aload_n 0) := mt_cd_of (q := (125, .aload_n 0, 1)) mq_80 ci_80 (List.mem_append_left _ (show _ ∈ my_80_0 from List.mem_of_getElem? (i := 41) rfl))
theorem cd_80_126 : mt_cd 80 126 = some (.getfield 18) := mt_cd_of (q := (126, .getfield 18, 3)) mq_80 ci_80 (List.mem_append_left _ (show _ ∈ my_80_0 from List.mem_of_getElem? (i := 42) rfl))
theorem cd_80_129 : mt_cd 80 129 = some (.getfield 126) := mt_cd_of (q := (129, .getfield 126, 3)) mq_80 ci_80 (List.mem_append_left _ (show _ ∈ my_80_0 from List.mem_of_getElem? (i := 43) rfl))
theorem cd_80_132 : mt_cd 80 132 = some (.iload_n 3) := mt_cd_of (q := (132, .iload_n 3, 1)) mq_80 ci_80 (List.mem_append_left _ (show _ ∈ my_80_0 from List.mem_of_getElem? (i := 44) rfl))
theorem cd_80_133 : mt_cd 80 133 = some (.iaload) := mt_cd_of (q := (133, .iaload, 1)) mq_80 ci_80 (List.mem_append_left _ (show _ ∈ my_80_0 from List.mem_of_getElem? (i := 45) rfl))
theorem cd_80_134 : mt_cd 80 134 = some (.goto 12) := mt_cd_of (q := (134, .goto 12, 3)) mq_80 ci_80 (List.mem_append_left _ (show _ ∈ my_80_0 from List.mem_of_getElem? (i := 46) rfl))
theorem cd_80_137 : mt_cd 80 137 = some (.aload_n 0) := mt_cd_of (q := (137, .aload_n 0, 1)) mq_80 ci_80 (List.mem_append_left _ (show _ ∈ my_80_0 from List.mem_of_getElem? (i := 47) rfl))
theorem cd_80_138 : mt_cd 80 138 = some (.getfield 18) := mt_cd_of (q := (138, .getfield 18, 3)) mq_80 ci_80 (List.mem_append_left _ (show _ ∈ my_80_0 from List.mem_of_getElem? (i := 48) rfl))
theorem cd_80_141 : mt_cd 80 141 = some (.getfield 129) := mt_cd_of (q := (141, .getfield 129, 3)) mq_80 ci_80 (List.mem_append_left _ (show _ ∈ my_80_0 from List.mem_of_getElem? (i := 49) rfl))
theorem cd_80_144 : mt_cd 80 144 = some (.iload_n 3) := mt_cd_of (q := (144, .iload_n 3, 1)) mq_80 ci_80 (List.mem_append_left _ (show _ ∈ my_80_0 from List.mem_of_getElem? (i := 50) rfl))
theorem cd_80_145 : mt_cd 80 145 = some (.iaload) := mt_cd_of (q := (145, .iaload, 1)) mq_80 ci_80 (List.mem_append_left _ (show _ ∈ my_80_0 from List.mem_of_getElem? (i := 51) rfl))
theorem cd_80_146 : mt_cd 80 146 = some (.putfield 94) := mt_cd_of (q := (146, .putfield 94, 3)) mq_80 ci_80 (List.mem_append_left _ (show _ ∈ my_80_0 from List.mem_of_getElem? (i := 52) rfl))
theorem cd_80_149 : mt_cd 80 149 = some (.goto 72) := mt_cd_of (q := (149, .goto 72, 3)) mq_80 ci_80 (List.mem_append_left _ (show _ ∈ my_80_0 from List.mem_of_getElem? (i := 53) rfl))
theorem cd_80_152 : mt_cd 80 152 = some (.aload_n 0) := mt_cd_of (q := (152, .aload_n 0, 1)) mq_80 ci_80 (List.mem_append_left _ (show _ ∈ my_80_0 from List.mem_of_getElem? (i := 54) rfl))
theorem cd_80_153 : mt_cd 80 153 = some (.iload_n 3) := mt_cd_of (q := (153, .iload_n 3, 1)) mq_80 ci_80 (List.mem_append_left _ (show _ ∈ my_80_0 from List.mem_of_getElem? (i := 55) rfl))
theorem cd_80_154 : mt_cd 80 154 = some (.invokevirtual 132) := mt_cd_of (q := (154, .invokevirtual 132, 3)) mq_80 ci_80 (List.mem_append_left _ (show _ ∈ my_80_0 from List.mem_of_getElem? (i := 56) rfl))
theorem cd_80_157 : mt_cd 80 157 = some (.istore 4) := mt_cd_of (q := (157, .istore 4, 2)) mq_80 ci_80 (List.mem_append_left _ (show _ ∈ my_80_0 from List.mem_of_getElem? (i := 57) rfl))
theorem cd_80_159 : mt_cd 80 159 = some (.goto 62) := mt_cd_of (q := (159, .goto 62, 3)) mq_80 ci_80 (List.mem_append_left _ (show _ ∈ my_80_0 from List.mem_of_getElem? (i := 58) rfl))
theorem cd_80_162 : mt_cd 80 162 = some (.aload_n 0) := mt_cd_of (q := (162, .aload_n 0, 1)) mq_80 ci_80 (List.mem_append_left _ (show _ ∈ my_80_0 from List.mem_of_getElem? (i := 59) rfl))
theorem cd_80_163 : mt_cd 80 163 = some (.iload_n 3) := mt_cd_of (q := (163, .iload_n 3, 1)) mq_80 ci_80 (List.mem_append_right _ ((show _ ∈ my_80_1 from List.mem_of_getElem? (i := 0) rfl)))
theorem cd_80_164 : mt_cd 80 164 = some (.invokevirtual 136) := mt_cd_of (q := (164, .invokevirtual 136, 3)) mq_80 ci_80 (List.mem_append_right _ ((show _ ∈ my_80_1 from List.mem_of_getElem? (i := 1) rfl)))
theorem cd_80_167 : mt_cd 80 167 = some (.goto 54) := mt_cd_of (q := (167, .goto 54, 3)) mq_80 ci_80 (List.mem_append_right _ ((show _ ∈ my_80_1 from List.mem_of_getElem? (i := 2) rfl)))
theorem cd_80_170 : mt_cd 80 170 = some (.aload_n 0) := mt_cd_of (q := (170, .aload_n 0, 1)) mq_80 ci_80 (List.mem_append_right _ ((show _ ∈ my_80_1 from List.mem_of_getElem? (i := 3) rfl)))
theorem cd_80_171 : mt_cd 80 171 = some (.getfield 38) := mt_cd_of (q := (171, .getfield 38, 3)) mq_80 ci_80 (List.mem_append_right _ ((show _ ∈ my_80_1 from List.mem_of_getElem? (i := 4) rfl)))
theorem cd_80_174 : mt_cd 80 174 = some (.aload_n 0) := mt_cd_of (q := (174, .aload_n 0, 1)) mq_80 ci_80 (List.mem_append_right _ ((show _ ∈ my_80_1 from List.mem_of_getElem? (i := 5) rfl)))
theorem cd_80_175 : mt_cd 80 175 = some (.getfield 18) := mt_cd_of (q := (175, .getfield 18, 3)) mq_80 ci_80 (List.mem_append_right _ ((show _ ∈ my_80_1 from List.mem_of_getElem? (i := 6) rfl)))
theorem cd_80_178 : mt_cd 80 178 = some (.getfield 118) := mt_cd_of (q := (178, .getfield 118, 3)) mq_80 ci_80 (List.mem_append_right _ ((show _ ∈ my_80_1 from List.mem_of_getElem? (i := 7) rfl)))
theorem cd_80_181 : mt_cd 80 181 = some (.iload_n 3) := mt_cd_of (q := (181, .iload_n 3, 1)) mq_80 ci_80 (List.mem_append_right _ ((show _ ∈ my_80_1 from List.mem_of_getElem? (i := 8) rfl)))
theorem cd_80_182 : mt_cd 80 182 = some (.iaload) := mt_cd_of (q := (182, .iaload, 1)) mq_80 ci_80 (List.mem_append_right _ ((show _ ∈ my_80_1 from List.mem_of_getElem? (i := 9) rfl)))
theorem cd_80_183 : mt_cd 80 183 = some (.iconst 1) := mt_cd_of (q := (183, .iconst 1, 1)) mq_80 ci_80 (List.mem_append_right _ ((show _ ∈ my_80_1 from List.mem_of_getElem? (i := 10) rfl)))
theorem cd_80_184 : mt_cd 80 184 = some (.invokevirtual 122) := mt_cd_of (q := (184, .invokevirtual 122, 3)) mq_80 ci_80 (List.mem_append_right _ ((show _ ∈ my_80_1 from List.mem_of_getElem? (i := 11) rfl)))
theorem cd_80_187 : mt_cd 80 187 = some (.ifCond .ne 12) := mt_cd_of (q := (187, .ifCond .ne 12, 3)) mq_80 ci_80 (List.mem_append_right _ ((show _ ∈ my_80_1 from List.mem_of_getElem? (i := 12) rfl)))
theorem cd_80_190 : mt_cd 80 190 = some (.aload_n 0) := mt_cd_of (q := (190, .aload_n 0, 1)) mq_80 ci_80 (List.mem_append_right _ ((show _ ∈ my_80_1 from List.mem_of_getElem? (i := 13) rfl)))
theorem cd_80_191 : mt_cd 80 191 = some (.getfield 12) := mt_cd_of (q := (191, .getfield 12, 3)) mq_80 ci_80 (List.mem_append_right _ ((show _ ∈ my_80_1 from List.mem_of_getElem? (i := 14) rfl)))
theorem cd_80_194 : mt_cd 80 194 = some (.iconst 5) := mt_cd_of (q := (194, .iconst 5, 1)) mq_80 ci_80 (List.mem_append_right _ ((show _ ∈ my_80_1 from List.mem_of_getElem? (i := 15) rfl)))
theorem cd_80_195 : mt_cd 80 195 = some (.iload_n 3) := mt_cd_of (q := (195, .iload_n 3, 1)) mq_80 ci_80 (List.mem_append_right _ ((show _ ∈ my_80_1 from List.mem_of_getElem? (i := 16) rfl)))
theorem cd_80_196 : mt_cd 80 196 = some (.invokevirtual 139) := mt_cd_of (q := (196, .invokevirtual 139, 3)) mq_80 ci_80 (List.mem_append_right _ ((show _ ∈ my_80_1 from List.mem_of_getElem? (i := 17) rfl)))
theorem cd_80_199 : mt_cd 80 199 = some (.aload_n 0) := mt_cd_of (q := (199, .aload_n 0, 1)) mq_80 ci_80 (List.mem_append_right _ ((show _ ∈ my_80_1 from List.mem_of_getElem? (i := 18) rfl)))
theorem cd_80_200 : mt_cd 80 200 = some (.getfield 29) := mt_cd_of (q := (200, .getfield 29, 3)) mq_80 ci_80 (List.mem_append_right _ ((show _ ∈ my_80_1 from List.mem_of_getElem? (i := 19) rfl)))
theorem cd_80_203 : mt_cd 80 203 = some (.aload_n 0) := mt_cd_of (q := (203, .aload_n 0, 1)) mq_80 ci_80 (List.mem_append_right _ ((show _ ∈ my_80_1 from List.mem_of_getElem? (i := 20) rfl)))
theorem cd_80_204 : mt_cd 80 204 = some (.getfield 18) := mt_cd_of (q := (204, .getfield 18, 3)) mq_80 ci_80 (List.mem_append_right _ ((show _ ∈ my_80_1 from List.mem_of_getElem? (i := 21) rfl)))
theorem cd_80_207 : mt_cd 80 207 = some (.getfield 129) := mt_cd_of (q := (207, .getfield 129, 3)) mq_80 ci_80 (List.mem_append_right _ ((show _ ∈ my_80_1 from List.mem_of_getElem? (i := 22) rfl)))
theorem cd_80_210 : mt_cd 80 210 = some (.iload_n 3) := mt_cd_of (q := (210, .iload_n 3, 1)) mq_80 ci_80 (List.mem_append_right _ ((show _ ∈ my_80_1 from List.mem_of_getElem? (i := 23) rfl)))
theorem cd_80_211 : mt_cd 80 211 = some (.iaload) := mt_cd_of (q := (211, .iaload, 1)) mq_80 ci_80 (List.mem_append_right _ ((show _ ∈ my_80_1 from List.mem_of_getElem? (i := 24) rfl)))
theorem cd_80_212 : mt_cd 80 212 = some (.putfield 94) := mt_cd_of (q := (212, .putfield 94, 3)) mq_80 ci_80 (List.mem_append_right _ ((show _ ∈ my_80_1 from List.mem_of_getElem? (i := 25) rfl)))
theorem cd_80_215 : mt_cd 80 215 = some (.goto 6) := mt_cd_of (q := (215, .goto 6, 3)) mq_80 ci_80 (List.mem_append_right _ ((show _ ∈ my_80_1 from List.mem_of_getElem? (i := 26) rfl)))
theorem cd_80_218 : mt_cd 80 218 = some (.iconst 0) := mt_cd_of (q := (218, .iconst 0, 1)) mq_80 ci_80 (List.mem_append_right _ ((show _ ∈ my_80_1 from List.mem_of_getElem? (i := 27) rfl)))
theorem cd_80_219 : mt_cd 80 219 = some (.istore 4) := mt_cd_of (q := (219, .istore 4, 2)) mq_80 ci_80 (List.mem_append_right _ ((show _ ∈ my_80_1 from List.mem_of_getElem? (i := 28) rfl)))
theorem cd_80_221 : mt_cd 80 221 = some (.aload_n 0) := mt_cd_of (q := (221, .aload_n 0, 1)) mq_80 ci_80 (List.mem_append_right _ ((show _ ∈ my_80_1 from List.mem_of_getElem? (i := 29) rfl)))
theorem cd_80_222 : mt_cd 80 222 = some (.getfield 38) := mt_cd_of (q := (222, .getfield 38, 3)) mq_80 ci_80 (List.mem_append_right _ ((show _ ∈ my_80_1 from List.mem_of_getElem? (i := 30) rfl)))
theorem cd_80_225 : mt_cd 80 225 = some (.getfield 143) := mt_cd_of (q := (225, .getfield 143, 3)) mq_80 ci_80 (List.mem_append_right _ ((show _ ∈ my_80_1 from List.mem_of_getElem? (i := 31) rfl)))
theorem cd_80_228 : mt_cd 80 228 = some (.ifCond .eq 9) := mt_cd_of (q := (228, .ifCond .eq 9, 3)) mq_80 ci_80 (List.mem_append_right _ ((show _ ∈ my_80_1 from List.mem_of_getElem? (i := 32) rfl)))
theorem cd_80_231 : mt_cd 80 231 = some (.aload_n 0) := mt_cd_of (q := (231, .aload_n 0, 1)) mq_80 ci_80 (List.mem_append_right _ ((show _ ∈ my_80_1 from List.mem_of_getElem? (i := 33) rfl)))
theorem cd_80_232 : mt_cd 80 232 = some (.bipush 6) := mt_cd_of (q := (232, .bipush 6, 2)) mq_80 ci_80 (List.mem_append_right _ ((show _ ∈ my_80_1 from List.mem_of_getElem? (i := 34) rfl)))
theorem cd_80_234 : mt_cd 80 234 = some (.putfield 49) := mt_cd_of (q := (234, .putfield 49, 3)) mq_80 ci_80 (List.mem_append_right _ ((show _ ∈ my_80_1 from List.mem_of_getElem? (i := 35) rfl)))
theorem cd_80_237 : mt_cd 80 237 = some (.iload 4) := mt_cd_of (q := (237, .iload 4, 2)) mq_80 ci_80 (List.mem_append_right _ ((show _ ∈ my_80_1 from List.mem_of_getElem? (i := 36) rfl)))
theorem cd_80_239 : mt_cd 80 239 = some (.ifCond .ne 5) := mt_cd_of (q := (239, .ifCond .ne 5, 3)) mq_80 ci_80 (List.mem_append_right _ ((show _ ∈ my_80_1 from List.mem_of_getElem? (i := 37) rfl)))
theorem cd_80_242 : mt_cd 80 242 = some (.iload_n 1) := mt_cd_of (q := (242, .iload_n 1, 1)) mq_80 ci_80 (List.mem_append_right _ ((show _ ∈ my_80_1 from List.mem_of_getElem? (i := 38) rfl)))
theorem cd_80_243 : mt_cd 80 243 = some (.ireturn) := mt_cd_of (q := (243, .ireturn, 1)) mq_80 ci_80 (List.mem_append_right _ ((show _ ∈ my_80_1 from List.mem_of_getElem? (i := 39) rfl)))
theorem cd_80_244 : mt_cd 80 244 = some (.iconst 1) := mt_cd_of (q := (244, .iconst 1, 1)) mq_80 ci_80 (List.mem_append_right _ ((show _ ∈ my_80_1 from List.mem_of_getElem? (i := 40) rfl)))
theorem cd_80_245 : mt_cd 80 245 = some (.istore_n 1) := mt_cd_of (q := (245, .istore_n 1, 1)) mq_80 ci_80 (List.mem_append_right _ ((show _ ∈ my_80_1 from List.mem_of_getElem? (i := 41) rfl)))
theorem cd_80_246 : mt_cd 80 246 = some (.iinc 2 1) := mt_cd_of (q := (246, .iinc 2 1, 3)) mq_80 ci_80 (List.mem_append_right _ ((show _ ∈ my_80_1 from List.mem_of_getElem? (i := 42) rfl)))
theorem cd_80_249 : mt_cd 80 249 = some (.goto (-245)) := mt_cd_of (q := (249, .goto (-245), 3)) mq_80 ci_80 (List.mem_append_right _ ((show _ ∈ my_80_1 from List.mem_of_getElem? (i := 43) rfl)))
theorem cd_80_252 : mt_cd 80 252 = some (.iload_n 1) := mt_cd_of (q := (252, .iload_n 1, 1)) mq_80 ci_80 (List.mem_append_right _ ((show _ ∈ my_80_1 from List.mem_of_getElem? (i := 44) rfl)))
theorem cd_80_253 : mt_cd 80 253 = some (.ireturn) := mt_cd_of (q := (253, .ireturn, 1)) mq_80 ci_80 (List.mem_append_right _ ((show _ ∈ my_80_1 from List.mem_of_getElem? (i := 45) rfl)))
theorem b_80_0 {d : Nat} {Q : (Option Value ⊕ Nat) → mi_H → Prop} (n sl : Nat) (f : Nat → mi_C) {l1 : Nat} {o2 : Option Value} {o3 : Option Value} {o4 : Option Value} {o5 : Option Value} (h6 : mi_W d 80 4 [some (.ref l1), some (.int 0), some (.int 0), o4, o5] [] (n, sl, f) Q) : mi_W d 80 0 [some (.ref l1), o2, o3, o4, o5] [] (n, sl, f) Q := by
  refine w_iconst (v := 0) cd_80_0 (by decide) ?_
  refine w_istore_n (ls' := [some (.ref l1), some (.int 0), o3, o4, o5]) cd_80_1 (Nat.le_of_ble_eq_true rfl) rfl ?_
  refine w_iconst (v := 0) cd_80_2 (by decide) ?_
  refine w_istore_n (ls' := [some (.ref l1), some (.int 0), some (.int 0), o4, o5]) cd_80_3 (Nat.le_of_ble_eq_true rfl) rfl ?_
  exact h6
theorem b_80_4 {d : Nat} {Q : (Option Value ⊕ Nat) → mi_H → Prop} (n sl : Nat) (f : Nat → mi_C) {l1 : Nat} {l2 : Int32} {l3 : Int32} {o4 : Option Value} {o5 : Option Value} (h6 : 148 ≤ l3 → mi_W d 80 252 [some (.ref l1), some (.int l2), some (.int l3), o4, o5] [] (n, sl, f) Q) (h7 : ¬ (148 ≤ l3) → mi_W d 80 11 [some (.ref l1), some (.int l2), some (.int l3), o4, o5] [] (n, sl, f) Q) : mi_W d 80 4 [some (.ref l1), some (.int l2), some (.int l3), o4, o5] [] (n, sl, f) Q := by
  refine w_iload_n cd_80_4 rfl ?_
  refine w_sipush (v := 148) cd_80_5 (by decide) ?_
  exact w_if_icmpge cd_80_8 (by decide) h6 h7
theorem b_80_11 {d : Nat} {Q : (Option Value ⊕ Nat) → mi_H → Prop} (n sl : Nat) (f : Nat → mi_C) {l1 : Nat} {l2 : Int32} {l3 : Int32} {o4 : Option Value} {o5 : Option Value} {fs6 : List Value} {x9 : Int32} (h7 : f l1 = .inr (7, fs6)) (h8 : l1 < n) (h10 : fs6[6]? = some (.int x9)) (h11 : ¬ x9 = (0 : Int32) → mi_W d 80 252 [some (.ref l1), some (.int l2), some (.int l3), o4, o5] [] (n, sl, f) Q) (h12 : ¬ (¬ x9 = (0 : Int32)) → mi_W d 80 18 [some (.ref l1), some (.int l2), some (.int l3), o4, o5] [] (n, sl, f) Q) : mi_W d 80 11 [some (.ref l1), some (.int l2), some (.int l3), o4, o5] [] (n, sl, f) Q := by
  refine w_aload_n cd_80_11 rfl ?_
  refine w_getfield cd_80_12 (show mt_f 7 49 = some (7, 6) by decide +kernel) h7 h8 h10 ?_
  exact w_ifne cd_80_15 (by decide) h11 h12
theorem b_80_18 {d : Nat} {Q : (Option Value ⊕ Nat) → mi_H → Prop} (n sl : Nat) (f : Nat → mi_C) {l1 : Nat} {l2 : Int32} {l3 : Int32} {o4 : Option Value} {o5 : Option Value} {fs6 : List Value} {x9 : Nat} {fs11 : List Value} {x14 : Int32} {fs16 : List Value} {x19 : Nat} {fs21 : List Value} (h7 : f l1 = .inr (7, fs6)) (h8 : l1 < n) (h10 : fs6[3]? = some (.ref x9)) (h12 : f x9 = .inr (9, fs11)) (h13 : x9 < n) (h15 : fs11[0]? = some (.int x14)) (h17 : f l1 = .inr (7, fs16)) (h18 : l1 < n) (h20 : fs16[0]? = some (.ref x19)) (h22 : f x19 = .inr (2, fs21)) (h23 : x19 < n) (h24 : mi_W d 81 0 (mi_en 2 [.ref x19, .int x14]) [] (n, sl, f) (mi_Kc d 80 34 [some (.ref l1), some (.int l2), some (.int l3), some (.int x14), some (.int 1)] [] Q)) : mi_W (d + 1) 80 18 [some (.ref l1), some (.int l2), some (.int l3), o4, o5] [] (n, sl, f) Q := by
  refine w_aload_n cd_80_18 rfl ?_
  refine w_getfield cd_80_19 (show mt_f 7 29 = some (7, 3) by decide +kernel) h7 h8 h10 ?_
  refine w_getfield cd_80_22 (show mt_f 7 94 = some (9, 0) by decide +kernel) h12 h13 h15 ?_
  refine w_istore_n (ls' := [some (.ref l1), some (.int l2), some (.int l3), some (.int x14), o5]) cd_80_25 (Nat.le_of_ble_eq_true rfl) rfl ?_
  refine w_iconst (v := 1) cd_80_26 (by decide) ?_
  refine w_istore (ls' := [some (.ref l1), some (.int l2), some (.int l3), some (.int x14), some (.int 1)]) cd_80_27 (Nat.le_of_ble_eq_true rfl) rfl ?_
  refine w_aload_n cd_80_29 rfl ?_
  refine w_getfield cd_80_30 (show mt_f 7 18 = some (7, 0) by decide +kernel) h17 h18 h20 ?_
  refine w_iload_n cd_80_33 rfl ?_
  exact w_invokevirtual cd_80_34 (show mt_m 7 97 = some (81, 0) by decide +kernel) (rest := []) rfl (as := [.ref x19, .int x14]) rfl h22 (Or.inl h23) ⟨Nat.le_of_ble_eq_true rfl, Nat.le_of_ble_eq_true rfl, Nat.le_of_ble_eq_true rfl⟩ h24
theorem b_80_37 {d : Nat} {Q : (Option Value ⊕ Nat) → mi_H → Prop} (n sl : Nat) (f : Nat → mi_C) {l1 : Nat} {l2 : Int32} {l3 : Int32} {l4 : Int32} {l5 : Int32} {s6 : Int32} {t7 : Nat} (h8 : mi_ts 37 181 0 7 #[47, 56, 181, 181, 64, 115, 125, 133] (s6 : Int32).toInt = some t7) (h9 : mi_W d 80 t7 [some (.ref l1), some (.int l2), some (.int l3), some (.int l4), some (.int l5)] [] (n, sl, f) Q) : mi_W d 80 37 [some (.ref l1), some (.int l2), some (.int l3), some (.int l4), some (.int l5)] [.int s6] (n, sl, f) Q := by
  exact w_tableswitch cd_80_37 h8 h9
theorem b_80_84 {d : Nat} {Q : (Option Value ⊕ Nat) → mi_H → Prop} (n sl : Nat) (f : Nat → mi_C) {l1 : Nat} {l2 : Int32} {l3 : Int32} {l4 : Int32} {l5 : Int32} {fs6 : List Value} (h7 : f l1 = .inr (7, fs6)) (h8 : l1 < n) (h9 : mi_W d 83 0 (mi_en 3 [.ref l1]) [] (n, sl, f) (mi_Kc d 80 85 [some (.ref l1), some (.int l2), some (.int l3), some (.int l4), some (.int l5)] [] Q)) : mi_W (d + 1) 80 84 [some (.ref l1), some (.int l2), some (.int l3), some (.int l4), some (.int l5)] [] (n, sl, f) Q := by
  refine w_aload_n cd_80_84 rfl ?_
  exact w_invokevirtual cd_80_85 (show mt_m 7 111 = some (83, 0) by decide +kernel) (rest := []) rfl (as := [.ref l1]) rfl h7 (Or.inl h8) ⟨Nat.le_of_ble_eq_true rfl, Nat.le_of_ble_eq_true rfl, Nat.le_of_ble_eq_true rfl⟩ h9
theorem b_80_88 {d : Nat} {Q : (Option Value ⊕ Nat) → mi_H → Prop} (n sl : Nat) (f : Nat → mi_C) {l1 : Nat} {l2 : Int32} {l3 : Int32} {l4 : Int32} {l5 : Int32} {s6 : Int32} (h7 : mi_W d 80 221 [some (.ref l1), some (.int l2), some (.int l3), some (.int l4), some (.int s6)] [] (n, sl, f) Q) : mi_W d 80 88 [some (.ref l1), some (.int l2), some (.int l3), some (.int l4), some (.int l5)] [.int s6] (n, sl, f) Q := by
  refine w_istore (ls' := [some (.ref l1), some (.int l2), some (.int l3), some (.int l4), some (.int s6)]) cd_80_88 (Nat.le_of_ble_eq_true rfl) rfl ?_
  exact w_goto cd_80_90 (by decide) h7
theorem b_80_93 {d : Nat} {Q : (Option Value ⊕ Nat) → mi_H → Prop} (n sl : Nat) (f : Nat → mi_C) {l1 : Nat} {l2 : Int32} {l3 : Int32} {l4 : Int32} {l5 : Int32} {fs6 : List Value} (h7 : f l1 = .inr (7, fs6)) (h8 : l1 < n) (h9 : mi_W d 86 0 (mi_en 9 [.ref l1, .int l4]) [] (n, sl, f) (mi_Kc d 80 95 [some (.ref l1), some (.int l2), some (.int l3), some (.int l4), some (.int l5)] [] Q)) : mi_W (d + 1) 80 93 [some (.ref l1), some (.int l2), some (.int l3), some (.int l4), some (.int l5)] [] (n, sl, f) Q := by
  refine w_aload_n cd_80_93 rfl ?_
  refine w_iload_n cd_80_94 rfl ?_
  exact w_invokevirtual cd_80_95 (show mt_m 7 114 = some (86, 0) by decide +kernel) (rest := []) rfl (as := [.ref l1, .int l4]) rfl h7 (Or.inl h8) ⟨Nat.le_of_ble_eq_true rfl, Nat.le_of_ble_eq_true rfl, Nat.le_of_ble_eq_true rfl⟩ h9
theorem b_80_98 {d : Nat} {Q : (Option Value ⊕ Nat) → mi_H → Prop} (n sl : Nat) (f : Nat → mi_C) {l1 : Nat} {l2 : Int32} {l3 : Int32} {l4 : Int32} {l5 : Int32} (h6 : mi_W d 80 221 [some (.ref l1), some (.int l2), some (.int l3), some (.int l4), some (.int l5)] [] (n, sl, f) Q) : mi_W d 80 98 [some (.ref l1), some (.int l2), some (.int l3), some (.int l4), some (.int l5)] [] (n, sl, f) Q := by
  exact w_goto cd_80_98 (by decide) h6
theorem b_80_101 {d : Nat} {Q : (Option Value ⊕ Nat) → mi_H → Prop} (n sl : Nat) (f : Nat → mi_C) {l1 : Nat} {l2 : Int32} {l3 : Int32} {l4 : Int32} {l5 : Int32} {fs6 : List Value} {x9 : Nat} {fs11 : List Value} {x14 : Nat} {fs16 : List Value} {x19 : Nat} {fs21 : List Value} {x24 : Nat} (m26 i26 : Nat) (g26 : Nat → Int32) {fs30 : List Value} (h7 : f l1 = .inr (7, fs6)) (h8 : l1 < n) (h10 : fs6[3]? = some (.ref x9)) (h12 : f l1 = .inr (7, fs11)) (h13 : l1 < n) (h15 : fs11[2]? = some (.ref x14)) (h17 : f l1 = .inr (7, fs16)) (h18 : l1 < n) (h20 : fs16[0]? = some (.ref x19)) (h22 : f x19 = .inr (2, fs21)) (h23 : x19 < n) (h25 : fs21[1]? = some (.ref x24)) (h27 : f x24 = .inl (0, m26, .inl g26)) (h28 : x24 < n ∨ x24 = mi_SC) (h29 : mi_ix l4 m26 i26) (h31 : f x14 = .inr (10, fs30)) (h32 : x14 < n) (h33 : mi_W d 92 0 (mi_en 6 [.ref x14, .int (g26 i26), .int 1]) [] (n, sl, f) (mi_Kc d 80 119 [some (.ref l1), some (.int l2), some (.int l3), some (.int l4), some (.int l5)] [.ref x9] Q)) : mi_W (d + 1) 80 101 [some (.ref l1), some (.int l2), some (.int l3), some (.int l4), some (.int l5)] [] (n, sl, f) Q := by
  refine w_aload_n cd_80_101 rfl ?_
  refine w_getfield cd_80_102 (show mt_f 7 29 = some (7, 3) by decide +kernel) h7 h8 h10 ?_
  refine w_aload_n cd_80_105 rfl ?_
  refine w_getfield cd_80_106 (show mt_f 7 38 = some (7, 2) by decide +kernel) h12 h13 h15 ?_
  refine w_aload_n cd_80_109 rfl ?_
  refine w_getfield cd_80_110 (show mt_f 7 18 = some (7, 0) by decide +kernel) h17 h18 h20 ?_
  refine w_getfield cd_80_113 (show mt_f 7 118 = some (2, 1) by decide +kernel) h22 h23 h25 ?_
  refine w_iload_n cd_80_116 rfl ?_
  refine w_iaload cd_80_117 h27 h28 h29 ?_
  refine w_iconst (v := 1) cd_80_118 (by decide) ?_
  exact w_invokevirtual cd_80_119 (show mt_m 7 122 = some (92, 0) by decide +kernel) (rest := [.ref x9]) rfl (as := [.ref x14, .int (g26 i26), .int 1]) rfl h31 (Or.inl h32) ⟨Nat.le_of_ble_eq_true rfl, Nat.le_of_ble_eq_true rfl, Nat.le_of_ble_eq_true rfl⟩ h33
theorem b_80_122 {d : Nat} {Q : (Option Value ⊕ Nat) → mi_H → Prop} (n sl : Nat) (f : Nat → mi_C) {l1 : Nat} {l2 : Int32} {l3 : Int32} {l4 : Int32} {l5 : Int32} {s6 : Int32} {s7 : Nat} (h8 : s6 = (0 : Int32) → mi_W d 80 137 [some (.ref l1), some (.int l2), some (.int l3), some (.int l4), some (.int l5)] [.ref s7] (n, sl, f) Q) (h9 : ¬ (s6 = (0 : Int32)) → mi_W d 80 125 [some (.ref l1), some (.int l2), some (.int l3), some (.int l4), some (.int l5)] [.ref s7] (n, sl, f) Q) : mi_W d 80 122 [some (.ref l1), some (.int l2), some (.int l3), some (.int l4), some (.int l5)] [.int s6, .ref s7] (n, sl, f) Q := by
  exact w_ifeq cd_80_122 (by decide) h8 h9
theorem b_80_125 {d : Nat} {Q : (Option Value ⊕ Nat) → mi_H → Prop} (n sl : Nat) (f : Nat → mi_C) {l1 : Nat} {l2 : Int32} {l3 : Int32} {l4 : Int32} {l5 : Int32} {s6 : Nat} {fs7 : List Value} {x10 : Nat} {fs12 : List Value} {x15 : Nat} (m17 i17 : Nat) (g17 : Nat → Int32) (h8 : f l1 = .inr (7, fs7)) (h9 : l1 < n) (h11 : fs7[0]? = some (.ref x10)) (h13 : f x10 = .inr (2, fs12)) (h14 : x10 < n) (h16 : fs12[2]? = some (.ref x15)) (h18 : f x15 = .inl (0, m17, .inl g17)) (h19 : x15 < n ∨ x15 = mi_SC) (h20 : mi_ix l4 m17 i17) (h21 : mi_W d 80 146 [some (.ref l1), some (.int l2), some (.int l3), some (.int l4), some (.int l5)] [.int (g17 i17), .ref s6] (n, sl, f) Q) : mi_W d 80 125 [some (.ref l1), some (.int l2), some (.int l3), some (.int l4), some (.int l5)] [.ref s6] (n, sl, f) Q := by
  refine w_aload_n cd_80_125 rfl ?_
  refine w_getfield cd_80_126 (show mt_f 7 18 = some (7, 0) by decide +kernel) h8 h9 h11 ?_
  refine w_getfield cd_80_129 (show mt_f 7 126 = some (2, 2) by decide +kernel) h13 h14 h16 ?_
  refine w_iload_n cd_80_132 rfl ?_
  refine w_iaload cd_80_133 h18 h19 h20 ?_
  exact w_goto cd_80_134 (by decide) h21
theorem b_80_137 {d : Nat} {Q : (Option Value ⊕ Nat) → mi_H → Prop} (n sl : Nat) (f : Nat → mi_C) {l1 : Nat} {l2 : Int32} {l3 : Int32} {l4 : Int32} {l5 : Int32} {s6 : Nat} {fs7 : List Value} {x10 : Nat} {fs12 : List Value} {x15 : Nat} (m17 i17 : Nat) (g17 : Nat → Int32) (h8 : f l1 = .inr (7, fs7)) (h9 : l1 < n) (h11 : fs7[0]? = some (.ref x10)) (h13 : f x10 = .inr (2, fs12)) (h14 : x10 < n) (h16 : fs12[3]? = some (.ref x15)) (h18 : f x15 = .inl (0, m17, .inl g17)) (h19 : x15 < n ∨ x15 = mi_SC) (h20 : mi_ix l4 m17 i17) (h21 : mi_W d 80 146 [some (.ref l1), some (.int l2), some (.int l3), some (.int l4), some (.int l5)] [.int (g17 i17), .ref s6] (n, sl, f) Q) : mi_W d 80 137 [some (.ref l1), some (.int l2), some (.int l3), some (.int l4), some (.int l5)] [.ref s6] (n, sl, f) Q := by
  refine w_aload_n cd_80_137 rfl ?_
  refine w_getfield cd_80_138 (show mt_f 7 18 = some (7, 0) by decide +kernel) h8 h9 h11 ?_
  refine w_getfield cd_80_141 (show mt_f 7 129 = some (2, 3) by decide +kernel) h13 h14 h16 ?_
  refine w_iload_n cd_80_144 rfl ?_
  refine w_iaload cd_80_145 h18 h19 h20 ?_
  exact h21
theorem b_80_146 {d : Nat} {Q : (Option Value ⊕ Nat) → mi_H → Prop} (n sl : Nat) (f : Nat → mi_C) {l1 : Nat} {l2 : Int32} {l3 : Int32} {l4 : Int32} {l5 : Int32} {s6 : Int32} {s7 : Nat} {fs8 : List Value} (h9 : f s7 = .inr (9, fs8)) (h10 : s7 < n) (h11 : 0 < fs8.length) (h12 : mi_W d 80 221 [some (.ref l1), some (.int l2), some (.int l3), some (.int l4), some (.int l5)] [] (n, sl, (va_up f s7 (.inr (9, fs8.set 0 (.int s6))))) Q) : mi_W d 80 146 [some (.ref l1), some (.int l2), some (.int l3), some (.int l4), some (.int l5)] [.int s6, .ref s7] (n, sl, f) Q := by
  refine w_putfield (w := .int s6) cd_80_146 (show mt_f 7 94 = some (9, 0) by decide +kernel) h9 h10 ⟨h11, rfl, Or.inl (by decide)⟩ ?_
  exact w_goto cd_80_149 (by decide) h12
theorem b_80_152 {d : Nat} {Q : (Option Value ⊕ Nat) → mi_H → Prop} (n sl : Nat) (f : Nat → mi_C) {l1 : Nat} {l2 : Int32} {l3 : Int32} {l4 : Int32} {l5 : Int32} {fs6 : List Value} (h7 : f l1 = .inr (7, fs6)) (h8 : l1 < n) (h9 : mi_W d 101 0 (mi_en 4 [.ref l1, .int l4]) [] (n, sl, f) (mi_Kc d 80 154 [some (.ref l1), some (.int l2), some (.int l3), some (.int l4), some (.int l5)] [] Q)) : mi_W (d + 1) 80 152 [some (.ref l1), some (.int l2), some (.int l3), some (.int l4), some (.int l5)] [] (n, sl, f) Q := by
  refine w_aload_n cd_80_152 rfl ?_
  refine w_iload_n cd_80_153 rfl ?_
  exact w_invokevirtual cd_80_154 (show mt_m 7 132 = some (101, 0) by decide +kernel) (rest := []) rfl (as := [.ref l1, .int l4]) rfl h7 (Or.inl h8) ⟨Nat.le_of_ble_eq_true rfl, Nat.le_of_ble_eq_true rfl, Nat.le_of_ble_eq_true rfl⟩ h9
theorem b_80_157 {d : Nat} {Q : (Option Value ⊕ Nat) → mi_H → Prop} (n sl : Nat) (f : Nat → mi_C) {l1 : Nat} {l2 : Int32} {l3 : Int32} {l4 : Int32} {l5 : Int32} {s6 : Int32} (h7 : mi_W d 80 221 [some (.ref l1), some (.int l2), some (.int l3), some (.int l4), some (.int s6)] [] (n, sl, f) Q) : mi_W d 80 157 [some (.ref l1), some (.int l2), some (.int l3), some (.int l4), some (.int l5)] [.int s6] (n, sl, f) Q := by
  refine w_istore (ls' := [some (.ref l1), some (.int l2), some (.int l3), some (.int l4), some (.int s6)]) cd_80_157 (Nat.le_of_ble_eq_true rfl) rfl ?_
  exact w_goto cd_80_159 (by decide) h7
theorem b_80_162 {d : Nat} {Q : (Option Value ⊕ Nat) → mi_H → Prop} (n sl : Nat) (f : Nat → mi_C) {l1 : Nat} {l2 : Int32} {l3 : Int32} {l4 : Int32} {l5 : Int32} {fs6 : List Value} (h7 : f l1 = .inr (7, fs6)) (h8 : l1 < n) (h9 : mi_W d 102 0 (mi_en 5 [.ref l1, .int l4]) [] (n, sl, f) (mi_Kc d 80 164 [some (.ref l1), some (.int l2), some (.int l3), some (.int l4), some (.int l5)] [] Q)) : mi_W (d + 1) 80 162 [some (.ref l1), some (.int l2), some (.int l3), some (.int l4), some (.int l5)] [] (n, sl, f) Q := by
  refine w_aload_n cd_80_162 rfl ?_
  refine w_iload_n cd_80_163 rfl ?_
  exact w_invokevirtual cd_80_164 (show mt_m 7 136 = some (102, 0) by decide +kernel) (rest := []) rfl (as := [.ref l1, .int l4]) rfl h7 (Or.inl h8) ⟨Nat.le_of_ble_eq_true rfl, Nat.le_of_ble_eq_true rfl, Nat.le_of_ble_eq_true rfl⟩ h9
theorem b_80_167 {d : Nat} {Q : (Option Value ⊕ Nat) → mi_H → Prop} (n sl : Nat) (f : Nat → mi_C) {l1 : Nat} {l2 : Int32} {l3 : Int32} {l4 : Int32} {l5 : Int32} (h6 : mi_W d 80 221 [some (.ref l1), some (.int l2), some (.int l3), some (.int l4), some (.int l5)] [] (n, sl, f) Q) : mi_W d 80 167 [some (.ref l1), some (.int l2), some (.int l3), some (.int l4), some (.int l5)] [] (n, sl, f) Q := by
  exact w_goto cd_80_167 (by decide) h6
theorem b_80_170 {d : Nat} {Q : (Option Value ⊕ Nat) → mi_H → Prop} (n sl : Nat) (f : Nat → mi_C) {l1 : Nat} {l2 : Int32} {l3 : Int32} {l4 : Int32} {l5 : Int32} {fs6 : List Value} {x9 : Nat} {fs11 : List Value} {x14 : Nat} {fs16 : List Value} {x19 : Nat} (m21 i21 : Nat) (g21 : Nat → Int32) {fs25 : List Value} (h7 : f l1 = .inr (7, fs6)) (h8 : l1 < n) (h10 : fs6[2]? = some (.ref x9)) (h12 : f l1 = .inr (7, fs11)) (h13 : l1 < n) (h15 : fs11[0]? = some (.ref x14)) (h17 : f x14 = .inr (2, fs16)) (h18 : x14 < n) (h20 : fs16[1]? = some (.ref x19)) (h22 : f x19 = .inl (0, m21, .inl g21)) (h23 : x19 < n ∨ x19 = mi_SC) (h24 : mi_ix l4 m21 i21) (h26 : f x9 = .inr (10, fs25)) (h27 : x9 < n) (h28 : mi_W d 92 0 (mi_en 6 [.ref x9, .int (g21 i21), .int 1]) [] (n, sl, f) (mi_Kc d 80 184 [some (.ref l1), some (.int l2), some (.int l3), some (.int l4), some (.int l5)] [] Q)) : mi_W (d + 1) 80 170 [some (.ref l1), some (.int l2), some (.int l3), some (.int l4), some (.int l5)] [] (n, sl, f) Q := by
  refine w_aload_n cd_80_170 rfl ?_
  refine w_getfield cd_80_171 (show mt_f 7 38 = some (7, 2) by decide +kernel) h7 h8 h10 ?_
  refine w_aload_n cd_80_174 rfl ?_
  refine w_getfield cd_80_175 (show mt_f 7 18 = some (7, 0) by decide +kernel) h12 h13 h15 ?_
  refine w_getfield cd_80_178 (show mt_f 7 118 = some (2, 1) by decide +kernel) h17 h18 h20 ?_
  refine w_iload_n cd_80_181 rfl ?_
  refine w_iaload cd_80_182 h22 h23 h24 ?_
  refine w_iconst (v := 1) cd_80_183 (by decide) ?_
  exact w_invokevirtual cd_80_184 (show mt_m 7 122 = some (92, 0) by decide +kernel) (rest := []) rfl (as := [.ref x9, .int (g21 i21), .int 1]) rfl h26 (Or.inl h27) ⟨Nat.le_of_ble_eq_true rfl, Nat.le_of_ble_eq_true rfl, Nat.le_of_ble_eq_true rfl⟩ h28
theorem b_80_187 {d : Nat} {Q : (Option Value ⊕ Nat) → mi_H → Prop} (n sl : Nat) (f : Nat → mi_C) {l1 : Nat} {l2 : Int32} {l3 : Int32} {l4 : Int32} {l5 : Int32} {s6 : Int32} (h7 : ¬ s6 = (0 : Int32) → mi_W d 80 199 [some (.ref l1), some (.int l2), some (.int l3), some (.int l4), some (.int l5)] [] (n, sl, f) Q) (h8 : ¬ (¬ s6 = (0 : Int32)) → mi_W d 80 190 [some (.ref l1), some (.int l2), some (.int l3), some (.int l4), some (.int l5)] [] (n, sl, f) Q) : mi_W d 80 187 [some (.ref l1), some (.int l2), some (.int l3), some (.int l4), some (.int l5)] [.int s6] (n, sl, f) Q := by
  exact w_ifne cd_80_187 (by decide) h7 h8
theorem b_80_190 {d : Nat} {Q : (Option Value ⊕ Nat) → mi_H → Prop} (n sl : Nat) (f : Nat → mi_C) {l1 : Nat} {l2 : Int32} {l3 : Int32} {l4 : Int32} {l5 : Int32} {fs6 : List Value} {x9 : Nat} {fs11 : List Value} (h7 : f l1 = .inr (7, fs6)) (h8 : l1 < n) (h10 : fs6[7]? = some (.ref x9)) (h12 : f x9 = .inr (8, fs11)) (h13 : x9 < n) (h14 : mi_W d 98 0 (mi_en 3 [.ref x9, .int 5, .int l4]) [] (n, sl, f) (mi_Kc d 80 196 [some (.ref l1), some (.int l2), some (.int l3), some (.int l4), some (.int l5)] [] Q)) : mi_W (d + 1) 80 190 [some (.ref l1), some (.int l2), some (.int l3), some (.int l4), some (.int l5)] [] (n, sl, f) Q := by
  refine w_aload_n cd_80_190 rfl ?_
  refine w_getfield cd_80_191 (show mt_f 7 12 = some (7, 7) by decide +kernel) h7 h8 h10 ?_
  refine w_iconst (v := 5) cd_80_194 (by decide) ?_
  refine w_iload_n cd_80_195 rfl ?_
  exact w_invokevirtual cd_80_196 (show mt_m 7 139 = some (98, 0) by decide +kernel) (rest := []) rfl (as := [.ref x9, .int 5, .int l4]) rfl h12 (Or.inl h13) ⟨Nat.le_of_ble_eq_true rfl, Nat.le_of_ble_eq_true rfl, Nat.le_of_ble_eq_true rfl⟩ h14
theorem b_80_199 {d : Nat} {Q : (Option Value ⊕ Nat) → mi_H → Prop} (n sl : Nat) (f : Nat → mi_C) {l1 : Nat} {l2 : Int32} {l3 : Int32} {l4 : Int32} {l5 : Int32} {fs6 : List Value} {x9 : Nat} {fs11 : List Value} {x14 : Nat} {fs16 : List Value} {x19 : Nat} (m21 i21 : Nat) (g21 : Nat → Int32) {fs25 : List Value} (h7 : f l1 = .inr (7, fs6)) (h8 : l1 < n) (h10 : fs6[3]? = some (.ref x9)) (h12 : f l1 = .inr (7, fs11)) (h13 : l1 < n) (h15 : fs11[0]? = some (.ref x14)) (h17 : f x14 = .inr (2, fs16)) (h18 : x14 < n) (h20 : fs16[3]? = some (.ref x19)) (h22 : f x19 = .inl (0, m21, .inl g21)) (h23 : x19 < n ∨ x19 = mi_SC) (h24 : mi_ix l4 m21 i21) (h26 : f x9 = .inr (9, fs25)) (h27 : x9 < n) (h28 : 0 < fs25.length) (h29 : mi_W d 80 221 [some (.ref l1), some (.int l2), some (.int l3), some (.int l4), some (.int l5)] [] (n, sl, (va_up f x9 (.inr (9, fs25.set 0 (.int (g21 i21)))))) Q) : mi_W d 80 199 [some (.ref l1), some (.int l2), some (.int l3), some (.int l4), some (.int l5)] [] (n, sl, f) Q := by
  refine w_aload_n cd_80_199 rfl ?_
  refine w_getfield cd_80_200 (show mt_f 7 29 = some (7, 3) by decide +kernel) h7 h8 h10 ?_
  refine w_aload_n cd_80_203 rfl ?_
  refine w_getfield cd_80_204 (show mt_f 7 18 = some (7, 0) by decide +kernel) h12 h13 h15 ?_
  refine w_getfield cd_80_207 (show mt_f 7 129 = some (2, 3) by decide +kernel) h17 h18 h20 ?_
  refine w_iload_n cd_80_210 rfl ?_
  refine w_iaload cd_80_211 h22 h23 h24 ?_
  refine w_putfield (w := .int (g21 i21)) cd_80_212 (show mt_f 7 94 = some (9, 0) by decide +kernel) h26 h27 ⟨h28, rfl, Or.inl (by decide)⟩ ?_
  exact w_goto cd_80_215 (by decide) h29
theorem b_80_218 {d : Nat} {Q : (Option Value ⊕ Nat) → mi_H → Prop} (n sl : Nat) (f : Nat → mi_C) {l1 : Nat} {l2 : Int32} {l3 : Int32} {l4 : Int32} {l5 : Int32} (h6 : mi_W d 80 221 [some (.ref l1), some (.int l2), some (.int l3), some (.int l4), some (.int 0)] [] (n, sl, f) Q) : mi_W d 80 218 [some (.ref l1), some (.int l2), some (.int l3), some (.int l4), some (.int l5)] [] (n, sl, f) Q := by
  refine w_iconst (v := 0) cd_80_218 (by decide) ?_
  refine w_istore (ls' := [some (.ref l1), some (.int l2), some (.int l3), some (.int l4), some (.int 0)]) cd_80_219 (Nat.le_of_ble_eq_true rfl) rfl ?_
  exact h6
theorem b_80_221 {d : Nat} {Q : (Option Value ⊕ Nat) → mi_H → Prop} (n sl : Nat) (f : Nat → mi_C) {l1 : Nat} {l2 : Int32} {l3 : Int32} {l4 : Int32} {l5 : Int32} {fs6 : List Value} {x9 : Nat} {fs11 : List Value} {x14 : Int32} (h7 : f l1 = .inr (7, fs6)) (h8 : l1 < n) (h10 : fs6[2]? = some (.ref x9)) (h12 : f x9 = .inr (10, fs11)) (h13 : x9 < n) (h15 : fs11[4]? = some (.int x14)) (h16 : x14 = (0 : Int32) → mi_W d 80 237 [some (.ref l1), some (.int l2), some (.int l3), some (.int l4), some (.int l5)] [] (n, sl, f) Q) (h17 : ¬ (x14 = (0 : Int32)) → mi_W d 80 231 [some (.ref l1), some (.int l2), some (.int l3), some (.int l4), some (.int l5)] [] (n, sl, f) Q) : mi_W d 80 221 [some (.ref l1), some (.int l2), some (.int l3), some (.int l4), some (.int l5)] [] (n, sl, f) Q := by
  refine w_aload_n cd_80_221 rfl ?_
  refine w_getfield cd_80_222 (show mt_f 7 38 = some (7, 2) by decide +kernel) h7 h8 h10 ?_
  refine w_getfield cd_80_225 (show mt_f 7 143 = some (10, 4) by decide +kernel) h12 h13 h15 ?_
  exact w_ifeq cd_80_228 (by decide) h16 h17
theorem b_80_231 {d : Nat} {Q : (Option Value ⊕ Nat) → mi_H → Prop} (n sl : Nat) (f : Nat → mi_C) {l1 : Nat} {l2 : Int32} {l3 : Int32} {l4 : Int32} {l5 : Int32} {fs6 : List Value} (h7 : f l1 = .inr (7, fs6)) (h8 : l1 < n) (h9 : 6 < fs6.length) (h10 : mi_W d 80 237 [some (.ref l1), some (.int l2), some (.int l3), some (.int l4), some (.int l5)] [] (n, sl, (va_up f l1 (.inr (7, fs6.set 6 (.int 6))))) Q) : mi_W d 80 231 [some (.ref l1), some (.int l2), some (.int l3), some (.int l4), some (.int l5)] [] (n, sl, f) Q := by
  refine w_aload_n cd_80_231 rfl ?_
  refine w_bipush (v := 6) cd_80_232 (by decide) ?_
  refine w_putfield (w := .int 6) cd_80_234 (show mt_f 7 49 = some (7, 6) by decide +kernel) h7 h8 ⟨h9, rfl, Or.inl (by decide)⟩ ?_
  exact h10
theorem b_80_237 {d : Nat} {Q : (Option Value ⊕ Nat) → mi_H → Prop} (n sl : Nat) (f : Nat → mi_C) {l1 : Nat} {l2 : Int32} {l3 : Int32} {l4 : Int32} {l5 : Int32} (h6 : ¬ l5 = (0 : Int32) → mi_W d 80 244 [some (.ref l1), some (.int l2), some (.int l3), some (.int l4), some (.int l5)] [] (n, sl, f) Q) (h7 : ¬ (¬ l5 = (0 : Int32)) → mi_W d 80 242 [some (.ref l1), some (.int l2), some (.int l3), some (.int l4), some (.int l5)] [] (n, sl, f) Q) : mi_W d 80 237 [some (.ref l1), some (.int l2), some (.int l3), some (.int l4), some (.int l5)] [] (n, sl, f) Q := by
  refine w_iload cd_80_237 rfl ?_
  exact w_ifne cd_80_239 (by decide) h6 h7
theorem b_80_242 {d : Nat} {Q : (Option Value ⊕ Nat) → mi_H → Prop} (n sl : Nat) (f : Nat → mi_C) {l1 : Nat} {l2 : Int32} {l3 : Int32} {l4 : Int32} {l5 : Int32} (h6 : l2 = 0 ∨ l2 = 1) (h7 : Q (.inl (some (.int l2))) (n, sl, f)) : mi_W d 80 242 [some (.ref l1), some (.int l2), some (.int l3), some (.int l4), some (.int l5)] [] (n, sl, f) Q := by
  refine w_iload_n cd_80_242 rfl ?_
  exact w_ireturn_z cd_80_243 (by decide +kernel) h6 h7
theorem b_80_244 {d : Nat} {Q : (Option Value ⊕ Nat) → mi_H → Prop} (n sl : Nat) (f : Nat → mi_C) {l1 : Nat} {l2 : Int32} {l3 : Int32} {l4 : Int32} {l5 : Int32} (h6 : mi_W d 80 4 [some (.ref l1), some (.int 1), some (.int (l3 + 1)), some (.int l4), some (.int l5)] [] (n, sl, f) Q) : mi_W d 80 244 [some (.ref l1), some (.int l2), some (.int l3), some (.int l4), some (.int l5)] [] (n, sl, f) Q := by
  refine w_iconst (v := 1) cd_80_244 (by decide) ?_
  refine w_istore_n (ls' := [some (.ref l1), some (.int 1), some (.int l3), some (.int l4), some (.int l5)]) cd_80_245 (Nat.le_of_ble_eq_true rfl) rfl ?_
  refine w_iinc (v := 1) (ls' := [some (.ref l1), some (.int 1), some (.int (l3 + 1)), some (.int l4), some (.int l5)]) cd_80_246 rfl (by decide) rfl ?_
  exact w_goto cd_80_249 (by decide) h6
theorem b_80_252 {d : Nat} {Q : (Option Value ⊕ Nat) → mi_H → Prop} (n sl : Nat) (f : Nat → mi_C) {l1 : Nat} {l2 : Int32} {l3 : Int32} {o4 : Option Value} {o5 : Option Value} (h6 : l2 = 0 ∨ l2 = 1) (h7 : Q (.inl (some (.int l2))) (n, sl, f)) : mi_W d 80 252 [some (.ref l1), some (.int l2), some (.int l3), o4, o5] [] (n, sl, f) Q := by
  refine w_iload_n cd_80_252 rfl ?_
  exact w_ireturn_z cd_80_253 (by decide +kernel) h6 h7
/-! MarloweHost$Tree.kindOf(I)I -/
set_option maxRecDepth 100000 in
theorem mq_81 : mt_q 81 = my_81 := rfl
set_option maxRecDepth 100000 in
theorem ci_81 : mt_inc 0 my_81.cd = true := by decide +kernel
theorem cd_81_0 : mt_cd 81 0 = some (.aload_n 0) := mt_cd_of (q := (0, .aload_n 0, 1)) mq_81 ci_81 (List.mem_of_getElem? (i := 0) rfl)
theorem cd_81_1 : mt_cd 81 1 = some (.iload_n 1) := mt_cd_of (q := (1, .iload_n 1, 1)) mq_81 ci_81 (List.mem_of_getElem? (i := 1) rfl)
theorem cd_81_2 : mt_cd 81 2 = some (.invokevirtual 60) := mt_cd_of (q := (2, .invokevirtual 60, 3)) mq_81 ci_81 (List.mem_of_getElem? (i := 2) rfl)
theorem cd_81_5 : mt_cd 81 5 = some (.ifCond .eq 12) := mt_cd_of (q := (5, .ifCond .eq 12, 3)) mq_81 ci_81 (List.mem_of_getElem? (i := 3) rfl)
theorem cd_81_8 : mt_cd 81 8 = some (.aload_n 0) := mt_cd_of (q := (8, .aload_n 0, 1)) mq_81 ci_81 (List.mem_of_getElem? (i := 4) rfl)
theorem cd_81_9 : mt_cd 81 9 = some (.getfield 9) := mt_cd_of (q := (9, .getfield 9, 3)) mq_81 ci_81 (List.mem_of_getElem? (i := 5) rfl)
theorem cd_81_12 : mt_cd 81 12 = some (.iload_n 1) := mt_cd_of (q := (12, .iload_n 1, 1)) mq_81 ci_81 (List.mem_of_getElem? (i := 6) rfl)
theorem cd_81_13 : mt_cd 81 13 = some (.iaload) := mt_cd_of (q := (13, .iaload, 1)) mq_81 ci_81 (List.mem_of_getElem? (i := 7) rfl)
theorem cd_81_14 : mt_cd 81 14 = some (.goto 4) := mt_cd_of (q := (14, .goto 4, 3)) mq_81 ci_81 (List.mem_of_getElem? (i := 8) rfl)
theorem cd_81_17 : mt_cd 81 17 = some (.iconst (-1)) := mt_cd_of (q := (17, .iconst (-1), 1)) mq_81 ci_81 (List.mem_of_getElem? (i := 9) rfl)
theorem cd_81_18 : mt_cd 81 18 = some (.ireturn) := mt_cd_of (q := (18, .ireturn, 1)) mq_81 ci_81 (List.mem_of_getElem? (i := 10) rfl)
theorem b_81_0 {d : Nat} {Q : (Option Value ⊕ Nat) → mi_H → Prop} (n sl : Nat) (f : Nat → mi_C) {l1 : Nat} {l2 : Int32} {fs3 : List Value} (h4 : f l1 = .inr (2, fs3)) (h5 : l1 < n) (h6 : mi_W d 82 0 (mi_en 2 [.ref l1, .int l2]) [] (n, sl, f) (mi_Kc d 81 2 [some (.ref l1), some (.int l2)] [] Q)) : mi_W (d + 1) 81 0 [some (.ref l1), some (.int l2)] [] (n, sl, f) Q := by
  refine w_aload_n cd_81_0 rfl ?_
  refine w_iload_n cd_81_1 rfl ?_
  exact w_invokevirtual cd_81_2 (show mt_m 2 60 = some (82, 0) by decide +kernel) (rest := []) rfl (as := [.ref l1, .int l2]) rfl h4 (Or.inl h5) ⟨Nat.le_of_ble_eq_true rfl, Nat.le_of_ble_eq_true rfl, Nat.le_of_ble_eq_true rfl⟩ h6
theorem b_81_5 {d : Nat} {Q : (Option Value ⊕ Nat) → mi_H → Prop} (n sl : Nat) (f : Nat → mi_C) {l1 : Nat} {l2 : Int32} {s3 : Int32} (h4 : s3 = (0 : Int32) → mi_W d 81 17 [some (.ref l1), some (.int l2)] [] (n, sl, f) Q) (h5 : ¬ (s3 = (0 : Int32)) → mi_W d 81 8 [some (.ref l1), some (.int l2)] [] (n, sl, f) Q) : mi_W d 81 5 [some (.ref l1), some (.int l2)] [.int s3] (n, sl, f) Q := by
  exact w_ifeq cd_81_5 (by decide) h4 h5
theorem b_81_8 {d : Nat} {Q : (Option Value ⊕ Nat) → mi_H → Prop} (n sl : Nat) (f : Nat → mi_C) {l1 : Nat} {l2 : Int32} {fs3 : List Value} {x6 : Nat} (m8 i8 : Nat) (g8 : Nat → Int32) (h4 : f l1 = .inr (2, fs3)) (h5 : l1 < n) (h7 : fs3[0]? = some (.ref x6)) (h9 : f x6 = .inl (0, m8, .inl g8)) (h10 : x6 < n ∨ x6 = mi_SC) (h11 : mi_ix l2 m8 i8) (h12 : mi_W d 81 18 [some (.ref l1), some (.int l2)] [.int (g8 i8)] (n, sl, f) Q) : mi_W d 81 8 [some (.ref l1), some (.int l2)] [] (n, sl, f) Q := by
  refine w_aload_n cd_81_8 rfl ?_
  refine w_getfield cd_81_9 (show mt_f 2 9 = some (2, 0) by decide +kernel) h4 h5 h7 ?_
  refine w_iload_n cd_81_12 rfl ?_
  refine w_iaload cd_81_13 h9 h10 h11 ?_
  exact w_goto cd_81_14 (by decide) h12
theorem b_81_17 {d : Nat} {Q : (Option Value ⊕ Nat) → mi_H → Prop} (n sl : Nat) (f : Nat → mi_C) {l1 : Nat} {l2 : Int32} (h3 : mi_W d 81 18 [some (.ref l1), some (.int l2)] [.int (-1)] (n, sl, f) Q) : mi_W d 81 17 [some (.ref l1), some (.int l2)] [] (n, sl, f) Q := by
  refine w_iconst (v := (-1)) cd_81_17 (by decide) ?_
  exact h3
theorem b_81_18 {d : Nat} {Q : (Option Value ⊕ Nat) → mi_H → Prop} (n sl : Nat) (f : Nat → mi_C) {l1 : Nat} {l2 : Int32} {s3 : Int32} (h4 : Q (.inl (some (.int s3))) (n, sl, f)) : mi_W d 81 18 [some (.ref l1), some (.int l2)] [.int s3] (n, sl, f) Q := by
  exact w_ireturn_i cd_81_18 (by decide +kernel) h4
/-! MarloweHost$Tree.has(I)Z -/
set_option maxRecDepth 100000 in
theorem mq_82 : mt_q 82 = my_82 := rfl
set_option maxRecDepth 100000 in
theorem ci_82 : mt_inc 0 my_82.cd = true := by decide +kernel
theorem cd_82_0 : mt_cd 82 0 = some (.iload_n 1) := mt_cd_of (q := (0, .iload_n 1, 1)) mq_82 ci_82 (List.mem_of_getElem? (i := 0) rfl)
theorem cd_82_1 : mt_cd 82 1 = some (.ifCond .lt 15) := mt_cd_of (q := (1, .ifCond .lt 15, 3)) mq_82 ci_82 (List.mem_of_getElem? (i := 1) rfl)
theorem cd_82_4 : mt_cd 82 4 = some (.iload_n 1) := mt_cd_of (q := (4, .iload_n 1, 1)) mq_82 ci_82 (List.mem_of_getElem? (i := 2) rfl)
theorem cd_82_5 : mt_cd 82 5 = some (.aload_n 0) := mt_cd_of (q := (5, .aload_n 0, 1)) mq_82 ci_82 (List.mem_of_getElem? (i := 3) rfl)
theorem cd_82_6 : mt_cd 82 6 = some (.getfield 47) := mt_cd_of (q := (6, .getfield 47, 3)) mq_82 ci_82 (List.mem_of_getElem? (i := 4) rfl)
theorem cd_82_9 : mt_cd 82 9 = some (.if_icmp .ge 7) := mt_cd_of (q := (9, .if_icmp .ge 7, 3)) mq_82 ci_82 (List.mem_of_getElem? (i := 5) rfl)
theorem cd_82_12 : mt_cd 82 12 = some (.iconst 1) := mt_cd_of (q := (12, .iconst 1, 1)) mq_82 ci_82 (List.mem_of_getElem? (i := 6) rfl)
theorem cd_82_13 : mt_cd 82 13 = some (.goto 4) := mt_cd_of (q := (13, .goto 4, 3)) mq_82 ci_82 (List.mem_of_getElem? (i := 7) rfl)
theorem cd_82_16 : mt_cd 82 16 = some (.iconst 0) := mt_cd_of (q := (16, .iconst 0, 1)) mq_82 ci_82 (List.mem_of_getElem? (i := 8) rfl)
theorem cd_82_17 : mt_cd 82 17 = some (.ireturn) := mt_cd_of (q := (17, .ireturn, 1)) mq_82 ci_82 (List.mem_of_getElem? (i := 9) rfl)
theorem b_82_0 {d : Nat} {Q : (Option Value ⊕ Nat) → mi_H → Prop} (n sl : Nat) (f : Nat → mi_C) {l1 : Nat} {l2 : Int32} (h3 : l2 < (0 : Int32) → mi_W d 82 16 [some (.ref l1), some (.int l2)] [] (n, sl, f) Q) (h4 : ¬ (l2 < (0 : Int32)) → mi_W d 82 4 [some (.ref l1), some (.int l2)] [] (n, sl, f) Q) : mi_W d 82 0 [some (.ref l1), some (.int l2)] [] (n, sl, f) Q := by
  refine w_iload_n cd_82_0 rfl ?_
  exact w_iflt cd_82_1 (by decide) h3 h4
theorem b_82_4 {d : Nat} {Q : (Option Value ⊕ Nat) → mi_H → Prop} (n sl : Nat) (f : Nat → mi_C) {l1 : Nat} {l2 : Int32} {fs3 : List Value} {x6 : Int32} (h4 : f l1 = .inr (2, fs3)) (h5 : l1 < n) (h7 : fs3[11]? = some (.int x6)) (h8 : x6 ≤ l2 → mi_W d 82 16 [some (.ref l1), some (.int l2)] [] (n, sl, f) Q) (h9 : ¬ (x6 ≤ l2) → mi_W d 82 12 [some (.ref l1), some (.int l2)] [] (n, sl, f) Q) : mi_W d 82 4 [some (.ref l1), some (.int l2)] [] (n, sl, f) Q := by
  refine w_iload_n cd_82_4 rfl ?_
  refine w_aload_n cd_82_5 rfl ?_
  refine w_getfield cd_82_6 (show mt_f 2 47 = some (2, 11) by decide +kernel) h4 h5 h7 ?_
  exact w_if_icmpge cd_82_9 (by decide) h8 h9
theorem b_82_12 {d : Nat} {Q : (Option Value ⊕ Nat) → mi_H → Prop} (n sl : Nat) (f : Nat → mi_C) {l1 : Nat} {l2 : Int32} (h3 : mi_W d 82 17 [some (.ref l1), some (.int l2)] [.int 1] (n, sl, f) Q) : mi_W d 82 12 [some (.ref l1), some (.int l2)] [] (n, sl, f) Q := by
  refine w_iconst (v := 1) cd_82_12 (by decide) ?_
  exact w_goto cd_82_13 (by decide) h3
theorem b_82_16 {d : Nat} {Q : (Option Value ⊕ Nat) → mi_H → Prop} (n sl : Nat) (f : Nat → mi_C) {l1 : Nat} {l2 : Int32} (h3 : mi_W d 82 17 [some (.ref l1), some (.int l2)] [.int 0] (n, sl, f) Q) : mi_W d 82 16 [some (.ref l1), some (.int l2)] [] (n, sl, f) Q := by
  refine w_iconst (v := 0) cd_82_16 (by decide) ?_
  exact h3
theorem b_82_17 {d : Nat} {Q : (Option Value ⊕ Nat) → mi_H → Prop} (n sl : Nat) (f : Nat → mi_C) {l1 : Nat} {l2 : Int32} {s3 : Int32} (h4 : s3 = 0 ∨ s3 = 1) (h5 : Q (.inl (some (.int s3))) (n, sl, f)) : mi_W d 82 17 [some (.ref l1), some (.int l2)] [.int s3] (n, sl, f) Q := by
  exact w_ireturn_z cd_82_17 (by decide +kernel) h4 h5
/-! MarloweHost$Machine.closeAccount()Z -/
set_option maxRecDepth 100000 in
theorem mq_83 : mt_q 83 = my_83 := rfl
set_option maxRecDepth 100000 in
theorem ci_83 : mt_inc 0 my_83.cd = true := by decide +kernel
theorem cd_83_0 : mt_cd 83 0 = some (.aload_n 0) := mt_cd_of (q := (0, .aload_n 0, 1)) mq_83 ci_83 (List.mem_of_getElem? (i := 0) rfl)
theorem cd_83_1 : mt_cd 83 1 = some (.getfield 29) := mt_cd_of (q := (1, .getfield 29, 3)) mq_83 ci_83 (List.mem_of_getElem? (i := 1) rfl)
theorem cd_83_4 : mt_cd 83 4 = some (.invokevirtual 103) := mt_cd_of (q := (4, .invokevirtual 103, 3)) mq_83 ci_83 (List.mem_of_getElem? (i := 2) rfl)
theorem cd_83_7 : mt_cd 83 7 = some (.istore_n 1) := mt_cd_of (q := (7, .istore_n 1, 1)) mq_83 ci_83 (List.mem_of_getElem? (i := 3) rfl)
theorem cd_83_8 : mt_cd 83 8 = some (.iload_n 1) := mt_cd_of (q := (8, .iload_n 1, 1)) mq_83 ci_83 (List.mem_of_getElem? (i := 4) rfl)
theorem cd_83_9 : mt_cd 83 9 = some (.ifCond .lt 9) := mt_cd_of (q := (9, .ifCond .lt 9, 3)) mq_83 ci_83 (List.mem_of_getElem? (i := 5) rfl)
theorem cd_83_12 : mt_cd 83 12 = some (.iload_n 1) := mt_cd_of (q := (12, .iload_n 1, 1)) mq_83 ci_83 (List.mem_of_getElem? (i := 6) rfl)
theorem cd_83_13 : mt_cd 83 13 = some (.bipush 32) := mt_cd_of (q := (13, .bipush 32, 2)) mq_83 ci_83 (List.mem_of_getElem? (i := 7) rfl)
theorem cd_83_15 : mt_cd 83 15 = some (.if_icmp .lt 5) := mt_cd_of (q := (15, .if_icmp .lt 5, 3)) mq_83 ci_83 (List.mem_of_getElem? (i := 8) rfl)
theorem cd_83_18 : mt_cd 83 18 = some (.iconst 0) := mt_cd_of (q := (18, .iconst 0, 1)) mq_83 ci_83 (List.mem_of_getElem? (i := 9) rfl)
theorem cd_83_19 : mt_cd 83 19 = some (.ireturn) := mt_cd_of (q := (19, .ireturn, 1)) mq_83 ci_83 (List.mem_of_getElem? (i := 10) rfl)
theorem cd_83_20 : mt_cd 83 20 = some (.iload_n 1) := mt_cd_of (q := (20, .iload_n 1, 1)) mq_83 ci_83 (List.mem_of_getElem? (i := 11) rfl)
theorem cd_83_21 : mt_cd 83 21 = some (.iconst 4) := mt_cd_of (q := (21, .iconst 4, 1)) mq_83 ci_83 (List.mem_of_getElem? (i := 12) rfl)
theorem cd_83_22 : mt_cd 83 22 = some (.idiv) := mt_cd_of (q := (22, .idiv, 1)) mq_83 ci_83 (List.mem_of_getElem? (i := 13) rfl)
theorem cd_83_23 : mt_cd 83 23 = some (.istore_n 2) := mt_cd_of (q := (23, .istore_n 2, 1)) mq_83 ci_83 (List.mem_of_getElem? (i := 14) rfl)
theorem cd_83_24 : mt_cd 83 24 = some (.aload_n 0) := mt_cd_of (q := (24, .aload_n 0, 1)) mq_83 ci_83 (List.mem_of_getElem? (i := 15) rfl)
theorem cd_83_25 : mt_cd 83 25 = some (.getfield 12) := mt_cd_of (q := (25, .getfield 12, 3)) mq_83 ci_83 (List.mem_of_getElem? (i := 16) rfl)
theorem cd_83_28 : mt_cd 83 28 = some (.iload_n 2) := mt_cd_of (q := (28, .iload_n 2, 1)) mq_83 ci_83 (List.mem_of_getElem? (i := 17) rfl)
theorem cd_83_29 : mt_cd 83 29 = some (.iload_n 2) := mt_cd_of (q := (29, .iload_n 2, 1)) mq_83 ci_83 (List.mem_of_getElem? (i := 18) rfl)
theorem cd_83_30 : mt_cd 83 30 = some (.iload_n 1) := mt_cd_of (q := (30, .iload_n 1, 1)) mq_83 ci_83 (List.mem_of_getElem? (i := 19) rfl)
theorem cd_83_31 : mt_cd 83 31 = some (.iconst 4) := mt_cd_of (q := (31, .iconst 4, 1)) mq_83 ci_83 (List.mem_of_getElem? (i := 20) rfl)
theorem cd_83_32 : mt_cd 83 32 = some (.irem) := mt_cd_of (q := (32, .irem, 1)) mq_83 ci_83 (List.mem_of_getElem? (i := 21) rfl)
theorem cd_83_33 : mt_cd 83 33 = some (.aload_n 0) := mt_cd_of (q := (33, .aload_n 0, 1)) mq_83 ci_83 (List.mem_of_getElem? (i := 22) rfl)
theorem cd_83_34 : mt_cd 83 34 = some (.getfield 29) := mt_cd_of (q := (34, .getfield 29, 3)) mq_83 ci_83 (List.mem_of_getElem? (i := 23) rfl)
theorem cd_83_37 : mt_cd 83 37 = some (.getfield 147) := mt_cd_of (q := (37, .getfield 147, 3)) mq_83 ci_83 (List.mem_of_getElem? (i := 24) rfl)
theorem cd_83_40 : mt_cd 83 40 = some (.iload_n 1) := mt_cd_of (q := (40, .iload_n 1, 1)) mq_83 ci_83 (List.mem_of_getElem? (i := 25) rfl)
theorem cd_83_41 : mt_cd 83 41 = some (.laload) := mt_cd_of (q := (41, .laload, 1)) mq_83 ci_83 (List.mem_of_getElem? (i := 26) rfl)
theorem cd_83_42 : mt_cd 83 42 = some (.invokevirtual 150) := mt_cd_of (q := (42, .invokevirtual 150, 3)) mq_83 ci_83 (List.mem_of_getElem? (i := 27) rfl)
theorem cd_83_45 : mt_cd 83 45 = some (.aload_n 0) := mt_cd_of (q := (45, .aload_n 0, 1)) mq_83 ci_83 (List.mem_of_getElem? (i := 28) rfl)
theorem cd_83_46 : mt_cd 83 46 = some (.getfield 29) := mt_cd_of (q := (46, .getfield 29, 3)) mq_83 ci_83 (List.mem_of_getElem? (i := 29) rfl)
theorem cd_83_49 : mt_cd 83 49 = some (.getfield 147) := mt_cd_of (q := (49, .getfield 147, 3)) mq_83 ci_83 (List.mem_of_getElem? (i := 30) rfl)
theorem cd_83_52 : mt_cd 83 52 = some (.iload_n 1) := mt_cd_of (q := (52, .iload_n 1, 1)) mq_83 ci_83 (List.mem_of_getElem? (i := 31) rfl)
theorem cd_83_53 : mt_cd 83 53 = some (.lconst 0) := mt_cd_of (q := (53, .lconst 0, 1)) mq_83 ci_83 (List.mem_of_getElem? (i := 32) rfl)
theorem cd_83_54 : mt_cd 83 54 = some (.lastore) := mt_cd_of (q := (54, .lastore, 1)) mq_83 ci_83 (List.mem_of_getElem? (i := 33) rfl)
theorem cd_83_55 : mt_cd 83 55 = some (.iconst 1) := mt_cd_of (q := (55, .iconst 1, 1)) mq_83 ci_83 (List.mem_of_getElem? (i := 34) rfl)
theorem cd_83_56 : mt_cd 83 56 = some (.ireturn) := mt_cd_of (q := (56, .ireturn, 1)) mq_83 ci_83 (List.mem_of_getElem? (i := 35) rfl)
theorem b_83_0 {d : Nat} {Q : (Option Value ⊕ Nat) → mi_H → Prop} (n sl : Nat) (f : Nat → mi_C) {l1 : Nat} {o2 : Option Value} {o3 : Option Value} {fs4 : List Value} {x7 : Nat} {fs9 : List Value} (h5 : f l1 = .inr (7, fs4)) (h6 : l1 < n) (h8 : fs4[3]? = some (.ref x7)) (h10 : f x7 = .inr (9, fs9)) (h11 : x7 < n) (h12 : mi_W d 84 0 (mi_en 2 [.ref x7]) [] (n, sl, f) (mi_Kc d 83 4 [some (.ref l1), o2, o3] [] Q)) : mi_W (d + 1) 83 0 [some (.ref l1), o2, o3] [] (n, sl, f) Q := by
  refine w_aload_n cd_83_0 rfl ?_
  refine w_getfield cd_83_1 (show mt_f 7 29 = some (7, 3) by decide +kernel) h5 h6 h8 ?_
  exact w_invokevirtual cd_83_4 (show mt_m 7 103 = some (84, 0) by decide +kernel) (rest := []) rfl (as := [.ref x7]) rfl h10 (Or.inl h11) ⟨Nat.le_of_ble_eq_true rfl, Nat.le_of_ble_eq_true rfl, Nat.le_of_ble_eq_true rfl⟩ h12
theorem b_83_7 {d : Nat} {Q : (Option Value ⊕ Nat) → mi_H → Prop} (n sl : Nat) (f : Nat → mi_C) {l1 : Nat} {o2 : Option Value} {o3 : Option Value} {s4 : Int32} (h5 : s4 < (0 : Int32) → mi_W d 83 18 [some (.ref l1), some (.int s4), o3] [] (n, sl, f) Q) (h6 : ¬ (s4 < (0 : Int32)) → mi_W d 83 12 [some (.ref l1), some (.int s4), o3] [] (n, sl, f) Q) : mi_W d 83 7 [some (.ref l1), o2, o3] [.int s4] (n, sl, f) Q := by
  refine w_istore_n (ls' := [some (.ref l1), some (.int s4), o3]) cd_83_7 (Nat.le_of_ble_eq_true rfl) rfl ?_
  refine w_iload_n cd_83_8 rfl ?_
  exact w_iflt cd_83_9 (by decide) h5 h6
theorem b_83_12 {d : Nat} {Q : (Option Value ⊕ Nat) → mi_H → Prop} (n sl : Nat) (f : Nat → mi_C) {l1 : Nat} {l2 : Int32} {o3 : Option Value} (h4 : l2 < 32 → mi_W d 83 20 [some (.ref l1), some (.int l2), o3] [] (n, sl, f) Q) (h5 : ¬ (l2 < 32) → mi_W d 83 18 [some (.ref l1), some (.int l2), o3] [] (n, sl, f) Q) : mi_W d 83 12 [some (.ref l1), some (.int l2), o3] [] (n, sl, f) Q := by
  refine w_iload_n cd_83_12 rfl ?_
  refine w_bipush (v := 32) cd_83_13 (by decide) ?_
  exact w_if_icmplt cd_83_15 (by decide) h4 h5
theorem b_83_18 {d : Nat} {Q : (Option Value ⊕ Nat) → mi_H → Prop} (n sl : Nat) (f : Nat → mi_C) {l1 : Nat} {l2 : Int32} {o3 : Option Value} (h4 : Q (.inl (some (.int 0))) (n, sl, f)) : mi_W d 83 18 [some (.ref l1), some (.int l2), o3] [] (n, sl, f) Q := by
  refine w_iconst (v := 0) cd_83_18 (by decide) ?_
  exact w_ireturn_z cd_83_19 (by decide +kernel) (by decide) h4
theorem b_83_20 {d : Nat} {Q : (Option Value ⊕ Nat) → mi_H → Prop} (n sl : Nat) (f : Nat → mi_C) {l1 : Nat} {l2 : Int32} {o3 : Option Value} {fs4 : List Value} {x7 : Nat} {fs9 : List Value} {x12 : Nat} {fs14 : List Value} {x17 : Nat} (m19 i19 : Nat) (g19 : Nat → Int64) {fs23 : List Value} (h5 : f l1 = .inr (7, fs4)) (h6 : l1 < n) (h8 : fs4[7]? = some (.ref x7)) (h10 : f l1 = .inr (7, fs9)) (h11 : l1 < n) (h13 : fs9[3]? = some (.ref x12)) (h15 : f x12 = .inr (9, fs14)) (h16 : x12 < n) (h18 : fs14[2]? = some (.ref x17)) (h20 : f x17 = .inl (3, m19, .inr (.inl g19))) (h21 : x17 < n) (h22 : mi_ix l2 m19 i19) (h24 : f x7 = .inr (8, fs23)) (h25 : x7 < n) (h26 : mi_W d 85 0 (mi_en 6 [.ref x7, .int (l2 / 4), .int (l2 / 4), .int (l2 - l2 / 4 * 4), .long (g19 i19)]) [] (n, sl, f) (mi_Kc d 83 42 [some (.ref l1), some (.int l2), some (.int (l2 / 4))] [] Q)) : mi_W (d + 1) 83 20 [some (.ref l1), some (.int l2), o3] [] (n, sl, f) Q := by
  refine w_iload_n cd_83_20 rfl ?_
  refine w_iconst (v := 4) cd_83_21 (by decide) ?_
  refine w_idiv cd_83_22 (by decide) ?_
  refine w_istore_n (ls' := [some (.ref l1), some (.int l2), some (.int (l2 / 4))]) cd_83_23 (Nat.le_of_ble_eq_true rfl) rfl ?_
  refine w_aload_n cd_83_24 rfl ?_
  refine w_getfield cd_83_25 (show mt_f 7 12 = some (7, 7) by decide +kernel) h5 h6 h8 ?_
  refine w_iload_n cd_83_28 rfl ?_
  refine w_iload_n cd_83_29 rfl ?_
  refine w_iload_n cd_83_30 rfl ?_
  refine w_iconst (v := 4) cd_83_31 (by decide) ?_
  refine w_irem cd_83_32 (by decide) ?_
  refine w_aload_n cd_83_33 rfl ?_
  refine w_getfield cd_83_34 (show mt_f 7 29 = some (7, 3) by decide +kernel) h10 h11 h13 ?_
  refine w_getfield cd_83_37 (show mt_f 7 147 = some (9, 2) by decide +kernel) h15 h16 h18 ?_
  refine w_iload_n cd_83_40 rfl ?_
  refine w_laload cd_83_41 h20 h21 h22 ?_
  exact w_invokevirtual cd_83_42 (show mt_m 7 150 = some (85, 0) by decide +kernel) (rest := []) rfl (as := [.ref x7, .int (l2 / 4), .int (l2 / 4), .int (l2 - l2 / 4 * 4), .long (g19 i19)]) rfl h24 (Or.inl h25) ⟨Nat.le_of_ble_eq_true rfl, Nat.le_of_ble_eq_true rfl, Nat.le_of_ble_eq_true rfl⟩ h26
theorem b_83_45 {d : Nat} {Q : (Option Value ⊕ Nat) → mi_H → Prop} (n sl : Nat) (f : Nat → mi_C) {l1 : Nat} {l2 : Int32} {l3 : Int32} {fs4 : List Value} {x7 : Nat} {fs9 : List Value} {x12 : Nat} (m14 i14 : Nat) (g14 : Nat → Int64) (h5 : f l1 = .inr (7, fs4)) (h6 : l1 < n) (h8 : fs4[3]? = some (.ref x7)) (h10 : f x7 = .inr (9, fs9)) (h11 : x7 < n) (h13 : fs9[2]? = some (.ref x12)) (h15 : f x12 = .inl (3, m14, .inr (.inl g14))) (h16 : x12 < n) (h17 : mi_ix l2 m14 i14) (h18 : Q (.inl (some (.int 1))) (n, sl, (va_up f x12 (.inl (3, m14, .inr (.inl (vp_updL g14 i14 0))))))) : mi_W d 83 45 [some (.ref l1), some (.int l2), some (.int l3)] [] (n, sl, f) Q := by
  refine w_aload_n cd_83_45 rfl ?_
  refine w_getfield cd_83_46 (show mt_f 7 29 = some (7, 3) by decide +kernel) h5 h6 h8 ?_
  refine w_getfield cd_83_49 (show mt_f 7 147 = some (9, 2) by decide +kernel) h10 h11 h13 ?_
  refine w_iload_n cd_83_52 rfl ?_
  refine w_lconst (lv := 0) cd_83_53 (by decide) ?_
  refine w_lastore cd_83_54 h15 h16 h17 ?_
  refine w_iconst (v := 1) cd_83_55 (by decide) ?_
  exact w_ireturn_z cd_83_56 (by decide +kernel) (by decide) h18
/-! MarloweHost$Situation.firstFilled()I -/
set_option maxRecDepth 100000 in
theorem mq_84 : mt_q 84 = my_84 := rfl
set_option maxRecDepth 100000 in
theorem ci_84 : mt_inc 0 my_84.cd = true := by decide +kernel
theorem cd_84_0 : mt_cd 84 0 = some (.iconst 0) := mt_cd_of (q := (0, .iconst 0, 1)) mq_84 ci_84 (List.mem_of_getElem? (i := 0) rfl)
theorem cd_84_1 : mt_cd 84 1 = some (.istore_n 1) := mt_cd_of (q := (1, .istore_n 1, 1)) mq_84 ci_84 (List.mem_of_getElem? (i := 1) rfl)
theorem cd_84_2 : mt_cd 84 2 = some (.iload_n 1) := mt_cd_of (q := (2, .iload_n 1, 1)) mq_84 ci_84 (List.mem_of_getElem? (i := 2) rfl)
theorem cd_84_3 : mt_cd 84 3 = some (.bipush 32) := mt_cd_of (q := (3, .bipush 32, 2)) mq_84 ci_84 (List.mem_of_getElem? (i := 3) rfl)
theorem cd_84_5 : mt_cd 84 5 = some (.if_icmp .ge 22) := mt_cd_of (q := (5, .if_icmp .ge 22, 3)) mq_84 ci_84 (List.mem_of_getElem? (i := 4) rfl)
theorem cd_84_8 : mt_cd 84 8 = some (.aload_n 0) := mt_cd_of (q := (8, .aload_n 0, 1)) mq_84 ci_84 (List.mem_of_getElem? (i := 5) rfl)
theorem cd_84_9 : mt_cd 84 9 = some (.getfield 9) := mt_cd_of (q := (9, .getfield 9, 3)) mq_84 ci_84 (List.mem_of_getElem? (i := 6) rfl)
theorem cd_84_12 : mt_cd 84 12 = some (.iload_n 1) := mt_cd_of (q := (12, .iload_n 1, 1)) mq_84 ci_84 (List.mem_of_getElem? (i := 7) rfl)
theorem cd_84_13 : mt_cd 84 13 = some (.laload) := mt_cd_of (q := (13, .laload, 1)) mq_84 ci_84 (List.mem_of_getElem? (i := 8) rfl)
theorem cd_84_14 : mt_cd 84 14 = some (.lconst 0) := mt_cd_of (q := (14, .lconst 0, 1)) mq_84 ci_84 (List.mem_of_getElem? (i := 9) rfl)
theorem cd_84_15 : mt_cd 84 15 = some (.lcmp) := mt_cd_of (q := (15, .lcmp, 1)) mq_84 ci_84 (List.mem_of_getElem? (i := 10) rfl)
theorem cd_84_16 : mt_cd 84 16 = some (.ifCond .eq 5) := mt_cd_of (q := (16, .ifCond .eq 5, 3)) mq_84 ci_84 (List.mem_of_getElem? (i := 11) rfl)
theorem cd_84_19 : mt_cd 84 19 = some (.iload_n 1) := mt_cd_of (q := (19, .iload_n 1, 1)) mq_84 ci_84 (List.mem_of_getElem? (i := 12) rfl)
theorem cd_84_20 : mt_cd 84 20 = some (.ireturn) := mt_cd_of (q := (20, .ireturn, 1)) mq_84 ci_84 (List.mem_of_getElem? (i := 13) rfl)
theorem cd_84_21 : mt_cd 84 21 = some (.iinc 1 1) := mt_cd_of (q := (21, .iinc 1 1, 3)) mq_84 ci_84 (List.mem_of_getElem? (i := 14) rfl)
theorem cd_84_24 : mt_cd 84 24 = some (.goto (-22)) := mt_cd_of (q := (24, .goto (-22), 3)) mq_84 ci_84 (List.mem_of_getElem? (i := 15) rfl)
theorem cd_84_27 : mt_cd 84 27 = some (.iconst (-1)) := mt_cd_of (q := (27, .iconst (-1), 1)) mq_84 ci_84 (List.mem_of_getElem? (i := 16) rfl)
theorem cd_84_28 : mt_cd 84 28 = some (.ireturn) := mt_cd_of (q := (28, .ireturn, 1)) mq_84 ci_84 (List.mem_of_getElem? (i := 17) rfl)
theorem b_84_0 {d : Nat} {Q : (Option Value ⊕ Nat) → mi_H → Prop} (n sl : Nat) (f : Nat → mi_C) {l1 : Nat} {o2 : Option Value} (h3 : mi_W d 84 2 [some (.ref l1), some (.int 0)] [] (n, sl, f) Q) : mi_W d 84 0 [some (.ref l1), o2] [] (n, sl, f) Q := by
  refine w_iconst (v := 0) cd_84_0 (by decide) ?_
  refine w_istore_n (ls' := [some (.ref l1), some (.int 0)]) cd_84_1 (Nat.le_of_ble_eq_true rfl) rfl ?_
  exact h3
theorem b_84_2 {d : Nat} {Q : (Option Value ⊕ Nat) → mi_H → Prop} (n sl : Nat) (f : Nat → mi_C) {l1 : Nat} {l2 : Int32} (h3 : 32 ≤ l2 → mi_W d 84 27 [some (.ref l1), some (.int l2)] [] (n, sl, f) Q) (h4 : ¬ (32 ≤ l2) → mi_W d 84 8 [some (.ref l1), some (.int l2)] [] (n, sl, f) Q) : mi_W d 84 2 [some (.ref l1), some (.int l2)] [] (n, sl, f) Q := by
  refine w_iload_n cd_84_2 rfl ?_
  refine w_bipush (v := 32) cd_84_3 (by decide) ?_
  exact w_if_icmpge cd_84_5 (by decide) h3 h4
theorem b_84_8 {d : Nat} {Q : (Option Value ⊕ Nat) → mi_H → Prop} (n sl : Nat) (f : Nat → mi_C) {l1 : Nat} {l2 : Int32} {fs3 : List Value} {x6 : Nat} (m8 i8 : Nat) (g8 : Nat → Int64) (h4 : f l1 = .inr (9, fs3)) (h5 : l1 < n) (h7 : fs3[2]? = some (.ref x6)) (h9 : f x6 = .inl (3, m8, .inr (.inl g8))) (h10 : x6 < n) (h11 : mi_ix l2 m8 i8) (h12 : (lg_cmp (g8 i8) 0) = (0 : Int32) → mi_W d 84 21 [some (.ref l1), some (.int l2)] [] (n, sl, f) Q) (h13 : ¬ ((lg_cmp (g8 i8) 0) = (0 : Int32)) → mi_W d 84 19 [some (.ref l1), some (.int l2)] [] (n, sl, f) Q) : mi_W d 84 8 [some (.ref l1), some (.int l2)] [] (n, sl, f) Q := by
  refine w_aload_n cd_84_8 rfl ?_
  refine w_getfield cd_84_9 (show mt_f 9 9 = some (9, 2) by decide +kernel) h4 h5 h7 ?_
  refine w_iload_n cd_84_12 rfl ?_
  refine w_laload cd_84_13 h9 h10 h11 ?_
  refine w_lconst (lv := 0) cd_84_14 (by decide) ?_
  refine w_lcmp cd_84_15 ?_
  exact w_ifeq cd_84_16 (by decide) h12 h13
theorem b_84_19 {d : Nat} {Q : (Option Value ⊕ Nat) → mi_H → Prop} (n sl : Nat) (f : Nat → mi_C) {l1 : Nat} {l2 : Int32} (h3 : Q (.inl (some (.int l2))) (n, sl, f)) : mi_W d 84 19 [some (.ref l1), some (.int l2)] [] (n, sl, f) Q := by
  refine w_iload_n cd_84_19 rfl ?_
  exact w_ireturn_i cd_84_20 (by decide +kernel) h3
theorem b_84_21 {d : Nat} {Q : (Option Value ⊕ Nat) → mi_H → Prop} (n sl : Nat) (f : Nat → mi_C) {l1 : Nat} {l2 : Int32} (h3 : mi_W d 84 2 [some (.ref l1), some (.int (l2 + 1))] [] (n, sl, f) Q) : mi_W d 84 21 [some (.ref l1), some (.int l2)] [] (n, sl, f) Q := by
  refine w_iinc (v := 1) (ls' := [some (.ref l1), some (.int (l2 + 1))]) cd_84_21 rfl (by decide) rfl ?_
  exact w_goto cd_84_24 (by decide) h3
theorem b_84_27 {d : Nat} {Q : (Option Value ⊕ Nat) → mi_H → Prop} (n sl : Nat) (f : Nat → mi_C) {l1 : Nat} {l2 : Int32} (h3 : Q (.inl (some (.int (-1)))) (n, sl, f)) : mi_W d 84 27 [some (.ref l1), some (.int l2)] [] (n, sl, f) Q := by
  refine w_iconst (v := (-1)) cd_84_27 (by decide) ?_
  exact w_ireturn_i cd_84_28 (by decide +kernel) h3
/-! MarloweHost$Events.pay(IIIJ)V -/
set_option maxRecDepth 100000 in
theorem mq_85 : mt_q 85 = my_85 := rfl
set_option maxRecDepth 100000 in
theorem ci_85 : mt_inc 0 my_85.cd = true := by decide +kernel
theorem cd_85_0 : mt_cd 85 0 = some (.aload_n 0) := mt_cd_of (q := (0, .aload_n 0, 1)) mq_85 ci_85 (List.mem_of_getElem? (i := 0) rfl)
theorem cd_85_1 : mt_cd 85 1 = some (.getfield 35) := mt_cd_of (q := (1, .getfield 35, 3)) mq_85 ci_85 (List.mem_of_getElem? (i := 1) rfl)
theorem cd_85_4 : mt_cd 85 4 = some (.ifCond .lt 64) := mt_cd_of (q := (4, .ifCond .lt 64, 3)) mq_85 ci_85 (List.mem_of_getElem? (i := 2) rfl)
theorem cd_85_7 : mt_cd 85 7 = some (.aload_n 0) := mt_cd_of (q := (7, .aload_n 0, 1)) mq_85 ci_85 (List.mem_of_getElem? (i := 3) rfl)
theorem cd_85_8 : mt_cd 85 8 = some (.getfield 35) := mt_cd_of (q := (8, .getfield 35, 3)) mq_85 ci_85 (List.mem_of_getElem? (i := 4) rfl)
theorem cd_85_11 : mt_cd 85 11 = some (.sipush 148) := mt_cd_of (q := (11, .sipush 148, 3)) mq_85 ci_85 (List.mem_of_getElem? (i := 5) rfl)
theorem cd_85_14 : mt_cd 85 14 = some (.if_icmp .ge 54) := mt_cd_of (q := (14, .if_icmp .ge 54, 3)) mq_85 ci_85 (List.mem_of_getElem? (i := 6) rfl)
theorem cd_85_17 : mt_cd 85 17 = some (.aload_n 0) := mt_cd_of (q := (17, .aload_n 0, 1)) mq_85 ci_85 (List.mem_of_getElem? (i := 7) rfl)
theorem cd_85_18 : mt_cd 85 18 = some (.getfield 18) := mt_cd_of (q := (18, .getfield 18, 3)) mq_85 ci_85 (List.mem_of_getElem? (i := 8) rfl)
theorem cd_85_21 : mt_cd 85 21 = some (.aload_n 0) := mt_cd_of (q := (21, .aload_n 0, 1)) mq_85 ci_85 (List.mem_of_getElem? (i := 9) rfl)
theorem cd_85_22 : mt_cd 85 22 = some (.getfield 35) := mt_cd_of (q := (22, .getfield 35, 3)) mq_85 ci_85 (List.mem_of_getElem? (i := 10) rfl)
theorem cd_85_25 : mt_cd 85 25 = some (.iload_n 1) := mt_cd_of (q := (25, .iload_n 1, 1)) mq_85 ci_85 (List.mem_of_getElem? (i := 11) rfl)
theorem cd_85_26 : mt_cd 85 26 = some (.iastore) := mt_cd_of (q := (26, .iastore, 1)) mq_85 ci_85 (List.mem_of_getElem? (i := 12) rfl)
theorem cd_85_27 : mt_cd 85 27 = some (.aload_n 0) := mt_cd_of (q := (27, .aload_n 0, 1)) mq_85 ci_85 (List.mem_of_getElem? (i := 13) rfl)
theorem cd_85_28 : mt_cd 85 28 = some (.getfield 21) := mt_cd_of (q := (28, .getfield 21, 3)) mq_85 ci_85 (List.mem_of_getElem? (i := 14) rfl)
theorem cd_85_31 : mt_cd 85 31 = some (.aload_n 0) := mt_cd_of (q := (31, .aload_n 0, 1)) mq_85 ci_85 (List.mem_of_getElem? (i := 15) rfl)
theorem cd_85_32 : mt_cd 85 32 = some (.getfield 35) := mt_cd_of (q := (32, .getfield 35, 3)) mq_85 ci_85 (List.mem_of_getElem? (i := 16) rfl)
theorem cd_85_35 : mt_cd 85 35 = some (.iload_n 2) := mt_cd_of (q := (35, .iload_n 2, 1)) mq_85 ci_85 (List.mem_of_getElem? (i := 17) rfl)
theorem cd_85_36 : mt_cd 85 36 = some (.iastore) := mt_cd_of (q := (36, .iastore, 1)) mq_85 ci_85 (List.mem_of_getElem? (i := 18) rfl)
theorem cd_85_37 : mt_cd 85 37 = some (.aload_n 0) := mt_cd_of (q := (37, .aload_n 0, 1)) mq_85 ci_85 (List.mem_of_getElem? (i := 19) rfl)
theorem cd_85_38 : mt_cd 85 38 = some (.getfield 24) := mt_cd_of (q := (38, .getfield 24, 3)) mq_85 ci_85 (List.mem_of_getElem? (i := 20) rfl)
theorem cd_85_41 : mt_cd 85 41 = some (.aload_n 0) := mt_cd_of (q := (41, .aload_n 0, 1)) mq_85 ci_85 (List.mem_of_getElem? (i := 21) rfl)
theorem cd_85_42 : mt_cd 85 42 = some (.getfield 35) := mt_cd_of (q := (42, .getfield 35, 3)) mq_85 ci_85 (List.mem_of_getElem? (i := 22) rfl)
theorem cd_85_45 : mt_cd 85 45 = some (.iload_n 3) := mt_cd_of (q := (45, .iload_n 3, 1)) mq_85 ci_85 (List.mem_of_getElem? (i := 23) rfl)
theorem cd_85_46 : mt_cd 85 46 = some (.iastore) := mt_cd_of (q := (46, .iastore, 1)) mq_85 ci_85 (List.mem_of_getElem? (i := 24) rfl)
theorem cd_85_47 : mt_cd 85 47 = some (.aload_n 0) := mt_cd_of (q := (47, .aload_n 0, 1)) mq_85 ci_85 (List.mem_of_getElem? (i := 25) rfl)
theorem cd_85_48 : mt_cd 85 48 = some (.getfield 27) := mt_cd_of (q := (48, .getfield 27, 3)) mq_85 ci_85 (List.mem_of_getElem? (i := 26) rfl)
theorem cd_85_51 : mt_cd 85 51 = some (.aload_n 0) := mt_cd_of (q := (51, .aload_n 0, 1)) mq_85 ci_85 (List.mem_of_getElem? (i := 27) rfl)
theorem cd_85_52 : mt_cd 85 52 = some (.getfield 35) := mt_cd_of (q := (52, .getfield 35, 3)) mq_85 ci_85 (List.mem_of_getElem? (i := 28) rfl)
theorem cd_85_55 : mt_cd 85 55 = some (.lload 4) := mt_cd_of (q := (55, .lload 4, 2)) mq_85 ci_85 (List.mem_of_getElem? (i := 29) rfl)
theorem cd_85_57 : mt_cd 85 57 = some (.lastore) := mt_cd_of (q := (57, .lastore, 1)) mq_85 ci_85 (List.mem_of_getElem? (i := 30) rfl)
theorem cd_85_58 : mt_cd 85 58 = some (.aload_n 0) := mt_cd_of (q := (58, .aload_n 0, 1)) mq_85 ci_85 (List.mem_of_getElem? (i := 31) rfl)
theorem cd_85_59 : mt_cd 85 59 = some (.dup) := mt_cd_of (q := (59, .dup, 1)) mq_85 ci_85 (List.mem_of_getElem? (i := 32) rfl)
theorem cd_85_60 : mt_cd 85 60 = some (.getfield 35) := mt_cd_of (q := (60, .getfield 35, 3)) mq_85 ci_85 (List.mem_of_getElem? (i := 33) rfl)
theorem cd_85_63 : mt_cd 85 63 = some (.iconst 1) := mt_cd_of (q := (63, .iconst 1, 1)) mq_85 ci_85 (List.mem_of_getElem? (i := 34) rfl)
theorem cd_85_64 : mt_cd 85 64 = some (.iadd) := mt_cd_of (q := (64, .iadd, 1)) mq_85 ci_85 (List.mem_of_getElem? (i := 35) rfl)
theorem cd_85_65 : mt_cd 85 65 = some (.putfield 35) := mt_cd_of (q := (65, .putfield 35, 3)) mq_85 ci_85 (List.mem_of_getElem? (i := 36) rfl)
theorem cd_85_68 : mt_cd 85 68 = some (.return_) := mt_cd_of (q := (68, .return_, 1)) mq_85 ci_85 (List.mem_of_getElem? (i := 37) rfl)
theorem b_85_0 {d : Nat} {Q : (Option Value ⊕ Nat) → mi_H → Prop} (n sl : Nat) (f : Nat → mi_C) {l1 : Nat} {l2 : Int32} {l3 : Int32} {l4 : Int32} {l5 : Int64} {fs6 : List Value} {x9 : Int32} (h7 : f l1 = .inr (8, fs6)) (h8 : l1 < n) (h10 : fs6[7]? = some (.int x9)) (h11 : x9 < (0 : Int32) → mi_W d 85 68 [some (.ref l1), some (.int l2), some (.int l3), some (.int l4), some (.long l5), none] [] (n, sl, f) Q) (h12 : ¬ (x9 < (0 : Int32)) → mi_W d 85 7 [some (.ref l1), some (.int l2), some (.int l3), some (.int l4), some (.long l5), none] [] (n, sl, f) Q) : mi_W d 85 0 [some (.ref l1), some (.int l2), some (.int l3), some (.int l4), some (.long l5), none] [] (n, sl, f) Q := by
  refine w_aload_n cd_85_0 rfl ?_
  refine w_getfield cd_85_1 (show mt_f 8 35 = some (8, 7) by decide +kernel) h7 h8 h10 ?_
  exact w_iflt cd_85_4 (by decide) h11 h12
theorem b_85_7 {d : Nat} {Q : (Option Value ⊕ Nat) → mi_H → Prop} (n sl : Nat) (f : Nat → mi_C) {l1 : Nat} {l2 : Int32} {l3 : Int32} {l4 : Int32} {l5 : Int64} {fs6 : List Value} {x9 : Int32} (h7 : f l1 = .inr (8, fs6)) (h8 : l1 < n) (h10 : fs6[7]? = some (.int x9)) (h11 : 148 ≤ x9 → mi_W d 85 68 [some (.ref l1), some (.int l2), some (.int l3), some (.int l4), some (.long l5), none] [] (n, sl, f) Q) (h12 : ¬ (148 ≤ x9) → mi_W d 85 17 [some (.ref l1), some (.int l2), some (.int l3), some (.int l4), some (.long l5), none] [] (n, sl, f) Q) : mi_W d 85 7 [some (.ref l1), some (.int l2), some (.int l3), some (.int l4), some (.long l5), none] [] (n, sl, f) Q := by
  refine w_aload_n cd_85_7 rfl ?_
  refine w_getfield cd_85_8 (show mt_f 8 35 = some (8, 7) by decide +kernel) h7 h8 h10 ?_
  refine w_sipush (v := 148) cd_85_11 (by decide) ?_
  exact w_if_icmpge cd_85_14 (by decide) h11 h12
theorem b_85_17 {d : Nat} {Q : (Option Value ⊕ Nat) → mi_H → Prop} (n sl : Nat) (f : Nat → mi_C) {l1 : Nat} {l2 : Int32} {l3 : Int32} {l4 : Int32} {l5 : Int64} {fs6 : List Value} {x9 : Nat} {fs11 : List Value} {x14 : Int32} (m16 i16 : Nat) (g16 : Nat → Int32) {fs20 : List Value} {x23 : Nat} {fs25 : List Value} {x28 : Int32} (m30 i30 : Nat) (g30 : Nat → Int32) {fs34 : List Value} {x37 : Nat} {fs39 : List Value} {x42 : Int32} (m44 i44 : Nat) (g44 : Nat → Int32) {fs48 : List Value} {x51 : Nat} {fs53 : List Value} {x56 : Int32} (m58 i58 : Nat) (g58 : Nat → Int64) {fs62 : List Value} {x65 : Int32} {fs67 : List Value} (h7 : f l1 = .inr (8, fs6)) (h8 : l1 < n) (h10 : fs6[2]? = some (.ref x9)) (h12 : f l1 = .inr (8, fs11)) (h13 : l1 < n) (h15 : fs11[7]? = some (.int x14)) (h17 : f x9 = .inl (0, m16, .inl g16)) (h18 : x9 < n) (h19 : mi_ix x14 m16 i16) (h21 : (va_up f x9 (.inl (0, m16, .inl (upd g16 i16 l2)))) l1 = .inr (8, fs20)) (h22 : l1 < n) (h24 : fs20[3]? = some (.ref x23)) (h26 : (va_up f x9 (.inl (0, m16, .inl (upd g16 i16 l2)))) l1 = .inr (8, fs25)) (h27 : l1 < n) (h29 : fs25[7]? = some (.int x28)) (h31 : (va_up f x9 (.inl (0, m16, .inl (upd g16 i16 l2)))) x23 = .inl (0, m30, .inl g30)) (h32 : x23 < n) (h33 : mi_ix x28 m30 i30) (h35 : (va_up (va_up f x9 (.inl (0, m16, .inl (upd g16 i16 l2)))) x23 (.inl (0, m30, .inl (upd g30 i30 l3)))) l1 = .inr (8, fs34)) (h36 : l1 < n) (h38 : fs34[4]? = some (.ref x37)) (h40 : (va_up (va_up f x9 (.inl (0, m16, .inl (upd g16 i16 l2)))) x23 (.inl (0, m30, .inl (upd g30 i30 l3)))) l1 = .inr (8, fs39)) (h41 : l1 < n) (h43 : fs39[7]? = some (.int x42)) (h45 : (va_up (va_up f x9 (.inl (0, m16, .inl (upd g16 i16 l2)))) x23 (.inl (0, m30, .inl (upd g30 i30 l3)))) x37 = .inl (0, m44, .inl g44)) (h46 : x37 < n) (h47 : mi_ix x42 m44 i44) (h49 : (va_up (va_up (va_up f x9 (.inl (0, m16, .inl (upd g16 i16 l2)))) x23 (.inl (0, m30, .inl (upd g30 i30 l3)))) x37 (.inl (0, m44, .inl (upd g44 i44 l4)))) l1 = .inr (8, fs48)) (h50 : l1 < n) (h52 : fs48[5]? = some (.ref x51)) (h54 : (va_up (va_up (va_up f x9 (.inl (0, m16, .inl (upd g16 i16 l2)))) x23 (.inl (0, m30, .inl (upd g30 i30 l3)))) x37 (.inl (0, m44, .inl (upd g44 i44 l4)))) l1 = .inr (8, fs53)) (h55 : l1 < n) (h57 : fs53[7]? = some (.int x56)) (h59 : (va_up (va_up (va_up f x9 (.inl (0, m16, .inl (upd g16 i16 l2)))) x23 (.inl (0, m30, .inl (upd g30 i30 l3)))) x37 (.inl (0, m44, .inl (upd g44 i44 l4)))) x51 = .inl (3, m58, .inr (.inl g58))) (h60 : x51 < n) (h61 : mi_ix x56 m58 i58) (h63 : (va_up (va_up (va_up (va_up f x9 (.inl (0, m16, .inl (upd g16 i16 l2)))) x23 (.inl (0, m30, .inl (upd g30 i30 l3)))) x37 (.inl (0, m44, .inl (upd g44 i44 l4)))) x51 (.inl (3, m58, .inr (.inl (vp_updL g58 i58 l5))))) l1 = .inr (8, fs62)) (h64 : l1 < n) (h66 : fs62[7]? = some (.int x65)) (h68 : (va_up (va_up (va_up (va_up f x9 (.inl (0, m16, .inl (upd g16 i16 l2)))) x23 (.inl (0, m30, .inl (upd g30 i30 l3)))) x37 (.inl (0, m44, .inl (upd g44 i44 l4)))) x51 (.inl (3, m58, .inr (.inl (vp_updL g58 i58 l5))))) l1 = .inr (8, fs67)) (h69 : l1 < n) (h70 : 7 < fs67.length) (h71 : mi_W d 85 68 [some (.ref l1), some (.int l2), some (.int l3), some (.int l4), some (.long l5), none] [] (n, sl, (va_up (va_up (va_up (va_up (va_up f x9 (.inl (0, m16, .inl (upd g16 i16 l2)))) x23 (.inl (0, m30, .inl (upd g30 i30 l3)))) x37 (.inl (0, m44, .inl (upd g44 i44 l4)))) x51 (.inl (3, m58, .inr (.inl (vp_updL g58 i58 l5))))) l1 (.inr (8, fs67.set 7 (.int (x65 + 1)))))) Q) : mi_W d 85 17 [some (.ref l1), some (.int l2), some (.int l3), some (.int l4), some (.long l5), none] [] (n, sl, f) Q := by
  refine w_aload_n cd_85_17 rfl ?_
  refine w_getfield cd_85_18 (show mt_f 8 18 = some (8, 2) by decide +kernel) h7 h8 h10 ?_
  refine w_aload_n cd_85_21 rfl ?_
  refine w_getfield cd_85_22 (show mt_f 8 35 = some (8, 7) by decide +kernel) h12 h13 h15 ?_
  refine w_iload_n cd_85_25 rfl ?_
  refine w_iastore cd_85_26 h17 h18 h19 ?_
  refine w_aload_n cd_85_27 rfl ?_
  refine w_getfield cd_85_28 (show mt_f 8 21 = some (8, 3) by decide +kernel) h21 h22 h24 ?_
  refine w_aload_n cd_85_31 rfl ?_
  refine w_getfield cd_85_32 (show mt_f 8 35 = some (8, 7) by decide +kernel) h26 h27 h29 ?_
  refine w_iload_n cd_85_35 rfl ?_
  refine w_iastore cd_85_36 h31 h32 h33 ?_
  refine w_aload_n cd_85_37 rfl ?_
  refine w_getfield cd_85_38 (show mt_f 8 24 = some (8, 4) by decide +kernel) h35 h36 h38 ?_
  refine w_aload_n cd_85_41 rfl ?_
  refine w_getfield cd_85_42 (show mt_f 8 35 = some (8, 7) by decide +kernel) h40 h41 h43 ?_
  refine w_iload_n cd_85_45 rfl ?_
  refine w_iastore cd_85_46 h45 h46 h47 ?_
  refine w_aload_n cd_85_47 rfl ?_
  refine w_getfield cd_85_48 (show mt_f 8 27 = some (8, 5) by decide +kernel) h49 h50 h52 ?_
  refine w_aload_n cd_85_51 rfl ?_
  refine w_getfield cd_85_52 (show mt_f 8 35 = some (8, 7) by decide +kernel) h54 h55 h57 ?_
  refine w_lload cd_85_55 rfl ?_
  refine w_lastore cd_85_57 h59 h60 h61 ?_
  refine w_aload_n cd_85_58 rfl ?_
  refine w_dup_r cd_85_59 ?_
  refine w_getfield cd_85_60 (show mt_f 8 35 = some (8, 7) by decide +kernel) h63 h64 h66 ?_
  refine w_iconst (v := 1) cd_85_63 (by decide) ?_
  refine w_iadd cd_85_64 ?_
  refine w_putfield (w := .int (x65 + 1)) cd_85_65 (show mt_f 8 35 = some (8, 7) by decide +kernel) h68 h69 ⟨h70, rfl, Or.inl (by decide)⟩ ?_
  exact h71
theorem b_85_68 {d : Nat} {Q : (Option Value ⊕ Nat) → mi_H → Prop} (n sl : Nat) (f : Nat → mi_C) {l1 : Nat} {l2 : Int32} {l3 : Int32} {l4 : Int32} {l5 : Int64} (h6 : Q (.inl none) (n, sl, f)) : mi_W d 85 68 [some (.ref l1), some (.int l2), some (.int l3), some (.int l4), some (.long l5), none] [] (n, sl, f) Q := by
  exact w_return cd_85_68 (by decide +kernel) h6
/-! MarloweHost$Machine.pay(I)V -/
set_option maxRecDepth 100000 in
theorem mq_86 : mt_q 86 = my_86 := rfl
set_option maxRecDepth 100000 in
theorem ci_86 : mt_inc 0 my_86.cd = true := by decide +kernel
theorem cd_86_0 : mt_cd 86 0 = some (.aload_n 0) := mt_cd_of (q := (0, .aload_n 0, 1)) mq_86 ci_86 (List.mem_append_left _ (show _ ∈ my_86_0 from List.mem_of_getElem? (i := 0) rfl))
theorem cd_86_1 : mt_cd 86 1 = some (.getfield 38) := mt_cd_of (q := (1, .getfield 38, 3)) mq_86 ci_86 (List.mem_append_left _ (show _ ∈ my_86_0 from List.mem_of_getElem? (i := 1) rfl))
theorem cd_86_4 : mt_cd 86 4 = some (.aload_n 0) := mt_cd_of (q := (4, .aload_n 0, 1)) mq_86 ci_86 (List.mem_append_left _ (show _ ∈ my_86_0 from List.mem_of_getElem? (i := 2) rfl))
theorem cd_86_5 : mt_cd 86 5 = some (.getfield 18) := mt_cd_of (q := (5, .getfield 18, 3)) mq_86 ci_86 (List.mem_append_left _ (show _ ∈ my_86_0 from List.mem_of_getElem? (i := 3) rfl))
theorem cd_86_8 : mt_cd 86 8 = some (.getfield 118) := mt_cd_of (q := (8, .getfield 118, 3)) mq_86 ci_86 (List.mem_append_left _ (show _ ∈ my_86_0 from List.mem_of_getElem? (i := 4) rfl))
theorem cd_86_11 : mt_cd 86 11 = some (.iload_n 1) := mt_cd_of (q := (11, .iload_n 1, 1)) mq_86 ci_86 (List.mem_append_left _ (show _ ∈ my_86_0 from List.mem_of_getElem? (i := 5) rfl))
theorem cd_86_12 : mt_cd 86 12 = some (.iaload) := mt_cd_of (q := (12, .iaload, 1)) mq_86 ci_86 (List.mem_append_left _ (show _ ∈ my_86_0 from List.mem_of_getElem? (i := 6) rfl))
theorem cd_86_13 : mt_cd 86 13 = some (.iconst 1) := mt_cd_of (q := (13, .iconst 1, 1)) mq_86 ci_86 (List.mem_append_left _ (show _ ∈ my_86_0 from List.mem_of_getElem? (i := 7) rfl))
theorem cd_86_14 : mt_cd 86 14 = some (.invokevirtual 153) := mt_cd_of (q := (14, .invokevirtual 153, 3)) mq_86 ci_86 (List.mem_append_left _ (show _ ∈ my_86_0 from List.mem_of_getElem? (i := 8) rfl))
theorem cd_86_17 : mt_cd 86 17 = some (.lstore_n 2) := mt_cd_of (q := (17, .lstore_n 2, 1)) mq_86 ci_86 (List.mem_append_left _ (show _ ∈ my_86_0 from List.mem_of_getElem? (i := 9) rfl))
theorem cd_86_18 : mt_cd 86 18 = some (.aload_n 0) := mt_cd_of (q := (18, .aload_n 0, 1)) mq_86 ci_86 (List.mem_append_left _ (show _ ∈ my_86_0 from List.mem_of_getElem? (i := 10) rfl))
theorem cd_86_19 : mt_cd 86 19 = some (.getfield 18) := mt_cd_of (q := (19, .getfield 18, 3)) mq_86 ci_86 (List.mem_append_left _ (show _ ∈ my_86_0 from List.mem_of_getElem? (i := 11) rfl))
theorem cd_86_22 : mt_cd 86 22 = some (.getfield 157) := mt_cd_of (q := (22, .getfield 157, 3)) mq_86 ci_86 (List.mem_append_left _ (show _ ∈ my_86_0 from List.mem_of_getElem? (i := 12) rfl))
theorem cd_86_25 : mt_cd 86 25 = some (.iload_n 1) := mt_cd_of (q := (25, .iload_n 1, 1)) mq_86 ci_86 (List.mem_append_left _ (show _ ∈ my_86_0 from List.mem_of_getElem? (i := 13) rfl))
theorem cd_86_26 : mt_cd 86 26 = some (.iaload) := mt_cd_of (q := (26, .iaload, 1)) mq_86 ci_86 (List.mem_append_left _ (show _ ∈ my_86_0 from List.mem_of_getElem? (i := 14) rfl))
theorem cd_86_27 : mt_cd 86 27 = some (.istore 4) := mt_cd_of (q := (27, .istore 4, 2)) mq_86 ci_86 (List.mem_append_left _ (show _ ∈ my_86_0 from List.mem_of_getElem? (i := 15) rfl))
theorem cd_86_29 : mt_cd 86 29 = some (.aload_n 0) := mt_cd_of (q := (29, .aload_n 0, 1)) mq_86 ci_86 (List.mem_append_left _ (show _ ∈ my_86_0 from List.mem_of_getElem? (i := 16) rfl))
theorem cd_86_30 : mt_cd 86 30 = some (.getfield 18) := mt_cd_of (q := (30, .getfield 18, 3)) mq_86 ci_86 (List.mem_append_left _ (show _ ∈ my_86_0 from List.mem_of_getElem? (i := 17) rfl))
theorem cd_86_33 : mt_cd 86 33 = some (.getfield 160) := mt_cd_of (q := (33, .getfield 160, 3)) mq_86 ci_86 (List.mem_append_left _ (show _ ∈ my_86_0 from List.mem_of_getElem? (i := 18) rfl))
theorem cd_86_36 : mt_cd 86 36 = some (.iload_n 1) := mt_cd_of (q := (36, .iload_n 1, 1)) mq_86 ci_86 (List.mem_append_left _ (show _ ∈ my_86_0 from List.mem_of_getElem? (i := 19) rfl))
theorem cd_86_37 : mt_cd 86 37 = some (.iaload) := mt_cd_of (q := (37, .iaload, 1)) mq_86 ci_86 (List.mem_append_left _ (show _ ∈ my_86_0 from List.mem_of_getElem? (i := 20) rfl))
theorem cd_86_38 : mt_cd 86 38 = some (.istore 5) := mt_cd_of (q := (38, .istore 5, 2)) mq_86 ci_86 (List.mem_append_left _ (show _ ∈ my_86_0 from List.mem_of_getElem? (i := 21) rfl))
theorem cd_86_40 : mt_cd 86 40 = some (.aload_n 0) := mt_cd_of (q := (40, .aload_n 0, 1)) mq_86 ci_86 (List.mem_append_left _ (show _ ∈ my_86_0 from List.mem_of_getElem? (i := 22) rfl))
theorem cd_86_41 : mt_cd 86 41 = some (.getfield 18) := mt_cd_of (q := (41, .getfield 18, 3)) mq_86 ci_86 (List.mem_append_left _ (show _ ∈ my_86_0 from List.mem_of_getElem? (i := 23) rfl))
theorem cd_86_44 : mt_cd 86 44 = some (.getfield 163) := mt_cd_of (q := (44, .getfield 163, 3)) mq_86 ci_86 (List.mem_append_left _ (show _ ∈ my_86_0 from List.mem_of_getElem? (i := 24) rfl))
theorem cd_86_47 : mt_cd 86 47 = some (.iload_n 1) := mt_cd_of (q := (47, .iload_n 1, 1)) mq_86 ci_86 (List.mem_append_left _ (show _ ∈ my_86_0 from List.mem_of_getElem? (i := 25) rfl))
theorem cd_86_48 : mt_cd 86 48 = some (.iaload) := mt_cd_of (q := (48, .iaload, 1)) mq_86 ci_86 (List.mem_append_left _ (show _ ∈ my_86_0 from List.mem_of_getElem? (i := 26) rfl))
theorem cd_86_49 : mt_cd 86 49 = some (.istore 6) := mt_cd_of (q := (49, .istore 6, 2)) mq_86 ci_86 (List.mem_append_left _ (show _ ∈ my_86_0 from List.mem_of_getElem? (i := 27) rfl))
theorem cd_86_51 : mt_cd 86 51 = some (.aload_n 0) := mt_cd_of (q := (51, .aload_n 0, 1)) mq_86 ci_86 (List.mem_append_left _ (show _ ∈ my_86_0 from List.mem_of_getElem? (i := 28) rfl))
theorem cd_86_52 : mt_cd 86 52 = some (.getfield 29) := mt_cd_of (q := (52, .getfield 29, 3)) mq_86 ci_86 (List.mem_append_left _ (show _ ∈ my_86_0 from List.mem_of_getElem? (i := 29) rfl))
theorem cd_86_55 : mt_cd 86 55 = some (.aload_n 0) := mt_cd_of (q := (55, .aload_n 0, 1)) mq_86 ci_86 (List.mem_append_left _ (show _ ∈ my_86_0 from List.mem_of_getElem? (i := 30) rfl))
theorem cd_86_56 : mt_cd 86 56 = some (.getfield 18) := mt_cd_of (q := (56, .getfield 18, 3)) mq_86 ci_86 (List.mem_append_left _ (show _ ∈ my_86_0 from List.mem_of_getElem? (i := 31) rfl))
theorem cd_86_59 : mt_cd 86 59 = some (.getfield 129) := mt_cd_of (q := (59, .getfield 129, 3)) mq_86 ci_86 (List.mem_append_left _ (show _ ∈ my_86_0 from List.mem_of_getElem? (i := 32) rfl))
theorem cd_86_62 : mt_cd 86 62 = some (.iload_n 1) := mt_cd_of (q := (62, .iload_n 1, 1)) mq_86 ci_86 (List.mem_append_left _ (show _ ∈ my_86_0 from List.mem_of_getElem? (i := 33) rfl))
theorem cd_86_63 : mt_cd 86 63 = some (.iaload) := mt_cd_of (q := (63, .iaload, 1)) mq_86 ci_86 (List.mem_append_left _ (show _ ∈ my_86_0 from List.mem_of_getElem? (i := 34) rfl))
theorem cd_86_64 : mt_cd 86 64 = some (.putfield 94) := mt_cd_of (q := (64, .putfield 94, 3)) mq_86 ci_86 (List.mem_append_left _ (show _ ∈ my_86_0 from List.mem_of_getElem? (i := 35) rfl))
theorem cd_86_67 : mt_cd 86 67 = some (.lload_n 2) := mt_cd_of (q := (67, .lload_n 2, 1)) mq_86 ci_86 (List.mem_append_left _ (show _ ∈ my_86_0 from List.mem_of_getElem? (i := 36) rfl))
theorem cd_86_68 : mt_cd 86 68 = some (.lconst 0) := mt_cd_of (q := (68, .lconst 0, 1)) mq_86 ci_86 (List.mem_append_left _ (show _ ∈ my_86_0 from List.mem_of_getElem? (i := 37) rfl))
theorem cd_86_69 : mt_cd 86 69 = some (.lcmp) := mt_cd_of (q := (69, .lcmp, 1)) mq_86 ci_86 (List.mem_append_left _ (show _ ∈ my_86_0 from List.mem_of_getElem? (i := 38) rfl))
theorem cd_86_70 : mt_cd 86 70 = some (.ifCond .gt 13) := mt_cd_of (q := (70, .ifCond .gt 13, 3)) mq_86 ci_86 (List.mem_append_left _ (show _ ∈ my_86_0 from List.mem_of_getElem? (i := 39) rfl))
theorem cd_86_73 : mt_cd 86 73 = some (.aload_n 0) := mt_cd_of (q := (73, .aload_n 0, 1)) mq_86 ci_86 (List.mem_append_left _ (show _ ∈ my_86_0 from List.mem_of_getElem? (i := 40) rfl))
theorem cd_86_74 : mt_cd 86 74 = some (.getfield 12) := mt_cd_of (q := (74, .getfield 12, 3)) mq_86 ci_86 (List.mem_append_left _ (show _ ∈ my_86_0 from List.mem_of_getElem? (i := 41) rfl))
theorem cd_86_77 : mt_cd 86 77 = some (.iconst 2) := mt_cd_of (q := (77, .iconst 2, 1)) mq_86 ci_86 (List.mem_append_left _ (show _ ∈ my_86_0 from List.mem_of_getElem? (i := 42) rfl))
theorem cd_86_78 : mt_cd 86 78 = some (.iload_n 1) := mt_cd_of (q := (78, .iload_n 1, 1)) mq_86 ci_86 (List.mem_append_left _ (show _ ∈ my_86_0 from List.mem_of_getElem? (i := 43) rfl))
theorem cd_86_79 : mt_cd 86 79 = some (.invokevirtual 139) := mt_cd_of (q := (79, .invokevirtual 139, 3)) mq_86 ci_86 (List.mem_append_left _ (show _ ∈ my_86_0 from List.mem_of_getElem? (i := 44) rfl))
theorem cd_86_82 : mt_cd 86 82 = some (.return_) := mt_cd_of (q := (82, .return_, 1)) mq_86 ci_86 (List.mem_append_left _ (show _ ∈ my_86_0 from List.mem_of_getElem? (i := 45) rfl))
theorem cd_86_83 : mt_cd 86 83 = some (.lload_n 2) := mt_cd_of (q := (83, .lload_n 2, 1)) mq_86 ci_86 (List.mem_append_left _ (show _ ∈ my_86_0 from List.mem_of_getElem? (i := 46) rfl))
theorem cd_86_84 : mt_cd 86 84 = some (.aload_n 0) := mt_cd_of (q := (84, .aload_n 0, 1)) mq_86 ci_86 (List.mem_append_left _ (show _ ∈ my_86_0 from List.mem_of_getElem? (i := 47) rfl))
theorem cd_86_85 : mt_cd 86 85 = some (.getfield 29) := mt_cd_of (q := (85, .getfield 29, 3)) mq_86 ci_86 (List.mem_append_left _ (show _ ∈ my_86_0 from List.mem_of_getElem? (i := 48) rfl))
theorem cd_86_88 : mt_cd 86 88 = some (.iload 4) := mt_cd_of (q := (88, .iload 4, 2)) mq_86 ci_86 (List.mem_append_left _ (show _ ∈ my_86_0 from List.mem_of_getElem? (i := 49) rfl))
theorem cd_86_90 : mt_cd 86 90 = some (.iload 6) := mt_cd_of (q := (90, .iload 6, 2)) mq_86 ci_86 (List.mem_append_left _ (show _ ∈ my_86_0 from List.mem_of_getElem? (i := 50) rfl))
theorem cd_86_92 : mt_cd 86 92 = some (.invokevirtual 166) := mt_cd_of (q := (92, .invokevirtual 166, 3)) mq_86 ci_86 (List.mem_append_left _ (show _ ∈ my_86_0 from List.mem_of_getElem? (i := 51) rfl))
theorem cd_86_95 : mt_cd 86 95 = some (.invokestatic 169) := mt_cd_of (q := (95, .invokestatic 169, 3)) mq_86 ci_86 (List.mem_append_left _ (show _ ∈ my_86_0 from List.mem_of_getElem? (i := 52) rfl))
theorem cd_86_98 : mt_cd 86 98 = some (.lstore 7) := mt_cd_of (q := (98, .lstore 7, 2)) mq_86 ci_86 (List.mem_append_left _ (show _ ∈ my_86_0 from List.mem_of_getElem? (i := 53) rfl))
theorem cd_86_100 : mt_cd 86 100 = some (.aload_n 0) := mt_cd_of (q := (100, .aload_n 0, 1)) mq_86 ci_86 (List.mem_append_left _ (show _ ∈ my_86_0 from List.mem_of_getElem? (i := 54) rfl))
theorem cd_86_101 : mt_cd 86 101 = some (.getfield 29) := mt_cd_of (q := (101, .getfield 29, 3)) mq_86 ci_86 (List.mem_append_left _ (show _ ∈ my_86_0 from List.mem_of_getElem? (i := 55) rfl))
theorem cd_86_104 : mt_cd 86 104 = some (.iload 4) := mt_cd_of (q := (104, .iload 4, 2)) mq_86 ci_86 (List.mem_append_left _ (show _ ∈ my_86_0 from List.mem_of_getElem? (i := 56) rfl))
theorem cd_86_106 : mt_cd 86 106 = some (.iload 6) := mt_cd_of (q := (106, .iload 6, 2)) mq_86 ci_86 (List.mem_append_left _ (show _ ∈ my_86_0 from List.mem_of_getElem? (i := 57) rfl))
theorem cd_86_108 : mt_cd 86 108 = some (.lload 7) := mt_cd_of (q := (108, .lload 7, 2)) mq_86 ci_86 (List.mem_append_left _ (show _ ∈ my_86_0 from List.mem_of_getElem? (i := 58) rfl))
theorem cd_86_110 : mt_cd 86 110 = some (.lneg) := mt_cd_of (q := (110, .lneg, 1)) mq_86 ci_86 (List.mem_append_left _ (show _ ∈ my_86_0 from List.mem_of_getElem? (i := 59) rfl))
theorem cd_86_111 : mt_cd 86 111 = some (.invokevirtual 172) := mt_cd_of (q := (111, .invokevirtual 172, 3)) mq_86 ci_86 (List.mem_append_right _ ((show _ ∈ my_86_1 from List.mem_of_getElem? (i := 0) rfl)))
theorem cd_86_114 : mt_cd 86 114 = some (.pop) := mt_cd_of (q := (114, .pop, 1)) mq_86 ci_86 (List.mem_append_right _ ((show _ ∈ my_86_1 from List.mem_of_getElem? (i := 1) rfl)))
theorem cd_86_115 : mt_cd 86 115 = some (.lload 7) := mt_cd_of (q := (115, .lload 7, 2)) mq_86 ci_86 (List.mem_append_right _ ((show _ ∈ my_86_1 from List.mem_of_getElem? (i := 2) rfl)))
theorem cd_86_117 : mt_cd 86 117 = some (.lload_n 2) := mt_cd_of (q := (117, .lload_n 2, 1)) mq_86 ci_86 (List.mem_append_right _ ((show _ ∈ my_86_1 from List.mem_of_getElem? (i := 3) rfl)))
theorem cd_86_118 : mt_cd 86 118 = some (.lcmp) := mt_cd_of (q := (118, .lcmp, 1)) mq_86 ci_86 (List.mem_append_right _ ((show _ ∈ my_86_1 from List.mem_of_getElem? (i := 4) rfl)))
theorem cd_86_119 : mt_cd 86 119 = some (.ifCond .ge 12) := mt_cd_of (q := (119, .ifCond .ge 12, 3)) mq_86 ci_86 (List.mem_append_right _ ((show _ ∈ my_86_1 from List.mem_of_getElem? (i := 5) rfl)))
theorem cd_86_122 : mt_cd 86 122 = some (.aload_n 0) := mt_cd_of (q := (122, .aload_n 0, 1)) mq_86 ci_86 (List.mem_append_right _ ((show _ ∈ my_86_1 from List.mem_of_getElem? (i := 6) rfl)))
theorem cd_86_123 : mt_cd 86 123 = some (.getfield 12) := mt_cd_of (q := (123, .getfield 12, 3)) mq_86 ci_86 (List.mem_append_right _ ((show _ ∈ my_86_1 from List.mem_of_getElem? (i := 7) rfl)))
theorem cd_86_126 : mt_cd 86 126 = some (.iconst 3) := mt_cd_of (q := (126, .iconst 3, 1)) mq_86 ci_86 (List.mem_append_right _ ((show _ ∈ my_86_1 from List.mem_of_getElem? (i := 8) rfl)))
theorem cd_86_127 : mt_cd 86 127 = some (.iload_n 1) := mt_cd_of (q := (127, .iload_n 1, 1)) mq_86 ci_86 (List.mem_append_right _ ((show _ ∈ my_86_1 from List.mem_of_getElem? (i := 9) rfl)))
theorem cd_86_128 : mt_cd 86 128 = some (.invokevirtual 139) := mt_cd_of (q := (128, .invokevirtual 139, 3)) mq_86 ci_86 (List.mem_append_right _ ((show _ ∈ my_86_1 from List.mem_of_getElem? (i := 10) rfl)))
theorem cd_86_131 : mt_cd 86 131 = some (.aload_n 0) := mt_cd_of (q := (131, .aload_n 0, 1)) mq_86 ci_86 (List.mem_append_right _ ((show _ ∈ my_86_1 from List.mem_of_getElem? (i := 11) rfl)))
theorem cd_86_132 : mt_cd 86 132 = some (.getfield 18) := mt_cd_of (q := (132, .getfield 18, 3)) mq_86 ci_86 (List.mem_append_right _ ((show _ ∈ my_86_1 from List.mem_of_getElem? (i := 12) rfl)))
theorem cd_86_135 : mt_cd 86 135 = some (.getfield 176) := mt_cd_of (q := (135, .getfield 176, 3)) mq_86 ci_86 (List.mem_append_right _ ((show _ ∈ my_86_1 from List.mem_of_getElem? (i := 13) rfl)))
theorem cd_86_138 : mt_cd 86 138 = some (.iload_n 1) := mt_cd_of (q := (138, .iload_n 1, 1)) mq_86 ci_86 (List.mem_append_right _ ((show _ ∈ my_86_1 from List.mem_of_getElem? (i := 14) rfl)))
theorem cd_86_139 : mt_cd 86 139 = some (.baload) := mt_cd_of (q := (139, .baload, 1)) mq_86 ci_86 (List.mem_append_right _ ((show _ ∈ my_86_1 from List.mem_of_getElem? (i := 15) rfl)))
theorem cd_86_140 : mt_cd 86 140 = some (.ifCond .ne 28) := mt_cd_of (q := (140, .ifCond .ne 28, 3)) mq_86 ci_86 (List.mem_append_right _ ((show _ ∈ my_86_1 from List.mem_of_getElem? (i := 16) rfl)))
theorem cd_86_143 : mt_cd 86 143 = some (.lload 7) := mt_cd_of (q := (143, .lload 7, 2)) mq_86 ci_86 (List.mem_append_right _ ((show _ ∈ my_86_1 from List.mem_of_getElem? (i := 17) rfl)))
theorem cd_86_145 : mt_cd 86 145 = some (.lconst 0) := mt_cd_of (q := (145, .lconst 0, 1)) mq_86 ci_86 (List.mem_append_right _ ((show _ ∈ my_86_1 from List.mem_of_getElem? (i := 18) rfl)))
theorem cd_86_146 : mt_cd 86 146 = some (.lcmp) := mt_cd_of (q := (146, .lcmp, 1)) mq_86 ci_86 (List.mem_append_right _ ((show _ ∈ my_86_1 from List.mem_of_getElem? (i := 19) rfl)))
theorem cd_86_147 : mt_cd 86 147 = some (.ifCond .eq 21) := mt_cd_of (q := (147, .ifCond .eq 21, 3)) mq_86 ci_86 (List.mem_append_right _ ((show _ ∈ my_86_1 from List.mem_of_getElem? (i := 20) rfl)))
theorem cd_86_150 : mt_cd 86 150 = some (.aload_n 0) := mt_cd_of (q := (150, .aload_n 0, 1)) mq_86 ci_86 (List.mem_append_right _ ((show _ ∈ my_86_1 from List.mem_of_getElem? (i := 21) rfl)))
theorem cd_86_151 : mt_cd 86 151 = some (.getfield 12) := mt_cd_of (q := (151, .getfield 12, 3)) mq_86 ci_86 (List.mem_append_right _ ((show _ ∈ my_86_1 from List.mem_of_getElem? (i := 22) rfl)))
theorem cd_86_154 : mt_cd 86 154 = some (.iload 4) := mt_cd_of (q := (154, .iload 4, 2)) mq_86 ci_86 (List.mem_append_right _ ((show _ ∈ my_86_1 from List.mem_of_getElem? (i := 23) rfl)))
theorem cd_86_156 : mt_cd 86 156 = some (.iload 5) := mt_cd_of (q := (156, .iload 5, 2)) mq_86 ci_86 (List.mem_append_right _ ((show _ ∈ my_86_1 from List.mem_of_getElem? (i := 24) rfl)))
theorem cd_86_158 : mt_cd 86 158 = some (.iload 6) := mt_cd_of (q := (158, .iload 6, 2)) mq_86 ci_86 (List.mem_append_right _ ((show _ ∈ my_86_1 from List.mem_of_getElem? (i := 25) rfl)))
theorem cd_86_160 : mt_cd 86 160 = some (.lload 7) := mt_cd_of (q := (160, .lload 7, 2)) mq_86 ci_86 (List.mem_append_right _ ((show _ ∈ my_86_1 from List.mem_of_getElem? (i := 26) rfl)))
theorem cd_86_162 : mt_cd 86 162 = some (.invokevirtual 150) := mt_cd_of (q := (162, .invokevirtual 150, 3)) mq_86 ci_86 (List.mem_append_right _ ((show _ ∈ my_86_1 from List.mem_of_getElem? (i := 27) rfl)))
theorem cd_86_165 : mt_cd 86 165 = some (.goto 37) := mt_cd_of (q := (165, .goto 37, 3)) mq_86 ci_86 (List.mem_append_right _ ((show _ ∈ my_86_1 from List.mem_of_getElem? (i := 28) rfl)))
theorem cd_86_168 : mt_cd 86 168 = some (.aload_n 0) := mt_cd_of (q := (168, .aload_n 0, 1)) mq_86 ci_86 (List.mem_append_right _ ((show _ ∈ my_86_1 from List.mem_of_getElem? (i := 29) rfl)))
theorem cd_86_169 : mt_cd 86 169 = some (.getfield 18) := mt_cd_of (q := (169, .getfield 18, 3)) mq_86 ci_86 (List.mem_append_right _ ((show _ ∈ my_86_1 from List.mem_of_getElem? (i := 30) rfl)))
theorem cd_86_172 : mt_cd 86 172 = some (.getfield 176) := mt_cd_of (q := (172, .getfield 176, 3)) mq_86 ci_86 (List.mem_append_right _ ((show _ ∈ my_86_1 from List.mem_of_getElem? (i := 31) rfl)))
theorem cd_86_175 : mt_cd 86 175 = some (.iload_n 1) := mt_cd_of (q := (175, .iload_n 1, 1)) mq_86 ci_86 (List.mem_append_right _ ((show _ ∈ my_86_1 from List.mem_of_getElem? (i := 32) rfl)))
theorem cd_86_176 : mt_cd 86 176 = some (.baload) := mt_cd_of (q := (176, .baload, 1)) mq_86 ci_86 (List.mem_append_right _ ((show _ ∈ my_86_1 from List.mem_of_getElem? (i := 33) rfl)))
theorem cd_86_177 : mt_cd 86 177 = some (.ifCond .eq 25) := mt_cd_of (q := (177, .ifCond .eq 25, 3)) mq_86 ci_86 (List.mem_append_right _ ((show _ ∈ my_86_1 from List.mem_of_getElem? (i := 34) rfl)))
theorem cd_86_180 : mt_cd 86 180 = some (.aload_n 0) := mt_cd_of (q := (180, .aload_n 0, 1)) mq_86 ci_86 (List.mem_append_right _ ((show _ ∈ my_86_1 from List.mem_of_getElem? (i := 35) rfl)))
theorem cd_86_181 : mt_cd 86 181 = some (.getfield 29) := mt_cd_of (q := (181, .getfield 29, 3)) mq_86 ci_86 (List.mem_append_right _ ((show _ ∈ my_86_1 from List.mem_of_getElem? (i := 36) rfl)))
theorem cd_86_184 : mt_cd 86 184 = some (.iload 5) := mt_cd_of (q := (184, .iload 5, 2)) mq_86 ci_86 (List.mem_append_right _ ((show _ ∈ my_86_1 from List.mem_of_getElem? (i := 37) rfl)))
theorem cd_86_186 : mt_cd 86 186 = some (.iload 6) := mt_cd_of (q := (186, .iload 6, 2)) mq_86 ci_86 (List.mem_append_right _ ((show _ ∈ my_86_1 from List.mem_of_getElem? (i := 38) rfl)))
theorem cd_86_188 : mt_cd 86 188 = some (.lload 7) := mt_cd_of (q := (188, .lload 7, 2)) mq_86 ci_86 (List.mem_append_right _ ((show _ ∈ my_86_1 from List.mem_of_getElem? (i := 39) rfl)))
theorem cd_86_190 : mt_cd 86 190 = some (.invokevirtual 172) := mt_cd_of (q := (190, .invokevirtual 172, 3)) mq_86 ci_86 (List.mem_append_right _ ((show _ ∈ my_86_1 from List.mem_of_getElem? (i := 40) rfl)))
theorem cd_86_193 : mt_cd 86 193 = some (.ifCond .ne 9) := mt_cd_of (q := (193, .ifCond .ne 9, 3)) mq_86 ci_86 (List.mem_append_right _ ((show _ ∈ my_86_1 from List.mem_of_getElem? (i := 41) rfl)))
theorem cd_86_196 : mt_cd 86 196 = some (.aload_n 0) := mt_cd_of (q := (196, .aload_n 0, 1)) mq_86 ci_86 (List.mem_append_right _ ((show _ ∈ my_86_1 from List.mem_of_getElem? (i := 42) rfl)))
theorem cd_86_197 : mt_cd 86 197 = some (.bipush 6) := mt_cd_of (q := (197, .bipush 6, 2)) mq_86 ci_86 (List.mem_append_right _ ((show _ ∈ my_86_1 from List.mem_of_getElem? (i := 43) rfl)))
theorem cd_86_199 : mt_cd 86 199 = some (.putfield 49) := mt_cd_of (q := (199, .putfield 49, 3)) mq_86 ci_86 (List.mem_append_right _ ((show _ ∈ my_86_1 from List.mem_of_getElem? (i := 44) rfl)))
theorem cd_86_202 : mt_cd 86 202 = some (.return_) := mt_cd_of (q := (202, .return_, 1)) mq_86 ci_86 (List.mem_append_right _ ((show _ ∈ my_86_1 from List.mem_of_getElem? (i := 45) rfl)))
theorem b_86_0 {d : Nat} {Q : (Option Value ⊕ Nat) → mi_H → Prop} (n sl : Nat) (f : Nat → mi_C) {l1 : Nat} {l2 : Int32} {o3 : Option Value} {o4 : Option Value} {o5 : Option Value} {o6 : Option Value} {o7 : Option Value} {o8 : Option Value} {o9 : Option Value} {fs10 : List Value} {x13 : Nat} {fs15 : List Value} {x18 : Nat} {fs20 : List Value} {x23 : Nat} (m25 i25 : Nat) (g25 : Nat → Int32) {fs29 : List Value} (h11 : f l1 = .inr (7, fs10)) (h12 : l1 < n) (h14 : fs10[2]? = some (.ref x13)) (h16 : f l1 = .inr (7, fs15)) (h17 : l1 < n) (h19 : fs15[0]? = some (.ref x18)) (h21 : f x18 = .inr (2, fs20)) (h22 : x18 < n) (h24 : fs20[1]? = some (.ref x23)) (h26 : f x23 = .inl (0, m25, .inl g25)) (h27 : x23 < n ∨ x23 = mi_SC) (h28 : mi_ix l2 m25 i25) (h30 : f x13 = .inr (10, fs29)) (h31 : x13 < n) (h32 : mi_W d 87 0 (mi_en 5 [.ref x13, .int (g25 i25), .int 1]) [] (n, sl, f) (mi_Kc d 86 14 [some (.ref l1), some (.int l2), o3, o4, o5, o6, o7, o8, o9] [] Q)) : mi_W (d + 1) 86 0 [some (.ref l1), some (.int l2), o3, o4, o5, o6, o7, o8, o9] [] (n, sl, f) Q := by
  refine w_aload_n cd_86_0 rfl ?_
  refine w_getfield cd_86_1 (show mt_f 7 38 = some (7, 2) by decide +kernel) h11 h12 h14 ?_
  refine w_aload_n cd_86_4 rfl ?_
  refine w_getfield cd_86_5 (show mt_f 7 18 = some (7, 0) by decide +kernel) h16 h17 h19 ?_
  refine w_getfield cd_86_8 (show mt_f 7 118 = some (2, 1) by decide +kernel) h21 h22 h24 ?_
  refine w_iload_n cd_86_11 rfl ?_
  refine w_iaload cd_86_12 h26 h27 h28 ?_
  refine w_iconst (v := 1) cd_86_13 (by decide) ?_
  exact w_invokevirtual cd_86_14 (show mt_m 7 153 = some (87, 0) by decide +kernel) (rest := []) rfl (as := [.ref x13, .int (g25 i25), .int 1]) rfl h30 (Or.inl h31) ⟨Nat.le_of_ble_eq_true rfl, Nat.le_of_ble_eq_true rfl, Nat.le_of_ble_eq_true rfl⟩ h32
theorem b_86_17 {d : Nat} {Q : (Option Value ⊕ Nat) → mi_H → Prop} (n sl : Nat) (f : Nat → mi_C) {l1 : Nat} {l2 : Int32} {o3 : Option Value} {o4 : Option Value} {o5 : Option Value} {o6 : Option Value} {o7 : Option Value} {o8 : Option Value} {o9 : Option Value} {s10 : Int64} {fs11 : List Value} {x14 : Nat} {fs16 : List Value} {x19 : Nat} (m21 i21 : Nat) (g21 : Nat → Int32) {fs25 : List Value} {x28 : Nat} {fs30 : List Value} {x33 : Nat} (m35 i35 : Nat) (g35 : Nat → Int32) {fs39 : List Value} {x42 : Nat} {fs44 : List Value} {x47 : Nat} (m49 i49 : Nat) (g49 : Nat → Int32) {fs53 : List Value} {x56 : Nat} {fs58 : List Value} {x61 : Nat} {fs63 : List Value} {x66 : Nat} (m68 i68 : Nat) (g68 : Nat → Int32) {fs72 : List Value} (h12 : f l1 = .inr (7, fs11)) (h13 : l1 < n) (h15 : fs11[0]? = some (.ref x14)) (h17 : f x14 = .inr (2, fs16)) (h18 : x14 < n) (h20 : fs16[4]? = some (.ref x19)) (h22 : f x19 = .inl (0, m21, .inl g21)) (h23 : x19 < n ∨ x19 = mi_SC) (h24 : mi_ix l2 m21 i21) (h26 : f l1 = .inr (7, fs25)) (h27 : l1 < n) (h29 : fs25[0]? = some (.ref x28)) (h31 : f x28 = .inr (2, fs30)) (h32 : x28 < n) (h34 : fs30[5]? = some (.ref x33)) (h36 : f x33 = .inl (0, m35, .inl g35)) (h37 : x33 < n ∨ x33 = mi_SC) (h38 : mi_ix l2 m35 i35) (h40 : f l1 = .inr (7, fs39)) (h41 : l1 < n) (h43 : fs39[0]? = some (.ref x42)) (h45 : f x42 = .inr (2, fs44)) (h46 : x42 < n) (h48 : fs44[6]? = some (.ref x47)) (h50 : f x47 = .inl (0, m49, .inl g49)) (h51 : x47 < n ∨ x47 = mi_SC) (h52 : mi_ix l2 m49 i49) (h54 : f l1 = .inr (7, fs53)) (h55 : l1 < n) (h57 : fs53[3]? = some (.ref x56)) (h59 : f l1 = .inr (7, fs58)) (h60 : l1 < n) (h62 : fs58[0]? = some (.ref x61)) (h64 : f x61 = .inr (2, fs63)) (h65 : x61 < n) (h67 : fs63[3]? = some (.ref x66)) (h69 : f x66 = .inl (0, m68, .inl g68)) (h70 : x66 < n ∨ x66 = mi_SC) (h71 : mi_ix l2 m68 i68) (h73 : f x56 = .inr (9, fs72)) (h74 : x56 < n) (h75 : 0 < fs72.length) (h76 : (0 : Int32) < (lg_cmp s10 0) → mi_W d 86 83 [some (.ref l1), some (.int l2), some (.long s10), none, some (.int (g21 i21)), some (.int (g35 i35)), some (.int (g49 i49)), o8, o9] [] (n, sl, (va_up f x56 (.inr (9, fs72.set 0 (.int (g68 i68)))))) Q) (h77 : ¬ ((0 : Int32) < (lg_cmp s10 0)) → mi_W d 86 73 [some (.ref l1), some (.int l2), some (.long s10), none, some (.int (g21 i21)), some (.int (g35 i35)), some (.int (g49 i49)), o8, o9] [] (n, sl, (va_up f x56 (.inr (9, fs72.set 0 (.int (g68 i68)))))) Q) : mi_W d 86 17 [some (.ref l1), some (.int l2), o3, o4, o5, o6, o7, o8, o9] [.long s10] (n, sl, f) Q := by
  refine w_lstore_n (ls' := [some (.ref l1), some (.int l2), some (.long s10), none, o5, o6, o7, o8, o9]) cd_86_17 (Nat.le_of_ble_eq_true rfl) rfl ?_
  refine w_aload_n cd_86_18 rfl ?_
  refine w_getfield cd_86_19 (show mt_f 7 18 = some (7, 0) by decide +kernel) h12 h13 h15 ?_
  refine w_getfield cd_86_22 (show mt_f 7 157 = some (2, 4) by decide +kernel) h17 h18 h20 ?_
  refine w_iload_n cd_86_25 rfl ?_
  refine w_iaload cd_86_26 h22 h23 h24 ?_
  refine w_istore (ls' := [some (.ref l1), some (.int l2), some (.long s10), none, some (.int (g21 i21)), o6, o7, o8, o9]) cd_86_27 (Nat.le_of_ble_eq_true rfl) rfl ?_
  refine w_aload_n cd_86_29 rfl ?_
  refine w_getfield cd_86_30 (show mt_f 7 18 = some (7, 0) by decide +kernel) h26 h27 h29 ?_
  refine w_getfield cd_86_33 (show mt_f 7 160 = some (2, 5) by decide +kernel) h31 h32 h34 ?_
  refine w_iload_n cd_86_36 rfl ?_
  refine w_iaload cd_86_37 h36 h37 h38 ?_
  refine w_istore (ls' := [some (.ref l1), some (.int l2), some (.long s10), none, some (.int (g21 i21)), some (.int (g35 i35)), o7, o8, o9]) cd_86_38 (Nat.le_of_ble_eq_true rfl) rfl ?_
  refine w_aload_n cd_86_40 rfl ?_
  refine w_getfield cd_86_41 (show mt_f 7 18 = some (7, 0) by decide +kernel) h40 h41 h43 ?_
  refine w_getfield cd_86_44 (show mt_f 7 163 = some (2, 6) by decide +kernel) h45 h46 h48 ?_
  refine w_iload_n cd_86_47 rfl ?_
  refine w_iaload cd_86_48 h50 h51 h52 ?_
  refine w_istore (ls' := [some (.ref l1), some (.int l2), some (.long s10), none, some (.int (g21 i21)), some (.int (g35 i35)), some (.int (g49 i49)), o8, o9]) cd_86_49 (Nat.le_of_ble_eq_true rfl) rfl ?_
  refine w_aload_n cd_86_51 rfl ?_
  refine w_getfield cd_86_52 (show mt_f 7 29 = some (7, 3) by decide +kernel) h54 h55 h57 ?_
  refine w_aload_n cd_86_55 rfl ?_
  refine w_getfield cd_86_56 (show mt_f 7 18 = some (7, 0) by decide +kernel) h59 h60 h62 ?_
  refine w_getfield cd_86_59 (show mt_f 7 129 = some (2, 3) by decide +kernel) h64 h65 h67 ?_
  refine w_iload_n cd_86_62 rfl ?_
  refine w_iaload cd_86_63 h69 h70 h71 ?_
  refine w_putfield (w := .int (g68 i68)) cd_86_64 (show mt_f 7 94 = some (9, 0) by decide +kernel) h73 h74 ⟨h75, rfl, Or.inl (by decide)⟩ ?_
  refine w_lload_n cd_86_67 rfl ?_
  refine w_lconst (lv := 0) cd_86_68 (by decide) ?_
  refine w_lcmp cd_86_69 ?_
  exact w_ifgt cd_86_70 (by decide) h76 h77
theorem b_86_73 {d : Nat} {Q : (Option Value ⊕ Nat) → mi_H → Prop} (n sl : Nat) (f : Nat → mi_C) {l1 : Nat} {l2 : Int32} {l3 : Int64} {l4 : Int32} {l5 : Int32} {l6 : Int32} {o7 : Option Value} {o8 : Option Value} {fs9 : List Value} {x12 : Nat} {fs14 : List Value} (h10 : f l1 = .inr (7, fs9)) (h11 : l1 < n) (h13 : fs9[7]? = some (.ref x12)) (h15 : f x12 = .inr (8, fs14)) (h16 : x12 < n) (h17 : mi_W d 98 0 (mi_en 3 [.ref x12, .int 2, .int l2]) [] (n, sl, f) (mi_Kc d 86 79 [some (.ref l1), some (.int l2), some (.long l3), none, some (.int l4), some (.int l5), some (.int l6), o7, o8] [] Q)) : mi_W (d + 1) 86 73 [some (.ref l1), some (.int l2), some (.long l3), none, some (.int l4), some (.int l5), some (.int l6), o7, o8] [] (n, sl, f) Q := by
  refine w_aload_n cd_86_73 rfl ?_
  refine w_getfield cd_86_74 (show mt_f 7 12 = some (7, 7) by decide +kernel) h10 h11 h13 ?_
  refine w_iconst (v := 2) cd_86_77 (by decide) ?_
  refine w_iload_n cd_86_78 rfl ?_
  exact w_invokevirtual cd_86_79 (show mt_m 7 139 = some (98, 0) by decide +kernel) (rest := []) rfl (as := [.ref x12, .int 2, .int l2]) rfl h15 (Or.inl h16) ⟨Nat.le_of_ble_eq_true rfl, Nat.le_of_ble_eq_true rfl, Nat.le_of_ble_eq_true rfl⟩ h17
theorem b_86_82 {d : Nat} {Q : (Option Value ⊕ Nat) → mi_H → Prop} (n sl : Nat) (f : Nat → mi_C) {l1 : Nat} {l2 : Int32} {l3 : Int64} {l4 : Int32} {l5 : Int32} {l6 : Int32} {o7 : Option Value} {o8 : Option Value} (h9 : Q (.inl none) (n, sl, f)) : mi_W d 86 82 [some (.ref l1), some (.int l2), some (.long l3), none, some (.int l4), some (.int l5), some (.int l6), o7, o8] [] (n, sl, f) Q := by
  exact w_return cd_86_82 (by decide +kernel) h9
theorem b_86_83 {d : Nat} {Q : (Option Value ⊕ Nat) → mi_H → Prop} (n sl : Nat) (f : Nat → mi_C) {l1 : Nat} {l2 : Int32} {l3 : Int64} {l4 : Int32} {l5 : Int32} {l6 : Int32} {o7 : Option Value} {o8 : Option Value} {fs9 : List Value} {x12 : Nat} {fs14 : List Value} (h10 : f l1 = .inr (7, fs9)) (h11 : l1 < n) (h13 : fs9[3]? = some (.ref x12)) (h15 : f x12 = .inr (9, fs14)) (h16 : x12 < n) (h17 : mi_W d 88 0 (mi_en 4 [.ref x12, .int l4, .int l6]) [] (n, sl, f) (mi_Kc d 86 92 [some (.ref l1), some (.int l2), some (.long l3), none, some (.int l4), some (.int l5), some (.int l6), o7, o8] [.long l3] Q)) : mi_W (d + 1) 86 83 [some (.ref l1), some (.int l2), some (.long l3), none, some (.int l4), some (.int l5), some (.int l6), o7, o8] [] (n, sl, f) Q := by
  refine w_lload_n cd_86_83 rfl ?_
  refine w_aload_n cd_86_84 rfl ?_
  refine w_getfield cd_86_85 (show mt_f 7 29 = some (7, 3) by decide +kernel) h10 h11 h13 ?_
  refine w_iload cd_86_88 rfl ?_
  refine w_iload cd_86_90 rfl ?_
  exact w_invokevirtual cd_86_92 (show mt_m 7 166 = some (88, 0) by decide +kernel) (rest := [.long l3]) rfl (as := [.ref x12, .int l4, .int l6]) rfl h15 (Or.inl h16) ⟨Nat.le_of_ble_eq_true rfl, Nat.le_of_ble_eq_true rfl, Nat.le_of_ble_eq_true rfl⟩ h17
theorem b_86_95 {d : Nat} {Q : (Option Value ⊕ Nat) → mi_H → Prop} (n sl : Nat) (f : Nat → mi_C) {l1 : Nat} {l2 : Int32} {l3 : Int64} {l4 : Int32} {l5 : Int32} {l6 : Int32} {o7 : Option Value} {o8 : Option Value} {s9 : Int64} {s10 : Int64} (h11 : mi_W d 99 0 (mi_en 4 [.long s10, .long s9]) [] (n, sl, f) (mi_Kc d 86 95 [some (.ref l1), some (.int l2), some (.long l3), none, some (.int l4), some (.int l5), some (.int l6), o7, o8] [] Q)) : mi_W (d + 1) 86 95 [some (.ref l1), some (.int l2), some (.long l3), none, some (.int l4), some (.int l5), some (.int l6), o7, o8] [.long s9, .long s10] (n, sl, f) Q := by
  exact w_invokestatic cd_86_95 (show mt_m 7 169 = some (99, 4) by decide +kernel) (by decide) (rest := []) rfl (as := [.long s10, .long s9]) rfl ⟨Nat.le_of_ble_eq_true rfl, Nat.le_of_ble_eq_true rfl, Nat.le_of_ble_eq_true rfl⟩ h11
theorem b_86_98 {d : Nat} {Q : (Option Value ⊕ Nat) → mi_H → Prop} (n sl : Nat) (f : Nat → mi_C) {l1 : Nat} {l2 : Int32} {l3 : Int64} {l4 : Int32} {l5 : Int32} {l6 : Int32} {o7 : Option Value} {o8 : Option Value} {s9 : Int64} {fs10 : List Value} {x13 : Nat} {fs15 : List Value} (h11 : f l1 = .inr (7, fs10)) (h12 : l1 < n) (h14 : fs10[3]? = some (.ref x13)) (h16 : f x13 = .inr (9, fs15)) (h17 : x13 < n) (h18 : mi_W d 100 0 (mi_en 6 [.ref x13, .int l4, .int l6, .long (-s9)]) [] (n, sl, f) (mi_Kc d 86 111 [some (.ref l1), some (.int l2), some (.long l3), none, some (.int l4), some (.int l5), some (.int l6), some (.long s9), none] [] Q)) : mi_W (d + 1) 86 98 [some (.ref l1), some (.int l2), some (.long l3), none, some (.int l4), some (.int l5), some (.int l6), o7, o8] [.long s9] (n, sl, f) Q := by
  refine w_lstore (ls' := [some (.ref l1), some (.int l2), some (.long l3), none, some (.int l4), some (.int l5), some (.int l6), some (.long s9), none]) cd_86_98 (Nat.le_of_ble_eq_true rfl) rfl ?_
  refine w_aload_n cd_86_100 rfl ?_
  refine w_getfield cd_86_101 (show mt_f 7 29 = some (7, 3) by decide +kernel) h11 h12 h14 ?_
  refine w_iload cd_86_104 rfl ?_
  refine w_iload cd_86_106 rfl ?_
  refine w_lload cd_86_108 rfl ?_
  refine w_lneg cd_86_110 ?_
  exact w_invokevirtual cd_86_111 (show mt_m 7 172 = some (100, 0) by decide +kernel) (rest := []) rfl (as := [.ref x13, .int l4, .int l6, .long (-s9)]) rfl h16 (Or.inl h17) ⟨Nat.le_of_ble_eq_true rfl, Nat.le_of_ble_eq_true rfl, Nat.le_of_ble_eq_true rfl⟩ h18
theorem b_86_114 {d : Nat} {Q : (Option Value ⊕ Nat) → mi_H → Prop} (n sl : Nat) (f : Nat → mi_C) {l1 : Nat} {l2 : Int32} {l3 : Int64} {l4 : Int32} {l5 : Int32} {l6 : Int32} {l7 : Int64} {s8 : Int32} (h9 : (0 : Int32) ≤ (lg_cmp l7 l3) → mi_W d 86 131 [some (.ref l1), some (.int l2), some (.long l3), none, some (.int l4), some (.int l5), some (.int l6), some (.long l7), none] [] (n, sl, f) Q) (h10 : ¬ ((0 : Int32) ≤ (lg_cmp l7 l3)) → mi_W d 86 122 [some (.ref l1), some (.int l2), some (.long l3), none, some (.int l4), some (.int l5), some (.int l6), some (.long l7), none] [] (n, sl, f) Q) : mi_W d 86 114 [some (.ref l1), some (.int l2), some (.long l3), none, some (.int l4), some (.int l5), some (.int l6), some (.long l7), none] [.int s8] (n, sl, f) Q := by
  refine w_pop_i cd_86_114 ?_
  refine w_lload cd_86_115 rfl ?_
  refine w_lload_n cd_86_117 rfl ?_
  refine w_lcmp cd_86_118 ?_
  exact w_ifge cd_86_119 (by decide) h9 h10
theorem b_86_122 {d : Nat} {Q : (Option Value ⊕ Nat) → mi_H → Prop} (n sl : Nat) (f : Nat → mi_C) {l1 : Nat} {l2 : Int32} {l3 : Int64} {l4 : Int32} {l5 : Int32} {l6 : Int32} {l7 : Int64} {fs8 : List Value} {x11 : Nat} {fs13 : List Value} (h9 : f l1 = .inr (7, fs8)) (h10 : l1 < n) (h12 : fs8[7]? = some (.ref x11)) (h14 : f x11 = .inr (8, fs13)) (h15 : x11 < n) (h16 : mi_W d 98 0 (mi_en 3 [.ref x11, .int 3, .int l2]) [] (n, sl, f) (mi_Kc d 86 128 [some (.ref l1), some (.int l2), some (.long l3), none, some (.int l4), some (.int l5), some (.int l6), some (.long l7), none] [] Q)) : mi_W (d + 1) 86 122 [some (.ref l1), some (.int l2), some (.long l3), none, some (.int l4), some (.int l5), some (.int l6), some (.long l7), none] [] (n, sl, f) Q := by
  refine w_aload_n cd_86_122 rfl ?_
  refine w_getfield cd_86_123 (show mt_f 7 12 = some (7, 7) by decide +kernel) h9 h10 h12 ?_
  refine w_iconst (v := 3) cd_86_126 (by decide) ?_
  refine w_iload_n cd_86_127 rfl ?_
  exact w_invokevirtual cd_86_128 (show mt_m 7 139 = some (98, 0) by decide +kernel) (rest := []) rfl (as := [.ref x11, .int 3, .int l2]) rfl h14 (Or.inl h15) ⟨Nat.le_of_ble_eq_true rfl, Nat.le_of_ble_eq_true rfl, Nat.le_of_ble_eq_true rfl⟩ h16
theorem b_86_131 {d : Nat} {Q : (Option Value ⊕ Nat) → mi_H → Prop} (n sl : Nat) (f : Nat → mi_C) {l1 : Nat} {l2 : Int32} {l3 : Int64} {l4 : Int32} {l5 : Int32} {l6 : Int32} {l7 : Int64} {fs8 : List Value} {x11 : Nat} {fs13 : List Value} {x16 : Nat} (m18 i18 : Nat) (g18 : Nat → Int32) (h9 : f l1 = .inr (7, fs8)) (h10 : l1 < n) (h12 : fs8[0]? = some (.ref x11)) (h14 : f x11 = .inr (2, fs13)) (h15 : x11 < n) (h17 : fs13[8]? = some (.ref x16)) (h19 : f x16 = .inl (2, m18, .inl g18)) (h20 : x16 < n) (h21 : mi_ix l2 m18 i18) (h22 : ¬ (g18 i18) = (0 : Int32) → mi_W d 86 168 [some (.ref l1), some (.int l2), some (.long l3), none, some (.int l4), some (.int l5), some (.int l6), some (.long l7), none] [] (n, sl, f) Q) (h23 : ¬ (¬ (g18 i18) = (0 : Int32)) → mi_W d 86 143 [some (.ref l1), some (.int l2), some (.long l3), none, some (.int l4), some (.int l5), some (.int l6), some (.long l7), none] [] (n, sl, f) Q) : mi_W d 86 131 [some (.ref l1), some (.int l2), some (.long l3), none, some (.int l4), some (.int l5), some (.int l6), some (.long l7), none] [] (n, sl, f) Q := by
  refine w_aload_n cd_86_131 rfl ?_
  refine w_getfield cd_86_132 (show mt_f 7 18 = some (7, 0) by decide +kernel) h9 h10 h12 ?_
  refine w_getfield cd_86_135 (show mt_f 7 176 = some (2, 8) by decide +kernel) h14 h15 h17 ?_
  refine w_iload_n cd_86_138 rfl ?_
  refine w_baload2 cd_86_139 h19 h20 h21 ?_
  exact w_ifne cd_86_140 (by decide) h22 h23
theorem b_86_143 {d : Nat} {Q : (Option Value ⊕ Nat) → mi_H → Prop} (n sl : Nat) (f : Nat → mi_C) {l1 : Nat} {l2 : Int32} {l3 : Int64} {l4 : Int32} {l5 : Int32} {l6 : Int32} {l7 : Int64} (h8 : (lg_cmp l7 0) = (0 : Int32) → mi_W d 86 168 [some (.ref l1), some (.int l2), some (.long l3), none, some (.int l4), some (.int l5), some (.int l6), some (.long l7), none] [] (n, sl, f) Q) (h9 : ¬ ((lg_cmp l7 0) = (0 : Int32)) → mi_W d 86 150 [some (.ref l1), some (.int l2), some (.long l3), none, some (.int l4), some (.int l5), some (.int l6), some (.long l7), none] [] (n, sl, f) Q) : mi_W d 86 143 [some (.ref l1), some (.int l2), some (.long l3), none, some (.int l4), some (.int l5), some (.int l6), some (.long l7), none] [] (n, sl, f) Q := by
  refine w_lload cd_86_143 rfl ?_
  refine w_lconst (lv := 0) cd_86_145 (by decide) ?_
  refine w_lcmp cd_86_146 ?_
  exact w_ifeq cd_86_147 (by decide) h8 h9
theorem b_86_150 {d : Nat} {Q : (Option Value ⊕ Nat) → mi_H → Prop} (n sl : Nat) (f : Nat → mi_C) {l1 : Nat} {l2 : Int32} {l3 : Int64} {l4 : Int32} {l5 : Int32} {l6 : Int32} {l7 : Int64} {fs8 : List Value} {x11 : Nat} {fs13 : List Value} (h9 : f l1 = .inr (7, fs8)) (h10 : l1 < n) (h12 : fs8[7]? = some (.ref x11)) (h14 : f x11 = .inr (8, fs13)) (h15 : x11 < n) (h16 : mi_W d 85 0 (mi_en 6 [.ref x11, .int l4, .int l5, .int l6, .long l7]) [] (n, sl, f) (mi_Kc d 86 162 [some (.ref l1), some (.int l2), some (.long l3), none, some (.int l4), some (.int l5), some (.int l6), some (.long l7), none] [] Q)) : mi_W (d + 1) 86 150 [some (.ref l1), some (.int l2), some (.long l3), none, some (.int l4), some (.int l5), some (.int l6), some (.long l7), none] [] (n, sl, f) Q := by
  refine w_aload_n cd_86_150 rfl ?_
  refine w_getfield cd_86_151 (show mt_f 7 12 = some (7, 7) by decide +kernel) h9 h10 h12 ?_
  refine w_iload cd_86_154 rfl ?_
  refine w_iload cd_86_156 rfl ?_
  refine w_iload cd_86_158 rfl ?_
  refine w_lload cd_86_160 rfl ?_
  exact w_invokevirtual cd_86_162 (show mt_m 7 150 = some (85, 0) by decide +kernel) (rest := []) rfl (as := [.ref x11, .int l4, .int l5, .int l6, .long l7]) rfl h14 (Or.inl h15) ⟨Nat.le_of_ble_eq_true rfl, Nat.le_of_ble_eq_true rfl, Nat.le_of_ble_eq_true rfl⟩ h16
theorem b_86_165 {d : Nat} {Q : (Option Value ⊕ Nat) → mi_H → Prop} (n sl : Nat) (f : Nat → mi_C) {l1 : Nat} {l2 : Int32} {l3 : Int64} {l4 : Int32} {l5 : Int32} {l6 : Int32} {l7 : Int64} (h8 : mi_W d 86 202 [some (.ref l1), some (.int l2), some (.long l3), none, some (.int l4), some (.int l5), some (.int l6), some (.long l7), none] [] (n, sl, f) Q) : mi_W d 86 165 [some (.ref l1), some (.int l2), some (.long l3), none, some (.int l4), some (.int l5), some (.int l6), some (.long l7), none] [] (n, sl, f) Q := by
  exact w_goto cd_86_165 (by decide) h8
theorem b_86_168 {d : Nat} {Q : (Option Value ⊕ Nat) → mi_H → Prop} (n sl : Nat) (f : Nat → mi_C) {l1 : Nat} {l2 : Int32} {l3 : Int64} {l4 : Int32} {l5 : Int32} {l6 : Int32} {l7 : Int64} {fs8 : List Value} {x11 : Nat} {fs13 : List Value} {x16 : Nat} (m18 i18 : Nat) (g18 : Nat → Int32) (h9 : f l1 = .inr (7, fs8)) (h10 : l1 < n) (h12 : fs8[0]? = some (.ref x11)) (h14 : f x11 = .inr (2, fs13)) (h15 : x11 < n) (h17 : fs13[8]? = some (.ref x16)) (h19 : f x16 = .inl (2, m18, .inl g18)) (h20 : x16 < n) (h21 : mi_ix l2 m18 i18) (h22 : (g18 i18) = (0 : Int32) → mi_W d 86 202 [some (.ref l1), some (.int l2), some (.long l3), none, some (.int l4), some (.int l5), some (.int l6), some (.long l7), none] [] (n, sl, f) Q) (h23 : ¬ ((g18 i18) = (0 : Int32)) → mi_W d 86 180 [some (.ref l1), some (.int l2), some (.long l3), none, some (.int l4), some (.int l5), some (.int l6), some (.long l7), none] [] (n, sl, f) Q) : mi_W d 86 168 [some (.ref l1), some (.int l2), some (.long l3), none, some (.int l4), some (.int l5), some (.int l6), some (.long l7), none] [] (n, sl, f) Q := by
  refine w_aload_n cd_86_168 rfl ?_
  refine w_getfield cd_86_169 (show mt_f 7 18 = some (7, 0) by decide +kernel) h9 h10 h12 ?_
  refine w_getfield cd_86_172 (show mt_f 7 176 = some (2, 8) by decide +kernel) h14 h15 h17 ?_
  refine w_iload_n cd_86_175 rfl ?_
  refine w_baload2 cd_86_176 h19 h20 h21 ?_
  exact w_ifeq cd_86_177 (by decide) h22 h23
theorem b_86_180 {d : Nat} {Q : (Option Value ⊕ Nat) → mi_H → Prop} (n sl : Nat) (f : Nat → mi_C) {l1 : Nat} {l2 : Int32} {l3 : Int64} {l4 : Int32} {l5 : Int32} {l6 : Int32} {l7 : Int64} {fs8 : List Value} {x11 : Nat} {fs13 : List Value} (h9 : f l1 = .inr (7, fs8)) (h10 : l1 < n) (h12 : fs8[3]? = some (.ref x11)) (h14 : f x11 = .inr (9, fs13)) (h15 : x11 < n) (h16 : mi_W d 100 0 (mi_en 6 [.ref x11, .int l5, .int l6, .long l7]) [] (n, sl, f) (mi_Kc d 86 190 [some (.ref l1), some (.int l2), some (.long l3), none, some (.int l4), some (.int l5), some (.int l6), some (.long l7), none] [] Q)) : mi_W (d + 1) 86 180 [some (.ref l1), some (.int l2), some (.long l3), none, some (.int l4), some (.int l5), some (.int l6), some (.long l7), none] [] (n, sl, f) Q := by
  refine w_aload_n cd_86_180 rfl ?_
  refine w_getfield cd_86_181 (show mt_f 7 29 = some (7, 3) by decide +kernel) h9 h10 h12 ?_
  refine w_iload cd_86_184 rfl ?_
  refine w_iload cd_86_186 rfl ?_
  refine w_lload cd_86_188 rfl ?_
  exact w_invokevirtual cd_86_190 (show mt_m 7 172 = some (100, 0) by decide +kernel) (rest := []) rfl (as := [.ref x11, .int l5, .int l6, .long l7]) rfl h14 (Or.inl h15) ⟨Nat.le_of_ble_eq_true rfl, Nat.le_of_ble_eq_true rfl, Nat.le_of_ble_eq_true rfl⟩ h16
theorem b_86_193 {d : Nat} {Q : (Option Value ⊕ Nat) → mi_H → Prop} (n sl : Nat) (f : Nat → mi_C) {l1 : Nat} {l2 : Int32} {l3 : Int64} {l4 : Int32} {l5 : Int32} {l6 : Int32} {l7 : Int64} {s8 : Int32} (h9 : ¬ s8 = (0 : Int32) → mi_W d 86 202 [some (.ref l1), some (.int l2), some (.long l3), none, some (.int l4), some (.int l5), some (.int l6), some (.long l7), none] [] (n, sl, f) Q) (h10 : ¬ (¬ s8 = (0 : Int32)) → mi_W d 86 196 [some (.ref l1), some (.int l2), some (.long l3), none, some (.int l4), some (.int l5), some (.int l6), some (.long l7), none] [] (n, sl, f) Q) : mi_W d 86 193 [some (.ref l1), some (.int l2), some (.long l3), none, some (.int l4), some (.int l5), some (.int l6), some (.long l7), none] [.int s8] (n, sl, f) Q := by
  exact w_ifne cd_86_193 (by decide) h9 h10
theorem b_86_196 {d : Nat} {Q : (Option Value ⊕ Nat) → mi_H → Prop} (n sl : Nat) (f : Nat → mi_C) {l1 : Nat} {l2 : Int32} {l3 : Int64} {l4 : Int32} {l5 : Int32} {l6 : Int32} {l7 : Int64} {fs8 : List Value} (h9 : f l1 = .inr (7, fs8)) (h10 : l1 < n) (h11 : 6 < fs8.length) (h12 : mi_W d 86 202 [some (.ref l1), some (.int l2), some (.long l3), none, some (.int l4), some (.int l5), some (.int l6), some (.long l7), none] [] (n, sl, (va_up f l1 (.inr (7, fs8.set 6 (.int 6))))) Q) : mi_W d 86 196 [some (.ref l1), some (.int l2), some (.long l3), none, some (.int l4), some (.int l5), some (.int l6), some (.long l7), none] [] (n, sl, f) Q := by
  refine w_aload_n cd_86_196 rfl ?_
  refine w_bipush (v := 6) cd_86_197 (by decide) ?_
  refine w_putfield (w := .int 6) cd_86_199 (show mt_f 7 49 = some (7, 6) by decide +kernel) h9 h10 ⟨h11, rfl, Or.inl (by decide)⟩ ?_
  exact h12
theorem b_86_202 {d : Nat} {Q : (Option Value ⊕ Nat) → mi_H → Prop} (n sl : Nat) (f : Nat → mi_C) {l1 : Nat} {l2 : Int32} {l3 : Int64} {l4 : Int32} {l5 : Int32} {l6 : Int32} {l7 : Int64} (h8 : Q (.inl none) (n, sl, f)) : mi_W d 86 202 [some (.ref l1), some (.int l2), some (.long l3), none, some (.int l4), some (.int l5), some (.int l6), some (.long l7), none] [] (n, sl, f) Q := by
  exact w_return cd_86_202 (by decide +kernel) h8
/-! MarloweHost$Reckoner.value(II)J -/
set_option maxRecDepth 100000 in
theorem mq_87 : mt_q 87 = my_87 := rfl
set_option maxRecDepth 100000 in
theorem ci_87 : mt_inc 0 my_87.cd = true := by decide +kernel
theorem cd_87_0 : mt_cd 87 0 = some (.aload_n 0) := mt_cd_of (q := (0, .aload_n 0, 1)) mq_87 ci_87 (List.mem_append_left _ (show _ ∈ my_87_0 from List.mem_of_getElem? (i := 0) rfl))
theorem cd_87_1 : mt_cd 87 1 = some (.getfield 26) := mt_cd_of (q := (1, .getfield 26, 3)) mq_87 ci_87 (List.mem_append_left _ (show _ ∈ my_87_0 from List.mem_of_getElem? (i := 1) rfl))
theorem cd_87_4 : mt_cd 87 4 = some (.ifCond .ne 20) := mt_cd_of (q := (4, .ifCond .ne 20, 3)) mq_87 ci_87 (List.mem_append_left _ (show _ ∈ my_87_0 from List.mem_of_getElem? (i := 2) rfl))
theorem cd_87_7 : mt_cd 87 7 = some (.iload_n 2) := mt_cd_of (q := (7, .iload_n 2, 1)) mq_87 ci_87 (List.mem_append_left _ (show _ ∈ my_87_0 from List.mem_of_getElem? (i := 3) rfl))
theorem cd_87_8 : mt_cd 87 8 = some (.bipush 100) := mt_cd_of (q := (8, .bipush 100, 2)) mq_87 ci_87 (List.mem_append_left _ (show _ ∈ my_87_0 from List.mem_of_getElem? (i := 4) rfl))
theorem cd_87_10 : mt_cd 87 10 = some (.if_icmp .gt 14) := mt_cd_of (q := (10, .if_icmp .gt 14, 3)) mq_87 ci_87 (List.mem_append_left _ (show _ ∈ my_87_0 from List.mem_of_getElem? (i := 5) rfl))
theorem cd_87_13 : mt_cd 87 13 = some (.aload_n 0) := mt_cd_of (q := (13, .aload_n 0, 1)) mq_87 ci_87 (List.mem_append_left _ (show _ ∈ my_87_0 from List.mem_of_getElem? (i := 6) rfl))
theorem cd_87_14 : mt_cd 87 14 = some (.getfield 9) := mt_cd_of (q := (14, .getfield 9, 3)) mq_87 ci_87 (List.mem_append_left _ (show _ ∈ my_87_0 from List.mem_of_getElem? (i := 7) rfl))
theorem cd_87_17 : mt_cd 87 17 = some (.iload_n 1) := mt_cd_of (q := (17, .iload_n 1, 1)) mq_87 ci_87 (List.mem_append_left _ (show _ ∈ my_87_0 from List.mem_of_getElem? (i := 8) rfl))
theorem cd_87_18 : mt_cd 87 18 = some (.invokevirtual 30) := mt_cd_of (q := (18, .invokevirtual 30, 3)) mq_87 ci_87 (List.mem_append_left _ (show _ ∈ my_87_0 from List.mem_of_getElem? (i := 9) rfl))
theorem cd_87_21 : mt_cd 87 21 = some (.ifCond .ne 5) := mt_cd_of (q := (21, .ifCond .ne 5, 3)) mq_87 ci_87 (List.mem_append_left _ (show _ ∈ my_87_0 from List.mem_of_getElem? (i := 10) rfl))
theorem cd_87_24 : mt_cd 87 24 = some (.lconst 0) := mt_cd_of (q := (24, .lconst 0, 1)) mq_87 ci_87 (List.mem_append_left _ (show _ ∈ my_87_0 from List.mem_of_getElem? (i := 11) rfl))
theorem cd_87_25 : mt_cd 87 25 = some (.lreturn) := mt_cd_of (q := (25, .lreturn, 1)) mq_87 ci_87 (List.mem_append_left _ (show _ ∈ my_87_0 from List.mem_of_getElem? (i := 12) rfl))
theorem cd_87_26 : mt_cd 87 26 = some (.aload_n 0) := mt_cd_of (q := (26, .aload_n 0, 1)) mq_87 ci_87 (List.mem_append_left _ (show _ ∈ my_87_0 from List.mem_of_getElem? (i := 13) rfl))
theorem cd_87_27 : mt_cd 87 27 = some (.getfield 9) := mt_cd_of (q := (27, .getfield 9, 3)) mq_87 ci_87 (List.mem_append_left _ (show _ ∈ my_87_0 from List.mem_of_getElem? (i := 14) rfl))
theorem cd_87_30 : mt_cd 87 30 = some (.getfield 36) := mt_cd_of (q := (30, .getfield 36, 3)) mq_87 ci_87 (List.mem_append_left _ (show _ ∈ my_87_0 from List.mem_of_getElem? (i := 15) rfl))
theorem cd_87_33 : mt_cd 87 33 = some (.iload_n 1) := mt_cd_of (q := (33, .iload_n 1, 1)) mq_87 ci_87 (List.mem_append_left _ (show _ ∈ my_87_0 from List.mem_of_getElem? (i := 16) rfl))
theorem cd_87_34 : mt_cd 87 34 = some (.iaload) := mt_cd_of (q := (34, .iaload, 1)) mq_87 ci_87 (List.mem_append_left _ (show _ ∈ my_87_0 from List.mem_of_getElem? (i := 17) rfl))
theorem cd_87_35 : mt_cd 87 35 = some (.istore_n 3) := mt_cd_of (q := (35, .istore_n 3, 1)) mq_87 ci_87 (List.mem_append_left _ (show _ ∈ my_87_0 from List.mem_of_getElem? (i := 18) rfl))
theorem cd_87_36 : mt_cd 87 36 = some (.aload_n 0) := mt_cd_of (q := (36, .aload_n 0, 1)) mq_87 ci_87 (List.mem_append_left _ (show _ ∈ my_87_0 from List.mem_of_getElem? (i := 19) rfl))
theorem cd_87_37 : mt_cd 87 37 = some (.getfield 9) := mt_cd_of (q := (37, .getfield 9, 3)) mq_87 ci_87 (List.mem_append_left _ (show _ ∈ my_87_0 from List.mem_of_getElem? (i := 20) rfl))
theorem cd_87_40 : mt_cd 87 40 = some (.getfield 40) := mt_cd_of (q := (40, .getfield 40, 3)) mq_87 ci_87 (List.mem_append_left _ (show _ ∈ my_87_0 from List.mem_of_getElem? (i := 21) rfl))
theorem cd_87_43 : mt_cd 87 43 = some (.iload_n 1) := mt_cd_of (q := (43, .iload_n 1, 1)) mq_87 ci_87 (List.mem_append_left _ (show _ ∈ my_87_0 from List.mem_of_getElem? (i := 22) rfl))
theorem cd_87_44 : mt_cd 87 44 = some (.iaload) := mt_cd_of (q := (44, .iaload, 1)) mq_87 ci_87 (List.mem_append_left _ (show _ ∈ my_87_0 from List.mem_of_getElem? (i := 23) rfl))
theorem cd_87_45 : mt_cd 87 45 = some (.istore 4) := mt_cd_of (q := (45, .istore 4, 2)) mq_87 ci_87 (List.mem_append_left _ (show _ ∈ my_87_0 from List.mem_of_getElem? (i := 24) rfl))
theorem cd_87_47 : mt_cd 87 47 = some (.aload_n 0) := mt_cd_of (q := (47, .aload_n 0, 1)) mq_87 ci_87 (List.mem_append_left _ (show _ ∈ my_87_0 from List.mem_of_getElem? (i := 25) rfl))
theorem cd_87_48 : mt_cd 87 48 = some (.getfield 9) := mt_cd_of (q := (48, .getfield 9, 3)) mq_87 ci_87 (List.mem_append_left _ (show _ ∈ my_87_0 from List.mem_of_getElem? (i := 26) rfl))
theorem cd_87_51 : mt_cd 87 51 = some (.getfield 43) := mt_cd_of (q := (51, .getfield 43, 3)) mq_87 ci_87 (List.mem_append_left _ (show _ ∈ my_87_0 from List.mem_of_getElem? (i := 27) rfl))
theorem cd_87_54 : mt_cd 87 54 = some (.iload_n 1) := mt_cd_of (q := (54, .iload_n 1, 1)) mq_87 ci_87 (List.mem_append_left _ (show _ ∈ my_87_0 from List.mem_of_getElem? (i := 28) rfl))
theorem cd_87_55 : mt_cd 87 55 = some (.iaload) := mt_cd_of (q := (55, .iaload, 1)) mq_87 ci_87 (List.mem_append_left _ (show _ ∈ my_87_0 from List.mem_of_getElem? (i := 29) rfl))
theorem cd_87_56 : mt_cd 87 56 = some (.tableswitch 323 11 37 #[134, 212, 160, 177, 194, 203, 222, 323, 323, 323, 323, 323, 323, 323, 323, 323, 323, 255, 278, 301, 323, 323, 323, 323, 323, 323, 124]) := mt_cd_of (q := (56, .tableswitch 323 11 37 #[134, 212, 160, 177, 194, 203, 222, 323, 323, 323, 323, 323, 323, 323, 323, 323, 323, 255, 278, 301, 323, 323, 323, 323, 323, 323, 124], 124)) mq_87 ci_87 (List.mem_append_left _ (show _ ∈ my_87_0 from List.mem_of_getElem? (i := 30) rfl))
theorem cd_87_180 : mt_cd 87 180 = some (.aload_n 0) := mt_cd_of (q := (180, .aload_n 0, 1)) mq_87 ci_87 (List.mem_append_left _ (show _ ∈ my_87_0 from List.mem_of_getElem? (i := 31) rfl))
theorem cd_87_181 : mt_cd 87 181 = some (.getfield 9) := mt_cd_of (q := (181, .getfield 9, 3)) mq_87 ci_87 (List.mem_append_left _ (show _ ∈ my_87_0 from List.mem_of_getElem? (i := 32) rfl))
theorem cd_87_184 : mt_cd 87 184 = some (.getfield 46) := mt_cd_of (q := (184, .getfield 46, 3)) mq_87 ci_87 (List.mem_append_left _ (show _ ∈ my_87_0 from List.mem_of_getElem? (i := 33) rfl))
theorem cd_87_187 : mt_cd 87 187 = some (.iload_n 1) := mt_cd_of (q := (187, .iload_n 1, 1)) mq_87 ci_87 (List.mem_append_left _ (show _ ∈ my_87_0 from List.mem_of_getElem? (i := 34) rfl))
theorem cd_87_188 : mt_cd 87 188 = some (.laload) := mt_cd_of (q := (188, .laload, 1)) mq_87 ci_87 (List.mem_append_left _ (show _ ∈ my_87_0 from List.mem_of_getElem? (i := 35) rfl))
theorem cd_87_189 : mt_cd 87 189 = some (.lreturn) := mt_cd_of (q := (189, .lreturn, 1)) mq_87 ci_87 (List.mem_append_left _ (show _ ∈ my_87_0 from List.mem_of_getElem? (i := 36) rfl))
theorem cd_87_190 : mt_cd 87 190 = some (.aload_n 0) := mt_cd_of (q := (190, .aload_n 0, 1)) mq_87 ci_87 (List.mem_append_left _ (show _ ∈ my_87_0 from List.mem_of_getElem? (i := 37) rfl))
theorem cd_87_191 : mt_cd 87 191 = some (.getfield 15) := mt_cd_of (q := (191, .getfield 15, 3)) mq_87 ci_87 (List.mem_append_left _ (show _ ∈ my_87_0 from List.mem_of_getElem? (i := 38) rfl))
theorem cd_87_194 : mt_cd 87 194 = some (.aload_n 0) := mt_cd_of (q := (194, .aload_n 0, 1)) mq_87 ci_87 (List.mem_append_left _ (show _ ∈ my_87_0 from List.mem_of_getElem? (i := 39) rfl))
theorem cd_87_195 : mt_cd 87 195 = some (.getfield 9) := mt_cd_of (q := (195, .getfield 9, 3)) mq_87 ci_87 (List.mem_append_left _ (show _ ∈ my_87_0 from List.mem_of_getElem? (i := 40) rfl))
theorem cd_87_198 : mt_cd 87 198 = some (.getfield 50) := mt_cd_of (q := (198, .getfield 50, 3)) mq_87 ci_87 (List.mem_append_left _ (show _ ∈ my_87_0 from List.mem_of_getElem? (i := 41) rfl))
theorem cd_87_201 : mt_cd 87 201 = some (.iload_n 1) := mt_cd_of (q := (201, .iload_n 1, 1)) mq_87 ci_87 (List.mem_append_left _ (show _ ∈ my_87_0 from List.mem_of_getElem? (i := 42) rfl))
theorem cd_87_202 : mt_cd 87 202 = some (.iaload) := mt_cd_of (q := (202, .iaload, 1)) mq_87 ci_87 (List.mem_append_left _ (show _ ∈ my_87_0 from List.mem_of_getElem? (i := 43) rfl))
theorem cd_87_203 : mt_cd 87 203 = some (.aload_n 0) := mt_cd_of (q := (203, .aload_n 0, 1)) mq_87 ci_87 (List.mem_append_left _ (show _ ∈ my_87_0 from List.mem_of_getElem? (i := 44) rfl))
theorem cd_87_204 : mt_cd 87 204 = some (.getfield 9) := mt_cd_of (q := (204, .getfield 9, 3)) mq_87 ci_87 (List.mem_append_left _ (show _ ∈ my_87_0 from List.mem_of_getElem? (i := 45) rfl))
theorem cd_87_207 : mt_cd 87 207 = some (.getfield 53) := mt_cd_of (q := (207, .getfield 53, 3)) mq_87 ci_87 (List.mem_append_left _ (show _ ∈ my_87_0 from List.mem_of_getElem? (i := 46) rfl))
theorem cd_87_210 : mt_cd 87 210 = some (.iload_n 1) := mt_cd_of (q := (210, .iload_n 1, 1)) mq_87 ci_87 (List.mem_append_left _ (show _ ∈ my_87_0 from List.mem_of_getElem? (i := 47) rfl))
theorem cd_87_211 : mt_cd 87 211 = some (.iaload) := mt_cd_of (q := (211, .iaload, 1)) mq_87 ci_87 (List.mem_append_left _ (show _ ∈ my_87_0 from List.mem_of_getElem? (i := 48) rfl))
theorem cd_87_212 : mt_cd 87 212 = some (.invokevirtual 56) := mt_cd_of (q := (212, .invokevirtual 56, 3)) mq_87 ci_87 (List.mem_append_left _ (show _ ∈ my_87_0 from List.mem_of_getElem? (i := 49) rfl))
theorem cd_87_215 : mt_cd 87 215 = some (.lreturn) := mt_cd_of (q := (215, .lreturn, 1)) mq_87 ci_87 (List.mem_append_left _ (show _ ∈ my_87_0 from List.mem_of_getElem? (i := 50) rfl))
theorem cd_87_216 : mt_cd 87 216 = some (.aload_n 0) := mt_cd_of (q := (216, .aload_n 0, 1)) mq_87 ci_87 (List.mem_append_left _ (show _ ∈ my_87_0 from List.mem_of_getElem? (i := 51) rfl))
theorem cd_87_217 : mt_cd 87 217 = some (.getfield 15) := mt_cd_of (q := (217, .getfield 15, 3)) mq_87 ci_87 (List.mem_append_left _ (show _ ∈ my_87_0 from List.mem_of_getElem? (i := 52) rfl))
theorem cd_87_220 : mt_cd 87 220 = some (.aload_n 0) := mt_cd_of (q := (220, .aload_n 0, 1)) mq_87 ci_87 (List.mem_append_left _ (show _ ∈ my_87_0 from List.mem_of_getElem? (i := 53) rfl))
theorem cd_87_221 : mt_cd 87 221 = some (.getfield 9) := mt_cd_of (q := (221, .getfield 9, 3)) mq_87 ci_87 (List.mem_append_left _ (show _ ∈ my_87_0 from List.mem_of_getElem? (i := 54) rfl))
theorem cd_87_224 : mt_cd 87 224 = some (.getfield 50) := mt_cd_of (q := (224, .getfield 50, 3)) mq_87 ci_87 (List.mem_append_left _ (show _ ∈ my_87_0 from List.mem_of_getElem? (i := 55) rfl))
theorem cd_87_227 : mt_cd 87 227 = some (.iload_n 1) := mt_cd_of (q := (227, .iload_n 1, 1)) mq_87 ci_87 (List.mem_append_left _ (show _ ∈ my_87_0 from List.mem_of_getElem? (i := 56) rfl))
theorem cd_87_228 : mt_cd 87 228 = some (.iaload) := mt_cd_of (q := (228, .iaload, 1)) mq_87 ci_87 (List.mem_append_left _ (show _ ∈ my_87_0 from List.mem_of_getElem? (i := 57) rfl))
theorem cd_87_229 : mt_cd 87 229 = some (.invokevirtual 62) := mt_cd_of (q := (229, .invokevirtual 62, 3)) mq_87 ci_87 (List.mem_append_left _ (show _ ∈ my_87_0 from List.mem_of_getElem? (i := 58) rfl))
theorem cd_87_232 : mt_cd 87 232 = some (.lreturn) := mt_cd_of (q := (232, .lreturn, 1)) mq_87 ci_87 (List.mem_append_left _ (show _ ∈ my_87_0 from List.mem_of_getElem? (i := 59) rfl))
theorem cd_87_233 : mt_cd 87 233 = some (.aload_n 0) := mt_cd_of (q := (233, .aload_n 0, 1)) mq_87 ci_87 (List.mem_append_right _ (List.mem_append_left _ (show _ ∈ my_87_1 from List.mem_of_getElem? (i := 0) rfl)))
theorem cd_87_234 : mt_cd 87 234 = some (.getfield 15) := mt_cd_of (q := (234, .getfield 15, 3)) mq_87 ci_87 (List.mem_append_right _ (List.mem_append_left _ (show _ ∈ my_87_1 from List.mem_of_getElem? (i := 1) rfl)))
theorem cd_87_237 : mt_cd 87 237 = some (.aload_n 0) := mt_cd_of (q := (237, .aload_n 0, 1)) mq_87 ci_87 (List.mem_append_right _ (List.mem_append_left _ (show _ ∈ my_87_1 from List.mem_of_getElem? (i := 2) rfl)))
theorem cd_87_238 : mt_cd 87 238 = some (.getfield 9) := mt_cd_of (q := (238, .getfield 9, 3)) mq_87 ci_87 (List.mem_append_right _ (List.mem_append_left _ (show _ ∈ my_87_1 from List.mem_of_getElem? (i := 3) rfl)))
theorem cd_87_241 : mt_cd 87 241 = some (.getfield 50) := mt_cd_of (q := (241, .getfield 50, 3)) mq_87 ci_87 (List.mem_append_right _ (List.mem_append_left _ (show _ ∈ my_87_1 from List.mem_of_getElem? (i := 4) rfl)))
theorem cd_87_244 : mt_cd 87 244 = some (.iload_n 1) := mt_cd_of (q := (244, .iload_n 1, 1)) mq_87 ci_87 (List.mem_append_right _ (List.mem_append_left _ (show _ ∈ my_87_1 from List.mem_of_getElem? (i := 5) rfl)))
theorem cd_87_245 : mt_cd 87 245 = some (.iaload) := mt_cd_of (q := (245, .iaload, 1)) mq_87 ci_87 (List.mem_append_right _ (List.mem_append_left _ (show _ ∈ my_87_1 from List.mem_of_getElem? (i := 6) rfl)))
theorem cd_87_246 : mt_cd 87 246 = some (.invokevirtual 66) := mt_cd_of (q := (246, .invokevirtual 66, 3)) mq_87 ci_87 (List.mem_append_right _ (List.mem_append_left _ (show _ ∈ my_87_1 from List.mem_of_getElem? (i := 7) rfl)))
theorem cd_87_249 : mt_cd 87 249 = some (.lreturn) := mt_cd_of (q := (249, .lreturn, 1)) mq_87 ci_87 (List.mem_append_right _ (List.mem_append_left _ (show _ ∈ my_87_1 from List.mem_of_getElem? (i := 8) rfl)))
theorem cd_87_250 : mt_cd 87 250 = some (.aload_n 0) := mt_cd_of (q := (250, .aload_n 0, 1)) mq_87 ci_87 (List.mem_append_right _ (List.mem_append_left _ (show _ ∈ my_87_1 from List.mem_of_getElem? (i := 9) rfl)))
theorem cd_87_251 : mt_cd 87 251 = some (.aload_n 0) := mt_cd_of (q := (251, .aload_n 0, 1)) mq_87 ci_87 (List.mem_append_right _ (List.mem_append_left _ (show _ ∈ my_87_1 from List.mem_of_getElem? (i := 10) rfl)))
theorem cd_87_252 : mt_cd 87 252 = some (.getfield 19) := mt_cd_of (q := (252, .getfield 19, 3)) mq_87 ci_87 (List.mem_append_right _ (List.mem_append_left _ (show _ ∈ my_87_1 from List.mem_of_getElem? (i := 11) rfl)))
theorem cd_87_255 : mt_cd 87 255 = some (.invokevirtual 69) := mt_cd_of (q := (255, .invokevirtual 69, 3)) mq_87 ci_87 (List.mem_append_right _ (List.mem_append_left _ (show _ ∈ my_87_1 from List.mem_of_getElem? (i := 12) rfl)))
theorem cd_87_258 : mt_cd 87 258 = some (.lreturn) := mt_cd_of (q := (258, .lreturn, 1)) mq_87 ci_87 (List.mem_append_right _ (List.mem_append_left _ (show _ ∈ my_87_1 from List.mem_of_getElem? (i := 13) rfl)))
theorem cd_87_259 : mt_cd 87 259 = some (.aload_n 0) := mt_cd_of (q := (259, .aload_n 0, 1)) mq_87 ci_87 (List.mem_append_right _ (List.mem_append_left _ (show _ ∈ my_87_1 from List.mem_of_getElem? (i := 14) rfl)))
theorem cd_87_260 : mt_cd 87 260 = some (.aload_n 0) := mt_cd_of (q := (260, .aload_n 0, 1)) mq_87 ci_87 (List.mem_append_right _ (List.mem_append_left _ (show _ ∈ my_87_1 from List.mem_of_getElem? (i := 15) rfl)))
theorem cd_87_261 : mt_cd 87 261 = some (.getfield 23) := mt_cd_of (q := (261, .getfield 23, 3)) mq_87 ci_87 (List.mem_append_right _ (List.mem_append_left _ (show _ ∈ my_87_1 from List.mem_of_getElem? (i := 16) rfl)))
theorem cd_87_264 : mt_cd 87 264 = some (.invokevirtual 69) := mt_cd_of (q := (264, .invokevirtual 69, 3)) mq_87 ci_87 (List.mem_append_right _ (List.mem_append_left _ (show _ ∈ my_87_1 from List.mem_of_getElem? (i := 17) rfl)))
theorem cd_87_267 : mt_cd 87 267 = some (.lreturn) := mt_cd_of (q := (267, .lreturn, 1)) mq_87 ci_87 (List.mem_append_right _ (List.mem_append_left _ (show _ ∈ my_87_1 from List.mem_of_getElem? (i := 18) rfl)))
theorem cd_87_268 : mt_cd 87 268 = some (.aload_n 0) := mt_cd_of (q := (268, .aload_n 0, 1)) mq_87 ci_87 (List.mem_append_right _ (List.mem_append_left _ (show _ ∈ my_87_1 from List.mem_of_getElem? (i := 19) rfl)))
theorem cd_87_269 : mt_cd 87 269 = some (.iload_n 3) := mt_cd_of (q := (269, .iload_n 3, 1)) mq_87 ci_87 (List.mem_append_right _ (List.mem_append_left _ (show _ ∈ my_87_1 from List.mem_of_getElem? (i := 20) rfl)))
theorem cd_87_270 : mt_cd 87 270 = some (.iload_n 2) := mt_cd_of (q := (270, .iload_n 2, 1)) mq_87 ci_87 (List.mem_append_right _ (List.mem_append_left _ (show _ ∈ my_87_1 from List.mem_of_getElem? (i := 21) rfl)))
theorem cd_87_271 : mt_cd 87 271 = some (.iconst 1) := mt_cd_of (q := (271, .iconst 1, 1)) mq_87 ci_87 (List.mem_append_right _ (List.mem_append_left _ (show _ ∈ my_87_1 from List.mem_of_getElem? (i := 22) rfl)))
theorem cd_87_272 : mt_cd 87 272 = some (.iadd) := mt_cd_of (q := (272, .iadd, 1)) mq_87 ci_87 (List.mem_append_right _ (List.mem_append_left _ (show _ ∈ my_87_1 from List.mem_of_getElem? (i := 23) rfl)))
theorem cd_87_273 : mt_cd 87 273 = some (.invokevirtual 73) := mt_cd_of (q := (273, .invokevirtual 73, 3)) mq_87 ci_87 (List.mem_append_right _ (List.mem_append_left _ (show _ ∈ my_87_1 from List.mem_of_getElem? (i := 24) rfl)))
theorem cd_87_276 : mt_cd 87 276 = some (.lneg) := mt_cd_of (q := (276, .lneg, 1)) mq_87 ci_87 (List.mem_append_right _ (List.mem_append_left _ (show _ ∈ my_87_1 from List.mem_of_getElem? (i := 25) rfl)))
theorem cd_87_277 : mt_cd 87 277 = some (.lreturn) := mt_cd_of (q := (277, .lreturn, 1)) mq_87 ci_87 (List.mem_append_right _ (List.mem_append_left _ (show _ ∈ my_87_1 from List.mem_of_getElem? (i := 26) rfl)))
theorem cd_87_278 : mt_cd 87 278 = some (.aload_n 0) := mt_cd_of (q := (278, .aload_n 0, 1)) mq_87 ci_87 (List.mem_append_right _ (List.mem_append_left _ (show _ ∈ my_87_1 from List.mem_of_getElem? (i := 27) rfl)))
theorem cd_87_279 : mt_cd 87 279 = some (.aload_n 0) := mt_cd_of (q := (279, .aload_n 0, 1)) mq_87 ci_87 (List.mem_append_right _ (List.mem_append_left _ (show _ ∈ my_87_1 from List.mem_of_getElem? (i := 28) rfl)))
theorem cd_87_280 : mt_cd 87 280 = some (.iload_n 3) := mt_cd_of (q := (280, .iload_n 3, 1)) mq_87 ci_87 (List.mem_append_right _ (List.mem_append_left _ (show _ ∈ my_87_1 from List.mem_of_getElem? (i := 29) rfl)))
theorem cd_87_281 : mt_cd 87 281 = some (.iload_n 2) := mt_cd_of (q := (281, .iload_n 2, 1)) mq_87 ci_87 (List.mem_append_right _ (List.mem_append_left _ (show _ ∈ my_87_1 from List.mem_of_getElem? (i := 30) rfl)))
theorem cd_87_282 : mt_cd 87 282 = some (.iconst 1) := mt_cd_of (q := (282, .iconst 1, 1)) mq_87 ci_87 (List.mem_append_right _ (List.mem_append_left _ (show _ ∈ my_87_1 from List.mem_of_getElem? (i := 31) rfl)))
theorem cd_87_283 : mt_cd 87 283 = some (.iadd) := mt_cd_of (q := (283, .iadd, 1)) mq_87 ci_87 (List.mem_append_right _ (List.mem_append_left _ (show _ ∈ my_87_1 from List.mem_of_getElem? (i := 32) rfl)))
theorem cd_87_284 : mt_cd 87 284 = some (.invokevirtual 76) := mt_cd_of (q := (284, .invokevirtual 76, 3)) mq_87 ci_87 (List.mem_append_right _ (List.mem_append_left _ (show _ ∈ my_87_1 from List.mem_of_getElem? (i := 33) rfl)))
theorem cd_87_287 : mt_cd 87 287 = some (.ifCond .eq 15) := mt_cd_of (q := (287, .ifCond .eq 15, 3)) mq_87 ci_87 (List.mem_append_right _ (List.mem_append_left _ (show _ ∈ my_87_1 from List.mem_of_getElem? (i := 34) rfl)))
theorem cd_87_290 : mt_cd 87 290 = some (.aload_n 0) := mt_cd_of (q := (290, .aload_n 0, 1)) mq_87 ci_87 (List.mem_append_right _ (List.mem_append_left _ (show _ ∈ my_87_1 from List.mem_of_getElem? (i := 35) rfl)))
theorem cd_87_291 : mt_cd 87 291 = some (.getfield 9) := mt_cd_of (q := (291, .getfield 9, 3)) mq_87 ci_87 (List.mem_append_right _ (List.mem_append_left _ (show _ ∈ my_87_1 from List.mem_of_getElem? (i := 36) rfl)))
theorem cd_87_294 : mt_cd 87 294 = some (.getfield 80) := mt_cd_of (q := (294, .getfield 80, 3)) mq_87 ci_87 (List.mem_append_right _ (List.mem_append_left _ (show _ ∈ my_87_1 from List.mem_of_getElem? (i := 37) rfl)))
theorem cd_87_297 : mt_cd 87 297 = some (.iload_n 1) := mt_cd_of (q := (297, .iload_n 1, 1)) mq_87 ci_87 (List.mem_append_right _ (List.mem_append_left _ (show _ ∈ my_87_1 from List.mem_of_getElem? (i := 38) rfl)))
theorem cd_87_298 : mt_cd 87 298 = some (.iaload) := mt_cd_of (q := (298, .iaload, 1)) mq_87 ci_87 (List.mem_append_right _ (List.mem_append_left _ (show _ ∈ my_87_1 from List.mem_of_getElem? (i := 39) rfl)))
theorem cd_87_299 : mt_cd 87 299 = some (.goto 5) := mt_cd_of (q := (299, .goto 5, 3)) mq_87 ci_87 (List.mem_append_right _ (List.mem_append_left _ (show _ ∈ my_87_1 from List.mem_of_getElem? (i := 40) rfl)))
theorem cd_87_302 : mt_cd 87 302 = some (.iload 4) := mt_cd_of (q := (302, .iload 4, 2)) mq_87 ci_87 (List.mem_append_right _ (List.mem_append_left _ (show _ ∈ my_87_1 from List.mem_of_getElem? (i := 41) rfl)))
theorem cd_87_304 : mt_cd 87 304 = some (.iload_n 2) := mt_cd_of (q := (304, .iload_n 2, 1)) mq_87 ci_87 (List.mem_append_right _ (List.mem_append_left _ (show _ ∈ my_87_1 from List.mem_of_getElem? (i := 42) rfl)))
theorem cd_87_305 : mt_cd 87 305 = some (.iconst 1) := mt_cd_of (q := (305, .iconst 1, 1)) mq_87 ci_87 (List.mem_append_right _ (List.mem_append_left _ (show _ ∈ my_87_1 from List.mem_of_getElem? (i := 43) rfl)))
theorem cd_87_306 : mt_cd 87 306 = some (.iadd) := mt_cd_of (q := (306, .iadd, 1)) mq_87 ci_87 (List.mem_append_right _ (List.mem_append_left _ (show _ ∈ my_87_1 from List.mem_of_getElem? (i := 44) rfl)))
theorem cd_87_307 : mt_cd 87 307 = some (.invokevirtual 73) := mt_cd_of (q := (307, .invokevirtual 73, 3)) mq_87 ci_87 (List.mem_append_right _ (List.mem_append_left _ (show _ ∈ my_87_1 from List.mem_of_getElem? (i := 45) rfl)))
theorem cd_87_310 : mt_cd 87 310 = some (.lreturn) := mt_cd_of (q := (310, .lreturn, 1)) mq_87 ci_87 (List.mem_append_right _ (List.mem_append_left _ (show _ ∈ my_87_1 from List.mem_of_getElem? (i := 46) rfl)))
theorem cd_87_311 : mt_cd 87 311 = some (.aload_n 0) := mt_cd_of (q := (311, .aload_n 0, 1)) mq_87 ci_87 (List.mem_append_right _ (List.mem_append_left _ (show _ ∈ my_87_1 from List.mem_of_getElem? (i := 47) rfl)))
theorem cd_87_312 : mt_cd 87 312 = some (.aload_n 0) := mt_cd_of (q := (312, .aload_n 0, 1)) mq_87 ci_87 (List.mem_append_right _ (List.mem_append_left _ (show _ ∈ my_87_1 from List.mem_of_getElem? (i := 48) rfl)))
theorem cd_87_313 : mt_cd 87 313 = some (.iload_n 3) := mt_cd_of (q := (313, .iload_n 3, 1)) mq_87 ci_87 (List.mem_append_right _ (List.mem_append_left _ (show _ ∈ my_87_1 from List.mem_of_getElem? (i := 49) rfl)))
theorem cd_87_314 : mt_cd 87 314 = some (.iload_n 2) := mt_cd_of (q := (314, .iload_n 2, 1)) mq_87 ci_87 (List.mem_append_right _ (List.mem_append_left _ (show _ ∈ my_87_1 from List.mem_of_getElem? (i := 50) rfl)))
theorem cd_87_315 : mt_cd 87 315 = some (.iconst 1) := mt_cd_of (q := (315, .iconst 1, 1)) mq_87 ci_87 (List.mem_append_right _ (List.mem_append_left _ (show _ ∈ my_87_1 from List.mem_of_getElem? (i := 51) rfl)))
theorem cd_87_316 : mt_cd 87 316 = some (.iadd) := mt_cd_of (q := (316, .iadd, 1)) mq_87 ci_87 (List.mem_append_right _ (List.mem_append_left _ (show _ ∈ my_87_1 from List.mem_of_getElem? (i := 52) rfl)))
theorem cd_87_317 : mt_cd 87 317 = some (.invokevirtual 73) := mt_cd_of (q := (317, .invokevirtual 73, 3)) mq_87 ci_87 (List.mem_append_right _ (List.mem_append_left _ (show _ ∈ my_87_1 from List.mem_of_getElem? (i := 53) rfl)))
theorem cd_87_320 : mt_cd 87 320 = some (.aload_n 0) := mt_cd_of (q := (320, .aload_n 0, 1)) mq_87 ci_87 (List.mem_append_right _ (List.mem_append_left _ (show _ ∈ my_87_1 from List.mem_of_getElem? (i := 54) rfl)))
theorem cd_87_321 : mt_cd 87 321 = some (.iload 4) := mt_cd_of (q := (321, .iload 4, 2)) mq_87 ci_87 (List.mem_append_right _ (List.mem_append_left _ (show _ ∈ my_87_1 from List.mem_of_getElem? (i := 55) rfl)))
theorem cd_87_323 : mt_cd 87 323 = some (.iload_n 2) := mt_cd_of (q := (323, .iload_n 2, 1)) mq_87 ci_87 (List.mem_append_right _ (List.mem_append_left _ (show _ ∈ my_87_1 from List.mem_of_getElem? (i := 56) rfl)))
theorem cd_87_324 : mt_cd 87 324 = some (.iconst 1) := mt_cd_of (q := (324, .iconst 1, 1)) mq_87 ci_87 (List.mem_append_right _ (List.mem_append_left _ (show _ ∈ my_87_1 from List.mem_of_getElem? (i := 57) rfl)))
theorem cd_87_325 : mt_cd 87 325 = some (.iadd) := mt_cd_of (q := (325, .iadd, 1)) mq_87 ci_87 (List.mem_append_right _ (List.mem_append_left _ (show _ ∈ my_87_1 from List.mem_of_getElem? (i := 58) rfl)))
theorem cd_87_326 : mt_cd 87 326 = some (.invokevirtual 73) := mt_cd_of (q := (326, .invokevirtual 73, 3)) mq_87 ci_87 (List.mem_append_right _ (List.mem_append_left _ (show _ ∈ my_87_1 from List.mem_of_getElem? (i := 59) rfl)))
theorem cd_87_329 : mt_cd 87 329 = some (.ladd) := mt_cd_of (q := (329, .ladd, 1)) mq_87 ci_87 (List.mem_append_right _ (List.mem_append_right _ ((show _ ∈ my_87_2 from List.mem_of_getElem? (i := 0) rfl))))
theorem cd_87_330 : mt_cd 87 330 = some (.invokevirtual 69) := mt_cd_of (q := (330, .invokevirtual 69, 3)) mq_87 ci_87 (List.mem_append_right _ (List.mem_append_right _ ((show _ ∈ my_87_2 from List.mem_of_getElem? (i := 1) rfl))))
theorem cd_87_333 : mt_cd 87 333 = some (.lreturn) := mt_cd_of (q := (333, .lreturn, 1)) mq_87 ci_87 (List.mem_append_right _ (List.mem_append_right _ ((show _ ∈ my_87_2 from List.mem_of_getElem? (i := 2) rfl))))
theorem cd_87_334 : mt_cd 87 334 = some (.aload_n 0) := mt_cd_of (q := (334, .aload_n 0, 1)) mq_87 ci_87 (List.mem_append_right _ (List.mem_append_right _ ((show _ ∈ my_87_2 from List.mem_of_getElem? (i := 3) rfl))))
theorem cd_87_335 : mt_cd 87 335 = some (.aload_n 0) := mt_cd_of (q := (335, .aload_n 0, 1)) mq_87 ci_87 (List.mem_append_right _ (List.mem_append_right _ ((show _ ∈ my_87_2 from List.mem_of_getElem? (i := 4) rfl))))
theorem cd_87_336 : mt_cd 87 336 = some (.iload_n 3) := mt_cd_of (q := (336, .iload_n 3, 1)) mq_87 ci_87 (List.mem_append_right _ (List.mem_append_right _ ((show _ ∈ my_87_2 from List.mem_of_getElem? (i := 5) rfl))))
theorem cd_87_337 : mt_cd 87 337 = some (.iload_n 2) := mt_cd_of (q := (337, .iload_n 2, 1)) mq_87 ci_87 (List.mem_append_right _ (List.mem_append_right _ ((show _ ∈ my_87_2 from List.mem_of_getElem? (i := 6) rfl))))
theorem cd_87_338 : mt_cd 87 338 = some (.iconst 1) := mt_cd_of (q := (338, .iconst 1, 1)) mq_87 ci_87 (List.mem_append_right _ (List.mem_append_right _ ((show _ ∈ my_87_2 from List.mem_of_getElem? (i := 7) rfl))))
theorem cd_87_339 : mt_cd 87 339 = some (.iadd) := mt_cd_of (q := (339, .iadd, 1)) mq_87 ci_87 (List.mem_append_right _ (List.mem_append_right _ ((show _ ∈ my_87_2 from List.mem_of_getElem? (i := 8) rfl))))
theorem cd_87_340 : mt_cd 87 340 = some (.invokevirtual 73) := mt_cd_of (q := (340, .invokevirtual 73, 3)) mq_87 ci_87 (List.mem_append_right _ (List.mem_append_right _ ((show _ ∈ my_87_2 from List.mem_of_getElem? (i := 9) rfl))))
theorem cd_87_343 : mt_cd 87 343 = some (.aload_n 0) := mt_cd_of (q := (343, .aload_n 0, 1)) mq_87 ci_87 (List.mem_append_right _ (List.mem_append_right _ ((show _ ∈ my_87_2 from List.mem_of_getElem? (i := 10) rfl))))
theorem cd_87_344 : mt_cd 87 344 = some (.iload 4) := mt_cd_of (q := (344, .iload 4, 2)) mq_87 ci_87 (List.mem_append_right _ (List.mem_append_right _ ((show _ ∈ my_87_2 from List.mem_of_getElem? (i := 11) rfl))))
theorem cd_87_346 : mt_cd 87 346 = some (.iload_n 2) := mt_cd_of (q := (346, .iload_n 2, 1)) mq_87 ci_87 (List.mem_append_right _ (List.mem_append_right _ ((show _ ∈ my_87_2 from List.mem_of_getElem? (i := 12) rfl))))
theorem cd_87_347 : mt_cd 87 347 = some (.iconst 1) := mt_cd_of (q := (347, .iconst 1, 1)) mq_87 ci_87 (List.mem_append_right _ (List.mem_append_right _ ((show _ ∈ my_87_2 from List.mem_of_getElem? (i := 13) rfl))))
theorem cd_87_348 : mt_cd 87 348 = some (.iadd) := mt_cd_of (q := (348, .iadd, 1)) mq_87 ci_87 (List.mem_append_right _ (List.mem_append_right _ ((show _ ∈ my_87_2 from List.mem_of_getElem? (i := 14) rfl))))
theorem cd_87_349 : mt_cd 87 349 = some (.invokevirtual 73) := mt_cd_of (q := (349, .invokevirtual 73, 3)) mq_87 ci_87 (List.mem_append_right _ (List.mem_append_right _ ((show _ ∈ my_87_2 from List.mem_of_getElem? (i := 15) rfl))))
theorem cd_87_352 : mt_cd 87 352 = some (.lsub) := mt_cd_of (q := (352, .lsub, 1)) mq_87 ci_87 (List.mem_append_right _ (List.mem_append_right _ ((show _ ∈ my_87_2 from List.mem_of_getElem? (i := 16) rfl))))
theorem cd_87_353 : mt_cd 87 353 = some (.invokevirtual 69) := mt_cd_of (q := (353, .invokevirtual 69, 3)) mq_87 ci_87 (List.mem_append_right _ (List.mem_append_right _ ((show _ ∈ my_87_2 from List.mem_of_getElem? (i := 17) rfl))))
theorem cd_87_356 : mt_cd 87 356 = some (.lreturn) := mt_cd_of (q := (356, .lreturn, 1)) mq_87 ci_87 (List.mem_append_right _ (List.mem_append_right _ ((show _ ∈ my_87_2 from List.mem_of_getElem? (i := 18) rfl))))
theorem cd_87_357 : mt_cd 87 357 = some (.aload_n 0) := mt_cd_of (q := (357, .aload_n 0, 1)) mq_87 ci_87 (List.mem_append_right _ (List.mem_append_right _ ((show _ ∈ my_87_2 from List.mem_of_getElem? (i := 19) rfl))))
theorem cd_87_358 : mt_cd 87 358 = some (.aload_n 0) := mt_cd_of (q := (358, .aload_n 0, 1)) mq_87 ci_87 (List.mem_append_right _ (List.mem_append_right _ ((show _ ∈ my_87_2 from List.mem_of_getElem? (i := 20) rfl))))
theorem cd_87_359 : mt_cd 87 359 = some (.iload_n 3) := mt_cd_of (q := (359, .iload_n 3, 1)) mq_87 ci_87 (List.mem_append_right _ (List.mem_append_right _ ((show _ ∈ my_87_2 from List.mem_of_getElem? (i := 21) rfl))))
theorem cd_87_360 : mt_cd 87 360 = some (.iload_n 2) := mt_cd_of (q := (360, .iload_n 2, 1)) mq_87 ci_87 (List.mem_append_right _ (List.mem_append_right _ ((show _ ∈ my_87_2 from List.mem_of_getElem? (i := 22) rfl))))
theorem cd_87_361 : mt_cd 87 361 = some (.iconst 1) := mt_cd_of (q := (361, .iconst 1, 1)) mq_87 ci_87 (List.mem_append_right _ (List.mem_append_right _ ((show _ ∈ my_87_2 from List.mem_of_getElem? (i := 23) rfl))))
theorem cd_87_362 : mt_cd 87 362 = some (.iadd) := mt_cd_of (q := (362, .iadd, 1)) mq_87 ci_87 (List.mem_append_right _ (List.mem_append_right _ ((show _ ∈ my_87_2 from List.mem_of_getElem? (i := 24) rfl))))
theorem cd_87_363 : mt_cd 87 363 = some (.invokevirtual 73) := mt_cd_of (q := (363, .invokevirtual 73, 3)) mq_87 ci_87 (List.mem_append_right _ (List.mem_append_right _ ((show _ ∈ my_87_2 from List.mem_of_getElem? (i := 25) rfl))))
theorem cd_87_366 : mt_cd 87 366 = some (.aload_n 0) := mt_cd_of (q := (366, .aload_n 0, 1)) mq_87 ci_87 (List.mem_append_right _ (List.mem_append_right _ ((show _ ∈ my_87_2 from List.mem_of_getElem? (i := 26) rfl))))
theorem cd_87_367 : mt_cd 87 367 = some (.iload 4) := mt_cd_of (q := (367, .iload 4, 2)) mq_87 ci_87 (List.mem_append_right _ (List.mem_append_right _ ((show _ ∈ my_87_2 from List.mem_of_getElem? (i := 27) rfl))))
theorem cd_87_369 : mt_cd 87 369 = some (.iload_n 2) := mt_cd_of (q := (369, .iload_n 2, 1)) mq_87 ci_87 (List.mem_append_right _ (List.mem_append_right _ ((show _ ∈ my_87_2 from List.mem_of_getElem? (i := 28) rfl))))
theorem cd_87_370 : mt_cd 87 370 = some (.iconst 1) := mt_cd_of (q := (370, .iconst 1, 1)) mq_87 ci_87 (List.mem_append_right _ (List.mem_append_right _ ((show _ ∈ my_87_2 from List.mem_of_getElem? (i := 29) rfl))))
theorem cd_87_371 : mt_cd 87 371 = some (.iadd) := mt_cd_of (q := (371, .iadd, 1)) mq_87 ci_87 (List.mem_append_right _ (List.mem_append_right _ ((show _ ∈ my_87_2 from List.mem_of_getElem? (i := 30) rfl))))
theorem cd_87_372 : mt_cd 87 372 = some (.invokevirtual 73) := mt_cd_of (q := (372, .invokevirtual 73, 3)) mq_87 ci_87 (List.mem_append_right _ (List.mem_append_right _ ((show _ ∈ my_87_2 from List.mem_of_getElem? (i := 31) rfl))))
theorem cd_87_375 : mt_cd 87 375 = some (.invokevirtual 83) := mt_cd_of (q := (375, .invokevirtual 83, 3)) mq_87 ci_87 (List.mem_append_right _ (List.mem_append_right _ ((show _ ∈ my_87_2 from List.mem_of_getElem? (i := 32) rfl))))
theorem cd_87_378 : mt_cd 87 378 = some (.lreturn) := mt_cd_of (q := (378, .lreturn, 1)) mq_87 ci_87 (List.mem_append_right _ (List.mem_append_right _ ((show _ ∈ my_87_2 from List.mem_of_getElem? (i := 33) rfl))))
theorem cd_87_379 : mt_cd 87 379 = some (.aload_n 0) := mt_cd_of (q := (379, .aload_n 0, 1)) mq_87 ci_87 (List.mem_append_right _ (List.mem_append_right _ ((show _ ∈ my_87_2 from List.mem_of_getElem? (i := 34) rfl))))
theorem cd_87_380 : mt_cd 87 380 = some (.iload_n 3) := mt_cd_of (q := (380, .iload_n 3, 1)) mq_87 ci_87 (List.mem_append_right _ (List.mem_append_right _ ((show _ ∈ my_87_2 from List.mem_of_getElem? (i := 35) rfl))))
theorem cd_87_381 : mt_cd 87 381 = some (.iload_n 2) := mt_cd_of (q := (381, .iload_n 2, 1)) mq_87 ci_87 (List.mem_append_right _ (List.mem_append_right _ ((show _ ∈ my_87_2 from List.mem_of_getElem? (i := 36) rfl))))
theorem cd_87_382 : mt_cd 87 382 = some (.iconst 1) := mt_cd_of (q := (382, .iconst 1, 1)) mq_87 ci_87 (List.mem_append_right _ (List.mem_append_right _ ((show _ ∈ my_87_2 from List.mem_of_getElem? (i := 37) rfl))))
theorem cd_87_383 : mt_cd 87 383 = some (.iadd) := mt_cd_of (q := (383, .iadd, 1)) mq_87 ci_87 (List.mem_append_right _ (List.mem_append_right _ ((show _ ∈ my_87_2 from List.mem_of_getElem? (i := 38) rfl))))
theorem cd_87_384 : mt_cd 87 384 = some (.invokevirtual 73) := mt_cd_of (q := (384, .invokevirtual 73, 3)) mq_87 ci_87 (List.mem_append_right _ (List.mem_append_right _ ((show _ ∈ my_87_2 from List.mem_of_getElem? (i := 39) rfl))))
theorem cd_87_387 : mt_cd 87 387 = some (.aload_n 0) := mt_cd_of (q := (387, .aload_n 0, 1)) mq_87 ci_87 (List.mem_append_right _ (List.mem_append_right _ ((show _ ∈ my_87_2 from List.mem_of_getElem? (i := 40) rfl))))
theorem cd_87_388 : mt_cd 87 388 = some (.iload 4) := mt_cd_of (q := (388, .iload 4, 2)) mq_87 ci_87 (List.mem_append_right _ (List.mem_append_right _ ((show _ ∈ my_87_2 from List.mem_of_getElem? (i := 41) rfl))))
theorem cd_87_390 : mt_cd 87 390 = some (.iload_n 2) := mt_cd_of (q := (390, .iload_n 2, 1)) mq_87 ci_87 (List.mem_append_right _ (List.mem_append_right _ ((show _ ∈ my_87_2 from List.mem_of_getElem? (i := 42) rfl))))
theorem cd_87_391 : mt_cd 87 391 = some (.iconst 1) := mt_cd_of (q := (391, .iconst 1, 1)) mq_87 ci_87 (List.mem_append_right _ (List.mem_append_right _ ((show _ ∈ my_87_2 from List.mem_of_getElem? (i := 43) rfl))))
theorem cd_87_392 : mt_cd 87 392 = some (.iadd) := mt_cd_of (q := (392, .iadd, 1)) mq_87 ci_87 (List.mem_append_right _ (List.mem_append_right _ ((show _ ∈ my_87_2 from List.mem_of_getElem? (i := 44) rfl))))
theorem cd_87_393 : mt_cd 87 393 = some (.invokevirtual 73) := mt_cd_of (q := (393, .invokevirtual 73, 3)) mq_87 ci_87 (List.mem_append_right _ (List.mem_append_right _ ((show _ ∈ my_87_2 from List.mem_of_getElem? (i := 45) rfl))))
theorem cd_87_396 : mt_cd 87 396 = some (.invokestatic 87) := mt_cd_of (q := (396, .invokestatic 87, 3)) mq_87 ci_87 (List.mem_append_right _ (List.mem_append_right _ ((show _ ∈ my_87_2 from List.mem_of_getElem? (i := 46) rfl))))
theorem cd_87_399 : mt_cd 87 399 = some (.lreturn) := mt_cd_of (q := (399, .lreturn, 1)) mq_87 ci_87 (List.mem_append_right _ (List.mem_append_right _ ((show _ ∈ my_87_2 from List.mem_of_getElem? (i := 47) rfl))))
theorem b_87_0 {d : Nat} {Q : (Option Value ⊕ Nat) → mi_H → Prop} (n sl : Nat) (f : Nat → mi_C) {l1 : Nat} {l2 : Int32} {l3 : Int32} {o4 : Option Value} {o5 : Option Value} {fs6 : List Value} {x9 : Int32} (h7 : f l1 = .inr (10, fs6)) (h8 : l1 < n) (h10 : fs6[4]? = some (.int x9)) (h11 : ¬ x9 = (0 : Int32) → mi_W d 87 24 [some (.ref l1), some (.int l2), some (.int l3), o4, o5] [] (n, sl, f) Q) (h12 : ¬ (¬ x9 = (0 : Int32)) → mi_W d 87 7 [some (.ref l1), some (.int l2), some (.int l3), o4, o5] [] (n, sl, f) Q) : mi_W d 87 0 [some (.ref l1), some (.int l2), some (.int l3), o4, o5] [] (n, sl, f) Q := by
  refine w_aload_n cd_87_0 rfl ?_
  refine w_getfield cd_87_1 (show mt_f 10 26 = some (10, 4) by decide +kernel) h7 h8 h10 ?_
  exact w_ifne cd_87_4 (by decide) h11 h12
theorem b_87_7 {d : Nat} {Q : (Option Value ⊕ Nat) → mi_H → Prop} (n sl : Nat) (f : Nat → mi_C) {l1 : Nat} {l2 : Int32} {l3 : Int32} {o4 : Option Value} {o5 : Option Value} (h6 : 100 < l3 → mi_W d 87 24 [some (.ref l1), some (.int l2), some (.int l3), o4, o5] [] (n, sl, f) Q) (h7 : ¬ (100 < l3) → mi_W d 87 13 [some (.ref l1), some (.int l2), some (.int l3), o4, o5] [] (n, sl, f) Q) : mi_W d 87 7 [some (.ref l1), some (.int l2), some (.int l3), o4, o5] [] (n, sl, f) Q := by
  refine w_iload_n cd_87_7 rfl ?_
  refine w_bipush (v := 100) cd_87_8 (by decide) ?_
  exact w_if_icmpgt cd_87_10 (by decide) h6 h7
theorem b_87_13 {d : Nat} {Q : (Option Value ⊕ Nat) → mi_H → Prop} (n sl : Nat) (f : Nat → mi_C) {l1 : Nat} {l2 : Int32} {l3 : Int32} {o4 : Option Value} {o5 : Option Value} {fs6 : List Value} {x9 : Nat} {fs11 : List Value} (h7 : f l1 = .inr (10, fs6)) (h8 : l1 < n) (h10 : fs6[0]? = some (.ref x9)) (h12 : f x9 = .inr (2, fs11)) (h13 : x9 < n) (h14 : mi_W d 82 0 (mi_en 2 [.ref x9, .int l2]) [] (n, sl, f) (mi_Kc d 87 18 [some (.ref l1), some (.int l2), some (.int l3), o4, o5] [] Q)) : mi_W (d + 1) 87 13 [some (.ref l1), some (.int l2), some (.int l3), o4, o5] [] (n, sl, f) Q := by
  refine w_aload_n cd_87_13 rfl ?_
  refine w_getfield cd_87_14 (show mt_f 10 9 = some (10, 0) by decide +kernel) h7 h8 h10 ?_
  refine w_iload_n cd_87_17 rfl ?_
  exact w_invokevirtual cd_87_18 (show mt_m 10 30 = some (82, 0) by decide +kernel) (rest := []) rfl (as := [.ref x9, .int l2]) rfl h12 (Or.inl h13) ⟨Nat.le_of_ble_eq_true rfl, Nat.le_of_ble_eq_true rfl, Nat.le_of_ble_eq_true rfl⟩ h14
theorem b_87_21 {d : Nat} {Q : (Option Value ⊕ Nat) → mi_H → Prop} (n sl : Nat) (f : Nat → mi_C) {l1 : Nat} {l2 : Int32} {l3 : Int32} {o4 : Option Value} {o5 : Option Value} {s6 : Int32} (h7 : ¬ s6 = (0 : Int32) → mi_W d 87 26 [some (.ref l1), some (.int l2), some (.int l3), o4, o5] [] (n, sl, f) Q) (h8 : ¬ (¬ s6 = (0 : Int32)) → mi_W d 87 24 [some (.ref l1), some (.int l2), some (.int l3), o4, o5] [] (n, sl, f) Q) : mi_W d 87 21 [some (.ref l1), some (.int l2), some (.int l3), o4, o5] [.int s6] (n, sl, f) Q := by
  exact w_ifne cd_87_21 (by decide) h7 h8
theorem b_87_24 {d : Nat} {Q : (Option Value ⊕ Nat) → mi_H → Prop} (n sl : Nat) (f : Nat → mi_C) {l1 : Nat} {l2 : Int32} {l3 : Int32} {o4 : Option Value} {o5 : Option Value} (h6 : Q (.inl (some (.long 0))) (n, sl, f)) : mi_W d 87 24 [some (.ref l1), some (.int l2), some (.int l3), o4, o5] [] (n, sl, f) Q := by
  refine w_lconst (lv := 0) cd_87_24 (by decide) ?_
  exact w_lreturn cd_87_25 (by decide +kernel) h6
theorem b_87_26 {d : Nat} {Q : (Option Value ⊕ Nat) → mi_H → Prop} (n sl : Nat) (f : Nat → mi_C) {l1 : Nat} {l2 : Int32} {l3 : Int32} {o4 : Option Value} {o5 : Option Value} {fs6 : List Value} {x9 : Nat} {fs11 : List Value} {x14 : Nat} (m16 i16 : Nat) (g16 : Nat → Int32) {fs20 : List Value} {x23 : Nat} {fs25 : List Value} {x28 : Nat} (m30 i30 : Nat) (g30 : Nat → Int32) {fs34 : List Value} {x37 : Nat} {fs39 : List Value} {x42 : Nat} (m44 i44 : Nat) (g44 : Nat → Int32) {t48 : Nat} (h7 : f l1 = .inr (10, fs6)) (h8 : l1 < n) (h10 : fs6[0]? = some (.ref x9)) (h12 : f x9 = .inr (2, fs11)) (h13 : x9 < n) (h15 : fs11[1]? = some (.ref x14)) (h17 : f x14 = .inl (0, m16, .inl g16)) (h18 : x14 < n ∨ x14 = mi_SC) (h19 : mi_ix l2 m16 i16) (h21 : f l1 = .inr (10, fs20)) (h22 : l1 < n) (h24 : fs20[0]? = some (.ref x23)) (h26 : f x23 = .inr (2, fs25)) (h27 : x23 < n) (h29 : fs25[3]? = some (.ref x28)) (h31 : f x28 = .inl (0, m30, .inl g30)) (h32 : x28 < n ∨ x28 = mi_SC) (h33 : mi_ix l2 m30 i30) (h35 : f l1 = .inr (10, fs34)) (h36 : l1 < n) (h38 : fs34[0]? = some (.ref x37)) (h40 : f x37 = .inr (2, fs39)) (h41 : x37 < n) (h43 : fs39[0]? = some (.ref x42)) (h45 : f x42 = .inl (0, m44, .inl g44)) (h46 : x42 < n ∨ x42 = mi_SC) (h47 : mi_ix l2 m44 i44) (h49 : mi_ts 56 323 11 37 #[134, 212, 160, 177, 194, 203, 222, 323, 323, 323, 323, 323, 323, 323, 323, 323, 323, 255, 278, 301, 323, 323, 323, 323, 323, 323, 124] ((g44 i44) : Int32).toInt = some t48) (h50 : mi_W d 87 t48 [some (.ref l1), some (.int l2), some (.int l3), some (.int (g16 i16)), some (.int (g30 i30))] [] (n, sl, f) Q) : mi_W d 87 26 [some (.ref l1), some (.int l2), some (.int l3), o4, o5] [] (n, sl, f) Q := by
  refine w_aload_n cd_87_26 rfl ?_
  refine w_getfield cd_87_27 (show mt_f 10 9 = some (10, 0) by decide +kernel) h7 h8 h10 ?_
  refine w_getfield cd_87_30 (show mt_f 10 36 = some (2, 1) by decide +kernel) h12 h13 h15 ?_
  refine w_iload_n cd_87_33 rfl ?_
  refine w_iaload cd_87_34 h17 h18 h19 ?_
  refine w_istore_n (ls' := [some (.ref l1), some (.int l2), some (.int l3), some (.int (g16 i16)), o5]) cd_87_35 (Nat.le_of_ble_eq_true rfl) rfl ?_
  refine w_aload_n cd_87_36 rfl ?_
  refine w_getfield cd_87_37 (show mt_f 10 9 = some (10, 0) by decide +kernel) h21 h22 h24 ?_
  refine w_getfield cd_87_40 (show mt_f 10 40 = some (2, 3) by decide +kernel) h26 h27 h29 ?_
  refine w_iload_n cd_87_43 rfl ?_
  refine w_iaload cd_87_44 h31 h32 h33 ?_
  refine w_istore (ls' := [some (.ref l1), some (.int l2), some (.int l3), some (.int (g16 i16)), some (.int (g30 i30))]) cd_87_45 (Nat.le_of_ble_eq_true rfl) rfl ?_
  refine w_aload_n cd_87_47 rfl ?_
  refine w_getfield cd_87_48 (show mt_f 10 9 = some (10, 0) by decide +kernel) h35 h36 h38 ?_
  refine w_getfield cd_87_51 (show mt_f 10 43 = some (2, 0) by decide +kernel) h40 h41 h43 ?_
  refine w_iload_n cd_87_54 rfl ?_
  refine w_iaload cd_87_55 h45 h46 h47 ?_
  exact w_tableswitch cd_87_56 h49 h50
theorem b_87_180 {d : Nat} {Q : (Option Value ⊕ Nat) → mi_H → Prop} (n sl : Nat) (f : Nat → mi_C) {l1 : Nat} {l2 : Int32} {l3 : Int32} {l4 : Int32} {l5 : Int32} {fs6 : List Value} {x9 : Nat} {fs11 : List Value} {x14 : Nat} (m16 i16 : Nat) (g16 : Nat → Int64) (h7 : f l1 = .inr (10, fs6)) (h8 : l1 < n) (h10 : fs6[0]? = some (.ref x9)) (h12 : f x9 = .inr (2, fs11)) (h13 : x9 < n) (h15 : fs11[9]? = some (.ref x14)) (h17 : f x14 = .inl (3, m16, .inr (.inl g16))) (h18 : x14 < n) (h19 : mi_ix l2 m16 i16) (h20 : Q (.inl (some (.long (g16 i16)))) (n, sl, f)) : mi_W d 87 180 [some (.ref l1), some (.int l2), some (.int l3), some (.int l4), some (.int l5)] [] (n, sl, f) Q := by
  refine w_aload_n cd_87_180 rfl ?_
  refine w_getfield cd_87_181 (show mt_f 10 9 = some (10, 0) by decide +kernel) h7 h8 h10 ?_
  refine w_getfield cd_87_184 (show mt_f 10 46 = some (2, 9) by decide +kernel) h12 h13 h15 ?_
  refine w_iload_n cd_87_187 rfl ?_
  refine w_laload cd_87_188 h17 h18 h19 ?_
  exact w_lreturn cd_87_189 (by decide +kernel) h20
theorem b_87_190 {d : Nat} {Q : (Option Value ⊕ Nat) → mi_H → Prop} (n sl : Nat) (f : Nat → mi_C) {l1 : Nat} {l2 : Int32} {l3 : Int32} {l4 : Int32} {l5 : Int32} {fs6 : List Value} {x9 : Nat} {fs11 : List Value} {x14 : Nat} {fs16 : List Value} {x19 : Nat} (m21 i21 : Nat) (g21 : Nat → Int32) {fs25 : List Value} {x28 : Nat} {fs30 : List Value} {x33 : Nat} (m35 i35 : Nat) (g35 : Nat → Int32) {fs39 : List Value} (h7 : f l1 = .inr (10, fs6)) (h8 : l1 < n) (h10 : fs6[1]? = some (.ref x9)) (h12 : f l1 = .inr (10, fs11)) (h13 : l1 < n) (h15 : fs11[0]? = some (.ref x14)) (h17 : f x14 = .inr (2, fs16)) (h18 : x14 < n) (h20 : fs16[4]? = some (.ref x19)) (h22 : f x19 = .inl (0, m21, .inl g21)) (h23 : x19 < n ∨ x19 = mi_SC) (h24 : mi_ix l2 m21 i21) (h26 : f l1 = .inr (10, fs25)) (h27 : l1 < n) (h29 : fs25[0]? = some (.ref x28)) (h31 : f x28 = .inr (2, fs30)) (h32 : x28 < n) (h34 : fs30[5]? = some (.ref x33)) (h36 : f x33 = .inl (0, m35, .inl g35)) (h37 : x33 < n ∨ x33 = mi_SC) (h38 : mi_ix l2 m35 i35) (h40 : f x9 = .inr (9, fs39)) (h41 : x9 < n) (h42 : mi_W d 88 0 (mi_en 4 [.ref x9, .int (g21 i21), .int (g35 i35)]) [] (n, sl, f) (mi_Kc d 87 212 [some (.ref l1), some (.int l2), some (.int l3), some (.int l4), some (.int l5)] [] Q)) : mi_W (d + 1) 87 190 [some (.ref l1), some (.int l2), some (.int l3), some (.int l4), some (.int l5)] [] (n, sl, f) Q := by
  refine w_aload_n cd_87_190 rfl ?_
  refine w_getfield cd_87_191 (show mt_f 10 15 = some (10, 1) by decide +kernel) h7 h8 h10 ?_
  refine w_aload_n cd_87_194 rfl ?_
  refine w_getfield cd_87_195 (show mt_f 10 9 = some (10, 0) by decide +kernel) h12 h13 h15 ?_
  refine w_getfield cd_87_198 (show mt_f 10 50 = some (2, 4) by decide +kernel) h17 h18 h20 ?_
  refine w_iload_n cd_87_201 rfl ?_
  refine w_iaload cd_87_202 h22 h23 h24 ?_
  refine w_aload_n cd_87_203 rfl ?_
  refine w_getfield cd_87_204 (show mt_f 10 9 = some (10, 0) by decide +kernel) h26 h27 h29 ?_
  refine w_getfield cd_87_207 (show mt_f 10 53 = some (2, 5) by decide +kernel) h31 h32 h34 ?_
  refine w_iload_n cd_87_210 rfl ?_
  refine w_iaload cd_87_211 h36 h37 h38 ?_
  exact w_invokevirtual cd_87_212 (show mt_m 10 56 = some (88, 0) by decide +kernel) (rest := []) rfl (as := [.ref x9, .int (g21 i21), .int (g35 i35)]) rfl h40 (Or.inl h41) ⟨Nat.le_of_ble_eq_true rfl, Nat.le_of_ble_eq_true rfl, Nat.le_of_ble_eq_true rfl⟩ h42
theorem b_87_215 {d : Nat} {Q : (Option Value ⊕ Nat) → mi_H → Prop} (n sl : Nat) (f : Nat → mi_C) {l1 : Nat} {l2 : Int32} {l3 : Int32} {l4 : Int32} {l5 : Int32} {s6 : Int64} (h7 : Q (.inl (some (.long s6))) (n, sl, f)) : mi_W d 87 215 [some (.ref l1), some (.int l2), some (.int l3), some (.int l4), some (.int l5)] [.long s6] (n, sl, f) Q := by
  exact w_lreturn cd_87_215 (by decide +kernel) h7
theorem b_87_216 {d : Nat} {Q : (Option Value ⊕ Nat) → mi_H → Prop} (n sl : Nat) (f : Nat → mi_C) {l1 : Nat} {l2 : Int32} {l3 : Int32} {l4 : Int32} {l5 : Int32} {fs6 : List Value} {x9 : Nat} {fs11 : List Value} {x14 : Nat} {fs16 : List Value} {x19 : Nat} (m21 i21 : Nat) (g21 : Nat → Int32) {fs25 : List Value} (h7 : f l1 = .inr (10, fs6)) (h8 : l1 < n) (h10 : fs6[1]? = some (.ref x9)) (h12 : f l1 = .inr (10, fs11)) (h13 : l1 < n) (h15 : fs11[0]? = some (.ref x14)) (h17 : f x14 = .inr (2, fs16)) (h18 : x14 < n) (h20 : fs16[4]? = some (.ref x19)) (h22 : f x19 = .inl (0, m21, .inl g21)) (h23 : x19 < n ∨ x19 = mi_SC) (h24 : mi_ix l2 m21 i21) (h26 : f x9 = .inr (9, fs25)) (h27 : x9 < n) (h28 : mi_W d 89 0 (mi_en 2 [.ref x9, .int (g21 i21)]) [] (n, sl, f) (mi_Kc d 87 229 [some (.ref l1), some (.int l2), some (.int l3), some (.int l4), some (.int l5)] [] Q)) : mi_W (d + 1) 87 216 [some (.ref l1), some (.int l2), some (.int l3), some (.int l4), some (.int l5)] [] (n, sl, f) Q := by
  refine w_aload_n cd_87_216 rfl ?_
  refine w_getfield cd_87_217 (show mt_f 10 15 = some (10, 1) by decide +kernel) h7 h8 h10 ?_
  refine w_aload_n cd_87_220 rfl ?_
  refine w_getfield cd_87_221 (show mt_f 10 9 = some (10, 0) by decide +kernel) h12 h13 h15 ?_
  refine w_getfield cd_87_224 (show mt_f 10 50 = some (2, 4) by decide +kernel) h17 h18 h20 ?_
  refine w_iload_n cd_87_227 rfl ?_
  refine w_iaload cd_87_228 h22 h23 h24 ?_
  exact w_invokevirtual cd_87_229 (show mt_m 10 62 = some (89, 0) by decide +kernel) (rest := []) rfl (as := [.ref x9, .int (g21 i21)]) rfl h26 (Or.inl h27) ⟨Nat.le_of_ble_eq_true rfl, Nat.le_of_ble_eq_true rfl, Nat.le_of_ble_eq_true rfl⟩ h28
theorem b_87_232 {d : Nat} {Q : (Option Value ⊕ Nat) → mi_H → Prop} (n sl : Nat) (f : Nat → mi_C) {l1 : Nat} {l2 : Int32} {l3 : Int32} {l4 : Int32} {l5 : Int32} {s6 : Int64} (h7 : Q (.inl (some (.long s6))) (n, sl, f)) : mi_W d 87 232 [some (.ref l1), some (.int l2), some (.int l3), some (.int l4), some (.int l5)] [.long s6] (n, sl, f) Q := by
  exact w_lreturn cd_87_232 (by decide +kernel) h7
theorem b_87_233 {d : Nat} {Q : (Option Value ⊕ Nat) → mi_H → Prop} (n sl : Nat) (f : Nat → mi_C) {l1 : Nat} {l2 : Int32} {l3 : Int32} {l4 : Int32} {l5 : Int32} {fs6 : List Value} {x9 : Nat} {fs11 : List Value} {x14 : Nat} {fs16 : List Value} {x19 : Nat} (m21 i21 : Nat) (g21 : Nat → Int32) {fs25 : List Value} (h7 : f l1 = .inr (10, fs6)) (h8 : l1 < n) (h10 : fs6[1]? = some (.ref x9)) (h12 : f l1 = .inr (10, fs11)) (h13 : l1 < n) (h15 : fs11[0]? = some (.ref x14)) (h17 : f x14 = .inr (2, fs16)) (h18 : x14 < n) (h20 : fs16[4]? = some (.ref x19)) (h22 : f x19 = .inl (0, m21, .inl g21)) (h23 : x19 < n ∨ x19 = mi_SC) (h24 : mi_ix l2 m21 i21) (h26 : f x9 = .inr (9, fs25)) (h27 : x9 < n) (h28 : mi_W d 90 0 (mi_en 2 [.ref x9, .int (g21 i21)]) [] (n, sl, f) (mi_Kc d 87 246 [some (.ref l1), some (.int l2), some (.int l3), some (.int l4), some (.int l5)] [] Q)) : mi_W (d + 1) 87 233 [some (.ref l1), some (.int l2), some (.int l3), some (.int l4), some (.int l5)] [] (n, sl, f) Q := by
  refine w_aload_n cd_87_233 rfl ?_
  refine w_getfield cd_87_234 (show mt_f 10 15 = some (10, 1) by decide +kernel) h7 h8 h10 ?_
  refine w_aload_n cd_87_237 rfl ?_
  refine w_getfield cd_87_238 (show mt_f 10 9 = some (10, 0) by decide +kernel) h12 h13 h15 ?_
  refine w_getfield cd_87_241 (show mt_f 10 50 = some (2, 4) by decide +kernel) h17 h18 h20 ?_
  refine w_iload_n cd_87_244 rfl ?_
  refine w_iaload cd_87_245 h22 h23 h24 ?_
  exact w_invokevirtual cd_87_246 (show mt_m 10 66 = some (90, 0) by decide +kernel) (rest := []) rfl (as := [.ref x9, .int (g21 i21)]) rfl h26 (Or.inl h27) ⟨Nat.le_of_ble_eq_true rfl, Nat.le_of_ble_eq_true rfl, Nat.le_of_ble_eq_true rfl⟩ h28
theorem b_87_249 {d : Nat} {Q : (Option Value ⊕ Nat) → mi_H → Prop} (n sl : Nat) (f : Nat → mi_C) {l1 : Nat} {l2 : Int32} {l3 : Int32} {l4 : Int32} {l5 : Int32} {s6 : Int64} (h7 : Q (.inl (some (.long s6))) (n, sl, f)) : mi_W d 87 249 [some (.ref l1), some (.int l2), some (.int l3), some (.int l4), some (.int l5)] [.long s6] (n, sl, f) Q := by
  exact w_lreturn cd_87_249 (by decide +kernel) h7
theorem b_87_250 {d : Nat} {Q : (Option Value ⊕ Nat) → mi_H → Prop} (n sl : Nat) (f : Nat → mi_C) {l1 : Nat} {l2 : Int32} {l3 : Int32} {l4 : Int32} {l5 : Int32} {fs6 : List Value} {x9 : Int64} {fs11 : List Value} (h7 : f l1 = .inr (10, fs6)) (h8 : l1 < n) (h10 : fs6[2]? = some (.long x9)) (h12 : f l1 = .inr (10, fs11)) (h13 : l1 < n) (h14 : mi_W d 91 0 (mi_en 3 [.ref l1, .long x9]) [] (n, sl, f) (mi_Kc d 87 255 [some (.ref l1), some (.int l2), some (.int l3), some (.int l4), some (.int l5)] [] Q)) : mi_W (d + 1) 87 250 [some (.ref l1), some (.int l2), some (.int l3), some (.int l4), some (.int l5)] [] (n, sl, f) Q := by
  refine w_aload_n cd_87_250 rfl ?_
  refine w_aload_n cd_87_251 rfl ?_
  refine w_getfield cd_87_252 (show mt_f 10 19 = some (10, 2) by decide +kernel) h7 h8 h10 ?_
  exact w_invokevirtual cd_87_255 (show mt_m 10 69 = some (91, 0) by decide +kernel) (rest := []) rfl (as := [.ref l1, .long x9]) rfl h12 (Or.inl h13) ⟨Nat.le_of_ble_eq_true rfl, Nat.le_of_ble_eq_true rfl, Nat.le_of_ble_eq_true rfl⟩ h14
theorem b_87_258 {d : Nat} {Q : (Option Value ⊕ Nat) → mi_H → Prop} (n sl : Nat) (f : Nat → mi_C) {l1 : Nat} {l2 : Int32} {l3 : Int32} {l4 : Int32} {l5 : Int32} {s6 : Int64} (h7 : Q (.inl (some (.long s6))) (n, sl, f)) : mi_W d 87 258 [some (.ref l1), some (.int l2), some (.int l3), some (.int l4), some (.int l5)] [.long s6] (n, sl, f) Q := by
  exact w_lreturn cd_87_258 (by decide +kernel) h7
theorem b_87_259 {d : Nat} {Q : (Option Value ⊕ Nat) → mi_H → Prop} (n sl : Nat) (f : Nat → mi_C) {l1 : Nat} {l2 : Int32} {l3 : Int32} {l4 : Int32} {l5 : Int32} {fs6 : List Value} {x9 : Int64} {fs11 : List Value} (h7 : f l1 = .inr (10, fs6)) (h8 : l1 < n) (h10 : fs6[3]? = some (.long x9)) (h12 : f l1 = .inr (10, fs11)) (h13 : l1 < n) (h14 : mi_W d 91 0 (mi_en 3 [.ref l1, .long x9]) [] (n, sl, f) (mi_Kc d 87 264 [some (.ref l1), some (.int l2), some (.int l3), some (.int l4), some (.int l5)] [] Q)) : mi_W (d + 1) 87 259 [some (.ref l1), some (.int l2), some (.int l3), some (.int l4), some (.int l5)] [] (n, sl, f) Q := by
  refine w_aload_n cd_87_259 rfl ?_
  refine w_aload_n cd_87_260 rfl ?_
  refine w_getfield cd_87_261 (show mt_f 10 23 = some (10, 3) by decide +kernel) h7 h8 h10 ?_
  exact w_invokevirtual cd_87_264 (show mt_m 10 69 = some (91, 0) by decide +kernel) (rest := []) rfl (as := [.ref l1, .long x9]) rfl h12 (Or.inl h13) ⟨Nat.le_of_ble_eq_true rfl, Nat.le_of_ble_eq_true rfl, Nat.le_of_ble_eq_true rfl⟩ h14
theorem b_87_267 {d : Nat} {Q : (Option Value ⊕ Nat) → mi_H → Prop} (n sl : Nat) (f : Nat → mi_C) {l1 : Nat} {l2 : Int32} {l3 : Int32} {l4 : Int32} {l5 : Int32} {s6 : Int64} (h7 : Q (.inl (some (.long s6))) (n, sl, f)) : mi_W d 87 267 [some (.ref l1), some (.int l2), some (.int l3), some (.int l4), some (.int l5)] [.long s6] (n, sl, f) Q := by
  exact w_lreturn cd_87_267 (by decide +kernel) h7
theorem b_87_268 {d : Nat} {Q : (Option Value ⊕ Nat) → mi_H → Prop} (n sl : Nat) (f : Nat → mi_C) {l1 : Nat} {l2 : Int32} {l3 : Int32} {l4 : Int32} {l5 : Int32} {fs6 : List Value} (h7 : f l1 = .inr (10, fs6)) (h8 : l1 < n) (h9 : mi_W d 87 0 (mi_en 5 [.ref l1, .int l4, .int (l3 + 1)]) [] (n, sl, f) (mi_Kc d 87 273 [some (.ref l1), some (.int l2), some (.int l3), some (.int l4), some (.int l5)] [] Q)) : mi_W (d + 1) 87 268 [some (.ref l1), some (.int l2), some (.int l3), some (.int l4), some (.int l5)] [] (n, sl, f) Q := by
  refine w_aload_n cd_87_268 rfl ?_
  refine w_iload_n cd_87_269 rfl ?_
  refine w_iload_n cd_87_270 rfl ?_
  refine w_iconst (v := 1) cd_87_271 (by decide) ?_
  refine w_iadd cd_87_272 ?_
  exact w_invokevirtual cd_87_273 (show mt_m 10 73 = some (87, 0) by decide +kernel) (rest := []) rfl (as := [.ref l1, .int l4, .int (l3 + 1)]) rfl h7 (Or.inl h8) ⟨Nat.le_of_ble_eq_true rfl, Nat.le_of_ble_eq_true rfl, Nat.le_of_ble_eq_true rfl⟩ h9
theorem b_87_276 {d : Nat} {Q : (Option Value ⊕ Nat) → mi_H → Prop} (n sl : Nat) (f : Nat → mi_C) {l1 : Nat} {l2 : Int32} {l3 : Int32} {l4 : Int32} {l5 : Int32} {s6 : Int64} (h7 : Q (.inl (some (.long (-s6)))) (n, sl, f)) : mi_W d 87 276 [some (.ref l1), some (.int l2), some (.int l3), some (.int l4), some (.int l5)] [.long s6] (n, sl, f) Q := by
  refine w_lneg cd_87_276 ?_
  exact w_lreturn cd_87_277 (by decide +kernel) h7
theorem b_87_278 {d : Nat} {Q : (Option Value ⊕ Nat) → mi_H → Prop} (n sl : Nat) (f : Nat → mi_C) {l1 : Nat} {l2 : Int32} {l3 : Int32} {l4 : Int32} {l5 : Int32} {fs6 : List Value} (h7 : f l1 = .inr (10, fs6)) (h8 : l1 < n) (h9 : mi_W d 92 0 (mi_en 6 [.ref l1, .int l4, .int (l3 + 1)]) [] (n, sl, f) (mi_Kc d 87 284 [some (.ref l1), some (.int l2), some (.int l3), some (.int l4), some (.int l5)] [.ref l1] Q)) : mi_W (d + 1) 87 278 [some (.ref l1), some (.int l2), some (.int l3), some (.int l4), some (.int l5)] [] (n, sl, f) Q := by
  refine w_aload_n cd_87_278 rfl ?_
  refine w_aload_n cd_87_279 rfl ?_
  refine w_iload_n cd_87_280 rfl ?_
  refine w_iload_n cd_87_281 rfl ?_
  refine w_iconst (v := 1) cd_87_282 (by decide) ?_
  refine w_iadd cd_87_283 ?_
  exact w_invokevirtual cd_87_284 (show mt_m 10 76 = some (92, 0) by decide +kernel) (rest := [.ref l1]) rfl (as := [.ref l1, .int l4, .int (l3 + 1)]) rfl h7 (Or.inl h8) ⟨Nat.le_of_ble_eq_true rfl, Nat.le_of_ble_eq_true rfl, Nat.le_of_ble_eq_true rfl⟩ h9
theorem b_87_287 {d : Nat} {Q : (Option Value ⊕ Nat) → mi_H → Prop} (n sl : Nat) (f : Nat → mi_C) {l1 : Nat} {l2 : Int32} {l3 : Int32} {l4 : Int32} {l5 : Int32} {s6 : Int32} {s7 : Nat} (h8 : s6 = (0 : Int32) → mi_W d 87 302 [some (.ref l1), some (.int l2), some (.int l3), some (.int l4), some (.int l5)] [.ref s7] (n, sl, f) Q) (h9 : ¬ (s6 = (0 : Int32)) → mi_W d 87 290 [some (.ref l1), some (.int l2), some (.int l3), some (.int l4), some (.int l5)] [.ref s7] (n, sl, f) Q) : mi_W d 87 287 [some (.ref l1), some (.int l2), some (.int l3), some (.int l4), some (.int l5)] [.int s6, .ref s7] (n, sl, f) Q := by
  exact w_ifeq cd_87_287 (by decide) h8 h9
theorem b_87_290 {d : Nat} {Q : (Option Value ⊕ Nat) → mi_H → Prop} (n sl : Nat) (f : Nat → mi_C) {l1 : Nat} {l2 : Int32} {l3 : Int32} {l4 : Int32} {l5 : Int32} {s6 : Nat} {fs7 : List Value} {x10 : Nat} {fs12 : List Value} {x15 : Nat} (m17 i17 : Nat) (g17 : Nat → Int32) (h8 : f l1 = .inr (10, fs7)) (h9 : l1 < n) (h11 : fs7[0]? = some (.ref x10)) (h13 : f x10 = .inr (2, fs12)) (h14 : x10 < n) (h16 : fs12[2]? = some (.ref x15)) (h18 : f x15 = .inl (0, m17, .inl g17)) (h19 : x15 < n ∨ x15 = mi_SC) (h20 : mi_ix l2 m17 i17) (h21 : mi_W d 87 304 [some (.ref l1), some (.int l2), some (.int l3), some (.int l4), some (.int l5)] [.int (g17 i17), .ref s6] (n, sl, f) Q) : mi_W d 87 290 [some (.ref l1), some (.int l2), some (.int l3), some (.int l4), some (.int l5)] [.ref s6] (n, sl, f) Q := by
  refine w_aload_n cd_87_290 rfl ?_
  refine w_getfield cd_87_291 (show mt_f 10 9 = some (10, 0) by decide +kernel) h8 h9 h11 ?_
  refine w_getfield cd_87_294 (show mt_f 10 80 = some (2, 2) by decide +kernel) h13 h14 h16 ?_
  refine w_iload_n cd_87_297 rfl ?_
  refine w_iaload cd_87_298 h18 h19 h20 ?_
  exact w_goto cd_87_299 (by decide) h21
theorem b_87_302 {d : Nat} {Q : (Option Value ⊕ Nat) → mi_H → Prop} (n sl : Nat) (f : Nat → mi_C) {l1 : Nat} {l2 : Int32} {l3 : Int32} {l4 : Int32} {l5 : Int32} {s6 : Nat} (h7 : mi_W d 87 304 [some (.ref l1), some (.int l2), some (.int l3), some (.int l4), some (.int l5)] [.int l5, .ref s6] (n, sl, f) Q) : mi_W d 87 302 [some (.ref l1), some (.int l2), some (.int l3), some (.int l4), some (.int l5)] [.ref s6] (n, sl, f) Q := by
  refine w_iload cd_87_302 rfl ?_
  exact h7
theorem b_87_304 {d : Nat} {Q : (Option Value ⊕ Nat) → mi_H → Prop} (n sl : Nat) (f : Nat → mi_C) {l1 : Nat} {l2 : Int32} {l3 : Int32} {l4 : Int32} {l5 : Int32} {s6 : Int32} {s7 : Nat} {fs8 : List Value} (h9 : f s7 = .inr (10, fs8)) (h10 : s7 < n) (h11 : mi_W d 87 0 (mi_en 5 [.ref s7, .int s6, .int (l3 + 1)]) [] (n, sl, f) (mi_Kc d 87 307 [some (.ref l1), some (.int l2), some (.int l3), some (.int l4), some (.int l5)] [] Q)) : mi_W (d + 1) 87 304 [some (.ref l1), some (.int l2), some (.int l3), some (.int l4), some (.int l5)] [.int s6, .ref s7] (n, sl, f) Q := by
  refine w_iload_n cd_87_304 rfl ?_
  refine w_iconst (v := 1) cd_87_305 (by decide) ?_
  refine w_iadd cd_87_306 ?_
  exact w_invokevirtual cd_87_307 (show mt_m 10 73 = some (87, 0) by decide +kernel) (rest := []) rfl (as := [.ref s7, .int s6, .int (l3 + 1)]) rfl h9 (Or.inl h10) ⟨Nat.le_of_ble_eq_true rfl, Nat.le_of_ble_eq_true rfl, Nat.le_of_ble_eq_true rfl⟩ h11
theorem b_87_310 {d : Nat} {Q : (Option Value ⊕ Nat) → mi_H → Prop} (n sl : Nat) (f : Nat → mi_C) {l1 : Nat} {l2 : Int32} {l3 : Int32} {l4 : Int32} {l5 : Int32} {s6 : Int64} (h7 : Q (.inl (some (.long s6))) (n, sl, f)) : mi_W d 87 310 [some (.ref l1), some (.int l2), some (.int l3), some (.int l4), some (.int l5)] [.long s6] (n, sl, f) Q := by
  exact w_lreturn cd_87_310 (by decide +kernel) h7
theorem b_87_311 {d : Nat} {Q : (Option Value ⊕ Nat) → mi_H → Prop} (n sl : Nat) (f : Nat → mi_C) {l1 : Nat} {l2 : Int32} {l3 : Int32} {l4 : Int32} {l5 : Int32} {fs6 : List Value} (h7 : f l1 = .inr (10, fs6)) (h8 : l1 < n) (h9 : mi_W d 87 0 (mi_en 5 [.ref l1, .int l4, .int (l3 + 1)]) [] (n, sl, f) (mi_Kc d 87 317 [some (.ref l1), some (.int l2), some (.int l3), some (.int l4), some (.int l5)] [.ref l1] Q)) : mi_W (d + 1) 87 311 [some (.ref l1), some (.int l2), some (.int l3), some (.int l4), some (.int l5)] [] (n, sl, f) Q := by
  refine w_aload_n cd_87_311 rfl ?_
  refine w_aload_n cd_87_312 rfl ?_
  refine w_iload_n cd_87_313 rfl ?_
  refine w_iload_n cd_87_314 rfl ?_
  refine w_iconst (v := 1) cd_87_315 (by decide) ?_
  refine w_iadd cd_87_316 ?_
  exact w_invokevirtual cd_87_317 (show mt_m 10 73 = some (87, 0) by decide +kernel) (rest := [.ref l1]) rfl (as := [.ref l1, .int l4, .int (l3 + 1)]) rfl h7 (Or.inl h8) ⟨Nat.le_of_ble_eq_true rfl, Nat.le_of_ble_eq_true rfl, Nat.le_of_ble_eq_true rfl⟩ h9
theorem b_87_320 {d : Nat} {Q : (Option Value ⊕ Nat) → mi_H → Prop} (n sl : Nat) (f : Nat → mi_C) {l1 : Nat} {l2 : Int32} {l3 : Int32} {l4 : Int32} {l5 : Int32} {s6 : Int64} {s7 : Nat} {fs8 : List Value} (h9 : f l1 = .inr (10, fs8)) (h10 : l1 < n) (h11 : mi_W d 87 0 (mi_en 5 [.ref l1, .int l5, .int (l3 + 1)]) [] (n, sl, f) (mi_Kc d 87 326 [some (.ref l1), some (.int l2), some (.int l3), some (.int l4), some (.int l5)] [.long s6, .ref s7] Q)) : mi_W (d + 1) 87 320 [some (.ref l1), some (.int l2), some (.int l3), some (.int l4), some (.int l5)] [.long s6, .ref s7] (n, sl, f) Q := by
  refine w_aload_n cd_87_320 rfl ?_
  refine w_iload cd_87_321 rfl ?_
  refine w_iload_n cd_87_323 rfl ?_
  refine w_iconst (v := 1) cd_87_324 (by decide) ?_
  refine w_iadd cd_87_325 ?_
  exact w_invokevirtual cd_87_326 (show mt_m 10 73 = some (87, 0) by decide +kernel) (rest := [.long s6, .ref s7]) rfl (as := [.ref l1, .int l5, .int (l3 + 1)]) rfl h9 (Or.inl h10) ⟨Nat.le_of_ble_eq_true rfl, Nat.le_of_ble_eq_true rfl, Nat.le_of_ble_eq_true rfl⟩ h11
theorem b_87_329 {d : Nat} {Q : (Option Value ⊕ Nat) → mi_H → Prop} (n sl : Nat) (f : Nat → mi_C) {l1 : Nat} {l2 : Int32} {l3 : Int32} {l4 : Int32} {l5 : Int32} {s6 : Int64} {s7 : Int64} {s8 : Nat} {fs9 : List Value} (h10 : f s8 = .inr (10, fs9)) (h11 : s8 < n) (h12 : mi_W d 91 0 (mi_en 3 [.ref s8, .long (s7 + s6)]) [] (n, sl, f) (mi_Kc d 87 330 [some (.ref l1), some (.int l2), some (.int l3), some (.int l4), some (.int l5)] [] Q)) : mi_W (d + 1) 87 329 [some (.ref l1), some (.int l2), some (.int l3), some (.int l4), some (.int l5)] [.long s6, .long s7, .ref s8] (n, sl, f) Q := by
  refine w_ladd cd_87_329 ?_
  exact w_invokevirtual cd_87_330 (show mt_m 10 69 = some (91, 0) by decide +kernel) (rest := []) rfl (as := [.ref s8, .long (s7 + s6)]) rfl h10 (Or.inl h11) ⟨Nat.le_of_ble_eq_true rfl, Nat.le_of_ble_eq_true rfl, Nat.le_of_ble_eq_true rfl⟩ h12
theorem b_87_333 {d : Nat} {Q : (Option Value ⊕ Nat) → mi_H → Prop} (n sl : Nat) (f : Nat → mi_C) {l1 : Nat} {l2 : Int32} {l3 : Int32} {l4 : Int32} {l5 : Int32} {s6 : Int64} (h7 : Q (.inl (some (.long s6))) (n, sl, f)) : mi_W d 87 333 [some (.ref l1), some (.int l2), some (.int l3), some (.int l4), some (.int l5)] [.long s6] (n, sl, f) Q := by
  exact w_lreturn cd_87_333 (by decide +kernel) h7
theorem b_87_334 {d : Nat} {Q : (Option Value ⊕ Nat) → mi_H → Prop} (n sl : Nat) (f : Nat → mi_C) {l1 : Nat} {l2 : Int32} {l3 : Int32} {l4 : Int32} {l5 : Int32} {fs6 : List Value} (h7 : f l1 = .inr (10, fs6)) (h8 : l1 < n) (h9 : mi_W d 87 0 (mi_en 5 [.ref l1, .int l4, .int (l3 + 1)]) [] (n, sl, f) (mi_Kc d 87 340 [some (.ref l1), some (.int l2), some (.int l3), some (.int l4), some (.int l5)] [.ref l1] Q)) : mi_W (d + 1) 87 334 [some (.ref l1), some (.int l2), some (.int l3), some (.int l4), some (.int l5)] [] (n, sl, f) Q := by
  refine w_aload_n cd_87_334 rfl ?_
  refine w_aload_n cd_87_335 rfl ?_
  refine w_iload_n cd_87_336 rfl ?_
  refine w_iload_n cd_87_337 rfl ?_
  refine w_iconst (v := 1) cd_87_338 (by decide) ?_
  refine w_iadd cd_87_339 ?_
  exact w_invokevirtual cd_87_340 (show mt_m 10 73 = some (87, 0) by decide +kernel) (rest := [.ref l1]) rfl (as := [.ref l1, .int l4, .int (l3 + 1)]) rfl h7 (Or.inl h8) ⟨Nat.le_of_ble_eq_true rfl, Nat.le_of_ble_eq_true rfl, Nat.le_of_ble_eq_true rfl⟩ h9
theorem b_87_343 {d : Nat} {Q : (Option Value ⊕ Nat) → mi_H → Prop} (n sl : Nat) (f : Nat → mi_C) {l1 : Nat} {l2 : Int32} {l3 : Int32} {l4 : Int32} {l5 : Int32} {s6 : Int64} {s7 : Nat} {fs8 : List Value} (h9 : f l1 = .inr (10, fs8)) (h10 : l1 < n) (h11 : mi_W d 87 0 (mi_en 5 [.ref l1, .int l5, .int (l3 + 1)]) [] (n, sl, f) (mi_Kc d 87 349 [some (.ref l1), some (.int l2), some (.int l3), some (.int l4), some (.int l5)] [.long s6, .ref s7] Q)) : mi_W (d + 1) 87 343 [some (.ref l1), some (.int l2), some (.int l3), some (.int l4), some (.int l5)] [.long s6, .ref s7] (n, sl, f) Q := by
  refine w_aload_n cd_87_343 rfl ?_
  refine w_iload cd_87_344 rfl ?_
  refine w_iload_n cd_87_346 rfl ?_
  refine w_iconst (v := 1) cd_87_347 (by decide) ?_
  refine w_iadd cd_87_348 ?_
  exact w_invokevirtual cd_87_349 (show mt_m 10 73 = some (87, 0) by decide +kernel) (rest := [.long s6, .ref s7]) rfl (as := [.ref l1, .int l5, .int (l3 + 1)]) rfl h9 (Or.inl h10) ⟨Nat.le_of_ble_eq_true rfl, Nat.le_of_ble_eq_true rfl, Nat.le_of_ble_eq_true rfl⟩ h11
theorem b_87_352 {d : Nat} {Q : (Option Value ⊕ Nat) → mi_H → Prop} (n sl : Nat) (f : Nat → mi_C) {l1 : Nat} {l2 : Int32} {l3 : Int32} {l4 : Int32} {l5 : Int32} {s6 : Int64} {s7 : Int64} {s8 : Nat} {fs9 : List Value} (h10 : f s8 = .inr (10, fs9)) (h11 : s8 < n) (h12 : mi_W d 91 0 (mi_en 3 [.ref s8, .long (s7 - s6)]) [] (n, sl, f) (mi_Kc d 87 353 [some (.ref l1), some (.int l2), some (.int l3), some (.int l4), some (.int l5)] [] Q)) : mi_W (d + 1) 87 352 [some (.ref l1), some (.int l2), some (.int l3), some (.int l4), some (.int l5)] [.long s6, .long s7, .ref s8] (n, sl, f) Q := by
  refine w_lsub cd_87_352 ?_
  exact w_invokevirtual cd_87_353 (show mt_m 10 69 = some (91, 0) by decide +kernel) (rest := []) rfl (as := [.ref s8, .long (s7 - s6)]) rfl h10 (Or.inl h11) ⟨Nat.le_of_ble_eq_true rfl, Nat.le_of_ble_eq_true rfl, Nat.le_of_ble_eq_true rfl⟩ h12
theorem b_87_356 {d : Nat} {Q : (Option Value ⊕ Nat) → mi_H → Prop} (n sl : Nat) (f : Nat → mi_C) {l1 : Nat} {l2 : Int32} {l3 : Int32} {l4 : Int32} {l5 : Int32} {s6 : Int64} (h7 : Q (.inl (some (.long s6))) (n, sl, f)) : mi_W d 87 356 [some (.ref l1), some (.int l2), some (.int l3), some (.int l4), some (.int l5)] [.long s6] (n, sl, f) Q := by
  exact w_lreturn cd_87_356 (by decide +kernel) h7
theorem b_87_357 {d : Nat} {Q : (Option Value ⊕ Nat) → mi_H → Prop} (n sl : Nat) (f : Nat → mi_C) {l1 : Nat} {l2 : Int32} {l3 : Int32} {l4 : Int32} {l5 : Int32} {fs6 : List Value} (h7 : f l1 = .inr (10, fs6)) (h8 : l1 < n) (h9 : mi_W d 87 0 (mi_en 5 [.ref l1, .int l4, .int (l3 + 1)]) [] (n, sl, f) (mi_Kc d 87 363 [some (.ref l1), some (.int l2), some (.int l3), some (.int l4), some (.int l5)] [.ref l1] Q)) : mi_W (d + 1) 87 357 [some (.ref l1), some (.int l2), some (.int l3), some (.int l4), some (.int l5)] [] (n, sl, f) Q := by
  refine w_aload_n cd_87_357 rfl ?_
  refine w_aload_n cd_87_358 rfl ?_
  refine w_iload_n cd_87_359 rfl ?_
  refine w_iload_n cd_87_360 rfl ?_
  refine w_iconst (v := 1) cd_87_361 (by decide) ?_
  refine w_iadd cd_87_362 ?_
  exact w_invokevirtual cd_87_363 (show mt_m 10 73 = some (87, 0) by decide +kernel) (rest := [.ref l1]) rfl (as := [.ref l1, .int l4, .int (l3 + 1)]) rfl h7 (Or.inl h8) ⟨Nat.le_of_ble_eq_true rfl, Nat.le_of_ble_eq_true rfl, Nat.le_of_ble_eq_true rfl⟩ h9
theorem b_87_366 {d : Nat} {Q : (Option Value ⊕ Nat) → mi_H → Prop} (n sl : Nat) (f : Nat → mi_C) {l1 : Nat} {l2 : Int32} {l3 : Int32} {l4 : Int32} {l5 : Int32} {s6 : Int64} {s7 : Nat} {fs8 : List Value} (h9 : f l1 = .inr (10, fs8)) (h10 : l1 < n) (h11 : mi_W d 87 0 (mi_en 5 [.ref l1, .int l5, .int (l3 + 1)]) [] (n, sl, f) (mi_Kc d 87 372 [some (.ref l1), some (.int l2), some (.int l3), some (.int l4), some (.int l5)] [.long s6, .ref s7] Q)) : mi_W (d + 1) 87 366 [some (.ref l1), some (.int l2), some (.int l3), some (.int l4), some (.int l5)] [.long s6, .ref s7] (n, sl, f) Q := by
  refine w_aload_n cd_87_366 rfl ?_
  refine w_iload cd_87_367 rfl ?_
  refine w_iload_n cd_87_369 rfl ?_
  refine w_iconst (v := 1) cd_87_370 (by decide) ?_
  refine w_iadd cd_87_371 ?_
  exact w_invokevirtual cd_87_372 (show mt_m 10 73 = some (87, 0) by decide +kernel) (rest := [.long s6, .ref s7]) rfl (as := [.ref l1, .int l5, .int (l3 + 1)]) rfl h9 (Or.inl h10) ⟨Nat.le_of_ble_eq_true rfl, Nat.le_of_ble_eq_true rfl, Nat.le_of_ble_eq_true rfl⟩ h11
theorem b_87_375 {d : Nat} {Q : (Option Value ⊕ Nat) → mi_H → Prop} (n sl : Nat) (f : Nat → mi_C) {l1 : Nat} {l2 : Int32} {l3 : Int32} {l4 : Int32} {l5 : Int32} {s6 : Int64} {s7 : Int64} {s8 : Nat} {fs9 : List Value} (h10 : f s8 = .inr (10, fs9)) (h11 : s8 < n) (h12 : mi_W d 95 0 (mi_en 5 [.ref s8, .long s7, .long s6]) [] (n, sl, f) (mi_Kc d 87 375 [some (.ref l1), some (.int l2), some (.int l3), some (.int l4), some (.int l5)] [] Q)) : mi_W (d + 1) 87 375 [some (.ref l1), some (.int l2), some (.int l3), some (.int l4), some (.int l5)] [.long s6, .long s7, .ref s8] (n, sl, f) Q := by
  exact w_invokevirtual cd_87_375 (show mt_m 10 83 = some (95, 0) by decide +kernel) (rest := []) rfl (as := [.ref s8, .long s7, .long s6]) rfl h10 (Or.inl h11) ⟨Nat.le_of_ble_eq_true rfl, Nat.le_of_ble_eq_true rfl, Nat.le_of_ble_eq_true rfl⟩ h12
theorem b_87_378 {d : Nat} {Q : (Option Value ⊕ Nat) → mi_H → Prop} (n sl : Nat) (f : Nat → mi_C) {l1 : Nat} {l2 : Int32} {l3 : Int32} {l4 : Int32} {l5 : Int32} {s6 : Int64} (h7 : Q (.inl (some (.long s6))) (n, sl, f)) : mi_W d 87 378 [some (.ref l1), some (.int l2), some (.int l3), some (.int l4), some (.int l5)] [.long s6] (n, sl, f) Q := by
  exact w_lreturn cd_87_378 (by decide +kernel) h7
theorem b_87_379 {d : Nat} {Q : (Option Value ⊕ Nat) → mi_H → Prop} (n sl : Nat) (f : Nat → mi_C) {l1 : Nat} {l2 : Int32} {l3 : Int32} {l4 : Int32} {l5 : Int32} {fs6 : List Value} (h7 : f l1 = .inr (10, fs6)) (h8 : l1 < n) (h9 : mi_W d 87 0 (mi_en 5 [.ref l1, .int l4, .int (l3 + 1)]) [] (n, sl, f) (mi_Kc d 87 384 [some (.ref l1), some (.int l2), some (.int l3), some (.int l4), some (.int l5)] [] Q)) : mi_W (d + 1) 87 379 [some (.ref l1), some (.int l2), some (.int l3), some (.int l4), some (.int l5)] [] (n, sl, f) Q := by
  refine w_aload_n cd_87_379 rfl ?_
  refine w_iload_n cd_87_380 rfl ?_
  refine w_iload_n cd_87_381 rfl ?_
  refine w_iconst (v := 1) cd_87_382 (by decide) ?_
  refine w_iadd cd_87_383 ?_
  exact w_invokevirtual cd_87_384 (show mt_m 10 73 = some (87, 0) by decide +kernel) (rest := []) rfl (as := [.ref l1, .int l4, .int (l3 + 1)]) rfl h7 (Or.inl h8) ⟨Nat.le_of_ble_eq_true rfl, Nat.le_of_ble_eq_true rfl, Nat.le_of_ble_eq_true rfl⟩ h9
theorem b_87_387 {d : Nat} {Q : (Option Value ⊕ Nat) → mi_H → Prop} (n sl : Nat) (f : Nat → mi_C) {l1 : Nat} {l2 : Int32} {l3 : Int32} {l4 : Int32} {l5 : Int32} {s6 : Int64} {fs7 : List Value} (h8 : f l1 = .inr (10, fs7)) (h9 : l1 < n) (h10 : mi_W d 87 0 (mi_en 5 [.ref l1, .int l5, .int (l3 + 1)]) [] (n, sl, f) (mi_Kc d 87 393 [some (.ref l1), some (.int l2), some (.int l3), some (.int l4), some (.int l5)] [.long s6] Q)) : mi_W (d + 1) 87 387 [some (.ref l1), some (.int l2), some (.int l3), some (.int l4), some (.int l5)] [.long s6] (n, sl, f) Q := by
  refine w_aload_n cd_87_387 rfl ?_
  refine w_iload cd_87_388 rfl ?_
  refine w_iload_n cd_87_390 rfl ?_
  refine w_iconst (v := 1) cd_87_391 (by decide) ?_
  refine w_iadd cd_87_392 ?_
  exact w_invokevirtual cd_87_393 (show mt_m 10 73 = some (87, 0) by decide +kernel) (rest := [.long s6]) rfl (as := [.ref l1, .int l5, .int (l3 + 1)]) rfl h8 (Or.inl h9) ⟨Nat.le_of_ble_eq_true rfl, Nat.le_of_ble_eq_true rfl, Nat.le_of_ble_eq_true rfl⟩ h10
theorem b_87_396 {d : Nat} {Q : (Option Value ⊕ Nat) → mi_H → Prop} (n sl : Nat) (f : Nat → mi_C) {l1 : Nat} {l2 : Int32} {l3 : Int32} {l4 : Int32} {l5 : Int32} {s6 : Int64} {s7 : Int64} (h8 : mi_W d 97 0 (mi_en 4 [.long s7, .long s6]) [] (n, sl, f) (mi_Kc d 87 396 [some (.ref l1), some (.int l2), some (.int l3), some (.int l4), some (.int l5)] [] Q)) : mi_W (d + 1) 87 396 [some (.ref l1), some (.int l2), some (.int l3), some (.int l4), some (.int l5)] [.long s6, .long s7] (n, sl, f) Q := by
  exact w_invokestatic cd_87_396 (show mt_m 10 87 = some (97, 4) by decide +kernel) (by decide) (rest := []) rfl (as := [.long s7, .long s6]) rfl ⟨Nat.le_of_ble_eq_true rfl, Nat.le_of_ble_eq_true rfl, Nat.le_of_ble_eq_true rfl⟩ h8
theorem b_87_399 {d : Nat} {Q : (Option Value ⊕ Nat) → mi_H → Prop} (n sl : Nat) (f : Nat → mi_C) {l1 : Nat} {l2 : Int32} {l3 : Int32} {l4 : Int32} {l5 : Int32} {s6 : Int64} (h7 : Q (.inl (some (.long s6))) (n, sl, f)) : mi_W d 87 399 [some (.ref l1), some (.int l2), some (.int l3), some (.int l4), some (.int l5)] [.long s6] (n, sl, f) Q := by
  exact w_lreturn cd_87_399 (by decide +kernel) h7
/-! MarloweHost$Situation.balance(II)J -/
set_option maxRecDepth 100000 in
theorem mq_88 : mt_q 88 = my_88 := rfl
set_option maxRecDepth 100000 in
theorem ci_88 : mt_inc 0 my_88.cd = true := by decide +kernel
theorem cd_88_0 : mt_cd 88 0 = some (.iload_n 1) := mt_cd_of (q := (0, .iload_n 1, 1)) mq_88 ci_88 (List.mem_of_getElem? (i := 0) rfl)
theorem cd_88_1 : mt_cd 88 1 = some (.iconst 4) := mt_cd_of (q := (1, .iconst 4, 1)) mq_88 ci_88 (List.mem_of_getElem? (i := 1) rfl)
theorem cd_88_2 : mt_cd 88 2 = some (.imul) := mt_cd_of (q := (2, .imul, 1)) mq_88 ci_88 (List.mem_of_getElem? (i := 2) rfl)
theorem cd_88_3 : mt_cd 88 3 = some (.iload_n 2) := mt_cd_of (q := (3, .iload_n 2, 1)) mq_88 ci_88 (List.mem_of_getElem? (i := 3) rfl)
theorem cd_88_4 : mt_cd 88 4 = some (.iadd) := mt_cd_of (q := (4, .iadd, 1)) mq_88 ci_88 (List.mem_of_getElem? (i := 4) rfl)
theorem cd_88_5 : mt_cd 88 5 = some (.istore_n 3) := mt_cd_of (q := (5, .istore_n 3, 1)) mq_88 ci_88 (List.mem_of_getElem? (i := 5) rfl)
theorem cd_88_6 : mt_cd 88 6 = some (.iload_n 3) := mt_cd_of (q := (6, .iload_n 3, 1)) mq_88 ci_88 (List.mem_of_getElem? (i := 6) rfl)
theorem cd_88_7 : mt_cd 88 7 = some (.ifCond .lt 18) := mt_cd_of (q := (7, .ifCond .lt 18, 3)) mq_88 ci_88 (List.mem_of_getElem? (i := 7) rfl)
theorem cd_88_10 : mt_cd 88 10 = some (.iload_n 3) := mt_cd_of (q := (10, .iload_n 3, 1)) mq_88 ci_88 (List.mem_of_getElem? (i := 8) rfl)
theorem cd_88_11 : mt_cd 88 11 = some (.bipush 32) := mt_cd_of (q := (11, .bipush 32, 2)) mq_88 ci_88 (List.mem_of_getElem? (i := 9) rfl)
theorem cd_88_13 : mt_cd 88 13 = some (.if_icmp .ge 12) := mt_cd_of (q := (13, .if_icmp .ge 12, 3)) mq_88 ci_88 (List.mem_of_getElem? (i := 10) rfl)
theorem cd_88_16 : mt_cd 88 16 = some (.aload_n 0) := mt_cd_of (q := (16, .aload_n 0, 1)) mq_88 ci_88 (List.mem_of_getElem? (i := 11) rfl)
theorem cd_88_17 : mt_cd 88 17 = some (.getfield 9) := mt_cd_of (q := (17, .getfield 9, 3)) mq_88 ci_88 (List.mem_of_getElem? (i := 12) rfl)
theorem cd_88_20 : mt_cd 88 20 = some (.iload_n 3) := mt_cd_of (q := (20, .iload_n 3, 1)) mq_88 ci_88 (List.mem_of_getElem? (i := 13) rfl)
theorem cd_88_21 : mt_cd 88 21 = some (.laload) := mt_cd_of (q := (21, .laload, 1)) mq_88 ci_88 (List.mem_of_getElem? (i := 14) rfl)
theorem cd_88_22 : mt_cd 88 22 = some (.goto 4) := mt_cd_of (q := (22, .goto 4, 3)) mq_88 ci_88 (List.mem_of_getElem? (i := 15) rfl)
theorem cd_88_25 : mt_cd 88 25 = some (.lconst 0) := mt_cd_of (q := (25, .lconst 0, 1)) mq_88 ci_88 (List.mem_of_getElem? (i := 16) rfl)
theorem cd_88_26 : mt_cd 88 26 = some (.lreturn) := mt_cd_of (q := (26, .lreturn, 1)) mq_88 ci_88 (List.mem_of_getElem? (i := 17) rfl)
theorem b_88_0 {d : Nat} {Q : (Option Value ⊕ Nat) → mi_H → Prop} (n sl : Nat) (f : Nat → mi_C) {l1 : Nat} {l2 : Int32} {l3 : Int32} {o4 : Option Value} (h5 : ((l2 * 4) + l3) < (0 : Int32) → mi_W d 88 25 [some (.ref l1), some (.int l2), some (.int l3), some (.int ((l2 * 4) + l3))] [] (n, sl, f) Q) (h6 : ¬ (((l2 * 4) + l3) < (0 : Int32)) → mi_W d 88 10 [some (.ref l1), some (.int l2), some (.int l3), some (.int ((l2 * 4) + l3))] [] (n, sl, f) Q) : mi_W d 88 0 [some (.ref l1), some (.int l2), some (.int l3), o4] [] (n, sl, f) Q := by
  refine w_iload_n cd_88_0 rfl ?_
  refine w_iconst (v := 4) cd_88_1 (by decide) ?_
  refine w_imul cd_88_2 ?_
  refine w_iload_n cd_88_3 rfl ?_
  refine w_iadd cd_88_4 ?_
  refine w_istore_n (ls' := [some (.ref l1), some (.int l2), some (.int l3), some (.int ((l2 * 4) + l3))]) cd_88_5 (Nat.le_of_ble_eq_true rfl) rfl ?_
  refine w_iload_n cd_88_6 rfl ?_
  exact w_iflt cd_88_7 (by decide) h5 h6
theorem b_88_10 {d : Nat} {Q : (Option Value ⊕ Nat) → mi_H → Prop} (n sl : Nat) (f : Nat → mi_C) {l1 : Nat} {l2 : Int32} {l3 : Int32} {l4 : Int32} (h5 : 32 ≤ l4 → mi_W d 88 25 [some (.ref l1), some (.int l2), some (.int l3), some (.int l4)] [] (n, sl, f) Q) (h6 : ¬ (32 ≤ l4) → mi_W d 88 16 [some (.ref l1), some (.int l2), some (.int l3), some (.int l4)] [] (n, sl, f) Q) : mi_W d 88 10 [some (.ref l1), some (.int l2), some (.int l3), some (.int l4)] [] (n, sl, f) Q := by
  refine w_iload_n cd_88_10 rfl ?_
  refine w_bipush (v := 32) cd_88_11 (by decide) ?_
  exact w_if_icmpge cd_88_13 (by decide) h5 h6
theorem b_88_16 {d : Nat} {Q : (Option Value ⊕ Nat) → mi_H → Prop} (n sl : Nat) (f : Nat → mi_C) {l1 : Nat} {l2 : Int32} {l3 : Int32} {l4 : Int32} {fs5 : List Value} {x8 : Nat} (m10 i10 : Nat) (g10 : Nat → Int64) (h6 : f l1 = .inr (9, fs5)) (h7 : l1 < n) (h9 : fs5[2]? = some (.ref x8)) (h11 : f x8 = .inl (3, m10, .inr (.inl g10))) (h12 : x8 < n) (h13 : mi_ix l4 m10 i10) (h14 : mi_W d 88 26 [some (.ref l1), some (.int l2), some (.int l3), some (.int l4)] [.long (g10 i10)] (n, sl, f) Q) : mi_W d 88 16 [some (.ref l1), some (.int l2), some (.int l3), some (.int l4)] [] (n, sl, f) Q := by
  refine w_aload_n cd_88_16 rfl ?_
  refine w_getfield cd_88_17 (show mt_f 9 9 = some (9, 2) by decide +kernel) h6 h7 h9 ?_
  refine w_iload_n cd_88_20 rfl ?_
  refine w_laload cd_88_21 h11 h12 h13 ?_
  exact w_goto cd_88_22 (by decide) h14
theorem b_88_25 {d : Nat} {Q : (Option Value ⊕ Nat) → mi_H → Prop} (n sl : Nat) (f : Nat → mi_C) {l1 : Nat} {l2 : Int32} {l3 : Int32} {l4 : Int32} (h5 : mi_W d 88 26 [some (.ref l1), some (.int l2), some (.int l3), some (.int l4)] [.long 0] (n, sl, f) Q) : mi_W d 88 25 [some (.ref l1), some (.int l2), some (.int l3), some (.int l4)] [] (n, sl, f) Q := by
  refine w_lconst (lv := 0) cd_88_25 (by decide) ?_
  exact h5
theorem b_88_26 {d : Nat} {Q : (Option Value ⊕ Nat) → mi_H → Prop} (n sl : Nat) (f : Nat → mi_C) {l1 : Nat} {l2 : Int32} {l3 : Int32} {l4 : Int32} {s5 : Int64} (h6 : Q (.inl (some (.long s5))) (n, sl, f)) : mi_W d 88 26 [some (.ref l1), some (.int l2), some (.int l3), some (.int l4)] [.long s5] (n, sl, f) Q := by
  exact w_lreturn cd_88_26 (by decide +kernel) h6
/-! MarloweHost$Situation.chosenOf(I)J -/
set_option maxRecDepth 100000 in
theorem mq_89 : mt_q 89 = my_89 := rfl
set_option maxRecDepth 100000 in
theorem ci_89 : mt_inc 0 my_89.cd = true := by decide +kernel
theorem cd_89_0 : mt_cd 89 0 = some (.iload_n 1) := mt_cd_of (q := (0, .iload_n 1, 1)) mq_89 ci_89 (List.mem_of_getElem? (i := 0) rfl)
theorem cd_89_1 : mt_cd 89 1 = some (.ifCond .lt 18) := mt_cd_of (q := (1, .ifCond .lt 18, 3)) mq_89 ci_89 (List.mem_of_getElem? (i := 1) rfl)
theorem cd_89_4 : mt_cd 89 4 = some (.iload_n 1) := mt_cd_of (q := (4, .iload_n 1, 1)) mq_89 ci_89 (List.mem_of_getElem? (i := 2) rfl)
theorem cd_89_5 : mt_cd 89 5 = some (.bipush 8) := mt_cd_of (q := (5, .bipush 8, 2)) mq_89 ci_89 (List.mem_of_getElem? (i := 3) rfl)
theorem cd_89_7 : mt_cd 89 7 = some (.if_icmp .ge 12) := mt_cd_of (q := (7, .if_icmp .ge 12, 3)) mq_89 ci_89 (List.mem_of_getElem? (i := 4) rfl)
theorem cd_89_10 : mt_cd 89 10 = some (.aload_n 0) := mt_cd_of (q := (10, .aload_n 0, 1)) mq_89 ci_89 (List.mem_of_getElem? (i := 5) rfl)
theorem cd_89_11 : mt_cd 89 11 = some (.getfield 15) := mt_cd_of (q := (11, .getfield 15, 3)) mq_89 ci_89 (List.mem_of_getElem? (i := 6) rfl)
theorem cd_89_14 : mt_cd 89 14 = some (.iload_n 1) := mt_cd_of (q := (14, .iload_n 1, 1)) mq_89 ci_89 (List.mem_of_getElem? (i := 7) rfl)
theorem cd_89_15 : mt_cd 89 15 = some (.laload) := mt_cd_of (q := (15, .laload, 1)) mq_89 ci_89 (List.mem_of_getElem? (i := 8) rfl)
theorem cd_89_16 : mt_cd 89 16 = some (.goto 4) := mt_cd_of (q := (16, .goto 4, 3)) mq_89 ci_89 (List.mem_of_getElem? (i := 9) rfl)
theorem cd_89_19 : mt_cd 89 19 = some (.lconst 0) := mt_cd_of (q := (19, .lconst 0, 1)) mq_89 ci_89 (List.mem_of_getElem? (i := 10) rfl)
theorem cd_89_20 : mt_cd 89 20 = some (.lreturn) := mt_cd_of (q := (20, .lreturn, 1)) mq_89 ci_89 (List.mem_of_getElem? (i := 11) rfl)
theorem b_89_0 {d : Nat} {Q : (Option Value ⊕ Nat) → mi_H → Prop} (n sl : Nat) (f : Nat → mi_C) {l1 : Nat} {l2 : Int32} (h3 : l2 < (0 : Int32) → mi_W d 89 19 [some (.ref l1), some (.int l2)] [] (n, sl, f) Q) (h4 : ¬ (l2 < (0 : Int32)) → mi_W d 89 4 [some (.ref l1), some (.int l2)] [] (n, sl, f) Q) : mi_W d 89 0 [some (.ref l1), some (.int l2)] [] (n, sl, f) Q := by
  refine w_iload_n cd_89_0 rfl ?_
  exact w_iflt cd_89_1 (by decide) h3 h4
theorem b_89_4 {d : Nat} {Q : (Option Value ⊕ Nat) → mi_H → Prop} (n sl : Nat) (f : Nat → mi_C) {l1 : Nat} {l2 : Int32} (h3 : 8 ≤ l2 → mi_W d 89 19 [some (.ref l1), some (.int l2)] [] (n, sl, f) Q) (h4 : ¬ (8 ≤ l2) → mi_W d 89 10 [some (.ref l1), some (.int l2)] [] (n, sl, f) Q) : mi_W d 89 4 [some (.ref l1), some (.int l2)] [] (n, sl, f) Q := by
  refine w_iload_n cd_89_4 rfl ?_
  refine w_bipush (v := 8) cd_89_5 (by decide) ?_
  exact w_if_icmpge cd_89_7 (by decide) h3 h4
theorem b_89_10 {d : Nat} {Q : (Option Value ⊕ Nat) → mi_H → Prop} (n sl : Nat) (f : Nat → mi_C) {l1 : Nat} {l2 : Int32} {fs3 : List Value} {x6 : Nat} (m8 i8 : Nat) (g8 : Nat → Int64) (h4 : f l1 = .inr (9, fs3)) (h5 : l1 < n) (h7 : fs3[3]? = some (.ref x6)) (h9 : f x6 = .inl (3, m8, .inr (.inl g8))) (h10 : x6 < n) (h11 : mi_ix l2 m8 i8) (h12 : mi_W d 89 20 [some (.ref l1), some (.int l2)] [.long (g8 i8)] (n, sl, f) Q) : mi_W d 89 10 [some (.ref l1), some (.int l2)] [] (n, sl, f) Q := by
  refine w_aload_n cd_89_10 rfl ?_
  refine w_getfield cd_89_11 (show mt_f 9 15 = some (9, 3) by decide +kernel) h4 h5 h7 ?_
  refine w_iload_n cd_89_14 rfl ?_
  refine w_laload cd_89_15 h9 h10 h11 ?_
  exact w_goto cd_89_16 (by decide) h12
theorem b_89_19 {d : Nat} {Q : (Option Value ⊕ Nat) → mi_H → Prop} (n sl : Nat) (f : Nat → mi_C) {l1 : Nat} {l2 : Int32} (h3 : mi_W d 89 20 [some (.ref l1), some (.int l2)] [.long 0] (n, sl, f) Q) : mi_W d 89 19 [some (.ref l1), some (.int l2)] [] (n, sl, f) Q := by
  refine w_lconst (lv := 0) cd_89_19 (by decide) ?_
  exact h3
theorem b_89_20 {d : Nat} {Q : (Option Value ⊕ Nat) → mi_H → Prop} (n sl : Nat) (f : Nat → mi_C) {l1 : Nat} {l2 : Int32} {s3 : Int64} (h4 : Q (.inl (some (.long s3))) (n, sl, f)) : mi_W d 89 20 [some (.ref l1), some (.int l2)] [.long s3] (n, sl, f) Q := by
  exact w_lreturn cd_89_20 (by decide +kernel) h4
/-! MarloweHost$Situation.usedOf(I)J -/
set_option maxRecDepth 100000 in
theorem mq_90 : mt_q 90 = my_90 := rfl
set_option maxRecDepth 100000 in
theorem ci_90 : mt_inc 0 my_90.cd = true := by decide +kernel
theorem cd_90_0 : mt_cd 90 0 = some (.iload_n 1) := mt_cd_of (q := (0, .iload_n 1, 1)) mq_90 ci_90 (List.mem_of_getElem? (i := 0) rfl)
theorem cd_90_1 : mt_cd 90 1 = some (.ifCond .lt 18) := mt_cd_of (q := (1, .ifCond .lt 18, 3)) mq_90 ci_90 (List.mem_of_getElem? (i := 1) rfl)
theorem cd_90_4 : mt_cd 90 4 = some (.iload_n 1) := mt_cd_of (q := (4, .iload_n 1, 1)) mq_90 ci_90 (List.mem_of_getElem? (i := 2) rfl)
theorem cd_90_5 : mt_cd 90 5 = some (.bipush 8) := mt_cd_of (q := (5, .bipush 8, 2)) mq_90 ci_90 (List.mem_of_getElem? (i := 3) rfl)
theorem cd_90_7 : mt_cd 90 7 = some (.if_icmp .ge 12) := mt_cd_of (q := (7, .if_icmp .ge 12, 3)) mq_90 ci_90 (List.mem_of_getElem? (i := 4) rfl)
theorem cd_90_10 : mt_cd 90 10 = some (.aload_n 0) := mt_cd_of (q := (10, .aload_n 0, 1)) mq_90 ci_90 (List.mem_of_getElem? (i := 5) rfl)
theorem cd_90_11 : mt_cd 90 11 = some (.getfield 18) := mt_cd_of (q := (11, .getfield 18, 3)) mq_90 ci_90 (List.mem_of_getElem? (i := 6) rfl)
theorem cd_90_14 : mt_cd 90 14 = some (.iload_n 1) := mt_cd_of (q := (14, .iload_n 1, 1)) mq_90 ci_90 (List.mem_of_getElem? (i := 7) rfl)
theorem cd_90_15 : mt_cd 90 15 = some (.laload) := mt_cd_of (q := (15, .laload, 1)) mq_90 ci_90 (List.mem_of_getElem? (i := 8) rfl)
theorem cd_90_16 : mt_cd 90 16 = some (.goto 4) := mt_cd_of (q := (16, .goto 4, 3)) mq_90 ci_90 (List.mem_of_getElem? (i := 9) rfl)
theorem cd_90_19 : mt_cd 90 19 = some (.lconst 0) := mt_cd_of (q := (19, .lconst 0, 1)) mq_90 ci_90 (List.mem_of_getElem? (i := 10) rfl)
theorem cd_90_20 : mt_cd 90 20 = some (.lreturn) := mt_cd_of (q := (20, .lreturn, 1)) mq_90 ci_90 (List.mem_of_getElem? (i := 11) rfl)
theorem b_90_0 {d : Nat} {Q : (Option Value ⊕ Nat) → mi_H → Prop} (n sl : Nat) (f : Nat → mi_C) {l1 : Nat} {l2 : Int32} (h3 : l2 < (0 : Int32) → mi_W d 90 19 [some (.ref l1), some (.int l2)] [] (n, sl, f) Q) (h4 : ¬ (l2 < (0 : Int32)) → mi_W d 90 4 [some (.ref l1), some (.int l2)] [] (n, sl, f) Q) : mi_W d 90 0 [some (.ref l1), some (.int l2)] [] (n, sl, f) Q := by
  refine w_iload_n cd_90_0 rfl ?_
  exact w_iflt cd_90_1 (by decide) h3 h4
theorem b_90_4 {d : Nat} {Q : (Option Value ⊕ Nat) → mi_H → Prop} (n sl : Nat) (f : Nat → mi_C) {l1 : Nat} {l2 : Int32} (h3 : 8 ≤ l2 → mi_W d 90 19 [some (.ref l1), some (.int l2)] [] (n, sl, f) Q) (h4 : ¬ (8 ≤ l2) → mi_W d 90 10 [some (.ref l1), some (.int l2)] [] (n, sl, f) Q) : mi_W d 90 4 [some (.ref l1), some (.int l2)] [] (n, sl, f) Q := by
  refine w_iload_n cd_90_4 rfl ?_
  refine w_bipush (v := 8) cd_90_5 (by decide) ?_
  exact w_if_icmpge cd_90_7 (by decide) h3 h4
theorem b_90_10 {d : Nat} {Q : (Option Value ⊕ Nat) → mi_H → Prop} (n sl : Nat) (f : Nat → mi_C) {l1 : Nat} {l2 : Int32} {fs3 : List Value} {x6 : Nat} (m8 i8 : Nat) (g8 : Nat → Int64) (h4 : f l1 = .inr (9, fs3)) (h5 : l1 < n) (h7 : fs3[4]? = some (.ref x6)) (h9 : f x6 = .inl (3, m8, .inr (.inl g8))) (h10 : x6 < n) (h11 : mi_ix l2 m8 i8) (h12 : mi_W d 90 20 [some (.ref l1), some (.int l2)] [.long (g8 i8)] (n, sl, f) Q) : mi_W d 90 10 [some (.ref l1), some (.int l2)] [] (n, sl, f) Q := by
  refine w_aload_n cd_90_10 rfl ?_
  refine w_getfield cd_90_11 (show mt_f 9 18 = some (9, 4) by decide +kernel) h4 h5 h7 ?_
  refine w_iload_n cd_90_14 rfl ?_
  refine w_laload cd_90_15 h9 h10 h11 ?_
  exact w_goto cd_90_16 (by decide) h12
theorem b_90_19 {d : Nat} {Q : (Option Value ⊕ Nat) → mi_H → Prop} (n sl : Nat) (f : Nat → mi_C) {l1 : Nat} {l2 : Int32} (h3 : mi_W d 90 20 [some (.ref l1), some (.int l2)] [.long 0] (n, sl, f) Q) : mi_W d 90 19 [some (.ref l1), some (.int l2)] [] (n, sl, f) Q := by
  refine w_lconst (lv := 0) cd_90_19 (by decide) ?_
  exact h3
theorem b_90_20 {d : Nat} {Q : (Option Value ⊕ Nat) → mi_H → Prop} (n sl : Nat) (f : Nat → mi_C) {l1 : Nat} {l2 : Int32} {s3 : Int64} (h4 : Q (.inl (some (.long s3))) (n, sl, f)) : mi_W d 90 20 [some (.ref l1), some (.int l2)] [.long s3] (n, sl, f) Q := by
  exact w_lreturn cd_90_20 (by decide +kernel) h4
/-! MarloweHost$Reckoner.bounded(J)J -/
set_option maxRecDepth 100000 in
theorem mq_91 : mt_q 91 = my_91 := rfl
set_option maxRecDepth 100000 in
theorem ci_91 : mt_inc 0 my_91.cd = true := by decide +kernel
theorem cd_91_0 : mt_cd 91 0 = some (.lload_n 1) := mt_cd_of (q := (0, .lload_n 1, 1)) mq_91 ci_91 (List.mem_of_getElem? (i := 0) rfl)
theorem cd_91_1 : mt_cd 91 1 = some (.ldc2_w 102) := mt_cd_of (q := (1, .ldc2_w 102, 3)) mq_91 ci_91 (List.mem_of_getElem? (i := 1) rfl)
theorem cd_91_4 : mt_cd 91 4 = some (.lcmp) := mt_cd_of (q := (4, .lcmp, 1)) mq_91 ci_91 (List.mem_of_getElem? (i := 2) rfl)
theorem cd_91_5 : mt_cd 91 5 = some (.ifCond .gt 11) := mt_cd_of (q := (5, .ifCond .gt 11, 3)) mq_91 ci_91 (List.mem_of_getElem? (i := 3) rfl)
theorem cd_91_8 : mt_cd 91 8 = some (.lload_n 1) := mt_cd_of (q := (8, .lload_n 1, 1)) mq_91 ci_91 (List.mem_of_getElem? (i := 4) rfl)
theorem cd_91_9 : mt_cd 91 9 = some (.ldc2_w 104) := mt_cd_of (q := (9, .ldc2_w 104, 3)) mq_91 ci_91 (List.mem_of_getElem? (i := 5) rfl)
theorem cd_91_12 : mt_cd 91 12 = some (.lcmp) := mt_cd_of (q := (12, .lcmp, 1)) mq_91 ci_91 (List.mem_of_getElem? (i := 6) rfl)
theorem cd_91_13 : mt_cd 91 13 = some (.ifCond .ge 10) := mt_cd_of (q := (13, .ifCond .ge 10, 3)) mq_91 ci_91 (List.mem_of_getElem? (i := 7) rfl)
theorem cd_91_16 : mt_cd 91 16 = some (.aload_n 0) := mt_cd_of (q := (16, .aload_n 0, 1)) mq_91 ci_91 (List.mem_of_getElem? (i := 8) rfl)
theorem cd_91_17 : mt_cd 91 17 = some (.iconst 1) := mt_cd_of (q := (17, .iconst 1, 1)) mq_91 ci_91 (List.mem_of_getElem? (i := 9) rfl)
theorem cd_91_18 : mt_cd 91 18 = some (.putfield 26) := mt_cd_of (q := (18, .putfield 26, 3)) mq_91 ci_91 (List.mem_of_getElem? (i := 10) rfl)
theorem cd_91_21 : mt_cd 91 21 = some (.lconst 0) := mt_cd_of (q := (21, .lconst 0, 1)) mq_91 ci_91 (List.mem_of_getElem? (i := 11) rfl)
theorem cd_91_22 : mt_cd 91 22 = some (.lreturn) := mt_cd_of (q := (22, .lreturn, 1)) mq_91 ci_91 (List.mem_of_getElem? (i := 12) rfl)
theorem cd_91_23 : mt_cd 91 23 = some (.lload_n 1) := mt_cd_of (q := (23, .lload_n 1, 1)) mq_91 ci_91 (List.mem_of_getElem? (i := 13) rfl)
theorem cd_91_24 : mt_cd 91 24 = some (.lreturn) := mt_cd_of (q := (24, .lreturn, 1)) mq_91 ci_91 (List.mem_of_getElem? (i := 14) rfl)
theorem b_91_0 {d : Nat} {Q : (Option Value ⊕ Nat) → mi_H → Prop} (n sl : Nat) (f : Nat → mi_C) {l1 : Nat} {l2 : Int64} (h3 : (0 : Int32) < (lg_cmp l2 4611686018427387904) → mi_W d 91 16 [some (.ref l1), some (.long l2), none] [] (n, sl, f) Q) (h4 : ¬ ((0 : Int32) < (lg_cmp l2 4611686018427387904)) → mi_W d 91 8 [some (.ref l1), some (.long l2), none] [] (n, sl, f) Q) : mi_W d 91 0 [some (.ref l1), some (.long l2), none] [] (n, sl, f) Q := by
  refine w_lload_n cd_91_0 rfl ?_
  refine w_ldc2_w (lv := 4611686018427387904) cd_91_1 (by decide +kernel) ?_
  refine w_lcmp cd_91_4 ?_
  exact w_ifgt cd_91_5 (by decide) h3 h4
theorem b_91_8 {d : Nat} {Q : (Option Value ⊕ Nat) → mi_H → Prop} (n sl : Nat) (f : Nat → mi_C) {l1 : Nat} {l2 : Int64} (h3 : (0 : Int32) ≤ (lg_cmp l2 ((-4611686018427387904))) → mi_W d 91 23 [some (.ref l1), some (.long l2), none] [] (n, sl, f) Q) (h4 : ¬ ((0 : Int32) ≤ (lg_cmp l2 ((-4611686018427387904)))) → mi_W d 91 16 [some (.ref l1), some (.long l2), none] [] (n, sl, f) Q) : mi_W d 91 8 [some (.ref l1), some (.long l2), none] [] (n, sl, f) Q := by
  refine w_lload_n cd_91_8 rfl ?_
  refine w_ldc2_w (lv := (-4611686018427387904)) cd_91_9 (by decide +kernel) ?_
  refine w_lcmp cd_91_12 ?_
  exact w_ifge cd_91_13 (by decide) h3 h4
theorem b_91_16 {d : Nat} {Q : (Option Value ⊕ Nat) → mi_H → Prop} (n sl : Nat) (f : Nat → mi_C) {l1 : Nat} {l2 : Int64} {fs3 : List Value} (h4 : f l1 = .inr (10, fs3)) (h5 : l1 < n) (h6 : 4 < fs3.length) (h7 : mi_fk .boolean (.int 1) = true) (h8 : Q (.inl (some (.long 0))) (n, sl, (va_up f l1 (.inr (10, fs3.set 4 (.int 1)))))) : mi_W d 91 16 [some (.ref l1), some (.long l2), none] [] (n, sl, f) Q := by
  refine w_aload_n cd_91_16 rfl ?_
  refine w_iconst (v := 1) cd_91_17 (by decide) ?_
  refine w_putfield (w := .int 1) cd_91_18 (show mt_f 10 26 = some (10, 4) by decide +kernel) h4 h5 ⟨h6, h7, Or.inl (by decide)⟩ ?_
  refine w_lconst (lv := 0) cd_91_21 (by decide) ?_
  exact w_lreturn cd_91_22 (by decide +kernel) h8
theorem b_91_23 {d : Nat} {Q : (Option Value ⊕ Nat) → mi_H → Prop} (n sl : Nat) (f : Nat → mi_C) {l1 : Nat} {l2 : Int64} (h3 : Q (.inl (some (.long l2))) (n, sl, f)) : mi_W d 91 23 [some (.ref l1), some (.long l2), none] [] (n, sl, f) Q := by
  refine w_lload_n cd_91_23 rfl ?_
  exact w_lreturn cd_91_24 (by decide +kernel) h3
/-! MarloweHost$Reckoner.truth(II)Z -/
set_option maxRecDepth 100000 in
theorem mq_92 : mt_q 92 = my_92 := rfl
set_option maxRecDepth 100000 in
theorem ci_92 : mt_inc 0 my_92.cd = true := by decide +kernel
theorem cd_92_0 : mt_cd 92 0 = some (.aload_n 0) := mt_cd_of (q := (0, .aload_n 0, 1)) mq_92 ci_92 (List.mem_append_left _ (show _ ∈ my_92_0 from List.mem_of_getElem? (i := 0) rfl))
theorem cd_92_1 : mt_cd 92 1 = some (.getfield 26) := mt_cd_of (q := (1, .getfield 26, 3)) mq_92 ci_92 (List.mem_append_left _ (show _ ∈ my_92_0 from List.mem_of_getElem? (i := 1) rfl))
theorem cd_92_4 : mt_cd 92 4 = some (.ifCond .ne 20) := mt_cd_of (q := (4, .ifCond .ne 20, 3)) mq_92 ci_92 (List.mem_append_left _ (show _ ∈ my_92_0 from List.mem_of_getElem? (i := 2) rfl))
theorem cd_92_7 : mt_cd 92 7 = some (.iload_n 2) := mt_cd_of (q := (7, .iload_n 2, 1)) mq_92 ci_92 (List.mem_append_left _ (show _ ∈ my_92_0 from List.mem_of_getElem? (i := 3) rfl))
theorem cd_92_8 : mt_cd 92 8 = some (.bipush 100) := mt_cd_of (q := (8, .bipush 100, 2)) mq_92 ci_92 (List.mem_append_left _ (show _ ∈ my_92_0 from List.mem_of_getElem? (i := 4) rfl))
theorem cd_92_10 : mt_cd 92 10 = some (.if_icmp .gt 14) := mt_cd_of (q := (10, .if_icmp .gt 14, 3)) mq_92 ci_92 (List.mem_append_left _ (show _ ∈ my_92_0 from List.mem_of_getElem? (i := 5) rfl))
theorem cd_92_13 : mt_cd 92 13 = some (.aload_n 0) := mt_cd_of (q := (13, .aload_n 0, 1)) mq_92 ci_92 (List.mem_append_left _ (show _ ∈ my_92_0 from List.mem_of_getElem? (i := 6) rfl))
theorem cd_92_14 : mt_cd 92 14 = some (.getfield 9) := mt_cd_of (q := (14, .getfield 9, 3)) mq_92 ci_92 (List.mem_append_left _ (show _ ∈ my_92_0 from List.mem_of_getElem? (i := 7) rfl))
theorem cd_92_17 : mt_cd 92 17 = some (.iload_n 1) := mt_cd_of (q := (17, .iload_n 1, 1)) mq_92 ci_92 (List.mem_append_left _ (show _ ∈ my_92_0 from List.mem_of_getElem? (i := 8) rfl))
theorem cd_92_18 : mt_cd 92 18 = some (.invokevirtual 30) := mt_cd_of (q := (18, .invokevirtual 30, 3)) mq_92 ci_92 (List.mem_append_left _ (show _ ∈ my_92_0 from List.mem_of_getElem? (i := 9) rfl))
theorem cd_92_21 : mt_cd 92 21 = some (.ifCond .ne 5) := mt_cd_of (q := (21, .ifCond .ne 5, 3)) mq_92 ci_92 (List.mem_append_left _ (show _ ∈ my_92_0 from List.mem_of_getElem? (i := 10) rfl))
theorem cd_92_24 : mt_cd 92 24 = some (.iconst 0) := mt_cd_of (q := (24, .iconst 0, 1)) mq_92 ci_92 (List.mem_append_left _ (show _ ∈ my_92_0 from List.mem_of_getElem? (i := 11) rfl))
theorem cd_92_25 : mt_cd 92 25 = some (.ireturn) := mt_cd_of (q := (25, .ireturn, 1)) mq_92 ci_92 (List.mem_append_left _ (show _ ∈ my_92_0 from List.mem_of_getElem? (i := 12) rfl))
theorem cd_92_26 : mt_cd 92 26 = some (.aload_n 0) := mt_cd_of (q := (26, .aload_n 0, 1)) mq_92 ci_92 (List.mem_append_left _ (show _ ∈ my_92_0 from List.mem_of_getElem? (i := 13) rfl))
theorem cd_92_27 : mt_cd 92 27 = some (.getfield 9) := mt_cd_of (q := (27, .getfield 9, 3)) mq_92 ci_92 (List.mem_append_left _ (show _ ∈ my_92_0 from List.mem_of_getElem? (i := 14) rfl))
theorem cd_92_30 : mt_cd 92 30 = some (.getfield 43) := mt_cd_of (q := (30, .getfield 43, 3)) mq_92 ci_92 (List.mem_append_left _ (show _ ∈ my_92_0 from List.mem_of_getElem? (i := 15) rfl))
theorem cd_92_33 : mt_cd 92 33 = some (.iload_n 1) := mt_cd_of (q := (33, .iload_n 1, 1)) mq_92 ci_92 (List.mem_append_left _ (show _ ∈ my_92_0 from List.mem_of_getElem? (i := 16) rfl))
theorem cd_92_34 : mt_cd 92 34 = some (.iaload) := mt_cd_of (q := (34, .iaload, 1)) mq_92 ci_92 (List.mem_append_left _ (show _ ∈ my_92_0 from List.mem_of_getElem? (i := 17) rfl))
theorem cd_92_35 : mt_cd 92 35 = some (.istore_n 3) := mt_cd_of (q := (35, .istore_n 3, 1)) mq_92 ci_92 (List.mem_append_left _ (show _ ∈ my_92_0 from List.mem_of_getElem? (i := 18) rfl))
theorem cd_92_36 : mt_cd 92 36 = some (.iload_n 3) := mt_cd_of (q := (36, .iload_n 3, 1)) mq_92 ci_92 (List.mem_append_left _ (show _ ∈ my_92_0 from List.mem_of_getElem? (i := 19) rfl))
theorem cd_92_37 : mt_cd 92 37 = some (.tableswitch 161 18 23 #[39, 41, 85, 85, 43, 68]) := mt_cd_of (q := (37, .tableswitch 161 18 23 #[39, 41, 85, 85, 43, 68], 39)) mq_92 ci_92 (List.mem_append_left _ (show _ ∈ my_92_0 from List.mem_of_getElem? (i := 20) rfl))
theorem cd_92_76 : mt_cd 92 76 = some (.iconst 1) := mt_cd_of (q := (76, .iconst 1, 1)) mq_92 ci_92 (List.mem_append_left _ (show _ ∈ my_92_0 from List.mem_of_getElem? (i := 21) rfl))
theorem cd_92_77 : mt_cd 92 77 = some (.ireturn) := mt_cd_of (q := (77, .ireturn, 1)) mq_92 ci_92 (List.mem_append_left _ (show _ ∈ my_92_0 from List.mem_of_getElem? (i := 22) rfl))
theorem cd_92_78 : mt_cd 92 78 = some (.iconst 0) := mt_cd_of (q := (78, .iconst 0, 1)) mq_92 ci_92 (List.mem_append_left _ (show _ ∈ my_92_0 from List.mem_of_getElem? (i := 23) rfl))
theorem cd_92_79 : mt_cd 92 79 = some (.ireturn) := mt_cd_of (q := (79, .ireturn, 1)) mq_92 ci_92 (List.mem_append_left _ (show _ ∈ my_92_0 from List.mem_of_getElem? (i := 24) rfl))
theorem cd_92_80 : mt_cd 92 80 = some (.aload_n 0) := mt_cd_of (q := (80, .aload_n 0, 1)) mq_92 ci_92 (List.mem_append_left _ (show _ ∈ my_92_0 from List.mem_of_getElem? (i := 25) rfl))
theorem cd_92_81 : mt_cd 92 81 = some (.aload_n 0) := mt_cd_of (q := (81, .aload_n 0, 1)) mq_92 ci_92 (List.mem_append_left _ (show _ ∈ my_92_0 from List.mem_of_getElem? (i := 26) rfl))
theorem cd_92_82 : mt_cd 92 82 = some (.getfield 9) := mt_cd_of (q := (82, .getfield 9, 3)) mq_92 ci_92 (List.mem_append_left _ (show _ ∈ my_92_0 from List.mem_of_getElem? (i := 27) rfl))
theorem cd_92_85 : mt_cd 92 85 = some (.getfield 36) := mt_cd_of (q := (85, .getfield 36, 3)) mq_92 ci_92 (List.mem_append_left _ (show _ ∈ my_92_0 from List.mem_of_getElem? (i := 28) rfl))
theorem cd_92_88 : mt_cd 92 88 = some (.iload_n 1) := mt_cd_of (q := (88, .iload_n 1, 1)) mq_92 ci_92 (List.mem_append_left _ (show _ ∈ my_92_0 from List.mem_of_getElem? (i := 29) rfl))
theorem cd_92_89 : mt_cd 92 89 = some (.iaload) := mt_cd_of (q := (89, .iaload, 1)) mq_92 ci_92 (List.mem_append_left _ (show _ ∈ my_92_0 from List.mem_of_getElem? (i := 30) rfl))
theorem cd_92_90 : mt_cd 92 90 = some (.iload_n 2) := mt_cd_of (q := (90, .iload_n 2, 1)) mq_92 ci_92 (List.mem_append_left _ (show _ ∈ my_92_0 from List.mem_of_getElem? (i := 31) rfl))
theorem cd_92_91 : mt_cd 92 91 = some (.iconst 1) := mt_cd_of (q := (91, .iconst 1, 1)) mq_92 ci_92 (List.mem_append_left _ (show _ ∈ my_92_0 from List.mem_of_getElem? (i := 32) rfl))
theorem cd_92_92 : mt_cd 92 92 = some (.iadd) := mt_cd_of (q := (92, .iadd, 1)) mq_92 ci_92 (List.mem_append_left _ (show _ ∈ my_92_0 from List.mem_of_getElem? (i := 33) rfl))
theorem cd_92_93 : mt_cd 92 93 = some (.invokevirtual 76) := mt_cd_of (q := (93, .invokevirtual 76, 3)) mq_92 ci_92 (List.mem_append_left _ (show _ ∈ my_92_0 from List.mem_of_getElem? (i := 34) rfl))
theorem cd_92_96 : mt_cd 92 96 = some (.ifCond .ne 7) := mt_cd_of (q := (96, .ifCond .ne 7, 3)) mq_92 ci_92 (List.mem_append_left _ (show _ ∈ my_92_0 from List.mem_of_getElem? (i := 35) rfl))
theorem cd_92_99 : mt_cd 92 99 = some (.iconst 1) := mt_cd_of (q := (99, .iconst 1, 1)) mq_92 ci_92 (List.mem_append_left _ (show _ ∈ my_92_0 from List.mem_of_getElem? (i := 36) rfl))
theorem cd_92_100 : mt_cd 92 100 = some (.goto 4) := mt_cd_of (q := (100, .goto 4, 3)) mq_92 ci_92 (List.mem_append_left _ (show _ ∈ my_92_0 from List.mem_of_getElem? (i := 37) rfl))
theorem cd_92_103 : mt_cd 92 103 = some (.iconst 0) := mt_cd_of (q := (103, .iconst 0, 1)) mq_92 ci_92 (List.mem_append_left _ (show _ ∈ my_92_0 from List.mem_of_getElem? (i := 38) rfl))
theorem cd_92_104 : mt_cd 92 104 = some (.ireturn) := mt_cd_of (q := (104, .ireturn, 1)) mq_92 ci_92 (List.mem_append_left _ (show _ ∈ my_92_0 from List.mem_of_getElem? (i := 39) rfl))
theorem cd_92_105 : mt_cd 92 105 = some (.aload_n 0) := mt_cd_of (q := (105, .aload_n 0, 1)) mq_92 ci_92 (List.mem_append_left _ (show _ ∈ my_92_0 from List.mem_of_getElem? (i := 40) rfl))
theorem cd_92_106 : mt_cd 92 106 = some (.getfield 15) := mt_cd_of (q := (106, .getfield 15, 3)) mq_92 ci_92 (List.mem_append_left _ (show _ ∈ my_92_0 from List.mem_of_getElem? (i := 41) rfl))
theorem cd_92_109 : mt_cd 92 109 = some (.aload_n 0) := mt_cd_of (q := (109, .aload_n 0, 1)) mq_92 ci_92 (List.mem_append_left _ (show _ ∈ my_92_0 from List.mem_of_getElem? (i := 42) rfl))
theorem cd_92_110 : mt_cd 92 110 = some (.getfield 9) := mt_cd_of (q := (110, .getfield 9, 3)) mq_92 ci_92 (List.mem_append_left _ (show _ ∈ my_92_0 from List.mem_of_getElem? (i := 43) rfl))
theorem cd_92_113 : mt_cd 92 113 = some (.getfield 50) := mt_cd_of (q := (113, .getfield 50, 3)) mq_92 ci_92 (List.mem_append_left _ (show _ ∈ my_92_0 from List.mem_of_getElem? (i := 44) rfl))
theorem cd_92_116 : mt_cd 92 116 = some (.iload_n 1) := mt_cd_of (q := (116, .iload_n 1, 1)) mq_92 ci_92 (List.mem_append_left _ (show _ ∈ my_92_0 from List.mem_of_getElem? (i := 45) rfl))
theorem cd_92_117 : mt_cd 92 117 = some (.iaload) := mt_cd_of (q := (117, .iaload, 1)) mq_92 ci_92 (List.mem_append_left _ (show _ ∈ my_92_0 from List.mem_of_getElem? (i := 46) rfl))
theorem cd_92_118 : mt_cd 92 118 = some (.invokevirtual 90) := mt_cd_of (q := (118, .invokevirtual 90, 3)) mq_92 ci_92 (List.mem_append_left _ (show _ ∈ my_92_0 from List.mem_of_getElem? (i := 47) rfl))
theorem cd_92_121 : mt_cd 92 121 = some (.ireturn) := mt_cd_of (q := (121, .ireturn, 1)) mq_92 ci_92 (List.mem_append_left _ (show _ ∈ my_92_0 from List.mem_of_getElem? (i := 48) rfl))
theorem cd_92_122 : mt_cd 92 122 = some (.aload_n 0) := mt_cd_of (q := (122, .aload_n 0, 1)) mq_92 ci_92 (List.mem_append_left _ (show _ ∈ my_92_0 from List.mem_of_getElem? (i := 49) rfl))
theorem cd_92_123 : mt_cd 92 123 = some (.aload_n 0) := mt_cd_of (q := (123, .aload_n 0, 1)) mq_92 ci_92 (List.mem_append_left _ (show _ ∈ my_92_0 from List.mem_of_getElem? (i := 50) rfl))
theorem cd_92_124 : mt_cd 92 124 = some (.getfield 9) := mt_cd_of (q := (124, .getfield 9, 3)) mq_92 ci_92 (List.mem_append_left _ (show _ ∈ my_92_0 from List.mem_of_getElem? (i := 51) rfl))
theorem cd_92_127 : mt_cd 92 127 = some (.getfield 36) := mt_cd_of (q := (127, .getfield 36, 3)) mq_92 ci_92 (List.mem_append_left _ (show _ ∈ my_92_0 from List.mem_of_getElem? (i := 52) rfl))
theorem cd_92_130 : mt_cd 92 130 = some (.iload_n 1) := mt_cd_of (q := (130, .iload_n 1, 1)) mq_92 ci_92 (List.mem_append_left _ (show _ ∈ my_92_0 from List.mem_of_getElem? (i := 53) rfl))
theorem cd_92_131 : mt_cd 92 131 = some (.iaload) := mt_cd_of (q := (131, .iaload, 1)) mq_92 ci_92 (List.mem_append_left _ (show _ ∈ my_92_0 from List.mem_of_getElem? (i := 54) rfl))
theorem cd_92_132 : mt_cd 92 132 = some (.iload_n 2) := mt_cd_of (q := (132, .iload_n 2, 1)) mq_92 ci_92 (List.mem_append_left _ (show _ ∈ my_92_0 from List.mem_of_getElem? (i := 55) rfl))
theorem cd_92_133 : mt_cd 92 133 = some (.iconst 1) := mt_cd_of (q := (133, .iconst 1, 1)) mq_92 ci_92 (List.mem_append_left _ (show _ ∈ my_92_0 from List.mem_of_getElem? (i := 56) rfl))
theorem cd_92_134 : mt_cd 92 134 = some (.iadd) := mt_cd_of (q := (134, .iadd, 1)) mq_92 ci_92 (List.mem_append_left _ (show _ ∈ my_92_0 from List.mem_of_getElem? (i := 57) rfl))
theorem cd_92_135 : mt_cd 92 135 = some (.invokevirtual 76) := mt_cd_of (q := (135, .invokevirtual 76, 3)) mq_92 ci_92 (List.mem_append_left _ (show _ ∈ my_92_0 from List.mem_of_getElem? (i := 58) rfl))
theorem cd_92_138 : mt_cd 92 138 = some (.istore 4) := mt_cd_of (q := (138, .istore 4, 2)) mq_92 ci_92 (List.mem_append_left _ (show _ ∈ my_92_0 from List.mem_of_getElem? (i := 59) rfl))
theorem cd_92_140 : mt_cd 92 140 = some (.aload_n 0) := mt_cd_of (q := (140, .aload_n 0, 1)) mq_92 ci_92 (List.mem_append_right _ ((show _ ∈ my_92_1 from List.mem_of_getElem? (i := 0) rfl)))
theorem cd_92_141 : mt_cd 92 141 = some (.aload_n 0) := mt_cd_of (q := (141, .aload_n 0, 1)) mq_92 ci_92 (List.mem_append_right _ ((show _ ∈ my_92_1 from List.mem_of_getElem? (i := 1) rfl)))
theorem cd_92_142 : mt_cd 92 142 = some (.getfield 9) := mt_cd_of (q := (142, .getfield 9, 3)) mq_92 ci_92 (List.mem_append_right _ ((show _ ∈ my_92_1 from List.mem_of_getElem? (i := 2) rfl)))
theorem cd_92_145 : mt_cd 92 145 = some (.getfield 40) := mt_cd_of (q := (145, .getfield 40, 3)) mq_92 ci_92 (List.mem_append_right _ ((show _ ∈ my_92_1 from List.mem_of_getElem? (i := 3) rfl)))
theorem cd_92_148 : mt_cd 92 148 = some (.iload_n 1) := mt_cd_of (q := (148, .iload_n 1, 1)) mq_92 ci_92 (List.mem_append_right _ ((show _ ∈ my_92_1 from List.mem_of_getElem? (i := 4) rfl)))
theorem cd_92_149 : mt_cd 92 149 = some (.iaload) := mt_cd_of (q := (149, .iaload, 1)) mq_92 ci_92 (List.mem_append_right _ ((show _ ∈ my_92_1 from List.mem_of_getElem? (i := 5) rfl)))
theorem cd_92_150 : mt_cd 92 150 = some (.iload_n 2) := mt_cd_of (q := (150, .iload_n 2, 1)) mq_92 ci_92 (List.mem_append_right _ ((show _ ∈ my_92_1 from List.mem_of_getElem? (i := 6) rfl)))
theorem cd_92_151 : mt_cd 92 151 = some (.iconst 1) := mt_cd_of (q := (151, .iconst 1, 1)) mq_92 ci_92 (List.mem_append_right _ ((show _ ∈ my_92_1 from List.mem_of_getElem? (i := 7) rfl)))
theorem cd_92_152 : mt_cd 92 152 = some (.iadd) := mt_cd_of (q := (152, .iadd, 1)) mq_92 ci_92 (List.mem_append_right _ ((show _ ∈ my_92_1 from List.mem_of_getElem? (i := 8) rfl)))
theorem cd_92_153 : mt_cd 92 153 = some (.invokevirtual 76) := mt_cd_of (q := (153, .invokevirtual 76, 3)) mq_92 ci_92 (List.mem_append_right _ ((show _ ∈ my_92_1 from List.mem_of_getElem? (i := 9) rfl)))
theorem cd_92_156 : mt_cd 92 156 = some (.istore 5) := mt_cd_of (q := (156, .istore 5, 2)) mq_92 ci_92 (List.mem_append_right _ ((show _ ∈ my_92_1 from List.mem_of_getElem? (i := 10) rfl)))
theorem cd_92_158 : mt_cd 92 158 = some (.iload_n 3) := mt_cd_of (q := (158, .iload_n 3, 1)) mq_92 ci_92 (List.mem_append_right _ ((show _ ∈ my_92_1 from List.mem_of_getElem? (i := 11) rfl)))
theorem cd_92_159 : mt_cd 92 159 = some (.bipush 20) := mt_cd_of (q := (159, .bipush 20, 2)) mq_92 ci_92 (List.mem_append_right _ ((show _ ∈ my_92_1 from List.mem_of_getElem? (i := 12) rfl)))
theorem cd_92_161 : mt_cd 92 161 = some (.if_icmp .ne 21) := mt_cd_of (q := (161, .if_icmp .ne 21, 3)) mq_92 ci_92 (List.mem_append_right _ ((show _ ∈ my_92_1 from List.mem_of_getElem? (i := 13) rfl)))
theorem cd_92_164 : mt_cd 92 164 = some (.iload 4) := mt_cd_of (q := (164, .iload 4, 2)) mq_92 ci_92 (List.mem_append_right _ ((show _ ∈ my_92_1 from List.mem_of_getElem? (i := 14) rfl)))
theorem cd_92_166 : mt_cd 92 166 = some (.ifCond .eq 12) := mt_cd_of (q := (166, .ifCond .eq 12, 3)) mq_92 ci_92 (List.mem_append_right _ ((show _ ∈ my_92_1 from List.mem_of_getElem? (i := 15) rfl)))
theorem cd_92_169 : mt_cd 92 169 = some (.iload 5) := mt_cd_of (q := (169, .iload 5, 2)) mq_92 ci_92 (List.mem_append_right _ ((show _ ∈ my_92_1 from List.mem_of_getElem? (i := 16) rfl)))
theorem cd_92_171 : mt_cd 92 171 = some (.ifCond .eq 7) := mt_cd_of (q := (171, .ifCond .eq 7, 3)) mq_92 ci_92 (List.mem_append_right _ ((show _ ∈ my_92_1 from List.mem_of_getElem? (i := 17) rfl)))
theorem cd_92_174 : mt_cd 92 174 = some (.iconst 1) := mt_cd_of (q := (174, .iconst 1, 1)) mq_92 ci_92 (List.mem_append_right _ ((show _ ∈ my_92_1 from List.mem_of_getElem? (i := 18) rfl)))
theorem cd_92_175 : mt_cd 92 175 = some (.goto 22) := mt_cd_of (q := (175, .goto 22, 3)) mq_92 ci_92 (List.mem_append_right _ ((show _ ∈ my_92_1 from List.mem_of_getElem? (i := 19) rfl)))
theorem cd_92_178 : mt_cd 92 178 = some (.iconst 0) := mt_cd_of (q := (178, .iconst 0, 1)) mq_92 ci_92 (List.mem_append_right _ ((show _ ∈ my_92_1 from List.mem_of_getElem? (i := 20) rfl)))
theorem cd_92_179 : mt_cd 92 179 = some (.goto 18) := mt_cd_of (q := (179, .goto 18, 3)) mq_92 ci_92 (List.mem_append_right _ ((show _ ∈ my_92_1 from List.mem_of_getElem? (i := 21) rfl)))
theorem cd_92_182 : mt_cd 92 182 = some (.iload 4) := mt_cd_of (q := (182, .iload 4, 2)) mq_92 ci_92 (List.mem_append_right _ ((show _ ∈ my_92_1 from List.mem_of_getElem? (i := 22) rfl)))
theorem cd_92_184 : mt_cd 92 184 = some (.ifCond .ne 8) := mt_cd_of (q := (184, .ifCond .ne 8, 3)) mq_92 ci_92 (List.mem_append_right _ ((show _ ∈ my_92_1 from List.mem_of_getElem? (i := 23) rfl)))
theorem cd_92_187 : mt_cd 92 187 = some (.iload 5) := mt_cd_of (q := (187, .iload 5, 2)) mq_92 ci_92 (List.mem_append_right _ ((show _ ∈ my_92_1 from List.mem_of_getElem? (i := 24) rfl)))
theorem cd_92_189 : mt_cd 92 189 = some (.ifCond .eq 7) := mt_cd_of (q := (189, .ifCond .eq 7, 3)) mq_92 ci_92 (List.mem_append_right _ ((show _ ∈ my_92_1 from List.mem_of_getElem? (i := 25) rfl)))
theorem cd_92_192 : mt_cd 92 192 = some (.iconst 1) := mt_cd_of (q := (192, .iconst 1, 1)) mq_92 ci_92 (List.mem_append_right _ ((show _ ∈ my_92_1 from List.mem_of_getElem? (i := 26) rfl)))
theorem cd_92_193 : mt_cd 92 193 = some (.goto 4) := mt_cd_of (q := (193, .goto 4, 3)) mq_92 ci_92 (List.mem_append_right _ ((show _ ∈ my_92_1 from List.mem_of_getElem? (i := 27) rfl)))
theorem cd_92_196 : mt_cd 92 196 = some (.iconst 0) := mt_cd_of (q := (196, .iconst 0, 1)) mq_92 ci_92 (List.mem_append_right _ ((show _ ∈ my_92_1 from List.mem_of_getElem? (i := 28) rfl)))
theorem cd_92_197 : mt_cd 92 197 = some (.ireturn) := mt_cd_of (q := (197, .ireturn, 1)) mq_92 ci_92 (List.mem_append_right _ ((show _ ∈ my_92_1 from List.mem_of_getElem? (i := 29) rfl)))
theorem cd_92_198 : mt_cd 92 198 = some (.iload_n 3) := mt_cd_of (q := (198, .iload_n 3, 1)) mq_92 ci_92 (List.mem_append_right _ ((show _ ∈ my_92_1 from List.mem_of_getElem? (i := 30) rfl)))
theorem cd_92_199 : mt_cd 92 199 = some (.aload_n 0) := mt_cd_of (q := (199, .aload_n 0, 1)) mq_92 ci_92 (List.mem_append_right _ ((show _ ∈ my_92_1 from List.mem_of_getElem? (i := 31) rfl)))
theorem cd_92_200 : mt_cd 92 200 = some (.aload_n 0) := mt_cd_of (q := (200, .aload_n 0, 1)) mq_92 ci_92 (List.mem_append_right _ ((show _ ∈ my_92_1 from List.mem_of_getElem? (i := 32) rfl)))
theorem cd_92_201 : mt_cd 92 201 = some (.getfield 9) := mt_cd_of (q := (201, .getfield 9, 3)) mq_92 ci_92 (List.mem_append_right _ ((show _ ∈ my_92_1 from List.mem_of_getElem? (i := 33) rfl)))
theorem cd_92_204 : mt_cd 92 204 = some (.getfield 36) := mt_cd_of (q := (204, .getfield 36, 3)) mq_92 ci_92 (List.mem_append_right _ ((show _ ∈ my_92_1 from List.mem_of_getElem? (i := 34) rfl)))
theorem cd_92_207 : mt_cd 92 207 = some (.iload_n 1) := mt_cd_of (q := (207, .iload_n 1, 1)) mq_92 ci_92 (List.mem_append_right _ ((show _ ∈ my_92_1 from List.mem_of_getElem? (i := 35) rfl)))
theorem cd_92_208 : mt_cd 92 208 = some (.iaload) := mt_cd_of (q := (208, .iaload, 1)) mq_92 ci_92 (List.mem_append_right _ ((show _ ∈ my_92_1 from List.mem_of_getElem? (i := 36) rfl)))
theorem cd_92_209 : mt_cd 92 209 = some (.iload_n 2) := mt_cd_of (q := (209, .iload_n 2, 1)) mq_92 ci_92 (List.mem_append_right _ ((show _ ∈ my_92_1 from List.mem_of_getElem? (i := 37) rfl)))
theorem cd_92_210 : mt_cd 92 210 = some (.iconst 1) := mt_cd_of (q := (210, .iconst 1, 1)) mq_92 ci_92 (List.mem_append_right _ ((show _ ∈ my_92_1 from List.mem_of_getElem? (i := 38) rfl)))
theorem cd_92_211 : mt_cd 92 211 = some (.iadd) := mt_cd_of (q := (211, .iadd, 1)) mq_92 ci_92 (List.mem_append_right _ ((show _ ∈ my_92_1 from List.mem_of_getElem? (i := 39) rfl)))
theorem cd_92_212 : mt_cd 92 212 = some (.invokevirtual 73) := mt_cd_of (q := (212, .invokevirtual 73, 3)) mq_92 ci_92 (List.mem_append_right _ ((show _ ∈ my_92_1 from List.mem_of_getElem? (i := 40) rfl)))
theorem cd_92_215 : mt_cd 92 215 = some (.aload_n 0) := mt_cd_of (q := (215, .aload_n 0, 1)) mq_92 ci_92 (List.mem_append_right _ ((show _ ∈ my_92_1 from List.mem_of_getElem? (i := 41) rfl)))
theorem cd_92_216 : mt_cd 92 216 = some (.aload_n 0) := mt_cd_of (q := (216, .aload_n 0, 1)) mq_92 ci_92 (List.mem_append_right _ ((show _ ∈ my_92_1 from List.mem_of_getElem? (i := 42) rfl)))
theorem cd_92_217 : mt_cd 92 217 = some (.getfield 9) := mt_cd_of (q := (217, .getfield 9, 3)) mq_92 ci_92 (List.mem_append_right _ ((show _ ∈ my_92_1 from List.mem_of_getElem? (i := 43) rfl)))
theorem cd_92_220 : mt_cd 92 220 = some (.getfield 40) := mt_cd_of (q := (220, .getfield 40, 3)) mq_92 ci_92 (List.mem_append_right _ ((show _ ∈ my_92_1 from List.mem_of_getElem? (i := 44) rfl)))
theorem cd_92_223 : mt_cd 92 223 = some (.iload_n 1) := mt_cd_of (q := (223, .iload_n 1, 1)) mq_92 ci_92 (List.mem_append_right _ ((show _ ∈ my_92_1 from List.mem_of_getElem? (i := 45) rfl)))
theorem cd_92_224 : mt_cd 92 224 = some (.iaload) := mt_cd_of (q := (224, .iaload, 1)) mq_92 ci_92 (List.mem_append_right _ ((show _ ∈ my_92_1 from List.mem_of_getElem? (i := 46) rfl)))
theorem cd_92_225 : mt_cd 92 225 = some (.iload_n 2) := mt_cd_of (q := (225, .iload_n 2, 1)) mq_92 ci_92 (List.mem_append_right _ ((show _ ∈ my_92_1 from List.mem_of_getElem? (i := 47) rfl)))
theorem cd_92_226 : mt_cd 92 226 = some (.iconst 1) := mt_cd_of (q := (226, .iconst 1, 1)) mq_92 ci_92 (List.mem_append_right _ ((show _ ∈ my_92_1 from List.mem_of_getElem? (i := 48) rfl)))
theorem cd_92_227 : mt_cd 92 227 = some (.iadd) := mt_cd_of (q := (227, .iadd, 1)) mq_92 ci_92 (List.mem_append_right _ ((show _ ∈ my_92_1 from List.mem_of_getElem? (i := 49) rfl)))
theorem cd_92_228 : mt_cd 92 228 = some (.invokevirtual 73) := mt_cd_of (q := (228, .invokevirtual 73, 3)) mq_92 ci_92 (List.mem_append_right _ ((show _ ∈ my_92_1 from List.mem_of_getElem? (i := 50) rfl)))
theorem cd_92_231 : mt_cd 92 231 = some (.invokestatic 93) := mt_cd_of (q := (231, .invokestatic 93, 3)) mq_92 ci_92 (List.mem_append_right _ ((show _ ∈ my_92_1 from List.mem_of_getElem? (i := 51) rfl)))
theorem cd_92_234 : mt_cd 92 234 = some (.ireturn) := mt_cd_of (q := (234, .ireturn, 1)) mq_92 ci_92 (List.mem_append_right _ ((show _ ∈ my_92_1 from List.mem_of_getElem? (i := 52) rfl)))
theorem b_92_0 {d : Nat} {Q : (Option Value ⊕ Nat) → mi_H → Prop} (n sl : Nat) (f : Nat → mi_C) {l1 : Nat} {l2 : Int32} {l3 : Int32} {o4 : Option Value} {o5 : Option Value} {o6 : Option Value} {fs7 : List Value} {x10 : Int32} (h8 : f l1 = .inr (10, fs7)) (h9 : l1 < n) (h11 : fs7[4]? = some (.int x10)) (h12 : ¬ x10 = (0 : Int32) → mi_W d 92 24 [some (.ref l1), some (.int l2), some (.int l3), o4, o5, o6] [] (n, sl, f) Q) (h13 : ¬ (¬ x10 = (0 : Int32)) → mi_W d 92 7 [some (.ref l1), some (.int l2), some (.int l3), o4, o5, o6] [] (n, sl, f) Q) : mi_W d 92 0 [some (.ref l1), some (.int l2), some (.int l3), o4, o5, o6] [] (n, sl, f) Q := by
  refine w_aload_n cd_92_0 rfl ?_
  refine w_getfield cd_92_1 (show mt_f 10 26 = some (10, 4) by decide +kernel) h8 h9 h11 ?_
  exact w_ifne cd_92_4 (by decide) h12 h13
theorem b_92_7 {d : Nat} {Q : (Option Value ⊕ Nat) → mi_H → Prop} (n sl : Nat) (f : Nat → mi_C) {l1 : Nat} {l2 : Int32} {l3 : Int32} {o4 : Option Value} {o5 : Option Value} {o6 : Option Value} (h7 : 100 < l3 → mi_W d 92 24 [some (.ref l1), some (.int l2), some (.int l3), o4, o5, o6] [] (n, sl, f) Q) (h8 : ¬ (100 < l3) → mi_W d 92 13 [some (.ref l1), some (.int l2), some (.int l3), o4, o5, o6] [] (n, sl, f) Q) : mi_W d 92 7 [some (.ref l1), some (.int l2), some (.int l3), o4, o5, o6] [] (n, sl, f) Q := by
  refine w_iload_n cd_92_7 rfl ?_
  refine w_bipush (v := 100) cd_92_8 (by decide) ?_
  exact w_if_icmpgt cd_92_10 (by decide) h7 h8
theorem b_92_13 {d : Nat} {Q : (Option Value ⊕ Nat) → mi_H → Prop} (n sl : Nat) (f : Nat → mi_C) {l1 : Nat} {l2 : Int32} {l3 : Int32} {o4 : Option Value} {o5 : Option Value} {o6 : Option Value} {fs7 : List Value} {x10 : Nat} {fs12 : List Value} (h8 : f l1 = .inr (10, fs7)) (h9 : l1 < n) (h11 : fs7[0]? = some (.ref x10)) (h13 : f x10 = .inr (2, fs12)) (h14 : x10 < n) (h15 : mi_W d 82 0 (mi_en 2 [.ref x10, .int l2]) [] (n, sl, f) (mi_Kc d 92 18 [some (.ref l1), some (.int l2), some (.int l3), o4, o5, o6] [] Q)) : mi_W (d + 1) 92 13 [some (.ref l1), some (.int l2), some (.int l3), o4, o5, o6] [] (n, sl, f) Q := by
  refine w_aload_n cd_92_13 rfl ?_
  refine w_getfield cd_92_14 (show mt_f 10 9 = some (10, 0) by decide +kernel) h8 h9 h11 ?_
  refine w_iload_n cd_92_17 rfl ?_
  exact w_invokevirtual cd_92_18 (show mt_m 10 30 = some (82, 0) by decide +kernel) (rest := []) rfl (as := [.ref x10, .int l2]) rfl h13 (Or.inl h14) ⟨Nat.le_of_ble_eq_true rfl, Nat.le_of_ble_eq_true rfl, Nat.le_of_ble_eq_true rfl⟩ h15
theorem b_92_21 {d : Nat} {Q : (Option Value ⊕ Nat) → mi_H → Prop} (n sl : Nat) (f : Nat → mi_C) {l1 : Nat} {l2 : Int32} {l3 : Int32} {o4 : Option Value} {o5 : Option Value} {o6 : Option Value} {s7 : Int32} (h8 : ¬ s7 = (0 : Int32) → mi_W d 92 26 [some (.ref l1), some (.int l2), some (.int l3), o4, o5, o6] [] (n, sl, f) Q) (h9 : ¬ (¬ s7 = (0 : Int32)) → mi_W d 92 24 [some (.ref l1), some (.int l2), some (.int l3), o4, o5, o6] [] (n, sl, f) Q) : mi_W d 92 21 [some (.ref l1), some (.int l2), some (.int l3), o4, o5, o6] [.int s7] (n, sl, f) Q := by
  exact w_ifne cd_92_21 (by decide) h8 h9
theorem b_92_24 {d : Nat} {Q : (Option Value ⊕ Nat) → mi_H → Prop} (n sl : Nat) (f : Nat → mi_C) {l1 : Nat} {l2 : Int32} {l3 : Int32} {o4 : Option Value} {o5 : Option Value} {o6 : Option Value} (h7 : Q (.inl (some (.int 0))) (n, sl, f)) : mi_W d 92 24 [some (.ref l1), some (.int l2), some (.int l3), o4, o5, o6] [] (n, sl, f) Q := by
  refine w_iconst (v := 0) cd_92_24 (by decide) ?_
  exact w_ireturn_z cd_92_25 (by decide +kernel) (by decide) h7
theorem b_92_26 {d : Nat} {Q : (Option Value ⊕ Nat) → mi_H → Prop} (n sl : Nat) (f : Nat → mi_C) {l1 : Nat} {l2 : Int32} {l3 : Int32} {o4 : Option Value} {o5 : Option Value} {o6 : Option Value} {fs7 : List Value} {x10 : Nat} {fs12 : List Value} {x15 : Nat} (m17 i17 : Nat) (g17 : Nat → Int32) {t21 : Nat} (h8 : f l1 = .inr (10, fs7)) (h9 : l1 < n) (h11 : fs7[0]? = some (.ref x10)) (h13 : f x10 = .inr (2, fs12)) (h14 : x10 < n) (h16 : fs12[0]? = some (.ref x15)) (h18 : f x15 = .inl (0, m17, .inl g17)) (h19 : x15 < n ∨ x15 = mi_SC) (h20 : mi_ix l2 m17 i17) (h22 : mi_ts 37 161 18 23 #[39, 41, 85, 85, 43, 68] ((g17 i17) : Int32).toInt = some t21) (h23 : mi_W d 92 t21 [some (.ref l1), some (.int l2), some (.int l3), some (.int (g17 i17)), o5, o6] [] (n, sl, f) Q) : mi_W d 92 26 [some (.ref l1), some (.int l2), some (.int l3), o4, o5, o6] [] (n, sl, f) Q := by
  refine w_aload_n cd_92_26 rfl ?_
  refine w_getfield cd_92_27 (show mt_f 10 9 = some (10, 0) by decide +kernel) h8 h9 h11 ?_
  refine w_getfield cd_92_30 (show mt_f 10 43 = some (2, 0) by decide +kernel) h13 h14 h16 ?_
  refine w_iload_n cd_92_33 rfl ?_
  refine w_iaload cd_92_34 h18 h19 h20 ?_
  refine w_istore_n (ls' := [some (.ref l1), some (.int l2), some (.int l3), some (.int (g17 i17)), o5, o6]) cd_92_35 (Nat.le_of_ble_eq_true rfl) rfl ?_
  refine w_iload_n cd_92_36 rfl ?_
  exact w_tableswitch cd_92_37 h22 h23
theorem b_92_76 {d : Nat} {Q : (Option Value ⊕ Nat) → mi_H → Prop} (n sl : Nat) (f : Nat → mi_C) {l1 : Nat} {l2 : Int32} {l3 : Int32} {l4 : Int32} {o5 : Option Value} {o6 : Option Value} (h7 : Q (.inl (some (.int 1))) (n, sl, f)) : mi_W d 92 76 [some (.ref l1), some (.int l2), some (.int l3), some (.int l4), o5, o6] [] (n, sl, f) Q := by
  refine w_iconst (v := 1) cd_92_76 (by decide) ?_
  exact w_ireturn_z cd_92_77 (by decide +kernel) (by decide) h7
theorem b_92_78 {d : Nat} {Q : (Option Value ⊕ Nat) → mi_H → Prop} (n sl : Nat) (f : Nat → mi_C) {l1 : Nat} {l2 : Int32} {l3 : Int32} {l4 : Int32} {o5 : Option Value} {o6 : Option Value} (h7 : Q (.inl (some (.int 0))) (n, sl, f)) : mi_W d 92 78 [some (.ref l1), some (.int l2), some (.int l3), some (.int l4), o5, o6] [] (n, sl, f) Q := by
  refine w_iconst (v := 0) cd_92_78 (by decide) ?_
  exact w_ireturn_z cd_92_79 (by decide +kernel) (by decide) h7
theorem b_92_80 {d : Nat} {Q : (Option Value ⊕ Nat) → mi_H → Prop} (n sl : Nat) (f : Nat → mi_C) {l1 : Nat} {l2 : Int32} {l3 : Int32} {l4 : Int32} {o5 : Option Value} {o6 : Option Value} {fs7 : List Value} {x10 : Nat} {fs12 : List Value} {x15 : Nat} (m17 i17 : Nat) (g17 : Nat → Int32) {fs21 : List Value} (h8 : f l1 = .inr (10, fs7)) (h9 : l1 < n) (h11 : fs7[0]? = some (.ref x10)) (h13 : f x10 = .inr (2, fs12)) (h14 : x10 < n) (h16 : fs12[1]? = some (.ref x15)) (h18 : f x15 = .inl (0, m17, .inl g17)) (h19 : x15 < n ∨ x15 = mi_SC) (h20 : mi_ix l2 m17 i17) (h22 : f l1 = .inr (10, fs21)) (h23 : l1 < n) (h24 : mi_W d 92 0 (mi_en 6 [.ref l1, .int (g17 i17), .int (l3 + 1)]) [] (n, sl, f) (mi_Kc d 92 93 [some (.ref l1), some (.int l2), some (.int l3), some (.int l4), o5, o6] [] Q)) : mi_W (d + 1) 92 80 [some (.ref l1), some (.int l2), some (.int l3), some (.int l4), o5, o6] [] (n, sl, f) Q := by
  refine w_aload_n cd_92_80 rfl ?_
  refine w_aload_n cd_92_81 rfl ?_
  refine w_getfield cd_92_82 (show mt_f 10 9 = some (10, 0) by decide +kernel) h8 h9 h11 ?_
  refine w_getfield cd_92_85 (show mt_f 10 36 = some (2, 1) by decide +kernel) h13 h14 h16 ?_
  refine w_iload_n cd_92_88 rfl ?_
  refine w_iaload cd_92_89 h18 h19 h20 ?_
  refine w_iload_n cd_92_90 rfl ?_
  refine w_iconst (v := 1) cd_92_91 (by decide) ?_
  refine w_iadd cd_92_92 ?_
  exact w_invokevirtual cd_92_93 (show mt_m 10 76 = some (92, 0) by decide +kernel) (rest := []) rfl (as := [.ref l1, .int (g17 i17), .int (l3 + 1)]) rfl h22 (Or.inl h23) ⟨Nat.le_of_ble_eq_true rfl, Nat.le_of_ble_eq_true rfl, Nat.le_of_ble_eq_true rfl⟩ h24
theorem b_92_96 {d : Nat} {Q : (Option Value ⊕ Nat) → mi_H → Prop} (n sl : Nat) (f : Nat → mi_C) {l1 : Nat} {l2 : Int32} {l3 : Int32} {l4 : Int32} {o5 : Option Value} {o6 : Option Value} {s7 : Int32} (h8 : ¬ s7 = (0 : Int32) → mi_W d 92 103 [some (.ref l1), some (.int l2), some (.int l3), some (.int l4), o5, o6] [] (n, sl, f) Q) (h9 : ¬ (¬ s7 = (0 : Int32)) → mi_W d 92 99 [some (.ref l1), some (.int l2), some (.int l3), some (.int l4), o5, o6] [] (n, sl, f) Q) : mi_W d 92 96 [some (.ref l1), some (.int l2), some (.int l3), some (.int l4), o5, o6] [.int s7] (n, sl, f) Q := by
  exact w_ifne cd_92_96 (by decide) h8 h9
theorem b_92_99 {d : Nat} {Q : (Option Value ⊕ Nat) → mi_H → Prop} (n sl : Nat) (f : Nat → mi_C) {l1 : Nat} {l2 : Int32} {l3 : Int32} {l4 : Int32} {o5 : Option Value} {o6 : Option Value} (h7 : mi_W d 92 104 [some (.ref l1), some (.int l2), some (.int l3), some (.int l4), o5, o6] [.int 1] (n, sl, f) Q) : mi_W d 92 99 [some (.ref l1), some (.int l2), some (.int l3), some (.int l4), o5, o6] [] (n, sl, f) Q := by
  refine w_iconst (v := 1) cd_92_99 (by decide) ?_
  exact w_goto cd_92_100 (by decide) h7
theorem b_92_103 {d : Nat} {Q : (Option Value ⊕ Nat) → mi_H → Prop} (n sl : Nat) (f : Nat → mi_C) {l1 : Nat} {l2 : Int32} {l3 : Int32} {l4 : Int32} {o5 : Option Value} {o6 : Option Value} (h7 : mi_W d 92 104 [some (.ref l1), some (.int l2), some (.int l3), some (.int l4), o5, o6] [.int 0] (n, sl, f) Q) : mi_W d 92 103 [some (.ref l1), some (.int l2), some (.int l3), some (.int l4), o5, o6] [] (n, sl, f) Q := by
  refine w_iconst (v := 0) cd_92_103 (by decide) ?_
  exact h7
theorem b_92_104 {d : Nat} {Q : (Option Value ⊕ Nat) → mi_H → Prop} (n sl : Nat) (f : Nat → mi_C) {l1 : Nat} {l2 : Int32} {l3 : Int32} {l4 : Int32} {o5 : Option Value} {o6 : Option Value} {s7 : Int32} (h8 : s7 = 0 ∨ s7 = 1) (h9 : Q (.inl (some (.int s7))) (n, sl, f)) : mi_W d 92 104 [some (.ref l1), some (.int l2), some (.int l3), some (.int l4), o5, o6] [.int s7] (n, sl, f) Q := by
  exact w_ireturn_z cd_92_104 (by decide +kernel) h8 h9
theorem b_92_105 {d : Nat} {Q : (Option Value ⊕ Nat) → mi_H → Prop} (n sl : Nat) (f : Nat → mi_C) {l1 : Nat} {l2 : Int32} {l3 : Int32} {l4 : Int32} {o5 : Option Value} {o6 : Option Value} {fs7 : List Value} {x10 : Nat} {fs12 : List Value} {x15 : Nat} {fs17 : List Value} {x20 : Nat} (m22 i22 : Nat) (g22 : Nat → Int32) {fs26 : List Value} (h8 : f l1 = .inr (10, fs7)) (h9 : l1 < n) (h11 : fs7[1]? = some (.ref x10)) (h13 : f l1 = .inr (10, fs12)) (h14 : l1 < n) (h16 : fs12[0]? = some (.ref x15)) (h18 : f x15 = .inr (2, fs17)) (h19 : x15 < n) (h21 : fs17[4]? = some (.ref x20)) (h23 : f x20 = .inl (0, m22, .inl g22)) (h24 : x20 < n ∨ x20 = mi_SC) (h25 : mi_ix l2 m22 i22) (h27 : f x10 = .inr (9, fs26)) (h28 : x10 < n) (h29 : mi_W d 93 0 (mi_en 2 [.ref x10, .int (g22 i22)]) [] (n, sl, f) (mi_Kc d 92 118 [some (.ref l1), some (.int l2), some (.int l3), some (.int l4), o5, o6] [] Q)) : mi_W (d + 1) 92 105 [some (.ref l1), some (.int l2), some (.int l3), some (.int l4), o5, o6] [] (n, sl, f) Q := by
  refine w_aload_n cd_92_105 rfl ?_
  refine w_getfield cd_92_106 (show mt_f 10 15 = some (10, 1) by decide +kernel) h8 h9 h11 ?_
  refine w_aload_n cd_92_109 rfl ?_
  refine w_getfield cd_92_110 (show mt_f 10 9 = some (10, 0) by decide +kernel) h13 h14 h16 ?_
  refine w_getfield cd_92_113 (show mt_f 10 50 = some (2, 4) by decide +kernel) h18 h19 h21 ?_
  refine w_iload_n cd_92_116 rfl ?_
  refine w_iaload cd_92_117 h23 h24 h25 ?_
  exact w_invokevirtual cd_92_118 (show mt_m 10 90 = some (93, 0) by decide +kernel) (rest := []) rfl (as := [.ref x10, .int (g22 i22)]) rfl h27 (Or.inl h28) ⟨Nat.le_of_ble_eq_true rfl, Nat.le_of_ble_eq_true rfl, Nat.le_of_ble_eq_true rfl⟩ h29
theorem b_92_121 {d : Nat} {Q : (Option Value ⊕ Nat) → mi_H → Prop} (n sl : Nat) (f : Nat → mi_C) {l1 : Nat} {l2 : Int32} {l3 : Int32} {l4 : Int32} {o5 : Option Value} {o6 : Option Value} {s7 : Int32} (h8 : s7 = 0 ∨ s7 = 1) (h9 : Q (.inl (some (.int s7))) (n, sl, f)) : mi_W d 92 121 [some (.ref l1), some (.int l2), some (.int l3), some (.int l4), o5, o6] [.int s7] (n, sl, f) Q := by
  exact w_ireturn_z cd_92_121 (by decide +kernel) h8 h9
theorem b_92_122 {d : Nat} {Q : (Option Value ⊕ Nat) → mi_H → Prop} (n sl : Nat) (f : Nat → mi_C) {l1 : Nat} {l2 : Int32} {l3 : Int32} {l4 : Int32} {o5 : Option Value} {o6 : Option Value} {fs7 : List Value} {x10 : Nat} {fs12 : List Value} {x15 : Nat} (m17 i17 : Nat) (g17 : Nat → Int32) {fs21 : List Value} (h8 : f l1 = .inr (10, fs7)) (h9 : l1 < n) (h11 : fs7[0]? = some (.ref x10)) (h13 : f x10 = .inr (2, fs12)) (h14 : x10 < n) (h16 : fs12[1]? = some (.ref x15)) (h18 : f x15 = .inl (0, m17, .inl g17)) (h19 : x15 < n ∨ x15 = mi_SC) (h20 : mi_ix l2 m17 i17) (h22 : f l1 = .inr (10, fs21)) (h23 : l1 < n) (h24 : mi_W d 92 0 (mi_en 6 [.ref l1, .int (g17 i17), .int (l3 + 1)]) [] (n, sl, f) (mi_Kc d 92 135 [some (.ref l1), some (.int l2), some (.int l3), some (.int l4), o5, o6] [] Q)) : mi_W (d + 1) 92 122 [some (.ref l1), some (.int l2), some (.int l3), some (.int l4), o5, o6] [] (n, sl, f) Q := by
  refine w_aload_n cd_92_122 rfl ?_
  refine w_aload_n cd_92_123 rfl ?_
  refine w_getfield cd_92_124 (show mt_f 10 9 = some (10, 0) by decide +kernel) h8 h9 h11 ?_
  refine w_getfield cd_92_127 (show mt_f 10 36 = some (2, 1) by decide +kernel) h13 h14 h16 ?_
  refine w_iload_n cd_92_130 rfl ?_
  refine w_iaload cd_92_131 h18 h19 h20 ?_
  refine w_iload_n cd_92_132 rfl ?_
  refine w_iconst (v := 1) cd_92_133 (by decide) ?_
  refine w_iadd cd_92_134 ?_
  exact w_invokevirtual cd_92_135 (show mt_m 10 76 = some (92, 0) by decide +kernel) (rest := []) rfl (as := [.ref l1, .int (g17 i17), .int (l3 + 1)]) rfl h22 (Or.inl h23) ⟨Nat.le_of_ble_eq_true rfl, Nat.le_of_ble_eq_true rfl, Nat.le_of_ble_eq_true rfl⟩ h24
theorem b_92_138 {d : Nat} {Q : (Option Value ⊕ Nat) → mi_H → Prop} (n sl : Nat) (f : Nat → mi_C) {l1 : Nat} {l2 : Int32} {l3 : Int32} {l4 : Int32} {o5 : Option Value} {o6 : Option Value} {s7 : Int32} {fs8 : List Value} {x11 : Nat} {fs13 : List Value} {x16 : Nat} (m18 i18 : Nat) (g18 : Nat → Int32) {fs22 : List Value} (h9 : f l1 = .inr (10, fs8)) (h10 : l1 < n) (h12 : fs8[0]? = some (.ref x11)) (h14 : f x11 = .inr (2, fs13)) (h15 : x11 < n) (h17 : fs13[3]? = some (.ref x16)) (h19 : f x16 = .inl (0, m18, .inl g18)) (h20 : x16 < n ∨ x16 = mi_SC) (h21 : mi_ix l2 m18 i18) (h23 : f l1 = .inr (10, fs22)) (h24 : l1 < n) (h25 : mi_W d 92 0 (mi_en 6 [.ref l1, .int (g18 i18), .int (l3 + 1)]) [] (n, sl, f) (mi_Kc d 92 153 [some (.ref l1), some (.int l2), some (.int l3), some (.int l4), some (.int s7), o6] [] Q)) : mi_W (d + 1) 92 138 [some (.ref l1), some (.int l2), some (.int l3), some (.int l4), o5, o6] [.int s7] (n, sl, f) Q := by
  refine w_istore (ls' := [some (.ref l1), some (.int l2), some (.int l3), some (.int l4), some (.int s7), o6]) cd_92_138 (Nat.le_of_ble_eq_true rfl) rfl ?_
  refine w_aload_n cd_92_140 rfl ?_
  refine w_aload_n cd_92_141 rfl ?_
  refine w_getfield cd_92_142 (show mt_f 10 9 = some (10, 0) by decide +kernel) h9 h10 h12 ?_
  refine w_getfield cd_92_145 (show mt_f 10 40 = some (2, 3) by decide +kernel) h14 h15 h17 ?_
  refine w_iload_n cd_92_148 rfl ?_
  refine w_iaload cd_92_149 h19 h20 h21 ?_
  refine w_iload_n cd_92_150 rfl ?_
  refine w_iconst (v := 1) cd_92_151 (by decide) ?_
  refine w_iadd cd_92_152 ?_
  exact w_invokevirtual cd_92_153 (show mt_m 10 76 = some (92, 0) by decide +kernel) (rest := []) rfl (as := [.ref l1, .int (g18 i18), .int (l3 + 1)]) rfl h23 (Or.inl h24) ⟨Nat.le_of_ble_eq_true rfl, Nat.le_of_ble_eq_true rfl, Nat.le_of_ble_eq_true rfl⟩ h25
theorem b_92_156 {d : Nat} {Q : (Option Value ⊕ Nat) → mi_H → Prop} (n sl : Nat) (f : Nat → mi_C) {l1 : Nat} {l2 : Int32} {l3 : Int32} {l4 : Int32} {l5 : Int32} {o6 : Option Value} {s7 : Int32} (h8 : ¬ l4 = 20 → mi_W d 92 182 [some (.ref l1), some (.int l2), some (.int l3), some (.int l4), some (.int l5), some (.int s7)] [] (n, sl, f) Q) (h9 : ¬ (¬ l4 = 20) → mi_W d 92 164 [some (.ref l1), some (.int l2), some (.int l3), some (.int l4), some (.int l5), some (.int s7)] [] (n, sl, f) Q) : mi_W d 92 156 [some (.ref l1), some (.int l2), some (.int l3), some (.int l4), some (.int l5), o6] [.int s7] (n, sl, f) Q := by
  refine w_istore (ls' := [some (.ref l1), some (.int l2), some (.int l3), some (.int l4), some (.int l5), some (.int s7)]) cd_92_156 (Nat.le_of_ble_eq_true rfl) rfl ?_
  refine w_iload_n cd_92_158 rfl ?_
  refine w_bipush (v := 20) cd_92_159 (by decide) ?_
  exact w_if_icmpne cd_92_161 (by decide) h8 h9
theorem b_92_164 {d : Nat} {Q : (Option Value ⊕ Nat) → mi_H → Prop} (n sl : Nat) (f : Nat → mi_C) {l1 : Nat} {l2 : Int32} {l3 : Int32} {l4 : Int32} {l5 : Int32} {l6 : Int32} (h7 : l5 = (0 : Int32) → mi_W d 92 178 [some (.ref l1), some (.int l2), some (.int l3), some (.int l4), some (.int l5), some (.int l6)] [] (n, sl, f) Q) (h8 : ¬ (l5 = (0 : Int32)) → mi_W d 92 169 [some (.ref l1), some (.int l2), some (.int l3), some (.int l4), some (.int l5), some (.int l6)] [] (n, sl, f) Q) : mi_W d 92 164 [some (.ref l1), some (.int l2), some (.int l3), some (.int l4), some (.int l5), some (.int l6)] [] (n, sl, f) Q := by
  refine w_iload cd_92_164 rfl ?_
  exact w_ifeq cd_92_166 (by decide) h7 h8
theorem b_92_169 {d : Nat} {Q : (Option Value ⊕ Nat) → mi_H → Prop} (n sl : Nat) (f : Nat → mi_C) {l1 : Nat} {l2 : Int32} {l3 : Int32} {l4 : Int32} {l5 : Int32} {l6 : Int32} (h7 : l6 = (0 : Int32) → mi_W d 92 178 [some (.ref l1), some (.int l2), some (.int l3), some (.int l4), some (.int l5), some (.int l6)] [] (n, sl, f) Q) (h8 : ¬ (l6 = (0 : Int32)) → mi_W d 92 174 [some (.ref l1), some (.int l2), some (.int l3), some (.int l4), some (.int l5), some (.int l6)] [] (n, sl, f) Q) : mi_W d 92 169 [some (.ref l1), some (.int l2), some (.int l3), some (.int l4), some (.int l5), some (.int l6)] [] (n, sl, f) Q := by
  refine w_iload cd_92_169 rfl ?_
  exact w_ifeq cd_92_171 (by decide) h7 h8
theorem b_92_174 {d : Nat} {Q : (Option Value ⊕ Nat) → mi_H → Prop} (n sl : Nat) (f : Nat → mi_C) {l1 : Nat} {l2 : Int32} {l3 : Int32} {l4 : Int32} {l5 : Int32} {l6 : Int32} (h7 : mi_W d 92 197 [some (.ref l1), some (.int l2), some (.int l3), some (.int l4), some (.int l5), some (.int l6)] [.int 1] (n, sl, f) Q) : mi_W d 92 174 [some (.ref l1), some (.int l2), some (.int l3), some (.int l4), some (.int l5), some (.int l6)] [] (n, sl, f) Q := by
  refine w_iconst (v := 1) cd_92_174 (by decide) ?_
  exact w_goto cd_92_175 (by decide) h7
theorem b_92_178 {d : Nat} {Q : (Option Value ⊕ Nat) → mi_H → Prop} (n sl : Nat) (f : Nat → mi_C) {l1 : Nat} {l2 : Int32} {l3 : Int32} {l4 : Int32} {l5 : Int32} {l6 : Int32} (h7 : mi_W d 92 197 [some (.ref l1), some (.int l2), some (.int l3), some (.int l4), some (.int l5), some (.int l6)] [.int 0] (n, sl, f) Q) : mi_W d 92 178 [some (.ref l1), some (.int l2), some (.int l3), some (.int l4), some (.int l5), some (.int l6)] [] (n, sl, f) Q := by
  refine w_iconst (v := 0) cd_92_178 (by decide) ?_
  exact w_goto cd_92_179 (by decide) h7
theorem b_92_182 {d : Nat} {Q : (Option Value ⊕ Nat) → mi_H → Prop} (n sl : Nat) (f : Nat → mi_C) {l1 : Nat} {l2 : Int32} {l3 : Int32} {l4 : Int32} {l5 : Int32} {l6 : Int32} (h7 : ¬ l5 = (0 : Int32) → mi_W d 92 192 [some (.ref l1), some (.int l2), some (.int l3), some (.int l4), some (.int l5), some (.int l6)] [] (n, sl, f) Q) (h8 : ¬ (¬ l5 = (0 : Int32)) → mi_W d 92 187 [some (.ref l1), some (.int l2), some (.int l3), some (.int l4), some (.int l5), some (.int l6)] [] (n, sl, f) Q) : mi_W d 92 182 [some (.ref l1), some (.int l2), some (.int l3), some (.int l4), some (.int l5), some (.int l6)] [] (n, sl, f) Q := by
  refine w_iload cd_92_182 rfl ?_
  exact w_ifne cd_92_184 (by decide) h7 h8
theorem b_92_187 {d : Nat} {Q : (Option Value ⊕ Nat) → mi_H → Prop} (n sl : Nat) (f : Nat → mi_C) {l1 : Nat} {l2 : Int32} {l3 : Int32} {l4 : Int32} {l5 : Int32} {l6 : Int32} (h7 : l6 = (0 : Int32) → mi_W d 92 196 [some (.ref l1), some (.int l2), some (.int l3), some (.int l4), some (.int l5), some (.int l6)] [] (n, sl, f) Q) (h8 : ¬ (l6 = (0 : Int32)) → mi_W d 92 192 [some (.ref l1), some (.int l2), some (.int l3), some (.int l4), some (.int l5), some (.int l6)] [] (n, sl, f) Q) : mi_W d 92 187 [some (.ref l1), some (.int l2), some (.int l3), some (.int l4), some (.int l5), some (.int l6)] [] (n, sl, f) Q := by
  refine w_iload cd_92_187 rfl ?_
  exact w_ifeq cd_92_189 (by decide) h7 h8
theorem b_92_192 {d : Nat} {Q : (Option Value ⊕ Nat) → mi_H → Prop} (n sl : Nat) (f : Nat → mi_C) {l1 : Nat} {l2 : Int32} {l3 : Int32} {l4 : Int32} {l5 : Int32} {l6 : Int32} (h7 : mi_W d 92 197 [some (.ref l1), some (.int l2), some (.int l3), some (.int l4), some (.int l5), some (.int l6)] [.int 1] (n, sl, f) Q) : mi_W d 92 192 [some (.ref l1), some (.int l2), some (.int l3), some (.int l4), some (.int l5), some (.int l6)] [] (n, sl, f) Q := by
  refine w_iconst (v := 1) cd_92_192 (by decide) ?_
  exact w_goto cd_92_193 (by decide) h7
theorem b_92_196 {d : Nat} {Q : (Option Value ⊕ Nat) → mi_H → Prop} (n sl : Nat) (f : Nat → mi_C) {l1 : Nat} {l2 : Int32} {l3 : Int32} {l4 : Int32} {l5 : Int32} {l6 : Int32} (h7 : mi_W d 92 197 [some (.ref l1), some (.int l2), some (.int l3), some (.int l4), some (.int l5), some (.int l6)] [.int 0] (n, sl, f) Q) : mi_W d 92 196 [some (.ref l1), some (.int l2), some (.int l3), some (.int l4), some (.int l5), some (.int l6)] [] (n, sl, f) Q := by
  refine w_iconst (v := 0) cd_92_196 (by decide) ?_
  exact h7
theorem b_92_197 {d : Nat} {Q : (Option Value ⊕ Nat) → mi_H → Prop} (n sl : Nat) (f : Nat → mi_C) {l1 : Nat} {l2 : Int32} {l3 : Int32} {l4 : Int32} {l5 : Int32} {l6 : Int32} {s7 : Int32} (h8 : s7 = 0 ∨ s7 = 1) (h9 : Q (.inl (some (.int s7))) (n, sl, f)) : mi_W d 92 197 [some (.ref l1), some (.int l2), some (.int l3), some (.int l4), some (.int l5), some (.int l6)] [.int s7] (n, sl, f) Q := by
  exact w_ireturn_z cd_92_197 (by decide +kernel) h8 h9
theorem b_92_198 {d : Nat} {Q : (Option Value ⊕ Nat) → mi_H → Prop} (n sl : Nat) (f : Nat → mi_C) {l1 : Nat} {l2 : Int32} {l3 : Int32} {l4 : Int32} {o5 : Option Value} {o6 : Option Value} {fs7 : List Value} {x10 : Nat} {fs12 : List Value} {x15 : Nat} (m17 i17 : Nat) (g17 : Nat → Int32) {fs21 : List Value} (h8 : f l1 = .inr (10, fs7)) (h9 : l1 < n) (h11 : fs7[0]? = some (.ref x10)) (h13 : f x10 = .inr (2, fs12)) (h14 : x10 < n) (h16 : fs12[1]? = some (.ref x15)) (h18 : f x15 = .inl (0, m17, .inl g17)) (h19 : x15 < n ∨ x15 = mi_SC) (h20 : mi_ix l2 m17 i17) (h22 : f l1 = .inr (10, fs21)) (h23 : l1 < n) (h24 : mi_W d 87 0 (mi_en 5 [.ref l1, .int (g17 i17), .int (l3 + 1)]) [] (n, sl, f) (mi_Kc d 92 212 [some (.ref l1), some (.int l2), some (.int l3), some (.int l4), o5, o6] [.int l4] Q)) : mi_W (d + 1) 92 198 [some (.ref l1), some (.int l2), some (.int l3), some (.int l4), o5, o6] [] (n, sl, f) Q := by
  refine w_iload_n cd_92_198 rfl ?_
  refine w_aload_n cd_92_199 rfl ?_
  refine w_aload_n cd_92_200 rfl ?_
  refine w_getfield cd_92_201 (show mt_f 10 9 = some (10, 0) by decide +kernel) h8 h9 h11 ?_
  refine w_getfield cd_92_204 (show mt_f 10 36 = some (2, 1) by decide +kernel) h13 h14 h16 ?_
  refine w_iload_n cd_92_207 rfl ?_
  refine w_iaload cd_92_208 h18 h19 h20 ?_
  refine w_iload_n cd_92_209 rfl ?_
  refine w_iconst (v := 1) cd_92_210 (by decide) ?_
  refine w_iadd cd_92_211 ?_
  exact w_invokevirtual cd_92_212 (show mt_m 10 73 = some (87, 0) by decide +kernel) (rest := [.int l4]) rfl (as := [.ref l1, .int (g17 i17), .int (l3 + 1)]) rfl h22 (Or.inl h23) ⟨Nat.le_of_ble_eq_true rfl, Nat.le_of_ble_eq_true rfl, Nat.le_of_ble_eq_true rfl⟩ h24
theorem b_92_215 {d : Nat} {Q : (Option Value ⊕ Nat) → mi_H → Prop} (n sl : Nat) (f : Nat → mi_C) {l1 : Nat} {l2 : Int32} {l3 : Int32} {l4 : Int32} {o5 : Option Value} {o6 : Option Value} {s7 : Int64} {s8 : Int32} {fs9 : List Value} {x12 : Nat} {fs14 : List Value} {x17 : Nat} (m19 i19 : Nat) (g19 : Nat → Int32) {fs23 : List Value} (h10 : f l1 = .inr (10, fs9)) (h11 : l1 < n) (h13 : fs9[0]? = some (.ref x12)) (h15 : f x12 = .inr (2, fs14)) (h16 : x12 < n) (h18 : fs14[3]? = some (.ref x17)) (h20 : f x17 = .inl (0, m19, .inl g19)) (h21 : x17 < n ∨ x17 = mi_SC) (h22 : mi_ix l2 m19 i19) (h24 : f l1 = .inr (10, fs23)) (h25 : l1 < n) (h26 : mi_W d 87 0 (mi_en 5 [.ref l1, .int (g19 i19), .int (l3 + 1)]) [] (n, sl, f) (mi_Kc d 92 228 [some (.ref l1), some (.int l2), some (.int l3), some (.int l4), o5, o6] [.long s7, .int s8] Q)) : mi_W (d + 1) 92 215 [some (.ref l1), some (.int l2), some (.int l3), some (.int l4), o5, o6] [.long s7, .int s8] (n, sl, f) Q := by
  refine w_aload_n cd_92_215 rfl ?_
  refine w_aload_n cd_92_216 rfl ?_
  refine w_getfield cd_92_217 (show mt_f 10 9 = some (10, 0) by decide +kernel) h10 h11 h13 ?_
  refine w_getfield cd_92_220 (show mt_f 10 40 = some (2, 3) by decide +kernel) h15 h16 h18 ?_
  refine w_iload_n cd_92_223 rfl ?_
  refine w_iaload cd_92_224 h20 h21 h22 ?_
  refine w_iload_n cd_92_225 rfl ?_
  refine w_iconst (v := 1) cd_92_226 (by decide) ?_
  refine w_iadd cd_92_227 ?_
  exact w_invokevirtual cd_92_228 (show mt_m 10 73 = some (87, 0) by decide +kernel) (rest := [.long s7, .int s8]) rfl (as := [.ref l1, .int (g19 i19), .int (l3 + 1)]) rfl h24 (Or.inl h25) ⟨Nat.le_of_ble_eq_true rfl, Nat.le_of_ble_eq_true rfl, Nat.le_of_ble_eq_true rfl⟩ h26
theorem b_92_231 {d : Nat} {Q : (Option Value ⊕ Nat) → mi_H → Prop} (n sl : Nat) (f : Nat → mi_C) {l1 : Nat} {l2 : Int32} {l3 : Int32} {l4 : Int32} {o5 : Option Value} {o6 : Option Value} {s7 : Int64} {s8 : Int64} {s9 : Int32} (h10 : mi_W d 94 0 (mi_en 5 [.int s9, .long s8, .long s7]) [] (n, sl, f) (mi_Kc d 92 231 [some (.ref l1), some (.int l2), some (.int l3), some (.int l4), o5, o6] [] Q)) : mi_W (d + 1) 92 231 [some (.ref l1), some (.int l2), some (.int l3), some (.int l4), o5, o6] [.long s7, .long s8, .int s9] (n, sl, f) Q := by
  exact w_invokestatic cd_92_231 (show mt_m 10 93 = some (94, 4) by decide +kernel) (by decide) (rest := []) rfl (as := [.int s9, .long s8, .long s7]) rfl ⟨Nat.le_of_ble_eq_true rfl, Nat.le_of_ble_eq_true rfl, Nat.le_of_ble_eq_true rfl⟩ h10
theorem b_92_234 {d : Nat} {Q : (Option Value ⊕ Nat) → mi_H → Prop} (n sl : Nat) (f : Nat → mi_C) {l1 : Nat} {l2 : Int32} {l3 : Int32} {l4 : Int32} {o5 : Option Value} {o6 : Option Value} {s7 : Int32} (h8 : s7 = 0 ∨ s7 = 1) (h9 : Q (.inl (some (.int s7))) (n, sl, f)) : mi_W d 92 234 [some (.ref l1), some (.int l2), some (.int l3), some (.int l4), o5, o6] [.int s7] (n, sl, f) Q := by
  exact w_ireturn_z cd_92_234 (by decide +kernel) h8 h9
/-! MarloweHost$Situation.isMade(I)Z -/
set_option maxRecDepth 100000 in
theorem mq_93 : mt_q 93 = my_93 := rfl
set_option maxRecDepth 100000 in
theorem ci_93 : mt_inc 0 my_93.cd = true := by decide +kernel
theorem cd_93_0 : mt_cd 93 0 = some (.aload_n 0) := mt_cd_of (q := (0, .aload_n 0, 1)) mq_93 ci_93 (List.mem_of_getElem? (i := 0) rfl)
theorem cd_93_1 : mt_cd 93 1 = some (.getfield 35) := mt_cd_of (q := (1, .getfield 35, 3)) mq_93 ci_93 (List.mem_of_getElem? (i := 1) rfl)
theorem cd_93_4 : mt_cd 93 4 = some (.iload_n 1) := mt_cd_of (q := (4, .iload_n 1, 1)) mq_93 ci_93 (List.mem_of_getElem? (i := 2) rfl)
theorem cd_93_5 : mt_cd 93 5 = some (.ishr) := mt_cd_of (q := (5, .ishr, 1)) mq_93 ci_93 (List.mem_of_getElem? (i := 3) rfl)
theorem cd_93_6 : mt_cd 93 6 = some (.iconst 1) := mt_cd_of (q := (6, .iconst 1, 1)) mq_93 ci_93 (List.mem_of_getElem? (i := 4) rfl)
theorem cd_93_7 : mt_cd 93 7 = some (.iand) := mt_cd_of (q := (7, .iand, 1)) mq_93 ci_93 (List.mem_of_getElem? (i := 5) rfl)
theorem cd_93_8 : mt_cd 93 8 = some (.ifCond .eq 7) := mt_cd_of (q := (8, .ifCond .eq 7, 3)) mq_93 ci_93 (List.mem_of_getElem? (i := 6) rfl)
theorem cd_93_11 : mt_cd 93 11 = some (.iconst 1) := mt_cd_of (q := (11, .iconst 1, 1)) mq_93 ci_93 (List.mem_of_getElem? (i := 7) rfl)
theorem cd_93_12 : mt_cd 93 12 = some (.goto 4) := mt_cd_of (q := (12, .goto 4, 3)) mq_93 ci_93 (List.mem_of_getElem? (i := 8) rfl)
theorem cd_93_15 : mt_cd 93 15 = some (.iconst 0) := mt_cd_of (q := (15, .iconst 0, 1)) mq_93 ci_93 (List.mem_of_getElem? (i := 9) rfl)
theorem cd_93_16 : mt_cd 93 16 = some (.ireturn) := mt_cd_of (q := (16, .ireturn, 1)) mq_93 ci_93 (List.mem_of_getElem? (i := 10) rfl)
theorem b_93_0 {d : Nat} {Q : (Option Value ⊕ Nat) → mi_H → Prop} (n sl : Nat) (f : Nat → mi_C) {l1 : Nat} {l2 : Int32} {fs3 : List Value} {x6 : Int32} (h4 : f l1 = .inr (9, fs3)) (h5 : l1 < n) (h7 : fs3[5]? = some (.int x6)) (h8 : ((x6 >>> (l2 &&& 31)) &&& 1) = (0 : Int32) → mi_W d 93 15 [some (.ref l1), some (.int l2)] [] (n, sl, f) Q) (h9 : ¬ (((x6 >>> (l2 &&& 31)) &&& 1) = (0 : Int32)) → mi_W d 93 11 [some (.ref l1), some (.int l2)] [] (n, sl, f) Q) : mi_W d 93 0 [some (.ref l1), some (.int l2)] [] (n, sl, f) Q := by
  refine w_aload_n cd_93_0 rfl ?_
  refine w_getfield cd_93_1 (show mt_f 9 35 = some (9, 5) by decide +kernel) h4 h5 h7 ?_
  refine w_iload_n cd_93_4 rfl ?_
  refine w_ishr cd_93_5 ?_
  refine w_iconst (v := 1) cd_93_6 (by decide) ?_
  refine w_iand cd_93_7 ?_
  exact w_ifeq cd_93_8 (by decide) h8 h9
theorem b_93_11 {d : Nat} {Q : (Option Value ⊕ Nat) → mi_H → Prop} (n sl : Nat) (f : Nat → mi_C) {l1 : Nat} {l2 : Int32} (h3 : mi_W d 93 16 [some (.ref l1), some (.int l2)] [.int 1] (n, sl, f) Q) : mi_W d 93 11 [some (.ref l1), some (.int l2)] [] (n, sl, f) Q := by
  refine w_iconst (v := 1) cd_93_11 (by decide) ?_
  exact w_goto cd_93_12 (by decide) h3
theorem b_93_15 {d : Nat} {Q : (Option Value ⊕ Nat) → mi_H → Prop} (n sl : Nat) (f : Nat → mi_C) {l1 : Nat} {l2 : Int32} (h3 : mi_W d 93 16 [some (.ref l1), some (.int l2)] [.int 0] (n, sl, f) Q) : mi_W d 93 15 [some (.ref l1), some (.int l2)] [] (n, sl, f) Q := by
  refine w_iconst (v := 0) cd_93_15 (by decide) ?_
  exact h3
theorem b_93_16 {d : Nat} {Q : (Option Value ⊕ Nat) → mi_H → Prop} (n sl : Nat) (f : Nat → mi_C) {l1 : Nat} {l2 : Int32} {s3 : Int32} (h4 : s3 = 0 ∨ s3 = 1) (h5 : Q (.inl (some (.int s3))) (n, sl, f)) : mi_W d 93 16 [some (.ref l1), some (.int l2)] [.int s3] (n, sl, f) Q := by
  exact w_ireturn_z cd_93_16 (by decide +kernel) h4 h5
/-! MarloweHost$Reckoner.compare(IJJ)Z -/
set_option maxRecDepth 100000 in
theorem mq_94 : mt_q 94 = my_94 := rfl
set_option maxRecDepth 100000 in
theorem ci_94 : mt_inc 0 my_94.cd = true := by decide +kernel
theorem cd_94_0 : mt_cd 94 0 = some (.iload_n 0) := mt_cd_of (q := (0, .iload_n 0, 1)) mq_94 ci_94 (List.mem_of_getElem? (i := 0) rfl)
theorem cd_94_1 : mt_cd 94 1 = some (.tableswitch 79 32 35 #[31, 43, 55, 67]) := mt_cd_of (q := (1, .tableswitch 79 32 35 #[31, 43, 55, 67], 31)) mq_94 ci_94 (List.mem_of_getElem? (i := 1) rfl)
theorem cd_94_32 : mt_cd 94 32 = some (.lload_n 1) := mt_cd_of (q := (32, .lload_n 1, 1)) mq_94 ci_94 (List.mem_of_getElem? (i := 2) rfl)
theorem cd_94_33 : mt_cd 94 33 = some (.lload_n 3) := mt_cd_of (q := (33, .lload_n 3, 1)) mq_94 ci_94 (List.mem_of_getElem? (i := 3) rfl)
theorem cd_94_34 : mt_cd 94 34 = some (.lcmp) := mt_cd_of (q := (34, .lcmp, 1)) mq_94 ci_94 (List.mem_of_getElem? (i := 4) rfl)
theorem cd_94_35 : mt_cd 94 35 = some (.ifCond .ge 7) := mt_cd_of (q := (35, .ifCond .ge 7, 3)) mq_94 ci_94 (List.mem_of_getElem? (i := 5) rfl)
theorem cd_94_38 : mt_cd 94 38 = some (.iconst 1) := mt_cd_of (q := (38, .iconst 1, 1)) mq_94 ci_94 (List.mem_of_getElem? (i := 6) rfl)
theorem cd_94_39 : mt_cd 94 39 = some (.goto 4) := mt_cd_of (q := (39, .goto 4, 3)) mq_94 ci_94 (List.mem_of_getElem? (i := 7) rfl)
theorem cd_94_42 : mt_cd 94 42 = some (.iconst 0) := mt_cd_of (q := (42, .iconst 0, 1)) mq_94 ci_94 (List.mem_of_getElem? (i := 8) rfl)
theorem cd_94_43 : mt_cd 94 43 = some (.ireturn) := mt_cd_of (q := (43, .ireturn, 1)) mq_94 ci_94 (List.mem_of_getElem? (i := 9) rfl)
theorem cd_94_44 : mt_cd 94 44 = some (.lload_n 1) := mt_cd_of (q := (44, .lload_n 1, 1)) mq_94 ci_94 (List.mem_of_getElem? (i := 10) rfl)
theorem cd_94_45 : mt_cd 94 45 = some (.lload_n 3) := mt_cd_of (q := (45, .lload_n 3, 1)) mq_94 ci_94 (List.mem_of_getElem? (i := 11) rfl)
theorem cd_94_46 : mt_cd 94 46 = some (.lcmp) := mt_cd_of (q := (46, .lcmp, 1)) mq_94 ci_94 (List.mem_of_getElem? (i := 12) rfl)
theorem cd_94_47 : mt_cd 94 47 = some (.ifCond .gt 7) := mt_cd_of (q := (47, .ifCond .gt 7, 3)) mq_94 ci_94 (List.mem_of_getElem? (i := 13) rfl)
theorem cd_94_50 : mt_cd 94 50 = some (.iconst 1) := mt_cd_of (q := (50, .iconst 1, 1)) mq_94 ci_94 (List.mem_of_getElem? (i := 14) rfl)
theorem cd_94_51 : mt_cd 94 51 = some (.goto 4) := mt_cd_of (q := (51, .goto 4, 3)) mq_94 ci_94 (List.mem_of_getElem? (i := 15) rfl)
theorem cd_94_54 : mt_cd 94 54 = some (.iconst 0) := mt_cd_of (q := (54, .iconst 0, 1)) mq_94 ci_94 (List.mem_of_getElem? (i := 16) rfl)
theorem cd_94_55 : mt_cd 94 55 = some (.ireturn) := mt_cd_of (q := (55, .ireturn, 1)) mq_94 ci_94 (List.mem_of_getElem? (i := 17) rfl)
theorem cd_94_56 : mt_cd 94 56 = some (.lload_n 1) := mt_cd_of (q := (56, .lload_n 1, 1)) mq_94 ci_94 (List.mem_of_getElem? (i := 18) rfl)
theorem cd_94_57 : mt_cd 94 57 = some (.lload_n 3) := mt_cd_of (q := (57, .lload_n 3, 1)) mq_94 ci_94 (List.mem_of_getElem? (i := 19) rfl)
theorem cd_94_58 : mt_cd 94 58 = some (.lcmp) := mt_cd_of (q := (58, .lcmp, 1)) mq_94 ci_94 (List.mem_of_getElem? (i := 20) rfl)
theorem cd_94_59 : mt_cd 94 59 = some (.ifCond .le 7) := mt_cd_of (q := (59, .ifCond .le 7, 3)) mq_94 ci_94 (List.mem_of_getElem? (i := 21) rfl)
theorem cd_94_62 : mt_cd 94 62 = some (.iconst 1) := mt_cd_of (q := (62, .iconst 1, 1)) mq_94 ci_94 (List.mem_of_getElem? (i := 22) rfl)
theorem cd_94_63 : mt_cd 94 63 = some (.goto 4) := mt_cd_of (q := (63, .goto 4, 3)) mq_94 ci_94 (List.mem_of_getElem? (i := 23) rfl)
theorem cd_94_66 : mt_cd 94 66 = some (.iconst 0) := mt_cd_of (q := (66, .iconst 0, 1)) mq_94 ci_94 (List.mem_of_getElem? (i := 24) rfl)
theorem cd_94_67 : mt_cd 94 67 = some (.ireturn) := mt_cd_of (q := (67, .ireturn, 1)) mq_94 ci_94 (List.mem_of_getElem? (i := 25) rfl)
theorem cd_94_68 : mt_cd 94 68 = some (.lload_n 1) := mt_cd_of (q := (68, .lload_n 1, 1)) mq_94 ci_94 (List.mem_of_getElem? (i := 26) rfl)
theorem cd_94_69 : mt_cd 94 69 = some (.lload_n 3) := mt_cd_of (q := (69, .lload_n 3, 1)) mq_94 ci_94 (List.mem_of_getElem? (i := 27) rfl)
theorem cd_94_70 : mt_cd 94 70 = some (.lcmp) := mt_cd_of (q := (70, .lcmp, 1)) mq_94 ci_94 (List.mem_of_getElem? (i := 28) rfl)
theorem cd_94_71 : mt_cd 94 71 = some (.ifCond .lt 7) := mt_cd_of (q := (71, .ifCond .lt 7, 3)) mq_94 ci_94 (List.mem_of_getElem? (i := 29) rfl)
theorem cd_94_74 : mt_cd 94 74 = some (.iconst 1) := mt_cd_of (q := (74, .iconst 1, 1)) mq_94 ci_94 (List.mem_of_getElem? (i := 30) rfl)
theorem cd_94_75 : mt_cd 94 75 = some (.goto 4) := mt_cd_of (q := (75, .goto 4, 3)) mq_94 ci_94 (List.mem_of_getElem? (i := 31) rfl)
theorem cd_94_78 : mt_cd 94 78 = some (.iconst 0) := mt_cd_of (q := (78, .iconst 0, 1)) mq_94 ci_94 (List.mem_of_getElem? (i := 32) rfl)
theorem cd_94_79 : mt_cd 94 79 = some (.ireturn) := mt_cd_of (q := (79, .ireturn, 1)) mq_94 ci_94 (List.mem_of_getElem? (i := 33) rfl)
theorem cd_94_80 : mt_cd 94 80 = some (.lload_n 1) := mt_cd_of (q := (80, .lload_n 1, 1)) mq_94 ci_94 (List.mem_of_getElem? (i := 34) rfl)
theorem cd_94_81 : mt_cd 94 81 = some (.lload_n 3) := mt_cd_of (q := (81, .lload_n 3, 1)) mq_94 ci_94 (List.mem_of_getElem? (i := 35) rfl)
theorem cd_94_82 : mt_cd 94 82 = some (.lcmp) := mt_cd_of (q := (82, .lcmp, 1)) mq_94 ci_94 (List.mem_of_getElem? (i := 36) rfl)
theorem cd_94_83 : mt_cd 94 83 = some (.ifCond .ne 7) := mt_cd_of (q := (83, .ifCond .ne 7, 3)) mq_94 ci_94 (List.mem_of_getElem? (i := 37) rfl)
theorem cd_94_86 : mt_cd 94 86 = some (.iconst 1) := mt_cd_of (q := (86, .iconst 1, 1)) mq_94 ci_94 (List.mem_of_getElem? (i := 38) rfl)
theorem cd_94_87 : mt_cd 94 87 = some (.goto 4) := mt_cd_of (q := (87, .goto 4, 3)) mq_94 ci_94 (List.mem_of_getElem? (i := 39) rfl)
theorem cd_94_90 : mt_cd 94 90 = some (.iconst 0) := mt_cd_of (q := (90, .iconst 0, 1)) mq_94 ci_94 (List.mem_of_getElem? (i := 40) rfl)
theorem cd_94_91 : mt_cd 94 91 = some (.ireturn) := mt_cd_of (q := (91, .ireturn, 1)) mq_94 ci_94 (List.mem_of_getElem? (i := 41) rfl)
theorem b_94_0 {d : Nat} {Q : (Option Value ⊕ Nat) → mi_H → Prop} (n sl : Nat) (f : Nat → mi_C) {l1 : Int32} {l2 : Int64} {l3 : Int64} {t4 : Nat} (h5 : mi_ts 1 79 32 35 #[31, 43, 55, 67] (l1 : Int32).toInt = some t4) (h6 : mi_W d 94 t4 [some (.int l1), some (.long l2), none, some (.long l3), none] [] (n, sl, f) Q) : mi_W d 94 0 [some (.int l1), some (.long l2), none, some (.long l3), none] [] (n, sl, f) Q := by
  refine w_iload_n cd_94_0 rfl ?_
  exact w_tableswitch cd_94_1 h5 h6
theorem b_94_32 {d : Nat} {Q : (Option Value ⊕ Nat) → mi_H → Prop} (n sl : Nat) (f : Nat → mi_C) {l1 : Int32} {l2 : Int64} {l3 : Int64} (h4 : (0 : Int32) ≤ (lg_cmp l2 l3) → mi_W d 94 42 [some (.int l1), some (.long l2), none, some (.long l3), none] [] (n, sl, f) Q) (h5 : ¬ ((0 : Int32) ≤ (lg_cmp l2 l3)) → mi_W d 94 38 [some (.int l1), some (.long l2), none, some (.long l3), none] [] (n, sl, f) Q) : mi_W d 94 32 [some (.int l1), some (.long l2), none, some (.long l3), none] [] (n, sl, f) Q := by
  refine w_lload_n cd_94_32 rfl ?_
  refine w_lload_n cd_94_33 rfl ?_
  refine w_lcmp cd_94_34 ?_
  exact w_ifge cd_94_35 (by decide) h4 h5
theorem b_94_38 {d : Nat} {Q : (Option Value ⊕ Nat) → mi_H → Prop} (n sl : Nat) (f : Nat → mi_C) {l1 : Int32} {l2 : Int64} {l3 : Int64} (h4 : mi_W d 94 43 [some (.int l1), some (.long l2), none, some (.long l3), none] [.int 1] (n, sl, f) Q) : mi_W d 94 38 [some (.int l1), some (.long l2), none, some (.long l3), none] [] (n, sl, f) Q := by
  refine w_iconst (v := 1) cd_94_38 (by decide) ?_
  exact w_goto cd_94_39 (by decide) h4
theorem b_94_42 {d : Nat} {Q : (Option Value ⊕ Nat) → mi_H → Prop} (n sl : Nat) (f : Nat → mi_C) {l1 : Int32} {l2 : Int64} {l3 : Int64} (h4 : mi_W d 94 43 [some (.int l1), some (.long l2), none, some (.long l3), none] [.int 0] (n, sl, f) Q) : mi_W d 94 42 [some (.int l1), some (.long l2), none, some (.long l3), none] [] (n, sl, f) Q := by
  refine w_iconst (v := 0) cd_94_42 (by decide) ?_
  exact h4
theorem b_94_43 {d : Nat} {Q : (Option Value ⊕ Nat) → mi_H → Prop} (n sl : Nat) (f : Nat → mi_C) {l1 : Int32} {l2 : Int64} {l3 : Int64} {s4 : Int32} (h5 : s4 = 0 ∨ s4 = 1) (h6 : Q (.inl (some (.int s4))) (n, sl, f)) : mi_W d 94 43 [some (.int l1), some (.long l2), none, some (.long l3), none] [.int s4] (n, sl, f) Q := by
  exact w_ireturn_z cd_94_43 (by decide +kernel) h5 h6
theorem b_94_44 {d : Nat} {Q : (Option Value ⊕ Nat) → mi_H → Prop} (n sl : Nat) (f : Nat → mi_C) {l1 : Int32} {l2 : Int64} {l3 : Int64} (h4 : (0 : Int32) < (lg_cmp l2 l3) → mi_W d 94 54 [some (.int l1), some (.long l2), none, some (.long l3), none] [] (n, sl, f) Q) (h5 : ¬ ((0 : Int32) < (lg_cmp l2 l3)) → mi_W d 94 50 [some (.int l1), some (.long l2), none, some (.long l3), none] [] (n, sl, f) Q) : mi_W d 94 44 [some (.int l1), some (.long l2), none, some (.long l3), none] [] (n, sl, f) Q := by
  refine w_lload_n cd_94_44 rfl ?_
  refine w_lload_n cd_94_45 rfl ?_
  refine w_lcmp cd_94_46 ?_
  exact w_ifgt cd_94_47 (by decide) h4 h5
theorem b_94_50 {d : Nat} {Q : (Option Value ⊕ Nat) → mi_H → Prop} (n sl : Nat) (f : Nat → mi_C) {l1 : Int32} {l2 : Int64} {l3 : Int64} (h4 : mi_W d 94 55 [some (.int l1), some (.long l2), none, some (.long l3), none] [.int 1] (n, sl, f) Q) : mi_W d 94 50 [some (.int l1), some (.long l2), none, some (.long l3), none] [] (n, sl, f) Q := by
  refine w_iconst (v := 1) cd_94_50 (by decide) ?_
  exact w_goto cd_94_51 (by decide) h4
theorem b_94_54 {d : Nat} {Q : (Option Value ⊕ Nat) → mi_H → Prop} (n sl : Nat) (f : Nat → mi_C) {l1 : Int32} {l2 : Int64} {l3 : Int64} (h4 : mi_W d 94 55 [some (.int l1), some (.long l2), none, some (.long l3), none] [.int 0] (n, sl, f) Q) : mi_W d 94 54 [some (.int l1), some (.long l2), none, some (.long l3), none] [] (n, sl, f) Q := by
  refine w_iconst (v := 0) cd_94_54 (by decide) ?_
  exact h4
theorem b_94_55 {d : Nat} {Q : (Option Value ⊕ Nat) → mi_H → Prop} (n sl : Nat) (f : Nat → mi_C) {l1 : Int32} {l2 : Int64} {l3 : Int64} {s4 : Int32} (h5 : s4 = 0 ∨ s4 = 1) (h6 : Q (.inl (some (.int s4))) (n, sl, f)) : mi_W d 94 55 [some (.int l1), some (.long l2), none, some (.long l3), none] [.int s4] (n, sl, f) Q := by
  exact w_ireturn_z cd_94_55 (by decide +kernel) h5 h6
theorem b_94_56 {d : Nat} {Q : (Option Value ⊕ Nat) → mi_H → Prop} (n sl : Nat) (f : Nat → mi_C) {l1 : Int32} {l2 : Int64} {l3 : Int64} (h4 : (lg_cmp l2 l3) ≤ (0 : Int32) → mi_W d 94 66 [some (.int l1), some (.long l2), none, some (.long l3), none] [] (n, sl, f) Q) (h5 : ¬ ((lg_cmp l2 l3) ≤ (0 : Int32)) → mi_W d 94 62 [some (.int l1), some (.long l2), none, some (.long l3), none] [] (n, sl, f) Q) : mi_W d 94 56 [some (.int l1), some (.long l2), none, some (.long l3), none] [] (n, sl, f) Q := by
  refine w_lload_n cd_94_56 rfl ?_
  refine w_lload_n cd_94_57 rfl ?_
  refine w_lcmp cd_94_58 ?_
  exact w_ifle cd_94_59 (by decide) h4 h5
theorem b_94_62 {d : Nat} {Q : (Option Value ⊕ Nat) → mi_H → Prop} (n sl : Nat) (f : Nat → mi_C) {l1 : Int32} {l2 : Int64} {l3 : Int64} (h4 : mi_W d 94 67 [some (.int l1), some (.long l2), none, some (.long l3), none] [.int 1] (n, sl, f) Q) : mi_W d 94 62 [some (.int l1), some (.long l2), none, some (.long l3), none] [] (n, sl, f) Q := by
  refine w_iconst (v := 1) cd_94_62 (by decide) ?_
  exact w_goto cd_94_63 (by decide) h4
theorem b_94_66 {d : Nat} {Q : (Option Value ⊕ Nat) → mi_H → Prop} (n sl : Nat) (f : Nat → mi_C) {l1 : Int32} {l2 : Int64} {l3 : Int64} (h4 : mi_W d 94 67 [some (.int l1), some (.long l2), none, some (.long l3), none] [.int 0] (n, sl, f) Q) : mi_W d 94 66 [some (.int l1), some (.long l2), none, some (.long l3), none] [] (n, sl, f) Q := by
  refine w_iconst (v := 0) cd_94_66 (by decide) ?_
  exact h4
theorem b_94_67 {d : Nat} {Q : (Option Value ⊕ Nat) → mi_H → Prop} (n sl : Nat) (f : Nat → mi_C) {l1 : Int32} {l2 : Int64} {l3 : Int64} {s4 : Int32} (h5 : s4 = 0 ∨ s4 = 1) (h6 : Q (.inl (some (.int s4))) (n, sl, f)) : mi_W d 94 67 [some (.int l1), some (.long l2), none, some (.long l3), none] [.int s4] (n, sl, f) Q := by
  exact w_ireturn_z cd_94_67 (by decide +kernel) h5 h6
theorem b_94_68 {d : Nat} {Q : (Option Value ⊕ Nat) → mi_H → Prop} (n sl : Nat) (f : Nat → mi_C) {l1 : Int32} {l2 : Int64} {l3 : Int64} (h4 : (lg_cmp l2 l3) < (0 : Int32) → mi_W d 94 78 [some (.int l1), some (.long l2), none, some (.long l3), none] [] (n, sl, f) Q) (h5 : ¬ ((lg_cmp l2 l3) < (0 : Int32)) → mi_W d 94 74 [some (.int l1), some (.long l2), none, some (.long l3), none] [] (n, sl, f) Q) : mi_W d 94 68 [some (.int l1), some (.long l2), none, some (.long l3), none] [] (n, sl, f) Q := by
  refine w_lload_n cd_94_68 rfl ?_
  refine w_lload_n cd_94_69 rfl ?_
  refine w_lcmp cd_94_70 ?_
  exact w_iflt cd_94_71 (by decide) h4 h5
theorem b_94_74 {d : Nat} {Q : (Option Value ⊕ Nat) → mi_H → Prop} (n sl : Nat) (f : Nat → mi_C) {l1 : Int32} {l2 : Int64} {l3 : Int64} (h4 : mi_W d 94 79 [some (.int l1), some (.long l2), none, some (.long l3), none] [.int 1] (n, sl, f) Q) : mi_W d 94 74 [some (.int l1), some (.long l2), none, some (.long l3), none] [] (n, sl, f) Q := by
  refine w_iconst (v := 1) cd_94_74 (by decide) ?_
  exact w_goto cd_94_75 (by decide) h4
theorem b_94_78 {d : Nat} {Q : (Option Value ⊕ Nat) → mi_H → Prop} (n sl : Nat) (f : Nat → mi_C) {l1 : Int32} {l2 : Int64} {l3 : Int64} (h4 : mi_W d 94 79 [some (.int l1), some (.long l2), none, some (.long l3), none] [.int 0] (n, sl, f) Q) : mi_W d 94 78 [some (.int l1), some (.long l2), none, some (.long l3), none] [] (n, sl, f) Q := by
  refine w_iconst (v := 0) cd_94_78 (by decide) ?_
  exact h4
theorem b_94_79 {d : Nat} {Q : (Option Value ⊕ Nat) → mi_H → Prop} (n sl : Nat) (f : Nat → mi_C) {l1 : Int32} {l2 : Int64} {l3 : Int64} {s4 : Int32} (h5 : s4 = 0 ∨ s4 = 1) (h6 : Q (.inl (some (.int s4))) (n, sl, f)) : mi_W d 94 79 [some (.int l1), some (.long l2), none, some (.long l3), none] [.int s4] (n, sl, f) Q := by
  exact w_ireturn_z cd_94_79 (by decide +kernel) h5 h6
theorem b_94_80 {d : Nat} {Q : (Option Value ⊕ Nat) → mi_H → Prop} (n sl : Nat) (f : Nat → mi_C) {l1 : Int32} {l2 : Int64} {l3 : Int64} (h4 : ¬ (lg_cmp l2 l3) = (0 : Int32) → mi_W d 94 90 [some (.int l1), some (.long l2), none, some (.long l3), none] [] (n, sl, f) Q) (h5 : ¬ (¬ (lg_cmp l2 l3) = (0 : Int32)) → mi_W d 94 86 [some (.int l1), some (.long l2), none, some (.long l3), none] [] (n, sl, f) Q) : mi_W d 94 80 [some (.int l1), some (.long l2), none, some (.long l3), none] [] (n, sl, f) Q := by
  refine w_lload_n cd_94_80 rfl ?_
  refine w_lload_n cd_94_81 rfl ?_
  refine w_lcmp cd_94_82 ?_
  exact w_ifne cd_94_83 (by decide) h4 h5
theorem b_94_86 {d : Nat} {Q : (Option Value ⊕ Nat) → mi_H → Prop} (n sl : Nat) (f : Nat → mi_C) {l1 : Int32} {l2 : Int64} {l3 : Int64} (h4 : mi_W d 94 91 [some (.int l1), some (.long l2), none, some (.long l3), none] [.int 1] (n, sl, f) Q) : mi_W d 94 86 [some (.int l1), some (.long l2), none, some (.long l3), none] [] (n, sl, f) Q := by
  refine w_iconst (v := 1) cd_94_86 (by decide) ?_
  exact w_goto cd_94_87 (by decide) h4
theorem b_94_90 {d : Nat} {Q : (Option Value ⊕ Nat) → mi_H → Prop} (n sl : Nat) (f : Nat → mi_C) {l1 : Int32} {l2 : Int64} {l3 : Int64} (h4 : mi_W d 94 91 [some (.int l1), some (.long l2), none, some (.long l3), none] [.int 0] (n, sl, f) Q) : mi_W d 94 90 [some (.int l1), some (.long l2), none, some (.long l3), none] [] (n, sl, f) Q := by
  refine w_iconst (v := 0) cd_94_90 (by decide) ?_
  exact h4
theorem b_94_91 {d : Nat} {Q : (Option Value ⊕ Nat) → mi_H → Prop} (n sl : Nat) (f : Nat → mi_C) {l1 : Int32} {l2 : Int64} {l3 : Int64} {s4 : Int32} (h5 : s4 = 0 ∨ s4 = 1) (h6 : Q (.inl (some (.int s4))) (n, sl, f)) : mi_W d 94 91 [some (.int l1), some (.long l2), none, some (.long l3), none] [.int s4] (n, sl, f) Q := by
  exact w_ireturn_z cd_94_91 (by decide +kernel) h5 h6
/-! MarloweHost$Reckoner.product(JJ)J -/
set_option maxRecDepth 100000 in
theorem mq_95 : mt_q 95 = my_95 := rfl
set_option maxRecDepth 100000 in
theorem ci_95 : mt_inc 0 my_95.cd = true := by decide +kernel
theorem cd_95_0 : mt_cd 95 0 = some (.lload_n 1) := mt_cd_of (q := (0, .lload_n 1, 1)) mq_95 ci_95 (List.mem_of_getElem? (i := 0) rfl)
theorem cd_95_1 : mt_cd 95 1 = some (.lconst 0) := mt_cd_of (q := (1, .lconst 0, 1)) mq_95 ci_95 (List.mem_of_getElem? (i := 1) rfl)
theorem cd_95_2 : mt_cd 95 2 = some (.lcmp) := mt_cd_of (q := (2, .lcmp, 1)) mq_95 ci_95 (List.mem_of_getElem? (i := 2) rfl)
theorem cd_95_3 : mt_cd 95 3 = some (.ifCond .ne 5) := mt_cd_of (q := (3, .ifCond .ne 5, 3)) mq_95 ci_95 (List.mem_of_getElem? (i := 3) rfl)
theorem cd_95_6 : mt_cd 95 6 = some (.lconst 0) := mt_cd_of (q := (6, .lconst 0, 1)) mq_95 ci_95 (List.mem_of_getElem? (i := 4) rfl)
theorem cd_95_7 : mt_cd 95 7 = some (.lreturn) := mt_cd_of (q := (7, .lreturn, 1)) mq_95 ci_95 (List.mem_of_getElem? (i := 5) rfl)
theorem cd_95_8 : mt_cd 95 8 = some (.lload_n 3) := mt_cd_of (q := (8, .lload_n 3, 1)) mq_95 ci_95 (List.mem_of_getElem? (i := 6) rfl)
theorem cd_95_9 : mt_cd 95 9 = some (.invokestatic 97) := mt_cd_of (q := (9, .invokestatic 97, 3)) mq_95 ci_95 (List.mem_of_getElem? (i := 7) rfl)
theorem cd_95_12 : mt_cd 95 12 = some (.ldc2_w 102) := mt_cd_of (q := (12, .ldc2_w 102, 3)) mq_95 ci_95 (List.mem_of_getElem? (i := 8) rfl)
theorem cd_95_15 : mt_cd 95 15 = some (.lload_n 1) := mt_cd_of (q := (15, .lload_n 1, 1)) mq_95 ci_95 (List.mem_of_getElem? (i := 9) rfl)
theorem cd_95_16 : mt_cd 95 16 = some (.invokestatic 97) := mt_cd_of (q := (16, .invokestatic 97, 3)) mq_95 ci_95 (List.mem_of_getElem? (i := 10) rfl)
theorem cd_95_19 : mt_cd 95 19 = some (.ldiv) := mt_cd_of (q := (19, .ldiv, 1)) mq_95 ci_95 (List.mem_of_getElem? (i := 11) rfl)
theorem cd_95_20 : mt_cd 95 20 = some (.lcmp) := mt_cd_of (q := (20, .lcmp, 1)) mq_95 ci_95 (List.mem_of_getElem? (i := 12) rfl)
theorem cd_95_21 : mt_cd 95 21 = some (.ifCond .le 10) := mt_cd_of (q := (21, .ifCond .le 10, 3)) mq_95 ci_95 (List.mem_of_getElem? (i := 13) rfl)
theorem cd_95_24 : mt_cd 95 24 = some (.aload_n 0) := mt_cd_of (q := (24, .aload_n 0, 1)) mq_95 ci_95 (List.mem_of_getElem? (i := 14) rfl)
theorem cd_95_25 : mt_cd 95 25 = some (.iconst 1) := mt_cd_of (q := (25, .iconst 1, 1)) mq_95 ci_95 (List.mem_of_getElem? (i := 15) rfl)
theorem cd_95_26 : mt_cd 95 26 = some (.putfield 26) := mt_cd_of (q := (26, .putfield 26, 3)) mq_95 ci_95 (List.mem_of_getElem? (i := 16) rfl)
theorem cd_95_29 : mt_cd 95 29 = some (.lconst 0) := mt_cd_of (q := (29, .lconst 0, 1)) mq_95 ci_95 (List.mem_of_getElem? (i := 17) rfl)
theorem cd_95_30 : mt_cd 95 30 = some (.lreturn) := mt_cd_of (q := (30, .lreturn, 1)) mq_95 ci_95 (List.mem_of_getElem? (i := 18) rfl)
theorem cd_95_31 : mt_cd 95 31 = some (.lload_n 1) := mt_cd_of (q := (31, .lload_n 1, 1)) mq_95 ci_95 (List.mem_of_getElem? (i := 19) rfl)
theorem cd_95_32 : mt_cd 95 32 = some (.lload_n 3) := mt_cd_of (q := (32, .lload_n 3, 1)) mq_95 ci_95 (List.mem_of_getElem? (i := 20) rfl)
theorem cd_95_33 : mt_cd 95 33 = some (.lmul) := mt_cd_of (q := (33, .lmul, 1)) mq_95 ci_95 (List.mem_of_getElem? (i := 21) rfl)
theorem cd_95_34 : mt_cd 95 34 = some (.lreturn) := mt_cd_of (q := (34, .lreturn, 1)) mq_95 ci_95 (List.mem_of_getElem? (i := 22) rfl)
theorem b_95_0 {d : Nat} {Q : (Option Value ⊕ Nat) → mi_H → Prop} (n sl : Nat) (f : Nat → mi_C) {l1 : Nat} {l2 : Int64} {l3 : Int64} (h4 : ¬ (lg_cmp l2 0) = (0 : Int32) → mi_W d 95 8 [some (.ref l1), some (.long l2), none, some (.long l3), none] [] (n, sl, f) Q) (h5 : ¬ (¬ (lg_cmp l2 0) = (0 : Int32)) → mi_W d 95 6 [some (.ref l1), some (.long l2), none, some (.long l3), none] [] (n, sl, f) Q) : mi_W d 95 0 [some (.ref l1), some (.long l2), none, some (.long l3), none] [] (n, sl, f) Q := by
  refine w_lload_n cd_95_0 rfl ?_
  refine w_lconst (lv := 0) cd_95_1 (by decide) ?_
  refine w_lcmp cd_95_2 ?_
  exact w_ifne cd_95_3 (by decide) h4 h5
theorem b_95_6 {d : Nat} {Q : (Option Value ⊕ Nat) → mi_H → Prop} (n sl : Nat) (f : Nat → mi_C) {l1 : Nat} {l2 : Int64} {l3 : Int64} (h4 : Q (.inl (some (.long 0))) (n, sl, f)) : mi_W d 95 6 [some (.ref l1), some (.long l2), none, some (.long l3), none] [] (n, sl, f) Q := by
  refine w_lconst (lv := 0) cd_95_6 (by decide) ?_
  exact w_lreturn cd_95_7 (by decide +kernel) h4
theorem b_95_8 {d : Nat} {Q : (Option Value ⊕ Nat) → mi_H → Prop} (n sl : Nat) (f : Nat → mi_C) {l1 : Nat} {l2 : Int64} {l3 : Int64} (h4 : mi_W d 96 0 (mi_en 2 [.long l3]) [] (n, sl, f) (mi_Kc d 95 9 [some (.ref l1), some (.long l2), none, some (.long l3), none] [] Q)) : mi_W (d + 1) 95 8 [some (.ref l1), some (.long l2), none, some (.long l3), none] [] (n, sl, f) Q := by
  refine w_lload_n cd_95_8 rfl ?_
  exact w_invokestatic cd_95_9 (show mt_m 10 97 = some (96, 4) by decide +kernel) (by decide) (rest := []) rfl (as := [.long l3]) rfl ⟨Nat.le_of_ble_eq_true rfl, Nat.le_of_ble_eq_true rfl, Nat.le_of_ble_eq_true rfl⟩ h4
theorem b_95_12 {d : Nat} {Q : (Option Value ⊕ Nat) → mi_H → Prop} (n sl : Nat) (f : Nat → mi_C) {l1 : Nat} {l2 : Int64} {l3 : Int64} {s4 : Int64} (h5 : mi_W d 96 0 (mi_en 2 [.long l2]) [] (n, sl, f) (mi_Kc d 95 16 [some (.ref l1), some (.long l2), none, some (.long l3), none] [.long 4611686018427387904, .long s4] Q)) : mi_W (d + 1) 95 12 [some (.ref l1), some (.long l2), none, some (.long l3), none] [.long s4] (n, sl, f) Q := by
  refine w_ldc2_w (lv := 4611686018427387904) cd_95_12 (by decide +kernel) ?_
  refine w_lload_n cd_95_15 rfl ?_
  exact w_invokestatic cd_95_16 (show mt_m 10 97 = some (96, 4) by decide +kernel) (by decide) (rest := [.long 4611686018427387904, .long s4]) rfl (as := [.long l2]) rfl ⟨Nat.le_of_ble_eq_true rfl, Nat.le_of_ble_eq_true rfl, Nat.le_of_ble_eq_true rfl⟩ h5
theorem b_95_19 {d : Nat} {Q : (Option Value ⊕ Nat) → mi_H → Prop} (n sl : Nat) (f : Nat → mi_C) {l1 : Nat} {l2 : Int64} {l3 : Int64} {s4 : Int64} {s5 : Int64} {s6 : Int64} (h7 : ¬ s4 = (0 : Int64)) (h8 : (lg_cmp s6 (s5 / s4)) ≤ (0 : Int32) → mi_W d 95 31 [some (.ref l1), some (.long l2), none, some (.long l3), none] [] (n, sl, f) Q) (h9 : ¬ ((lg_cmp s6 (s5 / s4)) ≤ (0 : Int32)) → mi_W d 95 24 [some (.ref l1), some (.long l2), none, some (.long l3), none] [] (n, sl, f) Q) : mi_W d 95 19 [some (.ref l1), some (.long l2), none, some (.long l3), none] [.long s4, .long s5, .long s6] (n, sl, f) Q := by
  refine w_ldiv cd_95_19 h7 ?_
  refine w_lcmp cd_95_20 ?_
  exact w_ifle cd_95_21 (by decide) h8 h9
theorem b_95_24 {d : Nat} {Q : (Option Value ⊕ Nat) → mi_H → Prop} (n sl : Nat) (f : Nat → mi_C) {l1 : Nat} {l2 : Int64} {l3 : Int64} {fs4 : List Value} (h5 : f l1 = .inr (10, fs4)) (h6 : l1 < n) (h7 : 4 < fs4.length) (h8 : mi_fk .boolean (.int 1) = true) (h9 : Q (.inl (some (.long 0))) (n, sl, (va_up f l1 (.inr (10, fs4.set 4 (.int 1)))))) : mi_W d 95 24 [some (.ref l1), some (.long l2), none, some (.long l3), none] [] (n, sl, f) Q := by
  refine w_aload_n cd_95_24 rfl ?_
  refine w_iconst (v := 1) cd_95_25 (by decide) ?_
  refine w_putfield (w := .int 1) cd_95_26 (show mt_f 10 26 = some (10, 4) by decide +kernel) h5 h6 ⟨h7, h8, Or.inl (by decide)⟩ ?_
  refine w_lconst (lv := 0) cd_95_29 (by decide) ?_
  exact w_lreturn cd_95_30 (by decide +kernel) h9
theorem b_95_31 {d : Nat} {Q : (Option Value ⊕ Nat) → mi_H → Prop} (n sl : Nat) (f : Nat → mi_C) {l1 : Nat} {l2 : Int64} {l3 : Int64} (h4 : Q (.inl (some (.long (l2 * l3)))) (n, sl, f)) : mi_W d 95 31 [some (.ref l1), some (.long l2), none, some (.long l3), none] [] (n, sl, f) Q := by
  refine w_lload_n cd_95_31 rfl ?_
  refine w_lload_n cd_95_32 rfl ?_
  refine w_lmul cd_95_33 ?_
  exact w_lreturn cd_95_34 (by decide +kernel) h4
/-! MarloweHost$Reckoner.quotient(JJ)J -/
set_option maxRecDepth 100000 in
theorem mq_97 : mt_q 97 = my_97 := rfl
set_option maxRecDepth 100000 in
theorem ci_97 : mt_inc 0 my_97.cd = true := by decide +kernel
theorem cd_97_0 : mt_cd 97 0 = some (.lload_n 2) := mt_cd_of (q := (0, .lload_n 2, 1)) mq_97 ci_97 (List.mem_of_getElem? (i := 0) rfl)
theorem cd_97_1 : mt_cd 97 1 = some (.lconst 0) := mt_cd_of (q := (1, .lconst 0, 1)) mq_97 ci_97 (List.mem_of_getElem? (i := 1) rfl)
theorem cd_97_2 : mt_cd 97 2 = some (.lcmp) := mt_cd_of (q := (2, .lcmp, 1)) mq_97 ci_97 (List.mem_of_getElem? (i := 2) rfl)
theorem cd_97_3 : mt_cd 97 3 = some (.ifCond .ne 7) := mt_cd_of (q := (3, .ifCond .ne 7, 3)) mq_97 ci_97 (List.mem_of_getElem? (i := 3) rfl)
theorem cd_97_6 : mt_cd 97 6 = some (.lconst 0) := mt_cd_of (q := (6, .lconst 0, 1)) mq_97 ci_97 (List.mem_of_getElem? (i := 4) rfl)
theorem cd_97_7 : mt_cd 97 7 = some (.goto 6) := mt_cd_of (q := (7, .goto 6, 3)) mq_97 ci_97 (List.mem_of_getElem? (i := 5) rfl)
theorem cd_97_10 : mt_cd 97 10 = some (.lload_n 0) := mt_cd_of (q := (10, .lload_n 0, 1)) mq_97 ci_97 (List.mem_of_getElem? (i := 6) rfl)
theorem cd_97_11 : mt_cd 97 11 = some (.lload_n 2) := mt_cd_of (q := (11, .lload_n 2, 1)) mq_97 ci_97 (List.mem_of_getElem? (i := 7) rfl)
theorem cd_97_12 : mt_cd 97 12 = some (.ldiv) := mt_cd_of (q := (12, .ldiv, 1)) mq_97 ci_97 (List.mem_of_getElem? (i := 8) rfl)
theorem cd_97_13 : mt_cd 97 13 = some (.lreturn) := mt_cd_of (q := (13, .lreturn, 1)) mq_97 ci_97 (List.mem_of_getElem? (i := 9) rfl)
theorem b_97_0 {d : Nat} {Q : (Option Value ⊕ Nat) → mi_H → Prop} (n sl : Nat) (f : Nat → mi_C) {l1 : Int64} {l2 : Int64} (h3 : ¬ (lg_cmp l2 0) = (0 : Int32) → mi_W d 97 10 [some (.long l1), none, some (.long l2), none] [] (n, sl, f) Q) (h4 : ¬ (¬ (lg_cmp l2 0) = (0 : Int32)) → mi_W d 97 6 [some (.long l1), none, some (.long l2), none] [] (n, sl, f) Q) : mi_W d 97 0 [some (.long l1), none, some (.long l2), none] [] (n, sl, f) Q := by
  refine w_lload_n cd_97_0 rfl ?_
  refine w_lconst (lv := 0) cd_97_1 (by decide) ?_
  refine w_lcmp cd_97_2 ?_
  exact w_ifne cd_97_3 (by decide) h3 h4
theorem b_97_6 {d : Nat} {Q : (Option Value ⊕ Nat) → mi_H → Prop} (n sl : Nat) (f : Nat → mi_C) {l1 : Int64} {l2 : Int64} (h3 : mi_W d 97 13 [some (.long l1), none, some (.long l2), none] [.long 0] (n, sl, f) Q) : mi_W d 97 6 [some (.long l1), none, some (.long l2), none] [] (n, sl, f) Q := by
  refine w_lconst (lv := 0) cd_97_6 (by decide) ?_
  exact w_goto cd_97_7 (by decide) h3
theorem b_97_10 {d : Nat} {Q : (Option Value ⊕ Nat) → mi_H → Prop} (n sl : Nat) (f : Nat → mi_C) {l1 : Int64} {l2 : Int64} (h3 : ¬ l2 = (0 : Int64)) (h4 : mi_W d 97 13 [some (.long l1), none, some (.long l2), none] [.long (l1 / l2)] (n, sl, f) Q) : mi_W d 97 10 [some (.long l1), none, some (.long l2), none] [] (n, sl, f) Q := by
  refine w_lload_n cd_97_10 rfl ?_
  refine w_lload_n cd_97_11 rfl ?_
  refine w_ldiv cd_97_12 h3 ?_
  exact h4
theorem b_97_13 {d : Nat} {Q : (Option Value ⊕ Nat) → mi_H → Prop} (n sl : Nat) (f : Nat → mi_C) {l1 : Int64} {l2 : Int64} {s3 : Int64} (h4 : Q (.inl (some (.long s3))) (n, sl, f)) : mi_W d 97 13 [some (.long l1), none, some (.long l2), none] [.long s3] (n, sl, f) Q := by
  exact w_lreturn cd_97_13 (by decide +kernel) h4
/-! MarloweHost$Events.warn(II)V -/
set_option maxRecDepth 100000 in
theorem mq_98 : mt_q 98 = my_98 := rfl
set_option maxRecDepth 100000 in
theorem ci_98 : mt_inc 0 my_98.cd = true := by decide +kernel
theorem cd_98_0 : mt_cd 98 0 = some (.aload_n 0) := mt_cd_of (q := (0, .aload_n 0, 1)) mq_98 ci_98 (List.mem_of_getElem? (i := 0) rfl)
theorem cd_98_1 : mt_cd 98 1 = some (.getfield 31) := mt_cd_of (q := (1, .getfield 31, 3)) mq_98 ci_98 (List.mem_of_getElem? (i := 1) rfl)
theorem cd_98_4 : mt_cd 98 4 = some (.ifCond .lt 43) := mt_cd_of (q := (4, .ifCond .lt 43, 3)) mq_98 ci_98 (List.mem_of_getElem? (i := 2) rfl)
theorem cd_98_7 : mt_cd 98 7 = some (.aload_n 0) := mt_cd_of (q := (7, .aload_n 0, 1)) mq_98 ci_98 (List.mem_of_getElem? (i := 3) rfl)
theorem cd_98_8 : mt_cd 98 8 = some (.getfield 31) := mt_cd_of (q := (8, .getfield 31, 3)) mq_98 ci_98 (List.mem_of_getElem? (i := 4) rfl)
theorem cd_98_11 : mt_cd 98 11 = some (.sipush 148) := mt_cd_of (q := (11, .sipush 148, 3)) mq_98 ci_98 (List.mem_of_getElem? (i := 5) rfl)
theorem cd_98_14 : mt_cd 98 14 = some (.if_icmp .ge 33) := mt_cd_of (q := (14, .if_icmp .ge 33, 3)) mq_98 ci_98 (List.mem_of_getElem? (i := 6) rfl)
theorem cd_98_17 : mt_cd 98 17 = some (.aload_n 0) := mt_cd_of (q := (17, .aload_n 0, 1)) mq_98 ci_98 (List.mem_of_getElem? (i := 7) rfl)
theorem cd_98_18 : mt_cd 98 18 = some (.getfield 9) := mt_cd_of (q := (18, .getfield 9, 3)) mq_98 ci_98 (List.mem_of_getElem? (i := 8) rfl)
theorem cd_98_21 : mt_cd 98 21 = some (.aload_n 0) := mt_cd_of (q := (21, .aload_n 0, 1)) mq_98 ci_98 (List.mem_of_getElem? (i := 9) rfl)
theorem cd_98_22 : mt_cd 98 22 = some (.getfield 31) := mt_cd_of (q := (22, .getfield 31, 3)) mq_98 ci_98 (List.mem_of_getElem? (i := 10) rfl)
theorem cd_98_25 : mt_cd 98 25 = some (.iload_n 1) := mt_cd_of (q := (25, .iload_n 1, 1)) mq_98 ci_98 (List.mem_of_getElem? (i := 11) rfl)
theorem cd_98_26 : mt_cd 98 26 = some (.iastore) := mt_cd_of (q := (26, .iastore, 1)) mq_98 ci_98 (List.mem_of_getElem? (i := 12) rfl)
theorem cd_98_27 : mt_cd 98 27 = some (.aload_n 0) := mt_cd_of (q := (27, .aload_n 0, 1)) mq_98 ci_98 (List.mem_of_getElem? (i := 13) rfl)
theorem cd_98_28 : mt_cd 98 28 = some (.getfield 15) := mt_cd_of (q := (28, .getfield 15, 3)) mq_98 ci_98 (List.mem_of_getElem? (i := 14) rfl)
theorem cd_98_31 : mt_cd 98 31 = some (.aload_n 0) := mt_cd_of (q := (31, .aload_n 0, 1)) mq_98 ci_98 (List.mem_of_getElem? (i := 15) rfl)
theorem cd_98_32 : mt_cd 98 32 = some (.getfield 31) := mt_cd_of (q := (32, .getfield 31, 3)) mq_98 ci_98 (List.mem_of_getElem? (i := 16) rfl)
theorem cd_98_35 : mt_cd 98 35 = some (.iload_n 2) := mt_cd_of (q := (35, .iload_n 2, 1)) mq_98 ci_98 (List.mem_of_getElem? (i := 17) rfl)
theorem cd_98_36 : mt_cd 98 36 = some (.iastore) := mt_cd_of (q := (36, .iastore, 1)) mq_98 ci_98 (List.mem_of_getElem? (i := 18) rfl)
theorem cd_98_37 : mt_cd 98 37 = some (.aload_n 0) := mt_cd_of (q := (37, .aload_n 0, 1)) mq_98 ci_98 (List.mem_of_getElem? (i := 19) rfl)
theorem cd_98_38 : mt_cd 98 38 = some (.dup) := mt_cd_of (q := (38, .dup, 1)) mq_98 ci_98 (List.mem_of_getElem? (i := 20) rfl)
theorem cd_98_39 : mt_cd 98 39 = some (.getfield 31) := mt_cd_of (q := (39, .getfield 31, 3)) mq_98 ci_98 (List.mem_of_getElem? (i := 21) rfl)
theorem cd_98_42 : mt_cd 98 42 = some (.iconst 1) := mt_cd_of (q := (42, .iconst 1, 1)) mq_98 ci_98 (List.mem_of_getElem? (i := 22) rfl)
theorem cd_98_43 : mt_cd 98 43 = some (.iadd) := mt_cd_of (q := (43, .iadd, 1)) mq_98 ci_98 (List.mem_of_getElem? (i := 23) rfl)
theorem cd_98_44 : mt_cd 98 44 = some (.putfield 31) := mt_cd_of (q := (44, .putfield 31, 3)) mq_98 ci_98 (List.mem_of_getElem? (i := 24) rfl)
theorem cd_98_47 : mt_cd 98 47 = some (.return_) := mt_cd_of (q := (47, .return_, 1)) mq_98 ci_98 (List.mem_of_getElem? (i := 25) rfl)
theorem b_98_0 {d : Nat} {Q : (Option Value ⊕ Nat) → mi_H → Prop} (n sl : Nat) (f : Nat → mi_C) {l1 : Nat} {l2 : Int32} {l3 : Int32} {fs4 : List Value} {x7 : Int32} (h5 : f l1 = .inr (8, fs4)) (h6 : l1 < n) (h8 : fs4[6]? = some (.int x7)) (h9 : x7 < (0 : Int32) → mi_W d 98 47 [some (.ref l1), some (.int l2), some (.int l3)] [] (n, sl, f) Q) (h10 : ¬ (x7 < (0 : Int32)) → mi_W d 98 7 [some (.ref l1), some (.int l2), some (.int l3)] [] (n, sl, f) Q) : mi_W d 98 0 [some (.ref l1), some (.int l2), some (.int l3)] [] (n, sl, f) Q := by
  refine w_aload_n cd_98_0 rfl ?_
  refine w_getfield cd_98_1 (show mt_f 8 31 = some (8, 6) by decide +kernel) h5 h6 h8 ?_
  exact w_iflt cd_98_4 (by decide) h9 h10
theorem b_98_7 {d : Nat} {Q : (Option Value ⊕ Nat) → mi_H → Prop} (n sl : Nat) (f : Nat → mi_C) {l1 : Nat} {l2 : Int32} {l3 : Int32} {fs4 : List Value} {x7 : Int32} (h5 : f l1 = .inr (8, fs4)) (h6 : l1 < n) (h8 : fs4[6]? = some (.int x7)) (h9 : 148 ≤ x7 → mi_W d 98 47 [some (.ref l1), some (.int l2), some (.int l3)] [] (n, sl, f) Q) (h10 : ¬ (148 ≤ x7) → mi_W d 98 17 [some (.ref l1), some (.int l2), some (.int l3)] [] (n, sl, f) Q) : mi_W d 98 7 [some (.ref l1), some (.int l2), some (.int l3)] [] (n, sl, f) Q := by
  refine w_aload_n cd_98_7 rfl ?_
  refine w_getfield cd_98_8 (show mt_f 8 31 = some (8, 6) by decide +kernel) h5 h6 h8 ?_
  refine w_sipush (v := 148) cd_98_11 (by decide) ?_
  exact w_if_icmpge cd_98_14 (by decide) h9 h10
theorem b_98_17 {d : Nat} {Q : (Option Value ⊕ Nat) → mi_H → Prop} (n sl : Nat) (f : Nat → mi_C) {l1 : Nat} {l2 : Int32} {l3 : Int32} {fs4 : List Value} {x7 : Nat} {fs9 : List Value} {x12 : Int32} (m14 i14 : Nat) (g14 : Nat → Int32) {fs18 : List Value} {x21 : Nat} {fs23 : List Value} {x26 : Int32} (m28 i28 : Nat) (g28 : Nat → Int32) {fs32 : List Value} {x35 : Int32} {fs37 : List Value} (h5 : f l1 = .inr (8, fs4)) (h6 : l1 < n) (h8 : fs4[0]? = some (.ref x7)) (h10 : f l1 = .inr (8, fs9)) (h11 : l1 < n) (h13 : fs9[6]? = some (.int x12)) (h15 : f x7 = .inl (0, m14, .inl g14)) (h16 : x7 < n) (h17 : mi_ix x12 m14 i14) (h19 : (va_up f x7 (.inl (0, m14, .inl (upd g14 i14 l2)))) l1 = .inr (8, fs18)) (h20 : l1 < n) (h22 : fs18[1]? = some (.ref x21)) (h24 : (va_up f x7 (.inl (0, m14, .inl (upd g14 i14 l2)))) l1 = .inr (8, fs23)) (h25 : l1 < n) (h27 : fs23[6]? = some (.int x26)) (h29 : (va_up f x7 (.inl (0, m14, .inl (upd g14 i14 l2)))) x21 = .inl (0, m28, .inl g28)) (h30 : x21 < n) (h31 : mi_ix x26 m28 i28) (h33 : (va_up (va_up f x7 (.inl (0, m14, .inl (upd g14 i14 l2)))) x21 (.inl (0, m28, .inl (upd g28 i28 l3)))) l1 = .inr (8, fs32)) (h34 : l1 < n) (h36 : fs32[6]? = some (.int x35)) (h38 : (va_up (va_up f x7 (.inl (0, m14, .inl (upd g14 i14 l2)))) x21 (.inl (0, m28, .inl (upd g28 i28 l3)))) l1 = .inr (8, fs37)) (h39 : l1 < n) (h40 : 6 < fs37.length) (h41 : mi_W d 98 47 [some (.ref l1), some (.int l2), some (.int l3)] [] (n, sl, (va_up (va_up (va_up f x7 (.inl (0, m14, .inl (upd g14 i14 l2)))) x21 (.inl (0, m28, .inl (upd g28 i28 l3)))) l1 (.inr (8, fs37.set 6 (.int (x35 + 1)))))) Q) : mi_W d 98 17 [some (.ref l1), some (.int l2), some (.int l3)] [] (n, sl, f) Q := by
  refine w_aload_n cd_98_17 rfl ?_
  refine w_getfield cd_98_18 (show mt_f 8 9 = some (8, 0) by decide +kernel) h5 h6 h8 ?_
  refine w_aload_n cd_98_21 rfl ?_
  refine w_getfield cd_98_22 (show mt_f 8 31 = some (8, 6) by decide +kernel) h10 h11 h13 ?_
  refine w_iload_n cd_98_25 rfl ?_
  refine w_iastore cd_98_26 h15 h16 h17 ?_
  refine w_aload_n cd_98_27 rfl ?_
  refine w_getfield cd_98_28 (show mt_f 8 15 = some (8, 1) by decide +kernel) h19 h20 h22 ?_
  refine w_aload_n cd_98_31 rfl ?_
  refine w_getfield cd_98_32 (show mt_f 8 31 = some (8, 6) by decide +kernel) h24 h25 h27 ?_
  refine w_iload_n cd_98_35 rfl ?_
  refine w_iastore cd_98_36 h29 h30 h31 ?_
  refine w_aload_n cd_98_37 rfl ?_
  refine w_dup_r cd_98_38 ?_
  refine w_getfield cd_98_39 (show mt_f 8 31 = some (8, 6) by decide +kernel) h33 h34 h36 ?_
  refine w_iconst (v := 1) cd_98_42 (by decide) ?_
  refine w_iadd cd_98_43 ?_
  refine w_putfield (w := .int (x35 + 1)) cd_98_44 (show mt_f 8 31 = some (8, 6) by decide +kernel) h38 h39 ⟨h40, rfl, Or.inl (by decide)⟩ ?_
  exact h41
theorem b_98_47 {d : Nat} {Q : (Option Value ⊕ Nat) → mi_H → Prop} (n sl : Nat) (f : Nat → mi_C) {l1 : Nat} {l2 : Int32} {l3 : Int32} (h4 : Q (.inl none) (n, sl, f)) : mi_W d 98 47 [some (.ref l1), some (.int l2), some (.int l3)] [] (n, sl, f) Q := by
  exact w_return cd_98_47 (by decide +kernel) h4
/-! MarloweHost$Situation.addTo(IIJ)Z -/
set_option maxRecDepth 100000 in
theorem mq_100 : mt_q 100 = my_100 := rfl
set_option maxRecDepth 100000 in
theorem ci_100 : mt_inc 0 my_100.cd = true := by decide +kernel
theorem cd_100_0 : mt_cd 100 0 = some (.iload_n 1) := mt_cd_of (q := (0, .iload_n 1, 1)) mq_100 ci_100 (List.mem_of_getElem? (i := 0) rfl)
theorem cd_100_1 : mt_cd 100 1 = some (.iconst 4) := mt_cd_of (q := (1, .iconst 4, 1)) mq_100 ci_100 (List.mem_of_getElem? (i := 1) rfl)
theorem cd_100_2 : mt_cd 100 2 = some (.imul) := mt_cd_of (q := (2, .imul, 1)) mq_100 ci_100 (List.mem_of_getElem? (i := 2) rfl)
theorem cd_100_3 : mt_cd 100 3 = some (.iload_n 2) := mt_cd_of (q := (3, .iload_n 2, 1)) mq_100 ci_100 (List.mem_of_getElem? (i := 3) rfl)
theorem cd_100_4 : mt_cd 100 4 = some (.iadd) := mt_cd_of (q := (4, .iadd, 1)) mq_100 ci_100 (List.mem_of_getElem? (i := 4) rfl)
theorem cd_100_5 : mt_cd 100 5 = some (.istore 5) := mt_cd_of (q := (5, .istore 5, 2)) mq_100 ci_100 (List.mem_of_getElem? (i := 5) rfl)
theorem cd_100_7 : mt_cd 100 7 = some (.iload 5) := mt_cd_of (q := (7, .iload 5, 2)) mq_100 ci_100 (List.mem_of_getElem? (i := 6) rfl)
theorem cd_100_9 : mt_cd 100 9 = some (.ifCond .lt 10) := mt_cd_of (q := (9, .ifCond .lt 10, 3)) mq_100 ci_100 (List.mem_of_getElem? (i := 7) rfl)
theorem cd_100_12 : mt_cd 100 12 = some (.iload 5) := mt_cd_of (q := (12, .iload 5, 2)) mq_100 ci_100 (List.mem_of_getElem? (i := 8) rfl)
theorem cd_100_14 : mt_cd 100 14 = some (.bipush 32) := mt_cd_of (q := (14, .bipush 32, 2)) mq_100 ci_100 (List.mem_of_getElem? (i := 9) rfl)
theorem cd_100_16 : mt_cd 100 16 = some (.if_icmp .lt 5) := mt_cd_of (q := (16, .if_icmp .lt 5, 3)) mq_100 ci_100 (List.mem_of_getElem? (i := 10) rfl)
theorem cd_100_19 : mt_cd 100 19 = some (.iconst 1) := mt_cd_of (q := (19, .iconst 1, 1)) mq_100 ci_100 (List.mem_of_getElem? (i := 11) rfl)
theorem cd_100_20 : mt_cd 100 20 = some (.ireturn) := mt_cd_of (q := (20, .ireturn, 1)) mq_100 ci_100 (List.mem_of_getElem? (i := 12) rfl)
theorem cd_100_21 : mt_cd 100 21 = some (.aload_n 0) := mt_cd_of (q := (21, .aload_n 0, 1)) mq_100 ci_100 (List.mem_of_getElem? (i := 13) rfl)
theorem cd_100_22 : mt_cd 100 22 = some (.getfield 9) := mt_cd_of (q := (22, .getfield 9, 3)) mq_100 ci_100 (List.mem_of_getElem? (i := 14) rfl)
theorem cd_100_25 : mt_cd 100 25 = some (.iload 5) := mt_cd_of (q := (25, .iload 5, 2)) mq_100 ci_100 (List.mem_of_getElem? (i := 15) rfl)
theorem cd_100_27 : mt_cd 100 27 = some (.dup2) := mt_cd_of (q := (27, .dup2, 1)) mq_100 ci_100 (List.mem_of_getElem? (i := 16) rfl)
theorem cd_100_28 : mt_cd 100 28 = some (.laload) := mt_cd_of (q := (28, .laload, 1)) mq_100 ci_100 (List.mem_of_getElem? (i := 17) rfl)
theorem cd_100_29 : mt_cd 100 29 = some (.lload_n 3) := mt_cd_of (q := (29, .lload_n 3, 1)) mq_100 ci_100 (List.mem_of_getElem? (i := 18) rfl)
theorem cd_100_30 : mt_cd 100 30 = some (.ladd) := mt_cd_of (q := (30, .ladd, 1)) mq_100 ci_100 (List.mem_of_getElem? (i := 19) rfl)
theorem cd_100_31 : mt_cd 100 31 = some (.lastore) := mt_cd_of (q := (31, .lastore, 1)) mq_100 ci_100 (List.mem_of_getElem? (i := 20) rfl)
theorem cd_100_32 : mt_cd 100 32 = some (.aload_n 0) := mt_cd_of (q := (32, .aload_n 0, 1)) mq_100 ci_100 (List.mem_of_getElem? (i := 21) rfl)
theorem cd_100_33 : mt_cd 100 33 = some (.getfield 9) := mt_cd_of (q := (33, .getfield 9, 3)) mq_100 ci_100 (List.mem_of_getElem? (i := 22) rfl)
theorem cd_100_36 : mt_cd 100 36 = some (.iload 5) := mt_cd_of (q := (36, .iload 5, 2)) mq_100 ci_100 (List.mem_of_getElem? (i := 23) rfl)
theorem cd_100_38 : mt_cd 100 38 = some (.laload) := mt_cd_of (q := (38, .laload, 1)) mq_100 ci_100 (List.mem_of_getElem? (i := 24) rfl)
theorem cd_100_39 : mt_cd 100 39 = some (.lconst 0) := mt_cd_of (q := (39, .lconst 0, 1)) mq_100 ci_100 (List.mem_of_getElem? (i := 25) rfl)
theorem cd_100_40 : mt_cd 100 40 = some (.lcmp) := mt_cd_of (q := (40, .lcmp, 1)) mq_100 ci_100 (List.mem_of_getElem? (i := 26) rfl)
theorem cd_100_41 : mt_cd 100 41 = some (.ifCond .lt 21) := mt_cd_of (q := (41, .ifCond .lt 21, 3)) mq_100 ci_100 (List.mem_of_getElem? (i := 27) rfl)
theorem cd_100_44 : mt_cd 100 44 = some (.aload_n 0) := mt_cd_of (q := (44, .aload_n 0, 1)) mq_100 ci_100 (List.mem_of_getElem? (i := 28) rfl)
theorem cd_100_45 : mt_cd 100 45 = some (.getfield 9) := mt_cd_of (q := (45, .getfield 9, 3)) mq_100 ci_100 (List.mem_of_getElem? (i := 29) rfl)
theorem cd_100_48 : mt_cd 100 48 = some (.iload 5) := mt_cd_of (q := (48, .iload 5, 2)) mq_100 ci_100 (List.mem_of_getElem? (i := 30) rfl)
theorem cd_100_50 : mt_cd 100 50 = some (.laload) := mt_cd_of (q := (50, .laload, 1)) mq_100 ci_100 (List.mem_of_getElem? (i := 31) rfl)
theorem cd_100_51 : mt_cd 100 51 = some (.ldc2_w 47) := mt_cd_of (q := (51, .ldc2_w 47, 3)) mq_100 ci_100 (List.mem_of_getElem? (i := 32) rfl)
theorem cd_100_54 : mt_cd 100 54 = some (.lcmp) := mt_cd_of (q := (54, .lcmp, 1)) mq_100 ci_100 (List.mem_of_getElem? (i := 33) rfl)
theorem cd_100_55 : mt_cd 100 55 = some (.ifCond .gt 7) := mt_cd_of (q := (55, .ifCond .gt 7, 3)) mq_100 ci_100 (List.mem_of_getElem? (i := 34) rfl)
theorem cd_100_58 : mt_cd 100 58 = some (.iconst 1) := mt_cd_of (q := (58, .iconst 1, 1)) mq_100 ci_100 (List.mem_of_getElem? (i := 35) rfl)
theorem cd_100_59 : mt_cd 100 59 = some (.goto 4) := mt_cd_of (q := (59, .goto 4, 3)) mq_100 ci_100 (List.mem_of_getElem? (i := 36) rfl)
theorem cd_100_62 : mt_cd 100 62 = some (.iconst 0) := mt_cd_of (q := (62, .iconst 0, 1)) mq_100 ci_100 (List.mem_of_getElem? (i := 37) rfl)
theorem cd_100_63 : mt_cd 100 63 = some (.ireturn) := mt_cd_of (q := (63, .ireturn, 1)) mq_100 ci_100 (List.mem_of_getElem? (i := 38) rfl)
theorem b_100_0 {d : Nat} {Q : (Option Value ⊕ Nat) → mi_H → Prop} (n sl : Nat) (f : Nat → mi_C) {l1 : Nat} {l2 : Int32} {l3 : Int32} {l4 : Int64} {o5 : Option Value} (h6 : ((l2 * 4) + l3) < (0 : Int32) → mi_W d 100 19 [some (.ref l1), some (.int l2), some (.int l3), some (.long l4), none, some (.int ((l2 * 4) + l3))] [] (n, sl, f) Q) (h7 : ¬ (((l2 * 4) + l3) < (0 : Int32)) → mi_W d 100 12 [some (.ref l1), some (.int l2), some (.int l3), some (.long l4), none, some (.int ((l2 * 4) + l3))] [] (n, sl, f) Q) : mi_W d 100 0 [some (.ref l1), some (.int l2), some (.int l3), some (.long l4), none, o5] [] (n, sl, f) Q := by
  refine w_iload_n cd_100_0 rfl ?_
  refine w_iconst (v := 4) cd_100_1 (by decide) ?_
  refine w_imul cd_100_2 ?_
  refine w_iload_n cd_100_3 rfl ?_
  refine w_iadd cd_100_4 ?_
  refine w_istore (ls' := [some (.ref l1), some (.int l2), some (.int l3), some (.long l4), none, some (.int ((l2 * 4) + l3))]) cd_100_5 (Nat.le_of_ble_eq_true rfl) rfl ?_
  refine w_iload cd_100_7 rfl ?_
  exact w_iflt cd_100_9 (by decide) h6 h7
theorem b_100_12 {d : Nat} {Q : (Option Value ⊕ Nat) → mi_H → Prop} (n sl : Nat) (f : Nat → mi_C) {l1 : Nat} {l2 : Int32} {l3 : Int32} {l4 : Int64} {l5 : Int32} (h6 : l5 < 32 → mi_W d 100 21 [some (.ref l1), some (.int l2), some (.int l3), some (.long l4), none, some (.int l5)] [] (n, sl, f) Q) (h7 : ¬ (l5 < 32) → mi_W d 100 19 [some (.ref l1), some (.int l2), some (.int l3), some (.long l4), none, some (.int l5)] [] (n, sl, f) Q) : mi_W d 100 12 [some (.ref l1), some (.int l2), some (.int l3), some (.long l4), none, some (.int l5)] [] (n, sl, f) Q := by
  refine w_iload cd_100_12 rfl ?_
  refine w_bipush (v := 32) cd_100_14 (by decide) ?_
  exact w_if_icmplt cd_100_16 (by decide) h6 h7
theorem b_100_19 {d : Nat} {Q : (Option Value ⊕ Nat) → mi_H → Prop} (n sl : Nat) (f : Nat → mi_C) {l1 : Nat} {l2 : Int32} {l3 : Int32} {l4 : Int64} {l5 : Int32} (h6 : Q (.inl (some (.int 1))) (n, sl, f)) : mi_W d 100 19 [some (.ref l1), some (.int l2), some (.int l3), some (.long l4), none, some (.int l5)] [] (n, sl, f) Q := by
  refine w_iconst (v := 1) cd_100_19 (by decide) ?_
  exact w_ireturn_z cd_100_20 (by decide +kernel) (by decide) h6
theorem b_100_21 {d : Nat} {Q : (Option Value ⊕ Nat) → mi_H → Prop} (n sl : Nat) (f : Nat → mi_C) {l1 : Nat} {l2 : Int32} {l3 : Int32} {l4 : Int64} {l5 : Int32} {fs6 : List Value} {x9 : Nat} (m11 i11 : Nat) (g11 : Nat → Int64) (m15 i15 : Nat) (g15 : Nat → Int64) {fs19 : List Value} {x22 : Nat} (m24 i24 : Nat) (g24 : Nat → Int64) (h7 : f l1 = .inr (9, fs6)) (h8 : l1 < n) (h10 : fs6[2]? = some (.ref x9)) (h12 : f x9 = .inl (3, m11, .inr (.inl g11))) (h13 : x9 < n) (h14 : mi_ix l5 m11 i11) (h16 : f x9 = .inl (3, m15, .inr (.inl g15))) (h17 : x9 < n) (h18 : mi_ix l5 m15 i15) (h20 : (va_up f x9 (.inl (3, m15, .inr (.inl (vp_updL g15 i15 ((g11 i11) + l4)))))) l1 = .inr (9, fs19)) (h21 : l1 < n) (h23 : fs19[2]? = some (.ref x22)) (h25 : (va_up f x9 (.inl (3, m15, .inr (.inl (vp_updL g15 i15 ((g11 i11) + l4)))))) x22 = .inl (3, m24, .inr (.inl g24))) (h26 : x22 < n) (h27 : mi_ix l5 m24 i24) (h28 : (lg_cmp (g24 i24) 0) < (0 : Int32) → mi_W d 100 62 [some (.ref l1), some (.int l2), some (.int l3), some (.long l4), none, some (.int l5)] [] (n, sl, (va_up f x9 (.inl (3, m15, .inr (.inl (vp_updL g15 i15 ((g11 i11) + l4))))))) Q) (h29 : ¬ ((lg_cmp (g24 i24) 0) < (0 : Int32)) → mi_W d 100 44 [some (.ref l1), some (.int l2), some (.int l3), some (.long l4), none, some (.int l5)] [] (n, sl, (va_up f x9 (.inl (3, m15, .inr (.inl (vp_updL g15 i15 ((g11 i11) + l4))))))) Q) : mi_W d 100 21 [some (.ref l1), some (.int l2), some (.int l3), some (.long l4), none, some (.int l5)] [] (n, sl, f) Q := by
  refine w_aload_n cd_100_21 rfl ?_
  refine w_getfield cd_100_22 (show mt_f 9 9 = some (9, 2) by decide +kernel) h7 h8 h10 ?_
  refine w_iload cd_100_25 rfl ?_
  refine w_dup2_ir cd_100_27 ?_
  refine w_laload cd_100_28 h12 h13 h14 ?_
  refine w_lload_n cd_100_29 rfl ?_
  refine w_ladd cd_100_30 ?_
  refine w_lastore cd_100_31 h16 h17 h18 ?_
  refine w_aload_n cd_100_32 rfl ?_
  refine w_getfield cd_100_33 (show mt_f 9 9 = some (9, 2) by decide +kernel) h20 h21 h23 ?_
  refine w_iload cd_100_36 rfl ?_
  refine w_laload cd_100_38 h25 h26 h27 ?_
  refine w_lconst (lv := 0) cd_100_39 (by decide) ?_
  refine w_lcmp cd_100_40 ?_
  exact w_iflt cd_100_41 (by decide) h28 h29
theorem b_100_44 {d : Nat} {Q : (Option Value ⊕ Nat) → mi_H → Prop} (n sl : Nat) (f : Nat → mi_C) {l1 : Nat} {l2 : Int32} {l3 : Int32} {l4 : Int64} {l5 : Int32} {fs6 : List Value} {x9 : Nat} (m11 i11 : Nat) (g11 : Nat → Int64) (h7 : f l1 = .inr (9, fs6)) (h8 : l1 < n) (h10 : fs6[2]? = some (.ref x9)) (h12 : f x9 = .inl (3, m11, .inr (.inl g11))) (h13 : x9 < n) (h14 : mi_ix l5 m11 i11) (h15 : (0 : Int32) < (lg_cmp (g11 i11) 4611686018427387904) → mi_W d 100 62 [some (.ref l1), some (.int l2), some (.int l3), some (.long l4), none, some (.int l5)] [] (n, sl, f) Q) (h16 : ¬ ((0 : Int32) < (lg_cmp (g11 i11) 4611686018427387904)) → mi_W d 100 58 [some (.ref l1), some (.int l2), some (.int l3), some (.long l4), none, some (.int l5)] [] (n, sl, f) Q) : mi_W d 100 44 [some (.ref l1), some (.int l2), some (.int l3), some (.long l4), none, some (.int l5)] [] (n, sl, f) Q := by
  refine w_aload_n cd_100_44 rfl ?_
  refine w_getfield cd_100_45 (show mt_f 9 9 = some (9, 2) by decide +kernel) h7 h8 h10 ?_
  refine w_iload cd_100_48 rfl ?_
  refine w_laload cd_100_50 h12 h13 h14 ?_
  refine w_ldc2_w (lv := 4611686018427387904) cd_100_51 (by decide +kernel) ?_
  refine w_lcmp cd_100_54 ?_
  exact w_ifgt cd_100_55 (by decide) h15 h16
theorem b_100_58 {d : Nat} {Q : (Option Value ⊕ Nat) → mi_H → Prop} (n sl : Nat) (f : Nat → mi_C) {l1 : Nat} {l2 : Int32} {l3 : Int32} {l4 : Int64} {l5 : Int32} (h6 : mi_W d 100 63 [some (.ref l1), some (.int l2), some (.int l3), some (.long l4), none, some (.int l5)] [.int 1] (n, sl, f) Q) : mi_W d 100 58 [some (.ref l1), some (.int l2), some (.int l3), some (.long l4), none, some (.int l5)] [] (n, sl, f) Q := by
  refine w_iconst (v := 1) cd_100_58 (by decide) ?_
  exact w_goto cd_100_59 (by decide) h6
theorem b_100_62 {d : Nat} {Q : (Option Value ⊕ Nat) → mi_H → Prop} (n sl : Nat) (f : Nat → mi_C) {l1 : Nat} {l2 : Int32} {l3 : Int32} {l4 : Int64} {l5 : Int32} (h6 : mi_W d 100 63 [some (.ref l1), some (.int l2), some (.int l3), some (.long l4), none, some (.int l5)] [.int 0] (n, sl, f) Q) : mi_W d 100 62 [some (.ref l1), some (.int l2), some (.int l3), some (.long l4), none, some (.int l5)] [] (n, sl, f) Q := by
  refine w_iconst (v := 0) cd_100_62 (by decide) ?_
  exact h6
theorem b_100_63 {d : Nat} {Q : (Option Value ⊕ Nat) → mi_H → Prop} (n sl : Nat) (f : Nat → mi_C) {l1 : Nat} {l2 : Int32} {l3 : Int32} {l4 : Int64} {l5 : Int32} {s6 : Int32} (h7 : s6 = 0 ∨ s6 = 1) (h8 : Q (.inl (some (.int s6))) (n, sl, f)) : mi_W d 100 63 [some (.ref l1), some (.int l2), some (.int l3), some (.long l4), none, some (.int l5)] [.int s6] (n, sl, f) Q := by
  exact w_ireturn_z cd_100_63 (by decide +kernel) h7 h8
/-! MarloweHost$Machine.passTime(I)Z -/
set_option maxRecDepth 100000 in
theorem mq_101 : mt_q 101 = my_101 := rfl
set_option maxRecDepth 100000 in
theorem ci_101 : mt_inc 0 my_101.cd = true := by decide +kernel
theorem cd_101_0 : mt_cd 101 0 = some (.aload_n 0) := mt_cd_of (q := (0, .aload_n 0, 1)) mq_101 ci_101 (List.mem_of_getElem? (i := 0) rfl)
theorem cd_101_1 : mt_cd 101 1 = some (.getfield 18) := mt_cd_of (q := (1, .getfield 18, 3)) mq_101 ci_101 (List.mem_of_getElem? (i := 1) rfl)
theorem cd_101_4 : mt_cd 101 4 = some (.getfield 107) := mt_cd_of (q := (4, .getfield 107, 3)) mq_101 ci_101 (List.mem_of_getElem? (i := 2) rfl)
theorem cd_101_7 : mt_cd 101 7 = some (.iload_n 1) := mt_cd_of (q := (7, .iload_n 1, 1)) mq_101 ci_101 (List.mem_of_getElem? (i := 3) rfl)
theorem cd_101_8 : mt_cd 101 8 = some (.laload) := mt_cd_of (q := (8, .laload, 1)) mq_101 ci_101 (List.mem_of_getElem? (i := 4) rfl)
theorem cd_101_9 : mt_cd 101 9 = some (.lstore_n 2) := mt_cd_of (q := (9, .lstore_n 2, 1)) mq_101 ci_101 (List.mem_of_getElem? (i := 5) rfl)
theorem cd_101_10 : mt_cd 101 10 = some (.aload_n 0) := mt_cd_of (q := (10, .aload_n 0, 1)) mq_101 ci_101 (List.mem_of_getElem? (i := 6) rfl)
theorem cd_101_11 : mt_cd 101 11 = some (.getfield 85) := mt_cd_of (q := (11, .getfield 85, 3)) mq_101 ci_101 (List.mem_of_getElem? (i := 7) rfl)
theorem cd_101_14 : mt_cd 101 14 = some (.lload_n 2) := mt_cd_of (q := (14, .lload_n 2, 1)) mq_101 ci_101 (List.mem_of_getElem? (i := 8) rfl)
theorem cd_101_15 : mt_cd 101 15 = some (.lcmp) := mt_cd_of (q := (15, .lcmp, 1)) mq_101 ci_101 (List.mem_of_getElem? (i := 9) rfl)
theorem cd_101_16 : mt_cd 101 16 = some (.ifCond .ge 5) := mt_cd_of (q := (16, .ifCond .ge 5, 3)) mq_101 ci_101 (List.mem_of_getElem? (i := 10) rfl)
theorem cd_101_19 : mt_cd 101 19 = some (.iconst 0) := mt_cd_of (q := (19, .iconst 0, 1)) mq_101 ci_101 (List.mem_of_getElem? (i := 11) rfl)
theorem cd_101_20 : mt_cd 101 20 = some (.ireturn) := mt_cd_of (q := (20, .ireturn, 1)) mq_101 ci_101 (List.mem_of_getElem? (i := 12) rfl)
theorem cd_101_21 : mt_cd 101 21 = some (.lload_n 2) := mt_cd_of (q := (21, .lload_n 2, 1)) mq_101 ci_101 (List.mem_of_getElem? (i := 13) rfl)
theorem cd_101_22 : mt_cd 101 22 = some (.aload_n 0) := mt_cd_of (q := (22, .aload_n 0, 1)) mq_101 ci_101 (List.mem_of_getElem? (i := 14) rfl)
theorem cd_101_23 : mt_cd 101 23 = some (.getfield 82) := mt_cd_of (q := (23, .getfield 82, 3)) mq_101 ci_101 (List.mem_of_getElem? (i := 15) rfl)
theorem cd_101_26 : mt_cd 101 26 = some (.lcmp) := mt_cd_of (q := (26, .lcmp, 1)) mq_101 ci_101 (List.mem_of_getElem? (i := 16) rfl)
theorem cd_101_27 : mt_cd 101 27 = some (.ifCond .le 10) := mt_cd_of (q := (27, .ifCond .le 10, 3)) mq_101 ci_101 (List.mem_of_getElem? (i := 17) rfl)
theorem cd_101_30 : mt_cd 101 30 = some (.aload_n 0) := mt_cd_of (q := (30, .aload_n 0, 1)) mq_101 ci_101 (List.mem_of_getElem? (i := 18) rfl)
theorem cd_101_31 : mt_cd 101 31 = some (.iconst 3) := mt_cd_of (q := (31, .iconst 3, 1)) mq_101 ci_101 (List.mem_of_getElem? (i := 19) rfl)
theorem cd_101_32 : mt_cd 101 32 = some (.putfield 49) := mt_cd_of (q := (32, .putfield 49, 3)) mq_101 ci_101 (List.mem_of_getElem? (i := 20) rfl)
theorem cd_101_35 : mt_cd 101 35 = some (.iconst 0) := mt_cd_of (q := (35, .iconst 0, 1)) mq_101 ci_101 (List.mem_of_getElem? (i := 21) rfl)
theorem cd_101_36 : mt_cd 101 36 = some (.ireturn) := mt_cd_of (q := (36, .ireturn, 1)) mq_101 ci_101 (List.mem_of_getElem? (i := 22) rfl)
theorem cd_101_37 : mt_cd 101 37 = some (.aload_n 0) := mt_cd_of (q := (37, .aload_n 0, 1)) mq_101 ci_101 (List.mem_of_getElem? (i := 23) rfl)
theorem cd_101_38 : mt_cd 101 38 = some (.getfield 29) := mt_cd_of (q := (38, .getfield 29, 3)) mq_101 ci_101 (List.mem_of_getElem? (i := 24) rfl)
theorem cd_101_41 : mt_cd 101 41 = some (.aload_n 0) := mt_cd_of (q := (41, .aload_n 0, 1)) mq_101 ci_101 (List.mem_of_getElem? (i := 25) rfl)
theorem cd_101_42 : mt_cd 101 42 = some (.getfield 18) := mt_cd_of (q := (42, .getfield 18, 3)) mq_101 ci_101 (List.mem_of_getElem? (i := 26) rfl)
theorem cd_101_45 : mt_cd 101 45 = some (.getfield 129) := mt_cd_of (q := (45, .getfield 129, 3)) mq_101 ci_101 (List.mem_of_getElem? (i := 27) rfl)
theorem cd_101_48 : mt_cd 101 48 = some (.iload_n 1) := mt_cd_of (q := (48, .iload_n 1, 1)) mq_101 ci_101 (List.mem_of_getElem? (i := 28) rfl)
theorem cd_101_49 : mt_cd 101 49 = some (.iaload) := mt_cd_of (q := (49, .iaload, 1)) mq_101 ci_101 (List.mem_of_getElem? (i := 29) rfl)
theorem cd_101_50 : mt_cd 101 50 = some (.putfield 94) := mt_cd_of (q := (50, .putfield 94, 3)) mq_101 ci_101 (List.mem_of_getElem? (i := 30) rfl)
theorem cd_101_53 : mt_cd 101 53 = some (.iconst 1) := mt_cd_of (q := (53, .iconst 1, 1)) mq_101 ci_101 (List.mem_of_getElem? (i := 31) rfl)
theorem cd_101_54 : mt_cd 101 54 = some (.ireturn) := mt_cd_of (q := (54, .ireturn, 1)) mq_101 ci_101 (List.mem_of_getElem? (i := 32) rfl)
theorem b_101_0 {d : Nat} {Q : (Option Value ⊕ Nat) → mi_H → Prop} (n sl : Nat) (f : Nat → mi_C) {l1 : Nat} {l2 : Int32} {o3 : Option Value} {o4 : Option Value} {fs5 : List Value} {x8 : Nat} {fs10 : List Value} {x13 : Nat} (m15 i15 : Nat) (g15 : Nat → Int64) {fs19 : List Value} {x22 : Int64} (h6 : f l1 = .inr (7, fs5)) (h7 : l1 < n) (h9 : fs5[0]? = some (.ref x8)) (h11 : f x8 = .inr (2, fs10)) (h12 : x8 < n) (h14 : fs10[9]? = some (.ref x13)) (h16 : f x13 = .inl (3, m15, .inr (.inl g15))) (h17 : x13 < n) (h18 : mi_ix l2 m15 i15) (h20 : f l1 = .inr (7, fs19)) (h21 : l1 < n) (h23 : fs19[5]? = some (.long x22)) (h24 : (0 : Int32) ≤ (lg_cmp x22 (g15 i15)) → mi_W d 101 21 [some (.ref l1), some (.int l2), some (.long (g15 i15)), none] [] (n, sl, f) Q) (h25 : ¬ ((0 : Int32) ≤ (lg_cmp x22 (g15 i15))) → mi_W d 101 19 [some (.ref l1), some (.int l2), some (.long (g15 i15)), none] [] (n, sl, f) Q) : mi_W d 101 0 [some (.ref l1), some (.int l2), o3, o4] [] (n, sl, f) Q := by
  refine w_aload_n cd_101_0 rfl ?_
  refine w_getfield cd_101_1 (show mt_f 7 18 = some (7, 0) by decide +kernel) h6 h7 h9 ?_
  refine w_getfield cd_101_4 (show mt_f 7 107 = some (2, 9) by decide +kernel) h11 h12 h14 ?_
  refine w_iload_n cd_101_7 rfl ?_
  refine w_laload cd_101_8 h16 h17 h18 ?_
  refine w_lstore_n (ls' := [some (.ref l1), some (.int l2), some (.long (g15 i15)), none]) cd_101_9 (Nat.le_of_ble_eq_true rfl) rfl ?_
  refine w_aload_n cd_101_10 rfl ?_
  refine w_getfield cd_101_11 (show mt_f 7 85 = some (7, 5) by decide +kernel) h20 h21 h23 ?_
  refine w_lload_n cd_101_14 rfl ?_
  refine w_lcmp cd_101_15 ?_
  exact w_ifge cd_101_16 (by decide) h24 h25
theorem b_101_19 {d : Nat} {Q : (Option Value ⊕ Nat) → mi_H → Prop} (n sl : Nat) (f : Nat → mi_C) {l1 : Nat} {l2 : Int32} {l3 : Int64} (h4 : Q (.inl (some (.int 0))) (n, sl, f)) : mi_W d 101 19 [some (.ref l1), some (.int l2), some (.long l3), none] [] (n, sl, f) Q := by
  refine w_iconst (v := 0) cd_101_19 (by decide) ?_
  exact w_ireturn_z cd_101_20 (by decide +kernel) (by decide) h4
theorem b_101_21 {d : Nat} {Q : (Option Value ⊕ Nat) → mi_H → Prop} (n sl : Nat) (f : Nat → mi_C) {l1 : Nat} {l2 : Int32} {l3 : Int64} {fs4 : List Value} {x7 : Int64} (h5 : f l1 = .inr (7, fs4)) (h6 : l1 < n) (h8 : fs4[4]? = some (.long x7)) (h9 : (lg_cmp l3 x7) ≤ (0 : Int32) → mi_W d 101 37 [some (.ref l1), some (.int l2), some (.long l3), none] [] (n, sl, f) Q) (h10 : ¬ ((lg_cmp l3 x7) ≤ (0 : Int32)) → mi_W d 101 30 [some (.ref l1), some (.int l2), some (.long l3), none] [] (n, sl, f) Q) : mi_W d 101 21 [some (.ref l1), some (.int l2), some (.long l3), none] [] (n, sl, f) Q := by
  refine w_lload_n cd_101_21 rfl ?_
  refine w_aload_n cd_101_22 rfl ?_
  refine w_getfield cd_101_23 (show mt_f 7 82 = some (7, 4) by decide +kernel) h5 h6 h8 ?_
  refine w_lcmp cd_101_26 ?_
  exact w_ifle cd_101_27 (by decide) h9 h10
theorem b_101_30 {d : Nat} {Q : (Option Value ⊕ Nat) → mi_H → Prop} (n sl : Nat) (f : Nat → mi_C) {l1 : Nat} {l2 : Int32} {l3 : Int64} {fs4 : List Value} (h5 : f l1 = .inr (7, fs4)) (h6 : l1 < n) (h7 : 6 < fs4.length) (h8 : Q (.inl (some (.int 0))) (n, sl, (va_up f l1 (.inr (7, fs4.set 6 (.int 3)))))) : mi_W d 101 30 [some (.ref l1), some (.int l2), some (.long l3), none] [] (n, sl, f) Q := by
  refine w_aload_n cd_101_30 rfl ?_
  refine w_iconst (v := 3) cd_101_31 (by decide) ?_
  refine w_putfield (w := .int 3) cd_101_32 (show mt_f 7 49 = some (7, 6) by decide +kernel) h5 h6 ⟨h7, rfl, Or.inl (by decide)⟩ ?_
  refine w_iconst (v := 0) cd_101_35 (by decide) ?_
  exact w_ireturn_z cd_101_36 (by decide +kernel) (by decide) h8
theorem b_101_37 {d : Nat} {Q : (Option Value ⊕ Nat) → mi_H → Prop} (n sl : Nat) (f : Nat → mi_C) {l1 : Nat} {l2 : Int32} {l3 : Int64} {fs4 : List Value} {x7 : Nat} {fs9 : List Value} {x12 : Nat} {fs14 : List Value} {x17 : Nat} (m19 i19 : Nat) (g19 : Nat → Int32) {fs23 : List Value} (h5 : f l1 = .inr (7, fs4)) (h6 : l1 < n) (h8 : fs4[3]? = some (.ref x7)) (h10 : f l1 = .inr (7, fs9)) (h11 : l1 < n) (h13 : fs9[0]? = some (.ref x12)) (h15 : f x12 = .inr (2, fs14)) (h16 : x12 < n) (h18 : fs14[3]? = some (.ref x17)) (h20 : f x17 = .inl (0, m19, .inl g19)) (h21 : x17 < n ∨ x17 = mi_SC) (h22 : mi_ix l2 m19 i19) (h24 : f x7 = .inr (9, fs23)) (h25 : x7 < n) (h26 : 0 < fs23.length) (h27 : Q (.inl (some (.int 1))) (n, sl, (va_up f x7 (.inr (9, fs23.set 0 (.int (g19 i19))))))) : mi_W d 101 37 [some (.ref l1), some (.int l2), some (.long l3), none] [] (n, sl, f) Q := by
  refine w_aload_n cd_101_37 rfl ?_
  refine w_getfield cd_101_38 (show mt_f 7 29 = some (7, 3) by decide +kernel) h5 h6 h8 ?_
  refine w_aload_n cd_101_41 rfl ?_
  refine w_getfield cd_101_42 (show mt_f 7 18 = some (7, 0) by decide +kernel) h10 h11 h13 ?_
  refine w_getfield cd_101_45 (show mt_f 7 129 = some (2, 3) by decide +kernel) h15 h16 h18 ?_
  refine w_iload_n cd_101_48 rfl ?_
  refine w_iaload cd_101_49 h20 h21 h22 ?_
  refine w_putfield (w := .int (g19 i19)) cd_101_50 (show mt_f 7 94 = some (9, 0) by decide +kernel) h24 h25 ⟨h26, rfl, Or.inl (by decide)⟩ ?_
  refine w_iconst (v := 1) cd_101_53 (by decide) ?_
  exact w_ireturn_z cd_101_54 (by decide +kernel) (by decide) h27
/-! MarloweHost$Machine.let(I)V -/
set_option maxRecDepth 100000 in
theorem mq_102 : mt_q 102 = my_102 := rfl
set_option maxRecDepth 100000 in
theorem ci_102 : mt_inc 0 my_102.cd = true := by decide +kernel
theorem cd_102_0 : mt_cd 102 0 = some (.aload_n 0) := mt_cd_of (q := (0, .aload_n 0, 1)) mq_102 ci_102 (List.mem_of_getElem? (i := 0) rfl)
theorem cd_102_1 : mt_cd 102 1 = some (.getfield 18) := mt_cd_of (q := (1, .getfield 18, 3)) mq_102 ci_102 (List.mem_of_getElem? (i := 1) rfl)
theorem cd_102_4 : mt_cd 102 4 = some (.getfield 157) := mt_cd_of (q := (4, .getfield 157, 3)) mq_102 ci_102 (List.mem_of_getElem? (i := 2) rfl)
theorem cd_102_7 : mt_cd 102 7 = some (.iload_n 1) := mt_cd_of (q := (7, .iload_n 1, 1)) mq_102 ci_102 (List.mem_of_getElem? (i := 3) rfl)
theorem cd_102_8 : mt_cd 102 8 = some (.iaload) := mt_cd_of (q := (8, .iaload, 1)) mq_102 ci_102 (List.mem_of_getElem? (i := 4) rfl)
theorem cd_102_9 : mt_cd 102 9 = some (.istore_n 2) := mt_cd_of (q := (9, .istore_n 2, 1)) mq_102 ci_102 (List.mem_of_getElem? (i := 5) rfl)
theorem cd_102_10 : mt_cd 102 10 = some (.aload_n 0) := mt_cd_of (q := (10, .aload_n 0, 1)) mq_102 ci_102 (List.mem_of_getElem? (i := 6) rfl)
theorem cd_102_11 : mt_cd 102 11 = some (.getfield 38) := mt_cd_of (q := (11, .getfield 38, 3)) mq_102 ci_102 (List.mem_of_getElem? (i := 7) rfl)
theorem cd_102_14 : mt_cd 102 14 = some (.aload_n 0) := mt_cd_of (q := (14, .aload_n 0, 1)) mq_102 ci_102 (List.mem_of_getElem? (i := 8) rfl)
theorem cd_102_15 : mt_cd 102 15 = some (.getfield 18) := mt_cd_of (q := (15, .getfield 18, 3)) mq_102 ci_102 (List.mem_of_getElem? (i := 9) rfl)
theorem cd_102_18 : mt_cd 102 18 = some (.getfield 118) := mt_cd_of (q := (18, .getfield 118, 3)) mq_102 ci_102 (List.mem_of_getElem? (i := 10) rfl)
theorem cd_102_21 : mt_cd 102 21 = some (.iload_n 1) := mt_cd_of (q := (21, .iload_n 1, 1)) mq_102 ci_102 (List.mem_of_getElem? (i := 11) rfl)
theorem cd_102_22 : mt_cd 102 22 = some (.iaload) := mt_cd_of (q := (22, .iaload, 1)) mq_102 ci_102 (List.mem_of_getElem? (i := 12) rfl)
theorem cd_102_23 : mt_cd 102 23 = some (.iconst 1) := mt_cd_of (q := (23, .iconst 1, 1)) mq_102 ci_102 (List.mem_of_getElem? (i := 13) rfl)
theorem cd_102_24 : mt_cd 102 24 = some (.invokevirtual 153) := mt_cd_of (q := (24, .invokevirtual 153, 3)) mq_102 ci_102 (List.mem_of_getElem? (i := 14) rfl)
theorem cd_102_27 : mt_cd 102 27 = some (.lstore_n 3) := mt_cd_of (q := (27, .lstore_n 3, 1)) mq_102 ci_102 (List.mem_of_getElem? (i := 15) rfl)
theorem cd_102_28 : mt_cd 102 28 = some (.aload_n 0) := mt_cd_of (q := (28, .aload_n 0, 1)) mq_102 ci_102 (List.mem_of_getElem? (i := 16) rfl)
theorem cd_102_29 : mt_cd 102 29 = some (.getfield 29) := mt_cd_of (q := (29, .getfield 29, 3)) mq_102 ci_102 (List.mem_of_getElem? (i := 17) rfl)
theorem cd_102_32 : mt_cd 102 32 = some (.iload_n 2) := mt_cd_of (q := (32, .iload_n 2, 1)) mq_102 ci_102 (List.mem_of_getElem? (i := 18) rfl)
theorem cd_102_33 : mt_cd 102 33 = some (.invokevirtual 180) := mt_cd_of (q := (33, .invokevirtual 180, 3)) mq_102 ci_102 (List.mem_of_getElem? (i := 19) rfl)
theorem cd_102_36 : mt_cd 102 36 = some (.ifCond .eq 12) := mt_cd_of (q := (36, .ifCond .eq 12, 3)) mq_102 ci_102 (List.mem_of_getElem? (i := 20) rfl)
theorem cd_102_39 : mt_cd 102 39 = some (.aload_n 0) := mt_cd_of (q := (39, .aload_n 0, 1)) mq_102 ci_102 (List.mem_of_getElem? (i := 21) rfl)
theorem cd_102_40 : mt_cd 102 40 = some (.getfield 12) := mt_cd_of (q := (40, .getfield 12, 3)) mq_102 ci_102 (List.mem_of_getElem? (i := 22) rfl)
theorem cd_102_43 : mt_cd 102 43 = some (.iconst 4) := mt_cd_of (q := (43, .iconst 4, 1)) mq_102 ci_102 (List.mem_of_getElem? (i := 23) rfl)
theorem cd_102_44 : mt_cd 102 44 = some (.iload_n 1) := mt_cd_of (q := (44, .iload_n 1, 1)) mq_102 ci_102 (List.mem_of_getElem? (i := 24) rfl)
theorem cd_102_45 : mt_cd 102 45 = some (.invokevirtual 139) := mt_cd_of (q := (45, .invokevirtual 139, 3)) mq_102 ci_102 (List.mem_of_getElem? (i := 25) rfl)
theorem cd_102_48 : mt_cd 102 48 = some (.aload_n 0) := mt_cd_of (q := (48, .aload_n 0, 1)) mq_102 ci_102 (List.mem_of_getElem? (i := 26) rfl)
theorem cd_102_49 : mt_cd 102 49 = some (.getfield 29) := mt_cd_of (q := (49, .getfield 29, 3)) mq_102 ci_102 (List.mem_of_getElem? (i := 27) rfl)
theorem cd_102_52 : mt_cd 102 52 = some (.iload_n 2) := mt_cd_of (q := (52, .iload_n 2, 1)) mq_102 ci_102 (List.mem_of_getElem? (i := 28) rfl)
theorem cd_102_53 : mt_cd 102 53 = some (.lload_n 3) := mt_cd_of (q := (53, .lload_n 3, 1)) mq_102 ci_102 (List.mem_of_getElem? (i := 29) rfl)
theorem cd_102_54 : mt_cd 102 54 = some (.invokevirtual 183) := mt_cd_of (q := (54, .invokevirtual 183, 3)) mq_102 ci_102 (List.mem_of_getElem? (i := 30) rfl)
theorem cd_102_57 : mt_cd 102 57 = some (.aload_n 0) := mt_cd_of (q := (57, .aload_n 0, 1)) mq_102 ci_102 (List.mem_of_getElem? (i := 31) rfl)
theorem cd_102_58 : mt_cd 102 58 = some (.getfield 29) := mt_cd_of (q := (58, .getfield 29, 3)) mq_102 ci_102 (List.mem_of_getElem? (i := 32) rfl)
theorem cd_102_61 : mt_cd 102 61 = some (.aload_n 0) := mt_cd_of (q := (61, .aload_n 0, 1)) mq_102 ci_102 (List.mem_of_getElem? (i := 33) rfl)
theorem cd_102_62 : mt_cd 102 62 = some (.getfield 18) := mt_cd_of (q := (62, .getfield 18, 3)) mq_102 ci_102 (List.mem_of_getElem? (i := 34) rfl)
theorem cd_102_65 : mt_cd 102 65 = some (.getfield 129) := mt_cd_of (q := (65, .getfield 129, 3)) mq_102 ci_102 (List.mem_of_getElem? (i := 35) rfl)
theorem cd_102_68 : mt_cd 102 68 = some (.iload_n 1) := mt_cd_of (q := (68, .iload_n 1, 1)) mq_102 ci_102 (List.mem_of_getElem? (i := 36) rfl)
theorem cd_102_69 : mt_cd 102 69 = some (.iaload) := mt_cd_of (q := (69, .iaload, 1)) mq_102 ci_102 (List.mem_of_getElem? (i := 37) rfl)
theorem cd_102_70 : mt_cd 102 70 = some (.putfield 94) := mt_cd_of (q := (70, .putfield 94, 3)) mq_102 ci_102 (List.mem_of_getElem? (i := 38) rfl)
theorem cd_102_73 : mt_cd 102 73 = some (.return_) := mt_cd_of (q := (73, .return_, 1)) mq_102 ci_102 (List.mem_of_getElem? (i := 39) rfl)
theorem b_102_0 {d : Nat} {Q : (Option Value ⊕ Nat) → mi_H → Prop} (n sl : Nat) (f : Nat → mi_C) {l1 : Nat} {l2 : Int32} {o3 : Option Value} {o4 : Option Value} {o5 : Option Value} {fs6 : List Value} {x9 : Nat} {fs11 : List Value} {x14 : Nat} (m16 i16 : Nat) (g16 : Nat → Int32) {fs20 : List Value} {x23 : Nat} {fs25 : List Value} {x28 : Nat} {fs30 : List Value} {x33 : Nat} (m35 i35 : Nat) (g35 : Nat → Int32) {fs39 : List Value} (h7 : f l1 = .inr (7, fs6)) (h8 : l1 < n) (h10 : fs6[0]? = some (.ref x9)) (h12 : f x9 = .inr (2, fs11)) (h13 : x9 < n) (h15 : fs11[4]? = some (.ref x14)) (h17 : f x14 = .inl (0, m16, .inl g16)) (h18 : x14 < n ∨ x14 = mi_SC) (h19 : mi_ix l2 m16 i16) (h21 : f l1 = .inr (7, fs20)) (h22 : l1 < n) (h24 : fs20[2]? = some (.ref x23)) (h26 : f l1 = .inr (7, fs25)) (h27 : l1 < n) (h29 : fs25[0]? = some (.ref x28)) (h31 : f x28 = .inr (2, fs30)) (h32 : x28 < n) (h34 : fs30[1]? = some (.ref x33)) (h36 : f x33 = .inl (0, m35, .inl g35)) (h37 : x33 < n ∨ x33 = mi_SC) (h38 : mi_ix l2 m35 i35) (h40 : f x23 = .inr (10, fs39)) (h41 : x23 < n) (h42 : mi_W d 87 0 (mi_en 5 [.ref x23, .int (g35 i35), .int 1]) [] (n, sl, f) (mi_Kc d 102 24 [some (.ref l1), some (.int l2), some (.int (g16 i16)), o4, o5] [] Q)) : mi_W (d + 1) 102 0 [some (.ref l1), some (.int l2), o3, o4, o5] [] (n, sl, f) Q := by
  refine w_aload_n cd_102_0 rfl ?_
  refine w_getfield cd_102_1 (show mt_f 7 18 = some (7, 0) by decide +kernel) h7 h8 h10 ?_
  refine w_getfield cd_102_4 (show mt_f 7 157 = some (2, 4) by decide +kernel) h12 h13 h15 ?_
  refine w_iload_n cd_102_7 rfl ?_
  refine w_iaload cd_102_8 h17 h18 h19 ?_
  refine w_istore_n (ls' := [some (.ref l1), some (.int l2), some (.int (g16 i16)), o4, o5]) cd_102_9 (Nat.le_of_ble_eq_true rfl) rfl ?_
  refine w_aload_n cd_102_10 rfl ?_
  refine w_getfield cd_102_11 (show mt_f 7 38 = some (7, 2) by decide +kernel) h21 h22 h24 ?_
  refine w_aload_n cd_102_14 rfl ?_
  refine w_getfield cd_102_15 (show mt_f 7 18 = some (7, 0) by decide +kernel) h26 h27 h29 ?_
  refine w_getfield cd_102_18 (show mt_f 7 118 = some (2, 1) by decide +kernel) h31 h32 h34 ?_
  refine w_iload_n cd_102_21 rfl ?_
  refine w_iaload cd_102_22 h36 h37 h38 ?_
  refine w_iconst (v := 1) cd_102_23 (by decide) ?_
  exact w_invokevirtual cd_102_24 (show mt_m 7 153 = some (87, 0) by decide +kernel) (rest := []) rfl (as := [.ref x23, .int (g35 i35), .int 1]) rfl h40 (Or.inl h41) ⟨Nat.le_of_ble_eq_true rfl, Nat.le_of_ble_eq_true rfl, Nat.le_of_ble_eq_true rfl⟩ h42
theorem b_102_27 {d : Nat} {Q : (Option Value ⊕ Nat) → mi_H → Prop} (n sl : Nat) (f : Nat → mi_C) {l1 : Nat} {l2 : Int32} {l3 : Int32} {o4 : Option Value} {o5 : Option Value} {s6 : Int64} {fs7 : List Value} {x10 : Nat} {fs12 : List Value} (h8 : f l1 = .inr (7, fs7)) (h9 : l1 < n) (h11 : fs7[3]? = some (.ref x10)) (h13 : f x10 = .inr (9, fs12)) (h14 : x10 < n) (h15 : mi_W d 103 0 (mi_en 2 [.ref x10, .int l3]) [] (n, sl, f) (mi_Kc d 102 33 [some (.ref l1), some (.int l2), some (.int l3), some (.long s6), none] [] Q)) : mi_W (d + 1) 102 27 [some (.ref l1), some (.int l2), some (.int l3), o4, o5] [.long s6] (n, sl, f) Q := by
  refine w_lstore_n (ls' := [some (.ref l1), some (.int l2), some (.int l3), some (.long s6), none]) cd_102_27 (Nat.le_of_ble_eq_true rfl) rfl ?_
  refine w_aload_n cd_102_28 rfl ?_
  refine w_getfield cd_102_29 (show mt_f 7 29 = some (7, 3) by decide +kernel) h8 h9 h11 ?_
  refine w_iload_n cd_102_32 rfl ?_
  exact w_invokevirtual cd_102_33 (show mt_m 7 180 = some (103, 0) by decide +kernel) (rest := []) rfl (as := [.ref x10, .int l3]) rfl h13 (Or.inl h14) ⟨Nat.le_of_ble_eq_true rfl, Nat.le_of_ble_eq_true rfl, Nat.le_of_ble_eq_true rfl⟩ h15
theorem b_102_36 {d : Nat} {Q : (Option Value ⊕ Nat) → mi_H → Prop} (n sl : Nat) (f : Nat → mi_C) {l1 : Nat} {l2 : Int32} {l3 : Int32} {l4 : Int64} {s5 : Int32} (h6 : s5 = (0 : Int32) → mi_W d 102 48 [some (.ref l1), some (.int l2), some (.int l3), some (.long l4), none] [] (n, sl, f) Q) (h7 : ¬ (s5 = (0 : Int32)) → mi_W d 102 39 [some (.ref l1), some (.int l2), some (.int l3), some (.long l4), none] [] (n, sl, f) Q) : mi_W d 102 36 [some (.ref l1), some (.int l2), some (.int l3), some (.long l4), none] [.int s5] (n, sl, f) Q := by
  exact w_ifeq cd_102_36 (by decide) h6 h7
theorem b_102_39 {d : Nat} {Q : (Option Value ⊕ Nat) → mi_H → Prop} (n sl : Nat) (f : Nat → mi_C) {l1 : Nat} {l2 : Int32} {l3 : Int32} {l4 : Int64} {fs5 : List Value} {x8 : Nat} {fs10 : List Value} (h6 : f l1 = .inr (7, fs5)) (h7 : l1 < n) (h9 : fs5[7]? = some (.ref x8)) (h11 : f x8 = .inr (8, fs10)) (h12 : x8 < n) (h13 : mi_W d 98 0 (mi_en 3 [.ref x8, .int 4, .int l2]) [] (n, sl, f) (mi_Kc d 102 45 [some (.ref l1), some (.int l2), some (.int l3), some (.long l4), none] [] Q)) : mi_W (d + 1) 102 39 [some (.ref l1), some (.int l2), some (.int l3), some (.long l4), none] [] (n, sl, f) Q := by
  refine w_aload_n cd_102_39 rfl ?_
  refine w_getfield cd_102_40 (show mt_f 7 12 = some (7, 7) by decide +kernel) h6 h7 h9 ?_
  refine w_iconst (v := 4) cd_102_43 (by decide) ?_
  refine w_iload_n cd_102_44 rfl ?_
  exact w_invokevirtual cd_102_45 (show mt_m 7 139 = some (98, 0) by decide +kernel) (rest := []) rfl (as := [.ref x8, .int 4, .int l2]) rfl h11 (Or.inl h12) ⟨Nat.le_of_ble_eq_true rfl, Nat.le_of_ble_eq_true rfl, Nat.le_of_ble_eq_true rfl⟩ h13
theorem b_102_48 {d : Nat} {Q : (Option Value ⊕ Nat) → mi_H → Prop} (n sl : Nat) (f : Nat → mi_C) {l1 : Nat} {l2 : Int32} {l3 : Int32} {l4 : Int64} {fs5 : List Value} {x8 : Nat} {fs10 : List Value} (h6 : f l1 = .inr (7, fs5)) (h7 : l1 < n) (h9 : fs5[3]? = some (.ref x8)) (h11 : f x8 = .inr (9, fs10)) (h12 : x8 < n) (h13 : mi_W d 104 0 (mi_en 4 [.ref x8, .int l3, .long l4]) [] (n, sl, f) (mi_Kc d 102 54 [some (.ref l1), some (.int l2), some (.int l3), some (.long l4), none] [] Q)) : mi_W (d + 1) 102 48 [some (.ref l1), some (.int l2), some (.int l3), some (.long l4), none] [] (n, sl, f) Q := by
  refine w_aload_n cd_102_48 rfl ?_
  refine w_getfield cd_102_49 (show mt_f 7 29 = some (7, 3) by decide +kernel) h6 h7 h9 ?_
  refine w_iload_n cd_102_52 rfl ?_
  refine w_lload_n cd_102_53 rfl ?_
  exact w_invokevirtual cd_102_54 (show mt_m 7 183 = some (104, 0) by decide +kernel) (rest := []) rfl (as := [.ref x8, .int l3, .long l4]) rfl h11 (Or.inl h12) ⟨Nat.le_of_ble_eq_true rfl, Nat.le_of_ble_eq_true rfl, Nat.le_of_ble_eq_true rfl⟩ h13
theorem b_102_57 {d : Nat} {Q : (Option Value ⊕ Nat) → mi_H → Prop} (n sl : Nat) (f : Nat → mi_C) {l1 : Nat} {l2 : Int32} {l3 : Int32} {l4 : Int64} {fs5 : List Value} {x8 : Nat} {fs10 : List Value} {x13 : Nat} {fs15 : List Value} {x18 : Nat} (m20 i20 : Nat) (g20 : Nat → Int32) {fs24 : List Value} (h6 : f l1 = .inr (7, fs5)) (h7 : l1 < n) (h9 : fs5[3]? = some (.ref x8)) (h11 : f l1 = .inr (7, fs10)) (h12 : l1 < n) (h14 : fs10[0]? = some (.ref x13)) (h16 : f x13 = .inr (2, fs15)) (h17 : x13 < n) (h19 : fs15[3]? = some (.ref x18)) (h21 : f x18 = .inl (0, m20, .inl g20)) (h22 : x18 < n ∨ x18 = mi_SC) (h23 : mi_ix l2 m20 i20) (h25 : f x8 = .inr (9, fs24)) (h26 : x8 < n) (h27 : 0 < fs24.length) (h28 : Q (.inl none) (n, sl, (va_up f x8 (.inr (9, fs24.set 0 (.int (g20 i20))))))) : mi_W d 102 57 [some (.ref l1), some (.int l2), some (.int l3), some (.long l4), none] [] (n, sl, f) Q := by
  refine w_aload_n cd_102_57 rfl ?_
  refine w_getfield cd_102_58 (show mt_f 7 29 = some (7, 3) by decide +kernel) h6 h7 h9 ?_
  refine w_aload_n cd_102_61 rfl ?_
  refine w_getfield cd_102_62 (show mt_f 7 18 = some (7, 0) by decide +kernel) h11 h12 h14 ?_
  refine w_getfield cd_102_65 (show mt_f 7 129 = some (2, 3) by decide +kernel) h16 h17 h19 ?_
  refine w_iload_n cd_102_68 rfl ?_
  refine w_iaload cd_102_69 h21 h22 h23 ?_
  refine w_putfield (w := .int (g20 i20)) cd_102_70 (show mt_f 7 94 = some (9, 0) by decide +kernel) h25 h26 ⟨h27, rfl, Or.inl (by decide)⟩ ?_
  exact w_return cd_102_73 (by decide +kernel) h28
/-! MarloweHost$Situation.isUsed(I)Z -/
set_option maxRecDepth 100000 in
theorem mq_103 : mt_q 103 = my_103 := rfl
set_option maxRecDepth 100000 in
theorem ci_103 : mt_inc 0 my_103.cd = true := by decide +kernel
theorem cd_103_0 : mt_cd 103 0 = some (.aload_n 0) := mt_cd_of (q := (0, .aload_n 0, 1)) mq_103 ci_103 (List.mem_of_getElem? (i := 0) rfl)
theorem cd_103_1 : mt_cd 103 1 = some (.getfield 38) := mt_cd_of (q := (1, .getfield 38, 3)) mq_103 ci_103 (List.mem_of_getElem? (i := 1) rfl)
theorem cd_103_4 : mt_cd 103 4 = some (.iload_n 1) := mt_cd_of (q := (4, .iload_n 1, 1)) mq_103 ci_103 (List.mem_of_getElem? (i := 2) rfl)
theorem cd_103_5 : mt_cd 103 5 = some (.ishr) := mt_cd_of (q := (5, .ishr, 1)) mq_103 ci_103 (List.mem_of_getElem? (i := 3) rfl)
theorem cd_103_6 : mt_cd 103 6 = some (.iconst 1) := mt_cd_of (q := (6, .iconst 1, 1)) mq_103 ci_103 (List.mem_of_getElem? (i := 4) rfl)
theorem cd_103_7 : mt_cd 103 7 = some (.iand) := mt_cd_of (q := (7, .iand, 1)) mq_103 ci_103 (List.mem_of_getElem? (i := 5) rfl)
theorem cd_103_8 : mt_cd 103 8 = some (.ifCond .eq 7) := mt_cd_of (q := (8, .ifCond .eq 7, 3)) mq_103 ci_103 (List.mem_of_getElem? (i := 6) rfl)
theorem cd_103_11 : mt_cd 103 11 = some (.iconst 1) := mt_cd_of (q := (11, .iconst 1, 1)) mq_103 ci_103 (List.mem_of_getElem? (i := 7) rfl)
theorem cd_103_12 : mt_cd 103 12 = some (.goto 4) := mt_cd_of (q := (12, .goto 4, 3)) mq_103 ci_103 (List.mem_of_getElem? (i := 8) rfl)
theorem cd_103_15 : mt_cd 103 15 = some (.iconst 0) := mt_cd_of (q := (15, .iconst 0, 1)) mq_103 ci_103 (List.mem_of_getElem? (i := 9) rfl)
theorem cd_103_16 : mt_cd 103 16 = some (.ireturn) := mt_cd_of (q := (16, .ireturn, 1)) mq_103 ci_103 (List.mem_of_getElem? (i := 10) rfl)
theorem b_103_0 {d : Nat} {Q : (Option Value ⊕ Nat) → mi_H → Prop} (n sl : Nat) (f : Nat → mi_C) {l1 : Nat} {l2 : Int32} {fs3 : List Value} {x6 : Int32} (h4 : f l1 = .inr (9, fs3)) (h5 : l1 < n) (h7 : fs3[6]? = some (.int x6)) (h8 : ((x6 >>> (l2 &&& 31)) &&& 1) = (0 : Int32) → mi_W d 103 15 [some (.ref l1), some (.int l2)] [] (n, sl, f) Q) (h9 : ¬ (((x6 >>> (l2 &&& 31)) &&& 1) = (0 : Int32)) → mi_W d 103 11 [some (.ref l1), some (.int l2)] [] (n, sl, f) Q) : mi_W d 103 0 [some (.ref l1), some (.int l2)] [] (n, sl, f) Q := by
  refine w_aload_n cd_103_0 rfl ?_
  refine w_getfield cd_103_1 (show mt_f 9 38 = some (9, 6) by decide +kernel) h4 h5 h7 ?_
  refine w_iload_n cd_103_4 rfl ?_
  refine w_ishr cd_103_5 ?_
  refine w_iconst (v := 1) cd_103_6 (by decide) ?_
  refine w_iand cd_103_7 ?_
  exact w_ifeq cd_103_8 (by decide) h8 h9
theorem b_103_11 {d : Nat} {Q : (Option Value ⊕ Nat) → mi_H → Prop} (n sl : Nat) (f : Nat → mi_C) {l1 : Nat} {l2 : Int32} (h3 : mi_W d 103 16 [some (.ref l1), some (.int l2)] [.int 1] (n, sl, f) Q) : mi_W d 103 11 [some (.ref l1), some (.int l2)] [] (n, sl, f) Q := by
  refine w_iconst (v := 1) cd_103_11 (by decide) ?_
  exact w_goto cd_103_12 (by decide) h3
theorem b_103_15 {d : Nat} {Q : (Option Value ⊕ Nat) → mi_H → Prop} (n sl : Nat) (f : Nat → mi_C) {l1 : Nat} {l2 : Int32} (h3 : mi_W d 103 16 [some (.ref l1), some (.int l2)] [.int 0] (n, sl, f) Q) : mi_W d 103 15 [some (.ref l1), some (.int l2)] [] (n, sl, f) Q := by
  refine w_iconst (v := 0) cd_103_15 (by decide) ?_
  exact h3
theorem b_103_16 {d : Nat} {Q : (Option Value ⊕ Nat) → mi_H → Prop} (n sl : Nat) (f : Nat → mi_C) {l1 : Nat} {l2 : Int32} {s3 : Int32} (h4 : s3 = 0 ∨ s3 = 1) (h5 : Q (.inl (some (.int s3))) (n, sl, f)) : mi_W d 103 16 [some (.ref l1), some (.int l2)] [.int s3] (n, sl, f) Q := by
  exact w_ireturn_z cd_103_16 (by decide +kernel) h4 h5
/-! MarloweHost$Situation.setUsed(IJ)V -/
set_option maxRecDepth 100000 in
theorem mq_104 : mt_q 104 = my_104 := rfl
set_option maxRecDepth 100000 in
theorem ci_104 : mt_inc 0 my_104.cd = true := by decide +kernel
theorem cd_104_0 : mt_cd 104 0 = some (.iload_n 1) := mt_cd_of (q := (0, .iload_n 1, 1)) mq_104 ci_104 (List.mem_of_getElem? (i := 0) rfl)
theorem cd_104_1 : mt_cd 104 1 = some (.ifCond .lt 28) := mt_cd_of (q := (1, .ifCond .lt 28, 3)) mq_104 ci_104 (List.mem_of_getElem? (i := 1) rfl)
theorem cd_104_4 : mt_cd 104 4 = some (.iload_n 1) := mt_cd_of (q := (4, .iload_n 1, 1)) mq_104 ci_104 (List.mem_of_getElem? (i := 2) rfl)
theorem cd_104_5 : mt_cd 104 5 = some (.bipush 8) := mt_cd_of (q := (5, .bipush 8, 2)) mq_104 ci_104 (List.mem_of_getElem? (i := 3) rfl)
theorem cd_104_7 : mt_cd 104 7 = some (.if_icmp .ge 22) := mt_cd_of (q := (7, .if_icmp .ge 22, 3)) mq_104 ci_104 (List.mem_of_getElem? (i := 4) rfl)
theorem cd_104_10 : mt_cd 104 10 = some (.aload_n 0) := mt_cd_of (q := (10, .aload_n 0, 1)) mq_104 ci_104 (List.mem_of_getElem? (i := 5) rfl)
theorem cd_104_11 : mt_cd 104 11 = some (.getfield 18) := mt_cd_of (q := (11, .getfield 18, 3)) mq_104 ci_104 (List.mem_of_getElem? (i := 6) rfl)
theorem cd_104_14 : mt_cd 104 14 = some (.iload_n 1) := mt_cd_of (q := (14, .iload_n 1, 1)) mq_104 ci_104 (List.mem_of_getElem? (i := 7) rfl)
theorem cd_104_15 : mt_cd 104 15 = some (.lload_n 2) := mt_cd_of (q := (15, .lload_n 2, 1)) mq_104 ci_104 (List.mem_of_getElem? (i := 8) rfl)
theorem cd_104_16 : mt_cd 104 16 = some (.lastore) := mt_cd_of (q := (16, .lastore, 1)) mq_104 ci_104 (List.mem_of_getElem? (i := 9) rfl)
theorem cd_104_17 : mt_cd 104 17 = some (.aload_n 0) := mt_cd_of (q := (17, .aload_n 0, 1)) mq_104 ci_104 (List.mem_of_getElem? (i := 10) rfl)
theorem cd_104_18 : mt_cd 104 18 = some (.dup) := mt_cd_of (q := (18, .dup, 1)) mq_104 ci_104 (List.mem_of_getElem? (i := 11) rfl)
theorem cd_104_19 : mt_cd 104 19 = some (.getfield 38) := mt_cd_of (q := (19, .getfield 38, 3)) mq_104 ci_104 (List.mem_of_getElem? (i := 12) rfl)
theorem cd_104_22 : mt_cd 104 22 = some (.iconst 1) := mt_cd_of (q := (22, .iconst 1, 1)) mq_104 ci_104 (List.mem_of_getElem? (i := 13) rfl)
theorem cd_104_23 : mt_cd 104 23 = some (.iload_n 1) := mt_cd_of (q := (23, .iload_n 1, 1)) mq_104 ci_104 (List.mem_of_getElem? (i := 14) rfl)
theorem cd_104_24 : mt_cd 104 24 = some (.ishl) := mt_cd_of (q := (24, .ishl, 1)) mq_104 ci_104 (List.mem_of_getElem? (i := 15) rfl)
theorem cd_104_25 : mt_cd 104 25 = some (.ior) := mt_cd_of (q := (25, .ior, 1)) mq_104 ci_104 (List.mem_of_getElem? (i := 16) rfl)
theorem cd_104_26 : mt_cd 104 26 = some (.putfield 38) := mt_cd_of (q := (26, .putfield 38, 3)) mq_104 ci_104 (List.mem_of_getElem? (i := 17) rfl)
theorem cd_104_29 : mt_cd 104 29 = some (.return_) := mt_cd_of (q := (29, .return_, 1)) mq_104 ci_104 (List.mem_of_getElem? (i := 18) rfl)
theorem b_104_0 {d : Nat} {Q : (Option Value ⊕ Nat) → mi_H → Prop} (n sl : Nat) (f : Nat → mi_C) {l1 : Nat} {l2 : Int32} {l3 : Int64} (h4 : l2 < (0 : Int32) → mi_W d 104 29 [some (.ref l1), some (.int l2), some (.long l3), none] [] (n, sl, f) Q) (h5 : ¬ (l2 < (0 : Int32)) → mi_W d 104 4 [some (.ref l1), some (.int l2), some (.long l3), none] [] (n, sl, f) Q) : mi_W d 104 0 [some (.ref l1), some (.int l2), some (.long l3), none] [] (n, sl, f) Q := by
  refine w_iload_n cd_104_0 rfl ?_
  exact w_iflt cd_104_1 (by decide) h4 h5
theorem b_104_4 {d : Nat} {Q : (Option Value ⊕ Nat) → mi_H → Prop} (n sl : Nat) (f : Nat → mi_C) {l1 : Nat} {l2 : Int32} {l3 : Int64} (h4 : 8 ≤ l2 → mi_W d 104 29 [some (.ref l1), some (.int l2), some (.long l3), none] [] (n, sl, f) Q) (h5 : ¬ (8 ≤ l2) → mi_W d 104 10 [some (.ref l1), some (.int l2), some (.long l3), none] [] (n, sl, f) Q) : mi_W d 104 4 [some (.ref l1), some (.int l2), some (.long l3), none] [] (n, sl, f) Q := by
  refine w_iload_n cd_104_4 rfl ?_
  refine w_bipush (v := 8) cd_104_5 (by decide) ?_
  exact w_if_icmpge cd_104_7 (by decide) h4 h5
theorem b_104_10 {d : Nat} {Q : (Option Value ⊕ Nat) → mi_H → Prop} (n sl : Nat) (f : Nat → mi_C) {l1 : Nat} {l2 : Int32} {l3 : Int64} {fs4 : List Value} {x7 : Nat} (m9 i9 : Nat) (g9 : Nat → Int64) {fs13 : List Value} {x16 : Int32} {fs18 : List Value} (h5 : f l1 = .inr (9, fs4)) (h6 : l1 < n) (h8 : fs4[4]? = some (.ref x7)) (h10 : f x7 = .inl (3, m9, .inr (.inl g9))) (h11 : x7 < n) (h12 : mi_ix l2 m9 i9) (h14 : (va_up f x7 (.inl (3, m9, .inr (.inl (vp_updL g9 i9 l3))))) l1 = .inr (9, fs13)) (h15 : l1 < n) (h17 : fs13[6]? = some (.int x16)) (h19 : (va_up f x7 (.inl (3, m9, .inr (.inl (vp_updL g9 i9 l3))))) l1 = .inr (9, fs18)) (h20 : l1 < n) (h21 : 6 < fs18.length) (h22 : mi_W d 104 29 [some (.ref l1), some (.int l2), some (.long l3), none] [] (n, sl, (va_up (va_up f x7 (.inl (3, m9, .inr (.inl (vp_updL g9 i9 l3))))) l1 (.inr (9, fs18.set 6 (.int (x16 ||| (1 <<< (l2 &&& 31)))))))) Q) : mi_W d 104 10 [some (.ref l1), some (.int l2), some (.long l3), none] [] (n, sl, f) Q := by
  refine w_aload_n cd_104_10 rfl ?_
  refine w_getfield cd_104_11 (show mt_f 9 18 = some (9, 4) by decide +kernel) h5 h6 h8 ?_
  refine w_iload_n cd_104_14 rfl ?_
  refine w_lload_n cd_104_15 rfl ?_
  refine w_lastore cd_104_16 h10 h11 h12 ?_
  refine w_aload_n cd_104_17 rfl ?_
  refine w_dup_r cd_104_18 ?_
  refine w_getfield cd_104_19 (show mt_f 9 38 = some (9, 6) by decide +kernel) h14 h15 h17 ?_
  refine w_iconst (v := 1) cd_104_22 (by decide) ?_
  refine w_iload_n cd_104_23 rfl ?_
  refine w_ishl cd_104_24 ?_
  refine w_ior cd_104_25 ?_
  refine w_putfield (w := .int (x16 ||| (1 <<< (l2 &&& 31)))) cd_104_26 (show mt_f 9 38 = some (9, 6) by decide +kernel) h19 h20 ⟨h21, rfl, Or.inl (by decide)⟩ ?_
  exact h22
theorem b_104_29 {d : Nat} {Q : (Option Value ⊕ Nat) → mi_H → Prop} (n sl : Nat) (f : Nat → mi_C) {l1 : Nat} {l2 : Int32} {l3 : Int64} (h4 : Q (.inl none) (n, sl, f)) : mi_W d 104 29 [some (.ref l1), some (.int l2), some (.long l3), none] [] (n, sl, f) Q := by
  exact w_return cd_104_29 (by decide +kernel) h4
/-! MarloweHost$Machine.takeInput(LMarloweHost$Inputs;I)V -/
set_option maxRecDepth 100000 in
theorem mq_105 : mt_q 105 = my_105 := rfl
set_option maxRecDepth 100000 in
theorem ci_105 : mt_inc 0 my_105.cd = true := by decide +kernel
theorem cd_105_0 : mt_cd 105 0 = some (.aload_n 0) := mt_cd_of (q := (0, .aload_n 0, 1)) mq_105 ci_105 (List.mem_of_getElem? (i := 0) rfl)
theorem cd_105_1 : mt_cd 105 1 = some (.getfield 29) := mt_cd_of (q := (1, .getfield 29, 3)) mq_105 ci_105 (List.mem_of_getElem? (i := 1) rfl)
theorem cd_105_4 : mt_cd 105 4 = some (.getfield 94) := mt_cd_of (q := (4, .getfield 94, 3)) mq_105 ci_105 (List.mem_of_getElem? (i := 2) rfl)
theorem cd_105_7 : mt_cd 105 7 = some (.istore_n 3) := mt_cd_of (q := (7, .istore_n 3, 1)) mq_105 ci_105 (List.mem_of_getElem? (i := 3) rfl)
theorem cd_105_8 : mt_cd 105 8 = some (.aload_n 0) := mt_cd_of (q := (8, .aload_n 0, 1)) mq_105 ci_105 (List.mem_of_getElem? (i := 4) rfl)
theorem cd_105_9 : mt_cd 105 9 = some (.getfield 18) := mt_cd_of (q := (9, .getfield 18, 3)) mq_105 ci_105 (List.mem_of_getElem? (i := 5) rfl)
theorem cd_105_12 : mt_cd 105 12 = some (.iload_n 3) := mt_cd_of (q := (12, .iload_n 3, 1)) mq_105 ci_105 (List.mem_of_getElem? (i := 6) rfl)
theorem cd_105_13 : mt_cd 105 13 = some (.invokevirtual 97) := mt_cd_of (q := (13, .invokevirtual 97, 3)) mq_105 ci_105 (List.mem_of_getElem? (i := 7) rfl)
theorem cd_105_16 : mt_cd 105 16 = some (.iconst 5) := mt_cd_of (q := (16, .iconst 5, 1)) mq_105 ci_105 (List.mem_of_getElem? (i := 8) rfl)
theorem cd_105_17 : mt_cd 105 17 = some (.if_icmp .ne 15) := mt_cd_of (q := (17, .if_icmp .ne 15, 3)) mq_105 ci_105 (List.mem_of_getElem? (i := 9) rfl)
theorem cd_105_20 : mt_cd 105 20 = some (.aload_n 0) := mt_cd_of (q := (20, .aload_n 0, 1)) mq_105 ci_105 (List.mem_of_getElem? (i := 10) rfl)
theorem cd_105_21 : mt_cd 105 21 = some (.getfield 18) := mt_cd_of (q := (21, .getfield 18, 3)) mq_105 ci_105 (List.mem_of_getElem? (i := 11) rfl)
theorem cd_105_24 : mt_cd 105 24 = some (.getfield 118) := mt_cd_of (q := (24, .getfield 118, 3)) mq_105 ci_105 (List.mem_of_getElem? (i := 12) rfl)
theorem cd_105_27 : mt_cd 105 27 = some (.iload_n 3) := mt_cd_of (q := (27, .iload_n 3, 1)) mq_105 ci_105 (List.mem_of_getElem? (i := 13) rfl)
theorem cd_105_28 : mt_cd 105 28 = some (.iaload) := mt_cd_of (q := (28, .iaload, 1)) mq_105 ci_105 (List.mem_of_getElem? (i := 14) rfl)
theorem cd_105_29 : mt_cd 105 29 = some (.goto 4) := mt_cd_of (q := (29, .goto 4, 3)) mq_105 ci_105 (List.mem_of_getElem? (i := 15) rfl)
theorem cd_105_32 : mt_cd 105 32 = some (.iconst (-1)) := mt_cd_of (q := (32, .iconst (-1), 1)) mq_105 ci_105 (List.mem_of_getElem? (i := 16) rfl)
theorem cd_105_33 : mt_cd 105 33 = some (.istore 4) := mt_cd_of (q := (33, .istore 4, 2)) mq_105 ci_105 (List.mem_of_getElem? (i := 17) rfl)
theorem cd_105_35 : mt_cd 105 35 = some (.iconst 0) := mt_cd_of (q := (35, .iconst 0, 1)) mq_105 ci_105 (List.mem_of_getElem? (i := 18) rfl)
theorem cd_105_36 : mt_cd 105 36 = some (.istore 5) := mt_cd_of (q := (36, .istore 5, 2)) mq_105 ci_105 (List.mem_of_getElem? (i := 19) rfl)
theorem cd_105_38 : mt_cd 105 38 = some (.iload 5) := mt_cd_of (q := (38, .iload 5, 2)) mq_105 ci_105 (List.mem_of_getElem? (i := 20) rfl)
theorem cd_105_40 : mt_cd 105 40 = some (.bipush 8) := mt_cd_of (q := (40, .bipush 8, 2)) mq_105 ci_105 (List.mem_of_getElem? (i := 21) rfl)
theorem cd_105_42 : mt_cd 105 42 = some (.if_icmp .ge 78) := mt_cd_of (q := (42, .if_icmp .ge 78, 3)) mq_105 ci_105 (List.mem_of_getElem? (i := 22) rfl)
theorem cd_105_45 : mt_cd 105 45 = some (.aload_n 0) := mt_cd_of (q := (45, .aload_n 0, 1)) mq_105 ci_105 (List.mem_of_getElem? (i := 23) rfl)
theorem cd_105_46 : mt_cd 105 46 = some (.getfield 18) := mt_cd_of (q := (46, .getfield 18, 3)) mq_105 ci_105 (List.mem_of_getElem? (i := 24) rfl)
theorem cd_105_49 : mt_cd 105 49 = some (.iload 4) := mt_cd_of (q := (49, .iload 4, 2)) mq_105 ci_105 (List.mem_of_getElem? (i := 25) rfl)
theorem cd_105_51 : mt_cd 105 51 = some (.invokevirtual 187) := mt_cd_of (q := (51, .invokevirtual 187, 3)) mq_105 ci_105 (List.mem_of_getElem? (i := 26) rfl)
theorem cd_105_54 : mt_cd 105 54 = some (.ifCond .eq 66) := mt_cd_of (q := (54, .ifCond .eq 66, 3)) mq_105 ci_105 (List.mem_of_getElem? (i := 27) rfl)
theorem cd_105_57 : mt_cd 105 57 = some (.aload_n 0) := mt_cd_of (q := (57, .aload_n 0, 1)) mq_105 ci_105 (List.mem_of_getElem? (i := 28) rfl)
theorem cd_105_58 : mt_cd 105 58 = some (.iload 4) := mt_cd_of (q := (58, .iload 4, 2)) mq_105 ci_105 (List.mem_of_getElem? (i := 29) rfl)
theorem cd_105_60 : mt_cd 105 60 = some (.aload_n 1) := mt_cd_of (q := (60, .aload_n 1, 1)) mq_105 ci_105 (List.mem_of_getElem? (i := 30) rfl)
theorem cd_105_61 : mt_cd 105 61 = some (.iload_n 2) := mt_cd_of (q := (61, .iload_n 2, 1)) mq_105 ci_105 (List.mem_of_getElem? (i := 31) rfl)
theorem cd_105_62 : mt_cd 105 62 = some (.invokevirtual 190) := mt_cd_of (q := (62, .invokevirtual 190, 3)) mq_105 ci_105 (List.mem_of_getElem? (i := 32) rfl)
theorem cd_105_65 : mt_cd 105 65 = some (.istore 6) := mt_cd_of (q := (65, .istore 6, 2)) mq_105 ci_105 (List.mem_of_getElem? (i := 33) rfl)
theorem cd_105_67 : mt_cd 105 67 = some (.aload_n 0) := mt_cd_of (q := (67, .aload_n 0, 1)) mq_105 ci_105 (List.mem_of_getElem? (i := 34) rfl)
theorem cd_105_68 : mt_cd 105 68 = some (.getfield 38) := mt_cd_of (q := (68, .getfield 38, 3)) mq_105 ci_105 (List.mem_of_getElem? (i := 35) rfl)
theorem cd_105_71 : mt_cd 105 71 = some (.getfield 143) := mt_cd_of (q := (71, .getfield 143, 3)) mq_105 ci_105 (List.mem_of_getElem? (i := 36) rfl)
theorem cd_105_74 : mt_cd 105 74 = some (.ifCond .eq 10) := mt_cd_of (q := (74, .ifCond .eq 10, 3)) mq_105 ci_105 (List.mem_of_getElem? (i := 37) rfl)
theorem cd_105_77 : mt_cd 105 77 = some (.aload_n 0) := mt_cd_of (q := (77, .aload_n 0, 1)) mq_105 ci_105 (List.mem_of_getElem? (i := 38) rfl)
theorem cd_105_78 : mt_cd 105 78 = some (.bipush 6) := mt_cd_of (q := (78, .bipush 6, 2)) mq_105 ci_105 (List.mem_of_getElem? (i := 39) rfl)
theorem cd_105_80 : mt_cd 105 80 = some (.putfield 49) := mt_cd_of (q := (80, .putfield 49, 3)) mq_105 ci_105 (List.mem_of_getElem? (i := 40) rfl)
theorem cd_105_83 : mt_cd 105 83 = some (.return_) := mt_cd_of (q := (83, .return_, 1)) mq_105 ci_105 (List.mem_of_getElem? (i := 41) rfl)
theorem cd_105_84 : mt_cd 105 84 = some (.iload 6) := mt_cd_of (q := (84, .iload 6, 2)) mq_105 ci_105 (List.mem_of_getElem? (i := 42) rfl)
theorem cd_105_86 : mt_cd 105 86 = some (.ifCond .eq 16) := mt_cd_of (q := (86, .ifCond .eq 16, 3)) mq_105 ci_105 (List.mem_of_getElem? (i := 43) rfl)
theorem cd_105_89 : mt_cd 105 89 = some (.aload_n 0) := mt_cd_of (q := (89, .aload_n 0, 1)) mq_105 ci_105 (List.mem_of_getElem? (i := 44) rfl)
theorem cd_105_90 : mt_cd 105 90 = some (.iload 4) := mt_cd_of (q := (90, .iload 4, 2)) mq_105 ci_105 (List.mem_of_getElem? (i := 45) rfl)
theorem cd_105_92 : mt_cd 105 92 = some (.aload_n 1) := mt_cd_of (q := (92, .aload_n 1, 1)) mq_105 ci_105 (List.mem_of_getElem? (i := 46) rfl)
theorem cd_105_93 : mt_cd 105 93 = some (.getfield 194) := mt_cd_of (q := (93, .getfield 194, 3)) mq_105 ci_105 (List.mem_of_getElem? (i := 47) rfl)
theorem cd_105_96 : mt_cd 105 96 = some (.iload_n 2) := mt_cd_of (q := (96, .iload_n 2, 1)) mq_105 ci_105 (List.mem_of_getElem? (i := 48) rfl)
theorem cd_105_97 : mt_cd 105 97 = some (.laload) := mt_cd_of (q := (97, .laload, 1)) mq_105 ci_105 (List.mem_of_getElem? (i := 49) rfl)
theorem cd_105_98 : mt_cd 105 98 = some (.invokevirtual 197) := mt_cd_of (q := (98, .invokevirtual 197, 3)) mq_105 ci_105 (List.mem_of_getElem? (i := 50) rfl)
theorem cd_105_101 : mt_cd 105 101 = some (.return_) := mt_cd_of (q := (101, .return_, 1)) mq_105 ci_105 (List.mem_of_getElem? (i := 51) rfl)
theorem cd_105_102 : mt_cd 105 102 = some (.aload_n 0) := mt_cd_of (q := (102, .aload_n 0, 1)) mq_105 ci_105 (List.mem_of_getElem? (i := 52) rfl)
theorem cd_105_103 : mt_cd 105 103 = some (.getfield 18) := mt_cd_of (q := (103, .getfield 18, 3)) mq_105 ci_105 (List.mem_of_getElem? (i := 53) rfl)
theorem cd_105_106 : mt_cd 105 106 = some (.getfield 129) := mt_cd_of (q := (106, .getfield 129, 3)) mq_105 ci_105 (List.mem_of_getElem? (i := 54) rfl)
theorem cd_105_109 : mt_cd 105 109 = some (.iload 4) := mt_cd_of (q := (109, .iload 4, 2)) mq_105 ci_105 (List.mem_of_getElem? (i := 55) rfl)
theorem cd_105_111 : mt_cd 105 111 = some (.iaload) := mt_cd_of (q := (111, .iaload, 1)) mq_105 ci_105 (List.mem_of_getElem? (i := 56) rfl)
theorem cd_105_112 : mt_cd 105 112 = some (.istore 4) := mt_cd_of (q := (112, .istore 4, 2)) mq_105 ci_105 (List.mem_of_getElem? (i := 57) rfl)
theorem cd_105_114 : mt_cd 105 114 = some (.iinc 5 1) := mt_cd_of (q := (114, .iinc 5 1, 3)) mq_105 ci_105 (List.mem_of_getElem? (i := 58) rfl)
theorem cd_105_117 : mt_cd 105 117 = some (.goto (-79)) := mt_cd_of (q := (117, .goto (-79), 3)) mq_105 ci_105 (List.mem_of_getElem? (i := 59) rfl)
theorem cd_105_120 : mt_cd 105 120 = some (.aload_n 0) := mt_cd_of (q := (120, .aload_n 0, 1)) mq_105 ci_105 (List.mem_of_getElem? (i := 60) rfl)
theorem cd_105_121 : mt_cd 105 121 = some (.iconst 4) := mt_cd_of (q := (121, .iconst 4, 1)) mq_105 ci_105 (List.mem_of_getElem? (i := 61) rfl)
theorem cd_105_122 : mt_cd 105 122 = some (.putfield 49) := mt_cd_of (q := (122, .putfield 49, 3)) mq_105 ci_105 (List.mem_of_getElem? (i := 62) rfl)
theorem cd_105_125 : mt_cd 105 125 = some (.return_) := mt_cd_of (q := (125, .return_, 1)) mq_105 ci_105 (List.mem_of_getElem? (i := 63) rfl)
theorem b_105_0 {d : Nat} {Q : (Option Value ⊕ Nat) → mi_H → Prop} (n sl : Nat) (f : Nat → mi_C) {l1 : Nat} {l2 : Nat} {l3 : Int32} {o4 : Option Value} {o5 : Option Value} {o6 : Option Value} {o7 : Option Value} {fs8 : List Value} {x11 : Nat} {fs13 : List Value} {x16 : Int32} {fs18 : List Value} {x21 : Nat} {fs23 : List Value} (h9 : f l1 = .inr (7, fs8)) (h10 : l1 < n) (h12 : fs8[3]? = some (.ref x11)) (h14 : f x11 = .inr (9, fs13)) (h15 : x11 < n) (h17 : fs13[0]? = some (.int x16)) (h19 : f l1 = .inr (7, fs18)) (h20 : l1 < n) (h22 : fs18[0]? = some (.ref x21)) (h24 : f x21 = .inr (2, fs23)) (h25 : x21 < n) (h26 : mi_W d 81 0 (mi_en 2 [.ref x21, .int x16]) [] (n, sl, f) (mi_Kc d 105 13 [some (.ref l1), some (.ref l2), some (.int l3), some (.int x16), o5, o6, o7] [] Q)) : mi_W (d + 1) 105 0 [some (.ref l1), some (.ref l2), some (.int l3), o4, o5, o6, o7] [] (n, sl, f) Q := by
  refine w_aload_n cd_105_0 rfl ?_
  refine w_getfield cd_105_1 (show mt_f 7 29 = some (7, 3) by decide +kernel) h9 h10 h12 ?_
  refine w_getfield cd_105_4 (show mt_f 7 94 = some (9, 0) by decide +kernel) h14 h15 h17 ?_
  refine w_istore_n (ls' := [some (.ref l1), some (.ref l2), some (.int l3), some (.int x16), o5, o6, o7]) cd_105_7 (Nat.le_of_ble_eq_true rfl) rfl ?_
  refine w_aload_n cd_105_8 rfl ?_
  refine w_getfield cd_105_9 (show mt_f 7 18 = some (7, 0) by decide +kernel) h19 h20 h22 ?_
  refine w_iload_n cd_105_12 rfl ?_
  exact w_invokevirtual cd_105_13 (show mt_m 7 97 = some (81, 0) by decide +kernel) (rest := []) rfl (as := [.ref x21, .int x16]) rfl h24 (Or.inl h25) ⟨Nat.le_of_ble_eq_true rfl, Nat.le_of_ble_eq_true rfl, Nat.le_of_ble_eq_true rfl⟩ h26
theorem b_105_16 {d : Nat} {Q : (Option Value ⊕ Nat) → mi_H → Prop} (n sl : Nat) (f : Nat → mi_C) {l1 : Nat} {l2 : Nat} {l3 : Int32} {l4 : Int32} {o5 : Option Value} {o6 : Option Value} {o7 : Option Value} {s8 : Int32} (h9 : ¬ s8 = 5 → mi_W d 105 32 [some (.ref l1), some (.ref l2), some (.int l3), some (.int l4), o5, o6, o7] [] (n, sl, f) Q) (h10 : ¬ (¬ s8 = 5) → mi_W d 105 20 [some (.ref l1), some (.ref l2), some (.int l3), some (.int l4), o5, o6, o7] [] (n, sl, f) Q) : mi_W d 105 16 [some (.ref l1), some (.ref l2), some (.int l3), some (.int l4), o5, o6, o7] [.int s8] (n, sl, f) Q := by
  refine w_iconst (v := 5) cd_105_16 (by decide) ?_
  exact w_if_icmpne cd_105_17 (by decide) h9 h10
theorem b_105_20 {d : Nat} {Q : (Option Value ⊕ Nat) → mi_H → Prop} (n sl : Nat) (f : Nat → mi_C) {l1 : Nat} {l2 : Nat} {l3 : Int32} {l4 : Int32} {o5 : Option Value} {o6 : Option Value} {o7 : Option Value} {fs8 : List Value} {x11 : Nat} {fs13 : List Value} {x16 : Nat} (m18 i18 : Nat) (g18 : Nat → Int32) (h9 : f l1 = .inr (7, fs8)) (h10 : l1 < n) (h12 : fs8[0]? = some (.ref x11)) (h14 : f x11 = .inr (2, fs13)) (h15 : x11 < n) (h17 : fs13[1]? = some (.ref x16)) (h19 : f x16 = .inl (0, m18, .inl g18)) (h20 : x16 < n ∨ x16 = mi_SC) (h21 : mi_ix l4 m18 i18) (h22 : mi_W d 105 33 [some (.ref l1), some (.ref l2), some (.int l3), some (.int l4), o5, o6, o7] [.int (g18 i18)] (n, sl, f) Q) : mi_W d 105 20 [some (.ref l1), some (.ref l2), some (.int l3), some (.int l4), o5, o6, o7] [] (n, sl, f) Q := by
  refine w_aload_n cd_105_20 rfl ?_
  refine w_getfield cd_105_21 (show mt_f 7 18 = some (7, 0) by decide +kernel) h9 h10 h12 ?_
  refine w_getfield cd_105_24 (show mt_f 7 118 = some (2, 1) by decide +kernel) h14 h15 h17 ?_
  refine w_iload_n cd_105_27 rfl ?_
  refine w_iaload cd_105_28 h19 h20 h21 ?_
  exact w_goto cd_105_29 (by decide) h22
theorem b_105_32 {d : Nat} {Q : (Option Value ⊕ Nat) → mi_H → Prop} (n sl : Nat) (f : Nat → mi_C) {l1 : Nat} {l2 : Nat} {l3 : Int32} {l4 : Int32} {o5 : Option Value} {o6 : Option Value} {o7 : Option Value} (h8 : mi_W d 105 33 [some (.ref l1), some (.ref l2), some (.int l3), some (.int l4), o5, o6, o7] [.int (-1)] (n, sl, f) Q) : mi_W d 105 32 [some (.ref l1), some (.ref l2), some (.int l3), some (.int l4), o5, o6, o7] [] (n, sl, f) Q := by
  refine w_iconst (v := (-1)) cd_105_32 (by decide) ?_
  exact h8
theorem b_105_33 {d : Nat} {Q : (Option Value ⊕ Nat) → mi_H → Prop} (n sl : Nat) (f : Nat → mi_C) {l1 : Nat} {l2 : Nat} {l3 : Int32} {l4 : Int32} {o5 : Option Value} {o6 : Option Value} {o7 : Option Value} {s8 : Int32} (h9 : mi_W d 105 38 [some (.ref l1), some (.ref l2), some (.int l3), some (.int l4), some (.int s8), some (.int 0), o7] [] (n, sl, f) Q) : mi_W d 105 33 [some (.ref l1), some (.ref l2), some (.int l3), some (.int l4), o5, o6, o7] [.int s8] (n, sl, f) Q := by
  refine w_istore (ls' := [some (.ref l1), some (.ref l2), some (.int l3), some (.int l4), some (.int s8), o6, o7]) cd_105_33 (Nat.le_of_ble_eq_true rfl) rfl ?_
  refine w_iconst (v := 0) cd_105_35 (by decide) ?_
  refine w_istore (ls' := [some (.ref l1), some (.ref l2), some (.int l3), some (.int l4), some (.int s8), some (.int 0), o7]) cd_105_36 (Nat.le_of_ble_eq_true rfl) rfl ?_
  exact h9
theorem b_105_38 {d : Nat} {Q : (Option Value ⊕ Nat) → mi_H → Prop} (n sl : Nat) (f : Nat → mi_C) {l1 : Nat} {l2 : Nat} {l3 : Int32} {l4 : Int32} {l5 : Int32} {l6 : Int32} {o7 : Option Value} (h8 : 8 ≤ l6 → mi_W d 105 120 [some (.ref l1), some (.ref l2), some (.int l3), some (.int l4), some (.int l5), some (.int l6), o7] [] (n, sl, f) Q) (h9 : ¬ (8 ≤ l6) → mi_W d 105 45 [some (.ref l1), some (.ref l2), some (.int l3), some (.int l4), some (.int l5), some (.int l6), o7] [] (n, sl, f) Q) : mi_W d 105 38 [some (.ref l1), some (.ref l2), some (.int l3), some (.int l4), some (.int l5), some (.int l6), o7] [] (n, sl, f) Q := by
  refine w_iload cd_105_38 rfl ?_
  refine w_bipush (v := 8) cd_105_40 (by decide) ?_
  exact w_if_icmpge cd_105_42 (by decide) h8 h9
theorem b_105_45 {d : Nat} {Q : (Option Value ⊕ Nat) → mi_H → Prop} (n sl : Nat) (f : Nat → mi_C) {l1 : Nat} {l2 : Nat} {l3 : Int32} {l4 : Int32} {l5 : Int32} {l6 : Int32} {o7 : Option Value} {fs8 : List Value} {x11 : Nat} {fs13 : List Value} (h9 : f l1 = .inr (7, fs8)) (h10 : l1 < n) (h12 : fs8[0]? = some (.ref x11)) (h14 : f x11 = .inr (2, fs13)) (h15 : x11 < n) (h16 : mi_W d 82 0 (mi_en 2 [.ref x11, .int l5]) [] (n, sl, f) (mi_Kc d 105 51 [some (.ref l1), some (.ref l2), some (.int l3), some (.int l4), some (.int l5), some (.int l6), o7] [] Q)) : mi_W (d + 1) 105 45 [some (.ref l1), some (.ref l2), some (.int l3), some (.int l4), some (.int l5), some (.int l6), o7] [] (n, sl, f) Q := by
  refine w_aload_n cd_105_45 rfl ?_
  refine w_getfield cd_105_46 (show mt_f 7 18 = some (7, 0) by decide +kernel) h9 h10 h12 ?_
  refine w_iload cd_105_49 rfl ?_
  exact w_invokevirtual cd_105_51 (show mt_m 7 187 = some (82, 0) by decide +kernel) (rest := []) rfl (as := [.ref x11, .int l5]) rfl h14 (Or.inl h15) ⟨Nat.le_of_ble_eq_true rfl, Nat.le_of_ble_eq_true rfl, Nat.le_of_ble_eq_true rfl⟩ h16
theorem b_105_54 {d : Nat} {Q : (Option Value ⊕ Nat) → mi_H → Prop} (n sl : Nat) (f : Nat → mi_C) {l1 : Nat} {l2 : Nat} {l3 : Int32} {l4 : Int32} {l5 : Int32} {l6 : Int32} {o7 : Option Value} {s8 : Int32} (h9 : s8 = (0 : Int32) → mi_W d 105 120 [some (.ref l1), some (.ref l2), some (.int l3), some (.int l4), some (.int l5), some (.int l6), o7] [] (n, sl, f) Q) (h10 : ¬ (s8 = (0 : Int32)) → mi_W d 105 57 [some (.ref l1), some (.ref l2), some (.int l3), some (.int l4), some (.int l5), some (.int l6), o7] [] (n, sl, f) Q) : mi_W d 105 54 [some (.ref l1), some (.ref l2), some (.int l3), some (.int l4), some (.int l5), some (.int l6), o7] [.int s8] (n, sl, f) Q := by
  exact w_ifeq cd_105_54 (by decide) h9 h10
theorem b_105_57 {d : Nat} {Q : (Option Value ⊕ Nat) → mi_H → Prop} (n sl : Nat) (f : Nat → mi_C) {l1 : Nat} {l2 : Nat} {l3 : Int32} {l4 : Int32} {l5 : Int32} {l6 : Int32} {o7 : Option Value} {fs8 : List Value} (h9 : f l1 = .inr (7, fs8)) (h10 : l1 < n) (h11 : mi_W d 106 0 (mi_en 7 [.ref l1, .int l5, .ref l2, .int l3]) [] (n, sl, f) (mi_Kc d 105 62 [some (.ref l1), some (.ref l2), some (.int l3), some (.int l4), some (.int l5), some (.int l6), o7] [] Q)) : mi_W (d + 1) 105 57 [some (.ref l1), some (.ref l2), some (.int l3), some (.int l4), some (.int l5), some (.int l6), o7] [] (n, sl, f) Q := by
  refine w_aload_n cd_105_57 rfl ?_
  refine w_iload cd_105_58 rfl ?_
  refine w_aload_n cd_105_60 rfl ?_
  refine w_iload_n cd_105_61 rfl ?_
  exact w_invokevirtual cd_105_62 (show mt_m 7 190 = some (106, 0) by decide +kernel) (rest := []) rfl (as := [.ref l1, .int l5, .ref l2, .int l3]) rfl h9 (Or.inl h10) ⟨Nat.le_of_ble_eq_true rfl, Nat.le_of_ble_eq_true rfl, Nat.le_of_ble_eq_true rfl⟩ h11
theorem b_105_65 {d : Nat} {Q : (Option Value ⊕ Nat) → mi_H → Prop} (n sl : Nat) (f : Nat → mi_C) {l1 : Nat} {l2 : Nat} {l3 : Int32} {l4 : Int32} {l5 : Int32} {l6 : Int32} {o7 : Option Value} {s8 : Int32} {fs9 : List Value} {x12 : Nat} {fs14 : List Value} {x17 : Int32} (h10 : f l1 = .inr (7, fs9)) (h11 : l1 < n) (h13 : fs9[2]? = some (.ref x12)) (h15 : f x12 = .inr (10, fs14)) (h16 : x12 < n) (h18 : fs14[4]? = some (.int x17)) (h19 : x17 = (0 : Int32) → mi_W d 105 84 [some (.ref l1), some (.ref l2), some (.int l3), some (.int l4), some (.int l5), some (.int l6), some (.int s8)] [] (n, sl, f) Q) (h20 : ¬ (x17 = (0 : Int32)) → mi_W d 105 77 [some (.ref l1), some (.ref l2), some (.int l3), some (.int l4), some (.int l5), some (.int l6), some (.int s8)] [] (n, sl, f) Q) : mi_W d 105 65 [some (.ref l1), some (.ref l2), some (.int l3), some (.int l4), some (.int l5), some (.int l6), o7] [.int s8] (n, sl, f) Q := by
  refine w_istore (ls' := [some (.ref l1), some (.ref l2), some (.int l3), some (.int l4), some (.int l5), some (.int l6), some (.int s8)]) cd_105_65 (Nat.le_of_ble_eq_true rfl) rfl ?_
  refine w_aload_n cd_105_67 rfl ?_
  refine w_getfield cd_105_68 (show mt_f 7 38 = some (7, 2) by decide +kernel) h10 h11 h13 ?_
  refine w_getfield cd_105_71 (show mt_f 7 143 = some (10, 4) by decide +kernel) h15 h16 h18 ?_
  exact w_ifeq cd_105_74 (by decide) h19 h20
theorem b_105_77 {d : Nat} {Q : (Option Value ⊕ Nat) → mi_H → Prop} (n sl : Nat) (f : Nat → mi_C) {l1 : Nat} {l2 : Nat} {l3 : Int32} {l4 : Int32} {l5 : Int32} {l6 : Int32} {l7 : Int32} {fs8 : List Value} (h9 : f l1 = .inr (7, fs8)) (h10 : l1 < n) (h11 : 6 < fs8.length) (h12 : Q (.inl none) (n, sl, (va_up f l1 (.inr (7, fs8.set 6 (.int 6)))))) : mi_W d 105 77 [some (.ref l1), some (.ref l2), some (.int l3), some (.int l4), some (.int l5), some (.int l6), some (.int l7)] [] (n, sl, f) Q := by
  refine w_aload_n cd_105_77 rfl ?_
  refine w_bipush (v := 6) cd_105_78 (by decide) ?_
  refine w_putfield (w := .int 6) cd_105_80 (show mt_f 7 49 = some (7, 6) by decide +kernel) h9 h10 ⟨h11, rfl, Or.inl (by decide)⟩ ?_
  exact w_return cd_105_83 (by decide +kernel) h12
theorem b_105_84 {d : Nat} {Q : (Option Value ⊕ Nat) → mi_H → Prop} (n sl : Nat) (f : Nat → mi_C) {l1 : Nat} {l2 : Nat} {l3 : Int32} {l4 : Int32} {l5 : Int32} {l6 : Int32} {l7 : Int32} (h8 : l7 = (0 : Int32) → mi_W d 105 102 [some (.ref l1), some (.ref l2), some (.int l3), some (.int l4), some (.int l5), some (.int l6), some (.int l7)] [] (n, sl, f) Q) (h9 : ¬ (l7 = (0 : Int32)) → mi_W d 105 89 [some (.ref l1), some (.ref l2), some (.int l3), some (.int l4), some (.int l5), some (.int l6), some (.int l7)] [] (n, sl, f) Q) : mi_W d 105 84 [some (.ref l1), some (.ref l2), some (.int l3), some (.int l4), some (.int l5), some (.int l6), some (.int l7)] [] (n, sl, f) Q := by
  refine w_iload cd_105_84 rfl ?_
  exact w_ifeq cd_105_86 (by decide) h8 h9
theorem b_105_89 {d : Nat} {Q : (Option Value ⊕ Nat) → mi_H → Prop} (n sl : Nat) (f : Nat → mi_C) {l1 : Nat} {l2 : Nat} {l3 : Int32} {l4 : Int32} {l5 : Int32} {l6 : Int32} {l7 : Int32} {fs8 : List Value} {x11 : Nat} (m13 i13 : Nat) (g13 : Nat → Int64) {fs17 : List Value} (h9 : f l2 = .inr (6, fs8)) (h10 : l2 < n) (h12 : fs8[4]? = some (.ref x11)) (h14 : f x11 = .inl (3, m13, .inr (.inl g13))) (h15 : x11 < n) (h16 : mi_ix l3 m13 i13) (h18 : f l1 = .inr (7, fs17)) (h19 : l1 < n) (h20 : mi_W d 108 0 (mi_en 5 [.ref l1, .int l5, .long (g13 i13)]) [] (n, sl, f) (mi_Kc d 105 98 [some (.ref l1), some (.ref l2), some (.int l3), some (.int l4), some (.int l5), some (.int l6), some (.int l7)] [] Q)) : mi_W (d + 1) 105 89 [some (.ref l1), some (.ref l2), some (.int l3), some (.int l4), some (.int l5), some (.int l6), some (.int l7)] [] (n, sl, f) Q := by
  refine w_aload_n cd_105_89 rfl ?_
  refine w_iload cd_105_90 rfl ?_
  refine w_aload_n cd_105_92 rfl ?_
  refine w_getfield cd_105_93 (show mt_f 7 194 = some (6, 4) by decide +kernel) h9 h10 h12 ?_
  refine w_iload_n cd_105_96 rfl ?_
  refine w_laload cd_105_97 h14 h15 h16 ?_
  exact w_invokevirtual cd_105_98 (show mt_m 7 197 = some (108, 0) by decide +kernel) (rest := []) rfl (as := [.ref l1, .int l5, .long (g13 i13)]) rfl h18 (Or.inl h19) ⟨Nat.le_of_ble_eq_true rfl, Nat.le_of_ble_eq_true rfl, Nat.le_of_ble_eq_true rfl⟩ h20
theorem b_105_101 {d : Nat} {Q : (Option Value ⊕ Nat) → mi_H → Prop} (n sl : Nat) (f : Nat → mi_C) {l1 : Nat} {l2 : Nat} {l3 : Int32} {l4 : Int32} {l5 : Int32} {l6 : Int32} {l7 : Int32} (h8 : Q (.inl none) (n, sl, f)) : mi_W d 105 101 [some (.ref l1), some (.ref l2), some (.int l3), some (.int l4), some (.int l5), some (.int l6), some (.int l7)] [] (n, sl, f) Q := by
  exact w_return cd_105_101 (by decide +kernel) h8
theorem b_105_102 {d : Nat} {Q : (Option Value ⊕ Nat) → mi_H → Prop} (n sl : Nat) (f : Nat → mi_C) {l1 : Nat} {l2 : Nat} {l3 : Int32} {l4 : Int32} {l5 : Int32} {l6 : Int32} {l7 : Int32} {fs8 : List Value} {x11 : Nat} {fs13 : List Value} {x16 : Nat} (m18 i18 : Nat) (g18 : Nat → Int32) (h9 : f l1 = .inr (7, fs8)) (h10 : l1 < n) (h12 : fs8[0]? = some (.ref x11)) (h14 : f x11 = .inr (2, fs13)) (h15 : x11 < n) (h17 : fs13[3]? = some (.ref x16)) (h19 : f x16 = .inl (0, m18, .inl g18)) (h20 : x16 < n ∨ x16 = mi_SC) (h21 : mi_ix l5 m18 i18) (h22 : mi_W d 105 38 [some (.ref l1), some (.ref l2), some (.int l3), some (.int l4), some (.int (g18 i18)), some (.int (l6 + 1)), some (.int l7)] [] (n, sl, f) Q) : mi_W d 105 102 [some (.ref l1), some (.ref l2), some (.int l3), some (.int l4), some (.int l5), some (.int l6), some (.int l7)] [] (n, sl, f) Q := by
  refine w_aload_n cd_105_102 rfl ?_
  refine w_getfield cd_105_103 (show mt_f 7 18 = some (7, 0) by decide +kernel) h9 h10 h12 ?_
  refine w_getfield cd_105_106 (show mt_f 7 129 = some (2, 3) by decide +kernel) h14 h15 h17 ?_
  refine w_iload cd_105_109 rfl ?_
  refine w_iaload cd_105_111 h19 h20 h21 ?_
  refine w_istore (ls' := [some (.ref l1), some (.ref l2), some (.int l3), some (.int l4), some (.int (g18 i18)), some (.int l6), some (.int l7)]) cd_105_112 (Nat.le_of_ble_eq_true rfl) rfl ?_
  refine w_iinc (v := 1) (ls' := [some (.ref l1), some (.ref l2), some (.int l3), some (.int l4), some (.int (g18 i18)), some (.int (l6 + 1)), some (.int l7)]) cd_105_114 rfl (by decide) rfl ?_
  exact w_goto cd_105_117 (by decide) h22
theorem b_105_120 {d : Nat} {Q : (Option Value ⊕ Nat) → mi_H → Prop} (n sl : Nat) (f : Nat → mi_C) {l1 : Nat} {l2 : Nat} {l3 : Int32} {l4 : Int32} {l5 : Int32} {l6 : Int32} {o7 : Option Value} {fs8 : List Value} (h9 : f l1 = .inr (7, fs8)) (h10 : l1 < n) (h11 : 6 < fs8.length) (h12 : Q (.inl none) (n, sl, (va_up f l1 (.inr (7, fs8.set 6 (.int 4)))))) : mi_W d 105 120 [some (.ref l1), some (.ref l2), some (.int l3), some (.int l4), some (.int l5), some (.int l6), o7] [] (n, sl, f) Q := by
  refine w_aload_n cd_105_120 rfl ?_
  refine w_iconst (v := 4) cd_105_121 (by decide) ?_
  refine w_putfield (w := .int 4) cd_105_122 (show mt_f 7 49 = some (7, 6) by decide +kernel) h9 h10 ⟨h11, rfl, Or.inl (by decide)⟩ ?_
  exact w_return cd_105_125 (by decide +kernel) h12
/-! MarloweHost$Machine.isFitting(ILMarloweHost$Inputs;I)Z -/
set_option maxRecDepth 100000 in
theorem mq_106 : mt_q 106 = my_106 := rfl
set_option maxRecDepth 100000 in
theorem ci_106 : mt_inc 0 my_106.cd = true := by decide +kernel
theorem cd_106_0 : mt_cd 106 0 = some (.aload_n 0) := mt_cd_of (q := (0, .aload_n 0, 1)) mq_106 ci_106 (List.mem_of_getElem? (i := 0) rfl)
theorem cd_106_1 : mt_cd 106 1 = some (.getfield 18) := mt_cd_of (q := (1, .getfield 18, 3)) mq_106 ci_106 (List.mem_of_getElem? (i := 1) rfl)
theorem cd_106_4 : mt_cd 106 4 = some (.getfield 200) := mt_cd_of (q := (4, .getfield 200, 3)) mq_106 ci_106 (List.mem_of_getElem? (i := 2) rfl)
theorem cd_106_7 : mt_cd 106 7 = some (.iload_n 1) := mt_cd_of (q := (7, .iload_n 1, 1)) mq_106 ci_106 (List.mem_of_getElem? (i := 3) rfl)
theorem cd_106_8 : mt_cd 106 8 = some (.iaload) := mt_cd_of (q := (8, .iaload, 1)) mq_106 ci_106 (List.mem_of_getElem? (i := 4) rfl)
theorem cd_106_9 : mt_cd 106 9 = some (.istore 4) := mt_cd_of (q := (9, .istore 4, 2)) mq_106 ci_106 (List.mem_of_getElem? (i := 5) rfl)
theorem cd_106_11 : mt_cd 106 11 = some (.iload 4) := mt_cd_of (q := (11, .iload 4, 2)) mq_106 ci_106 (List.mem_of_getElem? (i := 6) rfl)
theorem cd_106_13 : mt_cd 106 13 = some (.aload_n 2) := mt_cd_of (q := (13, .aload_n 2, 1)) mq_106 ci_106 (List.mem_of_getElem? (i := 7) rfl)
theorem cd_106_14 : mt_cd 106 14 = some (.getfield 203) := mt_cd_of (q := (14, .getfield 203, 3)) mq_106 ci_106 (List.mem_of_getElem? (i := 8) rfl)
theorem cd_106_17 : mt_cd 106 17 = some (.iload_n 3) := mt_cd_of (q := (17, .iload_n 3, 1)) mq_106 ci_106 (List.mem_of_getElem? (i := 9) rfl)
theorem cd_106_18 : mt_cd 106 18 = some (.iaload) := mt_cd_of (q := (18, .iaload, 1)) mq_106 ci_106 (List.mem_of_getElem? (i := 10) rfl)
theorem cd_106_19 : mt_cd 106 19 = some (.if_icmp .eq 5) := mt_cd_of (q := (19, .if_icmp .eq 5, 3)) mq_106 ci_106 (List.mem_of_getElem? (i := 11) rfl)
theorem cd_106_22 : mt_cd 106 22 = some (.iconst 0) := mt_cd_of (q := (22, .iconst 0, 1)) mq_106 ci_106 (List.mem_of_getElem? (i := 12) rfl)
theorem cd_106_23 : mt_cd 106 23 = some (.ireturn) := mt_cd_of (q := (23, .ireturn, 1)) mq_106 ci_106 (List.mem_of_getElem? (i := 13) rfl)
theorem cd_106_24 : mt_cd 106 24 = some (.iload 4) := mt_cd_of (q := (24, .iload 4, 2)) mq_106 ci_106 (List.mem_of_getElem? (i := 14) rfl)
theorem cd_106_26 : mt_cd 106 26 = some (.bipush 10) := mt_cd_of (q := (26, .bipush 10, 2)) mq_106 ci_106 (List.mem_of_getElem? (i := 15) rfl)
theorem cd_106_28 : mt_cd 106 28 = some (.if_icmp .ne 21) := mt_cd_of (q := (28, .if_icmp .ne 21, 3)) mq_106 ci_106 (List.mem_of_getElem? (i := 16) rfl)
theorem cd_106_31 : mt_cd 106 31 = some (.aload_n 0) := mt_cd_of (q := (31, .aload_n 0, 1)) mq_106 ci_106 (List.mem_of_getElem? (i := 17) rfl)
theorem cd_106_32 : mt_cd 106 32 = some (.getfield 38) := mt_cd_of (q := (32, .getfield 38, 3)) mq_106 ci_106 (List.mem_of_getElem? (i := 18) rfl)
theorem cd_106_35 : mt_cd 106 35 = some (.aload_n 0) := mt_cd_of (q := (35, .aload_n 0, 1)) mq_106 ci_106 (List.mem_of_getElem? (i := 19) rfl)
theorem cd_106_36 : mt_cd 106 36 = some (.getfield 18) := mt_cd_of (q := (36, .getfield 18, 3)) mq_106 ci_106 (List.mem_of_getElem? (i := 20) rfl)
theorem cd_106_39 : mt_cd 106 39 = some (.getfield 118) := mt_cd_of (q := (39, .getfield 118, 3)) mq_106 ci_106 (List.mem_of_getElem? (i := 21) rfl)
theorem cd_106_42 : mt_cd 106 42 = some (.iload_n 1) := mt_cd_of (q := (42, .iload_n 1, 1)) mq_106 ci_106 (List.mem_of_getElem? (i := 22) rfl)
theorem cd_106_43 : mt_cd 106 43 = some (.iaload) := mt_cd_of (q := (43, .iaload, 1)) mq_106 ci_106 (List.mem_of_getElem? (i := 23) rfl)
theorem cd_106_44 : mt_cd 106 44 = some (.iconst 1) := mt_cd_of (q := (44, .iconst 1, 1)) mq_106 ci_106 (List.mem_of_getElem? (i := 24) rfl)
theorem cd_106_45 : mt_cd 106 45 = some (.invokevirtual 122) := mt_cd_of (q := (45, .invokevirtual 122, 3)) mq_106 ci_106 (List.mem_of_getElem? (i := 25) rfl)
theorem cd_106_48 : mt_cd 106 48 = some (.ireturn) := mt_cd_of (q := (48, .ireturn, 1)) mq_106 ci_106 (List.mem_of_getElem? (i := 26) rfl)
theorem cd_106_49 : mt_cd 106 49 = some (.aload_n 0) := mt_cd_of (q := (49, .aload_n 0, 1)) mq_106 ci_106 (List.mem_of_getElem? (i := 27) rfl)
theorem cd_106_50 : mt_cd 106 50 = some (.getfield 18) := mt_cd_of (q := (50, .getfield 18, 3)) mq_106 ci_106 (List.mem_of_getElem? (i := 28) rfl)
theorem cd_106_53 : mt_cd 106 53 = some (.getfield 157) := mt_cd_of (q := (53, .getfield 157, 3)) mq_106 ci_106 (List.mem_of_getElem? (i := 29) rfl)
theorem cd_106_56 : mt_cd 106 56 = some (.iload_n 1) := mt_cd_of (q := (56, .iload_n 1, 1)) mq_106 ci_106 (List.mem_of_getElem? (i := 30) rfl)
theorem cd_106_57 : mt_cd 106 57 = some (.iaload) := mt_cd_of (q := (57, .iaload, 1)) mq_106 ci_106 (List.mem_of_getElem? (i := 31) rfl)
theorem cd_106_58 : mt_cd 106 58 = some (.aload_n 2) := mt_cd_of (q := (58, .aload_n 2, 1)) mq_106 ci_106 (List.mem_of_getElem? (i := 32) rfl)
theorem cd_106_59 : mt_cd 106 59 = some (.getfield 204) := mt_cd_of (q := (59, .getfield 204, 3)) mq_106 ci_106 (List.mem_of_getElem? (i := 33) rfl)
theorem cd_106_62 : mt_cd 106 62 = some (.iload_n 3) := mt_cd_of (q := (62, .iload_n 3, 1)) mq_106 ci_106 (List.mem_of_getElem? (i := 34) rfl)
theorem cd_106_63 : mt_cd 106 63 = some (.iaload) := mt_cd_of (q := (63, .iaload, 1)) mq_106 ci_106 (List.mem_of_getElem? (i := 35) rfl)
theorem cd_106_64 : mt_cd 106 64 = some (.if_icmp .eq 5) := mt_cd_of (q := (64, .if_icmp .eq 5, 3)) mq_106 ci_106 (List.mem_of_getElem? (i := 36) rfl)
theorem cd_106_67 : mt_cd 106 67 = some (.iconst 0) := mt_cd_of (q := (67, .iconst 0, 1)) mq_106 ci_106 (List.mem_of_getElem? (i := 37) rfl)
theorem cd_106_68 : mt_cd 106 68 = some (.ireturn) := mt_cd_of (q := (68, .ireturn, 1)) mq_106 ci_106 (List.mem_of_getElem? (i := 38) rfl)
theorem cd_106_69 : mt_cd 106 69 = some (.aload_n 2) := mt_cd_of (q := (69, .aload_n 2, 1)) mq_106 ci_106 (List.mem_of_getElem? (i := 39) rfl)
theorem cd_106_70 : mt_cd 106 70 = some (.getfield 194) := mt_cd_of (q := (70, .getfield 194, 3)) mq_106 ci_106 (List.mem_of_getElem? (i := 40) rfl)
theorem cd_106_73 : mt_cd 106 73 = some (.iload_n 3) := mt_cd_of (q := (73, .iload_n 3, 1)) mq_106 ci_106 (List.mem_of_getElem? (i := 41) rfl)
theorem cd_106_74 : mt_cd 106 74 = some (.laload) := mt_cd_of (q := (74, .laload, 1)) mq_106 ci_106 (List.mem_of_getElem? (i := 42) rfl)
theorem cd_106_75 : mt_cd 106 75 = some (.lstore 5) := mt_cd_of (q := (75, .lstore 5, 2)) mq_106 ci_106 (List.mem_of_getElem? (i := 43) rfl)
theorem cd_106_77 : mt_cd 106 77 = some (.iload 4) := mt_cd_of (q := (77, .iload 4, 2)) mq_106 ci_106 (List.mem_of_getElem? (i := 44) rfl)
theorem cd_106_79 : mt_cd 106 79 = some (.bipush 9) := mt_cd_of (q := (79, .bipush 9, 2)) mq_106 ci_106 (List.mem_of_getElem? (i := 45) rfl)
theorem cd_106_81 : mt_cd 106 81 = some (.if_icmp .ne 14) := mt_cd_of (q := (81, .if_icmp .ne 14, 3)) mq_106 ci_106 (List.mem_of_getElem? (i := 46) rfl)
theorem cd_106_84 : mt_cd 106 84 = some (.aload_n 0) := mt_cd_of (q := (84, .aload_n 0, 1)) mq_106 ci_106 (List.mem_of_getElem? (i := 47) rfl)
theorem cd_106_85 : mt_cd 106 85 = some (.getfield 18) := mt_cd_of (q := (85, .getfield 18, 3)) mq_106 ci_106 (List.mem_of_getElem? (i := 48) rfl)
theorem cd_106_88 : mt_cd 106 88 = some (.iload_n 1) := mt_cd_of (q := (88, .iload_n 1, 1)) mq_106 ci_106 (List.mem_of_getElem? (i := 49) rfl)
theorem cd_106_89 : mt_cd 106 89 = some (.lload 5) := mt_cd_of (q := (89, .lload 5, 2)) mq_106 ci_106 (List.mem_of_getElem? (i := 50) rfl)
theorem cd_106_91 : mt_cd 106 91 = some (.invokevirtual 205) := mt_cd_of (q := (91, .invokevirtual 205, 3)) mq_106 ci_106 (List.mem_of_getElem? (i := 51) rfl)
theorem cd_106_94 : mt_cd 106 94 = some (.ireturn) := mt_cd_of (q := (94, .ireturn, 1)) mq_106 ci_106 (List.mem_of_getElem? (i := 52) rfl)
theorem cd_106_95 : mt_cd 106 95 = some (.aload_n 0) := mt_cd_of (q := (95, .aload_n 0, 1)) mq_106 ci_106 (List.mem_of_getElem? (i := 53) rfl)
theorem cd_106_96 : mt_cd 106 96 = some (.getfield 18) := mt_cd_of (q := (96, .getfield 18, 3)) mq_106 ci_106 (List.mem_of_getElem? (i := 54) rfl)
theorem cd_106_99 : mt_cd 106 99 = some (.getfield 160) := mt_cd_of (q := (99, .getfield 160, 3)) mq_106 ci_106 (List.mem_of_getElem? (i := 55) rfl)
theorem cd_106_102 : mt_cd 106 102 = some (.iload_n 1) := mt_cd_of (q := (102, .iload_n 1, 1)) mq_106 ci_106 (List.mem_of_getElem? (i := 56) rfl)
theorem cd_106_103 : mt_cd 106 103 = some (.iaload) := mt_cd_of (q := (103, .iaload, 1)) mq_106 ci_106 (List.mem_of_getElem? (i := 57) rfl)
theorem cd_106_104 : mt_cd 106 104 = some (.aload_n 2) := mt_cd_of (q := (104, .aload_n 2, 1)) mq_106 ci_106 (List.mem_of_getElem? (i := 58) rfl)
theorem cd_106_105 : mt_cd 106 105 = some (.getfield 209) := mt_cd_of (q := (105, .getfield 209, 3)) mq_106 ci_106 (List.mem_of_getElem? (i := 59) rfl)
theorem cd_106_108 : mt_cd 106 108 = some (.iload_n 3) := mt_cd_of (q := (108, .iload_n 3, 1)) mq_106 ci_106 (List.mem_of_getElem? (i := 60) rfl)
theorem cd_106_109 : mt_cd 106 109 = some (.iaload) := mt_cd_of (q := (109, .iaload, 1)) mq_106 ci_106 (List.mem_of_getElem? (i := 61) rfl)
theorem cd_106_110 : mt_cd 106 110 = some (.if_icmp .ne 48) := mt_cd_of (q := (110, .if_icmp .ne 48, 3)) mq_106 ci_106 (List.mem_of_getElem? (i := 62) rfl)
theorem cd_106_113 : mt_cd 106 113 = some (.aload_n 0) := mt_cd_of (q := (113, .aload_n 0, 1)) mq_106 ci_106 (List.mem_of_getElem? (i := 63) rfl)
theorem cd_106_114 : mt_cd 106 114 = some (.getfield 18) := mt_cd_of (q := (114, .getfield 18, 3)) mq_106 ci_106 (List.mem_of_getElem? (i := 64) rfl)
theorem cd_106_117 : mt_cd 106 117 = some (.getfield 163) := mt_cd_of (q := (117, .getfield 163, 3)) mq_106 ci_106 (List.mem_of_getElem? (i := 65) rfl)
theorem cd_106_120 : mt_cd 106 120 = some (.iload_n 1) := mt_cd_of (q := (120, .iload_n 1, 1)) mq_106 ci_106 (List.mem_of_getElem? (i := 66) rfl)
theorem cd_106_121 : mt_cd 106 121 = some (.iaload) := mt_cd_of (q := (121, .iaload, 1)) mq_106 ci_106 (List.mem_of_getElem? (i := 67) rfl)
theorem cd_106_122 : mt_cd 106 122 = some (.aload_n 2) := mt_cd_of (q := (122, .aload_n 2, 1)) mq_106 ci_106 (List.mem_of_getElem? (i := 68) rfl)
theorem cd_106_123 : mt_cd 106 123 = some (.getfield 210) := mt_cd_of (q := (123, .getfield 210, 3)) mq_106 ci_106 (List.mem_of_getElem? (i := 69) rfl)
theorem cd_106_126 : mt_cd 106 126 = some (.iload_n 3) := mt_cd_of (q := (126, .iload_n 3, 1)) mq_106 ci_106 (List.mem_of_getElem? (i := 70) rfl)
theorem cd_106_127 : mt_cd 106 127 = some (.iaload) := mt_cd_of (q := (127, .iaload, 1)) mq_106 ci_106 (List.mem_of_getElem? (i := 71) rfl)
theorem cd_106_128 : mt_cd 106 128 = some (.if_icmp .ne 30) := mt_cd_of (q := (128, .if_icmp .ne 30, 3)) mq_106 ci_106 (List.mem_of_getElem? (i := 72) rfl)
theorem cd_106_131 : mt_cd 106 131 = some (.aload_n 0) := mt_cd_of (q := (131, .aload_n 0, 1)) mq_106 ci_106 (List.mem_of_getElem? (i := 73) rfl)
theorem cd_106_132 : mt_cd 106 132 = some (.getfield 38) := mt_cd_of (q := (132, .getfield 38, 3)) mq_106 ci_106 (List.mem_of_getElem? (i := 74) rfl)
theorem cd_106_135 : mt_cd 106 135 = some (.aload_n 0) := mt_cd_of (q := (135, .aload_n 0, 1)) mq_106 ci_106 (List.mem_of_getElem? (i := 75) rfl)
theorem cd_106_136 : mt_cd 106 136 = some (.getfield 18) := mt_cd_of (q := (136, .getfield 18, 3)) mq_106 ci_106 (List.mem_of_getElem? (i := 76) rfl)
theorem cd_106_139 : mt_cd 106 139 = some (.getfield 118) := mt_cd_of (q := (139, .getfield 118, 3)) mq_106 ci_106 (List.mem_of_getElem? (i := 77) rfl)
theorem cd_106_142 : mt_cd 106 142 = some (.iload_n 1) := mt_cd_of (q := (142, .iload_n 1, 1)) mq_106 ci_106 (List.mem_of_getElem? (i := 78) rfl)
theorem cd_106_143 : mt_cd 106 143 = some (.iaload) := mt_cd_of (q := (143, .iaload, 1)) mq_106 ci_106 (List.mem_of_getElem? (i := 79) rfl)
theorem cd_106_144 : mt_cd 106 144 = some (.iconst 1) := mt_cd_of (q := (144, .iconst 1, 1)) mq_106 ci_106 (List.mem_of_getElem? (i := 80) rfl)
theorem cd_106_145 : mt_cd 106 145 = some (.invokevirtual 153) := mt_cd_of (q := (145, .invokevirtual 153, 3)) mq_106 ci_106 (List.mem_of_getElem? (i := 81) rfl)
theorem cd_106_148 : mt_cd 106 148 = some (.lload 5) := mt_cd_of (q := (148, .lload 5, 2)) mq_106 ci_106 (List.mem_of_getElem? (i := 82) rfl)
theorem cd_106_150 : mt_cd 106 150 = some (.lcmp) := mt_cd_of (q := (150, .lcmp, 1)) mq_106 ci_106 (List.mem_of_getElem? (i := 83) rfl)
theorem cd_106_151 : mt_cd 106 151 = some (.ifCond .ne 7) := mt_cd_of (q := (151, .ifCond .ne 7, 3)) mq_106 ci_106 (List.mem_of_getElem? (i := 84) rfl)
theorem cd_106_154 : mt_cd 106 154 = some (.iconst 1) := mt_cd_of (q := (154, .iconst 1, 1)) mq_106 ci_106 (List.mem_of_getElem? (i := 85) rfl)
theorem cd_106_155 : mt_cd 106 155 = some (.goto 4) := mt_cd_of (q := (155, .goto 4, 3)) mq_106 ci_106 (List.mem_of_getElem? (i := 86) rfl)
theorem cd_106_158 : mt_cd 106 158 = some (.iconst 0) := mt_cd_of (q := (158, .iconst 0, 1)) mq_106 ci_106 (List.mem_of_getElem? (i := 87) rfl)
theorem cd_106_159 : mt_cd 106 159 = some (.ireturn) := mt_cd_of (q := (159, .ireturn, 1)) mq_106 ci_106 (List.mem_of_getElem? (i := 88) rfl)
theorem b_106_0 {d : Nat} {Q : (Option Value ⊕ Nat) → mi_H → Prop} (n sl : Nat) (f : Nat → mi_C) {l1 : Nat} {l2 : Int32} {l3 : Nat} {l4 : Int32} {o5 : Option Value} {o6 : Option Value} {o7 : Option Value} {fs8 : List Value} {x11 : Nat} {fs13 : List Value} {x16 : Nat} (m18 i18 : Nat) (g18 : Nat → Int32) {fs22 : List Value} {x25 : Nat} (m27 i27 : Nat) (g27 : Nat → Int32) (h9 : f l1 = .inr (7, fs8)) (h10 : l1 < n) (h12 : fs8[0]? = some (.ref x11)) (h14 : f x11 = .inr (2, fs13)) (h15 : x11 < n) (h17 : fs13[0]? = some (.ref x16)) (h19 : f x16 = .inl (0, m18, .inl g18)) (h20 : x16 < n ∨ x16 = mi_SC) (h21 : mi_ix l2 m18 i18) (h23 : f l3 = .inr (6, fs22)) (h24 : l3 < n) (h26 : fs22[0]? = some (.ref x25)) (h28 : f x25 = .inl (0, m27, .inl g27)) (h29 : x25 < n ∨ x25 = mi_SC) (h30 : mi_ix l4 m27 i27) (h31 : (g18 i18) = (g27 i27) → mi_W d 106 24 [some (.ref l1), some (.int l2), some (.ref l3), some (.int l4), some (.int (g18 i18)), o6, o7] [] (n, sl, f) Q) (h32 : ¬ ((g18 i18) = (g27 i27)) → mi_W d 106 22 [some (.ref l1), some (.int l2), some (.ref l3), some (.int l4), some (.int (g18 i18)), o6, o7] [] (n, sl, f) Q) : mi_W d 106 0 [some (.ref l1), some (.int l2), some (.ref l3), some (.int l4), o5, o6, o7] [] (n, sl, f) Q := by
  refine w_aload_n cd_106_0 rfl ?_
  refine w_getfield cd_106_1 (show mt_f 7 18 = some (7, 0) by decide +kernel) h9 h10 h12 ?_
  refine w_getfield cd_106_4 (show mt_f 7 200 = some (2, 0) by decide +kernel) h14 h15 h17 ?_
  refine w_iload_n cd_106_7 rfl ?_
  refine w_iaload cd_106_8 h19 h20 h21 ?_
  refine w_istore (ls' := [some (.ref l1), some (.int l2), some (.ref l3), some (.int l4), some (.int (g18 i18)), o6, o7]) cd_106_9 (Nat.le_of_ble_eq_true rfl) rfl ?_
  refine w_iload cd_106_11 rfl ?_
  refine w_aload_n cd_106_13 rfl ?_
  refine w_getfield cd_106_14 (show mt_f 7 203 = some (6, 0) by decide +kernel) h23 h24 h26 ?_
  refine w_iload_n cd_106_17 rfl ?_
  refine w_iaload cd_106_18 h28 h29 h30 ?_
  exact w_if_icmpeq cd_106_19 (by decide) h31 h32
theorem b_106_22 {d : Nat} {Q : (Option Value ⊕ Nat) → mi_H → Prop} (n sl : Nat) (f : Nat → mi_C) {l1 : Nat} {l2 : Int32} {l3 : Nat} {l4 : Int32} {l5 : Int32} {o6 : Option Value} {o7 : Option Value} (h8 : Q (.inl (some (.int 0))) (n, sl, f)) : mi_W d 106 22 [some (.ref l1), some (.int l2), some (.ref l3), some (.int l4), some (.int l5), o6, o7] [] (n, sl, f) Q := by
  refine w_iconst (v := 0) cd_106_22 (by decide) ?_
  exact w_ireturn_z cd_106_23 (by decide +kernel) (by decide) h8
theorem b_106_24 {d : Nat} {Q : (Option Value ⊕ Nat) → mi_H → Prop} (n sl : Nat) (f : Nat → mi_C) {l1 : Nat} {l2 : Int32} {l3 : Nat} {l4 : Int32} {l5 : Int32} {o6 : Option Value} {o7 : Option Value} (h8 : ¬ l5 = 10 → mi_W d 106 49 [some (.ref l1), some (.int l2), some (.ref l3), some (.int l4), some (.int l5), o6, o7] [] (n, sl, f) Q) (h9 : ¬ (¬ l5 = 10) → mi_W d 106 31 [some (.ref l1), some (.int l2), some (.ref l3), some (.int l4), some (.int l5), o6, o7] [] (n, sl, f) Q) : mi_W d 106 24 [some (.ref l1), some (.int l2), some (.ref l3), some (.int l4), some (.int l5), o6, o7] [] (n, sl, f) Q := by
  refine w_iload cd_106_24 rfl ?_
  refine w_bipush (v := 10) cd_106_26 (by decide) ?_
  exact w_if_icmpne cd_106_28 (by decide) h8 h9
theorem b_106_31 {d : Nat} {Q : (Option Value ⊕ Nat) → mi_H → Prop} (n sl : Nat) (f : Nat → mi_C) {l1 : Nat} {l2 : Int32} {l3 : Nat} {l4 : Int32} {l5 : Int32} {o6 : Option Value} {o7 : Option Value} {fs8 : List Value} {x11 : Nat} {fs13 : List Value} {x16 : Nat} {fs18 : List Value} {x21 : Nat} (m23 i23 : Nat) (g23 : Nat → Int32) {fs27 : List Value} (h9 : f l1 = .inr (7, fs8)) (h10 : l1 < n) (h12 : fs8[2]? = some (.ref x11)) (h14 : f l1 = .inr (7, fs13)) (h15 : l1 < n) (h17 : fs13[0]? = some (.ref x16)) (h19 : f x16 = .inr (2, fs18)) (h20 : x16 < n) (h22 : fs18[1]? = some (.ref x21)) (h24 : f x21 = .inl (0, m23, .inl g23)) (h25 : x21 < n ∨ x21 = mi_SC) (h26 : mi_ix l2 m23 i23) (h28 : f x11 = .inr (10, fs27)) (h29 : x11 < n) (h30 : mi_W d 92 0 (mi_en 6 [.ref x11, .int (g23 i23), .int 1]) [] (n, sl, f) (mi_Kc d 106 45 [some (.ref l1), some (.int l2), some (.ref l3), some (.int l4), some (.int l5), o6, o7] [] Q)) : mi_W (d + 1) 106 31 [some (.ref l1), some (.int l2), some (.ref l3), some (.int l4), some (.int l5), o6, o7] [] (n, sl, f) Q := by
  refine w_aload_n cd_106_31 rfl ?_
  refine w_getfield cd_106_32 (show mt_f 7 38 = some (7, 2) by decide +kernel) h9 h10 h12 ?_
  refine w_aload_n cd_106_35 rfl ?_
  refine w_getfield cd_106_36 (show mt_f 7 18 = some (7, 0) by decide +kernel) h14 h15 h17 ?_
  refine w_getfield cd_106_39 (show mt_f 7 118 = some (2, 1) by decide +kernel) h19 h20 h22 ?_
  refine w_iload_n cd_106_42 rfl ?_
  refine w_iaload cd_106_43 h24 h25 h26 ?_
  refine w_iconst (v := 1) cd_106_44 (by decide) ?_
  exact w_invokevirtual cd_106_45 (show mt_m 7 122 = some (92, 0) by decide +kernel) (rest := []) rfl (as := [.ref x11, .int (g23 i23), .int 1]) rfl h28 (Or.inl h29) ⟨Nat.le_of_ble_eq_true rfl, Nat.le_of_ble_eq_true rfl, Nat.le_of_ble_eq_true rfl⟩ h30
theorem b_106_48 {d : Nat} {Q : (Option Value ⊕ Nat) → mi_H → Prop} (n sl : Nat) (f : Nat → mi_C) {l1 : Nat} {l2 : Int32} {l3 : Nat} {l4 : Int32} {l5 : Int32} {o6 : Option Value} {o7 : Option Value} {s8 : Int32} (h9 : s8 = 0 ∨ s8 = 1) (h10 : Q (.inl (some (.int s8))) (n, sl, f)) : mi_W d 106 48 [some (.ref l1), some (.int l2), some (.ref l3), some (.int l4), some (.int l5), o6, o7] [.int s8] (n, sl, f) Q := by
  exact w_ireturn_z cd_106_48 (by decide +kernel) h9 h10
theorem b_106_49 {d : Nat} {Q : (Option Value ⊕ Nat) → mi_H → Prop} (n sl : Nat) (f : Nat → mi_C) {l1 : Nat} {l2 : Int32} {l3 : Nat} {l4 : Int32} {l5 : Int32} {o6 : Option Value} {o7 : Option Value} {fs8 : List Value} {x11 : Nat} {fs13 : List Value} {x16 : Nat} (m18 i18 : Nat) (g18 : Nat → Int32) {fs22 : List Value} {x25 : Nat} (m27 i27 : Nat) (g27 : Nat → Int32) (h9 : f l1 = .inr (7, fs8)) (h10 : l1 < n) (h12 : fs8[0]? = some (.ref x11)) (h14 : f x11 = .inr (2, fs13)) (h15 : x11 < n) (h17 : fs13[4]? = some (.ref x16)) (h19 : f x16 = .inl (0, m18, .inl g18)) (h20 : x16 < n ∨ x16 = mi_SC) (h21 : mi_ix l2 m18 i18) (h23 : f l3 = .inr (6, fs22)) (h24 : l3 < n) (h26 : fs22[1]? = some (.ref x25)) (h28 : f x25 = .inl (0, m27, .inl g27)) (h29 : x25 < n ∨ x25 = mi_SC) (h30 : mi_ix l4 m27 i27) (h31 : (g18 i18) = (g27 i27) → mi_W d 106 69 [some (.ref l1), some (.int l2), some (.ref l3), some (.int l4), some (.int l5), o6, o7] [] (n, sl, f) Q) (h32 : ¬ ((g18 i18) = (g27 i27)) → mi_W d 106 67 [some (.ref l1), some (.int l2), some (.ref l3), some (.int l4), some (.int l5), o6, o7] [] (n, sl, f) Q) : mi_W d 106 49 [some (.ref l1), some (.int l2), some (.ref l3), some (.int l4), some (.int l5), o6, o7] [] (n, sl, f) Q := by
  refine w_aload_n cd_106_49 rfl ?_
  refine w_getfield cd_106_50 (show mt_f 7 18 = some (7, 0) by decide +kernel) h9 h10 h12 ?_
  refine w_getfield cd_106_53 (show mt_f 7 157 = some (2, 4) by decide +kernel) h14 h15 h17 ?_
  refine w_iload_n cd_106_56 rfl ?_
  refine w_iaload cd_106_57 h19 h20 h21 ?_
  refine w_aload_n cd_106_58 rfl ?_
  refine w_getfield cd_106_59 (show mt_f 7 204 = some (6, 1) by decide +kernel) h23 h24 h26 ?_
  refine w_iload_n cd_106_62 rfl ?_
  refine w_iaload cd_106_63 h28 h29 h30 ?_
  exact w_if_icmpeq cd_106_64 (by decide) h31 h32
theorem b_106_67 {d : Nat} {Q : (Option Value ⊕ Nat) → mi_H → Prop} (n sl : Nat) (f : Nat → mi_C) {l1 : Nat} {l2 : Int32} {l3 : Nat} {l4 : Int32} {l5 : Int32} {o6 : Option Value} {o7 : Option Value} (h8 : Q (.inl (some (.int 0))) (n, sl, f)) : mi_W d 106 67 [some (.ref l1), some (.int l2), some (.ref l3), some (.int l4), some (.int l5), o6, o7] [] (n, sl, f) Q := by
  refine w_iconst (v := 0) cd_106_67 (by decide) ?_
  exact w_ireturn_z cd_106_68 (by decide +kernel) (by decide) h8
theorem b_106_69 {d : Nat} {Q : (Option Value ⊕ Nat) → mi_H → Prop} (n sl : Nat) (f : Nat → mi_C) {l1 : Nat} {l2 : Int32} {l3 : Nat} {l4 : Int32} {l5 : Int32} {o6 : Option Value} {o7 : Option Value} {fs8 : List Value} {x11 : Nat} (m13 i13 : Nat) (g13 : Nat → Int64) (h9 : f l3 = .inr (6, fs8)) (h10 : l3 < n) (h12 : fs8[4]? = some (.ref x11)) (h14 : f x11 = .inl (3, m13, .inr (.inl g13))) (h15 : x11 < n) (h16 : mi_ix l4 m13 i13) (h17 : ¬ l5 = 9 → mi_W d 106 95 [some (.ref l1), some (.int l2), some (.ref l3), some (.int l4), some (.int l5), some (.long (g13 i13)), none] [] (n, sl, f) Q) (h18 : ¬ (¬ l5 = 9) → mi_W d 106 84 [some (.ref l1), some (.int l2), some (.ref l3), some (.int l4), some (.int l5), some (.long (g13 i13)), none] [] (n, sl, f) Q) : mi_W d 106 69 [some (.ref l1), some (.int l2), some (.ref l3), some (.int l4), some (.int l5), o6, o7] [] (n, sl, f) Q := by
  refine w_aload_n cd_106_69 rfl ?_
  refine w_getfield cd_106_70 (show mt_f 7 194 = some (6, 4) by decide +kernel) h9 h10 h12 ?_
  refine w_iload_n cd_106_73 rfl ?_
  refine w_laload cd_106_74 h14 h15 h16 ?_
  refine w_lstore (ls' := [some (.ref l1), some (.int l2), some (.ref l3), some (.int l4), some (.int l5), some (.long (g13 i13)), none]) cd_106_75 (Nat.le_of_ble_eq_true rfl) rfl ?_
  refine w_iload cd_106_77 rfl ?_
  refine w_bipush (v := 9) cd_106_79 (by decide) ?_
  exact w_if_icmpne cd_106_81 (by decide) h17 h18
theorem b_106_84 {d : Nat} {Q : (Option Value ⊕ Nat) → mi_H → Prop} (n sl : Nat) (f : Nat → mi_C) {l1 : Nat} {l2 : Int32} {l3 : Nat} {l4 : Int32} {l5 : Int32} {l6 : Int64} {fs7 : List Value} {x10 : Nat} {fs12 : List Value} (h8 : f l1 = .inr (7, fs7)) (h9 : l1 < n) (h11 : fs7[0]? = some (.ref x10)) (h13 : f x10 = .inr (2, fs12)) (h14 : x10 < n) (h15 : mi_W d 107 0 (mi_en 5 [.ref x10, .int l2, .long l6]) [] (n, sl, f) (mi_Kc d 106 91 [some (.ref l1), some (.int l2), some (.ref l3), some (.int l4), some (.int l5), some (.long l6), none] [] Q)) : mi_W (d + 1) 106 84 [some (.ref l1), some (.int l2), some (.ref l3), some (.int l4), some (.int l5), some (.long l6), none] [] (n, sl, f) Q := by
  refine w_aload_n cd_106_84 rfl ?_
  refine w_getfield cd_106_85 (show mt_f 7 18 = some (7, 0) by decide +kernel) h8 h9 h11 ?_
  refine w_iload_n cd_106_88 rfl ?_
  refine w_lload cd_106_89 rfl ?_
  exact w_invokevirtual cd_106_91 (show mt_m 7 205 = some (107, 0) by decide +kernel) (rest := []) rfl (as := [.ref x10, .int l2, .long l6]) rfl h13 (Or.inl h14) ⟨Nat.le_of_ble_eq_true rfl, Nat.le_of_ble_eq_true rfl, Nat.le_of_ble_eq_true rfl⟩ h15
theorem b_106_94 {d : Nat} {Q : (Option Value ⊕ Nat) → mi_H → Prop} (n sl : Nat) (f : Nat → mi_C) {l1 : Nat} {l2 : Int32} {l3 : Nat} {l4 : Int32} {l5 : Int32} {l6 : Int64} {s7 : Int32} (h8 : s7 = 0 ∨ s7 = 1) (h9 : Q (.inl (some (.int s7))) (n, sl, f)) : mi_W d 106 94 [some (.ref l1), some (.int l2), some (.ref l3), some (.int l4), some (.int l5), some (.long l6), none] [.int s7] (n, sl, f) Q := by
  exact w_ireturn_z cd_106_94 (by decide +kernel) h8 h9
theorem b_106_95 {d : Nat} {Q : (Option Value ⊕ Nat) → mi_H → Prop} (n sl : Nat) (f : Nat → mi_C) {l1 : Nat} {l2 : Int32} {l3 : Nat} {l4 : Int32} {l5 : Int32} {l6 : Int64} {fs7 : List Value} {x10 : Nat} {fs12 : List Value} {x15 : Nat} (m17 i17 : Nat) (g17 : Nat → Int32) {fs21 : List Value} {x24 : Nat} (m26 i26 : Nat) (g26 : Nat → Int32) (h8 : f l1 = .inr (7, fs7)) (h9 : l1 < n) (h11 : fs7[0]? = some (.ref x10)) (h13 : f x10 = .inr (2, fs12)) (h14 : x10 < n) (h16 : fs12[5]? = some (.ref x15)) (h18 : f x15 = .inl (0, m17, .inl g17)) (h19 : x15 < n ∨ x15 = mi_SC) (h20 : mi_ix l2 m17 i17) (h22 : f l3 = .inr (6, fs21)) (h23 : l3 < n) (h25 : fs21[2]? = some (.ref x24)) (h27 : f x24 = .inl (0, m26, .inl g26)) (h28 : x24 < n ∨ x24 = mi_SC) (h29 : mi_ix l4 m26 i26) (h30 : ¬ (g17 i17) = (g26 i26) → mi_W d 106 158 [some (.ref l1), some (.int l2), some (.ref l3), some (.int l4), some (.int l5), some (.long l6), none] [] (n, sl, f) Q) (h31 : ¬ (¬ (g17 i17) = (g26 i26)) → mi_W d 106 113 [some (.ref l1), some (.int l2), some (.ref l3), some (.int l4), some (.int l5), some (.long l6), none] [] (n, sl, f) Q) : mi_W d 106 95 [some (.ref l1), some (.int l2), some (.ref l3), some (.int l4), some (.int l5), some (.long l6), none] [] (n, sl, f) Q := by
  refine w_aload_n cd_106_95 rfl ?_
  refine w_getfield cd_106_96 (show mt_f 7 18 = some (7, 0) by decide +kernel) h8 h9 h11 ?_
  refine w_getfield cd_106_99 (show mt_f 7 160 = some (2, 5) by decide +kernel) h13 h14 h16 ?_
  refine w_iload_n cd_106_102 rfl ?_
  refine w_iaload cd_106_103 h18 h19 h20 ?_
  refine w_aload_n cd_106_104 rfl ?_
  refine w_getfield cd_106_105 (show mt_f 7 209 = some (6, 2) by decide +kernel) h22 h23 h25 ?_
  refine w_iload_n cd_106_108 rfl ?_
  refine w_iaload cd_106_109 h27 h28 h29 ?_
  exact w_if_icmpne cd_106_110 (by decide) h30 h31
theorem b_106_113 {d : Nat} {Q : (Option Value ⊕ Nat) → mi_H → Prop} (n sl : Nat) (f : Nat → mi_C) {l1 : Nat} {l2 : Int32} {l3 : Nat} {l4 : Int32} {l5 : Int32} {l6 : Int64} {fs7 : List Value} {x10 : Nat} {fs12 : List Value} {x15 : Nat} (m17 i17 : Nat) (g17 : Nat → Int32) {fs21 : List Value} {x24 : Nat} (m26 i26 : Nat) (g26 : Nat → Int32) (h8 : f l1 = .inr (7, fs7)) (h9 : l1 < n) (h11 : fs7[0]? = some (.ref x10)) (h13 : f x10 = .inr (2, fs12)) (h14 : x10 < n) (h16 : fs12[6]? = some (.ref x15)) (h18 : f x15 = .inl (0, m17, .inl g17)) (h19 : x15 < n ∨ x15 = mi_SC) (h20 : mi_ix l2 m17 i17) (h22 : f l3 = .inr (6, fs21)) (h23 : l3 < n) (h25 : fs21[3]? = some (.ref x24)) (h27 : f x24 = .inl (0, m26, .inl g26)) (h28 : x24 < n ∨ x24 = mi_SC) (h29 : mi_ix l4 m26 i26) (h30 : ¬ (g17 i17) = (g26 i26) → mi_W d 106 158 [some (.ref l1), some (.int l2), some (.ref l3), some (.int l4), some (.int l5), some (.long l6), none] [] (n, sl, f) Q) (h31 : ¬ (¬ (g17 i17) = (g26 i26)) → mi_W d 106 131 [some (.ref l1), some (.int l2), some (.ref l3), some (.int l4), some (.int l5), some (.long l6), none] [] (n, sl, f) Q) : mi_W d 106 113 [some (.ref l1), some (.int l2), some (.ref l3), some (.int l4), some (.int l5), some (.long l6), none] [] (n, sl, f) Q := by
  refine w_aload_n cd_106_113 rfl ?_
  refine w_getfield cd_106_114 (show mt_f 7 18 = some (7, 0) by decide +kernel) h8 h9 h11 ?_
  refine w_getfield cd_106_117 (show mt_f 7 163 = some (2, 6) by decide +kernel) h13 h14 h16 ?_
  refine w_iload_n cd_106_120 rfl ?_
  refine w_iaload cd_106_121 h18 h19 h20 ?_
  refine w_aload_n cd_106_122 rfl ?_
  refine w_getfield cd_106_123 (show mt_f 7 210 = some (6, 3) by decide +kernel) h22 h23 h25 ?_
  refine w_iload_n cd_106_126 rfl ?_
  refine w_iaload cd_106_127 h27 h28 h29 ?_
  exact w_if_icmpne cd_106_128 (by decide) h30 h31
theorem b_106_131 {d : Nat} {Q : (Option Value ⊕ Nat) → mi_H → Prop} (n sl : Nat) (f : Nat → mi_C) {l1 : Nat} {l2 : Int32} {l3 : Nat} {l4 : Int32} {l5 : Int32} {l6 : Int64} {fs7 : List Value} {x10 : Nat} {fs12 : List Value} {x15 : Nat} {fs17 : List Value} {x20 : Nat} (m22 i22 : Nat) (g22 : Nat → Int32) {fs26 : List Value} (h8 : f l1 = .inr (7, fs7)) (h9 : l1 < n) (h11 : fs7[2]? = some (.ref x10)) (h13 : f l1 = .inr (7, fs12)) (h14 : l1 < n) (h16 : fs12[0]? = some (.ref x15)) (h18 : f x15 = .inr (2, fs17)) (h19 : x15 < n) (h21 : fs17[1]? = some (.ref x20)) (h23 : f x20 = .inl (0, m22, .inl g22)) (h24 : x20 < n ∨ x20 = mi_SC) (h25 : mi_ix l2 m22 i22) (h27 : f x10 = .inr (10, fs26)) (h28 : x10 < n) (h29 : mi_W d 87 0 (mi_en 5 [.ref x10, .int (g22 i22), .int 1]) [] (n, sl, f) (mi_Kc d 106 145 [some (.ref l1), some (.int l2), some (.ref l3), some (.int l4), some (.int l5), some (.long l6), none] [] Q)) : mi_W (d + 1) 106 131 [some (.ref l1), some (.int l2), some (.ref l3), some (.int l4), some (.int l5), some (.long l6), none] [] (n, sl, f) Q := by
  refine w_aload_n cd_106_131 rfl ?_
  refine w_getfield cd_106_132 (show mt_f 7 38 = some (7, 2) by decide +kernel) h8 h9 h11 ?_
  refine w_aload_n cd_106_135 rfl ?_
  refine w_getfield cd_106_136 (show mt_f 7 18 = some (7, 0) by decide +kernel) h13 h14 h16 ?_
  refine w_getfield cd_106_139 (show mt_f 7 118 = some (2, 1) by decide +kernel) h18 h19 h21 ?_
  refine w_iload_n cd_106_142 rfl ?_
  refine w_iaload cd_106_143 h23 h24 h25 ?_
  refine w_iconst (v := 1) cd_106_144 (by decide) ?_
  exact w_invokevirtual cd_106_145 (show mt_m 7 153 = some (87, 0) by decide +kernel) (rest := []) rfl (as := [.ref x10, .int (g22 i22), .int 1]) rfl h27 (Or.inl h28) ⟨Nat.le_of_ble_eq_true rfl, Nat.le_of_ble_eq_true rfl, Nat.le_of_ble_eq_true rfl⟩ h29
theorem b_106_148 {d : Nat} {Q : (Option Value ⊕ Nat) → mi_H → Prop} (n sl : Nat) (f : Nat → mi_C) {l1 : Nat} {l2 : Int32} {l3 : Nat} {l4 : Int32} {l5 : Int32} {l6 : Int64} {s7 : Int64} (h8 : ¬ (lg_cmp s7 l6) = (0 : Int32) → mi_W d 106 158 [some (.ref l1), some (.int l2), some (.ref l3), some (.int l4), some (.int l5), some (.long l6), none] [] (n, sl, f) Q) (h9 : ¬ (¬ (lg_cmp s7 l6) = (0 : Int32)) → mi_W d 106 154 [some (.ref l1), some (.int l2), some (.ref l3), some (.int l4), some (.int l5), some (.long l6), none] [] (n, sl, f) Q) : mi_W d 106 148 [some (.ref l1), some (.int l2), some (.ref l3), some (.int l4), some (.int l5), some (.long l6), none] [.long s7] (n, sl, f) Q := by
  refine w_lload cd_106_148 rfl ?_
  refine w_lcmp cd_106_150 ?_
  exact w_ifne cd_106_151 (by decide) h8 h9
theorem b_106_154 {d : Nat} {Q : (Option Value ⊕ Nat) → mi_H → Prop} (n sl : Nat) (f : Nat → mi_C) {l1 : Nat} {l2 : Int32} {l3 : Nat} {l4 : Int32} {l5 : Int32} {l6 : Int64} (h7 : mi_W d 106 159 [some (.ref l1), some (.int l2), some (.ref l3), some (.int l4), some (.int l5), some (.long l6), none] [.int 1] (n, sl, f) Q) : mi_W d 106 154 [some (.ref l1), some (.int l2), some (.ref l3), some (.int l4), some (.int l5), some (.long l6), none] [] (n, sl, f) Q := by
  refine w_iconst (v := 1) cd_106_154 (by decide) ?_
  exact w_goto cd_106_155 (by decide) h7
theorem b_106_158 {d : Nat} {Q : (Option Value ⊕ Nat) → mi_H → Prop} (n sl : Nat) (f : Nat → mi_C) {l1 : Nat} {l2 : Int32} {l3 : Nat} {l4 : Int32} {l5 : Int32} {l6 : Int64} (h7 : mi_W d 106 159 [some (.ref l1), some (.int l2), some (.ref l3), some (.int l4), some (.int l5), some (.long l6), none] [.int 0] (n, sl, f) Q) : mi_W d 106 158 [some (.ref l1), some (.int l2), some (.ref l3), some (.int l4), some (.int l5), some (.long l6), none] [] (n, sl, f) Q := by
  refine w_iconst (v := 0) cd_106_158 (by decide) ?_
  exact h7
theorem b_106_159 {d : Nat} {Q : (Option Value ⊕ Nat) → mi_H → Prop} (n sl : Nat) (f : Nat → mi_C) {l1 : Nat} {l2 : Int32} {l3 : Nat} {l4 : Int32} {l5 : Int32} {l6 : Int64} {s7 : Int32} (h8 : s7 = 0 ∨ s7 = 1) (h9 : Q (.inl (some (.int s7))) (n, sl, f)) : mi_W d 106 159 [some (.ref l1), some (.int l2), some (.ref l3), some (.int l4), some (.int l5), some (.long l6), none] [.int s7] (n, sl, f) Q := by
  exact w_ireturn_z cd_106_159 (by decide +kernel) h8 h9
/-! MarloweHost$Tree.isWithin(IJ)Z -/
set_option maxRecDepth 100000 in
theorem mq_107 : mt_q 107 = my_107 := rfl
set_option maxRecDepth 100000 in
theorem ci_107 : mt_inc 0 my_107.cd = true := by decide +kernel
theorem cd_107_0 : mt_cd 107 0 = some (.aload_n 0) := mt_cd_of (q := (0, .aload_n 0, 1)) mq_107 ci_107 (List.mem_of_getElem? (i := 0) rfl)
theorem cd_107_1 : mt_cd 107 1 = some (.getfield 27) := mt_cd_of (q := (1, .getfield 27, 3)) mq_107 ci_107 (List.mem_of_getElem? (i := 1) rfl)
theorem cd_107_4 : mt_cd 107 4 = some (.iload_n 1) := mt_cd_of (q := (4, .iload_n 1, 1)) mq_107 ci_107 (List.mem_of_getElem? (i := 2) rfl)
theorem cd_107_5 : mt_cd 107 5 = some (.iaload) := mt_cd_of (q := (5, .iaload, 1)) mq_107 ci_107 (List.mem_of_getElem? (i := 3) rfl)
theorem cd_107_6 : mt_cd 107 6 = some (.istore 4) := mt_cd_of (q := (6, .istore 4, 2)) mq_107 ci_107 (List.mem_of_getElem? (i := 4) rfl)
theorem cd_107_8 : mt_cd 107 8 = some (.iload 4) := mt_cd_of (q := (8, .iload 4, 2)) mq_107 ci_107 (List.mem_of_getElem? (i := 5) rfl)
theorem cd_107_10 : mt_cd 107 10 = some (.ifCond .lt 50) := mt_cd_of (q := (10, .ifCond .lt 50, 3)) mq_107 ci_107 (List.mem_of_getElem? (i := 6) rfl)
theorem cd_107_13 : mt_cd 107 13 = some (.iload 4) := mt_cd_of (q := (13, .iload 4, 2)) mq_107 ci_107 (List.mem_of_getElem? (i := 7) rfl)
theorem cd_107_15 : mt_cd 107 15 = some (.iconst 1) := mt_cd_of (q := (15, .iconst 1, 1)) mq_107 ci_107 (List.mem_of_getElem? (i := 8) rfl)
theorem cd_107_16 : mt_cd 107 16 = some (.iadd) := mt_cd_of (q := (16, .iadd, 1)) mq_107 ci_107 (List.mem_of_getElem? (i := 9) rfl)
theorem cd_107_17 : mt_cd 107 17 = some (.aload_n 0) := mt_cd_of (q := (17, .aload_n 0, 1)) mq_107 ci_107 (List.mem_of_getElem? (i := 10) rfl)
theorem cd_107_18 : mt_cd 107 18 = some (.getfield 30) := mt_cd_of (q := (18, .getfield 30, 3)) mq_107 ci_107 (List.mem_of_getElem? (i := 11) rfl)
theorem cd_107_21 : mt_cd 107 21 = some (.iload_n 1) := mt_cd_of (q := (21, .iload_n 1, 1)) mq_107 ci_107 (List.mem_of_getElem? (i := 12) rfl)
theorem cd_107_22 : mt_cd 107 22 = some (.iaload) := mt_cd_of (q := (22, .iaload, 1)) mq_107 ci_107 (List.mem_of_getElem? (i := 13) rfl)
theorem cd_107_23 : mt_cd 107 23 = some (.if_icmp .ge 37) := mt_cd_of (q := (23, .if_icmp .ge 37, 3)) mq_107 ci_107 (List.mem_of_getElem? (i := 14) rfl)
theorem cd_107_26 : mt_cd 107 26 = some (.lload_n 2) := mt_cd_of (q := (26, .lload_n 2, 1)) mq_107 ci_107 (List.mem_of_getElem? (i := 15) rfl)
theorem cd_107_27 : mt_cd 107 27 = some (.aload_n 0) := mt_cd_of (q := (27, .aload_n 0, 1)) mq_107 ci_107 (List.mem_of_getElem? (i := 16) rfl)
theorem cd_107_28 : mt_cd 107 28 = some (.getfield 44) := mt_cd_of (q := (28, .getfield 44, 3)) mq_107 ci_107 (List.mem_of_getElem? (i := 17) rfl)
theorem cd_107_31 : mt_cd 107 31 = some (.iload 4) := mt_cd_of (q := (31, .iload 4, 2)) mq_107 ci_107 (List.mem_of_getElem? (i := 18) rfl)
theorem cd_107_33 : mt_cd 107 33 = some (.laload) := mt_cd_of (q := (33, .laload, 1)) mq_107 ci_107 (List.mem_of_getElem? (i := 19) rfl)
theorem cd_107_34 : mt_cd 107 34 = some (.lcmp) := mt_cd_of (q := (34, .lcmp, 1)) mq_107 ci_107 (List.mem_of_getElem? (i := 20) rfl)
theorem cd_107_35 : mt_cd 107 35 = some (.ifCond .lt 19) := mt_cd_of (q := (35, .ifCond .lt 19, 3)) mq_107 ci_107 (List.mem_of_getElem? (i := 21) rfl)
theorem cd_107_38 : mt_cd 107 38 = some (.lload_n 2) := mt_cd_of (q := (38, .lload_n 2, 1)) mq_107 ci_107 (List.mem_of_getElem? (i := 22) rfl)
theorem cd_107_39 : mt_cd 107 39 = some (.aload_n 0) := mt_cd_of (q := (39, .aload_n 0, 1)) mq_107 ci_107 (List.mem_of_getElem? (i := 23) rfl)
theorem cd_107_40 : mt_cd 107 40 = some (.getfield 44) := mt_cd_of (q := (40, .getfield 44, 3)) mq_107 ci_107 (List.mem_of_getElem? (i := 24) rfl)
theorem cd_107_43 : mt_cd 107 43 = some (.iload 4) := mt_cd_of (q := (43, .iload 4, 2)) mq_107 ci_107 (List.mem_of_getElem? (i := 25) rfl)
theorem cd_107_45 : mt_cd 107 45 = some (.iconst 1) := mt_cd_of (q := (45, .iconst 1, 1)) mq_107 ci_107 (List.mem_of_getElem? (i := 26) rfl)
theorem cd_107_46 : mt_cd 107 46 = some (.iadd) := mt_cd_of (q := (46, .iadd, 1)) mq_107 ci_107 (List.mem_of_getElem? (i := 27) rfl)
theorem cd_107_47 : mt_cd 107 47 = some (.laload) := mt_cd_of (q := (47, .laload, 1)) mq_107 ci_107 (List.mem_of_getElem? (i := 28) rfl)
theorem cd_107_48 : mt_cd 107 48 = some (.lcmp) := mt_cd_of (q := (48, .lcmp, 1)) mq_107 ci_107 (List.mem_of_getElem? (i := 29) rfl)
theorem cd_107_49 : mt_cd 107 49 = some (.ifCond .gt 5) := mt_cd_of (q := (49, .ifCond .gt 5, 3)) mq_107 ci_107 (List.mem_of_getElem? (i := 30) rfl)
theorem cd_107_52 : mt_cd 107 52 = some (.iconst 1) := mt_cd_of (q := (52, .iconst 1, 1)) mq_107 ci_107 (List.mem_of_getElem? (i := 31) rfl)
theorem cd_107_53 : mt_cd 107 53 = some (.ireturn) := mt_cd_of (q := (53, .ireturn, 1)) mq_107 ci_107 (List.mem_of_getElem? (i := 32) rfl)
theorem cd_107_54 : mt_cd 107 54 = some (.iinc 4 2) := mt_cd_of (q := (54, .iinc 4 2, 3)) mq_107 ci_107 (List.mem_of_getElem? (i := 33) rfl)
theorem cd_107_57 : mt_cd 107 57 = some (.goto (-49)) := mt_cd_of (q := (57, .goto (-49), 3)) mq_107 ci_107 (List.mem_of_getElem? (i := 34) rfl)
theorem cd_107_60 : mt_cd 107 60 = some (.iconst 0) := mt_cd_of (q := (60, .iconst 0, 1)) mq_107 ci_107 (List.mem_of_getElem? (i := 35) rfl)
theorem cd_107_61 : mt_cd 107 61 = some (.ireturn) := mt_cd_of (q := (61, .ireturn, 1)) mq_107 ci_107 (List.mem_of_getElem? (i := 36) rfl)
theorem b_107_0 {d : Nat} {Q : (Option Value ⊕ Nat) → mi_H → Prop} (n sl : Nat) (f : Nat → mi_C) {l1 : Nat} {l2 : Int32} {l3 : Int64} {o4 : Option Value} {fs5 : List Value} {x8 : Nat} (m10 i10 : Nat) (g10 : Nat → Int32) (h6 : f l1 = .inr (2, fs5)) (h7 : l1 < n) (h9 : fs5[5]? = some (.ref x8)) (h11 : f x8 = .inl (0, m10, .inl g10)) (h12 : x8 < n ∨ x8 = mi_SC) (h13 : mi_ix l2 m10 i10) (h14 : mi_W d 107 8 [some (.ref l1), some (.int l2), some (.long l3), none, some (.int (g10 i10))] [] (n, sl, f) Q) : mi_W d 107 0 [some (.ref l1), some (.int l2), some (.long l3), none, o4] [] (n, sl, f) Q := by
  refine w_aload_n cd_107_0 rfl ?_
  refine w_getfield cd_107_1 (show mt_f 2 27 = some (2, 5) by decide +kernel) h6 h7 h9 ?_
  refine w_iload_n cd_107_4 rfl ?_
  refine w_iaload cd_107_5 h11 h12 h13 ?_
  refine w_istore (ls' := [some (.ref l1), some (.int l2), some (.long l3), none, some (.int (g10 i10))]) cd_107_6 (Nat.le_of_ble_eq_true rfl) rfl ?_
  exact h14
theorem b_107_8 {d : Nat} {Q : (Option Value ⊕ Nat) → mi_H → Prop} (n sl : Nat) (f : Nat → mi_C) {l1 : Nat} {l2 : Int32} {l3 : Int64} {l4 : Int32} (h5 : l4 < (0 : Int32) → mi_W d 107 60 [some (.ref l1), some (.int l2), some (.long l3), none, some (.int l4)] [] (n, sl, f) Q) (h6 : ¬ (l4 < (0 : Int32)) → mi_W d 107 13 [some (.ref l1), some (.int l2), some (.long l3), none, some (.int l4)] [] (n, sl, f) Q) : mi_W d 107 8 [some (.ref l1), some (.int l2), some (.long l3), none, some (.int l4)] [] (n, sl, f) Q := by
  refine w_iload cd_107_8 rfl ?_
  exact w_iflt cd_107_10 (by decide) h5 h6
theorem b_107_13 {d : Nat} {Q : (Option Value ⊕ Nat) → mi_H → Prop} (n sl : Nat) (f : Nat → mi_C) {l1 : Nat} {l2 : Int32} {l3 : Int64} {l4 : Int32} {fs5 : List Value} {x8 : Nat} (m10 i10 : Nat) (g10 : Nat → Int32) (h6 : f l1 = .inr (2, fs5)) (h7 : l1 < n) (h9 : fs5[6]? = some (.ref x8)) (h11 : f x8 = .inl (0, m10, .inl g10)) (h12 : x8 < n ∨ x8 = mi_SC) (h13 : mi_ix l2 m10 i10) (h14 : (g10 i10) ≤ (l4 + 1) → mi_W d 107 60 [some (.ref l1), some (.int l2), some (.long l3), none, some (.int l4)] [] (n, sl, f) Q) (h15 : ¬ ((g10 i10) ≤ (l4 + 1)) → mi_W d 107 26 [some (.ref l1), some (.int l2), some (.long l3), none, some (.int l4)] [] (n, sl, f) Q) : mi_W d 107 13 [some (.ref l1), some (.int l2), some (.long l3), none, some (.int l4)] [] (n, sl, f) Q := by
  refine w_iload cd_107_13 rfl ?_
  refine w_iconst (v := 1) cd_107_15 (by decide) ?_
  refine w_iadd cd_107_16 ?_
  refine w_aload_n cd_107_17 rfl ?_
  refine w_getfield cd_107_18 (show mt_f 2 30 = some (2, 6) by decide +kernel) h6 h7 h9 ?_
  refine w_iload_n cd_107_21 rfl ?_
  refine w_iaload cd_107_22 h11 h12 h13 ?_
  exact w_if_icmpge cd_107_23 (by decide) h14 h15
theorem b_107_26 {d : Nat} {Q : (Option Value ⊕ Nat) → mi_H → Prop} (n sl : Nat) (f : Nat → mi_C) {l1 : Nat} {l2 : Int32} {l3 : Int64} {l4 : Int32} {fs5 : List Value} {x8 : Nat} (m10 i10 : Nat) (g10 : Nat → Int64) (h6 : f l1 = .inr (2, fs5)) (h7 : l1 < n) (h9 : fs5[10]? = some (.ref x8)) (h11 : f x8 = .inl (3, m10, .inr (.inl g10))) (h12 : x8 < n) (h13 : mi_ix l4 m10 i10) (h14 : (lg_cmp l3 (g10 i10)) < (0 : Int32) → mi_W d 107 54 [some (.ref l1), some (.int l2), some (.long l3), none, some (.int l4)] [] (n, sl, f) Q) (h15 : ¬ ((lg_cmp l3 (g10 i10)) < (0 : Int32)) → mi_W d 107 38 [some (.ref l1), some (.int l2), some (.long l3), none, some (.int l4)] [] (n, sl, f) Q) : mi_W d 107 26 [some (.ref l1), some (.int l2), some (.long l3), none, some (.int l4)] [] (n, sl, f) Q := by
  refine w_lload_n cd_107_26 rfl ?_
  refine w_aload_n cd_107_27 rfl ?_
  refine w_getfield cd_107_28 (show mt_f 2 44 = some (2, 10) by decide +kernel) h6 h7 h9 ?_
  refine w_iload cd_107_31 rfl ?_
  refine w_laload cd_107_33 h11 h12 h13 ?_
  refine w_lcmp cd_107_34 ?_
  exact w_iflt cd_107_35 (by decide) h14 h15
theorem b_107_38 {d : Nat} {Q : (Option Value ⊕ Nat) → mi_H → Prop} (n sl : Nat) (f : Nat → mi_C) {l1 : Nat} {l2 : Int32} {l3 : Int64} {l4 : Int32} {fs5 : List Value} {x8 : Nat} (m10 i10 : Nat) (g10 : Nat → Int64) (h6 : f l1 = .inr (2, fs5)) (h7 : l1 < n) (h9 : fs5[10]? = some (.ref x8)) (h11 : f x8 = .inl (3, m10, .inr (.inl g10))) (h12 : x8 < n) (h13 : mi_ix (l4 + 1) m10 i10) (h14 : (0 : Int32) < (lg_cmp l3 (g10 i10)) → mi_W d 107 54 [some (.ref l1), some (.int l2), some (.long l3), none, some (.int l4)] [] (n, sl, f) Q) (h15 : ¬ ((0 : Int32) < (lg_cmp l3 (g10 i10))) → mi_W d 107 52 [some (.ref l1), some (.int l2), some (.long l3), none, some (.int l4)] [] (n, sl, f) Q) : mi_W d 107 38 [some (.ref l1), some (.int l2), some (.long l3), none, some (.int l4)] [] (n, sl, f) Q := by
  refine w_lload_n cd_107_38 rfl ?_
  refine w_aload_n cd_107_39 rfl ?_
  refine w_getfield cd_107_40 (show mt_f 2 44 = some (2, 10) by decide +kernel) h6 h7 h9 ?_
  refine w_iload cd_107_43 rfl ?_
  refine w_iconst (v := 1) cd_107_45 (by decide) ?_
  refine w_iadd cd_107_46 ?_
  refine w_laload cd_107_47 h11 h12 h13 ?_
  refine w_lcmp cd_107_48 ?_
  exact w_ifgt cd_107_49 (by decide) h14 h15
theorem b_107_52 {d : Nat} {Q : (Option Value ⊕ Nat) → mi_H → Prop} (n sl : Nat) (f : Nat → mi_C) {l1 : Nat} {l2 : Int32} {l3 : Int64} {l4 : Int32} (h5 : Q (.inl (some (.int 1))) (n, sl, f)) : mi_W d 107 52 [some (.ref l1), some (.int l2), some (.long l3), none, some (.int l4)] [] (n, sl, f) Q := by
  refine w_iconst (v := 1) cd_107_52 (by decide) ?_
  exact w_ireturn_z cd_107_53 (by decide +kernel) (by decide) h5
theorem b_107_54 {d : Nat} {Q : (Option Value ⊕ Nat) → mi_H → Prop} (n sl : Nat) (f : Nat → mi_C) {l1 : Nat} {l2 : Int32} {l3 : Int64} {l4 : Int32} (h5 : mi_W d 107 8 [some (.ref l1), some (.int l2), some (.long l3), none, some (.int (l4 + 2))] [] (n, sl, f) Q) : mi_W d 107 54 [some (.ref l1), some (.int l2), some (.long l3), none, some (.int l4)] [] (n, sl, f) Q := by
  refine w_iinc (v := 2) (ls' := [some (.ref l1), some (.int l2), some (.long l3), none, some (.int (l4 + 2))]) cd_107_54 rfl (by decide) rfl ?_
  exact w_goto cd_107_57 (by decide) h5
theorem b_107_60 {d : Nat} {Q : (Option Value ⊕ Nat) → mi_H → Prop} (n sl : Nat) (f : Nat → mi_C) {l1 : Nat} {l2 : Int32} {l3 : Int64} {l4 : Int32} (h5 : Q (.inl (some (.int 0))) (n, sl, f)) : mi_W d 107 60 [some (.ref l1), some (.int l2), some (.long l3), none, some (.int l4)] [] (n, sl, f) Q := by
  refine w_iconst (v := 0) cd_107_60 (by decide) ?_
  exact w_ireturn_z cd_107_61 (by decide +kernel) (by decide) h5
/-! MarloweHost$Machine.accept(IJ)V -/
set_option maxRecDepth 100000 in
theorem mq_108 : mt_q 108 = my_108 := rfl
set_option maxRecDepth 100000 in
theorem ci_108 : mt_inc 0 my_108.cd = true := by decide +kernel
theorem cd_108_0 : mt_cd 108 0 = some (.aload_n 0) := mt_cd_of (q := (0, .aload_n 0, 1)) mq_108 ci_108 (List.mem_of_getElem? (i := 0) rfl)
theorem cd_108_1 : mt_cd 108 1 = some (.getfield 18) := mt_cd_of (q := (1, .getfield 18, 3)) mq_108 ci_108 (List.mem_of_getElem? (i := 1) rfl)
theorem cd_108_4 : mt_cd 108 4 = some (.getfield 200) := mt_cd_of (q := (4, .getfield 200, 3)) mq_108 ci_108 (List.mem_of_getElem? (i := 2) rfl)
theorem cd_108_7 : mt_cd 108 7 = some (.iload_n 1) := mt_cd_of (q := (7, .iload_n 1, 1)) mq_108 ci_108 (List.mem_of_getElem? (i := 3) rfl)
theorem cd_108_8 : mt_cd 108 8 = some (.iaload) := mt_cd_of (q := (8, .iaload, 1)) mq_108 ci_108 (List.mem_of_getElem? (i := 4) rfl)
theorem cd_108_9 : mt_cd 108 9 = some (.istore 4) := mt_cd_of (q := (9, .istore 4, 2)) mq_108 ci_108 (List.mem_of_getElem? (i := 5) rfl)
theorem cd_108_11 : mt_cd 108 11 = some (.iload 4) := mt_cd_of (q := (11, .iload 4, 2)) mq_108 ci_108 (List.mem_of_getElem? (i := 6) rfl)
theorem cd_108_13 : mt_cd 108 13 = some (.bipush 9) := mt_cd_of (q := (13, .bipush 9, 2)) mq_108 ci_108 (List.mem_of_getElem? (i := 7) rfl)
theorem cd_108_15 : mt_cd 108 15 = some (.if_icmp .ne 23) := mt_cd_of (q := (15, .if_icmp .ne 23, 3)) mq_108 ci_108 (List.mem_of_getElem? (i := 8) rfl)
theorem cd_108_18 : mt_cd 108 18 = some (.aload_n 0) := mt_cd_of (q := (18, .aload_n 0, 1)) mq_108 ci_108 (List.mem_of_getElem? (i := 9) rfl)
theorem cd_108_19 : mt_cd 108 19 = some (.getfield 29) := mt_cd_of (q := (19, .getfield 29, 3)) mq_108 ci_108 (List.mem_of_getElem? (i := 10) rfl)
theorem cd_108_22 : mt_cd 108 22 = some (.aload_n 0) := mt_cd_of (q := (22, .aload_n 0, 1)) mq_108 ci_108 (List.mem_of_getElem? (i := 11) rfl)
theorem cd_108_23 : mt_cd 108 23 = some (.getfield 18) := mt_cd_of (q := (23, .getfield 18, 3)) mq_108 ci_108 (List.mem_of_getElem? (i := 12) rfl)
theorem cd_108_26 : mt_cd 108 26 = some (.getfield 157) := mt_cd_of (q := (26, .getfield 157, 3)) mq_108 ci_108 (List.mem_of_getElem? (i := 13) rfl)
theorem cd_108_29 : mt_cd 108 29 = some (.iload_n 1) := mt_cd_of (q := (29, .iload_n 1, 1)) mq_108 ci_108 (List.mem_of_getElem? (i := 14) rfl)
theorem cd_108_30 : mt_cd 108 30 = some (.iaload) := mt_cd_of (q := (30, .iaload, 1)) mq_108 ci_108 (List.mem_of_getElem? (i := 15) rfl)
theorem cd_108_31 : mt_cd 108 31 = some (.lload_n 2) := mt_cd_of (q := (31, .lload_n 2, 1)) mq_108 ci_108 (List.mem_of_getElem? (i := 16) rfl)
theorem cd_108_32 : mt_cd 108 32 = some (.invokevirtual 211) := mt_cd_of (q := (32, .invokevirtual 211, 3)) mq_108 ci_108 (List.mem_of_getElem? (i := 17) rfl)
theorem cd_108_35 : mt_cd 108 35 = some (.goto 41) := mt_cd_of (q := (35, .goto 41, 3)) mq_108 ci_108 (List.mem_of_getElem? (i := 18) rfl)
theorem cd_108_38 : mt_cd 108 38 = some (.iload 4) := mt_cd_of (q := (38, .iload 4, 2)) mq_108 ci_108 (List.mem_of_getElem? (i := 19) rfl)
theorem cd_108_40 : mt_cd 108 40 = some (.bipush 8) := mt_cd_of (q := (40, .bipush 8, 2)) mq_108 ci_108 (List.mem_of_getElem? (i := 20) rfl)
theorem cd_108_42 : mt_cd 108 42 = some (.if_icmp .ne 21) := mt_cd_of (q := (42, .if_icmp .ne 21, 3)) mq_108 ci_108 (List.mem_of_getElem? (i := 21) rfl)
theorem cd_108_45 : mt_cd 108 45 = some (.lload_n 2) := mt_cd_of (q := (45, .lload_n 2, 1)) mq_108 ci_108 (List.mem_of_getElem? (i := 22) rfl)
theorem cd_108_46 : mt_cd 108 46 = some (.lconst 0) := mt_cd_of (q := (46, .lconst 0, 1)) mq_108 ci_108 (List.mem_of_getElem? (i := 23) rfl)
theorem cd_108_47 : mt_cd 108 47 = some (.lcmp) := mt_cd_of (q := (47, .lcmp, 1)) mq_108 ci_108 (List.mem_of_getElem? (i := 24) rfl)
theorem cd_108_48 : mt_cd 108 48 = some (.ifCond .gt 15) := mt_cd_of (q := (48, .ifCond .gt 15, 3)) mq_108 ci_108 (List.mem_of_getElem? (i := 25) rfl)
theorem cd_108_51 : mt_cd 108 51 = some (.aload_n 0) := mt_cd_of (q := (51, .aload_n 0, 1)) mq_108 ci_108 (List.mem_of_getElem? (i := 26) rfl)
theorem cd_108_52 : mt_cd 108 52 = some (.getfield 12) := mt_cd_of (q := (52, .getfield 12, 3)) mq_108 ci_108 (List.mem_of_getElem? (i := 27) rfl)
theorem cd_108_55 : mt_cd 108 55 = some (.iconst 1) := mt_cd_of (q := (55, .iconst 1, 1)) mq_108 ci_108 (List.mem_of_getElem? (i := 28) rfl)
theorem cd_108_56 : mt_cd 108 56 = some (.iload_n 1) := mt_cd_of (q := (56, .iload_n 1, 1)) mq_108 ci_108 (List.mem_of_getElem? (i := 29) rfl)
theorem cd_108_57 : mt_cd 108 57 = some (.invokevirtual 139) := mt_cd_of (q := (57, .invokevirtual 139, 3)) mq_108 ci_108 (List.mem_of_getElem? (i := 30) rfl)
theorem cd_108_60 : mt_cd 108 60 = some (.goto 16) := mt_cd_of (q := (60, .goto 16, 3)) mq_108 ci_108 (List.mem_of_getElem? (i := 31) rfl)
theorem cd_108_63 : mt_cd 108 63 = some (.iload 4) := mt_cd_of (q := (63, .iload 4, 2)) mq_108 ci_108 (List.mem_of_getElem? (i := 32) rfl)
theorem cd_108_65 : mt_cd 108 65 = some (.bipush 8) := mt_cd_of (q := (65, .bipush 8, 2)) mq_108 ci_108 (List.mem_of_getElem? (i := 33) rfl)
theorem cd_108_67 : mt_cd 108 67 = some (.if_icmp .ne 9) := mt_cd_of (q := (67, .if_icmp .ne 9, 3)) mq_108 ci_108 (List.mem_of_getElem? (i := 34) rfl)
theorem cd_108_70 : mt_cd 108 70 = some (.aload_n 0) := mt_cd_of (q := (70, .aload_n 0, 1)) mq_108 ci_108 (List.mem_of_getElem? (i := 35) rfl)
theorem cd_108_71 : mt_cd 108 71 = some (.iload_n 1) := mt_cd_of (q := (71, .iload_n 1, 1)) mq_108 ci_108 (List.mem_of_getElem? (i := 36) rfl)
theorem cd_108_72 : mt_cd 108 72 = some (.lload_n 2) := mt_cd_of (q := (72, .lload_n 2, 1)) mq_108 ci_108 (List.mem_of_getElem? (i := 37) rfl)
theorem cd_108_73 : mt_cd 108 73 = some (.invokevirtual 214) := mt_cd_of (q := (73, .invokevirtual 214, 3)) mq_108 ci_108 (List.mem_of_getElem? (i := 38) rfl)
theorem cd_108_76 : mt_cd 108 76 = some (.aload_n 0) := mt_cd_of (q := (76, .aload_n 0, 1)) mq_108 ci_108 (List.mem_of_getElem? (i := 39) rfl)
theorem cd_108_77 : mt_cd 108 77 = some (.getfield 29) := mt_cd_of (q := (77, .getfield 29, 3)) mq_108 ci_108 (List.mem_of_getElem? (i := 40) rfl)
theorem cd_108_80 : mt_cd 108 80 = some (.aload_n 0) := mt_cd_of (q := (80, .aload_n 0, 1)) mq_108 ci_108 (List.mem_of_getElem? (i := 41) rfl)
theorem cd_108_81 : mt_cd 108 81 = some (.getfield 18) := mt_cd_of (q := (81, .getfield 18, 3)) mq_108 ci_108 (List.mem_of_getElem? (i := 42) rfl)
theorem cd_108_84 : mt_cd 108 84 = some (.getfield 126) := mt_cd_of (q := (84, .getfield 126, 3)) mq_108 ci_108 (List.mem_of_getElem? (i := 43) rfl)
theorem cd_108_87 : mt_cd 108 87 = some (.iload_n 1) := mt_cd_of (q := (87, .iload_n 1, 1)) mq_108 ci_108 (List.mem_of_getElem? (i := 44) rfl)
theorem cd_108_88 : mt_cd 108 88 = some (.iaload) := mt_cd_of (q := (88, .iaload, 1)) mq_108 ci_108 (List.mem_of_getElem? (i := 45) rfl)
theorem cd_108_89 : mt_cd 108 89 = some (.putfield 94) := mt_cd_of (q := (89, .putfield 94, 3)) mq_108 ci_108 (List.mem_of_getElem? (i := 46) rfl)
theorem cd_108_92 : mt_cd 108 92 = some (.return_) := mt_cd_of (q := (92, .return_, 1)) mq_108 ci_108 (List.mem_of_getElem? (i := 47) rfl)
theorem b_108_0 {d : Nat} {Q : (Option Value ⊕ Nat) → mi_H → Prop} (n sl : Nat) (f : Nat → mi_C) {l1 : Nat} {l2 : Int32} {l3 : Int64} {o4 : Option Value} {fs5 : List Value} {x8 : Nat} {fs10 : List Value} {x13 : Nat} (m15 i15 : Nat) (g15 : Nat → Int32) (h6 : f l1 = .inr (7, fs5)) (h7 : l1 < n) (h9 : fs5[0]? = some (.ref x8)) (h11 : f x8 = .inr (2, fs10)) (h12 : x8 < n) (h14 : fs10[0]? = some (.ref x13)) (h16 : f x13 = .inl (0, m15, .inl g15)) (h17 : x13 < n ∨ x13 = mi_SC) (h18 : mi_ix l2 m15 i15) (h19 : ¬ (g15 i15) = 9 → mi_W d 108 38 [some (.ref l1), some (.int l2), some (.long l3), none, some (.int (g15 i15))] [] (n, sl, f) Q) (h20 : ¬ (¬ (g15 i15) = 9) → mi_W d 108 18 [some (.ref l1), some (.int l2), some (.long l3), none, some (.int (g15 i15))] [] (n, sl, f) Q) : mi_W d 108 0 [some (.ref l1), some (.int l2), some (.long l3), none, o4] [] (n, sl, f) Q := by
  refine w_aload_n cd_108_0 rfl ?_
  refine w_getfield cd_108_1 (show mt_f 7 18 = some (7, 0) by decide +kernel) h6 h7 h9 ?_
  refine w_getfield cd_108_4 (show mt_f 7 200 = some (2, 0) by decide +kernel) h11 h12 h14 ?_
  refine w_iload_n cd_108_7 rfl ?_
  refine w_iaload cd_108_8 h16 h17 h18 ?_
  refine w_istore (ls' := [some (.ref l1), some (.int l2), some (.long l3), none, some (.int (g15 i15))]) cd_108_9 (Nat.le_of_ble_eq_true rfl) rfl ?_
  refine w_iload cd_108_11 rfl ?_
  refine w_bipush (v := 9) cd_108_13 (by decide) ?_
  exact w_if_icmpne cd_108_15 (by decide) h19 h20
theorem b_108_18 {d : Nat} {Q : (Option Value ⊕ Nat) → mi_H → Prop} (n sl : Nat) (f : Nat → mi_C) {l1 : Nat} {l2 : Int32} {l3 : Int64} {l4 : Int32} {fs5 : List Value} {x8 : Nat} {fs10 : List Value} {x13 : Nat} {fs15 : List Value} {x18 : Nat} (m20 i20 : Nat) (g20 : Nat → Int32) {fs24 : List Value} (h6 : f l1 = .inr (7, fs5)) (h7 : l1 < n) (h9 : fs5[3]? = some (.ref x8)) (h11 : f l1 = .inr (7, fs10)) (h12 : l1 < n) (h14 : fs10[0]? = some (.ref x13)) (h16 : f x13 = .inr (2, fs15)) (h17 : x13 < n) (h19 : fs15[4]? = some (.ref x18)) (h21 : f x18 = .inl (0, m20, .inl g20)) (h22 : x18 < n ∨ x18 = mi_SC) (h23 : mi_ix l2 m20 i20) (h25 : f x8 = .inr (9, fs24)) (h26 : x8 < n) (h27 : mi_W d 109 0 (mi_en 4 [.ref x8, .int (g20 i20), .long l3]) [] (n, sl, f) (mi_Kc d 108 32 [some (.ref l1), some (.int l2), some (.long l3), none, some (.int l4)] [] Q)) : mi_W (d + 1) 108 18 [some (.ref l1), some (.int l2), some (.long l3), none, some (.int l4)] [] (n, sl, f) Q := by
  refine w_aload_n cd_108_18 rfl ?_
  refine w_getfield cd_108_19 (show mt_f 7 29 = some (7, 3) by decide +kernel) h6 h7 h9 ?_
  refine w_aload_n cd_108_22 rfl ?_
  refine w_getfield cd_108_23 (show mt_f 7 18 = some (7, 0) by decide +kernel) h11 h12 h14 ?_
  refine w_getfield cd_108_26 (show mt_f 7 157 = some (2, 4) by decide +kernel) h16 h17 h19 ?_
  refine w_iload_n cd_108_29 rfl ?_
  refine w_iaload cd_108_30 h21 h22 h23 ?_
  refine w_lload_n cd_108_31 rfl ?_
  exact w_invokevirtual cd_108_32 (show mt_m 7 211 = some (109, 0) by decide +kernel) (rest := []) rfl (as := [.ref x8, .int (g20 i20), .long l3]) rfl h25 (Or.inl h26) ⟨Nat.le_of_ble_eq_true rfl, Nat.le_of_ble_eq_true rfl, Nat.le_of_ble_eq_true rfl⟩ h27
theorem b_108_35 {d : Nat} {Q : (Option Value ⊕ Nat) → mi_H → Prop} (n sl : Nat) (f : Nat → mi_C) {l1 : Nat} {l2 : Int32} {l3 : Int64} {l4 : Int32} (h5 : mi_W d 108 76 [some (.ref l1), some (.int l2), some (.long l3), none, some (.int l4)] [] (n, sl, f) Q) : mi_W d 108 35 [some (.ref l1), some (.int l2), some (.long l3), none, some (.int l4)] [] (n, sl, f) Q := by
  exact w_goto cd_108_35 (by decide) h5
theorem b_108_38 {d : Nat} {Q : (Option Value ⊕ Nat) → mi_H → Prop} (n sl : Nat) (f : Nat → mi_C) {l1 : Nat} {l2 : Int32} {l3 : Int64} {l4 : Int32} (h5 : ¬ l4 = 8 → mi_W d 108 63 [some (.ref l1), some (.int l2), some (.long l3), none, some (.int l4)] [] (n, sl, f) Q) (h6 : ¬ (¬ l4 = 8) → mi_W d 108 45 [some (.ref l1), some (.int l2), some (.long l3), none, some (.int l4)] [] (n, sl, f) Q) : mi_W d 108 38 [some (.ref l1), some (.int l2), some (.long l3), none, some (.int l4)] [] (n, sl, f) Q := by
  refine w_iload cd_108_38 rfl ?_
  refine w_bipush (v := 8) cd_108_40 (by decide) ?_
  exact w_if_icmpne cd_108_42 (by decide) h5 h6
theorem b_108_45 {d : Nat} {Q : (Option Value ⊕ Nat) → mi_H → Prop} (n sl : Nat) (f : Nat → mi_C) {l1 : Nat} {l2 : Int32} {l3 : Int64} {l4 : Int32} (h5 : (0 : Int32) < (lg_cmp l3 0) → mi_W d 108 63 [some (.ref l1), some (.int l2), some (.long l3), none, some (.int l4)] [] (n, sl, f) Q) (h6 : ¬ ((0 : Int32) < (lg_cmp l3 0)) → mi_W d 108 51 [some (.ref l1), some (.int l2), some (.long l3), none, some (.int l4)] [] (n, sl, f) Q) : mi_W d 108 45 [some (.ref l1), some (.int l2), some (.long l3), none, some (.int l4)] [] (n, sl, f) Q := by
  refine w_lload_n cd_108_45 rfl ?_
  refine w_lconst (lv := 0) cd_108_46 (by decide) ?_
  refine w_lcmp cd_108_47 ?_
  exact w_ifgt cd_108_48 (by decide) h5 h6
theorem b_108_51 {d : Nat} {Q : (Option Value ⊕ Nat) → mi_H → Prop} (n sl : Nat) (f : Nat → mi_C) {l1 : Nat} {l2 : Int32} {l3 : Int64} {l4 : Int32} {fs5 : List Value} {x8 : Nat} {fs10 : List Value} (h6 : f l1 = .inr (7, fs5)) (h7 : l1 < n) (h9 : fs5[7]? = some (.ref x8)) (h11 : f x8 = .inr (8, fs10)) (h12 : x8 < n) (h13 : mi_W d 98 0 (mi_en 3 [.ref x8, .int 1, .int l2]) [] (n, sl, f) (mi_Kc d 108 57 [some (.ref l1), some (.int l2), some (.long l3), none, some (.int l4)] [] Q)) : mi_W (d + 1) 108 51 [some (.ref l1), some (.int l2), some (.long l3), none, some (.int l4)] [] (n, sl, f) Q := by
  refine w_aload_n cd_108_51 rfl ?_
  refine w_getfield cd_108_52 (show mt_f 7 12 = some (7, 7) by decide +kernel) h6 h7 h9 ?_
  refine w_iconst (v := 1) cd_108_55 (by decide) ?_
  refine w_iload_n cd_108_56 rfl ?_
  exact w_invokevirtual cd_108_57 (show mt_m 7 139 = some (98, 0) by decide +kernel) (rest := []) rfl (as := [.ref x8, .int 1, .int l2]) rfl h11 (Or.inl h12) ⟨Nat.le_of_ble_eq_true rfl, Nat.le_of_ble_eq_true rfl, Nat.le_of_ble_eq_true rfl⟩ h13
theorem b_108_60 {d : Nat} {Q : (Option Value ⊕ Nat) → mi_H → Prop} (n sl : Nat) (f : Nat → mi_C) {l1 : Nat} {l2 : Int32} {l3 : Int64} {l4 : Int32} (h5 : mi_W d 108 76 [some (.ref l1), some (.int l2), some (.long l3), none, some (.int l4)] [] (n, sl, f) Q) : mi_W d 108 60 [some (.ref l1), some (.int l2), some (.long l3), none, some (.int l4)] [] (n, sl, f) Q := by
  exact w_goto cd_108_60 (by decide) h5
theorem b_108_63 {d : Nat} {Q : (Option Value ⊕ Nat) → mi_H → Prop} (n sl : Nat) (f : Nat → mi_C) {l1 : Nat} {l2 : Int32} {l3 : Int64} {l4 : Int32} (h5 : ¬ l4 = 8 → mi_W d 108 76 [some (.ref l1), some (.int l2), some (.long l3), none, some (.int l4)] [] (n, sl, f) Q) (h6 : ¬ (¬ l4 = 8) → mi_W d 108 70 [some (.ref l1), some (.int l2), some (.long l3), none, some (.int l4)] [] (n, sl, f) Q) : mi_W d 108 63 [some (.ref l1), some (.int l2), some (.long l3), none, some (.int l4)] [] (n, sl, f) Q := by
  refine w_iload cd_108_63 rfl ?_
  refine w_bipush (v := 8) cd_108_65 (by decide) ?_
  exact w_if_icmpne cd_108_67 (by decide) h5 h6
theorem b_108_70 {d : Nat} {Q : (Option Value ⊕ Nat) → mi_H → Prop} (n sl : Nat) (f : Nat → mi_C) {l1 : Nat} {l2 : Int32} {l3 : Int64} {l4 : Int32} {fs5 : List Value} (h6 : f l1 = .inr (7, fs5)) (h7 : l1 < n) (h8 : mi_W d 110 0 (mi_en 5 [.ref l1, .int l2, .long l3]) [] (n, sl, f) (mi_Kc d 108 73 [some (.ref l1), some (.int l2), some (.long l3), none, some (.int l4)] [] Q)) : mi_W (d + 1) 108 70 [some (.ref l1), some (.int l2), some (.long l3), none, some (.int l4)] [] (n, sl, f) Q := by
  refine w_aload_n cd_108_70 rfl ?_
  refine w_iload_n cd_108_71 rfl ?_
  refine w_lload_n cd_108_72 rfl ?_
  exact w_invokevirtual cd_108_73 (show mt_m 7 214 = some (110, 0) by decide +kernel) (rest := []) rfl (as := [.ref l1, .int l2, .long l3]) rfl h6 (Or.inl h7) ⟨Nat.le_of_ble_eq_true rfl, Nat.le_of_ble_eq_true rfl, Nat.le_of_ble_eq_true rfl⟩ h8
theorem b_108_76 {d : Nat} {Q : (Option Value ⊕ Nat) → mi_H → Prop} (n sl : Nat) (f : Nat → mi_C) {l1 : Nat} {l2 : Int32} {l3 : Int64} {l4 : Int32} {fs5 : List Value} {x8 : Nat} {fs10 : List Value} {x13 : Nat} {fs15 : List Value} {x18 : Nat} (m20 i20 : Nat) (g20 : Nat → Int32) {fs24 : List Value} (h6 : f l1 = .inr (7, fs5)) (h7 : l1 < n) (h9 : fs5[3]? = some (.ref x8)) (h11 : f l1 = .inr (7, fs10)) (h12 : l1 < n) (h14 : fs10[0]? = some (.ref x13)) (h16 : f x13 = .inr (2, fs15)) (h17 : x13 < n) (h19 : fs15[2]? = some (.ref x18)) (h21 : f x18 = .inl (0, m20, .inl g20)) (h22 : x18 < n ∨ x18 = mi_SC) (h23 : mi_ix l2 m20 i20) (h25 : f x8 = .inr (9, fs24)) (h26 : x8 < n) (h27 : 0 < fs24.length) (h28 : Q (.inl none) (n, sl, (va_up f x8 (.inr (9, fs24.set 0 (.int (g20 i20))))))) : mi_W d 108 76 [some (.ref l1), some (.int l2), some (.long l3), none, some (.int l4)] [] (n, sl, f) Q := by
  refine w_aload_n cd_108_76 rfl ?_
  refine w_getfield cd_108_77 (show mt_f 7 29 = some (7, 3) by decide +kernel) h6 h7 h9 ?_
  refine w_aload_n cd_108_80 rfl ?_
  refine w_getfield cd_108_81 (show mt_f 7 18 = some (7, 0) by decide +kernel) h11 h12 h14 ?_
  refine w_getfield cd_108_84 (show mt_f 7 126 = some (2, 2) by decide +kernel) h16 h17 h19 ?_
  refine w_iload_n cd_108_87 rfl ?_
  refine w_iaload cd_108_88 h21 h22 h23 ?_
  refine w_putfield (w := .int (g20 i20)) cd_108_89 (show mt_f 7 94 = some (9, 0) by decide +kernel) h25 h26 ⟨h27, rfl, Or.inl (by decide)⟩ ?_
  exact w_return cd_108_92 (by decide +kernel) h28
/-! MarloweHost$Situation.setChosen(IJ)V -/
set_option maxRecDepth 100000 in
theorem mq_109 : mt_q 109 = my_109 := rfl
set_option maxRecDepth 100000 in
theorem ci_109 : mt_inc 0 my_109.cd = true := by decide +kernel
theorem cd_109_0 : mt_cd 109 0 = some (.iload_n 1) := mt_cd_of (q := (0, .iload_n 1, 1)) mq_109 ci_109 (List.mem_of_getElem? (i := 0) rfl)
theorem cd_109_1 : mt_cd 109 1 = some (.ifCond .lt 28) := mt_cd_of (q := (1, .ifCond .lt 28, 3)) mq_109 ci_109 (List.mem_of_getElem? (i := 1) rfl)
theorem cd_109_4 : mt_cd 109 4 = some (.iload_n 1) := mt_cd_of (q := (4, .iload_n 1, 1)) mq_109 ci_109 (List.mem_of_getElem? (i := 2) rfl)
theorem cd_109_5 : mt_cd 109 5 = some (.bipush 8) := mt_cd_of (q := (5, .bipush 8, 2)) mq_109 ci_109 (List.mem_of_getElem? (i := 3) rfl)
theorem cd_109_7 : mt_cd 109 7 = some (.if_icmp .ge 22) := mt_cd_of (q := (7, .if_icmp .ge 22, 3)) mq_109 ci_109 (List.mem_of_getElem? (i := 4) rfl)
theorem cd_109_10 : mt_cd 109 10 = some (.aload_n 0) := mt_cd_of (q := (10, .aload_n 0, 1)) mq_109 ci_109 (List.mem_of_getElem? (i := 5) rfl)
theorem cd_109_11 : mt_cd 109 11 = some (.getfield 15) := mt_cd_of (q := (11, .getfield 15, 3)) mq_109 ci_109 (List.mem_of_getElem? (i := 6) rfl)
theorem cd_109_14 : mt_cd 109 14 = some (.iload_n 1) := mt_cd_of (q := (14, .iload_n 1, 1)) mq_109 ci_109 (List.mem_of_getElem? (i := 7) rfl)
theorem cd_109_15 : mt_cd 109 15 = some (.lload_n 2) := mt_cd_of (q := (15, .lload_n 2, 1)) mq_109 ci_109 (List.mem_of_getElem? (i := 8) rfl)
theorem cd_109_16 : mt_cd 109 16 = some (.lastore) := mt_cd_of (q := (16, .lastore, 1)) mq_109 ci_109 (List.mem_of_getElem? (i := 9) rfl)
theorem cd_109_17 : mt_cd 109 17 = some (.aload_n 0) := mt_cd_of (q := (17, .aload_n 0, 1)) mq_109 ci_109 (List.mem_of_getElem? (i := 10) rfl)
theorem cd_109_18 : mt_cd 109 18 = some (.dup) := mt_cd_of (q := (18, .dup, 1)) mq_109 ci_109 (List.mem_of_getElem? (i := 11) rfl)
theorem cd_109_19 : mt_cd 109 19 = some (.getfield 35) := mt_cd_of (q := (19, .getfield 35, 3)) mq_109 ci_109 (List.mem_of_getElem? (i := 12) rfl)
theorem cd_109_22 : mt_cd 109 22 = some (.iconst 1) := mt_cd_of (q := (22, .iconst 1, 1)) mq_109 ci_109 (List.mem_of_getElem? (i := 13) rfl)
theorem cd_109_23 : mt_cd 109 23 = some (.iload_n 1) := mt_cd_of (q := (23, .iload_n 1, 1)) mq_109 ci_109 (List.mem_of_getElem? (i := 14) rfl)
theorem cd_109_24 : mt_cd 109 24 = some (.ishl) := mt_cd_of (q := (24, .ishl, 1)) mq_109 ci_109 (List.mem_of_getElem? (i := 15) rfl)
theorem cd_109_25 : mt_cd 109 25 = some (.ior) := mt_cd_of (q := (25, .ior, 1)) mq_109 ci_109 (List.mem_of_getElem? (i := 16) rfl)
theorem cd_109_26 : mt_cd 109 26 = some (.putfield 35) := mt_cd_of (q := (26, .putfield 35, 3)) mq_109 ci_109 (List.mem_of_getElem? (i := 17) rfl)
theorem cd_109_29 : mt_cd 109 29 = some (.return_) := mt_cd_of (q := (29, .return_, 1)) mq_109 ci_109 (List.mem_of_getElem? (i := 18) rfl)
theorem b_109_0 {d : Nat} {Q : (Option Value ⊕ Nat) → mi_H → Prop} (n sl : Nat) (f : Nat → mi_C) {l1 : Nat} {l2 : Int32} {l3 : Int64} (h4 : l2 < (0 : Int32) → mi_W d 109 29 [some (.ref l1), some (.int l2), some (.long l3), none] [] (n, sl, f) Q) (h5 : ¬ (l2 < (0 : Int32)) → mi_W d 109 4 [some (.ref l1), some (.int l2), some (.long l3), none] [] (n, sl, f) Q) : mi_W d 109 0 [some (.ref l1), some (.int l2), some (.long l3), none] [] (n, sl, f) Q := by
  refine w_iload_n cd_109_0 rfl ?_
  exact w_iflt cd_109_1 (by decide) h4 h5
theorem b_109_4 {d : Nat} {Q : (Option Value ⊕ Nat) → mi_H → Prop} (n sl : Nat) (f : Nat → mi_C) {l1 : Nat} {l2 : Int32} {l3 : Int64} (h4 : 8 ≤ l2 → mi_W d 109 29 [some (.ref l1), some (.int l2), some (.long l3), none] [] (n, sl, f) Q) (h5 : ¬ (8 ≤ l2) → mi_W d 109 10 [some (.ref l1), some (.int l2), some (.long l3), none] [] (n, sl, f) Q) : mi_W d 109 4 [some (.ref l1), some (.int l2), some (.long l3), none] [] (n, sl, f) Q := by
  refine w_iload_n cd_109_4 rfl ?_
  refine w_bipush (v := 8) cd_109_5 (by decide) ?_
  exact w_if_icmpge cd_109_7 (by decide) h4 h5
theorem b_109_10 {d : Nat} {Q : (Option Value ⊕ Nat) → mi_H → Prop} (n sl : Nat) (f : Nat → mi_C) {l1 : Nat} {l2 : Int32} {l3 : Int64} {fs4 : List Value} {x7 : Nat} (m9 i9 : Nat) (g9 : Nat → Int64) {fs13 : List Value} {x16 : Int32} {fs18 : List Value} (h5 : f l1 = .inr (9, fs4)) (h6 : l1 < n) (h8 : fs4[3]? = some (.ref x7)) (h10 : f x7 = .inl (3, m9, .inr (.inl g9))) (h11 : x7 < n) (h12 : mi_ix l2 m9 i9) (h14 : (va_up f x7 (.inl (3, m9, .inr (.inl (vp_updL g9 i9 l3))))) l1 = .inr (9, fs13)) (h15 : l1 < n) (h17 : fs13[5]? = some (.int x16)) (h19 : (va_up f x7 (.inl (3, m9, .inr (.inl (vp_updL g9 i9 l3))))) l1 = .inr (9, fs18)) (h20 : l1 < n) (h21 : 5 < fs18.length) (h22 : mi_W d 109 29 [some (.ref l1), some (.int l2), some (.long l3), none] [] (n, sl, (va_up (va_up f x7 (.inl (3, m9, .inr (.inl (vp_updL g9 i9 l3))))) l1 (.inr (9, fs18.set 5 (.int (x16 ||| (1 <<< (l2 &&& 31)))))))) Q) : mi_W d 109 10 [some (.ref l1), some (.int l2), some (.long l3), none] [] (n, sl, f) Q := by
  refine w_aload_n cd_109_10 rfl ?_
  refine w_getfield cd_109_11 (show mt_f 9 15 = some (9, 3) by decide +kernel) h5 h6 h8 ?_
  refine w_iload_n cd_109_14 rfl ?_
  refine w_lload_n cd_109_15 rfl ?_
  refine w_lastore cd_109_16 h10 h11 h12 ?_
  refine w_aload_n cd_109_17 rfl ?_
  refine w_dup_r cd_109_18 ?_
  refine w_getfield cd_109_19 (show mt_f 9 35 = some (9, 5) by decide +kernel) h14 h15 h17 ?_
  refine w_iconst (v := 1) cd_109_22 (by decide) ?_
  refine w_iload_n cd_109_23 rfl ?_
  refine w_ishl cd_109_24 ?_
  refine w_ior cd_109_25 ?_
  refine w_putfield (w := .int (x16 ||| (1 <<< (l2 &&& 31)))) cd_109_26 (show mt_f 9 35 = some (9, 5) by decide +kernel) h19 h20 ⟨h21, rfl, Or.inl (by decide)⟩ ?_
  exact h22
theorem b_109_29 {d : Nat} {Q : (Option Value ⊕ Nat) → mi_H → Prop} (n sl : Nat) (f : Nat → mi_C) {l1 : Nat} {l2 : Int32} {l3 : Int64} (h4 : Q (.inl none) (n, sl, f)) : mi_W d 109 29 [some (.ref l1), some (.int l2), some (.long l3), none] [] (n, sl, f) Q := by
  exact w_return cd_109_29 (by decide +kernel) h4
/-! MarloweHost$Machine.receive(IJ)V -/
set_option maxRecDepth 100000 in
theorem mq_110 : mt_q 110 = my_110 := rfl
set_option maxRecDepth 100000 in
theorem ci_110 : mt_inc 0 my_110.cd = true := by decide +kernel
theorem cd_110_0 : mt_cd 110 0 = some (.aload_n 0) := mt_cd_of (q := (0, .aload_n 0, 1)) mq_110 ci_110 (List.mem_of_getElem? (i := 0) rfl)
theorem cd_110_1 : mt_cd 110 1 = some (.getfield 18) := mt_cd_of (q := (1, .getfield 18, 3)) mq_110 ci_110 (List.mem_of_getElem? (i := 1) rfl)
theorem cd_110_4 : mt_cd 110 4 = some (.getfield 163) := mt_cd_of (q := (4, .getfield 163, 3)) mq_110 ci_110 (List.mem_of_getElem? (i := 2) rfl)
theorem cd_110_7 : mt_cd 110 7 = some (.iload_n 1) := mt_cd_of (q := (7, .iload_n 1, 1)) mq_110 ci_110 (List.mem_of_getElem? (i := 3) rfl)
theorem cd_110_8 : mt_cd 110 8 = some (.iaload) := mt_cd_of (q := (8, .iaload, 1)) mq_110 ci_110 (List.mem_of_getElem? (i := 4) rfl)
theorem cd_110_9 : mt_cd 110 9 = some (.istore 4) := mt_cd_of (q := (9, .istore 4, 2)) mq_110 ci_110 (List.mem_of_getElem? (i := 5) rfl)
theorem cd_110_11 : mt_cd 110 11 = some (.aload_n 0) := mt_cd_of (q := (11, .aload_n 0, 1)) mq_110 ci_110 (List.mem_of_getElem? (i := 6) rfl)
theorem cd_110_12 : mt_cd 110 12 = some (.getfield 22) := mt_cd_of (q := (12, .getfield 22, 3)) mq_110 ci_110 (List.mem_of_getElem? (i := 7) rfl)
theorem cd_110_15 : mt_cd 110 15 = some (.ifnull 34) := mt_cd_of (q := (15, .ifnull 34, 3)) mq_110 ci_110 (List.mem_of_getElem? (i := 8) rfl)
theorem cd_110_18 : mt_cd 110 18 = some (.aload_n 0) := mt_cd_of (q := (18, .aload_n 0, 1)) mq_110 ci_110 (List.mem_of_getElem? (i := 9) rfl)
theorem cd_110_19 : mt_cd 110 19 = some (.getfield 22) := mt_cd_of (q := (19, .getfield 22, 3)) mq_110 ci_110 (List.mem_of_getElem? (i := 10) rfl)
theorem cd_110_22 : mt_cd 110 22 = some (.aload_n 0) := mt_cd_of (q := (22, .aload_n 0, 1)) mq_110 ci_110 (List.mem_of_getElem? (i := 11) rfl)
theorem cd_110_23 : mt_cd 110 23 = some (.getfield 18) := mt_cd_of (q := (23, .getfield 18, 3)) mq_110 ci_110 (List.mem_of_getElem? (i := 12) rfl)
theorem cd_110_26 : mt_cd 110 26 = some (.getfield 160) := mt_cd_of (q := (26, .getfield 160, 3)) mq_110 ci_110 (List.mem_of_getElem? (i := 13) rfl)
theorem cd_110_29 : mt_cd 110 29 = some (.iload_n 1) := mt_cd_of (q := (29, .iload_n 1, 1)) mq_110 ci_110 (List.mem_of_getElem? (i := 14) rfl)
theorem cd_110_30 : mt_cd 110 30 = some (.iaload) := mt_cd_of (q := (30, .iaload, 1)) mq_110 ci_110 (List.mem_of_getElem? (i := 15) rfl)
theorem cd_110_31 : mt_cd 110 31 = some (.iload 4) := mt_cd_of (q := (31, .iload 4, 2)) mq_110 ci_110 (List.mem_of_getElem? (i := 16) rfl)
theorem cd_110_33 : mt_cd 110 33 = some (.lload_n 2) := mt_cd_of (q := (33, .lload_n 2, 1)) mq_110 ci_110 (List.mem_of_getElem? (i := 17) rfl)
theorem cd_110_34 : mt_cd 110 34 = some (.invokevirtual 217) := mt_cd_of (q := (34, .invokevirtual 217, 3)) mq_110 ci_110 (List.mem_of_getElem? (i := 18) rfl)
theorem cd_110_37 : mt_cd 110 37 = some (.ifCond .ne 12) := mt_cd_of (q := (37, .ifCond .ne 12, 3)) mq_110 ci_110 (List.mem_of_getElem? (i := 19) rfl)
theorem cd_110_40 : mt_cd 110 40 = some (.aload_n 0) := mt_cd_of (q := (40, .aload_n 0, 1)) mq_110 ci_110 (List.mem_of_getElem? (i := 20) rfl)
theorem cd_110_41 : mt_cd 110 41 = some (.bipush 7) := mt_cd_of (q := (41, .bipush 7, 2)) mq_110 ci_110 (List.mem_of_getElem? (i := 21) rfl)
theorem cd_110_43 : mt_cd 110 43 = some (.putfield 49) := mt_cd_of (q := (43, .putfield 49, 3)) mq_110 ci_110 (List.mem_of_getElem? (i := 22) rfl)
theorem cd_110_46 : mt_cd 110 46 = some (.goto 31) := mt_cd_of (q := (46, .goto 31, 3)) mq_110 ci_110 (List.mem_of_getElem? (i := 23) rfl)
theorem cd_110_49 : mt_cd 110 49 = some (.aload_n 0) := mt_cd_of (q := (49, .aload_n 0, 1)) mq_110 ci_110 (List.mem_of_getElem? (i := 24) rfl)
theorem cd_110_50 : mt_cd 110 50 = some (.getfield 29) := mt_cd_of (q := (50, .getfield 29, 3)) mq_110 ci_110 (List.mem_of_getElem? (i := 25) rfl)
theorem cd_110_53 : mt_cd 110 53 = some (.aload_n 0) := mt_cd_of (q := (53, .aload_n 0, 1)) mq_110 ci_110 (List.mem_of_getElem? (i := 26) rfl)
theorem cd_110_54 : mt_cd 110 54 = some (.getfield 18) := mt_cd_of (q := (54, .getfield 18, 3)) mq_110 ci_110 (List.mem_of_getElem? (i := 27) rfl)
theorem cd_110_57 : mt_cd 110 57 = some (.getfield 157) := mt_cd_of (q := (57, .getfield 157, 3)) mq_110 ci_110 (List.mem_of_getElem? (i := 28) rfl)
theorem cd_110_60 : mt_cd 110 60 = some (.iload_n 1) := mt_cd_of (q := (60, .iload_n 1, 1)) mq_110 ci_110 (List.mem_of_getElem? (i := 29) rfl)
theorem cd_110_61 : mt_cd 110 61 = some (.iaload) := mt_cd_of (q := (61, .iaload, 1)) mq_110 ci_110 (List.mem_of_getElem? (i := 30) rfl)
theorem cd_110_62 : mt_cd 110 62 = some (.iload 4) := mt_cd_of (q := (62, .iload 4, 2)) mq_110 ci_110 (List.mem_of_getElem? (i := 31) rfl)
theorem cd_110_64 : mt_cd 110 64 = some (.lload_n 2) := mt_cd_of (q := (64, .lload_n 2, 1)) mq_110 ci_110 (List.mem_of_getElem? (i := 32) rfl)
theorem cd_110_65 : mt_cd 110 65 = some (.invokevirtual 172) := mt_cd_of (q := (65, .invokevirtual 172, 3)) mq_110 ci_110 (List.mem_of_getElem? (i := 33) rfl)
theorem cd_110_68 : mt_cd 110 68 = some (.ifCond .ne 9) := mt_cd_of (q := (68, .ifCond .ne 9, 3)) mq_110 ci_110 (List.mem_of_getElem? (i := 34) rfl)
theorem cd_110_71 : mt_cd 110 71 = some (.aload_n 0) := mt_cd_of (q := (71, .aload_n 0, 1)) mq_110 ci_110 (List.mem_of_getElem? (i := 35) rfl)
theorem cd_110_72 : mt_cd 110 72 = some (.bipush 6) := mt_cd_of (q := (72, .bipush 6, 2)) mq_110 ci_110 (List.mem_of_getElem? (i := 36) rfl)
theorem cd_110_74 : mt_cd 110 74 = some (.putfield 49) := mt_cd_of (q := (74, .putfield 49, 3)) mq_110 ci_110 (List.mem_of_getElem? (i := 37) rfl)
theorem cd_110_77 : mt_cd 110 77 = some (.return_) := mt_cd_of (q := (77, .return_, 1)) mq_110 ci_110 (List.mem_of_getElem? (i := 38) rfl)
theorem b_110_0 {d : Nat} {Q : (Option Value ⊕ Nat) → mi_H → Prop} (n sl : Nat) (f : Nat → mi_C) {l1 : Nat} {l2 : Int32} {l3 : Int64} {o4 : Option Value} {fs5 : List Value} {x8 : Nat} {fs10 : List Value} {x13 : Nat} (m15 i15 : Nat) (g15 : Nat → Int32) {fs19 : List Value} {w22 : Value} (h6 : f l1 = .inr (7, fs5)) (h7 : l1 < n) (h9 : fs5[0]? = some (.ref x8)) (h11 : f x8 = .inr (2, fs10)) (h12 : x8 < n) (h14 : fs10[6]? = some (.ref x13)) (h16 : f x13 = .inl (0, m15, .inl g15)) (h17 : x13 < n ∨ x13 = mi_SC) (h18 : mi_ix l2 m15 i15) (h20 : f l1 = .inr (7, fs19)) (h21 : l1 < n) (h23 : fs19[1]? = some (w22)) (h24 : w22 = .null → mi_W d 110 49 [some (.ref l1), some (.int l2), some (.long l3), none, some (.int (g15 i15))] [] (n, sl, f) Q) (h25 : ∀ q : Nat, w22 = .ref q → mi_W d 110 18 [some (.ref l1), some (.int l2), some (.long l3), none, some (.int (g15 i15))] [] (n, sl, f) Q) (h26 : w22.isRef = true) : mi_W d 110 0 [some (.ref l1), some (.int l2), some (.long l3), none, o4] [] (n, sl, f) Q := by
  refine w_aload_n cd_110_0 rfl ?_
  refine w_getfield cd_110_1 (show mt_f 7 18 = some (7, 0) by decide +kernel) h6 h7 h9 ?_
  refine w_getfield cd_110_4 (show mt_f 7 163 = some (2, 6) by decide +kernel) h11 h12 h14 ?_
  refine w_iload_n cd_110_7 rfl ?_
  refine w_iaload cd_110_8 h16 h17 h18 ?_
  refine w_istore (ls' := [some (.ref l1), some (.int l2), some (.long l3), none, some (.int (g15 i15))]) cd_110_9 (Nat.le_of_ble_eq_true rfl) rfl ?_
  refine w_aload_n cd_110_11 rfl ?_
  refine w_getfield cd_110_12 (show mt_f 7 22 = some (7, 1) by decide +kernel) h20 h21 h23 ?_
  
  cases w22 with
  | null => exact w_ifnull_n cd_110_15 (by decide) (h24 rfl)
  | ref q => exact w_ifnull_r cd_110_15 (h25 q rfl)
  | _ => cases h26
theorem b_110_18 {d : Nat} {Q : (Option Value ⊕ Nat) → mi_H → Prop} (n sl : Nat) (f : Nat → mi_C) {l1 : Nat} {l2 : Int32} {l3 : Int64} {l4 : Int32} {fs5 : List Value} {x8 : Nat} {fs10 : List Value} {x13 : Nat} {fs15 : List Value} {x18 : Nat} (m20 i20 : Nat) (g20 : Nat → Int32) {fs24 : List Value} (h6 : f l1 = .inr (7, fs5)) (h7 : l1 < n) (h9 : fs5[1]? = some (.ref x8)) (h11 : f l1 = .inr (7, fs10)) (h12 : l1 < n) (h14 : fs10[0]? = some (.ref x13)) (h16 : f x13 = .inr (2, fs15)) (h17 : x13 < n) (h19 : fs15[5]? = some (.ref x18)) (h21 : f x18 = .inl (0, m20, .inl g20)) (h22 : x18 < n ∨ x18 = mi_SC) (h23 : mi_ix l2 m20 i20) (h25 : f x8 = .inr (5, fs24)) (h26 : x8 < n) (h27 : mi_W d 111 0 (mi_en 6 [.ref x8, .int (g20 i20), .int l4, .long l3]) [] (n, sl, f) (mi_Kc d 110 34 [some (.ref l1), some (.int l2), some (.long l3), none, some (.int l4)] [] Q)) : mi_W (d + 1) 110 18 [some (.ref l1), some (.int l2), some (.long l3), none, some (.int l4)] [] (n, sl, f) Q := by
  refine w_aload_n cd_110_18 rfl ?_
  refine w_getfield cd_110_19 (show mt_f 7 22 = some (7, 1) by decide +kernel) h6 h7 h9 ?_
  refine w_aload_n cd_110_22 rfl ?_
  refine w_getfield cd_110_23 (show mt_f 7 18 = some (7, 0) by decide +kernel) h11 h12 h14 ?_
  refine w_getfield cd_110_26 (show mt_f 7 160 = some (2, 5) by decide +kernel) h16 h17 h19 ?_
  refine w_iload_n cd_110_29 rfl ?_
  refine w_iaload cd_110_30 h21 h22 h23 ?_
  refine w_iload cd_110_31 rfl ?_
  refine w_lload_n cd_110_33 rfl ?_
  exact w_invokevirtual cd_110_34 (show mt_m 7 217 = some (111, 0) by decide +kernel) (rest := []) rfl (as := [.ref x8, .int (g20 i20), .int l4, .long l3]) rfl h25 (Or.inl h26) ⟨Nat.le_of_ble_eq_true rfl, Nat.le_of_ble_eq_true rfl, Nat.le_of_ble_eq_true rfl⟩ h27
theorem b_110_37 {d : Nat} {Q : (Option Value ⊕ Nat) → mi_H → Prop} (n sl : Nat) (f : Nat → mi_C) {l1 : Nat} {l2 : Int32} {l3 : Int64} {l4 : Int32} {s5 : Int32} (h6 : ¬ s5 = (0 : Int32) → mi_W d 110 49 [some (.ref l1), some (.int l2), some (.long l3), none, some (.int l4)] [] (n, sl, f) Q) (h7 : ¬ (¬ s5 = (0 : Int32)) → mi_W d 110 40 [some (.ref l1), some (.int l2), some (.long l3), none, some (.int l4)] [] (n, sl, f) Q) : mi_W d 110 37 [some (.ref l1), some (.int l2), some (.long l3), none, some (.int l4)] [.int s5] (n, sl, f) Q := by
  exact w_ifne cd_110_37 (by decide) h6 h7
theorem b_110_40 {d : Nat} {Q : (Option Value ⊕ Nat) → mi_H → Prop} (n sl : Nat) (f : Nat → mi_C) {l1 : Nat} {l2 : Int32} {l3 : Int64} {l4 : Int32} {fs5 : List Value} (h6 : f l1 = .inr (7, fs5)) (h7 : l1 < n) (h8 : 6 < fs5.length) (h9 : mi_W d 110 77 [some (.ref l1), some (.int l2), some (.long l3), none, some (.int l4)] [] (n, sl, (va_up f l1 (.inr (7, fs5.set 6 (.int 7))))) Q) : mi_W d 110 40 [some (.ref l1), some (.int l2), some (.long l3), none, some (.int l4)] [] (n, sl, f) Q := by
  refine w_aload_n cd_110_40 rfl ?_
  refine w_bipush (v := 7) cd_110_41 (by decide) ?_
  refine w_putfield (w := .int 7) cd_110_43 (show mt_f 7 49 = some (7, 6) by decide +kernel) h6 h7 ⟨h8, rfl, Or.inl (by decide)⟩ ?_
  exact w_goto cd_110_46 (by decide) h9
theorem b_110_49 {d : Nat} {Q : (Option Value ⊕ Nat) → mi_H → Prop} (n sl : Nat) (f : Nat → mi_C) {l1 : Nat} {l2 : Int32} {l3 : Int64} {l4 : Int32} {fs5 : List Value} {x8 : Nat} {fs10 : List Value} {x13 : Nat} {fs15 : List Value} {x18 : Nat} (m20 i20 : Nat) (g20 : Nat → Int32) {fs24 : List Value} (h6 : f l1 = .inr (7, fs5)) (h7 : l1 < n) (h9 : fs5[3]? = some (.ref x8)) (h11 : f l1 = .inr (7, fs10)) (h12 : l1 < n) (h14 : fs10[0]? = some (.ref x13)) (h16 : f x13 = .inr (2, fs15)) (h17 : x13 < n) (h19 : fs15[4]? = some (.ref x18)) (h21 : f x18 = .inl (0, m20, .inl g20)) (h22 : x18 < n ∨ x18 = mi_SC) (h23 : mi_ix l2 m20 i20) (h25 : f x8 = .inr (9, fs24)) (h26 : x8 < n) (h27 : mi_W d 100 0 (mi_en 6 [.ref x8, .int (g20 i20), .int l4, .long l3]) [] (n, sl, f) (mi_Kc d 110 65 [some (.ref l1), some (.int l2), some (.long l3), none, some (.int l4)] [] Q)) : mi_W (d + 1) 110 49 [some (.ref l1), some (.int l2), some (.long l3), none, some (.int l4)] [] (n, sl, f) Q := by
  refine w_aload_n cd_110_49 rfl ?_
  refine w_getfield cd_110_50 (show mt_f 7 29 = some (7, 3) by decide +kernel) h6 h7 h9 ?_
  refine w_aload_n cd_110_53 rfl ?_
  refine w_getfield cd_110_54 (show mt_f 7 18 = some (7, 0) by decide +kernel) h11 h12 h14 ?_
  refine w_getfield cd_110_57 (show mt_f 7 157 = some (2, 4) by decide +kernel) h16 h17 h19 ?_
  refine w_iload_n cd_110_60 rfl ?_
  refine w_iaload cd_110_61 h21 h22 h23 ?_
  refine w_iload cd_110_62 rfl ?_
  refine w_lload_n cd_110_64 rfl ?_
  exact w_invokevirtual cd_110_65 (show mt_m 7 172 = some (100, 0) by decide +kernel) (rest := []) rfl (as := [.ref x8, .int (g20 i20), .int l4, .long l3]) rfl h25 (Or.inl h26) ⟨Nat.le_of_ble_eq_true rfl, Nat.le_of_ble_eq_true rfl, Nat.le_of_ble_eq_true rfl⟩ h27
theorem b_110_68 {d : Nat} {Q : (Option Value ⊕ Nat) → mi_H → Prop} (n sl : Nat) (f : Nat → mi_C) {l1 : Nat} {l2 : Int32} {l3 : Int64} {l4 : Int32} {s5 : Int32} (h6 : ¬ s5 = (0 : Int32) → mi_W d 110 77 [some (.ref l1), some (.int l2), some (.long l3), none, some (.int l4)] [] (n, sl, f) Q) (h7 : ¬ (¬ s5 = (0 : Int32)) → mi_W d 110 71 [some (.ref l1), some (.int l2), some (.long l3), none, some (.int l4)] [] (n, sl, f) Q) : mi_W d 110 68 [some (.ref l1), some (.int l2), some (.long l3), none, some (.int l4)] [.int s5] (n, sl, f) Q := by
  exact w_ifne cd_110_68 (by decide) h6 h7
theorem b_110_71 {d : Nat} {Q : (Option Value ⊕ Nat) → mi_H → Prop} (n sl : Nat) (f : Nat → mi_C) {l1 : Nat} {l2 : Int32} {l3 : Int64} {l4 : Int32} {fs5 : List Value} (h6 : f l1 = .inr (7, fs5)) (h7 : l1 < n) (h8 : 6 < fs5.length) (h9 : mi_W d 110 77 [some (.ref l1), some (.int l2), some (.long l3), none, some (.int l4)] [] (n, sl, (va_up f l1 (.inr (7, fs5.set 6 (.int 6))))) Q) : mi_W d 110 71 [some (.ref l1), some (.int l2), some (.long l3), none, some (.int l4)] [] (n, sl, f) Q := by
  refine w_aload_n cd_110_71 rfl ?_
  refine w_bipush (v := 6) cd_110_72 (by decide) ?_
  refine w_putfield (w := .int 6) cd_110_74 (show mt_f 7 49 = some (7, 6) by decide +kernel) h6 h7 ⟨h8, rfl, Or.inl (by decide)⟩ ?_
  exact h9
theorem b_110_77 {d : Nat} {Q : (Option Value ⊕ Nat) → mi_H → Prop} (n sl : Nat) (f : Nat → mi_C) {l1 : Nat} {l2 : Int32} {l3 : Int64} {l4 : Int32} (h5 : Q (.inl none) (n, sl, f)) : mi_W d 110 77 [some (.ref l1), some (.int l2), some (.long l3), none, some (.int l4)] [] (n, sl, f) Q := by
  exact w_return cd_110_77 (by decide +kernel) h5
/-! MarloweHost$Wallets.take(IIJ)Z -/
set_option maxRecDepth 100000 in
theorem mq_111 : mt_q 111 = my_111 := rfl
set_option maxRecDepth 100000 in
theorem ci_111 : mt_inc 0 my_111.cd = true := by decide +kernel
theorem cd_111_0 : mt_cd 111 0 = some (.iload_n 1) := mt_cd_of (q := (0, .iload_n 1, 1)) mq_111 ci_111 (List.mem_of_getElem? (i := 0) rfl)
theorem cd_111_1 : mt_cd 111 1 = some (.iconst 4) := mt_cd_of (q := (1, .iconst 4, 1)) mq_111 ci_111 (List.mem_of_getElem? (i := 1) rfl)
theorem cd_111_2 : mt_cd 111 2 = some (.imul) := mt_cd_of (q := (2, .imul, 1)) mq_111 ci_111 (List.mem_of_getElem? (i := 2) rfl)
theorem cd_111_3 : mt_cd 111 3 = some (.iload_n 2) := mt_cd_of (q := (3, .iload_n 2, 1)) mq_111 ci_111 (List.mem_of_getElem? (i := 3) rfl)
theorem cd_111_4 : mt_cd 111 4 = some (.iadd) := mt_cd_of (q := (4, .iadd, 1)) mq_111 ci_111 (List.mem_of_getElem? (i := 4) rfl)
theorem cd_111_5 : mt_cd 111 5 = some (.istore 5) := mt_cd_of (q := (5, .istore 5, 2)) mq_111 ci_111 (List.mem_of_getElem? (i := 5) rfl)
theorem cd_111_7 : mt_cd 111 7 = some (.iload 5) := mt_cd_of (q := (7, .iload 5, 2)) mq_111 ci_111 (List.mem_of_getElem? (i := 6) rfl)
theorem cd_111_9 : mt_cd 111 9 = some (.ifCond .lt 22) := mt_cd_of (q := (9, .ifCond .lt 22, 3)) mq_111 ci_111 (List.mem_of_getElem? (i := 7) rfl)
theorem cd_111_12 : mt_cd 111 12 = some (.iload 5) := mt_cd_of (q := (12, .iload 5, 2)) mq_111 ci_111 (List.mem_of_getElem? (i := 8) rfl)
theorem cd_111_14 : mt_cd 111 14 = some (.bipush 32) := mt_cd_of (q := (14, .bipush 32, 2)) mq_111 ci_111 (List.mem_of_getElem? (i := 9) rfl)
theorem cd_111_16 : mt_cd 111 16 = some (.if_icmp .ge 15) := mt_cd_of (q := (16, .if_icmp .ge 15, 3)) mq_111 ci_111 (List.mem_of_getElem? (i := 10) rfl)
theorem cd_111_19 : mt_cd 111 19 = some (.aload_n 0) := mt_cd_of (q := (19, .aload_n 0, 1)) mq_111 ci_111 (List.mem_of_getElem? (i := 11) rfl)
theorem cd_111_20 : mt_cd 111 20 = some (.getfield 15) := mt_cd_of (q := (20, .getfield 15, 3)) mq_111 ci_111 (List.mem_of_getElem? (i := 12) rfl)
theorem cd_111_23 : mt_cd 111 23 = some (.iload 5) := mt_cd_of (q := (23, .iload 5, 2)) mq_111 ci_111 (List.mem_of_getElem? (i := 13) rfl)
theorem cd_111_25 : mt_cd 111 25 = some (.laload) := mt_cd_of (q := (25, .laload, 1)) mq_111 ci_111 (List.mem_of_getElem? (i := 14) rfl)
theorem cd_111_26 : mt_cd 111 26 = some (.lload_n 3) := mt_cd_of (q := (26, .lload_n 3, 1)) mq_111 ci_111 (List.mem_of_getElem? (i := 15) rfl)
theorem cd_111_27 : mt_cd 111 27 = some (.lcmp) := mt_cd_of (q := (27, .lcmp, 1)) mq_111 ci_111 (List.mem_of_getElem? (i := 16) rfl)
theorem cd_111_28 : mt_cd 111 28 = some (.ifCond .ge 5) := mt_cd_of (q := (28, .ifCond .ge 5, 3)) mq_111 ci_111 (List.mem_of_getElem? (i := 17) rfl)
theorem cd_111_31 : mt_cd 111 31 = some (.iconst 0) := mt_cd_of (q := (31, .iconst 0, 1)) mq_111 ci_111 (List.mem_of_getElem? (i := 18) rfl)
theorem cd_111_32 : mt_cd 111 32 = some (.ireturn) := mt_cd_of (q := (32, .ireturn, 1)) mq_111 ci_111 (List.mem_of_getElem? (i := 19) rfl)
theorem cd_111_33 : mt_cd 111 33 = some (.aload_n 0) := mt_cd_of (q := (33, .aload_n 0, 1)) mq_111 ci_111 (List.mem_of_getElem? (i := 20) rfl)
theorem cd_111_34 : mt_cd 111 34 = some (.getfield 15) := mt_cd_of (q := (34, .getfield 15, 3)) mq_111 ci_111 (List.mem_of_getElem? (i := 21) rfl)
theorem cd_111_37 : mt_cd 111 37 = some (.iload 5) := mt_cd_of (q := (37, .iload 5, 2)) mq_111 ci_111 (List.mem_of_getElem? (i := 22) rfl)
theorem cd_111_39 : mt_cd 111 39 = some (.dup2) := mt_cd_of (q := (39, .dup2, 1)) mq_111 ci_111 (List.mem_of_getElem? (i := 23) rfl)
theorem cd_111_40 : mt_cd 111 40 = some (.laload) := mt_cd_of (q := (40, .laload, 1)) mq_111 ci_111 (List.mem_of_getElem? (i := 24) rfl)
theorem cd_111_41 : mt_cd 111 41 = some (.lload_n 3) := mt_cd_of (q := (41, .lload_n 3, 1)) mq_111 ci_111 (List.mem_of_getElem? (i := 25) rfl)
theorem cd_111_42 : mt_cd 111 42 = some (.lsub) := mt_cd_of (q := (42, .lsub, 1)) mq_111 ci_111 (List.mem_of_getElem? (i := 26) rfl)
theorem cd_111_43 : mt_cd 111 43 = some (.lastore) := mt_cd_of (q := (43, .lastore, 1)) mq_111 ci_111 (List.mem_of_getElem? (i := 27) rfl)
theorem cd_111_44 : mt_cd 111 44 = some (.iconst 1) := mt_cd_of (q := (44, .iconst 1, 1)) mq_111 ci_111 (List.mem_of_getElem? (i := 28) rfl)
theorem cd_111_45 : mt_cd 111 45 = some (.ireturn) := mt_cd_of (q := (45, .ireturn, 1)) mq_111 ci_111 (List.mem_of_getElem? (i := 29) rfl)
theorem b_111_0 {d : Nat} {Q : (Option Value ⊕ Nat) → mi_H → Prop} (n sl : Nat) (f : Nat → mi_C) {l1 : Nat} {l2 : Int32} {l3 : Int32} {l4 : Int64} {o5 : Option Value} (h6 : ((l2 * 4) + l3) < (0 : Int32) → mi_W d 111 31 [some (.ref l1), some (.int l2), some (.int l3), some (.long l4), none, some (.int ((l2 * 4) + l3))] [] (n, sl, f) Q) (h7 : ¬ (((l2 * 4) + l3) < (0 : Int32)) → mi_W d 111 12 [some (.ref l1), some (.int l2), some (.int l3), some (.long l4), none, some (.int ((l2 * 4) + l3))] [] (n, sl, f) Q) : mi_W d 111 0 [some (.ref l1), some (.int l2), some (.int l3), some (.long l4), none, o5] [] (n, sl, f) Q := by
  refine w_iload_n cd_111_0 rfl ?_
  refine w_iconst (v := 4) cd_111_1 (by decide) ?_
  refine w_imul cd_111_2 ?_
  refine w_iload_n cd_111_3 rfl ?_
  refine w_iadd cd_111_4 ?_
  refine w_istore (ls' := [some (.ref l1), some (.int l2), some (.int l3), some (.long l4), none, some (.int ((l2 * 4) + l3))]) cd_111_5 (Nat.le_of_ble_eq_true rfl) rfl ?_
  refine w_iload cd_111_7 rfl ?_
  exact w_iflt cd_111_9 (by decide) h6 h7
theorem b_111_12 {d : Nat} {Q : (Option Value ⊕ Nat) → mi_H → Prop} (n sl : Nat) (f : Nat → mi_C) {l1 : Nat} {l2 : Int32} {l3 : Int32} {l4 : Int64} {l5 : Int32} (h6 : 32 ≤ l5 → mi_W d 111 31 [some (.ref l1), some (.int l2), some (.int l3), some (.long l4), none, some (.int l5)] [] (n, sl, f) Q) (h7 : ¬ (32 ≤ l5) → mi_W d 111 19 [some (.ref l1), some (.int l2), some (.int l3), some (.long l4), none, some (.int l5)] [] (n, sl, f) Q) : mi_W d 111 12 [some (.ref l1), some (.int l2), some (.int l3), some (.long l4), none, some (.int l5)] [] (n, sl, f) Q := by
  refine w_iload cd_111_12 rfl ?_
  refine w_bipush (v := 32) cd_111_14 (by decide) ?_
  exact w_if_icmpge cd_111_16 (by decide) h6 h7
theorem b_111_19 {d : Nat} {Q : (Option Value ⊕ Nat) → mi_H → Prop} (n sl : Nat) (f : Nat → mi_C) {l1 : Nat} {l2 : Int32} {l3 : Int32} {l4 : Int64} {l5 : Int32} {fs6 : List Value} {x9 : Nat} (m11 i11 : Nat) (g11 : Nat → Int64) (h7 : f l1 = .inr (5, fs6)) (h8 : l1 < n) (h10 : fs6[1]? = some (.ref x9)) (h12 : f x9 = .inl (3, m11, .inr (.inl g11))) (h13 : x9 < n) (h14 : mi_ix l5 m11 i11) (h15 : (0 : Int32) ≤ (lg_cmp (g11 i11) l4) → mi_W d 111 33 [some (.ref l1), some (.int l2), some (.int l3), some (.long l4), none, some (.int l5)] [] (n, sl, f) Q) (h16 : ¬ ((0 : Int32) ≤ (lg_cmp (g11 i11) l4)) → mi_W d 111 31 [some (.ref l1), some (.int l2), some (.int l3), some (.long l4), none, some (.int l5)] [] (n, sl, f) Q) : mi_W d 111 19 [some (.ref l1), some (.int l2), some (.int l3), some (.long l4), none, some (.int l5)] [] (n, sl, f) Q := by
  refine w_aload_n cd_111_19 rfl ?_
  refine w_getfield cd_111_20 (show mt_f 5 15 = some (5, 1) by decide +kernel) h7 h8 h10 ?_
  refine w_iload cd_111_23 rfl ?_
  refine w_laload cd_111_25 h12 h13 h14 ?_
  refine w_lload_n cd_111_26 rfl ?_
  refine w_lcmp cd_111_27 ?_
  exact w_ifge cd_111_28 (by decide) h15 h16
theorem b_111_31 {d : Nat} {Q : (Option Value ⊕ Nat) → mi_H → Prop} (n sl : Nat) (f : Nat → mi_C) {l1 : Nat} {l2 : Int32} {l3 : Int32} {l4 : Int64} {l5 : Int32} (h6 : Q (.inl (some (.int 0))) (n, sl, f)) : mi_W d 111 31 [some (.ref l1), some (.int l2), some (.int l3), some (.long l4), none, some (.int l5)] [] (n, sl, f) Q := by
  refine w_iconst (v := 0) cd_111_31 (by decide) ?_
  exact w_ireturn_z cd_111_32 (by decide +kernel) (by decide) h6
theorem b_111_33 {d : Nat} {Q : (Option Value ⊕ Nat) → mi_H → Prop} (n sl : Nat) (f : Nat → mi_C) {l1 : Nat} {l2 : Int32} {l3 : Int32} {l4 : Int64} {l5 : Int32} {fs6 : List Value} {x9 : Nat} (m11 i11 : Nat) (g11 : Nat → Int64) (m15 i15 : Nat) (g15 : Nat → Int64) (h7 : f l1 = .inr (5, fs6)) (h8 : l1 < n) (h10 : fs6[1]? = some (.ref x9)) (h12 : f x9 = .inl (3, m11, .inr (.inl g11))) (h13 : x9 < n) (h14 : mi_ix l5 m11 i11) (h16 : f x9 = .inl (3, m15, .inr (.inl g15))) (h17 : x9 < n) (h18 : mi_ix l5 m15 i15) (h19 : Q (.inl (some (.int 1))) (n, sl, (va_up f x9 (.inl (3, m15, .inr (.inl (vp_updL g15 i15 ((g11 i11) - l4)))))))) : mi_W d 111 33 [some (.ref l1), some (.int l2), some (.int l3), some (.long l4), none, some (.int l5)] [] (n, sl, f) Q := by
  refine w_aload_n cd_111_33 rfl ?_
  refine w_getfield cd_111_34 (show mt_f 5 15 = some (5, 1) by decide +kernel) h7 h8 h10 ?_
  refine w_iload cd_111_37 rfl ?_
  refine w_dup2_ir cd_111_39 ?_
  refine w_laload cd_111_40 h12 h13 h14 ?_
  refine w_lload_n cd_111_41 rfl ?_
  refine w_lsub cd_111_42 ?_
  refine w_lastore cd_111_43 h16 h17 h18 ?_
  refine w_iconst (v := 1) cd_111_44 (by decide) ?_
  exact w_ireturn_z cd_111_45 (by decide +kernel) (by decide) h19
end
