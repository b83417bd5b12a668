section
/-! MarloweHost$Wallets.settle(LMarloweHost$Events;)Z -/
set_option maxRecDepth 100000 in
theorem mq_112 : mt_q 112 = my_112 := rfl
set_option maxRecDepth 100000 in
theorem ci_112 : mt_inc 0 my_112.cd = true := by decide +kernel
theorem cd_112_0 : mt_cd 112 0 = some (.iconst 0) := mt_cd_of (q := (0, .iconst 0, 1)) mq_112 ci_112 (List.mem_of_getElem? (i := 0) rfl)
theorem cd_112_1 : mt_cd 112 1 = some (.istore_n 2) := mt_cd_of (q := (1, .istore_n 2, 1)) mq_112 ci_112 (List.mem_of_getElem? (i := 1) rfl)
theorem cd_112_2 : mt_cd 112 2 = some (.iload_n 2) := mt_cd_of (q := (2, .iload_n 2, 1)) mq_112 ci_112 (List.mem_of_getElem? (i := 2) rfl)
theorem cd_112_3 : mt_cd 112 3 = some (.aload_n 1) := mt_cd_of (q := (3, .aload_n 1, 1)) mq_112 ci_112 (List.mem_of_getElem? (i := 3) rfl)
theorem cd_112_4 : mt_cd 112 4 = some (.getfield 24) := mt_cd_of (q := (4, .getfield 24, 3)) mq_112 ci_112 (List.mem_of_getElem? (i := 4) rfl)
theorem cd_112_7 : mt_cd 112 7 = some (.if_icmp .ge 79) := mt_cd_of (q := (7, .if_icmp .ge 79, 3)) mq_112 ci_112 (List.mem_of_getElem? (i := 5) rfl)
theorem cd_112_10 : mt_cd 112 10 = some (.iload_n 2) := mt_cd_of (q := (10, .iload_n 2, 1)) mq_112 ci_112 (List.mem_of_getElem? (i := 6) rfl)
theorem cd_112_11 : mt_cd 112 11 = some (.sipush 148) := mt_cd_of (q := (11, .sipush 148, 3)) mq_112 ci_112 (List.mem_of_getElem? (i := 7) rfl)
theorem cd_112_14 : mt_cd 112 14 = some (.if_icmp .ge 72) := mt_cd_of (q := (14, .if_icmp .ge 72, 3)) mq_112 ci_112 (List.mem_of_getElem? (i := 8) rfl)
theorem cd_112_17 : mt_cd 112 17 = some (.aload_n 1) := mt_cd_of (q := (17, .aload_n 1, 1)) mq_112 ci_112 (List.mem_of_getElem? (i := 9) rfl)
theorem cd_112_18 : mt_cd 112 18 = some (.getfield 30) := mt_cd_of (q := (18, .getfield 30, 3)) mq_112 ci_112 (List.mem_of_getElem? (i := 10) rfl)
theorem cd_112_21 : mt_cd 112 21 = some (.iload_n 2) := mt_cd_of (q := (21, .iload_n 2, 1)) mq_112 ci_112 (List.mem_of_getElem? (i := 11) rfl)
theorem cd_112_22 : mt_cd 112 22 = some (.iaload) := mt_cd_of (q := (22, .iaload, 1)) mq_112 ci_112 (List.mem_of_getElem? (i := 12) rfl)
theorem cd_112_23 : mt_cd 112 23 = some (.iconst 4) := mt_cd_of (q := (23, .iconst 4, 1)) mq_112 ci_112 (List.mem_of_getElem? (i := 13) rfl)
theorem cd_112_24 : mt_cd 112 24 = some (.imul) := mt_cd_of (q := (24, .imul, 1)) mq_112 ci_112 (List.mem_of_getElem? (i := 14) rfl)
theorem cd_112_25 : mt_cd 112 25 = some (.aload_n 1) := mt_cd_of (q := (25, .aload_n 1, 1)) mq_112 ci_112 (List.mem_of_getElem? (i := 15) rfl)
theorem cd_112_26 : mt_cd 112 26 = some (.getfield 34) := mt_cd_of (q := (26, .getfield 34, 3)) mq_112 ci_112 (List.mem_of_getElem? (i := 16) rfl)
theorem cd_112_29 : mt_cd 112 29 = some (.iload_n 2) := mt_cd_of (q := (29, .iload_n 2, 1)) mq_112 ci_112 (List.mem_of_getElem? (i := 17) rfl)
theorem cd_112_30 : mt_cd 112 30 = some (.iaload) := mt_cd_of (q := (30, .iaload, 1)) mq_112 ci_112 (List.mem_of_getElem? (i := 18) rfl)
theorem cd_112_31 : mt_cd 112 31 = some (.iadd) := mt_cd_of (q := (31, .iadd, 1)) mq_112 ci_112 (List.mem_of_getElem? (i := 19) rfl)
theorem cd_112_32 : mt_cd 112 32 = some (.istore_n 3) := mt_cd_of (q := (32, .istore_n 3, 1)) mq_112 ci_112 (List.mem_of_getElem? (i := 20) rfl)
theorem cd_112_33 : mt_cd 112 33 = some (.iload_n 3) := mt_cd_of (q := (33, .iload_n 3, 1)) mq_112 ci_112 (List.mem_of_getElem? (i := 21) rfl)
theorem cd_112_34 : mt_cd 112 34 = some (.ifCond .lt 29) := mt_cd_of (q := (34, .ifCond .lt 29, 3)) mq_112 ci_112 (List.mem_of_getElem? (i := 22) rfl)
theorem cd_112_37 : mt_cd 112 37 = some (.iload_n 3) := mt_cd_of (q := (37, .iload_n 3, 1)) mq_112 ci_112 (List.mem_of_getElem? (i := 23) rfl)
theorem cd_112_38 : mt_cd 112 38 = some (.bipush 32) := mt_cd_of (q := (38, .bipush 32, 2)) mq_112 ci_112 (List.mem_of_getElem? (i := 24) rfl)
theorem cd_112_40 : mt_cd 112 40 = some (.if_icmp .ge 23) := mt_cd_of (q := (40, .if_icmp .ge 23, 3)) mq_112 ci_112 (List.mem_of_getElem? (i := 25) rfl)
theorem cd_112_43 : mt_cd 112 43 = some (.aload_n 0) := mt_cd_of (q := (43, .aload_n 0, 1)) mq_112 ci_112 (List.mem_of_getElem? (i := 26) rfl)
theorem cd_112_44 : mt_cd 112 44 = some (.getfield 15) := mt_cd_of (q := (44, .getfield 15, 3)) mq_112 ci_112 (List.mem_of_getElem? (i := 27) rfl)
theorem cd_112_47 : mt_cd 112 47 = some (.iload_n 3) := mt_cd_of (q := (47, .iload_n 3, 1)) mq_112 ci_112 (List.mem_of_getElem? (i := 28) rfl)
theorem cd_112_48 : mt_cd 112 48 = some (.laload) := mt_cd_of (q := (48, .laload, 1)) mq_112 ci_112 (List.mem_of_getElem? (i := 29) rfl)
theorem cd_112_49 : mt_cd 112 49 = some (.ldc2_w 37) := mt_cd_of (q := (49, .ldc2_w 37, 3)) mq_112 ci_112 (List.mem_of_getElem? (i := 30) rfl)
theorem cd_112_52 : mt_cd 112 52 = some (.aload_n 1) := mt_cd_of (q := (52, .aload_n 1, 1)) mq_112 ci_112 (List.mem_of_getElem? (i := 31) rfl)
theorem cd_112_53 : mt_cd 112 53 = some (.getfield 39) := mt_cd_of (q := (53, .getfield 39, 3)) mq_112 ci_112 (List.mem_of_getElem? (i := 32) rfl)
theorem cd_112_56 : mt_cd 112 56 = some (.iload_n 2) := mt_cd_of (q := (56, .iload_n 2, 1)) mq_112 ci_112 (List.mem_of_getElem? (i := 33) rfl)
theorem cd_112_57 : mt_cd 112 57 = some (.laload) := mt_cd_of (q := (57, .laload, 1)) mq_112 ci_112 (List.mem_of_getElem? (i := 34) rfl)
theorem cd_112_58 : mt_cd 112 58 = some (.lsub) := mt_cd_of (q := (58, .lsub, 1)) mq_112 ci_112 (List.mem_of_getElem? (i := 35) rfl)
theorem cd_112_59 : mt_cd 112 59 = some (.lcmp) := mt_cd_of (q := (59, .lcmp, 1)) mq_112 ci_112 (List.mem_of_getElem? (i := 36) rfl)
theorem cd_112_60 : mt_cd 112 60 = some (.ifCond .le 5) := mt_cd_of (q := (60, .ifCond .le 5, 3)) mq_112 ci_112 (List.mem_of_getElem? (i := 37) rfl)
theorem cd_112_63 : mt_cd 112 63 = some (.iconst 0) := mt_cd_of (q := (63, .iconst 0, 1)) mq_112 ci_112 (List.mem_of_getElem? (i := 38) rfl)
theorem cd_112_64 : mt_cd 112 64 = some (.ireturn) := mt_cd_of (q := (64, .ireturn, 1)) mq_112 ci_112 (List.mem_of_getElem? (i := 39) rfl)
theorem cd_112_65 : mt_cd 112 65 = some (.aload_n 0) := mt_cd_of (q := (65, .aload_n 0, 1)) mq_112 ci_112 (List.mem_of_getElem? (i := 40) rfl)
theorem cd_112_66 : mt_cd 112 66 = some (.getfield 15) := mt_cd_of (q := (66, .getfield 15, 3)) mq_112 ci_112 (List.mem_of_getElem? (i := 41) rfl)
theorem cd_112_69 : mt_cd 112 69 = some (.iload_n 3) := mt_cd_of (q := (69, .iload_n 3, 1)) mq_112 ci_112 (List.mem_of_getElem? (i := 42) rfl)
theorem cd_112_70 : mt_cd 112 70 = some (.dup2) := mt_cd_of (q := (70, .dup2, 1)) mq_112 ci_112 (List.mem_of_getElem? (i := 43) rfl)
theorem cd_112_71 : mt_cd 112 71 = some (.laload) := mt_cd_of (q := (71, .laload, 1)) mq_112 ci_112 (List.mem_of_getElem? (i := 44) rfl)
theorem cd_112_72 : mt_cd 112 72 = some (.aload_n 1) := mt_cd_of (q := (72, .aload_n 1, 1)) mq_112 ci_112 (List.mem_of_getElem? (i := 45) rfl)
theorem cd_112_73 : mt_cd 112 73 = some (.getfield 39) := mt_cd_of (q := (73, .getfield 39, 3)) mq_112 ci_112 (List.mem_of_getElem? (i := 46) rfl)
theorem cd_112_76 : mt_cd 112 76 = some (.iload_n 2) := mt_cd_of (q := (76, .iload_n 2, 1)) mq_112 ci_112 (List.mem_of_getElem? (i := 47) rfl)
theorem cd_112_77 : mt_cd 112 77 = some (.laload) := mt_cd_of (q := (77, .laload, 1)) mq_112 ci_112 (List.mem_of_getElem? (i := 48) rfl)
theorem cd_112_78 : mt_cd 112 78 = some (.ladd) := mt_cd_of (q := (78, .ladd, 1)) mq_112 ci_112 (List.mem_of_getElem? (i := 49) rfl)
theorem cd_112_79 : mt_cd 112 79 = some (.lastore) := mt_cd_of (q := (79, .lastore, 1)) mq_112 ci_112 (List.mem_of_getElem? (i := 50) rfl)
theorem cd_112_80 : mt_cd 112 80 = some (.iinc 2 1) := mt_cd_of (q := (80, .iinc 2 1, 3)) mq_112 ci_112 (List.mem_of_getElem? (i := 51) rfl)
theorem cd_112_83 : mt_cd 112 83 = some (.goto (-81)) := mt_cd_of (q := (83, .goto (-81), 3)) mq_112 ci_112 (List.mem_of_getElem? (i := 52) rfl)
theorem cd_112_86 : mt_cd 112 86 = some (.aload_n 0) := mt_cd_of (q := (86, .aload_n 0, 1)) mq_112 ci_112 (List.mem_of_getElem? (i := 53) rfl)
theorem cd_112_87 : mt_cd 112 87 = some (.getfield 15) := mt_cd_of (q := (87, .getfield 15, 3)) mq_112 ci_112 (List.mem_of_getElem? (i := 54) rfl)
theorem cd_112_90 : mt_cd 112 90 = some (.iconst 0) := mt_cd_of (q := (90, .iconst 0, 1)) mq_112 ci_112 (List.mem_of_getElem? (i := 55) rfl)
theorem cd_112_91 : mt_cd 112 91 = some (.aload_n 0) := mt_cd_of (q := (91, .aload_n 0, 1)) mq_112 ci_112 (List.mem_of_getElem? (i := 56) rfl)
theorem cd_112_92 : mt_cd 112 92 = some (.getfield 9) := mt_cd_of (q := (92, .getfield 9, 3)) mq_112 ci_112 (List.mem_of_getElem? (i := 57) rfl)
theorem cd_112_95 : mt_cd 112 95 = some (.iconst 0) := mt_cd_of (q := (95, .iconst 0, 1)) mq_112 ci_112 (List.mem_of_getElem? (i := 58) rfl)
theorem cd_112_96 : mt_cd 112 96 = some (.bipush 32) := mt_cd_of (q := (96, .bipush 32, 2)) mq_112 ci_112 (List.mem_of_getElem? (i := 59) rfl)
theorem cd_112_98 : mt_cd 112 98 = some (.invokestatic 18) := mt_cd_of (q := (98, .invokestatic 18, 3)) mq_112 ci_112 (List.mem_of_getElem? (i := 60) rfl)
theorem cd_112_101 : mt_cd 112 101 = some (.iconst 1) := mt_cd_of (q := (101, .iconst 1, 1)) mq_112 ci_112 (List.mem_of_getElem? (i := 61) rfl)
theorem cd_112_102 : mt_cd 112 102 = some (.ireturn) := mt_cd_of (q := (102, .ireturn, 1)) mq_112 ci_112 (List.mem_of_getElem? (i := 62) rfl)
theorem b_112_0 {d : Nat} {Q : (Option Value ⊕ Nat) → mi_H → Prop} (n sl : Nat) (f : Nat → mi_C) {l1 : Nat} {l2 : Nat} {o3 : Option Value} {o4 : Option Value} (h5 : mi_W d 112 2 [some (.ref l1), some (.ref l2), some (.int 0), o4] [] (n, sl, f) Q) : mi_W d 112 0 [some (.ref l1), some (.ref l2), o3, o4] [] (n, sl, f) Q := by
  refine w_iconst (v := 0) cd_112_0 (by decide) ?_
  refine w_istore_n (ls' := [some (.ref l1), some (.ref l2), some (.int 0), o4]) cd_112_1 (Nat.le_of_ble_eq_true rfl) rfl ?_
  exact h5
theorem b_112_2 {d : Nat} {Q : (Option Value ⊕ Nat) → mi_H → Prop} (n sl : Nat) (f : Nat → mi_C) {l1 : Nat} {l2 : Nat} {l3 : Int32} {o4 : Option Value} {fs5 : List Value} {x8 : Int32} (h6 : f l2 = .inr (8, fs5)) (h7 : l2 < n) (h9 : fs5[7]? = some (.int x8)) (h10 : x8 ≤ l3 → mi_W d 112 86 [some (.ref l1), some (.ref l2), some (.int l3), o4] [] (n, sl, f) Q) (h11 : ¬ (x8 ≤ l3) → mi_W d 112 10 [some (.ref l1), some (.ref l2), some (.int l3), o4] [] (n, sl, f) Q) : mi_W d 112 2 [some (.ref l1), some (.ref l2), some (.int l3), o4] [] (n, sl, f) Q := by
  refine w_iload_n cd_112_2 rfl ?_
  refine w_aload_n cd_112_3 rfl ?_
  refine w_getfield cd_112_4 (show mt_f 5 24 = some (8, 7) by decide +kernel) h6 h7 h9 ?_
  exact w_if_icmpge cd_112_7 (by decide) h10 h11
theorem b_112_10 {d : Nat} {Q : (Option Value ⊕ Nat) → mi_H → Prop} (n sl : Nat) (f : Nat → mi_C) {l1 : Nat} {l2 : Nat} {l3 : Int32} {o4 : Option Value} (h5 : 148 ≤ l3 → mi_W d 112 86 [some (.ref l1), some (.ref l2), some (.int l3), o4] [] (n, sl, f) Q) (h6 : ¬ (148 ≤ l3) → mi_W d 112 17 [some (.ref l1), some (.ref l2), some (.int l3), o4] [] (n, sl, f) Q) : mi_W d 112 10 [some (.ref l1), some (.ref l2), some (.int l3), o4] [] (n, sl, f) Q := by
  refine w_iload_n cd_112_10 rfl ?_
  refine w_sipush (v := 148) cd_112_11 (by decide) ?_
  exact w_if_icmpge cd_112_14 (by decide) h5 h6
theorem b_112_17 {d : Nat} {Q : (Option Value ⊕ Nat) → mi_H → Prop} (n sl : Nat) (f : Nat → mi_C) {l1 : Nat} {l2 : Nat} {l3 : Int32} {o4 : Option Value} {fs5 : List Value} {x8 : Nat} (m10 i10 : Nat) (g10 : Nat → Int32) {fs14 : List Value} {x17 : Nat} (m19 i19 : Nat) (g19 : Nat → Int32) (h6 : f l2 = .inr (8, fs5)) (h7 : l2 < n) (h9 : fs5[3]? = some (.ref x8)) (h11 : f x8 = .inl (0, m10, .inl g10)) (h12 : x8 < n ∨ x8 = mi_SC) (h13 : mi_ix l3 m10 i10) (h15 : f l2 = .inr (8, fs14)) (h16 : l2 < n) (h18 : fs14[4]? = some (.ref x17)) (h20 : f x17 = .inl (0, m19, .inl g19)) (h21 : x17 < n ∨ x17 = mi_SC) (h22 : mi_ix l3 m19 i19) (h23 : (((g10 i10) * 4) + (g19 i19)) < (0 : Int32) → mi_W d 112 63 [some (.ref l1), some (.ref l2), some (.int l3), some (.int (((g10 i10) * 4) + (g19 i19)))] [] (n, sl, f) Q) (h24 : ¬ ((((g10 i10) * 4) + (g19 i19)) < (0 : Int32)) → mi_W d 112 37 [some (.ref l1), some (.ref l2), some (.int l3), some (.int (((g10 i10) * 4) + (g19 i19)))] [] (n, sl, f) Q) : mi_W d 112 17 [some (.ref l1), some (.ref l2), some (.int l3), o4] [] (n, sl, f) Q := by
  refine w_aload_n cd_112_17 rfl ?_
  refine w_getfield cd_112_18 (show mt_f 5 30 = some (8, 3) by decide +kernel) h6 h7 h9 ?_
  refine w_iload_n cd_112_21 rfl ?_
  refine w_iaload cd_112_22 h11 h12 h13 ?_
  refine w_iconst (v := 4) cd_112_23 (by decide) ?_
  refine w_imul cd_112_24 ?_
  refine w_aload_n cd_112_25 rfl ?_
  refine w_getfield cd_112_26 (show mt_f 5 34 = some (8, 4) by decide +kernel) h15 h16 h18 ?_
  refine w_iload_n cd_112_29 rfl ?_
  refine w_iaload cd_112_30 h20 h21 h22 ?_
  refine w_iadd cd_112_31 ?_
  refine w_istore_n (ls' := [some (.ref l1), some (.ref l2), some (.int l3), some (.int (((g10 i10) * 4) + (g19 i19)))]) cd_112_32 (Nat.le_of_ble_eq_true rfl) rfl ?_
  refine w_iload_n cd_112_33 rfl ?_
  exact w_iflt cd_112_34 (by decide) h23 h24
theorem b_112_37 {d : Nat} {Q : (Option Value ⊕ Nat) → mi_H → Prop} (n sl : Nat) (f : Nat → mi_C) {l1 : Nat} {l2 : Nat} {l3 : Int32} {l4 : Int32} (h5 : 32 ≤ l4 → mi_W d 112 63 [some (.ref l1), some (.ref l2), some (.int l3), some (.int l4)] [] (n, sl, f) Q) (h6 : ¬ (32 ≤ l4) → mi_W d 112 43 [some (.ref l1), some (.ref l2), some (.int l3), some (.int l4)] [] (n, sl, f) Q) : mi_W d 112 37 [some (.ref l1), some (.ref l2), some (.int l3), some (.int l4)] [] (n, sl, f) Q := by
  refine w_iload_n cd_112_37 rfl ?_
  refine w_bipush (v := 32) cd_112_38 (by decide) ?_
  exact w_if_icmpge cd_112_40 (by decide) h5 h6
theorem b_112_43 {d : Nat} {Q : (Option Value ⊕ Nat) → mi_H → Prop} (n sl : Nat) (f : Nat → mi_C) {l1 : Nat} {l2 : Nat} {l3 : Int32} {l4 : Int32} {fs5 : List Value} {x8 : Nat} (m10 i10 : Nat) (g10 : Nat → Int64) {fs14 : List Value} {x17 : Nat} (m19 i19 : Nat) (g19 : Nat → Int64) (h6 : f l1 = .inr (5, fs5)) (h7 : l1 < n) (h9 : fs5[1]? = some (.ref x8)) (h11 : f x8 = .inl (3, m10, .inr (.inl g10))) (h12 : x8 < n) (h13 : mi_ix l4 m10 i10) (h15 : f l2 = .inr (8, fs14)) (h16 : l2 < n) (h18 : fs14[5]? = some (.ref x17)) (h20 : f x17 = .inl (3, m19, .inr (.inl g19))) (h21 : x17 < n) (h22 : mi_ix l3 m19 i19) (h23 : (lg_cmp (g10 i10) (4611686018427387904 - (g19 i19))) ≤ (0 : Int32) → mi_W d 112 65 [some (.ref l1), some (.ref l2), some (.int l3), some (.int l4)] [] (n, sl, f) Q) (h24 : ¬ ((lg_cmp (g10 i10) (4611686018427387904 - (g19 i19))) ≤ (0 : Int32)) → mi_W d 112 63 [some (.ref l1), some (.ref l2), some (.int l3), some (.int l4)] [] (n, sl, f) Q) : mi_W d 112 43 [some (.ref l1), some (.ref l2), some (.int l3), some (.int l4)] [] (n, sl, f) Q := by
  refine w_aload_n cd_112_43 rfl ?_
  refine w_getfield cd_112_44 (show mt_f 5 15 = some (5, 1) by decide +kernel) h6 h7 h9 ?_
  refine w_iload_n cd_112_47 rfl ?_
  refine w_laload cd_112_48 h11 h12 h13 ?_
  refine w_ldc2_w (lv := 4611686018427387904) cd_112_49 (by decide +kernel) ?_
  refine w_aload_n cd_112_52 rfl ?_
  refine w_getfield cd_112_53 (show mt_f 5 39 = some (8, 5) by decide +kernel) h15 h16 h18 ?_
  refine w_iload_n cd_112_56 rfl ?_
  refine w_laload cd_112_57 h20 h21 h22 ?_
  refine w_lsub cd_112_58 ?_
  refine w_lcmp cd_112_59 ?_
  exact w_ifle cd_112_60 (by decide) h23 h24
theorem b_112_63 {d : Nat} {Q : (Option Value ⊕ Nat) → mi_H → Prop} (n sl : Nat) (f : Nat → mi_C) {l1 : Nat} {l2 : Nat} {l3 : Int32} {l4 : Int32} (h5 : Q (.inl (some (.int 0))) (n, sl, f)) : mi_W d 112 63 [some (.ref l1), some (.ref l2), some (.int l3), some (.int l4)] [] (n, sl, f) Q := by
  refine w_iconst (v := 0) cd_112_63 (by decide) ?_
  exact w_ireturn_z cd_112_64 (by decide +kernel) (by decide) h5
theorem b_112_65 {d : Nat} {Q : (Option Value ⊕ Nat) → mi_H → Prop} (n sl : Nat) (f : Nat → mi_C) {l1 : Nat} {l2 : Nat} {l3 : Int32} {l4 : Int32} {fs5 : List Value} {x8 : Nat} (m10 i10 : Nat) (g10 : Nat → Int64) {fs14 : List Value} {x17 : Nat} (m19 i19 : Nat) (g19 : Nat → Int64) (m23 i23 : Nat) (g23 : Nat → Int64) (h6 : f l1 = .inr (5, fs5)) (h7 : l1 < n) (h9 : fs5[1]? = some (.ref x8)) (h11 : f x8 = .inl (3, m10, .inr (.inl g10))) (h12 : x8 < n) (h13 : mi_ix l4 m10 i10) (h15 : f l2 = .inr (8, fs14)) (h16 : l2 < n) (h18 : fs14[5]? = some (.ref x17)) (h20 : f x17 = .inl (3, m19, .inr (.inl g19))) (h21 : x17 < n) (h22 : mi_ix l3 m19 i19) (h24 : f x8 = .inl (3, m23, .inr (.inl g23))) (h25 : x8 < n) (h26 : mi_ix l4 m23 i23) (h27 : mi_W d 112 2 [some (.ref l1), some (.ref l2), some (.int (l3 + 1)), some (.int l4)] [] (n, sl, (va_up f x8 (.inl (3, m23, .inr (.inl (vp_updL g23 i23 ((g10 i10) + (g19 i19)))))))) Q) : mi_W d 112 65 [some (.ref l1), some (.ref l2), some (.int l3), some (.int l4)] [] (n, sl, f) Q := by
  refine w_aload_n cd_112_65 rfl ?_
  refine w_getfield cd_112_66 (show mt_f 5 15 = some (5, 1) by decide +kernel) h6 h7 h9 ?_
  refine w_iload_n cd_112_69 rfl ?_
  refine w_dup2_ir cd_112_70 ?_
  refine w_laload cd_112_71 h11 h12 h13 ?_
  refine w_aload_n cd_112_72 rfl ?_
  refine w_getfield cd_112_73 (show mt_f 5 39 = some (8, 5) by decide +kernel) h15 h16 h18 ?_
  refine w_iload_n cd_112_76 rfl ?_
  refine w_laload cd_112_77 h20 h21 h22 ?_
  refine w_ladd cd_112_78 ?_
  refine w_lastore cd_112_79 h24 h25 h26 ?_
  refine w_iinc (v := 1) (ls' := [some (.ref l1), some (.ref l2), some (.int (l3 + 1)), some (.int l4)]) cd_112_80 rfl (by decide) rfl ?_
  exact w_goto cd_112_83 (by decide) h27
theorem b_112_86 {d : Nat} {Q : (Option Value ⊕ Nat) → mi_H → Prop} (n sl : Nat) (f : Nat → mi_C) {l1 : Nat} {l2 : Nat} {l3 : Int32} {o4 : Option Value} {fs5 : List Value} {x8 : Nat} {fs10 : List Value} {x13 : Nat} (m15 k15 : Nat) (g15 e15 : Nat → Int64) (h6 : f l1 = .inr (5, fs5)) (h7 : l1 < n) (h9 : fs5[1]? = some (.ref x8)) (h11 : f l1 = .inr (5, fs10)) (h12 : l1 < n) (h14 : fs10[0]? = some (.ref x13)) (h16 : f x8 = .inl (3, m15, .inr (.inl g15))) (h17 : x8 < n) (h18 : f x13 = .inl (3, k15, .inr (.inl e15))) (h19 : x13 < n) (h20 : ¬ (0 : Int32) < 0 ∧ ¬ (0 : Int32) < 0 ∧ ¬ (32 : Int32) < 0 ∧ (0 : Int32).toNatClampNeg + (32 : Int32).toNatClampNeg ≤ m15 ∧ (0 : Int32).toNatClampNeg + (32 : Int32).toNatClampNeg ≤ k15) (h21 : Q (.inl (some (.int 1))) (n, sl, (va_up f x13 (.inl (3, k15, .inr (.inl (va_cpy g15 e15 (0 : Int32).toNatClampNeg (0 : Int32).toNatClampNeg (32 : Int32).toNatClampNeg))))))) : mi_W d 112 86 [some (.ref l1), some (.ref l2), some (.int l3), o4] [] (n, sl, f) Q := by
  refine w_aload_n cd_112_86 rfl ?_
  refine w_getfield cd_112_87 (show mt_f 5 15 = some (5, 1) by decide +kernel) h6 h7 h9 ?_
  refine w_iconst (v := 0) cd_112_90 (by decide) ?_
  refine w_aload_n cd_112_91 rfl ?_
  refine w_getfield cd_112_92 (show mt_f 5 9 = some (5, 0) by decide +kernel) h11 h12 h14 ?_
  refine w_iconst (v := 0) cd_112_95 (by decide) ?_
  refine w_bipush (v := 32) cd_112_96 (by decide) ?_
  refine w_arraycopy cd_112_98 (by decide) h16 h17 h18 h19 (Nat.le_of_ble_eq_true rfl) h20 ?_
  refine w_iconst (v := 1) cd_112_101 (by decide) ?_
  exact w_ireturn_z cd_112_102 (by decide +kernel) (by decide) h21
/-! MarloweHostLaw.told(LMarloweHost;II[J)I -/
set_option maxRecDepth 100000 in
theorem mq_113 : mt_q 113 = my_113 := rfl
set_option maxRecDepth 100000 in
theorem ci_113 : mt_inc 0 my_113.cd = true := by decide +kernel
theorem cd_113_0 : mt_cd 113 0 = some (.aload_n 3) := mt_cd_of (q := (0, .aload_n 3, 1)) mq_113 ci_113 (List.mem_of_getElem? (i := 0) rfl)
theorem cd_113_1 : mt_cd 113 1 = some (.iconst 0) := mt_cd_of (q := (1, .iconst 0, 1)) mq_113 ci_113 (List.mem_of_getElem? (i := 1) rfl)
theorem cd_113_2 : mt_cd 113 2 = some (.aload_n 0) := mt_cd_of (q := (2, .aload_n 0, 1)) mq_113 ci_113 (List.mem_of_getElem? (i := 2) rfl)
theorem cd_113_3 : mt_cd 113 3 = some (.iload_n 1) := mt_cd_of (q := (3, .iload_n 1, 1)) mq_113 ci_113 (List.mem_of_getElem? (i := 3) rfl)
theorem cd_113_4 : mt_cd 113 4 = some (.iload_n 2) := mt_cd_of (q := (4, .iload_n 2, 1)) mq_113 ci_113 (List.mem_of_getElem? (i := 4) rfl)
theorem cd_113_5 : mt_cd 113 5 = some (.invokevirtual 43) := mt_cd_of (q := (5, .invokevirtual 43, 3)) mq_113 ci_113 (List.mem_of_getElem? (i := 5) rfl)
theorem cd_113_8 : mt_cd 113 8 = some (.i2l) := mt_cd_of (q := (8, .i2l, 1)) mq_113 ci_113 (List.mem_of_getElem? (i := 6) rfl)
theorem cd_113_9 : mt_cd 113 9 = some (.lastore) := mt_cd_of (q := (9, .lastore, 1)) mq_113 ci_113 (List.mem_of_getElem? (i := 7) rfl)
theorem cd_113_10 : mt_cd 113 10 = some (.goto 11) := mt_cd_of (q := (10, .goto 11, 3)) mq_113 ci_113 (List.mem_of_getElem? (i := 8) rfl)
theorem cd_113_13 : mt_cd 113 13 = some (.astore 4) := mt_cd_of (q := (13, .astore 4, 2)) mq_113 ci_113 (List.mem_of_getElem? (i := 9) rfl)
theorem cd_113_15 : mt_cd 113 15 = some (.iconst 1) := mt_cd_of (q := (15, .iconst 1, 1)) mq_113 ci_113 (List.mem_of_getElem? (i := 10) rfl)
theorem cd_113_16 : mt_cd 113 16 = some (.ireturn) := mt_cd_of (q := (16, .ireturn, 1)) mq_113 ci_113 (List.mem_of_getElem? (i := 11) rfl)
theorem cd_113_17 : mt_cd 113 17 = some (.astore 4) := mt_cd_of (q := (17, .astore 4, 2)) mq_113 ci_113 (List.mem_of_getElem? (i := 12) rfl)
theorem cd_113_19 : mt_cd 113 19 = some (.iconst 2) := mt_cd_of (q := (19, .iconst 2, 1)) mq_113 ci_113 (List.mem_of_getElem? (i := 13) rfl)
theorem cd_113_20 : mt_cd 113 20 = some (.ireturn) := mt_cd_of (q := (20, .ireturn, 1)) mq_113 ci_113 (List.mem_of_getElem? (i := 14) rfl)
theorem cd_113_21 : mt_cd 113 21 = some (.iconst 0) := mt_cd_of (q := (21, .iconst 0, 1)) mq_113 ci_113 (List.mem_of_getElem? (i := 15) rfl)
theorem cd_113_22 : mt_cd 113 22 = some (.ireturn) := mt_cd_of (q := (22, .ireturn, 1)) mq_113 ci_113 (List.mem_of_getElem? (i := 16) rfl)
theorem b_113_0 {d : Nat} {Q : (Option Value ⊕ Nat) → mi_H → Prop} (n sl : Nat) (f : Nat → mi_C) {l1 : Nat} {l2 : Int32} {l3 : Int32} {l4 : Nat} {o5 : Option Value} {fs6 : List Value} (h7 : f l1 = .inr (0, fs6)) (h8 : l1 < n) (h9 : mi_W d 114 0 (mi_en 4 [.ref l1, .int l2, .int l3]) [] (n, sl, f) (mi_Kc d 113 5 [some (.ref l1), some (.int l2), some (.int l3), some (.ref l4), o5] [.int 0, .ref l4] Q)) : mi_W (d + 1) 113 0 [some (.ref l1), some (.int l2), some (.int l3), some (.ref l4), o5] [] (n, sl, f) Q := by
  refine w_aload_n cd_113_0 rfl ?_
  refine w_iconst (v := 0) cd_113_1 (by decide) ?_
  refine w_aload_n cd_113_2 rfl ?_
  refine w_iload_n cd_113_3 rfl ?_
  refine w_iload_n cd_113_4 rfl ?_
  exact w_invokevirtual cd_113_5 (show mt_m 18 43 = some (114, 0) by decide +kernel) (rest := [.int 0, .ref l4]) rfl (as := [.ref l1, .int l2, .int l3]) rfl h7 (Or.inl h8) ⟨Nat.le_of_ble_eq_true rfl, Nat.le_of_ble_eq_true rfl, Nat.le_of_ble_eq_true rfl⟩ h9
theorem b_113_8 {d : Nat} {Q : (Option Value ⊕ Nat) → mi_H → Prop} (n sl : Nat) (f : Nat → mi_C) {l1 : Nat} {l2 : Int32} {l3 : Int32} {l4 : Nat} {o5 : Option Value} {s6 : Int32} {s7 : Int32} {s8 : Nat} (m9 i9 : Nat) (g9 : Nat → Int64) (h10 : f s8 = .inl (3, m9, .inr (.inl g9))) (h11 : s8 < n) (h12 : mi_ix s7 m9 i9) (h13 : mi_W d 113 21 [some (.ref l1), some (.int l2), some (.int l3), some (.ref l4), o5] [] (n, sl, (va_up f s8 (.inl (3, m9, .inr (.inl (vp_updL g9 i9 ((s6 : Int32).toInt64))))))) Q) : mi_W d 113 8 [some (.ref l1), some (.int l2), some (.int l3), some (.ref l4), o5] [.int s6, .int s7, .ref s8] (n, sl, f) Q := by
  refine w_i2l cd_113_8 ?_
  refine w_lastore cd_113_9 h10 h11 h12 ?_
  exact w_goto cd_113_10 (by decide) h13
theorem b_113_13 {d : Nat} {Q : (Option Value ⊕ Nat) → mi_H → Prop} (n sl : Nat) (f : Nat → mi_C) {l1 : Nat} {l2 : Int32} {l3 : Int32} {l4 : Nat} {o5 : Option Value} {s6 : Nat} (h7 : Q (.inl (some (.int 1))) (n, sl, f)) : mi_W d 113 13 [some (.ref l1), some (.int l2), some (.int l3), some (.ref l4), o5] [.ref s6] (n, sl, f) Q := by
  refine w_astore (ls' := [some (.ref l1), some (.int l2), some (.int l3), some (.ref l4), some (.ref s6)]) cd_113_13 (Nat.le_of_ble_eq_true rfl) rfl ?_
  refine w_iconst (v := 1) cd_113_15 (by decide) ?_
  exact w_ireturn_i cd_113_16 (by decide +kernel) h7
theorem b_113_17 {d : Nat} {Q : (Option Value ⊕ Nat) → mi_H → Prop} (n sl : Nat) (f : Nat → mi_C) {l1 : Nat} {l2 : Int32} {l3 : Int32} {l4 : Nat} {o5 : Option Value} {s6 : Nat} (h7 : Q (.inl (some (.int 2))) (n, sl, f)) : mi_W d 113 17 [some (.ref l1), some (.int l2), some (.int l3), some (.ref l4), o5] [.ref s6] (n, sl, f) Q := by
  refine w_astore (ls' := [some (.ref l1), some (.int l2), some (.int l3), some (.ref l4), some (.ref s6)]) cd_113_17 (Nat.le_of_ble_eq_true rfl) rfl ?_
  refine w_iconst (v := 2) cd_113_19 (by decide) ?_
  exact w_ireturn_i cd_113_20 (by decide +kernel) h7
theorem b_113_21 {d : Nat} {Q : (Option Value ⊕ Nat) → mi_H → Prop} (n sl : Nat) (f : Nat → mi_C) {l1 : Nat} {l2 : Int32} {l3 : Int32} {l4 : Nat} {o5 : Option Value} (h6 : Q (.inl (some (.int 0))) (n, sl, f)) : mi_W d 113 21 [some (.ref l1), some (.int l2), some (.int l3), some (.ref l4), o5] [] (n, sl, f) Q := by
  refine w_iconst (v := 0) cd_113_21 (by decide) ?_
  exact w_ireturn_i cd_113_22 (by decide +kernel) h6
/-! MarloweHost.told(II)I -/
set_option maxRecDepth 100000 in
theorem mq_114 : mt_q 114 = my_114 := rfl
set_option maxRecDepth 100000 in
theorem ci_114 : mt_inc 0 my_114.cd = true := by decide +kernel
theorem cd_114_0 : mt_cd 114 0 = some (.iload_n 1) := mt_cd_of (q := (0, .iload_n 1, 1)) mq_114 ci_114 (List.mem_of_getElem? (i := 0) rfl)
theorem cd_114_1 : mt_cd 114 1 = some (.ifCond .lt 8) := mt_cd_of (q := (1, .ifCond .lt 8, 3)) mq_114 ci_114 (List.mem_of_getElem? (i := 1) rfl)
theorem cd_114_4 : mt_cd 114 4 = some (.iload_n 1) := mt_cd_of (q := (4, .iload_n 1, 1)) mq_114 ci_114 (List.mem_of_getElem? (i := 2) rfl)
theorem cd_114_5 : mt_cd 114 5 = some (.iconst 4) := mt_cd_of (q := (5, .iconst 4, 1)) mq_114 ci_114 (List.mem_of_getElem? (i := 3) rfl)
theorem cd_114_6 : mt_cd 114 6 = some (.if_icmp .le 13) := mt_cd_of (q := (6, .if_icmp .le 13, 3)) mq_114 ci_114 (List.mem_of_getElem? (i := 4) rfl)
theorem cd_114_9 : mt_cd 114 9 = some (.new 123) := mt_cd_of (q := (9, .new 123, 3)) mq_114 ci_114 (List.mem_of_getElem? (i := 5) rfl)
theorem cd_114_12 : mt_cd 114 12 = some (.dup) := mt_cd_of (q := (12, .dup, 1)) mq_114 ci_114 (List.mem_of_getElem? (i := 6) rfl)
theorem cd_114_13 : mt_cd 114 13 = some (.ldc 154) := mt_cd_of (q := (13, .ldc 154, 2)) mq_114 ci_114 (List.mem_of_getElem? (i := 7) rfl)
theorem cd_114_15 : mt_cd 114 15 = some (.invokespecial 127) := mt_cd_of (q := (15, .invokespecial 127, 3)) mq_114 ci_114 (List.mem_of_getElem? (i := 8) rfl)
theorem cd_114_18 : mt_cd 114 18 = some (.athrow) := mt_cd_of (q := (18, .athrow, 1)) mq_114 ci_114 (List.mem_of_getElem? (i := 9) rfl)
theorem cd_114_19 : mt_cd 114 19 = some (.aload_n 0) := mt_cd_of (q := (19, .aload_n 0, 1)) mq_114 ci_114 (List.mem_of_getElem? (i := 10) rfl)
theorem cd_114_20 : mt_cd 114 20 = some (.getfield 51) := mt_cd_of (q := (20, .getfield 51, 3)) mq_114 ci_114 (List.mem_of_getElem? (i := 11) rfl)
theorem cd_114_23 : mt_cd 114 23 = some (.getfield 156) := mt_cd_of (q := (23, .getfield 156, 3)) mq_114 ci_114 (List.mem_of_getElem? (i := 12) rfl)
theorem cd_114_26 : mt_cd 114 26 = some (.astore_n 3) := mt_cd_of (q := (26, .astore_n 3, 1)) mq_114 ci_114 (List.mem_of_getElem? (i := 13) rfl)
theorem cd_114_27 : mt_cd 114 27 = some (.iload_n 2) := mt_cd_of (q := (27, .iload_n 2, 1)) mq_114 ci_114 (List.mem_of_getElem? (i := 14) rfl)
theorem cd_114_28 : mt_cd 114 28 = some (.ifCond .lt 23) := mt_cd_of (q := (28, .ifCond .lt 23, 3)) mq_114 ci_114 (List.mem_of_getElem? (i := 15) rfl)
theorem cd_114_31 : mt_cd 114 31 = some (.iload_n 2) := mt_cd_of (q := (31, .iload_n 2, 1)) mq_114 ci_114 (List.mem_of_getElem? (i := 16) rfl)
theorem cd_114_32 : mt_cd 114 32 = some (.iload_n 1) := mt_cd_of (q := (32, .iload_n 1, 1)) mq_114 ci_114 (List.mem_of_getElem? (i := 17) rfl)
theorem cd_114_33 : mt_cd 114 33 = some (.iconst 1) := mt_cd_of (q := (33, .iconst 1, 1)) mq_114 ci_114 (List.mem_of_getElem? (i := 18) rfl)
theorem cd_114_34 : mt_cd 114 34 = some (.if_icmp .gt 10) := mt_cd_of (q := (34, .if_icmp .gt 10, 3)) mq_114 ci_114 (List.mem_of_getElem? (i := 19) rfl)
theorem cd_114_37 : mt_cd 114 37 = some (.aload_n 3) := mt_cd_of (q := (37, .aload_n 3, 1)) mq_114 ci_114 (List.mem_of_getElem? (i := 20) rfl)
theorem cd_114_38 : mt_cd 114 38 = some (.getfield 160) := mt_cd_of (q := (38, .getfield 160, 3)) mq_114 ci_114 (List.mem_of_getElem? (i := 21) rfl)
theorem cd_114_41 : mt_cd 114 41 = some (.goto 7) := mt_cd_of (q := (41, .goto 7, 3)) mq_114 ci_114 (List.mem_of_getElem? (i := 22) rfl)
theorem cd_114_44 : mt_cd 114 44 = some (.aload_n 3) := mt_cd_of (q := (44, .aload_n 3, 1)) mq_114 ci_114 (List.mem_of_getElem? (i := 23) rfl)
theorem cd_114_45 : mt_cd 114 45 = some (.getfield 165) := mt_cd_of (q := (45, .getfield 165, 3)) mq_114 ci_114 (List.mem_of_getElem? (i := 24) rfl)
theorem cd_114_48 : mt_cd 114 48 = some (.if_icmp .lt 13) := mt_cd_of (q := (48, .if_icmp .lt 13, 3)) mq_114 ci_114 (List.mem_of_getElem? (i := 25) rfl)
theorem cd_114_51 : mt_cd 114 51 = some (.new 78) := mt_cd_of (q := (51, .new 78, 3)) mq_114 ci_114 (List.mem_of_getElem? (i := 26) rfl)
theorem cd_114_54 : mt_cd 114 54 = some (.dup) := mt_cd_of (q := (54, .dup, 1)) mq_114 ci_114 (List.mem_of_getElem? (i := 27) rfl)
theorem cd_114_55 : mt_cd 114 55 = some (.ldc 168) := mt_cd_of (q := (55, .ldc 168, 2)) mq_114 ci_114 (List.mem_of_getElem? (i := 28) rfl)
theorem cd_114_57 : mt_cd 114 57 = some (.invokespecial 82) := mt_cd_of (q := (57, .invokespecial 82, 3)) mq_114 ci_114 (List.mem_of_getElem? (i := 29) rfl)
theorem cd_114_60 : mt_cd 114 60 = some (.athrow) := mt_cd_of (q := (60, .athrow, 1)) mq_114 ci_114 (List.mem_of_getElem? (i := 30) rfl)
theorem cd_114_61 : mt_cd 114 61 = some (.iload_n 1) := mt_cd_of (q := (61, .iload_n 1, 1)) mq_114 ci_114 (List.mem_of_getElem? (i := 31) rfl)
theorem cd_114_62 : mt_cd 114 62 = some (.tableswitch 58 0 3 #[30, 37, 44, 51]) := mt_cd_of (q := (62, .tableswitch 58 0 3 #[30, 37, 44, 51], 30)) mq_114 ci_114 (List.mem_of_getElem? (i := 32) rfl)
theorem cd_114_92 : mt_cd 114 92 = some (.aload_n 3) := mt_cd_of (q := (92, .aload_n 3, 1)) mq_114 ci_114 (List.mem_of_getElem? (i := 33) rfl)
theorem cd_114_93 : mt_cd 114 93 = some (.getfield 170) := mt_cd_of (q := (93, .getfield 170, 3)) mq_114 ci_114 (List.mem_of_getElem? (i := 34) rfl)
theorem cd_114_96 : mt_cd 114 96 = some (.iload_n 2) := mt_cd_of (q := (96, .iload_n 2, 1)) mq_114 ci_114 (List.mem_of_getElem? (i := 35) rfl)
theorem cd_114_97 : mt_cd 114 97 = some (.iaload) := mt_cd_of (q := (97, .iaload, 1)) mq_114 ci_114 (List.mem_of_getElem? (i := 36) rfl)
theorem cd_114_98 : mt_cd 114 98 = some (.ireturn) := mt_cd_of (q := (98, .ireturn, 1)) mq_114 ci_114 (List.mem_of_getElem? (i := 37) rfl)
theorem cd_114_99 : mt_cd 114 99 = some (.aload_n 3) := mt_cd_of (q := (99, .aload_n 3, 1)) mq_114 ci_114 (List.mem_of_getElem? (i := 38) rfl)
theorem cd_114_100 : mt_cd 114 100 = some (.getfield 174) := mt_cd_of (q := (100, .getfield 174, 3)) mq_114 ci_114 (List.mem_of_getElem? (i := 39) rfl)
theorem cd_114_103 : mt_cd 114 103 = some (.iload_n 2) := mt_cd_of (q := (103, .iload_n 2, 1)) mq_114 ci_114 (List.mem_of_getElem? (i := 40) rfl)
theorem cd_114_104 : mt_cd 114 104 = some (.iaload) := mt_cd_of (q := (104, .iaload, 1)) mq_114 ci_114 (List.mem_of_getElem? (i := 41) rfl)
theorem cd_114_105 : mt_cd 114 105 = some (.ireturn) := mt_cd_of (q := (105, .ireturn, 1)) mq_114 ci_114 (List.mem_of_getElem? (i := 42) rfl)
theorem cd_114_106 : mt_cd 114 106 = some (.aload_n 3) := mt_cd_of (q := (106, .aload_n 3, 1)) mq_114 ci_114 (List.mem_of_getElem? (i := 43) rfl)
theorem cd_114_107 : mt_cd 114 107 = some (.getfield 177) := mt_cd_of (q := (107, .getfield 177, 3)) mq_114 ci_114 (List.mem_of_getElem? (i := 44) rfl)
theorem cd_114_110 : mt_cd 114 110 = some (.iload_n 2) := mt_cd_of (q := (110, .iload_n 2, 1)) mq_114 ci_114 (List.mem_of_getElem? (i := 45) rfl)
theorem cd_114_111 : mt_cd 114 111 = some (.iaload) := mt_cd_of (q := (111, .iaload, 1)) mq_114 ci_114 (List.mem_of_getElem? (i := 46) rfl)
theorem cd_114_112 : mt_cd 114 112 = some (.ireturn) := mt_cd_of (q := (112, .ireturn, 1)) mq_114 ci_114 (List.mem_of_getElem? (i := 47) rfl)
theorem cd_114_113 : mt_cd 114 113 = some (.aload_n 3) := mt_cd_of (q := (113, .aload_n 3, 1)) mq_114 ci_114 (List.mem_of_getElem? (i := 48) rfl)
theorem cd_114_114 : mt_cd 114 114 = some (.getfield 180) := mt_cd_of (q := (114, .getfield 180, 3)) mq_114 ci_114 (List.mem_of_getElem? (i := 49) rfl)
theorem cd_114_117 : mt_cd 114 117 = some (.iload_n 2) := mt_cd_of (q := (117, .iload_n 2, 1)) mq_114 ci_114 (List.mem_of_getElem? (i := 50) rfl)
theorem cd_114_118 : mt_cd 114 118 = some (.iaload) := mt_cd_of (q := (118, .iaload, 1)) mq_114 ci_114 (List.mem_of_getElem? (i := 51) rfl)
theorem cd_114_119 : mt_cd 114 119 = some (.ireturn) := mt_cd_of (q := (119, .ireturn, 1)) mq_114 ci_114 (List.mem_of_getElem? (i := 52) rfl)
theorem cd_114_120 : mt_cd 114 120 = some (.aload_n 3) := mt_cd_of (q := (120, .aload_n 3, 1)) mq_114 ci_114 (List.mem_of_getElem? (i := 53) rfl)
theorem cd_114_121 : mt_cd 114 121 = some (.getfield 183) := mt_cd_of (q := (121, .getfield 183, 3)) mq_114 ci_114 (List.mem_of_getElem? (i := 54) rfl)
theorem cd_114_124 : mt_cd 114 124 = some (.iload_n 2) := mt_cd_of (q := (124, .iload_n 2, 1)) mq_114 ci_114 (List.mem_of_getElem? (i := 55) rfl)
theorem cd_114_125 : mt_cd 114 125 = some (.iaload) := mt_cd_of (q := (125, .iaload, 1)) mq_114 ci_114 (List.mem_of_getElem? (i := 56) rfl)
theorem cd_114_126 : mt_cd 114 126 = some (.ireturn) := mt_cd_of (q := (126, .ireturn, 1)) mq_114 ci_114 (List.mem_of_getElem? (i := 57) rfl)
theorem b_114_0 {d : Nat} {Q : (Option Value ⊕ Nat) → mi_H → Prop} (n sl : Nat) (f : Nat → mi_C) {l1 : Nat} {l2 : Int32} {l3 : Int32} {o4 : Option Value} (h5 : l2 < (0 : Int32) → mi_W d 114 9 [some (.ref l1), some (.int l2), some (.int l3), o4] [] (n, sl, f) Q) (h6 : ¬ (l2 < (0 : Int32)) → mi_W d 114 4 [some (.ref l1), some (.int l2), some (.int l3), o4] [] (n, sl, f) Q) : mi_W d 114 0 [some (.ref l1), some (.int l2), some (.int l3), o4] [] (n, sl, f) Q := by
  refine w_iload_n cd_114_0 rfl ?_
  exact w_iflt cd_114_1 (by decide) h5 h6
theorem b_114_4 {d : Nat} {Q : (Option Value ⊕ Nat) → mi_H → Prop} (n sl : Nat) (f : Nat → mi_C) {l1 : Nat} {l2 : Int32} {l3 : Int32} {o4 : Option Value} (h5 : l2 ≤ 4 → mi_W d 114 19 [some (.ref l1), some (.int l2), some (.int l3), o4] [] (n, sl, f) Q) (h6 : ¬ (l2 ≤ 4) → mi_W d 114 9 [some (.ref l1), some (.int l2), some (.int l3), o4] [] (n, sl, f) Q) : mi_W d 114 4 [some (.ref l1), some (.int l2), some (.int l3), o4] [] (n, sl, f) Q := by
  refine w_iload_n cd_114_4 rfl ?_
  refine w_iconst (v := 4) cd_114_5 (by decide) ?_
  exact w_if_icmple cd_114_6 (by decide) h5 h6
theorem b_114_9 {d : Nat} {Q : (Option Value ⊕ Nat) → mi_H → Prop} (n sl : Nat) (f : Nat → mi_C) {l1 : Nat} {l2 : Int32} {l3 : Int32} {o4 : Option Value} {h' : mi_H} (h5 : mi_t 114 9 (.new 123) [] (n, sl, f) = some h') (h6 : Q (.inr n) h') : mi_W d 114 9 [some (.ref l1), some (.int l2), some (.int l3), o4] [] (n, sl, f) Q := by
  exact w_throw cd_114_9 (show mt_c 0 123 = some 15 by decide +kernel) (by decide) h5 h6
theorem b_114_19 {d : Nat} {Q : (Option Value ⊕ Nat) → mi_H → Prop} (n sl : Nat) (f : Nat → mi_C) {l1 : Nat} {l2 : Int32} {l3 : Int32} {o4 : Option Value} {fs5 : List Value} {x8 : Nat} {fs10 : List Value} {x13 : Nat} (h6 : f l1 = .inr (0, fs5)) (h7 : l1 < n) (h9 : fs5[5]? = some (.ref x8)) (h11 : f x8 = .inr (7, fs10)) (h12 : x8 < n) (h14 : fs10[7]? = some (.ref x13)) (h15 : l3 < (0 : Int32) → mi_W d 114 51 [some (.ref l1), some (.int l2), some (.int l3), some (.ref x13)] [] (n, sl, f) Q) (h16 : ¬ (l3 < (0 : Int32)) → mi_W d 114 31 [some (.ref l1), some (.int l2), some (.int l3), some (.ref x13)] [] (n, sl, f) Q) : mi_W d 114 19 [some (.ref l1), some (.int l2), some (.int l3), o4] [] (n, sl, f) Q := by
  refine w_aload_n cd_114_19 rfl ?_
  refine w_getfield cd_114_20 (show mt_f 0 51 = some (0, 5) by decide +kernel) h6 h7 h9 ?_
  refine w_getfield cd_114_23 (show mt_f 0 156 = some (7, 7) by decide +kernel) h11 h12 h14 ?_
  refine w_astore_n (ls' := [some (.ref l1), some (.int l2), some (.int l3), some (.ref x13)]) cd_114_26 (Nat.le_of_ble_eq_true rfl) rfl ?_
  refine w_iload_n cd_114_27 rfl ?_
  exact w_iflt cd_114_28 (by decide) h15 h16
theorem b_114_31 {d : Nat} {Q : (Option Value ⊕ Nat) → mi_H → Prop} (n sl : Nat) (f : Nat → mi_C) {l1 : Nat} {l2 : Int32} {l3 : Int32} {l4 : Nat} (h5 : 1 < l2 → mi_W d 114 44 [some (.ref l1), some (.int l2), some (.int l3), some (.ref l4)] [.int l3] (n, sl, f) Q) (h6 : ¬ (1 < l2) → mi_W d 114 37 [some (.ref l1), some (.int l2), some (.int l3), some (.ref l4)] [.int l3] (n, sl, f) Q) : mi_W d 114 31 [some (.ref l1), some (.int l2), some (.int l3), some (.ref l4)] [] (n, sl, f) Q := by
  refine w_iload_n cd_114_31 rfl ?_
  refine w_iload_n cd_114_32 rfl ?_
  refine w_iconst (v := 1) cd_114_33 (by decide) ?_
  exact w_if_icmpgt cd_114_34 (by decide) h5 h6
theorem b_114_37 {d : Nat} {Q : (Option Value ⊕ Nat) → mi_H → Prop} (n sl : Nat) (f : Nat → mi_C) {l1 : Nat} {l2 : Int32} {l3 : Int32} {l4 : Nat} {s5 : Int32} {fs6 : List Value} {x9 : Int32} (h7 : f l4 = .inr (8, fs6)) (h8 : l4 < n) (h10 : fs6[6]? = some (.int x9)) (h11 : mi_W d 114 48 [some (.ref l1), some (.int l2), some (.int l3), some (.ref l4)] [.int x9, .int s5] (n, sl, f) Q) : mi_W d 114 37 [some (.ref l1), some (.int l2), some (.int l3), some (.ref l4)] [.int s5] (n, sl, f) Q := by
  refine w_aload_n cd_114_37 rfl ?_
  refine w_getfield cd_114_38 (show mt_f 0 160 = some (8, 6) by decide +kernel) h7 h8 h10 ?_
  exact w_goto cd_114_41 (by decide) h11
theorem b_114_44 {d : Nat} {Q : (Option Value ⊕ Nat) → mi_H → Prop} (n sl : Nat) (f : Nat → mi_C) {l1 : Nat} {l2 : Int32} {l3 : Int32} {l4 : Nat} {s5 : Int32} {fs6 : List Value} {x9 : Int32} (h7 : f l4 = .inr (8, fs6)) (h8 : l4 < n) (h10 : fs6[7]? = some (.int x9)) (h11 : mi_W d 114 48 [some (.ref l1), some (.int l2), some (.int l3), some (.ref l4)] [.int x9, .int s5] (n, sl, f) Q) : mi_W d 114 44 [some (.ref l1), some (.int l2), some (.int l3), some (.ref l4)] [.int s5] (n, sl, f) Q := by
  refine w_aload_n cd_114_44 rfl ?_
  refine w_getfield cd_114_45 (show mt_f 0 165 = some (8, 7) by decide +kernel) h7 h8 h10 ?_
  exact h11
theorem b_114_48 {d : Nat} {Q : (Option Value ⊕ Nat) → mi_H → Prop} (n sl : Nat) (f : Nat → mi_C) {l1 : Nat} {l2 : Int32} {l3 : Int32} {l4 : Nat} {s5 : Int32} {s6 : Int32} (h7 : s6 < s5 → mi_W d 114 61 [some (.ref l1), some (.int l2), some (.int l3), some (.ref l4)] [] (n, sl, f) Q) (h8 : ¬ (s6 < s5) → mi_W d 114 51 [some (.ref l1), some (.int l2), some (.int l3), some (.ref l4)] [] (n, sl, f) Q) : mi_W d 114 48 [some (.ref l1), some (.int l2), some (.int l3), some (.ref l4)] [.int s5, .int s6] (n, sl, f) Q := by
  exact w_if_icmplt cd_114_48 (by decide) h7 h8
theorem b_114_51 {d : Nat} {Q : (Option Value ⊕ Nat) → mi_H → Prop} (n sl : Nat) (f : Nat → mi_C) {l1 : Nat} {l2 : Int32} {l3 : Int32} {l4 : Nat} {h' : mi_H} (h5 : mi_t 114 51 (.new 78) [] (n, sl, f) = some h') (h6 : Q (.inr n) h') : mi_W d 114 51 [some (.ref l1), some (.int l2), some (.int l3), some (.ref l4)] [] (n, sl, f) Q := by
  exact w_throw cd_114_51 (show mt_c 0 78 = some 14 by decide +kernel) (by decide) h5 h6
theorem b_114_61 {d : Nat} {Q : (Option Value ⊕ Nat) → mi_H → Prop} (n sl : Nat) (f : Nat → mi_C) {l1 : Nat} {l2 : Int32} {l3 : Int32} {l4 : Nat} {t5 : Nat} (h6 : mi_ts 62 58 0 3 #[30, 37, 44, 51] (l2 : Int32).toInt = some t5) (h7 : mi_W d 114 t5 [some (.ref l1), some (.int l2), some (.int l3), some (.ref l4)] [] (n, sl, f) Q) : mi_W d 114 61 [some (.ref l1), some (.int l2), some (.int l3), some (.ref l4)] [] (n, sl, f) Q := by
  refine w_iload_n cd_114_61 rfl ?_
  exact w_tableswitch cd_114_62 h6 h7
theorem b_114_92 {d : Nat} {Q : (Option Value ⊕ Nat) → mi_H → Prop} (n sl : Nat) (f : Nat → mi_C) {l1 : Nat} {l2 : Int32} {l3 : Int32} {l4 : Nat} {fs5 : List Value} {x8 : Nat} (m10 i10 : Nat) (g10 : Nat → Int32) (h6 : f l4 = .inr (8, fs5)) (h7 : l4 < n) (h9 : fs5[0]? = some (.ref x8)) (h11 : f x8 = .inl (0, m10, .inl g10)) (h12 : x8 < n ∨ x8 = mi_SC) (h13 : mi_ix l3 m10 i10) (h14 : Q (.inl (some (.int (g10 i10)))) (n, sl, f)) : mi_W d 114 92 [some (.ref l1), some (.int l2), some (.int l3), some (.ref l4)] [] (n, sl, f) Q := by
  refine w_aload_n cd_114_92 rfl ?_
  refine w_getfield cd_114_93 (show mt_f 0 170 = some (8, 0) by decide +kernel) h6 h7 h9 ?_
  refine w_iload_n cd_114_96 rfl ?_
  refine w_iaload cd_114_97 h11 h12 h13 ?_
  exact w_ireturn_i cd_114_98 (by decide +kernel) h14
theorem b_114_99 {d : Nat} {Q : (Option Value ⊕ Nat) → mi_H → Prop} (n sl : Nat) (f : Nat → mi_C) {l1 : Nat} {l2 : Int32} {l3 : Int32} {l4 : Nat} {fs5 : List Value} {x8 : Nat} (m10 i10 : Nat) (g10 : Nat → Int32) (h6 : f l4 = .inr (8, fs5)) (h7 : l4 < n) (h9 : fs5[1]? = some (.ref x8)) (h11 : f x8 = .inl (0, m10, .inl g10)) (h12 : x8 < n ∨ x8 = mi_SC) (h13 : mi_ix l3 m10 i10) (h14 : Q (.inl (some (.int (g10 i10)))) (n, sl, f)) : mi_W d 114 99 [some (.ref l1), some (.int l2), some (.int l3), some (.ref l4)] [] (n, sl, f) Q := by
  refine w_aload_n cd_114_99 rfl ?_
  refine w_getfield cd_114_100 (show mt_f 0 174 = some (8, 1) by decide +kernel) h6 h7 h9 ?_
  refine w_iload_n cd_114_103 rfl ?_
  refine w_iaload cd_114_104 h11 h12 h13 ?_
  exact w_ireturn_i cd_114_105 (by decide +kernel) h14
theorem b_114_106 {d : Nat} {Q : (Option Value ⊕ Nat) → mi_H → Prop} (n sl : Nat) (f : Nat → mi_C) {l1 : Nat} {l2 : Int32} {l3 : Int32} {l4 : Nat} {fs5 : List Value} {x8 : Nat} (m10 i10 : Nat) (g10 : Nat → Int32) (h6 : f l4 = .inr (8, fs5)) (h7 : l4 < n) (h9 : fs5[2]? = some (.ref x8)) (h11 : f x8 = .inl (0, m10, .inl g10)) (h12 : x8 < n ∨ x8 = mi_SC) (h13 : mi_ix l3 m10 i10) (h14 : Q (.inl (some (.int (g10 i10)))) (n, sl, f)) : mi_W d 114 106 [some (.ref l1), some (.int l2), some (.int l3), some (.ref l4)] [] (n, sl, f) Q := by
  refine w_aload_n cd_114_106 rfl ?_
  refine w_getfield cd_114_107 (show mt_f 0 177 = some (8, 2) by decide +kernel) h6 h7 h9 ?_
  refine w_iload_n cd_114_110 rfl ?_
  refine w_iaload cd_114_111 h11 h12 h13 ?_
  exact w_ireturn_i cd_114_112 (by decide +kernel) h14
theorem b_114_113 {d : Nat} {Q : (Option Value ⊕ Nat) → mi_H → Prop} (n sl : Nat) (f : Nat → mi_C) {l1 : Nat} {l2 : Int32} {l3 : Int32} {l4 : Nat} {fs5 : List Value} {x8 : Nat} (m10 i10 : Nat) (g10 : Nat → Int32) (h6 : f l4 = .inr (8, fs5)) (h7 : l4 < n) (h9 : fs5[3]? = some (.ref x8)) (h11 : f x8 = .inl (0, m10, .inl g10)) (h12 : x8 < n ∨ x8 = mi_SC) (h13 : mi_ix l3 m10 i10) (h14 : Q (.inl (some (.int (g10 i10)))) (n, sl, f)) : mi_W d 114 113 [some (.ref l1), some (.int l2), some (.int l3), some (.ref l4)] [] (n, sl, f) Q := by
  refine w_aload_n cd_114_113 rfl ?_
  refine w_getfield cd_114_114 (show mt_f 0 180 = some (8, 3) by decide +kernel) h6 h7 h9 ?_
  refine w_iload_n cd_114_117 rfl ?_
  refine w_iaload cd_114_118 h11 h12 h13 ?_
  exact w_ireturn_i cd_114_119 (by decide +kernel) h14
theorem b_114_120 {d : Nat} {Q : (Option Value ⊕ Nat) → mi_H → Prop} (n sl : Nat) (f : Nat → mi_C) {l1 : Nat} {l2 : Int32} {l3 : Int32} {l4 : Nat} {fs5 : List Value} {x8 : Nat} (m10 i10 : Nat) (g10 : Nat → Int32) (h6 : f l4 = .inr (8, fs5)) (h7 : l4 < n) (h9 : fs5[4]? = some (.ref x8)) (h11 : f x8 = .inl (0, m10, .inl g10)) (h12 : x8 < n ∨ x8 = mi_SC) (h13 : mi_ix l3 m10 i10) (h14 : Q (.inl (some (.int (g10 i10)))) (n, sl, f)) : mi_W d 114 120 [some (.ref l1), some (.int l2), some (.int l3), some (.ref l4)] [] (n, sl, f) Q := by
  refine w_aload_n cd_114_120 rfl ?_
  refine w_getfield cd_114_121 (show mt_f 0 183 = some (8, 4) by decide +kernel) h6 h7 h9 ?_
  refine w_iload_n cd_114_124 rfl ?_
  refine w_iaload cd_114_125 h11 h12 h13 ?_
  exact w_ireturn_i cd_114_126 (by decide +kernel) h14
/-! MarloweHostLaw.paid(LMarloweHost;I[J)I -/
set_option maxRecDepth 100000 in
theorem mq_115 : mt_q 115 = my_115 := rfl
set_option maxRecDepth 100000 in
theorem ci_115 : mt_inc 0 my_115.cd = true := by decide +kernel
theorem cd_115_0 : mt_cd 115 0 = some (.aload_n 2) := mt_cd_of (q := (0, .aload_n 2, 1)) mq_115 ci_115 (List.mem_of_getElem? (i := 0) rfl)
theorem cd_115_1 : mt_cd 115 1 = some (.iconst 0) := mt_cd_of (q := (1, .iconst 0, 1)) mq_115 ci_115 (List.mem_of_getElem? (i := 1) rfl)
theorem cd_115_2 : mt_cd 115 2 = some (.aload_n 0) := mt_cd_of (q := (2, .aload_n 0, 1)) mq_115 ci_115 (List.mem_of_getElem? (i := 2) rfl)
theorem cd_115_3 : mt_cd 115 3 = some (.iload_n 1) := mt_cd_of (q := (3, .iload_n 1, 1)) mq_115 ci_115 (List.mem_of_getElem? (i := 3) rfl)
theorem cd_115_4 : mt_cd 115 4 = some (.invokevirtual 47) := mt_cd_of (q := (4, .invokevirtual 47, 3)) mq_115 ci_115 (List.mem_of_getElem? (i := 4) rfl)
theorem cd_115_7 : mt_cd 115 7 = some (.lastore) := mt_cd_of (q := (7, .lastore, 1)) mq_115 ci_115 (List.mem_of_getElem? (i := 5) rfl)
theorem cd_115_8 : mt_cd 115 8 = some (.goto 6) := mt_cd_of (q := (8, .goto 6, 3)) mq_115 ci_115 (List.mem_of_getElem? (i := 6) rfl)
theorem cd_115_11 : mt_cd 115 11 = some (.astore_n 3) := mt_cd_of (q := (11, .astore_n 3, 1)) mq_115 ci_115 (List.mem_of_getElem? (i := 7) rfl)
theorem cd_115_12 : mt_cd 115 12 = some (.iconst 1) := mt_cd_of (q := (12, .iconst 1, 1)) mq_115 ci_115 (List.mem_of_getElem? (i := 8) rfl)
theorem cd_115_13 : mt_cd 115 13 = some (.ireturn) := mt_cd_of (q := (13, .ireturn, 1)) mq_115 ci_115 (List.mem_of_getElem? (i := 9) rfl)
theorem cd_115_14 : mt_cd 115 14 = some (.iconst 0) := mt_cd_of (q := (14, .iconst 0, 1)) mq_115 ci_115 (List.mem_of_getElem? (i := 10) rfl)
theorem cd_115_15 : mt_cd 115 15 = some (.ireturn) := mt_cd_of (q := (15, .ireturn, 1)) mq_115 ci_115 (List.mem_of_getElem? (i := 11) rfl)
theorem b_115_0 {d : Nat} {Q : (Option Value ⊕ Nat) → mi_H → Prop} (n sl : Nat) (f : Nat → mi_C) {l1 : Nat} {l2 : Int32} {l3 : Nat} {o4 : Option Value} {fs5 : List Value} (h6 : f l1 = .inr (0, fs5)) (h7 : l1 < n) (h8 : mi_W d 116 0 (mi_en 2 [.ref l1, .int l2]) [] (n, sl, f) (mi_Kc d 115 4 [some (.ref l1), some (.int l2), some (.ref l3), o4] [.int 0, .ref l3] Q)) : mi_W (d + 1) 115 0 [some (.ref l1), some (.int l2), some (.ref l3), o4] [] (n, sl, f) Q := by
  refine w_aload_n cd_115_0 rfl ?_
  refine w_iconst (v := 0) cd_115_1 (by decide) ?_
  refine w_aload_n cd_115_2 rfl ?_
  refine w_iload_n cd_115_3 rfl ?_
  exact w_invokevirtual cd_115_4 (show mt_m 18 47 = some (116, 0) by decide +kernel) (rest := [.int 0, .ref l3]) rfl (as := [.ref l1, .int l2]) rfl h6 (Or.inl h7) ⟨Nat.le_of_ble_eq_true rfl, Nat.le_of_ble_eq_true rfl, Nat.le_of_ble_eq_true rfl⟩ h8
theorem b_115_7 {d : Nat} {Q : (Option Value ⊕ Nat) → mi_H → Prop} (n sl : Nat) (f : Nat → mi_C) {l1 : Nat} {l2 : Int32} {l3 : Nat} {o4 : Option Value} {s5 : Int64} {s6 : Int32} {s7 : Nat} (m8 i8 : Nat) (g8 : Nat → Int64) (h9 : f s7 = .inl (3, m8, .inr (.inl g8))) (h10 : s7 < n) (h11 : mi_ix s6 m8 i8) (h12 : mi_W d 115 14 [some (.ref l1), some (.int l2), some (.ref l3), o4] [] (n, sl, (va_up f s7 (.inl (3, m8, .inr (.inl (vp_updL g8 i8 s5)))))) Q) : mi_W d 115 7 [some (.ref l1), some (.int l2), some (.ref l3), o4] [.long s5, .int s6, .ref s7] (n, sl, f) Q := by
  refine w_lastore cd_115_7 h9 h10 h11 ?_
  exact w_goto cd_115_8 (by decide) h12
theorem b_115_11 {d : Nat} {Q : (Option Value ⊕ Nat) → mi_H → Prop} (n sl : Nat) (f : Nat → mi_C) {l1 : Nat} {l2 : Int32} {l3 : Nat} {o4 : Option Value} {s5 : Nat} (h6 : Q (.inl (some (.int 1))) (n, sl, f)) : mi_W d 115 11 [some (.ref l1), some (.int l2), some (.ref l3), o4] [.ref s5] (n, sl, f) Q := by
  refine w_astore_n (ls' := [some (.ref l1), some (.int l2), some (.ref l3), some (.ref s5)]) cd_115_11 (Nat.le_of_ble_eq_true rfl) rfl ?_
  refine w_iconst (v := 1) cd_115_12 (by decide) ?_
  exact w_ireturn_i cd_115_13 (by decide +kernel) h6
theorem b_115_14 {d : Nat} {Q : (Option Value ⊕ Nat) → mi_H → Prop} (n sl : Nat) (f : Nat → mi_C) {l1 : Nat} {l2 : Int32} {l3 : Nat} {o4 : Option Value} (h5 : Q (.inl (some (.int 0))) (n, sl, f)) : mi_W d 115 14 [some (.ref l1), some (.int l2), some (.ref l3), o4] [] (n, sl, f) Q := by
  refine w_iconst (v := 0) cd_115_14 (by decide) ?_
  exact w_ireturn_i cd_115_15 (by decide +kernel) h5
/-! MarloweHost.paid(I)J -/
set_option maxRecDepth 100000 in
theorem mq_116 : mt_q 116 = my_116 := rfl
set_option maxRecDepth 100000 in
theorem ci_116 : mt_inc 0 my_116.cd = true := by decide +kernel
theorem cd_116_0 : mt_cd 116 0 = some (.iload_n 1) := mt_cd_of (q := (0, .iload_n 1, 1)) mq_116 ci_116 (List.mem_of_getElem? (i := 0) rfl)
theorem cd_116_1 : mt_cd 116 1 = some (.ifCond .lt 17) := mt_cd_of (q := (1, .ifCond .lt 17, 3)) mq_116 ci_116 (List.mem_of_getElem? (i := 1) rfl)
theorem cd_116_4 : mt_cd 116 4 = some (.iload_n 1) := mt_cd_of (q := (4, .iload_n 1, 1)) mq_116 ci_116 (List.mem_of_getElem? (i := 2) rfl)
theorem cd_116_5 : mt_cd 116 5 = some (.aload_n 0) := mt_cd_of (q := (5, .aload_n 0, 1)) mq_116 ci_116 (List.mem_of_getElem? (i := 3) rfl)
theorem cd_116_6 : mt_cd 116 6 = some (.getfield 51) := mt_cd_of (q := (6, .getfield 51, 3)) mq_116 ci_116 (List.mem_of_getElem? (i := 4) rfl)
theorem cd_116_9 : mt_cd 116 9 = some (.getfield 156) := mt_cd_of (q := (9, .getfield 156, 3)) mq_116 ci_116 (List.mem_of_getElem? (i := 5) rfl)
theorem cd_116_12 : mt_cd 116 12 = some (.getfield 165) := mt_cd_of (q := (12, .getfield 165, 3)) mq_116 ci_116 (List.mem_of_getElem? (i := 6) rfl)
theorem cd_116_15 : mt_cd 116 15 = some (.if_icmp .lt 13) := mt_cd_of (q := (15, .if_icmp .lt 13, 3)) mq_116 ci_116 (List.mem_of_getElem? (i := 7) rfl)
theorem cd_116_18 : mt_cd 116 18 = some (.new 78) := mt_cd_of (q := (18, .new 78, 3)) mq_116 ci_116 (List.mem_of_getElem? (i := 8) rfl)
theorem cd_116_21 : mt_cd 116 21 = some (.dup) := mt_cd_of (q := (21, .dup, 1)) mq_116 ci_116 (List.mem_of_getElem? (i := 9) rfl)
theorem cd_116_22 : mt_cd 116 22 = some (.ldc 186) := mt_cd_of (q := (22, .ldc 186, 2)) mq_116 ci_116 (List.mem_of_getElem? (i := 10) rfl)
theorem cd_116_24 : mt_cd 116 24 = some (.invokespecial 82) := mt_cd_of (q := (24, .invokespecial 82, 3)) mq_116 ci_116 (List.mem_of_getElem? (i := 11) rfl)
theorem cd_116_27 : mt_cd 116 27 = some (.athrow) := mt_cd_of (q := (27, .athrow, 1)) mq_116 ci_116 (List.mem_of_getElem? (i := 12) rfl)
theorem cd_116_28 : mt_cd 116 28 = some (.aload_n 0) := mt_cd_of (q := (28, .aload_n 0, 1)) mq_116 ci_116 (List.mem_of_getElem? (i := 13) rfl)
theorem cd_116_29 : mt_cd 116 29 = some (.getfield 51) := mt_cd_of (q := (29, .getfield 51, 3)) mq_116 ci_116 (List.mem_of_getElem? (i := 14) rfl)
theorem cd_116_32 : mt_cd 116 32 = some (.getfield 156) := mt_cd_of (q := (32, .getfield 156, 3)) mq_116 ci_116 (List.mem_of_getElem? (i := 15) rfl)
theorem cd_116_35 : mt_cd 116 35 = some (.getfield 188) := mt_cd_of (q := (35, .getfield 188, 3)) mq_116 ci_116 (List.mem_of_getElem? (i := 16) rfl)
theorem cd_116_38 : mt_cd 116 38 = some (.iload_n 1) := mt_cd_of (q := (38, .iload_n 1, 1)) mq_116 ci_116 (List.mem_of_getElem? (i := 17) rfl)
theorem cd_116_39 : mt_cd 116 39 = some (.laload) := mt_cd_of (q := (39, .laload, 1)) mq_116 ci_116 (List.mem_of_getElem? (i := 18) rfl)
theorem cd_116_40 : mt_cd 116 40 = some (.lreturn) := mt_cd_of (q := (40, .lreturn, 1)) mq_116 ci_116 (List.mem_of_getElem? (i := 19) rfl)
theorem b_116_0 {d : Nat} {Q : (Option Value ⊕ Nat) → mi_H → Prop} (n sl : Nat) (f : Nat → mi_C) {l1 : Nat} {l2 : Int32} (h3 : l2 < (0 : Int32) → mi_W d 116 18 [some (.ref l1), some (.int l2)] [] (n, sl, f) Q) (h4 : ¬ (l2 < (0 : Int32)) → mi_W d 116 4 [some (.ref l1), some (.int l2)] [] (n, sl, f) Q) : mi_W d 116 0 [some (.ref l1), some (.int l2)] [] (n, sl, f) Q := by
  refine w_iload_n cd_116_0 rfl ?_
  exact w_iflt cd_116_1 (by decide) h3 h4
theorem b_116_4 {d : Nat} {Q : (Option Value ⊕ Nat) → mi_H → Prop} (n sl : Nat) (f : Nat → mi_C) {l1 : Nat} {l2 : Int32} {fs3 : List Value} {x6 : Nat} {fs8 : List Value} {x11 : Nat} {fs13 : List Value} {x16 : Int32} (h4 : f l1 = .inr (0, fs3)) (h5 : l1 < n) (h7 : fs3[5]? = some (.ref x6)) (h9 : f x6 = .inr (7, fs8)) (h10 : x6 < n) (h12 : fs8[7]? = some (.ref x11)) (h14 : f x11 = .inr (8, fs13)) (h15 : x11 < n) (h17 : fs13[7]? = some (.int x16)) (h18 : l2 < x16 → mi_W d 116 28 [some (.ref l1), some (.int l2)] [] (n, sl, f) Q) (h19 : ¬ (l2 < x16) → mi_W d 116 18 [some (.ref l1), some (.int l2)] [] (n, sl, f) Q) : mi_W d 116 4 [some (.ref l1), some (.int l2)] [] (n, sl, f) Q := by
  refine w_iload_n cd_116_4 rfl ?_
  refine w_aload_n cd_116_5 rfl ?_
  refine w_getfield cd_116_6 (show mt_f 0 51 = some (0, 5) by decide +kernel) h4 h5 h7 ?_
  refine w_getfield cd_116_9 (show mt_f 0 156 = some (7, 7) by decide +kernel) h9 h10 h12 ?_
  refine w_getfield cd_116_12 (show mt_f 0 165 = some (8, 7) by decide +kernel) h14 h15 h17 ?_
  exact w_if_icmplt cd_116_15 (by decide) h18 h19
theorem b_116_18 {d : Nat} {Q : (Option Value ⊕ Nat) → mi_H → Prop} (n sl : Nat) (f : Nat → mi_C) {l1 : Nat} {l2 : Int32} {h' : mi_H} (h3 : mi_t 116 18 (.new 78) [] (n, sl, f) = some h') (h4 : Q (.inr n) h') : mi_W d 116 18 [some (.ref l1), some (.int l2)] [] (n, sl, f) Q := by
  exact w_throw cd_116_18 (show mt_c 0 78 = some 14 by decide +kernel) (by decide) h3 h4
theorem b_116_28 {d : Nat} {Q : (Option Value ⊕ Nat) → mi_H → Prop} (n sl : Nat) (f : Nat → mi_C) {l1 : Nat} {l2 : Int32} {fs3 : List Value} {x6 : Nat} {fs8 : List Value} {x11 : Nat} {fs13 : List Value} {x16 : Nat} (m18 i18 : Nat) (g18 : Nat → Int64) (h4 : f l1 = .inr (0, fs3)) (h5 : l1 < n) (h7 : fs3[5]? = some (.ref x6)) (h9 : f x6 = .inr (7, fs8)) (h10 : x6 < n) (h12 : fs8[7]? = some (.ref x11)) (h14 : f x11 = .inr (8, fs13)) (h15 : x11 < n) (h17 : fs13[5]? = some (.ref x16)) (h19 : f x16 = .inl (3, m18, .inr (.inl g18))) (h20 : x16 < n) (h21 : mi_ix l2 m18 i18) (h22 : Q (.inl (some (.long (g18 i18)))) (n, sl, f)) : mi_W d 116 28 [some (.ref l1), some (.int l2)] [] (n, sl, f) Q := by
  refine w_aload_n cd_116_28 rfl ?_
  refine w_getfield cd_116_29 (show mt_f 0 51 = some (0, 5) by decide +kernel) h4 h5 h7 ?_
  refine w_getfield cd_116_32 (show mt_f 0 156 = some (7, 7) by decide +kernel) h9 h10 h12 ?_
  refine w_getfield cd_116_35 (show mt_f 0 188 = some (8, 5) by decide +kernel) h14 h15 h17 ?_
  refine w_iload_n cd_116_38 rfl ?_
  refine w_laload cd_116_39 h19 h20 h21 ?_
  exact w_lreturn cd_116_40 (by decide +kernel) h22
/-! MarloweHostLaw.state(LMarloweHost;III[J)I -/
set_option maxRecDepth 100000 in
theorem mq_117 : mt_q 117 = my_117 := rfl
set_option maxRecDepth 100000 in
theorem ci_117 : mt_inc 0 my_117.cd = true := by decide +kernel
theorem cd_117_0 : mt_cd 117 0 = some (.aload 4) := mt_cd_of (q := (0, .aload 4, 2)) mq_117 ci_117 (List.mem_of_getElem? (i := 0) rfl)
theorem cd_117_2 : mt_cd 117 2 = some (.iconst 0) := mt_cd_of (q := (2, .iconst 0, 1)) mq_117 ci_117 (List.mem_of_getElem? (i := 1) rfl)
theorem cd_117_3 : mt_cd 117 3 = some (.aload_n 0) := mt_cd_of (q := (3, .aload_n 0, 1)) mq_117 ci_117 (List.mem_of_getElem? (i := 2) rfl)
theorem cd_117_4 : mt_cd 117 4 = some (.iload_n 1) := mt_cd_of (q := (4, .iload_n 1, 1)) mq_117 ci_117 (List.mem_of_getElem? (i := 3) rfl)
theorem cd_117_5 : mt_cd 117 5 = some (.iload_n 2) := mt_cd_of (q := (5, .iload_n 2, 1)) mq_117 ci_117 (List.mem_of_getElem? (i := 4) rfl)
theorem cd_117_6 : mt_cd 117 6 = some (.iload_n 3) := mt_cd_of (q := (6, .iload_n 3, 1)) mq_117 ci_117 (List.mem_of_getElem? (i := 5) rfl)
theorem cd_117_7 : mt_cd 117 7 = some (.invokevirtual 51) := mt_cd_of (q := (7, .invokevirtual 51, 3)) mq_117 ci_117 (List.mem_of_getElem? (i := 6) rfl)
theorem cd_117_10 : mt_cd 117 10 = some (.lastore) := mt_cd_of (q := (10, .lastore, 1)) mq_117 ci_117 (List.mem_of_getElem? (i := 7) rfl)
theorem cd_117_11 : mt_cd 117 11 = some (.goto 11) := mt_cd_of (q := (11, .goto 11, 3)) mq_117 ci_117 (List.mem_of_getElem? (i := 8) rfl)
theorem cd_117_14 : mt_cd 117 14 = some (.astore 5) := mt_cd_of (q := (14, .astore 5, 2)) mq_117 ci_117 (List.mem_of_getElem? (i := 9) rfl)
theorem cd_117_16 : mt_cd 117 16 = some (.iconst 1) := mt_cd_of (q := (16, .iconst 1, 1)) mq_117 ci_117 (List.mem_of_getElem? (i := 10) rfl)
theorem cd_117_17 : mt_cd 117 17 = some (.ireturn) := mt_cd_of (q := (17, .ireturn, 1)) mq_117 ci_117 (List.mem_of_getElem? (i := 11) rfl)
theorem cd_117_18 : mt_cd 117 18 = some (.astore 5) := mt_cd_of (q := (18, .astore 5, 2)) mq_117 ci_117 (List.mem_of_getElem? (i := 12) rfl)
theorem cd_117_20 : mt_cd 117 20 = some (.iconst 2) := mt_cd_of (q := (20, .iconst 2, 1)) mq_117 ci_117 (List.mem_of_getElem? (i := 13) rfl)
theorem cd_117_21 : mt_cd 117 21 = some (.ireturn) := mt_cd_of (q := (21, .ireturn, 1)) mq_117 ci_117 (List.mem_of_getElem? (i := 14) rfl)
theorem cd_117_22 : mt_cd 117 22 = some (.iconst 0) := mt_cd_of (q := (22, .iconst 0, 1)) mq_117 ci_117 (List.mem_of_getElem? (i := 15) rfl)
theorem cd_117_23 : mt_cd 117 23 = some (.ireturn) := mt_cd_of (q := (23, .ireturn, 1)) mq_117 ci_117 (List.mem_of_getElem? (i := 16) rfl)
theorem b_117_0 {d : Nat} {Q : (Option Value ⊕ Nat) → mi_H → Prop} (n sl : Nat) (f : Nat → mi_C) {l1 : Nat} {l2 : Int32} {l3 : Int32} {l4 : Int32} {l5 : Nat} {o6 : Option Value} {fs7 : List Value} (h8 : f l1 = .inr (0, fs7)) (h9 : l1 < n) (h10 : mi_W d 118 0 (mi_en 4 [.ref l1, .int l2, .int l3, .int l4]) [] (n, sl, f) (mi_Kc d 117 7 [some (.ref l1), some (.int l2), some (.int l3), some (.int l4), some (.ref l5), o6] [.int 0, .ref l5] Q)) : mi_W (d + 1) 117 0 [some (.ref l1), some (.int l2), some (.int l3), some (.int l4), some (.ref l5), o6] [] (n, sl, f) Q := by
  refine w_aload cd_117_0 rfl ?_
  refine w_iconst (v := 0) cd_117_2 (by decide) ?_
  refine w_aload_n cd_117_3 rfl ?_
  refine w_iload_n cd_117_4 rfl ?_
  refine w_iload_n cd_117_5 rfl ?_
  refine w_iload_n cd_117_6 rfl ?_
  exact w_invokevirtual cd_117_7 (show mt_m 18 51 = some (118, 0) by decide +kernel) (rest := [.int 0, .ref l5]) rfl (as := [.ref l1, .int l2, .int l3, .int l4]) rfl h8 (Or.inl h9) ⟨Nat.le_of_ble_eq_true rfl, Nat.le_of_ble_eq_true rfl, Nat.le_of_ble_eq_true rfl⟩ h10
theorem b_117_10 {d : Nat} {Q : (Option Value ⊕ Nat) → mi_H → Prop} (n sl : Nat) (f : Nat → mi_C) {l1 : Nat} {l2 : Int32} {l3 : Int32} {l4 : Int32} {l5 : Nat} {o6 : Option Value} {s7 : Int64} {s8 : Int32} {s9 : Nat} (m10 i10 : Nat) (g10 : Nat → Int64) (h11 : f s9 = .inl (3, m10, .inr (.inl g10))) (h12 : s9 < n) (h13 : mi_ix s8 m10 i10) (h14 : mi_W d 117 22 [some (.ref l1), some (.int l2), some (.int l3), some (.int l4), some (.ref l5), o6] [] (n, sl, (va_up f s9 (.inl (3, m10, .inr (.inl (vp_updL g10 i10 s7)))))) Q) : mi_W d 117 10 [some (.ref l1), some (.int l2), some (.int l3), some (.int l4), some (.ref l5), o6] [.long s7, .int s8, .ref s9] (n, sl, f) Q := by
  refine w_lastore cd_117_10 h11 h12 h13 ?_
  exact w_goto cd_117_11 (by decide) h14
theorem b_117_14 {d : Nat} {Q : (Option Value ⊕ Nat) → mi_H → Prop} (n sl : Nat) (f : Nat → mi_C) {l1 : Nat} {l2 : Int32} {l3 : Int32} {l4 : Int32} {l5 : Nat} {o6 : Option Value} {s7 : Nat} (h8 : Q (.inl (some (.int 1))) (n, sl, f)) : mi_W d 117 14 [some (.ref l1), some (.int l2), some (.int l3), some (.int l4), some (.ref l5), o6] [.ref s7] (n, sl, f) Q := by
  refine w_astore (ls' := [some (.ref l1), some (.int l2), some (.int l3), some (.int l4), some (.ref l5), some (.ref s7)]) cd_117_14 (Nat.le_of_ble_eq_true rfl) rfl ?_
  refine w_iconst (v := 1) cd_117_16 (by decide) ?_
  exact w_ireturn_i cd_117_17 (by decide +kernel) h8
theorem b_117_18 {d : Nat} {Q : (Option Value ⊕ Nat) → mi_H → Prop} (n sl : Nat) (f : Nat → mi_C) {l1 : Nat} {l2 : Int32} {l3 : Int32} {l4 : Int32} {l5 : Nat} {o6 : Option Value} {s7 : Nat} (h8 : Q (.inl (some (.int 2))) (n, sl, f)) : mi_W d 117 18 [some (.ref l1), some (.int l2), some (.int l3), some (.int l4), some (.ref l5), o6] [.ref s7] (n, sl, f) Q := by
  refine w_astore (ls' := [some (.ref l1), some (.int l2), some (.int l3), some (.int l4), some (.ref l5), some (.ref s7)]) cd_117_18 (Nat.le_of_ble_eq_true rfl) rfl ?_
  refine w_iconst (v := 2) cd_117_20 (by decide) ?_
  exact w_ireturn_i cd_117_21 (by decide +kernel) h8
theorem b_117_22 {d : Nat} {Q : (Option Value ⊕ Nat) → mi_H → Prop} (n sl : Nat) (f : Nat → mi_C) {l1 : Nat} {l2 : Int32} {l3 : Int32} {l4 : Int32} {l5 : Nat} {o6 : Option Value} (h7 : Q (.inl (some (.int 0))) (n, sl, f)) : mi_W d 117 22 [some (.ref l1), some (.int l2), some (.int l3), some (.int l4), some (.ref l5), o6] [] (n, sl, f) Q := by
  refine w_iconst (v := 0) cd_117_22 (by decide) ?_
  exact w_ireturn_i cd_117_23 (by decide +kernel) h7
/-! MarloweHost.state(III)J -/
set_option maxRecDepth 100000 in
theorem mq_118 : mt_q 118 = my_118 := rfl
set_option maxRecDepth 100000 in
theorem ci_118 : mt_inc 0 my_118.cd = true := by decide +kernel
theorem cd_118_0 : mt_cd 118 0 = some (.iload_n 1) := mt_cd_of (q := (0, .iload_n 1, 1)) mq_118 ci_118 (List.mem_of_getElem? (i := 0) rfl)
theorem cd_118_1 : mt_cd 118 1 = some (.ifCond .lt 22) := mt_cd_of (q := (1, .ifCond .lt 22, 3)) mq_118 ci_118 (List.mem_of_getElem? (i := 1) rfl)
theorem cd_118_4 : mt_cd 118 4 = some (.iload_n 1) := mt_cd_of (q := (4, .iload_n 1, 1)) mq_118 ci_118 (List.mem_of_getElem? (i := 2) rfl)
theorem cd_118_5 : mt_cd 118 5 = some (.iconst 4) := mt_cd_of (q := (5, .iconst 4, 1)) mq_118 ci_118 (List.mem_of_getElem? (i := 3) rfl)
theorem cd_118_6 : mt_cd 118 6 = some (.if_icmp .gt 17) := mt_cd_of (q := (6, .if_icmp .gt 17, 3)) mq_118 ci_118 (List.mem_of_getElem? (i := 4) rfl)
theorem cd_118_9 : mt_cd 118 9 = some (.iload_n 2) := mt_cd_of (q := (9, .iload_n 2, 1)) mq_118 ci_118 (List.mem_of_getElem? (i := 5) rfl)
theorem cd_118_10 : mt_cd 118 10 = some (.invokestatic 114) := mt_cd_of (q := (10, .invokestatic 114, 3)) mq_118 ci_118 (List.mem_of_getElem? (i := 6) rfl)
theorem cd_118_13 : mt_cd 118 13 = some (.ifCond .eq 10) := mt_cd_of (q := (13, .ifCond .eq 10, 3)) mq_118 ci_118 (List.mem_of_getElem? (i := 7) rfl)
theorem cd_118_16 : mt_cd 118 16 = some (.iload_n 3) := mt_cd_of (q := (16, .iload_n 3, 1)) mq_118 ci_118 (List.mem_of_getElem? (i := 8) rfl)
theorem cd_118_17 : mt_cd 118 17 = some (.invokestatic 118) := mt_cd_of (q := (17, .invokestatic 118, 3)) mq_118 ci_118 (List.mem_of_getElem? (i := 9) rfl)
theorem cd_118_20 : mt_cd 118 20 = some (.ifCond .ne 13) := mt_cd_of (q := (20, .ifCond .ne 13, 3)) mq_118 ci_118 (List.mem_of_getElem? (i := 10) rfl)
theorem cd_118_23 : mt_cd 118 23 = some (.new 123) := mt_cd_of (q := (23, .new 123, 3)) mq_118 ci_118 (List.mem_of_getElem? (i := 11) rfl)
theorem cd_118_26 : mt_cd 118 26 = some (.dup) := mt_cd_of (q := (26, .dup, 1)) mq_118 ci_118 (List.mem_of_getElem? (i := 12) rfl)
theorem cd_118_27 : mt_cd 118 27 = some (.ldc 191) := mt_cd_of (q := (27, .ldc 191, 2)) mq_118 ci_118 (List.mem_of_getElem? (i := 13) rfl)
theorem cd_118_29 : mt_cd 118 29 = some (.invokespecial 127) := mt_cd_of (q := (29, .invokespecial 127, 3)) mq_118 ci_118 (List.mem_of_getElem? (i := 14) rfl)
theorem cd_118_32 : mt_cd 118 32 = some (.athrow) := mt_cd_of (q := (32, .athrow, 1)) mq_118 ci_118 (List.mem_of_getElem? (i := 15) rfl)
theorem cd_118_33 : mt_cd 118 33 = some (.iload_n 1) := mt_cd_of (q := (33, .iload_n 1, 1)) mq_118 ci_118 (List.mem_of_getElem? (i := 16) rfl)
theorem cd_118_34 : mt_cd 118 34 = some (.iconst 1) := mt_cd_of (q := (34, .iconst 1, 1)) mq_118 ci_118 (List.mem_of_getElem? (i := 17) rfl)
theorem cd_118_35 : mt_cd 118 35 = some (.if_icmp .ne 17) := mt_cd_of (q := (35, .if_icmp .ne 17, 3)) mq_118 ci_118 (List.mem_of_getElem? (i := 18) rfl)
theorem cd_118_38 : mt_cd 118 38 = some (.aload_n 0) := mt_cd_of (q := (38, .aload_n 0, 1)) mq_118 ci_118 (List.mem_of_getElem? (i := 19) rfl)
theorem cd_118_39 : mt_cd 118 39 = some (.getfield 35) := mt_cd_of (q := (39, .getfield 35, 3)) mq_118 ci_118 (List.mem_of_getElem? (i := 20) rfl)
theorem cd_118_42 : mt_cd 118 42 = some (.getfield 128) := mt_cd_of (q := (42, .getfield 128, 3)) mq_118 ci_118 (List.mem_of_getElem? (i := 21) rfl)
theorem cd_118_45 : mt_cd 118 45 = some (.iload_n 2) := mt_cd_of (q := (45, .iload_n 2, 1)) mq_118 ci_118 (List.mem_of_getElem? (i := 22) rfl)
theorem cd_118_46 : mt_cd 118 46 = some (.iconst 4) := mt_cd_of (q := (46, .iconst 4, 1)) mq_118 ci_118 (List.mem_of_getElem? (i := 23) rfl)
theorem cd_118_47 : mt_cd 118 47 = some (.imul) := mt_cd_of (q := (47, .imul, 1)) mq_118 ci_118 (List.mem_of_getElem? (i := 24) rfl)
theorem cd_118_48 : mt_cd 118 48 = some (.iload_n 3) := mt_cd_of (q := (48, .iload_n 3, 1)) mq_118 ci_118 (List.mem_of_getElem? (i := 25) rfl)
theorem cd_118_49 : mt_cd 118 49 = some (.iadd) := mt_cd_of (q := (49, .iadd, 1)) mq_118 ci_118 (List.mem_of_getElem? (i := 26) rfl)
theorem cd_118_50 : mt_cd 118 50 = some (.laload) := mt_cd_of (q := (50, .laload, 1)) mq_118 ci_118 (List.mem_of_getElem? (i := 27) rfl)
theorem cd_118_51 : mt_cd 118 51 = some (.lreturn) := mt_cd_of (q := (51, .lreturn, 1)) mq_118 ci_118 (List.mem_of_getElem? (i := 28) rfl)
theorem cd_118_52 : mt_cd 118 52 = some (.aload_n 0) := mt_cd_of (q := (52, .aload_n 0, 1)) mq_118 ci_118 (List.mem_of_getElem? (i := 29) rfl)
theorem cd_118_53 : mt_cd 118 53 = some (.invokevirtual 143) := mt_cd_of (q := (53, .invokevirtual 143, 3)) mq_118 ci_118 (List.mem_of_getElem? (i := 30) rfl)
theorem cd_118_56 : mt_cd 118 56 = some (.iload_n 1) := mt_cd_of (q := (56, .iload_n 1, 1)) mq_118 ci_118 (List.mem_of_getElem? (i := 31) rfl)
theorem cd_118_57 : mt_cd 118 57 = some (.tableswitch 65 0 3 #[31, 65, 45, 55]) := mt_cd_of (q := (57, .tableswitch 65 0 3 #[31, 65, 45, 55], 31)) mq_118 ci_118 (List.mem_of_getElem? (i := 32) rfl)
theorem cd_118_88 : mt_cd 118 88 = some (.aload_n 0) := mt_cd_of (q := (88, .aload_n 0, 1)) mq_118 ci_118 (List.mem_of_getElem? (i := 33) rfl)
theorem cd_118_89 : mt_cd 118 89 = some (.getfield 67) := mt_cd_of (q := (89, .getfield 67, 3)) mq_118 ci_118 (List.mem_of_getElem? (i := 34) rfl)
theorem cd_118_92 : mt_cd 118 92 = some (.getfield 193) := mt_cd_of (q := (92, .getfield 193, 3)) mq_118 ci_118 (List.mem_of_getElem? (i := 35) rfl)
theorem cd_118_95 : mt_cd 118 95 = some (.iload_n 2) := mt_cd_of (q := (95, .iload_n 2, 1)) mq_118 ci_118 (List.mem_of_getElem? (i := 36) rfl)
theorem cd_118_96 : mt_cd 118 96 = some (.iconst 4) := mt_cd_of (q := (96, .iconst 4, 1)) mq_118 ci_118 (List.mem_of_getElem? (i := 37) rfl)
theorem cd_118_97 : mt_cd 118 97 = some (.imul) := mt_cd_of (q := (97, .imul, 1)) mq_118 ci_118 (List.mem_of_getElem? (i := 38) rfl)
theorem cd_118_98 : mt_cd 118 98 = some (.iload_n 3) := mt_cd_of (q := (98, .iload_n 3, 1)) mq_118 ci_118 (List.mem_of_getElem? (i := 39) rfl)
theorem cd_118_99 : mt_cd 118 99 = some (.iadd) := mt_cd_of (q := (99, .iadd, 1)) mq_118 ci_118 (List.mem_of_getElem? (i := 40) rfl)
theorem cd_118_100 : mt_cd 118 100 = some (.laload) := mt_cd_of (q := (100, .laload, 1)) mq_118 ci_118 (List.mem_of_getElem? (i := 41) rfl)
theorem cd_118_101 : mt_cd 118 101 = some (.lreturn) := mt_cd_of (q := (101, .lreturn, 1)) mq_118 ci_118 (List.mem_of_getElem? (i := 42) rfl)
theorem cd_118_102 : mt_cd 118 102 = some (.aload_n 0) := mt_cd_of (q := (102, .aload_n 0, 1)) mq_118 ci_118 (List.mem_of_getElem? (i := 43) rfl)
theorem cd_118_103 : mt_cd 118 103 = some (.getfield 67) := mt_cd_of (q := (103, .getfield 67, 3)) mq_118 ci_118 (List.mem_of_getElem? (i := 44) rfl)
theorem cd_118_106 : mt_cd 118 106 = some (.getfield 196) := mt_cd_of (q := (106, .getfield 196, 3)) mq_118 ci_118 (List.mem_of_getElem? (i := 45) rfl)
theorem cd_118_109 : mt_cd 118 109 = some (.iload_n 2) := mt_cd_of (q := (109, .iload_n 2, 1)) mq_118 ci_118 (List.mem_of_getElem? (i := 46) rfl)
theorem cd_118_110 : mt_cd 118 110 = some (.laload) := mt_cd_of (q := (110, .laload, 1)) mq_118 ci_118 (List.mem_of_getElem? (i := 47) rfl)
theorem cd_118_111 : mt_cd 118 111 = some (.lreturn) := mt_cd_of (q := (111, .lreturn, 1)) mq_118 ci_118 (List.mem_of_getElem? (i := 48) rfl)
theorem cd_118_112 : mt_cd 118 112 = some (.aload_n 0) := mt_cd_of (q := (112, .aload_n 0, 1)) mq_118 ci_118 (List.mem_of_getElem? (i := 49) rfl)
theorem cd_118_113 : mt_cd 118 113 = some (.getfield 67) := mt_cd_of (q := (113, .getfield 67, 3)) mq_118 ci_118 (List.mem_of_getElem? (i := 50) rfl)
theorem cd_118_116 : mt_cd 118 116 = some (.getfield 199) := mt_cd_of (q := (116, .getfield 199, 3)) mq_118 ci_118 (List.mem_of_getElem? (i := 51) rfl)
theorem cd_118_119 : mt_cd 118 119 = some (.iload_n 2) := mt_cd_of (q := (119, .iload_n 2, 1)) mq_118 ci_118 (List.mem_of_getElem? (i := 52) rfl)
theorem cd_118_120 : mt_cd 118 120 = some (.laload) := mt_cd_of (q := (120, .laload, 1)) mq_118 ci_118 (List.mem_of_getElem? (i := 53) rfl)
theorem cd_118_121 : mt_cd 118 121 = some (.lreturn) := mt_cd_of (q := (121, .lreturn, 1)) mq_118 ci_118 (List.mem_of_getElem? (i := 54) rfl)
theorem cd_118_122 : mt_cd 118 122 = some (.aload_n 0) := mt_cd_of (q := (122, .aload_n 0, 1)) mq_118 ci_118 (List.mem_of_getElem? (i := 55) rfl)
theorem cd_118_123 : mt_cd 118 123 = some (.getfield 67) := mt_cd_of (q := (123, .getfield 67, 3)) mq_118 ci_118 (List.mem_of_getElem? (i := 56) rfl)
theorem cd_118_126 : mt_cd 118 126 = some (.getfield 202) := mt_cd_of (q := (126, .getfield 202, 3)) mq_118 ci_118 (List.mem_of_getElem? (i := 57) rfl)
theorem cd_118_129 : mt_cd 118 129 = some (.lreturn) := mt_cd_of (q := (129, .lreturn, 1)) mq_118 ci_118 (List.mem_of_getElem? (i := 58) rfl)
theorem b_118_0 {d : Nat} {Q : (Option Value ⊕ Nat) → mi_H → Prop} (n sl : Nat) (f : Nat → mi_C) {l1 : Nat} {l2 : Int32} {l3 : Int32} {l4 : Int32} (h5 : l2 < (0 : Int32) → mi_W d 118 23 [some (.ref l1), some (.int l2), some (.int l3), some (.int l4)] [] (n, sl, f) Q) (h6 : ¬ (l2 < (0 : Int32)) → mi_W d 118 4 [some (.ref l1), some (.int l2), some (.int l3), some (.int l4)] [] (n, sl, f) Q) : mi_W d 118 0 [some (.ref l1), some (.int l2), some (.int l3), some (.int l4)] [] (n, sl, f) Q := by
  refine w_iload_n cd_118_0 rfl ?_
  exact w_iflt cd_118_1 (by decide) h5 h6
theorem b_118_4 {d : Nat} {Q : (Option Value ⊕ Nat) → mi_H → Prop} (n sl : Nat) (f : Nat → mi_C) {l1 : Nat} {l2 : Int32} {l3 : Int32} {l4 : Int32} (h5 : 4 < l2 → mi_W d 118 23 [some (.ref l1), some (.int l2), some (.int l3), some (.int l4)] [] (n, sl, f) Q) (h6 : ¬ (4 < l2) → mi_W d 118 9 [some (.ref l1), some (.int l2), some (.int l3), some (.int l4)] [] (n, sl, f) Q) : mi_W d 118 4 [some (.ref l1), some (.int l2), some (.int l3), some (.int l4)] [] (n, sl, f) Q := by
  refine w_iload_n cd_118_4 rfl ?_
  refine w_iconst (v := 4) cd_118_5 (by decide) ?_
  exact w_if_icmpgt cd_118_6 (by decide) h5 h6
theorem b_118_9 {d : Nat} {Q : (Option Value ⊕ Nat) → mi_H → Prop} (n sl : Nat) (f : Nat → mi_C) {l1 : Nat} {l2 : Int32} {l3 : Int32} {l4 : Int32} (h5 : mi_W d 60 0 (mi_en 1 [.int l3]) [] (n, sl, f) (mi_Kc d 118 10 [some (.ref l1), some (.int l2), some (.int l3), some (.int l4)] [] Q)) : mi_W (d + 1) 118 9 [some (.ref l1), some (.int l2), some (.int l3), some (.int l4)] [] (n, sl, f) Q := by
  refine w_iload_n cd_118_9 rfl ?_
  exact w_invokestatic cd_118_10 (show mt_m 0 114 = some (60, 4) by decide +kernel) (by decide) (rest := []) rfl (as := [.int l3]) rfl ⟨Nat.le_of_ble_eq_true rfl, Nat.le_of_ble_eq_true rfl, Nat.le_of_ble_eq_true rfl⟩ h5
theorem b_118_13 {d : Nat} {Q : (Option Value ⊕ Nat) → mi_H → Prop} (n sl : Nat) (f : Nat → mi_C) {l1 : Nat} {l2 : Int32} {l3 : Int32} {l4 : Int32} {s5 : Int32} (h6 : s5 = (0 : Int32) → mi_W d 118 23 [some (.ref l1), some (.int l2), some (.int l3), some (.int l4)] [] (n, sl, f) Q) (h7 : ¬ (s5 = (0 : Int32)) → mi_W d 118 16 [some (.ref l1), some (.int l2), some (.int l3), some (.int l4)] [] (n, sl, f) Q) : mi_W d 118 13 [some (.ref l1), some (.int l2), some (.int l3), some (.int l4)] [.int s5] (n, sl, f) Q := by
  exact w_ifeq cd_118_13 (by decide) h6 h7
theorem b_118_16 {d : Nat} {Q : (Option Value ⊕ Nat) → mi_H → Prop} (n sl : Nat) (f : Nat → mi_C) {l1 : Nat} {l2 : Int32} {l3 : Int32} {l4 : Int32} (h5 : mi_W d 61 0 (mi_en 1 [.int l4]) [] (n, sl, f) (mi_Kc d 118 17 [some (.ref l1), some (.int l2), some (.int l3), some (.int l4)] [] Q)) : mi_W (d + 1) 118 16 [some (.ref l1), some (.int l2), some (.int l3), some (.int l4)] [] (n, sl, f) Q := by
  refine w_iload_n cd_118_16 rfl ?_
  exact w_invokestatic cd_118_17 (show mt_m 0 118 = some (61, 4) by decide +kernel) (by decide) (rest := []) rfl (as := [.int l4]) rfl ⟨Nat.le_of_ble_eq_true rfl, Nat.le_of_ble_eq_true rfl, Nat.le_of_ble_eq_true rfl⟩ h5
theorem b_118_20 {d : Nat} {Q : (Option Value ⊕ Nat) → mi_H → Prop} (n sl : Nat) (f : Nat → mi_C) {l1 : Nat} {l2 : Int32} {l3 : Int32} {l4 : Int32} {s5 : Int32} (h6 : ¬ s5 = (0 : Int32) → mi_W d 118 33 [some (.ref l1), some (.int l2), some (.int l3), some (.int l4)] [] (n, sl, f) Q) (h7 : ¬ (¬ s5 = (0 : Int32)) → mi_W d 118 23 [some (.ref l1), some (.int l2), some (.int l3), some (.int l4)] [] (n, sl, f) Q) : mi_W d 118 20 [some (.ref l1), some (.int l2), some (.int l3), some (.int l4)] [.int s5] (n, sl, f) Q := by
  exact w_ifne cd_118_20 (by decide) h6 h7
theorem b_118_23 {d : Nat} {Q : (Option Value ⊕ Nat) → mi_H → Prop} (n sl : Nat) (f : Nat → mi_C) {l1 : Nat} {l2 : Int32} {l3 : Int32} {l4 : Int32} {h' : mi_H} (h5 : mi_t 118 23 (.new 123) [] (n, sl, f) = some h') (h6 : Q (.inr n) h') : mi_W d 118 23 [some (.ref l1), some (.int l2), some (.int l3), some (.int l4)] [] (n, sl, f) Q := by
  exact w_throw cd_118_23 (show mt_c 0 123 = some 15 by decide +kernel) (by decide) h5 h6
theorem b_118_33 {d : Nat} {Q : (Option Value ⊕ Nat) → mi_H → Prop} (n sl : Nat) (f : Nat → mi_C) {l1 : Nat} {l2 : Int32} {l3 : Int32} {l4 : Int32} (h5 : ¬ l2 = 1 → mi_W d 118 52 [some (.ref l1), some (.int l2), some (.int l3), some (.int l4)] [] (n, sl, f) Q) (h6 : ¬ (¬ l2 = 1) → mi_W d 118 38 [some (.ref l1), some (.int l2), some (.int l3), some (.int l4)] [] (n, sl, f) Q) : mi_W d 118 33 [some (.ref l1), some (.int l2), some (.int l3), some (.int l4)] [] (n, sl, f) Q := by
  refine w_iload_n cd_118_33 rfl ?_
  refine w_iconst (v := 1) cd_118_34 (by decide) ?_
  exact w_if_icmpne cd_118_35 (by decide) h5 h6
theorem b_118_38 {d : Nat} {Q : (Option Value ⊕ Nat) → mi_H → Prop} (n sl : Nat) (f : Nat → mi_C) {l1 : Nat} {l2 : Int32} {l3 : Int32} {l4 : Int32} {fs5 : List Value} {x8 : Nat} {fs10 : List Value} {x13 : Nat} (m15 i15 : Nat) (g15 : Nat → Int64) (h6 : f l1 = .inr (0, fs5)) (h7 : l1 < n) (h9 : fs5[3]? = some (.ref x8)) (h11 : f x8 = .inr (5, fs10)) (h12 : x8 < n) (h14 : fs10[0]? = some (.ref x13)) (h16 : f x13 = .inl (3, m15, .inr (.inl g15))) (h17 : x13 < n) (h18 : mi_ix ((l3 * 4) + l4) m15 i15) (h19 : Q (.inl (some (.long (g15 i15)))) (n, sl, f)) : mi_W d 118 38 [some (.ref l1), some (.int l2), some (.int l3), some (.int l4)] [] (n, sl, f) Q := by
  refine w_aload_n cd_118_38 rfl ?_
  refine w_getfield cd_118_39 (show mt_f 0 35 = some (0, 3) by decide +kernel) h6 h7 h9 ?_
  refine w_getfield cd_118_42 (show mt_f 0 128 = some (5, 0) by decide +kernel) h11 h12 h14 ?_
  refine w_iload_n cd_118_45 rfl ?_
  refine w_iconst (v := 4) cd_118_46 (by decide) ?_
  refine w_imul cd_118_47 ?_
  refine w_iload_n cd_118_48 rfl ?_
  refine w_iadd cd_118_49 ?_
  refine w_laload cd_118_50 h16 h17 h18 ?_
  exact w_lreturn cd_118_51 (by decide +kernel) h19
theorem b_118_52 {d : Nat} {Q : (Option Value ⊕ Nat) → mi_H → Prop} (n sl : Nat) (f : Nat → mi_C) {l1 : Nat} {l2 : Int32} {l3 : Int32} {l4 : Int32} {fs5 : List Value} (h6 : f l1 = .inr (0, fs5)) (h7 : l1 < n) (h8 : mi_W d 72 0 (mi_en 1 [.ref l1]) [] (n, sl, f) (mi_Kc d 118 53 [some (.ref l1), some (.int l2), some (.int l3), some (.int l4)] [] Q)) : mi_W (d + 1) 118 52 [some (.ref l1), some (.int l2), some (.int l3), some (.int l4)] [] (n, sl, f) Q := by
  refine w_aload_n cd_118_52 rfl ?_
  exact w_invokevirtual cd_118_53 (show mt_m 0 143 = some (72, 0) by decide +kernel) (rest := []) rfl (as := [.ref l1]) rfl h6 (Or.inl h7) ⟨Nat.le_of_ble_eq_true rfl, Nat.le_of_ble_eq_true rfl, Nat.le_of_ble_eq_true rfl⟩ h8
theorem b_118_56 {d : Nat} {Q : (Option Value ⊕ Nat) → mi_H → Prop} (n sl : Nat) (f : Nat → mi_C) {l1 : Nat} {l2 : Int32} {l3 : Int32} {l4 : Int32} {t5 : Nat} (h6 : mi_ts 57 65 0 3 #[31, 65, 45, 55] (l2 : Int32).toInt = some t5) (h7 : mi_W d 118 t5 [some (.ref l1), some (.int l2), some (.int l3), some (.int l4)] [] (n, sl, f) Q) : mi_W d 118 56 [some (.ref l1), some (.int l2), some (.int l3), some (.int l4)] [] (n, sl, f) Q := by
  refine w_iload_n cd_118_56 rfl ?_
  exact w_tableswitch cd_118_57 h6 h7
theorem b_118_88 {d : Nat} {Q : (Option Value ⊕ Nat) → mi_H → Prop} (n sl : Nat) (f : Nat → mi_C) {l1 : Nat} {l2 : Int32} {l3 : Int32} {l4 : Int32} {fs5 : List Value} {x8 : Nat} {fs10 : List Value} {x13 : Nat} (m15 i15 : Nat) (g15 : Nat → Int64) (h6 : f l1 = .inr (0, fs5)) (h7 : l1 < n) (h9 : fs5[7]? = some (.ref x8)) (h11 : f x8 = .inr (9, fs10)) (h12 : x8 < n) (h14 : fs10[2]? = some (.ref x13)) (h16 : f x13 = .inl (3, m15, .inr (.inl g15))) (h17 : x13 < n) (h18 : mi_ix ((l3 * 4) + l4) m15 i15) (h19 : Q (.inl (some (.long (g15 i15)))) (n, sl, f)) : mi_W d 118 88 [some (.ref l1), some (.int l2), some (.int l3), some (.int l4)] [] (n, sl, f) Q := by
  refine w_aload_n cd_118_88 rfl ?_
  refine w_getfield cd_118_89 (show mt_f 0 67 = some (0, 7) by decide +kernel) h6 h7 h9 ?_
  refine w_getfield cd_118_92 (show mt_f 0 193 = some (9, 2) by decide +kernel) h11 h12 h14 ?_
  refine w_iload_n cd_118_95 rfl ?_
  refine w_iconst (v := 4) cd_118_96 (by decide) ?_
  refine w_imul cd_118_97 ?_
  refine w_iload_n cd_118_98 rfl ?_
  refine w_iadd cd_118_99 ?_
  refine w_laload cd_118_100 h16 h17 h18 ?_
  exact w_lreturn cd_118_101 (by decide +kernel) h19
theorem b_118_102 {d : Nat} {Q : (Option Value ⊕ Nat) → mi_H → Prop} (n sl : Nat) (f : Nat → mi_C) {l1 : Nat} {l2 : Int32} {l3 : Int32} {l4 : Int32} {fs5 : List Value} {x8 : Nat} {fs10 : List Value} {x13 : Nat} (m15 i15 : Nat) (g15 : Nat → Int64) (h6 : f l1 = .inr (0, fs5)) (h7 : l1 < n) (h9 : fs5[7]? = some (.ref x8)) (h11 : f x8 = .inr (9, fs10)) (h12 : x8 < n) (h14 : fs10[3]? = some (.ref x13)) (h16 : f x13 = .inl (3, m15, .inr (.inl g15))) (h17 : x13 < n) (h18 : mi_ix l3 m15 i15) (h19 : Q (.inl (some (.long (g15 i15)))) (n, sl, f)) : mi_W d 118 102 [some (.ref l1), some (.int l2), some (.int l3), some (.int l4)] [] (n, sl, f) Q := by
  refine w_aload_n cd_118_102 rfl ?_
  refine w_getfield cd_118_103 (show mt_f 0 67 = some (0, 7) by decide +kernel) h6 h7 h9 ?_
  refine w_getfield cd_118_106 (show mt_f 0 196 = some (9, 3) by decide +kernel) h11 h12 h14 ?_
  refine w_iload_n cd_118_109 rfl ?_
  refine w_laload cd_118_110 h16 h17 h18 ?_
  exact w_lreturn cd_118_111 (by decide +kernel) h19
theorem b_118_112 {d : Nat} {Q : (Option Value ⊕ Nat) → mi_H → Prop} (n sl : Nat) (f : Nat → mi_C) {l1 : Nat} {l2 : Int32} {l3 : Int32} {l4 : Int32} {fs5 : List Value} {x8 : Nat} {fs10 : List Value} {x13 : Nat} (m15 i15 : Nat) (g15 : Nat → Int64) (h6 : f l1 = .inr (0, fs5)) (h7 : l1 < n) (h9 : fs5[7]? = some (.ref x8)) (h11 : f x8 = .inr (9, fs10)) (h12 : x8 < n) (h14 : fs10[4]? = some (.ref x13)) (h16 : f x13 = .inl (3, m15, .inr (.inl g15))) (h17 : x13 < n) (h18 : mi_ix l3 m15 i15) (h19 : Q (.inl (some (.long (g15 i15)))) (n, sl, f)) : mi_W d 118 112 [some (.ref l1), some (.int l2), some (.int l3), some (.int l4)] [] (n, sl, f) Q := by
  refine w_aload_n cd_118_112 rfl ?_
  refine w_getfield cd_118_113 (show mt_f 0 67 = some (0, 7) by decide +kernel) h6 h7 h9 ?_
  refine w_getfield cd_118_116 (show mt_f 0 199 = some (9, 4) by decide +kernel) h11 h12 h14 ?_
  refine w_iload_n cd_118_119 rfl ?_
  refine w_laload cd_118_120 h16 h17 h18 ?_
  exact w_lreturn cd_118_121 (by decide +kernel) h19
theorem b_118_122 {d : Nat} {Q : (Option Value ⊕ Nat) → mi_H → Prop} (n sl : Nat) (f : Nat → mi_C) {l1 : Nat} {l2 : Int32} {l3 : Int32} {l4 : Int32} {fs5 : List Value} {x8 : Nat} {fs10 : List Value} {x13 : Int64} (h6 : f l1 = .inr (0, fs5)) (h7 : l1 < n) (h9 : fs5[7]? = some (.ref x8)) (h11 : f x8 = .inr (9, fs10)) (h12 : x8 < n) (h14 : fs10[1]? = some (.long x13)) (h15 : Q (.inl (some (.long x13))) (n, sl, f)) : mi_W d 118 122 [some (.ref l1), some (.int l2), some (.int l3), some (.int l4)] [] (n, sl, f) Q := by
  refine w_aload_n cd_118_122 rfl ?_
  refine w_getfield cd_118_123 (show mt_f 0 67 = some (0, 7) by decide +kernel) h6 h7 h9 ?_
  refine w_getfield cd_118_126 (show mt_f 0 202 = some (9, 1) by decide +kernel) h11 h12 h14 ?_
  exact w_lreturn cd_118_129 (by decide +kernel) h15
/-! MarloweHostLaw.analyse(LMarloweHost;[J)I -/
set_option maxRecDepth 100000 in
theorem mq_119 : mt_q 119 = my_119 := rfl
set_option maxRecDepth 100000 in
theorem ci_119 : mt_inc 0 my_119.cd = true := by decide +kernel
theorem cd_119_0 : mt_cd 119 0 = some (.aload_n 1) := mt_cd_of (q := (0, .aload_n 1, 1)) mq_119 ci_119 (List.mem_of_getElem? (i := 0) rfl)
theorem cd_119_1 : mt_cd 119 1 = some (.iconst 0) := mt_cd_of (q := (1, .iconst 0, 1)) mq_119 ci_119 (List.mem_of_getElem? (i := 1) rfl)
theorem cd_119_2 : mt_cd 119 2 = some (.aload_n 0) := mt_cd_of (q := (2, .aload_n 0, 1)) mq_119 ci_119 (List.mem_of_getElem? (i := 2) rfl)
theorem cd_119_3 : mt_cd 119 3 = some (.invokevirtual 55) := mt_cd_of (q := (3, .invokevirtual 55, 3)) mq_119 ci_119 (List.mem_of_getElem? (i := 3) rfl)
theorem cd_119_6 : mt_cd 119 6 = some (.i2l) := mt_cd_of (q := (6, .i2l, 1)) mq_119 ci_119 (List.mem_of_getElem? (i := 4) rfl)
theorem cd_119_7 : mt_cd 119 7 = some (.lastore) := mt_cd_of (q := (7, .lastore, 1)) mq_119 ci_119 (List.mem_of_getElem? (i := 5) rfl)
theorem cd_119_8 : mt_cd 119 8 = some (.goto 6) := mt_cd_of (q := (8, .goto 6, 3)) mq_119 ci_119 (List.mem_of_getElem? (i := 6) rfl)
theorem cd_119_11 : mt_cd 119 11 = some (.astore_n 2) := mt_cd_of (q := (11, .astore_n 2, 1)) mq_119 ci_119 (List.mem_of_getElem? (i := 7) rfl)
theorem cd_119_12 : mt_cd 119 12 = some (.iconst 1) := mt_cd_of (q := (12, .iconst 1, 1)) mq_119 ci_119 (List.mem_of_getElem? (i := 8) rfl)
theorem cd_119_13 : mt_cd 119 13 = some (.ireturn) := mt_cd_of (q := (13, .ireturn, 1)) mq_119 ci_119 (List.mem_of_getElem? (i := 9) rfl)
theorem cd_119_14 : mt_cd 119 14 = some (.iconst 0) := mt_cd_of (q := (14, .iconst 0, 1)) mq_119 ci_119 (List.mem_of_getElem? (i := 10) rfl)
theorem cd_119_15 : mt_cd 119 15 = some (.ireturn) := mt_cd_of (q := (15, .ireturn, 1)) mq_119 ci_119 (List.mem_of_getElem? (i := 11) rfl)
theorem b_119_0 {d : Nat} {Q : (Option Value ⊕ Nat) → mi_H → Prop} (n sl : Nat) (f : Nat → mi_C) {l1 : Nat} {l2 : Nat} {o3 : Option Value} {fs4 : List Value} (h5 : f l1 = .inr (0, fs4)) (h6 : l1 < n) (h7 : mi_W d 120 0 (mi_en 1 [.ref l1]) [] (n, sl, f) (mi_Kc d 119 3 [some (.ref l1), some (.ref l2), o3] [.int 0, .ref l2] Q)) : mi_W (d + 1) 119 0 [some (.ref l1), some (.ref l2), o3] [] (n, sl, f) Q := by
  refine w_aload_n cd_119_0 rfl ?_
  refine w_iconst (v := 0) cd_119_1 (by decide) ?_
  refine w_aload_n cd_119_2 rfl ?_
  exact w_invokevirtual cd_119_3 (show mt_m 18 55 = some (120, 0) by decide +kernel) (rest := [.int 0, .ref l2]) rfl (as := [.ref l1]) rfl h5 (Or.inl h6) ⟨Nat.le_of_ble_eq_true rfl, Nat.le_of_ble_eq_true rfl, Nat.le_of_ble_eq_true rfl⟩ h7
theorem b_119_6 {d : Nat} {Q : (Option Value ⊕ Nat) → mi_H → Prop} (n sl : Nat) (f : Nat → mi_C) {l1 : Nat} {l2 : Nat} {o3 : Option Value} {s4 : Int32} {s5 : Int32} {s6 : Nat} (m7 i7 : Nat) (g7 : Nat → Int64) (h8 : f s6 = .inl (3, m7, .inr (.inl g7))) (h9 : s6 < n) (h10 : mi_ix s5 m7 i7) (h11 : mi_W d 119 14 [some (.ref l1), some (.ref l2), o3] [] (n, sl, (va_up f s6 (.inl (3, m7, .inr (.inl (vp_updL g7 i7 ((s4 : Int32).toInt64))))))) Q) : mi_W d 119 6 [some (.ref l1), some (.ref l2), o3] [.int s4, .int s5, .ref s6] (n, sl, f) Q := by
  refine w_i2l cd_119_6 ?_
  refine w_lastore cd_119_7 h8 h9 h10 ?_
  exact w_goto cd_119_8 (by decide) h11
theorem b_119_11 {d : Nat} {Q : (Option Value ⊕ Nat) → mi_H → Prop} (n sl : Nat) (f : Nat → mi_C) {l1 : Nat} {l2 : Nat} {o3 : Option Value} {s4 : Nat} (h5 : Q (.inl (some (.int 1))) (n, sl, f)) : mi_W d 119 11 [some (.ref l1), some (.ref l2), o3] [.ref s4] (n, sl, f) Q := by
  refine w_astore_n (ls' := [some (.ref l1), some (.ref l2), some (.ref s4)]) cd_119_11 (Nat.le_of_ble_eq_true rfl) rfl ?_
  refine w_iconst (v := 1) cd_119_12 (by decide) ?_
  exact w_ireturn_i cd_119_13 (by decide +kernel) h5
theorem b_119_14 {d : Nat} {Q : (Option Value ⊕ Nat) → mi_H → Prop} (n sl : Nat) (f : Nat → mi_C) {l1 : Nat} {l2 : Nat} {o3 : Option Value} (h4 : Q (.inl (some (.int 0))) (n, sl, f)) : mi_W d 119 14 [some (.ref l1), some (.ref l2), o3] [] (n, sl, f) Q := by
  refine w_iconst (v := 0) cd_119_14 (by decide) ?_
  exact w_ireturn_i cd_119_15 (by decide +kernel) h4
/-! MarloweHost.analyse()I -/
set_option maxRecDepth 100000 in
theorem mq_120 : mt_q 120 = my_120 := rfl
set_option maxRecDepth 100000 in
theorem ci_120 : mt_inc 0 my_120.cd = true := by decide +kernel
theorem cd_120_0 : mt_cd 120 0 = some (.aload_n 0) := mt_cd_of (q := (0, .aload_n 0, 1)) mq_120 ci_120 (List.mem_of_getElem? (i := 0) rfl)
theorem cd_120_1 : mt_cd 120 1 = some (.invokevirtual 143) := mt_cd_of (q := (1, .invokevirtual 143, 3)) mq_120 ci_120 (List.mem_of_getElem? (i := 1) rfl)
theorem cd_120_4 : mt_cd 120 4 = some (.aload_n 0) := mt_cd_of (q := (4, .aload_n 0, 1)) mq_120 ci_120 (List.mem_of_getElem? (i := 2) rfl)
theorem cd_120_5 : mt_cd 120 5 = some (.getfield 60) := mt_cd_of (q := (5, .getfield 60, 3)) mq_120 ci_120 (List.mem_of_getElem? (i := 3) rfl)
theorem cd_120_8 : mt_cd 120 8 = some (.aload_n 0) := mt_cd_of (q := (8, .aload_n 0, 1)) mq_120 ci_120 (List.mem_of_getElem? (i := 4) rfl)
theorem cd_120_9 : mt_cd 120 9 = some (.getfield 67) := mt_cd_of (q := (9, .getfield 67, 3)) mq_120 ci_120 (List.mem_of_getElem? (i := 5) rfl)
theorem cd_120_12 : mt_cd 120 12 = some (.invokevirtual 206) := mt_cd_of (q := (12, .invokevirtual 206, 3)) mq_120 ci_120 (List.mem_of_getElem? (i := 6) rfl)
theorem cd_120_15 : mt_cd 120 15 = some (.ireturn) := mt_cd_of (q := (15, .ireturn, 1)) mq_120 ci_120 (List.mem_of_getElem? (i := 7) rfl)
theorem b_120_0 {d : Nat} {Q : (Option Value ⊕ Nat) → mi_H → Prop} (n sl : Nat) (f : Nat → mi_C) {l1 : Nat} {fs2 : List Value} (h3 : f l1 = .inr (0, fs2)) (h4 : l1 < n) (h5 : mi_W d 72 0 (mi_en 1 [.ref l1]) [] (n, sl, f) (mi_Kc d 120 1 [some (.ref l1)] [] Q)) : mi_W (d + 1) 120 0 [some (.ref l1)] [] (n, sl, f) Q := by
  refine w_aload_n cd_120_0 rfl ?_
  exact w_invokevirtual cd_120_1 (show mt_m 0 143 = some (72, 0) by decide +kernel) (rest := []) rfl (as := [.ref l1]) rfl h3 (Or.inl h4) ⟨Nat.le_of_ble_eq_true rfl, Nat.le_of_ble_eq_true rfl, Nat.le_of_ble_eq_true rfl⟩ h5
theorem b_120_4 {d : Nat} {Q : (Option Value ⊕ Nat) → mi_H → Prop} (n sl : Nat) (f : Nat → mi_C) {l1 : Nat} {fs2 : List Value} {x5 : Nat} {fs7 : List Value} {x10 : Nat} {fs12 : List Value} (h3 : f l1 = .inr (0, fs2)) (h4 : l1 < n) (h6 : fs2[6]? = some (.ref x5)) (h8 : f l1 = .inr (0, fs7)) (h9 : l1 < n) (h11 : fs7[7]? = some (.ref x10)) (h13 : f x5 = .inr (11, fs12)) (h14 : x5 < n) (h15 : mi_W d 121 0 (mi_en 4 [.ref x5, .ref x10]) [] (n, sl, f) (mi_Kc d 120 12 [some (.ref l1)] [] Q)) : mi_W (d + 1) 120 4 [some (.ref l1)] [] (n, sl, f) Q := by
  refine w_aload_n cd_120_4 rfl ?_
  refine w_getfield cd_120_5 (show mt_f 0 60 = some (0, 6) by decide +kernel) h3 h4 h6 ?_
  refine w_aload_n cd_120_8 rfl ?_
  refine w_getfield cd_120_9 (show mt_f 0 67 = some (0, 7) by decide +kernel) h8 h9 h11 ?_
  exact w_invokevirtual cd_120_12 (show mt_m 0 206 = some (121, 0) by decide +kernel) (rest := []) rfl (as := [.ref x5, .ref x10]) rfl h13 (Or.inl h14) ⟨Nat.le_of_ble_eq_true rfl, Nat.le_of_ble_eq_true rfl, Nat.le_of_ble_eq_true rfl⟩ h15
theorem b_120_15 {d : Nat} {Q : (Option Value ⊕ Nat) → mi_H → Prop} (n sl : Nat) (f : Nat → mi_C) {l1 : Nat} {s2 : Int32} (h3 : Q (.inl (some (.int s2))) (n, sl, f)) : mi_W d 120 15 [some (.ref l1)] [.int s2] (n, sl, f) Q := by
  exact w_ireturn_i cd_120_15 (by decide +kernel) h3
/-! MarloweHost$Analyser.look(LMarloweHost$Situation;)I -/
set_option maxRecDepth 100000 in
theorem mq_121 : mt_q 121 = my_121 := rfl
set_option maxRecDepth 100000 in
theorem ci_121 : mt_inc 0 my_121.cd = true := by decide +kernel
theorem cd_121_0 : mt_cd 121 0 = some (.aload_n 0) := mt_cd_of (q := (0, .aload_n 0, 1)) mq_121 ci_121 (List.mem_of_getElem? (i := 0) rfl)
theorem cd_121_1 : mt_cd 121 1 = some (.iconst 0) := mt_cd_of (q := (1, .iconst 0, 1)) mq_121 ci_121 (List.mem_of_getElem? (i := 1) rfl)
theorem cd_121_2 : mt_cd 121 2 = some (.putfield 64) := mt_cd_of (q := (2, .putfield 64, 3)) mq_121 ci_121 (List.mem_of_getElem? (i := 2) rfl)
theorem cd_121_5 : mt_cd 121 5 = some (.aload_n 0) := mt_cd_of (q := (5, .aload_n 0, 1)) mq_121 ci_121 (List.mem_of_getElem? (i := 3) rfl)
theorem cd_121_6 : mt_cd 121 6 = some (.iconst 0) := mt_cd_of (q := (6, .iconst 0, 1)) mq_121 ci_121 (List.mem_of_getElem? (i := 4) rfl)
theorem cd_121_7 : mt_cd 121 7 = some (.putfield 68) := mt_cd_of (q := (7, .putfield 68, 3)) mq_121 ci_121 (List.mem_of_getElem? (i := 5) rfl)
theorem cd_121_10 : mt_cd 121 10 = some (.aload_n 0) := mt_cd_of (q := (10, .aload_n 0, 1)) mq_121 ci_121 (List.mem_of_getElem? (i := 6) rfl)
theorem cd_121_11 : mt_cd 121 11 = some (.getfield 41) := mt_cd_of (q := (11, .getfield 41, 3)) mq_121 ci_121 (List.mem_of_getElem? (i := 7) rfl)
theorem cd_121_14 : mt_cd 121 14 = some (.aload_n 1) := mt_cd_of (q := (14, .aload_n 1, 1)) mq_121 ci_121 (List.mem_of_getElem? (i := 8) rfl)
theorem cd_121_15 : mt_cd 121 15 = some (.getfield 71) := mt_cd_of (q := (15, .getfield 71, 3)) mq_121 ci_121 (List.mem_of_getElem? (i := 9) rfl)
theorem cd_121_18 : mt_cd 121 18 = some (.invokevirtual 74) := mt_cd_of (q := (18, .invokevirtual 74, 3)) mq_121 ci_121 (List.mem_of_getElem? (i := 10) rfl)
theorem cd_121_21 : mt_cd 121 21 = some (.ifCond .eq 5) := mt_cd_of (q := (21, .ifCond .eq 5, 3)) mq_121 ci_121 (List.mem_of_getElem? (i := 11) rfl)
theorem cd_121_24 : mt_cd 121 24 = some (.iconst 3) := mt_cd_of (q := (24, .iconst 3, 1)) mq_121 ci_121 (List.mem_of_getElem? (i := 12) rfl)
theorem cd_121_25 : mt_cd 121 25 = some (.ireturn) := mt_cd_of (q := (25, .ireturn, 1)) mq_121 ci_121 (List.mem_of_getElem? (i := 13) rfl)
theorem cd_121_26 : mt_cd 121 26 = some (.iconst 0) := mt_cd_of (q := (26, .iconst 0, 1)) mq_121 ci_121 (List.mem_of_getElem? (i := 14) rfl)
theorem cd_121_27 : mt_cd 121 27 = some (.istore_n 2) := mt_cd_of (q := (27, .istore_n 2, 1)) mq_121 ci_121 (List.mem_of_getElem? (i := 15) rfl)
theorem cd_121_28 : mt_cd 121 28 = some (.aload_n 0) := mt_cd_of (q := (28, .aload_n 0, 1)) mq_121 ci_121 (List.mem_of_getElem? (i := 16) rfl)
theorem cd_121_29 : mt_cd 121 29 = some (.getfield 20) := mt_cd_of (q := (29, .getfield 20, 3)) mq_121 ci_121 (List.mem_of_getElem? (i := 17) rfl)
theorem cd_121_32 : mt_cd 121 32 = some (.iload_n 2) := mt_cd_of (q := (32, .iload_n 2, 1)) mq_121 ci_121 (List.mem_of_getElem? (i := 18) rfl)
theorem cd_121_33 : mt_cd 121 33 = some (.aaload) := mt_cd_of (q := (33, .aaload, 1)) mq_121 ci_121 (List.mem_of_getElem? (i := 19) rfl)
theorem cd_121_34 : mt_cd 121 34 = some (.aload_n 1) := mt_cd_of (q := (34, .aload_n 1, 1)) mq_121 ci_121 (List.mem_of_getElem? (i := 20) rfl)
theorem cd_121_35 : mt_cd 121 35 = some (.invokevirtual 80) := mt_cd_of (q := (35, .invokevirtual 80, 3)) mq_121 ci_121 (List.mem_of_getElem? (i := 21) rfl)
theorem cd_121_38 : mt_cd 121 38 = some (.aload_n 0) := mt_cd_of (q := (38, .aload_n 0, 1)) mq_121 ci_121 (List.mem_of_getElem? (i := 22) rfl)
theorem cd_121_39 : mt_cd 121 39 = some (.getfield 24) := mt_cd_of (q := (39, .getfield 24, 3)) mq_121 ci_121 (List.mem_of_getElem? (i := 23) rfl)
theorem cd_121_42 : mt_cd 121 42 = some (.iload_n 2) := mt_cd_of (q := (42, .iload_n 2, 1)) mq_121 ci_121 (List.mem_of_getElem? (i := 24) rfl)
theorem cd_121_43 : mt_cd 121 43 = some (.bipush (-3)) := mt_cd_of (q := (43, .bipush (-3), 2)) mq_121 ci_121 (List.mem_of_getElem? (i := 25) rfl)
theorem cd_121_45 : mt_cd 121 45 = some (.iastore) := mt_cd_of (q := (45, .iastore, 1)) mq_121 ci_121 (List.mem_of_getElem? (i := 26) rfl)
theorem cd_121_46 : mt_cd 121 46 = some (.iconst 0) := mt_cd_of (q := (46, .iconst 0, 1)) mq_121 ci_121 (List.mem_of_getElem? (i := 27) rfl)
theorem cd_121_47 : mt_cd 121 47 = some (.istore_n 3) := mt_cd_of (q := (47, .istore_n 3, 1)) mq_121 ci_121 (List.mem_of_getElem? (i := 28) rfl)
theorem cd_121_48 : mt_cd 121 48 = some (.iload_n 3) := mt_cd_of (q := (48, .iload_n 3, 1)) mq_121 ci_121 (List.mem_of_getElem? (i := 29) rfl)
theorem cd_121_49 : mt_cd 121 49 = some (.sipush 20000) := mt_cd_of (q := (49, .sipush 20000, 3)) mq_121 ci_121 (List.mem_of_getElem? (i := 30) rfl)
theorem cd_121_52 : mt_cd 121 52 = some (.if_icmp .ge 99) := mt_cd_of (q := (52, .if_icmp .ge 99, 3)) mq_121 ci_121 (List.mem_of_getElem? (i := 31) rfl)
theorem cd_121_55 : mt_cd 121 55 = some (.iload_n 2) := mt_cd_of (q := (55, .iload_n 2, 1)) mq_121 ci_121 (List.mem_of_getElem? (i := 32) rfl)
theorem cd_121_56 : mt_cd 121 56 = some (.ifCond .lt 95) := mt_cd_of (q := (56, .ifCond .lt 95, 3)) mq_121 ci_121 (List.mem_of_getElem? (i := 33) rfl)
theorem cd_121_59 : mt_cd 121 59 = some (.iload_n 2) := mt_cd_of (q := (59, .iload_n 2, 1)) mq_121 ci_121 (List.mem_of_getElem? (i := 34) rfl)
theorem cd_121_60 : mt_cd 121 60 = some (.iconst 1) := mt_cd_of (q := (60, .iconst 1, 1)) mq_121 ci_121 (List.mem_of_getElem? (i := 35) rfl)
theorem cd_121_61 : mt_cd 121 61 = some (.iadd) := mt_cd_of (q := (61, .iadd, 1)) mq_121 ci_121 (List.mem_of_getElem? (i := 36) rfl)
theorem cd_121_62 : mt_cd 121 62 = some (.bipush 104) := mt_cd_of (q := (62, .bipush 104, 2)) mq_121 ci_121 (List.mem_of_getElem? (i := 37) rfl)
theorem cd_121_64 : mt_cd 121 64 = some (.if_icmp .ge 11) := mt_cd_of (q := (64, .if_icmp .ge 11, 3)) mq_121 ci_121 (List.mem_of_getElem? (i := 38) rfl)
theorem cd_121_67 : mt_cd 121 67 = some (.aload_n 0) := mt_cd_of (q := (67, .aload_n 0, 1)) mq_121 ci_121 (List.mem_of_getElem? (i := 39) rfl)
theorem cd_121_68 : mt_cd 121 68 = some (.iload_n 2) := mt_cd_of (q := (68, .iload_n 2, 1)) mq_121 ci_121 (List.mem_of_getElem? (i := 40) rfl)
theorem cd_121_69 : mt_cd 121 69 = some (.invokevirtual 84) := mt_cd_of (q := (69, .invokevirtual 84, 3)) mq_121 ci_121 (List.mem_of_getElem? (i := 41) rfl)
theorem cd_121_72 : mt_cd 121 72 = some (.ifCond .ne 9) := mt_cd_of (q := (72, .ifCond .ne 9, 3)) mq_121 ci_121 (List.mem_of_getElem? (i := 42) rfl)
theorem cd_121_75 : mt_cd 121 75 = some (.iinc 2 (-1)) := mt_cd_of (q := (75, .iinc 2 (-1), 3)) mq_121 ci_121 (List.mem_of_getElem? (i := 43) rfl)
theorem cd_121_78 : mt_cd 121 78 = some (.goto 67) := mt_cd_of (q := (78, .goto 67, 3)) mq_121 ci_121 (List.mem_of_getElem? (i := 44) rfl)
theorem cd_121_81 : mt_cd 121 81 = some (.aload_n 0) := mt_cd_of (q := (81, .aload_n 0, 1)) mq_121 ci_121 (List.mem_of_getElem? (i := 45) rfl)
theorem cd_121_82 : mt_cd 121 82 = some (.dup) := mt_cd_of (q := (82, .dup, 1)) mq_121 ci_121 (List.mem_of_getElem? (i := 46) rfl)
theorem cd_121_83 : mt_cd 121 83 = some (.getfield 64) := mt_cd_of (q := (83, .getfield 64, 3)) mq_121 ci_121 (List.mem_of_getElem? (i := 47) rfl)
theorem cd_121_86 : mt_cd 121 86 = some (.iconst 1) := mt_cd_of (q := (86, .iconst 1, 1)) mq_121 ci_121 (List.mem_of_getElem? (i := 48) rfl)
theorem cd_121_87 : mt_cd 121 87 = some (.iadd) := mt_cd_of (q := (87, .iadd, 1)) mq_121 ci_121 (List.mem_of_getElem? (i := 49) rfl)
theorem cd_121_88 : mt_cd 121 88 = some (.putfield 64) := mt_cd_of (q := (88, .putfield 64, 3)) mq_121 ci_121 (List.mem_of_getElem? (i := 50) rfl)
theorem cd_121_91 : mt_cd 121 91 = some (.aload_n 0) := mt_cd_of (q := (91, .aload_n 0, 1)) mq_121 ci_121 (List.mem_of_getElem? (i := 51) rfl)
theorem cd_121_92 : mt_cd 121 92 = some (.getfield 64) := mt_cd_of (q := (92, .getfield 64, 3)) mq_121 ci_121 (List.mem_of_getElem? (i := 52) rfl)
theorem cd_121_95 : mt_cd 121 95 = some (.sipush 5000) := mt_cd_of (q := (95, .sipush 5000, 3)) mq_121 ci_121 (List.mem_of_getElem? (i := 53) rfl)
theorem cd_121_98 : mt_cd 121 98 = some (.if_icmp .le 5) := mt_cd_of (q := (98, .if_icmp .le 5, 3)) mq_121 ci_121 (List.mem_of_getElem? (i := 54) rfl)
theorem cd_121_101 : mt_cd 121 101 = some (.iconst 2) := mt_cd_of (q := (101, .iconst 2, 1)) mq_121 ci_121 (List.mem_of_getElem? (i := 55) rfl)
theorem cd_121_102 : mt_cd 121 102 = some (.ireturn) := mt_cd_of (q := (102, .ireturn, 1)) mq_121 ci_121 (List.mem_of_getElem? (i := 56) rfl)
theorem cd_121_103 : mt_cd 121 103 = some (.aload_n 0) := mt_cd_of (q := (103, .aload_n 0, 1)) mq_121 ci_121 (List.mem_of_getElem? (i := 57) rfl)
theorem cd_121_104 : mt_cd 121 104 = some (.iload_n 2) := mt_cd_of (q := (104, .iload_n 2, 1)) mq_121 ci_121 (List.mem_of_getElem? (i := 58) rfl)
theorem cd_121_105 : mt_cd 121 105 = some (.invokevirtual 87) := mt_cd_of (q := (105, .invokevirtual 87, 3)) mq_121 ci_121 (List.mem_of_getElem? (i := 59) rfl)
theorem cd_121_108 : mt_cd 121 108 = some (.ifCond .ne 6) := mt_cd_of (q := (108, .ifCond .ne 6, 3)) mq_121 ci_121 (List.mem_of_getElem? (i := 60) rfl)
theorem cd_121_111 : mt_cd 121 111 = some (.goto 34) := mt_cd_of (q := (111, .goto 34, 3)) mq_121 ci_121 (List.mem_of_getElem? (i := 61) rfl)
theorem cd_121_114 : mt_cd 121 114 = some (.iinc 2 1) := mt_cd_of (q := (114, .iinc 2 1, 3)) mq_121 ci_121 (List.mem_of_getElem? (i := 62) rfl)
theorem cd_121_117 : mt_cd 121 117 = some (.aload_n 0) := mt_cd_of (q := (117, .aload_n 0, 1)) mq_121 ci_121 (List.mem_of_getElem? (i := 63) rfl)
theorem cd_121_118 : mt_cd 121 118 = some (.getfield 50) := mt_cd_of (q := (118, .getfield 50, 3)) mq_121 ci_121 (List.mem_of_getElem? (i := 64) rfl)
theorem cd_121_121 : mt_cd 121 121 = some (.getfield 90) := mt_cd_of (q := (121, .getfield 90, 3)) mq_121 ci_121 (List.mem_of_getElem? (i := 65) rfl)
theorem cd_121_124 : mt_cd 121 124 = some (.getfield 94) := mt_cd_of (q := (124, .getfield 94, 3)) mq_121 ci_121 (List.mem_of_getElem? (i := 66) rfl)
theorem cd_121_127 : mt_cd 121 127 = some (.ifCond .le 10) := mt_cd_of (q := (127, .ifCond .le 10, 3)) mq_121 ci_121 (List.mem_of_getElem? (i := 67) rfl)
theorem cd_121_130 : mt_cd 121 130 = some (.aload_n 0) := mt_cd_of (q := (130, .aload_n 0, 1)) mq_121 ci_121 (List.mem_of_getElem? (i := 68) rfl)
theorem cd_121_131 : mt_cd 121 131 = some (.iload_n 2) := mt_cd_of (q := (131, .iload_n 2, 1)) mq_121 ci_121 (List.mem_of_getElem? (i := 69) rfl)
theorem cd_121_132 : mt_cd 121 132 = some (.putfield 68) := mt_cd_of (q := (132, .putfield 68, 3)) mq_121 ci_121 (List.mem_of_getElem? (i := 70) rfl)
theorem cd_121_135 : mt_cd 121 135 = some (.iconst 1) := mt_cd_of (q := (135, .iconst 1, 1)) mq_121 ci_121 (List.mem_of_getElem? (i := 71) rfl)
theorem cd_121_136 : mt_cd 121 136 = some (.ireturn) := mt_cd_of (q := (136, .ireturn, 1)) mq_121 ci_121 (List.mem_of_getElem? (i := 72) rfl)
theorem cd_121_137 : mt_cd 121 137 = some (.aload_n 0) := mt_cd_of (q := (137, .aload_n 0, 1)) mq_121 ci_121 (List.mem_of_getElem? (i := 73) rfl)
theorem cd_121_138 : mt_cd 121 138 = some (.getfield 24) := mt_cd_of (q := (138, .getfield 24, 3)) mq_121 ci_121 (List.mem_of_getElem? (i := 74) rfl)
theorem cd_121_141 : mt_cd 121 141 = some (.iload_n 2) := mt_cd_of (q := (141, .iload_n 2, 1)) mq_121 ci_121 (List.mem_of_getElem? (i := 75) rfl)
theorem cd_121_142 : mt_cd 121 142 = some (.bipush (-3)) := mt_cd_of (q := (142, .bipush (-3), 2)) mq_121 ci_121 (List.mem_of_getElem? (i := 76) rfl)
theorem cd_121_144 : mt_cd 121 144 = some (.iastore) := mt_cd_of (q := (144, .iastore, 1)) mq_121 ci_121 (List.mem_of_getElem? (i := 77) rfl)
theorem cd_121_145 : mt_cd 121 145 = some (.iinc 3 1) := mt_cd_of (q := (145, .iinc 3 1, 3)) mq_121 ci_121 (List.mem_of_getElem? (i := 78) rfl)
theorem cd_121_148 : mt_cd 121 148 = some (.goto (-100)) := mt_cd_of (q := (148, .goto (-100), 3)) mq_121 ci_121 (List.mem_of_getElem? (i := 79) rfl)
theorem cd_121_151 : mt_cd 121 151 = some (.iconst 0) := mt_cd_of (q := (151, .iconst 0, 1)) mq_121 ci_121 (List.mem_of_getElem? (i := 80) rfl)
theorem cd_121_152 : mt_cd 121 152 = some (.ireturn) := mt_cd_of (q := (152, .ireturn, 1)) mq_121 ci_121 (List.mem_of_getElem? (i := 81) rfl)
theorem b_121_0 {d : Nat} {Q : (Option Value ⊕ Nat) → mi_H → Prop} (n sl : Nat) (f : Nat → mi_C) {l1 : Nat} {l2 : Nat} {o3 : Option Value} {o4 : Option Value} {fs5 : List Value} {fs9 : List Value} {fs13 : List Value} {x16 : Nat} {fs18 : List Value} {x21 : Int32} {fs23 : List Value} (h6 : f l1 = .inr (11, fs5)) (h7 : l1 < n) (h8 : 10 < fs5.length) (h10 : (va_up f l1 (.inr (11, fs5.set 10 (.int 0)))) l1 = .inr (11, fs9)) (h11 : l1 < n) (h12 : 11 < fs9.length) (h14 : (va_up (va_up f l1 (.inr (11, fs5.set 10 (.int 0)))) l1 (.inr (11, fs9.set 11 (.int 0)))) l1 = .inr (11, fs13)) (h15 : l1 < n) (h17 : fs13[0]? = some (.ref x16)) (h19 : (va_up (va_up f l1 (.inr (11, fs5.set 10 (.int 0)))) l1 (.inr (11, fs9.set 11 (.int 0)))) l2 = .inr (9, fs18)) (h20 : l2 < n) (h22 : fs18[0]? = some (.int x21)) (h24 : (va_up (va_up f l1 (.inr (11, fs5.set 10 (.int 0)))) l1 (.inr (11, fs9.set 11 (.int 0)))) x16 = .inr (2, fs23)) (h25 : x16 < n) (h26 : mi_W d 122 0 (mi_en 5 [.ref x16, .int x21]) [] (n, sl, (va_up (va_up f l1 (.inr (11, fs5.set 10 (.int 0)))) l1 (.inr (11, fs9.set 11 (.int 0))))) (mi_Kc d 121 18 [some (.ref l1), some (.ref l2), o3, o4] [] Q)) : mi_W (d + 1) 121 0 [some (.ref l1), some (.ref l2), o3, o4] [] (n, sl, f) Q := by
  refine w_aload_n cd_121_0 rfl ?_
  refine w_iconst (v := 0) cd_121_1 (by decide) ?_
  refine w_putfield (w := .int 0) cd_121_2 (show mt_f 11 64 = some (11, 10) by decide +kernel) h6 h7 ⟨h8, rfl, Or.inl (by decide)⟩ ?_
  refine w_aload_n cd_121_5 rfl ?_
  refine w_iconst (v := 0) cd_121_6 (by decide) ?_
  refine w_putfield (w := .int 0) cd_121_7 (show mt_f 11 68 = some (11, 11) by decide +kernel) h10 h11 ⟨h12, rfl, Or.inl (by decide)⟩ ?_
  refine w_aload_n cd_121_10 rfl ?_
  refine w_getfield cd_121_11 (show mt_f 11 41 = some (11, 0) by decide +kernel) h14 h15 h17 ?_
  refine w_aload_n cd_121_14 rfl ?_
  refine w_getfield cd_121_15 (show mt_f 11 71 = some (9, 0) by decide +kernel) h19 h20 h22 ?_
  exact w_invokevirtual cd_121_18 (show mt_m 11 74 = some (122, 0) by decide +kernel) (rest := []) rfl (as := [.ref x16, .int x21]) rfl h24 (Or.inl h25) ⟨Nat.le_of_ble_eq_true rfl, Nat.le_of_ble_eq_true rfl, Nat.le_of_ble_eq_true rfl⟩ h26
theorem b_121_21 {d : Nat} {Q : (Option Value ⊕ Nat) → mi_H → Prop} (n sl : Nat) (f : Nat → mi_C) {l1 : Nat} {l2 : Nat} {o3 : Option Value} {o4 : Option Value} {s5 : Int32} (h6 : s5 = (0 : Int32) → mi_W d 121 26 [some (.ref l1), some (.ref l2), o3, o4] [] (n, sl, f) Q) (h7 : ¬ (s5 = (0 : Int32)) → mi_W d 121 24 [some (.ref l1), some (.ref l2), o3, o4] [] (n, sl, f) Q) : mi_W d 121 21 [some (.ref l1), some (.ref l2), o3, o4] [.int s5] (n, sl, f) Q := by
  exact w_ifeq cd_121_21 (by decide) h6 h7
theorem b_121_24 {d : Nat} {Q : (Option Value ⊕ Nat) → mi_H → Prop} (n sl : Nat) (f : Nat → mi_C) {l1 : Nat} {l2 : Nat} {o3 : Option Value} {o4 : Option Value} (h5 : Q (.inl (some (.int 3))) (n, sl, f)) : mi_W d 121 24 [some (.ref l1), some (.ref l2), o3, o4] [] (n, sl, f) Q := by
  refine w_iconst (v := 3) cd_121_24 (by decide) ?_
  exact w_ireturn_i cd_121_25 (by decide +kernel) h5
theorem b_121_26 {d : Nat} {Q : (Option Value ⊕ Nat) → mi_H → Prop} (n sl : Nat) (f : Nat → mi_C) {l1 : Nat} {l2 : Nat} {o3 : Option Value} {o4 : Option Value} {fs5 : List Value} {x8 : Nat} (m10 i10 ka10 : Nat) (g10 : Nat → Option Nat) {x15 : Nat} {fs17 : List Value} (h6 : f l1 = .inr (11, fs5)) (h7 : l1 < n) (h9 : fs5[4]? = some (.ref x8)) (h11 : f x8 = .inl (ka10, m10, .inr (.inr (.inr (.inr g10))))) (h12 : x8 < n) (h13 : 4 ≤ ka10 ∧ ka10 < mt_na) (h14 : mi_ix 0 m10 i10) (h16 : g10 i10 = some x15) (h18 : f x15 = .inr (9, fs17)) (h19 : x15 < n) (h20 : mi_W d 73 0 (mi_en 2 [.ref x15, .ref l2]) [] (n, sl, f) (mi_Kc d 121 35 [some (.ref l1), some (.ref l2), some (.int 0), o4] [] Q)) : mi_W (d + 1) 121 26 [some (.ref l1), some (.ref l2), o3, o4] [] (n, sl, f) Q := by
  refine w_iconst (v := 0) cd_121_26 (by decide) ?_
  refine w_istore_n (ls' := [some (.ref l1), some (.ref l2), some (.int 0), o4]) cd_121_27 (Nat.le_of_ble_eq_true rfl) rfl ?_
  refine w_aload_n cd_121_28 rfl ?_
  refine w_getfield cd_121_29 (show mt_f 11 20 = some (11, 4) by decide +kernel) h6 h7 h9 ?_
  refine w_iload_n cd_121_32 rfl ?_
  refine w_aaload (w := .ref x15) cd_121_33 h11 h12 h13 h14 (by rw [h16]; rfl) ?_
  refine w_aload_n cd_121_34 rfl ?_
  exact w_invokevirtual cd_121_35 (show mt_m 11 80 = some (73, 0) by decide +kernel) (rest := []) rfl (as := [.ref x15, .ref l2]) rfl h18 (Or.inl h19) ⟨Nat.le_of_ble_eq_true rfl, Nat.le_of_ble_eq_true rfl, Nat.le_of_ble_eq_true rfl⟩ h20
theorem b_121_38 {d : Nat} {Q : (Option Value ⊕ Nat) → mi_H → Prop} (n sl : Nat) (f : Nat → mi_C) {l1 : Nat} {l2 : Nat} {l3 : Int32} {o4 : Option Value} {fs5 : List Value} {x8 : Nat} (m10 i10 : Nat) (g10 : Nat → Int32) (h6 : f l1 = .inr (11, fs5)) (h7 : l1 < n) (h9 : fs5[5]? = some (.ref x8)) (h11 : f x8 = .inl (0, m10, .inl g10)) (h12 : x8 < n) (h13 : mi_ix l3 m10 i10) (h14 : mi_W d 121 48 [some (.ref l1), some (.ref l2), some (.int l3), some (.int 0)] [] (n, sl, (va_up f x8 (.inl (0, m10, .inl (upd g10 i10 ((-3))))))) Q) : mi_W d 121 38 [some (.ref l1), some (.ref l2), some (.int l3), o4] [] (n, sl, f) Q := by
  refine w_aload_n cd_121_38 rfl ?_
  refine w_getfield cd_121_39 (show mt_f 11 24 = some (11, 5) by decide +kernel) h6 h7 h9 ?_
  refine w_iload_n cd_121_42 rfl ?_
  refine w_bipush (v := (-3)) cd_121_43 (by decide) ?_
  refine w_iastore cd_121_45 h11 h12 h13 ?_
  refine w_iconst (v := 0) cd_121_46 (by decide) ?_
  refine w_istore_n (ls' := [some (.ref l1), some (.ref l2), some (.int l3), some (.int 0)]) cd_121_47 (Nat.le_of_ble_eq_true rfl) rfl ?_
  exact h14
theorem b_121_48 {d : Nat} {Q : (Option Value ⊕ Nat) → mi_H → Prop} (n sl : Nat) (f : Nat → mi_C) {l1 : Nat} {l2 : Nat} {l3 : Int32} {l4 : Int32} (h5 : 20000 ≤ l4 → mi_W d 121 151 [some (.ref l1), some (.ref l2), some (.int l3), some (.int l4)] [] (n, sl, f) Q) (h6 : ¬ (20000 ≤ l4) → mi_W d 121 55 [some (.ref l1), some (.ref l2), some (.int l3), some (.int l4)] [] (n, sl, f) Q) : mi_W d 121 48 [some (.ref l1), some (.ref l2), some (.int l3), some (.int l4)] [] (n, sl, f) Q := by
  refine w_iload_n cd_121_48 rfl ?_
  refine w_sipush (v := 20000) cd_121_49 (by decide) ?_
  exact w_if_icmpge cd_121_52 (by decide) h5 h6
theorem b_121_55 {d : Nat} {Q : (Option Value ⊕ Nat) → mi_H → Prop} (n sl : Nat) (f : Nat → mi_C) {l1 : Nat} {l2 : Nat} {l3 : Int32} {l4 : Int32} (h5 : l3 < (0 : Int32) → mi_W d 121 151 [some (.ref l1), some (.ref l2), some (.int l3), some (.int l4)] [] (n, sl, f) Q) (h6 : ¬ (l3 < (0 : Int32)) → mi_W d 121 59 [some (.ref l1), some (.ref l2), some (.int l3), some (.int l4)] [] (n, sl, f) Q) : mi_W d 121 55 [some (.ref l1), some (.ref l2), some (.int l3), some (.int l4)] [] (n, sl, f) Q := by
  refine w_iload_n cd_121_55 rfl ?_
  exact w_iflt cd_121_56 (by decide) h5 h6
theorem b_121_59 {d : Nat} {Q : (Option Value ⊕ Nat) → mi_H → Prop} (n sl : Nat) (f : Nat → mi_C) {l1 : Nat} {l2 : Nat} {l3 : Int32} {l4 : Int32} (h5 : 104 ≤ (l3 + 1) → mi_W d 121 75 [some (.ref l1), some (.ref l2), some (.int l3), some (.int l4)] [] (n, sl, f) Q) (h6 : ¬ (104 ≤ (l3 + 1)) → mi_W d 121 67 [some (.ref l1), some (.ref l2), some (.int l3), some (.int l4)] [] (n, sl, f) Q) : mi_W d 121 59 [some (.ref l1), some (.ref l2), some (.int l3), some (.int l4)] [] (n, sl, f) Q := by
  refine w_iload_n cd_121_59 rfl ?_
  refine w_iconst (v := 1) cd_121_60 (by decide) ?_
  refine w_iadd cd_121_61 ?_
  refine w_bipush (v := 104) cd_121_62 (by decide) ?_
  exact w_if_icmpge cd_121_64 (by decide) h5 h6
theorem b_121_67 {d : Nat} {Q : (Option Value ⊕ Nat) → mi_H → Prop} (n sl : Nat) (f : Nat → mi_C) {l1 : Nat} {l2 : Nat} {l3 : Int32} {l4 : Int32} {fs5 : List Value} (h6 : f l1 = .inr (11, fs5)) (h7 : l1 < n) (h8 : mi_W d 124 0 (mi_en 4 [.ref l1, .int l3]) [] (n, sl, f) (mi_Kc d 121 69 [some (.ref l1), some (.ref l2), some (.int l3), some (.int l4)] [] Q)) : mi_W (d + 1) 121 67 [some (.ref l1), some (.ref l2), some (.int l3), some (.int l4)] [] (n, sl, f) Q := by
  refine w_aload_n cd_121_67 rfl ?_
  refine w_iload_n cd_121_68 rfl ?_
  exact w_invokevirtual cd_121_69 (show mt_m 11 84 = some (124, 0) by decide +kernel) (rest := []) rfl (as := [.ref l1, .int l3]) rfl h6 (Or.inl h7) ⟨Nat.le_of_ble_eq_true rfl, Nat.le_of_ble_eq_true rfl, Nat.le_of_ble_eq_true rfl⟩ h8
theorem b_121_72 {d : Nat} {Q : (Option Value ⊕ Nat) → mi_H → Prop} (n sl : Nat) (f : Nat → mi_C) {l1 : Nat} {l2 : Nat} {l3 : Int32} {l4 : Int32} {s5 : Int32} (h6 : ¬ s5 = (0 : Int32) → mi_W d 121 81 [some (.ref l1), some (.ref l2), some (.int l3), some (.int l4)] [] (n, sl, f) Q) (h7 : ¬ (¬ s5 = (0 : Int32)) → mi_W d 121 75 [some (.ref l1), some (.ref l2), some (.int l3), some (.int l4)] [] (n, sl, f) Q) : mi_W d 121 72 [some (.ref l1), some (.ref l2), some (.int l3), some (.int l4)] [.int s5] (n, sl, f) Q := by
  exact w_ifne cd_121_72 (by decide) h6 h7
theorem b_121_75 {d : Nat} {Q : (Option Value ⊕ Nat) → mi_H → Prop} (n sl : Nat) (f : Nat → mi_C) {l1 : Nat} {l2 : Nat} {l3 : Int32} {l4 : Int32} (h5 : mi_W d 121 145 [some (.ref l1), some (.ref l2), some (.int (l3 + (-1))), some (.int l4)] [] (n, sl, f) Q) : mi_W d 121 75 [some (.ref l1), some (.ref l2), some (.int l3), some (.int l4)] [] (n, sl, f) Q := by
  refine w_iinc (v := (-1)) (ls' := [some (.ref l1), some (.ref l2), some (.int (l3 + (-1))), some (.int l4)]) cd_121_75 rfl (by decide) rfl ?_
  exact w_goto cd_121_78 (by decide) h5
theorem b_121_81 {d : Nat} {Q : (Option Value ⊕ Nat) → mi_H → Prop} (n sl : Nat) (f : Nat → mi_C) {l1 : Nat} {l2 : Nat} {l3 : Int32} {l4 : Int32} {fs5 : List Value} {x8 : Int32} {fs10 : List Value} {fs14 : List Value} {x17 : Int32} (h6 : f l1 = .inr (11, fs5)) (h7 : l1 < n) (h9 : fs5[10]? = some (.int x8)) (h11 : f l1 = .inr (11, fs10)) (h12 : l1 < n) (h13 : 10 < fs10.length) (h15 : (va_up f l1 (.inr (11, fs10.set 10 (.int (x8 + 1))))) l1 = .inr (11, fs14)) (h16 : l1 < n) (h18 : fs14[10]? = some (.int x17)) (h19 : x17 ≤ 5000 → mi_W d 121 103 [some (.ref l1), some (.ref l2), some (.int l3), some (.int l4)] [] (n, sl, (va_up f l1 (.inr (11, fs10.set 10 (.int (x8 + 1)))))) Q) (h20 : ¬ (x17 ≤ 5000) → mi_W d 121 101 [some (.ref l1), some (.ref l2), some (.int l3), some (.int l4)] [] (n, sl, (va_up f l1 (.inr (11, fs10.set 10 (.int (x8 + 1)))))) Q) : mi_W d 121 81 [some (.ref l1), some (.ref l2), some (.int l3), some (.int l4)] [] (n, sl, f) Q := by
  refine w_aload_n cd_121_81 rfl ?_
  refine w_dup_r cd_121_82 ?_
  refine w_getfield cd_121_83 (show mt_f 11 64 = some (11, 10) by decide +kernel) h6 h7 h9 ?_
  refine w_iconst (v := 1) cd_121_86 (by decide) ?_
  refine w_iadd cd_121_87 ?_
  refine w_putfield (w := .int (x8 + 1)) cd_121_88 (show mt_f 11 64 = some (11, 10) by decide +kernel) h11 h12 ⟨h13, rfl, Or.inl (by decide)⟩ ?_
  refine w_aload_n cd_121_91 rfl ?_
  refine w_getfield cd_121_92 (show mt_f 11 64 = some (11, 10) by decide +kernel) h15 h16 h18 ?_
  refine w_sipush (v := 5000) cd_121_95 (by decide) ?_
  exact w_if_icmple cd_121_98 (by decide) h19 h20
theorem b_121_101 {d : Nat} {Q : (Option Value ⊕ Nat) → mi_H → Prop} (n sl : Nat) (f : Nat → mi_C) {l1 : Nat} {l2 : Nat} {l3 : Int32} {l4 : Int32} (h5 : Q (.inl (some (.int 2))) (n, sl, f)) : mi_W d 121 101 [some (.ref l1), some (.ref l2), some (.int l3), some (.int l4)] [] (n, sl, f) Q := by
  refine w_iconst (v := 2) cd_121_101 (by decide) ?_
  exact w_ireturn_i cd_121_102 (by decide +kernel) h5
theorem b_121_103 {d : Nat} {Q : (Option Value ⊕ Nat) → mi_H → Prop} (n sl : Nat) (f : Nat → mi_C) {l1 : Nat} {l2 : Nat} {l3 : Int32} {l4 : Int32} {fs5 : List Value} (h6 : f l1 = .inr (11, fs5)) (h7 : l1 < n) (h8 : mi_W d 129 0 (mi_en 6 [.ref l1, .int l3]) [] (n, sl, f) (mi_Kc d 121 105 [some (.ref l1), some (.ref l2), some (.int l3), some (.int l4)] [] Q)) : mi_W (d + 1) 121 103 [some (.ref l1), some (.ref l2), some (.int l3), some (.int l4)] [] (n, sl, f) Q := by
  refine w_aload_n cd_121_103 rfl ?_
  refine w_iload_n cd_121_104 rfl ?_
  exact w_invokevirtual cd_121_105 (show mt_m 11 87 = some (129, 0) by decide +kernel) (rest := []) rfl (as := [.ref l1, .int l3]) rfl h6 (Or.inl h7) ⟨Nat.le_of_ble_eq_true rfl, Nat.le_of_ble_eq_true rfl, Nat.le_of_ble_eq_true rfl⟩ h8
theorem b_121_108 {d : Nat} {Q : (Option Value ⊕ Nat) → mi_H → Prop} (n sl : Nat) (f : Nat → mi_C) {l1 : Nat} {l2 : Nat} {l3 : Int32} {l4 : Int32} {s5 : Int32} (h6 : ¬ s5 = (0 : Int32) → mi_W d 121 114 [some (.ref l1), some (.ref l2), some (.int l3), some (.int l4)] [] (n, sl, f) Q) (h7 : ¬ (¬ s5 = (0 : Int32)) → mi_W d 121 111 [some (.ref l1), some (.ref l2), some (.int l3), some (.int l4)] [] (n, sl, f) Q) : mi_W d 121 108 [some (.ref l1), some (.ref l2), some (.int l3), some (.int l4)] [.int s5] (n, sl, f) Q := by
  exact w_ifne cd_121_108 (by decide) h6 h7
theorem b_121_111 {d : Nat} {Q : (Option Value ⊕ Nat) → mi_H → Prop} (n sl : Nat) (f : Nat → mi_C) {l1 : Nat} {l2 : Nat} {l3 : Int32} {l4 : Int32} (h5 : mi_W d 121 145 [some (.ref l1), some (.ref l2), some (.int l3), some (.int l4)] [] (n, sl, f) Q) : mi_W d 121 111 [some (.ref l1), some (.ref l2), some (.int l3), some (.int l4)] [] (n, sl, f) Q := by
  exact w_goto cd_121_111 (by decide) h5
theorem b_121_114 {d : Nat} {Q : (Option Value ⊕ Nat) → mi_H → Prop} (n sl : Nat) (f : Nat → mi_C) {l1 : Nat} {l2 : Nat} {l3 : Int32} {l4 : Int32} {fs5 : List Value} {x8 : Nat} {fs10 : List Value} {x13 : Nat} {fs15 : List Value} {x18 : Int32} (h6 : f l1 = .inr (11, fs5)) (h7 : l1 < n) (h9 : fs5[1]? = some (.ref x8)) (h11 : f x8 = .inr (7, fs10)) (h12 : x8 < n) (h14 : fs10[7]? = some (.ref x13)) (h16 : f x13 = .inr (8, fs15)) (h17 : x13 < n) (h19 : fs15[6]? = some (.int x18)) (h20 : x18 ≤ (0 : Int32) → mi_W d 121 137 [some (.ref l1), some (.ref l2), some (.int (l3 + 1)), some (.int l4)] [] (n, sl, f) Q) (h21 : ¬ (x18 ≤ (0 : Int32)) → mi_W d 121 130 [some (.ref l1), some (.ref l2), some (.int (l3 + 1)), some (.int l4)] [] (n, sl, f) Q) : mi_W d 121 114 [some (.ref l1), some (.ref l2), some (.int l3), some (.int l4)] [] (n, sl, f) Q := by
  refine w_iinc (v := 1) (ls' := [some (.ref l1), some (.ref l2), some (.int (l3 + 1)), some (.int l4)]) cd_121_114 rfl (by decide) rfl ?_
  refine w_aload_n cd_121_117 rfl ?_
  refine w_getfield cd_121_118 (show mt_f 11 50 = some (11, 1) by decide +kernel) h6 h7 h9 ?_
  refine w_getfield cd_121_121 (show mt_f 11 90 = some (7, 7) by decide +kernel) h11 h12 h14 ?_
  refine w_getfield cd_121_124 (show mt_f 11 94 = some (8, 6) by decide +kernel) h16 h17 h19 ?_
  exact w_ifle cd_121_127 (by decide) h20 h21
theorem b_121_130 {d : Nat} {Q : (Option Value ⊕ Nat) → mi_H → Prop} (n sl : Nat) (f : Nat → mi_C) {l1 : Nat} {l2 : Nat} {l3 : Int32} {l4 : Int32} {fs5 : List Value} (h6 : f l1 = .inr (11, fs5)) (h7 : l1 < n) (h8 : 11 < fs5.length) (h9 : Q (.inl (some (.int 1))) (n, sl, (va_up f l1 (.inr (11, fs5.set 11 (.int l3)))))) : mi_W d 121 130 [some (.ref l1), some (.ref l2), some (.int l3), some (.int l4)] [] (n, sl, f) Q := by
  refine w_aload_n cd_121_130 rfl ?_
  refine w_iload_n cd_121_131 rfl ?_
  refine w_putfield (w := .int l3) cd_121_132 (show mt_f 11 68 = some (11, 11) by decide +kernel) h6 h7 ⟨h8, rfl, Or.inl (by decide)⟩ ?_
  refine w_iconst (v := 1) cd_121_135 (by decide) ?_
  exact w_ireturn_i cd_121_136 (by decide +kernel) h9
theorem b_121_137 {d : Nat} {Q : (Option Value ⊕ Nat) → mi_H → Prop} (n sl : Nat) (f : Nat → mi_C) {l1 : Nat} {l2 : Nat} {l3 : Int32} {l4 : Int32} {fs5 : List Value} {x8 : Nat} (m10 i10 : Nat) (g10 : Nat → Int32) (h6 : f l1 = .inr (11, fs5)) (h7 : l1 < n) (h9 : fs5[5]? = some (.ref x8)) (h11 : f x8 = .inl (0, m10, .inl g10)) (h12 : x8 < n) (h13 : mi_ix l3 m10 i10) (h14 : mi_W d 121 145 [some (.ref l1), some (.ref l2), some (.int l3), some (.int l4)] [] (n, sl, (va_up f x8 (.inl (0, m10, .inl (upd g10 i10 ((-3))))))) Q) : mi_W d 121 137 [some (.ref l1), some (.ref l2), some (.int l3), some (.int l4)] [] (n, sl, f) Q := by
  refine w_aload_n cd_121_137 rfl ?_
  refine w_getfield cd_121_138 (show mt_f 11 24 = some (11, 5) by decide +kernel) h6 h7 h9 ?_
  refine w_iload_n cd_121_141 rfl ?_
  refine w_bipush (v := (-3)) cd_121_142 (by decide) ?_
  refine w_iastore cd_121_144 h11 h12 h13 ?_
  exact h14
theorem b_121_145 {d : Nat} {Q : (Option Value ⊕ Nat) → mi_H → Prop} (n sl : Nat) (f : Nat → mi_C) {l1 : Nat} {l2 : Nat} {l3 : Int32} {l4 : Int32} (h5 : mi_W d 121 48 [some (.ref l1), some (.ref l2), some (.int l3), some (.int (l4 + 1))] [] (n, sl, f) Q) : mi_W d 121 145 [some (.ref l1), some (.ref l2), some (.int l3), some (.int l4)] [] (n, sl, f) Q := by
  refine w_iinc (v := 1) (ls' := [some (.ref l1), some (.ref l2), some (.int l3), some (.int (l4 + 1))]) cd_121_145 rfl (by decide) rfl ?_
  exact w_goto cd_121_148 (by decide) h5
theorem b_121_151 {d : Nat} {Q : (Option Value ⊕ Nat) → mi_H → Prop} (n sl : Nat) (f : Nat → mi_C) {l1 : Nat} {l2 : Nat} {l3 : Int32} {l4 : Int32} (h5 : Q (.inl (some (.int 0))) (n, sl, f)) : mi_W d 121 151 [some (.ref l1), some (.ref l2), some (.int l3), some (.int l4)] [] (n, sl, f) Q := by
  refine w_iconst (v := 0) cd_121_151 (by decide) ?_
  exact w_ireturn_i cd_121_152 (by decide +kernel) h5
/-! MarloweHost$Tree.isOutside(I)Z -/
set_option maxRecDepth 100000 in
theorem mq_122 : mt_q 122 = my_122 := rfl
set_option maxRecDepth 100000 in
theorem ci_122 : mt_inc 0 my_122.cd = true := by decide +kernel
theorem cd_122_0 : mt_cd 122 0 = some (.aload_n 0) := mt_cd_of (q := (0, .aload_n 0, 1)) mq_122 ci_122 (List.mem_of_getElem? (i := 0) rfl)
theorem cd_122_1 : mt_cd 122 1 = some (.iload_n 1) := mt_cd_of (q := (1, .iload_n 1, 1)) mq_122 ci_122 (List.mem_of_getElem? (i := 1) rfl)
theorem cd_122_2 : mt_cd 122 2 = some (.invokevirtual 60) := mt_cd_of (q := (2, .invokevirtual 60, 3)) mq_122 ci_122 (List.mem_of_getElem? (i := 2) rfl)
theorem cd_122_5 : mt_cd 122 5 = some (.ifCond .eq 12) := mt_cd_of (q := (5, .ifCond .eq 12, 3)) mq_122 ci_122 (List.mem_of_getElem? (i := 3) rfl)
theorem cd_122_8 : mt_cd 122 8 = some (.aload_n 0) := mt_cd_of (q := (8, .aload_n 0, 1)) mq_122 ci_122 (List.mem_of_getElem? (i := 4) rfl)
theorem cd_122_9 : mt_cd 122 9 = some (.getfield 33) := mt_cd_of (q := (9, .getfield 33, 3)) mq_122 ci_122 (List.mem_of_getElem? (i := 5) rfl)
theorem cd_122_12 : mt_cd 122 12 = some (.iload_n 1) := mt_cd_of (q := (12, .iload_n 1, 1)) mq_122 ci_122 (List.mem_of_getElem? (i := 6) rfl)
theorem cd_122_13 : mt_cd 122 13 = some (.iaload) := mt_cd_of (q := (13, .iaload, 1)) mq_122 ci_122 (List.mem_of_getElem? (i := 7) rfl)
theorem cd_122_14 : mt_cd 122 14 = some (.goto 4) := mt_cd_of (q := (14, .goto 4, 3)) mq_122 ci_122 (List.mem_of_getElem? (i := 8) rfl)
theorem cd_122_17 : mt_cd 122 17 = some (.iconst 0) := mt_cd_of (q := (17, .iconst 0, 1)) mq_122 ci_122 (List.mem_of_getElem? (i := 9) rfl)
theorem cd_122_18 : mt_cd 122 18 = some (.istore_n 2) := mt_cd_of (q := (18, .istore_n 2, 1)) mq_122 ci_122 (List.mem_of_getElem? (i := 10) rfl)
theorem cd_122_19 : mt_cd 122 19 = some (.iload_n 1) := mt_cd_of (q := (19, .iload_n 1, 1)) mq_122 ci_122 (List.mem_of_getElem? (i := 11) rfl)
theorem cd_122_20 : mt_cd 122 20 = some (.istore_n 3) := mt_cd_of (q := (20, .istore_n 3, 1)) mq_122 ci_122 (List.mem_of_getElem? (i := 12) rfl)
theorem cd_122_21 : mt_cd 122 21 = some (.iload_n 3) := mt_cd_of (q := (21, .iload_n 3, 1)) mq_122 ci_122 (List.mem_of_getElem? (i := 13) rfl)
theorem cd_122_22 : mt_cd 122 22 = some (.ifCond .lt 57) := mt_cd_of (q := (22, .ifCond .lt 57, 3)) mq_122 ci_122 (List.mem_of_getElem? (i := 14) rfl)
theorem cd_122_25 : mt_cd 122 25 = some (.iload_n 3) := mt_cd_of (q := (25, .iload_n 3, 1)) mq_122 ci_122 (List.mem_of_getElem? (i := 15) rfl)
theorem cd_122_26 : mt_cd 122 26 = some (.iload_n 2) := mt_cd_of (q := (26, .iload_n 2, 1)) mq_122 ci_122 (List.mem_of_getElem? (i := 16) rfl)
theorem cd_122_27 : mt_cd 122 27 = some (.if_icmp .ge 52) := mt_cd_of (q := (27, .if_icmp .ge 52, 3)) mq_122 ci_122 (List.mem_of_getElem? (i := 17) rfl)
theorem cd_122_30 : mt_cd 122 30 = some (.aload_n 0) := mt_cd_of (q := (30, .aload_n 0, 1)) mq_122 ci_122 (List.mem_of_getElem? (i := 18) rfl)
theorem cd_122_31 : mt_cd 122 31 = some (.getfield 9) := mt_cd_of (q := (31, .getfield 9, 3)) mq_122 ci_122 (List.mem_of_getElem? (i := 19) rfl)
theorem cd_122_34 : mt_cd 122 34 = some (.iload_n 3) := mt_cd_of (q := (34, .iload_n 3, 1)) mq_122 ci_122 (List.mem_of_getElem? (i := 20) rfl)
theorem cd_122_35 : mt_cd 122 35 = some (.iaload) := mt_cd_of (q := (35, .iaload, 1)) mq_122 ci_122 (List.mem_of_getElem? (i := 21) rfl)
theorem cd_122_36 : mt_cd 122 36 = some (.istore 4) := mt_cd_of (q := (36, .istore 4, 2)) mq_122 ci_122 (List.mem_of_getElem? (i := 22) rfl)
theorem cd_122_38 : mt_cd 122 38 = some (.iload 4) := mt_cd_of (q := (38, .iload 4, 2)) mq_122 ci_122 (List.mem_of_getElem? (i := 23) rfl)
theorem cd_122_40 : mt_cd 122 40 = some (.bipush 15) := mt_cd_of (q := (40, .bipush 15, 2)) mq_122 ci_122 (List.mem_of_getElem? (i := 24) rfl)
theorem cd_122_42 : mt_cd 122 42 = some (.if_icmp .eq 10) := mt_cd_of (q := (42, .if_icmp .eq 10, 3)) mq_122 ci_122 (List.mem_of_getElem? (i := 25) rfl)
theorem cd_122_45 : mt_cd 122 45 = some (.iload 4) := mt_cd_of (q := (45, .iload 4, 2)) mq_122 ci_122 (List.mem_of_getElem? (i := 26) rfl)
theorem cd_122_47 : mt_cd 122 47 = some (.bipush 16) := mt_cd_of (q := (47, .bipush 16, 2)) mq_122 ci_122 (List.mem_of_getElem? (i := 27) rfl)
theorem cd_122_49 : mt_cd 122 49 = some (.if_icmp .ne 5) := mt_cd_of (q := (49, .if_icmp .ne 5, 3)) mq_122 ci_122 (List.mem_of_getElem? (i := 28) rfl)
theorem cd_122_52 : mt_cd 122 52 = some (.iconst 1) := mt_cd_of (q := (52, .iconst 1, 1)) mq_122 ci_122 (List.mem_of_getElem? (i := 29) rfl)
theorem cd_122_53 : mt_cd 122 53 = some (.ireturn) := mt_cd_of (q := (53, .ireturn, 1)) mq_122 ci_122 (List.mem_of_getElem? (i := 30) rfl)
theorem cd_122_54 : mt_cd 122 54 = some (.iload 4) := mt_cd_of (q := (54, .iload 4, 2)) mq_122 ci_122 (List.mem_of_getElem? (i := 31) rfl)
theorem cd_122_56 : mt_cd 122 56 = some (.bipush 9) := mt_cd_of (q := (56, .bipush 9, 2)) mq_122 ci_122 (List.mem_of_getElem? (i := 32) rfl)
theorem cd_122_58 : mt_cd 122 58 = some (.if_icmp .ne 15) := mt_cd_of (q := (58, .if_icmp .ne 15, 3)) mq_122 ci_122 (List.mem_of_getElem? (i := 33) rfl)
theorem cd_122_61 : mt_cd 122 61 = some (.aload_n 0) := mt_cd_of (q := (61, .aload_n 0, 1)) mq_122 ci_122 (List.mem_of_getElem? (i := 34) rfl)
theorem cd_122_62 : mt_cd 122 62 = some (.iload_n 3) := mt_cd_of (q := (62, .iload_n 3, 1)) mq_122 ci_122 (List.mem_of_getElem? (i := 35) rfl)
theorem cd_122_63 : mt_cd 122 63 = some (.invokevirtual 66) := mt_cd_of (q := (63, .invokevirtual 66, 3)) mq_122 ci_122 (List.mem_of_getElem? (i := 36) rfl)
theorem cd_122_66 : mt_cd 122 66 = some (.bipush 16) := mt_cd_of (q := (66, .bipush 16, 2)) mq_122 ci_122 (List.mem_of_getElem? (i := 37) rfl)
theorem cd_122_68 : mt_cd 122 68 = some (.if_icmp .le 5) := mt_cd_of (q := (68, .if_icmp .le 5, 3)) mq_122 ci_122 (List.mem_of_getElem? (i := 38) rfl)
theorem cd_122_71 : mt_cd 122 71 = some (.iconst 1) := mt_cd_of (q := (71, .iconst 1, 1)) mq_122 ci_122 (List.mem_of_getElem? (i := 39) rfl)
theorem cd_122_72 : mt_cd 122 72 = some (.ireturn) := mt_cd_of (q := (72, .ireturn, 1)) mq_122 ci_122 (List.mem_of_getElem? (i := 40) rfl)
theorem cd_122_73 : mt_cd 122 73 = some (.iinc 3 1) := mt_cd_of (q := (73, .iinc 3 1, 3)) mq_122 ci_122 (List.mem_of_getElem? (i := 41) rfl)
theorem cd_122_76 : mt_cd 122 76 = some (.goto (-55)) := mt_cd_of (q := (76, .goto (-55), 3)) mq_122 ci_122 (List.mem_of_getElem? (i := 42) rfl)
theorem cd_122_79 : mt_cd 122 79 = some (.iconst 0) := mt_cd_of (q := (79, .iconst 0, 1)) mq_122 ci_122 (List.mem_of_getElem? (i := 43) rfl)
theorem cd_122_80 : mt_cd 122 80 = some (.ireturn) := mt_cd_of (q := (80, .ireturn, 1)) mq_122 ci_122 (List.mem_of_getElem? (i := 44) rfl)
theorem b_122_0 {d : Nat} {Q : (Option Value ⊕ Nat) → mi_H → Prop} (n sl : Nat) (f : Nat → mi_C) {l1 : Nat} {l2 : Int32} {o3 : Option Value} {o4 : Option Value} {o5 : Option Value} {fs6 : List Value} (h7 : f l1 = .inr (2, fs6)) (h8 : l1 < n) (h9 : mi_W d 82 0 (mi_en 2 [.ref l1, .int l2]) [] (n, sl, f) (mi_Kc d 122 2 [some (.ref l1), some (.int l2), o3, o4, o5] [] Q)) : mi_W (d + 1) 122 0 [some (.ref l1), some (.int l2), o3, o4, o5] [] (n, sl, f) Q := by
  refine w_aload_n cd_122_0 rfl ?_
  refine w_iload_n cd_122_1 rfl ?_
  exact w_invokevirtual cd_122_2 (show mt_m 2 60 = some (82, 0) by decide +kernel) (rest := []) rfl (as := [.ref l1, .int l2]) rfl h7 (Or.inl h8) ⟨Nat.le_of_ble_eq_true rfl, Nat.le_of_ble_eq_true rfl, Nat.le_of_ble_eq_true rfl⟩ h9
theorem b_122_5 {d : Nat} {Q : (Option Value ⊕ Nat) → mi_H → Prop} (n sl : Nat) (f : Nat → mi_C) {l1 : Nat} {l2 : Int32} {o3 : Option Value} {o4 : Option Value} {o5 : Option Value} {s6 : Int32} (h7 : s6 = (0 : Int32) → mi_W d 122 17 [some (.ref l1), some (.int l2), o3, o4, o5] [] (n, sl, f) Q) (h8 : ¬ (s6 = (0 : Int32)) → mi_W d 122 8 [some (.ref l1), some (.int l2), o3, o4, o5] [] (n, sl, f) Q) : mi_W d 122 5 [some (.ref l1), some (.int l2), o3, o4, o5] [.int s6] (n, sl, f) Q := by
  exact w_ifeq cd_122_5 (by decide) h7 h8
theorem b_122_8 {d : Nat} {Q : (Option Value ⊕ Nat) → mi_H → Prop} (n sl : Nat) (f : Nat → mi_C) {l1 : Nat} {l2 : Int32} {o3 : Option Value} {o4 : Option Value} {o5 : Option Value} {fs6 : List Value} {x9 : Nat} (m11 i11 : Nat) (g11 : Nat → Int32) (h7 : f l1 = .inr (2, fs6)) (h8 : l1 < n) (h10 : fs6[7]? = some (.ref x9)) (h12 : f x9 = .inl (0, m11, .inl g11)) (h13 : x9 < n ∨ x9 = mi_SC) (h14 : mi_ix l2 m11 i11) (h15 : mi_W d 122 18 [some (.ref l1), some (.int l2), o3, o4, o5] [.int (g11 i11)] (n, sl, f) Q) : mi_W d 122 8 [some (.ref l1), some (.int l2), o3, o4, o5] [] (n, sl, f) Q := by
  refine w_aload_n cd_122_8 rfl ?_
  refine w_getfield cd_122_9 (show mt_f 2 33 = some (2, 7) by decide +kernel) h7 h8 h10 ?_
  refine w_iload_n cd_122_12 rfl ?_
  refine w_iaload cd_122_13 h12 h13 h14 ?_
  exact w_goto cd_122_14 (by decide) h15
theorem b_122_17 {d : Nat} {Q : (Option Value ⊕ Nat) → mi_H → Prop} (n sl : Nat) (f : Nat → mi_C) {l1 : Nat} {l2 : Int32} {o3 : Option Value} {o4 : Option Value} {o5 : Option Value} (h6 : mi_W d 122 18 [some (.ref l1), some (.int l2), o3, o4, o5] [.int 0] (n, sl, f) Q) : mi_W d 122 17 [some (.ref l1), some (.int l2), o3, o4, o5] [] (n, sl, f) Q := by
  refine w_iconst (v := 0) cd_122_17 (by decide) ?_
  exact h6
theorem b_122_18 {d : Nat} {Q : (Option Value ⊕ Nat) → mi_H → Prop} (n sl : Nat) (f : Nat → mi_C) {l1 : Nat} {l2 : Int32} {o3 : Option Value} {o4 : Option Value} {o5 : Option Value} {s6 : Int32} (h7 : mi_W d 122 21 [some (.ref l1), some (.int l2), some (.int s6), some (.int l2), o5] [] (n, sl, f) Q) : mi_W d 122 18 [some (.ref l1), some (.int l2), o3, o4, o5] [.int s6] (n, sl, f) Q := by
  refine w_istore_n (ls' := [some (.ref l1), some (.int l2), some (.int s6), o4, o5]) cd_122_18 (Nat.le_of_ble_eq_true rfl) rfl ?_
  refine w_iload_n cd_122_19 rfl ?_
  refine w_istore_n (ls' := [some (.ref l1), some (.int l2), some (.int s6), some (.int l2), o5]) cd_122_20 (Nat.le_of_ble_eq_true rfl) rfl ?_
  exact h7
theorem b_122_21 {d : Nat} {Q : (Option Value ⊕ Nat) → mi_H → Prop} (n sl : Nat) (f : Nat → mi_C) {l1 : Nat} {l2 : Int32} {l3 : Int32} {l4 : Int32} {o5 : Option Value} (h6 : l4 < (0 : Int32) → mi_W d 122 79 [some (.ref l1), some (.int l2), some (.int l3), some (.int l4), o5] [] (n, sl, f) Q) (h7 : ¬ (l4 < (0 : Int32)) → mi_W d 122 25 [some (.ref l1), some (.int l2), some (.int l3), some (.int l4), o5] [] (n, sl, f) Q) : mi_W d 122 21 [some (.ref l1), some (.int l2), some (.int l3), some (.int l4), o5] [] (n, sl, f) Q := by
  refine w_iload_n cd_122_21 rfl ?_
  exact w_iflt cd_122_22 (by decide) h6 h7
theorem b_122_25 {d : Nat} {Q : (Option Value ⊕ Nat) → mi_H → Prop} (n sl : Nat) (f : Nat → mi_C) {l1 : Nat} {l2 : Int32} {l3 : Int32} {l4 : Int32} {o5 : Option Value} (h6 : l3 ≤ l4 → mi_W d 122 79 [some (.ref l1), some (.int l2), some (.int l3), some (.int l4), o5] [] (n, sl, f) Q) (h7 : ¬ (l3 ≤ l4) → mi_W d 122 30 [some (.ref l1), some (.int l2), some (.int l3), some (.int l4), o5] [] (n, sl, f) Q) : mi_W d 122 25 [some (.ref l1), some (.int l2), some (.int l3), some (.int l4), o5] [] (n, sl, f) Q := by
  refine w_iload_n cd_122_25 rfl ?_
  refine w_iload_n cd_122_26 rfl ?_
  exact w_if_icmpge cd_122_27 (by decide) h6 h7
theorem b_122_30 {d : Nat} {Q : (Option Value ⊕ Nat) → mi_H → Prop} (n sl : Nat) (f : Nat → mi_C) {l1 : Nat} {l2 : Int32} {l3 : Int32} {l4 : Int32} {o5 : Option Value} {fs6 : List Value} {x9 : Nat} (m11 i11 : Nat) (g11 : Nat → Int32) (h7 : f l1 = .inr (2, fs6)) (h8 : l1 < n) (h10 : fs6[0]? = some (.ref x9)) (h12 : f x9 = .inl (0, m11, .inl g11)) (h13 : x9 < n ∨ x9 = mi_SC) (h14 : mi_ix l4 m11 i11) (h15 : (g11 i11) = 15 → mi_W d 122 52 [some (.ref l1), some (.int l2), some (.int l3), some (.int l4), some (.int (g11 i11))] [] (n, sl, f) Q) (h16 : ¬ ((g11 i11) = 15) → mi_W d 122 45 [some (.ref l1), some (.int l2), some (.int l3), some (.int l4), some (.int (g11 i11))] [] (n, sl, f) Q) : mi_W d 122 30 [some (.ref l1), some (.int l2), some (.int l3), some (.int l4), o5] [] (n, sl, f) Q := by
  refine w_aload_n cd_122_30 rfl ?_
  refine w_getfield cd_122_31 (show mt_f 2 9 = some (2, 0) by decide +kernel) h7 h8 h10 ?_
  refine w_iload_n cd_122_34 rfl ?_
  refine w_iaload cd_122_35 h12 h13 h14 ?_
  refine w_istore (ls' := [some (.ref l1), some (.int l2), some (.int l3), some (.int l4), some (.int (g11 i11))]) cd_122_36 (Nat.le_of_ble_eq_true rfl) rfl ?_
  refine w_iload cd_122_38 rfl ?_
  refine w_bipush (v := 15) cd_122_40 (by decide) ?_
  exact w_if_icmpeq cd_122_42 (by decide) h15 h16
theorem b_122_45 {d : Nat} {Q : (Option Value ⊕ Nat) → mi_H → Prop} (n sl : Nat) (f : Nat → mi_C) {l1 : Nat} {l2 : Int32} {l3 : Int32} {l4 : Int32} {l5 : Int32} (h6 : ¬ l5 = 16 → mi_W d 122 54 [some (.ref l1), some (.int l2), some (.int l3), some (.int l4), some (.int l5)] [] (n, sl, f) Q) (h7 : ¬ (¬ l5 = 16) → mi_W d 122 52 [some (.ref l1), some (.int l2), some (.int l3), some (.int l4), some (.int l5)] [] (n, sl, f) Q) : mi_W d 122 45 [some (.ref l1), some (.int l2), some (.int l3), some (.int l4), some (.int l5)] [] (n, sl, f) Q := by
  refine w_iload cd_122_45 rfl ?_
  refine w_bipush (v := 16) cd_122_47 (by decide) ?_
  exact w_if_icmpne cd_122_49 (by decide) h6 h7
theorem b_122_52 {d : Nat} {Q : (Option Value ⊕ Nat) → mi_H → Prop} (n sl : Nat) (f : Nat → mi_C) {l1 : Nat} {l2 : Int32} {l3 : Int32} {l4 : Int32} {l5 : Int32} (h6 : Q (.inl (some (.int 1))) (n, sl, f)) : mi_W d 122 52 [some (.ref l1), some (.int l2), some (.int l3), some (.int l4), some (.int l5)] [] (n, sl, f) Q := by
  refine w_iconst (v := 1) cd_122_52 (by decide) ?_
  exact w_ireturn_z cd_122_53 (by decide +kernel) (by decide) h6
theorem b_122_54 {d : Nat} {Q : (Option Value ⊕ Nat) → mi_H → Prop} (n sl : Nat) (f : Nat → mi_C) {l1 : Nat} {l2 : Int32} {l3 : Int32} {l4 : Int32} {l5 : Int32} (h6 : ¬ l5 = 9 → mi_W d 122 73 [some (.ref l1), some (.int l2), some (.int l3), some (.int l4), some (.int l5)] [] (n, sl, f) Q) (h7 : ¬ (¬ l5 = 9) → mi_W d 122 61 [some (.ref l1), some (.int l2), some (.int l3), some (.int l4), some (.int l5)] [] (n, sl, f) Q) : mi_W d 122 54 [some (.ref l1), some (.int l2), some (.int l3), some (.int l4), some (.int l5)] [] (n, sl, f) Q := by
  refine w_iload cd_122_54 rfl ?_
  refine w_bipush (v := 9) cd_122_56 (by decide) ?_
  exact w_if_icmpne cd_122_58 (by decide) h6 h7
theorem b_122_61 {d : Nat} {Q : (Option Value ⊕ Nat) → mi_H → Prop} (n sl : Nat) (f : Nat → mi_C) {l1 : Nat} {l2 : Int32} {l3 : Int32} {l4 : Int32} {l5 : Int32} {fs6 : List Value} (h7 : f l1 = .inr (2, fs6)) (h8 : l1 < n) (h9 : mi_W d 123 0 (mi_en 5 [.ref l1, .int l4]) [] (n, sl, f) (mi_Kc d 122 63 [some (.ref l1), some (.int l2), some (.int l3), some (.int l4), some (.int l5)] [] Q)) : mi_W (d + 1) 122 61 [some (.ref l1), some (.int l2), some (.int l3), some (.int l4), some (.int l5)] [] (n, sl, f) Q := by
  refine w_aload_n cd_122_61 rfl ?_
  refine w_iload_n cd_122_62 rfl ?_
  exact w_invokevirtual cd_122_63 (show mt_m 2 66 = some (123, 0) by decide +kernel) (rest := []) rfl (as := [.ref l1, .int l4]) rfl h7 (Or.inl h8) ⟨Nat.le_of_ble_eq_true rfl, Nat.le_of_ble_eq_true rfl, Nat.le_of_ble_eq_true rfl⟩ h9
theorem b_122_66 {d : Nat} {Q : (Option Value ⊕ Nat) → mi_H → Prop} (n sl : Nat) (f : Nat → mi_C) {l1 : Nat} {l2 : Int32} {l3 : Int32} {l4 : Int32} {l5 : Int32} {s6 : Int32} (h7 : s6 ≤ 16 → mi_W d 122 73 [some (.ref l1), some (.int l2), some (.int l3), some (.int l4), some (.int l5)] [] (n, sl, f) Q) (h8 : ¬ (s6 ≤ 16) → mi_W d 122 71 [some (.ref l1), some (.int l2), some (.int l3), some (.int l4), some (.int l5)] [] (n, sl, f) Q) : mi_W d 122 66 [some (.ref l1), some (.int l2), some (.int l3), some (.int l4), some (.int l5)] [.int s6] (n, sl, f) Q := by
  refine w_bipush (v := 16) cd_122_66 (by decide) ?_
  exact w_if_icmple cd_122_68 (by decide) h7 h8
theorem b_122_71 {d : Nat} {Q : (Option Value ⊕ Nat) → mi_H → Prop} (n sl : Nat) (f : Nat → mi_C) {l1 : Nat} {l2 : Int32} {l3 : Int32} {l4 : Int32} {l5 : Int32} (h6 : Q (.inl (some (.int 1))) (n, sl, f)) : mi_W d 122 71 [some (.ref l1), some (.int l2), some (.int l3), some (.int l4), some (.int l5)] [] (n, sl, f) Q := by
  refine w_iconst (v := 1) cd_122_71 (by decide) ?_
  exact w_ireturn_z cd_122_72 (by decide +kernel) (by decide) h6
theorem b_122_73 {d : Nat} {Q : (Option Value ⊕ Nat) → mi_H → Prop} (n sl : Nat) (f : Nat → mi_C) {l1 : Nat} {l2 : Int32} {l3 : Int32} {l4 : Int32} {l5 : Int32} (h6 : mi_W d 122 21 [some (.ref l1), some (.int l2), some (.int l3), some (.int (l4 + 1)), some (.int l5)] [] (n, sl, f) Q) : mi_W d 122 73 [some (.ref l1), some (.int l2), some (.int l3), some (.int l4), some (.int l5)] [] (n, sl, f) Q := by
  refine w_iinc (v := 1) (ls' := [some (.ref l1), some (.int l2), some (.int l3), some (.int (l4 + 1)), some (.int l5)]) cd_122_73 rfl (by decide) rfl ?_
  exact w_goto cd_122_76 (by decide) h6
theorem b_122_79 {d : Nat} {Q : (Option Value ⊕ Nat) → mi_H → Prop} (n sl : Nat) (f : Nat → mi_C) {l1 : Nat} {l2 : Int32} {l3 : Int32} {l4 : Int32} {o5 : Option Value} (h6 : Q (.inl (some (.int 0))) (n, sl, f)) : mi_W d 122 79 [some (.ref l1), some (.int l2), some (.int l3), some (.int l4), o5] [] (n, sl, f) Q := by
  refine w_iconst (v := 0) cd_122_79 (by decide) ?_
  exact w_ireturn_z cd_122_80 (by decide +kernel) (by decide) h6
/-! MarloweHost$Tree.numbersTried(I)I -/
set_option maxRecDepth 100000 in
theorem mq_123 : mt_q 123 = my_123 := rfl
set_option maxRecDepth 100000 in
theorem ci_123 : mt_inc 0 my_123.cd = true := by decide +kernel
theorem cd_123_0 : mt_cd 123 0 = some (.lconst 0) := mt_cd_of (q := (0, .lconst 0, 1)) mq_123 ci_123 (List.mem_of_getElem? (i := 0) rfl)
theorem cd_123_1 : mt_cd 123 1 = some (.lstore_n 2) := mt_cd_of (q := (1, .lstore_n 2, 1)) mq_123 ci_123 (List.mem_of_getElem? (i := 1) rfl)
theorem cd_123_2 : mt_cd 123 2 = some (.aload_n 0) := mt_cd_of (q := (2, .aload_n 0, 1)) mq_123 ci_123 (List.mem_of_getElem? (i := 2) rfl)
theorem cd_123_3 : mt_cd 123 3 = some (.getfield 27) := mt_cd_of (q := (3, .getfield 27, 3)) mq_123 ci_123 (List.mem_of_getElem? (i := 3) rfl)
theorem cd_123_6 : mt_cd 123 6 = some (.iload_n 1) := mt_cd_of (q := (6, .iload_n 1, 1)) mq_123 ci_123 (List.mem_of_getElem? (i := 4) rfl)
theorem cd_123_7 : mt_cd 123 7 = some (.iaload) := mt_cd_of (q := (7, .iaload, 1)) mq_123 ci_123 (List.mem_of_getElem? (i := 5) rfl)
theorem cd_123_8 : mt_cd 123 8 = some (.istore 4) := mt_cd_of (q := (8, .istore 4, 2)) mq_123 ci_123 (List.mem_of_getElem? (i := 6) rfl)
theorem cd_123_10 : mt_cd 123 10 = some (.iload 4) := mt_cd_of (q := (10, .iload 4, 2)) mq_123 ci_123 (List.mem_of_getElem? (i := 7) rfl)
theorem cd_123_12 : mt_cd 123 12 = some (.ifCond .lt 52) := mt_cd_of (q := (12, .ifCond .lt 52, 3)) mq_123 ci_123 (List.mem_of_getElem? (i := 8) rfl)
theorem cd_123_15 : mt_cd 123 15 = some (.iload 4) := mt_cd_of (q := (15, .iload 4, 2)) mq_123 ci_123 (List.mem_of_getElem? (i := 9) rfl)
theorem cd_123_17 : mt_cd 123 17 = some (.iconst 1) := mt_cd_of (q := (17, .iconst 1, 1)) mq_123 ci_123 (List.mem_of_getElem? (i := 10) rfl)
theorem cd_123_18 : mt_cd 123 18 = some (.iadd) := mt_cd_of (q := (18, .iadd, 1)) mq_123 ci_123 (List.mem_of_getElem? (i := 11) rfl)
theorem cd_123_19 : mt_cd 123 19 = some (.aload_n 0) := mt_cd_of (q := (19, .aload_n 0, 1)) mq_123 ci_123 (List.mem_of_getElem? (i := 12) rfl)
theorem cd_123_20 : mt_cd 123 20 = some (.getfield 30) := mt_cd_of (q := (20, .getfield 30, 3)) mq_123 ci_123 (List.mem_of_getElem? (i := 13) rfl)
theorem cd_123_23 : mt_cd 123 23 = some (.iload_n 1) := mt_cd_of (q := (23, .iload_n 1, 1)) mq_123 ci_123 (List.mem_of_getElem? (i := 14) rfl)
theorem cd_123_24 : mt_cd 123 24 = some (.iaload) := mt_cd_of (q := (24, .iaload, 1)) mq_123 ci_123 (List.mem_of_getElem? (i := 15) rfl)
theorem cd_123_25 : mt_cd 123 25 = some (.if_icmp .ge 39) := mt_cd_of (q := (25, .if_icmp .ge 39, 3)) mq_123 ci_123 (List.mem_of_getElem? (i := 16) rfl)
theorem cd_123_28 : mt_cd 123 28 = some (.lload_n 2) := mt_cd_of (q := (28, .lload_n 2, 1)) mq_123 ci_123 (List.mem_of_getElem? (i := 17) rfl)
theorem cd_123_29 : mt_cd 123 29 = some (.ldc2_w 64) := mt_cd_of (q := (29, .ldc2_w 64, 3)) mq_123 ci_123 (List.mem_of_getElem? (i := 18) rfl)
theorem cd_123_32 : mt_cd 123 32 = some (.lcmp) := mt_cd_of (q := (32, .lcmp, 1)) mq_123 ci_123 (List.mem_of_getElem? (i := 19) rfl)
theorem cd_123_33 : mt_cd 123 33 = some (.ifCond .gt 31) := mt_cd_of (q := (33, .ifCond .gt 31, 3)) mq_123 ci_123 (List.mem_of_getElem? (i := 20) rfl)
theorem cd_123_36 : mt_cd 123 36 = some (.lload_n 2) := mt_cd_of (q := (36, .lload_n 2, 1)) mq_123 ci_123 (List.mem_of_getElem? (i := 21) rfl)
theorem cd_123_37 : mt_cd 123 37 = some (.aload_n 0) := mt_cd_of (q := (37, .aload_n 0, 1)) mq_123 ci_123 (List.mem_of_getElem? (i := 22) rfl)
theorem cd_123_38 : mt_cd 123 38 = some (.getfield 44) := mt_cd_of (q := (38, .getfield 44, 3)) mq_123 ci_123 (List.mem_of_getElem? (i := 23) rfl)
theorem cd_123_41 : mt_cd 123 41 = some (.iload 4) := mt_cd_of (q := (41, .iload 4, 2)) mq_123 ci_123 (List.mem_of_getElem? (i := 24) rfl)
theorem cd_123_43 : mt_cd 123 43 = some (.iconst 1) := mt_cd_of (q := (43, .iconst 1, 1)) mq_123 ci_123 (List.mem_of_getElem? (i := 25) rfl)
theorem cd_123_44 : mt_cd 123 44 = some (.iadd) := mt_cd_of (q := (44, .iadd, 1)) mq_123 ci_123 (List.mem_of_getElem? (i := 26) rfl)
theorem cd_123_45 : mt_cd 123 45 = some (.laload) := mt_cd_of (q := (45, .laload, 1)) mq_123 ci_123 (List.mem_of_getElem? (i := 27) rfl)
theorem cd_123_46 : mt_cd 123 46 = some (.aload_n 0) := mt_cd_of (q := (46, .aload_n 0, 1)) mq_123 ci_123 (List.mem_of_getElem? (i := 28) rfl)
theorem cd_123_47 : mt_cd 123 47 = some (.getfield 44) := mt_cd_of (q := (47, .getfield 44, 3)) mq_123 ci_123 (List.mem_of_getElem? (i := 29) rfl)
theorem cd_123_50 : mt_cd 123 50 = some (.iload 4) := mt_cd_of (q := (50, .iload 4, 2)) mq_123 ci_123 (List.mem_of_getElem? (i := 30) rfl)
theorem cd_123_52 : mt_cd 123 52 = some (.laload) := mt_cd_of (q := (52, .laload, 1)) mq_123 ci_123 (List.mem_of_getElem? (i := 31) rfl)
theorem cd_123_53 : mt_cd 123 53 = some (.lsub) := mt_cd_of (q := (53, .lsub, 1)) mq_123 ci_123 (List.mem_of_getElem? (i := 32) rfl)
theorem cd_123_54 : mt_cd 123 54 = some (.lconst 1) := mt_cd_of (q := (54, .lconst 1, 1)) mq_123 ci_123 (List.mem_of_getElem? (i := 33) rfl)
theorem cd_123_55 : mt_cd 123 55 = some (.ladd) := mt_cd_of (q := (55, .ladd, 1)) mq_123 ci_123 (List.mem_of_getElem? (i := 34) rfl)
theorem cd_123_56 : mt_cd 123 56 = some (.ladd) := mt_cd_of (q := (56, .ladd, 1)) mq_123 ci_123 (List.mem_of_getElem? (i := 35) rfl)
theorem cd_123_57 : mt_cd 123 57 = some (.lstore_n 2) := mt_cd_of (q := (57, .lstore_n 2, 1)) mq_123 ci_123 (List.mem_of_getElem? (i := 36) rfl)
theorem cd_123_58 : mt_cd 123 58 = some (.iinc 4 2) := mt_cd_of (q := (58, .iinc 4 2, 3)) mq_123 ci_123 (List.mem_of_getElem? (i := 37) rfl)
theorem cd_123_61 : mt_cd 123 61 = some (.goto (-51)) := mt_cd_of (q := (61, .goto (-51), 3)) mq_123 ci_123 (List.mem_of_getElem? (i := 38) rfl)
theorem cd_123_64 : mt_cd 123 64 = some (.lload_n 2) := mt_cd_of (q := (64, .lload_n 2, 1)) mq_123 ci_123 (List.mem_of_getElem? (i := 39) rfl)
theorem cd_123_65 : mt_cd 123 65 = some (.ldc2_w 64) := mt_cd_of (q := (65, .ldc2_w 64, 3)) mq_123 ci_123 (List.mem_of_getElem? (i := 40) rfl)
theorem cd_123_68 : mt_cd 123 68 = some (.lcmp) := mt_cd_of (q := (68, .lcmp, 1)) mq_123 ci_123 (List.mem_of_getElem? (i := 41) rfl)
theorem cd_123_69 : mt_cd 123 69 = some (.ifCond .gt 8) := mt_cd_of (q := (69, .ifCond .gt 8, 3)) mq_123 ci_123 (List.mem_of_getElem? (i := 42) rfl)
theorem cd_123_72 : mt_cd 123 72 = some (.lload_n 2) := mt_cd_of (q := (72, .lload_n 2, 1)) mq_123 ci_123 (List.mem_of_getElem? (i := 43) rfl)
theorem cd_123_73 : mt_cd 123 73 = some (.l2i) := mt_cd_of (q := (73, .l2i, 1)) mq_123 ci_123 (List.mem_of_getElem? (i := 44) rfl)
theorem cd_123_74 : mt_cd 123 74 = some (.goto 5) := mt_cd_of (q := (74, .goto 5, 3)) mq_123 ci_123 (List.mem_of_getElem? (i := 45) rfl)
theorem cd_123_77 : mt_cd 123 77 = some (.bipush 17) := mt_cd_of (q := (77, .bipush 17, 2)) mq_123 ci_123 (List.mem_of_getElem? (i := 46) rfl)
theorem cd_123_79 : mt_cd 123 79 = some (.ireturn) := mt_cd_of (q := (79, .ireturn, 1)) mq_123 ci_123 (List.mem_of_getElem? (i := 47) rfl)
theorem b_123_0 {d : Nat} {Q : (Option Value ⊕ Nat) → mi_H → Prop} (n sl : Nat) (f : Nat → mi_C) {l1 : Nat} {l2 : Int32} {o3 : Option Value} {o4 : Option Value} {o5 : Option Value} {fs6 : List Value} {x9 : Nat} (m11 i11 : Nat) (g11 : Nat → Int32) (h7 : f l1 = .inr (2, fs6)) (h8 : l1 < n) (h10 : fs6[5]? = some (.ref x9)) (h12 : f x9 = .inl (0, m11, .inl g11)) (h13 : x9 < n ∨ x9 = mi_SC) (h14 : mi_ix l2 m11 i11) (h15 : mi_W d 123 10 [some (.ref l1), some (.int l2), some (.long 0), none, some (.int (g11 i11))] [] (n, sl, f) Q) : mi_W d 123 0 [some (.ref l1), some (.int l2), o3, o4, o5] [] (n, sl, f) Q := by
  refine w_lconst (lv := 0) cd_123_0 (by decide) ?_
  refine w_lstore_n (ls' := [some (.ref l1), some (.int l2), some (.long 0), none, o5]) cd_123_1 (Nat.le_of_ble_eq_true rfl) rfl ?_
  refine w_aload_n cd_123_2 rfl ?_
  refine w_getfield cd_123_3 (show mt_f 2 27 = some (2, 5) by decide +kernel) h7 h8 h10 ?_
  refine w_iload_n cd_123_6 rfl ?_
  refine w_iaload cd_123_7 h12 h13 h14 ?_
  refine w_istore (ls' := [some (.ref l1), some (.int l2), some (.long 0), none, some (.int (g11 i11))]) cd_123_8 (Nat.le_of_ble_eq_true rfl) rfl ?_
  exact h15
theorem b_123_10 {d : Nat} {Q : (Option Value ⊕ Nat) → mi_H → Prop} (n sl : Nat) (f : Nat → mi_C) {l1 : Nat} {l2 : Int32} {l3 : Int64} {l4 : Int32} (h5 : l4 < (0 : Int32) → mi_W d 123 64 [some (.ref l1), some (.int l2), some (.long l3), none, some (.int l4)] [] (n, sl, f) Q) (h6 : ¬ (l4 < (0 : Int32)) → mi_W d 123 15 [some (.ref l1), some (.int l2), some (.long l3), none, some (.int l4)] [] (n, sl, f) Q) : mi_W d 123 10 [some (.ref l1), some (.int l2), some (.long l3), none, some (.int l4)] [] (n, sl, f) Q := by
  refine w_iload cd_123_10 rfl ?_
  exact w_iflt cd_123_12 (by decide) h5 h6
theorem b_123_15 {d : Nat} {Q : (Option Value ⊕ Nat) → mi_H → Prop} (n sl : Nat) (f : Nat → mi_C) {l1 : Nat} {l2 : Int32} {l3 : Int64} {l4 : Int32} {fs5 : List Value} {x8 : Nat} (m10 i10 : Nat) (g10 : Nat → Int32) (h6 : f l1 = .inr (2, fs5)) (h7 : l1 < n) (h9 : fs5[6]? = some (.ref x8)) (h11 : f x8 = .inl (0, m10, .inl g10)) (h12 : x8 < n ∨ x8 = mi_SC) (h13 : mi_ix l2 m10 i10) (h14 : (g10 i10) ≤ (l4 + 1) → mi_W d 123 64 [some (.ref l1), some (.int l2), some (.long l3), none, some (.int l4)] [] (n, sl, f) Q) (h15 : ¬ ((g10 i10) ≤ (l4 + 1)) → mi_W d 123 28 [some (.ref l1), some (.int l2), some (.long l3), none, some (.int l4)] [] (n, sl, f) Q) : mi_W d 123 15 [some (.ref l1), some (.int l2), some (.long l3), none, some (.int l4)] [] (n, sl, f) Q := by
  refine w_iload cd_123_15 rfl ?_
  refine w_iconst (v := 1) cd_123_17 (by decide) ?_
  refine w_iadd cd_123_18 ?_
  refine w_aload_n cd_123_19 rfl ?_
  refine w_getfield cd_123_20 (show mt_f 2 30 = some (2, 6) by decide +kernel) h6 h7 h9 ?_
  refine w_iload_n cd_123_23 rfl ?_
  refine w_iaload cd_123_24 h11 h12 h13 ?_
  exact w_if_icmpge cd_123_25 (by decide) h14 h15
theorem b_123_28 {d : Nat} {Q : (Option Value ⊕ Nat) → mi_H → Prop} (n sl : Nat) (f : Nat → mi_C) {l1 : Nat} {l2 : Int32} {l3 : Int64} {l4 : Int32} (h5 : (0 : Int32) < (lg_cmp l3 16) → mi_W d 123 64 [some (.ref l1), some (.int l2), some (.long l3), none, some (.int l4)] [] (n, sl, f) Q) (h6 : ¬ ((0 : Int32) < (lg_cmp l3 16)) → mi_W d 123 36 [some (.ref l1), some (.int l2), some (.long l3), none, some (.int l4)] [] (n, sl, f) Q) : mi_W d 123 28 [some (.ref l1), some (.int l2), some (.long l3), none, some (.int l4)] [] (n, sl, f) Q := by
  refine w_lload_n cd_123_28 rfl ?_
  refine w_ldc2_w (lv := 16) cd_123_29 (by decide +kernel) ?_
  refine w_lcmp cd_123_32 ?_
  exact w_ifgt cd_123_33 (by decide) h5 h6
theorem b_123_36 {d : Nat} {Q : (Option Value ⊕ Nat) → mi_H → Prop} (n sl : Nat) (f : Nat → mi_C) {l1 : Nat} {l2 : Int32} {l3 : Int64} {l4 : Int32} {fs5 : List Value} {x8 : Nat} (m10 i10 : Nat) (g10 : Nat → Int64) {fs14 : List Value} {x17 : Nat} (m19 i19 : Nat) (g19 : Nat → Int64) (h6 : f l1 = .inr (2, fs5)) (h7 : l1 < n) (h9 : fs5[10]? = some (.ref x8)) (h11 : f x8 = .inl (3, m10, .inr (.inl g10))) (h12 : x8 < n) (h13 : mi_ix (l4 + 1) m10 i10) (h15 : f l1 = .inr (2, fs14)) (h16 : l1 < n) (h18 : fs14[10]? = some (.ref x17)) (h20 : f x17 = .inl (3, m19, .inr (.inl g19))) (h21 : x17 < n) (h22 : mi_ix l4 m19 i19) (h23 : mi_W d 123 10 [some (.ref l1), some (.int l2), some (.long (l3 + (((g10 i10) - (g19 i19)) + 1))), none, some (.int (l4 + 2))] [] (n, sl, f) Q) : mi_W d 123 36 [some (.ref l1), some (.int l2), some (.long l3), none, some (.int l4)] [] (n, sl, f) Q := by
  refine w_lload_n cd_123_36 rfl ?_
  refine w_aload_n cd_123_37 rfl ?_
  refine w_getfield cd_123_38 (show mt_f 2 44 = some (2, 10) by decide +kernel) h6 h7 h9 ?_
  refine w_iload cd_123_41 rfl ?_
  refine w_iconst (v := 1) cd_123_43 (by decide) ?_
  refine w_iadd cd_123_44 ?_
  refine w_laload cd_123_45 h11 h12 h13 ?_
  refine w_aload_n cd_123_46 rfl ?_
  refine w_getfield cd_123_47 (show mt_f 2 44 = some (2, 10) by decide +kernel) h15 h16 h18 ?_
  refine w_iload cd_123_50 rfl ?_
  refine w_laload cd_123_52 h20 h21 h22 ?_
  refine w_lsub cd_123_53 ?_
  refine w_lconst (lv := 1) cd_123_54 (by decide) ?_
  refine w_ladd cd_123_55 ?_
  refine w_ladd cd_123_56 ?_
  refine w_lstore_n (ls' := [some (.ref l1), some (.int l2), some (.long (l3 + (((g10 i10) - (g19 i19)) + 1))), none, some (.int l4)]) cd_123_57 (Nat.le_of_ble_eq_true rfl) rfl ?_
  refine w_iinc (v := 2) (ls' := [some (.ref l1), some (.int l2), some (.long (l3 + (((g10 i10) - (g19 i19)) + 1))), none, some (.int (l4 + 2))]) cd_123_58 rfl (by decide) rfl ?_
  exact w_goto cd_123_61 (by decide) h23
theorem b_123_64 {d : Nat} {Q : (Option Value ⊕ Nat) → mi_H → Prop} (n sl : Nat) (f : Nat → mi_C) {l1 : Nat} {l2 : Int32} {l3 : Int64} {l4 : Int32} (h5 : (0 : Int32) < (lg_cmp l3 16) → mi_W d 123 77 [some (.ref l1), some (.int l2), some (.long l3), none, some (.int l4)] [] (n, sl, f) Q) (h6 : ¬ ((0 : Int32) < (lg_cmp l3 16)) → mi_W d 123 72 [some (.ref l1), some (.int l2), some (.long l3), none, some (.int l4)] [] (n, sl, f) Q) : mi_W d 123 64 [some (.ref l1), some (.int l2), some (.long l3), none, some (.int l4)] [] (n, sl, f) Q := by
  refine w_lload_n cd_123_64 rfl ?_
  refine w_ldc2_w (lv := 16) cd_123_65 (by decide +kernel) ?_
  refine w_lcmp cd_123_68 ?_
  exact w_ifgt cd_123_69 (by decide) h5 h6
theorem b_123_72 {d : Nat} {Q : (Option Value ⊕ Nat) → mi_H → Prop} (n sl : Nat) (f : Nat → mi_C) {l1 : Nat} {l2 : Int32} {l3 : Int64} {l4 : Int32} (h5 : mi_W d 123 79 [some (.ref l1), some (.int l2), some (.long l3), none, some (.int l4)] [.int ((l3 : Int64).toInt32)] (n, sl, f) Q) : mi_W d 123 72 [some (.ref l1), some (.int l2), some (.long l3), none, some (.int l4)] [] (n, sl, f) Q := by
  refine w_lload_n cd_123_72 rfl ?_
  refine w_l2i cd_123_73 ?_
  exact w_goto cd_123_74 (by decide) h5
theorem b_123_77 {d : Nat} {Q : (Option Value ⊕ Nat) → mi_H → Prop} (n sl : Nat) (f : Nat → mi_C) {l1 : Nat} {l2 : Int32} {l3 : Int64} {l4 : Int32} (h5 : mi_W d 123 79 [some (.ref l1), some (.int l2), some (.long l3), none, some (.int l4)] [.int 17] (n, sl, f) Q) : mi_W d 123 77 [some (.ref l1), some (.int l2), some (.long l3), none, some (.int l4)] [] (n, sl, f) Q := by
  refine w_bipush (v := 17) cd_123_77 (by decide) ?_
  exact h5
theorem b_123_79 {d : Nat} {Q : (Option Value ⊕ Nat) → mi_H → Prop} (n sl : Nat) (f : Nat → mi_C) {l1 : Nat} {l2 : Int32} {l3 : Int64} {l4 : Int32} {s5 : Int32} (h6 : Q (.inl (some (.int s5))) (n, sl, f)) : mi_W d 123 79 [some (.ref l1), some (.int l2), some (.long l3), none, some (.int l4)] [.int s5] (n, sl, f) Q := by
  exact w_ireturn_i cd_123_79 (by decide +kernel) h6
/-! MarloweHost$Analyser.findStep(I)Z -/
set_option maxRecDepth 100000 in
theorem mq_124 : mt_q 124 = my_124 := rfl
set_option maxRecDepth 100000 in
theorem ci_124 : mt_inc 0 my_124.cd = true := by decide +kernel
theorem cd_124_0 : mt_cd 124 0 = some (.aload_n 0) := mt_cd_of (q := (0, .aload_n 0, 1)) mq_124 ci_124 (List.mem_append_left _ (show _ ∈ my_124_0 from List.mem_of_getElem? (i := 0) rfl))
theorem cd_124_1 : mt_cd 124 1 = some (.getfield 20) := mt_cd_of (q := (1, .getfield 20, 3)) mq_124 ci_124 (List.mem_append_left _ (show _ ∈ my_124_0 from List.mem_of_getElem? (i := 1) rfl))
theorem cd_124_4 : mt_cd 124 4 = some (.iload_n 1) := mt_cd_of (q := (4, .iload_n 1, 1)) mq_124 ci_124 (List.mem_append_left _ (show _ ∈ my_124_0 from List.mem_of_getElem? (i := 2) rfl))
theorem cd_124_5 : mt_cd 124 5 = some (.aaload) := mt_cd_of (q := (5, .aaload, 1)) mq_124 ci_124 (List.mem_append_left _ (show _ ∈ my_124_0 from List.mem_of_getElem? (i := 3) rfl))
theorem cd_124_6 : mt_cd 124 6 = some (.astore_n 2) := mt_cd_of (q := (6, .astore_n 2, 1)) mq_124 ci_124 (List.mem_append_left _ (show _ ∈ my_124_0 from List.mem_of_getElem? (i := 4) rfl))
theorem cd_124_7 : mt_cd 124 7 = some (.aload_n 0) := mt_cd_of (q := (7, .aload_n 0, 1)) mq_124 ci_124 (List.mem_append_left _ (show _ ∈ my_124_0 from List.mem_of_getElem? (i := 5) rfl))
theorem cd_124_8 : mt_cd 124 8 = some (.getfield 24) := mt_cd_of (q := (8, .getfield 24, 3)) mq_124 ci_124 (List.mem_append_left _ (show _ ∈ my_124_0 from List.mem_of_getElem? (i := 6) rfl))
theorem cd_124_11 : mt_cd 124 11 = some (.iload_n 1) := mt_cd_of (q := (11, .iload_n 1, 1)) mq_124 ci_124 (List.mem_append_left _ (show _ ∈ my_124_0 from List.mem_of_getElem? (i := 7) rfl))
theorem cd_124_12 : mt_cd 124 12 = some (.iaload) := mt_cd_of (q := (12, .iaload, 1)) mq_124 ci_124 (List.mem_append_left _ (show _ ∈ my_124_0 from List.mem_of_getElem? (i := 8) rfl))
theorem cd_124_13 : mt_cd 124 13 = some (.bipush (-3)) := mt_cd_of (q := (13, .bipush (-3), 2)) mq_124 ci_124 (List.mem_append_left _ (show _ ∈ my_124_0 from List.mem_of_getElem? (i := 9) rfl))
theorem cd_124_15 : mt_cd 124 15 = some (.if_icmp .ne 76) := mt_cd_of (q := (15, .if_icmp .ne 76, 3)) mq_124 ci_124 (List.mem_append_left _ (show _ ∈ my_124_0 from List.mem_of_getElem? (i := 10) rfl))
theorem cd_124_18 : mt_cd 124 18 = some (.aload_n 0) := mt_cd_of (q := (18, .aload_n 0, 1)) mq_124 ci_124 (List.mem_append_left _ (show _ ∈ my_124_0 from List.mem_of_getElem? (i := 11) rfl))
theorem cd_124_19 : mt_cd 124 19 = some (.getfield 50) := mt_cd_of (q := (19, .getfield 50, 3)) mq_124 ci_124 (List.mem_append_left _ (show _ ∈ my_124_0 from List.mem_of_getElem? (i := 12) rfl))
theorem cd_124_22 : mt_cd 124 22 = some (.aload_n 2) := mt_cd_of (q := (22, .aload_n 2, 1)) mq_124 ci_124 (List.mem_append_left _ (show _ ∈ my_124_0 from List.mem_of_getElem? (i := 13) rfl))
theorem cd_124_23 : mt_cd 124 23 = some (.invokevirtual 99) := mt_cd_of (q := (23, .invokevirtual 99, 3)) mq_124 ci_124 (List.mem_append_left _ (show _ ∈ my_124_0 from List.mem_of_getElem? (i := 14) rfl))
theorem cd_124_26 : mt_cd 124 26 = some (.ifCond .eq 20) := mt_cd_of (q := (26, .ifCond .eq 20, 3)) mq_124 ci_124 (List.mem_append_left _ (show _ ∈ my_124_0 from List.mem_of_getElem? (i := 15) rfl))
theorem cd_124_29 : mt_cd 124 29 = some (.aload_n 0) := mt_cd_of (q := (29, .aload_n 0, 1)) mq_124 ci_124 (List.mem_append_left _ (show _ ∈ my_124_0 from List.mem_of_getElem? (i := 16) rfl))
theorem cd_124_30 : mt_cd 124 30 = some (.getfield 24) := mt_cd_of (q := (30, .getfield 24, 3)) mq_124 ci_124 (List.mem_append_left _ (show _ ∈ my_124_0 from List.mem_of_getElem? (i := 17) rfl))
theorem cd_124_33 : mt_cd 124 33 = some (.iload_n 1) := mt_cd_of (q := (33, .iload_n 1, 1)) mq_124 ci_124 (List.mem_append_left _ (show _ ∈ my_124_0 from List.mem_of_getElem? (i := 18) rfl))
theorem cd_124_34 : mt_cd 124 34 = some (.bipush (-2)) := mt_cd_of (q := (34, .bipush (-2), 2)) mq_124 ci_124 (List.mem_append_left _ (show _ ∈ my_124_0 from List.mem_of_getElem? (i := 19) rfl))
theorem cd_124_36 : mt_cd 124 36 = some (.iastore) := mt_cd_of (q := (36, .iastore, 1)) mq_124 ci_124 (List.mem_append_left _ (show _ ∈ my_124_0 from List.mem_of_getElem? (i := 20) rfl))
theorem cd_124_37 : mt_cd 124 37 = some (.aload_n 0) := mt_cd_of (q := (37, .aload_n 0, 1)) mq_124 ci_124 (List.mem_append_left _ (show _ ∈ my_124_0 from List.mem_of_getElem? (i := 21) rfl))
theorem cd_124_38 : mt_cd 124 38 = some (.iload_n 1) := mt_cd_of (q := (38, .iload_n 1, 1)) mq_124 ci_124 (List.mem_append_left _ (show _ ∈ my_124_0 from List.mem_of_getElem? (i := 22) rfl))
theorem cd_124_39 : mt_cd 124 39 = some (.iconst 0) := mt_cd_of (q := (39, .iconst 0, 1)) mq_124 ci_124 (List.mem_append_left _ (show _ ∈ my_124_0 from List.mem_of_getElem? (i := 23) rfl))
theorem cd_124_40 : mt_cd 124 40 = some (.lconst 0) := mt_cd_of (q := (40, .lconst 0, 1)) mq_124 ci_124 (List.mem_append_left _ (show _ ∈ my_124_0 from List.mem_of_getElem? (i := 24) rfl))
theorem cd_124_41 : mt_cd 124 41 = some (.iconst (-1)) := mt_cd_of (q := (41, .iconst (-1), 1)) mq_124 ci_124 (List.mem_append_left _ (show _ ∈ my_124_0 from List.mem_of_getElem? (i := 25) rfl))
theorem cd_124_42 : mt_cd 124 42 = some (.invokevirtual 103) := mt_cd_of (q := (42, .invokevirtual 103, 3)) mq_124 ci_124 (List.mem_append_left _ (show _ ∈ my_124_0 from List.mem_of_getElem? (i := 26) rfl))
theorem cd_124_45 : mt_cd 124 45 = some (.ireturn) := mt_cd_of (q := (45, .ireturn, 1)) mq_124 ci_124 (List.mem_append_left _ (show _ ∈ my_124_0 from List.mem_of_getElem? (i := 27) rfl))
theorem cd_124_46 : mt_cd 124 46 = some (.aload_n 0) := mt_cd_of (q := (46, .aload_n 0, 1)) mq_124 ci_124 (List.mem_append_left _ (show _ ∈ my_124_0 from List.mem_of_getElem? (i := 28) rfl))
theorem cd_124_47 : mt_cd 124 47 = some (.getfield 24) := mt_cd_of (q := (47, .getfield 24, 3)) mq_124 ci_124 (List.mem_append_left _ (show _ ∈ my_124_0 from List.mem_of_getElem? (i := 29) rfl))
theorem cd_124_50 : mt_cd 124 50 = some (.iload_n 1) := mt_cd_of (q := (50, .iload_n 1, 1)) mq_124 ci_124 (List.mem_append_left _ (show _ ∈ my_124_0 from List.mem_of_getElem? (i := 30) rfl))
theorem cd_124_51 : mt_cd 124 51 = some (.aload_n 0) := mt_cd_of (q := (51, .aload_n 0, 1)) mq_124 ci_124 (List.mem_append_left _ (show _ ∈ my_124_0 from List.mem_of_getElem? (i := 31) rfl))
theorem cd_124_52 : mt_cd 124 52 = some (.getfield 41) := mt_cd_of (q := (52, .getfield 41, 3)) mq_124 ci_124 (List.mem_append_left _ (show _ ∈ my_124_0 from List.mem_of_getElem? (i := 32) rfl))
theorem cd_124_55 : mt_cd 124 55 = some (.aload_n 2) := mt_cd_of (q := (55, .aload_n 2, 1)) mq_124 ci_124 (List.mem_append_left _ (show _ ∈ my_124_0 from List.mem_of_getElem? (i := 33) rfl))
theorem cd_124_56 : mt_cd 124 56 = some (.getfield 71) := mt_cd_of (q := (56, .getfield 71, 3)) mq_124 ci_124 (List.mem_append_left _ (show _ ∈ my_124_0 from List.mem_of_getElem? (i := 34) rfl))
theorem cd_124_59 : mt_cd 124 59 = some (.invokevirtual 107) := mt_cd_of (q := (59, .invokevirtual 107, 3)) mq_124 ci_124 (List.mem_append_left _ (show _ ∈ my_124_0 from List.mem_of_getElem? (i := 35) rfl))
theorem cd_124_62 : mt_cd 124 62 = some (.iconst 5) := mt_cd_of (q := (62, .iconst 5, 1)) mq_124 ci_124 (List.mem_append_left _ (show _ ∈ my_124_0 from List.mem_of_getElem? (i := 36) rfl))
theorem cd_124_63 : mt_cd 124 63 = some (.if_icmp .ne 18) := mt_cd_of (q := (63, .if_icmp .ne 18, 3)) mq_124 ci_124 (List.mem_append_left _ (show _ ∈ my_124_0 from List.mem_of_getElem? (i := 37) rfl))
theorem cd_124_66 : mt_cd 124 66 = some (.aload_n 0) := mt_cd_of (q := (66, .aload_n 0, 1)) mq_124 ci_124 (List.mem_append_left _ (show _ ∈ my_124_0 from List.mem_of_getElem? (i := 38) rfl))
theorem cd_124_67 : mt_cd 124 67 = some (.getfield 41) := mt_cd_of (q := (67, .getfield 41, 3)) mq_124 ci_124 (List.mem_append_left _ (show _ ∈ my_124_0 from List.mem_of_getElem? (i := 39) rfl))
theorem cd_124_70 : mt_cd 124 70 = some (.getfield 111) := mt_cd_of (q := (70, .getfield 111, 3)) mq_124 ci_124 (List.mem_append_left _ (show _ ∈ my_124_0 from List.mem_of_getElem? (i := 40) rfl))
theorem cd_124_73 : mt_cd 124 73 = some (.aload_n 2) := mt_cd_of (q := (73, .aload_n 2, 1)) mq_124 ci_124 (List.mem_append_left _ (show _ ∈ my_124_0 from List.mem_of_getElem? (i := 41) rfl))
theorem cd_124_74 : mt_cd 124 74 = some (.getfield 71) := mt_cd_of (q := (74, .getfield 71, 3)) mq_124 ci_124 (List.mem_append_left _ (show _ ∈ my_124_0 from List.mem_of_getElem? (i := 42) rfl))
theorem cd_124_77 : mt_cd 124 77 = some (.iaload) := mt_cd_of (q := (77, .iaload, 1)) mq_124 ci_124 (List.mem_append_left _ (show _ ∈ my_124_0 from List.mem_of_getElem? (i := 43) rfl))
theorem cd_124_78 : mt_cd 124 78 = some (.goto 5) := mt_cd_of (q := (78, .goto 5, 3)) mq_124 ci_124 (List.mem_append_left _ (show _ ∈ my_124_0 from List.mem_of_getElem? (i := 44) rfl))
theorem cd_124_81 : mt_cd 124 81 = some (.bipush (-2)) := mt_cd_of (q := (81, .bipush (-2), 2)) mq_124 ci_124 (List.mem_append_left _ (show _ ∈ my_124_0 from List.mem_of_getElem? (i := 45) rfl))
theorem cd_124_83 : mt_cd 124 83 = some (.iastore) := mt_cd_of (q := (83, .iastore, 1)) mq_124 ci_124 (List.mem_append_left _ (show _ ∈ my_124_0 from List.mem_of_getElem? (i := 46) rfl))
theorem cd_124_84 : mt_cd 124 84 = some (.aload_n 0) := mt_cd_of (q := (84, .aload_n 0, 1)) mq_124 ci_124 (List.mem_append_left _ (show _ ∈ my_124_0 from List.mem_of_getElem? (i := 47) rfl))
theorem cd_124_85 : mt_cd 124 85 = some (.getfield 28) := mt_cd_of (q := (85, .getfield 28, 3)) mq_124 ci_124 (List.mem_append_left _ (show _ ∈ my_124_0 from List.mem_of_getElem? (i := 48) rfl))
theorem cd_124_88 : mt_cd 124 88 = some (.iload_n 1) := mt_cd_of (q := (88, .iload_n 1, 1)) mq_124 ci_124 (List.mem_append_left _ (show _ ∈ my_124_0 from List.mem_of_getElem? (i := 49) rfl))
theorem cd_124_89 : mt_cd 124 89 = some (.iconst 0) := mt_cd_of (q := (89, .iconst 0, 1)) mq_124 ci_124 (List.mem_append_left _ (show _ ∈ my_124_0 from List.mem_of_getElem? (i := 50) rfl))
theorem cd_124_90 : mt_cd 124 90 = some (.iastore) := mt_cd_of (q := (90, .iastore, 1)) mq_124 ci_124 (List.mem_append_left _ (show _ ∈ my_124_0 from List.mem_of_getElem? (i := 51) rfl))
theorem cd_124_91 : mt_cd 124 91 = some (.iconst 0) := mt_cd_of (q := (91, .iconst 0, 1)) mq_124 ci_124 (List.mem_append_left _ (show _ ∈ my_124_0 from List.mem_of_getElem? (i := 52) rfl))
theorem cd_124_92 : mt_cd 124 92 = some (.istore_n 3) := mt_cd_of (q := (92, .istore_n 3, 1)) mq_124 ci_124 (List.mem_append_left _ (show _ ∈ my_124_0 from List.mem_of_getElem? (i := 53) rfl))
theorem cd_124_93 : mt_cd 124 93 = some (.iload_n 3) := mt_cd_of (q := (93, .iload_n 3, 1)) mq_124 ci_124 (List.mem_append_left _ (show _ ∈ my_124_0 from List.mem_of_getElem? (i := 54) rfl))
theorem cd_124_94 : mt_cd 124 94 = some (.bipush 8) := mt_cd_of (q := (94, .bipush 8, 2)) mq_124 ci_124 (List.mem_append_left _ (show _ ∈ my_124_0 from List.mem_of_getElem? (i := 55) rfl))
theorem cd_124_96 : mt_cd 124 96 = some (.if_icmp .ge 41) := mt_cd_of (q := (96, .if_icmp .ge 41, 3)) mq_124 ci_124 (List.mem_append_left _ (show _ ∈ my_124_0 from List.mem_of_getElem? (i := 56) rfl))
theorem cd_124_99 : mt_cd 124 99 = some (.aload_n 0) := mt_cd_of (q := (99, .aload_n 0, 1)) mq_124 ci_124 (List.mem_append_left _ (show _ ∈ my_124_0 from List.mem_of_getElem? (i := 57) rfl))
theorem cd_124_100 : mt_cd 124 100 = some (.getfield 41) := mt_cd_of (q := (100, .getfield 41, 3)) mq_124 ci_124 (List.mem_append_left _ (show _ ∈ my_124_0 from List.mem_of_getElem? (i := 58) rfl))
theorem cd_124_103 : mt_cd 124 103 = some (.aload_n 0) := mt_cd_of (q := (103, .aload_n 0, 1)) mq_124 ci_124 (List.mem_append_left _ (show _ ∈ my_124_0 from List.mem_of_getElem? (i := 59) rfl))
theorem cd_124_104 : mt_cd 124 104 = some (.getfield 24) := mt_cd_of (q := (104, .getfield 24, 3)) mq_124 ci_124 (List.mem_append_right _ ((show _ ∈ my_124_1 from List.mem_of_getElem? (i := 0) rfl)))
theorem cd_124_107 : mt_cd 124 107 = some (.iload_n 1) := mt_cd_of (q := (107, .iload_n 1, 1)) mq_124 ci_124 (List.mem_append_right _ ((show _ ∈ my_124_1 from List.mem_of_getElem? (i := 1) rfl)))
theorem cd_124_108 : mt_cd 124 108 = some (.iaload) := mt_cd_of (q := (108, .iaload, 1)) mq_124 ci_124 (List.mem_append_right _ ((show _ ∈ my_124_1 from List.mem_of_getElem? (i := 2) rfl)))
theorem cd_124_109 : mt_cd 124 109 = some (.invokevirtual 114) := mt_cd_of (q := (109, .invokevirtual 114, 3)) mq_124 ci_124 (List.mem_append_right _ ((show _ ∈ my_124_1 from List.mem_of_getElem? (i := 3) rfl)))
theorem cd_124_112 : mt_cd 124 112 = some (.ifCond .eq 25) := mt_cd_of (q := (112, .ifCond .eq 25, 3)) mq_124 ci_124 (List.mem_append_right _ ((show _ ∈ my_124_1 from List.mem_of_getElem? (i := 4) rfl)))
theorem cd_124_115 : mt_cd 124 115 = some (.aload_n 0) := mt_cd_of (q := (115, .aload_n 0, 1)) mq_124 ci_124 (List.mem_append_right _ ((show _ ∈ my_124_1 from List.mem_of_getElem? (i := 5) rfl)))
theorem cd_124_116 : mt_cd 124 116 = some (.iload_n 1) := mt_cd_of (q := (116, .iload_n 1, 1)) mq_124 ci_124 (List.mem_append_right _ ((show _ ∈ my_124_1 from List.mem_of_getElem? (i := 6) rfl)))
theorem cd_124_117 : mt_cd 124 117 = some (.aload_n 0) := mt_cd_of (q := (117, .aload_n 0, 1)) mq_124 ci_124 (List.mem_append_right _ ((show _ ∈ my_124_1 from List.mem_of_getElem? (i := 7) rfl)))
theorem cd_124_118 : mt_cd 124 118 = some (.getfield 24) := mt_cd_of (q := (118, .getfield 24, 3)) mq_124 ci_124 (List.mem_append_right _ ((show _ ∈ my_124_1 from List.mem_of_getElem? (i := 8) rfl)))
theorem cd_124_121 : mt_cd 124 121 = some (.iload_n 1) := mt_cd_of (q := (121, .iload_n 1, 1)) mq_124 ci_124 (List.mem_append_right _ ((show _ ∈ my_124_1 from List.mem_of_getElem? (i := 9) rfl)))
theorem cd_124_122 : mt_cd 124 122 = some (.iaload) := mt_cd_of (q := (122, .iaload, 1)) mq_124 ci_124 (List.mem_append_right _ ((show _ ∈ my_124_1 from List.mem_of_getElem? (i := 10) rfl)))
theorem cd_124_123 : mt_cd 124 123 = some (.invokevirtual 117) := mt_cd_of (q := (123, .invokevirtual 117, 3)) mq_124 ci_124 (List.mem_append_right _ ((show _ ∈ my_124_1 from List.mem_of_getElem? (i := 11) rfl)))
theorem cd_124_126 : mt_cd 124 126 = some (.ifCond .eq 5) := mt_cd_of (q := (126, .ifCond .eq 5, 3)) mq_124 ci_124 (List.mem_append_right _ ((show _ ∈ my_124_1 from List.mem_of_getElem? (i := 12) rfl)))
theorem cd_124_129 : mt_cd 124 129 = some (.iconst 1) := mt_cd_of (q := (129, .iconst 1, 1)) mq_124 ci_124 (List.mem_append_right _ ((show _ ∈ my_124_1 from List.mem_of_getElem? (i := 13) rfl)))
theorem cd_124_130 : mt_cd 124 130 = some (.ireturn) := mt_cd_of (q := (130, .ireturn, 1)) mq_124 ci_124 (List.mem_append_right _ ((show _ ∈ my_124_1 from List.mem_of_getElem? (i := 14) rfl)))
theorem cd_124_131 : mt_cd 124 131 = some (.iinc 3 1) := mt_cd_of (q := (131, .iinc 3 1, 3)) mq_124 ci_124 (List.mem_append_right _ ((show _ ∈ my_124_1 from List.mem_of_getElem? (i := 15) rfl)))
theorem cd_124_134 : mt_cd 124 134 = some (.goto (-41)) := mt_cd_of (q := (134, .goto (-41), 3)) mq_124 ci_124 (List.mem_append_right _ ((show _ ∈ my_124_1 from List.mem_of_getElem? (i := 16) rfl)))
theorem cd_124_137 : mt_cd 124 137 = some (.aload_n 0) := mt_cd_of (q := (137, .aload_n 0, 1)) mq_124 ci_124 (List.mem_append_right _ ((show _ ∈ my_124_1 from List.mem_of_getElem? (i := 17) rfl)))
theorem cd_124_138 : mt_cd 124 138 = some (.getfield 24) := mt_cd_of (q := (138, .getfield 24, 3)) mq_124 ci_124 (List.mem_append_right _ ((show _ ∈ my_124_1 from List.mem_of_getElem? (i := 18) rfl)))
theorem cd_124_141 : mt_cd 124 141 = some (.iload_n 1) := mt_cd_of (q := (141, .iload_n 1, 1)) mq_124 ci_124 (List.mem_append_right _ ((show _ ∈ my_124_1 from List.mem_of_getElem? (i := 19) rfl)))
theorem cd_124_142 : mt_cd 124 142 = some (.iaload) := mt_cd_of (q := (142, .iaload, 1)) mq_124 ci_124 (List.mem_append_right _ ((show _ ∈ my_124_1 from List.mem_of_getElem? (i := 20) rfl)))
theorem cd_124_143 : mt_cd 124 143 = some (.iconst (-1)) := mt_cd_of (q := (143, .iconst (-1), 1)) mq_124 ci_124 (List.mem_append_right _ ((show _ ∈ my_124_1 from List.mem_of_getElem? (i := 21) rfl)))
theorem cd_124_144 : mt_cd 124 144 = some (.if_icmp .eq 5) := mt_cd_of (q := (144, .if_icmp .eq 5, 3)) mq_124 ci_124 (List.mem_append_right _ ((show _ ∈ my_124_1 from List.mem_of_getElem? (i := 22) rfl)))
theorem cd_124_147 : mt_cd 124 147 = some (.iconst 0) := mt_cd_of (q := (147, .iconst 0, 1)) mq_124 ci_124 (List.mem_append_right _ ((show _ ∈ my_124_1 from List.mem_of_getElem? (i := 23) rfl)))
theorem cd_124_148 : mt_cd 124 148 = some (.ireturn) := mt_cd_of (q := (148, .ireturn, 1)) mq_124 ci_124 (List.mem_append_right _ ((show _ ∈ my_124_1 from List.mem_of_getElem? (i := 24) rfl)))
theorem cd_124_149 : mt_cd 124 149 = some (.aload_n 0) := mt_cd_of (q := (149, .aload_n 0, 1)) mq_124 ci_124 (List.mem_append_right _ ((show _ ∈ my_124_1 from List.mem_of_getElem? (i := 25) rfl)))
theorem cd_124_150 : mt_cd 124 150 = some (.getfield 24) := mt_cd_of (q := (150, .getfield 24, 3)) mq_124 ci_124 (List.mem_append_right _ ((show _ ∈ my_124_1 from List.mem_of_getElem? (i := 26) rfl)))
theorem cd_124_153 : mt_cd 124 153 = some (.iload_n 1) := mt_cd_of (q := (153, .iload_n 1, 1)) mq_124 ci_124 (List.mem_append_right _ ((show _ ∈ my_124_1 from List.mem_of_getElem? (i := 27) rfl)))
theorem cd_124_154 : mt_cd 124 154 = some (.bipush (-2)) := mt_cd_of (q := (154, .bipush (-2), 2)) mq_124 ci_124 (List.mem_append_right _ ((show _ ∈ my_124_1 from List.mem_of_getElem? (i := 28) rfl)))
theorem cd_124_156 : mt_cd 124 156 = some (.iastore) := mt_cd_of (q := (156, .iastore, 1)) mq_124 ci_124 (List.mem_append_right _ ((show _ ∈ my_124_1 from List.mem_of_getElem? (i := 29) rfl)))
theorem cd_124_157 : mt_cd 124 157 = some (.aload_n 0) := mt_cd_of (q := (157, .aload_n 0, 1)) mq_124 ci_124 (List.mem_append_right _ ((show _ ∈ my_124_1 from List.mem_of_getElem? (i := 30) rfl)))
theorem cd_124_158 : mt_cd 124 158 = some (.iload_n 1) := mt_cd_of (q := (158, .iload_n 1, 1)) mq_124 ci_124 (List.mem_append_right _ ((show _ ∈ my_124_1 from List.mem_of_getElem? (i := 31) rfl)))
theorem cd_124_159 : mt_cd 124 159 = some (.iconst 4) := mt_cd_of (q := (159, .iconst 4, 1)) mq_124 ci_124 (List.mem_append_right _ ((show _ ∈ my_124_1 from List.mem_of_getElem? (i := 32) rfl)))
theorem cd_124_160 : mt_cd 124 160 = some (.aload_n 0) := mt_cd_of (q := (160, .aload_n 0, 1)) mq_124 ci_124 (List.mem_append_right _ ((show _ ∈ my_124_1 from List.mem_of_getElem? (i := 33) rfl)))
theorem cd_124_161 : mt_cd 124 161 = some (.getfield 41) := mt_cd_of (q := (161, .getfield 41, 3)) mq_124 ci_124 (List.mem_append_right _ ((show _ ∈ my_124_1 from List.mem_of_getElem? (i := 34) rfl)))
theorem cd_124_164 : mt_cd 124 164 = some (.getfield 121) := mt_cd_of (q := (164, .getfield 121, 3)) mq_124 ci_124 (List.mem_append_right _ ((show _ ∈ my_124_1 from List.mem_of_getElem? (i := 35) rfl)))
theorem cd_124_167 : mt_cd 124 167 = some (.aload_n 2) := mt_cd_of (q := (167, .aload_n 2, 1)) mq_124 ci_124 (List.mem_append_right _ ((show _ ∈ my_124_1 from List.mem_of_getElem? (i := 36) rfl)))
theorem cd_124_168 : mt_cd 124 168 = some (.getfield 71) := mt_cd_of (q := (168, .getfield 71, 3)) mq_124 ci_124 (List.mem_append_right _ ((show _ ∈ my_124_1 from List.mem_of_getElem? (i := 37) rfl)))
theorem cd_124_171 : mt_cd 124 171 = some (.laload) := mt_cd_of (q := (171, .laload, 1)) mq_124 ci_124 (List.mem_append_right _ ((show _ ∈ my_124_1 from List.mem_of_getElem? (i := 38) rfl)))
theorem cd_124_172 : mt_cd 124 172 = some (.iconst (-1)) := mt_cd_of (q := (172, .iconst (-1), 1)) mq_124 ci_124 (List.mem_append_right _ ((show _ ∈ my_124_1 from List.mem_of_getElem? (i := 39) rfl)))
theorem cd_124_173 : mt_cd 124 173 = some (.invokevirtual 103) := mt_cd_of (q := (173, .invokevirtual 103, 3)) mq_124 ci_124 (List.mem_append_right _ ((show _ ∈ my_124_1 from List.mem_of_getElem? (i := 40) rfl)))
theorem cd_124_176 : mt_cd 124 176 = some (.ireturn) := mt_cd_of (q := (176, .ireturn, 1)) mq_124 ci_124 (List.mem_append_right _ ((show _ ∈ my_124_1 from List.mem_of_getElem? (i := 41) rfl)))
theorem b_124_0 {d : Nat} {Q : (Option Value ⊕ Nat) → mi_H → Prop} (n sl : Nat) (f : Nat → mi_C) {l1 : Nat} {l2 : Int32} {o3 : Option Value} {o4 : Option Value} {fs5 : List Value} {x8 : Nat} (m10 i10 ka10 : Nat) (g10 : Nat → Option Nat) {x15 : Nat} {fs17 : List Value} {x20 : Nat} (m22 i22 : Nat) (g22 : Nat → Int32) (h6 : f l1 = .inr (11, fs5)) (h7 : l1 < n) (h9 : fs5[4]? = some (.ref x8)) (h11 : f x8 = .inl (ka10, m10, .inr (.inr (.inr (.inr g10))))) (h12 : x8 < n) (h13 : 4 ≤ ka10 ∧ ka10 < mt_na) (h14 : mi_ix l2 m10 i10) (h16 : g10 i10 = some x15) (h18 : f l1 = .inr (11, fs17)) (h19 : l1 < n) (h21 : fs17[5]? = some (.ref x20)) (h23 : f x20 = .inl (0, m22, .inl g22)) (h24 : x20 < n ∨ x20 = mi_SC) (h25 : mi_ix l2 m22 i22) (h26 : ¬ (g22 i22) = ((-3)) → mi_W d 124 91 [some (.ref l1), some (.int l2), some (.ref x15), o4] [] (n, sl, f) Q) (h27 : ¬ (¬ (g22 i22) = ((-3))) → mi_W d 124 18 [some (.ref l1), some (.int l2), some (.ref x15), o4] [] (n, sl, f) Q) : mi_W d 124 0 [some (.ref l1), some (.int l2), o3, o4] [] (n, sl, f) Q := by
  refine w_aload_n cd_124_0 rfl ?_
  refine w_getfield cd_124_1 (show mt_f 11 20 = some (11, 4) by decide +kernel) h6 h7 h9 ?_
  refine w_iload_n cd_124_4 rfl ?_
  refine w_aaload (w := .ref x15) cd_124_5 h11 h12 h13 h14 (by rw [h16]; rfl) ?_
  refine w_astore_n (ls' := [some (.ref l1), some (.int l2), some (.ref x15), o4]) cd_124_6 (Nat.le_of_ble_eq_true rfl) rfl ?_
  refine w_aload_n cd_124_7 rfl ?_
  refine w_getfield cd_124_8 (show mt_f 11 24 = some (11, 5) by decide +kernel) h18 h19 h21 ?_
  refine w_iload_n cd_124_11 rfl ?_
  refine w_iaload cd_124_12 h23 h24 h25 ?_
  refine w_bipush (v := (-3)) cd_124_13 (by decide) ?_
  exact w_if_icmpne cd_124_15 (by decide) h26 h27
theorem b_124_18 {d : Nat} {Q : (Option Value ⊕ Nat) → mi_H → Prop} (n sl : Nat) (f : Nat → mi_C) {l1 : Nat} {l2 : Int32} {l3 : Nat} {o4 : Option Value} {fs5 : List Value} {x8 : Nat} {fs10 : List Value} (h6 : f l1 = .inr (11, fs5)) (h7 : l1 < n) (h9 : fs5[1]? = some (.ref x8)) (h11 : f x8 = .inr (7, fs10)) (h12 : x8 < n) (h13 : mi_W d 125 0 (mi_en 3 [.ref x8, .ref l3]) [] (n, sl, f) (mi_Kc d 124 23 [some (.ref l1), some (.int l2), some (.ref l3), o4] [] Q)) : mi_W (d + 1) 124 18 [some (.ref l1), some (.int l2), some (.ref l3), o4] [] (n, sl, f) Q := by
  refine w_aload_n cd_124_18 rfl ?_
  refine w_getfield cd_124_19 (show mt_f 11 50 = some (11, 1) by decide +kernel) h6 h7 h9 ?_
  refine w_aload_n cd_124_22 rfl ?_
  exact w_invokevirtual cd_124_23 (show mt_m 11 99 = some (125, 0) by decide +kernel) (rest := []) rfl (as := [.ref x8, .ref l3]) rfl h11 (Or.inl h12) ⟨Nat.le_of_ble_eq_true rfl, Nat.le_of_ble_eq_true rfl, Nat.le_of_ble_eq_true rfl⟩ h13
theorem b_124_26 {d : Nat} {Q : (Option Value ⊕ Nat) → mi_H → Prop} (n sl : Nat) (f : Nat → mi_C) {l1 : Nat} {l2 : Int32} {l3 : Nat} {o4 : Option Value} {s5 : Int32} (h6 : s5 = (0 : Int32) → mi_W d 124 46 [some (.ref l1), some (.int l2), some (.ref l3), o4] [] (n, sl, f) Q) (h7 : ¬ (s5 = (0 : Int32)) → mi_W d 124 29 [some (.ref l1), some (.int l2), some (.ref l3), o4] [] (n, sl, f) Q) : mi_W d 124 26 [some (.ref l1), some (.int l2), some (.ref l3), o4] [.int s5] (n, sl, f) Q := by
  exact w_ifeq cd_124_26 (by decide) h6 h7
theorem b_124_29 {d : Nat} {Q : (Option Value ⊕ Nat) → mi_H → Prop} (n sl : Nat) (f : Nat → mi_C) {l1 : Nat} {l2 : Int32} {l3 : Nat} {o4 : Option Value} {fs5 : List Value} {x8 : Nat} (m10 i10 : Nat) (g10 : Nat → Int32) {fs14 : List Value} (h6 : f l1 = .inr (11, fs5)) (h7 : l1 < n) (h9 : fs5[5]? = some (.ref x8)) (h11 : f x8 = .inl (0, m10, .inl g10)) (h12 : x8 < n) (h13 : mi_ix l2 m10 i10) (h15 : (va_up f x8 (.inl (0, m10, .inl (upd g10 i10 ((-2)))))) l1 = .inr (11, fs14)) (h16 : l1 < n) (h17 : mi_W d 126 0 (mi_en 6 [.ref l1, .int l2, .int 0, .long 0, .int (-1)]) [] (n, sl, (va_up f x8 (.inl (0, m10, .inl (upd g10 i10 ((-2))))))) (mi_Kc d 124 42 [some (.ref l1), some (.int l2), some (.ref l3), o4] [] Q)) : mi_W (d + 1) 124 29 [some (.ref l1), some (.int l2), some (.ref l3), o4] [] (n, sl, f) Q := by
  refine w_aload_n cd_124_29 rfl ?_
  refine w_getfield cd_124_30 (show mt_f 11 24 = some (11, 5) by decide +kernel) h6 h7 h9 ?_
  refine w_iload_n cd_124_33 rfl ?_
  refine w_bipush (v := (-2)) cd_124_34 (by decide) ?_
  refine w_iastore cd_124_36 h11 h12 h13 ?_
  refine w_aload_n cd_124_37 rfl ?_
  refine w_iload_n cd_124_38 rfl ?_
  refine w_iconst (v := 0) cd_124_39 (by decide) ?_
  refine w_lconst (lv := 0) cd_124_40 (by decide) ?_
  refine w_iconst (v := (-1)) cd_124_41 (by decide) ?_
  exact w_invokevirtual cd_124_42 (show mt_m 11 103 = some (126, 0) by decide +kernel) (rest := []) rfl (as := [.ref l1, .int l2, .int 0, .long 0, .int (-1)]) rfl h15 (Or.inl h16) ⟨Nat.le_of_ble_eq_true rfl, Nat.le_of_ble_eq_true rfl, Nat.le_of_ble_eq_true rfl⟩ h17
theorem b_124_45 {d : Nat} {Q : (Option Value ⊕ Nat) → mi_H → Prop} (n sl : Nat) (f : Nat → mi_C) {l1 : Nat} {l2 : Int32} {l3 : Nat} {o4 : Option Value} {s5 : Int32} (h6 : s5 = 0 ∨ s5 = 1) (h7 : Q (.inl (some (.int s5))) (n, sl, f)) : mi_W d 124 45 [some (.ref l1), some (.int l2), some (.ref l3), o4] [.int s5] (n, sl, f) Q := by
  exact w_ireturn_z cd_124_45 (by decide +kernel) h6 h7
theorem b_124_46 {d : Nat} {Q : (Option Value ⊕ Nat) → mi_H → Prop} (n sl : Nat) (f : Nat → mi_C) {l1 : Nat} {l2 : Int32} {l3 : Nat} {o4 : Option Value} {fs5 : List Value} {x8 : Nat} {fs10 : List Value} {x13 : Nat} {fs15 : List Value} {x18 : Int32} {fs20 : List Value} (h6 : f l1 = .inr (11, fs5)) (h7 : l1 < n) (h9 : fs5[5]? = some (.ref x8)) (h11 : f l1 = .inr (11, fs10)) (h12 : l1 < n) (h14 : fs10[0]? = some (.ref x13)) (h16 : f l3 = .inr (9, fs15)) (h17 : l3 < n) (h19 : fs15[0]? = some (.int x18)) (h21 : f x13 = .inr (2, fs20)) (h22 : x13 < n) (h23 : mi_W d 81 0 (mi_en 2 [.ref x13, .int x18]) [] (n, sl, f) (mi_Kc d 124 59 [some (.ref l1), some (.int l2), some (.ref l3), o4] [.int l2, .ref x8] Q)) : mi_W (d + 1) 124 46 [some (.ref l1), some (.int l2), some (.ref l3), o4] [] (n, sl, f) Q := by
  refine w_aload_n cd_124_46 rfl ?_
  refine w_getfield cd_124_47 (show mt_f 11 24 = some (11, 5) by decide +kernel) h6 h7 h9 ?_
  refine w_iload_n cd_124_50 rfl ?_
  refine w_aload_n cd_124_51 rfl ?_
  refine w_getfield cd_124_52 (show mt_f 11 41 = some (11, 0) by decide +kernel) h11 h12 h14 ?_
  refine w_aload_n cd_124_55 rfl ?_
  refine w_getfield cd_124_56 (show mt_f 11 71 = some (9, 0) by decide +kernel) h16 h17 h19 ?_
  exact w_invokevirtual cd_124_59 (show mt_m 11 107 = some (81, 0) by decide +kernel) (rest := [.int l2, .ref x8]) rfl (as := [.ref x13, .int x18]) rfl h21 (Or.inl h22) ⟨Nat.le_of_ble_eq_true rfl, Nat.le_of_ble_eq_true rfl, Nat.le_of_ble_eq_true rfl⟩ h23
theorem b_124_62 {d : Nat} {Q : (Option Value ⊕ Nat) → mi_H → Prop} (n sl : Nat) (f : Nat → mi_C) {l1 : Nat} {l2 : Int32} {l3 : Nat} {o4 : Option Value} {s5 : Int32} {s6 : Int32} {s7 : Nat} (h8 : ¬ s5 = 5 → mi_W d 124 81 [some (.ref l1), some (.int l2), some (.ref l3), o4] [.int s6, .ref s7] (n, sl, f) Q) (h9 : ¬ (¬ s5 = 5) → mi_W d 124 66 [some (.ref l1), some (.int l2), some (.ref l3), o4] [.int s6, .ref s7] (n, sl, f) Q) : mi_W d 124 62 [some (.ref l1), some (.int l2), some (.ref l3), o4] [.int s5, .int s6, .ref s7] (n, sl, f) Q := by
  refine w_iconst (v := 5) cd_124_62 (by decide) ?_
  exact w_if_icmpne cd_124_63 (by decide) h8 h9
theorem b_124_66 {d : Nat} {Q : (Option Value ⊕ Nat) → mi_H → Prop} (n sl : Nat) (f : Nat → mi_C) {l1 : Nat} {l2 : Int32} {l3 : Nat} {o4 : Option Value} {s5 : Int32} {s6 : Nat} {fs7 : List Value} {x10 : Nat} {fs12 : List Value} {x15 : Nat} {fs17 : List Value} {x20 : Int32} (m22 i22 : Nat) (g22 : Nat → Int32) (h8 : f l1 = .inr (11, fs7)) (h9 : l1 < n) (h11 : fs7[0]? = some (.ref x10)) (h13 : f x10 = .inr (2, fs12)) (h14 : x10 < n) (h16 : fs12[1]? = some (.ref x15)) (h18 : f l3 = .inr (9, fs17)) (h19 : l3 < n) (h21 : fs17[0]? = some (.int x20)) (h23 : f x15 = .inl (0, m22, .inl g22)) (h24 : x15 < n ∨ x15 = mi_SC) (h25 : mi_ix x20 m22 i22) (h26 : mi_W d 124 83 [some (.ref l1), some (.int l2), some (.ref l3), o4] [.int (g22 i22), .int s5, .ref s6] (n, sl, f) Q) : mi_W d 124 66 [some (.ref l1), some (.int l2), some (.ref l3), o4] [.int s5, .ref s6] (n, sl, f) Q := by
  refine w_aload_n cd_124_66 rfl ?_
  refine w_getfield cd_124_67 (show mt_f 11 41 = some (11, 0) by decide +kernel) h8 h9 h11 ?_
  refine w_getfield cd_124_70 (show mt_f 11 111 = some (2, 1) by decide +kernel) h13 h14 h16 ?_
  refine w_aload_n cd_124_73 rfl ?_
  refine w_getfield cd_124_74 (show mt_f 11 71 = some (9, 0) by decide +kernel) h18 h19 h21 ?_
  refine w_iaload cd_124_77 h23 h24 h25 ?_
  exact w_goto cd_124_78 (by decide) h26
theorem b_124_81 {d : Nat} {Q : (Option Value ⊕ Nat) → mi_H → Prop} (n sl : Nat) (f : Nat → mi_C) {l1 : Nat} {l2 : Int32} {l3 : Nat} {o4 : Option Value} {s5 : Int32} {s6 : Nat} (h7 : mi_W d 124 83 [some (.ref l1), some (.int l2), some (.ref l3), o4] [.int (-2), .int s5, .ref s6] (n, sl, f) Q) : mi_W d 124 81 [some (.ref l1), some (.int l2), some (.ref l3), o4] [.int s5, .ref s6] (n, sl, f) Q := by
  refine w_bipush (v := (-2)) cd_124_81 (by decide) ?_
  exact h7
theorem b_124_83 {d : Nat} {Q : (Option Value ⊕ Nat) → mi_H → Prop} (n sl : Nat) (f : Nat → mi_C) {l1 : Nat} {l2 : Int32} {l3 : Nat} {o4 : Option Value} {s5 : Int32} {s6 : Int32} {s7 : Nat} (m8 i8 : Nat) (g8 : Nat → Int32) {fs12 : List Value} {x15 : Nat} (m17 i17 : Nat) (g17 : Nat → Int32) (h9 : f s7 = .inl (0, m8, .inl g8)) (h10 : s7 < n) (h11 : mi_ix s6 m8 i8) (h13 : (va_up f s7 (.inl (0, m8, .inl (upd g8 i8 s5)))) l1 = .inr (11, fs12)) (h14 : l1 < n) (h16 : fs12[6]? = some (.ref x15)) (h18 : (va_up f s7 (.inl (0, m8, .inl (upd g8 i8 s5)))) x15 = .inl (0, m17, .inl g17)) (h19 : x15 < n) (h20 : mi_ix l2 m17 i17) (h21 : mi_W d 124 91 [some (.ref l1), some (.int l2), some (.ref l3), o4] [] (n, sl, (va_up (va_up f s7 (.inl (0, m8, .inl (upd g8 i8 s5)))) x15 (.inl (0, m17, .inl (upd g17 i17 0))))) Q) : mi_W d 124 83 [some (.ref l1), some (.int l2), some (.ref l3), o4] [.int s5, .int s6, .ref s7] (n, sl, f) Q := by
  refine w_iastore cd_124_83 h9 h10 h11 ?_
  refine w_aload_n cd_124_84 rfl ?_
  refine w_getfield cd_124_85 (show mt_f 11 28 = some (11, 6) by decide +kernel) h13 h14 h16 ?_
  refine w_iload_n cd_124_88 rfl ?_
  refine w_iconst (v := 0) cd_124_89 (by decide) ?_
  refine w_iastore cd_124_90 h18 h19 h20 ?_
  exact h21
theorem b_124_91 {d : Nat} {Q : (Option Value ⊕ Nat) → mi_H → Prop} (n sl : Nat) (f : Nat → mi_C) {l1 : Nat} {l2 : Int32} {l3 : Nat} {o4 : Option Value} (h5 : mi_W d 124 93 [some (.ref l1), some (.int l2), some (.ref l3), some (.int 0)] [] (n, sl, f) Q) : mi_W d 124 91 [some (.ref l1), some (.int l2), some (.ref l3), o4] [] (n, sl, f) Q := by
  refine w_iconst (v := 0) cd_124_91 (by decide) ?_
  refine w_istore_n (ls' := [some (.ref l1), some (.int l2), some (.ref l3), some (.int 0)]) cd_124_92 (Nat.le_of_ble_eq_true rfl) rfl ?_
  exact h5
theorem b_124_93 {d : Nat} {Q : (Option Value ⊕ Nat) → mi_H → Prop} (n sl : Nat) (f : Nat → mi_C) {l1 : Nat} {l2 : Int32} {l3 : Nat} {l4 : Int32} (h5 : 8 ≤ l4 → mi_W d 124 137 [some (.ref l1), some (.int l2), some (.ref l3), some (.int l4)] [] (n, sl, f) Q) (h6 : ¬ (8 ≤ l4) → mi_W d 124 99 [some (.ref l1), some (.int l2), some (.ref l3), some (.int l4)] [] (n, sl, f) Q) : mi_W d 124 93 [some (.ref l1), some (.int l2), some (.ref l3), some (.int l4)] [] (n, sl, f) Q := by
  refine w_iload_n cd_124_93 rfl ?_
  refine w_bipush (v := 8) cd_124_94 (by decide) ?_
  exact w_if_icmpge cd_124_96 (by decide) h5 h6
theorem b_124_99 {d : Nat} {Q : (Option Value ⊕ Nat) → mi_H → Prop} (n sl : Nat) (f : Nat → mi_C) {l1 : Nat} {l2 : Int32} {l3 : Nat} {l4 : Int32} {fs5 : List Value} {x8 : Nat} {fs10 : List Value} {x13 : Nat} (m15 i15 : Nat) (g15 : Nat → Int32) {fs19 : List Value} (h6 : f l1 = .inr (11, fs5)) (h7 : l1 < n) (h9 : fs5[0]? = some (.ref x8)) (h11 : f l1 = .inr (11, fs10)) (h12 : l1 < n) (h14 : fs10[5]? = some (.ref x13)) (h16 : f x13 = .inl (0, m15, .inl g15)) (h17 : x13 < n ∨ x13 = mi_SC) (h18 : mi_ix l2 m15 i15) (h20 : f x8 = .inr (2, fs19)) (h21 : x8 < n) (h22 : mi_W d 82 0 (mi_en 2 [.ref x8, .int (g15 i15)]) [] (n, sl, f) (mi_Kc d 124 109 [some (.ref l1), some (.int l2), some (.ref l3), some (.int l4)] [] Q)) : mi_W (d + 1) 124 99 [some (.ref l1), some (.int l2), some (.ref l3), some (.int l4)] [] (n, sl, f) Q := by
  refine w_aload_n cd_124_99 rfl ?_
  refine w_getfield cd_124_100 (show mt_f 11 41 = some (11, 0) by decide +kernel) h6 h7 h9 ?_
  refine w_aload_n cd_124_103 rfl ?_
  refine w_getfield cd_124_104 (show mt_f 11 24 = some (11, 5) by decide +kernel) h11 h12 h14 ?_
  refine w_iload_n cd_124_107 rfl ?_
  refine w_iaload cd_124_108 h16 h17 h18 ?_
  exact w_invokevirtual cd_124_109 (show mt_m 11 114 = some (82, 0) by decide +kernel) (rest := []) rfl (as := [.ref x8, .int (g15 i15)]) rfl h20 (Or.inl h21) ⟨Nat.le_of_ble_eq_true rfl, Nat.le_of_ble_eq_true rfl, Nat.le_of_ble_eq_true rfl⟩ h22
theorem b_124_112 {d : Nat} {Q : (Option Value ⊕ Nat) → mi_H → Prop} (n sl : Nat) (f : Nat → mi_C) {l1 : Nat} {l2 : Int32} {l3 : Nat} {l4 : Int32} {s5 : Int32} (h6 : s5 = (0 : Int32) → mi_W d 124 137 [some (.ref l1), some (.int l2), some (.ref l3), some (.int l4)] [] (n, sl, f) Q) (h7 : ¬ (s5 = (0 : Int32)) → mi_W d 124 115 [some (.ref l1), some (.int l2), some (.ref l3), some (.int l4)] [] (n, sl, f) Q) : mi_W d 124 112 [some (.ref l1), some (.int l2), some (.ref l3), some (.int l4)] [.int s5] (n, sl, f) Q := by
  exact w_ifeq cd_124_112 (by decide) h6 h7
theorem b_124_115 {d : Nat} {Q : (Option Value ⊕ Nat) → mi_H → Prop} (n sl : Nat) (f : Nat → mi_C) {l1 : Nat} {l2 : Int32} {l3 : Nat} {l4 : Int32} {fs5 : List Value} {x8 : Nat} (m10 i10 : Nat) (g10 : Nat → Int32) {fs14 : List Value} (h6 : f l1 = .inr (11, fs5)) (h7 : l1 < n) (h9 : fs5[5]? = some (.ref x8)) (h11 : f x8 = .inl (0, m10, .inl g10)) (h12 : x8 < n ∨ x8 = mi_SC) (h13 : mi_ix l2 m10 i10) (h15 : f l1 = .inr (11, fs14)) (h16 : l1 < n) (h17 : mi_W d 127 0 (mi_en 5 [.ref l1, .int l2, .int (g10 i10)]) [] (n, sl, f) (mi_Kc d 124 123 [some (.ref l1), some (.int l2), some (.ref l3), some (.int l4)] [] Q)) : mi_W (d + 1) 124 115 [some (.ref l1), some (.int l2), some (.ref l3), some (.int l4)] [] (n, sl, f) Q := by
  refine w_aload_n cd_124_115 rfl ?_
  refine w_iload_n cd_124_116 rfl ?_
  refine w_aload_n cd_124_117 rfl ?_
  refine w_getfield cd_124_118 (show mt_f 11 24 = some (11, 5) by decide +kernel) h6 h7 h9 ?_
  refine w_iload_n cd_124_121 rfl ?_
  refine w_iaload cd_124_122 h11 h12 h13 ?_
  exact w_invokevirtual cd_124_123 (show mt_m 11 117 = some (127, 0) by decide +kernel) (rest := []) rfl (as := [.ref l1, .int l2, .int (g10 i10)]) rfl h15 (Or.inl h16) ⟨Nat.le_of_ble_eq_true rfl, Nat.le_of_ble_eq_true rfl, Nat.le_of_ble_eq_true rfl⟩ h17
theorem b_124_126 {d : Nat} {Q : (Option Value ⊕ Nat) → mi_H → Prop} (n sl : Nat) (f : Nat → mi_C) {l1 : Nat} {l2 : Int32} {l3 : Nat} {l4 : Int32} {s5 : Int32} (h6 : s5 = (0 : Int32) → mi_W d 124 131 [some (.ref l1), some (.int l2), some (.ref l3), some (.int l4)] [] (n, sl, f) Q) (h7 : ¬ (s5 = (0 : Int32)) → mi_W d 124 129 [some (.ref l1), some (.int l2), some (.ref l3), some (.int l4)] [] (n, sl, f) Q) : mi_W d 124 126 [some (.ref l1), some (.int l2), some (.ref l3), some (.int l4)] [.int s5] (n, sl, f) Q := by
  exact w_ifeq cd_124_126 (by decide) h6 h7
theorem b_124_129 {d : Nat} {Q : (Option Value ⊕ Nat) → mi_H → Prop} (n sl : Nat) (f : Nat → mi_C) {l1 : Nat} {l2 : Int32} {l3 : Nat} {l4 : Int32} (h5 : Q (.inl (some (.int 1))) (n, sl, f)) : mi_W d 124 129 [some (.ref l1), some (.int l2), some (.ref l3), some (.int l4)] [] (n, sl, f) Q := by
  refine w_iconst (v := 1) cd_124_129 (by decide) ?_
  exact w_ireturn_z cd_124_130 (by decide +kernel) (by decide) h5
theorem b_124_131 {d : Nat} {Q : (Option Value ⊕ Nat) → mi_H → Prop} (n sl : Nat) (f : Nat → mi_C) {l1 : Nat} {l2 : Int32} {l3 : Nat} {l4 : Int32} (h5 : mi_W d 124 93 [some (.ref l1), some (.int l2), some (.ref l3), some (.int (l4 + 1))] [] (n, sl, f) Q) : mi_W d 124 131 [some (.ref l1), some (.int l2), some (.ref l3), some (.int l4)] [] (n, sl, f) Q := by
  refine w_iinc (v := 1) (ls' := [some (.ref l1), some (.int l2), some (.ref l3), some (.int (l4 + 1))]) cd_124_131 rfl (by decide) rfl ?_
  exact w_goto cd_124_134 (by decide) h5
theorem b_124_137 {d : Nat} {Q : (Option Value ⊕ Nat) → mi_H → Prop} (n sl : Nat) (f : Nat → mi_C) {l1 : Nat} {l2 : Int32} {l3 : Nat} {l4 : Int32} {fs5 : List Value} {x8 : Nat} (m10 i10 : Nat) (g10 : Nat → Int32) (h6 : f l1 = .inr (11, fs5)) (h7 : l1 < n) (h9 : fs5[5]? = some (.ref x8)) (h11 : f x8 = .inl (0, m10, .inl g10)) (h12 : x8 < n ∨ x8 = mi_SC) (h13 : mi_ix l2 m10 i10) (h14 : (g10 i10) = ((-1)) → mi_W d 124 149 [some (.ref l1), some (.int l2), some (.ref l3), some (.int l4)] [] (n, sl, f) Q) (h15 : ¬ ((g10 i10) = ((-1))) → mi_W d 124 147 [some (.ref l1), some (.int l2), some (.ref l3), some (.int l4)] [] (n, sl, f) Q) : mi_W d 124 137 [some (.ref l1), some (.int l2), some (.ref l3), some (.int l4)] [] (n, sl, f) Q := by
  refine w_aload_n cd_124_137 rfl ?_
  refine w_getfield cd_124_138 (show mt_f 11 24 = some (11, 5) by decide +kernel) h6 h7 h9 ?_
  refine w_iload_n cd_124_141 rfl ?_
  refine w_iaload cd_124_142 h11 h12 h13 ?_
  refine w_iconst (v := (-1)) cd_124_143 (by decide) ?_
  exact w_if_icmpeq cd_124_144 (by decide) h14 h15
theorem b_124_147 {d : Nat} {Q : (Option Value ⊕ Nat) → mi_H → Prop} (n sl : Nat) (f : Nat → mi_C) {l1 : Nat} {l2 : Int32} {l3 : Nat} {l4 : Int32} (h5 : Q (.inl (some (.int 0))) (n, sl, f)) : mi_W d 124 147 [some (.ref l1), some (.int l2), some (.ref l3), some (.int l4)] [] (n, sl, f) Q := by
  refine w_iconst (v := 0) cd_124_147 (by decide) ?_
  exact w_ireturn_z cd_124_148 (by decide +kernel) (by decide) h5
theorem b_124_149 {d : Nat} {Q : (Option Value ⊕ Nat) → mi_H → Prop} (n sl : Nat) (f : Nat → mi_C) {l1 : Nat} {l2 : Int32} {l3 : Nat} {l4 : Int32} {fs5 : List Value} {x8 : Nat} (m10 i10 : Nat) (g10 : Nat → Int32) {fs14 : List Value} {x17 : Nat} {fs19 : List Value} {x22 : Nat} {fs24 : List Value} {x27 : Int32} (m29 i29 : Nat) (g29 : Nat → Int64) {fs33 : List Value} (h6 : f l1 = .inr (11, fs5)) (h7 : l1 < n) (h9 : fs5[5]? = some (.ref x8)) (h11 : f x8 = .inl (0, m10, .inl g10)) (h12 : x8 < n) (h13 : mi_ix l2 m10 i10) (h15 : (va_up f x8 (.inl (0, m10, .inl (upd g10 i10 ((-2)))))) l1 = .inr (11, fs14)) (h16 : l1 < n) (h18 : fs14[0]? = some (.ref x17)) (h20 : (va_up f x8 (.inl (0, m10, .inl (upd g10 i10 ((-2)))))) x17 = .inr (2, fs19)) (h21 : x17 < n) (h23 : fs19[9]? = some (.ref x22)) (h25 : (va_up f x8 (.inl (0, m10, .inl (upd g10 i10 ((-2)))))) l3 = .inr (9, fs24)) (h26 : l3 < n) (h28 : fs24[0]? = some (.int x27)) (h30 : (va_up f x8 (.inl (0, m10, .inl (upd g10 i10 ((-2)))))) x22 = .inl (3, m29, .inr (.inl g29))) (h31 : x22 < n) (h32 : mi_ix x27 m29 i29) (h34 : (va_up f x8 (.inl (0, m10, .inl (upd g10 i10 ((-2)))))) l1 = .inr (11, fs33)) (h35 : l1 < n) (h36 : mi_W d 126 0 (mi_en 6 [.ref l1, .int l2, .int 4, .long (g29 i29), .int (-1)]) [] (n, sl, (va_up f x8 (.inl (0, m10, .inl (upd g10 i10 ((-2))))))) (mi_Kc d 124 173 [some (.ref l1), some (.int l2), some (.ref l3), some (.int l4)] [] Q)) : mi_W (d + 1) 124 149 [some (.ref l1), some (.int l2), some (.ref l3), some (.int l4)] [] (n, sl, f) Q := by
  refine w_aload_n cd_124_149 rfl ?_
  refine w_getfield cd_124_150 (show mt_f 11 24 = some (11, 5) by decide +kernel) h6 h7 h9 ?_
  refine w_iload_n cd_124_153 rfl ?_
  refine w_bipush (v := (-2)) cd_124_154 (by decide) ?_
  refine w_iastore cd_124_156 h11 h12 h13 ?_
  refine w_aload_n cd_124_157 rfl ?_
  refine w_iload_n cd_124_158 rfl ?_
  refine w_iconst (v := 4) cd_124_159 (by decide) ?_
  refine w_aload_n cd_124_160 rfl ?_
  refine w_getfield cd_124_161 (show mt_f 11 41 = some (11, 0) by decide +kernel) h15 h16 h18 ?_
  refine w_getfield cd_124_164 (show mt_f 11 121 = some (2, 9) by decide +kernel) h20 h21 h23 ?_
  refine w_aload_n cd_124_167 rfl ?_
  refine w_getfield cd_124_168 (show mt_f 11 71 = some (9, 0) by decide +kernel) h25 h26 h28 ?_
  refine w_laload cd_124_171 h30 h31 h32 ?_
  refine w_iconst (v := (-1)) cd_124_172 (by decide) ?_
  exact w_invokevirtual cd_124_173 (show mt_m 11 103 = some (126, 0) by decide +kernel) (rest := []) rfl (as := [.ref l1, .int l2, .int 4, .long (g29 i29), .int (-1)]) rfl h34 (Or.inl h35) ⟨Nat.le_of_ble_eq_true rfl, Nat.le_of_ble_eq_true rfl, Nat.le_of_ble_eq_true rfl⟩ h36
theorem b_124_176 {d : Nat} {Q : (Option Value ⊕ Nat) → mi_H → Prop} (n sl : Nat) (f : Nat → mi_C) {l1 : Nat} {l2 : Int32} {l3 : Nat} {l4 : Int32} {s5 : Int32} (h6 : s5 = 0 ∨ s5 = 1) (h7 : Q (.inl (some (.int s5))) (n, sl, f)) : mi_W d 124 176 [some (.ref l1), some (.int l2), some (.ref l3), some (.int l4)] [.int s5] (n, sl, f) Q := by
  exact w_ireturn_z cd_124_176 (by decide +kernel) h6 h7
/-! MarloweHost$Machine.isReducible(LMarloweHost$Situation;)Z -/
set_option maxRecDepth 100000 in
theorem mq_125 : mt_q 125 = my_125 := rfl
set_option maxRecDepth 100000 in
theorem ci_125 : mt_inc 0 my_125.cd = true := by decide +kernel
theorem cd_125_0 : mt_cd 125 0 = some (.aload_n 0) := mt_cd_of (q := (0, .aload_n 0, 1)) mq_125 ci_125 (List.mem_of_getElem? (i := 0) rfl)
theorem cd_125_1 : mt_cd 125 1 = some (.getfield 18) := mt_cd_of (q := (1, .getfield 18, 3)) mq_125 ci_125 (List.mem_of_getElem? (i := 1) rfl)
theorem cd_125_4 : mt_cd 125 4 = some (.aload_n 1) := mt_cd_of (q := (4, .aload_n 1, 1)) mq_125 ci_125 (List.mem_of_getElem? (i := 2) rfl)
theorem cd_125_5 : mt_cd 125 5 = some (.getfield 94) := mt_cd_of (q := (5, .getfield 94, 3)) mq_125 ci_125 (List.mem_of_getElem? (i := 3) rfl)
theorem cd_125_8 : mt_cd 125 8 = some (.invokevirtual 97) := mt_cd_of (q := (8, .invokevirtual 97, 3)) mq_125 ci_125 (List.mem_of_getElem? (i := 4) rfl)
theorem cd_125_11 : mt_cd 125 11 = some (.istore_n 2) := mt_cd_of (q := (11, .istore_n 2, 1)) mq_125 ci_125 (List.mem_of_getElem? (i := 5) rfl)
theorem cd_125_12 : mt_cd 125 12 = some (.iload_n 2) := mt_cd_of (q := (12, .iload_n 2, 1)) mq_125 ci_125 (List.mem_of_getElem? (i := 6) rfl)
theorem cd_125_13 : mt_cd 125 13 = some (.ifCond .ne 17) := mt_cd_of (q := (13, .ifCond .ne 17, 3)) mq_125 ci_125 (List.mem_of_getElem? (i := 7) rfl)
theorem cd_125_16 : mt_cd 125 16 = some (.aload_n 1) := mt_cd_of (q := (16, .aload_n 1, 1)) mq_125 ci_125 (List.mem_of_getElem? (i := 8) rfl)
theorem cd_125_17 : mt_cd 125 17 = some (.invokevirtual 103) := mt_cd_of (q := (17, .invokevirtual 103, 3)) mq_125 ci_125 (List.mem_of_getElem? (i := 9) rfl)
theorem cd_125_20 : mt_cd 125 20 = some (.iconst (-1)) := mt_cd_of (q := (20, .iconst (-1), 1)) mq_125 ci_125 (List.mem_of_getElem? (i := 10) rfl)
theorem cd_125_21 : mt_cd 125 21 = some (.if_icmp .eq 7) := mt_cd_of (q := (21, .if_icmp .eq 7, 3)) mq_125 ci_125 (List.mem_of_getElem? (i := 11) rfl)
theorem cd_125_24 : mt_cd 125 24 = some (.iconst 1) := mt_cd_of (q := (24, .iconst 1, 1)) mq_125 ci_125 (List.mem_of_getElem? (i := 12) rfl)
theorem cd_125_25 : mt_cd 125 25 = some (.goto 4) := mt_cd_of (q := (25, .goto 4, 3)) mq_125 ci_125 (List.mem_of_getElem? (i := 13) rfl)
theorem cd_125_28 : mt_cd 125 28 = some (.iconst 0) := mt_cd_of (q := (28, .iconst 0, 1)) mq_125 ci_125 (List.mem_of_getElem? (i := 14) rfl)
theorem cd_125_29 : mt_cd 125 29 = some (.ireturn) := mt_cd_of (q := (29, .ireturn, 1)) mq_125 ci_125 (List.mem_of_getElem? (i := 15) rfl)
theorem cd_125_30 : mt_cd 125 30 = some (.iload_n 2) := mt_cd_of (q := (30, .iload_n 2, 1)) mq_125 ci_125 (List.mem_of_getElem? (i := 16) rfl)
theorem cd_125_31 : mt_cd 125 31 = some (.iconst 5) := mt_cd_of (q := (31, .iconst 5, 1)) mq_125 ci_125 (List.mem_of_getElem? (i := 17) rfl)
theorem cd_125_32 : mt_cd 125 32 = some (.if_icmp .ne 23) := mt_cd_of (q := (32, .if_icmp .ne 23, 3)) mq_125 ci_125 (List.mem_of_getElem? (i := 18) rfl)
theorem cd_125_35 : mt_cd 125 35 = some (.aload_n 0) := mt_cd_of (q := (35, .aload_n 0, 1)) mq_125 ci_125 (List.mem_of_getElem? (i := 19) rfl)
theorem cd_125_36 : mt_cd 125 36 = some (.getfield 18) := mt_cd_of (q := (36, .getfield 18, 3)) mq_125 ci_125 (List.mem_of_getElem? (i := 20) rfl)
theorem cd_125_39 : mt_cd 125 39 = some (.getfield 107) := mt_cd_of (q := (39, .getfield 107, 3)) mq_125 ci_125 (List.mem_of_getElem? (i := 21) rfl)
theorem cd_125_42 : mt_cd 125 42 = some (.aload_n 1) := mt_cd_of (q := (42, .aload_n 1, 1)) mq_125 ci_125 (List.mem_of_getElem? (i := 22) rfl)
theorem cd_125_43 : mt_cd 125 43 = some (.getfield 94) := mt_cd_of (q := (43, .getfield 94, 3)) mq_125 ci_125 (List.mem_of_getElem? (i := 23) rfl)
theorem cd_125_46 : mt_cd 125 46 = some (.laload) := mt_cd_of (q := (46, .laload, 1)) mq_125 ci_125 (List.mem_of_getElem? (i := 24) rfl)
theorem cd_125_47 : mt_cd 125 47 = some (.aload_n 1) := mt_cd_of (q := (47, .aload_n 1, 1)) mq_125 ci_125 (List.mem_of_getElem? (i := 25) rfl)
theorem cd_125_48 : mt_cd 125 48 = some (.getfield 45) := mt_cd_of (q := (48, .getfield 45, 3)) mq_125 ci_125 (List.mem_of_getElem? (i := 26) rfl)
theorem cd_125_51 : mt_cd 125 51 = some (.lcmp) := mt_cd_of (q := (51, .lcmp, 1)) mq_125 ci_125 (List.mem_of_getElem? (i := 27) rfl)
theorem cd_125_52 : mt_cd 125 52 = some (.ifCond .gt 7) := mt_cd_of (q := (52, .ifCond .gt 7, 3)) mq_125 ci_125 (List.mem_of_getElem? (i := 28) rfl)
theorem cd_125_55 : mt_cd 125 55 = some (.iconst 1) := mt_cd_of (q := (55, .iconst 1, 1)) mq_125 ci_125 (List.mem_of_getElem? (i := 29) rfl)
theorem cd_125_56 : mt_cd 125 56 = some (.goto 4) := mt_cd_of (q := (56, .goto 4, 3)) mq_125 ci_125 (List.mem_of_getElem? (i := 30) rfl)
theorem cd_125_59 : mt_cd 125 59 = some (.iconst 0) := mt_cd_of (q := (59, .iconst 0, 1)) mq_125 ci_125 (List.mem_of_getElem? (i := 31) rfl)
theorem cd_125_60 : mt_cd 125 60 = some (.ireturn) := mt_cd_of (q := (60, .ireturn, 1)) mq_125 ci_125 (List.mem_of_getElem? (i := 32) rfl)
theorem b_125_0 {d : Nat} {Q : (Option Value ⊕ Nat) → mi_H → Prop} (n sl : Nat) (f : Nat → mi_C) {l1 : Nat} {l2 : Nat} {o3 : Option Value} {fs4 : List Value} {x7 : Nat} {fs9 : List Value} {x12 : Int32} {fs14 : List Value} (h5 : f l1 = .inr (7, fs4)) (h6 : l1 < n) (h8 : fs4[0]? = some (.ref x7)) (h10 : f l2 = .inr (9, fs9)) (h11 : l2 < n) (h13 : fs9[0]? = some (.int x12)) (h15 : f x7 = .inr (2, fs14)) (h16 : x7 < n) (h17 : mi_W d 81 0 (mi_en 2 [.ref x7, .int x12]) [] (n, sl, f) (mi_Kc d 125 8 [some (.ref l1), some (.ref l2), o3] [] Q)) : mi_W (d + 1) 125 0 [some (.ref l1), some (.ref l2), o3] [] (n, sl, f) Q := by
  refine w_aload_n cd_125_0 rfl ?_
  refine w_getfield cd_125_1 (show mt_f 7 18 = some (7, 0) by decide +kernel) h5 h6 h8 ?_
  refine w_aload_n cd_125_4 rfl ?_
  refine w_getfield cd_125_5 (show mt_f 7 94 = some (9, 0) by decide +kernel) h10 h11 h13 ?_
  exact w_invokevirtual cd_125_8 (show mt_m 7 97 = some (81, 0) by decide +kernel) (rest := []) rfl (as := [.ref x7, .int x12]) rfl h15 (Or.inl h16) ⟨Nat.le_of_ble_eq_true rfl, Nat.le_of_ble_eq_true rfl, Nat.le_of_ble_eq_true rfl⟩ h17
theorem b_125_11 {d : Nat} {Q : (Option Value ⊕ Nat) → mi_H → Prop} (n sl : Nat) (f : Nat → mi_C) {l1 : Nat} {l2 : Nat} {o3 : Option Value} {s4 : Int32} (h5 : ¬ s4 = (0 : Int32) → mi_W d 125 30 [some (.ref l1), some (.ref l2), some (.int s4)] [] (n, sl, f) Q) (h6 : ¬ (¬ s4 = (0 : Int32)) → mi_W d 125 16 [some (.ref l1), some (.ref l2), some (.int s4)] [] (n, sl, f) Q) : mi_W d 125 11 [some (.ref l1), some (.ref l2), o3] [.int s4] (n, sl, f) Q := by
  refine w_istore_n (ls' := [some (.ref l1), some (.ref l2), some (.int s4)]) cd_125_11 (Nat.le_of_ble_eq_true rfl) rfl ?_
  refine w_iload_n cd_125_12 rfl ?_
  exact w_ifne cd_125_13 (by decide) h5 h6
theorem b_125_16 {d : Nat} {Q : (Option Value ⊕ Nat) → mi_H → Prop} (n sl : Nat) (f : Nat → mi_C) {l1 : Nat} {l2 : Nat} {l3 : Int32} {fs4 : List Value} (h5 : f l2 = .inr (9, fs4)) (h6 : l2 < n) (h7 : mi_W d 84 0 (mi_en 2 [.ref l2]) [] (n, sl, f) (mi_Kc d 125 17 [some (.ref l1), some (.ref l2), some (.int l3)] [] Q)) : mi_W (d + 1) 125 16 [some (.ref l1), some (.ref l2), some (.int l3)] [] (n, sl, f) Q := by
  refine w_aload_n cd_125_16 rfl ?_
  exact w_invokevirtual cd_125_17 (show mt_m 7 103 = some (84, 0) by decide +kernel) (rest := []) rfl (as := [.ref l2]) rfl h5 (Or.inl h6) ⟨Nat.le_of_ble_eq_true rfl, Nat.le_of_ble_eq_true rfl, Nat.le_of_ble_eq_true rfl⟩ h7
theorem b_125_20 {d : Nat} {Q : (Option Value ⊕ Nat) → mi_H → Prop} (n sl : Nat) (f : Nat → mi_C) {l1 : Nat} {l2 : Nat} {l3 : Int32} {s4 : Int32} (h5 : s4 = ((-1)) → mi_W d 125 28 [some (.ref l1), some (.ref l2), some (.int l3)] [] (n, sl, f) Q) (h6 : ¬ (s4 = ((-1))) → mi_W d 125 24 [some (.ref l1), some (.ref l2), some (.int l3)] [] (n, sl, f) Q) : mi_W d 125 20 [some (.ref l1), some (.ref l2), some (.int l3)] [.int s4] (n, sl, f) Q := by
  refine w_iconst (v := (-1)) cd_125_20 (by decide) ?_
  exact w_if_icmpeq cd_125_21 (by decide) h5 h6
theorem b_125_24 {d : Nat} {Q : (Option Value ⊕ Nat) → mi_H → Prop} (n sl : Nat) (f : Nat → mi_C) {l1 : Nat} {l2 : Nat} {l3 : Int32} (h4 : mi_W d 125 29 [some (.ref l1), some (.ref l2), some (.int l3)] [.int 1] (n, sl, f) Q) : mi_W d 125 24 [some (.ref l1), some (.ref l2), some (.int l3)] [] (n, sl, f) Q := by
  refine w_iconst (v := 1) cd_125_24 (by decide) ?_
  exact w_goto cd_125_25 (by decide) h4
theorem b_125_28 {d : Nat} {Q : (Option Value ⊕ Nat) → mi_H → Prop} (n sl : Nat) (f : Nat → mi_C) {l1 : Nat} {l2 : Nat} {l3 : Int32} (h4 : mi_W d 125 29 [some (.ref l1), some (.ref l2), some (.int l3)] [.int 0] (n, sl, f) Q) : mi_W d 125 28 [some (.ref l1), some (.ref l2), some (.int l3)] [] (n, sl, f) Q := by
  refine w_iconst (v := 0) cd_125_28 (by decide) ?_
  exact h4
theorem b_125_29 {d : Nat} {Q : (Option Value ⊕ Nat) → mi_H → Prop} (n sl : Nat) (f : Nat → mi_C) {l1 : Nat} {l2 : Nat} {l3 : Int32} {s4 : Int32} (h5 : s4 = 0 ∨ s4 = 1) (h6 : Q (.inl (some (.int s4))) (n, sl, f)) : mi_W d 125 29 [some (.ref l1), some (.ref l2), some (.int l3)] [.int s4] (n, sl, f) Q := by
  exact w_ireturn_z cd_125_29 (by decide +kernel) h5 h6
theorem b_125_30 {d : Nat} {Q : (Option Value ⊕ Nat) → mi_H → Prop} (n sl : Nat) (f : Nat → mi_C) {l1 : Nat} {l2 : Nat} {l3 : Int32} (h4 : ¬ l3 = 5 → mi_W d 125 55 [some (.ref l1), some (.ref l2), some (.int l3)] [] (n, sl, f) Q) (h5 : ¬ (¬ l3 = 5) → mi_W d 125 35 [some (.ref l1), some (.ref l2), some (.int l3)] [] (n, sl, f) Q) : mi_W d 125 30 [some (.ref l1), some (.ref l2), some (.int l3)] [] (n, sl, f) Q := by
  refine w_iload_n cd_125_30 rfl ?_
  refine w_iconst (v := 5) cd_125_31 (by decide) ?_
  exact w_if_icmpne cd_125_32 (by decide) h4 h5
theorem b_125_35 {d : Nat} {Q : (Option Value ⊕ Nat) → mi_H → Prop} (n sl : Nat) (f : Nat → mi_C) {l1 : Nat} {l2 : Nat} {l3 : Int32} {fs4 : List Value} {x7 : Nat} {fs9 : List Value} {x12 : Nat} {fs14 : List Value} {x17 : Int32} (m19 i19 : Nat) (g19 : Nat → Int64) {fs23 : List Value} {x26 : Int64} (h5 : f l1 = .inr (7, fs4)) (h6 : l1 < n) (h8 : fs4[0]? = some (.ref x7)) (h10 : f x7 = .inr (2, fs9)) (h11 : x7 < n) (h13 : fs9[9]? = some (.ref x12)) (h15 : f l2 = .inr (9, fs14)) (h16 : l2 < n) (h18 : fs14[0]? = some (.int x17)) (h20 : f x12 = .inl (3, m19, .inr (.inl g19))) (h21 : x12 < n) (h22 : mi_ix x17 m19 i19) (h24 : f l2 = .inr (9, fs23)) (h25 : l2 < n) (h27 : fs23[1]? = some (.long x26)) (h28 : (0 : Int32) < (lg_cmp (g19 i19) x26) → mi_W d 125 59 [some (.ref l1), some (.ref l2), some (.int l3)] [] (n, sl, f) Q) (h29 : ¬ ((0 : Int32) < (lg_cmp (g19 i19) x26)) → mi_W d 125 55 [some (.ref l1), some (.ref l2), some (.int l3)] [] (n, sl, f) Q) : mi_W d 125 35 [some (.ref l1), some (.ref l2), some (.int l3)] [] (n, sl, f) Q := by
  refine w_aload_n cd_125_35 rfl ?_
  refine w_getfield cd_125_36 (show mt_f 7 18 = some (7, 0) by decide +kernel) h5 h6 h8 ?_
  refine w_getfield cd_125_39 (show mt_f 7 107 = some (2, 9) by decide +kernel) h10 h11 h13 ?_
  refine w_aload_n cd_125_42 rfl ?_
  refine w_getfield cd_125_43 (show mt_f 7 94 = some (9, 0) by decide +kernel) h15 h16 h18 ?_
  refine w_laload cd_125_46 h20 h21 h22 ?_
  refine w_aload_n cd_125_47 rfl ?_
  refine w_getfield cd_125_48 (show mt_f 7 45 = some (9, 1) by decide +kernel) h24 h25 h27 ?_
  refine w_lcmp cd_125_51 ?_
  exact w_ifgt cd_125_52 (by decide) h28 h29
theorem b_125_55 {d : Nat} {Q : (Option Value ⊕ Nat) → mi_H → Prop} (n sl : Nat) (f : Nat → mi_C) {l1 : Nat} {l2 : Nat} {l3 : Int32} (h4 : mi_W d 125 60 [some (.ref l1), some (.ref l2), some (.int l3)] [.int 1] (n, sl, f) Q) : mi_W d 125 55 [some (.ref l1), some (.ref l2), some (.int l3)] [] (n, sl, f) Q := by
  refine w_iconst (v := 1) cd_125_55 (by decide) ?_
  exact w_goto cd_125_56 (by decide) h4
theorem b_125_59 {d : Nat} {Q : (Option Value ⊕ Nat) → mi_H → Prop} (n sl : Nat) (f : Nat → mi_C) {l1 : Nat} {l2 : Nat} {l3 : Int32} (h4 : mi_W d 125 60 [some (.ref l1), some (.ref l2), some (.int l3)] [.int 0] (n, sl, f) Q) : mi_W d 125 59 [some (.ref l1), some (.ref l2), some (.int l3)] [] (n, sl, f) Q := by
  refine w_iconst (v := 0) cd_125_59 (by decide) ?_
  exact h4
theorem b_125_60 {d : Nat} {Q : (Option Value ⊕ Nat) → mi_H → Prop} (n sl : Nat) (f : Nat → mi_C) {l1 : Nat} {l2 : Nat} {l3 : Int32} {s4 : Int32} (h5 : s4 = 0 ∨ s4 = 1) (h6 : Q (.inl (some (.int s4))) (n, sl, f)) : mi_W d 125 60 [some (.ref l1), some (.ref l2), some (.int l3)] [.int s4] (n, sl, f) Q := by
  exact w_ireturn_z cd_125_60 (by decide +kernel) h5 h6
/-! MarloweHost$Analyser.setStep(IIJI)Z -/
set_option maxRecDepth 100000 in
theorem mq_126 : mt_q 126 = my_126 := rfl
set_option maxRecDepth 100000 in
theorem ci_126 : mt_inc 0 my_126.cd = true := by decide +kernel
theorem cd_126_0 : mt_cd 126 0 = some (.aload_n 0) := mt_cd_of (q := (0, .aload_n 0, 1)) mq_126 ci_126 (List.mem_of_getElem? (i := 0) rfl)
theorem cd_126_1 : mt_cd 126 1 = some (.getfield 31) := mt_cd_of (q := (1, .getfield 31, 3)) mq_126 ci_126 (List.mem_of_getElem? (i := 1) rfl)
theorem cd_126_4 : mt_cd 126 4 = some (.iload_n 1) := mt_cd_of (q := (4, .iload_n 1, 1)) mq_126 ci_126 (List.mem_of_getElem? (i := 2) rfl)
theorem cd_126_5 : mt_cd 126 5 = some (.iload_n 2) := mt_cd_of (q := (5, .iload_n 2, 1)) mq_126 ci_126 (List.mem_of_getElem? (i := 3) rfl)
theorem cd_126_6 : mt_cd 126 6 = some (.iastore) := mt_cd_of (q := (6, .iastore, 1)) mq_126 ci_126 (List.mem_of_getElem? (i := 4) rfl)
theorem cd_126_7 : mt_cd 126 7 = some (.aload_n 0) := mt_cd_of (q := (7, .aload_n 0, 1)) mq_126 ci_126 (List.mem_of_getElem? (i := 5) rfl)
theorem cd_126_8 : mt_cd 126 8 = some (.getfield 34) := mt_cd_of (q := (8, .getfield 34, 3)) mq_126 ci_126 (List.mem_of_getElem? (i := 6) rfl)
theorem cd_126_11 : mt_cd 126 11 = some (.iload_n 1) := mt_cd_of (q := (11, .iload_n 1, 1)) mq_126 ci_126 (List.mem_of_getElem? (i := 7) rfl)
theorem cd_126_12 : mt_cd 126 12 = some (.lload_n 3) := mt_cd_of (q := (12, .lload_n 3, 1)) mq_126 ci_126 (List.mem_of_getElem? (i := 8) rfl)
theorem cd_126_13 : mt_cd 126 13 = some (.lastore) := mt_cd_of (q := (13, .lastore, 1)) mq_126 ci_126 (List.mem_of_getElem? (i := 9) rfl)
theorem cd_126_14 : mt_cd 126 14 = some (.aload_n 0) := mt_cd_of (q := (14, .aload_n 0, 1)) mq_126 ci_126 (List.mem_of_getElem? (i := 10) rfl)
theorem cd_126_15 : mt_cd 126 15 = some (.getfield 38) := mt_cd_of (q := (15, .getfield 38, 3)) mq_126 ci_126 (List.mem_of_getElem? (i := 11) rfl)
theorem cd_126_18 : mt_cd 126 18 = some (.iload_n 1) := mt_cd_of (q := (18, .iload_n 1, 1)) mq_126 ci_126 (List.mem_of_getElem? (i := 12) rfl)
theorem cd_126_19 : mt_cd 126 19 = some (.iload 5) := mt_cd_of (q := (19, .iload 5, 2)) mq_126 ci_126 (List.mem_of_getElem? (i := 13) rfl)
theorem cd_126_21 : mt_cd 126 21 = some (.iastore) := mt_cd_of (q := (21, .iastore, 1)) mq_126 ci_126 (List.mem_of_getElem? (i := 14) rfl)
theorem cd_126_22 : mt_cd 126 22 = some (.iconst 1) := mt_cd_of (q := (22, .iconst 1, 1)) mq_126 ci_126 (List.mem_of_getElem? (i := 15) rfl)
theorem cd_126_23 : mt_cd 126 23 = some (.ireturn) := mt_cd_of (q := (23, .ireturn, 1)) mq_126 ci_126 (List.mem_of_getElem? (i := 16) rfl)
theorem b_126_0 {d : Nat} {Q : (Option Value ⊕ Nat) → mi_H → Prop} (n sl : Nat) (f : Nat → mi_C) {l1 : Nat} {l2 : Int32} {l3 : Int32} {l4 : Int64} {l5 : Int32} {fs6 : List Value} {x9 : Nat} (m11 i11 : Nat) (g11 : Nat → Int32) {fs15 : List Value} {x18 : Nat} (m20 i20 : Nat) (g20 : Nat → Int64) {fs24 : List Value} {x27 : Nat} (m29 i29 : Nat) (g29 : Nat → Int32) (h7 : f l1 = .inr (11, fs6)) (h8 : l1 < n) (h10 : fs6[7]? = some (.ref x9)) (h12 : f x9 = .inl (0, m11, .inl g11)) (h13 : x9 < n) (h14 : mi_ix l2 m11 i11) (h16 : (va_up f x9 (.inl (0, m11, .inl (upd g11 i11 l3)))) l1 = .inr (11, fs15)) (h17 : l1 < n) (h19 : fs15[8]? = some (.ref x18)) (h21 : (va_up f x9 (.inl (0, m11, .inl (upd g11 i11 l3)))) x18 = .inl (3, m20, .inr (.inl g20))) (h22 : x18 < n) (h23 : mi_ix l2 m20 i20) (h25 : (va_up (va_up f x9 (.inl (0, m11, .inl (upd g11 i11 l3)))) x18 (.inl (3, m20, .inr (.inl (vp_updL g20 i20 l4))))) l1 = .inr (11, fs24)) (h26 : l1 < n) (h28 : fs24[9]? = some (.ref x27)) (h30 : (va_up (va_up f x9 (.inl (0, m11, .inl (upd g11 i11 l3)))) x18 (.inl (3, m20, .inr (.inl (vp_updL g20 i20 l4))))) x27 = .inl (0, m29, .inl g29)) (h31 : x27 < n) (h32 : mi_ix l2 m29 i29) (h33 : Q (.inl (some (.int 1))) (n, sl, (va_up (va_up (va_up f x9 (.inl (0, m11, .inl (upd g11 i11 l3)))) x18 (.inl (3, m20, .inr (.inl (vp_updL g20 i20 l4))))) x27 (.inl (0, m29, .inl (upd g29 i29 l5)))))) : mi_W d 126 0 [some (.ref l1), some (.int l2), some (.int l3), some (.long l4), none, some (.int l5)] [] (n, sl, f) Q := by
  refine w_aload_n cd_126_0 rfl ?_
  refine w_getfield cd_126_1 (show mt_f 11 31 = some (11, 7) by decide +kernel) h7 h8 h10 ?_
  refine w_iload_n cd_126_4 rfl ?_
  refine w_iload_n cd_126_5 rfl ?_
  refine w_iastore cd_126_6 h12 h13 h14 ?_
  refine w_aload_n cd_126_7 rfl ?_
  refine w_getfield cd_126_8 (show mt_f 11 34 = some (11, 8) by decide +kernel) h16 h17 h19 ?_
  refine w_iload_n cd_126_11 rfl ?_
  refine w_lload_n cd_126_12 rfl ?_
  refine w_lastore cd_126_13 h21 h22 h23 ?_
  refine w_aload_n cd_126_14 rfl ?_
  refine w_getfield cd_126_15 (show mt_f 11 38 = some (11, 9) by decide +kernel) h25 h26 h28 ?_
  refine w_iload_n cd_126_18 rfl ?_
  refine w_iload cd_126_19 rfl ?_
  refine w_iastore cd_126_21 h30 h31 h32 ?_
  refine w_iconst (v := 1) cd_126_22 (by decide) ?_
  exact w_ireturn_z cd_126_23 (by decide +kernel) (by decide) h33
/-! MarloweHost$Analyser.findStepFor(II)Z -/
set_option maxRecDepth 100000 in
theorem mq_127 : mt_q 127 = my_127 := rfl
set_option maxRecDepth 100000 in
theorem ci_127 : mt_inc 0 my_127.cd = true := by decide +kernel
theorem cd_127_0 : mt_cd 127 0 = some (.aload_n 0) := mt_cd_of (q := (0, .aload_n 0, 1)) mq_127 ci_127 (List.mem_append_left _ (show _ ∈ my_127_0 from List.mem_of_getElem? (i := 0) rfl))
theorem cd_127_1 : mt_cd 127 1 = some (.getfield 20) := mt_cd_of (q := (1, .getfield 20, 3)) mq_127 ci_127 (List.mem_append_left _ (show _ ∈ my_127_0 from List.mem_of_getElem? (i := 1) rfl))
theorem cd_127_4 : mt_cd 127 4 = some (.iload_n 1) := mt_cd_of (q := (4, .iload_n 1, 1)) mq_127 ci_127 (List.mem_append_left _ (show _ ∈ my_127_0 from List.mem_of_getElem? (i := 2) rfl))
theorem cd_127_5 : mt_cd 127 5 = some (.aaload) := mt_cd_of (q := (5, .aaload, 1)) mq_127 ci_127 (List.mem_append_left _ (show _ ∈ my_127_0 from List.mem_of_getElem? (i := 3) rfl))
theorem cd_127_6 : mt_cd 127 6 = some (.astore_n 3) := mt_cd_of (q := (6, .astore_n 3, 1)) mq_127 ci_127 (List.mem_append_left _ (show _ ∈ my_127_0 from List.mem_of_getElem? (i := 4) rfl))
theorem cd_127_7 : mt_cd 127 7 = some (.aload_n 0) := mt_cd_of (q := (7, .aload_n 0, 1)) mq_127 ci_127 (List.mem_append_left _ (show _ ∈ my_127_0 from List.mem_of_getElem? (i := 5) rfl))
theorem cd_127_8 : mt_cd 127 8 = some (.getfield 60) := mt_cd_of (q := (8, .getfield 60, 3)) mq_127 ci_127 (List.mem_append_left _ (show _ ∈ my_127_0 from List.mem_of_getElem? (i := 6) rfl))
theorem cd_127_11 : mt_cd 127 11 = some (.aload_n 3) := mt_cd_of (q := (11, .aload_n 3, 1)) mq_127 ci_127 (List.mem_append_left _ (show _ ∈ my_127_0 from List.mem_of_getElem? (i := 7) rfl))
theorem cd_127_12 : mt_cd 127 12 = some (.aload_n 3) := mt_cd_of (q := (12, .aload_n 3, 1)) mq_127 ci_127 (List.mem_append_left _ (show _ ∈ my_127_0 from List.mem_of_getElem? (i := 8) rfl))
theorem cd_127_13 : mt_cd 127 13 = some (.getfield 124) := mt_cd_of (q := (13, .getfield 124, 3)) mq_127 ci_127 (List.mem_append_left _ (show _ ∈ my_127_0 from List.mem_of_getElem? (i := 9) rfl))
theorem cd_127_16 : mt_cd 127 16 = some (.aload_n 3) := mt_cd_of (q := (16, .aload_n 3, 1)) mq_127 ci_127 (List.mem_append_left _ (show _ ∈ my_127_0 from List.mem_of_getElem? (i := 10) rfl))
theorem cd_127_17 : mt_cd 127 17 = some (.getfield 124) := mt_cd_of (q := (17, .getfield 124, 3)) mq_127 ci_127 (List.mem_append_left _ (show _ ∈ my_127_0 from List.mem_of_getElem? (i := 11) rfl))
theorem cd_127_20 : mt_cd 127 20 = some (.invokevirtual 128) := mt_cd_of (q := (20, .invokevirtual 128, 3)) mq_127 ci_127 (List.mem_append_left _ (show _ ∈ my_127_0 from List.mem_of_getElem? (i := 12) rfl))
theorem cd_127_23 : mt_cd 127 23 = some (.aload_n 0) := mt_cd_of (q := (23, .aload_n 0, 1)) mq_127 ci_127 (List.mem_append_left _ (show _ ∈ my_127_0 from List.mem_of_getElem? (i := 13) rfl))
theorem cd_127_24 : mt_cd 127 24 = some (.getfield 41) := mt_cd_of (q := (24, .getfield 41, 3)) mq_127 ci_127 (List.mem_append_left _ (show _ ∈ my_127_0 from List.mem_of_getElem? (i := 14) rfl))
theorem cd_127_27 : mt_cd 127 27 = some (.getfield 132) := mt_cd_of (q := (27, .getfield 132, 3)) mq_127 ci_127 (List.mem_append_left _ (show _ ∈ my_127_0 from List.mem_of_getElem? (i := 15) rfl))
theorem cd_127_30 : mt_cd 127 30 = some (.iload_n 2) := mt_cd_of (q := (30, .iload_n 2, 1)) mq_127 ci_127 (List.mem_append_left _ (show _ ∈ my_127_0 from List.mem_of_getElem? (i := 16) rfl))
theorem cd_127_31 : mt_cd 127 31 = some (.iaload) := mt_cd_of (q := (31, .iaload, 1)) mq_127 ci_127 (List.mem_append_left _ (show _ ∈ my_127_0 from List.mem_of_getElem? (i := 17) rfl))
theorem cd_127_32 : mt_cd 127 32 = some (.istore 4) := mt_cd_of (q := (32, .istore 4, 2)) mq_127 ci_127 (List.mem_append_left _ (show _ ∈ my_127_0 from List.mem_of_getElem? (i := 18) rfl))
theorem cd_127_34 : mt_cd 127 34 = some (.iload 4) := mt_cd_of (q := (34, .iload 4, 2)) mq_127 ci_127 (List.mem_append_left _ (show _ ∈ my_127_0 from List.mem_of_getElem? (i := 19) rfl))
theorem cd_127_36 : mt_cd 127 36 = some (.bipush 9) := mt_cd_of (q := (36, .bipush 9, 2)) mq_127 ci_127 (List.mem_append_left _ (show _ ∈ my_127_0 from List.mem_of_getElem? (i := 20) rfl))
theorem cd_127_38 : mt_cd 127 38 = some (.if_icmp .ne 54) := mt_cd_of (q := (38, .if_icmp .ne 54, 3)) mq_127 ci_127 (List.mem_append_left _ (show _ ∈ my_127_0 from List.mem_of_getElem? (i := 21) rfl))
theorem cd_127_41 : mt_cd 127 41 = some (.aload_n 0) := mt_cd_of (q := (41, .aload_n 0, 1)) mq_127 ci_127 (List.mem_append_left _ (show _ ∈ my_127_0 from List.mem_of_getElem? (i := 22) rfl))
theorem cd_127_42 : mt_cd 127 42 = some (.getfield 28) := mt_cd_of (q := (42, .getfield 28, 3)) mq_127 ci_127 (List.mem_append_left _ (show _ ∈ my_127_0 from List.mem_of_getElem? (i := 23) rfl))
theorem cd_127_45 : mt_cd 127 45 = some (.iload_n 1) := mt_cd_of (q := (45, .iload_n 1, 1)) mq_127 ci_127 (List.mem_append_left _ (show _ ∈ my_127_0 from List.mem_of_getElem? (i := 24) rfl))
theorem cd_127_46 : mt_cd 127 46 = some (.iaload) := mt_cd_of (q := (46, .iaload, 1)) mq_127 ci_127 (List.mem_append_left _ (show _ ∈ my_127_0 from List.mem_of_getElem? (i := 25) rfl))
theorem cd_127_47 : mt_cd 127 47 = some (.aload_n 0) := mt_cd_of (q := (47, .aload_n 0, 1)) mq_127 ci_127 (List.mem_append_left _ (show _ ∈ my_127_0 from List.mem_of_getElem? (i := 26) rfl))
theorem cd_127_48 : mt_cd 127 48 = some (.getfield 41) := mt_cd_of (q := (48, .getfield 41, 3)) mq_127 ci_127 (List.mem_append_left _ (show _ ∈ my_127_0 from List.mem_of_getElem? (i := 27) rfl))
theorem cd_127_51 : mt_cd 127 51 = some (.iload_n 2) := mt_cd_of (q := (51, .iload_n 2, 1)) mq_127 ci_127 (List.mem_append_left _ (show _ ∈ my_127_0 from List.mem_of_getElem? (i := 28) rfl))
theorem cd_127_52 : mt_cd 127 52 = some (.invokevirtual 135) := mt_cd_of (q := (52, .invokevirtual 135, 3)) mq_127 ci_127 (List.mem_append_left _ (show _ ∈ my_127_0 from List.mem_of_getElem? (i := 29) rfl))
theorem cd_127_55 : mt_cd 127 55 = some (.if_icmp .ge 37) := mt_cd_of (q := (55, .if_icmp .ge 37, 3)) mq_127 ci_127 (List.mem_append_left _ (show _ ∈ my_127_0 from List.mem_of_getElem? (i := 30) rfl))
theorem cd_127_58 : mt_cd 127 58 = some (.aload_n 0) := mt_cd_of (q := (58, .aload_n 0, 1)) mq_127 ci_127 (List.mem_append_left _ (show _ ∈ my_127_0 from List.mem_of_getElem? (i := 31) rfl))
theorem cd_127_59 : mt_cd 127 59 = some (.getfield 28) := mt_cd_of (q := (59, .getfield 28, 3)) mq_127 ci_127 (List.mem_append_left _ (show _ ∈ my_127_0 from List.mem_of_getElem? (i := 32) rfl))
theorem cd_127_62 : mt_cd 127 62 = some (.iload_n 1) := mt_cd_of (q := (62, .iload_n 1, 1)) mq_127 ci_127 (List.mem_append_left _ (show _ ∈ my_127_0 from List.mem_of_getElem? (i := 33) rfl))
theorem cd_127_63 : mt_cd 127 63 = some (.dup2) := mt_cd_of (q := (63, .dup2, 1)) mq_127 ci_127 (List.mem_append_left _ (show _ ∈ my_127_0 from List.mem_of_getElem? (i := 34) rfl))
theorem cd_127_64 : mt_cd 127 64 = some (.iaload) := mt_cd_of (q := (64, .iaload, 1)) mq_127 ci_127 (List.mem_append_left _ (show _ ∈ my_127_0 from List.mem_of_getElem? (i := 35) rfl))
theorem cd_127_65 : mt_cd 127 65 = some (.iconst 1) := mt_cd_of (q := (65, .iconst 1, 1)) mq_127 ci_127 (List.mem_append_left _ (show _ ∈ my_127_0 from List.mem_of_getElem? (i := 36) rfl))
theorem cd_127_66 : mt_cd 127 66 = some (.iadd) := mt_cd_of (q := (66, .iadd, 1)) mq_127 ci_127 (List.mem_append_left _ (show _ ∈ my_127_0 from List.mem_of_getElem? (i := 37) rfl))
theorem cd_127_67 : mt_cd 127 67 = some (.iastore) := mt_cd_of (q := (67, .iastore, 1)) mq_127 ci_127 (List.mem_append_left _ (show _ ∈ my_127_0 from List.mem_of_getElem? (i := 38) rfl))
theorem cd_127_68 : mt_cd 127 68 = some (.aload_n 0) := mt_cd_of (q := (68, .aload_n 0, 1)) mq_127 ci_127 (List.mem_append_left _ (show _ ∈ my_127_0 from List.mem_of_getElem? (i := 39) rfl))
theorem cd_127_69 : mt_cd 127 69 = some (.iload_n 1) := mt_cd_of (q := (69, .iload_n 1, 1)) mq_127 ci_127 (List.mem_append_left _ (show _ ∈ my_127_0 from List.mem_of_getElem? (i := 40) rfl))
theorem cd_127_70 : mt_cd 127 70 = some (.iconst 2) := mt_cd_of (q := (70, .iconst 2, 1)) mq_127 ci_127 (List.mem_append_left _ (show _ ∈ my_127_0 from List.mem_of_getElem? (i := 41) rfl))
theorem cd_127_71 : mt_cd 127 71 = some (.aload_n 0) := mt_cd_of (q := (71, .aload_n 0, 1)) mq_127 ci_127 (List.mem_append_left _ (show _ ∈ my_127_0 from List.mem_of_getElem? (i := 42) rfl))
theorem cd_127_72 : mt_cd 127 72 = some (.getfield 41) := mt_cd_of (q := (72, .getfield 41, 3)) mq_127 ci_127 (List.mem_append_left _ (show _ ∈ my_127_0 from List.mem_of_getElem? (i := 43) rfl))
theorem cd_127_75 : mt_cd 127 75 = some (.iload_n 2) := mt_cd_of (q := (75, .iload_n 2, 1)) mq_127 ci_127 (List.mem_append_left _ (show _ ∈ my_127_0 from List.mem_of_getElem? (i := 44) rfl))
theorem cd_127_76 : mt_cd 127 76 = some (.aload_n 0) := mt_cd_of (q := (76, .aload_n 0, 1)) mq_127 ci_127 (List.mem_append_left _ (show _ ∈ my_127_0 from List.mem_of_getElem? (i := 45) rfl))
theorem cd_127_77 : mt_cd 127 77 = some (.getfield 28) := mt_cd_of (q := (77, .getfield 28, 3)) mq_127 ci_127 (List.mem_append_left _ (show _ ∈ my_127_0 from List.mem_of_getElem? (i := 46) rfl))
theorem cd_127_80 : mt_cd 127 80 = some (.iload_n 1) := mt_cd_of (q := (80, .iload_n 1, 1)) mq_127 ci_127 (List.mem_append_left _ (show _ ∈ my_127_0 from List.mem_of_getElem? (i := 47) rfl))
theorem cd_127_81 : mt_cd 127 81 = some (.iaload) := mt_cd_of (q := (81, .iaload, 1)) mq_127 ci_127 (List.mem_append_left _ (show _ ∈ my_127_0 from List.mem_of_getElem? (i := 48) rfl))
theorem cd_127_82 : mt_cd 127 82 = some (.iconst 1) := mt_cd_of (q := (82, .iconst 1, 1)) mq_127 ci_127 (List.mem_append_left _ (show _ ∈ my_127_0 from List.mem_of_getElem? (i := 49) rfl))
theorem cd_127_83 : mt_cd 127 83 = some (.isub) := mt_cd_of (q := (83, .isub, 1)) mq_127 ci_127 (List.mem_append_left _ (show _ ∈ my_127_0 from List.mem_of_getElem? (i := 50) rfl))
theorem cd_127_84 : mt_cd 127 84 = some (.invokevirtual 138) := mt_cd_of (q := (84, .invokevirtual 138, 3)) mq_127 ci_127 (List.mem_append_left _ (show _ ∈ my_127_0 from List.mem_of_getElem? (i := 51) rfl))
theorem cd_127_87 : mt_cd 127 87 = some (.iload_n 2) := mt_cd_of (q := (87, .iload_n 2, 1)) mq_127 ci_127 (List.mem_append_left _ (show _ ∈ my_127_0 from List.mem_of_getElem? (i := 52) rfl))
theorem cd_127_88 : mt_cd 127 88 = some (.invokevirtual 103) := mt_cd_of (q := (88, .invokevirtual 103, 3)) mq_127 ci_127 (List.mem_append_left _ (show _ ∈ my_127_0 from List.mem_of_getElem? (i := 53) rfl))
theorem cd_127_91 : mt_cd 127 91 = some (.ireturn) := mt_cd_of (q := (91, .ireturn, 1)) mq_127 ci_127 (List.mem_append_left _ (show _ ∈ my_127_0 from List.mem_of_getElem? (i := 54) rfl))
theorem cd_127_92 : mt_cd 127 92 = some (.aload_n 0) := mt_cd_of (q := (92, .aload_n 0, 1)) mq_127 ci_127 (List.mem_append_left _ (show _ ∈ my_127_0 from List.mem_of_getElem? (i := 55) rfl))
theorem cd_127_93 : mt_cd 127 93 = some (.getfield 28) := mt_cd_of (q := (93, .getfield 28, 3)) mq_127 ci_127 (List.mem_append_left _ (show _ ∈ my_127_0 from List.mem_of_getElem? (i := 56) rfl))
theorem cd_127_96 : mt_cd 127 96 = some (.iload_n 1) := mt_cd_of (q := (96, .iload_n 1, 1)) mq_127 ci_127 (List.mem_append_left _ (show _ ∈ my_127_0 from List.mem_of_getElem? (i := 57) rfl))
theorem cd_127_97 : mt_cd 127 97 = some (.iconst 0) := mt_cd_of (q := (97, .iconst 0, 1)) mq_127 ci_127 (List.mem_append_left _ (show _ ∈ my_127_0 from List.mem_of_getElem? (i := 58) rfl))
theorem cd_127_98 : mt_cd 127 98 = some (.iastore) := mt_cd_of (q := (98, .iastore, 1)) mq_127 ci_127 (List.mem_append_left _ (show _ ∈ my_127_0 from List.mem_of_getElem? (i := 59) rfl))
theorem cd_127_99 : mt_cd 127 99 = some (.aload_n 0) := mt_cd_of (q := (99, .aload_n 0, 1)) mq_127 ci_127 (List.mem_append_right _ ((show _ ∈ my_127_1 from List.mem_of_getElem? (i := 0) rfl)))
theorem cd_127_100 : mt_cd 127 100 = some (.getfield 24) := mt_cd_of (q := (100, .getfield 24, 3)) mq_127 ci_127 (List.mem_append_right _ ((show _ ∈ my_127_1 from List.mem_of_getElem? (i := 1) rfl)))
theorem cd_127_103 : mt_cd 127 103 = some (.iload_n 1) := mt_cd_of (q := (103, .iload_n 1, 1)) mq_127 ci_127 (List.mem_append_right _ ((show _ ∈ my_127_1 from List.mem_of_getElem? (i := 2) rfl)))
theorem cd_127_104 : mt_cd 127 104 = some (.aload_n 0) := mt_cd_of (q := (104, .aload_n 0, 1)) mq_127 ci_127 (List.mem_append_right _ ((show _ ∈ my_127_1 from List.mem_of_getElem? (i := 3) rfl)))
theorem cd_127_105 : mt_cd 127 105 = some (.getfield 41) := mt_cd_of (q := (105, .getfield 41, 3)) mq_127 ci_127 (List.mem_append_right _ ((show _ ∈ my_127_1 from List.mem_of_getElem? (i := 4) rfl)))
theorem cd_127_108 : mt_cd 127 108 = some (.getfield 142) := mt_cd_of (q := (108, .getfield 142, 3)) mq_127 ci_127 (List.mem_append_right _ ((show _ ∈ my_127_1 from List.mem_of_getElem? (i := 5) rfl)))
theorem cd_127_111 : mt_cd 127 111 = some (.iload_n 2) := mt_cd_of (q := (111, .iload_n 2, 1)) mq_127 ci_127 (List.mem_append_right _ ((show _ ∈ my_127_1 from List.mem_of_getElem? (i := 6) rfl)))
theorem cd_127_112 : mt_cd 127 112 = some (.iaload) := mt_cd_of (q := (112, .iaload, 1)) mq_127 ci_127 (List.mem_append_right _ ((show _ ∈ my_127_1 from List.mem_of_getElem? (i := 7) rfl)))
theorem cd_127_113 : mt_cd 127 113 = some (.iastore) := mt_cd_of (q := (113, .iastore, 1)) mq_127 ci_127 (List.mem_append_right _ ((show _ ∈ my_127_1 from List.mem_of_getElem? (i := 8) rfl)))
theorem cd_127_114 : mt_cd 127 114 = some (.iload 4) := mt_cd_of (q := (114, .iload 4, 2)) mq_127 ci_127 (List.mem_append_right _ ((show _ ∈ my_127_1 from List.mem_of_getElem? (i := 9) rfl)))
theorem cd_127_116 : mt_cd 127 116 = some (.bipush 8) := mt_cd_of (q := (116, .bipush 8, 2)) mq_127 ci_127 (List.mem_append_right _ ((show _ ∈ my_127_1 from List.mem_of_getElem? (i := 10) rfl)))
theorem cd_127_118 : mt_cd 127 118 = some (.if_icmp .ne 28) := mt_cd_of (q := (118, .if_icmp .ne 28, 3)) mq_127 ci_127 (List.mem_append_right _ ((show _ ∈ my_127_1 from List.mem_of_getElem? (i := 11) rfl)))
theorem cd_127_121 : mt_cd 127 121 = some (.aload_n 0) := mt_cd_of (q := (121, .aload_n 0, 1)) mq_127 ci_127 (List.mem_append_right _ ((show _ ∈ my_127_1 from List.mem_of_getElem? (i := 12) rfl)))
theorem cd_127_122 : mt_cd 127 122 = some (.iload_n 1) := mt_cd_of (q := (122, .iload_n 1, 1)) mq_127 ci_127 (List.mem_append_right _ ((show _ ∈ my_127_1 from List.mem_of_getElem? (i := 13) rfl)))
theorem cd_127_123 : mt_cd 127 123 = some (.iconst 1) := mt_cd_of (q := (123, .iconst 1, 1)) mq_127 ci_127 (List.mem_append_right _ ((show _ ∈ my_127_1 from List.mem_of_getElem? (i := 14) rfl)))
theorem cd_127_124 : mt_cd 127 124 = some (.aload_n 0) := mt_cd_of (q := (124, .aload_n 0, 1)) mq_127 ci_127 (List.mem_append_right _ ((show _ ∈ my_127_1 from List.mem_of_getElem? (i := 15) rfl)))
theorem cd_127_125 : mt_cd 127 125 = some (.getfield 60) := mt_cd_of (q := (125, .getfield 60, 3)) mq_127 ci_127 (List.mem_append_right _ ((show _ ∈ my_127_1 from List.mem_of_getElem? (i := 16) rfl)))
theorem cd_127_128 : mt_cd 127 128 = some (.aload_n 0) := mt_cd_of (q := (128, .aload_n 0, 1)) mq_127 ci_127 (List.mem_append_right _ ((show _ ∈ my_127_1 from List.mem_of_getElem? (i := 17) rfl)))
theorem cd_127_129 : mt_cd 127 129 = some (.getfield 41) := mt_cd_of (q := (129, .getfield 41, 3)) mq_127 ci_127 (List.mem_append_right _ ((show _ ∈ my_127_1 from List.mem_of_getElem? (i := 18) rfl)))
theorem cd_127_132 : mt_cd 127 132 = some (.getfield 111) := mt_cd_of (q := (132, .getfield 111, 3)) mq_127 ci_127 (List.mem_append_right _ ((show _ ∈ my_127_1 from List.mem_of_getElem? (i := 19) rfl)))
theorem cd_127_135 : mt_cd 127 135 = some (.iload_n 2) := mt_cd_of (q := (135, .iload_n 2, 1)) mq_127 ci_127 (List.mem_append_right _ ((show _ ∈ my_127_1 from List.mem_of_getElem? (i := 20) rfl)))
theorem cd_127_136 : mt_cd 127 136 = some (.iaload) := mt_cd_of (q := (136, .iaload, 1)) mq_127 ci_127 (List.mem_append_right _ ((show _ ∈ my_127_1 from List.mem_of_getElem? (i := 21) rfl)))
theorem cd_127_137 : mt_cd 127 137 = some (.iconst 1) := mt_cd_of (q := (137, .iconst 1, 1)) mq_127 ci_127 (List.mem_append_right _ ((show _ ∈ my_127_1 from List.mem_of_getElem? (i := 22) rfl)))
theorem cd_127_138 : mt_cd 127 138 = some (.invokevirtual 145) := mt_cd_of (q := (138, .invokevirtual 145, 3)) mq_127 ci_127 (List.mem_append_right _ ((show _ ∈ my_127_1 from List.mem_of_getElem? (i := 23) rfl)))
theorem cd_127_141 : mt_cd 127 141 = some (.iload_n 2) := mt_cd_of (q := (141, .iload_n 2, 1)) mq_127 ci_127 (List.mem_append_right _ ((show _ ∈ my_127_1 from List.mem_of_getElem? (i := 24) rfl)))
theorem cd_127_142 : mt_cd 127 142 = some (.invokevirtual 103) := mt_cd_of (q := (142, .invokevirtual 103, 3)) mq_127 ci_127 (List.mem_append_right _ ((show _ ∈ my_127_1 from List.mem_of_getElem? (i := 25) rfl)))
theorem cd_127_145 : mt_cd 127 145 = some (.ireturn) := mt_cd_of (q := (145, .ireturn, 1)) mq_127 ci_127 (List.mem_append_right _ ((show _ ∈ my_127_1 from List.mem_of_getElem? (i := 26) rfl)))
theorem cd_127_146 : mt_cd 127 146 = some (.iload 4) := mt_cd_of (q := (146, .iload 4, 2)) mq_127 ci_127 (List.mem_append_right _ ((show _ ∈ my_127_1 from List.mem_of_getElem? (i := 27) rfl)))
theorem cd_127_148 : mt_cd 127 148 = some (.bipush 10) := mt_cd_of (q := (148, .bipush 10, 2)) mq_127 ci_127 (List.mem_append_right _ ((show _ ∈ my_127_1 from List.mem_of_getElem? (i := 28) rfl)))
theorem cd_127_150 : mt_cd 127 150 = some (.if_icmp .ne 42) := mt_cd_of (q := (150, .if_icmp .ne 42, 3)) mq_127 ci_127 (List.mem_append_right _ ((show _ ∈ my_127_1 from List.mem_of_getElem? (i := 29) rfl)))
theorem cd_127_153 : mt_cd 127 153 = some (.aload_n 0) := mt_cd_of (q := (153, .aload_n 0, 1)) mq_127 ci_127 (List.mem_append_right _ ((show _ ∈ my_127_1 from List.mem_of_getElem? (i := 30) rfl)))
theorem cd_127_154 : mt_cd 127 154 = some (.getfield 60) := mt_cd_of (q := (154, .getfield 60, 3)) mq_127 ci_127 (List.mem_append_right _ ((show _ ∈ my_127_1 from List.mem_of_getElem? (i := 31) rfl)))
theorem cd_127_157 : mt_cd 127 157 = some (.aload_n 0) := mt_cd_of (q := (157, .aload_n 0, 1)) mq_127 ci_127 (List.mem_append_right _ ((show _ ∈ my_127_1 from List.mem_of_getElem? (i := 32) rfl)))
theorem cd_127_158 : mt_cd 127 158 = some (.getfield 41) := mt_cd_of (q := (158, .getfield 41, 3)) mq_127 ci_127 (List.mem_append_right _ ((show _ ∈ my_127_1 from List.mem_of_getElem? (i := 33) rfl)))
theorem cd_127_161 : mt_cd 127 161 = some (.getfield 111) := mt_cd_of (q := (161, .getfield 111, 3)) mq_127 ci_127 (List.mem_append_right _ ((show _ ∈ my_127_1 from List.mem_of_getElem? (i := 34) rfl)))
theorem cd_127_164 : mt_cd 127 164 = some (.iload_n 2) := mt_cd_of (q := (164, .iload_n 2, 1)) mq_127 ci_127 (List.mem_append_right _ ((show _ ∈ my_127_1 from List.mem_of_getElem? (i := 35) rfl)))
theorem cd_127_165 : mt_cd 127 165 = some (.iaload) := mt_cd_of (q := (165, .iaload, 1)) mq_127 ci_127 (List.mem_append_right _ ((show _ ∈ my_127_1 from List.mem_of_getElem? (i := 36) rfl)))
theorem cd_127_166 : mt_cd 127 166 = some (.iconst 1) := mt_cd_of (q := (166, .iconst 1, 1)) mq_127 ci_127 (List.mem_append_right _ ((show _ ∈ my_127_1 from List.mem_of_getElem? (i := 37) rfl)))
theorem cd_127_167 : mt_cd 127 167 = some (.invokevirtual 148) := mt_cd_of (q := (167, .invokevirtual 148, 3)) mq_127 ci_127 (List.mem_append_right _ ((show _ ∈ my_127_1 from List.mem_of_getElem? (i := 38) rfl)))
theorem cd_127_170 : mt_cd 127 170 = some (.ifCond .ne 13) := mt_cd_of (q := (170, .ifCond .ne 13, 3)) mq_127 ci_127 (List.mem_append_right _ ((show _ ∈ my_127_1 from List.mem_of_getElem? (i := 39) rfl)))
theorem cd_127_173 : mt_cd 127 173 = some (.aload_n 0) := mt_cd_of (q := (173, .aload_n 0, 1)) mq_127 ci_127 (List.mem_append_right _ ((show _ ∈ my_127_1 from List.mem_of_getElem? (i := 40) rfl)))
theorem cd_127_174 : mt_cd 127 174 = some (.getfield 60) := mt_cd_of (q := (174, .getfield 60, 3)) mq_127 ci_127 (List.mem_append_right _ ((show _ ∈ my_127_1 from List.mem_of_getElem? (i := 41) rfl)))
theorem cd_127_177 : mt_cd 127 177 = some (.getfield 151) := mt_cd_of (q := (177, .getfield 151, 3)) mq_127 ci_127 (List.mem_append_right _ ((show _ ∈ my_127_1 from List.mem_of_getElem? (i := 42) rfl)))
theorem cd_127_180 : mt_cd 127 180 = some (.ifCond .eq 12) := mt_cd_of (q := (180, .ifCond .eq 12, 3)) mq_127 ci_127 (List.mem_append_right _ ((show _ ∈ my_127_1 from List.mem_of_getElem? (i := 43) rfl)))
theorem cd_127_183 : mt_cd 127 183 = some (.aload_n 0) := mt_cd_of (q := (183, .aload_n 0, 1)) mq_127 ci_127 (List.mem_append_right _ ((show _ ∈ my_127_1 from List.mem_of_getElem? (i := 44) rfl)))
theorem cd_127_184 : mt_cd 127 184 = some (.iload_n 1) := mt_cd_of (q := (184, .iload_n 1, 1)) mq_127 ci_127 (List.mem_append_right _ ((show _ ∈ my_127_1 from List.mem_of_getElem? (i := 45) rfl)))
theorem cd_127_185 : mt_cd 127 185 = some (.iconst 3) := mt_cd_of (q := (185, .iconst 3, 1)) mq_127 ci_127 (List.mem_append_right _ ((show _ ∈ my_127_1 from List.mem_of_getElem? (i := 46) rfl)))
theorem cd_127_186 : mt_cd 127 186 = some (.lconst 0) := mt_cd_of (q := (186, .lconst 0, 1)) mq_127 ci_127 (List.mem_append_right _ ((show _ ∈ my_127_1 from List.mem_of_getElem? (i := 47) rfl)))
theorem cd_127_187 : mt_cd 127 187 = some (.iload_n 2) := mt_cd_of (q := (187, .iload_n 2, 1)) mq_127 ci_127 (List.mem_append_right _ ((show _ ∈ my_127_1 from List.mem_of_getElem? (i := 48) rfl)))
theorem cd_127_188 : mt_cd 127 188 = some (.invokevirtual 103) := mt_cd_of (q := (188, .invokevirtual 103, 3)) mq_127 ci_127 (List.mem_append_right _ ((show _ ∈ my_127_1 from List.mem_of_getElem? (i := 49) rfl)))
theorem cd_127_191 : mt_cd 127 191 = some (.ireturn) := mt_cd_of (q := (191, .ireturn, 1)) mq_127 ci_127 (List.mem_append_right _ ((show _ ∈ my_127_1 from List.mem_of_getElem? (i := 50) rfl)))
theorem cd_127_192 : mt_cd 127 192 = some (.iconst 0) := mt_cd_of (q := (192, .iconst 0, 1)) mq_127 ci_127 (List.mem_append_right _ ((show _ ∈ my_127_1 from List.mem_of_getElem? (i := 51) rfl)))
theorem cd_127_193 : mt_cd 127 193 = some (.ireturn) := mt_cd_of (q := (193, .ireturn, 1)) mq_127 ci_127 (List.mem_append_right _ ((show _ ∈ my_127_1 from List.mem_of_getElem? (i := 52) rfl)))
theorem b_127_0 {d : Nat} {Q : (Option Value ⊕ Nat) → mi_H → Prop} (n sl : Nat) (f : Nat → mi_C) {l1 : Nat} {l2 : Int32} {l3 : Int32} {o4 : Option Value} {o5 : Option Value} {fs6 : List Value} {x9 : Nat} (m11 i11 ka11 : Nat) (g11 : Nat → Option Nat) {x16 : Nat} {fs18 : List Value} {x21 : Nat} {fs23 : List Value} {x26 : Int64} {fs28 : List Value} {x31 : Int64} {fs33 : List Value} (h7 : f l1 = .inr (11, fs6)) (h8 : l1 < n) (h10 : fs6[4]? = some (.ref x9)) (h12 : f x9 = .inl (ka11, m11, .inr (.inr (.inr (.inr g11))))) (h13 : x9 < n) (h14 : 4 ≤ ka11 ∧ ka11 < mt_na) (h15 : mi_ix l2 m11 i11) (h17 : g11 i11 = some x16) (h19 : f l1 = .inr (11, fs18)) (h20 : l1 < n) (h22 : fs18[2]? = some (.ref x21)) (h24 : f x16 = .inr (9, fs23)) (h25 : x16 < n) (h27 : fs23[1]? = some (.long x26)) (h29 : f x16 = .inr (9, fs28)) (h30 : x16 < n) (h32 : fs28[1]? = some (.long x31)) (h34 : f x21 = .inr (10, fs33)) (h35 : x21 < n) (h36 : mi_W d 78 0 (mi_en 6 [.ref x21, .ref x16, .long x26, .long x31]) [] (n, sl, f) (mi_Kc d 127 20 [some (.ref l1), some (.int l2), some (.int l3), some (.ref x16), o5] [] Q)) : mi_W (d + 1) 127 0 [some (.ref l1), some (.int l2), some (.int l3), o4, o5] [] (n, sl, f) Q := by
  refine w_aload_n cd_127_0 rfl ?_
  refine w_getfield cd_127_1 (show mt_f 11 20 = some (11, 4) by decide +kernel) h7 h8 h10 ?_
  refine w_iload_n cd_127_4 rfl ?_
  refine w_aaload (w := .ref x16) cd_127_5 h12 h13 h14 h15 (by rw [h17]; rfl) ?_
  refine w_astore_n (ls' := [some (.ref l1), some (.int l2), some (.int l3), some (.ref x16), o5]) cd_127_6 (Nat.le_of_ble_eq_true rfl) rfl ?_
  refine w_aload_n cd_127_7 rfl ?_
  refine w_getfield cd_127_8 (show mt_f 11 60 = some (11, 2) by decide +kernel) h19 h20 h22 ?_
  refine w_aload_n cd_127_11 rfl ?_
  refine w_aload_n cd_127_12 rfl ?_
  refine w_getfield cd_127_13 (show mt_f 11 124 = some (9, 1) by decide +kernel) h24 h25 h27 ?_
  refine w_aload_n cd_127_16 rfl ?_
  refine w_getfield cd_127_17 (show mt_f 11 124 = some (9, 1) by decide +kernel) h29 h30 h32 ?_
  exact w_invokevirtual cd_127_20 (show mt_m 11 128 = some (78, 0) by decide +kernel) (rest := []) rfl (as := [.ref x21, .ref x16, .long x26, .long x31]) rfl h34 (Or.inl h35) ⟨Nat.le_of_ble_eq_true rfl, Nat.le_of_ble_eq_true rfl, Nat.le_of_ble_eq_true rfl⟩ h36
theorem b_127_23 {d : Nat} {Q : (Option Value ⊕ Nat) → mi_H → Prop} (n sl : Nat) (f : Nat → mi_C) {l1 : Nat} {l2 : Int32} {l3 : Int32} {l4 : Nat} {o5 : Option Value} {fs6 : List Value} {x9 : Nat} {fs11 : List Value} {x14 : Nat} (m16 i16 : Nat) (g16 : Nat → Int32) (h7 : f l1 = .inr (11, fs6)) (h8 : l1 < n) (h10 : fs6[0]? = some (.ref x9)) (h12 : f x9 = .inr (2, fs11)) (h13 : x9 < n) (h15 : fs11[0]? = some (.ref x14)) (h17 : f x14 = .inl (0, m16, .inl g16)) (h18 : x14 < n ∨ x14 = mi_SC) (h19 : mi_ix l3 m16 i16) (h20 : ¬ (g16 i16) = 9 → mi_W d 127 92 [some (.ref l1), some (.int l2), some (.int l3), some (.ref l4), some (.int (g16 i16))] [] (n, sl, f) Q) (h21 : ¬ (¬ (g16 i16) = 9) → mi_W d 127 41 [some (.ref l1), some (.int l2), some (.int l3), some (.ref l4), some (.int (g16 i16))] [] (n, sl, f) Q) : mi_W d 127 23 [some (.ref l1), some (.int l2), some (.int l3), some (.ref l4), o5] [] (n, sl, f) Q := by
  refine w_aload_n cd_127_23 rfl ?_
  refine w_getfield cd_127_24 (show mt_f 11 41 = some (11, 0) by decide +kernel) h7 h8 h10 ?_
  refine w_getfield cd_127_27 (show mt_f 11 132 = some (2, 0) by decide +kernel) h12 h13 h15 ?_
  refine w_iload_n cd_127_30 rfl ?_
  refine w_iaload cd_127_31 h17 h18 h19 ?_
  refine w_istore (ls' := [some (.ref l1), some (.int l2), some (.int l3), some (.ref l4), some (.int (g16 i16))]) cd_127_32 (Nat.le_of_ble_eq_true rfl) rfl ?_
  refine w_iload cd_127_34 rfl ?_
  refine w_bipush (v := 9) cd_127_36 (by decide) ?_
  exact w_if_icmpne cd_127_38 (by decide) h20 h21
theorem b_127_41 {d : Nat} {Q : (Option Value ⊕ Nat) → mi_H → Prop} (n sl : Nat) (f : Nat → mi_C) {l1 : Nat} {l2 : Int32} {l3 : Int32} {l4 : Nat} {l5 : Int32} {fs6 : List Value} {x9 : Nat} (m11 i11 : Nat) (g11 : Nat → Int32) {fs15 : List Value} {x18 : Nat} {fs20 : List Value} (h7 : f l1 = .inr (11, fs6)) (h8 : l1 < n) (h10 : fs6[6]? = some (.ref x9)) (h12 : f x9 = .inl (0, m11, .inl g11)) (h13 : x9 < n ∨ x9 = mi_SC) (h14 : mi_ix l2 m11 i11) (h16 : f l1 = .inr (11, fs15)) (h17 : l1 < n) (h19 : fs15[0]? = some (.ref x18)) (h21 : f x18 = .inr (2, fs20)) (h22 : x18 < n) (h23 : mi_W d 123 0 (mi_en 5 [.ref x18, .int l3]) [] (n, sl, f) (mi_Kc d 127 52 [some (.ref l1), some (.int l2), some (.int l3), some (.ref l4), some (.int l5)] [.int (g11 i11)] Q)) : mi_W (d + 1) 127 41 [some (.ref l1), some (.int l2), some (.int l3), some (.ref l4), some (.int l5)] [] (n, sl, f) Q := by
  refine w_aload_n cd_127_41 rfl ?_
  refine w_getfield cd_127_42 (show mt_f 11 28 = some (11, 6) by decide +kernel) h7 h8 h10 ?_
  refine w_iload_n cd_127_45 rfl ?_
  refine w_iaload cd_127_46 h12 h13 h14 ?_
  refine w_aload_n cd_127_47 rfl ?_
  refine w_getfield cd_127_48 (show mt_f 11 41 = some (11, 0) by decide +kernel) h16 h17 h19 ?_
  refine w_iload_n cd_127_51 rfl ?_
  exact w_invokevirtual cd_127_52 (show mt_m 11 135 = some (123, 0) by decide +kernel) (rest := [.int (g11 i11)]) rfl (as := [.ref x18, .int l3]) rfl h21 (Or.inl h22) ⟨Nat.le_of_ble_eq_true rfl, Nat.le_of_ble_eq_true rfl, Nat.le_of_ble_eq_true rfl⟩ h23
theorem b_127_55 {d : Nat} {Q : (Option Value ⊕ Nat) → mi_H → Prop} (n sl : Nat) (f : Nat → mi_C) {l1 : Nat} {l2 : Int32} {l3 : Int32} {l4 : Nat} {l5 : Int32} {s6 : Int32} {s7 : Int32} (h8 : s6 ≤ s7 → mi_W d 127 92 [some (.ref l1), some (.int l2), some (.int l3), some (.ref l4), some (.int l5)] [] (n, sl, f) Q) (h9 : ¬ (s6 ≤ s7) → mi_W d 127 58 [some (.ref l1), some (.int l2), some (.int l3), some (.ref l4), some (.int l5)] [] (n, sl, f) Q) : mi_W d 127 55 [some (.ref l1), some (.int l2), some (.int l3), some (.ref l4), some (.int l5)] [.int s6, .int s7] (n, sl, f) Q := by
  exact w_if_icmpge cd_127_55 (by decide) h8 h9
theorem b_127_58 {d : Nat} {Q : (Option Value ⊕ Nat) → mi_H → Prop} (n sl : Nat) (f : Nat → mi_C) {l1 : Nat} {l2 : Int32} {l3 : Int32} {l4 : Nat} {l5 : Int32} {fs6 : List Value} {x9 : Nat} (m11 i11 : Nat) (g11 : Nat → Int32) (m15 i15 : Nat) (g15 : Nat → Int32) {fs19 : List Value} {x22 : Nat} {fs24 : List Value} {x27 : Nat} (m29 i29 : Nat) (g29 : Nat → Int32) {fs33 : List Value} (h7 : f l1 = .inr (11, fs6)) (h8 : l1 < n) (h10 : fs6[6]? = some (.ref x9)) (h12 : f x9 = .inl (0, m11, .inl g11)) (h13 : x9 < n ∨ x9 = mi_SC) (h14 : mi_ix l2 m11 i11) (h16 : f x9 = .inl (0, m15, .inl g15)) (h17 : x9 < n) (h18 : mi_ix l2 m15 i15) (h20 : (va_up f x9 (.inl (0, m15, .inl (upd g15 i15 ((g11 i11) + 1))))) l1 = .inr (11, fs19)) (h21 : l1 < n) (h23 : fs19[0]? = some (.ref x22)) (h25 : (va_up f x9 (.inl (0, m15, .inl (upd g15 i15 ((g11 i11) + 1))))) l1 = .inr (11, fs24)) (h26 : l1 < n) (h28 : fs24[6]? = some (.ref x27)) (h30 : (va_up f x9 (.inl (0, m15, .inl (upd g15 i15 ((g11 i11) + 1))))) x27 = .inl (0, m29, .inl g29)) (h31 : x27 < n ∨ x27 = mi_SC) (h32 : mi_ix l2 m29 i29) (h34 : (va_up f x9 (.inl (0, m15, .inl (upd g15 i15 ((g11 i11) + 1))))) x22 = .inr (2, fs33)) (h35 : x22 < n) (h36 : mi_W d 128 0 (mi_en 8 [.ref x22, .int l3, .int ((g29 i29) - 1)]) [] (n, sl, (va_up f x9 (.inl (0, m15, .inl (upd g15 i15 ((g11 i11) + 1)))))) (mi_Kc d 127 84 [some (.ref l1), some (.int l2), some (.int l3), some (.ref l4), some (.int l5)] [.int 2, .int l2, .ref l1] Q)) : mi_W (d + 1) 127 58 [some (.ref l1), some (.int l2), some (.int l3), some (.ref l4), some (.int l5)] [] (n, sl, f) Q := by
  refine w_aload_n cd_127_58 rfl ?_
  refine w_getfield cd_127_59 (show mt_f 11 28 = some (11, 6) by decide +kernel) h7 h8 h10 ?_
  refine w_iload_n cd_127_62 rfl ?_
  refine w_dup2_ir cd_127_63 ?_
  refine w_iaload cd_127_64 h12 h13 h14 ?_
  refine w_iconst (v := 1) cd_127_65 (by decide) ?_
  refine w_iadd cd_127_66 ?_
  refine w_iastore cd_127_67 h16 h17 h18 ?_
  refine w_aload_n cd_127_68 rfl ?_
  refine w_iload_n cd_127_69 rfl ?_
  refine w_iconst (v := 2) cd_127_70 (by decide) ?_
  refine w_aload_n cd_127_71 rfl ?_
  refine w_getfield cd_127_72 (show mt_f 11 41 = some (11, 0) by decide +kernel) h20 h21 h23 ?_
  refine w_iload_n cd_127_75 rfl ?_
  refine w_aload_n cd_127_76 rfl ?_
  refine w_getfield cd_127_77 (show mt_f 11 28 = some (11, 6) by decide +kernel) h25 h26 h28 ?_
  refine w_iload_n cd_127_80 rfl ?_
  refine w_iaload cd_127_81 h30 h31 h32 ?_
  refine w_iconst (v := 1) cd_127_82 (by decide) ?_
  refine w_isub cd_127_83 ?_
  exact w_invokevirtual cd_127_84 (show mt_m 11 138 = some (128, 0) by decide +kernel) (rest := [.int 2, .int l2, .ref l1]) rfl (as := [.ref x22, .int l3, .int ((g29 i29) - 1)]) rfl h34 (Or.inl h35) ⟨Nat.le_of_ble_eq_true rfl, Nat.le_of_ble_eq_true rfl, Nat.le_of_ble_eq_true rfl⟩ h36
theorem b_127_87 {d : Nat} {Q : (Option Value ⊕ Nat) → mi_H → Prop} (n sl : Nat) (f : Nat → mi_C) {l1 : Nat} {l2 : Int32} {l3 : Int32} {l4 : Nat} {l5 : Int32} {s6 : Int64} {s7 : Int32} {s8 : Int32} {s9 : Nat} {fs10 : List Value} (h11 : f s9 = .inr (11, fs10)) (h12 : s9 < n) (h13 : mi_W d 126 0 (mi_en 6 [.ref s9, .int s8, .int s7, .long s6, .int l3]) [] (n, sl, f) (mi_Kc d 127 88 [some (.ref l1), some (.int l2), some (.int l3), some (.ref l4), some (.int l5)] [] Q)) : mi_W (d + 1) 127 87 [some (.ref l1), some (.int l2), some (.int l3), some (.ref l4), some (.int l5)] [.long s6, .int s7, .int s8, .ref s9] (n, sl, f) Q := by
  refine w_iload_n cd_127_87 rfl ?_
  exact w_invokevirtual cd_127_88 (show mt_m 11 103 = some (126, 0) by decide +kernel) (rest := []) rfl (as := [.ref s9, .int s8, .int s7, .long s6, .int l3]) rfl h11 (Or.inl h12) ⟨Nat.le_of_ble_eq_true rfl, Nat.le_of_ble_eq_true rfl, Nat.le_of_ble_eq_true rfl⟩ h13
theorem b_127_91 {d : Nat} {Q : (Option Value ⊕ Nat) → mi_H → Prop} (n sl : Nat) (f : Nat → mi_C) {l1 : Nat} {l2 : Int32} {l3 : Int32} {l4 : Nat} {l5 : Int32} {s6 : Int32} (h7 : s6 = 0 ∨ s6 = 1) (h8 : Q (.inl (some (.int s6))) (n, sl, f)) : mi_W d 127 91 [some (.ref l1), some (.int l2), some (.int l3), some (.ref l4), some (.int l5)] [.int s6] (n, sl, f) Q := by
  exact w_ireturn_z cd_127_91 (by decide +kernel) h7 h8
theorem b_127_92 {d : Nat} {Q : (Option Value ⊕ Nat) → mi_H → Prop} (n sl : Nat) (f : Nat → mi_C) {l1 : Nat} {l2 : Int32} {l3 : Int32} {l4 : Nat} {l5 : Int32} {fs6 : List Value} {x9 : Nat} (m11 i11 : Nat) (g11 : Nat → Int32) {fs15 : List Value} {x18 : Nat} {fs20 : List Value} {x23 : Nat} {fs25 : List Value} {x28 : Nat} (m30 i30 : Nat) (g30 : Nat → Int32) (m34 i34 : Nat) (g34 : Nat → Int32) (h7 : f l1 = .inr (11, fs6)) (h8 : l1 < n) (h10 : fs6[6]? = some (.ref x9)) (h12 : f x9 = .inl (0, m11, .inl g11)) (h13 : x9 < n) (h14 : mi_ix l2 m11 i11) (h16 : (va_up f x9 (.inl (0, m11, .inl (upd g11 i11 0)))) l1 = .inr (11, fs15)) (h17 : l1 < n) (h19 : fs15[5]? = some (.ref x18)) (h21 : (va_up f x9 (.inl (0, m11, .inl (upd g11 i11 0)))) l1 = .inr (11, fs20)) (h22 : l1 < n) (h24 : fs20[0]? = some (.ref x23)) (h26 : (va_up f x9 (.inl (0, m11, .inl (upd g11 i11 0)))) x23 = .inr (2, fs25)) (h27 : x23 < n) (h29 : fs25[3]? = some (.ref x28)) (h31 : (va_up f x9 (.inl (0, m11, .inl (upd g11 i11 0)))) x28 = .inl (0, m30, .inl g30)) (h32 : x28 < n ∨ x28 = mi_SC) (h33 : mi_ix l3 m30 i30) (h35 : (va_up f x9 (.inl (0, m11, .inl (upd g11 i11 0)))) x18 = .inl (0, m34, .inl g34)) (h36 : x18 < n) (h37 : mi_ix l2 m34 i34) (h38 : ¬ l5 = 8 → mi_W d 127 146 [some (.ref l1), some (.int l2), some (.int l3), some (.ref l4), some (.int l5)] [] (n, sl, (va_up (va_up f x9 (.inl (0, m11, .inl (upd g11 i11 0)))) x18 (.inl (0, m34, .inl (upd g34 i34 (g30 i30)))))) Q) (h39 : ¬ (¬ l5 = 8) → mi_W d 127 121 [some (.ref l1), some (.int l2), some (.int l3), some (.ref l4), some (.int l5)] [] (n, sl, (va_up (va_up f x9 (.inl (0, m11, .inl (upd g11 i11 0)))) x18 (.inl (0, m34, .inl (upd g34 i34 (g30 i30)))))) Q) : mi_W d 127 92 [some (.ref l1), some (.int l2), some (.int l3), some (.ref l4), some (.int l5)] [] (n, sl, f) Q := by
  refine w_aload_n cd_127_92 rfl ?_
  refine w_getfield cd_127_93 (show mt_f 11 28 = some (11, 6) by decide +kernel) h7 h8 h10 ?_
  refine w_iload_n cd_127_96 rfl ?_
  refine w_iconst (v := 0) cd_127_97 (by decide) ?_
  refine w_iastore cd_127_98 h12 h13 h14 ?_
  refine w_aload_n cd_127_99 rfl ?_
  refine w_getfield cd_127_100 (show mt_f 11 24 = some (11, 5) by decide +kernel) h16 h17 h19 ?_
  refine w_iload_n cd_127_103 rfl ?_
  refine w_aload_n cd_127_104 rfl ?_
  refine w_getfield cd_127_105 (show mt_f 11 41 = some (11, 0) by decide +kernel) h21 h22 h24 ?_
  refine w_getfield cd_127_108 (show mt_f 11 142 = some (2, 3) by decide +kernel) h26 h27 h29 ?_
  refine w_iload_n cd_127_111 rfl ?_
  refine w_iaload cd_127_112 h31 h32 h33 ?_
  refine w_iastore cd_127_113 h35 h36 h37 ?_
  refine w_iload cd_127_114 rfl ?_
  refine w_bipush (v := 8) cd_127_116 (by decide) ?_
  exact w_if_icmpne cd_127_118 (by decide) h38 h39
theorem b_127_121 {d : Nat} {Q : (Option Value ⊕ Nat) → mi_H → Prop} (n sl : Nat) (f : Nat → mi_C) {l1 : Nat} {l2 : Int32} {l3 : Int32} {l4 : Nat} {l5 : Int32} {fs6 : List Value} {x9 : Nat} {fs11 : List Value} {x14 : Nat} {fs16 : List Value} {x19 : Nat} (m21 i21 : Nat) (g21 : Nat → Int32) {fs25 : List Value} (h7 : f l1 = .inr (11, fs6)) (h8 : l1 < n) (h10 : fs6[2]? = some (.ref x9)) (h12 : f l1 = .inr (11, fs11)) (h13 : l1 < n) (h15 : fs11[0]? = some (.ref x14)) (h17 : f x14 = .inr (2, fs16)) (h18 : x14 < n) (h20 : fs16[1]? = some (.ref x19)) (h22 : f x19 = .inl (0, m21, .inl g21)) (h23 : x19 < n ∨ x19 = mi_SC) (h24 : mi_ix l3 m21 i21) (h26 : f x9 = .inr (10, fs25)) (h27 : x9 < n) (h28 : mi_W d 87 0 (mi_en 5 [.ref x9, .int (g21 i21), .int 1]) [] (n, sl, f) (mi_Kc d 127 138 [some (.ref l1), some (.int l2), some (.int l3), some (.ref l4), some (.int l5)] [.int 1, .int l2, .ref l1] Q)) : mi_W (d + 1) 127 121 [some (.ref l1), some (.int l2), some (.int l3), some (.ref l4), some (.int l5)] [] (n, sl, f) Q := by
  refine w_aload_n cd_127_121 rfl ?_
  refine w_iload_n cd_127_122 rfl ?_
  refine w_iconst (v := 1) cd_127_123 (by decide) ?_
  refine w_aload_n cd_127_124 rfl ?_
  refine w_getfield cd_127_125 (show mt_f 11 60 = some (11, 2) by decide +kernel) h7 h8 h10 ?_
  refine w_aload_n cd_127_128 rfl ?_
  refine w_getfield cd_127_129 (show mt_f 11 41 = some (11, 0) by decide +kernel) h12 h13 h15 ?_
  refine w_getfield cd_127_132 (show mt_f 11 111 = some (2, 1) by decide +kernel) h17 h18 h20 ?_
  refine w_iload_n cd_127_135 rfl ?_
  refine w_iaload cd_127_136 h22 h23 h24 ?_
  refine w_iconst (v := 1) cd_127_137 (by decide) ?_
  exact w_invokevirtual cd_127_138 (show mt_m 11 145 = some (87, 0) by decide +kernel) (rest := [.int 1, .int l2, .ref l1]) rfl (as := [.ref x9, .int (g21 i21), .int 1]) rfl h26 (Or.inl h27) ⟨Nat.le_of_ble_eq_true rfl, Nat.le_of_ble_eq_true rfl, Nat.le_of_ble_eq_true rfl⟩ h28
theorem b_127_141 {d : Nat} {Q : (Option Value ⊕ Nat) → mi_H → Prop} (n sl : Nat) (f : Nat → mi_C) {l1 : Nat} {l2 : Int32} {l3 : Int32} {l4 : Nat} {l5 : Int32} {s6 : Int64} {s7 : Int32} {s8 : Int32} {s9 : Nat} {fs10 : List Value} (h11 : f s9 = .inr (11, fs10)) (h12 : s9 < n) (h13 : mi_W d 126 0 (mi_en 6 [.ref s9, .int s8, .int s7, .long s6, .int l3]) [] (n, sl, f) (mi_Kc d 127 142 [some (.ref l1), some (.int l2), some (.int l3), some (.ref l4), some (.int l5)] [] Q)) : mi_W (d + 1) 127 141 [some (.ref l1), some (.int l2), some (.int l3), some (.ref l4), some (.int l5)] [.long s6, .int s7, .int s8, .ref s9] (n, sl, f) Q := by
  refine w_iload_n cd_127_141 rfl ?_
  exact w_invokevirtual cd_127_142 (show mt_m 11 103 = some (126, 0) by decide +kernel) (rest := []) rfl (as := [.ref s9, .int s8, .int s7, .long s6, .int l3]) rfl h11 (Or.inl h12) ⟨Nat.le_of_ble_eq_true rfl, Nat.le_of_ble_eq_true rfl, Nat.le_of_ble_eq_true rfl⟩ h13
theorem b_127_145 {d : Nat} {Q : (Option Value ⊕ Nat) → mi_H → Prop} (n sl : Nat) (f : Nat → mi_C) {l1 : Nat} {l2 : Int32} {l3 : Int32} {l4 : Nat} {l5 : Int32} {s6 : Int32} (h7 : s6 = 0 ∨ s6 = 1) (h8 : Q (.inl (some (.int s6))) (n, sl, f)) : mi_W d 127 145 [some (.ref l1), some (.int l2), some (.int l3), some (.ref l4), some (.int l5)] [.int s6] (n, sl, f) Q := by
  exact w_ireturn_z cd_127_145 (by decide +kernel) h7 h8
theorem b_127_146 {d : Nat} {Q : (Option Value ⊕ Nat) → mi_H → Prop} (n sl : Nat) (f : Nat → mi_C) {l1 : Nat} {l2 : Int32} {l3 : Int32} {l4 : Nat} {l5 : Int32} (h6 : ¬ l5 = 10 → mi_W d 127 192 [some (.ref l1), some (.int l2), some (.int l3), some (.ref l4), some (.int l5)] [] (n, sl, f) Q) (h7 : ¬ (¬ l5 = 10) → mi_W d 127 153 [some (.ref l1), some (.int l2), some (.int l3), some (.ref l4), some (.int l5)] [] (n, sl, f) Q) : mi_W d 127 146 [some (.ref l1), some (.int l2), some (.int l3), some (.ref l4), some (.int l5)] [] (n, sl, f) Q := by
  refine w_iload cd_127_146 rfl ?_
  refine w_bipush (v := 10) cd_127_148 (by decide) ?_
  exact w_if_icmpne cd_127_150 (by decide) h6 h7
theorem b_127_153 {d : Nat} {Q : (Option Value ⊕ Nat) → mi_H → Prop} (n sl : Nat) (f : Nat → mi_C) {l1 : Nat} {l2 : Int32} {l3 : Int32} {l4 : Nat} {l5 : Int32} {fs6 : List Value} {x9 : Nat} {fs11 : List Value} {x14 : Nat} {fs16 : List Value} {x19 : Nat} (m21 i21 : Nat) (g21 : Nat → Int32) {fs25 : List Value} (h7 : f l1 = .inr (11, fs6)) (h8 : l1 < n) (h10 : fs6[2]? = some (.ref x9)) (h12 : f l1 = .inr (11, fs11)) (h13 : l1 < n) (h15 : fs11[0]? = some (.ref x14)) (h17 : f x14 = .inr (2, fs16)) (h18 : x14 < n) (h20 : fs16[1]? = some (.ref x19)) (h22 : f x19 = .inl (0, m21, .inl g21)) (h23 : x19 < n ∨ x19 = mi_SC) (h24 : mi_ix l3 m21 i21) (h26 : f x9 = .inr (10, fs25)) (h27 : x9 < n) (h28 : mi_W d 92 0 (mi_en 6 [.ref x9, .int (g21 i21), .int 1]) [] (n, sl, f) (mi_Kc d 127 167 [some (.ref l1), some (.int l2), some (.int l3), some (.ref l4), some (.int l5)] [] Q)) : mi_W (d + 1) 127 153 [some (.ref l1), some (.int l2), some (.int l3), some (.ref l4), some (.int l5)] [] (n, sl, f) Q := by
  refine w_aload_n cd_127_153 rfl ?_
  refine w_getfield cd_127_154 (show mt_f 11 60 = some (11, 2) by decide +kernel) h7 h8 h10 ?_
  refine w_aload_n cd_127_157 rfl ?_
  refine w_getfield cd_127_158 (show mt_f 11 41 = some (11, 0) by decide +kernel) h12 h13 h15 ?_
  refine w_getfield cd_127_161 (show mt_f 11 111 = some (2, 1) by decide +kernel) h17 h18 h20 ?_
  refine w_iload_n cd_127_164 rfl ?_
  refine w_iaload cd_127_165 h22 h23 h24 ?_
  refine w_iconst (v := 1) cd_127_166 (by decide) ?_
  exact w_invokevirtual cd_127_167 (show mt_m 11 148 = some (92, 0) by decide +kernel) (rest := []) rfl (as := [.ref x9, .int (g21 i21), .int 1]) rfl h26 (Or.inl h27) ⟨Nat.le_of_ble_eq_true rfl, Nat.le_of_ble_eq_true rfl, Nat.le_of_ble_eq_true rfl⟩ h28
theorem b_127_170 {d : Nat} {Q : (Option Value ⊕ Nat) → mi_H → Prop} (n sl : Nat) (f : Nat → mi_C) {l1 : Nat} {l2 : Int32} {l3 : Int32} {l4 : Nat} {l5 : Int32} {s6 : Int32} (h7 : ¬ s6 = (0 : Int32) → mi_W d 127 183 [some (.ref l1), some (.int l2), some (.int l3), some (.ref l4), some (.int l5)] [] (n, sl, f) Q) (h8 : ¬ (¬ s6 = (0 : Int32)) → mi_W d 127 173 [some (.ref l1), some (.int l2), some (.int l3), some (.ref l4), some (.int l5)] [] (n, sl, f) Q) : mi_W d 127 170 [some (.ref l1), some (.int l2), some (.int l3), some (.ref l4), some (.int l5)] [.int s6] (n, sl, f) Q := by
  exact w_ifne cd_127_170 (by decide) h7 h8
theorem b_127_173 {d : Nat} {Q : (Option Value ⊕ Nat) → mi_H → Prop} (n sl : Nat) (f : Nat → mi_C) {l1 : Nat} {l2 : Int32} {l3 : Int32} {l4 : Nat} {l5 : Int32} {fs6 : List Value} {x9 : Nat} {fs11 : List Value} {x14 : Int32} (h7 : f l1 = .inr (11, fs6)) (h8 : l1 < n) (h10 : fs6[2]? = some (.ref x9)) (h12 : f x9 = .inr (10, fs11)) (h13 : x9 < n) (h15 : fs11[4]? = some (.int x14)) (h16 : x14 = (0 : Int32) → mi_W d 127 192 [some (.ref l1), some (.int l2), some (.int l3), some (.ref l4), some (.int l5)] [] (n, sl, f) Q) (h17 : ¬ (x14 = (0 : Int32)) → mi_W d 127 183 [some (.ref l1), some (.int l2), some (.int l3), some (.ref l4), some (.int l5)] [] (n, sl, f) Q) : mi_W d 127 173 [some (.ref l1), some (.int l2), some (.int l3), some (.ref l4), some (.int l5)] [] (n, sl, f) Q := by
  refine w_aload_n cd_127_173 rfl ?_
  refine w_getfield cd_127_174 (show mt_f 11 60 = some (11, 2) by decide +kernel) h7 h8 h10 ?_
  refine w_getfield cd_127_177 (show mt_f 11 151 = some (10, 4) by decide +kernel) h12 h13 h15 ?_
  exact w_ifeq cd_127_180 (by decide) h16 h17
theorem b_127_183 {d : Nat} {Q : (Option Value ⊕ Nat) → mi_H → Prop} (n sl : Nat) (f : Nat → mi_C) {l1 : Nat} {l2 : Int32} {l3 : Int32} {l4 : Nat} {l5 : Int32} {fs6 : List Value} (h7 : f l1 = .inr (11, fs6)) (h8 : l1 < n) (h9 : mi_W d 126 0 (mi_en 6 [.ref l1, .int l2, .int 3, .long 0, .int l3]) [] (n, sl, f) (mi_Kc d 127 188 [some (.ref l1), some (.int l2), some (.int l3), some (.ref l4), some (.int l5)] [] Q)) : mi_W (d + 1) 127 183 [some (.ref l1), some (.int l2), some (.int l3), some (.ref l4), some (.int l5)] [] (n, sl, f) Q := by
  refine w_aload_n cd_127_183 rfl ?_
  refine w_iload_n cd_127_184 rfl ?_
  refine w_iconst (v := 3) cd_127_185 (by decide) ?_
  refine w_lconst (lv := 0) cd_127_186 (by decide) ?_
  refine w_iload_n cd_127_187 rfl ?_
  exact w_invokevirtual cd_127_188 (show mt_m 11 103 = some (126, 0) by decide +kernel) (rest := []) rfl (as := [.ref l1, .int l2, .int 3, .long 0, .int l3]) rfl h7 (Or.inl h8) ⟨Nat.le_of_ble_eq_true rfl, Nat.le_of_ble_eq_true rfl, Nat.le_of_ble_eq_true rfl⟩ h9
theorem b_127_191 {d : Nat} {Q : (Option Value ⊕ Nat) → mi_H → Prop} (n sl : Nat) (f : Nat → mi_C) {l1 : Nat} {l2 : Int32} {l3 : Int32} {l4 : Nat} {l5 : Int32} {s6 : Int32} (h7 : s6 = 0 ∨ s6 = 1) (h8 : Q (.inl (some (.int s6))) (n, sl, f)) : mi_W d 127 191 [some (.ref l1), some (.int l2), some (.int l3), some (.ref l4), some (.int l5)] [.int s6] (n, sl, f) Q := by
  exact w_ireturn_z cd_127_191 (by decide +kernel) h7 h8
theorem b_127_192 {d : Nat} {Q : (Option Value ⊕ Nat) → mi_H → Prop} (n sl : Nat) (f : Nat → mi_C) {l1 : Nat} {l2 : Int32} {l3 : Int32} {l4 : Nat} {l5 : Int32} (h6 : Q (.inl (some (.int 0))) (n, sl, f)) : mi_W d 127 192 [some (.ref l1), some (.int l2), some (.int l3), some (.ref l4), some (.int l5)] [] (n, sl, f) Q := by
  refine w_iconst (v := 0) cd_127_192 (by decide) ?_
  exact w_ireturn_z cd_127_193 (by decide +kernel) (by decide) h6
/-! MarloweHost$Tree.numberTried(II)J -/
set_option maxRecDepth 100000 in
theorem mq_128 : mt_q 128 = my_128 := rfl
set_option maxRecDepth 100000 in
theorem ci_128 : mt_inc 0 my_128.cd = true := by decide +kernel
theorem cd_128_0 : mt_cd 128 0 = some (.iload_n 2) := mt_cd_of (q := (0, .iload_n 2, 1)) mq_128 ci_128 (List.mem_of_getElem? (i := 0) rfl)
theorem cd_128_1 : mt_cd 128 1 = some (.i2l) := mt_cd_of (q := (1, .i2l, 1)) mq_128 ci_128 (List.mem_of_getElem? (i := 1) rfl)
theorem cd_128_2 : mt_cd 128 2 = some (.lstore_n 3) := mt_cd_of (q := (2, .lstore_n 3, 1)) mq_128 ci_128 (List.mem_of_getElem? (i := 2) rfl)
theorem cd_128_3 : mt_cd 128 3 = some (.aload_n 0) := mt_cd_of (q := (3, .aload_n 0, 1)) mq_128 ci_128 (List.mem_of_getElem? (i := 3) rfl)
theorem cd_128_4 : mt_cd 128 4 = some (.getfield 27) := mt_cd_of (q := (4, .getfield 27, 3)) mq_128 ci_128 (List.mem_of_getElem? (i := 4) rfl)
theorem cd_128_7 : mt_cd 128 7 = some (.iload_n 1) := mt_cd_of (q := (7, .iload_n 1, 1)) mq_128 ci_128 (List.mem_of_getElem? (i := 5) rfl)
theorem cd_128_8 : mt_cd 128 8 = some (.iaload) := mt_cd_of (q := (8, .iaload, 1)) mq_128 ci_128 (List.mem_of_getElem? (i := 6) rfl)
theorem cd_128_9 : mt_cd 128 9 = some (.istore 5) := mt_cd_of (q := (9, .istore 5, 2)) mq_128 ci_128 (List.mem_of_getElem? (i := 7) rfl)
theorem cd_128_11 : mt_cd 128 11 = some (.iload 5) := mt_cd_of (q := (11, .iload 5, 2)) mq_128 ci_128 (List.mem_of_getElem? (i := 8) rfl)
theorem cd_128_13 : mt_cd 128 13 = some (.ifCond .lt 65) := mt_cd_of (q := (13, .ifCond .lt 65, 3)) mq_128 ci_128 (List.mem_of_getElem? (i := 9) rfl)
theorem cd_128_16 : mt_cd 128 16 = some (.iload 5) := mt_cd_of (q := (16, .iload 5, 2)) mq_128 ci_128 (List.mem_of_getElem? (i := 10) rfl)
theorem cd_128_18 : mt_cd 128 18 = some (.iconst 1) := mt_cd_of (q := (18, .iconst 1, 1)) mq_128 ci_128 (List.mem_of_getElem? (i := 11) rfl)
theorem cd_128_19 : mt_cd 128 19 = some (.iadd) := mt_cd_of (q := (19, .iadd, 1)) mq_128 ci_128 (List.mem_of_getElem? (i := 12) rfl)
theorem cd_128_20 : mt_cd 128 20 = some (.aload_n 0) := mt_cd_of (q := (20, .aload_n 0, 1)) mq_128 ci_128 (List.mem_of_getElem? (i := 13) rfl)
theorem cd_128_21 : mt_cd 128 21 = some (.getfield 30) := mt_cd_of (q := (21, .getfield 30, 3)) mq_128 ci_128 (List.mem_of_getElem? (i := 14) rfl)
theorem cd_128_24 : mt_cd 128 24 = some (.iload_n 1) := mt_cd_of (q := (24, .iload_n 1, 1)) mq_128 ci_128 (List.mem_of_getElem? (i := 15) rfl)
theorem cd_128_25 : mt_cd 128 25 = some (.iaload) := mt_cd_of (q := (25, .iaload, 1)) mq_128 ci_128 (List.mem_of_getElem? (i := 16) rfl)
theorem cd_128_26 : mt_cd 128 26 = some (.if_icmp .ge 52) := mt_cd_of (q := (26, .if_icmp .ge 52, 3)) mq_128 ci_128 (List.mem_of_getElem? (i := 17) rfl)
theorem cd_128_29 : mt_cd 128 29 = some (.aload_n 0) := mt_cd_of (q := (29, .aload_n 0, 1)) mq_128 ci_128 (List.mem_of_getElem? (i := 18) rfl)
theorem cd_128_30 : mt_cd 128 30 = some (.getfield 44) := mt_cd_of (q := (30, .getfield 44, 3)) mq_128 ci_128 (List.mem_of_getElem? (i := 19) rfl)
theorem cd_128_33 : mt_cd 128 33 = some (.iload 5) := mt_cd_of (q := (33, .iload 5, 2)) mq_128 ci_128 (List.mem_of_getElem? (i := 20) rfl)
theorem cd_128_35 : mt_cd 128 35 = some (.iconst 1) := mt_cd_of (q := (35, .iconst 1, 1)) mq_128 ci_128 (List.mem_of_getElem? (i := 21) rfl)
theorem cd_128_36 : mt_cd 128 36 = some (.iadd) := mt_cd_of (q := (36, .iadd, 1)) mq_128 ci_128 (List.mem_of_getElem? (i := 22) rfl)
theorem cd_128_37 : mt_cd 128 37 = some (.laload) := mt_cd_of (q := (37, .laload, 1)) mq_128 ci_128 (List.mem_of_getElem? (i := 23) rfl)
theorem cd_128_38 : mt_cd 128 38 = some (.aload_n 0) := mt_cd_of (q := (38, .aload_n 0, 1)) mq_128 ci_128 (List.mem_of_getElem? (i := 24) rfl)
theorem cd_128_39 : mt_cd 128 39 = some (.getfield 44) := mt_cd_of (q := (39, .getfield 44, 3)) mq_128 ci_128 (List.mem_of_getElem? (i := 25) rfl)
theorem cd_128_42 : mt_cd 128 42 = some (.iload 5) := mt_cd_of (q := (42, .iload 5, 2)) mq_128 ci_128 (List.mem_of_getElem? (i := 26) rfl)
theorem cd_128_44 : mt_cd 128 44 = some (.laload) := mt_cd_of (q := (44, .laload, 1)) mq_128 ci_128 (List.mem_of_getElem? (i := 27) rfl)
theorem cd_128_45 : mt_cd 128 45 = some (.lsub) := mt_cd_of (q := (45, .lsub, 1)) mq_128 ci_128 (List.mem_of_getElem? (i := 28) rfl)
theorem cd_128_46 : mt_cd 128 46 = some (.lconst 1) := mt_cd_of (q := (46, .lconst 1, 1)) mq_128 ci_128 (List.mem_of_getElem? (i := 29) rfl)
theorem cd_128_47 : mt_cd 128 47 = some (.ladd) := mt_cd_of (q := (47, .ladd, 1)) mq_128 ci_128 (List.mem_of_getElem? (i := 30) rfl)
theorem cd_128_48 : mt_cd 128 48 = some (.lstore 6) := mt_cd_of (q := (48, .lstore 6, 2)) mq_128 ci_128 (List.mem_of_getElem? (i := 31) rfl)
theorem cd_128_50 : mt_cd 128 50 = some (.lload_n 3) := mt_cd_of (q := (50, .lload_n 3, 1)) mq_128 ci_128 (List.mem_of_getElem? (i := 32) rfl)
theorem cd_128_51 : mt_cd 128 51 = some (.lload 6) := mt_cd_of (q := (51, .lload 6, 2)) mq_128 ci_128 (List.mem_of_getElem? (i := 33) rfl)
theorem cd_128_53 : mt_cd 128 53 = some (.lcmp) := mt_cd_of (q := (53, .lcmp, 1)) mq_128 ci_128 (List.mem_of_getElem? (i := 34) rfl)
theorem cd_128_54 : mt_cd 128 54 = some (.ifCond .ge 13) := mt_cd_of (q := (54, .ifCond .ge 13, 3)) mq_128 ci_128 (List.mem_of_getElem? (i := 35) rfl)
theorem cd_128_57 : mt_cd 128 57 = some (.aload_n 0) := mt_cd_of (q := (57, .aload_n 0, 1)) mq_128 ci_128 (List.mem_of_getElem? (i := 36) rfl)
theorem cd_128_58 : mt_cd 128 58 = some (.getfield 44) := mt_cd_of (q := (58, .getfield 44, 3)) mq_128 ci_128 (List.mem_of_getElem? (i := 37) rfl)
theorem cd_128_61 : mt_cd 128 61 = some (.iload 5) := mt_cd_of (q := (61, .iload 5, 2)) mq_128 ci_128 (List.mem_of_getElem? (i := 38) rfl)
theorem cd_128_63 : mt_cd 128 63 = some (.laload) := mt_cd_of (q := (63, .laload, 1)) mq_128 ci_128 (List.mem_of_getElem? (i := 39) rfl)
theorem cd_128_64 : mt_cd 128 64 = some (.lload_n 3) := mt_cd_of (q := (64, .lload_n 3, 1)) mq_128 ci_128 (List.mem_of_getElem? (i := 40) rfl)
theorem cd_128_65 : mt_cd 128 65 = some (.ladd) := mt_cd_of (q := (65, .ladd, 1)) mq_128 ci_128 (List.mem_of_getElem? (i := 41) rfl)
theorem cd_128_66 : mt_cd 128 66 = some (.lreturn) := mt_cd_of (q := (66, .lreturn, 1)) mq_128 ci_128 (List.mem_of_getElem? (i := 42) rfl)
theorem cd_128_67 : mt_cd 128 67 = some (.lload_n 3) := mt_cd_of (q := (67, .lload_n 3, 1)) mq_128 ci_128 (List.mem_of_getElem? (i := 43) rfl)
theorem cd_128_68 : mt_cd 128 68 = some (.lload 6) := mt_cd_of (q := (68, .lload 6, 2)) mq_128 ci_128 (List.mem_of_getElem? (i := 44) rfl)
theorem cd_128_70 : mt_cd 128 70 = some (.lsub) := mt_cd_of (q := (70, .lsub, 1)) mq_128 ci_128 (List.mem_of_getElem? (i := 45) rfl)
theorem cd_128_71 : mt_cd 128 71 = some (.lstore_n 3) := mt_cd_of (q := (71, .lstore_n 3, 1)) mq_128 ci_128 (List.mem_of_getElem? (i := 46) rfl)
theorem cd_128_72 : mt_cd 128 72 = some (.iinc 5 2) := mt_cd_of (q := (72, .iinc 5 2, 3)) mq_128 ci_128 (List.mem_of_getElem? (i := 47) rfl)
theorem cd_128_75 : mt_cd 128 75 = some (.goto (-64)) := mt_cd_of (q := (75, .goto (-64), 3)) mq_128 ci_128 (List.mem_of_getElem? (i := 48) rfl)
theorem cd_128_78 : mt_cd 128 78 = some (.lconst 0) := mt_cd_of (q := (78, .lconst 0, 1)) mq_128 ci_128 (List.mem_of_getElem? (i := 49) rfl)
theorem cd_128_79 : mt_cd 128 79 = some (.lreturn) := mt_cd_of (q := (79, .lreturn, 1)) mq_128 ci_128 (List.mem_of_getElem? (i := 50) rfl)
theorem b_128_0 {d : Nat} {Q : (Option Value ⊕ Nat) → mi_H → Prop} (n sl : Nat) (f : Nat → mi_C) {l1 : Nat} {l2 : Int32} {l3 : Int32} {o4 : Option Value} {o5 : Option Value} {o6 : Option Value} {o7 : Option Value} {o8 : Option Value} {fs9 : List Value} {x12 : Nat} (m14 i14 : Nat) (g14 : Nat → Int32) (h10 : f l1 = .inr (2, fs9)) (h11 : l1 < n) (h13 : fs9[5]? = some (.ref x12)) (h15 : f x12 = .inl (0, m14, .inl g14)) (h16 : x12 < n ∨ x12 = mi_SC) (h17 : mi_ix l2 m14 i14) (h18 : mi_W d 128 11 [some (.ref l1), some (.int l2), some (.int l3), some (.long ((l3 : Int32).toInt64)), none, some (.int (g14 i14)), o7, o8] [] (n, sl, f) Q) : mi_W d 128 0 [some (.ref l1), some (.int l2), some (.int l3), o4, o5, o6, o7, o8] [] (n, sl, f) Q := by
  refine w_iload_n cd_128_0 rfl ?_
  refine w_i2l cd_128_1 ?_
  refine w_lstore_n (ls' := [some (.ref l1), some (.int l2), some (.int l3), some (.long ((l3 : Int32).toInt64)), none, o6, o7, o8]) cd_128_2 (Nat.le_of_ble_eq_true rfl) rfl ?_
  refine w_aload_n cd_128_3 rfl ?_
  refine w_getfield cd_128_4 (show mt_f 2 27 = some (2, 5) by decide +kernel) h10 h11 h13 ?_
  refine w_iload_n cd_128_7 rfl ?_
  refine w_iaload cd_128_8 h15 h16 h17 ?_
  refine w_istore (ls' := [some (.ref l1), some (.int l2), some (.int l3), some (.long ((l3 : Int32).toInt64)), none, some (.int (g14 i14)), o7, o8]) cd_128_9 (Nat.le_of_ble_eq_true rfl) rfl ?_
  exact h18
theorem b_128_11 {d : Nat} {Q : (Option Value ⊕ Nat) → mi_H → Prop} (n sl : Nat) (f : Nat → mi_C) {l1 : Nat} {l2 : Int32} {l3 : Int32} {l4 : Int64} {l5 : Int32} {o6 : Option Value} {o7 : Option Value} (h8 : l5 < (0 : Int32) → mi_W d 128 78 [some (.ref l1), some (.int l2), some (.int l3), some (.long l4), none, some (.int l5), o6, o7] [] (n, sl, f) Q) (h9 : ¬ (l5 < (0 : Int32)) → mi_W d 128 16 [some (.ref l1), some (.int l2), some (.int l3), some (.long l4), none, some (.int l5), o6, o7] [] (n, sl, f) Q) : mi_W d 128 11 [some (.ref l1), some (.int l2), some (.int l3), some (.long l4), none, some (.int l5), o6, o7] [] (n, sl, f) Q := by
  refine w_iload cd_128_11 rfl ?_
  exact w_iflt cd_128_13 (by decide) h8 h9
theorem b_128_16 {d : Nat} {Q : (Option Value ⊕ Nat) → mi_H → Prop} (n sl : Nat) (f : Nat → mi_C) {l1 : Nat} {l2 : Int32} {l3 : Int32} {l4 : Int64} {l5 : Int32} {o6 : Option Value} {o7 : Option Value} {fs8 : List Value} {x11 : Nat} (m13 i13 : Nat) (g13 : Nat → Int32) (h9 : f l1 = .inr (2, fs8)) (h10 : l1 < n) (h12 : fs8[6]? = some (.ref x11)) (h14 : f x11 = .inl (0, m13, .inl g13)) (h15 : x11 < n ∨ x11 = mi_SC) (h16 : mi_ix l2 m13 i13) (h17 : (g13 i13) ≤ (l5 + 1) → mi_W d 128 78 [some (.ref l1), some (.int l2), some (.int l3), some (.long l4), none, some (.int l5), o6, o7] [] (n, sl, f) Q) (h18 : ¬ ((g13 i13) ≤ (l5 + 1)) → mi_W d 128 29 [some (.ref l1), some (.int l2), some (.int l3), some (.long l4), none, some (.int l5), o6, o7] [] (n, sl, f) Q) : mi_W d 128 16 [some (.ref l1), some (.int l2), some (.int l3), some (.long l4), none, some (.int l5), o6, o7] [] (n, sl, f) Q := by
  refine w_iload cd_128_16 rfl ?_
  refine w_iconst (v := 1) cd_128_18 (by decide) ?_
  refine w_iadd cd_128_19 ?_
  refine w_aload_n cd_128_20 rfl ?_
  refine w_getfield cd_128_21 (show mt_f 2 30 = some (2, 6) by decide +kernel) h9 h10 h12 ?_
  refine w_iload_n cd_128_24 rfl ?_
  refine w_iaload cd_128_25 h14 h15 h16 ?_
  exact w_if_icmpge cd_128_26 (by decide) h17 h18
theorem b_128_29 {d : Nat} {Q : (Option Value ⊕ Nat) → mi_H → Prop} (n sl : Nat) (f : Nat → mi_C) {l1 : Nat} {l2 : Int32} {l3 : Int32} {l4 : Int64} {l5 : Int32} {o6 : Option Value} {o7 : Option Value} {fs8 : List Value} {x11 : Nat} (m13 i13 : Nat) (g13 : Nat → Int64) {fs17 : List Value} {x20 : Nat} (m22 i22 : Nat) (g22 : Nat → Int64) (h9 : f l1 = .inr (2, fs8)) (h10 : l1 < n) (h12 : fs8[10]? = some (.ref x11)) (h14 : f x11 = .inl (3, m13, .inr (.inl g13))) (h15 : x11 < n) (h16 : mi_ix (l5 + 1) m13 i13) (h18 : f l1 = .inr (2, fs17)) (h19 : l1 < n) (h21 : fs17[10]? = some (.ref x20)) (h23 : f x20 = .inl (3, m22, .inr (.inl g22))) (h24 : x20 < n) (h25 : mi_ix l5 m22 i22) (h26 : (0 : Int32) ≤ (lg_cmp l4 (((g13 i13) - (g22 i22)) + 1)) → mi_W d 128 67 [some (.ref l1), some (.int l2), some (.int l3), some (.long l4), none, some (.int l5), some (.long (((g13 i13) - (g22 i22)) + 1)), none] [] (n, sl, f) Q) (h27 : ¬ ((0 : Int32) ≤ (lg_cmp l4 (((g13 i13) - (g22 i22)) + 1))) → mi_W d 128 57 [some (.ref l1), some (.int l2), some (.int l3), some (.long l4), none, some (.int l5), some (.long (((g13 i13) - (g22 i22)) + 1)), none] [] (n, sl, f) Q) : mi_W d 128 29 [some (.ref l1), some (.int l2), some (.int l3), some (.long l4), none, some (.int l5), o6, o7] [] (n, sl, f) Q := by
  refine w_aload_n cd_128_29 rfl ?_
  refine w_getfield cd_128_30 (show mt_f 2 44 = some (2, 10) by decide +kernel) h9 h10 h12 ?_
  refine w_iload cd_128_33 rfl ?_
  refine w_iconst (v := 1) cd_128_35 (by decide) ?_
  refine w_iadd cd_128_36 ?_
  refine w_laload cd_128_37 h14 h15 h16 ?_
  refine w_aload_n cd_128_38 rfl ?_
  refine w_getfield cd_128_39 (show mt_f 2 44 = some (2, 10) by decide +kernel) h18 h19 h21 ?_
  refine w_iload cd_128_42 rfl ?_
  refine w_laload cd_128_44 h23 h24 h25 ?_
  refine w_lsub cd_128_45 ?_
  refine w_lconst (lv := 1) cd_128_46 (by decide) ?_
  refine w_ladd cd_128_47 ?_
  refine w_lstore (ls' := [some (.ref l1), some (.int l2), some (.int l3), some (.long l4), none, some (.int l5), some (.long (((g13 i13) - (g22 i22)) + 1)), none]) cd_128_48 (Nat.le_of_ble_eq_true rfl) rfl ?_
  refine w_lload_n cd_128_50 rfl ?_
  refine w_lload cd_128_51 rfl ?_
  refine w_lcmp cd_128_53 ?_
  exact w_ifge cd_128_54 (by decide) h26 h27
theorem b_128_57 {d : Nat} {Q : (Option Value ⊕ Nat) → mi_H → Prop} (n sl : Nat) (f : Nat → mi_C) {l1 : Nat} {l2 : Int32} {l3 : Int32} {l4 : Int64} {l5 : Int32} {l6 : Int64} {fs7 : List Value} {x10 : Nat} (m12 i12 : Nat) (g12 : Nat → Int64) (h8 : f l1 = .inr (2, fs7)) (h9 : l1 < n) (h11 : fs7[10]? = some (.ref x10)) (h13 : f x10 = .inl (3, m12, .inr (.inl g12))) (h14 : x10 < n) (h15 : mi_ix l5 m12 i12) (h16 : Q (.inl (some (.long ((g12 i12) + l4)))) (n, sl, f)) : mi_W d 128 57 [some (.ref l1), some (.int l2), some (.int l3), some (.long l4), none, some (.int l5), some (.long l6), none] [] (n, sl, f) Q := by
  refine w_aload_n cd_128_57 rfl ?_
  refine w_getfield cd_128_58 (show mt_f 2 44 = some (2, 10) by decide +kernel) h8 h9 h11 ?_
  refine w_iload cd_128_61 rfl ?_
  refine w_laload cd_128_63 h13 h14 h15 ?_
  refine w_lload_n cd_128_64 rfl ?_
  refine w_ladd cd_128_65 ?_
  exact w_lreturn cd_128_66 (by decide +kernel) h16
theorem b_128_67 {d : Nat} {Q : (Option Value ⊕ Nat) → mi_H → Prop} (n sl : Nat) (f : Nat → mi_C) {l1 : Nat} {l2 : Int32} {l3 : Int32} {l4 : Int64} {l5 : Int32} {l6 : Int64} (h7 : mi_W d 128 11 [some (.ref l1), some (.int l2), some (.int l3), some (.long (l4 - l6)), none, some (.int (l5 + 2)), some (.long l6), none] [] (n, sl, f) Q) : mi_W d 128 67 [some (.ref l1), some (.int l2), some (.int l3), some (.long l4), none, some (.int l5), some (.long l6), none] [] (n, sl, f) Q := by
  refine w_lload_n cd_128_67 rfl ?_
  refine w_lload cd_128_68 rfl ?_
  refine w_lsub cd_128_70 ?_
  refine w_lstore_n (ls' := [some (.ref l1), some (.int l2), some (.int l3), some (.long (l4 - l6)), none, some (.int l5), some (.long l6), none]) cd_128_71 (Nat.le_of_ble_eq_true rfl) rfl ?_
  refine w_iinc (v := 2) (ls' := [some (.ref l1), some (.int l2), some (.int l3), some (.long (l4 - l6)), none, some (.int (l5 + 2)), some (.long l6), none]) cd_128_72 rfl (by decide) rfl ?_
  exact w_goto cd_128_75 (by decide) h7
theorem b_128_78 {d : Nat} {Q : (Option Value ⊕ Nat) → mi_H → Prop} (n sl : Nat) (f : Nat → mi_C) {l1 : Nat} {l2 : Int32} {l3 : Int32} {l4 : Int64} {l5 : Int32} {o6 : Option Value} {o7 : Option Value} (h8 : Q (.inl (some (.long 0))) (n, sl, f)) : mi_W d 128 78 [some (.ref l1), some (.int l2), some (.int l3), some (.long l4), none, some (.int l5), o6, o7] [] (n, sl, f) Q := by
  refine w_lconst (lv := 0) cd_128_78 (by decide) ?_
  exact w_lreturn cd_128_79 (by decide +kernel) h8
/-! MarloweHost$Analyser.takeStep(I)Z -/
set_option maxRecDepth 100000 in
theorem mq_129 : mt_q 129 = my_129 := rfl
set_option maxRecDepth 100000 in
theorem ci_129 : mt_inc 0 my_129.cd = true := by decide +kernel
theorem cd_129_0 : mt_cd 129 0 = some (.aload_n 0) := mt_cd_of (q := (0, .aload_n 0, 1)) mq_129 ci_129 (List.mem_of_getElem? (i := 0) rfl)
theorem cd_129_1 : mt_cd 129 1 = some (.getfield 31) := mt_cd_of (q := (1, .getfield 31, 3)) mq_129 ci_129 (List.mem_of_getElem? (i := 1) rfl)
theorem cd_129_4 : mt_cd 129 4 = some (.iload_n 1) := mt_cd_of (q := (4, .iload_n 1, 1)) mq_129 ci_129 (List.mem_of_getElem? (i := 2) rfl)
theorem cd_129_5 : mt_cd 129 5 = some (.iaload) := mt_cd_of (q := (5, .iaload, 1)) mq_129 ci_129 (List.mem_of_getElem? (i := 3) rfl)
theorem cd_129_6 : mt_cd 129 6 = some (.istore_n 2) := mt_cd_of (q := (6, .istore_n 2, 1)) mq_129 ci_129 (List.mem_of_getElem? (i := 4) rfl)
theorem cd_129_7 : mt_cd 129 7 = some (.iload_n 2) := mt_cd_of (q := (7, .iload_n 2, 1)) mq_129 ci_129 (List.mem_of_getElem? (i := 5) rfl)
theorem cd_129_8 : mt_cd 129 8 = some (.iconst 1) := mt_cd_of (q := (8, .iconst 1, 1)) mq_129 ci_129 (List.mem_of_getElem? (i := 6) rfl)
theorem cd_129_9 : mt_cd 129 9 = some (.if_icmp .ne 15) := mt_cd_of (q := (9, .if_icmp .ne 15, 3)) mq_129 ci_129 (List.mem_of_getElem? (i := 7) rfl)
theorem cd_129_12 : mt_cd 129 12 = some (.aload_n 0) := mt_cd_of (q := (12, .aload_n 0, 1)) mq_129 ci_129 (List.mem_of_getElem? (i := 8) rfl)
theorem cd_129_13 : mt_cd 129 13 = some (.getfield 60) := mt_cd_of (q := (13, .getfield 60, 3)) mq_129 ci_129 (List.mem_of_getElem? (i := 9) rfl)
theorem cd_129_16 : mt_cd 129 16 = some (.getfield 151) := mt_cd_of (q := (16, .getfield 151, 3)) mq_129 ci_129 (List.mem_of_getElem? (i := 10) rfl)
theorem cd_129_19 : mt_cd 129 19 = some (.ifCond .eq 5) := mt_cd_of (q := (19, .ifCond .eq 5, 3)) mq_129 ci_129 (List.mem_of_getElem? (i := 11) rfl)
theorem cd_129_22 : mt_cd 129 22 = some (.iconst 0) := mt_cd_of (q := (22, .iconst 0, 1)) mq_129 ci_129 (List.mem_of_getElem? (i := 12) rfl)
theorem cd_129_23 : mt_cd 129 23 = some (.ireturn) := mt_cd_of (q := (23, .ireturn, 1)) mq_129 ci_129 (List.mem_of_getElem? (i := 13) rfl)
theorem cd_129_24 : mt_cd 129 24 = some (.aload_n 0) := mt_cd_of (q := (24, .aload_n 0, 1)) mq_129 ci_129 (List.mem_of_getElem? (i := 14) rfl)
theorem cd_129_25 : mt_cd 129 25 = some (.getfield 20) := mt_cd_of (q := (25, .getfield 20, 3)) mq_129 ci_129 (List.mem_of_getElem? (i := 15) rfl)
theorem cd_129_28 : mt_cd 129 28 = some (.iload_n 1) := mt_cd_of (q := (28, .iload_n 1, 1)) mq_129 ci_129 (List.mem_of_getElem? (i := 16) rfl)
theorem cd_129_29 : mt_cd 129 29 = some (.iconst 1) := mt_cd_of (q := (29, .iconst 1, 1)) mq_129 ci_129 (List.mem_of_getElem? (i := 17) rfl)
theorem cd_129_30 : mt_cd 129 30 = some (.iadd) := mt_cd_of (q := (30, .iadd, 1)) mq_129 ci_129 (List.mem_of_getElem? (i := 18) rfl)
theorem cd_129_31 : mt_cd 129 31 = some (.aaload) := mt_cd_of (q := (31, .aaload, 1)) mq_129 ci_129 (List.mem_of_getElem? (i := 19) rfl)
theorem cd_129_32 : mt_cd 129 32 = some (.astore_n 3) := mt_cd_of (q := (32, .astore_n 3, 1)) mq_129 ci_129 (List.mem_of_getElem? (i := 20) rfl)
theorem cd_129_33 : mt_cd 129 33 = some (.aload_n 3) := mt_cd_of (q := (33, .aload_n 3, 1)) mq_129 ci_129 (List.mem_of_getElem? (i := 21) rfl)
theorem cd_129_34 : mt_cd 129 34 = some (.aload_n 0) := mt_cd_of (q := (34, .aload_n 0, 1)) mq_129 ci_129 (List.mem_of_getElem? (i := 22) rfl)
theorem cd_129_35 : mt_cd 129 35 = some (.getfield 20) := mt_cd_of (q := (35, .getfield 20, 3)) mq_129 ci_129 (List.mem_of_getElem? (i := 23) rfl)
theorem cd_129_38 : mt_cd 129 38 = some (.iload_n 1) := mt_cd_of (q := (38, .iload_n 1, 1)) mq_129 ci_129 (List.mem_of_getElem? (i := 24) rfl)
theorem cd_129_39 : mt_cd 129 39 = some (.aaload) := mt_cd_of (q := (39, .aaload, 1)) mq_129 ci_129 (List.mem_of_getElem? (i := 25) rfl)
theorem cd_129_40 : mt_cd 129 40 = some (.invokevirtual 80) := mt_cd_of (q := (40, .invokevirtual 80, 3)) mq_129 ci_129 (List.mem_of_getElem? (i := 26) rfl)
theorem cd_129_43 : mt_cd 129 43 = some (.iload_n 2) := mt_cd_of (q := (43, .iload_n 2, 1)) mq_129 ci_129 (List.mem_of_getElem? (i := 27) rfl)
theorem cd_129_44 : mt_cd 129 44 = some (.iconst 4) := mt_cd_of (q := (44, .iconst 4, 1)) mq_129 ci_129 (List.mem_of_getElem? (i := 28) rfl)
theorem cd_129_45 : mt_cd 129 45 = some (.if_icmp .ne 12) := mt_cd_of (q := (45, .if_icmp .ne 12, 3)) mq_129 ci_129 (List.mem_of_getElem? (i := 29) rfl)
theorem cd_129_48 : mt_cd 129 48 = some (.aload_n 0) := mt_cd_of (q := (48, .aload_n 0, 1)) mq_129 ci_129 (List.mem_of_getElem? (i := 30) rfl)
theorem cd_129_49 : mt_cd 129 49 = some (.getfield 34) := mt_cd_of (q := (49, .getfield 34, 3)) mq_129 ci_129 (List.mem_of_getElem? (i := 31) rfl)
theorem cd_129_52 : mt_cd 129 52 = some (.iload_n 1) := mt_cd_of (q := (52, .iload_n 1, 1)) mq_129 ci_129 (List.mem_of_getElem? (i := 32) rfl)
theorem cd_129_53 : mt_cd 129 53 = some (.laload) := mt_cd_of (q := (53, .laload, 1)) mq_129 ci_129 (List.mem_of_getElem? (i := 33) rfl)
theorem cd_129_54 : mt_cd 129 54 = some (.goto 7) := mt_cd_of (q := (54, .goto 7, 3)) mq_129 ci_129 (List.mem_of_getElem? (i := 34) rfl)
theorem cd_129_57 : mt_cd 129 57 = some (.aload_n 3) := mt_cd_of (q := (57, .aload_n 3, 1)) mq_129 ci_129 (List.mem_of_getElem? (i := 35) rfl)
theorem cd_129_58 : mt_cd 129 58 = some (.getfield 124) := mt_cd_of (q := (58, .getfield 124, 3)) mq_129 ci_129 (List.mem_of_getElem? (i := 36) rfl)
theorem cd_129_61 : mt_cd 129 61 = some (.lstore 4) := mt_cd_of (q := (61, .lstore 4, 2)) mq_129 ci_129 (List.mem_of_getElem? (i := 37) rfl)
theorem cd_129_63 : mt_cd 129 63 = some (.aload_n 0) := mt_cd_of (q := (63, .aload_n 0, 1)) mq_129 ci_129 (List.mem_of_getElem? (i := 38) rfl)
theorem cd_129_64 : mt_cd 129 64 = some (.aload_n 0) := mt_cd_of (q := (64, .aload_n 0, 1)) mq_129 ci_129 (List.mem_of_getElem? (i := 39) rfl)
theorem cd_129_65 : mt_cd 129 65 = some (.getfield 38) := mt_cd_of (q := (65, .getfield 38, 3)) mq_129 ci_129 (List.mem_of_getElem? (i := 40) rfl)
theorem cd_129_68 : mt_cd 129 68 = some (.iload_n 1) := mt_cd_of (q := (68, .iload_n 1, 1)) mq_129 ci_129 (List.mem_of_getElem? (i := 41) rfl)
theorem cd_129_69 : mt_cd 129 69 = some (.iaload) := mt_cd_of (q := (69, .iaload, 1)) mq_129 ci_129 (List.mem_of_getElem? (i := 42) rfl)
theorem cd_129_70 : mt_cd 129 70 = some (.aload_n 0) := mt_cd_of (q := (70, .aload_n 0, 1)) mq_129 ci_129 (List.mem_of_getElem? (i := 43) rfl)
theorem cd_129_71 : mt_cd 129 71 = some (.getfield 34) := mt_cd_of (q := (71, .getfield 34, 3)) mq_129 ci_129 (List.mem_of_getElem? (i := 44) rfl)
theorem cd_129_74 : mt_cd 129 74 = some (.iload_n 1) := mt_cd_of (q := (74, .iload_n 1, 1)) mq_129 ci_129 (List.mem_of_getElem? (i := 45) rfl)
theorem cd_129_75 : mt_cd 129 75 = some (.laload) := mt_cd_of (q := (75, .laload, 1)) mq_129 ci_129 (List.mem_of_getElem? (i := 46) rfl)
theorem cd_129_76 : mt_cd 129 76 = some (.invokevirtual 155) := mt_cd_of (q := (76, .invokevirtual 155, 3)) mq_129 ci_129 (List.mem_of_getElem? (i := 47) rfl)
theorem cd_129_79 : mt_cd 129 79 = some (.aload_n 0) := mt_cd_of (q := (79, .aload_n 0, 1)) mq_129 ci_129 (List.mem_of_getElem? (i := 48) rfl)
theorem cd_129_80 : mt_cd 129 80 = some (.getfield 50) := mt_cd_of (q := (80, .getfield 50, 3)) mq_129 ci_129 (List.mem_of_getElem? (i := 49) rfl)
theorem cd_129_83 : mt_cd 129 83 = some (.aload_n 3) := mt_cd_of (q := (83, .aload_n 3, 1)) mq_129 ci_129 (List.mem_of_getElem? (i := 50) rfl)
theorem cd_129_84 : mt_cd 129 84 = some (.aload_n 0) := mt_cd_of (q := (84, .aload_n 0, 1)) mq_129 ci_129 (List.mem_of_getElem? (i := 51) rfl)
theorem cd_129_85 : mt_cd 129 85 = some (.getfield 12) := mt_cd_of (q := (85, .getfield 12, 3)) mq_129 ci_129 (List.mem_of_getElem? (i := 52) rfl)
theorem cd_129_88 : mt_cd 129 88 = some (.lload 4) := mt_cd_of (q := (88, .lload 4, 2)) mq_129 ci_129 (List.mem_of_getElem? (i := 53) rfl)
theorem cd_129_90 : mt_cd 129 90 = some (.lload 4) := mt_cd_of (q := (90, .lload 4, 2)) mq_129 ci_129 (List.mem_of_getElem? (i := 54) rfl)
theorem cd_129_92 : mt_cd 129 92 = some (.invokevirtual 159) := mt_cd_of (q := (92, .invokevirtual 159, 3)) mq_129 ci_129 (List.mem_of_getElem? (i := 55) rfl)
theorem cd_129_95 : mt_cd 129 95 = some (.ifCond .ne 7) := mt_cd_of (q := (95, .ifCond .ne 7, 3)) mq_129 ci_129 (List.mem_of_getElem? (i := 56) rfl)
theorem cd_129_98 : mt_cd 129 98 = some (.iconst 1) := mt_cd_of (q := (98, .iconst 1, 1)) mq_129 ci_129 (List.mem_of_getElem? (i := 57) rfl)
theorem cd_129_99 : mt_cd 129 99 = some (.goto 4) := mt_cd_of (q := (99, .goto 4, 3)) mq_129 ci_129 (List.mem_of_getElem? (i := 58) rfl)
theorem cd_129_102 : mt_cd 129 102 = some (.iconst 0) := mt_cd_of (q := (102, .iconst 0, 1)) mq_129 ci_129 (List.mem_of_getElem? (i := 59) rfl)
theorem cd_129_103 : mt_cd 129 103 = some (.ireturn) := mt_cd_of (q := (103, .ireturn, 1)) mq_129 ci_129 (List.mem_of_getElem? (i := 60) rfl)
theorem b_129_0 {d : Nat} {Q : (Option Value ⊕ Nat) → mi_H → Prop} (n sl : Nat) (f : Nat → mi_C) {l1 : Nat} {l2 : Int32} {o3 : Option Value} {o4 : Option Value} {o5 : Option Value} {o6 : Option Value} {fs7 : List Value} {x10 : Nat} (m12 i12 : Nat) (g12 : Nat → Int32) (h8 : f l1 = .inr (11, fs7)) (h9 : l1 < n) (h11 : fs7[7]? = some (.ref x10)) (h13 : f x10 = .inl (0, m12, .inl g12)) (h14 : x10 < n ∨ x10 = mi_SC) (h15 : mi_ix l2 m12 i12) (h16 : ¬ (g12 i12) = 1 → mi_W d 129 24 [some (.ref l1), some (.int l2), some (.int (g12 i12)), o4, o5, o6] [] (n, sl, f) Q) (h17 : ¬ (¬ (g12 i12) = 1) → mi_W d 129 12 [some (.ref l1), some (.int l2), some (.int (g12 i12)), o4, o5, o6] [] (n, sl, f) Q) : mi_W d 129 0 [some (.ref l1), some (.int l2), o3, o4, o5, o6] [] (n, sl, f) Q := by
  refine w_aload_n cd_129_0 rfl ?_
  refine w_getfield cd_129_1 (show mt_f 11 31 = some (11, 7) by decide +kernel) h8 h9 h11 ?_
  refine w_iload_n cd_129_4 rfl ?_
  refine w_iaload cd_129_5 h13 h14 h15 ?_
  refine w_istore_n (ls' := [some (.ref l1), some (.int l2), some (.int (g12 i12)), o4, o5, o6]) cd_129_6 (Nat.le_of_ble_eq_true rfl) rfl ?_
  refine w_iload_n cd_129_7 rfl ?_
  refine w_iconst (v := 1) cd_129_8 (by decide) ?_
  exact w_if_icmpne cd_129_9 (by decide) h16 h17
theorem b_129_12 {d : Nat} {Q : (Option Value ⊕ Nat) → mi_H → Prop} (n sl : Nat) (f : Nat → mi_C) {l1 : Nat} {l2 : Int32} {l3 : Int32} {o4 : Option Value} {o5 : Option Value} {o6 : Option Value} {fs7 : List Value} {x10 : Nat} {fs12 : List Value} {x15 : Int32} (h8 : f l1 = .inr (11, fs7)) (h9 : l1 < n) (h11 : fs7[2]? = some (.ref x10)) (h13 : f x10 = .inr (10, fs12)) (h14 : x10 < n) (h16 : fs12[4]? = some (.int x15)) (h17 : x15 = (0 : Int32) → mi_W d 129 24 [some (.ref l1), some (.int l2), some (.int l3), o4, o5, o6] [] (n, sl, f) Q) (h18 : ¬ (x15 = (0 : Int32)) → mi_W d 129 22 [some (.ref l1), some (.int l2), some (.int l3), o4, o5, o6] [] (n, sl, f) Q) : mi_W d 129 12 [some (.ref l1), some (.int l2), some (.int l3), o4, o5, o6] [] (n, sl, f) Q := by
  refine w_aload_n cd_129_12 rfl ?_
  refine w_getfield cd_129_13 (show mt_f 11 60 = some (11, 2) by decide +kernel) h8 h9 h11 ?_
  refine w_getfield cd_129_16 (show mt_f 11 151 = some (10, 4) by decide +kernel) h13 h14 h16 ?_
  exact w_ifeq cd_129_19 (by decide) h17 h18
theorem b_129_22 {d : Nat} {Q : (Option Value ⊕ Nat) → mi_H → Prop} (n sl : Nat) (f : Nat → mi_C) {l1 : Nat} {l2 : Int32} {l3 : Int32} {o4 : Option Value} {o5 : Option Value} {o6 : Option Value} (h7 : Q (.inl (some (.int 0))) (n, sl, f)) : mi_W d 129 22 [some (.ref l1), some (.int l2), some (.int l3), o4, o5, o6] [] (n, sl, f) Q := by
  refine w_iconst (v := 0) cd_129_22 (by decide) ?_
  exact w_ireturn_z cd_129_23 (by decide +kernel) (by decide) h7
theorem b_129_24 {d : Nat} {Q : (Option Value ⊕ Nat) → mi_H → Prop} (n sl : Nat) (f : Nat → mi_C) {l1 : Nat} {l2 : Int32} {l3 : Int32} {o4 : Option Value} {o5 : Option Value} {o6 : Option Value} {fs7 : List Value} {x10 : Nat} (m12 i12 ka12 : Nat) (g12 : Nat → Option Nat) {x17 : Nat} {fs19 : List Value} {x22 : Nat} (m24 i24 ka24 : Nat) (g24 : Nat → Option Nat) {x29 : Nat} {fs31 : List Value} (h8 : f l1 = .inr (11, fs7)) (h9 : l1 < n) (h11 : fs7[4]? = some (.ref x10)) (h13 : f x10 = .inl (ka12, m12, .inr (.inr (.inr (.inr g12))))) (h14 : x10 < n) (h15 : 4 ≤ ka12 ∧ ka12 < mt_na) (h16 : mi_ix (l2 + 1) m12 i12) (h18 : g12 i12 = some x17) (h20 : f l1 = .inr (11, fs19)) (h21 : l1 < n) (h23 : fs19[4]? = some (.ref x22)) (h25 : f x22 = .inl (ka24, m24, .inr (.inr (.inr (.inr g24))))) (h26 : x22 < n) (h27 : 4 ≤ ka24 ∧ ka24 < mt_na) (h28 : mi_ix l2 m24 i24) (h30 : g24 i24 = some x29) (h32 : f x17 = .inr (9, fs31)) (h33 : x17 < n) (h34 : mi_W d 73 0 (mi_en 2 [.ref x17, .ref x29]) [] (n, sl, f) (mi_Kc d 129 40 [some (.ref l1), some (.int l2), some (.int l3), some (.ref x17), o5, o6] [] Q)) : mi_W (d + 1) 129 24 [some (.ref l1), some (.int l2), some (.int l3), o4, o5, o6] [] (n, sl, f) Q := by
  refine w_aload_n cd_129_24 rfl ?_
  refine w_getfield cd_129_25 (show mt_f 11 20 = some (11, 4) by decide +kernel) h8 h9 h11 ?_
  refine w_iload_n cd_129_28 rfl ?_
  refine w_iconst (v := 1) cd_129_29 (by decide) ?_
  refine w_iadd cd_129_30 ?_
  refine w_aaload (w := .ref x17) cd_129_31 h13 h14 h15 h16 (by rw [h18]; rfl) ?_
  refine w_astore_n (ls' := [some (.ref l1), some (.int l2), some (.int l3), some (.ref x17), o5, o6]) cd_129_32 (Nat.le_of_ble_eq_true rfl) rfl ?_
  refine w_aload_n cd_129_33 rfl ?_
  refine w_aload_n cd_129_34 rfl ?_
  refine w_getfield cd_129_35 (show mt_f 11 20 = some (11, 4) by decide +kernel) h20 h21 h23 ?_
  refine w_iload_n cd_129_38 rfl ?_
  refine w_aaload (w := .ref x29) cd_129_39 h25 h26 h27 h28 (by rw [h30]; rfl) ?_
  exact w_invokevirtual cd_129_40 (show mt_m 11 80 = some (73, 0) by decide +kernel) (rest := []) rfl (as := [.ref x17, .ref x29]) rfl h32 (Or.inl h33) ⟨Nat.le_of_ble_eq_true rfl, Nat.le_of_ble_eq_true rfl, Nat.le_of_ble_eq_true rfl⟩ h34
theorem b_129_43 {d : Nat} {Q : (Option Value ⊕ Nat) → mi_H → Prop} (n sl : Nat) (f : Nat → mi_C) {l1 : Nat} {l2 : Int32} {l3 : Int32} {l4 : Nat} {o5 : Option Value} {o6 : Option Value} (h7 : ¬ l3 = 4 → mi_W d 129 57 [some (.ref l1), some (.int l2), some (.int l3), some (.ref l4), o5, o6] [] (n, sl, f) Q) (h8 : ¬ (¬ l3 = 4) → mi_W d 129 48 [some (.ref l1), some (.int l2), some (.int l3), some (.ref l4), o5, o6] [] (n, sl, f) Q) : mi_W d 129 43 [some (.ref l1), some (.int l2), some (.int l3), some (.ref l4), o5, o6] [] (n, sl, f) Q := by
  refine w_iload_n cd_129_43 rfl ?_
  refine w_iconst (v := 4) cd_129_44 (by decide) ?_
  exact w_if_icmpne cd_129_45 (by decide) h7 h8
theorem b_129_48 {d : Nat} {Q : (Option Value ⊕ Nat) → mi_H → Prop} (n sl : Nat) (f : Nat → mi_C) {l1 : Nat} {l2 : Int32} {l3 : Int32} {l4 : Nat} {o5 : Option Value} {o6 : Option Value} {fs7 : List Value} {x10 : Nat} (m12 i12 : Nat) (g12 : Nat → Int64) (h8 : f l1 = .inr (11, fs7)) (h9 : l1 < n) (h11 : fs7[8]? = some (.ref x10)) (h13 : f x10 = .inl (3, m12, .inr (.inl g12))) (h14 : x10 < n) (h15 : mi_ix l2 m12 i12) (h16 : mi_W d 129 61 [some (.ref l1), some (.int l2), some (.int l3), some (.ref l4), o5, o6] [.long (g12 i12)] (n, sl, f) Q) : mi_W d 129 48 [some (.ref l1), some (.int l2), some (.int l3), some (.ref l4), o5, o6] [] (n, sl, f) Q := by
  refine w_aload_n cd_129_48 rfl ?_
  refine w_getfield cd_129_49 (show mt_f 11 34 = some (11, 8) by decide +kernel) h8 h9 h11 ?_
  refine w_iload_n cd_129_52 rfl ?_
  refine w_laload cd_129_53 h13 h14 h15 ?_
  exact w_goto cd_129_54 (by decide) h16
theorem b_129_57 {d : Nat} {Q : (Option Value ⊕ Nat) → mi_H → Prop} (n sl : Nat) (f : Nat → mi_C) {l1 : Nat} {l2 : Int32} {l3 : Int32} {l4 : Nat} {o5 : Option Value} {o6 : Option Value} {fs7 : List Value} {x10 : Int64} (h8 : f l4 = .inr (9, fs7)) (h9 : l4 < n) (h11 : fs7[1]? = some (.long x10)) (h12 : mi_W d 129 61 [some (.ref l1), some (.int l2), some (.int l3), some (.ref l4), o5, o6] [.long x10] (n, sl, f) Q) : mi_W d 129 57 [some (.ref l1), some (.int l2), some (.int l3), some (.ref l4), o5, o6] [] (n, sl, f) Q := by
  refine w_aload_n cd_129_57 rfl ?_
  refine w_getfield cd_129_58 (show mt_f 11 124 = some (9, 1) by decide +kernel) h8 h9 h11 ?_
  exact h12
theorem b_129_61 {d : Nat} {Q : (Option Value ⊕ Nat) → mi_H → Prop} (n sl : Nat) (f : Nat → mi_C) {l1 : Nat} {l2 : Int32} {l3 : Int32} {l4 : Nat} {o5 : Option Value} {o6 : Option Value} {s7 : Int64} {fs8 : List Value} {x11 : Nat} (m13 i13 : Nat) (g13 : Nat → Int32) {fs17 : List Value} {x20 : Nat} (m22 i22 : Nat) (g22 : Nat → Int64) {fs26 : List Value} (h9 : f l1 = .inr (11, fs8)) (h10 : l1 < n) (h12 : fs8[9]? = some (.ref x11)) (h14 : f x11 = .inl (0, m13, .inl g13)) (h15 : x11 < n ∨ x11 = mi_SC) (h16 : mi_ix l2 m13 i13) (h18 : f l1 = .inr (11, fs17)) (h19 : l1 < n) (h21 : fs17[8]? = some (.ref x20)) (h23 : f x20 = .inl (3, m22, .inr (.inl g22))) (h24 : x20 < n) (h25 : mi_ix l2 m22 i22) (h27 : f l1 = .inr (11, fs26)) (h28 : l1 < n) (h29 : mi_W d 130 0 (mi_en 4 [.ref l1, .int (g13 i13), .long (g22 i22)]) [] (n, sl, f) (mi_Kc d 129 76 [some (.ref l1), some (.int l2), some (.int l3), some (.ref l4), some (.long s7), none] [] Q)) : mi_W (d + 1) 129 61 [some (.ref l1), some (.int l2), some (.int l3), some (.ref l4), o5, o6] [.long s7] (n, sl, f) Q := by
  refine w_lstore (ls' := [some (.ref l1), some (.int l2), some (.int l3), some (.ref l4), some (.long s7), none]) cd_129_61 (Nat.le_of_ble_eq_true rfl) rfl ?_
  refine w_aload_n cd_129_63 rfl ?_
  refine w_aload_n cd_129_64 rfl ?_
  refine w_getfield cd_129_65 (show mt_f 11 38 = some (11, 9) by decide +kernel) h9 h10 h12 ?_
  refine w_iload_n cd_129_68 rfl ?_
  refine w_iaload cd_129_69 h14 h15 h16 ?_
  refine w_aload_n cd_129_70 rfl ?_
  refine w_getfield cd_129_71 (show mt_f 11 34 = some (11, 8) by decide +kernel) h18 h19 h21 ?_
  refine w_iload_n cd_129_74 rfl ?_
  refine w_laload cd_129_75 h23 h24 h25 ?_
  exact w_invokevirtual cd_129_76 (show mt_m 11 155 = some (130, 0) by decide +kernel) (rest := []) rfl (as := [.ref l1, .int (g13 i13), .long (g22 i22)]) rfl h27 (Or.inl h28) ⟨Nat.le_of_ble_eq_true rfl, Nat.le_of_ble_eq_true rfl, Nat.le_of_ble_eq_true rfl⟩ h29
theorem b_129_79 {d : Nat} {Q : (Option Value ⊕ Nat) → mi_H → Prop} (n sl : Nat) (f : Nat → mi_C) {l1 : Nat} {l2 : Int32} {l3 : Int32} {l4 : Nat} {l5 : Int64} {fs6 : List Value} {x9 : Nat} {fs11 : List Value} {x14 : Nat} {fs16 : List Value} (h7 : f l1 = .inr (11, fs6)) (h8 : l1 < n) (h10 : fs6[1]? = some (.ref x9)) (h12 : f l1 = .inr (11, fs11)) (h13 : l1 < n) (h15 : fs11[3]? = some (.ref x14)) (h17 : f x9 = .inr (7, fs16)) (h18 : x9 < n) (h19 : mi_W d 74 0 (mi_en 8 [.ref x9, .ref l4, .ref x14, .long l5, .long l5]) [] (n, sl, f) (mi_Kc d 129 92 [some (.ref l1), some (.int l2), some (.int l3), some (.ref l4), some (.long l5), none] [] Q)) : mi_W (d + 1) 129 79 [some (.ref l1), some (.int l2), some (.int l3), some (.ref l4), some (.long l5), none] [] (n, sl, f) Q := by
  refine w_aload_n cd_129_79 rfl ?_
  refine w_getfield cd_129_80 (show mt_f 11 50 = some (11, 1) by decide +kernel) h7 h8 h10 ?_
  refine w_aload_n cd_129_83 rfl ?_
  refine w_aload_n cd_129_84 rfl ?_
  refine w_getfield cd_129_85 (show mt_f 11 12 = some (11, 3) by decide +kernel) h12 h13 h15 ?_
  refine w_lload cd_129_88 rfl ?_
  refine w_lload cd_129_90 rfl ?_
  exact w_invokevirtual cd_129_92 (show mt_m 11 159 = some (74, 0) by decide +kernel) (rest := []) rfl (as := [.ref x9, .ref l4, .ref x14, .long l5, .long l5]) rfl h17 (Or.inl h18) ⟨Nat.le_of_ble_eq_true rfl, Nat.le_of_ble_eq_true rfl, Nat.le_of_ble_eq_true rfl⟩ h19
theorem b_129_95 {d : Nat} {Q : (Option Value ⊕ Nat) → mi_H → Prop} (n sl : Nat) (f : Nat → mi_C) {l1 : Nat} {l2 : Int32} {l3 : Int32} {l4 : Nat} {l5 : Int64} {s6 : Int32} (h7 : ¬ s6 = (0 : Int32) → mi_W d 129 102 [some (.ref l1), some (.int l2), some (.int l3), some (.ref l4), some (.long l5), none] [] (n, sl, f) Q) (h8 : ¬ (¬ s6 = (0 : Int32)) → mi_W d 129 98 [some (.ref l1), some (.int l2), some (.int l3), some (.ref l4), some (.long l5), none] [] (n, sl, f) Q) : mi_W d 129 95 [some (.ref l1), some (.int l2), some (.int l3), some (.ref l4), some (.long l5), none] [.int s6] (n, sl, f) Q := by
  exact w_ifne cd_129_95 (by decide) h7 h8
theorem b_129_98 {d : Nat} {Q : (Option Value ⊕ Nat) → mi_H → Prop} (n sl : Nat) (f : Nat → mi_C) {l1 : Nat} {l2 : Int32} {l3 : Int32} {l4 : Nat} {l5 : Int64} (h6 : mi_W d 129 103 [some (.ref l1), some (.int l2), some (.int l3), some (.ref l4), some (.long l5), none] [.int 1] (n, sl, f) Q) : mi_W d 129 98 [some (.ref l1), some (.int l2), some (.int l3), some (.ref l4), some (.long l5), none] [] (n, sl, f) Q := by
  refine w_iconst (v := 1) cd_129_98 (by decide) ?_
  exact w_goto cd_129_99 (by decide) h6
theorem b_129_102 {d : Nat} {Q : (Option Value ⊕ Nat) → mi_H → Prop} (n sl : Nat) (f : Nat → mi_C) {l1 : Nat} {l2 : Int32} {l3 : Int32} {l4 : Nat} {l5 : Int64} (h6 : mi_W d 129 103 [some (.ref l1), some (.int l2), some (.int l3), some (.ref l4), some (.long l5), none] [.int 0] (n, sl, f) Q) : mi_W d 129 102 [some (.ref l1), some (.int l2), some (.int l3), some (.ref l4), some (.long l5), none] [] (n, sl, f) Q := by
  refine w_iconst (v := 0) cd_129_102 (by decide) ?_
  exact h6
theorem b_129_103 {d : Nat} {Q : (Option Value ⊕ Nat) → mi_H → Prop} (n sl : Nat) (f : Nat → mi_C) {l1 : Nat} {l2 : Int32} {l3 : Int32} {l4 : Nat} {l5 : Int64} {s6 : Int32} (h7 : s6 = 0 ∨ s6 = 1) (h8 : Q (.inl (some (.int s6))) (n, sl, f)) : mi_W d 129 103 [some (.ref l1), some (.int l2), some (.int l3), some (.ref l4), some (.long l5), none] [.int s6] (n, sl, f) Q := by
  exact w_ireturn_z cd_129_103 (by decide +kernel) h7 h8
/-! MarloweHost$Analyser.setInput(IJ)V -/
set_option maxRecDepth 100000 in
theorem mq_130 : mt_q 130 = my_130 := rfl
set_option maxRecDepth 100000 in
theorem ci_130 : mt_inc 0 my_130.cd = true := by decide +kernel
theorem cd_130_0 : mt_cd 130 0 = some (.aload_n 0) := mt_cd_of (q := (0, .aload_n 0, 1)) mq_130 ci_130 (List.mem_of_getElem? (i := 0) rfl)
theorem cd_130_1 : mt_cd 130 1 = some (.getfield 12) := mt_cd_of (q := (1, .getfield 12, 3)) mq_130 ci_130 (List.mem_of_getElem? (i := 1) rfl)
theorem cd_130_4 : mt_cd 130 4 = some (.iconst 0) := mt_cd_of (q := (4, .iconst 0, 1)) mq_130 ci_130 (List.mem_of_getElem? (i := 2) rfl)
theorem cd_130_5 : mt_cd 130 5 = some (.putfield 163) := mt_cd_of (q := (5, .putfield 163, 3)) mq_130 ci_130 (List.mem_of_getElem? (i := 3) rfl)
theorem cd_130_8 : mt_cd 130 8 = some (.aload_n 0) := mt_cd_of (q := (8, .aload_n 0, 1)) mq_130 ci_130 (List.mem_of_getElem? (i := 4) rfl)
theorem cd_130_9 : mt_cd 130 9 = some (.getfield 41) := mt_cd_of (q := (9, .getfield 41, 3)) mq_130 ci_130 (List.mem_of_getElem? (i := 5) rfl)
theorem cd_130_12 : mt_cd 130 12 = some (.iload_n 1) := mt_cd_of (q := (12, .iload_n 1, 1)) mq_130 ci_130 (List.mem_of_getElem? (i := 6) rfl)
theorem cd_130_13 : mt_cd 130 13 = some (.invokevirtual 114) := mt_cd_of (q := (13, .invokevirtual 114, 3)) mq_130 ci_130 (List.mem_of_getElem? (i := 7) rfl)
theorem cd_130_16 : mt_cd 130 16 = some (.ifCond .eq 48) := mt_cd_of (q := (16, .ifCond .eq 48, 3)) mq_130 ci_130 (List.mem_of_getElem? (i := 8) rfl)
theorem cd_130_19 : mt_cd 130 19 = some (.aload_n 0) := mt_cd_of (q := (19, .aload_n 0, 1)) mq_130 ci_130 (List.mem_of_getElem? (i := 9) rfl)
theorem cd_130_20 : mt_cd 130 20 = some (.getfield 12) := mt_cd_of (q := (20, .getfield 12, 3)) mq_130 ci_130 (List.mem_of_getElem? (i := 10) rfl)
theorem cd_130_23 : mt_cd 130 23 = some (.aload_n 0) := mt_cd_of (q := (23, .aload_n 0, 1)) mq_130 ci_130 (List.mem_of_getElem? (i := 11) rfl)
theorem cd_130_24 : mt_cd 130 24 = some (.getfield 41) := mt_cd_of (q := (24, .getfield 41, 3)) mq_130 ci_130 (List.mem_of_getElem? (i := 12) rfl)
theorem cd_130_27 : mt_cd 130 27 = some (.getfield 132) := mt_cd_of (q := (27, .getfield 132, 3)) mq_130 ci_130 (List.mem_of_getElem? (i := 13) rfl)
theorem cd_130_30 : mt_cd 130 30 = some (.iload_n 1) := mt_cd_of (q := (30, .iload_n 1, 1)) mq_130 ci_130 (List.mem_of_getElem? (i := 14) rfl)
theorem cd_130_31 : mt_cd 130 31 = some (.iaload) := mt_cd_of (q := (31, .iaload, 1)) mq_130 ci_130 (List.mem_of_getElem? (i := 15) rfl)
theorem cd_130_32 : mt_cd 130 32 = some (.aload_n 0) := mt_cd_of (q := (32, .aload_n 0, 1)) mq_130 ci_130 (List.mem_of_getElem? (i := 16) rfl)
theorem cd_130_33 : mt_cd 130 33 = some (.getfield 41) := mt_cd_of (q := (33, .getfield 41, 3)) mq_130 ci_130 (List.mem_of_getElem? (i := 17) rfl)
theorem cd_130_36 : mt_cd 130 36 = some (.getfield 166) := mt_cd_of (q := (36, .getfield 166, 3)) mq_130 ci_130 (List.mem_of_getElem? (i := 18) rfl)
theorem cd_130_39 : mt_cd 130 39 = some (.iload_n 1) := mt_cd_of (q := (39, .iload_n 1, 1)) mq_130 ci_130 (List.mem_of_getElem? (i := 19) rfl)
theorem cd_130_40 : mt_cd 130 40 = some (.iaload) := mt_cd_of (q := (40, .iaload, 1)) mq_130 ci_130 (List.mem_of_getElem? (i := 20) rfl)
theorem cd_130_41 : mt_cd 130 41 = some (.aload_n 0) := mt_cd_of (q := (41, .aload_n 0, 1)) mq_130 ci_130 (List.mem_of_getElem? (i := 21) rfl)
theorem cd_130_42 : mt_cd 130 42 = some (.getfield 41) := mt_cd_of (q := (42, .getfield 41, 3)) mq_130 ci_130 (List.mem_of_getElem? (i := 22) rfl)
theorem cd_130_45 : mt_cd 130 45 = some (.getfield 169) := mt_cd_of (q := (45, .getfield 169, 3)) mq_130 ci_130 (List.mem_of_getElem? (i := 23) rfl)
theorem cd_130_48 : mt_cd 130 48 = some (.iload_n 1) := mt_cd_of (q := (48, .iload_n 1, 1)) mq_130 ci_130 (List.mem_of_getElem? (i := 24) rfl)
theorem cd_130_49 : mt_cd 130 49 = some (.iaload) := mt_cd_of (q := (49, .iaload, 1)) mq_130 ci_130 (List.mem_of_getElem? (i := 25) rfl)
theorem cd_130_50 : mt_cd 130 50 = some (.aload_n 0) := mt_cd_of (q := (50, .aload_n 0, 1)) mq_130 ci_130 (List.mem_of_getElem? (i := 26) rfl)
theorem cd_130_51 : mt_cd 130 51 = some (.getfield 41) := mt_cd_of (q := (51, .getfield 41, 3)) mq_130 ci_130 (List.mem_of_getElem? (i := 27) rfl)
theorem cd_130_54 : mt_cd 130 54 = some (.getfield 172) := mt_cd_of (q := (54, .getfield 172, 3)) mq_130 ci_130 (List.mem_of_getElem? (i := 28) rfl)
theorem cd_130_57 : mt_cd 130 57 = some (.iload_n 1) := mt_cd_of (q := (57, .iload_n 1, 1)) mq_130 ci_130 (List.mem_of_getElem? (i := 29) rfl)
theorem cd_130_58 : mt_cd 130 58 = some (.iaload) := mt_cd_of (q := (58, .iaload, 1)) mq_130 ci_130 (List.mem_of_getElem? (i := 30) rfl)
theorem cd_130_59 : mt_cd 130 59 = some (.lload_n 2) := mt_cd_of (q := (59, .lload_n 2, 1)) mq_130 ci_130 (List.mem_of_getElem? (i := 31) rfl)
theorem cd_130_60 : mt_cd 130 60 = some (.invokevirtual 175) := mt_cd_of (q := (60, .invokevirtual 175, 3)) mq_130 ci_130 (List.mem_of_getElem? (i := 32) rfl)
theorem cd_130_63 : mt_cd 130 63 = some (.pop) := mt_cd_of (q := (63, .pop, 1)) mq_130 ci_130 (List.mem_of_getElem? (i := 33) rfl)
theorem cd_130_64 : mt_cd 130 64 = some (.return_) := mt_cd_of (q := (64, .return_, 1)) mq_130 ci_130 (List.mem_of_getElem? (i := 34) rfl)
theorem b_130_0 {d : Nat} {Q : (Option Value ⊕ Nat) → mi_H → Prop} (n sl : Nat) (f : Nat → mi_C) {l1 : Nat} {l2 : Int32} {l3 : Int64} {fs4 : List Value} {x7 : Nat} {fs9 : List Value} {fs13 : List Value} {x16 : Nat} {fs18 : List Value} (h5 : f l1 = .inr (11, fs4)) (h6 : l1 < n) (h8 : fs4[3]? = some (.ref x7)) (h10 : f x7 = .inr (6, fs9)) (h11 : x7 < n) (h12 : 5 < fs9.length) (h14 : (va_up f x7 (.inr (6, fs9.set 5 (.int 0)))) l1 = .inr (11, fs13)) (h15 : l1 < n) (h17 : fs13[0]? = some (.ref x16)) (h19 : (va_up f x7 (.inr (6, fs9.set 5 (.int 0)))) x16 = .inr (2, fs18)) (h20 : x16 < n) (h21 : mi_W d 82 0 (mi_en 2 [.ref x16, .int l2]) [] (n, sl, (va_up f x7 (.inr (6, fs9.set 5 (.int 0))))) (mi_Kc d 130 13 [some (.ref l1), some (.int l2), some (.long l3), none] [] Q)) : mi_W (d + 1) 130 0 [some (.ref l1), some (.int l2), some (.long l3), none] [] (n, sl, f) Q := by
  refine w_aload_n cd_130_0 rfl ?_
  refine w_getfield cd_130_1 (show mt_f 11 12 = some (11, 3) by decide +kernel) h5 h6 h8 ?_
  refine w_iconst (v := 0) cd_130_4 (by decide) ?_
  refine w_putfield (w := .int 0) cd_130_5 (show mt_f 11 163 = some (6, 5) by decide +kernel) h10 h11 ⟨h12, rfl, Or.inl (by decide)⟩ ?_
  refine w_aload_n cd_130_8 rfl ?_
  refine w_getfield cd_130_9 (show mt_f 11 41 = some (11, 0) by decide +kernel) h14 h15 h17 ?_
  refine w_iload_n cd_130_12 rfl ?_
  exact w_invokevirtual cd_130_13 (show mt_m 11 114 = some (82, 0) by decide +kernel) (rest := []) rfl (as := [.ref x16, .int l2]) rfl h19 (Or.inl h20) ⟨Nat.le_of_ble_eq_true rfl, Nat.le_of_ble_eq_true rfl, Nat.le_of_ble_eq_true rfl⟩ h21
theorem b_130_16 {d : Nat} {Q : (Option Value ⊕ Nat) → mi_H → Prop} (n sl : Nat) (f : Nat → mi_C) {l1 : Nat} {l2 : Int32} {l3 : Int64} {s4 : Int32} (h5 : s4 = (0 : Int32) → mi_W d 130 64 [some (.ref l1), some (.int l2), some (.long l3), none] [] (n, sl, f) Q) (h6 : ¬ (s4 = (0 : Int32)) → mi_W d 130 19 [some (.ref l1), some (.int l2), some (.long l3), none] [] (n, sl, f) Q) : mi_W d 130 16 [some (.ref l1), some (.int l2), some (.long l3), none] [.int s4] (n, sl, f) Q := by
  exact w_ifeq cd_130_16 (by decide) h5 h6
theorem b_130_19 {d : Nat} {Q : (Option Value ⊕ Nat) → mi_H → Prop} (n sl : Nat) (f : Nat → mi_C) {l1 : Nat} {l2 : Int32} {l3 : Int64} {fs4 : List Value} {x7 : Nat} {fs9 : List Value} {x12 : Nat} {fs14 : List Value} {x17 : Nat} (m19 i19 : Nat) (g19 : Nat → Int32) {fs23 : List Value} {x26 : Nat} {fs28 : List Value} {x31 : Nat} (m33 i33 : Nat) (g33 : Nat → Int32) {fs37 : List Value} {x40 : Nat} {fs42 : List Value} {x45 : Nat} (m47 i47 : Nat) (g47 : Nat → Int32) {fs51 : List Value} {x54 : Nat} {fs56 : List Value} {x59 : Nat} (m61 i61 : Nat) (g61 : Nat → Int32) {fs65 : List Value} (h5 : f l1 = .inr (11, fs4)) (h6 : l1 < n) (h8 : fs4[3]? = some (.ref x7)) (h10 : f l1 = .inr (11, fs9)) (h11 : l1 < n) (h13 : fs9[0]? = some (.ref x12)) (h15 : f x12 = .inr (2, fs14)) (h16 : x12 < n) (h18 : fs14[0]? = some (.ref x17)) (h20 : f x17 = .inl (0, m19, .inl g19)) (h21 : x17 < n ∨ x17 = mi_SC) (h22 : mi_ix l2 m19 i19) (h24 : f l1 = .inr (11, fs23)) (h25 : l1 < n) (h27 : fs23[0]? = some (.ref x26)) (h29 : f x26 = .inr (2, fs28)) (h30 : x26 < n) (h32 : fs28[4]? = some (.ref x31)) (h34 : f x31 = .inl (0, m33, .inl g33)) (h35 : x31 < n ∨ x31 = mi_SC) (h36 : mi_ix l2 m33 i33) (h38 : f l1 = .inr (11, fs37)) (h39 : l1 < n) (h41 : fs37[0]? = some (.ref x40)) (h43 : f x40 = .inr (2, fs42)) (h44 : x40 < n) (h46 : fs42[5]? = some (.ref x45)) (h48 : f x45 = .inl (0, m47, .inl g47)) (h49 : x45 < n ∨ x45 = mi_SC) (h50 : mi_ix l2 m47 i47) (h52 : f l1 = .inr (11, fs51)) (h53 : l1 < n) (h55 : fs51[0]? = some (.ref x54)) (h57 : f x54 = .inr (2, fs56)) (h58 : x54 < n) (h60 : fs56[6]? = some (.ref x59)) (h62 : f x59 = .inl (0, m61, .inl g61)) (h63 : x59 < n ∨ x59 = mi_SC) (h64 : mi_ix l2 m61 i61) (h66 : f x7 = .inr (6, fs65)) (h67 : x7 < n) (h68 : mi_W d 65 0 (mi_en 7 [.ref x7, .int (g19 i19), .int (g33 i33), .int (g47 i47), .int (g61 i61), .long l3]) [] (n, sl, f) (mi_Kc d 130 60 [some (.ref l1), some (.int l2), some (.long l3), none] [] Q)) : mi_W (d + 1) 130 19 [some (.ref l1), some (.int l2), some (.long l3), none] [] (n, sl, f) Q := by
  refine w_aload_n cd_130_19 rfl ?_
  refine w_getfield cd_130_20 (show mt_f 11 12 = some (11, 3) by decide +kernel) h5 h6 h8 ?_
  refine w_aload_n cd_130_23 rfl ?_
  refine w_getfield cd_130_24 (show mt_f 11 41 = some (11, 0) by decide +kernel) h10 h11 h13 ?_
  refine w_getfield cd_130_27 (show mt_f 11 132 = some (2, 0) by decide +kernel) h15 h16 h18 ?_
  refine w_iload_n cd_130_30 rfl ?_
  refine w_iaload cd_130_31 h20 h21 h22 ?_
  refine w_aload_n cd_130_32 rfl ?_
  refine w_getfield cd_130_33 (show mt_f 11 41 = some (11, 0) by decide +kernel) h24 h25 h27 ?_
  refine w_getfield cd_130_36 (show mt_f 11 166 = some (2, 4) by decide +kernel) h29 h30 h32 ?_
  refine w_iload_n cd_130_39 rfl ?_
  refine w_iaload cd_130_40 h34 h35 h36 ?_
  refine w_aload_n cd_130_41 rfl ?_
  refine w_getfield cd_130_42 (show mt_f 11 41 = some (11, 0) by decide +kernel) h38 h39 h41 ?_
  refine w_getfield cd_130_45 (show mt_f 11 169 = some (2, 5) by decide +kernel) h43 h44 h46 ?_
  refine w_iload_n cd_130_48 rfl ?_
  refine w_iaload cd_130_49 h48 h49 h50 ?_
  refine w_aload_n cd_130_50 rfl ?_
  refine w_getfield cd_130_51 (show mt_f 11 41 = some (11, 0) by decide +kernel) h52 h53 h55 ?_
  refine w_getfield cd_130_54 (show mt_f 11 172 = some (2, 6) by decide +kernel) h57 h58 h60 ?_
  refine w_iload_n cd_130_57 rfl ?_
  refine w_iaload cd_130_58 h62 h63 h64 ?_
  refine w_lload_n cd_130_59 rfl ?_
  exact w_invokevirtual cd_130_60 (show mt_m 11 175 = some (65, 0) by decide +kernel) (rest := []) rfl (as := [.ref x7, .int (g19 i19), .int (g33 i33), .int (g47 i47), .int (g61 i61), .long l3]) rfl h66 (Or.inl h67) ⟨Nat.le_of_ble_eq_true rfl, Nat.le_of_ble_eq_true rfl, Nat.le_of_ble_eq_true rfl⟩ h68
theorem b_130_63 {d : Nat} {Q : (Option Value ⊕ Nat) → mi_H → Prop} (n sl : Nat) (f : Nat → mi_C) {l1 : Nat} {l2 : Int32} {l3 : Int64} {s4 : Int32} (h5 : mi_W d 130 64 [some (.ref l1), some (.int l2), some (.long l3), none] [] (n, sl, f) Q) : mi_W d 130 63 [some (.ref l1), some (.int l2), some (.long l3), none] [.int s4] (n, sl, f) Q := by
  refine w_pop_i cd_130_63 ?_
  exact h5
theorem b_130_64 {d : Nat} {Q : (Option Value ⊕ Nat) → mi_H → Prop} (n sl : Nat) (f : Nat → mi_C) {l1 : Nat} {l2 : Int32} {l3 : Int64} (h4 : Q (.inl none) (n, sl, f)) : mi_W d 130 64 [some (.ref l1), some (.int l2), some (.long l3), none] [] (n, sl, f) Q := by
  exact w_return cd_130_64 (by decide +kernel) h4
/-! MarloweHostLaw.step(LMarloweHost;II[J)I -/
set_option maxRecDepth 100000 in
theorem mq_131 : mt_q 131 = my_131 := rfl
set_option maxRecDepth 100000 in
theorem ci_131 : mt_inc 0 my_131.cd = true := by decide +kernel
theorem cd_131_0 : mt_cd 131 0 = some (.aload_n 3) := mt_cd_of (q := (0, .aload_n 3, 1)) mq_131 ci_131 (List.mem_of_getElem? (i := 0) rfl)
theorem cd_131_1 : mt_cd 131 1 = some (.iconst 0) := mt_cd_of (q := (1, .iconst 0, 1)) mq_131 ci_131 (List.mem_of_getElem? (i := 1) rfl)
theorem cd_131_2 : mt_cd 131 2 = some (.aload_n 0) := mt_cd_of (q := (2, .aload_n 0, 1)) mq_131 ci_131 (List.mem_of_getElem? (i := 2) rfl)
theorem cd_131_3 : mt_cd 131 3 = some (.iload_n 1) := mt_cd_of (q := (3, .iload_n 1, 1)) mq_131 ci_131 (List.mem_of_getElem? (i := 3) rfl)
theorem cd_131_4 : mt_cd 131 4 = some (.iload_n 2) := mt_cd_of (q := (4, .iload_n 2, 1)) mq_131 ci_131 (List.mem_of_getElem? (i := 4) rfl)
theorem cd_131_5 : mt_cd 131 5 = some (.invokevirtual 58) := mt_cd_of (q := (5, .invokevirtual 58, 3)) mq_131 ci_131 (List.mem_of_getElem? (i := 5) rfl)
theorem cd_131_8 : mt_cd 131 8 = some (.lastore) := mt_cd_of (q := (8, .lastore, 1)) mq_131 ci_131 (List.mem_of_getElem? (i := 6) rfl)
theorem cd_131_9 : mt_cd 131 9 = some (.goto 11) := mt_cd_of (q := (9, .goto 11, 3)) mq_131 ci_131 (List.mem_of_getElem? (i := 7) rfl)
theorem cd_131_12 : mt_cd 131 12 = some (.astore 4) := mt_cd_of (q := (12, .astore 4, 2)) mq_131 ci_131 (List.mem_of_getElem? (i := 8) rfl)
theorem cd_131_14 : mt_cd 131 14 = some (.iconst 1) := mt_cd_of (q := (14, .iconst 1, 1)) mq_131 ci_131 (List.mem_of_getElem? (i := 9) rfl)
theorem cd_131_15 : mt_cd 131 15 = some (.ireturn) := mt_cd_of (q := (15, .ireturn, 1)) mq_131 ci_131 (List.mem_of_getElem? (i := 10) rfl)
theorem cd_131_16 : mt_cd 131 16 = some (.astore 4) := mt_cd_of (q := (16, .astore 4, 2)) mq_131 ci_131 (List.mem_of_getElem? (i := 11) rfl)
theorem cd_131_18 : mt_cd 131 18 = some (.iconst 2) := mt_cd_of (q := (18, .iconst 2, 1)) mq_131 ci_131 (List.mem_of_getElem? (i := 12) rfl)
theorem cd_131_19 : mt_cd 131 19 = some (.ireturn) := mt_cd_of (q := (19, .ireturn, 1)) mq_131 ci_131 (List.mem_of_getElem? (i := 13) rfl)
theorem cd_131_20 : mt_cd 131 20 = some (.iconst 0) := mt_cd_of (q := (20, .iconst 0, 1)) mq_131 ci_131 (List.mem_of_getElem? (i := 14) rfl)
theorem cd_131_21 : mt_cd 131 21 = some (.ireturn) := mt_cd_of (q := (21, .ireturn, 1)) mq_131 ci_131 (List.mem_of_getElem? (i := 15) rfl)
theorem b_131_0 {d : Nat} {Q : (Option Value ⊕ Nat) → mi_H → Prop} (n sl : Nat) (f : Nat → mi_C) {l1 : Nat} {l2 : Int32} {l3 : Int32} {l4 : Nat} {o5 : Option Value} {fs6 : List Value} (h7 : f l1 = .inr (0, fs6)) (h8 : l1 < n) (h9 : mi_W d 132 0 (mi_en 3 [.ref l1, .int l2, .int l3]) [] (n, sl, f) (mi_Kc d 131 5 [some (.ref l1), some (.int l2), some (.int l3), some (.ref l4), o5] [.int 0, .ref l4] Q)) : mi_W (d + 1) 131 0 [some (.ref l1), some (.int l2), some (.int l3), some (.ref l4), o5] [] (n, sl, f) Q := by
  refine w_aload_n cd_131_0 rfl ?_
  refine w_iconst (v := 0) cd_131_1 (by decide) ?_
  refine w_aload_n cd_131_2 rfl ?_
  refine w_iload_n cd_131_3 rfl ?_
  refine w_iload_n cd_131_4 rfl ?_
  exact w_invokevirtual cd_131_5 (show mt_m 18 58 = some (132, 0) by decide +kernel) (rest := [.int 0, .ref l4]) rfl (as := [.ref l1, .int l2, .int l3]) rfl h7 (Or.inl h8) ⟨Nat.le_of_ble_eq_true rfl, Nat.le_of_ble_eq_true rfl, Nat.le_of_ble_eq_true rfl⟩ h9
theorem b_131_8 {d : Nat} {Q : (Option Value ⊕ Nat) → mi_H → Prop} (n sl : Nat) (f : Nat → mi_C) {l1 : Nat} {l2 : Int32} {l3 : Int32} {l4 : Nat} {o5 : Option Value} {s6 : Int64} {s7 : Int32} {s8 : Nat} (m9 i9 : Nat) (g9 : Nat → Int64) (h10 : f s8 = .inl (3, m9, .inr (.inl g9))) (h11 : s8 < n) (h12 : mi_ix s7 m9 i9) (h13 : mi_W d 131 20 [some (.ref l1), some (.int l2), some (.int l3), some (.ref l4), o5] [] (n, sl, (va_up f s8 (.inl (3, m9, .inr (.inl (vp_updL g9 i9 s6)))))) Q) : mi_W d 131 8 [some (.ref l1), some (.int l2), some (.int l3), some (.ref l4), o5] [.long s6, .int s7, .ref s8] (n, sl, f) Q := by
  refine w_lastore cd_131_8 h10 h11 h12 ?_
  exact w_goto cd_131_9 (by decide) h13
theorem b_131_12 {d : Nat} {Q : (Option Value ⊕ Nat) → mi_H → Prop} (n sl : Nat) (f : Nat → mi_C) {l1 : Nat} {l2 : Int32} {l3 : Int32} {l4 : Nat} {o5 : Option Value} {s6 : Nat} (h7 : Q (.inl (some (.int 1))) (n, sl, f)) : mi_W d 131 12 [some (.ref l1), some (.int l2), some (.int l3), some (.ref l4), o5] [.ref s6] (n, sl, f) Q := by
  refine w_astore (ls' := [some (.ref l1), some (.int l2), some (.int l3), some (.ref l4), some (.ref s6)]) cd_131_12 (Nat.le_of_ble_eq_true rfl) rfl ?_
  refine w_iconst (v := 1) cd_131_14 (by decide) ?_
  exact w_ireturn_i cd_131_15 (by decide +kernel) h7
theorem b_131_16 {d : Nat} {Q : (Option Value ⊕ Nat) → mi_H → Prop} (n sl : Nat) (f : Nat → mi_C) {l1 : Nat} {l2 : Int32} {l3 : Int32} {l4 : Nat} {o5 : Option Value} {s6 : Nat} (h7 : Q (.inl (some (.int 2))) (n, sl, f)) : mi_W d 131 16 [some (.ref l1), some (.int l2), some (.int l3), some (.ref l4), o5] [.ref s6] (n, sl, f) Q := by
  refine w_astore (ls' := [some (.ref l1), some (.int l2), some (.int l3), some (.ref l4), some (.ref s6)]) cd_131_16 (Nat.le_of_ble_eq_true rfl) rfl ?_
  refine w_iconst (v := 2) cd_131_18 (by decide) ?_
  exact w_ireturn_i cd_131_19 (by decide +kernel) h7
theorem b_131_20 {d : Nat} {Q : (Option Value ⊕ Nat) → mi_H → Prop} (n sl : Nat) (f : Nat → mi_C) {l1 : Nat} {l2 : Int32} {l3 : Int32} {l4 : Nat} {o5 : Option Value} (h6 : Q (.inl (some (.int 0))) (n, sl, f)) : mi_W d 131 20 [some (.ref l1), some (.int l2), some (.int l3), some (.ref l4), o5] [] (n, sl, f) Q := by
  refine w_iconst (v := 0) cd_131_20 (by decide) ?_
  exact w_ireturn_i cd_131_21 (by decide +kernel) h6
/-! MarloweHost.step(II)J -/
set_option maxRecDepth 100000 in
theorem mq_132 : mt_q 132 = my_132 := rfl
set_option maxRecDepth 100000 in
theorem ci_132 : mt_inc 0 my_132.cd = true := by decide +kernel
theorem cd_132_0 : mt_cd 132 0 = some (.iload_n 2) := mt_cd_of (q := (0, .iload_n 2, 1)) mq_132 ci_132 (List.mem_of_getElem? (i := 0) rfl)
theorem cd_132_1 : mt_cd 132 1 = some (.ifCond .lt 8) := mt_cd_of (q := (1, .ifCond .lt 8, 3)) mq_132 ci_132 (List.mem_of_getElem? (i := 1) rfl)
theorem cd_132_4 : mt_cd 132 4 = some (.iload_n 2) := mt_cd_of (q := (4, .iload_n 2, 1)) mq_132 ci_132 (List.mem_of_getElem? (i := 2) rfl)
theorem cd_132_5 : mt_cd 132 5 = some (.iconst 2) := mt_cd_of (q := (5, .iconst 2, 1)) mq_132 ci_132 (List.mem_of_getElem? (i := 3) rfl)
theorem cd_132_6 : mt_cd 132 6 = some (.if_icmp .le 13) := mt_cd_of (q := (6, .if_icmp .le 13, 3)) mq_132 ci_132 (List.mem_of_getElem? (i := 4) rfl)
theorem cd_132_9 : mt_cd 132 9 = some (.new 123) := mt_cd_of (q := (9, .new 123, 3)) mq_132 ci_132 (List.mem_of_getElem? (i := 5) rfl)
theorem cd_132_12 : mt_cd 132 12 = some (.dup) := mt_cd_of (q := (12, .dup, 1)) mq_132 ci_132 (List.mem_of_getElem? (i := 6) rfl)
theorem cd_132_13 : mt_cd 132 13 = some (.ldc 210) := mt_cd_of (q := (13, .ldc 210, 2)) mq_132 ci_132 (List.mem_of_getElem? (i := 7) rfl)
theorem cd_132_15 : mt_cd 132 15 = some (.invokespecial 127) := mt_cd_of (q := (15, .invokespecial 127, 3)) mq_132 ci_132 (List.mem_of_getElem? (i := 8) rfl)
theorem cd_132_18 : mt_cd 132 18 = some (.athrow) := mt_cd_of (q := (18, .athrow, 1)) mq_132 ci_132 (List.mem_of_getElem? (i := 9) rfl)
theorem cd_132_19 : mt_cd 132 19 = some (.iload_n 1) := mt_cd_of (q := (19, .iload_n 1, 1)) mq_132 ci_132 (List.mem_of_getElem? (i := 10) rfl)
theorem cd_132_20 : mt_cd 132 20 = some (.ifCond .lt 14) := mt_cd_of (q := (20, .ifCond .lt 14, 3)) mq_132 ci_132 (List.mem_of_getElem? (i := 11) rfl)
theorem cd_132_23 : mt_cd 132 23 = some (.iload_n 1) := mt_cd_of (q := (23, .iload_n 1, 1)) mq_132 ci_132 (List.mem_of_getElem? (i := 12) rfl)
theorem cd_132_24 : mt_cd 132 24 = some (.aload_n 0) := mt_cd_of (q := (24, .aload_n 0, 1)) mq_132 ci_132 (List.mem_of_getElem? (i := 13) rfl)
theorem cd_132_25 : mt_cd 132 25 = some (.getfield 60) := mt_cd_of (q := (25, .getfield 60, 3)) mq_132 ci_132 (List.mem_of_getElem? (i := 14) rfl)
theorem cd_132_28 : mt_cd 132 28 = some (.getfield 212) := mt_cd_of (q := (28, .getfield 212, 3)) mq_132 ci_132 (List.mem_of_getElem? (i := 15) rfl)
theorem cd_132_31 : mt_cd 132 31 = some (.if_icmp .lt 13) := mt_cd_of (q := (31, .if_icmp .lt 13, 3)) mq_132 ci_132 (List.mem_of_getElem? (i := 16) rfl)
theorem cd_132_34 : mt_cd 132 34 = some (.new 78) := mt_cd_of (q := (34, .new 78, 3)) mq_132 ci_132 (List.mem_of_getElem? (i := 17) rfl)
theorem cd_132_37 : mt_cd 132 37 = some (.dup) := mt_cd_of (q := (37, .dup, 1)) mq_132 ci_132 (List.mem_of_getElem? (i := 18) rfl)
theorem cd_132_38 : mt_cd 132 38 = some (.ldc 215) := mt_cd_of (q := (38, .ldc 215, 2)) mq_132 ci_132 (List.mem_of_getElem? (i := 19) rfl)
theorem cd_132_40 : mt_cd 132 40 = some (.invokespecial 82) := mt_cd_of (q := (40, .invokespecial 82, 3)) mq_132 ci_132 (List.mem_of_getElem? (i := 20) rfl)
theorem cd_132_43 : mt_cd 132 43 = some (.athrow) := mt_cd_of (q := (43, .athrow, 1)) mq_132 ci_132 (List.mem_of_getElem? (i := 21) rfl)
theorem cd_132_44 : mt_cd 132 44 = some (.iload_n 2) := mt_cd_of (q := (44, .iload_n 2, 1)) mq_132 ci_132 (List.mem_of_getElem? (i := 22) rfl)
theorem cd_132_45 : mt_cd 132 45 = some (.lookupswitch 48 #[(0, 27), (1, 38)]) := mt_cd_of (q := (45, .lookupswitch 48 #[(0, 27), (1, 38)], 27)) mq_132 ci_132 (List.mem_of_getElem? (i := 23) rfl)
theorem cd_132_72 : mt_cd 132 72 = some (.aload_n 0) := mt_cd_of (q := (72, .aload_n 0, 1)) mq_132 ci_132 (List.mem_of_getElem? (i := 24) rfl)
theorem cd_132_73 : mt_cd 132 73 = some (.getfield 60) := mt_cd_of (q := (73, .getfield 60, 3)) mq_132 ci_132 (List.mem_of_getElem? (i := 25) rfl)
theorem cd_132_76 : mt_cd 132 76 = some (.getfield 217) := mt_cd_of (q := (76, .getfield 217, 3)) mq_132 ci_132 (List.mem_of_getElem? (i := 26) rfl)
theorem cd_132_79 : mt_cd 132 79 = some (.iload_n 1) := mt_cd_of (q := (79, .iload_n 1, 1)) mq_132 ci_132 (List.mem_of_getElem? (i := 27) rfl)
theorem cd_132_80 : mt_cd 132 80 = some (.iaload) := mt_cd_of (q := (80, .iaload, 1)) mq_132 ci_132 (List.mem_of_getElem? (i := 28) rfl)
theorem cd_132_81 : mt_cd 132 81 = some (.i2l) := mt_cd_of (q := (81, .i2l, 1)) mq_132 ci_132 (List.mem_of_getElem? (i := 29) rfl)
theorem cd_132_82 : mt_cd 132 82 = some (.lreturn) := mt_cd_of (q := (82, .lreturn, 1)) mq_132 ci_132 (List.mem_of_getElem? (i := 30) rfl)
theorem cd_132_83 : mt_cd 132 83 = some (.aload_n 0) := mt_cd_of (q := (83, .aload_n 0, 1)) mq_132 ci_132 (List.mem_of_getElem? (i := 31) rfl)
theorem cd_132_84 : mt_cd 132 84 = some (.getfield 60) := mt_cd_of (q := (84, .getfield 60, 3)) mq_132 ci_132 (List.mem_of_getElem? (i := 32) rfl)
theorem cd_132_87 : mt_cd 132 87 = some (.getfield 220) := mt_cd_of (q := (87, .getfield 220, 3)) mq_132 ci_132 (List.mem_of_getElem? (i := 33) rfl)
theorem cd_132_90 : mt_cd 132 90 = some (.iload_n 1) := mt_cd_of (q := (90, .iload_n 1, 1)) mq_132 ci_132 (List.mem_of_getElem? (i := 34) rfl)
theorem cd_132_91 : mt_cd 132 91 = some (.laload) := mt_cd_of (q := (91, .laload, 1)) mq_132 ci_132 (List.mem_of_getElem? (i := 35) rfl)
theorem cd_132_92 : mt_cd 132 92 = some (.lreturn) := mt_cd_of (q := (92, .lreturn, 1)) mq_132 ci_132 (List.mem_of_getElem? (i := 36) rfl)
theorem cd_132_93 : mt_cd 132 93 = some (.aload_n 0) := mt_cd_of (q := (93, .aload_n 0, 1)) mq_132 ci_132 (List.mem_of_getElem? (i := 37) rfl)
theorem cd_132_94 : mt_cd 132 94 = some (.getfield 60) := mt_cd_of (q := (94, .getfield 60, 3)) mq_132 ci_132 (List.mem_of_getElem? (i := 38) rfl)
theorem cd_132_97 : mt_cd 132 97 = some (.getfield 223) := mt_cd_of (q := (97, .getfield 223, 3)) mq_132 ci_132 (List.mem_of_getElem? (i := 39) rfl)
theorem cd_132_100 : mt_cd 132 100 = some (.iload_n 1) := mt_cd_of (q := (100, .iload_n 1, 1)) mq_132 ci_132 (List.mem_of_getElem? (i := 40) rfl)
theorem cd_132_101 : mt_cd 132 101 = some (.iaload) := mt_cd_of (q := (101, .iaload, 1)) mq_132 ci_132 (List.mem_of_getElem? (i := 41) rfl)
theorem cd_132_102 : mt_cd 132 102 = some (.i2l) := mt_cd_of (q := (102, .i2l, 1)) mq_132 ci_132 (List.mem_of_getElem? (i := 42) rfl)
theorem cd_132_103 : mt_cd 132 103 = some (.lreturn) := mt_cd_of (q := (103, .lreturn, 1)) mq_132 ci_132 (List.mem_of_getElem? (i := 43) rfl)
theorem b_132_0 {d : Nat} {Q : (Option Value ⊕ Nat) → mi_H → Prop} (n sl : Nat) (f : Nat → mi_C) {l1 : Nat} {l2 : Int32} {l3 : Int32} (h4 : l3 < (0 : Int32) → mi_W d 132 9 [some (.ref l1), some (.int l2), some (.int l3)] [] (n, sl, f) Q) (h5 : ¬ (l3 < (0 : Int32)) → mi_W d 132 4 [some (.ref l1), some (.int l2), some (.int l3)] [] (n, sl, f) Q) : mi_W d 132 0 [some (.ref l1), some (.int l2), some (.int l3)] [] (n, sl, f) Q := by
  refine w_iload_n cd_132_0 rfl ?_
  exact w_iflt cd_132_1 (by decide) h4 h5
theorem b_132_4 {d : Nat} {Q : (Option Value ⊕ Nat) → mi_H → Prop} (n sl : Nat) (f : Nat → mi_C) {l1 : Nat} {l2 : Int32} {l3 : Int32} (h4 : l3 ≤ 2 → mi_W d 132 19 [some (.ref l1), some (.int l2), some (.int l3)] [] (n, sl, f) Q) (h5 : ¬ (l3 ≤ 2) → mi_W d 132 9 [some (.ref l1), some (.int l2), some (.int l3)] [] (n, sl, f) Q) : mi_W d 132 4 [some (.ref l1), some (.int l2), some (.int l3)] [] (n, sl, f) Q := by
  refine w_iload_n cd_132_4 rfl ?_
  refine w_iconst (v := 2) cd_132_5 (by decide) ?_
  exact w_if_icmple cd_132_6 (by decide) h4 h5
theorem b_132_9 {d : Nat} {Q : (Option Value ⊕ Nat) → mi_H → Prop} (n sl : Nat) (f : Nat → mi_C) {l1 : Nat} {l2 : Int32} {l3 : Int32} {h' : mi_H} (h4 : mi_t 132 9 (.new 123) [] (n, sl, f) = some h') (h5 : Q (.inr n) h') : mi_W d 132 9 [some (.ref l1), some (.int l2), some (.int l3)] [] (n, sl, f) Q := by
  exact w_throw cd_132_9 (show mt_c 0 123 = some 15 by decide +kernel) (by decide) h4 h5
theorem b_132_19 {d : Nat} {Q : (Option Value ⊕ Nat) → mi_H → Prop} (n sl : Nat) (f : Nat → mi_C) {l1 : Nat} {l2 : Int32} {l3 : Int32} (h4 : l2 < (0 : Int32) → mi_W d 132 34 [some (.ref l1), some (.int l2), some (.int l3)] [] (n, sl, f) Q) (h5 : ¬ (l2 < (0 : Int32)) → mi_W d 132 23 [some (.ref l1), some (.int l2), some (.int l3)] [] (n, sl, f) Q) : mi_W d 132 19 [some (.ref l1), some (.int l2), some (.int l3)] [] (n, sl, f) Q := by
  refine w_iload_n cd_132_19 rfl ?_
  exact w_iflt cd_132_20 (by decide) h4 h5
theorem b_132_23 {d : Nat} {Q : (Option Value ⊕ Nat) → mi_H → Prop} (n sl : Nat) (f : Nat → mi_C) {l1 : Nat} {l2 : Int32} {l3 : Int32} {fs4 : List Value} {x7 : Nat} {fs9 : List Value} {x12 : Int32} (h5 : f l1 = .inr (0, fs4)) (h6 : l1 < n) (h8 : fs4[6]? = some (.ref x7)) (h10 : f x7 = .inr (11, fs9)) (h11 : x7 < n) (h13 : fs9[11]? = some (.int x12)) (h14 : l2 < x12 → mi_W d 132 44 [some (.ref l1), some (.int l2), some (.int l3)] [] (n, sl, f) Q) (h15 : ¬ (l2 < x12) → mi_W d 132 34 [some (.ref l1), some (.int l2), some (.int l3)] [] (n, sl, f) Q) : mi_W d 132 23 [some (.ref l1), some (.int l2), some (.int l3)] [] (n, sl, f) Q := by
  refine w_iload_n cd_132_23 rfl ?_
  refine w_aload_n cd_132_24 rfl ?_
  refine w_getfield cd_132_25 (show mt_f 0 60 = some (0, 6) by decide +kernel) h5 h6 h8 ?_
  refine w_getfield cd_132_28 (show mt_f 0 212 = some (11, 11) by decide +kernel) h10 h11 h13 ?_
  exact w_if_icmplt cd_132_31 (by decide) h14 h15
theorem b_132_34 {d : Nat} {Q : (Option Value ⊕ Nat) → mi_H → Prop} (n sl : Nat) (f : Nat → mi_C) {l1 : Nat} {l2 : Int32} {l3 : Int32} {h' : mi_H} (h4 : mi_t 132 34 (.new 78) [] (n, sl, f) = some h') (h5 : Q (.inr n) h') : mi_W d 132 34 [some (.ref l1), some (.int l2), some (.int l3)] [] (n, sl, f) Q := by
  exact w_throw cd_132_34 (show mt_c 0 78 = some 14 by decide +kernel) (by decide) h4 h5
theorem b_132_44 {d : Nat} {Q : (Option Value ⊕ Nat) → mi_H → Prop} (n sl : Nat) (f : Nat → mi_C) {l1 : Nat} {l2 : Int32} {l3 : Int32} {t4 : Nat} (h5 : mi_j 45 (Op.lookupswitch.offset (#[(0, 27), (1, 38)] : Array (Int × Int)).toList 48 (l3 : Int32).toInt) = some t4) (h6 : mi_W d 132 t4 [some (.ref l1), some (.int l2), some (.int l3)] [] (n, sl, f) Q) : mi_W d 132 44 [some (.ref l1), some (.int l2), some (.int l3)] [] (n, sl, f) Q := by
  refine w_iload_n cd_132_44 rfl ?_
  exact w_lookupswitch cd_132_45 (by decide) h5 h6
theorem b_132_72 {d : Nat} {Q : (Option Value ⊕ Nat) → mi_H → Prop} (n sl : Nat) (f : Nat → mi_C) {l1 : Nat} {l2 : Int32} {l3 : Int32} {fs4 : List Value} {x7 : Nat} {fs9 : List Value} {x12 : Nat} (m14 i14 : Nat) (g14 : Nat → Int32) (h5 : f l1 = .inr (0, fs4)) (h6 : l1 < n) (h8 : fs4[6]? = some (.ref x7)) (h10 : f x7 = .inr (11, fs9)) (h11 : x7 < n) (h13 : fs9[7]? = some (.ref x12)) (h15 : f x12 = .inl (0, m14, .inl g14)) (h16 : x12 < n ∨ x12 = mi_SC) (h17 : mi_ix l2 m14 i14) (h18 : Q (.inl (some (.long (((g14 i14) : Int32).toInt64)))) (n, sl, f)) : mi_W d 132 72 [some (.ref l1), some (.int l2), some (.int l3)] [] (n, sl, f) Q := by
  refine w_aload_n cd_132_72 rfl ?_
  refine w_getfield cd_132_73 (show mt_f 0 60 = some (0, 6) by decide +kernel) h5 h6 h8 ?_
  refine w_getfield cd_132_76 (show mt_f 0 217 = some (11, 7) by decide +kernel) h10 h11 h13 ?_
  refine w_iload_n cd_132_79 rfl ?_
  refine w_iaload cd_132_80 h15 h16 h17 ?_
  refine w_i2l cd_132_81 ?_
  exact w_lreturn cd_132_82 (by decide +kernel) h18
theorem b_132_83 {d : Nat} {Q : (Option Value ⊕ Nat) → mi_H → Prop} (n sl : Nat) (f : Nat → mi_C) {l1 : Nat} {l2 : Int32} {l3 : Int32} {fs4 : List Value} {x7 : Nat} {fs9 : List Value} {x12 : Nat} (m14 i14 : Nat) (g14 : Nat → Int64) (h5 : f l1 = .inr (0, fs4)) (h6 : l1 < n) (h8 : fs4[6]? = some (.ref x7)) (h10 : f x7 = .inr (11, fs9)) (h11 : x7 < n) (h13 : fs9[8]? = some (.ref x12)) (h15 : f x12 = .inl (3, m14, .inr (.inl g14))) (h16 : x12 < n) (h17 : mi_ix l2 m14 i14) (h18 : Q (.inl (some (.long (g14 i14)))) (n, sl, f)) : mi_W d 132 83 [some (.ref l1), some (.int l2), some (.int l3)] [] (n, sl, f) Q := by
  refine w_aload_n cd_132_83 rfl ?_
  refine w_getfield cd_132_84 (show mt_f 0 60 = some (0, 6) by decide +kernel) h5 h6 h8 ?_
  refine w_getfield cd_132_87 (show mt_f 0 220 = some (11, 8) by decide +kernel) h10 h11 h13 ?_
  refine w_iload_n cd_132_90 rfl ?_
  refine w_laload cd_132_91 h15 h16 h17 ?_
  exact w_lreturn cd_132_92 (by decide +kernel) h18
theorem b_132_93 {d : Nat} {Q : (Option Value ⊕ Nat) → mi_H → Prop} (n sl : Nat) (f : Nat → mi_C) {l1 : Nat} {l2 : Int32} {l3 : Int32} {fs4 : List Value} {x7 : Nat} {fs9 : List Value} {x12 : Nat} (m14 i14 : Nat) (g14 : Nat → Int32) (h5 : f l1 = .inr (0, fs4)) (h6 : l1 < n) (h8 : fs4[6]? = some (.ref x7)) (h10 : f x7 = .inr (11, fs9)) (h11 : x7 < n) (h13 : fs9[9]? = some (.ref x12)) (h15 : f x12 = .inl (0, m14, .inl g14)) (h16 : x12 < n ∨ x12 = mi_SC) (h17 : mi_ix l2 m14 i14) (h18 : Q (.inl (some (.long (((g14 i14) : Int32).toInt64)))) (n, sl, f)) : mi_W d 132 93 [some (.ref l1), some (.int l2), some (.int l3)] [] (n, sl, f) Q := by
  refine w_aload_n cd_132_93 rfl ?_
  refine w_getfield cd_132_94 (show mt_f 0 60 = some (0, 6) by decide +kernel) h5 h6 h8 ?_
  refine w_getfield cd_132_97 (show mt_f 0 223 = some (11, 9) by decide +kernel) h10 h11 h13 ?_
  refine w_iload_n cd_132_100 rfl ?_
  refine w_iaload cd_132_101 h15 h16 h17 ?_
  refine w_i2l cd_132_102 ?_
  exact w_lreturn cd_132_103 (by decide +kernel) h18
/-! MarloweHostLaw.count(LMarloweHost;I[J)I -/
set_option maxRecDepth 100000 in
theorem mq_133 : mt_q 133 = my_133 := rfl
set_option maxRecDepth 100000 in
theorem ci_133 : mt_inc 0 my_133.cd = true := by decide +kernel
theorem cd_133_0 : mt_cd 133 0 = some (.aload_n 2) := mt_cd_of (q := (0, .aload_n 2, 1)) mq_133 ci_133 (List.mem_of_getElem? (i := 0) rfl)
theorem cd_133_1 : mt_cd 133 1 = some (.iconst 0) := mt_cd_of (q := (1, .iconst 0, 1)) mq_133 ci_133 (List.mem_of_getElem? (i := 1) rfl)
theorem cd_133_2 : mt_cd 133 2 = some (.aload_n 0) := mt_cd_of (q := (2, .aload_n 0, 1)) mq_133 ci_133 (List.mem_of_getElem? (i := 2) rfl)
theorem cd_133_3 : mt_cd 133 3 = some (.iload_n 1) := mt_cd_of (q := (3, .iload_n 1, 1)) mq_133 ci_133 (List.mem_of_getElem? (i := 3) rfl)
theorem cd_133_4 : mt_cd 133 4 = some (.invokevirtual 62) := mt_cd_of (q := (4, .invokevirtual 62, 3)) mq_133 ci_133 (List.mem_of_getElem? (i := 4) rfl)
theorem cd_133_7 : mt_cd 133 7 = some (.i2l) := mt_cd_of (q := (7, .i2l, 1)) mq_133 ci_133 (List.mem_of_getElem? (i := 5) rfl)
theorem cd_133_8 : mt_cd 133 8 = some (.lastore) := mt_cd_of (q := (8, .lastore, 1)) mq_133 ci_133 (List.mem_of_getElem? (i := 6) rfl)
theorem cd_133_9 : mt_cd 133 9 = some (.goto 6) := mt_cd_of (q := (9, .goto 6, 3)) mq_133 ci_133 (List.mem_of_getElem? (i := 7) rfl)
theorem cd_133_12 : mt_cd 133 12 = some (.astore_n 3) := mt_cd_of (q := (12, .astore_n 3, 1)) mq_133 ci_133 (List.mem_of_getElem? (i := 8) rfl)
theorem cd_133_13 : mt_cd 133 13 = some (.iconst 1) := mt_cd_of (q := (13, .iconst 1, 1)) mq_133 ci_133 (List.mem_of_getElem? (i := 9) rfl)
theorem cd_133_14 : mt_cd 133 14 = some (.ireturn) := mt_cd_of (q := (14, .ireturn, 1)) mq_133 ci_133 (List.mem_of_getElem? (i := 10) rfl)
theorem cd_133_15 : mt_cd 133 15 = some (.iconst 0) := mt_cd_of (q := (15, .iconst 0, 1)) mq_133 ci_133 (List.mem_of_getElem? (i := 11) rfl)
theorem cd_133_16 : mt_cd 133 16 = some (.ireturn) := mt_cd_of (q := (16, .ireturn, 1)) mq_133 ci_133 (List.mem_of_getElem? (i := 12) rfl)
theorem b_133_0 {d : Nat} {Q : (Option Value ⊕ Nat) → mi_H → Prop} (n sl : Nat) (f : Nat → mi_C) {l1 : Nat} {l2 : Int32} {l3 : Nat} {o4 : Option Value} {fs5 : List Value} (h6 : f l1 = .inr (0, fs5)) (h7 : l1 < n) (h8 : mi_W d 134 0 (mi_en 2 [.ref l1, .int l2]) [] (n, sl, f) (mi_Kc d 133 4 [some (.ref l1), some (.int l2), some (.ref l3), o4] [.int 0, .ref l3] Q)) : mi_W (d + 1) 133 0 [some (.ref l1), some (.int l2), some (.ref l3), o4] [] (n, sl, f) Q := by
  refine w_aload_n cd_133_0 rfl ?_
  refine w_iconst (v := 0) cd_133_1 (by decide) ?_
  refine w_aload_n cd_133_2 rfl ?_
  refine w_iload_n cd_133_3 rfl ?_
  exact w_invokevirtual cd_133_4 (show mt_m 18 62 = some (134, 0) by decide +kernel) (rest := [.int 0, .ref l3]) rfl (as := [.ref l1, .int l2]) rfl h6 (Or.inl h7) ⟨Nat.le_of_ble_eq_true rfl, Nat.le_of_ble_eq_true rfl, Nat.le_of_ble_eq_true rfl⟩ h8
theorem b_133_7 {d : Nat} {Q : (Option Value ⊕ Nat) → mi_H → Prop} (n sl : Nat) (f : Nat → mi_C) {l1 : Nat} {l2 : Int32} {l3 : Nat} {o4 : Option Value} {s5 : Int32} {s6 : Int32} {s7 : Nat} (m8 i8 : Nat) (g8 : Nat → Int64) (h9 : f s7 = .inl (3, m8, .inr (.inl g8))) (h10 : s7 < n) (h11 : mi_ix s6 m8 i8) (h12 : mi_W d 133 15 [some (.ref l1), some (.int l2), some (.ref l3), o4] [] (n, sl, (va_up f s7 (.inl (3, m8, .inr (.inl (vp_updL g8 i8 ((s5 : Int32).toInt64))))))) Q) : mi_W d 133 7 [some (.ref l1), some (.int l2), some (.ref l3), o4] [.int s5, .int s6, .ref s7] (n, sl, f) Q := by
  refine w_i2l cd_133_7 ?_
  refine w_lastore cd_133_8 h9 h10 h11 ?_
  exact w_goto cd_133_9 (by decide) h12
theorem b_133_12 {d : Nat} {Q : (Option Value ⊕ Nat) → mi_H → Prop} (n sl : Nat) (f : Nat → mi_C) {l1 : Nat} {l2 : Int32} {l3 : Nat} {o4 : Option Value} {s5 : Nat} (h6 : Q (.inl (some (.int 1))) (n, sl, f)) : mi_W d 133 12 [some (.ref l1), some (.int l2), some (.ref l3), o4] [.ref s5] (n, sl, f) Q := by
  refine w_astore_n (ls' := [some (.ref l1), some (.int l2), some (.ref l3), some (.ref s5)]) cd_133_12 (Nat.le_of_ble_eq_true rfl) rfl ?_
  refine w_iconst (v := 1) cd_133_13 (by decide) ?_
  exact w_ireturn_i cd_133_14 (by decide +kernel) h6
theorem b_133_15 {d : Nat} {Q : (Option Value ⊕ Nat) → mi_H → Prop} (n sl : Nat) (f : Nat → mi_C) {l1 : Nat} {l2 : Int32} {l3 : Nat} {o4 : Option Value} (h5 : Q (.inl (some (.int 0))) (n, sl, f)) : mi_W d 133 15 [some (.ref l1), some (.int l2), some (.ref l3), o4] [] (n, sl, f) Q := by
  refine w_iconst (v := 0) cd_133_15 (by decide) ?_
  exact w_ireturn_i cd_133_16 (by decide +kernel) h5
/-! MarloweHost.count(I)I -/
set_option maxRecDepth 100000 in
theorem mq_134 : mt_q 134 = my_134 := rfl
set_option maxRecDepth 100000 in
theorem ci_134 : mt_inc 0 my_134.cd = true := by decide +kernel
theorem cd_134_0 : mt_cd 134 0 = some (.iload_n 1) := mt_cd_of (q := (0, .iload_n 1, 1)) mq_134 ci_134 (List.mem_of_getElem? (i := 0) rfl)
theorem cd_134_1 : mt_cd 134 1 = some (.ifCond .lt 9) := mt_cd_of (q := (1, .ifCond .lt 9, 3)) mq_134 ci_134 (List.mem_of_getElem? (i := 1) rfl)
theorem cd_134_4 : mt_cd 134 4 = some (.iload_n 1) := mt_cd_of (q := (4, .iload_n 1, 1)) mq_134 ci_134 (List.mem_of_getElem? (i := 2) rfl)
theorem cd_134_5 : mt_cd 134 5 = some (.bipush 10) := mt_cd_of (q := (5, .bipush 10, 2)) mq_134 ci_134 (List.mem_of_getElem? (i := 3) rfl)
theorem cd_134_7 : mt_cd 134 7 = some (.if_icmp .le 13) := mt_cd_of (q := (7, .if_icmp .le 13, 3)) mq_134 ci_134 (List.mem_of_getElem? (i := 4) rfl)
theorem cd_134_10 : mt_cd 134 10 = some (.new 123) := mt_cd_of (q := (10, .new 123, 3)) mq_134 ci_134 (List.mem_of_getElem? (i := 5) rfl)
theorem cd_134_13 : mt_cd 134 13 = some (.dup) := mt_cd_of (q := (13, .dup, 1)) mq_134 ci_134 (List.mem_of_getElem? (i := 6) rfl)
theorem cd_134_14 : mt_cd 134 14 = some (.ldc 226) := mt_cd_of (q := (14, .ldc 226, 2)) mq_134 ci_134 (List.mem_of_getElem? (i := 7) rfl)
theorem cd_134_16 : mt_cd 134 16 = some (.invokespecial 127) := mt_cd_of (q := (16, .invokespecial 127, 3)) mq_134 ci_134 (List.mem_of_getElem? (i := 8) rfl)
theorem cd_134_19 : mt_cd 134 19 = some (.athrow) := mt_cd_of (q := (19, .athrow, 1)) mq_134 ci_134 (List.mem_of_getElem? (i := 9) rfl)
theorem cd_134_20 : mt_cd 134 20 = some (.iload_n 1) := mt_cd_of (q := (20, .iload_n 1, 1)) mq_134 ci_134 (List.mem_of_getElem? (i := 10) rfl)
theorem cd_134_21 : mt_cd 134 21 = some (.tableswitch 124 0 10 #[59, 124, 124, 124, 124, 124, 78, 86, 97, 108, 116]) := mt_cd_of (q := (21, .tableswitch 124 0 10 #[59, 124, 124, 124, 124, 124, 78, 86, 97, 108, 116], 59)) mq_134 ci_134 (List.mem_of_getElem? (i := 11) rfl)
theorem cd_134_80 : mt_cd 134 80 = some (.aload_n 0) := mt_cd_of (q := (80, .aload_n 0, 1)) mq_134 ci_134 (List.mem_of_getElem? (i := 12) rfl)
theorem cd_134_81 : mt_cd 134 81 = some (.getfield 94) := mt_cd_of (q := (81, .getfield 94, 3)) mq_134 ci_134 (List.mem_of_getElem? (i := 13) rfl)
theorem cd_134_84 : mt_cd 134 84 = some (.ifCond .eq 13) := mt_cd_of (q := (84, .ifCond .eq 13, 3)) mq_134 ci_134 (List.mem_of_getElem? (i := 14) rfl)
theorem cd_134_87 : mt_cd 134 87 = some (.aload_n 0) := mt_cd_of (q := (87, .aload_n 0, 1)) mq_134 ci_134 (List.mem_of_getElem? (i := 15) rfl)
theorem cd_134_88 : mt_cd 134 88 = some (.getfield 67) := mt_cd_of (q := (88, .getfield 67, 3)) mq_134 ci_134 (List.mem_of_getElem? (i := 16) rfl)
theorem cd_134_91 : mt_cd 134 91 = some (.getfield 228) := mt_cd_of (q := (91, .getfield 228, 3)) mq_134 ci_134 (List.mem_of_getElem? (i := 17) rfl)
theorem cd_134_94 : mt_cd 134 94 = some (.goto 4) := mt_cd_of (q := (94, .goto 4, 3)) mq_134 ci_134 (List.mem_of_getElem? (i := 18) rfl)
theorem cd_134_97 : mt_cd 134 97 = some (.iconst (-1)) := mt_cd_of (q := (97, .iconst (-1), 1)) mq_134 ci_134 (List.mem_of_getElem? (i := 19) rfl)
theorem cd_134_98 : mt_cd 134 98 = some (.ireturn) := mt_cd_of (q := (98, .ireturn, 1)) mq_134 ci_134 (List.mem_of_getElem? (i := 20) rfl)
theorem cd_134_99 : mt_cd 134 99 = some (.aload_n 0) := mt_cd_of (q := (99, .aload_n 0, 1)) mq_134 ci_134 (List.mem_of_getElem? (i := 21) rfl)
theorem cd_134_100 : mt_cd 134 100 = some (.getfield 42) := mt_cd_of (q := (100, .getfield 42, 3)) mq_134 ci_134 (List.mem_of_getElem? (i := 22) rfl)
theorem cd_134_103 : mt_cd 134 103 = some (.getfield 91) := mt_cd_of (q := (103, .getfield 91, 3)) mq_134 ci_134 (List.mem_of_getElem? (i := 23) rfl)
theorem cd_134_106 : mt_cd 134 106 = some (.ireturn) := mt_cd_of (q := (106, .ireturn, 1)) mq_134 ci_134 (List.mem_of_getElem? (i := 24) rfl)
theorem cd_134_107 : mt_cd 134 107 = some (.aload_n 0) := mt_cd_of (q := (107, .aload_n 0, 1)) mq_134 ci_134 (List.mem_of_getElem? (i := 25) rfl)
theorem cd_134_108 : mt_cd 134 108 = some (.getfield 51) := mt_cd_of (q := (108, .getfield 51, 3)) mq_134 ci_134 (List.mem_of_getElem? (i := 26) rfl)
theorem cd_134_111 : mt_cd 134 111 = some (.getfield 156) := mt_cd_of (q := (111, .getfield 156, 3)) mq_134 ci_134 (List.mem_of_getElem? (i := 27) rfl)
theorem cd_134_114 : mt_cd 134 114 = some (.getfield 160) := mt_cd_of (q := (114, .getfield 160, 3)) mq_134 ci_134 (List.mem_of_getElem? (i := 28) rfl)
theorem cd_134_117 : mt_cd 134 117 = some (.ireturn) := mt_cd_of (q := (117, .ireturn, 1)) mq_134 ci_134 (List.mem_of_getElem? (i := 29) rfl)
theorem cd_134_118 : mt_cd 134 118 = some (.aload_n 0) := mt_cd_of (q := (118, .aload_n 0, 1)) mq_134 ci_134 (List.mem_of_getElem? (i := 30) rfl)
theorem cd_134_119 : mt_cd 134 119 = some (.getfield 51) := mt_cd_of (q := (119, .getfield 51, 3)) mq_134 ci_134 (List.mem_of_getElem? (i := 31) rfl)
theorem cd_134_122 : mt_cd 134 122 = some (.getfield 156) := mt_cd_of (q := (122, .getfield 156, 3)) mq_134 ci_134 (List.mem_of_getElem? (i := 32) rfl)
theorem cd_134_125 : mt_cd 134 125 = some (.getfield 165) := mt_cd_of (q := (125, .getfield 165, 3)) mq_134 ci_134 (List.mem_of_getElem? (i := 33) rfl)
theorem cd_134_128 : mt_cd 134 128 = some (.ireturn) := mt_cd_of (q := (128, .ireturn, 1)) mq_134 ci_134 (List.mem_of_getElem? (i := 34) rfl)
theorem cd_134_129 : mt_cd 134 129 = some (.aload_n 0) := mt_cd_of (q := (129, .aload_n 0, 1)) mq_134 ci_134 (List.mem_of_getElem? (i := 35) rfl)
theorem cd_134_130 : mt_cd 134 130 = some (.getfield 60) := mt_cd_of (q := (130, .getfield 60, 3)) mq_134 ci_134 (List.mem_of_getElem? (i := 36) rfl)
theorem cd_134_133 : mt_cd 134 133 = some (.getfield 231) := mt_cd_of (q := (133, .getfield 231, 3)) mq_134 ci_134 (List.mem_of_getElem? (i := 37) rfl)
theorem cd_134_136 : mt_cd 134 136 = some (.ireturn) := mt_cd_of (q := (136, .ireturn, 1)) mq_134 ci_134 (List.mem_of_getElem? (i := 38) rfl)
theorem cd_134_137 : mt_cd 134 137 = some (.aload_n 0) := mt_cd_of (q := (137, .aload_n 0, 1)) mq_134 ci_134 (List.mem_of_getElem? (i := 39) rfl)
theorem cd_134_138 : mt_cd 134 138 = some (.getfield 60) := mt_cd_of (q := (138, .getfield 60, 3)) mq_134 ci_134 (List.mem_of_getElem? (i := 40) rfl)
theorem cd_134_141 : mt_cd 134 141 = some (.getfield 212) := mt_cd_of (q := (141, .getfield 212, 3)) mq_134 ci_134 (List.mem_of_getElem? (i := 41) rfl)
theorem cd_134_144 : mt_cd 134 144 = some (.ireturn) := mt_cd_of (q := (144, .ireturn, 1)) mq_134 ci_134 (List.mem_of_getElem? (i := 42) rfl)
theorem cd_134_145 : mt_cd 134 145 = some (.aload_n 0) := mt_cd_of (q := (145, .aload_n 0, 1)) mq_134 ci_134 (List.mem_of_getElem? (i := 43) rfl)
theorem cd_134_146 : mt_cd 134 146 = some (.getfield 94) := mt_cd_of (q := (146, .getfield 94, 3)) mq_134 ci_134 (List.mem_of_getElem? (i := 44) rfl)
theorem cd_134_149 : mt_cd 134 149 = some (.ifCond .eq 11) := mt_cd_of (q := (149, .ifCond .eq 11, 3)) mq_134 ci_134 (List.mem_of_getElem? (i := 45) rfl)
theorem cd_134_152 : mt_cd 134 152 = some (.aload_n 0) := mt_cd_of (q := (152, .aload_n 0, 1)) mq_134 ci_134 (List.mem_of_getElem? (i := 46) rfl)
theorem cd_134_153 : mt_cd 134 153 = some (.iload_n 1) := mt_cd_of (q := (153, .iload_n 1, 1)) mq_134 ci_134 (List.mem_of_getElem? (i := 47) rfl)
theorem cd_134_154 : mt_cd 134 154 = some (.invokevirtual 234) := mt_cd_of (q := (154, .invokevirtual 234, 3)) mq_134 ci_134 (List.mem_of_getElem? (i := 48) rfl)
theorem cd_134_157 : mt_cd 134 157 = some (.goto 4) := mt_cd_of (q := (157, .goto 4, 3)) mq_134 ci_134 (List.mem_of_getElem? (i := 49) rfl)
theorem cd_134_160 : mt_cd 134 160 = some (.iconst 0) := mt_cd_of (q := (160, .iconst 0, 1)) mq_134 ci_134 (List.mem_of_getElem? (i := 50) rfl)
theorem cd_134_161 : mt_cd 134 161 = some (.ireturn) := mt_cd_of (q := (161, .ireturn, 1)) mq_134 ci_134 (List.mem_of_getElem? (i := 51) rfl)
theorem b_134_0 {d : Nat} {Q : (Option Value ⊕ Nat) → mi_H → Prop} (n sl : Nat) (f : Nat → mi_C) {l1 : Nat} {l2 : Int32} (h3 : l2 < (0 : Int32) → mi_W d 134 10 [some (.ref l1), some (.int l2)] [] (n, sl, f) Q) (h4 : ¬ (l2 < (0 : Int32)) → mi_W d 134 4 [some (.ref l1), some (.int l2)] [] (n, sl, f) Q) : mi_W d 134 0 [some (.ref l1), some (.int l2)] [] (n, sl, f) Q := by
  refine w_iload_n cd_134_0 rfl ?_
  exact w_iflt cd_134_1 (by decide) h3 h4
theorem b_134_4 {d : Nat} {Q : (Option Value ⊕ Nat) → mi_H → Prop} (n sl : Nat) (f : Nat → mi_C) {l1 : Nat} {l2 : Int32} (h3 : l2 ≤ 10 → mi_W d 134 20 [some (.ref l1), some (.int l2)] [] (n, sl, f) Q) (h4 : ¬ (l2 ≤ 10) → mi_W d 134 10 [some (.ref l1), some (.int l2)] [] (n, sl, f) Q) : mi_W d 134 4 [some (.ref l1), some (.int l2)] [] (n, sl, f) Q := by
  refine w_iload_n cd_134_4 rfl ?_
  refine w_bipush (v := 10) cd_134_5 (by decide) ?_
  exact w_if_icmple cd_134_7 (by decide) h3 h4
theorem b_134_10 {d : Nat} {Q : (Option Value ⊕ Nat) → mi_H → Prop} (n sl : Nat) (f : Nat → mi_C) {l1 : Nat} {l2 : Int32} {h' : mi_H} (h3 : mi_t 134 10 (.new 123) [] (n, sl, f) = some h') (h4 : Q (.inr n) h') : mi_W d 134 10 [some (.ref l1), some (.int l2)] [] (n, sl, f) Q := by
  exact w_throw cd_134_10 (show mt_c 0 123 = some 15 by decide +kernel) (by decide) h3 h4
theorem b_134_20 {d : Nat} {Q : (Option Value ⊕ Nat) → mi_H → Prop} (n sl : Nat) (f : Nat → mi_C) {l1 : Nat} {l2 : Int32} {t3 : Nat} (h4 : mi_ts 21 124 0 10 #[59, 124, 124, 124, 124, 124, 78, 86, 97, 108, 116] (l2 : Int32).toInt = some t3) (h5 : mi_W d 134 t3 [some (.ref l1), some (.int l2)] [] (n, sl, f) Q) : mi_W d 134 20 [some (.ref l1), some (.int l2)] [] (n, sl, f) Q := by
  refine w_iload_n cd_134_20 rfl ?_
  exact w_tableswitch cd_134_21 h4 h5
theorem b_134_80 {d : Nat} {Q : (Option Value ⊕ Nat) → mi_H → Prop} (n sl : Nat) (f : Nat → mi_C) {l1 : Nat} {l2 : Int32} {fs3 : List Value} {x6 : Int32} (h4 : f l1 = .inr (0, fs3)) (h5 : l1 < n) (h7 : fs3[9]? = some (.int x6)) (h8 : x6 = (0 : Int32) → mi_W d 134 97 [some (.ref l1), some (.int l2)] [] (n, sl, f) Q) (h9 : ¬ (x6 = (0 : Int32)) → mi_W d 134 87 [some (.ref l1), some (.int l2)] [] (n, sl, f) Q) : mi_W d 134 80 [some (.ref l1), some (.int l2)] [] (n, sl, f) Q := by
  refine w_aload_n cd_134_80 rfl ?_
  refine w_getfield cd_134_81 (show mt_f 0 94 = some (0, 9) by decide +kernel) h4 h5 h7 ?_
  exact w_ifeq cd_134_84 (by decide) h8 h9
theorem b_134_87 {d : Nat} {Q : (Option Value ⊕ Nat) → mi_H → Prop} (n sl : Nat) (f : Nat → mi_C) {l1 : Nat} {l2 : Int32} {fs3 : List Value} {x6 : Nat} {fs8 : List Value} {x11 : Int32} (h4 : f l1 = .inr (0, fs3)) (h5 : l1 < n) (h7 : fs3[7]? = some (.ref x6)) (h9 : f x6 = .inr (9, fs8)) (h10 : x6 < n) (h12 : fs8[0]? = some (.int x11)) (h13 : mi_W d 134 98 [some (.ref l1), some (.int l2)] [.int x11] (n, sl, f) Q) : mi_W d 134 87 [some (.ref l1), some (.int l2)] [] (n, sl, f) Q := by
  refine w_aload_n cd_134_87 rfl ?_
  refine w_getfield cd_134_88 (show mt_f 0 67 = some (0, 7) by decide +kernel) h4 h5 h7 ?_
  refine w_getfield cd_134_91 (show mt_f 0 228 = some (9, 0) by decide +kernel) h9 h10 h12 ?_
  exact w_goto cd_134_94 (by decide) h13
theorem b_134_97 {d : Nat} {Q : (Option Value ⊕ Nat) → mi_H → Prop} (n sl : Nat) (f : Nat → mi_C) {l1 : Nat} {l2 : Int32} (h3 : mi_W d 134 98 [some (.ref l1), some (.int l2)] [.int (-1)] (n, sl, f) Q) : mi_W d 134 97 [some (.ref l1), some (.int l2)] [] (n, sl, f) Q := by
  refine w_iconst (v := (-1)) cd_134_97 (by decide) ?_
  exact h3
theorem b_134_98 {d : Nat} {Q : (Option Value ⊕ Nat) → mi_H → Prop} (n sl : Nat) (f : Nat → mi_C) {l1 : Nat} {l2 : Int32} {s3 : Int32} (h4 : Q (.inl (some (.int s3))) (n, sl, f)) : mi_W d 134 98 [some (.ref l1), some (.int l2)] [.int s3] (n, sl, f) Q := by
  exact w_ireturn_i cd_134_98 (by decide +kernel) h4
theorem b_134_99 {d : Nat} {Q : (Option Value ⊕ Nat) → mi_H → Prop} (n sl : Nat) (f : Nat → mi_C) {l1 : Nat} {l2 : Int32} {fs3 : List Value} {x6 : Nat} {fs8 : List Value} {x11 : Int32} (h4 : f l1 = .inr (0, fs3)) (h5 : l1 < n) (h7 : fs3[4]? = some (.ref x6)) (h9 : f x6 = .inr (6, fs8)) (h10 : x6 < n) (h12 : fs8[5]? = some (.int x11)) (h13 : Q (.inl (some (.int x11))) (n, sl, f)) : mi_W d 134 99 [some (.ref l1), some (.int l2)] [] (n, sl, f) Q := by
  refine w_aload_n cd_134_99 rfl ?_
  refine w_getfield cd_134_100 (show mt_f 0 42 = some (0, 4) by decide +kernel) h4 h5 h7 ?_
  refine w_getfield cd_134_103 (show mt_f 0 91 = some (6, 5) by decide +kernel) h9 h10 h12 ?_
  exact w_ireturn_i cd_134_106 (by decide +kernel) h13
theorem b_134_107 {d : Nat} {Q : (Option Value ⊕ Nat) → mi_H → Prop} (n sl : Nat) (f : Nat → mi_C) {l1 : Nat} {l2 : Int32} {fs3 : List Value} {x6 : Nat} {fs8 : List Value} {x11 : Nat} {fs13 : List Value} {x16 : Int32} (h4 : f l1 = .inr (0, fs3)) (h5 : l1 < n) (h7 : fs3[5]? = some (.ref x6)) (h9 : f x6 = .inr (7, fs8)) (h10 : x6 < n) (h12 : fs8[7]? = some (.ref x11)) (h14 : f x11 = .inr (8, fs13)) (h15 : x11 < n) (h17 : fs13[6]? = some (.int x16)) (h18 : Q (.inl (some (.int x16))) (n, sl, f)) : mi_W d 134 107 [some (.ref l1), some (.int l2)] [] (n, sl, f) Q := by
  refine w_aload_n cd_134_107 rfl ?_
  refine w_getfield cd_134_108 (show mt_f 0 51 = some (0, 5) by decide +kernel) h4 h5 h7 ?_
  refine w_getfield cd_134_111 (show mt_f 0 156 = some (7, 7) by decide +kernel) h9 h10 h12 ?_
  refine w_getfield cd_134_114 (show mt_f 0 160 = some (8, 6) by decide +kernel) h14 h15 h17 ?_
  exact w_ireturn_i cd_134_117 (by decide +kernel) h18
theorem b_134_118 {d : Nat} {Q : (Option Value ⊕ Nat) → mi_H → Prop} (n sl : Nat) (f : Nat → mi_C) {l1 : Nat} {l2 : Int32} {fs3 : List Value} {x6 : Nat} {fs8 : List Value} {x11 : Nat} {fs13 : List Value} {x16 : Int32} (h4 : f l1 = .inr (0, fs3)) (h5 : l1 < n) (h7 : fs3[5]? = some (.ref x6)) (h9 : f x6 = .inr (7, fs8)) (h10 : x6 < n) (h12 : fs8[7]? = some (.ref x11)) (h14 : f x11 = .inr (8, fs13)) (h15 : x11 < n) (h17 : fs13[7]? = some (.int x16)) (h18 : Q (.inl (some (.int x16))) (n, sl, f)) : mi_W d 134 118 [some (.ref l1), some (.int l2)] [] (n, sl, f) Q := by
  refine w_aload_n cd_134_118 rfl ?_
  refine w_getfield cd_134_119 (show mt_f 0 51 = some (0, 5) by decide +kernel) h4 h5 h7 ?_
  refine w_getfield cd_134_122 (show mt_f 0 156 = some (7, 7) by decide +kernel) h9 h10 h12 ?_
  refine w_getfield cd_134_125 (show mt_f 0 165 = some (8, 7) by decide +kernel) h14 h15 h17 ?_
  exact w_ireturn_i cd_134_128 (by decide +kernel) h18
theorem b_134_129 {d : Nat} {Q : (Option Value ⊕ Nat) → mi_H → Prop} (n sl : Nat) (f : Nat → mi_C) {l1 : Nat} {l2 : Int32} {fs3 : List Value} {x6 : Nat} {fs8 : List Value} {x11 : Int32} (h4 : f l1 = .inr (0, fs3)) (h5 : l1 < n) (h7 : fs3[6]? = some (.ref x6)) (h9 : f x6 = .inr (11, fs8)) (h10 : x6 < n) (h12 : fs8[10]? = some (.int x11)) (h13 : Q (.inl (some (.int x11))) (n, sl, f)) : mi_W d 134 129 [some (.ref l1), some (.int l2)] [] (n, sl, f) Q := by
  refine w_aload_n cd_134_129 rfl ?_
  refine w_getfield cd_134_130 (show mt_f 0 60 = some (0, 6) by decide +kernel) h4 h5 h7 ?_
  refine w_getfield cd_134_133 (show mt_f 0 231 = some (11, 10) by decide +kernel) h9 h10 h12 ?_
  exact w_ireturn_i cd_134_136 (by decide +kernel) h13
theorem b_134_137 {d : Nat} {Q : (Option Value ⊕ Nat) → mi_H → Prop} (n sl : Nat) (f : Nat → mi_C) {l1 : Nat} {l2 : Int32} {fs3 : List Value} {x6 : Nat} {fs8 : List Value} {x11 : Int32} (h4 : f l1 = .inr (0, fs3)) (h5 : l1 < n) (h7 : fs3[6]? = some (.ref x6)) (h9 : f x6 = .inr (11, fs8)) (h10 : x6 < n) (h12 : fs8[11]? = some (.int x11)) (h13 : Q (.inl (some (.int x11))) (n, sl, f)) : mi_W d 134 137 [some (.ref l1), some (.int l2)] [] (n, sl, f) Q := by
  refine w_aload_n cd_134_137 rfl ?_
  refine w_getfield cd_134_138 (show mt_f 0 60 = some (0, 6) by decide +kernel) h4 h5 h7 ?_
  refine w_getfield cd_134_141 (show mt_f 0 212 = some (11, 11) by decide +kernel) h9 h10 h12 ?_
  exact w_ireturn_i cd_134_144 (by decide +kernel) h13
theorem b_134_145 {d : Nat} {Q : (Option Value ⊕ Nat) → mi_H → Prop} (n sl : Nat) (f : Nat → mi_C) {l1 : Nat} {l2 : Int32} {fs3 : List Value} {x6 : Int32} (h4 : f l1 = .inr (0, fs3)) (h5 : l1 < n) (h7 : fs3[9]? = some (.int x6)) (h8 : x6 = (0 : Int32) → mi_W d 134 160 [some (.ref l1), some (.int l2)] [] (n, sl, f) Q) (h9 : ¬ (x6 = (0 : Int32)) → mi_W d 134 152 [some (.ref l1), some (.int l2)] [] (n, sl, f) Q) : mi_W d 134 145 [some (.ref l1), some (.int l2)] [] (n, sl, f) Q := by
  refine w_aload_n cd_134_145 rfl ?_
  refine w_getfield cd_134_146 (show mt_f 0 94 = some (0, 9) by decide +kernel) h4 h5 h7 ?_
  exact w_ifeq cd_134_149 (by decide) h8 h9
theorem b_134_152 {d : Nat} {Q : (Option Value ⊕ Nat) → mi_H → Prop} (n sl : Nat) (f : Nat → mi_C) {l1 : Nat} {l2 : Int32} {fs3 : List Value} (h4 : f l1 = .inr (0, fs3)) (h5 : l1 < n) (h6 : mi_W d 135 0 (mi_en 2 [.ref l1, .int l2]) [] (n, sl, f) (mi_Kc d 134 154 [some (.ref l1), some (.int l2)] [] Q)) : mi_W (d + 1) 134 152 [some (.ref l1), some (.int l2)] [] (n, sl, f) Q := by
  refine w_aload_n cd_134_152 rfl ?_
  refine w_iload_n cd_134_153 rfl ?_
  exact w_invokevirtual cd_134_154 (show mt_m 0 234 = some (135, 0) by decide +kernel) (rest := []) rfl (as := [.ref l1, .int l2]) rfl h4 (Or.inl h5) ⟨Nat.le_of_ble_eq_true rfl, Nat.le_of_ble_eq_true rfl, Nat.le_of_ble_eq_true rfl⟩ h6
theorem b_134_157 {d : Nat} {Q : (Option Value ⊕ Nat) → mi_H → Prop} (n sl : Nat) (f : Nat → mi_C) {l1 : Nat} {l2 : Int32} {s3 : Int32} (h4 : mi_W d 134 161 [some (.ref l1), some (.int l2)] [.int s3] (n, sl, f) Q) : mi_W d 134 157 [some (.ref l1), some (.int l2)] [.int s3] (n, sl, f) Q := by
  exact w_goto cd_134_157 (by decide) h4
theorem b_134_160 {d : Nat} {Q : (Option Value ⊕ Nat) → mi_H → Prop} (n sl : Nat) (f : Nat → mi_C) {l1 : Nat} {l2 : Int32} (h3 : mi_W d 134 161 [some (.ref l1), some (.int l2)] [.int 0] (n, sl, f) Q) : mi_W d 134 160 [some (.ref l1), some (.int l2)] [] (n, sl, f) Q := by
  refine w_iconst (v := 0) cd_134_160 (by decide) ?_
  exact h3
theorem b_134_161 {d : Nat} {Q : (Option Value ⊕ Nat) → mi_H → Prop} (n sl : Nat) (f : Nat → mi_C) {l1 : Nat} {l2 : Int32} {s3 : Int32} (h4 : Q (.inl (some (.int s3))) (n, sl, f)) : mi_W d 134 161 [some (.ref l1), some (.int l2)] [.int s3] (n, sl, f) Q := by
  exact w_ireturn_i cd_134_161 (by decide +kernel) h4
/-! MarloweHost.countInText(I)I -/
set_option maxRecDepth 100000 in
theorem mq_135 : mt_q 135 = my_135 := rfl
set_option maxRecDepth 100000 in
theorem ci_135 : mt_inc 0 my_135.cd = true := by decide +kernel
theorem cd_135_0 : mt_cd 135 0 = some (.iload_n 1) := mt_cd_of (q := (0, .iload_n 1, 1)) mq_135 ci_135 (List.mem_of_getElem? (i := 0) rfl)
theorem cd_135_1 : mt_cd 135 1 = some (.tableswitch 72 1 4 #[31, 39, 50, 61]) := mt_cd_of (q := (1, .tableswitch 72 1 4 #[31, 39, 50, 61], 31)) mq_135 ci_135 (List.mem_of_getElem? (i := 1) rfl)
theorem cd_135_32 : mt_cd 135 32 = some (.aload_n 0) := mt_cd_of (q := (32, .aload_n 0, 1)) mq_135 ci_135 (List.mem_of_getElem? (i := 2) rfl)
theorem cd_135_33 : mt_cd 135 33 = some (.getfield 19) := mt_cd_of (q := (33, .getfield 19, 3)) mq_135 ci_135 (List.mem_of_getElem? (i := 3) rfl)
theorem cd_135_36 : mt_cd 135 36 = some (.getfield 110) := mt_cd_of (q := (36, .getfield 110, 3)) mq_135 ci_135 (List.mem_of_getElem? (i := 4) rfl)
theorem cd_135_39 : mt_cd 135 39 = some (.ireturn) := mt_cd_of (q := (39, .ireturn, 1)) mq_135 ci_135 (List.mem_of_getElem? (i := 5) rfl)
theorem cd_135_40 : mt_cd 135 40 = some (.aload_n 0) := mt_cd_of (q := (40, .aload_n 0, 1)) mq_135 ci_135 (List.mem_of_getElem? (i := 6) rfl)
theorem cd_135_41 : mt_cd 135 41 = some (.getfield 28) := mt_cd_of (q := (41, .getfield 28, 3)) mq_135 ci_135 (List.mem_of_getElem? (i := 7) rfl)
theorem cd_135_44 : mt_cd 135 44 = some (.getfield 237) := mt_cd_of (q := (44, .getfield 237, 3)) mq_135 ci_135 (List.mem_of_getElem? (i := 8) rfl)
theorem cd_135_47 : mt_cd 135 47 = some (.getfield 241) := mt_cd_of (q := (47, .getfield 241, 3)) mq_135 ci_135 (List.mem_of_getElem? (i := 9) rfl)
theorem cd_135_50 : mt_cd 135 50 = some (.ireturn) := mt_cd_of (q := (50, .ireturn, 1)) mq_135 ci_135 (List.mem_of_getElem? (i := 10) rfl)
theorem cd_135_51 : mt_cd 135 51 = some (.aload_n 0) := mt_cd_of (q := (51, .aload_n 0, 1)) mq_135 ci_135 (List.mem_of_getElem? (i := 11) rfl)
theorem cd_135_52 : mt_cd 135 52 = some (.getfield 28) := mt_cd_of (q := (52, .getfield 28, 3)) mq_135 ci_135 (List.mem_of_getElem? (i := 12) rfl)
theorem cd_135_55 : mt_cd 135 55 = some (.getfield 244) := mt_cd_of (q := (55, .getfield 244, 3)) mq_135 ci_135 (List.mem_of_getElem? (i := 13) rfl)
theorem cd_135_58 : mt_cd 135 58 = some (.getfield 241) := mt_cd_of (q := (58, .getfield 241, 3)) mq_135 ci_135 (List.mem_of_getElem? (i := 14) rfl)
theorem cd_135_61 : mt_cd 135 61 = some (.ireturn) := mt_cd_of (q := (61, .ireturn, 1)) mq_135 ci_135 (List.mem_of_getElem? (i := 15) rfl)
theorem cd_135_62 : mt_cd 135 62 = some (.aload_n 0) := mt_cd_of (q := (62, .aload_n 0, 1)) mq_135 ci_135 (List.mem_of_getElem? (i := 16) rfl)
theorem cd_135_63 : mt_cd 135 63 = some (.getfield 28) := mt_cd_of (q := (63, .getfield 28, 3)) mq_135 ci_135 (List.mem_of_getElem? (i := 17) rfl)
theorem cd_135_66 : mt_cd 135 66 = some (.getfield 247) := mt_cd_of (q := (66, .getfield 247, 3)) mq_135 ci_135 (List.mem_of_getElem? (i := 18) rfl)
theorem cd_135_69 : mt_cd 135 69 = some (.getfield 241) := mt_cd_of (q := (69, .getfield 241, 3)) mq_135 ci_135 (List.mem_of_getElem? (i := 19) rfl)
theorem cd_135_72 : mt_cd 135 72 = some (.ireturn) := mt_cd_of (q := (72, .ireturn, 1)) mq_135 ci_135 (List.mem_of_getElem? (i := 20) rfl)
theorem cd_135_73 : mt_cd 135 73 = some (.aload_n 0) := mt_cd_of (q := (73, .aload_n 0, 1)) mq_135 ci_135 (List.mem_of_getElem? (i := 21) rfl)
theorem cd_135_74 : mt_cd 135 74 = some (.getfield 28) := mt_cd_of (q := (74, .getfield 28, 3)) mq_135 ci_135 (List.mem_of_getElem? (i := 22) rfl)
theorem cd_135_77 : mt_cd 135 77 = some (.getfield 250) := mt_cd_of (q := (77, .getfield 250, 3)) mq_135 ci_135 (List.mem_of_getElem? (i := 23) rfl)
theorem cd_135_80 : mt_cd 135 80 = some (.getfield 241) := mt_cd_of (q := (80, .getfield 241, 3)) mq_135 ci_135 (List.mem_of_getElem? (i := 24) rfl)
theorem cd_135_83 : mt_cd 135 83 = some (.ireturn) := mt_cd_of (q := (83, .ireturn, 1)) mq_135 ci_135 (List.mem_of_getElem? (i := 25) rfl)
theorem b_135_0 {d : Nat} {Q : (Option Value ⊕ Nat) → mi_H → Prop} (n sl : Nat) (f : Nat → mi_C) {l1 : Nat} {l2 : Int32} {t3 : Nat} (h4 : mi_ts 1 72 1 4 #[31, 39, 50, 61] (l2 : Int32).toInt = some t3) (h5 : mi_W d 135 t3 [some (.ref l1), some (.int l2)] [] (n, sl, f) Q) : mi_W d 135 0 [some (.ref l1), some (.int l2)] [] (n, sl, f) Q := by
  refine w_iload_n cd_135_0 rfl ?_
  exact w_tableswitch cd_135_1 h4 h5
theorem b_135_32 {d : Nat} {Q : (Option Value ⊕ Nat) → mi_H → Prop} (n sl : Nat) (f : Nat → mi_C) {l1 : Nat} {l2 : Int32} {fs3 : List Value} {x6 : Nat} {fs8 : List Value} {x11 : Int32} (h4 : f l1 = .inr (0, fs3)) (h5 : l1 < n) (h7 : fs3[1]? = some (.ref x6)) (h9 : f x6 = .inr (2, fs8)) (h10 : x6 < n) (h12 : fs8[11]? = some (.int x11)) (h13 : Q (.inl (some (.int x11))) (n, sl, f)) : mi_W d 135 32 [some (.ref l1), some (.int l2)] [] (n, sl, f) Q := by
  refine w_aload_n cd_135_32 rfl ?_
  refine w_getfield cd_135_33 (show mt_f 0 19 = some (0, 1) by decide +kernel) h4 h5 h7 ?_
  refine w_getfield cd_135_36 (show mt_f 0 110 = some (2, 11) by decide +kernel) h9 h10 h12 ?_
  exact w_ireturn_i cd_135_39 (by decide +kernel) h13
theorem b_135_40 {d : Nat} {Q : (Option Value ⊕ Nat) → mi_H → Prop} (n sl : Nat) (f : Nat → mi_C) {l1 : Nat} {l2 : Int32} {fs3 : List Value} {x6 : Nat} {fs8 : List Value} {x11 : Nat} {fs13 : List Value} {x16 : Int32} (h4 : f l1 = .inr (0, fs3)) (h5 : l1 < n) (h7 : fs3[2]? = some (.ref x6)) (h9 : f x6 = .inr (3, fs8)) (h10 : x6 < n) (h12 : fs8[2]? = some (.ref x11)) (h14 : f x11 = .inr (4, fs13)) (h15 : x11 < n) (h17 : fs13[4]? = some (.int x16)) (h18 : Q (.inl (some (.int x16))) (n, sl, f)) : mi_W d 135 40 [some (.ref l1), some (.int l2)] [] (n, sl, f) Q := by
  refine w_aload_n cd_135_40 rfl ?_
  refine w_getfield cd_135_41 (show mt_f 0 28 = some (0, 2) by decide +kernel) h4 h5 h7 ?_
  refine w_getfield cd_135_44 (show mt_f 0 237 = some (3, 2) by decide +kernel) h9 h10 h12 ?_
  refine w_getfield cd_135_47 (show mt_f 0 241 = some (4, 4) by decide +kernel) h14 h15 h17 ?_
  exact w_ireturn_i cd_135_50 (by decide +kernel) h18
theorem b_135_51 {d : Nat} {Q : (Option Value ⊕ Nat) → mi_H → Prop} (n sl : Nat) (f : Nat → mi_C) {l1 : Nat} {l2 : Int32} {fs3 : List Value} {x6 : Nat} {fs8 : List Value} {x11 : Nat} {fs13 : List Value} {x16 : Int32} (h4 : f l1 = .inr (0, fs3)) (h5 : l1 < n) (h7 : fs3[2]? = some (.ref x6)) (h9 : f x6 = .inr (3, fs8)) (h10 : x6 < n) (h12 : fs8[3]? = some (.ref x11)) (h14 : f x11 = .inr (4, fs13)) (h15 : x11 < n) (h17 : fs13[4]? = some (.int x16)) (h18 : Q (.inl (some (.int x16))) (n, sl, f)) : mi_W d 135 51 [some (.ref l1), some (.int l2)] [] (n, sl, f) Q := by
  refine w_aload_n cd_135_51 rfl ?_
  refine w_getfield cd_135_52 (show mt_f 0 28 = some (0, 2) by decide +kernel) h4 h5 h7 ?_
  refine w_getfield cd_135_55 (show mt_f 0 244 = some (3, 3) by decide +kernel) h9 h10 h12 ?_
  refine w_getfield cd_135_58 (show mt_f 0 241 = some (4, 4) by decide +kernel) h14 h15 h17 ?_
  exact w_ireturn_i cd_135_61 (by decide +kernel) h18
theorem b_135_62 {d : Nat} {Q : (Option Value ⊕ Nat) → mi_H → Prop} (n sl : Nat) (f : Nat → mi_C) {l1 : Nat} {l2 : Int32} {fs3 : List Value} {x6 : Nat} {fs8 : List Value} {x11 : Nat} {fs13 : List Value} {x16 : Int32} (h4 : f l1 = .inr (0, fs3)) (h5 : l1 < n) (h7 : fs3[2]? = some (.ref x6)) (h9 : f x6 = .inr (3, fs8)) (h10 : x6 < n) (h12 : fs8[4]? = some (.ref x11)) (h14 : f x11 = .inr (4, fs13)) (h15 : x11 < n) (h17 : fs13[4]? = some (.int x16)) (h18 : Q (.inl (some (.int x16))) (n, sl, f)) : mi_W d 135 62 [some (.ref l1), some (.int l2)] [] (n, sl, f) Q := by
  refine w_aload_n cd_135_62 rfl ?_
  refine w_getfield cd_135_63 (show mt_f 0 28 = some (0, 2) by decide +kernel) h4 h5 h7 ?_
  refine w_getfield cd_135_66 (show mt_f 0 247 = some (3, 4) by decide +kernel) h9 h10 h12 ?_
  refine w_getfield cd_135_69 (show mt_f 0 241 = some (4, 4) by decide +kernel) h14 h15 h17 ?_
  exact w_ireturn_i cd_135_72 (by decide +kernel) h18
theorem b_135_73 {d : Nat} {Q : (Option Value ⊕ Nat) → mi_H → Prop} (n sl : Nat) (f : Nat → mi_C) {l1 : Nat} {l2 : Int32} {fs3 : List Value} {x6 : Nat} {fs8 : List Value} {x11 : Nat} {fs13 : List Value} {x16 : Int32} (h4 : f l1 = .inr (0, fs3)) (h5 : l1 < n) (h7 : fs3[2]? = some (.ref x6)) (h9 : f x6 = .inr (3, fs8)) (h10 : x6 < n) (h12 : fs8[5]? = some (.ref x11)) (h14 : f x11 = .inr (4, fs13)) (h15 : x11 < n) (h17 : fs13[4]? = some (.int x16)) (h18 : Q (.inl (some (.int x16))) (n, sl, f)) : mi_W d 135 73 [some (.ref l1), some (.int l2)] [] (n, sl, f) Q := by
  refine w_aload_n cd_135_73 rfl ?_
  refine w_getfield cd_135_74 (show mt_f 0 28 = some (0, 2) by decide +kernel) h4 h5 h7 ?_
  refine w_getfield cd_135_77 (show mt_f 0 250 = some (3, 5) by decide +kernel) h9 h10 h12 ?_
  refine w_getfield cd_135_80 (show mt_f 0 241 = some (4, 4) by decide +kernel) h14 h15 h17 ?_
  exact w_ireturn_i cd_135_83 (by decide +kernel) h18
/-! MarloweHostModel.<init>()V -/
set_option maxRecDepth 100000 in
theorem mq_136 : mt_q 136 = my_136 := rfl
set_option maxRecDepth 100000 in
theorem ci_136 : mt_inc 0 my_136.cd = true := by decide +kernel
theorem cd_136_0 : mt_cd 136 0 = some (.aload_n 0) := mt_cd_of (q := (0, .aload_n 0, 1)) mq_136 ci_136 (List.mem_append_left _ (show _ ∈ my_136_0 from List.mem_of_getElem? (i := 0) rfl))
theorem cd_136_1 : mt_cd 136 1 = some (.invokespecial 1) := mt_cd_of (q := (1, .invokespecial 1, 3)) mq_136 ci_136 (List.mem_append_left _ (show _ ∈ my_136_0 from List.mem_of_getElem? (i := 1) rfl))
theorem cd_136_4 : mt_cd 136 4 = some (.aload_n 0) := mt_cd_of (q := (4, .aload_n 0, 1)) mq_136 ci_136 (List.mem_append_left _ (show _ ∈ my_136_0 from List.mem_of_getElem? (i := 2) rfl))
theorem cd_136_5 : mt_cd 136 5 = some (.iconst (-1)) := mt_cd_of (q := (5, .iconst (-1), 1)) mq_136 ci_136 (List.mem_append_left _ (show _ ∈ my_136_0 from List.mem_of_getElem? (i := 3) rfl))
theorem cd_136_6 : mt_cd 136 6 = some (.putfield 7) := mt_cd_of (q := (6, .putfield 7, 3)) mq_136 ci_136 (List.mem_append_left _ (show _ ∈ my_136_0 from List.mem_of_getElem? (i := 4) rfl))
theorem cd_136_9 : mt_cd 136 9 = some (.aload_n 0) := mt_cd_of (q := (9, .aload_n 0, 1)) mq_136 ci_136 (List.mem_append_left _ (show _ ∈ my_136_0 from List.mem_of_getElem? (i := 5) rfl))
theorem cd_136_10 : mt_cd 136 10 = some (.iconst (-1)) := mt_cd_of (q := (10, .iconst (-1), 1)) mq_136 ci_136 (List.mem_append_left _ (show _ ∈ my_136_0 from List.mem_of_getElem? (i := 6) rfl))
theorem cd_136_11 : mt_cd 136 11 = some (.putfield 13) := mt_cd_of (q := (11, .putfield 13, 3)) mq_136 ci_136 (List.mem_append_left _ (show _ ∈ my_136_0 from List.mem_of_getElem? (i := 7) rfl))
theorem cd_136_14 : mt_cd 136 14 = some (.aload_n 0) := mt_cd_of (q := (14, .aload_n 0, 1)) mq_136 ci_136 (List.mem_append_left _ (show _ ∈ my_136_0 from List.mem_of_getElem? (i := 8) rfl))
theorem cd_136_15 : mt_cd 136 15 = some (.sipush 8200) := mt_cd_of (q := (15, .sipush 8200, 3)) mq_136 ci_136 (List.mem_append_left _ (show _ ∈ my_136_0 from List.mem_of_getElem? (i := 9) rfl))
theorem cd_136_18 : mt_cd 136 18 = some (.newarray .int) := mt_cd_of (q := (18, .newarray .int, 2)) mq_136 ci_136 (List.mem_append_left _ (show _ ∈ my_136_0 from List.mem_of_getElem? (i := 10) rfl))
theorem cd_136_20 : mt_cd 136 20 = some (.putfield 16) := mt_cd_of (q := (20, .putfield 16, 3)) mq_136 ci_136 (List.mem_append_left _ (show _ ∈ my_136_0 from List.mem_of_getElem? (i := 11) rfl))
theorem cd_136_23 : mt_cd 136 23 = some (.aload_n 0) := mt_cd_of (q := (23, .aload_n 0, 1)) mq_136 ci_136 (List.mem_append_left _ (show _ ∈ my_136_0 from List.mem_of_getElem? (i := 12) rfl))
theorem cd_136_24 : mt_cd 136 24 = some (.sipush 8192) := mt_cd_of (q := (24, .sipush 8192, 3)) mq_136 ci_136 (List.mem_append_left _ (show _ ∈ my_136_0 from List.mem_of_getElem? (i := 13) rfl))
theorem cd_136_27 : mt_cd 136 27 = some (.newarray .int) := mt_cd_of (q := (27, .newarray .int, 2)) mq_136 ci_136 (List.mem_append_left _ (show _ ∈ my_136_0 from List.mem_of_getElem? (i := 14) rfl))
theorem cd_136_29 : mt_cd 136 29 = some (.putfield 20) := mt_cd_of (q := (29, .putfield 20, 3)) mq_136 ci_136 (List.mem_append_left _ (show _ ∈ my_136_0 from List.mem_of_getElem? (i := 15) rfl))
theorem cd_136_32 : mt_cd 136 32 = some (.aload_n 0) := mt_cd_of (q := (32, .aload_n 0, 1)) mq_136 ci_136 (List.mem_append_left _ (show _ ∈ my_136_0 from List.mem_of_getElem? (i := 16) rfl))
theorem cd_136_33 : mt_cd 136 33 = some (.bipush 24) := mt_cd_of (q := (33, .bipush 24, 2)) mq_136 ci_136 (List.mem_append_left _ (show _ ∈ my_136_0 from List.mem_of_getElem? (i := 17) rfl))
theorem cd_136_35 : mt_cd 136 35 = some (.anewarray 23) := mt_cd_of (q := (35, .anewarray 23, 3)) mq_136 ci_136 (List.mem_append_left _ (show _ ∈ my_136_0 from List.mem_of_getElem? (i := 18) rfl))
theorem cd_136_38 : mt_cd 136 38 = some (.dup) := mt_cd_of (q := (38, .dup, 1)) mq_136 ci_136 (List.mem_append_left _ (show _ ∈ my_136_0 from List.mem_of_getElem? (i := 19) rfl))
theorem cd_136_39 : mt_cd 136 39 = some (.iconst 0) := mt_cd_of (q := (39, .iconst 0, 1)) mq_136 ci_136 (List.mem_append_left _ (show _ ∈ my_136_0 from List.mem_of_getElem? (i := 20) rfl))
theorem cd_136_40 : mt_cd 136 40 = some (.ldc 25) := mt_cd_of (q := (40, .ldc 25, 2)) mq_136 ci_136 (List.mem_append_left _ (show _ ∈ my_136_0 from List.mem_of_getElem? (i := 21) rfl))
theorem cd_136_42 : mt_cd 136 42 = some (.aastore) := mt_cd_of (q := (42, .aastore, 1)) mq_136 ci_136 (List.mem_append_left _ (show _ ∈ my_136_0 from List.mem_of_getElem? (i := 22) rfl))
theorem cd_136_43 : mt_cd 136 43 = some (.dup) := mt_cd_of (q := (43, .dup, 1)) mq_136 ci_136 (List.mem_append_left _ (show _ ∈ my_136_0 from List.mem_of_getElem? (i := 23) rfl))
theorem cd_136_44 : mt_cd 136 44 = some (.iconst 1) := mt_cd_of (q := (44, .iconst 1, 1)) mq_136 ci_136 (List.mem_append_left _ (show _ ∈ my_136_0 from List.mem_of_getElem? (i := 24) rfl))
theorem cd_136_45 : mt_cd 136 45 = some (.ldc 27) := mt_cd_of (q := (45, .ldc 27, 2)) mq_136 ci_136 (List.mem_append_left _ (show _ ∈ my_136_0 from List.mem_of_getElem? (i := 25) rfl))
theorem cd_136_47 : mt_cd 136 47 = some (.aastore) := mt_cd_of (q := (47, .aastore, 1)) mq_136 ci_136 (List.mem_append_left _ (show _ ∈ my_136_0 from List.mem_of_getElem? (i := 26) rfl))
theorem cd_136_48 : mt_cd 136 48 = some (.dup) := mt_cd_of (q := (48, .dup, 1)) mq_136 ci_136 (List.mem_append_left _ (show _ ∈ my_136_0 from List.mem_of_getElem? (i := 27) rfl))
theorem cd_136_49 : mt_cd 136 49 = some (.iconst 2) := mt_cd_of (q := (49, .iconst 2, 1)) mq_136 ci_136 (List.mem_append_left _ (show _ ∈ my_136_0 from List.mem_of_getElem? (i := 28) rfl))
theorem cd_136_50 : mt_cd 136 50 = some (.ldc 29) := mt_cd_of (q := (50, .ldc 29, 2)) mq_136 ci_136 (List.mem_append_left _ (show _ ∈ my_136_0 from List.mem_of_getElem? (i := 29) rfl))
theorem cd_136_52 : mt_cd 136 52 = some (.aastore) := mt_cd_of (q := (52, .aastore, 1)) mq_136 ci_136 (List.mem_append_left _ (show _ ∈ my_136_0 from List.mem_of_getElem? (i := 30) rfl))
theorem cd_136_53 : mt_cd 136 53 = some (.dup) := mt_cd_of (q := (53, .dup, 1)) mq_136 ci_136 (List.mem_append_left _ (show _ ∈ my_136_0 from List.mem_of_getElem? (i := 31) rfl))
theorem cd_136_54 : mt_cd 136 54 = some (.iconst 3) := mt_cd_of (q := (54, .iconst 3, 1)) mq_136 ci_136 (List.mem_append_left _ (show _ ∈ my_136_0 from List.mem_of_getElem? (i := 32) rfl))
theorem cd_136_55 : mt_cd 136 55 = some (.ldc 31) := mt_cd_of (q := (55, .ldc 31, 2)) mq_136 ci_136 (List.mem_append_left _ (show _ ∈ my_136_0 from List.mem_of_getElem? (i := 33) rfl))
theorem cd_136_57 : mt_cd 136 57 = some (.aastore) := mt_cd_of (q := (57, .aastore, 1)) mq_136 ci_136 (List.mem_append_left _ (show _ ∈ my_136_0 from List.mem_of_getElem? (i := 34) rfl))
theorem cd_136_58 : mt_cd 136 58 = some (.dup) := mt_cd_of (q := (58, .dup, 1)) mq_136 ci_136 (List.mem_append_left _ (show _ ∈ my_136_0 from List.mem_of_getElem? (i := 35) rfl))
theorem cd_136_59 : mt_cd 136 59 = some (.iconst 4) := mt_cd_of (q := (59, .iconst 4, 1)) mq_136 ci_136 (List.mem_append_left _ (show _ ∈ my_136_0 from List.mem_of_getElem? (i := 36) rfl))
theorem cd_136_60 : mt_cd 136 60 = some (.ldc 33) := mt_cd_of (q := (60, .ldc 33, 2)) mq_136 ci_136 (List.mem_append_left _ (show _ ∈ my_136_0 from List.mem_of_getElem? (i := 37) rfl))
theorem cd_136_62 : mt_cd 136 62 = some (.aastore) := mt_cd_of (q := (62, .aastore, 1)) mq_136 ci_136 (List.mem_append_left _ (show _ ∈ my_136_0 from List.mem_of_getElem? (i := 38) rfl))
theorem cd_136_63 : mt_cd 136 63 = some (.dup) := mt_cd_of (q := (63, .dup, 1)) mq_136 ci_136 (List.mem_append_left _ (show _ ∈ my_136_0 from List.mem_of_getElem? (i := 39) rfl))
theorem cd_136_64 : mt_cd 136 64 = some (.iconst 5) := mt_cd_of (q := (64, .iconst 5, 1)) mq_136 ci_136 (List.mem_append_left _ (show _ ∈ my_136_0 from List.mem_of_getElem? (i := 40) rfl))
theorem cd_136_65 : mt_cd 136 65 = some (.ldc 35) := mt_cd_of (q := (65, .ldc 35, 2)) mq_136 ci_136 (List.mem_append_left _ (show _ ∈ my_136_0 from List.mem_of_getElem? (i := 41) rfl))
theorem cd_136_67 : mt_cd 136 67 = some (.aastore) := mt_cd_of (q := (67, .aastore, 1)) mq_136 ci_136 (List.mem_append_left _ (show _ ∈ my_136_0 from List.mem_of_getElem? (i := 42) rfl))
theorem cd_136_68 : mt_cd 136 68 = some (.dup) := mt_cd_of (q := (68, .dup, 1)) mq_136 ci_136 (List.mem_append_left _ (show _ ∈ my_136_0 from List.mem_of_getElem? (i := 43) rfl))
theorem cd_136_69 : mt_cd 136 69 = some (.bipush 6) := mt_cd_of (q := (69, .bipush 6, 2)) mq_136 ci_136 (List.mem_append_left _ (show _ ∈ my_136_0 from List.mem_of_getElem? (i := 44) rfl))
theorem cd_136_71 : mt_cd 136 71 = some (.ldc 37) := mt_cd_of (q := (71, .ldc 37, 2)) mq_136 ci_136 (List.mem_append_left _ (show _ ∈ my_136_0 from List.mem_of_getElem? (i := 45) rfl))
theorem cd_136_73 : mt_cd 136 73 = some (.aastore) := mt_cd_of (q := (73, .aastore, 1)) mq_136 ci_136 (List.mem_append_left _ (show _ ∈ my_136_0 from List.mem_of_getElem? (i := 46) rfl))
theorem cd_136_74 : mt_cd 136 74 = some (.dup) := mt_cd_of (q := (74, .dup, 1)) mq_136 ci_136 (List.mem_append_left _ (show _ ∈ my_136_0 from List.mem_of_getElem? (i := 47) rfl))
theorem cd_136_75 : mt_cd 136 75 = some (.bipush 7) := mt_cd_of (q := (75, .bipush 7, 2)) mq_136 ci_136 (List.mem_append_left _ (show _ ∈ my_136_0 from List.mem_of_getElem? (i := 48) rfl))
theorem cd_136_77 : mt_cd 136 77 = some (.ldc 39) := mt_cd_of (q := (77, .ldc 39, 2)) mq_136 ci_136 (List.mem_append_left _ (show _ ∈ my_136_0 from List.mem_of_getElem? (i := 49) rfl))
theorem cd_136_79 : mt_cd 136 79 = some (.aastore) := mt_cd_of (q := (79, .aastore, 1)) mq_136 ci_136 (List.mem_append_left _ (show _ ∈ my_136_0 from List.mem_of_getElem? (i := 50) rfl))
theorem cd_136_80 : mt_cd 136 80 = some (.dup) := mt_cd_of (q := (80, .dup, 1)) mq_136 ci_136 (List.mem_append_left _ (show _ ∈ my_136_0 from List.mem_of_getElem? (i := 51) rfl))
theorem cd_136_81 : mt_cd 136 81 = some (.bipush 8) := mt_cd_of (q := (81, .bipush 8, 2)) mq_136 ci_136 (List.mem_append_left _ (show _ ∈ my_136_0 from List.mem_of_getElem? (i := 52) rfl))
theorem cd_136_83 : mt_cd 136 83 = some (.ldc 41) := mt_cd_of (q := (83, .ldc 41, 2)) mq_136 ci_136 (List.mem_append_left _ (show _ ∈ my_136_0 from List.mem_of_getElem? (i := 53) rfl))
theorem cd_136_85 : mt_cd 136 85 = some (.aastore) := mt_cd_of (q := (85, .aastore, 1)) mq_136 ci_136 (List.mem_append_left _ (show _ ∈ my_136_0 from List.mem_of_getElem? (i := 54) rfl))
theorem cd_136_86 : mt_cd 136 86 = some (.dup) := mt_cd_of (q := (86, .dup, 1)) mq_136 ci_136 (List.mem_append_left _ (show _ ∈ my_136_0 from List.mem_of_getElem? (i := 55) rfl))
theorem cd_136_87 : mt_cd 136 87 = some (.bipush 9) := mt_cd_of (q := (87, .bipush 9, 2)) mq_136 ci_136 (List.mem_append_left _ (show _ ∈ my_136_0 from List.mem_of_getElem? (i := 56) rfl))
theorem cd_136_89 : mt_cd 136 89 = some (.ldc 43) := mt_cd_of (q := (89, .ldc 43, 2)) mq_136 ci_136 (List.mem_append_left _ (show _ ∈ my_136_0 from List.mem_of_getElem? (i := 57) rfl))
theorem cd_136_91 : mt_cd 136 91 = some (.aastore) := mt_cd_of (q := (91, .aastore, 1)) mq_136 ci_136 (List.mem_append_left _ (show _ ∈ my_136_0 from List.mem_of_getElem? (i := 58) rfl))
theorem cd_136_92 : mt_cd 136 92 = some (.dup) := mt_cd_of (q := (92, .dup, 1)) mq_136 ci_136 (List.mem_append_left _ (show _ ∈ my_136_0 from List.mem_of_getElem? (i := 59) rfl))
theorem cd_136_93 : mt_cd 136 93 = some (.bipush 10) := mt_cd_of (q := (93, .bipush 10, 2)) mq_136 ci_136 (List.mem_append_right _ (List.mem_append_left _ (show _ ∈ my_136_1 from List.mem_of_getElem? (i := 0) rfl)))
theorem cd_136_95 : mt_cd 136 95 = some (.ldc 45) := mt_cd_of (q := (95, .ldc 45, 2)) mq_136 ci_136 (List.mem_append_right _ (List.mem_append_left _ (show _ ∈ my_136_1 from List.mem_of_getElem? (i := 1) rfl)))
theorem cd_136_97 : mt_cd 136 97 = some (.aastore) := mt_cd_of (q := (97, .aastore, 1)) mq_136 ci_136 (List.mem_append_right _ (List.mem_append_left _ (show _ ∈ my_136_1 from List.mem_of_getElem? (i := 2) rfl)))
theorem cd_136_98 : mt_cd 136 98 = some (.dup) := mt_cd_of (q := (98, .dup, 1)) mq_136 ci_136 (List.mem_append_right _ (List.mem_append_left _ (show _ ∈ my_136_1 from List.mem_of_getElem? (i := 3) rfl)))
theorem cd_136_99 : mt_cd 136 99 = some (.bipush 11) := mt_cd_of (q := (99, .bipush 11, 2)) mq_136 ci_136 (List.mem_append_right _ (List.mem_append_left _ (show _ ∈ my_136_1 from List.mem_of_getElem? (i := 4) rfl)))
theorem cd_136_101 : mt_cd 136 101 = some (.ldc 47) := mt_cd_of (q := (101, .ldc 47, 2)) mq_136 ci_136 (List.mem_append_right _ (List.mem_append_left _ (show _ ∈ my_136_1 from List.mem_of_getElem? (i := 5) rfl)))
theorem cd_136_103 : mt_cd 136 103 = some (.aastore) := mt_cd_of (q := (103, .aastore, 1)) mq_136 ci_136 (List.mem_append_right _ (List.mem_append_left _ (show _ ∈ my_136_1 from List.mem_of_getElem? (i := 6) rfl)))
theorem cd_136_104 : mt_cd 136 104 = some (.dup) := mt_cd_of (q := (104, .dup, 1)) mq_136 ci_136 (List.mem_append_right _ (List.mem_append_left _ (show _ ∈ my_136_1 from List.mem_of_getElem? (i := 7) rfl)))
theorem cd_136_105 : mt_cd 136 105 = some (.bipush 12) := mt_cd_of (q := (105, .bipush 12, 2)) mq_136 ci_136 (List.mem_append_right _ (List.mem_append_left _ (show _ ∈ my_136_1 from List.mem_of_getElem? (i := 8) rfl)))
theorem cd_136_107 : mt_cd 136 107 = some (.ldc 49) := mt_cd_of (q := (107, .ldc 49, 2)) mq_136 ci_136 (List.mem_append_right _ (List.mem_append_left _ (show _ ∈ my_136_1 from List.mem_of_getElem? (i := 9) rfl)))
theorem cd_136_109 : mt_cd 136 109 = some (.aastore) := mt_cd_of (q := (109, .aastore, 1)) mq_136 ci_136 (List.mem_append_right _ (List.mem_append_left _ (show _ ∈ my_136_1 from List.mem_of_getElem? (i := 10) rfl)))
theorem cd_136_110 : mt_cd 136 110 = some (.dup) := mt_cd_of (q := (110, .dup, 1)) mq_136 ci_136 (List.mem_append_right _ (List.mem_append_left _ (show _ ∈ my_136_1 from List.mem_of_getElem? (i := 11) rfl)))
theorem cd_136_111 : mt_cd 136 111 = some (.bipush 13) := mt_cd_of (q := (111, .bipush 13, 2)) mq_136 ci_136 (List.mem_append_right _ (List.mem_append_left _ (show _ ∈ my_136_1 from List.mem_of_getElem? (i := 12) rfl)))
theorem cd_136_113 : mt_cd 136 113 = some (.ldc 51) := mt_cd_of (q := (113, .ldc 51, 2)) mq_136 ci_136 (List.mem_append_right _ (List.mem_append_left _ (show _ ∈ my_136_1 from List.mem_of_getElem? (i := 13) rfl)))
theorem cd_136_115 : mt_cd 136 115 = some (.aastore) := mt_cd_of (q := (115, .aastore, 1)) mq_136 ci_136 (List.mem_append_right _ (List.mem_append_left _ (show _ ∈ my_136_1 from List.mem_of_getElem? (i := 14) rfl)))
theorem cd_136_116 : mt_cd 136 116 = some (.dup) := mt_cd_of (q := (116, .dup, 1)) mq_136 ci_136 (List.mem_append_right _ (List.mem_append_left _ (show _ ∈ my_136_1 from List.mem_of_getElem? (i := 15) rfl)))
theorem cd_136_117 : mt_cd 136 117 = some (.bipush 14) := mt_cd_of (q := (117, .bipush 14, 2)) mq_136 ci_136 (List.mem_append_right _ (List.mem_append_left _ (show _ ∈ my_136_1 from List.mem_of_getElem? (i := 16) rfl)))
theorem cd_136_119 : mt_cd 136 119 = some (.ldc 53) := mt_cd_of (q := (119, .ldc 53, 2)) mq_136 ci_136 (List.mem_append_right _ (List.mem_append_left _ (show _ ∈ my_136_1 from List.mem_of_getElem? (i := 17) rfl)))
theorem cd_136_121 : mt_cd 136 121 = some (.aastore) := mt_cd_of (q := (121, .aastore, 1)) mq_136 ci_136 (List.mem_append_right _ (List.mem_append_left _ (show _ ∈ my_136_1 from List.mem_of_getElem? (i := 18) rfl)))
theorem cd_136_122 : mt_cd 136 122 = some (.dup) := mt_cd_of (q := (122, .dup, 1)) mq_136 ci_136 (List.mem_append_right _ (List.mem_append_left _ (show _ ∈ my_136_1 from List.mem_of_getElem? (i := 19) rfl)))
theorem cd_136_123 : mt_cd 136 123 = some (.bipush 15) := mt_cd_of (q := (123, .bipush 15, 2)) mq_136 ci_136 (List.mem_append_right _ (List.mem_append_left _ (show _ ∈ my_136_1 from List.mem_of_getElem? (i := 20) rfl)))
theorem cd_136_125 : mt_cd 136 125 = some (.ldc 55) := mt_cd_of (q := (125, .ldc 55, 2)) mq_136 ci_136 (List.mem_append_right _ (List.mem_append_left _ (show _ ∈ my_136_1 from List.mem_of_getElem? (i := 21) rfl)))
theorem cd_136_127 : mt_cd 136 127 = some (.aastore) := mt_cd_of (q := (127, .aastore, 1)) mq_136 ci_136 (List.mem_append_right _ (List.mem_append_left _ (show _ ∈ my_136_1 from List.mem_of_getElem? (i := 22) rfl)))
theorem cd_136_128 : mt_cd 136 128 = some (.dup) := mt_cd_of (q := (128, .dup, 1)) mq_136 ci_136 (List.mem_append_right _ (List.mem_append_left _ (show _ ∈ my_136_1 from List.mem_of_getElem? (i := 23) rfl)))
theorem cd_136_129 : mt_cd 136 129 = some (.bipush 16) := mt_cd_of (q := (129, .bipush 16, 2)) mq_136 ci_136 (List.mem_append_right _ (List.mem_append_left _ (show _ ∈ my_136_1 from List.mem_of_getElem? (i := 24) rfl)))
theorem cd_136_131 : mt_cd 136 131 = some (.ldc 57) := mt_cd_of (q := (131, .ldc 57, 2)) mq_136 ci_136 (List.mem_append_right _ (List.mem_append_left _ (show _ ∈ my_136_1 from List.mem_of_getElem? (i := 25) rfl)))
theorem cd_136_133 : mt_cd 136 133 = some (.aastore) := mt_cd_of (q := (133, .aastore, 1)) mq_136 ci_136 (List.mem_append_right _ (List.mem_append_left _ (show _ ∈ my_136_1 from List.mem_of_getElem? (i := 26) rfl)))
theorem cd_136_134 : mt_cd 136 134 = some (.dup) := mt_cd_of (q := (134, .dup, 1)) mq_136 ci_136 (List.mem_append_right _ (List.mem_append_left _ (show _ ∈ my_136_1 from List.mem_of_getElem? (i := 27) rfl)))
theorem cd_136_135 : mt_cd 136 135 = some (.bipush 17) := mt_cd_of (q := (135, .bipush 17, 2)) mq_136 ci_136 (List.mem_append_right _ (List.mem_append_left _ (show _ ∈ my_136_1 from List.mem_of_getElem? (i := 28) rfl)))
theorem cd_136_137 : mt_cd 136 137 = some (.ldc 59) := mt_cd_of (q := (137, .ldc 59, 2)) mq_136 ci_136 (List.mem_append_right _ (List.mem_append_left _ (show _ ∈ my_136_1 from List.mem_of_getElem? (i := 29) rfl)))
theorem cd_136_139 : mt_cd 136 139 = some (.aastore) := mt_cd_of (q := (139, .aastore, 1)) mq_136 ci_136 (List.mem_append_right _ (List.mem_append_left _ (show _ ∈ my_136_1 from List.mem_of_getElem? (i := 30) rfl)))
theorem cd_136_140 : mt_cd 136 140 = some (.dup) := mt_cd_of (q := (140, .dup, 1)) mq_136 ci_136 (List.mem_append_right _ (List.mem_append_left _ (show _ ∈ my_136_1 from List.mem_of_getElem? (i := 31) rfl)))
theorem cd_136_141 : mt_cd 136 141 = some (.bipush 18) := mt_cd_of (q := (141, .bipush 18, 2)) mq_136 ci_136 (List.mem_append_right _ (List.mem_append_left _ (show _ ∈ my_136_1 from List.mem_of_getElem? (i := 32) rfl)))
theorem cd_136_143 : mt_cd 136 143 = some (.ldc 61) := mt_cd_of (q := (143, .ldc 61, 2)) mq_136 ci_136 (List.mem_append_right _ (List.mem_append_left _ (show _ ∈ my_136_1 from List.mem_of_getElem? (i := 33) rfl)))
theorem cd_136_145 : mt_cd 136 145 = some (.aastore) := mt_cd_of (q := (145, .aastore, 1)) mq_136 ci_136 (List.mem_append_right _ (List.mem_append_left _ (show _ ∈ my_136_1 from List.mem_of_getElem? (i := 34) rfl)))
theorem cd_136_146 : mt_cd 136 146 = some (.dup) := mt_cd_of (q := (146, .dup, 1)) mq_136 ci_136 (List.mem_append_right _ (List.mem_append_left _ (show _ ∈ my_136_1 from List.mem_of_getElem? (i := 35) rfl)))
theorem cd_136_147 : mt_cd 136 147 = some (.bipush 19) := mt_cd_of (q := (147, .bipush 19, 2)) mq_136 ci_136 (List.mem_append_right _ (List.mem_append_left _ (show _ ∈ my_136_1 from List.mem_of_getElem? (i := 36) rfl)))
theorem cd_136_149 : mt_cd 136 149 = some (.ldc 63) := mt_cd_of (q := (149, .ldc 63, 2)) mq_136 ci_136 (List.mem_append_right _ (List.mem_append_left _ (show _ ∈ my_136_1 from List.mem_of_getElem? (i := 37) rfl)))
theorem cd_136_151 : mt_cd 136 151 = some (.aastore) := mt_cd_of (q := (151, .aastore, 1)) mq_136 ci_136 (List.mem_append_right _ (List.mem_append_left _ (show _ ∈ my_136_1 from List.mem_of_getElem? (i := 38) rfl)))
theorem cd_136_152 : mt_cd 136 152 = some (.dup) := mt_cd_of (q := (152, .dup, 1)) mq_136 ci_136 (List.mem_append_right _ (List.mem_append_left _ (show _ ∈ my_136_1 from List.mem_of_getElem? (i := 39) rfl)))
theorem cd_136_153 : mt_cd 136 153 = some (.bipush 20) := mt_cd_of (q := (153, .bipush 20, 2)) mq_136 ci_136 (List.mem_append_right _ (List.mem_append_left _ (show _ ∈ my_136_1 from List.mem_of_getElem? (i := 40) rfl)))
theorem cd_136_155 : mt_cd 136 155 = some (.ldc 65) := mt_cd_of (q := (155, .ldc 65, 2)) mq_136 ci_136 (List.mem_append_right _ (List.mem_append_left _ (show _ ∈ my_136_1 from List.mem_of_getElem? (i := 41) rfl)))
theorem cd_136_157 : mt_cd 136 157 = some (.aastore) := mt_cd_of (q := (157, .aastore, 1)) mq_136 ci_136 (List.mem_append_right _ (List.mem_append_left _ (show _ ∈ my_136_1 from List.mem_of_getElem? (i := 42) rfl)))
theorem cd_136_158 : mt_cd 136 158 = some (.dup) := mt_cd_of (q := (158, .dup, 1)) mq_136 ci_136 (List.mem_append_right _ (List.mem_append_left _ (show _ ∈ my_136_1 from List.mem_of_getElem? (i := 43) rfl)))
theorem cd_136_159 : mt_cd 136 159 = some (.bipush 21) := mt_cd_of (q := (159, .bipush 21, 2)) mq_136 ci_136 (List.mem_append_right _ (List.mem_append_left _ (show _ ∈ my_136_1 from List.mem_of_getElem? (i := 44) rfl)))
theorem cd_136_161 : mt_cd 136 161 = some (.ldc 67) := mt_cd_of (q := (161, .ldc 67, 2)) mq_136 ci_136 (List.mem_append_right _ (List.mem_append_left _ (show _ ∈ my_136_1 from List.mem_of_getElem? (i := 45) rfl)))
theorem cd_136_163 : mt_cd 136 163 = some (.aastore) := mt_cd_of (q := (163, .aastore, 1)) mq_136 ci_136 (List.mem_append_right _ (List.mem_append_left _ (show _ ∈ my_136_1 from List.mem_of_getElem? (i := 46) rfl)))
theorem cd_136_164 : mt_cd 136 164 = some (.dup) := mt_cd_of (q := (164, .dup, 1)) mq_136 ci_136 (List.mem_append_right _ (List.mem_append_left _ (show _ ∈ my_136_1 from List.mem_of_getElem? (i := 47) rfl)))
theorem cd_136_165 : mt_cd 136 165 = some (.bipush 22) := mt_cd_of (q := (165, .bipush 22, 2)) mq_136 ci_136 (List.mem_append_right _ (List.mem_append_left _ (show _ ∈ my_136_1 from List.mem_of_getElem? (i := 48) rfl)))
theorem cd_136_167 : mt_cd 136 167 = some (.ldc 69) := mt_cd_of (q := (167, .ldc 69, 2)) mq_136 ci_136 (List.mem_append_right _ (List.mem_append_left _ (show _ ∈ my_136_1 from List.mem_of_getElem? (i := 49) rfl)))
theorem cd_136_169 : mt_cd 136 169 = some (.aastore) := mt_cd_of (q := (169, .aastore, 1)) mq_136 ci_136 (List.mem_append_right _ (List.mem_append_left _ (show _ ∈ my_136_1 from List.mem_of_getElem? (i := 50) rfl)))
theorem cd_136_170 : mt_cd 136 170 = some (.dup) := mt_cd_of (q := (170, .dup, 1)) mq_136 ci_136 (List.mem_append_right _ (List.mem_append_left _ (show _ ∈ my_136_1 from List.mem_of_getElem? (i := 51) rfl)))
theorem cd_136_171 : mt_cd 136 171 = some (.bipush 23) := mt_cd_of (q := (171, .bipush 23, 2)) mq_136 ci_136 (List.mem_append_right _ (List.mem_append_left _ (show _ ∈ my_136_1 from List.mem_of_getElem? (i := 52) rfl)))
theorem cd_136_173 : mt_cd 136 173 = some (.ldc 71) := mt_cd_of (q := (173, .ldc 71, 2)) mq_136 ci_136 (List.mem_append_right _ (List.mem_append_left _ (show _ ∈ my_136_1 from List.mem_of_getElem? (i := 53) rfl)))
theorem cd_136_175 : mt_cd 136 175 = some (.aastore) := mt_cd_of (q := (175, .aastore, 1)) mq_136 ci_136 (List.mem_append_right _ (List.mem_append_left _ (show _ ∈ my_136_1 from List.mem_of_getElem? (i := 54) rfl)))
theorem cd_136_176 : mt_cd 136 176 = some (.putfield 73) := mt_cd_of (q := (176, .putfield 73, 3)) mq_136 ci_136 (List.mem_append_right _ (List.mem_append_left _ (show _ ∈ my_136_1 from List.mem_of_getElem? (i := 55) rfl)))
theorem cd_136_179 : mt_cd 136 179 = some (.aload_n 0) := mt_cd_of (q := (179, .aload_n 0, 1)) mq_136 ci_136 (List.mem_append_right _ (List.mem_append_left _ (show _ ∈ my_136_1 from List.mem_of_getElem? (i := 56) rfl)))
theorem cd_136_180 : mt_cd 136 180 = some (.sipush 800) := mt_cd_of (q := (180, .sipush 800, 3)) mq_136 ci_136 (List.mem_append_right _ (List.mem_append_left _ (show _ ∈ my_136_1 from List.mem_of_getElem? (i := 57) rfl)))
theorem cd_136_183 : mt_cd 136 183 = some (.newarray .int) := mt_cd_of (q := (183, .newarray .int, 2)) mq_136 ci_136 (List.mem_append_right _ (List.mem_append_left _ (show _ ∈ my_136_1 from List.mem_of_getElem? (i := 58) rfl)))
theorem cd_136_185 : mt_cd 136 185 = some (.putfield 77) := mt_cd_of (q := (185, .putfield 77, 3)) mq_136 ci_136 (List.mem_append_right _ (List.mem_append_left _ (show _ ∈ my_136_1 from List.mem_of_getElem? (i := 59) rfl)))
theorem cd_136_188 : mt_cd 136 188 = some (.aload_n 0) := mt_cd_of (q := (188, .aload_n 0, 1)) mq_136 ci_136 (List.mem_append_right _ (List.mem_append_right _ (List.mem_append_left _ (show _ ∈ my_136_2 from List.mem_of_getElem? (i := 0) rfl))))
theorem cd_136_189 : mt_cd 136 189 = some (.sipush 800) := mt_cd_of (q := (189, .sipush 800, 3)) mq_136 ci_136 (List.mem_append_right _ (List.mem_append_right _ (List.mem_append_left _ (show _ ∈ my_136_2 from List.mem_of_getElem? (i := 1) rfl))))
theorem cd_136_192 : mt_cd 136 192 = some (.newarray .int) := mt_cd_of (q := (192, .newarray .int, 2)) mq_136 ci_136 (List.mem_append_right _ (List.mem_append_right _ (List.mem_append_left _ (show _ ∈ my_136_2 from List.mem_of_getElem? (i := 2) rfl))))
theorem cd_136_194 : mt_cd 136 194 = some (.putfield 80) := mt_cd_of (q := (194, .putfield 80, 3)) mq_136 ci_136 (List.mem_append_right _ (List.mem_append_right _ (List.mem_append_left _ (show _ ∈ my_136_2 from List.mem_of_getElem? (i := 3) rfl))))
theorem cd_136_197 : mt_cd 136 197 = some (.aload_n 0) := mt_cd_of (q := (197, .aload_n 0, 1)) mq_136 ci_136 (List.mem_append_right _ (List.mem_append_right _ (List.mem_append_left _ (show _ ∈ my_136_2 from List.mem_of_getElem? (i := 4) rfl))))
theorem cd_136_198 : mt_cd 136 198 = some (.sipush 800) := mt_cd_of (q := (198, .sipush 800, 3)) mq_136 ci_136 (List.mem_append_right _ (List.mem_append_right _ (List.mem_append_left _ (show _ ∈ my_136_2 from List.mem_of_getElem? (i := 5) rfl))))
theorem cd_136_201 : mt_cd 136 201 = some (.newarray .int) := mt_cd_of (q := (201, .newarray .int, 2)) mq_136 ci_136 (List.mem_append_right _ (List.mem_append_right _ (List.mem_append_left _ (show _ ∈ my_136_2 from List.mem_of_getElem? (i := 6) rfl))))
theorem cd_136_203 : mt_cd 136 203 = some (.putfield 83) := mt_cd_of (q := (203, .putfield 83, 3)) mq_136 ci_136 (List.mem_append_right _ (List.mem_append_right _ (List.mem_append_left _ (show _ ∈ my_136_2 from List.mem_of_getElem? (i := 7) rfl))))
theorem cd_136_206 : mt_cd 136 206 = some (.aload_n 0) := mt_cd_of (q := (206, .aload_n 0, 1)) mq_136 ci_136 (List.mem_append_right _ (List.mem_append_right _ (List.mem_append_left _ (show _ ∈ my_136_2 from List.mem_of_getElem? (i := 8) rfl))))
theorem cd_136_207 : mt_cd 136 207 = some (.sipush 800) := mt_cd_of (q := (207, .sipush 800, 3)) mq_136 ci_136 (List.mem_append_right _ (List.mem_append_right _ (List.mem_append_left _ (show _ ∈ my_136_2 from List.mem_of_getElem? (i := 9) rfl))))
theorem cd_136_210 : mt_cd 136 210 = some (.newarray .int) := mt_cd_of (q := (210, .newarray .int, 2)) mq_136 ci_136 (List.mem_append_right _ (List.mem_append_right _ (List.mem_append_left _ (show _ ∈ my_136_2 from List.mem_of_getElem? (i := 10) rfl))))
theorem cd_136_212 : mt_cd 136 212 = some (.putfield 86) := mt_cd_of (q := (212, .putfield 86, 3)) mq_136 ci_136 (List.mem_append_right _ (List.mem_append_right _ (List.mem_append_left _ (show _ ∈ my_136_2 from List.mem_of_getElem? (i := 11) rfl))))
theorem cd_136_215 : mt_cd 136 215 = some (.aload_n 0) := mt_cd_of (q := (215, .aload_n 0, 1)) mq_136 ci_136 (List.mem_append_right _ (List.mem_append_right _ (List.mem_append_left _ (show _ ∈ my_136_2 from List.mem_of_getElem? (i := 12) rfl))))
theorem cd_136_216 : mt_cd 136 216 = some (.sipush 800) := mt_cd_of (q := (216, .sipush 800, 3)) mq_136 ci_136 (List.mem_append_right _ (List.mem_append_right _ (List.mem_append_left _ (show _ ∈ my_136_2 from List.mem_of_getElem? (i := 13) rfl))))
theorem cd_136_219 : mt_cd 136 219 = some (.newarray .int) := mt_cd_of (q := (219, .newarray .int, 2)) mq_136 ci_136 (List.mem_append_right _ (List.mem_append_right _ (List.mem_append_left _ (show _ ∈ my_136_2 from List.mem_of_getElem? (i := 14) rfl))))
theorem cd_136_221 : mt_cd 136 221 = some (.putfield 89) := mt_cd_of (q := (221, .putfield 89, 3)) mq_136 ci_136 (List.mem_append_right _ (List.mem_append_right _ (List.mem_append_left _ (show _ ∈ my_136_2 from List.mem_of_getElem? (i := 15) rfl))))
theorem cd_136_224 : mt_cd 136 224 = some (.aload_n 0) := mt_cd_of (q := (224, .aload_n 0, 1)) mq_136 ci_136 (List.mem_append_right _ (List.mem_append_right _ (List.mem_append_left _ (show _ ∈ my_136_2 from List.mem_of_getElem? (i := 16) rfl))))
theorem cd_136_225 : mt_cd 136 225 = some (.sipush 800) := mt_cd_of (q := (225, .sipush 800, 3)) mq_136 ci_136 (List.mem_append_right _ (List.mem_append_right _ (List.mem_append_left _ (show _ ∈ my_136_2 from List.mem_of_getElem? (i := 17) rfl))))
theorem cd_136_228 : mt_cd 136 228 = some (.newarray .int) := mt_cd_of (q := (228, .newarray .int, 2)) mq_136 ci_136 (List.mem_append_right _ (List.mem_append_right _ (List.mem_append_left _ (show _ ∈ my_136_2 from List.mem_of_getElem? (i := 18) rfl))))
theorem cd_136_230 : mt_cd 136 230 = some (.putfield 92) := mt_cd_of (q := (230, .putfield 92, 3)) mq_136 ci_136 (List.mem_append_right _ (List.mem_append_right _ (List.mem_append_left _ (show _ ∈ my_136_2 from List.mem_of_getElem? (i := 19) rfl))))
theorem cd_136_233 : mt_cd 136 233 = some (.aload_n 0) := mt_cd_of (q := (233, .aload_n 0, 1)) mq_136 ci_136 (List.mem_append_right _ (List.mem_append_right _ (List.mem_append_left _ (show _ ∈ my_136_2 from List.mem_of_getElem? (i := 20) rfl))))
theorem cd_136_234 : mt_cd 136 234 = some (.sipush 800) := mt_cd_of (q := (234, .sipush 800, 3)) mq_136 ci_136 (List.mem_append_right _ (List.mem_append_right _ (List.mem_append_left _ (show _ ∈ my_136_2 from List.mem_of_getElem? (i := 21) rfl))))
theorem cd_136_237 : mt_cd 136 237 = some (.newarray .int) := mt_cd_of (q := (237, .newarray .int, 2)) mq_136 ci_136 (List.mem_append_right _ (List.mem_append_right _ (List.mem_append_left _ (show _ ∈ my_136_2 from List.mem_of_getElem? (i := 22) rfl))))
theorem cd_136_239 : mt_cd 136 239 = some (.putfield 95) := mt_cd_of (q := (239, .putfield 95, 3)) mq_136 ci_136 (List.mem_append_right _ (List.mem_append_right _ (List.mem_append_left _ (show _ ∈ my_136_2 from List.mem_of_getElem? (i := 23) rfl))))
theorem cd_136_242 : mt_cd 136 242 = some (.aload_n 0) := mt_cd_of (q := (242, .aload_n 0, 1)) mq_136 ci_136 (List.mem_append_right _ (List.mem_append_right _ (List.mem_append_left _ (show _ ∈ my_136_2 from List.mem_of_getElem? (i := 24) rfl))))
theorem cd_136_243 : mt_cd 136 243 = some (.sipush 800) := mt_cd_of (q := (243, .sipush 800, 3)) mq_136 ci_136 (List.mem_append_right _ (List.mem_append_right _ (List.mem_append_left _ (show _ ∈ my_136_2 from List.mem_of_getElem? (i := 25) rfl))))
theorem cd_136_246 : mt_cd 136 246 = some (.newarray .int) := mt_cd_of (q := (246, .newarray .int, 2)) mq_136 ci_136 (List.mem_append_right _ (List.mem_append_right _ (List.mem_append_left _ (show _ ∈ my_136_2 from List.mem_of_getElem? (i := 26) rfl))))
theorem cd_136_248 : mt_cd 136 248 = some (.putfield 98) := mt_cd_of (q := (248, .putfield 98, 3)) mq_136 ci_136 (List.mem_append_right _ (List.mem_append_right _ (List.mem_append_left _ (show _ ∈ my_136_2 from List.mem_of_getElem? (i := 27) rfl))))
theorem cd_136_251 : mt_cd 136 251 = some (.aload_n 0) := mt_cd_of (q := (251, .aload_n 0, 1)) mq_136 ci_136 (List.mem_append_right _ (List.mem_append_right _ (List.mem_append_left _ (show _ ∈ my_136_2 from List.mem_of_getElem? (i := 28) rfl))))
theorem cd_136_252 : mt_cd 136 252 = some (.sipush 800) := mt_cd_of (q := (252, .sipush 800, 3)) mq_136 ci_136 (List.mem_append_right _ (List.mem_append_right _ (List.mem_append_left _ (show _ ∈ my_136_2 from List.mem_of_getElem? (i := 29) rfl))))
theorem cd_136_255 : mt_cd 136 255 = some (.newarray .long) := mt_cd_of (q := (255, .newarray .long, 2)) mq_136 ci_136 (List.mem_append_right _ (List.mem_append_right _ (List.mem_append_left _ (show _ ∈ my_136_2 from List.mem_of_getElem? (i := 30) rfl))))
theorem cd_136_257 : mt_cd 136 257 = some (.putfield 101) := mt_cd_of (q := (257, .putfield 101, 3)) mq_136 ci_136 (List.mem_append_right _ (List.mem_append_right _ (List.mem_append_left _ (show _ ∈ my_136_2 from List.mem_of_getElem? (i := 31) rfl))))
theorem cd_136_260 : mt_cd 136 260 = some (.aload_n 0) := mt_cd_of (q := (260, .aload_n 0, 1)) mq_136 ci_136 (List.mem_append_right _ (List.mem_append_right _ (List.mem_append_left _ (show _ ∈ my_136_2 from List.mem_of_getElem? (i := 32) rfl))))
theorem cd_136_261 : mt_cd 136 261 = some (.sipush 4200) := mt_cd_of (q := (261, .sipush 4200, 3)) mq_136 ci_136 (List.mem_append_right _ (List.mem_append_right _ (List.mem_append_left _ (show _ ∈ my_136_2 from List.mem_of_getElem? (i := 33) rfl))))
theorem cd_136_264 : mt_cd 136 264 = some (.newarray .long) := mt_cd_of (q := (264, .newarray .long, 2)) mq_136 ci_136 (List.mem_append_right _ (List.mem_append_right _ (List.mem_append_left _ (show _ ∈ my_136_2 from List.mem_of_getElem? (i := 34) rfl))))
theorem cd_136_266 : mt_cd 136 266 = some (.putfield 105) := mt_cd_of (q := (266, .putfield 105, 3)) mq_136 ci_136 (List.mem_append_right _ (List.mem_append_right _ (List.mem_append_left _ (show _ ∈ my_136_2 from List.mem_of_getElem? (i := 35) rfl))))
theorem cd_136_269 : mt_cd 136 269 = some (.aload_n 0) := mt_cd_of (q := (269, .aload_n 0, 1)) mq_136 ci_136 (List.mem_append_right _ (List.mem_append_right _ (List.mem_append_left _ (show _ ∈ my_136_2 from List.mem_of_getElem? (i := 36) rfl))))
theorem cd_136_270 : mt_cd 136 270 = some (.sipush 4200) := mt_cd_of (q := (270, .sipush 4200, 3)) mq_136 ci_136 (List.mem_append_right _ (List.mem_append_right _ (List.mem_append_left _ (show _ ∈ my_136_2 from List.mem_of_getElem? (i := 37) rfl))))
theorem cd_136_273 : mt_cd 136 273 = some (.newarray .long) := mt_cd_of (q := (273, .newarray .long, 2)) mq_136 ci_136 (List.mem_append_right _ (List.mem_append_right _ (List.mem_append_left _ (show _ ∈ my_136_2 from List.mem_of_getElem? (i := 38) rfl))))
theorem cd_136_275 : mt_cd 136 275 = some (.putfield 108) := mt_cd_of (q := (275, .putfield 108, 3)) mq_136 ci_136 (List.mem_append_right _ (List.mem_append_right _ (List.mem_append_left _ (show _ ∈ my_136_2 from List.mem_of_getElem? (i := 39) rfl))))
theorem cd_136_278 : mt_cd 136 278 = some (.aload_n 0) := mt_cd_of (q := (278, .aload_n 0, 1)) mq_136 ci_136 (List.mem_append_right _ (List.mem_append_right _ (List.mem_append_left _ (show _ ∈ my_136_2 from List.mem_of_getElem? (i := 40) rfl))))
theorem cd_136_279 : mt_cd 136 279 = some (.bipush 8) := mt_cd_of (q := (279, .bipush 8, 2)) mq_136 ci_136 (List.mem_append_right _ (List.mem_append_right _ (List.mem_append_left _ (show _ ∈ my_136_2 from List.mem_of_getElem? (i := 41) rfl))))
theorem cd_136_281 : mt_cd 136 281 = some (.newarray .int) := mt_cd_of (q := (281, .newarray .int, 2)) mq_136 ci_136 (List.mem_append_right _ (List.mem_append_right _ (List.mem_append_left _ (show _ ∈ my_136_2 from List.mem_of_getElem? (i := 42) rfl))))
theorem cd_136_283 : mt_cd 136 283 = some (.putfield 111) := mt_cd_of (q := (283, .putfield 111, 3)) mq_136 ci_136 (List.mem_append_right _ (List.mem_append_right _ (List.mem_append_left _ (show _ ∈ my_136_2 from List.mem_of_getElem? (i := 43) rfl))))
theorem cd_136_286 : mt_cd 136 286 = some (.aload_n 0) := mt_cd_of (q := (286, .aload_n 0, 1)) mq_136 ci_136 (List.mem_append_right _ (List.mem_append_right _ (List.mem_append_left _ (show _ ∈ my_136_2 from List.mem_of_getElem? (i := 44) rfl))))
theorem cd_136_287 : mt_cd 136 287 = some (.bipush 8) := mt_cd_of (q := (287, .bipush 8, 2)) mq_136 ci_136 (List.mem_append_right _ (List.mem_append_right _ (List.mem_append_left _ (show _ ∈ my_136_2 from List.mem_of_getElem? (i := 45) rfl))))
theorem cd_136_289 : mt_cd 136 289 = some (.newarray .int) := mt_cd_of (q := (289, .newarray .int, 2)) mq_136 ci_136 (List.mem_append_right _ (List.mem_append_right _ (List.mem_append_left _ (show _ ∈ my_136_2 from List.mem_of_getElem? (i := 46) rfl))))
theorem cd_136_291 : mt_cd 136 291 = some (.putfield 114) := mt_cd_of (q := (291, .putfield 114, 3)) mq_136 ci_136 (List.mem_append_right _ (List.mem_append_right _ (List.mem_append_left _ (show _ ∈ my_136_2 from List.mem_of_getElem? (i := 47) rfl))))
theorem cd_136_294 : mt_cd 136 294 = some (.aload_n 0) := mt_cd_of (q := (294, .aload_n 0, 1)) mq_136 ci_136 (List.mem_append_right _ (List.mem_append_right _ (List.mem_append_left _ (show _ ∈ my_136_2 from List.mem_of_getElem? (i := 48) rfl))))
theorem cd_136_295 : mt_cd 136 295 = some (.iconst 4) := mt_cd_of (q := (295, .iconst 4, 1)) mq_136 ci_136 (List.mem_append_right _ (List.mem_append_right _ (List.mem_append_left _ (show _ ∈ my_136_2 from List.mem_of_getElem? (i := 49) rfl))))
theorem cd_136_296 : mt_cd 136 296 = some (.newarray .int) := mt_cd_of (q := (296, .newarray .int, 2)) mq_136 ci_136 (List.mem_append_right _ (List.mem_append_right _ (List.mem_append_left _ (show _ ∈ my_136_2 from List.mem_of_getElem? (i := 50) rfl))))
theorem cd_136_298 : mt_cd 136 298 = some (.putfield 117) := mt_cd_of (q := (298, .putfield 117, 3)) mq_136 ci_136 (List.mem_append_right _ (List.mem_append_right _ (List.mem_append_left _ (show _ ∈ my_136_2 from List.mem_of_getElem? (i := 51) rfl))))
theorem cd_136_301 : mt_cd 136 301 = some (.aload_n 0) := mt_cd_of (q := (301, .aload_n 0, 1)) mq_136 ci_136 (List.mem_append_right _ (List.mem_append_right _ (List.mem_append_left _ (show _ ∈ my_136_2 from List.mem_of_getElem? (i := 52) rfl))))
theorem cd_136_302 : mt_cd 136 302 = some (.iconst 4) := mt_cd_of (q := (302, .iconst 4, 1)) mq_136 ci_136 (List.mem_append_right _ (List.mem_append_right _ (List.mem_append_left _ (show _ ∈ my_136_2 from List.mem_of_getElem? (i := 53) rfl))))
theorem cd_136_303 : mt_cd 136 303 = some (.newarray .int) := mt_cd_of (q := (303, .newarray .int, 2)) mq_136 ci_136 (List.mem_append_right _ (List.mem_append_right _ (List.mem_append_left _ (show _ ∈ my_136_2 from List.mem_of_getElem? (i := 54) rfl))))
theorem cd_136_305 : mt_cd 136 305 = some (.putfield 120) := mt_cd_of (q := (305, .putfield 120, 3)) mq_136 ci_136 (List.mem_append_right _ (List.mem_append_right _ (List.mem_append_left _ (show _ ∈ my_136_2 from List.mem_of_getElem? (i := 55) rfl))))
theorem cd_136_308 : mt_cd 136 308 = some (.aload_n 0) := mt_cd_of (q := (308, .aload_n 0, 1)) mq_136 ci_136 (List.mem_append_right _ (List.mem_append_right _ (List.mem_append_left _ (show _ ∈ my_136_2 from List.mem_of_getElem? (i := 56) rfl))))
theorem cd_136_309 : mt_cd 136 309 = some (.bipush 8) := mt_cd_of (q := (309, .bipush 8, 2)) mq_136 ci_136 (List.mem_append_right _ (List.mem_append_right _ (List.mem_append_left _ (show _ ∈ my_136_2 from List.mem_of_getElem? (i := 57) rfl))))
theorem cd_136_311 : mt_cd 136 311 = some (.newarray .int) := mt_cd_of (q := (311, .newarray .int, 2)) mq_136 ci_136 (List.mem_append_right _ (List.mem_append_right _ (List.mem_append_left _ (show _ ∈ my_136_2 from List.mem_of_getElem? (i := 58) rfl))))
theorem cd_136_313 : mt_cd 136 313 = some (.putfield 123) := mt_cd_of (q := (313, .putfield 123, 3)) mq_136 ci_136 (List.mem_append_right _ (List.mem_append_right _ (List.mem_append_left _ (show _ ∈ my_136_2 from List.mem_of_getElem? (i := 59) rfl))))
theorem cd_136_316 : mt_cd 136 316 = some (.aload_n 0) := mt_cd_of (q := (316, .aload_n 0, 1)) mq_136 ci_136 (List.mem_append_right _ (List.mem_append_right _ (List.mem_append_right _ (List.mem_append_left _ (show _ ∈ my_136_3 from List.mem_of_getElem? (i := 0) rfl)))))
theorem cd_136_317 : mt_cd 136 317 = some (.bipush 8) := mt_cd_of (q := (317, .bipush 8, 2)) mq_136 ci_136 (List.mem_append_right _ (List.mem_append_right _ (List.mem_append_right _ (List.mem_append_left _ (show _ ∈ my_136_3 from List.mem_of_getElem? (i := 1) rfl)))))
theorem cd_136_319 : mt_cd 136 319 = some (.newarray .int) := mt_cd_of (q := (319, .newarray .int, 2)) mq_136 ci_136 (List.mem_append_right _ (List.mem_append_right _ (List.mem_append_right _ (List.mem_append_left _ (show _ ∈ my_136_3 from List.mem_of_getElem? (i := 2) rfl)))))
theorem cd_136_321 : mt_cd 136 321 = some (.putfield 126) := mt_cd_of (q := (321, .putfield 126, 3)) mq_136 ci_136 (List.mem_append_right _ (List.mem_append_right _ (List.mem_append_right _ (List.mem_append_left _ (show _ ∈ my_136_3 from List.mem_of_getElem? (i := 3) rfl)))))
theorem cd_136_324 : mt_cd 136 324 = some (.aload_n 0) := mt_cd_of (q := (324, .aload_n 0, 1)) mq_136 ci_136 (List.mem_append_right _ (List.mem_append_right _ (List.mem_append_right _ (List.mem_append_left _ (show _ ∈ my_136_3 from List.mem_of_getElem? (i := 4) rfl)))))
theorem cd_136_325 : mt_cd 136 325 = some (.bipush 8) := mt_cd_of (q := (325, .bipush 8, 2)) mq_136 ci_136 (List.mem_append_right _ (List.mem_append_right _ (List.mem_append_right _ (List.mem_append_left _ (show _ ∈ my_136_3 from List.mem_of_getElem? (i := 5) rfl)))))
theorem cd_136_327 : mt_cd 136 327 = some (.newarray .int) := mt_cd_of (q := (327, .newarray .int, 2)) mq_136 ci_136 (List.mem_append_right _ (List.mem_append_right _ (List.mem_append_right _ (List.mem_append_left _ (show _ ∈ my_136_3 from List.mem_of_getElem? (i := 6) rfl)))))
theorem cd_136_329 : mt_cd 136 329 = some (.putfield 129) := mt_cd_of (q := (329, .putfield 129, 3)) mq_136 ci_136 (List.mem_append_right _ (List.mem_append_right _ (List.mem_append_right _ (List.mem_append_left _ (show _ ∈ my_136_3 from List.mem_of_getElem? (i := 7) rfl)))))
theorem cd_136_332 : mt_cd 136 332 = some (.aload_n 0) := mt_cd_of (q := (332, .aload_n 0, 1)) mq_136 ci_136 (List.mem_append_right _ (List.mem_append_right _ (List.mem_append_right _ (List.mem_append_left _ (show _ ∈ my_136_3 from List.mem_of_getElem? (i := 8) rfl)))))
theorem cd_136_333 : mt_cd 136 333 = some (.bipush 8) := mt_cd_of (q := (333, .bipush 8, 2)) mq_136 ci_136 (List.mem_append_right _ (List.mem_append_right _ (List.mem_append_right _ (List.mem_append_left _ (show _ ∈ my_136_3 from List.mem_of_getElem? (i := 9) rfl)))))
theorem cd_136_335 : mt_cd 136 335 = some (.newarray .int) := mt_cd_of (q := (335, .newarray .int, 2)) mq_136 ci_136 (List.mem_append_right _ (List.mem_append_right _ (List.mem_append_right _ (List.mem_append_left _ (show _ ∈ my_136_3 from List.mem_of_getElem? (i := 10) rfl)))))
theorem cd_136_337 : mt_cd 136 337 = some (.putfield 132) := mt_cd_of (q := (337, .putfield 132, 3)) mq_136 ci_136 (List.mem_append_right _ (List.mem_append_right _ (List.mem_append_right _ (List.mem_append_left _ (show _ ∈ my_136_3 from List.mem_of_getElem? (i := 11) rfl)))))
theorem cd_136_340 : mt_cd 136 340 = some (.aload_n 0) := mt_cd_of (q := (340, .aload_n 0, 1)) mq_136 ci_136 (List.mem_append_right _ (List.mem_append_right _ (List.mem_append_right _ (List.mem_append_left _ (show _ ∈ my_136_3 from List.mem_of_getElem? (i := 12) rfl)))))
theorem cd_136_341 : mt_cd 136 341 = some (.bipush 8) := mt_cd_of (q := (341, .bipush 8, 2)) mq_136 ci_136 (List.mem_append_right _ (List.mem_append_right _ (List.mem_append_right _ (List.mem_append_left _ (show _ ∈ my_136_3 from List.mem_of_getElem? (i := 13) rfl)))))
theorem cd_136_343 : mt_cd 136 343 = some (.newarray .int) := mt_cd_of (q := (343, .newarray .int, 2)) mq_136 ci_136 (List.mem_append_right _ (List.mem_append_right _ (List.mem_append_right _ (List.mem_append_left _ (show _ ∈ my_136_3 from List.mem_of_getElem? (i := 14) rfl)))))
theorem cd_136_345 : mt_cd 136 345 = some (.putfield 135) := mt_cd_of (q := (345, .putfield 135, 3)) mq_136 ci_136 (List.mem_append_right _ (List.mem_append_right _ (List.mem_append_right _ (List.mem_append_left _ (show _ ∈ my_136_3 from List.mem_of_getElem? (i := 15) rfl)))))
theorem cd_136_348 : mt_cd 136 348 = some (.aload_n 0) := mt_cd_of (q := (348, .aload_n 0, 1)) mq_136 ci_136 (List.mem_append_right _ (List.mem_append_right _ (List.mem_append_right _ (List.mem_append_left _ (show _ ∈ my_136_3 from List.mem_of_getElem? (i := 16) rfl)))))
theorem cd_136_349 : mt_cd 136 349 = some (.sipush 800) := mt_cd_of (q := (349, .sipush 800, 3)) mq_136 ci_136 (List.mem_append_right _ (List.mem_append_right _ (List.mem_append_right _ (List.mem_append_left _ (show _ ∈ my_136_3 from List.mem_of_getElem? (i := 17) rfl)))))
theorem cd_136_352 : mt_cd 136 352 = some (.newarray .int) := mt_cd_of (q := (352, .newarray .int, 2)) mq_136 ci_136 (List.mem_append_right _ (List.mem_append_right _ (List.mem_append_right _ (List.mem_append_left _ (show _ ∈ my_136_3 from List.mem_of_getElem? (i := 18) rfl)))))
theorem cd_136_354 : mt_cd 136 354 = some (.putfield 138) := mt_cd_of (q := (354, .putfield 138, 3)) mq_136 ci_136 (List.mem_append_right _ (List.mem_append_right _ (List.mem_append_right _ (List.mem_append_left _ (show _ ∈ my_136_3 from List.mem_of_getElem? (i := 19) rfl)))))
theorem cd_136_357 : mt_cd 136 357 = some (.aload_n 0) := mt_cd_of (q := (357, .aload_n 0, 1)) mq_136 ci_136 (List.mem_append_right _ (List.mem_append_right _ (List.mem_append_right _ (List.mem_append_left _ (show _ ∈ my_136_3 from List.mem_of_getElem? (i := 20) rfl)))))
theorem cd_136_358 : mt_cd 136 358 = some (.sipush 800) := mt_cd_of (q := (358, .sipush 800, 3)) mq_136 ci_136 (List.mem_append_right _ (List.mem_append_right _ (List.mem_append_right _ (List.mem_append_left _ (show _ ∈ my_136_3 from List.mem_of_getElem? (i := 21) rfl)))))
theorem cd_136_361 : mt_cd 136 361 = some (.newarray .int) := mt_cd_of (q := (361, .newarray .int, 2)) mq_136 ci_136 (List.mem_append_right _ (List.mem_append_right _ (List.mem_append_right _ (List.mem_append_left _ (show _ ∈ my_136_3 from List.mem_of_getElem? (i := 22) rfl)))))
theorem cd_136_363 : mt_cd 136 363 = some (.putfield 141) := mt_cd_of (q := (363, .putfield 141, 3)) mq_136 ci_136 (List.mem_append_right _ (List.mem_append_right _ (List.mem_append_right _ (List.mem_append_left _ (show _ ∈ my_136_3 from List.mem_of_getElem? (i := 23) rfl)))))
theorem cd_136_366 : mt_cd 136 366 = some (.aload_n 0) := mt_cd_of (q := (366, .aload_n 0, 1)) mq_136 ci_136 (List.mem_append_right _ (List.mem_append_right _ (List.mem_append_right _ (List.mem_append_left _ (show _ ∈ my_136_3 from List.mem_of_getElem? (i := 24) rfl)))))
theorem cd_136_367 : mt_cd 136 367 = some (.new 144) := mt_cd_of (q := (367, .new 144, 3)) mq_136 ci_136 (List.mem_append_right _ (List.mem_append_right _ (List.mem_append_right _ (List.mem_append_left _ (show _ ∈ my_136_3 from List.mem_of_getElem? (i := 25) rfl)))))
theorem cd_136_370 : mt_cd 136 370 = some (.dup) := mt_cd_of (q := (370, .dup, 1)) mq_136 ci_136 (List.mem_append_right _ (List.mem_append_right _ (List.mem_append_right _ (List.mem_append_left _ (show _ ∈ my_136_3 from List.mem_of_getElem? (i := 26) rfl)))))
theorem cd_136_371 : mt_cd 136 371 = some (.invokespecial 146) := mt_cd_of (q := (371, .invokespecial 146, 3)) mq_136 ci_136 (List.mem_append_right _ (List.mem_append_right _ (List.mem_append_right _ (List.mem_append_left _ (show _ ∈ my_136_3 from List.mem_of_getElem? (i := 27) rfl)))))
theorem cd_136_374 : mt_cd 136 374 = some (.putfield 147) := mt_cd_of (q := (374, .putfield 147, 3)) mq_136 ci_136 (List.mem_append_right _ (List.mem_append_right _ (List.mem_append_right _ (List.mem_append_left _ (show _ ∈ my_136_3 from List.mem_of_getElem? (i := 28) rfl)))))
theorem cd_136_377 : mt_cd 136 377 = some (.aload_n 0) := mt_cd_of (q := (377, .aload_n 0, 1)) mq_136 ci_136 (List.mem_append_right _ (List.mem_append_right _ (List.mem_append_right _ (List.mem_append_left _ (show _ ∈ my_136_3 from List.mem_of_getElem? (i := 29) rfl)))))
theorem cd_136_378 : mt_cd 136 378 = some (.new 144) := mt_cd_of (q := (378, .new 144, 3)) mq_136 ci_136 (List.mem_append_right _ (List.mem_append_right _ (List.mem_append_right _ (List.mem_append_left _ (show _ ∈ my_136_3 from List.mem_of_getElem? (i := 30) rfl)))))
theorem cd_136_381 : mt_cd 136 381 = some (.dup) := mt_cd_of (q := (381, .dup, 1)) mq_136 ci_136 (List.mem_append_right _ (List.mem_append_right _ (List.mem_append_right _ (List.mem_append_left _ (show _ ∈ my_136_3 from List.mem_of_getElem? (i := 31) rfl)))))
theorem cd_136_382 : mt_cd 136 382 = some (.invokespecial 146) := mt_cd_of (q := (382, .invokespecial 146, 3)) mq_136 ci_136 (List.mem_append_right _ (List.mem_append_right _ (List.mem_append_right _ (List.mem_append_left _ (show _ ∈ my_136_3 from List.mem_of_getElem? (i := 32) rfl)))))
theorem cd_136_385 : mt_cd 136 385 = some (.putfield 151) := mt_cd_of (q := (385, .putfield 151, 3)) mq_136 ci_136 (List.mem_append_right _ (List.mem_append_right _ (List.mem_append_right _ (List.mem_append_left _ (show _ ∈ my_136_3 from List.mem_of_getElem? (i := 33) rfl)))))
theorem cd_136_388 : mt_cd 136 388 = some (.aload_n 0) := mt_cd_of (q := (388, .aload_n 0, 1)) mq_136 ci_136 (List.mem_append_right _ (List.mem_append_right _ (List.mem_append_right _ (List.mem_append_left _ (show _ ∈ my_136_3 from List.mem_of_getElem? (i := 34) rfl)))))
theorem cd_136_389 : mt_cd 136 389 = some (.sipush 2000) := mt_cd_of (q := (389, .sipush 2000, 3)) mq_136 ci_136 (List.mem_append_right _ (List.mem_append_right _ (List.mem_append_right _ (List.mem_append_left _ (show _ ∈ my_136_3 from List.mem_of_getElem? (i := 35) rfl)))))
theorem cd_136_392 : mt_cd 136 392 = some (.newarray .int) := mt_cd_of (q := (392, .newarray .int, 2)) mq_136 ci_136 (List.mem_append_right _ (List.mem_append_right _ (List.mem_append_right _ (List.mem_append_left _ (show _ ∈ my_136_3 from List.mem_of_getElem? (i := 36) rfl)))))
theorem cd_136_394 : mt_cd 136 394 = some (.putfield 154) := mt_cd_of (q := (394, .putfield 154, 3)) mq_136 ci_136 (List.mem_append_right _ (List.mem_append_right _ (List.mem_append_right _ (List.mem_append_left _ (show _ ∈ my_136_3 from List.mem_of_getElem? (i := 37) rfl)))))
theorem cd_136_397 : mt_cd 136 397 = some (.aload_n 0) := mt_cd_of (q := (397, .aload_n 0, 1)) mq_136 ci_136 (List.mem_append_right _ (List.mem_append_right _ (List.mem_append_right _ (List.mem_append_left _ (show _ ∈ my_136_3 from List.mem_of_getElem? (i := 38) rfl)))))
theorem cd_136_398 : mt_cd 136 398 = some (.sipush 2000) := mt_cd_of (q := (398, .sipush 2000, 3)) mq_136 ci_136 (List.mem_append_right _ (List.mem_append_right _ (List.mem_append_right _ (List.mem_append_left _ (show _ ∈ my_136_3 from List.mem_of_getElem? (i := 39) rfl)))))
theorem cd_136_401 : mt_cd 136 401 = some (.newarray .int) := mt_cd_of (q := (401, .newarray .int, 2)) mq_136 ci_136 (List.mem_append_right _ (List.mem_append_right _ (List.mem_append_right _ (List.mem_append_left _ (show _ ∈ my_136_3 from List.mem_of_getElem? (i := 40) rfl)))))
theorem cd_136_403 : mt_cd 136 403 = some (.putfield 157) := mt_cd_of (q := (403, .putfield 157, 3)) mq_136 ci_136 (List.mem_append_right _ (List.mem_append_right _ (List.mem_append_right _ (List.mem_append_left _ (show _ ∈ my_136_3 from List.mem_of_getElem? (i := 41) rfl)))))
theorem cd_136_406 : mt_cd 136 406 = some (.aload_n 0) := mt_cd_of (q := (406, .aload_n 0, 1)) mq_136 ci_136 (List.mem_append_right _ (List.mem_append_right _ (List.mem_append_right _ (List.mem_append_left _ (show _ ∈ my_136_3 from List.mem_of_getElem? (i := 42) rfl)))))
theorem cd_136_407 : mt_cd 136 407 = some (.sipush 2000) := mt_cd_of (q := (407, .sipush 2000, 3)) mq_136 ci_136 (List.mem_append_right _ (List.mem_append_right _ (List.mem_append_right _ (List.mem_append_left _ (show _ ∈ my_136_3 from List.mem_of_getElem? (i := 43) rfl)))))
theorem cd_136_410 : mt_cd 136 410 = some (.newarray .int) := mt_cd_of (q := (410, .newarray .int, 2)) mq_136 ci_136 (List.mem_append_right _ (List.mem_append_right _ (List.mem_append_right _ (List.mem_append_left _ (show _ ∈ my_136_3 from List.mem_of_getElem? (i := 44) rfl)))))
theorem cd_136_412 : mt_cd 136 412 = some (.putfield 160) := mt_cd_of (q := (412, .putfield 160, 3)) mq_136 ci_136 (List.mem_append_right _ (List.mem_append_right _ (List.mem_append_right _ (List.mem_append_left _ (show _ ∈ my_136_3 from List.mem_of_getElem? (i := 45) rfl)))))
theorem cd_136_415 : mt_cd 136 415 = some (.aload_n 0) := mt_cd_of (q := (415, .aload_n 0, 1)) mq_136 ci_136 (List.mem_append_right _ (List.mem_append_right _ (List.mem_append_right _ (List.mem_append_left _ (show _ ∈ my_136_3 from List.mem_of_getElem? (i := 46) rfl)))))
theorem cd_136_416 : mt_cd 136 416 = some (.sipush 2000) := mt_cd_of (q := (416, .sipush 2000, 3)) mq_136 ci_136 (List.mem_append_right _ (List.mem_append_right _ (List.mem_append_right _ (List.mem_append_left _ (show _ ∈ my_136_3 from List.mem_of_getElem? (i := 47) rfl)))))
theorem cd_136_419 : mt_cd 136 419 = some (.newarray .int) := mt_cd_of (q := (419, .newarray .int, 2)) mq_136 ci_136 (List.mem_append_right _ (List.mem_append_right _ (List.mem_append_right _ (List.mem_append_left _ (show _ ∈ my_136_3 from List.mem_of_getElem? (i := 48) rfl)))))
theorem cd_136_421 : mt_cd 136 421 = some (.putfield 163) := mt_cd_of (q := (421, .putfield 163, 3)) mq_136 ci_136 (List.mem_append_right _ (List.mem_append_right _ (List.mem_append_right _ (List.mem_append_left _ (show _ ∈ my_136_3 from List.mem_of_getElem? (i := 49) rfl)))))
theorem cd_136_424 : mt_cd 136 424 = some (.aload_n 0) := mt_cd_of (q := (424, .aload_n 0, 1)) mq_136 ci_136 (List.mem_append_right _ (List.mem_append_right _ (List.mem_append_right _ (List.mem_append_left _ (show _ ∈ my_136_3 from List.mem_of_getElem? (i := 50) rfl)))))
theorem cd_136_425 : mt_cd 136 425 = some (.sipush 2000) := mt_cd_of (q := (425, .sipush 2000, 3)) mq_136 ci_136 (List.mem_append_right _ (List.mem_append_right _ (List.mem_append_right _ (List.mem_append_left _ (show _ ∈ my_136_3 from List.mem_of_getElem? (i := 51) rfl)))))
theorem cd_136_428 : mt_cd 136 428 = some (.newarray .int) := mt_cd_of (q := (428, .newarray .int, 2)) mq_136 ci_136 (List.mem_append_right _ (List.mem_append_right _ (List.mem_append_right _ (List.mem_append_left _ (show _ ∈ my_136_3 from List.mem_of_getElem? (i := 52) rfl)))))
theorem cd_136_430 : mt_cd 136 430 = some (.putfield 166) := mt_cd_of (q := (430, .putfield 166, 3)) mq_136 ci_136 (List.mem_append_right _ (List.mem_append_right _ (List.mem_append_right _ (List.mem_append_left _ (show _ ∈ my_136_3 from List.mem_of_getElem? (i := 53) rfl)))))
theorem cd_136_433 : mt_cd 136 433 = some (.aload_n 0) := mt_cd_of (q := (433, .aload_n 0, 1)) mq_136 ci_136 (List.mem_append_right _ (List.mem_append_right _ (List.mem_append_right _ (List.mem_append_left _ (show _ ∈ my_136_3 from List.mem_of_getElem? (i := 54) rfl)))))
theorem cd_136_434 : mt_cd 136 434 = some (.sipush 2000) := mt_cd_of (q := (434, .sipush 2000, 3)) mq_136 ci_136 (List.mem_append_right _ (List.mem_append_right _ (List.mem_append_right _ (List.mem_append_left _ (show _ ∈ my_136_3 from List.mem_of_getElem? (i := 55) rfl)))))
theorem cd_136_437 : mt_cd 136 437 = some (.newarray .long) := mt_cd_of (q := (437, .newarray .long, 2)) mq_136 ci_136 (List.mem_append_right _ (List.mem_append_right _ (List.mem_append_right _ (List.mem_append_left _ (show _ ∈ my_136_3 from List.mem_of_getElem? (i := 56) rfl)))))
theorem cd_136_439 : mt_cd 136 439 = some (.putfield 169) := mt_cd_of (q := (439, .putfield 169, 3)) mq_136 ci_136 (List.mem_append_right _ (List.mem_append_right _ (List.mem_append_right _ (List.mem_append_left _ (show _ ∈ my_136_3 from List.mem_of_getElem? (i := 57) rfl)))))
theorem cd_136_442 : mt_cd 136 442 = some (.aload_n 0) := mt_cd_of (q := (442, .aload_n 0, 1)) mq_136 ci_136 (List.mem_append_right _ (List.mem_append_right _ (List.mem_append_right _ (List.mem_append_left _ (show _ ∈ my_136_3 from List.mem_of_getElem? (i := 58) rfl)))))
theorem cd_136_443 : mt_cd 136 443 = some (.bipush 32) := mt_cd_of (q := (443, .bipush 32, 2)) mq_136 ci_136 (List.mem_append_right _ (List.mem_append_right _ (List.mem_append_right _ (List.mem_append_left _ (show _ ∈ my_136_3 from List.mem_of_getElem? (i := 59) rfl)))))
theorem cd_136_445 : mt_cd 136 445 = some (.newarray .long) := mt_cd_of (q := (445, .newarray .long, 2)) mq_136 ci_136 (List.mem_append_right _ (List.mem_append_right _ (List.mem_append_right _ (List.mem_append_right _ (List.mem_append_left _ (show _ ∈ my_136_4 from List.mem_of_getElem? (i := 0) rfl))))))
theorem cd_136_447 : mt_cd 136 447 = some (.putfield 172) := mt_cd_of (q := (447, .putfield 172, 3)) mq_136 ci_136 (List.mem_append_right _ (List.mem_append_right _ (List.mem_append_right _ (List.mem_append_right _ (List.mem_append_left _ (show _ ∈ my_136_4 from List.mem_of_getElem? (i := 1) rfl))))))
theorem cd_136_450 : mt_cd 136 450 = some (.aload_n 0) := mt_cd_of (q := (450, .aload_n 0, 1)) mq_136 ci_136 (List.mem_append_right _ (List.mem_append_right _ (List.mem_append_right _ (List.mem_append_right _ (List.mem_append_left _ (show _ ∈ my_136_4 from List.mem_of_getElem? (i := 2) rfl))))))
theorem cd_136_451 : mt_cd 136 451 = some (.bipush 32) := mt_cd_of (q := (451, .bipush 32, 2)) mq_136 ci_136 (List.mem_append_right _ (List.mem_append_right _ (List.mem_append_right _ (List.mem_append_right _ (List.mem_append_left _ (show _ ∈ my_136_4 from List.mem_of_getElem? (i := 3) rfl))))))
theorem cd_136_453 : mt_cd 136 453 = some (.newarray .long) := mt_cd_of (q := (453, .newarray .long, 2)) mq_136 ci_136 (List.mem_append_right _ (List.mem_append_right _ (List.mem_append_right _ (List.mem_append_right _ (List.mem_append_left _ (show _ ∈ my_136_4 from List.mem_of_getElem? (i := 4) rfl))))))
theorem cd_136_455 : mt_cd 136 455 = some (.putfield 175) := mt_cd_of (q := (455, .putfield 175, 3)) mq_136 ci_136 (List.mem_append_right _ (List.mem_append_right _ (List.mem_append_right _ (List.mem_append_right _ (List.mem_append_left _ (show _ ∈ my_136_4 from List.mem_of_getElem? (i := 5) rfl))))))
theorem cd_136_458 : mt_cd 136 458 = some (.aload_n 0) := mt_cd_of (q := (458, .aload_n 0, 1)) mq_136 ci_136 (List.mem_append_right _ (List.mem_append_right _ (List.mem_append_right _ (List.mem_append_right _ (List.mem_append_left _ (show _ ∈ my_136_4 from List.mem_of_getElem? (i := 6) rfl))))))
theorem cd_136_459 : mt_cd 136 459 = some (.bipush 16) := mt_cd_of (q := (459, .bipush 16, 2)) mq_136 ci_136 (List.mem_append_right _ (List.mem_append_right _ (List.mem_append_right _ (List.mem_append_right _ (List.mem_append_left _ (show _ ∈ my_136_4 from List.mem_of_getElem? (i := 7) rfl))))))
theorem cd_136_461 : mt_cd 136 461 = some (.newarray .int) := mt_cd_of (q := (461, .newarray .int, 2)) mq_136 ci_136 (List.mem_append_right _ (List.mem_append_right _ (List.mem_append_right _ (List.mem_append_right _ (List.mem_append_left _ (show _ ∈ my_136_4 from List.mem_of_getElem? (i := 8) rfl))))))
theorem cd_136_463 : mt_cd 136 463 = some (.putfield 178) := mt_cd_of (q := (463, .putfield 178, 3)) mq_136 ci_136 (List.mem_append_right _ (List.mem_append_right _ (List.mem_append_right _ (List.mem_append_right _ (List.mem_append_left _ (show _ ∈ my_136_4 from List.mem_of_getElem? (i := 9) rfl))))))
theorem cd_136_466 : mt_cd 136 466 = some (.aload_n 0) := mt_cd_of (q := (466, .aload_n 0, 1)) mq_136 ci_136 (List.mem_append_right _ (List.mem_append_right _ (List.mem_append_right _ (List.mem_append_right _ (List.mem_append_left _ (show _ ∈ my_136_4 from List.mem_of_getElem? (i := 10) rfl))))))
theorem cd_136_467 : mt_cd 136 467 = some (.bipush 16) := mt_cd_of (q := (467, .bipush 16, 2)) mq_136 ci_136 (List.mem_append_right _ (List.mem_append_right _ (List.mem_append_right _ (List.mem_append_right _ (List.mem_append_left _ (show _ ∈ my_136_4 from List.mem_of_getElem? (i := 11) rfl))))))
theorem cd_136_469 : mt_cd 136 469 = some (.newarray .int) := mt_cd_of (q := (469, .newarray .int, 2)) mq_136 ci_136 (List.mem_append_right _ (List.mem_append_right _ (List.mem_append_right _ (List.mem_append_right _ (List.mem_append_left _ (show _ ∈ my_136_4 from List.mem_of_getElem? (i := 12) rfl))))))
theorem cd_136_471 : mt_cd 136 471 = some (.putfield 181) := mt_cd_of (q := (471, .putfield 181, 3)) mq_136 ci_136 (List.mem_append_right _ (List.mem_append_right _ (List.mem_append_right _ (List.mem_append_right _ (List.mem_append_left _ (show _ ∈ my_136_4 from List.mem_of_getElem? (i := 13) rfl))))))
theorem cd_136_474 : mt_cd 136 474 = some (.aload_n 0) := mt_cd_of (q := (474, .aload_n 0, 1)) mq_136 ci_136 (List.mem_append_right _ (List.mem_append_right _ (List.mem_append_right _ (List.mem_append_right _ (List.mem_append_left _ (show _ ∈ my_136_4 from List.mem_of_getElem? (i := 14) rfl))))))
theorem cd_136_475 : mt_cd 136 475 = some (.bipush 16) := mt_cd_of (q := (475, .bipush 16, 2)) mq_136 ci_136 (List.mem_append_right _ (List.mem_append_right _ (List.mem_append_right _ (List.mem_append_right _ (List.mem_append_left _ (show _ ∈ my_136_4 from List.mem_of_getElem? (i := 15) rfl))))))
theorem cd_136_477 : mt_cd 136 477 = some (.newarray .int) := mt_cd_of (q := (477, .newarray .int, 2)) mq_136 ci_136 (List.mem_append_right _ (List.mem_append_right _ (List.mem_append_right _ (List.mem_append_right _ (List.mem_append_left _ (show _ ∈ my_136_4 from List.mem_of_getElem? (i := 16) rfl))))))
theorem cd_136_479 : mt_cd 136 479 = some (.putfield 184) := mt_cd_of (q := (479, .putfield 184, 3)) mq_136 ci_136 (List.mem_append_right _ (List.mem_append_right _ (List.mem_append_right _ (List.mem_append_right _ (List.mem_append_left _ (show _ ∈ my_136_4 from List.mem_of_getElem? (i := 17) rfl))))))
theorem cd_136_482 : mt_cd 136 482 = some (.aload_n 0) := mt_cd_of (q := (482, .aload_n 0, 1)) mq_136 ci_136 (List.mem_append_right _ (List.mem_append_right _ (List.mem_append_right _ (List.mem_append_right _ (List.mem_append_left _ (show _ ∈ my_136_4 from List.mem_of_getElem? (i := 18) rfl))))))
theorem cd_136_483 : mt_cd 136 483 = some (.bipush 16) := mt_cd_of (q := (483, .bipush 16, 2)) mq_136 ci_136 (List.mem_append_right _ (List.mem_append_right _ (List.mem_append_right _ (List.mem_append_right _ (List.mem_append_left _ (show _ ∈ my_136_4 from List.mem_of_getElem? (i := 19) rfl))))))
theorem cd_136_485 : mt_cd 136 485 = some (.newarray .int) := mt_cd_of (q := (485, .newarray .int, 2)) mq_136 ci_136 (List.mem_append_right _ (List.mem_append_right _ (List.mem_append_right _ (List.mem_append_right _ (List.mem_append_left _ (show _ ∈ my_136_4 from List.mem_of_getElem? (i := 20) rfl))))))
theorem cd_136_487 : mt_cd 136 487 = some (.putfield 187) := mt_cd_of (q := (487, .putfield 187, 3)) mq_136 ci_136 (List.mem_append_right _ (List.mem_append_right _ (List.mem_append_right _ (List.mem_append_right _ (List.mem_append_left _ (show _ ∈ my_136_4 from List.mem_of_getElem? (i := 21) rfl))))))
theorem cd_136_490 : mt_cd 136 490 = some (.aload_n 0) := mt_cd_of (q := (490, .aload_n 0, 1)) mq_136 ci_136 (List.mem_append_right _ (List.mem_append_right _ (List.mem_append_right _ (List.mem_append_right _ (List.mem_append_left _ (show _ ∈ my_136_4 from List.mem_of_getElem? (i := 22) rfl))))))
theorem cd_136_491 : mt_cd 136 491 = some (.bipush 16) := mt_cd_of (q := (491, .bipush 16, 2)) mq_136 ci_136 (List.mem_append_right _ (List.mem_append_right _ (List.mem_append_right _ (List.mem_append_right _ (List.mem_append_left _ (show _ ∈ my_136_4 from List.mem_of_getElem? (i := 23) rfl))))))
theorem cd_136_493 : mt_cd 136 493 = some (.newarray .long) := mt_cd_of (q := (493, .newarray .long, 2)) mq_136 ci_136 (List.mem_append_right _ (List.mem_append_right _ (List.mem_append_right _ (List.mem_append_right _ (List.mem_append_left _ (show _ ∈ my_136_4 from List.mem_of_getElem? (i := 24) rfl))))))
theorem cd_136_495 : mt_cd 136 495 = some (.putfield 190) := mt_cd_of (q := (495, .putfield 190, 3)) mq_136 ci_136 (List.mem_append_right _ (List.mem_append_right _ (List.mem_append_right _ (List.mem_append_right _ (List.mem_append_left _ (show _ ∈ my_136_4 from List.mem_of_getElem? (i := 25) rfl))))))
theorem cd_136_498 : mt_cd 136 498 = some (.aload_n 0) := mt_cd_of (q := (498, .aload_n 0, 1)) mq_136 ci_136 (List.mem_append_right _ (List.mem_append_right _ (List.mem_append_right _ (List.mem_append_right _ (List.mem_append_left _ (show _ ∈ my_136_4 from List.mem_of_getElem? (i := 26) rfl))))))
theorem cd_136_499 : mt_cd 136 499 = some (.sipush 2000) := mt_cd_of (q := (499, .sipush 2000, 3)) mq_136 ci_136 (List.mem_append_right _ (List.mem_append_right _ (List.mem_append_right _ (List.mem_append_right _ (List.mem_append_left _ (show _ ∈ my_136_4 from List.mem_of_getElem? (i := 27) rfl))))))
theorem cd_136_502 : mt_cd 136 502 = some (.newarray .int) := mt_cd_of (q := (502, .newarray .int, 2)) mq_136 ci_136 (List.mem_append_right _ (List.mem_append_right _ (List.mem_append_right _ (List.mem_append_right _ (List.mem_append_left _ (show _ ∈ my_136_4 from List.mem_of_getElem? (i := 28) rfl))))))
theorem cd_136_504 : mt_cd 136 504 = some (.putfield 193) := mt_cd_of (q := (504, .putfield 193, 3)) mq_136 ci_136 (List.mem_append_right _ (List.mem_append_right _ (List.mem_append_right _ (List.mem_append_right _ (List.mem_append_left _ (show _ ∈ my_136_4 from List.mem_of_getElem? (i := 29) rfl))))))
theorem cd_136_507 : mt_cd 136 507 = some (.aload_n 0) := mt_cd_of (q := (507, .aload_n 0, 1)) mq_136 ci_136 (List.mem_append_right _ (List.mem_append_right _ (List.mem_append_right _ (List.mem_append_right _ (List.mem_append_left _ (show _ ∈ my_136_4 from List.mem_of_getElem? (i := 30) rfl))))))
theorem cd_136_508 : mt_cd 136 508 = some (.sipush 2000) := mt_cd_of (q := (508, .sipush 2000, 3)) mq_136 ci_136 (List.mem_append_right _ (List.mem_append_right _ (List.mem_append_right _ (List.mem_append_right _ (List.mem_append_left _ (show _ ∈ my_136_4 from List.mem_of_getElem? (i := 31) rfl))))))
theorem cd_136_511 : mt_cd 136 511 = some (.newarray .int) := mt_cd_of (q := (511, .newarray .int, 2)) mq_136 ci_136 (List.mem_append_right _ (List.mem_append_right _ (List.mem_append_right _ (List.mem_append_right _ (List.mem_append_left _ (show _ ∈ my_136_4 from List.mem_of_getElem? (i := 32) rfl))))))
theorem cd_136_513 : mt_cd 136 513 = some (.putfield 196) := mt_cd_of (q := (513, .putfield 196, 3)) mq_136 ci_136 (List.mem_append_right _ (List.mem_append_right _ (List.mem_append_right _ (List.mem_append_right _ (List.mem_append_left _ (show _ ∈ my_136_4 from List.mem_of_getElem? (i := 33) rfl))))))
theorem cd_136_516 : mt_cd 136 516 = some (.aload_n 0) := mt_cd_of (q := (516, .aload_n 0, 1)) mq_136 ci_136 (List.mem_append_right _ (List.mem_append_right _ (List.mem_append_right _ (List.mem_append_right _ (List.mem_append_left _ (show _ ∈ my_136_4 from List.mem_of_getElem? (i := 34) rfl))))))
theorem cd_136_517 : mt_cd 136 517 = some (.sipush 2000) := mt_cd_of (q := (517, .sipush 2000, 3)) mq_136 ci_136 (List.mem_append_right _ (List.mem_append_right _ (List.mem_append_right _ (List.mem_append_right _ (List.mem_append_left _ (show _ ∈ my_136_4 from List.mem_of_getElem? (i := 35) rfl))))))
theorem cd_136_520 : mt_cd 136 520 = some (.newarray .int) := mt_cd_of (q := (520, .newarray .int, 2)) mq_136 ci_136 (List.mem_append_right _ (List.mem_append_right _ (List.mem_append_right _ (List.mem_append_right _ (List.mem_append_left _ (show _ ∈ my_136_4 from List.mem_of_getElem? (i := 36) rfl))))))
theorem cd_136_522 : mt_cd 136 522 = some (.putfield 199) := mt_cd_of (q := (522, .putfield 199, 3)) mq_136 ci_136 (List.mem_append_right _ (List.mem_append_right _ (List.mem_append_right _ (List.mem_append_right _ (List.mem_append_left _ (show _ ∈ my_136_4 from List.mem_of_getElem? (i := 37) rfl))))))
theorem cd_136_525 : mt_cd 136 525 = some (.aload_n 0) := mt_cd_of (q := (525, .aload_n 0, 1)) mq_136 ci_136 (List.mem_append_right _ (List.mem_append_right _ (List.mem_append_right _ (List.mem_append_right _ (List.mem_append_left _ (show _ ∈ my_136_4 from List.mem_of_getElem? (i := 38) rfl))))))
theorem cd_136_526 : mt_cd 136 526 = some (.sipush 2000) := mt_cd_of (q := (526, .sipush 2000, 3)) mq_136 ci_136 (List.mem_append_right _ (List.mem_append_right _ (List.mem_append_right _ (List.mem_append_right _ (List.mem_append_left _ (show _ ∈ my_136_4 from List.mem_of_getElem? (i := 39) rfl))))))
theorem cd_136_529 : mt_cd 136 529 = some (.newarray .int) := mt_cd_of (q := (529, .newarray .int, 2)) mq_136 ci_136 (List.mem_append_right _ (List.mem_append_right _ (List.mem_append_right _ (List.mem_append_right _ (List.mem_append_left _ (show _ ∈ my_136_4 from List.mem_of_getElem? (i := 40) rfl))))))
theorem cd_136_531 : mt_cd 136 531 = some (.putfield 202) := mt_cd_of (q := (531, .putfield 202, 3)) mq_136 ci_136 (List.mem_append_right _ (List.mem_append_right _ (List.mem_append_right _ (List.mem_append_right _ (List.mem_append_left _ (show _ ∈ my_136_4 from List.mem_of_getElem? (i := 41) rfl))))))
theorem cd_136_534 : mt_cd 136 534 = some (.aload_n 0) := mt_cd_of (q := (534, .aload_n 0, 1)) mq_136 ci_136 (List.mem_append_right _ (List.mem_append_right _ (List.mem_append_right _ (List.mem_append_right _ (List.mem_append_left _ (show _ ∈ my_136_4 from List.mem_of_getElem? (i := 42) rfl))))))
theorem cd_136_535 : mt_cd 136 535 = some (.sipush 2000) := mt_cd_of (q := (535, .sipush 2000, 3)) mq_136 ci_136 (List.mem_append_right _ (List.mem_append_right _ (List.mem_append_right _ (List.mem_append_right _ (List.mem_append_left _ (show _ ∈ my_136_4 from List.mem_of_getElem? (i := 43) rfl))))))
theorem cd_136_538 : mt_cd 136 538 = some (.newarray .int) := mt_cd_of (q := (538, .newarray .int, 2)) mq_136 ci_136 (List.mem_append_right _ (List.mem_append_right _ (List.mem_append_right _ (List.mem_append_right _ (List.mem_append_left _ (show _ ∈ my_136_4 from List.mem_of_getElem? (i := 44) rfl))))))
theorem cd_136_540 : mt_cd 136 540 = some (.putfield 205) := mt_cd_of (q := (540, .putfield 205, 3)) mq_136 ci_136 (List.mem_append_right _ (List.mem_append_right _ (List.mem_append_right _ (List.mem_append_right _ (List.mem_append_left _ (show _ ∈ my_136_4 from List.mem_of_getElem? (i := 45) rfl))))))
theorem cd_136_543 : mt_cd 136 543 = some (.aload_n 0) := mt_cd_of (q := (543, .aload_n 0, 1)) mq_136 ci_136 (List.mem_append_right _ (List.mem_append_right _ (List.mem_append_right _ (List.mem_append_right _ (List.mem_append_left _ (show _ ∈ my_136_4 from List.mem_of_getElem? (i := 46) rfl))))))
theorem cd_136_544 : mt_cd 136 544 = some (.sipush 2000) := mt_cd_of (q := (544, .sipush 2000, 3)) mq_136 ci_136 (List.mem_append_right _ (List.mem_append_right _ (List.mem_append_right _ (List.mem_append_right _ (List.mem_append_left _ (show _ ∈ my_136_4 from List.mem_of_getElem? (i := 47) rfl))))))
theorem cd_136_547 : mt_cd 136 547 = some (.newarray .long) := mt_cd_of (q := (547, .newarray .long, 2)) mq_136 ci_136 (List.mem_append_right _ (List.mem_append_right _ (List.mem_append_right _ (List.mem_append_right _ (List.mem_append_left _ (show _ ∈ my_136_4 from List.mem_of_getElem? (i := 48) rfl))))))
theorem cd_136_549 : mt_cd 136 549 = some (.putfield 208) := mt_cd_of (q := (549, .putfield 208, 3)) mq_136 ci_136 (List.mem_append_right _ (List.mem_append_right _ (List.mem_append_right _ (List.mem_append_right _ (List.mem_append_left _ (show _ ∈ my_136_4 from List.mem_of_getElem? (i := 49) rfl))))))
theorem cd_136_552 : mt_cd 136 552 = some (.aload_n 0) := mt_cd_of (q := (552, .aload_n 0, 1)) mq_136 ci_136 (List.mem_append_right _ (List.mem_append_right _ (List.mem_append_right _ (List.mem_append_right _ (List.mem_append_left _ (show _ ∈ my_136_4 from List.mem_of_getElem? (i := 50) rfl))))))
theorem cd_136_553 : mt_cd 136 553 = some (.sipush 2000) := mt_cd_of (q := (553, .sipush 2000, 3)) mq_136 ci_136 (List.mem_append_right _ (List.mem_append_right _ (List.mem_append_right _ (List.mem_append_right _ (List.mem_append_left _ (show _ ∈ my_136_4 from List.mem_of_getElem? (i := 51) rfl))))))
theorem cd_136_556 : mt_cd 136 556 = some (.newarray .int) := mt_cd_of (q := (556, .newarray .int, 2)) mq_136 ci_136 (List.mem_append_right _ (List.mem_append_right _ (List.mem_append_right _ (List.mem_append_right _ (List.mem_append_left _ (show _ ∈ my_136_4 from List.mem_of_getElem? (i := 52) rfl))))))
theorem cd_136_558 : mt_cd 136 558 = some (.putfield 211) := mt_cd_of (q := (558, .putfield 211, 3)) mq_136 ci_136 (List.mem_append_right _ (List.mem_append_right _ (List.mem_append_right _ (List.mem_append_right _ (List.mem_append_left _ (show _ ∈ my_136_4 from List.mem_of_getElem? (i := 53) rfl))))))
theorem cd_136_561 : mt_cd 136 561 = some (.aload_n 0) := mt_cd_of (q := (561, .aload_n 0, 1)) mq_136 ci_136 (List.mem_append_right _ (List.mem_append_right _ (List.mem_append_right _ (List.mem_append_right _ (List.mem_append_left _ (show _ ∈ my_136_4 from List.mem_of_getElem? (i := 54) rfl))))))
theorem cd_136_562 : mt_cd 136 562 = some (.sipush 2000) := mt_cd_of (q := (562, .sipush 2000, 3)) mq_136 ci_136 (List.mem_append_right _ (List.mem_append_right _ (List.mem_append_right _ (List.mem_append_right _ (List.mem_append_left _ (show _ ∈ my_136_4 from List.mem_of_getElem? (i := 55) rfl))))))
theorem cd_136_565 : mt_cd 136 565 = some (.newarray .int) := mt_cd_of (q := (565, .newarray .int, 2)) mq_136 ci_136 (List.mem_append_right _ (List.mem_append_right _ (List.mem_append_right _ (List.mem_append_right _ (List.mem_append_left _ (show _ ∈ my_136_4 from List.mem_of_getElem? (i := 56) rfl))))))
theorem cd_136_567 : mt_cd 136 567 = some (.putfield 214) := mt_cd_of (q := (567, .putfield 214, 3)) mq_136 ci_136 (List.mem_append_right _ (List.mem_append_right _ (List.mem_append_right _ (List.mem_append_right _ (List.mem_append_left _ (show _ ∈ my_136_4 from List.mem_of_getElem? (i := 57) rfl))))))
theorem cd_136_570 : mt_cd 136 570 = some (.aload_n 0) := mt_cd_of (q := (570, .aload_n 0, 1)) mq_136 ci_136 (List.mem_append_right _ (List.mem_append_right _ (List.mem_append_right _ (List.mem_append_right _ (List.mem_append_left _ (show _ ∈ my_136_4 from List.mem_of_getElem? (i := 58) rfl))))))
theorem cd_136_571 : mt_cd 136 571 = some (.sipush 2000) := mt_cd_of (q := (571, .sipush 2000, 3)) mq_136 ci_136 (List.mem_append_right _ (List.mem_append_right _ (List.mem_append_right _ (List.mem_append_right _ (List.mem_append_left _ (show _ ∈ my_136_4 from List.mem_of_getElem? (i := 59) rfl))))))
theorem cd_136_574 : mt_cd 136 574 = some (.newarray .int) := mt_cd_of (q := (574, .newarray .int, 2)) mq_136 ci_136 (List.mem_append_right _ (List.mem_append_right _ (List.mem_append_right _ (List.mem_append_right _ (List.mem_append_right _ ((show _ ∈ my_136_5 from List.mem_of_getElem? (i := 0) rfl)))))))
theorem cd_136_576 : mt_cd 136 576 = some (.putfield 217) := mt_cd_of (q := (576, .putfield 217, 3)) mq_136 ci_136 (List.mem_append_right _ (List.mem_append_right _ (List.mem_append_right _ (List.mem_append_right _ (List.mem_append_right _ ((show _ ∈ my_136_5 from List.mem_of_getElem? (i := 1) rfl)))))))
theorem cd_136_579 : mt_cd 136 579 = some (.aload_n 0) := mt_cd_of (q := (579, .aload_n 0, 1)) mq_136 ci_136 (List.mem_append_right _ (List.mem_append_right _ (List.mem_append_right _ (List.mem_append_right _ (List.mem_append_right _ ((show _ ∈ my_136_5 from List.mem_of_getElem? (i := 2) rfl)))))))
theorem cd_136_580 : mt_cd 136 580 = some (.sipush 2000) := mt_cd_of (q := (580, .sipush 2000, 3)) mq_136 ci_136 (List.mem_append_right _ (List.mem_append_right _ (List.mem_append_right _ (List.mem_append_right _ (List.mem_append_right _ ((show _ ∈ my_136_5 from List.mem_of_getElem? (i := 3) rfl)))))))
theorem cd_136_583 : mt_cd 136 583 = some (.newarray .int) := mt_cd_of (q := (583, .newarray .int, 2)) mq_136 ci_136 (List.mem_append_right _ (List.mem_append_right _ (List.mem_append_right _ (List.mem_append_right _ (List.mem_append_right _ ((show _ ∈ my_136_5 from List.mem_of_getElem? (i := 4) rfl)))))))
theorem cd_136_585 : mt_cd 136 585 = some (.putfield 220) := mt_cd_of (q := (585, .putfield 220, 3)) mq_136 ci_136 (List.mem_append_right _ (List.mem_append_right _ (List.mem_append_right _ (List.mem_append_right _ (List.mem_append_right _ ((show _ ∈ my_136_5 from List.mem_of_getElem? (i := 5) rfl)))))))
theorem cd_136_588 : mt_cd 136 588 = some (.aload_n 0) := mt_cd_of (q := (588, .aload_n 0, 1)) mq_136 ci_136 (List.mem_append_right _ (List.mem_append_right _ (List.mem_append_right _ (List.mem_append_right _ (List.mem_append_right _ ((show _ ∈ my_136_5 from List.mem_of_getElem? (i := 6) rfl)))))))
theorem cd_136_589 : mt_cd 136 589 = some (.sipush 2000) := mt_cd_of (q := (589, .sipush 2000, 3)) mq_136 ci_136 (List.mem_append_right _ (List.mem_append_right _ (List.mem_append_right _ (List.mem_append_right _ (List.mem_append_right _ ((show _ ∈ my_136_5 from List.mem_of_getElem? (i := 7) rfl)))))))
theorem cd_136_592 : mt_cd 136 592 = some (.newarray .long) := mt_cd_of (q := (592, .newarray .long, 2)) mq_136 ci_136 (List.mem_append_right _ (List.mem_append_right _ (List.mem_append_right _ (List.mem_append_right _ (List.mem_append_right _ ((show _ ∈ my_136_5 from List.mem_of_getElem? (i := 8) rfl)))))))
theorem cd_136_594 : mt_cd 136 594 = some (.putfield 223) := mt_cd_of (q := (594, .putfield 223, 3)) mq_136 ci_136 (List.mem_append_right _ (List.mem_append_right _ (List.mem_append_right _ (List.mem_append_right _ (List.mem_append_right _ ((show _ ∈ my_136_5 from List.mem_of_getElem? (i := 9) rfl)))))))
theorem cd_136_597 : mt_cd 136 597 = some (.aload_n 0) := mt_cd_of (q := (597, .aload_n 0, 1)) mq_136 ci_136 (List.mem_append_right _ (List.mem_append_right _ (List.mem_append_right _ (List.mem_append_right _ (List.mem_append_right _ ((show _ ∈ my_136_5 from List.mem_of_getElem? (i := 10) rfl)))))))
theorem cd_136_598 : mt_cd 136 598 = some (.sipush 2000) := mt_cd_of (q := (598, .sipush 2000, 3)) mq_136 ci_136 (List.mem_append_right _ (List.mem_append_right _ (List.mem_append_right _ (List.mem_append_right _ (List.mem_append_right _ ((show _ ∈ my_136_5 from List.mem_of_getElem? (i := 11) rfl)))))))
theorem cd_136_601 : mt_cd 136 601 = some (.newarray .long) := mt_cd_of (q := (601, .newarray .long, 2)) mq_136 ci_136 (List.mem_append_right _ (List.mem_append_right _ (List.mem_append_right _ (List.mem_append_right _ (List.mem_append_right _ ((show _ ∈ my_136_5 from List.mem_of_getElem? (i := 12) rfl)))))))
theorem cd_136_603 : mt_cd 136 603 = some (.putfield 226) := mt_cd_of (q := (603, .putfield 226, 3)) mq_136 ci_136 (List.mem_append_right _ (List.mem_append_right _ (List.mem_append_right _ (List.mem_append_right _ (List.mem_append_right _ ((show _ ∈ my_136_5 from List.mem_of_getElem? (i := 13) rfl)))))))
theorem cd_136_606 : mt_cd 136 606 = some (.aload_n 0) := mt_cd_of (q := (606, .aload_n 0, 1)) mq_136 ci_136 (List.mem_append_right _ (List.mem_append_right _ (List.mem_append_right _ (List.mem_append_right _ (List.mem_append_right _ ((show _ ∈ my_136_5 from List.mem_of_getElem? (i := 14) rfl)))))))
theorem cd_136_607 : mt_cd 136 607 = some (.sipush 2000) := mt_cd_of (q := (607, .sipush 2000, 3)) mq_136 ci_136 (List.mem_append_right _ (List.mem_append_right _ (List.mem_append_right _ (List.mem_append_right _ (List.mem_append_right _ ((show _ ∈ my_136_5 from List.mem_of_getElem? (i := 15) rfl)))))))
theorem cd_136_610 : mt_cd 136 610 = some (.anewarray 144) := mt_cd_of (q := (610, .anewarray 144, 3)) mq_136 ci_136 (List.mem_append_right _ (List.mem_append_right _ (List.mem_append_right _ (List.mem_append_right _ (List.mem_append_right _ ((show _ ∈ my_136_5 from List.mem_of_getElem? (i := 16) rfl)))))))
theorem cd_136_613 : mt_cd 136 613 = some (.putfield 229) := mt_cd_of (q := (613, .putfield 229, 3)) mq_136 ci_136 (List.mem_append_right _ (List.mem_append_right _ (List.mem_append_right _ (List.mem_append_right _ (List.mem_append_right _ ((show _ ∈ my_136_5 from List.mem_of_getElem? (i := 17) rfl)))))))
theorem cd_136_616 : mt_cd 136 616 = some (.aload_n 0) := mt_cd_of (q := (616, .aload_n 0, 1)) mq_136 ci_136 (List.mem_append_right _ (List.mem_append_right _ (List.mem_append_right _ (List.mem_append_right _ (List.mem_append_right _ ((show _ ∈ my_136_5 from List.mem_of_getElem? (i := 18) rfl)))))))
theorem cd_136_617 : mt_cd 136 617 = some (.bipush 16) := mt_cd_of (q := (617, .bipush 16, 2)) mq_136 ci_136 (List.mem_append_right _ (List.mem_append_right _ (List.mem_append_right _ (List.mem_append_right _ (List.mem_append_right _ ((show _ ∈ my_136_5 from List.mem_of_getElem? (i := 19) rfl)))))))
theorem cd_136_619 : mt_cd 136 619 = some (.newarray .int) := mt_cd_of (q := (619, .newarray .int, 2)) mq_136 ci_136 (List.mem_append_right _ (List.mem_append_right _ (List.mem_append_right _ (List.mem_append_right _ (List.mem_append_right _ ((show _ ∈ my_136_5 from List.mem_of_getElem? (i := 20) rfl)))))))
theorem cd_136_621 : mt_cd 136 621 = some (.putfield 233) := mt_cd_of (q := (621, .putfield 233, 3)) mq_136 ci_136 (List.mem_append_right _ (List.mem_append_right _ (List.mem_append_right _ (List.mem_append_right _ (List.mem_append_right _ ((show _ ∈ my_136_5 from List.mem_of_getElem? (i := 21) rfl)))))))
theorem cd_136_624 : mt_cd 136 624 = some (.aload_n 0) := mt_cd_of (q := (624, .aload_n 0, 1)) mq_136 ci_136 (List.mem_append_right _ (List.mem_append_right _ (List.mem_append_right _ (List.mem_append_right _ (List.mem_append_right _ ((show _ ∈ my_136_5 from List.mem_of_getElem? (i := 22) rfl)))))))
theorem cd_136_625 : mt_cd 136 625 = some (.bipush 16) := mt_cd_of (q := (625, .bipush 16, 2)) mq_136 ci_136 (List.mem_append_right _ (List.mem_append_right _ (List.mem_append_right _ (List.mem_append_right _ (List.mem_append_right _ ((show _ ∈ my_136_5 from List.mem_of_getElem? (i := 23) rfl)))))))
theorem cd_136_627 : mt_cd 136 627 = some (.newarray .int) := mt_cd_of (q := (627, .newarray .int, 2)) mq_136 ci_136 (List.mem_append_right _ (List.mem_append_right _ (List.mem_append_right _ (List.mem_append_right _ (List.mem_append_right _ ((show _ ∈ my_136_5 from List.mem_of_getElem? (i := 24) rfl)))))))
theorem cd_136_629 : mt_cd 136 629 = some (.putfield 236) := mt_cd_of (q := (629, .putfield 236, 3)) mq_136 ci_136 (List.mem_append_right _ (List.mem_append_right _ (List.mem_append_right _ (List.mem_append_right _ (List.mem_append_right _ ((show _ ∈ my_136_5 from List.mem_of_getElem? (i := 25) rfl)))))))
theorem cd_136_632 : mt_cd 136 632 = some (.aload_n 0) := mt_cd_of (q := (632, .aload_n 0, 1)) mq_136 ci_136 (List.mem_append_right _ (List.mem_append_right _ (List.mem_append_right _ (List.mem_append_right _ (List.mem_append_right _ ((show _ ∈ my_136_5 from List.mem_of_getElem? (i := 26) rfl)))))))
theorem cd_136_633 : mt_cd 136 633 = some (.bipush 16) := mt_cd_of (q := (633, .bipush 16, 2)) mq_136 ci_136 (List.mem_append_right _ (List.mem_append_right _ (List.mem_append_right _ (List.mem_append_right _ (List.mem_append_right _ ((show _ ∈ my_136_5 from List.mem_of_getElem? (i := 27) rfl)))))))
theorem cd_136_635 : mt_cd 136 635 = some (.newarray .int) := mt_cd_of (q := (635, .newarray .int, 2)) mq_136 ci_136 (List.mem_append_right _ (List.mem_append_right _ (List.mem_append_right _ (List.mem_append_right _ (List.mem_append_right _ ((show _ ∈ my_136_5 from List.mem_of_getElem? (i := 28) rfl)))))))
theorem cd_136_637 : mt_cd 136 637 = some (.putfield 239) := mt_cd_of (q := (637, .putfield 239, 3)) mq_136 ci_136 (List.mem_append_right _ (List.mem_append_right _ (List.mem_append_right _ (List.mem_append_right _ (List.mem_append_right _ ((show _ ∈ my_136_5 from List.mem_of_getElem? (i := 29) rfl)))))))
theorem cd_136_640 : mt_cd 136 640 = some (.aload_n 0) := mt_cd_of (q := (640, .aload_n 0, 1)) mq_136 ci_136 (List.mem_append_right _ (List.mem_append_right _ (List.mem_append_right _ (List.mem_append_right _ (List.mem_append_right _ ((show _ ∈ my_136_5 from List.mem_of_getElem? (i := 30) rfl)))))))
theorem cd_136_641 : mt_cd 136 641 = some (.bipush 16) := mt_cd_of (q := (641, .bipush 16, 2)) mq_136 ci_136 (List.mem_append_right _ (List.mem_append_right _ (List.mem_append_right _ (List.mem_append_right _ (List.mem_append_right _ ((show _ ∈ my_136_5 from List.mem_of_getElem? (i := 31) rfl)))))))
theorem cd_136_643 : mt_cd 136 643 = some (.newarray .int) := mt_cd_of (q := (643, .newarray .int, 2)) mq_136 ci_136 (List.mem_append_right _ (List.mem_append_right _ (List.mem_append_right _ (List.mem_append_right _ (List.mem_append_right _ ((show _ ∈ my_136_5 from List.mem_of_getElem? (i := 32) rfl)))))))
theorem cd_136_645 : mt_cd 136 645 = some (.putfield 242) := mt_cd_of (q := (645, .putfield 242, 3)) mq_136 ci_136 (List.mem_append_right _ (List.mem_append_right _ (List.mem_append_right _ (List.mem_append_right _ (List.mem_append_right _ ((show _ ∈ my_136_5 from List.mem_of_getElem? (i := 33) rfl)))))))
theorem cd_136_648 : mt_cd 136 648 = some (.aload_n 0) := mt_cd_of (q := (648, .aload_n 0, 1)) mq_136 ci_136 (List.mem_append_right _ (List.mem_append_right _ (List.mem_append_right _ (List.mem_append_right _ (List.mem_append_right _ ((show _ ∈ my_136_5 from List.mem_of_getElem? (i := 34) rfl)))))))
theorem cd_136_649 : mt_cd 136 649 = some (.bipush 16) := mt_cd_of (q := (649, .bipush 16, 2)) mq_136 ci_136 (List.mem_append_right _ (List.mem_append_right _ (List.mem_append_right _ (List.mem_append_right _ (List.mem_append_right _ ((show _ ∈ my_136_5 from List.mem_of_getElem? (i := 35) rfl)))))))
theorem cd_136_651 : mt_cd 136 651 = some (.newarray .long) := mt_cd_of (q := (651, .newarray .long, 2)) mq_136 ci_136 (List.mem_append_right _ (List.mem_append_right _ (List.mem_append_right _ (List.mem_append_right _ (List.mem_append_right _ ((show _ ∈ my_136_5 from List.mem_of_getElem? (i := 36) rfl)))))))
theorem cd_136_653 : mt_cd 136 653 = some (.putfield 245) := mt_cd_of (q := (653, .putfield 245, 3)) mq_136 ci_136 (List.mem_append_right _ (List.mem_append_right _ (List.mem_append_right _ (List.mem_append_right _ (List.mem_append_right _ ((show _ ∈ my_136_5 from List.mem_of_getElem? (i := 37) rfl)))))))
theorem cd_136_656 : mt_cd 136 656 = some (.return_) := mt_cd_of (q := (656, .return_, 1)) mq_136 ci_136 (List.mem_append_right _ (List.mem_append_right _ (List.mem_append_right _ (List.mem_append_right _ (List.mem_append_right _ ((show _ ∈ my_136_5 from List.mem_of_getElem? (i := 38) rfl)))))))
theorem b_136_0 {d : Nat} {Q : (Option Value ⊕ Nat) → mi_H → Prop} (n sl : Nat) (f : Nat → mi_C) {l1 : Nat} {fs2 : List Value} {fs6 : List Value} {m10 : Nat} {fs13 : List Value} {m17 : Nat} {fs20 : List Value} (h3 : f l1 = .inr (12, fs2)) (h4 : l1 < n) (h5 : 3 < fs2.length) (h7 : (va_up f l1 (.inr (12, fs2.set 3 (.int (-1))))) l1 = .inr (12, fs6)) (h8 : l1 < n) (h9 : 4 < fs6.length) (h11 : ¬ 8200 < (0 : Int32) ∧ Int32.toNatClampNeg 8200 = m10 ∧ m10 ≤ 1000000) (h12 : n + 1 ≤ mi_NC ∧ sl + m10 ≤ mi_NS) (h14 : (va_up (va_up (va_up f l1 (.inr (12, fs2.set 3 (.int (-1))))) l1 (.inr (12, fs6.set 4 (.int (-1))))) n (.inl (0, m10, .inl (fun _ => 0)))) l1 = .inr (12, fs13)) (h15 : l1 < (n + 1)) (h16 : 5 < fs13.length) (h18 : ¬ 8192 < (0 : Int32) ∧ Int32.toNatClampNeg 8192 = m17 ∧ m17 ≤ 1000000) (h19 : (n + 1) + 1 ≤ mi_NC ∧ (sl + m10) + m17 ≤ mi_NS) (h21 : (va_up (va_up (va_up (va_up (va_up f l1 (.inr (12, fs2.set 3 (.int (-1))))) l1 (.inr (12, fs6.set 4 (.int (-1))))) n (.inl (0, m10, .inl (fun _ => 0)))) l1 (.inr (12, fs13.set 5 (.ref n)))) (n + 1) (.inl (0, m17, .inl (fun _ => 0)))) l1 = .inr (12, fs20)) (h22 : l1 < ((n + 1) + 1)) (h23 : 6 < fs20.length) (h24 : mi_W d 136 32 [some (.ref l1)] [] (((n + 1) + 1), ((sl + m10) + m17), (va_up (va_up (va_up (va_up (va_up (va_up f l1 (.inr (12, fs2.set 3 (.int (-1))))) l1 (.inr (12, fs6.set 4 (.int (-1))))) n (.inl (0, m10, .inl (fun _ => 0)))) l1 (.inr (12, fs13.set 5 (.ref n)))) (n + 1) (.inl (0, m17, .inl (fun _ => 0)))) l1 (.inr (12, fs20.set 6 (.ref (n + 1)))))) Q) : mi_W d 136 0 [some (.ref l1)] [] (n, sl, f) Q := by
  refine w_aload_n cd_136_0 rfl ?_
  refine w_oinit cd_136_1 (by decide) (Nat.le_of_ble_eq_true rfl) ?_
  refine w_aload_n cd_136_4 rfl ?_
  refine w_iconst (v := (-1)) cd_136_5 (by decide) ?_
  refine w_putfield (w := .int (-1)) cd_136_6 (show mt_f 12 7 = some (12, 3) by decide +kernel) h3 h4 ⟨h5, rfl, Or.inl (by decide)⟩ ?_
  refine w_aload_n cd_136_9 rfl ?_
  refine w_iconst (v := (-1)) cd_136_10 (by decide) ?_
  refine w_putfield (w := .int (-1)) cd_136_11 (show mt_f 12 13 = some (12, 4) by decide +kernel) h7 h8 ⟨h9, rfl, Or.inl (by decide)⟩ ?_
  refine w_aload_n cd_136_14 rfl ?_
  refine w_sipush (v := 8200) cd_136_15 (by decide) ?_
  refine w_newarray cd_136_18 rfl h11 h12 ?_
  refine w_putfield (w := .ref n) cd_136_20 (show mt_f 12 16 = some (12, 5) by decide +kernel) h14 h15 ⟨h16, rfl, Or.inr (by decide +kernel)⟩ ?_
  refine w_aload_n cd_136_23 rfl ?_
  refine w_sipush (v := 8192) cd_136_24 (by decide) ?_
  refine w_newarray cd_136_27 rfl h18 h19 ?_
  refine w_putfield (w := .ref (n + 1)) cd_136_29 (show mt_f 12 20 = some (12, 6) by decide +kernel) h21 h22 ⟨h23, rfl, Or.inr (by decide +kernel)⟩ ?_
  exact h24
theorem b_136_32 {d : Nat} {Q : (Option Value ⊕ Nat) → mi_H → Prop} (n sl : Nat) (f : Nat → mi_C) {l1 : Nat} {m2 : Nat} (m5 i5 : Nat) (g5 : Nat → Option Nat) (m10 i10 : Nat) (g10 : Nat → Option Nat) (m15 i15 : Nat) (g15 : Nat → Option Nat) (m20 i20 : Nat) (g20 : Nat → Option Nat) (m25 i25 : Nat) (g25 : Nat → Option Nat) (m30 i30 : Nat) (g30 : Nat → Option Nat) (m35 i35 : Nat) (g35 : Nat → Option Nat) (m40 i40 : Nat) (g40 : Nat → Option Nat) (m45 i45 : Nat) (g45 : Nat → Option Nat) (m50 i50 : Nat) (g50 : Nat → Option Nat) (m55 i55 : Nat) (g55 : Nat → Option Nat) (m60 i60 : Nat) (g60 : Nat → Option Nat) (m65 i65 : Nat) (g65 : Nat → Option Nat) (m70 i70 : Nat) (g70 : Nat → Option Nat) (m75 i75 : Nat) (g75 : Nat → Option Nat) (m80 i80 : Nat) (g80 : Nat → Option Nat) (m85 i85 : Nat) (g85 : Nat → Option Nat) (m90 i90 : Nat) (g90 : Nat → Option Nat) (m95 i95 : Nat) (g95 : Nat → Option Nat) (m100 i100 : Nat) (g100 : Nat → Option Nat) (m105 i105 : Nat) (g105 : Nat → Option Nat) (m110 i110 : Nat) (g110 : Nat → Option Nat) (m115 i115 : Nat) (g115 : Nat → Option Nat) (m120 i120 : Nat) (g120 : Nat → Option Nat) {fs125 : List Value} (h3 : ¬ 24 < (0 : Int32) ∧ Int32.toNatClampNeg 24 = m2 ∧ m2 ≤ 1000000) (h4 : n + 1 ≤ mi_NC ∧ sl + m2 ≤ mi_NS) (h6 : n < (n + 1)) (h7 : mi_ix 0 m5 i5) (h8 : (va_up f n (.inl (5, m2, .inr (.inr (.inr (.inr (fun _ => none))))))) n = .inl (5, m5, .inr (.inr (.inr (.inr g5))))) (h9 : (n + 1) ≤ mi_SC) (h11 : n < (n + 1)) (h12 : mi_ix 1 m10 i10) (h13 : (va_up (va_up f n (.inl (5, m2, .inr (.inr (.inr (.inr (fun _ => none))))))) n (.inl (5, m5, .inr (.inr (.inr (.inr (va_up g5 i5 (some (mi_SC + 1 + 2 * 16))))))))) n = .inl (5, m10, .inr (.inr (.inr (.inr g10))))) (h14 : (n + 1) ≤ mi_SC) (h16 : n < (n + 1)) (h17 : mi_ix 2 m15 i15) (h18 : (va_up (va_up (va_up f n (.inl (5, m2, .inr (.inr (.inr (.inr (fun _ => none))))))) n (.inl (5, m5, .inr (.inr (.inr (.inr (va_up g5 i5 (some (mi_SC + 1 + 2 * 16))))))))) n (.inl (5, m10, .inr (.inr (.inr (.inr (va_up g10 i10 (some (mi_SC + 1 + 2 * 17))))))))) n = .inl (5, m15, .inr (.inr (.inr (.inr g15))))) (h19 : (n + 1) ≤ mi_SC) (h21 : n < (n + 1)) (h22 : mi_ix 3 m20 i20) (h23 : (va_up (va_up (va_up (va_up f n (.inl (5, m2, .inr (.inr (.inr (.inr (fun _ => none))))))) n (.inl (5, m5, .inr (.inr (.inr (.inr (va_up g5 i5 (some (mi_SC + 1 + 2 * 16))))))))) n (.inl (5, m10, .inr (.inr (.inr (.inr (va_up g10 i10 (some (mi_SC + 1 + 2 * 17))))))))) n (.inl (5, m15, .inr (.inr (.inr (.inr (va_up g15 i15 (some (mi_SC + 1 + 2 * 18))))))))) n = .inl (5, m20, .inr (.inr (.inr (.inr g20))))) (h24 : (n + 1) ≤ mi_SC) (h26 : n < (n + 1)) (h27 : mi_ix 4 m25 i25) (h28 : (va_up (va_up (va_up (va_up (va_up f n (.inl (5, m2, .inr (.inr (.inr (.inr (fun _ => none))))))) n (.inl (5, m5, .inr (.inr (.inr (.inr (va_up g5 i5 (some (mi_SC + 1 + 2 * 16))))))))) n (.inl (5, m10, .inr (.inr (.inr (.inr (va_up g10 i10 (some (mi_SC + 1 + 2 * 17))))))))) n (.inl (5, m15, .inr (.inr (.inr (.inr (va_up g15 i15 (some (mi_SC + 1 + 2 * 18))))))))) n (.inl (5, m20, .inr (.inr (.inr (.inr (va_up g20 i20 (some (mi_SC + 1 + 2 * 19))))))))) n = .inl (5, m25, .inr (.inr (.inr (.inr g25))))) (h29 : (n + 1) ≤ mi_SC) (h31 : n < (n + 1)) (h32 : mi_ix 5 m30 i30) (h33 : (va_up (va_up (va_up (va_up (va_up (va_up f n (.inl (5, m2, .inr (.inr (.inr (.inr (fun _ => none))))))) n (.inl (5, m5, .inr (.inr (.inr (.inr (va_up g5 i5 (some (mi_SC + 1 + 2 * 16))))))))) n (.inl (5, m10, .inr (.inr (.inr (.inr (va_up g10 i10 (some (mi_SC + 1 + 2 * 17))))))))) n (.inl (5, m15, .inr (.inr (.inr (.inr (va_up g15 i15 (some (mi_SC + 1 + 2 * 18))))))))) n (.inl (5, m20, .inr (.inr (.inr (.inr (va_up g20 i20 (some (mi_SC + 1 + 2 * 19))))))))) n (.inl (5, m25, .inr (.inr (.inr (.inr (va_up g25 i25 (some (mi_SC + 1 + 2 * 20))))))))) n = .inl (5, m30, .inr (.inr (.inr (.inr g30))))) (h34 : (n + 1) ≤ mi_SC) (h36 : n < (n + 1)) (h37 : mi_ix 6 m35 i35) (h38 : (va_up (va_up (va_up (va_up (va_up (va_up (va_up f n (.inl (5, m2, .inr (.inr (.inr (.inr (fun _ => none))))))) n (.inl (5, m5, .inr (.inr (.inr (.inr (va_up g5 i5 (some (mi_SC + 1 + 2 * 16))))))))) n (.inl (5, m10, .inr (.inr (.inr (.inr (va_up g10 i10 (some (mi_SC + 1 + 2 * 17))))))))) n (.inl (5, m15, .inr (.inr (.inr (.inr (va_up g15 i15 (some (mi_SC + 1 + 2 * 18))))))))) n (.inl (5, m20, .inr (.inr (.inr (.inr (va_up g20 i20 (some (mi_SC + 1 + 2 * 19))))))))) n (.inl (5, m25, .inr (.inr (.inr (.inr (va_up g25 i25 (some (mi_SC + 1 + 2 * 20))))))))) n (.inl (5, m30, .inr (.inr (.inr (.inr (va_up g30 i30 (some (mi_SC + 1 + 2 * 21))))))))) n = .inl (5, m35, .inr (.inr (.inr (.inr g35))))) (h39 : (n + 1) ≤ mi_SC) (h41 : n < (n + 1)) (h42 : mi_ix 7 m40 i40) (h43 : (va_up (va_up (va_up (va_up (va_up (va_up (va_up (va_up f n (.inl (5, m2, .inr (.inr (.inr (.inr (fun _ => none))))))) n (.inl (5, m5, .inr (.inr (.inr (.inr (va_up g5 i5 (some (mi_SC + 1 + 2 * 16))))))))) n (.inl (5, m10, .inr (.inr (.inr (.inr (va_up g10 i10 (some (mi_SC + 1 + 2 * 17))))))))) n (.inl (5, m15, .inr (.inr (.inr (.inr (va_up g15 i15 (some (mi_SC + 1 + 2 * 18))))))))) n (.inl (5, m20, .inr (.inr (.inr (.inr (va_up g20 i20 (some (mi_SC + 1 + 2 * 19))))))))) n (.inl (5, m25, .inr (.inr (.inr (.inr (va_up g25 i25 (some (mi_SC + 1 + 2 * 20))))))))) n (.inl (5, m30, .inr (.inr (.inr (.inr (va_up g30 i30 (some (mi_SC + 1 + 2 * 21))))))))) n (.inl (5, m35, .inr (.inr (.inr (.inr (va_up g35 i35 (some (mi_SC + 1 + 2 * 22))))))))) n = .inl (5, m40, .inr (.inr (.inr (.inr g40))))) (h44 : (n + 1) ≤ mi_SC) (h46 : n < (n + 1)) (h47 : mi_ix 8 m45 i45) (h48 : (va_up (va_up (va_up (va_up (va_up (va_up (va_up (va_up (va_up f n (.inl (5, m2, .inr (.inr (.inr (.inr (fun _ => none))))))) n (.inl (5, m5, .inr (.inr (.inr (.inr (va_up g5 i5 (some (mi_SC + 1 + 2 * 16))))))))) n (.inl (5, m10, .inr (.inr (.inr (.inr (va_up g10 i10 (some (mi_SC + 1 + 2 * 17))))))))) n (.inl (5, m15, .inr (.inr (.inr (.inr (va_up g15 i15 (some (mi_SC + 1 + 2 * 18))))))))) n (.inl (5, m20, .inr (.inr (.inr (.inr (va_up g20 i20 (some (mi_SC + 1 + 2 * 19))))))))) n (.inl (5, m25, .inr (.inr (.inr (.inr (va_up g25 i25 (some (mi_SC + 1 + 2 * 20))))))))) n (.inl (5, m30, .inr (.inr (.inr (.inr (va_up g30 i30 (some (mi_SC + 1 + 2 * 21))))))))) n (.inl (5, m35, .inr (.inr (.inr (.inr (va_up g35 i35 (some (mi_SC + 1 + 2 * 22))))))))) n (.inl (5, m40, .inr (.inr (.inr (.inr (va_up g40 i40 (some (mi_SC + 1 + 2 * 23))))))))) n = .inl (5, m45, .inr (.inr (.inr (.inr g45))))) (h49 : (n + 1) ≤ mi_SC) (h51 : n < (n + 1)) (h52 : mi_ix 9 m50 i50) (h53 : (va_up (va_up (va_up (va_up (va_up (va_up (va_up (va_up (va_up (va_up f n (.inl (5, m2, .inr (.inr (.inr (.inr (fun _ => none))))))) n (.inl (5, m5, .inr (.inr (.inr (.inr (va_up g5 i5 (some (mi_SC + 1 + 2 * 16))))))))) n (.inl (5, m10, .inr (.inr (.inr (.inr (va_up g10 i10 (some (mi_SC + 1 + 2 * 17))))))))) n (.inl (5, m15, .inr (.inr (.inr (.inr (va_up g15 i15 (some (mi_SC + 1 + 2 * 18))))))))) n (.inl (5, m20, .inr (.inr (.inr (.inr (va_up g20 i20 (some (mi_SC + 1 + 2 * 19))))))))) n (.inl (5, m25, .inr (.inr (.inr (.inr (va_up g25 i25 (some (mi_SC + 1 + 2 * 20))))))))) n (.inl (5, m30, .inr (.inr (.inr (.inr (va_up g30 i30 (some (mi_SC + 1 + 2 * 21))))))))) n (.inl (5, m35, .inr (.inr (.inr (.inr (va_up g35 i35 (some (mi_SC + 1 + 2 * 22))))))))) n (.inl (5, m40, .inr (.inr (.inr (.inr (va_up g40 i40 (some (mi_SC + 1 + 2 * 23))))))))) n (.inl (5, m45, .inr (.inr (.inr (.inr (va_up g45 i45 (some (mi_SC + 1 + 2 * 24))))))))) n = .inl (5, m50, .inr (.inr (.inr (.inr g50))))) (h54 : (n + 1) ≤ mi_SC) (h56 : n < (n + 1)) (h57 : mi_ix 10 m55 i55) (h58 : (va_up (va_up (va_up (va_up (va_up (va_up (va_up (va_up (va_up (va_up (va_up f n (.inl (5, m2, .inr (.inr (.inr (.inr (fun _ => none))))))) n (.inl (5, m5, .inr (.inr (.inr (.inr (va_up g5 i5 (some (mi_SC + 1 + 2 * 16))))))))) n (.inl (5, m10, .inr (.inr (.inr (.inr (va_up g10 i10 (some (mi_SC + 1 + 2 * 17))))))))) n (.inl (5, m15, .inr (.inr (.inr (.inr (va_up g15 i15 (some (mi_SC + 1 + 2 * 18))))))))) n (.inl (5, m20, .inr (.inr (.inr (.inr (va_up g20 i20 (some (mi_SC + 1 + 2 * 19))))))))) n (.inl (5, m25, .inr (.inr (.inr (.inr (va_up g25 i25 (some (mi_SC + 1 + 2 * 20))))))))) n (.inl (5, m30, .inr (.inr (.inr (.inr (va_up g30 i30 (some (mi_SC + 1 + 2 * 21))))))))) n (.inl (5, m35, .inr (.inr (.inr (.inr (va_up g35 i35 (some (mi_SC + 1 + 2 * 22))))))))) n (.inl (5, m40, .inr (.inr (.inr (.inr (va_up g40 i40 (some (mi_SC + 1 + 2 * 23))))))))) n (.inl (5, m45, .inr (.inr (.inr (.inr (va_up g45 i45 (some (mi_SC + 1 + 2 * 24))))))))) n (.inl (5, m50, .inr (.inr (.inr (.inr (va_up g50 i50 (some (mi_SC + 1 + 2 * 25))))))))) n = .inl (5, m55, .inr (.inr (.inr (.inr g55))))) (h59 : (n + 1) ≤ mi_SC) (h61 : n < (n + 1)) (h62 : mi_ix 11 m60 i60) (h63 : (va_up (va_up (va_up (va_up (va_up (va_up (va_up (va_up (va_up (va_up (va_up (va_up f n (.inl (5, m2, .inr (.inr (.inr (.inr (fun _ => none))))))) n (.inl (5, m5, .inr (.inr (.inr (.inr (va_up g5 i5 (some (mi_SC + 1 + 2 * 16))))))))) n (.inl (5, m10, .inr (.inr (.inr (.inr (va_up g10 i10 (some (mi_SC + 1 + 2 * 17))))))))) n (.inl (5, m15, .inr (.inr (.inr (.inr (va_up g15 i15 (some (mi_SC + 1 + 2 * 18))))))))) n (.inl (5, m20, .inr (.inr (.inr (.inr (va_up g20 i20 (some (mi_SC + 1 + 2 * 19))))))))) n (.inl (5, m25, .inr (.inr (.inr (.inr (va_up g25 i25 (some (mi_SC + 1 + 2 * 20))))))))) n (.inl (5, m30, .inr (.inr (.inr (.inr (va_up g30 i30 (some (mi_SC + 1 + 2 * 21))))))))) n (.inl (5, m35, .inr (.inr (.inr (.inr (va_up g35 i35 (some (mi_SC + 1 + 2 * 22))))))))) n (.inl (5, m40, .inr (.inr (.inr (.inr (va_up g40 i40 (some (mi_SC + 1 + 2 * 23))))))))) n (.inl (5, m45, .inr (.inr (.inr (.inr (va_up g45 i45 (some (mi_SC + 1 + 2 * 24))))))))) n (.inl (5, m50, .inr (.inr (.inr (.inr (va_up g50 i50 (some (mi_SC + 1 + 2 * 25))))))))) n (.inl (5, m55, .inr (.inr (.inr (.inr (va_up g55 i55 (some (mi_SC + 1 + 2 * 26))))))))) n = .inl (5, m60, .inr (.inr (.inr (.inr g60))))) (h64 : (n + 1) ≤ mi_SC) (h66 : n < (n + 1)) (h67 : mi_ix 12 m65 i65) (h68 : (va_up (va_up (va_up (va_up (va_up (va_up (va_up (va_up (va_up (va_up (va_up (va_up (va_up f n (.inl (5, m2, .inr (.inr (.inr (.inr (fun _ => none))))))) n (.inl (5, m5, .inr (.inr (.inr (.inr (va_up g5 i5 (some (mi_SC + 1 + 2 * 16))))))))) n (.inl (5, m10, .inr (.inr (.inr (.inr (va_up g10 i10 (some (mi_SC + 1 + 2 * 17))))))))) n (.inl (5, m15, .inr (.inr (.inr (.inr (va_up g15 i15 (some (mi_SC + 1 + 2 * 18))))))))) n (.inl (5, m20, .inr (.inr (.inr (.inr (va_up g20 i20 (some (mi_SC + 1 + 2 * 19))))))))) n (.inl (5, m25, .inr (.inr (.inr (.inr (va_up g25 i25 (some (mi_SC + 1 + 2 * 20))))))))) n (.inl (5, m30, .inr (.inr (.inr (.inr (va_up g30 i30 (some (mi_SC + 1 + 2 * 21))))))))) n (.inl (5, m35, .inr (.inr (.inr (.inr (va_up g35 i35 (some (mi_SC + 1 + 2 * 22))))))))) n (.inl (5, m40, .inr (.inr (.inr (.inr (va_up g40 i40 (some (mi_SC + 1 + 2 * 23))))))))) n (.inl (5, m45, .inr (.inr (.inr (.inr (va_up g45 i45 (some (mi_SC + 1 + 2 * 24))))))))) n (.inl (5, m50, .inr (.inr (.inr (.inr (va_up g50 i50 (some (mi_SC + 1 + 2 * 25))))))))) n (.inl (5, m55, .inr (.inr (.inr (.inr (va_up g55 i55 (some (mi_SC + 1 + 2 * 26))))))))) n (.inl (5, m60, .inr (.inr (.inr (.inr (va_up g60 i60 (some (mi_SC + 1 + 2 * 27))))))))) n = .inl (5, m65, .inr (.inr (.inr (.inr g65))))) (h69 : (n + 1) ≤ mi_SC) (h71 : n < (n + 1)) (h72 : mi_ix 13 m70 i70) (h73 : (va_up (va_up (va_up (va_up (va_up (va_up (va_up (va_up (va_up (va_up (va_up (va_up (va_up (va_up f n (.inl (5, m2, .inr (.inr (.inr (.inr (fun _ => none))))))) n (.inl (5, m5, .inr (.inr (.inr (.inr (va_up g5 i5 (some (mi_SC + 1 + 2 * 16))))))))) n (.inl (5, m10, .inr (.inr (.inr (.inr (va_up g10 i10 (some (mi_SC + 1 + 2 * 17))))))))) n (.inl (5, m15, .inr (.inr (.inr (.inr (va_up g15 i15 (some (mi_SC + 1 + 2 * 18))))))))) n (.inl (5, m20, .inr (.inr (.inr (.inr (va_up g20 i20 (some (mi_SC + 1 + 2 * 19))))))))) n (.inl (5, m25, .inr (.inr (.inr (.inr (va_up g25 i25 (some (mi_SC + 1 + 2 * 20))))))))) n (.inl (5, m30, .inr (.inr (.inr (.inr (va_up g30 i30 (some (mi_SC + 1 + 2 * 21))))))))) n (.inl (5, m35, .inr (.inr (.inr (.inr (va_up g35 i35 (some (mi_SC + 1 + 2 * 22))))))))) n (.inl (5, m40, .inr (.inr (.inr (.inr (va_up g40 i40 (some (mi_SC + 1 + 2 * 23))))))))) n (.inl (5, m45, .inr (.inr (.inr (.inr (va_up g45 i45 (some (mi_SC + 1 + 2 * 24))))))))) n (.inl (5, m50, .inr (.inr (.inr (.inr (va_up g50 i50 (some (mi_SC + 1 + 2 * 25))))))))) n (.inl (5, m55, .inr (.inr (.inr (.inr (va_up g55 i55 (some (mi_SC + 1 + 2 * 26))))))))) n (.inl (5, m60, .inr (.inr (.inr (.inr (va_up g60 i60 (some (mi_SC + 1 + 2 * 27))))))))) n (.inl (5, m65, .inr (.inr (.inr (.inr (va_up g65 i65 (some (mi_SC + 1 + 2 * 28))))))))) n = .inl (5, m70, .inr (.inr (.inr (.inr g70))))) (h74 : (n + 1) ≤ mi_SC) (h76 : n < (n + 1)) (h77 : mi_ix 14 m75 i75) (h78 : (va_up (va_up (va_up (va_up (va_up (va_up (va_up (va_up (va_up (va_up (va_up (va_up (va_up (va_up (va_up f n (.inl (5, m2, .inr (.inr (.inr (.inr (fun _ => none))))))) n (.inl (5, m5, .inr (.inr (.inr (.inr (va_up g5 i5 (some (mi_SC + 1 + 2 * 16))))))))) n (.inl (5, m10, .inr (.inr (.inr (.inr (va_up g10 i10 (some (mi_SC + 1 + 2 * 17))))))))) n (.inl (5, m15, .inr (.inr (.inr (.inr (va_up g15 i15 (some (mi_SC + 1 + 2 * 18))))))))) n (.inl (5, m20, .inr (.inr (.inr (.inr (va_up g20 i20 (some (mi_SC + 1 + 2 * 19))))))))) n (.inl (5, m25, .inr (.inr (.inr (.inr (va_up g25 i25 (some (mi_SC + 1 + 2 * 20))))))))) n (.inl (5, m30, .inr (.inr (.inr (.inr (va_up g30 i30 (some (mi_SC + 1 + 2 * 21))))))))) n (.inl (5, m35, .inr (.inr (.inr (.inr (va_up g35 i35 (some (mi_SC + 1 + 2 * 22))))))))) n (.inl (5, m40, .inr (.inr (.inr (.inr (va_up g40 i40 (some (mi_SC + 1 + 2 * 23))))))))) n (.inl (5, m45, .inr (.inr (.inr (.inr (va_up g45 i45 (some (mi_SC + 1 + 2 * 24))))))))) n (.inl (5, m50, .inr (.inr (.inr (.inr (va_up g50 i50 (some (mi_SC + 1 + 2 * 25))))))))) n (.inl (5, m55, .inr (.inr (.inr (.inr (va_up g55 i55 (some (mi_SC + 1 + 2 * 26))))))))) n (.inl (5, m60, .inr (.inr (.inr (.inr (va_up g60 i60 (some (mi_SC + 1 + 2 * 27))))))))) n (.inl (5, m65, .inr (.inr (.inr (.inr (va_up g65 i65 (some (mi_SC + 1 + 2 * 28))))))))) n (.inl (5, m70, .inr (.inr (.inr (.inr (va_up g70 i70 (some (mi_SC + 1 + 2 * 29))))))))) n = .inl (5, m75, .inr (.inr (.inr (.inr g75))))) (h79 : (n + 1) ≤ mi_SC) (h81 : n < (n + 1)) (h82 : mi_ix 15 m80 i80) (h83 : (va_up (va_up (va_up (va_up (va_up (va_up (va_up (va_up (va_up (va_up (va_up (va_up (va_up (va_up (va_up (va_up f n (.inl (5, m2, .inr (.inr (.inr (.inr (fun _ => none))))))) n (.inl (5, m5, .inr (.inr (.inr (.inr (va_up g5 i5 (some (mi_SC + 1 + 2 * 16))))))))) n (.inl (5, m10, .inr (.inr (.inr (.inr (va_up g10 i10 (some (mi_SC + 1 + 2 * 17))))))))) n (.inl (5, m15, .inr (.inr (.inr (.inr (va_up g15 i15 (some (mi_SC + 1 + 2 * 18))))))))) n (.inl (5, m20, .inr (.inr (.inr (.inr (va_up g20 i20 (some (mi_SC + 1 + 2 * 19))))))))) n (.inl (5, m25, .inr (.inr (.inr (.inr (va_up g25 i25 (some (mi_SC + 1 + 2 * 20))))))))) n (.inl (5, m30, .inr (.inr (.inr (.inr (va_up g30 i30 (some (mi_SC + 1 + 2 * 21))))))))) n (.inl (5, m35, .inr (.inr (.inr (.inr (va_up g35 i35 (some (mi_SC + 1 + 2 * 22))))))))) n (.inl (5, m40, .inr (.inr (.inr (.inr (va_up g40 i40 (some (mi_SC + 1 + 2 * 23))))))))) n (.inl (5, m45, .inr (.inr (.inr (.inr (va_up g45 i45 (some (mi_SC + 1 + 2 * 24))))))))) n (.inl (5, m50, .inr (.inr (.inr (.inr (va_up g50 i50 (some (mi_SC + 1 + 2 * 25))))))))) n (.inl (5, m55, .inr (.inr (.inr (.inr (va_up g55 i55 (some (mi_SC + 1 + 2 * 26))))))))) n (.inl (5, m60, .inr (.inr (.inr (.inr (va_up g60 i60 (some (mi_SC + 1 + 2 * 27))))))))) n (.inl (5, m65, .inr (.inr (.inr (.inr (va_up g65 i65 (some (mi_SC + 1 + 2 * 28))))))))) n (.inl (5, m70, .inr (.inr (.inr (.inr (va_up g70 i70 (some (mi_SC + 1 + 2 * 29))))))))) n (.inl (5, m75, .inr (.inr (.inr (.inr (va_up g75 i75 (some (mi_SC + 1 + 2 * 30))))))))) n = .inl (5, m80, .inr (.inr (.inr (.inr g80))))) (h84 : (n + 1) ≤ mi_SC) (h86 : n < (n + 1)) (h87 : mi_ix 16 m85 i85) (h88 : (va_up (va_up (va_up (va_up (va_up (va_up (va_up (va_up (va_up (va_up (va_up (va_up (va_up (va_up (va_up (va_up (va_up f n (.inl (5, m2, .inr (.inr (.inr (.inr (fun _ => none))))))) n (.inl (5, m5, .inr (.inr (.inr (.inr (va_up g5 i5 (some (mi_SC + 1 + 2 * 16))))))))) n (.inl (5, m10, .inr (.inr (.inr (.inr (va_up g10 i10 (some (mi_SC + 1 + 2 * 17))))))))) n (.inl (5, m15, .inr (.inr (.inr (.inr (va_up g15 i15 (some (mi_SC + 1 + 2 * 18))))))))) n (.inl (5, m20, .inr (.inr (.inr (.inr (va_up g20 i20 (some (mi_SC + 1 + 2 * 19))))))))) n (.inl (5, m25, .inr (.inr (.inr (.inr (va_up g25 i25 (some (mi_SC + 1 + 2 * 20))))))))) n (.inl (5, m30, .inr (.inr (.inr (.inr (va_up g30 i30 (some (mi_SC + 1 + 2 * 21))))))))) n (.inl (5, m35, .inr (.inr (.inr (.inr (va_up g35 i35 (some (mi_SC + 1 + 2 * 22))))))))) n (.inl (5, m40, .inr (.inr (.inr (.inr (va_up g40 i40 (some (mi_SC + 1 + 2 * 23))))))))) n (.inl (5, m45, .inr (.inr (.inr (.inr (va_up g45 i45 (some (mi_SC + 1 + 2 * 24))))))))) n (.inl (5, m50, .inr (.inr (.inr (.inr (va_up g50 i50 (some (mi_SC + 1 + 2 * 25))))))))) n (.inl (5, m55, .inr (.inr (.inr (.inr (va_up g55 i55 (some (mi_SC + 1 + 2 * 26))))))))) n (.inl (5, m60, .inr (.inr (.inr (.inr (va_up g60 i60 (some (mi_SC + 1 + 2 * 27))))))))) n (.inl (5, m65, .inr (.inr (.inr (.inr (va_up g65 i65 (some (mi_SC + 1 + 2 * 28))))))))) n (.inl (5, m70, .inr (.inr (.inr (.inr (va_up g70 i70 (some (mi_SC + 1 + 2 * 29))))))))) n (.inl (5, m75, .inr (.inr (.inr (.inr (va_up g75 i75 (some (mi_SC + 1 + 2 * 30))))))))) n (.inl (5, m80, .inr (.inr (.inr (.inr (va_up g80 i80 (some (mi_SC + 1 + 2 * 31))))))))) n = .inl (5, m85, .inr (.inr (.inr (.inr g85))))) (h89 : (n + 1) ≤ mi_SC) (h91 : n < (n + 1)) (h92 : mi_ix 17 m90 i90) (h93 : (va_up (va_up (va_up (va_up (va_up (va_up (va_up (va_up (va_up (va_up (va_up (va_up (va_up (va_up (va_up (va_up (va_up (va_up f n (.inl (5, m2, .inr (.inr (.inr (.inr (fun _ => none))))))) n (.inl (5, m5, .inr (.inr (.inr (.inr (va_up g5 i5 (some (mi_SC + 1 + 2 * 16))))))))) n (.inl (5, m10, .inr (.inr (.inr (.inr (va_up g10 i10 (some (mi_SC + 1 + 2 * 17))))))))) n (.inl (5, m15, .inr (.inr (.inr (.inr (va_up g15 i15 (some (mi_SC + 1 + 2 * 18))))))))) n (.inl (5, m20, .inr (.inr (.inr (.inr (va_up g20 i20 (some (mi_SC + 1 + 2 * 19))))))))) n (.inl (5, m25, .inr (.inr (.inr (.inr (va_up g25 i25 (some (mi_SC + 1 + 2 * 20))))))))) n (.inl (5, m30, .inr (.inr (.inr (.inr (va_up g30 i30 (some (mi_SC + 1 + 2 * 21))))))))) n (.inl (5, m35, .inr (.inr (.inr (.inr (va_up g35 i35 (some (mi_SC + 1 + 2 * 22))))))))) n (.inl (5, m40, .inr (.inr (.inr (.inr (va_up g40 i40 (some (mi_SC + 1 + 2 * 23))))))))) n (.inl (5, m45, .inr (.inr (.inr (.inr (va_up g45 i45 (some (mi_SC + 1 + 2 * 24))))))))) n (.inl (5, m50, .inr (.inr (.inr (.inr (va_up g50 i50 (some (mi_SC + 1 + 2 * 25))))))))) n (.inl (5, m55, .inr (.inr (.inr (.inr (va_up g55 i55 (some (mi_SC + 1 + 2 * 26))))))))) n (.inl (5, m60, .inr (.inr (.inr (.inr (va_up g60 i60 (some (mi_SC + 1 + 2 * 27))))))))) n (.inl (5, m65, .inr (.inr (.inr (.inr (va_up g65 i65 (some (mi_SC + 1 + 2 * 28))))))))) n (.inl (5, m70, .inr (.inr (.inr (.inr (va_up g70 i70 (some (mi_SC + 1 + 2 * 29))))))))) n (.inl (5, m75, .inr (.inr (.inr (.inr (va_up g75 i75 (some (mi_SC + 1 + 2 * 30))))))))) n (.inl (5, m80, .inr (.inr (.inr (.inr (va_up g80 i80 (some (mi_SC + 1 + 2 * 31))))))))) n (.inl (5, m85, .inr (.inr (.inr (.inr (va_up g85 i85 (some (mi_SC + 1 + 2 * 32))))))))) n = .inl (5, m90, .inr (.inr (.inr (.inr g90))))) (h94 : (n + 1) ≤ mi_SC) (h96 : n < (n + 1)) (h97 : mi_ix 18 m95 i95) (h98 : (va_up (va_up (va_up (va_up (va_up (va_up (va_up (va_up (va_up (va_up (va_up (va_up (va_up (va_up (va_up (va_up (va_up (va_up (va_up f n (.inl (5, m2, .inr (.inr (.inr (.inr (fun _ => none))))))) n (.inl (5, m5, .inr (.inr (.inr (.inr (va_up g5 i5 (some (mi_SC + 1 + 2 * 16))))))))) n (.inl (5, m10, .inr (.inr (.inr (.inr (va_up g10 i10 (some (mi_SC + 1 + 2 * 17))))))))) n (.inl (5, m15, .inr (.inr (.inr (.inr (va_up g15 i15 (some (mi_SC + 1 + 2 * 18))))))))) n (.inl (5, m20, .inr (.inr (.inr (.inr (va_up g20 i20 (some (mi_SC + 1 + 2 * 19))))))))) n (.inl (5, m25, .inr (.inr (.inr (.inr (va_up g25 i25 (some (mi_SC + 1 + 2 * 20))))))))) n (.inl (5, m30, .inr (.inr (.inr (.inr (va_up g30 i30 (some (mi_SC + 1 + 2 * 21))))))))) n (.inl (5, m35, .inr (.inr (.inr (.inr (va_up g35 i35 (some (mi_SC + 1 + 2 * 22))))))))) n (.inl (5, m40, .inr (.inr (.inr (.inr (va_up g40 i40 (some (mi_SC + 1 + 2 * 23))))))))) n (.inl (5, m45, .inr (.inr (.inr (.inr (va_up g45 i45 (some (mi_SC + 1 + 2 * 24))))))))) n (.inl (5, m50, .inr (.inr (.inr (.inr (va_up g50 i50 (some (mi_SC + 1 + 2 * 25))))))))) n (.inl (5, m55, .inr (.inr (.inr (.inr (va_up g55 i55 (some (mi_SC + 1 + 2 * 26))))))))) n (.inl (5, m60, .inr (.inr (.inr (.inr (va_up g60 i60 (some (mi_SC + 1 + 2 * 27))))))))) n (.inl (5, m65, .inr (.inr (.inr (.inr (va_up g65 i65 (some (mi_SC + 1 + 2 * 28))))))))) n (.inl (5, m70, .inr (.inr (.inr (.inr (va_up g70 i70 (some (mi_SC + 1 + 2 * 29))))))))) n (.inl (5, m75, .inr (.inr (.inr (.inr (va_up g75 i75 (some (mi_SC + 1 + 2 * 30))))))))) n (.inl (5, m80, .inr (.inr (.inr (.inr (va_up g80 i80 (some (mi_SC + 1 + 2 * 31))))))))) n (.inl (5, m85, .inr (.inr (.inr (.inr (va_up g85 i85 (some (mi_SC + 1 + 2 * 32))))))))) n (.inl (5, m90, .inr (.inr (.inr (.inr (va_up g90 i90 (some (mi_SC + 1 + 2 * 33))))))))) n = .inl (5, m95, .inr (.inr (.inr (.inr g95))))) (h99 : (n + 1) ≤ mi_SC) (h101 : n < (n + 1)) (h102 : mi_ix 19 m100 i100) (h103 : (va_up (va_up (va_up (va_up (va_up (va_up (va_up (va_up (va_up (va_up (va_up (va_up (va_up (va_up (va_up (va_up (va_up (va_up (va_up (va_up f n (.inl (5, m2, .inr (.inr (.inr (.inr (fun _ => none))))))) n (.inl (5, m5, .inr (.inr (.inr (.inr (va_up g5 i5 (some (mi_SC + 1 + 2 * 16))))))))) n (.inl (5, m10, .inr (.inr (.inr (.inr (va_up g10 i10 (some (mi_SC + 1 + 2 * 17))))))))) n (.inl (5, m15, .inr (.inr (.inr (.inr (va_up g15 i15 (some (mi_SC + 1 + 2 * 18))))))))) n (.inl (5, m20, .inr (.inr (.inr (.inr (va_up g20 i20 (some (mi_SC + 1 + 2 * 19))))))))) n (.inl (5, m25, .inr (.inr (.inr (.inr (va_up g25 i25 (some (mi_SC + 1 + 2 * 20))))))))) n (.inl (5, m30, .inr (.inr (.inr (.inr (va_up g30 i30 (some (mi_SC + 1 + 2 * 21))))))))) n (.inl (5, m35, .inr (.inr (.inr (.inr (va_up g35 i35 (some (mi_SC + 1 + 2 * 22))))))))) n (.inl (5, m40, .inr (.inr (.inr (.inr (va_up g40 i40 (some (mi_SC + 1 + 2 * 23))))))))) n (.inl (5, m45, .inr (.inr (.inr (.inr (va_up g45 i45 (some (mi_SC + 1 + 2 * 24))))))))) n (.inl (5, m50, .inr (.inr (.inr (.inr (va_up g50 i50 (some (mi_SC + 1 + 2 * 25))))))))) n (.inl (5, m55, .inr (.inr (.inr (.inr (va_up g55 i55 (some (mi_SC + 1 + 2 * 26))))))))) n (.inl (5, m60, .inr (.inr (.inr (.inr (va_up g60 i60 (some (mi_SC + 1 + 2 * 27))))))))) n (.inl (5, m65, .inr (.inr (.inr (.inr (va_up g65 i65 (some (mi_SC + 1 + 2 * 28))))))))) n (.inl (5, m70, .inr (.inr (.inr (.inr (va_up g70 i70 (some (mi_SC + 1 + 2 * 29))))))))) n (.inl (5, m75, .inr (.inr (.inr (.inr (va_up g75 i75 (some (mi_SC + 1 + 2 * 30))))))))) n (.inl (5, m80, .inr (.inr (.inr (.inr (va_up g80 i80 (some (mi_SC + 1 + 2 * 31))))))))) n (.inl (5, m85, .inr (.inr (.inr (.inr (va_up g85 i85 (some (mi_SC + 1 + 2 * 32))))))))) n (.inl (5, m90, .inr (.inr (.inr (.inr (va_up g90 i90 (some (mi_SC + 1 + 2 * 33))))))))) n (.inl (5, m95, .inr (.inr (.inr (.inr (va_up g95 i95 (some (mi_SC + 1 + 2 * 34))))))))) n = .inl (5, m100, .inr (.inr (.inr (.inr g100))))) (h104 : (n + 1) ≤ mi_SC) (h106 : n < (n + 1)) (h107 : mi_ix 20 m105 i105) (h108 : (va_up (va_up (va_up (va_up (va_up (va_up (va_up (va_up (va_up (va_up (va_up (va_up (va_up (va_up (va_up (va_up (va_up (va_up (va_up (va_up (va_up f n (.inl (5, m2, .inr (.inr (.inr (.inr (fun _ => none))))))) n (.inl (5, m5, .inr (.inr (.inr (.inr (va_up g5 i5 (some (mi_SC + 1 + 2 * 16))))))))) n (.inl (5, m10, .inr (.inr (.inr (.inr (va_up g10 i10 (some (mi_SC + 1 + 2 * 17))))))))) n (.inl (5, m15, .inr (.inr (.inr (.inr (va_up g15 i15 (some (mi_SC + 1 + 2 * 18))))))))) n (.inl (5, m20, .inr (.inr (.inr (.inr (va_up g20 i20 (some (mi_SC + 1 + 2 * 19))))))))) n (.inl (5, m25, .inr (.inr (.inr (.inr (va_up g25 i25 (some (mi_SC + 1 + 2 * 20))))))))) n (.inl (5, m30, .inr (.inr (.inr (.inr (va_up g30 i30 (some (mi_SC + 1 + 2 * 21))))))))) n (.inl (5, m35, .inr (.inr (.inr (.inr (va_up g35 i35 (some (mi_SC + 1 + 2 * 22))))))))) n (.inl (5, m40, .inr (.inr (.inr (.inr (va_up g40 i40 (some (mi_SC + 1 + 2 * 23))))))))) n (.inl (5, m45, .inr (.inr (.inr (.inr (va_up g45 i45 (some (mi_SC + 1 + 2 * 24))))))))) n (.inl (5, m50, .inr (.inr (.inr (.inr (va_up g50 i50 (some (mi_SC + 1 + 2 * 25))))))))) n (.inl (5, m55, .inr (.inr (.inr (.inr (va_up g55 i55 (some (mi_SC + 1 + 2 * 26))))))))) n (.inl (5, m60, .inr (.inr (.inr (.inr (va_up g60 i60 (some (mi_SC + 1 + 2 * 27))))))))) n (.inl (5, m65, .inr (.inr (.inr (.inr (va_up g65 i65 (some (mi_SC + 1 + 2 * 28))))))))) n (.inl (5, m70, .inr (.inr (.inr (.inr (va_up g70 i70 (some (mi_SC + 1 + 2 * 29))))))))) n (.inl (5, m75, .inr (.inr (.inr (.inr (va_up g75 i75 (some (mi_SC + 1 + 2 * 30))))))))) n (.inl (5, m80, .inr (.inr (.inr (.inr (va_up g80 i80 (some (mi_SC + 1 + 2 * 31))))))))) n (.inl (5, m85, .inr (.inr (.inr (.inr (va_up g85 i85 (some (mi_SC + 1 + 2 * 32))))))))) n (.inl (5, m90, .inr (.inr (.inr (.inr (va_up g90 i90 (some (mi_SC + 1 + 2 * 33))))))))) n (.inl (5, m95, .inr (.inr (.inr (.inr (va_up g95 i95 (some (mi_SC + 1 + 2 * 34))))))))) n (.inl (5, m100, .inr (.inr (.inr (.inr (va_up g100 i100 (some (mi_SC + 1 + 2 * 35))))))))) n = .inl (5, m105, .inr (.inr (.inr (.inr g105))))) (h109 : (n + 1) ≤ mi_SC) (h111 : n < (n + 1)) (h112 : mi_ix 21 m110 i110) (h113 : (va_up (va_up (va_up (va_up (va_up (va_up (va_up (va_up (va_up (va_up (va_up (va_up (va_up (va_up (va_up (va_up (va_up (va_up (va_up (va_up (va_up (va_up f n (.inl (5, m2, .inr (.inr (.inr (.inr (fun _ => none))))))) n (.inl (5, m5, .inr (.inr (.inr (.inr (va_up g5 i5 (some (mi_SC + 1 + 2 * 16))))))))) n (.inl (5, m10, .inr (.inr (.inr (.inr (va_up g10 i10 (some (mi_SC + 1 + 2 * 17))))))))) n (.inl (5, m15, .inr (.inr (.inr (.inr (va_up g15 i15 (some (mi_SC + 1 + 2 * 18))))))))) n (.inl (5, m20, .inr (.inr (.inr (.inr (va_up g20 i20 (some (mi_SC + 1 + 2 * 19))))))))) n (.inl (5, m25, .inr (.inr (.inr (.inr (va_up g25 i25 (some (mi_SC + 1 + 2 * 20))))))))) n (.inl (5, m30, .inr (.inr (.inr (.inr (va_up g30 i30 (some (mi_SC + 1 + 2 * 21))))))))) n (.inl (5, m35, .inr (.inr (.inr (.inr (va_up g35 i35 (some (mi_SC + 1 + 2 * 22))))))))) n (.inl (5, m40, .inr (.inr (.inr (.inr (va_up g40 i40 (some (mi_SC + 1 + 2 * 23))))))))) n (.inl (5, m45, .inr (.inr (.inr (.inr (va_up g45 i45 (some (mi_SC + 1 + 2 * 24))))))))) n (.inl (5, m50, .inr (.inr (.inr (.inr (va_up g50 i50 (some (mi_SC + 1 + 2 * 25))))))))) n (.inl (5, m55, .inr (.inr (.inr (.inr (va_up g55 i55 (some (mi_SC + 1 + 2 * 26))))))))) n (.inl (5, m60, .inr (.inr (.inr (.inr (va_up g60 i60 (some (mi_SC + 1 + 2 * 27))))))))) n (.inl (5, m65, .inr (.inr (.inr (.inr (va_up g65 i65 (some (mi_SC + 1 + 2 * 28))))))))) n (.inl (5, m70, .inr (.inr (.inr (.inr (va_up g70 i70 (some (mi_SC + 1 + 2 * 29))))))))) n (.inl (5, m75, .inr (.inr (.inr (.inr (va_up g75 i75 (some (mi_SC + 1 + 2 * 30))))))))) n (.inl (5, m80, .inr (.inr (.inr (.inr (va_up g80 i80 (some (mi_SC + 1 + 2 * 31))))))))) n (.inl (5, m85, .inr (.inr (.inr (.inr (va_up g85 i85 (some (mi_SC + 1 + 2 * 32))))))))) n (.inl (5, m90, .inr (.inr (.inr (.inr (va_up g90 i90 (some (mi_SC + 1 + 2 * 33))))))))) n (.inl (5, m95, .inr (.inr (.inr (.inr (va_up g95 i95 (some (mi_SC + 1 + 2 * 34))))))))) n (.inl (5, m100, .inr (.inr (.inr (.inr (va_up g100 i100 (some (mi_SC + 1 + 2 * 35))))))))) n (.inl (5, m105, .inr (.inr (.inr (.inr (va_up g105 i105 (some (mi_SC + 1 + 2 * 36))))))))) n = .inl (5, m110, .inr (.inr (.inr (.inr g110))))) (h114 : (n + 1) ≤ mi_SC) (h116 : n < (n + 1)) (h117 : mi_ix 22 m115 i115) (h118 : (va_up (va_up (va_up (va_up (va_up (va_up (va_up (va_up (va_up (va_up (va_up (va_up (va_up (va_up (va_up (va_up (va_up (va_up (va_up (va_up (va_up (va_up (va_up f n (.inl (5, m2, .inr (.inr (.inr (.inr (fun _ => none))))))) n (.inl (5, m5, .inr (.inr (.inr (.inr (va_up g5 i5 (some (mi_SC + 1 + 2 * 16))))))))) n (.inl (5, m10, .inr (.inr (.inr (.inr (va_up g10 i10 (some (mi_SC + 1 + 2 * 17))))))))) n (.inl (5, m15, .inr (.inr (.inr (.inr (va_up g15 i15 (some (mi_SC + 1 + 2 * 18))))))))) n (.inl (5, m20, .inr (.inr (.inr (.inr (va_up g20 i20 (some (mi_SC + 1 + 2 * 19))))))))) n (.inl (5, m25, .inr (.inr (.inr (.inr (va_up g25 i25 (some (mi_SC + 1 + 2 * 20))))))))) n (.inl (5, m30, .inr (.inr (.inr (.inr (va_up g30 i30 (some (mi_SC + 1 + 2 * 21))))))))) n (.inl (5, m35, .inr (.inr (.inr (.inr (va_up g35 i35 (some (mi_SC + 1 + 2 * 22))))))))) n (.inl (5, m40, .inr (.inr (.inr (.inr (va_up g40 i40 (some (mi_SC + 1 + 2 * 23))))))))) n (.inl (5, m45, .inr (.inr (.inr (.inr (va_up g45 i45 (some (mi_SC + 1 + 2 * 24))))))))) n (.inl (5, m50, .inr (.inr (.inr (.inr (va_up g50 i50 (some (mi_SC + 1 + 2 * 25))))))))) n (.inl (5, m55, .inr (.inr (.inr (.inr (va_up g55 i55 (some (mi_SC + 1 + 2 * 26))))))))) n (.inl (5, m60, .inr (.inr (.inr (.inr (va_up g60 i60 (some (mi_SC + 1 + 2 * 27))))))))) n (.inl (5, m65, .inr (.inr (.inr (.inr (va_up g65 i65 (some (mi_SC + 1 + 2 * 28))))))))) n (.inl (5, m70, .inr (.inr (.inr (.inr (va_up g70 i70 (some (mi_SC + 1 + 2 * 29))))))))) n (.inl (5, m75, .inr (.inr (.inr (.inr (va_up g75 i75 (some (mi_SC + 1 + 2 * 30))))))))) n (.inl (5, m80, .inr (.inr (.inr (.inr (va_up g80 i80 (some (mi_SC + 1 + 2 * 31))))))))) n (.inl (5, m85, .inr (.inr (.inr (.inr (va_up g85 i85 (some (mi_SC + 1 + 2 * 32))))))))) n (.inl (5, m90, .inr (.inr (.inr (.inr (va_up g90 i90 (some (mi_SC + 1 + 2 * 33))))))))) n (.inl (5, m95, .inr (.inr (.inr (.inr (va_up g95 i95 (some (mi_SC + 1 + 2 * 34))))))))) n (.inl (5, m100, .inr (.inr (.inr (.inr (va_up g100 i100 (some (mi_SC + 1 + 2 * 35))))))))) n (.inl (5, m105, .inr (.inr (.inr (.inr (va_up g105 i105 (some (mi_SC + 1 + 2 * 36))))))))) n (.inl (5, m110, .inr (.inr (.inr (.inr (va_up g110 i110 (some (mi_SC + 1 + 2 * 37))))))))) n = .inl (5, m115, .inr (.inr (.inr (.inr g115))))) (h119 : (n + 1) ≤ mi_SC) (h121 : n < (n + 1)) (h122 : mi_ix 23 m120 i120) (h123 : (va_up (va_up (va_up (va_up (va_up (va_up (va_up (va_up (va_up (va_up (va_up (va_up (va_up (va_up (va_up (va_up (va_up (va_up (va_up (va_up (va_up (va_up (va_up (va_up f n (.inl (5, m2, .inr (.inr (.inr (.inr (fun _ => none))))))) n (.inl (5, m5, .inr (.inr (.inr (.inr (va_up g5 i5 (some (mi_SC + 1 + 2 * 16))))))))) n (.inl (5, m10, .inr (.inr (.inr (.inr (va_up g10 i10 (some (mi_SC + 1 + 2 * 17))))))))) n (.inl (5, m15, .inr (.inr (.inr (.inr (va_up g15 i15 (some (mi_SC + 1 + 2 * 18))))))))) n (.inl (5, m20, .inr (.inr (.inr (.inr (va_up g20 i20 (some (mi_SC + 1 + 2 * 19))))))))) n (.inl (5, m25, .inr (.inr (.inr (.inr (va_up g25 i25 (some (mi_SC + 1 + 2 * 20))))))))) n (.inl (5, m30, .inr (.inr (.inr (.inr (va_up g30 i30 (some (mi_SC + 1 + 2 * 21))))))))) n (.inl (5, m35, .inr (.inr (.inr (.inr (va_up g35 i35 (some (mi_SC + 1 + 2 * 22))))))))) n (.inl (5, m40, .inr (.inr (.inr (.inr (va_up g40 i40 (some (mi_SC + 1 + 2 * 23))))))))) n (.inl (5, m45, .inr (.inr (.inr (.inr (va_up g45 i45 (some (mi_SC + 1 + 2 * 24))))))))) n (.inl (5, m50, .inr (.inr (.inr (.inr (va_up g50 i50 (some (mi_SC + 1 + 2 * 25))))))))) n (.inl (5, m55, .inr (.inr (.inr (.inr (va_up g55 i55 (some (mi_SC + 1 + 2 * 26))))))))) n (.inl (5, m60, .inr (.inr (.inr (.inr (va_up g60 i60 (some (mi_SC + 1 + 2 * 27))))))))) n (.inl (5, m65, .inr (.inr (.inr (.inr (va_up g65 i65 (some (mi_SC + 1 + 2 * 28))))))))) n (.inl (5, m70, .inr (.inr (.inr (.inr (va_up g70 i70 (some (mi_SC + 1 + 2 * 29))))))))) n (.inl (5, m75, .inr (.inr (.inr (.inr (va_up g75 i75 (some (mi_SC + 1 + 2 * 30))))))))) n (.inl (5, m80, .inr (.inr (.inr (.inr (va_up g80 i80 (some (mi_SC + 1 + 2 * 31))))))))) n (.inl (5, m85, .inr (.inr (.inr (.inr (va_up g85 i85 (some (mi_SC + 1 + 2 * 32))))))))) n (.inl (5, m90, .inr (.inr (.inr (.inr (va_up g90 i90 (some (mi_SC + 1 + 2 * 33))))))))) n (.inl (5, m95, .inr (.inr (.inr (.inr (va_up g95 i95 (some (mi_SC + 1 + 2 * 34))))))))) n (.inl (5, m100, .inr (.inr (.inr (.inr (va_up g100 i100 (some (mi_SC + 1 + 2 * 35))))))))) n (.inl (5, m105, .inr (.inr (.inr (.inr (va_up g105 i105 (some (mi_SC + 1 + 2 * 36))))))))) n (.inl (5, m110, .inr (.inr (.inr (.inr (va_up g110 i110 (some (mi_SC + 1 + 2 * 37))))))))) n (.inl (5, m115, .inr (.inr (.inr (.inr (va_up g115 i115 (some (mi_SC + 1 + 2 * 38))))))))) n = .inl (5, m120, .inr (.inr (.inr (.inr g120))))) (h124 : (n + 1) ≤ mi_SC) (h126 : (va_up (va_up (va_up (va_up (va_up (va_up (va_up (va_up (va_up (va_up (va_up (va_up (va_up (va_up (va_up (va_up (va_up (va_up (va_up (va_up (va_up (va_up (va_up (va_up (va_up f n (.inl (5, m2, .inr (.inr (.inr (.inr (fun _ => none))))))) n (.inl (5, m5, .inr (.inr (.inr (.inr (va_up g5 i5 (some (mi_SC + 1 + 2 * 16))))))))) n (.inl (5, m10, .inr (.inr (.inr (.inr (va_up g10 i10 (some (mi_SC + 1 + 2 * 17))))))))) n (.inl (5, m15, .inr (.inr (.inr (.inr (va_up g15 i15 (some (mi_SC + 1 + 2 * 18))))))))) n (.inl (5, m20, .inr (.inr (.inr (.inr (va_up g20 i20 (some (mi_SC + 1 + 2 * 19))))))))) n (.inl (5, m25, .inr (.inr (.inr (.inr (va_up g25 i25 (some (mi_SC + 1 + 2 * 20))))))))) n (.inl (5, m30, .inr (.inr (.inr (.inr (va_up g30 i30 (some (mi_SC + 1 + 2 * 21))))))))) n (.inl (5, m35, .inr (.inr (.inr (.inr (va_up g35 i35 (some (mi_SC + 1 + 2 * 22))))))))) n (.inl (5, m40, .inr (.inr (.inr (.inr (va_up g40 i40 (some (mi_SC + 1 + 2 * 23))))))))) n (.inl (5, m45, .inr (.inr (.inr (.inr (va_up g45 i45 (some (mi_SC + 1 + 2 * 24))))))))) n (.inl (5, m50, .inr (.inr (.inr (.inr (va_up g50 i50 (some (mi_SC + 1 + 2 * 25))))))))) n (.inl (5, m55, .inr (.inr (.inr (.inr (va_up g55 i55 (some (mi_SC + 1 + 2 * 26))))))))) n (.inl (5, m60, .inr (.inr (.inr (.inr (va_up g60 i60 (some (mi_SC + 1 + 2 * 27))))))))) n (.inl (5, m65, .inr (.inr (.inr (.inr (va_up g65 i65 (some (mi_SC + 1 + 2 * 28))))))))) n (.inl (5, m70, .inr (.inr (.inr (.inr (va_up g70 i70 (some (mi_SC + 1 + 2 * 29))))))))) n (.inl (5, m75, .inr (.inr (.inr (.inr (va_up g75 i75 (some (mi_SC + 1 + 2 * 30))))))))) n (.inl (5, m80, .inr (.inr (.inr (.inr (va_up g80 i80 (some (mi_SC + 1 + 2 * 31))))))))) n (.inl (5, m85, .inr (.inr (.inr (.inr (va_up g85 i85 (some (mi_SC + 1 + 2 * 32))))))))) n (.inl (5, m90, .inr (.inr (.inr (.inr (va_up g90 i90 (some (mi_SC + 1 + 2 * 33))))))))) n (.inl (5, m95, .inr (.inr (.inr (.inr (va_up g95 i95 (some (mi_SC + 1 + 2 * 34))))))))) n (.inl (5, m100, .inr (.inr (.inr (.inr (va_up g100 i100 (some (mi_SC + 1 + 2 * 35))))))))) n (.inl (5, m105, .inr (.inr (.inr (.inr (va_up g105 i105 (some (mi_SC + 1 + 2 * 36))))))))) n (.inl (5, m110, .inr (.inr (.inr (.inr (va_up g110 i110 (some (mi_SC + 1 + 2 * 37))))))))) n (.inl (5, m115, .inr (.inr (.inr (.inr (va_up g115 i115 (some (mi_SC + 1 + 2 * 38))))))))) n (.inl (5, m120, .inr (.inr (.inr (.inr (va_up g120 i120 (some (mi_SC + 1 + 2 * 39))))))))) l1 = .inr (12, fs125)) (h127 : l1 < (n + 1)) (h128 : 7 < fs125.length) (h129 : mi_W d 136 179 [some (.ref l1)] [] ((n + 1), (sl + m2), (va_up (va_up (va_up (va_up (va_up (va_up (va_up (va_up (va_up (va_up (va_up (va_up (va_up (va_up (va_up (va_up (va_up (va_up (va_up (va_up (va_up (va_up (va_up (va_up (va_up (va_up f n (.inl (5, m2, .inr (.inr (.inr (.inr (fun _ => none))))))) n (.inl (5, m5, .inr (.inr (.inr (.inr (va_up g5 i5 (some (mi_SC + 1 + 2 * 16))))))))) n (.inl (5, m10, .inr (.inr (.inr (.inr (va_up g10 i10 (some (mi_SC + 1 + 2 * 17))))))))) n (.inl (5, m15, .inr (.inr (.inr (.inr (va_up g15 i15 (some (mi_SC + 1 + 2 * 18))))))))) n (.inl (5, m20, .inr (.inr (.inr (.inr (va_up g20 i20 (some (mi_SC + 1 + 2 * 19))))))))) n (.inl (5, m25, .inr (.inr (.inr (.inr (va_up g25 i25 (some (mi_SC + 1 + 2 * 20))))))))) n (.inl (5, m30, .inr (.inr (.inr (.inr (va_up g30 i30 (some (mi_SC + 1 + 2 * 21))))))))) n (.inl (5, m35, .inr (.inr (.inr (.inr (va_up g35 i35 (some (mi_SC + 1 + 2 * 22))))))))) n (.inl (5, m40, .inr (.inr (.inr (.inr (va_up g40 i40 (some (mi_SC + 1 + 2 * 23))))))))) n (.inl (5, m45, .inr (.inr (.inr (.inr (va_up g45 i45 (some (mi_SC + 1 + 2 * 24))))))))) n (.inl (5, m50, .inr (.inr (.inr (.inr (va_up g50 i50 (some (mi_SC + 1 + 2 * 25))))))))) n (.inl (5, m55, .inr (.inr (.inr (.inr (va_up g55 i55 (some (mi_SC + 1 + 2 * 26))))))))) n (.inl (5, m60, .inr (.inr (.inr (.inr (va_up g60 i60 (some (mi_SC + 1 + 2 * 27))))))))) n (.inl (5, m65, .inr (.inr (.inr (.inr (va_up g65 i65 (some (mi_SC + 1 + 2 * 28))))))))) n (.inl (5, m70, .inr (.inr (.inr (.inr (va_up g70 i70 (some (mi_SC + 1 + 2 * 29))))))))) n (.inl (5, m75, .inr (.inr (.inr (.inr (va_up g75 i75 (some (mi_SC + 1 + 2 * 30))))))))) n (.inl (5, m80, .inr (.inr (.inr (.inr (va_up g80 i80 (some (mi_SC + 1 + 2 * 31))))))))) n (.inl (5, m85, .inr (.inr (.inr (.inr (va_up g85 i85 (some (mi_SC + 1 + 2 * 32))))))))) n (.inl (5, m90, .inr (.inr (.inr (.inr (va_up g90 i90 (some (mi_SC + 1 + 2 * 33))))))))) n (.inl (5, m95, .inr (.inr (.inr (.inr (va_up g95 i95 (some (mi_SC + 1 + 2 * 34))))))))) n (.inl (5, m100, .inr (.inr (.inr (.inr (va_up g100 i100 (some (mi_SC + 1 + 2 * 35))))))))) n (.inl (5, m105, .inr (.inr (.inr (.inr (va_up g105 i105 (some (mi_SC + 1 + 2 * 36))))))))) n (.inl (5, m110, .inr (.inr (.inr (.inr (va_up g110 i110 (some (mi_SC + 1 + 2 * 37))))))))) n (.inl (5, m115, .inr (.inr (.inr (.inr (va_up g115 i115 (some (mi_SC + 1 + 2 * 38))))))))) n (.inl (5, m120, .inr (.inr (.inr (.inr (va_up g120 i120 (some (mi_SC + 1 + 2 * 39))))))))) l1 (.inr (12, fs125.set 7 (.ref n))))) Q) : mi_W d 136 32 [some (.ref l1)] [] (n, sl, f) Q := by
  refine w_aload_n cd_136_32 rfl ?_
  refine w_bipush (v := 24) cd_136_33 (by decide) ?_
  refine w_anewarray cd_136_35 (show mt_c 12 23 = some 17 by decide +kernel) (show mt_ka 17 = some 5 from rfl) h3 h4 ?_
  refine w_dup_r cd_136_38 ?_
  refine w_iconst (v := 0) cd_136_39 (by decide) ?_
  refine w_ldc (n := 16) cd_136_40 (by decide +kernel) ?_
  refine w_aastoreS cd_136_42 h8 h6 h9 (by decide) h7 ?_
  refine w_dup_r cd_136_43 ?_
  refine w_iconst (v := 1) cd_136_44 (by decide) ?_
  refine w_ldc (n := 17) cd_136_45 (by decide +kernel) ?_
  refine w_aastoreS cd_136_47 h13 h11 h14 (by decide) h12 ?_
  refine w_dup_r cd_136_48 ?_
  refine w_iconst (v := 2) cd_136_49 (by decide) ?_
  refine w_ldc (n := 18) cd_136_50 (by decide +kernel) ?_
  refine w_aastoreS cd_136_52 h18 h16 h19 (by decide) h17 ?_
  refine w_dup_r cd_136_53 ?_
  refine w_iconst (v := 3) cd_136_54 (by decide) ?_
  refine w_ldc (n := 19) cd_136_55 (by decide +kernel) ?_
  refine w_aastoreS cd_136_57 h23 h21 h24 (by decide) h22 ?_
  refine w_dup_r cd_136_58 ?_
  refine w_iconst (v := 4) cd_136_59 (by decide) ?_
  refine w_ldc (n := 20) cd_136_60 (by decide +kernel) ?_
  refine w_aastoreS cd_136_62 h28 h26 h29 (by decide) h27 ?_
  refine w_dup_r cd_136_63 ?_
  refine w_iconst (v := 5) cd_136_64 (by decide) ?_
  refine w_ldc (n := 21) cd_136_65 (by decide +kernel) ?_
  refine w_aastoreS cd_136_67 h33 h31 h34 (by decide) h32 ?_
  refine w_dup_r cd_136_68 ?_
  refine w_bipush (v := 6) cd_136_69 (by decide) ?_
  refine w_ldc (n := 22) cd_136_71 (by decide +kernel) ?_
  refine w_aastoreS cd_136_73 h38 h36 h39 (by decide) h37 ?_
  refine w_dup_r cd_136_74 ?_
  refine w_bipush (v := 7) cd_136_75 (by decide) ?_
  refine w_ldc (n := 23) cd_136_77 (by decide +kernel) ?_
  refine w_aastoreS cd_136_79 h43 h41 h44 (by decide) h42 ?_
  refine w_dup_r cd_136_80 ?_
  refine w_bipush (v := 8) cd_136_81 (by decide) ?_
  refine w_ldc (n := 24) cd_136_83 (by decide +kernel) ?_
  refine w_aastoreS cd_136_85 h48 h46 h49 (by decide) h47 ?_
  refine w_dup_r cd_136_86 ?_
  refine w_bipush (v := 9) cd_136_87 (by decide) ?_
  refine w_ldc (n := 25) cd_136_89 (by decide +kernel) ?_
  refine w_aastoreS cd_136_91 h53 h51 h54 (by decide) h52 ?_
  refine w_dup_r cd_136_92 ?_
  refine w_bipush (v := 10) cd_136_93 (by decide) ?_
  refine w_ldc (n := 26) cd_136_95 (by decide +kernel) ?_
  refine w_aastoreS cd_136_97 h58 h56 h59 (by decide) h57 ?_
  refine w_dup_r cd_136_98 ?_
  refine w_bipush (v := 11) cd_136_99 (by decide) ?_
  refine w_ldc (n := 27) cd_136_101 (by decide +kernel) ?_
  refine w_aastoreS cd_136_103 h63 h61 h64 (by decide) h62 ?_
  refine w_dup_r cd_136_104 ?_
  refine w_bipush (v := 12) cd_136_105 (by decide) ?_
  refine w_ldc (n := 28) cd_136_107 (by decide +kernel) ?_
  refine w_aastoreS cd_136_109 h68 h66 h69 (by decide) h67 ?_
  refine w_dup_r cd_136_110 ?_
  refine w_bipush (v := 13) cd_136_111 (by decide) ?_
  refine w_ldc (n := 29) cd_136_113 (by decide +kernel) ?_
  refine w_aastoreS cd_136_115 h73 h71 h74 (by decide) h72 ?_
  refine w_dup_r cd_136_116 ?_
  refine w_bipush (v := 14) cd_136_117 (by decide) ?_
  refine w_ldc (n := 30) cd_136_119 (by decide +kernel) ?_
  refine w_aastoreS cd_136_121 h78 h76 h79 (by decide) h77 ?_
  refine w_dup_r cd_136_122 ?_
  refine w_bipush (v := 15) cd_136_123 (by decide) ?_
  refine w_ldc (n := 31) cd_136_125 (by decide +kernel) ?_
  refine w_aastoreS cd_136_127 h83 h81 h84 (by decide) h82 ?_
  refine w_dup_r cd_136_128 ?_
  refine w_bipush (v := 16) cd_136_129 (by decide) ?_
  refine w_ldc (n := 32) cd_136_131 (by decide +kernel) ?_
  refine w_aastoreS cd_136_133 h88 h86 h89 (by decide) h87 ?_
  refine w_dup_r cd_136_134 ?_
  refine w_bipush (v := 17) cd_136_135 (by decide) ?_
  refine w_ldc (n := 33) cd_136_137 (by decide +kernel) ?_
  refine w_aastoreS cd_136_139 h93 h91 h94 (by decide) h92 ?_
  refine w_dup_r cd_136_140 ?_
  refine w_bipush (v := 18) cd_136_141 (by decide) ?_
  refine w_ldc (n := 34) cd_136_143 (by decide +kernel) ?_
  refine w_aastoreS cd_136_145 h98 h96 h99 (by decide) h97 ?_
  refine w_dup_r cd_136_146 ?_
  refine w_bipush (v := 19) cd_136_147 (by decide) ?_
  refine w_ldc (n := 35) cd_136_149 (by decide +kernel) ?_
  refine w_aastoreS cd_136_151 h103 h101 h104 (by decide) h102 ?_
  refine w_dup_r cd_136_152 ?_
  refine w_bipush (v := 20) cd_136_153 (by decide) ?_
  refine w_ldc (n := 36) cd_136_155 (by decide +kernel) ?_
  refine w_aastoreS cd_136_157 h108 h106 h109 (by decide) h107 ?_
  refine w_dup_r cd_136_158 ?_
  refine w_bipush (v := 21) cd_136_159 (by decide) ?_
  refine w_ldc (n := 37) cd_136_161 (by decide +kernel) ?_
  refine w_aastoreS cd_136_163 h113 h111 h114 (by decide) h112 ?_
  refine w_dup_r cd_136_164 ?_
  refine w_bipush (v := 22) cd_136_165 (by decide) ?_
  refine w_ldc (n := 38) cd_136_167 (by decide +kernel) ?_
  refine w_aastoreS cd_136_169 h118 h116 h119 (by decide) h117 ?_
  refine w_dup_r cd_136_170 ?_
  refine w_bipush (v := 23) cd_136_171 (by decide) ?_
  refine w_ldc (n := 39) cd_136_173 (by decide +kernel) ?_
  refine w_aastoreS cd_136_175 h123 h121 h124 (by decide) h122 ?_
  refine w_putfield (w := .ref n) cd_136_176 (show mt_f 12 73 = some (12, 7) by decide +kernel) h126 h127 ⟨h128, rfl, Or.inr (by decide +kernel)⟩ ?_
  exact h129
theorem b_136_179 {d : Nat} {Q : (Option Value ⊕ Nat) → mi_H → Prop} (n sl : Nat) (f : Nat → mi_C) {l1 : Nat} {m2 : Nat} {fs5 : List Value} {m9 : Nat} {fs12 : List Value} {m16 : Nat} {fs19 : List Value} (h3 : ¬ 800 < (0 : Int32) ∧ Int32.toNatClampNeg 800 = m2 ∧ m2 ≤ 1000000) (h4 : n + 1 ≤ mi_NC ∧ sl + m2 ≤ mi_NS) (h6 : (va_up f n (.inl (0, m2, .inl (fun _ => 0)))) l1 = .inr (12, fs5)) (h7 : l1 < (n + 1)) (h8 : 12 < fs5.length) (h10 : ¬ 800 < (0 : Int32) ∧ Int32.toNatClampNeg 800 = m9 ∧ m9 ≤ 1000000) (h11 : (n + 1) + 1 ≤ mi_NC ∧ (sl + m2) + m9 ≤ mi_NS) (h13 : (va_up (va_up (va_up f n (.inl (0, m2, .inl (fun _ => 0)))) l1 (.inr (12, fs5.set 12 (.ref n)))) (n + 1) (.inl (0, m9, .inl (fun _ => 0)))) l1 = .inr (12, fs12)) (h14 : l1 < ((n + 1) + 1)) (h15 : 13 < fs12.length) (h17 : ¬ 800 < (0 : Int32) ∧ Int32.toNatClampNeg 800 = m16 ∧ m16 ≤ 1000000) (h18 : ((n + 1) + 1) + 1 ≤ mi_NC ∧ ((sl + m2) + m9) + m16 ≤ mi_NS) (h20 : (va_up (va_up (va_up (va_up (va_up f n (.inl (0, m2, .inl (fun _ => 0)))) l1 (.inr (12, fs5.set 12 (.ref n)))) (n + 1) (.inl (0, m9, .inl (fun _ => 0)))) l1 (.inr (12, fs12.set 13 (.ref (n + 1))))) ((n + 1) + 1) (.inl (0, m16, .inl (fun _ => 0)))) l1 = .inr (12, fs19)) (h21 : l1 < (((n + 1) + 1) + 1)) (h22 : 14 < fs19.length) (h23 : mi_W d 136 206 [some (.ref l1)] [] ((((n + 1) + 1) + 1), (((sl + m2) + m9) + m16), (va_up (va_up (va_up (va_up (va_up (va_up f n (.inl (0, m2, .inl (fun _ => 0)))) l1 (.inr (12, fs5.set 12 (.ref n)))) (n + 1) (.inl (0, m9, .inl (fun _ => 0)))) l1 (.inr (12, fs12.set 13 (.ref (n + 1))))) ((n + 1) + 1) (.inl (0, m16, .inl (fun _ => 0)))) l1 (.inr (12, fs19.set 14 (.ref ((n + 1) + 1)))))) Q) : mi_W d 136 179 [some (.ref l1)] [] (n, sl, f) Q := by
  refine w_aload_n cd_136_179 rfl ?_
  refine w_sipush (v := 800) cd_136_180 (by decide) ?_
  refine w_newarray cd_136_183 rfl h3 h4 ?_
  refine w_putfield (w := .ref n) cd_136_185 (show mt_f 12 77 = some (12, 12) by decide +kernel) h6 h7 ⟨h8, rfl, Or.inr (by decide +kernel)⟩ ?_
  refine w_aload_n cd_136_188 rfl ?_
  refine w_sipush (v := 800) cd_136_189 (by decide) ?_
  refine w_newarray cd_136_192 rfl h10 h11 ?_
  refine w_putfield (w := .ref (n + 1)) cd_136_194 (show mt_f 12 80 = some (12, 13) by decide +kernel) h13 h14 ⟨h15, rfl, Or.inr (by decide +kernel)⟩ ?_
  refine w_aload_n cd_136_197 rfl ?_
  refine w_sipush (v := 800) cd_136_198 (by decide) ?_
  refine w_newarray cd_136_201 rfl h17 h18 ?_
  refine w_putfield (w := .ref ((n + 1) + 1)) cd_136_203 (show mt_f 12 83 = some (12, 14) by decide +kernel) h20 h21 ⟨h22, rfl, Or.inr (by decide +kernel)⟩ ?_
  exact h23
theorem b_136_206 {d : Nat} {Q : (Option Value ⊕ Nat) → mi_H → Prop} (n sl : Nat) (f : Nat → mi_C) {l1 : Nat} {m2 : Nat} {fs5 : List Value} {m9 : Nat} {fs12 : List Value} {m16 : Nat} {fs19 : List Value} (h3 : ¬ 800 < (0 : Int32) ∧ Int32.toNatClampNeg 800 = m2 ∧ m2 ≤ 1000000) (h4 : n + 1 ≤ mi_NC ∧ sl + m2 ≤ mi_NS) (h6 : (va_up f n (.inl (0, m2, .inl (fun _ => 0)))) l1 = .inr (12, fs5)) (h7 : l1 < (n + 1)) (h8 : 15 < fs5.length) (h10 : ¬ 800 < (0 : Int32) ∧ Int32.toNatClampNeg 800 = m9 ∧ m9 ≤ 1000000) (h11 : (n + 1) + 1 ≤ mi_NC ∧ (sl + m2) + m9 ≤ mi_NS) (h13 : (va_up (va_up (va_up f n (.inl (0, m2, .inl (fun _ => 0)))) l1 (.inr (12, fs5.set 15 (.ref n)))) (n + 1) (.inl (0, m9, .inl (fun _ => 0)))) l1 = .inr (12, fs12)) (h14 : l1 < ((n + 1) + 1)) (h15 : 16 < fs12.length) (h17 : ¬ 800 < (0 : Int32) ∧ Int32.toNatClampNeg 800 = m16 ∧ m16 ≤ 1000000) (h18 : ((n + 1) + 1) + 1 ≤ mi_NC ∧ ((sl + m2) + m9) + m16 ≤ mi_NS) (h20 : (va_up (va_up (va_up (va_up (va_up f n (.inl (0, m2, .inl (fun _ => 0)))) l1 (.inr (12, fs5.set 15 (.ref n)))) (n + 1) (.inl (0, m9, .inl (fun _ => 0)))) l1 (.inr (12, fs12.set 16 (.ref (n + 1))))) ((n + 1) + 1) (.inl (0, m16, .inl (fun _ => 0)))) l1 = .inr (12, fs19)) (h21 : l1 < (((n + 1) + 1) + 1)) (h22 : 17 < fs19.length) (h23 : mi_W d 136 233 [some (.ref l1)] [] ((((n + 1) + 1) + 1), (((sl + m2) + m9) + m16), (va_up (va_up (va_up (va_up (va_up (va_up f n (.inl (0, m2, .inl (fun _ => 0)))) l1 (.inr (12, fs5.set 15 (.ref n)))) (n + 1) (.inl (0, m9, .inl (fun _ => 0)))) l1 (.inr (12, fs12.set 16 (.ref (n + 1))))) ((n + 1) + 1) (.inl (0, m16, .inl (fun _ => 0)))) l1 (.inr (12, fs19.set 17 (.ref ((n + 1) + 1)))))) Q) : mi_W d 136 206 [some (.ref l1)] [] (n, sl, f) Q := by
  refine w_aload_n cd_136_206 rfl ?_
  refine w_sipush (v := 800) cd_136_207 (by decide) ?_
  refine w_newarray cd_136_210 rfl h3 h4 ?_
  refine w_putfield (w := .ref n) cd_136_212 (show mt_f 12 86 = some (12, 15) by decide +kernel) h6 h7 ⟨h8, rfl, Or.inr (by decide +kernel)⟩ ?_
  refine w_aload_n cd_136_215 rfl ?_
  refine w_sipush (v := 800) cd_136_216 (by decide) ?_
  refine w_newarray cd_136_219 rfl h10 h11 ?_
  refine w_putfield (w := .ref (n + 1)) cd_136_221 (show mt_f 12 89 = some (12, 16) by decide +kernel) h13 h14 ⟨h15, rfl, Or.inr (by decide +kernel)⟩ ?_
  refine w_aload_n cd_136_224 rfl ?_
  refine w_sipush (v := 800) cd_136_225 (by decide) ?_
  refine w_newarray cd_136_228 rfl h17 h18 ?_
  refine w_putfield (w := .ref ((n + 1) + 1)) cd_136_230 (show mt_f 12 92 = some (12, 17) by decide +kernel) h20 h21 ⟨h22, rfl, Or.inr (by decide +kernel)⟩ ?_
  exact h23
theorem b_136_233 {d : Nat} {Q : (Option Value ⊕ Nat) → mi_H → Prop} (n sl : Nat) (f : Nat → mi_C) {l1 : Nat} {m2 : Nat} {fs5 : List Value} {m9 : Nat} {fs12 : List Value} {m16 : Nat} {fs19 : List Value} (h3 : ¬ 800 < (0 : Int32) ∧ Int32.toNatClampNeg 800 = m2 ∧ m2 ≤ 1000000) (h4 : n + 1 ≤ mi_NC ∧ sl + m2 ≤ mi_NS) (h6 : (va_up f n (.inl (0, m2, .inl (fun _ => 0)))) l1 = .inr (12, fs5)) (h7 : l1 < (n + 1)) (h8 : 18 < fs5.length) (h10 : ¬ 800 < (0 : Int32) ∧ Int32.toNatClampNeg 800 = m9 ∧ m9 ≤ 1000000) (h11 : (n + 1) + 1 ≤ mi_NC ∧ (sl + m2) + m9 ≤ mi_NS) (h13 : (va_up (va_up (va_up f n (.inl (0, m2, .inl (fun _ => 0)))) l1 (.inr (12, fs5.set 18 (.ref n)))) (n + 1) (.inl (0, m9, .inl (fun _ => 0)))) l1 = .inr (12, fs12)) (h14 : l1 < ((n + 1) + 1)) (h15 : 19 < fs12.length) (h17 : ¬ 800 < (0 : Int32) ∧ Int32.toNatClampNeg 800 = m16 ∧ m16 ≤ 1000000) (h18 : ((n + 1) + 1) + 1 ≤ mi_NC ∧ ((sl + m2) + m9) + m16 ≤ mi_NS) (h20 : (va_up (va_up (va_up (va_up (va_up f n (.inl (0, m2, .inl (fun _ => 0)))) l1 (.inr (12, fs5.set 18 (.ref n)))) (n + 1) (.inl (0, m9, .inl (fun _ => 0)))) l1 (.inr (12, fs12.set 19 (.ref (n + 1))))) ((n + 1) + 1) (.inl (3, m16, .inr (.inl (fun _ => 0))))) l1 = .inr (12, fs19)) (h21 : l1 < (((n + 1) + 1) + 1)) (h22 : 20 < fs19.length) (h23 : mi_W d 136 260 [some (.ref l1)] [] ((((n + 1) + 1) + 1), (((sl + m2) + m9) + m16), (va_up (va_up (va_up (va_up (va_up (va_up f n (.inl (0, m2, .inl (fun _ => 0)))) l1 (.inr (12, fs5.set 18 (.ref n)))) (n + 1) (.inl (0, m9, .inl (fun _ => 0)))) l1 (.inr (12, fs12.set 19 (.ref (n + 1))))) ((n + 1) + 1) (.inl (3, m16, .inr (.inl (fun _ => 0))))) l1 (.inr (12, fs19.set 20 (.ref ((n + 1) + 1)))))) Q) : mi_W d 136 233 [some (.ref l1)] [] (n, sl, f) Q := by
  refine w_aload_n cd_136_233 rfl ?_
  refine w_sipush (v := 800) cd_136_234 (by decide) ?_
  refine w_newarray cd_136_237 rfl h3 h4 ?_
  refine w_putfield (w := .ref n) cd_136_239 (show mt_f 12 95 = some (12, 18) by decide +kernel) h6 h7 ⟨h8, rfl, Or.inr (by decide +kernel)⟩ ?_
  refine w_aload_n cd_136_242 rfl ?_
  refine w_sipush (v := 800) cd_136_243 (by decide) ?_
  refine w_newarray cd_136_246 rfl h10 h11 ?_
  refine w_putfield (w := .ref (n + 1)) cd_136_248 (show mt_f 12 98 = some (12, 19) by decide +kernel) h13 h14 ⟨h15, rfl, Or.inr (by decide +kernel)⟩ ?_
  refine w_aload_n cd_136_251 rfl ?_
  refine w_sipush (v := 800) cd_136_252 (by decide) ?_
  refine w_newarray cd_136_255 rfl h17 h18 ?_
  refine w_putfield (w := .ref ((n + 1) + 1)) cd_136_257 (show mt_f 12 101 = some (12, 20) by decide +kernel) h20 h21 ⟨h22, rfl, Or.inr (by decide +kernel)⟩ ?_
  exact h23
theorem b_136_260 {d : Nat} {Q : (Option Value ⊕ Nat) → mi_H → Prop} (n sl : Nat) (f : Nat → mi_C) {l1 : Nat} {m2 : Nat} {fs5 : List Value} {m9 : Nat} {fs12 : List Value} {m16 : Nat} {fs19 : List Value} (h3 : ¬ 4200 < (0 : Int32) ∧ Int32.toNatClampNeg 4200 = m2 ∧ m2 ≤ 1000000) (h4 : n + 1 ≤ mi_NC ∧ sl + m2 ≤ mi_NS) (h6 : (va_up f n (.inl (3, m2, .inr (.inl (fun _ => 0))))) l1 = .inr (12, fs5)) (h7 : l1 < (n + 1)) (h8 : 28 < fs5.length) (h10 : ¬ 4200 < (0 : Int32) ∧ Int32.toNatClampNeg 4200 = m9 ∧ m9 ≤ 1000000) (h11 : (n + 1) + 1 ≤ mi_NC ∧ (sl + m2) + m9 ≤ mi_NS) (h13 : (va_up (va_up (va_up f n (.inl (3, m2, .inr (.inl (fun _ => 0))))) l1 (.inr (12, fs5.set 28 (.ref n)))) (n + 1) (.inl (3, m9, .inr (.inl (fun _ => 0))))) l1 = .inr (12, fs12)) (h14 : l1 < ((n + 1) + 1)) (h15 : 29 < fs12.length) (h17 : ¬ 8 < (0 : Int32) ∧ Int32.toNatClampNeg 8 = m16 ∧ m16 ≤ 1000000) (h18 : ((n + 1) + 1) + 1 ≤ mi_NC ∧ ((sl + m2) + m9) + m16 ≤ mi_NS) (h20 : (va_up (va_up (va_up (va_up (va_up f n (.inl (3, m2, .inr (.inl (fun _ => 0))))) l1 (.inr (12, fs5.set 28 (.ref n)))) (n + 1) (.inl (3, m9, .inr (.inl (fun _ => 0))))) l1 (.inr (12, fs12.set 29 (.ref (n + 1))))) ((n + 1) + 1) (.inl (0, m16, .inl (fun _ => 0)))) l1 = .inr (12, fs19)) (h21 : l1 < (((n + 1) + 1) + 1)) (h22 : 30 < fs19.length) (h23 : mi_W d 136 286 [some (.ref l1)] [] ((((n + 1) + 1) + 1), (((sl + m2) + m9) + m16), (va_up (va_up (va_up (va_up (va_up (va_up f n (.inl (3, m2, .inr (.inl (fun _ => 0))))) l1 (.inr (12, fs5.set 28 (.ref n)))) (n + 1) (.inl (3, m9, .inr (.inl (fun _ => 0))))) l1 (.inr (12, fs12.set 29 (.ref (n + 1))))) ((n + 1) + 1) (.inl (0, m16, .inl (fun _ => 0)))) l1 (.inr (12, fs19.set 30 (.ref ((n + 1) + 1)))))) Q) : mi_W d 136 260 [some (.ref l1)] [] (n, sl, f) Q := by
  refine w_aload_n cd_136_260 rfl ?_
  refine w_sipush (v := 4200) cd_136_261 (by decide) ?_
  refine w_newarray cd_136_264 rfl h3 h4 ?_
  refine w_putfield (w := .ref n) cd_136_266 (show mt_f 12 105 = some (12, 28) by decide +kernel) h6 h7 ⟨h8, rfl, Or.inr (by decide +kernel)⟩ ?_
  refine w_aload_n cd_136_269 rfl ?_
  refine w_sipush (v := 4200) cd_136_270 (by decide) ?_
  refine w_newarray cd_136_273 rfl h10 h11 ?_
  refine w_putfield (w := .ref (n + 1)) cd_136_275 (show mt_f 12 108 = some (12, 29) by decide +kernel) h13 h14 ⟨h15, rfl, Or.inr (by decide +kernel)⟩ ?_
  refine w_aload_n cd_136_278 rfl ?_
  refine w_bipush (v := 8) cd_136_279 (by decide) ?_
  refine w_newarray cd_136_281 rfl h17 h18 ?_
  refine w_putfield (w := .ref ((n + 1) + 1)) cd_136_283 (show mt_f 12 111 = some (12, 30) by decide +kernel) h20 h21 ⟨h22, rfl, Or.inr (by decide +kernel)⟩ ?_
  exact h23
theorem b_136_286 {d : Nat} {Q : (Option Value ⊕ Nat) → mi_H → Prop} (n sl : Nat) (f : Nat → mi_C) {l1 : Nat} {m2 : Nat} {fs5 : List Value} {m9 : Nat} {fs12 : List Value} {m16 : Nat} {fs19 : List Value} (h3 : ¬ 8 < (0 : Int32) ∧ Int32.toNatClampNeg 8 = m2 ∧ m2 ≤ 1000000) (h4 : n + 1 ≤ mi_NC ∧ sl + m2 ≤ mi_NS) (h6 : (va_up f n (.inl (0, m2, .inl (fun _ => 0)))) l1 = .inr (12, fs5)) (h7 : l1 < (n + 1)) (h8 : 31 < fs5.length) (h10 : ¬ 4 < (0 : Int32) ∧ Int32.toNatClampNeg 4 = m9 ∧ m9 ≤ 1000000) (h11 : (n + 1) + 1 ≤ mi_NC ∧ (sl + m2) + m9 ≤ mi_NS) (h13 : (va_up (va_up (va_up f n (.inl (0, m2, .inl (fun _ => 0)))) l1 (.inr (12, fs5.set 31 (.ref n)))) (n + 1) (.inl (0, m9, .inl (fun _ => 0)))) l1 = .inr (12, fs12)) (h14 : l1 < ((n + 1) + 1)) (h15 : 32 < fs12.length) (h17 : ¬ 4 < (0 : Int32) ∧ Int32.toNatClampNeg 4 = m16 ∧ m16 ≤ 1000000) (h18 : ((n + 1) + 1) + 1 ≤ mi_NC ∧ ((sl + m2) + m9) + m16 ≤ mi_NS) (h20 : (va_up (va_up (va_up (va_up (va_up f n (.inl (0, m2, .inl (fun _ => 0)))) l1 (.inr (12, fs5.set 31 (.ref n)))) (n + 1) (.inl (0, m9, .inl (fun _ => 0)))) l1 (.inr (12, fs12.set 32 (.ref (n + 1))))) ((n + 1) + 1) (.inl (0, m16, .inl (fun _ => 0)))) l1 = .inr (12, fs19)) (h21 : l1 < (((n + 1) + 1) + 1)) (h22 : 33 < fs19.length) (h23 : mi_W d 136 308 [some (.ref l1)] [] ((((n + 1) + 1) + 1), (((sl + m2) + m9) + m16), (va_up (va_up (va_up (va_up (va_up (va_up f n (.inl (0, m2, .inl (fun _ => 0)))) l1 (.inr (12, fs5.set 31 (.ref n)))) (n + 1) (.inl (0, m9, .inl (fun _ => 0)))) l1 (.inr (12, fs12.set 32 (.ref (n + 1))))) ((n + 1) + 1) (.inl (0, m16, .inl (fun _ => 0)))) l1 (.inr (12, fs19.set 33 (.ref ((n + 1) + 1)))))) Q) : mi_W d 136 286 [some (.ref l1)] [] (n, sl, f) Q := by
  refine w_aload_n cd_136_286 rfl ?_
  refine w_bipush (v := 8) cd_136_287 (by decide) ?_
  refine w_newarray cd_136_289 rfl h3 h4 ?_
  refine w_putfield (w := .ref n) cd_136_291 (show mt_f 12 114 = some (12, 31) by decide +kernel) h6 h7 ⟨h8, rfl, Or.inr (by decide +kernel)⟩ ?_
  refine w_aload_n cd_136_294 rfl ?_
  refine w_iconst (v := 4) cd_136_295 (by decide) ?_
  refine w_newarray cd_136_296 rfl h10 h11 ?_
  refine w_putfield (w := .ref (n + 1)) cd_136_298 (show mt_f 12 117 = some (12, 32) by decide +kernel) h13 h14 ⟨h15, rfl, Or.inr (by decide +kernel)⟩ ?_
  refine w_aload_n cd_136_301 rfl ?_
  refine w_iconst (v := 4) cd_136_302 (by decide) ?_
  refine w_newarray cd_136_303 rfl h17 h18 ?_
  refine w_putfield (w := .ref ((n + 1) + 1)) cd_136_305 (show mt_f 12 120 = some (12, 33) by decide +kernel) h20 h21 ⟨h22, rfl, Or.inr (by decide +kernel)⟩ ?_
  exact h23
theorem b_136_308 {d : Nat} {Q : (Option Value ⊕ Nat) → mi_H → Prop} (n sl : Nat) (f : Nat → mi_C) {l1 : Nat} {m2 : Nat} {fs5 : List Value} {m9 : Nat} {fs12 : List Value} {m16 : Nat} {fs19 : List Value} (h3 : ¬ 8 < (0 : Int32) ∧ Int32.toNatClampNeg 8 = m2 ∧ m2 ≤ 1000000) (h4 : n + 1 ≤ mi_NC ∧ sl + m2 ≤ mi_NS) (h6 : (va_up f n (.inl (0, m2, .inl (fun _ => 0)))) l1 = .inr (12, fs5)) (h7 : l1 < (n + 1)) (h8 : 34 < fs5.length) (h10 : ¬ 8 < (0 : Int32) ∧ Int32.toNatClampNeg 8 = m9 ∧ m9 ≤ 1000000) (h11 : (n + 1) + 1 ≤ mi_NC ∧ (sl + m2) + m9 ≤ mi_NS) (h13 : (va_up (va_up (va_up f n (.inl (0, m2, .inl (fun _ => 0)))) l1 (.inr (12, fs5.set 34 (.ref n)))) (n + 1) (.inl (0, m9, .inl (fun _ => 0)))) l1 = .inr (12, fs12)) (h14 : l1 < ((n + 1) + 1)) (h15 : 35 < fs12.length) (h17 : ¬ 8 < (0 : Int32) ∧ Int32.toNatClampNeg 8 = m16 ∧ m16 ≤ 1000000) (h18 : ((n + 1) + 1) + 1 ≤ mi_NC ∧ ((sl + m2) + m9) + m16 ≤ mi_NS) (h20 : (va_up (va_up (va_up (va_up (va_up f n (.inl (0, m2, .inl (fun _ => 0)))) l1 (.inr (12, fs5.set 34 (.ref n)))) (n + 1) (.inl (0, m9, .inl (fun _ => 0)))) l1 (.inr (12, fs12.set 35 (.ref (n + 1))))) ((n + 1) + 1) (.inl (0, m16, .inl (fun _ => 0)))) l1 = .inr (12, fs19)) (h21 : l1 < (((n + 1) + 1) + 1)) (h22 : 36 < fs19.length) (h23 : mi_W d 136 332 [some (.ref l1)] [] ((((n + 1) + 1) + 1), (((sl + m2) + m9) + m16), (va_up (va_up (va_up (va_up (va_up (va_up f n (.inl (0, m2, .inl (fun _ => 0)))) l1 (.inr (12, fs5.set 34 (.ref n)))) (n + 1) (.inl (0, m9, .inl (fun _ => 0)))) l1 (.inr (12, fs12.set 35 (.ref (n + 1))))) ((n + 1) + 1) (.inl (0, m16, .inl (fun _ => 0)))) l1 (.inr (12, fs19.set 36 (.ref ((n + 1) + 1)))))) Q) : mi_W d 136 308 [some (.ref l1)] [] (n, sl, f) Q := by
  refine w_aload_n cd_136_308 rfl ?_
  refine w_bipush (v := 8) cd_136_309 (by decide) ?_
  refine w_newarray cd_136_311 rfl h3 h4 ?_
  refine w_putfield (w := .ref n) cd_136_313 (show mt_f 12 123 = some (12, 34) by decide +kernel) h6 h7 ⟨h8, rfl, Or.inr (by decide +kernel)⟩ ?_
  refine w_aload_n cd_136_316 rfl ?_
  refine w_bipush (v := 8) cd_136_317 (by decide) ?_
  refine w_newarray cd_136_319 rfl h10 h11 ?_
  refine w_putfield (w := .ref (n + 1)) cd_136_321 (show mt_f 12 126 = some (12, 35) by decide +kernel) h13 h14 ⟨h15, rfl, Or.inr (by decide +kernel)⟩ ?_
  refine w_aload_n cd_136_324 rfl ?_
  refine w_bipush (v := 8) cd_136_325 (by decide) ?_
  refine w_newarray cd_136_327 rfl h17 h18 ?_
  refine w_putfield (w := .ref ((n + 1) + 1)) cd_136_329 (show mt_f 12 129 = some (12, 36) by decide +kernel) h20 h21 ⟨h22, rfl, Or.inr (by decide +kernel)⟩ ?_
  exact h23
theorem b_136_332 {d : Nat} {Q : (Option Value ⊕ Nat) → mi_H → Prop} (n sl : Nat) (f : Nat → mi_C) {l1 : Nat} {m2 : Nat} {fs5 : List Value} {m9 : Nat} {fs12 : List Value} {m16 : Nat} {fs19 : List Value} (h3 : ¬ 8 < (0 : Int32) ∧ Int32.toNatClampNeg 8 = m2 ∧ m2 ≤ 1000000) (h4 : n + 1 ≤ mi_NC ∧ sl + m2 ≤ mi_NS) (h6 : (va_up f n (.inl (0, m2, .inl (fun _ => 0)))) l1 = .inr (12, fs5)) (h7 : l1 < (n + 1)) (h8 : 37 < fs5.length) (h10 : ¬ 8 < (0 : Int32) ∧ Int32.toNatClampNeg 8 = m9 ∧ m9 ≤ 1000000) (h11 : (n + 1) + 1 ≤ mi_NC ∧ (sl + m2) + m9 ≤ mi_NS) (h13 : (va_up (va_up (va_up f n (.inl (0, m2, .inl (fun _ => 0)))) l1 (.inr (12, fs5.set 37 (.ref n)))) (n + 1) (.inl (0, m9, .inl (fun _ => 0)))) l1 = .inr (12, fs12)) (h14 : l1 < ((n + 1) + 1)) (h15 : 38 < fs12.length) (h17 : ¬ 800 < (0 : Int32) ∧ Int32.toNatClampNeg 800 = m16 ∧ m16 ≤ 1000000) (h18 : ((n + 1) + 1) + 1 ≤ mi_NC ∧ ((sl + m2) + m9) + m16 ≤ mi_NS) (h20 : (va_up (va_up (va_up (va_up (va_up f n (.inl (0, m2, .inl (fun _ => 0)))) l1 (.inr (12, fs5.set 37 (.ref n)))) (n + 1) (.inl (0, m9, .inl (fun _ => 0)))) l1 (.inr (12, fs12.set 38 (.ref (n + 1))))) ((n + 1) + 1) (.inl (0, m16, .inl (fun _ => 0)))) l1 = .inr (12, fs19)) (h21 : l1 < (((n + 1) + 1) + 1)) (h22 : 39 < fs19.length) (h23 : mi_W d 136 357 [some (.ref l1)] [] ((((n + 1) + 1) + 1), (((sl + m2) + m9) + m16), (va_up (va_up (va_up (va_up (va_up (va_up f n (.inl (0, m2, .inl (fun _ => 0)))) l1 (.inr (12, fs5.set 37 (.ref n)))) (n + 1) (.inl (0, m9, .inl (fun _ => 0)))) l1 (.inr (12, fs12.set 38 (.ref (n + 1))))) ((n + 1) + 1) (.inl (0, m16, .inl (fun _ => 0)))) l1 (.inr (12, fs19.set 39 (.ref ((n + 1) + 1)))))) Q) : mi_W d 136 332 [some (.ref l1)] [] (n, sl, f) Q := by
  refine w_aload_n cd_136_332 rfl ?_
  refine w_bipush (v := 8) cd_136_333 (by decide) ?_
  refine w_newarray cd_136_335 rfl h3 h4 ?_
  refine w_putfield (w := .ref n) cd_136_337 (show mt_f 12 132 = some (12, 37) by decide +kernel) h6 h7 ⟨h8, rfl, Or.inr (by decide +kernel)⟩ ?_
  refine w_aload_n cd_136_340 rfl ?_
  refine w_bipush (v := 8) cd_136_341 (by decide) ?_
  refine w_newarray cd_136_343 rfl h10 h11 ?_
  refine w_putfield (w := .ref (n + 1)) cd_136_345 (show mt_f 12 135 = some (12, 38) by decide +kernel) h13 h14 ⟨h15, rfl, Or.inr (by decide +kernel)⟩ ?_
  refine w_aload_n cd_136_348 rfl ?_
  refine w_sipush (v := 800) cd_136_349 (by decide) ?_
  refine w_newarray cd_136_352 rfl h17 h18 ?_
  refine w_putfield (w := .ref ((n + 1) + 1)) cd_136_354 (show mt_f 12 138 = some (12, 39) by decide +kernel) h20 h21 ⟨h22, rfl, Or.inr (by decide +kernel)⟩ ?_
  exact h23
theorem b_136_357 {d : Nat} {Q : (Option Value ⊕ Nat) → mi_H → Prop} (n sl : Nat) (f : Nat → mi_C) {l1 : Nat} {m2 : Nat} {fs5 : List Value} (h3 : ¬ 800 < (0 : Int32) ∧ Int32.toNatClampNeg 800 = m2 ∧ m2 ≤ 1000000) (h4 : n + 1 ≤ mi_NC ∧ sl + m2 ≤ mi_NS) (h6 : (va_up f n (.inl (0, m2, .inl (fun _ => 0)))) l1 = .inr (12, fs5)) (h7 : l1 < (n + 1)) (h8 : 40 < fs5.length) (h9 : (n + 1) + 1 ≤ mi_NC ∧ (sl + m2) + 7 ≤ mi_NS) (h10 : ((n + 1)) < ((n + 1) + 1)) (h11 : mi_W d 137 0 (mi_en 1 [.ref (n + 1)]) [] (((n + 1) + 1), ((sl + m2) + 7), (va_up (va_up (va_up f n (.inl (0, m2, .inl (fun _ => 0)))) l1 (.inr (12, fs5.set 40 (.ref n)))) (n + 1) (.inr (13, mt_df 13)))) (mi_Kc d 136 371 [some (.ref l1)] [.ref (n + 1), .ref l1] Q)) : mi_W (d + 1) 136 357 [some (.ref l1)] [] (n, sl, f) Q := by
  refine w_aload_n cd_136_357 rfl ?_
  refine w_sipush (v := 800) cd_136_358 (by decide) ?_
  refine w_newarray cd_136_361 rfl h3 h4 ?_
  refine w_putfield (w := .ref n) cd_136_363 (show mt_f 12 141 = some (12, 40) by decide +kernel) h6 h7 ⟨h8, rfl, Or.inr (by decide +kernel)⟩ ?_
  refine w_aload_n cd_136_366 rfl ?_
  refine w_new cd_136_367 (show mt_c 12 144 = some 13 by decide +kernel) (by decide) h9 ?_
  refine w_dup_r cd_136_370 ?_
  exact w_invokespecial cd_136_371 (show mt_m 12 146 = some (137, 3) by decide +kernel) (Or.inr rfl) (by decide) (rest := [.ref (n + 1), .ref l1]) rfl (as := [.ref (n + 1)]) rfl h10 ⟨Nat.le_of_ble_eq_true rfl, Nat.le_of_ble_eq_true rfl, Nat.le_of_ble_eq_true rfl⟩ h11
theorem b_136_374 {d : Nat} {Q : (Option Value ⊕ Nat) → mi_H → Prop} (n sl : Nat) (f : Nat → mi_C) {l1 : Nat} {s2 : Nat} {s3 : Nat} {fs4 : List Value} (h5 : f s3 = .inr (12, fs4)) (h6 : s3 < n) (h7 : 41 < fs4.length) (h8 : n + 1 ≤ mi_NC ∧ sl + 7 ≤ mi_NS) (h9 : n < (n + 1)) (h10 : mi_W d 137 0 (mi_en 1 [.ref n]) [] ((n + 1), (sl + 7), (va_up (va_up f s3 (.inr (12, fs4.set 41 (.ref s2)))) n (.inr (13, mt_df 13)))) (mi_Kc d 136 382 [some (.ref l1)] [.ref n, .ref l1] Q)) : mi_W (d + 1) 136 374 [some (.ref l1)] [.ref s2, .ref s3] (n, sl, f) Q := by
  refine w_putfield (w := .ref s2) cd_136_374 (show mt_f 12 147 = some (12, 41) by decide +kernel) h5 h6 ⟨h7, rfl, Or.inr (by decide +kernel)⟩ ?_
  refine w_aload_n cd_136_377 rfl ?_
  refine w_new cd_136_378 (show mt_c 12 144 = some 13 by decide +kernel) (by decide) h8 ?_
  refine w_dup_r cd_136_381 ?_
  exact w_invokespecial cd_136_382 (show mt_m 12 146 = some (137, 3) by decide +kernel) (Or.inr rfl) (by decide) (rest := [.ref n, .ref l1]) rfl (as := [.ref n]) rfl h9 ⟨Nat.le_of_ble_eq_true rfl, Nat.le_of_ble_eq_true rfl, Nat.le_of_ble_eq_true rfl⟩ h10
theorem b_136_385 {d : Nat} {Q : (Option Value ⊕ Nat) → mi_H → Prop} (n sl : Nat) (f : Nat → mi_C) {l1 : Nat} {s2 : Nat} {s3 : Nat} {fs4 : List Value} {m8 : Nat} {fs11 : List Value} {m15 : Nat} {fs18 : List Value} {m22 : Nat} {fs25 : List Value} (h5 : f s3 = .inr (12, fs4)) (h6 : s3 < n) (h7 : 42 < fs4.length) (h9 : ¬ 2000 < (0 : Int32) ∧ Int32.toNatClampNeg 2000 = m8 ∧ m8 ≤ 1000000) (h10 : n + 1 ≤ mi_NC ∧ sl + m8 ≤ mi_NS) (h12 : (va_up (va_up f s3 (.inr (12, fs4.set 42 (.ref s2)))) n (.inl (0, m8, .inl (fun _ => 0)))) l1 = .inr (12, fs11)) (h13 : l1 < (n + 1)) (h14 : 49 < fs11.length) (h16 : ¬ 2000 < (0 : Int32) ∧ Int32.toNatClampNeg 2000 = m15 ∧ m15 ≤ 1000000) (h17 : (n + 1) + 1 ≤ mi_NC ∧ (sl + m8) + m15 ≤ mi_NS) (h19 : (va_up (va_up (va_up (va_up f s3 (.inr (12, fs4.set 42 (.ref s2)))) n (.inl (0, m8, .inl (fun _ => 0)))) l1 (.inr (12, fs11.set 49 (.ref n)))) (n + 1) (.inl (0, m15, .inl (fun _ => 0)))) l1 = .inr (12, fs18)) (h20 : l1 < ((n + 1) + 1)) (h21 : 50 < fs18.length) (h23 : ¬ 2000 < (0 : Int32) ∧ Int32.toNatClampNeg 2000 = m22 ∧ m22 ≤ 1000000) (h24 : ((n + 1) + 1) + 1 ≤ mi_NC ∧ ((sl + m8) + m15) + m22 ≤ mi_NS) (h26 : (va_up (va_up (va_up (va_up (va_up (va_up f s3 (.inr (12, fs4.set 42 (.ref s2)))) n (.inl (0, m8, .inl (fun _ => 0)))) l1 (.inr (12, fs11.set 49 (.ref n)))) (n + 1) (.inl (0, m15, .inl (fun _ => 0)))) l1 (.inr (12, fs18.set 50 (.ref (n + 1))))) ((n + 1) + 1) (.inl (0, m22, .inl (fun _ => 0)))) l1 = .inr (12, fs25)) (h27 : l1 < (((n + 1) + 1) + 1)) (h28 : 51 < fs25.length) (h29 : mi_W d 136 415 [some (.ref l1)] [] ((((n + 1) + 1) + 1), (((sl + m8) + m15) + m22), (va_up (va_up (va_up (va_up (va_up (va_up (va_up f s3 (.inr (12, fs4.set 42 (.ref s2)))) n (.inl (0, m8, .inl (fun _ => 0)))) l1 (.inr (12, fs11.set 49 (.ref n)))) (n + 1) (.inl (0, m15, .inl (fun _ => 0)))) l1 (.inr (12, fs18.set 50 (.ref (n + 1))))) ((n + 1) + 1) (.inl (0, m22, .inl (fun _ => 0)))) l1 (.inr (12, fs25.set 51 (.ref ((n + 1) + 1)))))) Q) : mi_W d 136 385 [some (.ref l1)] [.ref s2, .ref s3] (n, sl, f) Q := by
  refine w_putfield (w := .ref s2) cd_136_385 (show mt_f 12 151 = some (12, 42) by decide +kernel) h5 h6 ⟨h7, rfl, Or.inr (by decide +kernel)⟩ ?_
  refine w_aload_n cd_136_388 rfl ?_
  refine w_sipush (v := 2000) cd_136_389 (by decide) ?_
  refine w_newarray cd_136_392 rfl h9 h10 ?_
  refine w_putfield (w := .ref n) cd_136_394 (show mt_f 12 154 = some (12, 49) by decide +kernel) h12 h13 ⟨h14, rfl, Or.inr (by decide +kernel)⟩ ?_
  refine w_aload_n cd_136_397 rfl ?_
  refine w_sipush (v := 2000) cd_136_398 (by decide) ?_
  refine w_newarray cd_136_401 rfl h16 h17 ?_
  refine w_putfield (w := .ref (n + 1)) cd_136_403 (show mt_f 12 157 = some (12, 50) by decide +kernel) h19 h20 ⟨h21, rfl, Or.inr (by decide +kernel)⟩ ?_
  refine w_aload_n cd_136_406 rfl ?_
  refine w_sipush (v := 2000) cd_136_407 (by decide) ?_
  refine w_newarray cd_136_410 rfl h23 h24 ?_
  refine w_putfield (w := .ref ((n + 1) + 1)) cd_136_412 (show mt_f 12 160 = some (12, 51) by decide +kernel) h26 h27 ⟨h28, rfl, Or.inr (by decide +kernel)⟩ ?_
  exact h29
theorem b_136_415 {d : Nat} {Q : (Option Value ⊕ Nat) → mi_H → Prop} (n sl : Nat) (f : Nat → mi_C) {l1 : Nat} {m2 : Nat} {fs5 : List Value} {m9 : Nat} {fs12 : List Value} {m16 : Nat} {fs19 : List Value} (h3 : ¬ 2000 < (0 : Int32) ∧ Int32.toNatClampNeg 2000 = m2 ∧ m2 ≤ 1000000) (h4 : n + 1 ≤ mi_NC ∧ sl + m2 ≤ mi_NS) (h6 : (va_up f n (.inl (0, m2, .inl (fun _ => 0)))) l1 = .inr (12, fs5)) (h7 : l1 < (n + 1)) (h8 : 52 < fs5.length) (h10 : ¬ 2000 < (0 : Int32) ∧ Int32.toNatClampNeg 2000 = m9 ∧ m9 ≤ 1000000) (h11 : (n + 1) + 1 ≤ mi_NC ∧ (sl + m2) + m9 ≤ mi_NS) (h13 : (va_up (va_up (va_up f n (.inl (0, m2, .inl (fun _ => 0)))) l1 (.inr (12, fs5.set 52 (.ref n)))) (n + 1) (.inl (0, m9, .inl (fun _ => 0)))) l1 = .inr (12, fs12)) (h14 : l1 < ((n + 1) + 1)) (h15 : 53 < fs12.length) (h17 : ¬ 2000 < (0 : Int32) ∧ Int32.toNatClampNeg 2000 = m16 ∧ m16 ≤ 1000000) (h18 : ((n + 1) + 1) + 1 ≤ mi_NC ∧ ((sl + m2) + m9) + m16 ≤ mi_NS) (h20 : (va_up (va_up (va_up (va_up (va_up f n (.inl (0, m2, .inl (fun _ => 0)))) l1 (.inr (12, fs5.set 52 (.ref n)))) (n + 1) (.inl (0, m9, .inl (fun _ => 0)))) l1 (.inr (12, fs12.set 53 (.ref (n + 1))))) ((n + 1) + 1) (.inl (3, m16, .inr (.inl (fun _ => 0))))) l1 = .inr (12, fs19)) (h21 : l1 < (((n + 1) + 1) + 1)) (h22 : 54 < fs19.length) (h23 : mi_W d 136 442 [some (.ref l1)] [] ((((n + 1) + 1) + 1), (((sl + m2) + m9) + m16), (va_up (va_up (va_up (va_up (va_up (va_up f n (.inl (0, m2, .inl (fun _ => 0)))) l1 (.inr (12, fs5.set 52 (.ref n)))) (n + 1) (.inl (0, m9, .inl (fun _ => 0)))) l1 (.inr (12, fs12.set 53 (.ref (n + 1))))) ((n + 1) + 1) (.inl (3, m16, .inr (.inl (fun _ => 0))))) l1 (.inr (12, fs19.set 54 (.ref ((n + 1) + 1)))))) Q) : mi_W d 136 415 [some (.ref l1)] [] (n, sl, f) Q := by
  refine w_aload_n cd_136_415 rfl ?_
  refine w_sipush (v := 2000) cd_136_416 (by decide) ?_
  refine w_newarray cd_136_419 rfl h3 h4 ?_
  refine w_putfield (w := .ref n) cd_136_421 (show mt_f 12 163 = some (12, 52) by decide +kernel) h6 h7 ⟨h8, rfl, Or.inr (by decide +kernel)⟩ ?_
  refine w_aload_n cd_136_424 rfl ?_
  refine w_sipush (v := 2000) cd_136_425 (by decide) ?_
  refine w_newarray cd_136_428 rfl h10 h11 ?_
  refine w_putfield (w := .ref (n + 1)) cd_136_430 (show mt_f 12 166 = some (12, 53) by decide +kernel) h13 h14 ⟨h15, rfl, Or.inr (by decide +kernel)⟩ ?_
  refine w_aload_n cd_136_433 rfl ?_
  refine w_sipush (v := 2000) cd_136_434 (by decide) ?_
  refine w_newarray cd_136_437 rfl h17 h18 ?_
  refine w_putfield (w := .ref ((n + 1) + 1)) cd_136_439 (show mt_f 12 169 = some (12, 54) by decide +kernel) h20 h21 ⟨h22, rfl, Or.inr (by decide +kernel)⟩ ?_
  exact h23
theorem b_136_442 {d : Nat} {Q : (Option Value ⊕ Nat) → mi_H → Prop} (n sl : Nat) (f : Nat → mi_C) {l1 : Nat} {m2 : Nat} {fs5 : List Value} {m9 : Nat} {fs12 : List Value} {m16 : Nat} {fs19 : List Value} (h3 : ¬ 32 < (0 : Int32) ∧ Int32.toNatClampNeg 32 = m2 ∧ m2 ≤ 1000000) (h4 : n + 1 ≤ mi_NC ∧ sl + m2 ≤ mi_NS) (h6 : (va_up f n (.inl (3, m2, .inr (.inl (fun _ => 0))))) l1 = .inr (12, fs5)) (h7 : l1 < (n + 1)) (h8 : 55 < fs5.length) (h10 : ¬ 32 < (0 : Int32) ∧ Int32.toNatClampNeg 32 = m9 ∧ m9 ≤ 1000000) (h11 : (n + 1) + 1 ≤ mi_NC ∧ (sl + m2) + m9 ≤ mi_NS) (h13 : (va_up (va_up (va_up f n (.inl (3, m2, .inr (.inl (fun _ => 0))))) l1 (.inr (12, fs5.set 55 (.ref n)))) (n + 1) (.inl (3, m9, .inr (.inl (fun _ => 0))))) l1 = .inr (12, fs12)) (h14 : l1 < ((n + 1) + 1)) (h15 : 56 < fs12.length) (h17 : ¬ 16 < (0 : Int32) ∧ Int32.toNatClampNeg 16 = m16 ∧ m16 ≤ 1000000) (h18 : ((n + 1) + 1) + 1 ≤ mi_NC ∧ ((sl + m2) + m9) + m16 ≤ mi_NS) (h20 : (va_up (va_up (va_up (va_up (va_up f n (.inl (3, m2, .inr (.inl (fun _ => 0))))) l1 (.inr (12, fs5.set 55 (.ref n)))) (n + 1) (.inl (3, m9, .inr (.inl (fun _ => 0))))) l1 (.inr (12, fs12.set 56 (.ref (n + 1))))) ((n + 1) + 1) (.inl (0, m16, .inl (fun _ => 0)))) l1 = .inr (12, fs19)) (h21 : l1 < (((n + 1) + 1) + 1)) (h22 : 60 < fs19.length) (h23 : mi_W d 136 466 [some (.ref l1)] [] ((((n + 1) + 1) + 1), (((sl + m2) + m9) + m16), (va_up (va_up (va_up (va_up (va_up (va_up f n (.inl (3, m2, .inr (.inl (fun _ => 0))))) l1 (.inr (12, fs5.set 55 (.ref n)))) (n + 1) (.inl (3, m9, .inr (.inl (fun _ => 0))))) l1 (.inr (12, fs12.set 56 (.ref (n + 1))))) ((n + 1) + 1) (.inl (0, m16, .inl (fun _ => 0)))) l1 (.inr (12, fs19.set 60 (.ref ((n + 1) + 1)))))) Q) : mi_W d 136 442 [some (.ref l1)] [] (n, sl, f) Q := by
  refine w_aload_n cd_136_442 rfl ?_
  refine w_bipush (v := 32) cd_136_443 (by decide) ?_
  refine w_newarray cd_136_445 rfl h3 h4 ?_
  refine w_putfield (w := .ref n) cd_136_447 (show mt_f 12 172 = some (12, 55) by decide +kernel) h6 h7 ⟨h8, rfl, Or.inr (by decide +kernel)⟩ ?_
  refine w_aload_n cd_136_450 rfl ?_
  refine w_bipush (v := 32) cd_136_451 (by decide) ?_
  refine w_newarray cd_136_453 rfl h10 h11 ?_
  refine w_putfield (w := .ref (n + 1)) cd_136_455 (show mt_f 12 175 = some (12, 56) by decide +kernel) h13 h14 ⟨h15, rfl, Or.inr (by decide +kernel)⟩ ?_
  refine w_aload_n cd_136_458 rfl ?_
  refine w_bipush (v := 16) cd_136_459 (by decide) ?_
  refine w_newarray cd_136_461 rfl h17 h18 ?_
  refine w_putfield (w := .ref ((n + 1) + 1)) cd_136_463 (show mt_f 12 178 = some (12, 60) by decide +kernel) h20 h21 ⟨h22, rfl, Or.inr (by decide +kernel)⟩ ?_
  exact h23
theorem b_136_466 {d : Nat} {Q : (Option Value ⊕ Nat) → mi_H → Prop} (n sl : Nat) (f : Nat → mi_C) {l1 : Nat} {m2 : Nat} {fs5 : List Value} {m9 : Nat} {fs12 : List Value} {m16 : Nat} {fs19 : List Value} (h3 : ¬ 16 < (0 : Int32) ∧ Int32.toNatClampNeg 16 = m2 ∧ m2 ≤ 1000000) (h4 : n + 1 ≤ mi_NC ∧ sl + m2 ≤ mi_NS) (h6 : (va_up f n (.inl (0, m2, .inl (fun _ => 0)))) l1 = .inr (12, fs5)) (h7 : l1 < (n + 1)) (h8 : 61 < fs5.length) (h10 : ¬ 16 < (0 : Int32) ∧ Int32.toNatClampNeg 16 = m9 ∧ m9 ≤ 1000000) (h11 : (n + 1) + 1 ≤ mi_NC ∧ (sl + m2) + m9 ≤ mi_NS) (h13 : (va_up (va_up (va_up f n (.inl (0, m2, .inl (fun _ => 0)))) l1 (.inr (12, fs5.set 61 (.ref n)))) (n + 1) (.inl (0, m9, .inl (fun _ => 0)))) l1 = .inr (12, fs12)) (h14 : l1 < ((n + 1) + 1)) (h15 : 62 < fs12.length) (h17 : ¬ 16 < (0 : Int32) ∧ Int32.toNatClampNeg 16 = m16 ∧ m16 ≤ 1000000) (h18 : ((n + 1) + 1) + 1 ≤ mi_NC ∧ ((sl + m2) + m9) + m16 ≤ mi_NS) (h20 : (va_up (va_up (va_up (va_up (va_up f n (.inl (0, m2, .inl (fun _ => 0)))) l1 (.inr (12, fs5.set 61 (.ref n)))) (n + 1) (.inl (0, m9, .inl (fun _ => 0)))) l1 (.inr (12, fs12.set 62 (.ref (n + 1))))) ((n + 1) + 1) (.inl (0, m16, .inl (fun _ => 0)))) l1 = .inr (12, fs19)) (h21 : l1 < (((n + 1) + 1) + 1)) (h22 : 63 < fs19.length) (h23 : mi_W d 136 490 [some (.ref l1)] [] ((((n + 1) + 1) + 1), (((sl + m2) + m9) + m16), (va_up (va_up (va_up (va_up (va_up (va_up f n (.inl (0, m2, .inl (fun _ => 0)))) l1 (.inr (12, fs5.set 61 (.ref n)))) (n + 1) (.inl (0, m9, .inl (fun _ => 0)))) l1 (.inr (12, fs12.set 62 (.ref (n + 1))))) ((n + 1) + 1) (.inl (0, m16, .inl (fun _ => 0)))) l1 (.inr (12, fs19.set 63 (.ref ((n + 1) + 1)))))) Q) : mi_W d 136 466 [some (.ref l1)] [] (n, sl, f) Q := by
  refine w_aload_n cd_136_466 rfl ?_
  refine w_bipush (v := 16) cd_136_467 (by decide) ?_
  refine w_newarray cd_136_469 rfl h3 h4 ?_
  refine w_putfield (w := .ref n) cd_136_471 (show mt_f 12 181 = some (12, 61) by decide +kernel) h6 h7 ⟨h8, rfl, Or.inr (by decide +kernel)⟩ ?_
  refine w_aload_n cd_136_474 rfl ?_
  refine w_bipush (v := 16) cd_136_475 (by decide) ?_
  refine w_newarray cd_136_477 rfl h10 h11 ?_
  refine w_putfield (w := .ref (n + 1)) cd_136_479 (show mt_f 12 184 = some (12, 62) by decide +kernel) h13 h14 ⟨h15, rfl, Or.inr (by decide +kernel)⟩ ?_
  refine w_aload_n cd_136_482 rfl ?_
  refine w_bipush (v := 16) cd_136_483 (by decide) ?_
  refine w_newarray cd_136_485 rfl h17 h18 ?_
  refine w_putfield (w := .ref ((n + 1) + 1)) cd_136_487 (show mt_f 12 187 = some (12, 63) by decide +kernel) h20 h21 ⟨h22, rfl, Or.inr (by decide +kernel)⟩ ?_
  exact h23
theorem b_136_490 {d : Nat} {Q : (Option Value ⊕ Nat) → mi_H → Prop} (n sl : Nat) (f : Nat → mi_C) {l1 : Nat} {m2 : Nat} {fs5 : List Value} {m9 : Nat} {fs12 : List Value} {m16 : Nat} {fs19 : List Value} (h3 : ¬ 16 < (0 : Int32) ∧ Int32.toNatClampNeg 16 = m2 ∧ m2 ≤ 1000000) (h4 : n + 1 ≤ mi_NC ∧ sl + m2 ≤ mi_NS) (h6 : (va_up f n (.inl (3, m2, .inr (.inl (fun _ => 0))))) l1 = .inr (12, fs5)) (h7 : l1 < (n + 1)) (h8 : 64 < fs5.length) (h10 : ¬ 2000 < (0 : Int32) ∧ Int32.toNatClampNeg 2000 = m9 ∧ m9 ≤ 1000000) (h11 : (n + 1) + 1 ≤ mi_NC ∧ (sl + m2) + m9 ≤ mi_NS) (h13 : (va_up (va_up (va_up f n (.inl (3, m2, .inr (.inl (fun _ => 0))))) l1 (.inr (12, fs5.set 64 (.ref n)))) (n + 1) (.inl (0, m9, .inl (fun _ => 0)))) l1 = .inr (12, fs12)) (h14 : l1 < ((n + 1) + 1)) (h15 : 67 < fs12.length) (h17 : ¬ 2000 < (0 : Int32) ∧ Int32.toNatClampNeg 2000 = m16 ∧ m16 ≤ 1000000) (h18 : ((n + 1) + 1) + 1 ≤ mi_NC ∧ ((sl + m2) + m9) + m16 ≤ mi_NS) (h20 : (va_up (va_up (va_up (va_up (va_up f n (.inl (3, m2, .inr (.inl (fun _ => 0))))) l1 (.inr (12, fs5.set 64 (.ref n)))) (n + 1) (.inl (0, m9, .inl (fun _ => 0)))) l1 (.inr (12, fs12.set 67 (.ref (n + 1))))) ((n + 1) + 1) (.inl (0, m16, .inl (fun _ => 0)))) l1 = .inr (12, fs19)) (h21 : l1 < (((n + 1) + 1) + 1)) (h22 : 68 < fs19.length) (h23 : mi_W d 136 516 [some (.ref l1)] [] ((((n + 1) + 1) + 1), (((sl + m2) + m9) + m16), (va_up (va_up (va_up (va_up (va_up (va_up f n (.inl (3, m2, .inr (.inl (fun _ => 0))))) l1 (.inr (12, fs5.set 64 (.ref n)))) (n + 1) (.inl (0, m9, .inl (fun _ => 0)))) l1 (.inr (12, fs12.set 67 (.ref (n + 1))))) ((n + 1) + 1) (.inl (0, m16, .inl (fun _ => 0)))) l1 (.inr (12, fs19.set 68 (.ref ((n + 1) + 1)))))) Q) : mi_W d 136 490 [some (.ref l1)] [] (n, sl, f) Q := by
  refine w_aload_n cd_136_490 rfl ?_
  refine w_bipush (v := 16) cd_136_491 (by decide) ?_
  refine w_newarray cd_136_493 rfl h3 h4 ?_
  refine w_putfield (w := .ref n) cd_136_495 (show mt_f 12 190 = some (12, 64) by decide +kernel) h6 h7 ⟨h8, rfl, Or.inr (by decide +kernel)⟩ ?_
  refine w_aload_n cd_136_498 rfl ?_
  refine w_sipush (v := 2000) cd_136_499 (by decide) ?_
  refine w_newarray cd_136_502 rfl h10 h11 ?_
  refine w_putfield (w := .ref (n + 1)) cd_136_504 (show mt_f 12 193 = some (12, 67) by decide +kernel) h13 h14 ⟨h15, rfl, Or.inr (by decide +kernel)⟩ ?_
  refine w_aload_n cd_136_507 rfl ?_
  refine w_sipush (v := 2000) cd_136_508 (by decide) ?_
  refine w_newarray cd_136_511 rfl h17 h18 ?_
  refine w_putfield (w := .ref ((n + 1) + 1)) cd_136_513 (show mt_f 12 196 = some (12, 68) by decide +kernel) h20 h21 ⟨h22, rfl, Or.inr (by decide +kernel)⟩ ?_
  exact h23
theorem b_136_516 {d : Nat} {Q : (Option Value ⊕ Nat) → mi_H → Prop} (n sl : Nat) (f : Nat → mi_C) {l1 : Nat} {m2 : Nat} {fs5 : List Value} {m9 : Nat} {fs12 : List Value} {m16 : Nat} {fs19 : List Value} (h3 : ¬ 2000 < (0 : Int32) ∧ Int32.toNatClampNeg 2000 = m2 ∧ m2 ≤ 1000000) (h4 : n + 1 ≤ mi_NC ∧ sl + m2 ≤ mi_NS) (h6 : (va_up f n (.inl (0, m2, .inl (fun _ => 0)))) l1 = .inr (12, fs5)) (h7 : l1 < (n + 1)) (h8 : 69 < fs5.length) (h10 : ¬ 2000 < (0 : Int32) ∧ Int32.toNatClampNeg 2000 = m9 ∧ m9 ≤ 1000000) (h11 : (n + 1) + 1 ≤ mi_NC ∧ (sl + m2) + m9 ≤ mi_NS) (h13 : (va_up (va_up (va_up f n (.inl (0, m2, .inl (fun _ => 0)))) l1 (.inr (12, fs5.set 69 (.ref n)))) (n + 1) (.inl (0, m9, .inl (fun _ => 0)))) l1 = .inr (12, fs12)) (h14 : l1 < ((n + 1) + 1)) (h15 : 70 < fs12.length) (h17 : ¬ 2000 < (0 : Int32) ∧ Int32.toNatClampNeg 2000 = m16 ∧ m16 ≤ 1000000) (h18 : ((n + 1) + 1) + 1 ≤ mi_NC ∧ ((sl + m2) + m9) + m16 ≤ mi_NS) (h20 : (va_up (va_up (va_up (va_up (va_up f n (.inl (0, m2, .inl (fun _ => 0)))) l1 (.inr (12, fs5.set 69 (.ref n)))) (n + 1) (.inl (0, m9, .inl (fun _ => 0)))) l1 (.inr (12, fs12.set 70 (.ref (n + 1))))) ((n + 1) + 1) (.inl (0, m16, .inl (fun _ => 0)))) l1 = .inr (12, fs19)) (h21 : l1 < (((n + 1) + 1) + 1)) (h22 : 71 < fs19.length) (h23 : mi_W d 136 543 [some (.ref l1)] [] ((((n + 1) + 1) + 1), (((sl + m2) + m9) + m16), (va_up (va_up (va_up (va_up (va_up (va_up f n (.inl (0, m2, .inl (fun _ => 0)))) l1 (.inr (12, fs5.set 69 (.ref n)))) (n + 1) (.inl (0, m9, .inl (fun _ => 0)))) l1 (.inr (12, fs12.set 70 (.ref (n + 1))))) ((n + 1) + 1) (.inl (0, m16, .inl (fun _ => 0)))) l1 (.inr (12, fs19.set 71 (.ref ((n + 1) + 1)))))) Q) : mi_W d 136 516 [some (.ref l1)] [] (n, sl, f) Q := by
  refine w_aload_n cd_136_516 rfl ?_
  refine w_sipush (v := 2000) cd_136_517 (by decide) ?_
  refine w_newarray cd_136_520 rfl h3 h4 ?_
  refine w_putfield (w := .ref n) cd_136_522 (show mt_f 12 199 = some (12, 69) by decide +kernel) h6 h7 ⟨h8, rfl, Or.inr (by decide +kernel)⟩ ?_
  refine w_aload_n cd_136_525 rfl ?_
  refine w_sipush (v := 2000) cd_136_526 (by decide) ?_
  refine w_newarray cd_136_529 rfl h10 h11 ?_
  refine w_putfield (w := .ref (n + 1)) cd_136_531 (show mt_f 12 202 = some (12, 70) by decide +kernel) h13 h14 ⟨h15, rfl, Or.inr (by decide +kernel)⟩ ?_
  refine w_aload_n cd_136_534 rfl ?_
  refine w_sipush (v := 2000) cd_136_535 (by decide) ?_
  refine w_newarray cd_136_538 rfl h17 h18 ?_
  refine w_putfield (w := .ref ((n + 1) + 1)) cd_136_540 (show mt_f 12 205 = some (12, 71) by decide +kernel) h20 h21 ⟨h22, rfl, Or.inr (by decide +kernel)⟩ ?_
  exact h23
theorem b_136_543 {d : Nat} {Q : (Option Value ⊕ Nat) → mi_H → Prop} (n sl : Nat) (f : Nat → mi_C) {l1 : Nat} {m2 : Nat} {fs5 : List Value} {m9 : Nat} {fs12 : List Value} {m16 : Nat} {fs19 : List Value} (h3 : ¬ 2000 < (0 : Int32) ∧ Int32.toNatClampNeg 2000 = m2 ∧ m2 ≤ 1000000) (h4 : n + 1 ≤ mi_NC ∧ sl + m2 ≤ mi_NS) (h6 : (va_up f n (.inl (3, m2, .inr (.inl (fun _ => 0))))) l1 = .inr (12, fs5)) (h7 : l1 < (n + 1)) (h8 : 72 < fs5.length) (h10 : ¬ 2000 < (0 : Int32) ∧ Int32.toNatClampNeg 2000 = m9 ∧ m9 ≤ 1000000) (h11 : (n + 1) + 1 ≤ mi_NC ∧ (sl + m2) + m9 ≤ mi_NS) (h13 : (va_up (va_up (va_up f n (.inl (3, m2, .inr (.inl (fun _ => 0))))) l1 (.inr (12, fs5.set 72 (.ref n)))) (n + 1) (.inl (0, m9, .inl (fun _ => 0)))) l1 = .inr (12, fs12)) (h14 : l1 < ((n + 1) + 1)) (h15 : 76 < fs12.length) (h17 : ¬ 2000 < (0 : Int32) ∧ Int32.toNatClampNeg 2000 = m16 ∧ m16 ≤ 1000000) (h18 : ((n + 1) + 1) + 1 ≤ mi_NC ∧ ((sl + m2) + m9) + m16 ≤ mi_NS) (h20 : (va_up (va_up (va_up (va_up (va_up f n (.inl (3, m2, .inr (.inl (fun _ => 0))))) l1 (.inr (12, fs5.set 72 (.ref n)))) (n + 1) (.inl (0, m9, .inl (fun _ => 0)))) l1 (.inr (12, fs12.set 76 (.ref (n + 1))))) ((n + 1) + 1) (.inl (0, m16, .inl (fun _ => 0)))) l1 = .inr (12, fs19)) (h21 : l1 < (((n + 1) + 1) + 1)) (h22 : 77 < fs19.length) (h23 : mi_W d 136 570 [some (.ref l1)] [] ((((n + 1) + 1) + 1), (((sl + m2) + m9) + m16), (va_up (va_up (va_up (va_up (va_up (va_up f n (.inl (3, m2, .inr (.inl (fun _ => 0))))) l1 (.inr (12, fs5.set 72 (.ref n)))) (n + 1) (.inl (0, m9, .inl (fun _ => 0)))) l1 (.inr (12, fs12.set 76 (.ref (n + 1))))) ((n + 1) + 1) (.inl (0, m16, .inl (fun _ => 0)))) l1 (.inr (12, fs19.set 77 (.ref ((n + 1) + 1)))))) Q) : mi_W d 136 543 [some (.ref l1)] [] (n, sl, f) Q := by
  refine w_aload_n cd_136_543 rfl ?_
  refine w_sipush (v := 2000) cd_136_544 (by decide) ?_
  refine w_newarray cd_136_547 rfl h3 h4 ?_
  refine w_putfield (w := .ref n) cd_136_549 (show mt_f 12 208 = some (12, 72) by decide +kernel) h6 h7 ⟨h8, rfl, Or.inr (by decide +kernel)⟩ ?_
  refine w_aload_n cd_136_552 rfl ?_
  refine w_sipush (v := 2000) cd_136_553 (by decide) ?_
  refine w_newarray cd_136_556 rfl h10 h11 ?_
  refine w_putfield (w := .ref (n + 1)) cd_136_558 (show mt_f 12 211 = some (12, 76) by decide +kernel) h13 h14 ⟨h15, rfl, Or.inr (by decide +kernel)⟩ ?_
  refine w_aload_n cd_136_561 rfl ?_
  refine w_sipush (v := 2000) cd_136_562 (by decide) ?_
  refine w_newarray cd_136_565 rfl h17 h18 ?_
  refine w_putfield (w := .ref ((n + 1) + 1)) cd_136_567 (show mt_f 12 214 = some (12, 77) by decide +kernel) h20 h21 ⟨h22, rfl, Or.inr (by decide +kernel)⟩ ?_
  exact h23
theorem b_136_570 {d : Nat} {Q : (Option Value ⊕ Nat) → mi_H → Prop} (n sl : Nat) (f : Nat → mi_C) {l1 : Nat} {m2 : Nat} {fs5 : List Value} {m9 : Nat} {fs12 : List Value} {m16 : Nat} {fs19 : List Value} (h3 : ¬ 2000 < (0 : Int32) ∧ Int32.toNatClampNeg 2000 = m2 ∧ m2 ≤ 1000000) (h4 : n + 1 ≤ mi_NC ∧ sl + m2 ≤ mi_NS) (h6 : (va_up f n (.inl (0, m2, .inl (fun _ => 0)))) l1 = .inr (12, fs5)) (h7 : l1 < (n + 1)) (h8 : 78 < fs5.length) (h10 : ¬ 2000 < (0 : Int32) ∧ Int32.toNatClampNeg 2000 = m9 ∧ m9 ≤ 1000000) (h11 : (n + 1) + 1 ≤ mi_NC ∧ (sl + m2) + m9 ≤ mi_NS) (h13 : (va_up (va_up (va_up f n (.inl (0, m2, .inl (fun _ => 0)))) l1 (.inr (12, fs5.set 78 (.ref n)))) (n + 1) (.inl (0, m9, .inl (fun _ => 0)))) l1 = .inr (12, fs12)) (h14 : l1 < ((n + 1) + 1)) (h15 : 79 < fs12.length) (h17 : ¬ 2000 < (0 : Int32) ∧ Int32.toNatClampNeg 2000 = m16 ∧ m16 ≤ 1000000) (h18 : ((n + 1) + 1) + 1 ≤ mi_NC ∧ ((sl + m2) + m9) + m16 ≤ mi_NS) (h20 : (va_up (va_up (va_up (va_up (va_up f n (.inl (0, m2, .inl (fun _ => 0)))) l1 (.inr (12, fs5.set 78 (.ref n)))) (n + 1) (.inl (0, m9, .inl (fun _ => 0)))) l1 (.inr (12, fs12.set 79 (.ref (n + 1))))) ((n + 1) + 1) (.inl (3, m16, .inr (.inl (fun _ => 0))))) l1 = .inr (12, fs19)) (h21 : l1 < (((n + 1) + 1) + 1)) (h22 : 80 < fs19.length) (h23 : mi_W d 136 597 [some (.ref l1)] [] ((((n + 1) + 1) + 1), (((sl + m2) + m9) + m16), (va_up (va_up (va_up (va_up (va_up (va_up f n (.inl (0, m2, .inl (fun _ => 0)))) l1 (.inr (12, fs5.set 78 (.ref n)))) (n + 1) (.inl (0, m9, .inl (fun _ => 0)))) l1 (.inr (12, fs12.set 79 (.ref (n + 1))))) ((n + 1) + 1) (.inl (3, m16, .inr (.inl (fun _ => 0))))) l1 (.inr (12, fs19.set 80 (.ref ((n + 1) + 1)))))) Q) : mi_W d 136 570 [some (.ref l1)] [] (n, sl, f) Q := by
  refine w_aload_n cd_136_570 rfl ?_
  refine w_sipush (v := 2000) cd_136_571 (by decide) ?_
  refine w_newarray cd_136_574 rfl h3 h4 ?_
  refine w_putfield (w := .ref n) cd_136_576 (show mt_f 12 217 = some (12, 78) by decide +kernel) h6 h7 ⟨h8, rfl, Or.inr (by decide +kernel)⟩ ?_
  refine w_aload_n cd_136_579 rfl ?_
  refine w_sipush (v := 2000) cd_136_580 (by decide) ?_
  refine w_newarray cd_136_583 rfl h10 h11 ?_
  refine w_putfield (w := .ref (n + 1)) cd_136_585 (show mt_f 12 220 = some (12, 79) by decide +kernel) h13 h14 ⟨h15, rfl, Or.inr (by decide +kernel)⟩ ?_
  refine w_aload_n cd_136_588 rfl ?_
  refine w_sipush (v := 2000) cd_136_589 (by decide) ?_
  refine w_newarray cd_136_592 rfl h17 h18 ?_
  refine w_putfield (w := .ref ((n + 1) + 1)) cd_136_594 (show mt_f 12 223 = some (12, 80) by decide +kernel) h20 h21 ⟨h22, rfl, Or.inr (by decide +kernel)⟩ ?_
  exact h23
theorem b_136_597 {d : Nat} {Q : (Option Value ⊕ Nat) → mi_H → Prop} (n sl : Nat) (f : Nat → mi_C) {l1 : Nat} {m2 : Nat} {fs5 : List Value} {m9 : Nat} {fs12 : List Value} {m16 : Nat} {fs19 : List Value} (h3 : ¬ 2000 < (0 : Int32) ∧ Int32.toNatClampNeg 2000 = m2 ∧ m2 ≤ 1000000) (h4 : n + 1 ≤ mi_NC ∧ sl + m2 ≤ mi_NS) (h6 : (va_up f n (.inl (3, m2, .inr (.inl (fun _ => 0))))) l1 = .inr (12, fs5)) (h7 : l1 < (n + 1)) (h8 : 81 < fs5.length) (h10 : ¬ 2000 < (0 : Int32) ∧ Int32.toNatClampNeg 2000 = m9 ∧ m9 ≤ 1000000) (h11 : (n + 1) + 1 ≤ mi_NC ∧ (sl + m2) + m9 ≤ mi_NS) (h13 : (va_up (va_up (va_up f n (.inl (3, m2, .inr (.inl (fun _ => 0))))) l1 (.inr (12, fs5.set 81 (.ref n)))) (n + 1) (.inl (6, m9, .inr (.inr (.inr (.inr (fun _ => none))))))) l1 = .inr (12, fs12)) (h14 : l1 < ((n + 1) + 1)) (h15 : 82 < fs12.length) (h17 : ¬ 16 < (0 : Int32) ∧ Int32.toNatClampNeg 16 = m16 ∧ m16 ≤ 1000000) (h18 : ((n + 1) + 1) + 1 ≤ mi_NC ∧ ((sl + m2) + m9) + m16 ≤ mi_NS) (h20 : (va_up (va_up (va_up (va_up (va_up f n (.inl (3, m2, .inr (.inl (fun _ => 0))))) l1 (.inr (12, fs5.set 81 (.ref n)))) (n + 1) (.inl (6, m9, .inr (.inr (.inr (.inr (fun _ => none))))))) l1 (.inr (12, fs12.set 82 (.ref (n + 1))))) ((n + 1) + 1) (.inl (0, m16, .inl (fun _ => 0)))) l1 = .inr (12, fs19)) (h21 : l1 < (((n + 1) + 1) + 1)) (h22 : 83 < fs19.length) (h23 : mi_W d 136 624 [some (.ref l1)] [] ((((n + 1) + 1) + 1), (((sl + m2) + m9) + m16), (va_up (va_up (va_up (va_up (va_up (va_up f n (.inl (3, m2, .inr (.inl (fun _ => 0))))) l1 (.inr (12, fs5.set 81 (.ref n)))) (n + 1) (.inl (6, m9, .inr (.inr (.inr (.inr (fun _ => none))))))) l1 (.inr (12, fs12.set 82 (.ref (n + 1))))) ((n + 1) + 1) (.inl (0, m16, .inl (fun _ => 0)))) l1 (.inr (12, fs19.set 83 (.ref ((n + 1) + 1)))))) Q) : mi_W d 136 597 [some (.ref l1)] [] (n, sl, f) Q := by
  refine w_aload_n cd_136_597 rfl ?_
  refine w_sipush (v := 2000) cd_136_598 (by decide) ?_
  refine w_newarray cd_136_601 rfl h3 h4 ?_
  refine w_putfield (w := .ref n) cd_136_603 (show mt_f 12 226 = some (12, 81) by decide +kernel) h6 h7 ⟨h8, rfl, Or.inr (by decide +kernel)⟩ ?_
  refine w_aload_n cd_136_606 rfl ?_
  refine w_sipush (v := 2000) cd_136_607 (by decide) ?_
  refine w_anewarray cd_136_610 (show mt_c 12 144 = some 13 by decide +kernel) (show mt_ka 13 = some 6 from rfl) h10 h11 ?_
  refine w_putfield (w := .ref (n + 1)) cd_136_613 (show mt_f 12 229 = some (12, 82) by decide +kernel) h13 h14 ⟨h15, rfl, Or.inr (by decide +kernel)⟩ ?_
  refine w_aload_n cd_136_616 rfl ?_
  refine w_bipush (v := 16) cd_136_617 (by decide) ?_
  refine w_newarray cd_136_619 rfl h17 h18 ?_
  refine w_putfield (w := .ref ((n + 1) + 1)) cd_136_621 (show mt_f 12 233 = some (12, 83) by decide +kernel) h20 h21 ⟨h22, rfl, Or.inr (by decide +kernel)⟩ ?_
  exact h23
theorem b_136_624 {d : Nat} {Q : (Option Value ⊕ Nat) → mi_H → Prop} (n sl : Nat) (f : Nat → mi_C) {l1 : Nat} {m2 : Nat} {fs5 : List Value} {m9 : Nat} {fs12 : List Value} {m16 : Nat} {fs19 : List Value} (h3 : ¬ 16 < (0 : Int32) ∧ Int32.toNatClampNeg 16 = m2 ∧ m2 ≤ 1000000) (h4 : n + 1 ≤ mi_NC ∧ sl + m2 ≤ mi_NS) (h6 : (va_up f n (.inl (0, m2, .inl (fun _ => 0)))) l1 = .inr (12, fs5)) (h7 : l1 < (n + 1)) (h8 : 84 < fs5.length) (h10 : ¬ 16 < (0 : Int32) ∧ Int32.toNatClampNeg 16 = m9 ∧ m9 ≤ 1000000) (h11 : (n + 1) + 1 ≤ mi_NC ∧ (sl + m2) + m9 ≤ mi_NS) (h13 : (va_up (va_up (va_up f n (.inl (0, m2, .inl (fun _ => 0)))) l1 (.inr (12, fs5.set 84 (.ref n)))) (n + 1) (.inl (0, m9, .inl (fun _ => 0)))) l1 = .inr (12, fs12)) (h14 : l1 < ((n + 1) + 1)) (h15 : 85 < fs12.length) (h17 : ¬ 16 < (0 : Int32) ∧ Int32.toNatClampNeg 16 = m16 ∧ m16 ≤ 1000000) (h18 : ((n + 1) + 1) + 1 ≤ mi_NC ∧ ((sl + m2) + m9) + m16 ≤ mi_NS) (h20 : (va_up (va_up (va_up (va_up (va_up f n (.inl (0, m2, .inl (fun _ => 0)))) l1 (.inr (12, fs5.set 84 (.ref n)))) (n + 1) (.inl (0, m9, .inl (fun _ => 0)))) l1 (.inr (12, fs12.set 85 (.ref (n + 1))))) ((n + 1) + 1) (.inl (0, m16, .inl (fun _ => 0)))) l1 = .inr (12, fs19)) (h21 : l1 < (((n + 1) + 1) + 1)) (h22 : 86 < fs19.length) (h23 : mi_W d 136 648 [some (.ref l1)] [] ((((n + 1) + 1) + 1), (((sl + m2) + m9) + m16), (va_up (va_up (va_up (va_up (va_up (va_up f n (.inl (0, m2, .inl (fun _ => 0)))) l1 (.inr (12, fs5.set 84 (.ref n)))) (n + 1) (.inl (0, m9, .inl (fun _ => 0)))) l1 (.inr (12, fs12.set 85 (.ref (n + 1))))) ((n + 1) + 1) (.inl (0, m16, .inl (fun _ => 0)))) l1 (.inr (12, fs19.set 86 (.ref ((n + 1) + 1)))))) Q) : mi_W d 136 624 [some (.ref l1)] [] (n, sl, f) Q := by
  refine w_aload_n cd_136_624 rfl ?_
  refine w_bipush (v := 16) cd_136_625 (by decide) ?_
  refine w_newarray cd_136_627 rfl h3 h4 ?_
  refine w_putfield (w := .ref n) cd_136_629 (show mt_f 12 236 = some (12, 84) by decide +kernel) h6 h7 ⟨h8, rfl, Or.inr (by decide +kernel)⟩ ?_
  refine w_aload_n cd_136_632 rfl ?_
  refine w_bipush (v := 16) cd_136_633 (by decide) ?_
  refine w_newarray cd_136_635 rfl h10 h11 ?_
  refine w_putfield (w := .ref (n + 1)) cd_136_637 (show mt_f 12 239 = some (12, 85) by decide +kernel) h13 h14 ⟨h15, rfl, Or.inr (by decide +kernel)⟩ ?_
  refine w_aload_n cd_136_640 rfl ?_
  refine w_bipush (v := 16) cd_136_641 (by decide) ?_
  refine w_newarray cd_136_643 rfl h17 h18 ?_
  refine w_putfield (w := .ref ((n + 1) + 1)) cd_136_645 (show mt_f 12 242 = some (12, 86) by decide +kernel) h20 h21 ⟨h22, rfl, Or.inr (by decide +kernel)⟩ ?_
  exact h23
theorem b_136_648 {d : Nat} {Q : (Option Value ⊕ Nat) → mi_H → Prop} (n sl : Nat) (f : Nat → mi_C) {l1 : Nat} {m2 : Nat} {fs5 : List Value} (h3 : ¬ 16 < (0 : Int32) ∧ Int32.toNatClampNeg 16 = m2 ∧ m2 ≤ 1000000) (h4 : n + 1 ≤ mi_NC ∧ sl + m2 ≤ mi_NS) (h6 : (va_up f n (.inl (3, m2, .inr (.inl (fun _ => 0))))) l1 = .inr (12, fs5)) (h7 : l1 < (n + 1)) (h8 : 87 < fs5.length) (h9 : Q (.inl none) ((n + 1), (sl + m2), (va_up (va_up f n (.inl (3, m2, .inr (.inl (fun _ => 0))))) l1 (.inr (12, fs5.set 87 (.ref n)))))) : mi_W d 136 648 [some (.ref l1)] [] (n, sl, f) Q := by
  refine w_aload_n cd_136_648 rfl ?_
  refine w_bipush (v := 16) cd_136_649 (by decide) ?_
  refine w_newarray cd_136_651 rfl h3 h4 ?_
  refine w_putfield (w := .ref n) cd_136_653 (show mt_f 12 245 = some (12, 87) by decide +kernel) h6 h7 ⟨h8, rfl, Or.inr (by decide +kernel)⟩ ?_
  exact w_return cd_136_656 (by decide +kernel) h9
end
