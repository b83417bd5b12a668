section
/-! MarloweHost$Tree.kindOf(I)I -/
set_option maxRecDepth 100000 in
theorem mq_79 : mt_q 79 = my_79 := rfl
set_option maxRecDepth 100000 in
theorem ci_79 : mt_inc 0 my_79.cd = true := by decide +kernel
theorem cd_79_0 : mt_cd 79 0 = some (.aload_n 0) := mt_cd_of (q := (0, .aload_n 0, 1)) mq_79 ci_79 (List.mem_of_getElem? (i := 0) rfl)
theorem cd_79_1 : mt_cd 79 1 = some (.iload_n 1) := mt_cd_of (q := (1, .iload_n 1, 1)) mq_79 ci_79 (List.mem_of_getElem? (i := 1) rfl)
theorem cd_79_2 : mt_cd 79 2 = some (.invokevirtual 60) := mt_cd_of (q := (2, .invokevirtual 60, 3)) mq_79 ci_79 (List.mem_of_getElem? (i := 2) rfl)
theorem cd_79_5 : mt_cd 79 5 = some (.ifCond .eq 12) := mt_cd_of (q := (5, .ifCond .eq 12, 3)) mq_79 ci_79 (List.mem_of_getElem? (i := 3) rfl)
theorem cd_79_8 : mt_cd 79 8 = some (.aload_n 0) := mt_cd_of (q := (8, .aload_n 0, 1)) mq_79 ci_79 (List.mem_of_getElem? (i := 4) rfl)
theorem cd_79_9 : mt_cd 79 9 = some (.getfield 9) := mt_cd_of (q := (9, .getfield 9, 3)) mq_79 ci_79 (List.mem_of_getElem? (i := 5) rfl)
theorem cd_79_12 : mt_cd 79 12 = some (.iload_n 1) := mt_cd_of (q := (12, .iload_n 1, 1)) mq_79 ci_79 (List.mem_of_getElem? (i := 6) rfl)
theorem cd_79_13 : mt_cd 79 13 = some (.iaload) := mt_cd_of (q := (13, .iaload, 1)) mq_79 ci_79 (List.mem_of_getElem? (i := 7) rfl)
theorem cd_79_14 : mt_cd 79 14 = some (.goto 4) := mt_cd_of (q := (14, .goto 4, 3)) mq_79 ci_79 (List.mem_of_getElem? (i := 8) rfl)
theorem cd_79_17 : mt_cd 79 17 = some (.iconst (-1)) := mt_cd_of (q := (17, .iconst (-1), 1)) mq_79 ci_79 (List.mem_of_getElem? (i := 9) rfl)
theorem cd_79_18 : mt_cd 79 18 = some (.ireturn) := mt_cd_of (q := (18, .ireturn, 1)) mq_79 ci_79 (List.mem_of_getElem? (i := 10) rfl)
theorem b_79_0 {d : Nat} {Q : (Option Value ⊕ Nat) → mi_H → Prop} (n sl : Nat) (f : Nat → mi_C) {l1 : Nat} {l2 : Int32} {fs3 : List Value} (h4 : f l1 = .inr (2, fs3)) (h5 : l1 < n) (h6 : mi_W d 80 0 (mi_en 2 [.ref l1, .int l2]) [] (n, sl, f) (mi_Kc d 79 2 [some (.ref l1), some (.int l2)] [] Q)) : mi_W (d + 1) 79 0 [some (.ref l1), some (.int l2)] [] (n, sl, f) Q := by
  refine w_aload_n cd_79_0 rfl ?_
  refine w_iload_n cd_79_1 rfl ?_
  exact w_invokevirtual cd_79_2 (show mt_m 2 60 = some (80, 0) by decide +kernel) (rest := []) rfl (as := [.ref l1, .int l2]) rfl h4 (Or.inl h5) ⟨Nat.le_of_ble_eq_true rfl, Nat.le_of_ble_eq_true rfl, Nat.le_of_ble_eq_true rfl⟩ h6
theorem b_79_5 {d : Nat} {Q : (Option Value ⊕ Nat) → mi_H → Prop} (n sl : Nat) (f : Nat → mi_C) {l1 : Nat} {l2 : Int32} {s3 : Int32} (h4 : s3 = (0 : Int32) → mi_W d 79 17 [some (.ref l1), some (.int l2)] [] (n, sl, f) Q) (h5 : ¬ (s3 = (0 : Int32)) → mi_W d 79 8 [some (.ref l1), some (.int l2)] [] (n, sl, f) Q) : mi_W d 79 5 [some (.ref l1), some (.int l2)] [.int s3] (n, sl, f) Q := by
  exact w_ifeq cd_79_5 (by decide) h4 h5
theorem b_79_8 {d : Nat} {Q : (Option Value ⊕ Nat) → mi_H → Prop} (n sl : Nat) (f : Nat → mi_C) {l1 : Nat} {l2 : Int32} {fs3 : List Value} {x6 : Nat} (m8 i8 : Nat) (g8 : Nat → Int32) (h4 : f l1 = .inr (2, fs3)) (h5 : l1 < n) (h7 : fs3[0]? = some (.ref x6)) (h9 : f x6 = .inl (0, m8, .inl g8)) (h10 : x6 < n ∨ x6 = mi_SC) (h11 : mi_ix l2 m8 i8) (h12 : mi_W d 79 18 [some (.ref l1), some (.int l2)] [.int (g8 i8)] (n, sl, f) Q) : mi_W d 79 8 [some (.ref l1), some (.int l2)] [] (n, sl, f) Q := by
  refine w_aload_n cd_79_8 rfl ?_
  refine w_getfield cd_79_9 (show mt_f 2 9 = some (2, 0) by decide +kernel) h4 h5 h7 ?_
  refine w_iload_n cd_79_12 rfl ?_
  refine w_iaload cd_79_13 h9 h10 h11 ?_
  exact w_goto cd_79_14 (by decide) h12
theorem b_79_17 {d : Nat} {Q : (Option Value ⊕ Nat) → mi_H → Prop} (n sl : Nat) (f : Nat → mi_C) {l1 : Nat} {l2 : Int32} (h3 : mi_W d 79 18 [some (.ref l1), some (.int l2)] [.int (-1)] (n, sl, f) Q) : mi_W d 79 17 [some (.ref l1), some (.int l2)] [] (n, sl, f) Q := by
  refine w_iconst (v := (-1)) cd_79_17 (by decide) ?_
  exact h3
theorem b_79_18 {d : Nat} {Q : (Option Value ⊕ Nat) → mi_H → Prop} (n sl : Nat) (f : Nat → mi_C) {l1 : Nat} {l2 : Int32} {s3 : Int32} (h4 : Q (.inl (some (.int s3))) (n, sl, f)) : mi_W d 79 18 [some (.ref l1), some (.int l2)] [.int s3] (n, sl, f) Q := by
  exact w_ireturn_i cd_79_18 (by decide +kernel) h4
/-! MarloweHost$Tree.has(I)Z -/
set_option maxRecDepth 100000 in
theorem mq_80 : mt_q 80 = my_80 := rfl
set_option maxRecDepth 100000 in
theorem ci_80 : mt_inc 0 my_80.cd = true := by decide +kernel
theorem cd_80_0 : mt_cd 80 0 = some (.iload_n 1) := mt_cd_of (q := (0, .iload_n 1, 1)) mq_80 ci_80 (List.mem_of_getElem? (i := 0) rfl)
theorem cd_80_1 : mt_cd 80 1 = some (.ifCond .lt 15) := mt_cd_of (q := (1, .ifCond .lt 15, 3)) mq_80 ci_80 (List.mem_of_getElem? (i := 1) rfl)
theorem cd_80_4 : mt_cd 80 4 = some (.iload_n 1) := mt_cd_of (q := (4, .iload_n 1, 1)) mq_80 ci_80 (List.mem_of_getElem? (i := 2) rfl)
theorem cd_80_5 : mt_cd 80 5 = some (.aload_n 0) := mt_cd_of (q := (5, .aload_n 0, 1)) mq_80 ci_80 (List.mem_of_getElem? (i := 3) rfl)
theorem cd_80_6 : mt_cd 80 6 = some (.getfield 47) := mt_cd_of (q := (6, .getfield 47, 3)) mq_80 ci_80 (List.mem_of_getElem? (i := 4) rfl)
theorem cd_80_9 : mt_cd 80 9 = some (.if_icmp .ge 7) := mt_cd_of (q := (9, .if_icmp .ge 7, 3)) mq_80 ci_80 (List.mem_of_getElem? (i := 5) rfl)
theorem cd_80_12 : mt_cd 80 12 = some (.iconst 1) := mt_cd_of (q := (12, .iconst 1, 1)) mq_80 ci_80 (List.mem_of_getElem? (i := 6) rfl)
theorem cd_80_13 : mt_cd 80 13 = some (.goto 4) := mt_cd_of (q := (13, .goto 4, 3)) mq_80 ci_80 (List.mem_of_getElem? (i := 7) rfl)
theorem cd_80_16 : mt_cd 80 16 = some (.iconst 0) := mt_cd_of (q := (16, .iconst 0, 1)) mq_80 ci_80 (List.mem_of_getElem? (i := 8) rfl)
theorem cd_80_17 : mt_cd 80 17 = some (.ireturn) := mt_cd_of (q := (17, .ireturn, 1)) mq_80 ci_80 (List.mem_of_getElem? (i := 9) rfl)
theorem b_80_0 {d : Nat} {Q : (Option Value ⊕ Nat) → mi_H → Prop} (n sl : Nat) (f : Nat → mi_C) {l1 : Nat} {l2 : Int32} (h3 : l2 < (0 : Int32) → mi_W d 80 16 [some (.ref l1), some (.int l2)] [] (n, sl, f) Q) (h4 : ¬ (l2 < (0 : Int32)) → mi_W d 80 4 [some (.ref l1), some (.int l2)] [] (n, sl, f) Q) : mi_W d 80 0 [some (.ref l1), some (.int l2)] [] (n, sl, f) Q := by
  refine w_iload_n cd_80_0 rfl ?_
  exact w_iflt cd_80_1 (by decide) h3 h4
theorem b_80_4 {d : Nat} {Q : (Option Value ⊕ Nat) → mi_H → Prop} (n sl : Nat) (f : Nat → mi_C) {l1 : Nat} {l2 : Int32} {fs3 : List Value} {x6 : Int32} (h4 : f l1 = .inr (2, fs3)) (h5 : l1 < n) (h7 : fs3[11]? = some (.int x6)) (h8 : x6 ≤ l2 → mi_W d 80 16 [some (.ref l1), some (.int l2)] [] (n, sl, f) Q) (h9 : ¬ (x6 ≤ l2) → mi_W d 80 12 [some (.ref l1), some (.int l2)] [] (n, sl, f) Q) : mi_W d 80 4 [some (.ref l1), some (.int l2)] [] (n, sl, f) Q := by
  refine w_iload_n cd_80_4 rfl ?_
  refine w_aload_n cd_80_5 rfl ?_
  refine w_getfield cd_80_6 (show mt_f 2 47 = some (2, 11) by decide +kernel) h4 h5 h7 ?_
  exact w_if_icmpge cd_80_9 (by decide) h8 h9
theorem b_80_12 {d : Nat} {Q : (Option Value ⊕ Nat) → mi_H → Prop} (n sl : Nat) (f : Nat → mi_C) {l1 : Nat} {l2 : Int32} (h3 : mi_W d 80 17 [some (.ref l1), some (.int l2)] [.int 1] (n, sl, f) Q) : mi_W d 80 12 [some (.ref l1), some (.int l2)] [] (n, sl, f) Q := by
  refine w_iconst (v := 1) cd_80_12 (by decide) ?_
  exact w_goto cd_80_13 (by decide) h3
theorem b_80_16 {d : Nat} {Q : (Option Value ⊕ Nat) → mi_H → Prop} (n sl : Nat) (f : Nat → mi_C) {l1 : Nat} {l2 : Int32} (h3 : mi_W d 80 17 [some (.ref l1), some (.int l2)] [.int 0] (n, sl, f) Q) : mi_W d 80 16 [some (.ref l1), some (.int l2)] [] (n, sl, f) Q := by
  refine w_iconst (v := 0) cd_80_16 (by decide) ?_
  exact h3
theorem b_80_17 {d : Nat} {Q : (Option Value ⊕ Nat) → mi_H → Prop} (n sl : Nat) (f : Nat → mi_C) {l1 : Nat} {l2 : Int32} {s3 : Int32} (h4 : s3 = 0 ∨ s3 = 1) (h5 : Q (.inl (some (.int s3))) (n, sl, f)) : mi_W d 80 17 [some (.ref l1), some (.int l2)] [.int s3] (n, sl, f) Q := by
  exact w_ireturn_z cd_80_17 (by decide +kernel) h4 h5
/-! MarloweHost$Machine.closeAccount()Z -/
set_option maxRecDepth 100000 in
theorem mq_81 : mt_q 81 = my_81 := rfl
set_option maxRecDepth 100000 in
theorem ci_81 : mt_inc 0 my_81.cd = true := by decide +kernel
theorem cd_81_0 : mt_cd 81 0 = some (.aload_n 0) := mt_cd_of (q := (0, .aload_n 0, 1)) mq_81 ci_81 (List.mem_of_getElem? (i := 0) rfl)
theorem cd_81_1 : mt_cd 81 1 = some (.getfield 29) := mt_cd_of (q := (1, .getfield 29, 3)) mq_81 ci_81 (List.mem_of_getElem? (i := 1) rfl)
theorem cd_81_4 : mt_cd 81 4 = some (.invokevirtual 103) := mt_cd_of (q := (4, .invokevirtual 103, 3)) mq_81 ci_81 (List.mem_of_getElem? (i := 2) rfl)
theorem cd_81_7 : mt_cd 81 7 = some (.istore_n 1) := mt_cd_of (q := (7, .istore_n 1, 1)) mq_81 ci_81 (List.mem_of_getElem? (i := 3) rfl)
theorem cd_81_8 : mt_cd 81 8 = some (.iload_n 1) := mt_cd_of (q := (8, .iload_n 1, 1)) mq_81 ci_81 (List.mem_of_getElem? (i := 4) rfl)
theorem cd_81_9 : mt_cd 81 9 = some (.ifCond .lt 9) := mt_cd_of (q := (9, .ifCond .lt 9, 3)) mq_81 ci_81 (List.mem_of_getElem? (i := 5) rfl)
theorem cd_81_12 : mt_cd 81 12 = some (.iload_n 1) := mt_cd_of (q := (12, .iload_n 1, 1)) mq_81 ci_81 (List.mem_of_getElem? (i := 6) rfl)
theorem cd_81_13 : mt_cd 81 13 = some (.bipush 32) := mt_cd_of (q := (13, .bipush 32, 2)) mq_81 ci_81 (List.mem_of_getElem? (i := 7) rfl)
theorem cd_81_15 : mt_cd 81 15 = some (.if_icmp .lt 5) := mt_cd_of (q := (15, .if_icmp .lt 5, 3)) mq_81 ci_81 (List.mem_of_getElem? (i := 8) rfl)
theorem cd_81_18 : mt_cd 81 18 = some (.iconst 0) := mt_cd_of (q := (18, .iconst 0, 1)) mq_81 ci_81 (List.mem_of_getElem? (i := 9) rfl)
theorem cd_81_19 : mt_cd 81 19 = some (.ireturn) := mt_cd_of (q := (19, .ireturn, 1)) mq_81 ci_81 (List.mem_of_getElem? (i := 10) rfl)
theorem cd_81_20 : mt_cd 81 20 = some (.iload_n 1) := mt_cd_of (q := (20, .iload_n 1, 1)) mq_81 ci_81 (List.mem_of_getElem? (i := 11) rfl)
theorem cd_81_21 : mt_cd 81 21 = some (.iconst 4) := mt_cd_of (q := (21, .iconst 4, 1)) mq_81 ci_81 (List.mem_of_getElem? (i := 12) rfl)
theorem cd_81_22 : mt_cd 81 22 = some (.idiv) := mt_cd_of (q := (22, .idiv, 1)) mq_81 ci_81 (List.mem_of_getElem? (i := 13) rfl)
theorem cd_81_23 : mt_cd 81 23 = some (.istore_n 2) := mt_cd_of (q := (23, .istore_n 2, 1)) mq_81 ci_81 (List.mem_of_getElem? (i := 14) rfl)
theorem cd_81_24 : mt_cd 81 24 = some (.aload_n 0) := mt_cd_of (q := (24, .aload_n 0, 1)) mq_81 ci_81 (List.mem_of_getElem? (i := 15) rfl)
theorem cd_81_25 : mt_cd 81 25 = some (.getfield 12) := mt_cd_of (q := (25, .getfield 12, 3)) mq_81 ci_81 (List.mem_of_getElem? (i := 16) rfl)
theorem cd_81_28 : mt_cd 81 28 = some (.iload_n 2) := mt_cd_of (q := (28, .iload_n 2, 1)) mq_81 ci_81 (List.mem_of_getElem? (i := 17) rfl)
theorem cd_81_29 : mt_cd 81 29 = some (.iload_n 2) := mt_cd_of (q := (29, .iload_n 2, 1)) mq_81 ci_81 (List.mem_of_getElem? (i := 18) rfl)
theorem cd_81_30 : mt_cd 81 30 = some (.iload_n 1) := mt_cd_of (q := (30, .iload_n 1, 1)) mq_81 ci_81 (List.mem_of_getElem? (i := 19) rfl)
theorem cd_81_31 : mt_cd 81 31 = some (.iconst 4) := mt_cd_of (q := (31, .iconst 4, 1)) mq_81 ci_81 (List.mem_of_getElem? (i := 20) rfl)
theorem cd_81_32 : mt_cd 81 32 = some (.irem) := mt_cd_of (q := (32, .irem, 1)) mq_81 ci_81 (List.mem_of_getElem? (i := 21) rfl)
theorem cd_81_33 : mt_cd 81 33 = some (.aload_n 0) := mt_cd_of (q := (33, .aload_n 0, 1)) mq_81 ci_81 (List.mem_of_getElem? (i := 22) rfl)
theorem cd_81_34 : mt_cd 81 34 = some (.getfield 29) := mt_cd_of (q := (34, .getfield 29, 3)) mq_81 ci_81 (List.mem_of_getElem? (i := 23) rfl)
theorem cd_81_37 : mt_cd 81 37 = some (.getfield 147) := mt_cd_of (q := (37, .getfield 147, 3)) mq_81 ci_81 (List.mem_of_getElem? (i := 24) rfl)
theorem cd_81_40 : mt_cd 81 40 = some (.iload_n 1) := mt_cd_of (q := (40, .iload_n 1, 1)) mq_81 ci_81 (List.mem_of_getElem? (i := 25) rfl)
theorem cd_81_41 : mt_cd 81 41 = some (.laload) := mt_cd_of (q := (41, .laload, 1)) mq_81 ci_81 (List.mem_of_getElem? (i := 26) rfl)
theorem cd_81_42 : mt_cd 81 42 = some (.invokevirtual 150) := mt_cd_of (q := (42, .invokevirtual 150, 3)) mq_81 ci_81 (List.mem_of_getElem? (i := 27) rfl)
theorem cd_81_45 : mt_cd 81 45 = some (.aload_n 0) := mt_cd_of (q := (45, .aload_n 0, 1)) mq_81 ci_81 (List.mem_of_getElem? (i := 28) rfl)
theorem cd_81_46 : mt_cd 81 46 = some (.getfield 29) := mt_cd_of (q := (46, .getfield 29, 3)) mq_81 ci_81 (List.mem_of_getElem? (i := 29) rfl)
theorem cd_81_49 : mt_cd 81 49 = some (.getfield 147) := mt_cd_of (q := (49, .getfield 147, 3)) mq_81 ci_81 (List.mem_of_getElem? (i := 30) rfl)
theorem cd_81_52 : mt_cd 81 52 = some (.iload_n 1) := mt_cd_of (q := (52, .iload_n 1, 1)) mq_81 ci_81 (List.mem_of_getElem? (i := 31) rfl)
theorem cd_81_53 : mt_cd 81 53 = some (.lconst 0) := mt_cd_of (q := (53, .lconst 0, 1)) mq_81 ci_81 (List.mem_of_getElem? (i := 32) rfl)
theorem cd_81_54 : mt_cd 81 54 = some (.lastore) := mt_cd_of (q := (54, .lastore, 1)) mq_81 ci_81 (List.mem_of_getElem? (i := 33) rfl)
theorem cd_81_55 : mt_cd 81 55 = some (.iconst 1) := mt_cd_of (q := (55, .iconst 1, 1)) mq_81 ci_81 (List.mem_of_getElem? (i := 34) rfl)
theorem cd_81_56 : mt_cd 81 56 = some (.ireturn) := mt_cd_of (q := (56, .ireturn, 1)) mq_81 ci_81 (List.mem_of_getElem? (i := 35) rfl)
theorem b_81_0 {d : Nat} {Q : (Option Value ⊕ Nat) → mi_H → Prop} (n sl : Nat) (f : Nat → mi_C) {l1 : Nat} {o2 : Option Value} {o3 : Option Value} {fs4 : List Value} {x7 : Nat} {fs9 : List Value} (h5 : f l1 = .inr (7, fs4)) (h6 : l1 < n) (h8 : fs4[3]? = some (.ref x7)) (h10 : f x7 = .inr (9, fs9)) (h11 : x7 < n) (h12 : mi_W d 82 0 (mi_en 2 [.ref x7]) [] (n, sl, f) (mi_Kc d 81 4 [some (.ref l1), o2, o3] [] Q)) : mi_W (d + 1) 81 0 [some (.ref l1), o2, o3] [] (n, sl, f) Q := by
  refine w_aload_n cd_81_0 rfl ?_
  refine w_getfield cd_81_1 (show mt_f 7 29 = some (7, 3) by decide +kernel) h5 h6 h8 ?_
  exact w_invokevirtual cd_81_4 (show mt_m 7 103 = some (82, 0) by decide +kernel) (rest := []) rfl (as := [.ref x7]) rfl h10 (Or.inl h11) ⟨Nat.le_of_ble_eq_true rfl, Nat.le_of_ble_eq_true rfl, Nat.le_of_ble_eq_true rfl⟩ h12
theorem b_81_7 {d : Nat} {Q : (Option Value ⊕ Nat) → mi_H → Prop} (n sl : Nat) (f : Nat → mi_C) {l1 : Nat} {o2 : Option Value} {o3 : Option Value} {s4 : Int32} (h5 : s4 < (0 : Int32) → mi_W d 81 18 [some (.ref l1), some (.int s4), o3] [] (n, sl, f) Q) (h6 : ¬ (s4 < (0 : Int32)) → mi_W d 81 12 [some (.ref l1), some (.int s4), o3] [] (n, sl, f) Q) : mi_W d 81 7 [some (.ref l1), o2, o3] [.int s4] (n, sl, f) Q := by
  refine w_istore_n (ls' := [some (.ref l1), some (.int s4), o3]) cd_81_7 (Nat.le_of_ble_eq_true rfl) rfl ?_
  refine w_iload_n cd_81_8 rfl ?_
  exact w_iflt cd_81_9 (by decide) h5 h6
theorem b_81_12 {d : Nat} {Q : (Option Value ⊕ Nat) → mi_H → Prop} (n sl : Nat) (f : Nat → mi_C) {l1 : Nat} {l2 : Int32} {o3 : Option Value} (h4 : l2 < 32 → mi_W d 81 20 [some (.ref l1), some (.int l2), o3] [] (n, sl, f) Q) (h5 : ¬ (l2 < 32) → mi_W d 81 18 [some (.ref l1), some (.int l2), o3] [] (n, sl, f) Q) : mi_W d 81 12 [some (.ref l1), some (.int l2), o3] [] (n, sl, f) Q := by
  refine w_iload_n cd_81_12 rfl ?_
  refine w_bipush (v := 32) cd_81_13 (by decide) ?_
  exact w_if_icmplt cd_81_15 (by decide) h4 h5
theorem b_81_18 {d : Nat} {Q : (Option Value ⊕ Nat) → mi_H → Prop} (n sl : Nat) (f : Nat → mi_C) {l1 : Nat} {l2 : Int32} {o3 : Option Value} (h4 : Q (.inl (some (.int 0))) (n, sl, f)) : mi_W d 81 18 [some (.ref l1), some (.int l2), o3] [] (n, sl, f) Q := by
  refine w_iconst (v := 0) cd_81_18 (by decide) ?_
  exact w_ireturn_z cd_81_19 (by decide +kernel) (by decide) h4
theorem b_81_20 {d : Nat} {Q : (Option Value ⊕ Nat) → mi_H → Prop} (n sl : Nat) (f : Nat → mi_C) {l1 : Nat} {l2 : Int32} {o3 : Option Value} {fs4 : List Value} {x7 : Nat} {fs9 : List Value} {x12 : Nat} {fs14 : List Value} {x17 : Nat} (m19 i19 : Nat) (g19 : Nat → Int64) {fs23 : List Value} (h5 : f l1 = .inr (7, fs4)) (h6 : l1 < n) (h8 : fs4[7]? = some (.ref x7)) (h10 : f l1 = .inr (7, fs9)) (h11 : l1 < n) (h13 : fs9[3]? = some (.ref x12)) (h15 : f x12 = .inr (9, fs14)) (h16 : x12 < n) (h18 : fs14[2]? = some (.ref x17)) (h20 : f x17 = .inl (3, m19, .inr (.inl g19))) (h21 : x17 < n) (h22 : mi_ix l2 m19 i19) (h24 : f x7 = .inr (8, fs23)) (h25 : x7 < n) (h26 : mi_W d 83 0 (mi_en 6 [.ref x7, .int (l2 / 4), .int (l2 / 4), .int (l2 - l2 / 4 * 4), .long (g19 i19)]) [] (n, sl, f) (mi_Kc d 81 42 [some (.ref l1), some (.int l2), some (.int (l2 / 4))] [] Q)) : mi_W (d + 1) 81 20 [some (.ref l1), some (.int l2), o3] [] (n, sl, f) Q := by
  refine w_iload_n cd_81_20 rfl ?_
  refine w_iconst (v := 4) cd_81_21 (by decide) ?_
  refine w_idiv cd_81_22 (by decide) ?_
  refine w_istore_n (ls' := [some (.ref l1), some (.int l2), some (.int (l2 / 4))]) cd_81_23 (Nat.le_of_ble_eq_true rfl) rfl ?_
  refine w_aload_n cd_81_24 rfl ?_
  refine w_getfield cd_81_25 (show mt_f 7 12 = some (7, 7) by decide +kernel) h5 h6 h8 ?_
  refine w_iload_n cd_81_28 rfl ?_
  refine w_iload_n cd_81_29 rfl ?_
  refine w_iload_n cd_81_30 rfl ?_
  refine w_iconst (v := 4) cd_81_31 (by decide) ?_
  refine w_irem cd_81_32 (by decide) ?_
  refine w_aload_n cd_81_33 rfl ?_
  refine w_getfield cd_81_34 (show mt_f 7 29 = some (7, 3) by decide +kernel) h10 h11 h13 ?_
  refine w_getfield cd_81_37 (show mt_f 7 147 = some (9, 2) by decide +kernel) h15 h16 h18 ?_
  refine w_iload_n cd_81_40 rfl ?_
  refine w_laload cd_81_41 h20 h21 h22 ?_
  exact w_invokevirtual cd_81_42 (show mt_m 7 150 = some (83, 0) by decide +kernel) (rest := []) rfl (as := [.ref x7, .int (l2 / 4), .int (l2 / 4), .int (l2 - l2 / 4 * 4), .long (g19 i19)]) rfl h24 (Or.inl h25) ⟨Nat.le_of_ble_eq_true rfl, Nat.le_of_ble_eq_true rfl, Nat.le_of_ble_eq_true rfl⟩ h26
theorem b_81_45 {d : Nat} {Q : (Option Value ⊕ Nat) → mi_H → Prop} (n sl : Nat) (f : Nat → mi_C) {l1 : Nat} {l2 : Int32} {l3 : Int32} {fs4 : List Value} {x7 : Nat} {fs9 : List Value} {x12 : Nat} (m14 i14 : Nat) (g14 : Nat → Int64) (h5 : f l1 = .inr (7, fs4)) (h6 : l1 < n) (h8 : fs4[3]? = some (.ref x7)) (h10 : f x7 = .inr (9, fs9)) (h11 : x7 < n) (h13 : fs9[2]? = some (.ref x12)) (h15 : f x12 = .inl (3, m14, .inr (.inl g14))) (h16 : x12 < n) (h17 : mi_ix l2 m14 i14) (h18 : Q (.inl (some (.int 1))) (n, sl, (va_up f x12 (.inl (3, m14, .inr (.inl (vp_updL g14 i14 0))))))) : mi_W d 81 45 [some (.ref l1), some (.int l2), some (.int l3)] [] (n, sl, f) Q := by
  refine w_aload_n cd_81_45 rfl ?_
  refine w_getfield cd_81_46 (show mt_f 7 29 = some (7, 3) by decide +kernel) h5 h6 h8 ?_
  refine w_getfield cd_81_49 (show mt_f 7 147 = some (9, 2) by decide +kernel) h10 h11 h13 ?_
  refine w_iload_n cd_81_52 rfl ?_
  refine w_lconst (lv := 0) cd_81_53 (by decide) ?_
  refine w_lastore cd_81_54 h15 h16 h17 ?_
  refine w_iconst (v := 1) cd_81_55 (by decide) ?_
  exact w_ireturn_z cd_81_56 (by decide +kernel) (by decide) h18
/-! MarloweHost$Situation.firstFilled()I -/
set_option maxRecDepth 100000 in
theorem mq_82 : mt_q 82 = my_82 := rfl
set_option maxRecDepth 100000 in
theorem ci_82 : mt_inc 0 my_82.cd = true := by decide +kernel
theorem cd_82_0 : mt_cd 82 0 = some (.iconst 0) := mt_cd_of (q := (0, .iconst 0, 1)) mq_82 ci_82 (List.mem_of_getElem? (i := 0) rfl)
theorem cd_82_1 : mt_cd 82 1 = some (.istore_n 1) := mt_cd_of (q := (1, .istore_n 1, 1)) mq_82 ci_82 (List.mem_of_getElem? (i := 1) rfl)
theorem cd_82_2 : mt_cd 82 2 = some (.iload_n 1) := mt_cd_of (q := (2, .iload_n 1, 1)) mq_82 ci_82 (List.mem_of_getElem? (i := 2) rfl)
theorem cd_82_3 : mt_cd 82 3 = some (.bipush 32) := mt_cd_of (q := (3, .bipush 32, 2)) mq_82 ci_82 (List.mem_of_getElem? (i := 3) rfl)
theorem cd_82_5 : mt_cd 82 5 = some (.if_icmp .ge 22) := mt_cd_of (q := (5, .if_icmp .ge 22, 3)) mq_82 ci_82 (List.mem_of_getElem? (i := 4) rfl)
theorem cd_82_8 : mt_cd 82 8 = some (.aload_n 0) := mt_cd_of (q := (8, .aload_n 0, 1)) mq_82 ci_82 (List.mem_of_getElem? (i := 5) rfl)
theorem cd_82_9 : mt_cd 82 9 = some (.getfield 9) := mt_cd_of (q := (9, .getfield 9, 3)) mq_82 ci_82 (List.mem_of_getElem? (i := 6) rfl)
theorem cd_82_12 : mt_cd 82 12 = some (.iload_n 1) := mt_cd_of (q := (12, .iload_n 1, 1)) mq_82 ci_82 (List.mem_of_getElem? (i := 7) rfl)
theorem cd_82_13 : mt_cd 82 13 = some (.laload) := mt_cd_of (q := (13, .laload, 1)) mq_82 ci_82 (List.mem_of_getElem? (i := 8) rfl)
theorem cd_82_14 : mt_cd 82 14 = some (.lconst 0) := mt_cd_of (q := (14, .lconst 0, 1)) mq_82 ci_82 (List.mem_of_getElem? (i := 9) rfl)
theorem cd_82_15 : mt_cd 82 15 = some (.lcmp) := mt_cd_of (q := (15, .lcmp, 1)) mq_82 ci_82 (List.mem_of_getElem? (i := 10) rfl)
theorem cd_82_16 : mt_cd 82 16 = some (.ifCond .eq 5) := mt_cd_of (q := (16, .ifCond .eq 5, 3)) mq_82 ci_82 (List.mem_of_getElem? (i := 11) rfl)
theorem cd_82_19 : mt_cd 82 19 = some (.iload_n 1) := mt_cd_of (q := (19, .iload_n 1, 1)) mq_82 ci_82 (List.mem_of_getElem? (i := 12) rfl)
theorem cd_82_20 : mt_cd 82 20 = some (.ireturn) := mt_cd_of (q := (20, .ireturn, 1)) mq_82 ci_82 (List.mem_of_getElem? (i := 13) rfl)
theorem cd_82_21 : mt_cd 82 21 = some (.iinc 1 1) := mt_cd_of (q := (21, .iinc 1 1, 3)) mq_82 ci_82 (List.mem_of_getElem? (i := 14) rfl)
theorem cd_82_24 : mt_cd 82 24 = some (.goto (-22)) := mt_cd_of (q := (24, .goto (-22), 3)) mq_82 ci_82 (List.mem_of_getElem? (i := 15) rfl)
theorem cd_82_27 : mt_cd 82 27 = some (.iconst (-1)) := mt_cd_of (q := (27, .iconst (-1), 1)) mq_82 ci_82 (List.mem_of_getElem? (i := 16) rfl)
theorem cd_82_28 : mt_cd 82 28 = some (.ireturn) := mt_cd_of (q := (28, .ireturn, 1)) mq_82 ci_82 (List.mem_of_getElem? (i := 17) rfl)
theorem b_82_0 {d : Nat} {Q : (Option Value ⊕ Nat) → mi_H → Prop} (n sl : Nat) (f : Nat → mi_C) {l1 : Nat} {o2 : Option Value} (h3 : mi_W d 82 2 [some (.ref l1), some (.int 0)] [] (n, sl, f) Q) : mi_W d 82 0 [some (.ref l1), o2] [] (n, sl, f) Q := by
  refine w_iconst (v := 0) cd_82_0 (by decide) ?_
  refine w_istore_n (ls' := [some (.ref l1), some (.int 0)]) cd_82_1 (Nat.le_of_ble_eq_true rfl) rfl ?_
  exact h3
theorem b_82_2 {d : Nat} {Q : (Option Value ⊕ Nat) → mi_H → Prop} (n sl : Nat) (f : Nat → mi_C) {l1 : Nat} {l2 : Int32} (h3 : 32 ≤ l2 → mi_W d 82 27 [some (.ref l1), some (.int l2)] [] (n, sl, f) Q) (h4 : ¬ (32 ≤ l2) → mi_W d 82 8 [some (.ref l1), some (.int l2)] [] (n, sl, f) Q) : mi_W d 82 2 [some (.ref l1), some (.int l2)] [] (n, sl, f) Q := by
  refine w_iload_n cd_82_2 rfl ?_
  refine w_bipush (v := 32) cd_82_3 (by decide) ?_
  exact w_if_icmpge cd_82_5 (by decide) h3 h4
theorem b_82_8 {d : Nat} {Q : (Option Value ⊕ Nat) → mi_H → Prop} (n sl : Nat) (f : Nat → mi_C) {l1 : Nat} {l2 : Int32} {fs3 : List Value} {x6 : Nat} (m8 i8 : Nat) (g8 : Nat → Int64) (h4 : f l1 = .inr (9, fs3)) (h5 : l1 < n) (h7 : fs3[2]? = some (.ref x6)) (h9 : f x6 = .inl (3, m8, .inr (.inl g8))) (h10 : x6 < n) (h11 : mi_ix l2 m8 i8) (h12 : (lg_cmp (g8 i8) 0) = (0 : Int32) → mi_W d 82 21 [some (.ref l1), some (.int l2)] [] (n, sl, f) Q) (h13 : ¬ ((lg_cmp (g8 i8) 0) = (0 : Int32)) → mi_W d 82 19 [some (.ref l1), some (.int l2)] [] (n, sl, f) Q) : mi_W d 82 8 [some (.ref l1), some (.int l2)] [] (n, sl, f) Q := by
  refine w_aload_n cd_82_8 rfl ?_
  refine w_getfield cd_82_9 (show mt_f 9 9 = some (9, 2) by decide +kernel) h4 h5 h7 ?_
  refine w_iload_n cd_82_12 rfl ?_
  refine w_laload cd_82_13 h9 h10 h11 ?_
  refine w_lconst (lv := 0) cd_82_14 (by decide) ?_
  refine w_lcmp cd_82_15 ?_
  exact w_ifeq cd_82_16 (by decide) h12 h13
theorem b_82_19 {d : Nat} {Q : (Option Value ⊕ Nat) → mi_H → Prop} (n sl : Nat) (f : Nat → mi_C) {l1 : Nat} {l2 : Int32} (h3 : Q (.inl (some (.int l2))) (n, sl, f)) : mi_W d 82 19 [some (.ref l1), some (.int l2)] [] (n, sl, f) Q := by
  refine w_iload_n cd_82_19 rfl ?_
  exact w_ireturn_i cd_82_20 (by decide +kernel) h3
theorem b_82_21 {d : Nat} {Q : (Option Value ⊕ Nat) → mi_H → Prop} (n sl : Nat) (f : Nat → mi_C) {l1 : Nat} {l2 : Int32} (h3 : mi_W d 82 2 [some (.ref l1), some (.int (l2 + 1))] [] (n, sl, f) Q) : mi_W d 82 21 [some (.ref l1), some (.int l2)] [] (n, sl, f) Q := by
  refine w_iinc (v := 1) (ls' := [some (.ref l1), some (.int (l2 + 1))]) cd_82_21 rfl (by decide) rfl ?_
  exact w_goto cd_82_24 (by decide) h3
theorem b_82_27 {d : Nat} {Q : (Option Value ⊕ Nat) → mi_H → Prop} (n sl : Nat) (f : Nat → mi_C) {l1 : Nat} {l2 : Int32} (h3 : Q (.inl (some (.int (-1)))) (n, sl, f)) : mi_W d 82 27 [some (.ref l1), some (.int l2)] [] (n, sl, f) Q := by
  refine w_iconst (v := (-1)) cd_82_27 (by decide) ?_
  exact w_ireturn_i cd_82_28 (by decide +kernel) h3
/-! MarloweHost$Events.pay(IIIJ)V -/
set_option maxRecDepth 100000 in
theorem mq_83 : mt_q 83 = my_83 := rfl
set_option maxRecDepth 100000 in
theorem ci_83 : mt_inc 0 my_83.cd = true := by decide +kernel
theorem cd_83_0 : mt_cd 83 0 = some (.aload_n 0) := mt_cd_of (q := (0, .aload_n 0, 1)) mq_83 ci_83 (List.mem_of_getElem? (i := 0) rfl)
theorem cd_83_1 : mt_cd 83 1 = some (.getfield 35) := mt_cd_of (q := (1, .getfield 35, 3)) mq_83 ci_83 (List.mem_of_getElem? (i := 1) rfl)
theorem cd_83_4 : mt_cd 83 4 = some (.ifCond .lt 64) := mt_cd_of (q := (4, .ifCond .lt 64, 3)) mq_83 ci_83 (List.mem_of_getElem? (i := 2) rfl)
theorem cd_83_7 : mt_cd 83 7 = some (.aload_n 0) := mt_cd_of (q := (7, .aload_n 0, 1)) mq_83 ci_83 (List.mem_of_getElem? (i := 3) rfl)
theorem cd_83_8 : mt_cd 83 8 = some (.getfield 35) := mt_cd_of (q := (8, .getfield 35, 3)) mq_83 ci_83 (List.mem_of_getElem? (i := 4) rfl)
theorem cd_83_11 : mt_cd 83 11 = some (.sipush 148) := mt_cd_of (q := (11, .sipush 148, 3)) mq_83 ci_83 (List.mem_of_getElem? (i := 5) rfl)
theorem cd_83_14 : mt_cd 83 14 = some (.if_icmp .ge 54) := mt_cd_of (q := (14, .if_icmp .ge 54, 3)) mq_83 ci_83 (List.mem_of_getElem? (i := 6) rfl)
theorem cd_83_17 : mt_cd 83 17 = some (.aload_n 0) := mt_cd_of (q := (17, .aload_n 0, 1)) mq_83 ci_83 (List.mem_of_getElem? (i := 7) rfl)
theorem cd_83_18 : mt_cd 83 18 = some (.getfield 18) := mt_cd_of (q := (18, .getfield 18, 3)) mq_83 ci_83 (List.mem_of_getElem? (i := 8) rfl)
theorem cd_83_21 : mt_cd 83 21 = some (.aload_n 0) := mt_cd_of (q := (21, .aload_n 0, 1)) mq_83 ci_83 (List.mem_of_getElem? (i := 9) rfl)
theorem cd_83_22 : mt_cd 83 22 = some (.getfield 35) := mt_cd_of (q := (22, .getfield 35, 3)) mq_83 ci_83 (List.mem_of_getElem? (i := 10) rfl)
theorem cd_83_25 : mt_cd 83 25 = some (.iload_n 1) := mt_cd_of (q := (25, .iload_n 1, 1)) mq_83 ci_83 (List.mem_of_getElem? (i := 11) rfl)
theorem cd_83_26 : mt_cd 83 26 = some (.iastore) := mt_cd_of (q := (26, .iastore, 1)) mq_83 ci_83 (List.mem_of_getElem? (i := 12) rfl)
theorem cd_83_27 : mt_cd 83 27 = some (.aload_n 0) := mt_cd_of (q := (27, .aload_n 0, 1)) mq_83 ci_83 (List.mem_of_getElem? (i := 13) rfl)
theorem cd_83_28 : mt_cd 83 28 = some (.getfield 21) := mt_cd_of (q := (28, .getfield 21, 3)) mq_83 ci_83 (List.mem_of_getElem? (i := 14) rfl)
theorem cd_83_31 : mt_cd 83 31 = some (.aload_n 0) := mt_cd_of (q := (31, .aload_n 0, 1)) mq_83 ci_83 (List.mem_of_getElem? (i := 15) rfl)
theorem cd_83_32 : mt_cd 83 32 = some (.getfield 35) := mt_cd_of (q := (32, .getfield 35, 3)) mq_83 ci_83 (List.mem_of_getElem? (i := 16) rfl)
theorem cd_83_35 : mt_cd 83 35 = some (.iload_n 2) := mt_cd_of (q := (35, .iload_n 2, 1)) mq_83 ci_83 (List.mem_of_getElem? (i := 17) rfl)
theorem cd_83_36 : mt_cd 83 36 = some (.iastore) := mt_cd_of (q := (36, .iastore, 1)) mq_83 ci_83 (List.mem_of_getElem? (i := 18) rfl)
theorem cd_83_37 : mt_cd 83 37 = some (.aload_n 0) := mt_cd_of (q := (37, .aload_n 0, 1)) mq_83 ci_83 (List.mem_of_getElem? (i := 19) rfl)
theorem cd_83_38 : mt_cd 83 38 = some (.getfield 24) := mt_cd_of (q := (38, .getfield 24, 3)) mq_83 ci_83 (List.mem_of_getElem? (i := 20) rfl)
theorem cd_83_41 : mt_cd 83 41 = some (.aload_n 0) := mt_cd_of (q := (41, .aload_n 0, 1)) mq_83 ci_83 (List.mem_of_getElem? (i := 21) rfl)
theorem cd_83_42 : mt_cd 83 42 = some (.getfield 35) := mt_cd_of (q := (42, .getfield 35, 3)) mq_83 ci_83 (List.mem_of_getElem? (i := 22) rfl)
theorem cd_83_45 : mt_cd 83 45 = some (.iload_n 3) := mt_cd_of (q := (45, .iload_n 3, 1)) mq_83 ci_83 (List.mem_of_getElem? (i := 23) rfl)
theorem cd_83_46 : mt_cd 83 46 = some (.iastore) := mt_cd_of (q := (46, .iastore, 1)) mq_83 ci_83 (List.mem_of_getElem? (i := 24) rfl)
theorem cd_83_47 : mt_cd 83 47 = some (.aload_n 0) := mt_cd_of (q := (47, .aload_n 0, 1)) mq_83 ci_83 (List.mem_of_getElem? (i := 25) rfl)
theorem cd_83_48 : mt_cd 83 48 = some (.getfield 27) := mt_cd_of (q := (48, .getfield 27, 3)) mq_83 ci_83 (List.mem_of_getElem? (i := 26) rfl)
theorem cd_83_51 : mt_cd 83 51 = some (.aload_n 0) := mt_cd_of (q := (51, .aload_n 0, 1)) mq_83 ci_83 (List.mem_of_getElem? (i := 27) rfl)
theorem cd_83_52 : mt_cd 83 52 = some (.getfield 35) := mt_cd_of (q := (52, .getfield 35, 3)) mq_83 ci_83 (List.mem_of_getElem? (i := 28) rfl)
theorem cd_83_55 : mt_cd 83 55 = some (.lload 4) := mt_cd_of (q := (55, .lload 4, 2)) mq_83 ci_83 (List.mem_of_getElem? (i := 29) rfl)
theorem cd_83_57 : mt_cd 83 57 = some (.lastore) := mt_cd_of (q := (57, .lastore, 1)) mq_83 ci_83 (List.mem_of_getElem? (i := 30) rfl)
theorem cd_83_58 : mt_cd 83 58 = some (.aload_n 0) := mt_cd_of (q := (58, .aload_n 0, 1)) mq_83 ci_83 (List.mem_of_getElem? (i := 31) rfl)
theorem cd_83_59 : mt_cd 83 59 = some (.dup) := mt_cd_of (q := (59, .dup, 1)) mq_83 ci_83 (List.mem_of_getElem? (i := 32) rfl)
theorem cd_83_60 : mt_cd 83 60 = some (.getfield 35) := mt_cd_of (q := (60, .getfield 35, 3)) mq_83 ci_83 (List.mem_of_getElem? (i := 33) rfl)
theorem cd_83_63 : mt_cd 83 63 = some (.iconst 1) := mt_cd_of (q := (63, .iconst 1, 1)) mq_83 ci_83 (List.mem_of_getElem? (i := 34) rfl)
theorem cd_83_64 : mt_cd 83 64 = some (.iadd) := mt_cd_of (q := (64, .iadd, 1)) mq_83 ci_83 (List.mem_of_getElem? (i := 35) rfl)
theorem cd_83_65 : mt_cd 83 65 = some (.putfield 35) := mt_cd_of (q := (65, .putfield 35, 3)) mq_83 ci_83 (List.mem_of_getElem? (i := 36) rfl)
theorem cd_83_68 : mt_cd 83 68 = some (.return_) := mt_cd_of (q := (68, .return_, 1)) mq_83 ci_83 (List.mem_of_getElem? (i := 37) rfl)
theorem b_83_0 {d : Nat} {Q : (Option Value ⊕ Nat) → mi_H → Prop} (n sl : Nat) (f : Nat → mi_C) {l1 : Nat} {l2 : Int32} {l3 : Int32} {l4 : Int32} {l5 : Int64} {fs6 : List Value} {x9 : Int32} (h7 : f l1 = .inr (8, fs6)) (h8 : l1 < n) (h10 : fs6[7]? = some (.int x9)) (h11 : x9 < (0 : Int32) → mi_W d 83 68 [some (.ref l1), some (.int l2), some (.int l3), some (.int l4), some (.long l5), none] [] (n, sl, f) Q) (h12 : ¬ (x9 < (0 : Int32)) → mi_W d 83 7 [some (.ref l1), some (.int l2), some (.int l3), some (.int l4), some (.long l5), none] [] (n, sl, f) Q) : mi_W d 83 0 [some (.ref l1), some (.int l2), some (.int l3), some (.int l4), some (.long l5), none] [] (n, sl, f) Q := by
  refine w_aload_n cd_83_0 rfl ?_
  refine w_getfield cd_83_1 (show mt_f 8 35 = some (8, 7) by decide +kernel) h7 h8 h10 ?_
  exact w_iflt cd_83_4 (by decide) h11 h12
theorem b_83_7 {d : Nat} {Q : (Option Value ⊕ Nat) → mi_H → Prop} (n sl : Nat) (f : Nat → mi_C) {l1 : Nat} {l2 : Int32} {l3 : Int32} {l4 : Int32} {l5 : Int64} {fs6 : List Value} {x9 : Int32} (h7 : f l1 = .inr (8, fs6)) (h8 : l1 < n) (h10 : fs6[7]? = some (.int x9)) (h11 : 148 ≤ x9 → mi_W d 83 68 [some (.ref l1), some (.int l2), some (.int l3), some (.int l4), some (.long l5), none] [] (n, sl, f) Q) (h12 : ¬ (148 ≤ x9) → mi_W d 83 17 [some (.ref l1), some (.int l2), some (.int l3), some (.int l4), some (.long l5), none] [] (n, sl, f) Q) : mi_W d 83 7 [some (.ref l1), some (.int l2), some (.int l3), some (.int l4), some (.long l5), none] [] (n, sl, f) Q := by
  refine w_aload_n cd_83_7 rfl ?_
  refine w_getfield cd_83_8 (show mt_f 8 35 = some (8, 7) by decide +kernel) h7 h8 h10 ?_
  refine w_sipush (v := 148) cd_83_11 (by decide) ?_
  exact w_if_icmpge cd_83_14 (by decide) h11 h12
theorem b_83_17 {d : Nat} {Q : (Option Value ⊕ Nat) → mi_H → Prop} (n sl : Nat) (f : Nat → mi_C) {l1 : Nat} {l2 : Int32} {l3 : Int32} {l4 : Int32} {l5 : Int64} {fs6 : List Value} {x9 : Nat} {fs11 : List Value} {x14 : Int32} (m16 i16 : Nat) (g16 : Nat → Int32) {fs20 : List Value} {x23 : Nat} {fs25 : List Value} {x28 : Int32} (m30 i30 : Nat) (g30 : Nat → Int32) {fs34 : List Value} {x37 : Nat} {fs39 : List Value} {x42 : Int32} (m44 i44 : Nat) (g44 : Nat → Int32) {fs48 : List Value} {x51 : Nat} {fs53 : List Value} {x56 : Int32} (m58 i58 : Nat) (g58 : Nat → Int64) {fs62 : List Value} {x65 : Int32} {fs67 : List Value} (h7 : f l1 = .inr (8, fs6)) (h8 : l1 < n) (h10 : fs6[2]? = some (.ref x9)) (h12 : f l1 = .inr (8, fs11)) (h13 : l1 < n) (h15 : fs11[7]? = some (.int x14)) (h17 : f x9 = .inl (0, m16, .inl g16)) (h18 : x9 < n) (h19 : mi_ix x14 m16 i16) (h21 : (va_up f x9 (.inl (0, m16, .inl (upd g16 i16 l2)))) l1 = .inr (8, fs20)) (h22 : l1 < n) (h24 : fs20[3]? = some (.ref x23)) (h26 : (va_up f x9 (.inl (0, m16, .inl (upd g16 i16 l2)))) l1 = .inr (8, fs25)) (h27 : l1 < n) (h29 : fs25[7]? = some (.int x28)) (h31 : (va_up f x9 (.inl (0, m16, .inl (upd g16 i16 l2)))) x23 = .inl (0, m30, .inl g30)) (h32 : x23 < n) (h33 : mi_ix x28 m30 i30) (h35 : (va_up (va_up f x9 (.inl (0, m16, .inl (upd g16 i16 l2)))) x23 (.inl (0, m30, .inl (upd g30 i30 l3)))) l1 = .inr (8, fs34)) (h36 : l1 < n) (h38 : fs34[4]? = some (.ref x37)) (h40 : (va_up (va_up f x9 (.inl (0, m16, .inl (upd g16 i16 l2)))) x23 (.inl (0, m30, .inl (upd g30 i30 l3)))) l1 = .inr (8, fs39)) (h41 : l1 < n) (h43 : fs39[7]? = some (.int x42)) (h45 : (va_up (va_up f x9 (.inl (0, m16, .inl (upd g16 i16 l2)))) x23 (.inl (0, m30, .inl (upd g30 i30 l3)))) x37 = .inl (0, m44, .inl g44)) (h46 : x37 < n) (h47 : mi_ix x42 m44 i44) (h49 : (va_up (va_up (va_up f x9 (.inl (0, m16, .inl (upd g16 i16 l2)))) x23 (.inl (0, m30, .inl (upd g30 i30 l3)))) x37 (.inl (0, m44, .inl (upd g44 i44 l4)))) l1 = .inr (8, fs48)) (h50 : l1 < n) (h52 : fs48[5]? = some (.ref x51)) (h54 : (va_up (va_up (va_up f x9 (.inl (0, m16, .inl (upd g16 i16 l2)))) x23 (.inl (0, m30, .inl (upd g30 i30 l3)))) x37 (.inl (0, m44, .inl (upd g44 i44 l4)))) l1 = .inr (8, fs53)) (h55 : l1 < n) (h57 : fs53[7]? = some (.int x56)) (h59 : (va_up (va_up (va_up f x9 (.inl (0, m16, .inl (upd g16 i16 l2)))) x23 (.inl (0, m30, .inl (upd g30 i30 l3)))) x37 (.inl (0, m44, .inl (upd g44 i44 l4)))) x51 = .inl (3, m58, .inr (.inl g58))) (h60 : x51 < n) (h61 : mi_ix x56 m58 i58) (h63 : (va_up (va_up (va_up (va_up f x9 (.inl (0, m16, .inl (upd g16 i16 l2)))) x23 (.inl (0, m30, .inl (upd g30 i30 l3)))) x37 (.inl (0, m44, .inl (upd g44 i44 l4)))) x51 (.inl (3, m58, .inr (.inl (vp_updL g58 i58 l5))))) l1 = .inr (8, fs62)) (h64 : l1 < n) (h66 : fs62[7]? = some (.int x65)) (h68 : (va_up (va_up (va_up (va_up f x9 (.inl (0, m16, .inl (upd g16 i16 l2)))) x23 (.inl (0, m30, .inl (upd g30 i30 l3)))) x37 (.inl (0, m44, .inl (upd g44 i44 l4)))) x51 (.inl (3, m58, .inr (.inl (vp_updL g58 i58 l5))))) l1 = .inr (8, fs67)) (h69 : l1 < n) (h70 : 7 < fs67.length) (h71 : mi_W d 83 68 [some (.ref l1), some (.int l2), some (.int l3), some (.int l4), some (.long l5), none] [] (n, sl, (va_up (va_up (va_up (va_up (va_up f x9 (.inl (0, m16, .inl (upd g16 i16 l2)))) x23 (.inl (0, m30, .inl (upd g30 i30 l3)))) x37 (.inl (0, m44, .inl (upd g44 i44 l4)))) x51 (.inl (3, m58, .inr (.inl (vp_updL g58 i58 l5))))) l1 (.inr (8, fs67.set 7 (.int (x65 + 1)))))) Q) : mi_W d 83 17 [some (.ref l1), some (.int l2), some (.int l3), some (.int l4), some (.long l5), none] [] (n, sl, f) Q := by
  refine w_aload_n cd_83_17 rfl ?_
  refine w_getfield cd_83_18 (show mt_f 8 18 = some (8, 2) by decide +kernel) h7 h8 h10 ?_
  refine w_aload_n cd_83_21 rfl ?_
  refine w_getfield cd_83_22 (show mt_f 8 35 = some (8, 7) by decide +kernel) h12 h13 h15 ?_
  refine w_iload_n cd_83_25 rfl ?_
  refine w_iastore cd_83_26 h17 h18 h19 ?_
  refine w_aload_n cd_83_27 rfl ?_
  refine w_getfield cd_83_28 (show mt_f 8 21 = some (8, 3) by decide +kernel) h21 h22 h24 ?_
  refine w_aload_n cd_83_31 rfl ?_
  refine w_getfield cd_83_32 (show mt_f 8 35 = some (8, 7) by decide +kernel) h26 h27 h29 ?_
  refine w_iload_n cd_83_35 rfl ?_
  refine w_iastore cd_83_36 h31 h32 h33 ?_
  refine w_aload_n cd_83_37 rfl ?_
  refine w_getfield cd_83_38 (show mt_f 8 24 = some (8, 4) by decide +kernel) h35 h36 h38 ?_
  refine w_aload_n cd_83_41 rfl ?_
  refine w_getfield cd_83_42 (show mt_f 8 35 = some (8, 7) by decide +kernel) h40 h41 h43 ?_
  refine w_iload_n cd_83_45 rfl ?_
  refine w_iastore cd_83_46 h45 h46 h47 ?_
  refine w_aload_n cd_83_47 rfl ?_
  refine w_getfield cd_83_48 (show mt_f 8 27 = some (8, 5) by decide +kernel) h49 h50 h52 ?_
  refine w_aload_n cd_83_51 rfl ?_
  refine w_getfield cd_83_52 (show mt_f 8 35 = some (8, 7) by decide +kernel) h54 h55 h57 ?_
  refine w_lload cd_83_55 rfl ?_
  refine w_lastore cd_83_57 h59 h60 h61 ?_
  refine w_aload_n cd_83_58 rfl ?_
  refine w_dup_r cd_83_59 ?_
  refine w_getfield cd_83_60 (show mt_f 8 35 = some (8, 7) by decide +kernel) h63 h64 h66 ?_
  refine w_iconst (v := 1) cd_83_63 (by decide) ?_
  refine w_iadd cd_83_64 ?_
  refine w_putfield (w := .int (x65 + 1)) cd_83_65 (show mt_f 8 35 = some (8, 7) by decide +kernel) h68 h69 ⟨h70, rfl, Or.inl (by decide)⟩ ?_
  exact h71
theorem b_83_68 {d : Nat} {Q : (Option Value ⊕ Nat) → mi_H → Prop} (n sl : Nat) (f : Nat → mi_C) {l1 : Nat} {l2 : Int32} {l3 : Int32} {l4 : Int32} {l5 : Int64} (h6 : Q (.inl none) (n, sl, f)) : mi_W d 83 68 [some (.ref l1), some (.int l2), some (.int l3), some (.int l4), some (.long l5), none] [] (n, sl, f) Q := by
  exact w_return cd_83_68 (by decide +kernel) h6
/-! MarloweHost$Machine.pay(I)V -/
set_option maxRecDepth 100000 in
theorem mq_84 : mt_q 84 = my_84 := rfl
set_option maxRecDepth 100000 in
theorem ci_84 : mt_inc 0 my_84.cd = true := by decide +kernel
theorem cd_84_0 : mt_cd 84 0 = some (.aload_n 0) := mt_cd_of (q := (0, .aload_n 0, 1)) mq_84 ci_84 (List.mem_append_left _ (show _ ∈ my_84_0 from List.mem_of_getElem? (i := 0) rfl))
theorem cd_84_1 : mt_cd 84 1 = some (.getfield 38) := mt_cd_of (q := (1, .getfield 38, 3)) mq_84 ci_84 (List.mem_append_left _ (show _ ∈ my_84_0 from List.mem_of_getElem? (i := 1) rfl))
theorem cd_84_4 : mt_cd 84 4 = some (.aload_n 0) := mt_cd_of (q := (4, .aload_n 0, 1)) mq_84 ci_84 (List.mem_append_left _ (show _ ∈ my_84_0 from List.mem_of_getElem? (i := 2) rfl))
theorem cd_84_5 : mt_cd 84 5 = some (.getfield 18) := mt_cd_of (q := (5, .getfield 18, 3)) mq_84 ci_84 (List.mem_append_left _ (show _ ∈ my_84_0 from List.mem_of_getElem? (i := 3) rfl))
theorem cd_84_8 : mt_cd 84 8 = some (.getfield 118) := mt_cd_of (q := (8, .getfield 118, 3)) mq_84 ci_84 (List.mem_append_left _ (show _ ∈ my_84_0 from List.mem_of_getElem? (i := 4) rfl))
theorem cd_84_11 : mt_cd 84 11 = some (.iload_n 1) := mt_cd_of (q := (11, .iload_n 1, 1)) mq_84 ci_84 (List.mem_append_left _ (show _ ∈ my_84_0 from List.mem_of_getElem? (i := 5) rfl))
theorem cd_84_12 : mt_cd 84 12 = some (.iaload) := mt_cd_of (q := (12, .iaload, 1)) mq_84 ci_84 (List.mem_append_left _ (show _ ∈ my_84_0 from List.mem_of_getElem? (i := 6) rfl))
theorem cd_84_13 : mt_cd 84 13 = some (.iconst 1) := mt_cd_of (q := (13, .iconst 1, 1)) mq_84 ci_84 (List.mem_append_left _ (show _ ∈ my_84_0 from List.mem_of_getElem? (i := 7) rfl))
theorem cd_84_14 : mt_cd 84 14 = some (.invokevirtual 153) := mt_cd_of (q := (14, .invokevirtual 153, 3)) mq_84 ci_84 (List.mem_append_left _ (show _ ∈ my_84_0 from List.mem_of_getElem? (i := 8) rfl))
theorem cd_84_17 : mt_cd 84 17 = some (.lstore_n 2) := mt_cd_of (q := (17, .lstore_n 2, 1)) mq_84 ci_84 (List.mem_append_left _ (show _ ∈ my_84_0 from List.mem_of_getElem? (i := 9) rfl))
theorem cd_84_18 : mt_cd 84 18 = some (.aload_n 0) := mt_cd_of (q := (18, .aload_n 0, 1)) mq_84 ci_84 (List.mem_append_left _ (show _ ∈ my_84_0 from List.mem_of_getElem? (i := 10) rfl))
theorem cd_84_19 : mt_cd 84 19 = some (.getfield 18) := mt_cd_of (q := (19, .getfield 18, 3)) mq_84 ci_84 (List.mem_append_left _ (show _ ∈ my_84_0 from List.mem_of_getElem? (i := 11) rfl))
theorem cd_84_22 : mt_cd 84 22 = some (.getfield 157) := mt_cd_of (q := (22, .getfield 157, 3)) mq_84 ci_84 (List.mem_append_left _ (show _ ∈ my_84_0 from List.mem_of_getElem? (i := 12) rfl))
theorem cd_84_25 : mt_cd 84 25 = some (.iload_n 1) := mt_cd_of (q := (25, .iload_n 1, 1)) mq_84 ci_84 (List.mem_append_left _ (show _ ∈ my_84_0 from List.mem_of_getElem? (i := 13) rfl))
theorem cd_84_26 : mt_cd 84 26 = some (.iaload) := mt_cd_of (q := (26, .iaload, 1)) mq_84 ci_84 (List.mem_append_left _ (show _ ∈ my_84_0 from List.mem_of_getElem? (i := 14) rfl))
theorem cd_84_27 : mt_cd 84 27 = some (.istore 4) := mt_cd_of (q := (27, .istore 4, 2)) mq_84 ci_84 (List.mem_append_left _ (show _ ∈ my_84_0 from List.mem_of_getElem? (i := 15) rfl))
theorem cd_84_29 : mt_cd 84 29 = some (.aload_n 0) := mt_cd_of (q := (29, .aload_n 0, 1)) mq_84 ci_84 (List.mem_append_left _ (show _ ∈ my_84_0 from List.mem_of_getElem? (i := 16) rfl))
theorem cd_84_30 : mt_cd 84 30 = some (.getfield 18) := mt_cd_of (q := (30, .getfield 18, 3)) mq_84 ci_84 (List.mem_append_left _ (show _ ∈ my_84_0 from List.mem_of_getElem? (i := 17) rfl))
theorem cd_84_33 : mt_cd 84 33 = some (.getfield 160) := mt_cd_of (q := (33, .getfield 160, 3)) mq_84 ci_84 (List.mem_append_left _ (show _ ∈ my_84_0 from List.mem_of_getElem? (i := 18) rfl))
theorem cd_84_36 : mt_cd 84 36 = some (.iload_n 1) := mt_cd_of (q := (36, .iload_n 1, 1)) mq_84 ci_84 (List.mem_append_left _ (show _ ∈ my_84_0 from List.mem_of_getElem? (i := 19) rfl))
theorem cd_84_37 : mt_cd 84 37 = some (.iaload) := mt_cd_of (q := (37, .iaload, 1)) mq_84 ci_84 (List.mem_append_left _ (show _ ∈ my_84_0 from List.mem_of_getElem? (i := 20) rfl))
theorem cd_84_38 : mt_cd 84 38 = some (.istore 5) := mt_cd_of (q := (38, .istore 5, 2)) mq_84 ci_84 (List.mem_append_left _ (show _ ∈ my_84_0 from List.mem_of_getElem? (i := 21) rfl))
theorem cd_84_40 : mt_cd 84 40 = some (.aload_n 0) := mt_cd_of (q := (40, .aload_n 0, 1)) mq_84 ci_84 (List.mem_append_left _ (show _ ∈ my_84_0 from List.mem_of_getElem? (i := 22) rfl))
theorem cd_84_41 : mt_cd 84 41 = some (.getfield 18) := mt_cd_of (q := (41, .getfield 18, 3)) mq_84 ci_84 (List.mem_append_left _ (show _ ∈ my_84_0 from List.mem_of_getElem? (i := 23) rfl))
theorem cd_84_44 : mt_cd 84 44 = some (.getfield 163) := mt_cd_of (q := (44, .getfield 163, 3)) mq_84 ci_84 (List.mem_append_left _ (show _ ∈ my_84_0 from List.mem_of_getElem? (i := 24) rfl))
theorem cd_84_47 : mt_cd 84 47 = some (.iload_n 1) := mt_cd_of (q := (47, .iload_n 1, 1)) mq_84 ci_84 (List.mem_append_left _ (show _ ∈ my_84_0 from List.mem_of_getElem? (i := 25) rfl))
theorem cd_84_48 : mt_cd 84 48 = some (.iaload) := mt_cd_of (q := (48, .iaload, 1)) mq_84 ci_84 (List.mem_append_left _ (show _ ∈ my_84_0 from List.mem_of_getElem? (i := 26) rfl))
theorem cd_84_49 : mt_cd 84 49 = some (.istore 6) := mt_cd_of (q := (49, .istore 6, 2)) mq_84 ci_84 (List.mem_append_left _ (show _ ∈ my_84_0 from List.mem_of_getElem? (i := 27) rfl))
theorem cd_84_51 : mt_cd 84 51 = some (.aload_n 0) := mt_cd_of (q := (51, .aload_n 0, 1)) mq_84 ci_84 (List.mem_append_left _ (show _ ∈ my_84_0 from List.mem_of_getElem? (i := 28) rfl))
theorem cd_84_52 : mt_cd 84 52 = some (.getfield 29) := mt_cd_of (q := (52, .getfield 29, 3)) mq_84 ci_84 (List.mem_append_left _ (show _ ∈ my_84_0 from List.mem_of_getElem? (i := 29) rfl))
theorem cd_84_55 : mt_cd 84 55 = some (.aload_n 0) := mt_cd_of (q := (55, .aload_n 0, 1)) mq_84 ci_84 (List.mem_append_left _ (show _ ∈ my_84_0 from List.mem_of_getElem? (i := 30) rfl))
theorem cd_84_56 : mt_cd 84 56 = some (.getfield 18) := mt_cd_of (q := (56, .getfield 18, 3)) mq_84 ci_84 (List.mem_append_left _ (show _ ∈ my_84_0 from List.mem_of_getElem? (i := 31) rfl))
theorem cd_84_59 : mt_cd 84 59 = some (.getfield 129) := mt_cd_of (q := (59, .getfield 129, 3)) mq_84 ci_84 (List.mem_append_left _ (show _ ∈ my_84_0 from List.mem_of_getElem? (i := 32) rfl))
theorem cd_84_62 : mt_cd 84 62 = some (.iload_n 1) := mt_cd_of (q := (62, .iload_n 1, 1)) mq_84 ci_84 (List.mem_append_left _ (show _ ∈ my_84_0 from List.mem_of_getElem? (i := 33) rfl))
theorem cd_84_63 : mt_cd 84 63 = some (.iaload) := mt_cd_of (q := (63, .iaload, 1)) mq_84 ci_84 (List.mem_append_left _ (show _ ∈ my_84_0 from List.mem_of_getElem? (i := 34) rfl))
theorem cd_84_64 : mt_cd 84 64 = some (.putfield 94) := mt_cd_of (q := (64, .putfield 94, 3)) mq_84 ci_84 (List.mem_append_left _ (show _ ∈ my_84_0 from List.mem_of_getElem? (i := 35) rfl))
theorem cd_84_67 : mt_cd 84 67 = some (.lload_n 2) := mt_cd_of (q := (67, .lload_n 2, 1)) mq_84 ci_84 (List.mem_append_left _ (show _ ∈ my_84_0 from List.mem_of_getElem? (i := 36) rfl))
theorem cd_84_68 : mt_cd 84 68 = some (.lconst 0) := mt_cd_of (q := (68, .lconst 0, 1)) mq_84 ci_84 (List.mem_append_left _ (show _ ∈ my_84_0 from List.mem_of_getElem? (i := 37) rfl))
theorem cd_84_69 : mt_cd 84 69 = some (.lcmp) := mt_cd_of (q := (69, .lcmp, 1)) mq_84 ci_84 (List.mem_append_left _ (show _ ∈ my_84_0 from List.mem_of_getElem? (i := 38) rfl))
theorem cd_84_70 : mt_cd 84 70 = some (.ifCond .gt 13) := mt_cd_of (q := (70, .ifCond .gt 13, 3)) mq_84 ci_84 (List.mem_append_left _ (show _ ∈ my_84_0 from List.mem_of_getElem? (i := 39) rfl))
theorem cd_84_73 : mt_cd 84 73 = some (.aload_n 0) := mt_cd_of (q := (73, .aload_n 0, 1)) mq_84 ci_84 (List.mem_append_left _ (show _ ∈ my_84_0 from List.mem_of_getElem? (i := 40) rfl))
theorem cd_84_74 : mt_cd 84 74 = some (.getfield 12) := mt_cd_of (q := (74, .getfield 12, 3)) mq_84 ci_84 (List.mem_append_left _ (show _ ∈ my_84_0 from List.mem_of_getElem? (i := 41) rfl))
theorem cd_84_77 : mt_cd 84 77 = some (.iconst 2) := mt_cd_of (q := (77, .iconst 2, 1)) mq_84 ci_84 (List.mem_append_left _ (show _ ∈ my_84_0 from List.mem_of_getElem? (i := 42) rfl))
theorem cd_84_78 : mt_cd 84 78 = some (.iload_n 1) := mt_cd_of (q := (78, .iload_n 1, 1)) mq_84 ci_84 (List.mem_append_left _ (show _ ∈ my_84_0 from List.mem_of_getElem? (i := 43) rfl))
theorem cd_84_79 : mt_cd 84 79 = some (.invokevirtual 139) := mt_cd_of (q := (79, .invokevirtual 139, 3)) mq_84 ci_84 (List.mem_append_left _ (show _ ∈ my_84_0 from List.mem_of_getElem? (i := 44) rfl))
theorem cd_84_82 : mt_cd 84 82 = some (.return_) := mt_cd_of (q := (82, .return_, 1)) mq_84 ci_84 (List.mem_append_left _ (show _ ∈ my_84_0 from List.mem_of_getElem? (i := 45) rfl))
theorem cd_84_83 : mt_cd 84 83 = some (.lload_n 2) := mt_cd_of (q := (83, .lload_n 2, 1)) mq_84 ci_84 (List.mem_append_left _ (show _ ∈ my_84_0 from List.mem_of_getElem? (i := 46) rfl))
theorem cd_84_84 : mt_cd 84 84 = some (.aload_n 0) := mt_cd_of (q := (84, .aload_n 0, 1)) mq_84 ci_84 (List.mem_append_left _ (show _ ∈ my_84_0 from List.mem_of_getElem? (i := 47) rfl))
theorem cd_84_85 : mt_cd 84 85 = some (.getfield 29) := mt_cd_of (q := (85, .getfield 29, 3)) mq_84 ci_84 (List.mem_append_left _ (show _ ∈ my_84_0 from List.mem_of_getElem? (i := 48) rfl))
theorem cd_84_88 : mt_cd 84 88 = some (.iload 4) := mt_cd_of (q := (88, .iload 4, 2)) mq_84 ci_84 (List.mem_append_left _ (show _ ∈ my_84_0 from List.mem_of_getElem? (i := 49) rfl))
theorem cd_84_90 : mt_cd 84 90 = some (.iload 6) := mt_cd_of (q := (90, .iload 6, 2)) mq_84 ci_84 (List.mem_append_left _ (show _ ∈ my_84_0 from List.mem_of_getElem? (i := 50) rfl))
theorem cd_84_92 : mt_cd 84 92 = some (.invokevirtual 166) := mt_cd_of (q := (92, .invokevirtual 166, 3)) mq_84 ci_84 (List.mem_append_left _ (show _ ∈ my_84_0 from List.mem_of_getElem? (i := 51) rfl))
theorem cd_84_95 : mt_cd 84 95 = some (.invokestatic 169) := mt_cd_of (q := (95, .invokestatic 169, 3)) mq_84 ci_84 (List.mem_append_left _ (show _ ∈ my_84_0 from List.mem_of_getElem? (i := 52) rfl))
theorem cd_84_98 : mt_cd 84 98 = some (.lstore 7) := mt_cd_of (q := (98, .lstore 7, 2)) mq_84 ci_84 (List.mem_append_left _ (show _ ∈ my_84_0 from List.mem_of_getElem? (i := 53) rfl))
theorem cd_84_100 : mt_cd 84 100 = some (.aload_n 0) := mt_cd_of (q := (100, .aload_n 0, 1)) mq_84 ci_84 (List.mem_append_left _ (show _ ∈ my_84_0 from List.mem_of_getElem? (i := 54) rfl))
theorem cd_84_101 : mt_cd 84 101 = some (.getfield 29) := mt_cd_of (q := (101, .getfield 29, 3)) mq_84 ci_84 (List.mem_append_left _ (show _ ∈ my_84_0 from List.mem_of_getElem? (i := 55) rfl))
theorem cd_84_104 : mt_cd 84 104 = some (.iload 4) := mt_cd_of (q := (104, .iload 4, 2)) mq_84 ci_84 (List.mem_append_left _ (show _ ∈ my_84_0 from List.mem_of_getElem? (i := 56) rfl))
theorem cd_84_106 : mt_cd 84 106 = some (.iload 6) := mt_cd_of (q := (106, .iload 6, 2)) mq_84 ci_84 (List.mem_append_left _ (show _ ∈ my_84_0 from List.mem_of_getElem? (i := 57) rfl))
theorem cd_84_108 : mt_cd 84 108 = some (.lload 7) := mt_cd_of (q := (108, .lload 7, 2)) mq_84 ci_84 (List.mem_append_left _ (show _ ∈ my_84_0 from List.mem_of_getElem? (i := 58) rfl))
theorem cd_84_110 : mt_cd 84 110 = some (.lneg) := mt_cd_of (q := (110, .lneg, 1)) mq_84 ci_84 (List.mem_append_left _ (show _ ∈ my_84_0 from List.mem_of_getElem? (i := 59) rfl))
theorem cd_84_111 : mt_cd 84 111 = some (.invokevirtual 172) := mt_cd_of (q := (111, .invokevirtual 172, 3)) mq_84 ci_84 (List.mem_append_right _ ((show _ ∈ my_84_1 from List.mem_of_getElem? (i := 0) rfl)))
theorem cd_84_114 : mt_cd 84 114 = some (.pop) := mt_cd_of (q := (114, .pop, 1)) mq_84 ci_84 (List.mem_append_right _ ((show _ ∈ my_84_1 from List.mem_of_getElem? (i := 1) rfl)))
theorem cd_84_115 : mt_cd 84 115 = some (.lload 7) := mt_cd_of (q := (115, .lload 7, 2)) mq_84 ci_84 (List.mem_append_right _ ((show _ ∈ my_84_1 from List.mem_of_getElem? (i := 2) rfl)))
theorem cd_84_117 : mt_cd 84 117 = some (.lload_n 2) := mt_cd_of (q := (117, .lload_n 2, 1)) mq_84 ci_84 (List.mem_append_right _ ((show _ ∈ my_84_1 from List.mem_of_getElem? (i := 3) rfl)))
theorem cd_84_118 : mt_cd 84 118 = some (.lcmp) := mt_cd_of (q := (118, .lcmp, 1)) mq_84 ci_84 (List.mem_append_right _ ((show _ ∈ my_84_1 from List.mem_of_getElem? (i := 4) rfl)))
theorem cd_84_119 : mt_cd 84 119 = some (.ifCond .ge 12) := mt_cd_of (q := (119, .ifCond .ge 12, 3)) mq_84 ci_84 (List.mem_append_right _ ((show _ ∈ my_84_1 from List.mem_of_getElem? (i := 5) rfl)))
theorem cd_84_122 : mt_cd 84 122 = some (.aload_n 0) := mt_cd_of (q := (122, .aload_n 0, 1)) mq_84 ci_84 (List.mem_append_right _ ((show _ ∈ my_84_1 from List.mem_of_getElem? (i := 6) rfl)))
theorem cd_84_123 : mt_cd 84 123 = some (.getfield 12) := mt_cd_of (q := (123, .getfield 12, 3)) mq_84 ci_84 (List.mem_append_right _ ((show _ ∈ my_84_1 from List.mem_of_getElem? (i := 7) rfl)))
theorem cd_84_126 : mt_cd 84 126 = some (.iconst 3) := mt_cd_of (q := (126, .iconst 3, 1)) mq_84 ci_84 (List.mem_append_right _ ((show _ ∈ my_84_1 from List.mem_of_getElem? (i := 8) rfl)))
theorem cd_84_127 : mt_cd 84 127 = some (.iload_n 1) := mt_cd_of (q := (127, .iload_n 1, 1)) mq_84 ci_84 (List.mem_append_right _ ((show _ ∈ my_84_1 from List.mem_of_getElem? (i := 9) rfl)))
theorem cd_84_128 : mt_cd 84 128 = some (.invokevirtual 139) := mt_cd_of (q := (128, .invokevirtual 139, 3)) mq_84 ci_84 (List.mem_append_right _ ((show _ ∈ my_84_1 from List.mem_of_getElem? (i := 10) rfl)))
theorem cd_84_131 : mt_cd 84 131 = some (.aload_n 0) := mt_cd_of (q := (131, .aload_n 0, 1)) mq_84 ci_84 (List.mem_append_right _ ((show _ ∈ my_84_1 from List.mem_of_getElem? (i := 11) rfl)))
theorem cd_84_132 : mt_cd 84 132 = some (.getfield 18) := mt_cd_of (q := (132, .getfield 18, 3)) mq_84 ci_84 (List.mem_append_right _ ((show _ ∈ my_84_1 from List.mem_of_getElem? (i := 12) rfl)))
theorem cd_84_135 : mt_cd 84 135 = some (.getfield 176) := mt_cd_of (q := (135, .getfield 176, 3)) mq_84 ci_84 (List.mem_append_right _ ((show _ ∈ my_84_1 from List.mem_of_getElem? (i := 13) rfl)))
theorem cd_84_138 : mt_cd 84 138 = some (.iload_n 1) := mt_cd_of (q := (138, .iload_n 1, 1)) mq_84 ci_84 (List.mem_append_right _ ((show _ ∈ my_84_1 from List.mem_of_getElem? (i := 14) rfl)))
theorem cd_84_139 : mt_cd 84 139 = some (.baload) := mt_cd_of (q := (139, .baload, 1)) mq_84 ci_84 (List.mem_append_right _ ((show _ ∈ my_84_1 from List.mem_of_getElem? (i := 15) rfl)))
theorem cd_84_140 : mt_cd 84 140 = some (.ifCond .ne 28) := mt_cd_of (q := (140, .ifCond .ne 28, 3)) mq_84 ci_84 (List.mem_append_right _ ((show _ ∈ my_84_1 from List.mem_of_getElem? (i := 16) rfl)))
theorem cd_84_143 : mt_cd 84 143 = some (.lload 7) := mt_cd_of (q := (143, .lload 7, 2)) mq_84 ci_84 (List.mem_append_right _ ((show _ ∈ my_84_1 from List.mem_of_getElem? (i := 17) rfl)))
theorem cd_84_145 : mt_cd 84 145 = some (.lconst 0) := mt_cd_of (q := (145, .lconst 0, 1)) mq_84 ci_84 (List.mem_append_right _ ((show _ ∈ my_84_1 from List.mem_of_getElem? (i := 18) rfl)))
theorem cd_84_146 : mt_cd 84 146 = some (.lcmp) := mt_cd_of (q := (146, .lcmp, 1)) mq_84 ci_84 (List.mem_append_right _ ((show _ ∈ my_84_1 from List.mem_of_getElem? (i := 19) rfl)))
theorem cd_84_147 : mt_cd 84 147 = some (.ifCond .eq 21) := mt_cd_of (q := (147, .ifCond .eq 21, 3)) mq_84 ci_84 (List.mem_append_right _ ((show _ ∈ my_84_1 from List.mem_of_getElem? (i := 20) rfl)))
theorem cd_84_150 : mt_cd 84 150 = some (.aload_n 0) := mt_cd_of (q := (150, .aload_n 0, 1)) mq_84 ci_84 (List.mem_append_right _ ((show _ ∈ my_84_1 from List.mem_of_getElem? (i := 21) rfl)))
theorem cd_84_151 : mt_cd 84 151 = some (.getfield 12) := mt_cd_of (q := (151, .getfield 12, 3)) mq_84 ci_84 (List.mem_append_right _ ((show _ ∈ my_84_1 from List.mem_of_getElem? (i := 22) rfl)))
theorem cd_84_154 : mt_cd 84 154 = some (.iload 4) := mt_cd_of (q := (154, .iload 4, 2)) mq_84 ci_84 (List.mem_append_right _ ((show _ ∈ my_84_1 from List.mem_of_getElem? (i := 23) rfl)))
theorem cd_84_156 : mt_cd 84 156 = some (.iload 5) := mt_cd_of (q := (156, .iload 5, 2)) mq_84 ci_84 (List.mem_append_right _ ((show _ ∈ my_84_1 from List.mem_of_getElem? (i := 24) rfl)))
theorem cd_84_158 : mt_cd 84 158 = some (.iload 6) := mt_cd_of (q := (158, .iload 6, 2)) mq_84 ci_84 (List.mem_append_right _ ((show _ ∈ my_84_1 from List.mem_of_getElem? (i := 25) rfl)))
theorem cd_84_160 : mt_cd 84 160 = some (.lload 7) := mt_cd_of (q := (160, .lload 7, 2)) mq_84 ci_84 (List.mem_append_right _ ((show _ ∈ my_84_1 from List.mem_of_getElem? (i := 26) rfl)))
theorem cd_84_162 : mt_cd 84 162 = some (.invokevirtual 150) := mt_cd_of (q := (162, .invokevirtual 150, 3)) mq_84 ci_84 (List.mem_append_right _ ((show _ ∈ my_84_1 from List.mem_of_getElem? (i := 27) rfl)))
theorem cd_84_165 : mt_cd 84 165 = some (.goto 37) := mt_cd_of (q := (165, .goto 37, 3)) mq_84 ci_84 (List.mem_append_right _ ((show _ ∈ my_84_1 from List.mem_of_getElem? (i := 28) rfl)))
theorem cd_84_168 : mt_cd 84 168 = some (.aload_n 0) := mt_cd_of (q := (168, .aload_n 0, 1)) mq_84 ci_84 (List.mem_append_right _ ((show _ ∈ my_84_1 from List.mem_of_getElem? (i := 29) rfl)))
theorem cd_84_169 : mt_cd 84 169 = some (.getfield 18) := mt_cd_of (q := (169, .getfield 18, 3)) mq_84 ci_84 (List.mem_append_right _ ((show _ ∈ my_84_1 from List.mem_of_getElem? (i := 30) rfl)))
theorem cd_84_172 : mt_cd 84 172 = some (.getfield 176) := mt_cd_of (q := (172, .getfield 176, 3)) mq_84 ci_84 (List.mem_append_right _ ((show _ ∈ my_84_1 from List.mem_of_getElem? (i := 31) rfl)))
theorem cd_84_175 : mt_cd 84 175 = some (.iload_n 1) := mt_cd_of (q := (175, .iload_n 1, 1)) mq_84 ci_84 (List.mem_append_right _ ((show _ ∈ my_84_1 from List.mem_of_getElem? (i := 32) rfl)))
theorem cd_84_176 : mt_cd 84 176 = some (.baload) := mt_cd_of (q := (176, .baload, 1)) mq_84 ci_84 (List.mem_append_right _ ((show _ ∈ my_84_1 from List.mem_of_getElem? (i := 33) rfl)))
theorem cd_84_177 : mt_cd 84 177 = some (.ifCond .eq 25) := mt_cd_of (q := (177, .ifCond .eq 25, 3)) mq_84 ci_84 (List.mem_append_right _ ((show _ ∈ my_84_1 from List.mem_of_getElem? (i := 34) rfl)))
theorem cd_84_180 : mt_cd 84 180 = some (.aload_n 0) := mt_cd_of (q := (180, .aload_n 0, 1)) mq_84 ci_84 (List.mem_append_right _ ((show _ ∈ my_84_1 from List.mem_of_getElem? (i := 35) rfl)))
theorem cd_84_181 : mt_cd 84 181 = some (.getfield 29) := mt_cd_of (q := (181, .getfield 29, 3)) mq_84 ci_84 (List.mem_append_right _ ((show _ ∈ my_84_1 from List.mem_of_getElem? (i := 36) rfl)))
theorem cd_84_184 : mt_cd 84 184 = some (.iload 5) := mt_cd_of (q := (184, .iload 5, 2)) mq_84 ci_84 (List.mem_append_right _ ((show _ ∈ my_84_1 from List.mem_of_getElem? (i := 37) rfl)))
theorem cd_84_186 : mt_cd 84 186 = some (.iload 6) := mt_cd_of (q := (186, .iload 6, 2)) mq_84 ci_84 (List.mem_append_right _ ((show _ ∈ my_84_1 from List.mem_of_getElem? (i := 38) rfl)))
theorem cd_84_188 : mt_cd 84 188 = some (.lload 7) := mt_cd_of (q := (188, .lload 7, 2)) mq_84 ci_84 (List.mem_append_right _ ((show _ ∈ my_84_1 from List.mem_of_getElem? (i := 39) rfl)))
theorem cd_84_190 : mt_cd 84 190 = some (.invokevirtual 172) := mt_cd_of (q := (190, .invokevirtual 172, 3)) mq_84 ci_84 (List.mem_append_right _ ((show _ ∈ my_84_1 from List.mem_of_getElem? (i := 40) rfl)))
theorem cd_84_193 : mt_cd 84 193 = some (.ifCond .ne 9) := mt_cd_of (q := (193, .ifCond .ne 9, 3)) mq_84 ci_84 (List.mem_append_right _ ((show _ ∈ my_84_1 from List.mem_of_getElem? (i := 41) rfl)))
theorem cd_84_196 : mt_cd 84 196 = some (.aload_n 0) := mt_cd_of (q := (196, .aload_n 0, 1)) mq_84 ci_84 (List.mem_append_right _ ((show _ ∈ my_84_1 from List.mem_of_getElem? (i := 42) rfl)))
theorem cd_84_197 : mt_cd 84 197 = some (.bipush 6) := mt_cd_of (q := (197, .bipush 6, 2)) mq_84 ci_84 (List.mem_append_right _ ((show _ ∈ my_84_1 from List.mem_of_getElem? (i := 43) rfl)))
theorem cd_84_199 : mt_cd 84 199 = some (.putfield 49) := mt_cd_of (q := (199, .putfield 49, 3)) mq_84 ci_84 (List.mem_append_right _ ((show _ ∈ my_84_1 from List.mem_of_getElem? (i := 44) rfl)))
theorem cd_84_202 : mt_cd 84 202 = some (.return_) := mt_cd_of (q := (202, .return_, 1)) mq_84 ci_84 (List.mem_append_right _ ((show _ ∈ my_84_1 from List.mem_of_getElem? (i := 45) rfl)))
theorem b_84_0 {d : Nat} {Q : (Option Value ⊕ Nat) → mi_H → Prop} (n sl : Nat) (f : Nat → mi_C) {l1 : Nat} {l2 : Int32} {o3 : Option Value} {o4 : Option Value} {o5 : Option Value} {o6 : Option Value} {o7 : Option Value} {o8 : Option Value} {o9 : Option Value} {fs10 : List Value} {x13 : Nat} {fs15 : List Value} {x18 : Nat} {fs20 : List Value} {x23 : Nat} (m25 i25 : Nat) (g25 : Nat → Int32) {fs29 : List Value} (h11 : f l1 = .inr (7, fs10)) (h12 : l1 < n) (h14 : fs10[2]? = some (.ref x13)) (h16 : f l1 = .inr (7, fs15)) (h17 : l1 < n) (h19 : fs15[0]? = some (.ref x18)) (h21 : f x18 = .inr (2, fs20)) (h22 : x18 < n) (h24 : fs20[1]? = some (.ref x23)) (h26 : f x23 = .inl (0, m25, .inl g25)) (h27 : x23 < n ∨ x23 = mi_SC) (h28 : mi_ix l2 m25 i25) (h30 : f x13 = .inr (10, fs29)) (h31 : x13 < n) (h32 : mi_W d 85 0 (mi_en 5 [.ref x13, .int (g25 i25), .int 1]) [] (n, sl, f) (mi_Kc d 84 14 [some (.ref l1), some (.int l2), o3, o4, o5, o6, o7, o8, o9] [] Q)) : mi_W (d + 1) 84 0 [some (.ref l1), some (.int l2), o3, o4, o5, o6, o7, o8, o9] [] (n, sl, f) Q := by
  refine w_aload_n cd_84_0 rfl ?_
  refine w_getfield cd_84_1 (show mt_f 7 38 = some (7, 2) by decide +kernel) h11 h12 h14 ?_
  refine w_aload_n cd_84_4 rfl ?_
  refine w_getfield cd_84_5 (show mt_f 7 18 = some (7, 0) by decide +kernel) h16 h17 h19 ?_
  refine w_getfield cd_84_8 (show mt_f 7 118 = some (2, 1) by decide +kernel) h21 h22 h24 ?_
  refine w_iload_n cd_84_11 rfl ?_
  refine w_iaload cd_84_12 h26 h27 h28 ?_
  refine w_iconst (v := 1) cd_84_13 (by decide) ?_
  exact w_invokevirtual cd_84_14 (show mt_m 7 153 = some (85, 0) by decide +kernel) (rest := []) rfl (as := [.ref x13, .int (g25 i25), .int 1]) rfl h30 (Or.inl h31) ⟨Nat.le_of_ble_eq_true rfl, Nat.le_of_ble_eq_true rfl, Nat.le_of_ble_eq_true rfl⟩ h32
theorem b_84_17 {d : Nat} {Q : (Option Value ⊕ Nat) → mi_H → Prop} (n sl : Nat) (f : Nat → mi_C) {l1 : Nat} {l2 : Int32} {o3 : Option Value} {o4 : Option Value} {o5 : Option Value} {o6 : Option Value} {o7 : Option Value} {o8 : Option Value} {o9 : Option Value} {s10 : Int64} {fs11 : List Value} {x14 : Nat} {fs16 : List Value} {x19 : Nat} (m21 i21 : Nat) (g21 : Nat → Int32) {fs25 : List Value} {x28 : Nat} {fs30 : List Value} {x33 : Nat} (m35 i35 : Nat) (g35 : Nat → Int32) {fs39 : List Value} {x42 : Nat} {fs44 : List Value} {x47 : Nat} (m49 i49 : Nat) (g49 : Nat → Int32) {fs53 : List Value} {x56 : Nat} {fs58 : List Value} {x61 : Nat} {fs63 : List Value} {x66 : Nat} (m68 i68 : Nat) (g68 : Nat → Int32) {fs72 : List Value} (h12 : f l1 = .inr (7, fs11)) (h13 : l1 < n) (h15 : fs11[0]? = some (.ref x14)) (h17 : f x14 = .inr (2, fs16)) (h18 : x14 < n) (h20 : fs16[4]? = some (.ref x19)) (h22 : f x19 = .inl (0, m21, .inl g21)) (h23 : x19 < n ∨ x19 = mi_SC) (h24 : mi_ix l2 m21 i21) (h26 : f l1 = .inr (7, fs25)) (h27 : l1 < n) (h29 : fs25[0]? = some (.ref x28)) (h31 : f x28 = .inr (2, fs30)) (h32 : x28 < n) (h34 : fs30[5]? = some (.ref x33)) (h36 : f x33 = .inl (0, m35, .inl g35)) (h37 : x33 < n ∨ x33 = mi_SC) (h38 : mi_ix l2 m35 i35) (h40 : f l1 = .inr (7, fs39)) (h41 : l1 < n) (h43 : fs39[0]? = some (.ref x42)) (h45 : f x42 = .inr (2, fs44)) (h46 : x42 < n) (h48 : fs44[6]? = some (.ref x47)) (h50 : f x47 = .inl (0, m49, .inl g49)) (h51 : x47 < n ∨ x47 = mi_SC) (h52 : mi_ix l2 m49 i49) (h54 : f l1 = .inr (7, fs53)) (h55 : l1 < n) (h57 : fs53[3]? = some (.ref x56)) (h59 : f l1 = .inr (7, fs58)) (h60 : l1 < n) (h62 : fs58[0]? = some (.ref x61)) (h64 : f x61 = .inr (2, fs63)) (h65 : x61 < n) (h67 : fs63[3]? = some (.ref x66)) (h69 : f x66 = .inl (0, m68, .inl g68)) (h70 : x66 < n ∨ x66 = mi_SC) (h71 : mi_ix l2 m68 i68) (h73 : f x56 = .inr (9, fs72)) (h74 : x56 < n) (h75 : 0 < fs72.length) (h76 : (0 : Int32) < (lg_cmp s10 0) → mi_W d 84 83 [some (.ref l1), some (.int l2), some (.long s10), none, some (.int (g21 i21)), some (.int (g35 i35)), some (.int (g49 i49)), o8, o9] [] (n, sl, (va_up f x56 (.inr (9, fs72.set 0 (.int (g68 i68)))))) Q) (h77 : ¬ ((0 : Int32) < (lg_cmp s10 0)) → mi_W d 84 73 [some (.ref l1), some (.int l2), some (.long s10), none, some (.int (g21 i21)), some (.int (g35 i35)), some (.int (g49 i49)), o8, o9] [] (n, sl, (va_up f x56 (.inr (9, fs72.set 0 (.int (g68 i68)))))) Q) : mi_W d 84 17 [some (.ref l1), some (.int l2), o3, o4, o5, o6, o7, o8, o9] [.long s10] (n, sl, f) Q := by
  refine w_lstore_n (ls' := [some (.ref l1), some (.int l2), some (.long s10), none, o5, o6, o7, o8, o9]) cd_84_17 (Nat.le_of_ble_eq_true rfl) rfl ?_
  refine w_aload_n cd_84_18 rfl ?_
  refine w_getfield cd_84_19 (show mt_f 7 18 = some (7, 0) by decide +kernel) h12 h13 h15 ?_
  refine w_getfield cd_84_22 (show mt_f 7 157 = some (2, 4) by decide +kernel) h17 h18 h20 ?_
  refine w_iload_n cd_84_25 rfl ?_
  refine w_iaload cd_84_26 h22 h23 h24 ?_
  refine w_istore (ls' := [some (.ref l1), some (.int l2), some (.long s10), none, some (.int (g21 i21)), o6, o7, o8, o9]) cd_84_27 (Nat.le_of_ble_eq_true rfl) rfl ?_
  refine w_aload_n cd_84_29 rfl ?_
  refine w_getfield cd_84_30 (show mt_f 7 18 = some (7, 0) by decide +kernel) h26 h27 h29 ?_
  refine w_getfield cd_84_33 (show mt_f 7 160 = some (2, 5) by decide +kernel) h31 h32 h34 ?_
  refine w_iload_n cd_84_36 rfl ?_
  refine w_iaload cd_84_37 h36 h37 h38 ?_
  refine w_istore (ls' := [some (.ref l1), some (.int l2), some (.long s10), none, some (.int (g21 i21)), some (.int (g35 i35)), o7, o8, o9]) cd_84_38 (Nat.le_of_ble_eq_true rfl) rfl ?_
  refine w_aload_n cd_84_40 rfl ?_
  refine w_getfield cd_84_41 (show mt_f 7 18 = some (7, 0) by decide +kernel) h40 h41 h43 ?_
  refine w_getfield cd_84_44 (show mt_f 7 163 = some (2, 6) by decide +kernel) h45 h46 h48 ?_
  refine w_iload_n cd_84_47 rfl ?_
  refine w_iaload cd_84_48 h50 h51 h52 ?_
  refine w_istore (ls' := [some (.ref l1), some (.int l2), some (.long s10), none, some (.int (g21 i21)), some (.int (g35 i35)), some (.int (g49 i49)), o8, o9]) cd_84_49 (Nat.le_of_ble_eq_true rfl) rfl ?_
  refine w_aload_n cd_84_51 rfl ?_
  refine w_getfield cd_84_52 (show mt_f 7 29 = some (7, 3) by decide +kernel) h54 h55 h57 ?_
  refine w_aload_n cd_84_55 rfl ?_
  refine w_getfield cd_84_56 (show mt_f 7 18 = some (7, 0) by decide +kernel) h59 h60 h62 ?_
  refine w_getfield cd_84_59 (show mt_f 7 129 = some (2, 3) by decide +kernel) h64 h65 h67 ?_
  refine w_iload_n cd_84_62 rfl ?_
  refine w_iaload cd_84_63 h69 h70 h71 ?_
  refine w_putfield (w := .int (g68 i68)) cd_84_64 (show mt_f 7 94 = some (9, 0) by decide +kernel) h73 h74 ⟨h75, rfl, Or.inl (by decide)⟩ ?_
  refine w_lload_n cd_84_67 rfl ?_
  refine w_lconst (lv := 0) cd_84_68 (by decide) ?_
  refine w_lcmp cd_84_69 ?_
  exact w_ifgt cd_84_70 (by decide) h76 h77
theorem b_84_73 {d : Nat} {Q : (Option Value ⊕ Nat) → mi_H → Prop} (n sl : Nat) (f : Nat → mi_C) {l1 : Nat} {l2 : Int32} {l3 : Int64} {l4 : Int32} {l5 : Int32} {l6 : Int32} {o7 : Option Value} {o8 : Option Value} {fs9 : List Value} {x12 : Nat} {fs14 : List Value} (h10 : f l1 = .inr (7, fs9)) (h11 : l1 < n) (h13 : fs9[7]? = some (.ref x12)) (h15 : f x12 = .inr (8, fs14)) (h16 : x12 < n) (h17 : mi_W d 96 0 (mi_en 3 [.ref x12, .int 2, .int l2]) [] (n, sl, f) (mi_Kc d 84 79 [some (.ref l1), some (.int l2), some (.long l3), none, some (.int l4), some (.int l5), some (.int l6), o7, o8] [] Q)) : mi_W (d + 1) 84 73 [some (.ref l1), some (.int l2), some (.long l3), none, some (.int l4), some (.int l5), some (.int l6), o7, o8] [] (n, sl, f) Q := by
  refine w_aload_n cd_84_73 rfl ?_
  refine w_getfield cd_84_74 (show mt_f 7 12 = some (7, 7) by decide +kernel) h10 h11 h13 ?_
  refine w_iconst (v := 2) cd_84_77 (by decide) ?_
  refine w_iload_n cd_84_78 rfl ?_
  exact w_invokevirtual cd_84_79 (show mt_m 7 139 = some (96, 0) by decide +kernel) (rest := []) rfl (as := [.ref x12, .int 2, .int l2]) rfl h15 (Or.inl h16) ⟨Nat.le_of_ble_eq_true rfl, Nat.le_of_ble_eq_true rfl, Nat.le_of_ble_eq_true rfl⟩ h17
theorem b_84_82 {d : Nat} {Q : (Option Value ⊕ Nat) → mi_H → Prop} (n sl : Nat) (f : Nat → mi_C) {l1 : Nat} {l2 : Int32} {l3 : Int64} {l4 : Int32} {l5 : Int32} {l6 : Int32} {o7 : Option Value} {o8 : Option Value} (h9 : Q (.inl none) (n, sl, f)) : mi_W d 84 82 [some (.ref l1), some (.int l2), some (.long l3), none, some (.int l4), some (.int l5), some (.int l6), o7, o8] [] (n, sl, f) Q := by
  exact w_return cd_84_82 (by decide +kernel) h9
theorem b_84_83 {d : Nat} {Q : (Option Value ⊕ Nat) → mi_H → Prop} (n sl : Nat) (f : Nat → mi_C) {l1 : Nat} {l2 : Int32} {l3 : Int64} {l4 : Int32} {l5 : Int32} {l6 : Int32} {o7 : Option Value} {o8 : Option Value} {fs9 : List Value} {x12 : Nat} {fs14 : List Value} (h10 : f l1 = .inr (7, fs9)) (h11 : l1 < n) (h13 : fs9[3]? = some (.ref x12)) (h15 : f x12 = .inr (9, fs14)) (h16 : x12 < n) (h17 : mi_W d 86 0 (mi_en 4 [.ref x12, .int l4, .int l6]) [] (n, sl, f) (mi_Kc d 84 92 [some (.ref l1), some (.int l2), some (.long l3), none, some (.int l4), some (.int l5), some (.int l6), o7, o8] [.long l3] Q)) : mi_W (d + 1) 84 83 [some (.ref l1), some (.int l2), some (.long l3), none, some (.int l4), some (.int l5), some (.int l6), o7, o8] [] (n, sl, f) Q := by
  refine w_lload_n cd_84_83 rfl ?_
  refine w_aload_n cd_84_84 rfl ?_
  refine w_getfield cd_84_85 (show mt_f 7 29 = some (7, 3) by decide +kernel) h10 h11 h13 ?_
  refine w_iload cd_84_88 rfl ?_
  refine w_iload cd_84_90 rfl ?_
  exact w_invokevirtual cd_84_92 (show mt_m 7 166 = some (86, 0) by decide +kernel) (rest := [.long l3]) rfl (as := [.ref x12, .int l4, .int l6]) rfl h15 (Or.inl h16) ⟨Nat.le_of_ble_eq_true rfl, Nat.le_of_ble_eq_true rfl, Nat.le_of_ble_eq_true rfl⟩ h17
theorem b_84_95 {d : Nat} {Q : (Option Value ⊕ Nat) → mi_H → Prop} (n sl : Nat) (f : Nat → mi_C) {l1 : Nat} {l2 : Int32} {l3 : Int64} {l4 : Int32} {l5 : Int32} {l6 : Int32} {o7 : Option Value} {o8 : Option Value} {s9 : Int64} {s10 : Int64} (h11 : mi_W d 97 0 (mi_en 4 [.long s10, .long s9]) [] (n, sl, f) (mi_Kc d 84 95 [some (.ref l1), some (.int l2), some (.long l3), none, some (.int l4), some (.int l5), some (.int l6), o7, o8] [] Q)) : mi_W (d + 1) 84 95 [some (.ref l1), some (.int l2), some (.long l3), none, some (.int l4), some (.int l5), some (.int l6), o7, o8] [.long s9, .long s10] (n, sl, f) Q := by
  exact w_invokestatic cd_84_95 (show mt_m 7 169 = some (97, 4) by decide +kernel) (by decide) (rest := []) rfl (as := [.long s10, .long s9]) rfl ⟨Nat.le_of_ble_eq_true rfl, Nat.le_of_ble_eq_true rfl, Nat.le_of_ble_eq_true rfl⟩ h11
theorem b_84_98 {d : Nat} {Q : (Option Value ⊕ Nat) → mi_H → Prop} (n sl : Nat) (f : Nat → mi_C) {l1 : Nat} {l2 : Int32} {l3 : Int64} {l4 : Int32} {l5 : Int32} {l6 : Int32} {o7 : Option Value} {o8 : Option Value} {s9 : Int64} {fs10 : List Value} {x13 : Nat} {fs15 : List Value} (h11 : f l1 = .inr (7, fs10)) (h12 : l1 < n) (h14 : fs10[3]? = some (.ref x13)) (h16 : f x13 = .inr (9, fs15)) (h17 : x13 < n) (h18 : mi_W d 98 0 (mi_en 6 [.ref x13, .int l4, .int l6, .long (-s9)]) [] (n, sl, f) (mi_Kc d 84 111 [some (.ref l1), some (.int l2), some (.long l3), none, some (.int l4), some (.int l5), some (.int l6), some (.long s9), none] [] Q)) : mi_W (d + 1) 84 98 [some (.ref l1), some (.int l2), some (.long l3), none, some (.int l4), some (.int l5), some (.int l6), o7, o8] [.long s9] (n, sl, f) Q := by
  refine w_lstore (ls' := [some (.ref l1), some (.int l2), some (.long l3), none, some (.int l4), some (.int l5), some (.int l6), some (.long s9), none]) cd_84_98 (Nat.le_of_ble_eq_true rfl) rfl ?_
  refine w_aload_n cd_84_100 rfl ?_
  refine w_getfield cd_84_101 (show mt_f 7 29 = some (7, 3) by decide +kernel) h11 h12 h14 ?_
  refine w_iload cd_84_104 rfl ?_
  refine w_iload cd_84_106 rfl ?_
  refine w_lload cd_84_108 rfl ?_
  refine w_lneg cd_84_110 ?_
  exact w_invokevirtual cd_84_111 (show mt_m 7 172 = some (98, 0) by decide +kernel) (rest := []) rfl (as := [.ref x13, .int l4, .int l6, .long (-s9)]) rfl h16 (Or.inl h17) ⟨Nat.le_of_ble_eq_true rfl, Nat.le_of_ble_eq_true rfl, Nat.le_of_ble_eq_true rfl⟩ h18
theorem b_84_114 {d : Nat} {Q : (Option Value ⊕ Nat) → mi_H → Prop} (n sl : Nat) (f : Nat → mi_C) {l1 : Nat} {l2 : Int32} {l3 : Int64} {l4 : Int32} {l5 : Int32} {l6 : Int32} {l7 : Int64} {s8 : Int32} (h9 : (0 : Int32) ≤ (lg_cmp l7 l3) → mi_W d 84 131 [some (.ref l1), some (.int l2), some (.long l3), none, some (.int l4), some (.int l5), some (.int l6), some (.long l7), none] [] (n, sl, f) Q) (h10 : ¬ ((0 : Int32) ≤ (lg_cmp l7 l3)) → mi_W d 84 122 [some (.ref l1), some (.int l2), some (.long l3), none, some (.int l4), some (.int l5), some (.int l6), some (.long l7), none] [] (n, sl, f) Q) : mi_W d 84 114 [some (.ref l1), some (.int l2), some (.long l3), none, some (.int l4), some (.int l5), some (.int l6), some (.long l7), none] [.int s8] (n, sl, f) Q := by
  refine w_pop_i cd_84_114 ?_
  refine w_lload cd_84_115 rfl ?_
  refine w_lload_n cd_84_117 rfl ?_
  refine w_lcmp cd_84_118 ?_
  exact w_ifge cd_84_119 (by decide) h9 h10
theorem b_84_122 {d : Nat} {Q : (Option Value ⊕ Nat) → mi_H → Prop} (n sl : Nat) (f : Nat → mi_C) {l1 : Nat} {l2 : Int32} {l3 : Int64} {l4 : Int32} {l5 : Int32} {l6 : Int32} {l7 : Int64} {fs8 : List Value} {x11 : Nat} {fs13 : List Value} (h9 : f l1 = .inr (7, fs8)) (h10 : l1 < n) (h12 : fs8[7]? = some (.ref x11)) (h14 : f x11 = .inr (8, fs13)) (h15 : x11 < n) (h16 : mi_W d 96 0 (mi_en 3 [.ref x11, .int 3, .int l2]) [] (n, sl, f) (mi_Kc d 84 128 [some (.ref l1), some (.int l2), some (.long l3), none, some (.int l4), some (.int l5), some (.int l6), some (.long l7), none] [] Q)) : mi_W (d + 1) 84 122 [some (.ref l1), some (.int l2), some (.long l3), none, some (.int l4), some (.int l5), some (.int l6), some (.long l7), none] [] (n, sl, f) Q := by
  refine w_aload_n cd_84_122 rfl ?_
  refine w_getfield cd_84_123 (show mt_f 7 12 = some (7, 7) by decide +kernel) h9 h10 h12 ?_
  refine w_iconst (v := 3) cd_84_126 (by decide) ?_
  refine w_iload_n cd_84_127 rfl ?_
  exact w_invokevirtual cd_84_128 (show mt_m 7 139 = some (96, 0) by decide +kernel) (rest := []) rfl (as := [.ref x11, .int 3, .int l2]) rfl h14 (Or.inl h15) ⟨Nat.le_of_ble_eq_true rfl, Nat.le_of_ble_eq_true rfl, Nat.le_of_ble_eq_true rfl⟩ h16
theorem b_84_131 {d : Nat} {Q : (Option Value ⊕ Nat) → mi_H → Prop} (n sl : Nat) (f : Nat → mi_C) {l1 : Nat} {l2 : Int32} {l3 : Int64} {l4 : Int32} {l5 : Int32} {l6 : Int32} {l7 : Int64} {fs8 : List Value} {x11 : Nat} {fs13 : List Value} {x16 : Nat} (m18 i18 : Nat) (g18 : Nat → Int32) (h9 : f l1 = .inr (7, fs8)) (h10 : l1 < n) (h12 : fs8[0]? = some (.ref x11)) (h14 : f x11 = .inr (2, fs13)) (h15 : x11 < n) (h17 : fs13[8]? = some (.ref x16)) (h19 : f x16 = .inl (2, m18, .inl g18)) (h20 : x16 < n) (h21 : mi_ix l2 m18 i18) (h22 : ¬ (g18 i18) = (0 : Int32) → mi_W d 84 168 [some (.ref l1), some (.int l2), some (.long l3), none, some (.int l4), some (.int l5), some (.int l6), some (.long l7), none] [] (n, sl, f) Q) (h23 : ¬ (¬ (g18 i18) = (0 : Int32)) → mi_W d 84 143 [some (.ref l1), some (.int l2), some (.long l3), none, some (.int l4), some (.int l5), some (.int l6), some (.long l7), none] [] (n, sl, f) Q) : mi_W d 84 131 [some (.ref l1), some (.int l2), some (.long l3), none, some (.int l4), some (.int l5), some (.int l6), some (.long l7), none] [] (n, sl, f) Q := by
  refine w_aload_n cd_84_131 rfl ?_
  refine w_getfield cd_84_132 (show mt_f 7 18 = some (7, 0) by decide +kernel) h9 h10 h12 ?_
  refine w_getfield cd_84_135 (show mt_f 7 176 = some (2, 8) by decide +kernel) h14 h15 h17 ?_
  refine w_iload_n cd_84_138 rfl ?_
  refine w_baload2 cd_84_139 h19 h20 h21 ?_
  exact w_ifne cd_84_140 (by decide) h22 h23
theorem b_84_143 {d : Nat} {Q : (Option Value ⊕ Nat) → mi_H → Prop} (n sl : Nat) (f : Nat → mi_C) {l1 : Nat} {l2 : Int32} {l3 : Int64} {l4 : Int32} {l5 : Int32} {l6 : Int32} {l7 : Int64} (h8 : (lg_cmp l7 0) = (0 : Int32) → mi_W d 84 168 [some (.ref l1), some (.int l2), some (.long l3), none, some (.int l4), some (.int l5), some (.int l6), some (.long l7), none] [] (n, sl, f) Q) (h9 : ¬ ((lg_cmp l7 0) = (0 : Int32)) → mi_W d 84 150 [some (.ref l1), some (.int l2), some (.long l3), none, some (.int l4), some (.int l5), some (.int l6), some (.long l7), none] [] (n, sl, f) Q) : mi_W d 84 143 [some (.ref l1), some (.int l2), some (.long l3), none, some (.int l4), some (.int l5), some (.int l6), some (.long l7), none] [] (n, sl, f) Q := by
  refine w_lload cd_84_143 rfl ?_
  refine w_lconst (lv := 0) cd_84_145 (by decide) ?_
  refine w_lcmp cd_84_146 ?_
  exact w_ifeq cd_84_147 (by decide) h8 h9
theorem b_84_150 {d : Nat} {Q : (Option Value ⊕ Nat) → mi_H → Prop} (n sl : Nat) (f : Nat → mi_C) {l1 : Nat} {l2 : Int32} {l3 : Int64} {l4 : Int32} {l5 : Int32} {l6 : Int32} {l7 : Int64} {fs8 : List Value} {x11 : Nat} {fs13 : List Value} (h9 : f l1 = .inr (7, fs8)) (h10 : l1 < n) (h12 : fs8[7]? = some (.ref x11)) (h14 : f x11 = .inr (8, fs13)) (h15 : x11 < n) (h16 : mi_W d 83 0 (mi_en 6 [.ref x11, .int l4, .int l5, .int l6, .long l7]) [] (n, sl, f) (mi_Kc d 84 162 [some (.ref l1), some (.int l2), some (.long l3), none, some (.int l4), some (.int l5), some (.int l6), some (.long l7), none] [] Q)) : mi_W (d + 1) 84 150 [some (.ref l1), some (.int l2), some (.long l3), none, some (.int l4), some (.int l5), some (.int l6), some (.long l7), none] [] (n, sl, f) Q := by
  refine w_aload_n cd_84_150 rfl ?_
  refine w_getfield cd_84_151 (show mt_f 7 12 = some (7, 7) by decide +kernel) h9 h10 h12 ?_
  refine w_iload cd_84_154 rfl ?_
  refine w_iload cd_84_156 rfl ?_
  refine w_iload cd_84_158 rfl ?_
  refine w_lload cd_84_160 rfl ?_
  exact w_invokevirtual cd_84_162 (show mt_m 7 150 = some (83, 0) by decide +kernel) (rest := []) rfl (as := [.ref x11, .int l4, .int l5, .int l6, .long l7]) rfl h14 (Or.inl h15) ⟨Nat.le_of_ble_eq_true rfl, Nat.le_of_ble_eq_true rfl, Nat.le_of_ble_eq_true rfl⟩ h16
theorem b_84_165 {d : Nat} {Q : (Option Value ⊕ Nat) → mi_H → Prop} (n sl : Nat) (f : Nat → mi_C) {l1 : Nat} {l2 : Int32} {l3 : Int64} {l4 : Int32} {l5 : Int32} {l6 : Int32} {l7 : Int64} (h8 : mi_W d 84 202 [some (.ref l1), some (.int l2), some (.long l3), none, some (.int l4), some (.int l5), some (.int l6), some (.long l7), none] [] (n, sl, f) Q) : mi_W d 84 165 [some (.ref l1), some (.int l2), some (.long l3), none, some (.int l4), some (.int l5), some (.int l6), some (.long l7), none] [] (n, sl, f) Q := by
  exact w_goto cd_84_165 (by decide) h8
theorem b_84_168 {d : Nat} {Q : (Option Value ⊕ Nat) → mi_H → Prop} (n sl : Nat) (f : Nat → mi_C) {l1 : Nat} {l2 : Int32} {l3 : Int64} {l4 : Int32} {l5 : Int32} {l6 : Int32} {l7 : Int64} {fs8 : List Value} {x11 : Nat} {fs13 : List Value} {x16 : Nat} (m18 i18 : Nat) (g18 : Nat → Int32) (h9 : f l1 = .inr (7, fs8)) (h10 : l1 < n) (h12 : fs8[0]? = some (.ref x11)) (h14 : f x11 = .inr (2, fs13)) (h15 : x11 < n) (h17 : fs13[8]? = some (.ref x16)) (h19 : f x16 = .inl (2, m18, .inl g18)) (h20 : x16 < n) (h21 : mi_ix l2 m18 i18) (h22 : (g18 i18) = (0 : Int32) → mi_W d 84 202 [some (.ref l1), some (.int l2), some (.long l3), none, some (.int l4), some (.int l5), some (.int l6), some (.long l7), none] [] (n, sl, f) Q) (h23 : ¬ ((g18 i18) = (0 : Int32)) → mi_W d 84 180 [some (.ref l1), some (.int l2), some (.long l3), none, some (.int l4), some (.int l5), some (.int l6), some (.long l7), none] [] (n, sl, f) Q) : mi_W d 84 168 [some (.ref l1), some (.int l2), some (.long l3), none, some (.int l4), some (.int l5), some (.int l6), some (.long l7), none] [] (n, sl, f) Q := by
  refine w_aload_n cd_84_168 rfl ?_
  refine w_getfield cd_84_169 (show mt_f 7 18 = some (7, 0) by decide +kernel) h9 h10 h12 ?_
  refine w_getfield cd_84_172 (show mt_f 7 176 = some (2, 8) by decide +kernel) h14 h15 h17 ?_
  refine w_iload_n cd_84_175 rfl ?_
  refine w_baload2 cd_84_176 h19 h20 h21 ?_
  exact w_ifeq cd_84_177 (by decide) h22 h23
theorem b_84_180 {d : Nat} {Q : (Option Value ⊕ Nat) → mi_H → Prop} (n sl : Nat) (f : Nat → mi_C) {l1 : Nat} {l2 : Int32} {l3 : Int64} {l4 : Int32} {l5 : Int32} {l6 : Int32} {l7 : Int64} {fs8 : List Value} {x11 : Nat} {fs13 : List Value} (h9 : f l1 = .inr (7, fs8)) (h10 : l1 < n) (h12 : fs8[3]? = some (.ref x11)) (h14 : f x11 = .inr (9, fs13)) (h15 : x11 < n) (h16 : mi_W d 98 0 (mi_en 6 [.ref x11, .int l5, .int l6, .long l7]) [] (n, sl, f) (mi_Kc d 84 190 [some (.ref l1), some (.int l2), some (.long l3), none, some (.int l4), some (.int l5), some (.int l6), some (.long l7), none] [] Q)) : mi_W (d + 1) 84 180 [some (.ref l1), some (.int l2), some (.long l3), none, some (.int l4), some (.int l5), some (.int l6), some (.long l7), none] [] (n, sl, f) Q := by
  refine w_aload_n cd_84_180 rfl ?_
  refine w_getfield cd_84_181 (show mt_f 7 29 = some (7, 3) by decide +kernel) h9 h10 h12 ?_
  refine w_iload cd_84_184 rfl ?_
  refine w_iload cd_84_186 rfl ?_
  refine w_lload cd_84_188 rfl ?_
  exact w_invokevirtual cd_84_190 (show mt_m 7 172 = some (98, 0) by decide +kernel) (rest := []) rfl (as := [.ref x11, .int l5, .int l6, .long l7]) rfl h14 (Or.inl h15) ⟨Nat.le_of_ble_eq_true rfl, Nat.le_of_ble_eq_true rfl, Nat.le_of_ble_eq_true rfl⟩ h16
theorem b_84_193 {d : Nat} {Q : (Option Value ⊕ Nat) → mi_H → Prop} (n sl : Nat) (f : Nat → mi_C) {l1 : Nat} {l2 : Int32} {l3 : Int64} {l4 : Int32} {l5 : Int32} {l6 : Int32} {l7 : Int64} {s8 : Int32} (h9 : ¬ s8 = (0 : Int32) → mi_W d 84 202 [some (.ref l1), some (.int l2), some (.long l3), none, some (.int l4), some (.int l5), some (.int l6), some (.long l7), none] [] (n, sl, f) Q) (h10 : ¬ (¬ s8 = (0 : Int32)) → mi_W d 84 196 [some (.ref l1), some (.int l2), some (.long l3), none, some (.int l4), some (.int l5), some (.int l6), some (.long l7), none] [] (n, sl, f) Q) : mi_W d 84 193 [some (.ref l1), some (.int l2), some (.long l3), none, some (.int l4), some (.int l5), some (.int l6), some (.long l7), none] [.int s8] (n, sl, f) Q := by
  exact w_ifne cd_84_193 (by decide) h9 h10
theorem b_84_196 {d : Nat} {Q : (Option Value ⊕ Nat) → mi_H → Prop} (n sl : Nat) (f : Nat → mi_C) {l1 : Nat} {l2 : Int32} {l3 : Int64} {l4 : Int32} {l5 : Int32} {l6 : Int32} {l7 : Int64} {fs8 : List Value} (h9 : f l1 = .inr (7, fs8)) (h10 : l1 < n) (h11 : 6 < fs8.length) (h12 : mi_W d 84 202 [some (.ref l1), some (.int l2), some (.long l3), none, some (.int l4), some (.int l5), some (.int l6), some (.long l7), none] [] (n, sl, (va_up f l1 (.inr (7, fs8.set 6 (.int 6))))) Q) : mi_W d 84 196 [some (.ref l1), some (.int l2), some (.long l3), none, some (.int l4), some (.int l5), some (.int l6), some (.long l7), none] [] (n, sl, f) Q := by
  refine w_aload_n cd_84_196 rfl ?_
  refine w_bipush (v := 6) cd_84_197 (by decide) ?_
  refine w_putfield (w := .int 6) cd_84_199 (show mt_f 7 49 = some (7, 6) by decide +kernel) h9 h10 ⟨h11, rfl, Or.inl (by decide)⟩ ?_
  exact h12
theorem b_84_202 {d : Nat} {Q : (Option Value ⊕ Nat) → mi_H → Prop} (n sl : Nat) (f : Nat → mi_C) {l1 : Nat} {l2 : Int32} {l3 : Int64} {l4 : Int32} {l5 : Int32} {l6 : Int32} {l7 : Int64} (h8 : Q (.inl none) (n, sl, f)) : mi_W d 84 202 [some (.ref l1), some (.int l2), some (.long l3), none, some (.int l4), some (.int l5), some (.int l6), some (.long l7), none] [] (n, sl, f) Q := by
  exact w_return cd_84_202 (by decide +kernel) h8
/-! MarloweHost$Reckoner.value(II)J -/
set_option maxRecDepth 100000 in
theorem mq_85 : mt_q 85 = my_85 := rfl
set_option maxRecDepth 100000 in
theorem ci_85 : mt_inc 0 my_85.cd = true := by decide +kernel
theorem cd_85_0 : mt_cd 85 0 = some (.aload_n 0) := mt_cd_of (q := (0, .aload_n 0, 1)) mq_85 ci_85 (List.mem_append_left _ (show _ ∈ my_85_0 from List.mem_of_getElem? (i := 0) rfl))
theorem cd_85_1 : mt_cd 85 1 = some (.getfield 26) := mt_cd_of (q := (1, .getfield 26, 3)) mq_85 ci_85 (List.mem_append_left _ (show _ ∈ my_85_0 from List.mem_of_getElem? (i := 1) rfl))
theorem cd_85_4 : mt_cd 85 4 = some (.ifCond .ne 20) := mt_cd_of (q := (4, .ifCond .ne 20, 3)) mq_85 ci_85 (List.mem_append_left _ (show _ ∈ my_85_0 from List.mem_of_getElem? (i := 2) rfl))
theorem cd_85_7 : mt_cd 85 7 = some (.iload_n 2) := mt_cd_of (q := (7, .iload_n 2, 1)) mq_85 ci_85 (List.mem_append_left _ (show _ ∈ my_85_0 from List.mem_of_getElem? (i := 3) rfl))
theorem cd_85_8 : mt_cd 85 8 = some (.bipush 100) := mt_cd_of (q := (8, .bipush 100, 2)) mq_85 ci_85 (List.mem_append_left _ (show _ ∈ my_85_0 from List.mem_of_getElem? (i := 4) rfl))
theorem cd_85_10 : mt_cd 85 10 = some (.if_icmp .gt 14) := mt_cd_of (q := (10, .if_icmp .gt 14, 3)) mq_85 ci_85 (List.mem_append_left _ (show _ ∈ my_85_0 from List.mem_of_getElem? (i := 5) rfl))
theorem cd_85_13 : mt_cd 85 13 = some (.aload_n 0) := mt_cd_of (q := (13, .aload_n 0, 1)) mq_85 ci_85 (List.mem_append_left _ (show _ ∈ my_85_0 from List.mem_of_getElem? (i := 6) rfl))
theorem cd_85_14 : mt_cd 85 14 = some (.getfield 9) := mt_cd_of (q := (14, .getfield 9, 3)) mq_85 ci_85 (List.mem_append_left _ (show _ ∈ my_85_0 from List.mem_of_getElem? (i := 7) rfl))
theorem cd_85_17 : mt_cd 85 17 = some (.iload_n 1) := mt_cd_of (q := (17, .iload_n 1, 1)) mq_85 ci_85 (List.mem_append_left _ (show _ ∈ my_85_0 from List.mem_of_getElem? (i := 8) rfl))
theorem cd_85_18 : mt_cd 85 18 = some (.invokevirtual 30) := mt_cd_of (q := (18, .invokevirtual 30, 3)) mq_85 ci_85 (List.mem_append_left _ (show _ ∈ my_85_0 from List.mem_of_getElem? (i := 9) rfl))
theorem cd_85_21 : mt_cd 85 21 = some (.ifCond .ne 5) := mt_cd_of (q := (21, .ifCond .ne 5, 3)) mq_85 ci_85 (List.mem_append_left _ (show _ ∈ my_85_0 from List.mem_of_getElem? (i := 10) rfl))
theorem cd_85_24 : mt_cd 85 24 = some (.lconst 0) := mt_cd_of (q := (24, .lconst 0, 1)) mq_85 ci_85 (List.mem_append_left _ (show _ ∈ my_85_0 from List.mem_of_getElem? (i := 11) rfl))
theorem cd_85_25 : mt_cd 85 25 = some (.lreturn) := mt_cd_of (q := (25, .lreturn, 1)) mq_85 ci_85 (List.mem_append_left _ (show _ ∈ my_85_0 from List.mem_of_getElem? (i := 12) rfl))
theorem cd_85_26 : mt_cd 85 26 = some (.aload_n 0) := mt_cd_of (q := (26, .aload_n 0, 1)) mq_85 ci_85 (List.mem_append_left _ (show _ ∈ my_85_0 from List.mem_of_getElem? (i := 13) rfl))
theorem cd_85_27 : mt_cd 85 27 = some (.getfield 9) := mt_cd_of (q := (27, .getfield 9, 3)) mq_85 ci_85 (List.mem_append_left _ (show _ ∈ my_85_0 from List.mem_of_getElem? (i := 14) rfl))
theorem cd_85_30 : mt_cd 85 30 = some (.getfield 36) := mt_cd_of (q := (30, .getfield 36, 3)) mq_85 ci_85 (List.mem_append_left _ (show _ ∈ my_85_0 from List.mem_of_getElem? (i := 15) rfl))
theorem cd_85_33 : mt_cd 85 33 = some (.iload_n 1) := mt_cd_of (q := (33, .iload_n 1, 1)) mq_85 ci_85 (List.mem_append_left _ (show _ ∈ my_85_0 from List.mem_of_getElem? (i := 16) rfl))
theorem cd_85_34 : mt_cd 85 34 = some (.iaload) := mt_cd_of (q := (34, .iaload, 1)) mq_85 ci_85 (List.mem_append_left _ (show _ ∈ my_85_0 from List.mem_of_getElem? (i := 17) rfl))
theorem cd_85_35 : mt_cd 85 35 = some (.istore_n 3) := mt_cd_of (q := (35, .istore_n 3, 1)) mq_85 ci_85 (List.mem_append_left _ (show _ ∈ my_85_0 from List.mem_of_getElem? (i := 18) rfl))
theorem cd_85_36 : mt_cd 85 36 = some (.aload_n 0) := mt_cd_of (q := (36, .aload_n 0, 1)) mq_85 ci_85 (List.mem_append_left _ (show _ ∈ my_85_0 from List.mem_of_getElem? (i := 19) rfl))
theorem cd_85_37 : mt_cd 85 37 = some (.getfield 9) := mt_cd_of (q := (37, .getfield 9, 3)) mq_85 ci_85 (List.mem_append_left _ (show _ ∈ my_85_0 from List.mem_of_getElem? (i := 20) rfl))
theorem cd_85_40 : mt_cd 85 40 = some (.getfield 40) := mt_cd_of (q := (40, .getfield 40, 3)) mq_85 ci_85 (List.mem_append_left _ (show _ ∈ my_85_0 from List.mem_of_getElem? (i := 21) rfl))
theorem cd_85_43 : mt_cd 85 43 = some (.iload_n 1) := mt_cd_of (q := (43, .iload_n 1, 1)) mq_85 ci_85 (List.mem_append_left _ (show _ ∈ my_85_0 from List.mem_of_getElem? (i := 22) rfl))
theorem cd_85_44 : mt_cd 85 44 = some (.iaload) := mt_cd_of (q := (44, .iaload, 1)) mq_85 ci_85 (List.mem_append_left _ (show _ ∈ my_85_0 from List.mem_of_getElem? (i := 23) rfl))
theorem cd_85_45 : mt_cd 85 45 = some (.istore 4) := mt_cd_of (q := (45, .istore 4, 2)) mq_85 ci_85 (List.mem_append_left _ (show _ ∈ my_85_0 from List.mem_of_getElem? (i := 24) rfl))
theorem cd_85_47 : mt_cd 85 47 = some (.aload_n 0) := mt_cd_of (q := (47, .aload_n 0, 1)) mq_85 ci_85 (List.mem_append_left _ (show _ ∈ my_85_0 from List.mem_of_getElem? (i := 25) rfl))
theorem cd_85_48 : mt_cd 85 48 = some (.getfield 9) := mt_cd_of (q := (48, .getfield 9, 3)) mq_85 ci_85 (List.mem_append_left _ (show _ ∈ my_85_0 from List.mem_of_getElem? (i := 26) rfl))
theorem cd_85_51 : mt_cd 85 51 = some (.getfield 43) := mt_cd_of (q := (51, .getfield 43, 3)) mq_85 ci_85 (List.mem_append_left _ (show _ ∈ my_85_0 from List.mem_of_getElem? (i := 27) rfl))
theorem cd_85_54 : mt_cd 85 54 = some (.iload_n 1) := mt_cd_of (q := (54, .iload_n 1, 1)) mq_85 ci_85 (List.mem_append_left _ (show _ ∈ my_85_0 from List.mem_of_getElem? (i := 28) rfl))
theorem cd_85_55 : mt_cd 85 55 = some (.iaload) := mt_cd_of (q := (55, .iaload, 1)) mq_85 ci_85 (List.mem_append_left _ (show _ ∈ my_85_0 from List.mem_of_getElem? (i := 29) rfl))
theorem cd_85_56 : mt_cd 85 56 = some (.tableswitch 323 11 37 #[134, 212, 160, 177, 194, 203, 222, 323, 323, 323, 323, 323, 323, 323, 323, 323, 323, 255, 278, 301, 323, 323, 323, 323, 323, 323, 124]) := mt_cd_of (q := (56, .tableswitch 323 11 37 #[134, 212, 160, 177, 194, 203, 222, 323, 323, 323, 323, 323, 323, 323, 323, 323, 323, 255, 278, 301, 323, 323, 323, 323, 323, 323, 124], 124)) mq_85 ci_85 (List.mem_append_left _ (show _ ∈ my_85_0 from List.mem_of_getElem? (i := 30) rfl))
theorem cd_85_180 : mt_cd 85 180 = some (.aload_n 0) := mt_cd_of (q := (180, .aload_n 0, 1)) mq_85 ci_85 (List.mem_append_left _ (show _ ∈ my_85_0 from List.mem_of_getElem? (i := 31) rfl))
theorem cd_85_181 : mt_cd 85 181 = some (.getfield 9) := mt_cd_of (q := (181, .getfield 9, 3)) mq_85 ci_85 (List.mem_append_left _ (show _ ∈ my_85_0 from List.mem_of_getElem? (i := 32) rfl))
theorem cd_85_184 : mt_cd 85 184 = some (.getfield 46) := mt_cd_of (q := (184, .getfield 46, 3)) mq_85 ci_85 (List.mem_append_left _ (show _ ∈ my_85_0 from List.mem_of_getElem? (i := 33) rfl))
theorem cd_85_187 : mt_cd 85 187 = some (.iload_n 1) := mt_cd_of (q := (187, .iload_n 1, 1)) mq_85 ci_85 (List.mem_append_left _ (show _ ∈ my_85_0 from List.mem_of_getElem? (i := 34) rfl))
theorem cd_85_188 : mt_cd 85 188 = some (.laload) := mt_cd_of (q := (188, .laload, 1)) mq_85 ci_85 (List.mem_append_left _ (show _ ∈ my_85_0 from List.mem_of_getElem? (i := 35) rfl))
theorem cd_85_189 : mt_cd 85 189 = some (.lreturn) := mt_cd_of (q := (189, .lreturn, 1)) mq_85 ci_85 (List.mem_append_left _ (show _ ∈ my_85_0 from List.mem_of_getElem? (i := 36) rfl))
theorem cd_85_190 : mt_cd 85 190 = some (.aload_n 0) := mt_cd_of (q := (190, .aload_n 0, 1)) mq_85 ci_85 (List.mem_append_left _ (show _ ∈ my_85_0 from List.mem_of_getElem? (i := 37) rfl))
theorem cd_85_191 : mt_cd 85 191 = some (.getfield 15) := mt_cd_of (q := (191, .getfield 15, 3)) mq_85 ci_85 (List.mem_append_left _ (show _ ∈ my_85_0 from List.mem_of_getElem? (i := 38) rfl))
theorem cd_85_194 : mt_cd 85 194 = some (.aload_n 0) := mt_cd_of (q := (194, .aload_n 0, 1)) mq_85 ci_85 (List.mem_append_left _ (show _ ∈ my_85_0 from List.mem_of_getElem? (i := 39) rfl))
theorem cd_85_195 : mt_cd 85 195 = some (.getfield 9) := mt_cd_of (q := (195, .getfield 9, 3)) mq_85 ci_85 (List.mem_append_left _ (show _ ∈ my_85_0 from List.mem_of_getElem? (i := 40) rfl))
theorem cd_85_198 : mt_cd 85 198 = some (.getfield 50) := mt_cd_of (q := (198, .getfield 50, 3)) mq_85 ci_85 (List.mem_append_left _ (show _ ∈ my_85_0 from List.mem_of_getElem? (i := 41) rfl))
theorem cd_85_201 : mt_cd 85 201 = some (.iload_n 1) := mt_cd_of (q := (201, .iload_n 1, 1)) mq_85 ci_85 (List.mem_append_left _ (show _ ∈ my_85_0 from List.mem_of_getElem? (i := 42) rfl))
theorem cd_85_202 : mt_cd 85 202 = some (.iaload) := mt_cd_of (q := (202, .iaload, 1)) mq_85 ci_85 (List.mem_append_left _ (show _ ∈ my_85_0 from List.mem_of_getElem? (i := 43) rfl))
theorem cd_85_203 : mt_cd 85 203 = some (.aload_n 0) := mt_cd_of (q := (203, .aload_n 0, 1)) mq_85 ci_85 (List.mem_append_left _ (show _ ∈ my_85_0 from List.mem_of_getElem? (i := 44) rfl))
theorem cd_85_204 : mt_cd 85 204 = some (.getfield 9) := mt_cd_of (q := (204, .getfield 9, 3)) mq_85 ci_85 (List.mem_append_left _ (show _ ∈ my_85_0 from List.mem_of_getElem? (i := 45) rfl))
theorem cd_85_207 : mt_cd 85 207 = some (.getfield 53) := mt_cd_of (q := (207, .getfield 53, 3)) mq_85 ci_85 (List.mem_append_left _ (show _ ∈ my_85_0 from List.mem_of_getElem? (i := 46) rfl))
theorem cd_85_210 : mt_cd 85 210 = some (.iload_n 1) := mt_cd_of (q := (210, .iload_n 1, 1)) mq_85 ci_85 (List.mem_append_left _ (show _ ∈ my_85_0 from List.mem_of_getElem? (i := 47) rfl))
theorem cd_85_211 : mt_cd 85 211 = some (.iaload) := mt_cd_of (q := (211, .iaload, 1)) mq_85 ci_85 (List.mem_append_left _ (show _ ∈ my_85_0 from List.mem_of_getElem? (i := 48) rfl))
theorem cd_85_212 : mt_cd 85 212 = some (.invokevirtual 56) := mt_cd_of (q := (212, .invokevirtual 56, 3)) mq_85 ci_85 (List.mem_append_left _ (show _ ∈ my_85_0 from List.mem_of_getElem? (i := 49) rfl))
theorem cd_85_215 : mt_cd 85 215 = some (.lreturn) := mt_cd_of (q := (215, .lreturn, 1)) mq_85 ci_85 (List.mem_append_left _ (show _ ∈ my_85_0 from List.mem_of_getElem? (i := 50) rfl))
theorem cd_85_216 : mt_cd 85 216 = some (.aload_n 0) := mt_cd_of (q := (216, .aload_n 0, 1)) mq_85 ci_85 (List.mem_append_left _ (show _ ∈ my_85_0 from List.mem_of_getElem? (i := 51) rfl))
theorem cd_85_217 : mt_cd 85 217 = some (.getfield 15) := mt_cd_of (q := (217, .getfield 15, 3)) mq_85 ci_85 (List.mem_append_left _ (show _ ∈ my_85_0 from List.mem_of_getElem? (i := 52) rfl))
theorem cd_85_220 : mt_cd 85 220 = some (.aload_n 0) := mt_cd_of (q := (220, .aload_n 0, 1)) mq_85 ci_85 (List.mem_append_left _ (show _ ∈ my_85_0 from List.mem_of_getElem? (i := 53) rfl))
theorem cd_85_221 : mt_cd 85 221 = some (.getfield 9) := mt_cd_of (q := (221, .getfield 9, 3)) mq_85 ci_85 (List.mem_append_left _ (show _ ∈ my_85_0 from List.mem_of_getElem? (i := 54) rfl))
theorem cd_85_224 : mt_cd 85 224 = some (.getfield 50) := mt_cd_of (q := (224, .getfield 50, 3)) mq_85 ci_85 (List.mem_append_left _ (show _ ∈ my_85_0 from List.mem_of_getElem? (i := 55) rfl))
theorem cd_85_227 : mt_cd 85 227 = some (.iload_n 1) := mt_cd_of (q := (227, .iload_n 1, 1)) mq_85 ci_85 (List.mem_append_left _ (show _ ∈ my_85_0 from List.mem_of_getElem? (i := 56) rfl))
theorem cd_85_228 : mt_cd 85 228 = some (.iaload) := mt_cd_of (q := (228, .iaload, 1)) mq_85 ci_85 (List.mem_append_left _ (show _ ∈ my_85_0 from List.mem_of_getElem? (i := 57) rfl))
theorem cd_85_229 : mt_cd 85 229 = some (.invokevirtual 62) := mt_cd_of (q := (229, .invokevirtual 62, 3)) mq_85 ci_85 (List.mem_append_left _ (show _ ∈ my_85_0 from List.mem_of_getElem? (i := 58) rfl))
theorem cd_85_232 : mt_cd 85 232 = some (.lreturn) := mt_cd_of (q := (232, .lreturn, 1)) mq_85 ci_85 (List.mem_append_left _ (show _ ∈ my_85_0 from List.mem_of_getElem? (i := 59) rfl))
theorem cd_85_233 : mt_cd 85 233 = some (.aload_n 0) := mt_cd_of (q := (233, .aload_n 0, 1)) mq_85 ci_85 (List.mem_append_right _ (List.mem_append_left _ (show _ ∈ my_85_1 from List.mem_of_getElem? (i := 0) rfl)))
theorem cd_85_234 : mt_cd 85 234 = some (.getfield 15) := mt_cd_of (q := (234, .getfield 15, 3)) mq_85 ci_85 (List.mem_append_right _ (List.mem_append_left _ (show _ ∈ my_85_1 from List.mem_of_getElem? (i := 1) rfl)))
theorem cd_85_237 : mt_cd 85 237 = some (.aload_n 0) := mt_cd_of (q := (237, .aload_n 0, 1)) mq_85 ci_85 (List.mem_append_right _ (List.mem_append_left _ (show _ ∈ my_85_1 from List.mem_of_getElem? (i := 2) rfl)))
theorem cd_85_238 : mt_cd 85 238 = some (.getfield 9) := mt_cd_of (q := (238, .getfield 9, 3)) mq_85 ci_85 (List.mem_append_right _ (List.mem_append_left _ (show _ ∈ my_85_1 from List.mem_of_getElem? (i := 3) rfl)))
theorem cd_85_241 : mt_cd 85 241 = some (.getfield 50) := mt_cd_of (q := (241, .getfield 50, 3)) mq_85 ci_85 (List.mem_append_right _ (List.mem_append_left _ (show _ ∈ my_85_1 from List.mem_of_getElem? (i := 4) rfl)))
theorem cd_85_244 : mt_cd 85 244 = some (.iload_n 1) := mt_cd_of (q := (244, .iload_n 1, 1)) mq_85 ci_85 (List.mem_append_right _ (List.mem_append_left _ (show _ ∈ my_85_1 from List.mem_of_getElem? (i := 5) rfl)))
theorem cd_85_245 : mt_cd 85 245 = some (.iaload) := mt_cd_of (q := (245, .iaload, 1)) mq_85 ci_85 (List.mem_append_right _ (List.mem_append_left _ (show _ ∈ my_85_1 from List.mem_of_getElem? (i := 6) rfl)))
theorem cd_85_246 : mt_cd 85 246 = some (.invokevirtual 66) := mt_cd_of (q := (246, .invokevirtual 66, 3)) mq_85 ci_85 (List.mem_append_right _ (List.mem_append_left _ (show _ ∈ my_85_1 from List.mem_of_getElem? (i := 7) rfl)))
theorem cd_85_249 : mt_cd 85 249 = some (.lreturn) := mt_cd_of (q := (249, .lreturn, 1)) mq_85 ci_85 (List.mem_append_right _ (List.mem_append_left _ (show _ ∈ my_85_1 from List.mem_of_getElem? (i := 8) rfl)))
theorem cd_85_250 : mt_cd 85 250 = some (.aload_n 0) := mt_cd_of (q := (250, .aload_n 0, 1)) mq_85 ci_85 (List.mem_append_right _ (List.mem_append_left _ (show _ ∈ my_85_1 from List.mem_of_getElem? (i := 9) rfl)))
theorem cd_85_251 : mt_cd 85 251 = some (.aload_n 0) := mt_cd_of (q := (251, .aload_n 0, 1)) mq_85 ci_85 (List.mem_append_right _ (List.mem_append_left _ (show _ ∈ my_85_1 from List.mem_of_getElem? (i := 10) rfl)))
theorem cd_85_252 : mt_cd 85 252 = some (.getfield 19) := mt_cd_of (q := (252, .getfield 19, 3)) mq_85 ci_85 (List.mem_append_right _ (List.mem_append_left _ (show _ ∈ my_85_1 from List.mem_of_getElem? (i := 11) rfl)))
theorem cd_85_255 : mt_cd 85 255 = some (.invokevirtual 69) := mt_cd_of (q := (255, .invokevirtual 69, 3)) mq_85 ci_85 (List.mem_append_right _ (List.mem_append_left _ (show _ ∈ my_85_1 from List.mem_of_getElem? (i := 12) rfl)))
theorem cd_85_258 : mt_cd 85 258 = some (.lreturn) := mt_cd_of (q := (258, .lreturn, 1)) mq_85 ci_85 (List.mem_append_right _ (List.mem_append_left _ (show _ ∈ my_85_1 from List.mem_of_getElem? (i := 13) rfl)))
theorem cd_85_259 : mt_cd 85 259 = some (.aload_n 0) := mt_cd_of (q := (259, .aload_n 0, 1)) mq_85 ci_85 (List.mem_append_right _ (List.mem_append_left _ (show _ ∈ my_85_1 from List.mem_of_getElem? (i := 14) rfl)))
theorem cd_85_260 : mt_cd 85 260 = some (.aload_n 0) := mt_cd_of (q := (260, .aload_n 0, 1)) mq_85 ci_85 (List.mem_append_right _ (List.mem_append_left _ (show _ ∈ my_85_1 from List.mem_of_getElem? (i := 15) rfl)))
theorem cd_85_261 : mt_cd 85 261 = some (.getfield 23) := mt_cd_of (q := (261, .getfield 23, 3)) mq_85 ci_85 (List.mem_append_right _ (List.mem_append_left _ (show _ ∈ my_85_1 from List.mem_of_getElem? (i := 16) rfl)))
theorem cd_85_264 : mt_cd 85 264 = some (.invokevirtual 69) := mt_cd_of (q := (264, .invokevirtual 69, 3)) mq_85 ci_85 (List.mem_append_right _ (List.mem_append_left _ (show _ ∈ my_85_1 from List.mem_of_getElem? (i := 17) rfl)))
theorem cd_85_267 : mt_cd 85 267 = some (.lreturn) := mt_cd_of (q := (267, .lreturn, 1)) mq_85 ci_85 (List.mem_append_right _ (List.mem_append_left _ (show _ ∈ my_85_1 from List.mem_of_getElem? (i := 18) rfl)))
theorem cd_85_268 : mt_cd 85 268 = some (.aload_n 0) := mt_cd_of (q := (268, .aload_n 0, 1)) mq_85 ci_85 (List.mem_append_right _ (List.mem_append_left _ (show _ ∈ my_85_1 from List.mem_of_getElem? (i := 19) rfl)))
theorem cd_85_269 : mt_cd 85 269 = some (.iload_n 3) := mt_cd_of (q := (269, .iload_n 3, 1)) mq_85 ci_85 (List.mem_append_right _ (List.mem_append_left _ (show _ ∈ my_85_1 from List.mem_of_getElem? (i := 20) rfl)))
theorem cd_85_270 : mt_cd 85 270 = some (.iload_n 2) := mt_cd_of (q := (270, .iload_n 2, 1)) mq_85 ci_85 (List.mem_append_right _ (List.mem_append_left _ (show _ ∈ my_85_1 from List.mem_of_getElem? (i := 21) rfl)))
theorem cd_85_271 : mt_cd 85 271 = some (.iconst 1) := mt_cd_of (q := (271, .iconst 1, 1)) mq_85 ci_85 (List.mem_append_right _ (List.mem_append_left _ (show _ ∈ my_85_1 from List.mem_of_getElem? (i := 22) rfl)))
theorem cd_85_272 : mt_cd 85 272 = some (.iadd) := mt_cd_of (q := (272, .iadd, 1)) mq_85 ci_85 (List.mem_append_right _ (List.mem_append_left _ (show _ ∈ my_85_1 from List.mem_of_getElem? (i := 23) rfl)))
theorem cd_85_273 : mt_cd 85 273 = some (.invokevirtual 73) := mt_cd_of (q := (273, .invokevirtual 73, 3)) mq_85 ci_85 (List.mem_append_right _ (List.mem_append_left _ (show _ ∈ my_85_1 from List.mem_of_getElem? (i := 24) rfl)))
theorem cd_85_276 : mt_cd 85 276 = some (.lneg) := mt_cd_of (q := (276, .lneg, 1)) mq_85 ci_85 (List.mem_append_right _ (List.mem_append_left _ (show _ ∈ my_85_1 from List.mem_of_getElem? (i := 25) rfl)))
theorem cd_85_277 : mt_cd 85 277 = some (.lreturn) := mt_cd_of (q := (277, .lreturn, 1)) mq_85 ci_85 (List.mem_append_right _ (List.mem_append_left _ (show _ ∈ my_85_1 from List.mem_of_getElem? (i := 26) rfl)))
theorem cd_85_278 : mt_cd 85 278 = some (.aload_n 0) := mt_cd_of (q := (278, .aload_n 0, 1)) mq_85 ci_85 (List.mem_append_right _ (List.mem_append_left _ (show _ ∈ my_85_1 from List.mem_of_getElem? (i := 27) rfl)))
theorem cd_85_279 : mt_cd 85 279 = some (.aload_n 0) := mt_cd_of (q := (279, .aload_n 0, 1)) mq_85 ci_85 (List.mem_append_right _ (List.mem_append_left _ (show _ ∈ my_85_1 from List.mem_of_getElem? (i := 28) rfl)))
theorem cd_85_280 : mt_cd 85 280 = some (.iload_n 3) := mt_cd_of (q := (280, .iload_n 3, 1)) mq_85 ci_85 (List.mem_append_right _ (List.mem_append_left _ (show _ ∈ my_85_1 from List.mem_of_getElem? (i := 29) rfl)))
theorem cd_85_281 : mt_cd 85 281 = some (.iload_n 2) := mt_cd_of (q := (281, .iload_n 2, 1)) mq_85 ci_85 (List.mem_append_right _ (List.mem_append_left _ (show _ ∈ my_85_1 from List.mem_of_getElem? (i := 30) rfl)))
theorem cd_85_282 : mt_cd 85 282 = some (.iconst 1) := mt_cd_of (q := (282, .iconst 1, 1)) mq_85 ci_85 (List.mem_append_right _ (List.mem_append_left _ (show _ ∈ my_85_1 from List.mem_of_getElem? (i := 31) rfl)))
theorem cd_85_283 : mt_cd 85 283 = some (.iadd) := mt_cd_of (q := (283, .iadd, 1)) mq_85 ci_85 (List.mem_append_right _ (List.mem_append_left _ (show _ ∈ my_85_1 from List.mem_of_getElem? (i := 32) rfl)))
theorem cd_85_284 : mt_cd 85 284 = some (.invokevirtual 76) := mt_cd_of (q := (284, .invokevirtual 76, 3)) mq_85 ci_85 (List.mem_append_right _ (List.mem_append_left _ (show _ ∈ my_85_1 from List.mem_of_getElem? (i := 33) rfl)))
theorem cd_85_287 : mt_cd 85 287 = some (.ifCond .eq 15) := mt_cd_of (q := (287, .ifCond .eq 15, 3)) mq_85 ci_85 (List.mem_append_right _ (List.mem_append_left _ (show _ ∈ my_85_1 from List.mem_of_getElem? (i := 34) rfl)))
theorem cd_85_290 : mt_cd 85 290 = some (.aload_n 0) := mt_cd_of (q := (290, .aload_n 0, 1)) mq_85 ci_85 (List.mem_append_right _ (List.mem_append_left _ (show _ ∈ my_85_1 from List.mem_of_getElem? (i := 35) rfl)))
theorem cd_85_291 : mt_cd 85 291 = some (.getfield 9) := mt_cd_of (q := (291, .getfield 9, 3)) mq_85 ci_85 (List.mem_append_right _ (List.mem_append_left _ (show _ ∈ my_85_1 from List.mem_of_getElem? (i := 36) rfl)))
theorem cd_85_294 : mt_cd 85 294 = some (.getfield 80) := mt_cd_of (q := (294, .getfield 80, 3)) mq_85 ci_85 (List.mem_append_right _ (List.mem_append_left _ (show _ ∈ my_85_1 from List.mem_of_getElem? (i := 37) rfl)))
theorem cd_85_297 : mt_cd 85 297 = some (.iload_n 1) := mt_cd_of (q := (297, .iload_n 1, 1)) mq_85 ci_85 (List.mem_append_right _ (List.mem_append_left _ (show _ ∈ my_85_1 from List.mem_of_getElem? (i := 38) rfl)))
theorem cd_85_298 : mt_cd 85 298 = some (.iaload) := mt_cd_of (q := (298, .iaload, 1)) mq_85 ci_85 (List.mem_append_right _ (List.mem_append_left _ (show _ ∈ my_85_1 from List.mem_of_getElem? (i := 39) rfl)))
theorem cd_85_299 : mt_cd 85 299 = some (.goto 5) := mt_cd_of (q := (299, .goto 5, 3)) mq_85 ci_85 (List.mem_append_right _ (List.mem_append_left _ (show _ ∈ my_85_1 from List.mem_of_getElem? (i := 40) rfl)))
theorem cd_85_302 : mt_cd 85 302 = some (.iload 4) := mt_cd_of (q := (302, .iload 4, 2)) mq_85 ci_85 (List.mem_append_right _ (List.mem_append_left _ (show _ ∈ my_85_1 from List.mem_of_getElem? (i := 41) rfl)))
theorem cd_85_304 : mt_cd 85 304 = some (.iload_n 2) := mt_cd_of (q := (304, .iload_n 2, 1)) mq_85 ci_85 (List.mem_append_right _ (List.mem_append_left _ (show _ ∈ my_85_1 from List.mem_of_getElem? (i := 42) rfl)))
theorem cd_85_305 : mt_cd 85 305 = some (.iconst 1) := mt_cd_of (q := (305, .iconst 1, 1)) mq_85 ci_85 (List.mem_append_right _ (List.mem_append_left _ (show _ ∈ my_85_1 from List.mem_of_getElem? (i := 43) rfl)))
theorem cd_85_306 : mt_cd 85 306 = some (.iadd) := mt_cd_of (q := (306, .iadd, 1)) mq_85 ci_85 (List.mem_append_right _ (List.mem_append_left _ (show _ ∈ my_85_1 from List.mem_of_getElem? (i := 44) rfl)))
theorem cd_85_307 : mt_cd 85 307 = some (.invokevirtual 73) := mt_cd_of (q := (307, .invokevirtual 73, 3)) mq_85 ci_85 (List.mem_append_right _ (List.mem_append_left _ (show _ ∈ my_85_1 from List.mem_of_getElem? (i := 45) rfl)))
theorem cd_85_310 : mt_cd 85 310 = some (.lreturn) := mt_cd_of (q := (310, .lreturn, 1)) mq_85 ci_85 (List.mem_append_right _ (List.mem_append_left _ (show _ ∈ my_85_1 from List.mem_of_getElem? (i := 46) rfl)))
theorem cd_85_311 : mt_cd 85 311 = some (.aload_n 0) := mt_cd_of (q := (311, .aload_n 0, 1)) mq_85 ci_85 (List.mem_append_right _ (List.mem_append_left _ (show _ ∈ my_85_1 from List.mem_of_getElem? (i := 47) rfl)))
theorem cd_85_312 : mt_cd 85 312 = some (.aload_n 0) := mt_cd_of (q := (312, .aload_n 0, 1)) mq_85 ci_85 (List.mem_append_right _ (List.mem_append_left _ (show _ ∈ my_85_1 from List.mem_of_getElem? (i := 48) rfl)))
theorem cd_85_313 : mt_cd 85 313 = some (.iload_n 3) := mt_cd_of (q := (313, .iload_n 3, 1)) mq_85 ci_85 (List.mem_append_right _ (List.mem_append_left _ (show _ ∈ my_85_1 from List.mem_of_getElem? (i := 49) rfl)))
theorem cd_85_314 : mt_cd 85 314 = some (.iload_n 2) := mt_cd_of (q := (314, .iload_n 2, 1)) mq_85 ci_85 (List.mem_append_right _ (List.mem_append_left _ (show _ ∈ my_85_1 from List.mem_of_getElem? (i := 50) rfl)))
theorem cd_85_315 : mt_cd 85 315 = some (.iconst 1) := mt_cd_of (q := (315, .iconst 1, 1)) mq_85 ci_85 (List.mem_append_right _ (List.mem_append_left _ (show _ ∈ my_85_1 from List.mem_of_getElem? (i := 51) rfl)))
theorem cd_85_316 : mt_cd 85 316 = some (.iadd) := mt_cd_of (q := (316, .iadd, 1)) mq_85 ci_85 (List.mem_append_right _ (List.mem_append_left _ (show _ ∈ my_85_1 from List.mem_of_getElem? (i := 52) rfl)))
theorem cd_85_317 : mt_cd 85 317 = some (.invokevirtual 73) := mt_cd_of (q := (317, .invokevirtual 73, 3)) mq_85 ci_85 (List.mem_append_right _ (List.mem_append_left _ (show _ ∈ my_85_1 from List.mem_of_getElem? (i := 53) rfl)))
theorem cd_85_320 : mt_cd 85 320 = some (.aload_n 0) := mt_cd_of (q := (320, .aload_n 0, 1)) mq_85 ci_85 (List.mem_append_right _ (List.mem_append_left _ (show _ ∈ my_85_1 from List.mem_of_getElem? (i := 54) rfl)))
theorem cd_85_321 : mt_cd 85 321 = some (.iload 4) := mt_cd_of (q := (321, .iload 4, 2)) mq_85 ci_85 (List.mem_append_right _ (List.mem_append_left _ (show _ ∈ my_85_1 from List.mem_of_getElem? (i := 55) rfl)))
theorem cd_85_323 : mt_cd 85 323 = some (.iload_n 2) := mt_cd_of (q := (323, .iload_n 2, 1)) mq_85 ci_85 (List.mem_append_right _ (List.mem_append_left _ (show _ ∈ my_85_1 from List.mem_of_getElem? (i := 56) rfl)))
theorem cd_85_324 : mt_cd 85 324 = some (.iconst 1) := mt_cd_of (q := (324, .iconst 1, 1)) mq_85 ci_85 (List.mem_append_right _ (List.mem_append_left _ (show _ ∈ my_85_1 from List.mem_of_getElem? (i := 57) rfl)))
theorem cd_85_325 : mt_cd 85 325 = some (.iadd) := mt_cd_of (q := (325, .iadd, 1)) mq_85 ci_85 (List.mem_append_right _ (List.mem_append_left _ (show _ ∈ my_85_1 from List.mem_of_getElem? (i := 58) rfl)))
theorem cd_85_326 : mt_cd 85 326 = some (.invokevirtual 73) := mt_cd_of (q := (326, .invokevirtual 73, 3)) mq_85 ci_85 (List.mem_append_right _ (List.mem_append_left _ (show _ ∈ my_85_1 from List.mem_of_getElem? (i := 59) rfl)))
theorem cd_85_329 : mt_cd 85 329 = some (.ladd) := mt_cd_of (q := (329, .ladd, 1)) mq_85 ci_85 (List.mem_append_right _ (List.mem_append_right _ ((show _ ∈ my_85_2 from List.mem_of_getElem? (i := 0) rfl))))
theorem cd_85_330 : mt_cd 85 330 = some (.invokevirtual 69) := mt_cd_of (q := (330, .invokevirtual 69, 3)) mq_85 ci_85 (List.mem_append_right _ (List.mem_append_right _ ((show _ ∈ my_85_2 from List.mem_of_getElem? (i := 1) rfl))))
theorem cd_85_333 : mt_cd 85 333 = some (.lreturn) := mt_cd_of (q := (333, .lreturn, 1)) mq_85 ci_85 (List.mem_append_right _ (List.mem_append_right _ ((show _ ∈ my_85_2 from List.mem_of_getElem? (i := 2) rfl))))
theorem cd_85_334 : mt_cd 85 334 = some (.aload_n 0) := mt_cd_of (q := (334, .aload_n 0, 1)) mq_85 ci_85 (List.mem_append_right _ (List.mem_append_right _ ((show _ ∈ my_85_2 from List.mem_of_getElem? (i := 3) rfl))))
theorem cd_85_335 : mt_cd 85 335 = some (.aload_n 0) := mt_cd_of (q := (335, .aload_n 0, 1)) mq_85 ci_85 (List.mem_append_right _ (List.mem_append_right _ ((show _ ∈ my_85_2 from List.mem_of_getElem? (i := 4) rfl))))
theorem cd_85_336 : mt_cd 85 336 = some (.iload_n 3) := mt_cd_of (q := (336, .iload_n 3, 1)) mq_85 ci_85 (List.mem_append_right _ (List.mem_append_right _ ((show _ ∈ my_85_2 from List.mem_of_getElem? (i := 5) rfl))))
theorem cd_85_337 : mt_cd 85 337 = some (.iload_n 2) := mt_cd_of (q := (337, .iload_n 2, 1)) mq_85 ci_85 (List.mem_append_right _ (List.mem_append_right _ ((show _ ∈ my_85_2 from List.mem_of_getElem? (i := 6) rfl))))
theorem cd_85_338 : mt_cd 85 338 = some (.iconst 1) := mt_cd_of (q := (338, .iconst 1, 1)) mq_85 ci_85 (List.mem_append_right _ (List.mem_append_right _ ((show _ ∈ my_85_2 from List.mem_of_getElem? (i := 7) rfl))))
theorem cd_85_339 : mt_cd 85 339 = some (.iadd) := mt_cd_of (q := (339, .iadd, 1)) mq_85 ci_85 (List.mem_append_right _ (List.mem_append_right _ ((show _ ∈ my_85_2 from List.mem_of_getElem? (i := 8) rfl))))
theorem cd_85_340 : mt_cd 85 340 = some (.invokevirtual 73) := mt_cd_of (q := (340, .invokevirtual 73, 3)) mq_85 ci_85 (List.mem_append_right _ (List.mem_append_right _ ((show _ ∈ my_85_2 from List.mem_of_getElem? (i := 9) rfl))))
theorem cd_85_343 : mt_cd 85 343 = some (.aload_n 0) := mt_cd_of (q := (343, .aload_n 0, 1)) mq_85 ci_85 (List.mem_append_right _ (List.mem_append_right _ ((show _ ∈ my_85_2 from List.mem_of_getElem? (i := 10) rfl))))
theorem cd_85_344 : mt_cd 85 344 = some (.iload 4) := mt_cd_of (q := (344, .iload 4, 2)) mq_85 ci_85 (List.mem_append_right _ (List.mem_append_right _ ((show _ ∈ my_85_2 from List.mem_of_getElem? (i := 11) rfl))))
theorem cd_85_346 : mt_cd 85 346 = some (.iload_n 2) := mt_cd_of (q := (346, .iload_n 2, 1)) mq_85 ci_85 (List.mem_append_right _ (List.mem_append_right _ ((show _ ∈ my_85_2 from List.mem_of_getElem? (i := 12) rfl))))
theorem cd_85_347 : mt_cd 85 347 = some (.iconst 1) := mt_cd_of (q := (347, .iconst 1, 1)) mq_85 ci_85 (List.mem_append_right _ (List.mem_append_right _ ((show _ ∈ my_85_2 from List.mem_of_getElem? (i := 13) rfl))))
theorem cd_85_348 : mt_cd 85 348 = some (.iadd) := mt_cd_of (q := (348, .iadd, 1)) mq_85 ci_85 (List.mem_append_right _ (List.mem_append_right _ ((show _ ∈ my_85_2 from List.mem_of_getElem? (i := 14) rfl))))
theorem cd_85_349 : mt_cd 85 349 = some (.invokevirtual 73) := mt_cd_of (q := (349, .invokevirtual 73, 3)) mq_85 ci_85 (List.mem_append_right _ (List.mem_append_right _ ((show _ ∈ my_85_2 from List.mem_of_getElem? (i := 15) rfl))))
theorem cd_85_352 : mt_cd 85 352 = some (.lsub) := mt_cd_of (q := (352, .lsub, 1)) mq_85 ci_85 (List.mem_append_right _ (List.mem_append_right _ ((show _ ∈ my_85_2 from List.mem_of_getElem? (i := 16) rfl))))
theorem cd_85_353 : mt_cd 85 353 = some (.invokevirtual 69) := mt_cd_of (q := (353, .invokevirtual 69, 3)) mq_85 ci_85 (List.mem_append_right _ (List.mem_append_right _ ((show _ ∈ my_85_2 from List.mem_of_getElem? (i := 17) rfl))))
theorem cd_85_356 : mt_cd 85 356 = some (.lreturn) := mt_cd_of (q := (356, .lreturn, 1)) mq_85 ci_85 (List.mem_append_right _ (List.mem_append_right _ ((show _ ∈ my_85_2 from List.mem_of_getElem? (i := 18) rfl))))
theorem cd_85_357 : mt_cd 85 357 = some (.aload_n 0) := mt_cd_of (q := (357, .aload_n 0, 1)) mq_85 ci_85 (List.mem_append_right _ (List.mem_append_right _ ((show _ ∈ my_85_2 from List.mem_of_getElem? (i := 19) rfl))))
theorem cd_85_358 : mt_cd 85 358 = some (.aload_n 0) := mt_cd_of (q := (358, .aload_n 0, 1)) mq_85 ci_85 (List.mem_append_right _ (List.mem_append_right _ ((show _ ∈ my_85_2 from List.mem_of_getElem? (i := 20) rfl))))
theorem cd_85_359 : mt_cd 85 359 = some (.iload_n 3) := mt_cd_of (q := (359, .iload_n 3, 1)) mq_85 ci_85 (List.mem_append_right _ (List.mem_append_right _ ((show _ ∈ my_85_2 from List.mem_of_getElem? (i := 21) rfl))))
theorem cd_85_360 : mt_cd 85 360 = some (.iload_n 2) := mt_cd_of (q := (360, .iload_n 2, 1)) mq_85 ci_85 (List.mem_append_right _ (List.mem_append_right _ ((show _ ∈ my_85_2 from List.mem_of_getElem? (i := 22) rfl))))
theorem cd_85_361 : mt_cd 85 361 = some (.iconst 1) := mt_cd_of (q := (361, .iconst 1, 1)) mq_85 ci_85 (List.mem_append_right _ (List.mem_append_right _ ((show _ ∈ my_85_2 from List.mem_of_getElem? (i := 23) rfl))))
theorem cd_85_362 : mt_cd 85 362 = some (.iadd) := mt_cd_of (q := (362, .iadd, 1)) mq_85 ci_85 (List.mem_append_right _ (List.mem_append_right _ ((show _ ∈ my_85_2 from List.mem_of_getElem? (i := 24) rfl))))
theorem cd_85_363 : mt_cd 85 363 = some (.invokevirtual 73) := mt_cd_of (q := (363, .invokevirtual 73, 3)) mq_85 ci_85 (List.mem_append_right _ (List.mem_append_right _ ((show _ ∈ my_85_2 from List.mem_of_getElem? (i := 25) rfl))))
theorem cd_85_366 : mt_cd 85 366 = some (.aload_n 0) := mt_cd_of (q := (366, .aload_n 0, 1)) mq_85 ci_85 (List.mem_append_right _ (List.mem_append_right _ ((show _ ∈ my_85_2 from List.mem_of_getElem? (i := 26) rfl))))
theorem cd_85_367 : mt_cd 85 367 = some (.iload 4) := mt_cd_of (q := (367, .iload 4, 2)) mq_85 ci_85 (List.mem_append_right _ (List.mem_append_right _ ((show _ ∈ my_85_2 from List.mem_of_getElem? (i := 27) rfl))))
theorem cd_85_369 : mt_cd 85 369 = some (.iload_n 2) := mt_cd_of (q := (369, .iload_n 2, 1)) mq_85 ci_85 (List.mem_append_right _ (List.mem_append_right _ ((show _ ∈ my_85_2 from List.mem_of_getElem? (i := 28) rfl))))
theorem cd_85_370 : mt_cd 85 370 = some (.iconst 1) := mt_cd_of (q := (370, .iconst 1, 1)) mq_85 ci_85 (List.mem_append_right _ (List.mem_append_right _ ((show _ ∈ my_85_2 from List.mem_of_getElem? (i := 29) rfl))))
theorem cd_85_371 : mt_cd 85 371 = some (.iadd) := mt_cd_of (q := (371, .iadd, 1)) mq_85 ci_85 (List.mem_append_right _ (List.mem_append_right _ ((show _ ∈ my_85_2 from List.mem_of_getElem? (i := 30) rfl))))
theorem cd_85_372 : mt_cd 85 372 = some (.invokevirtual 73) := mt_cd_of (q := (372, .invokevirtual 73, 3)) mq_85 ci_85 (List.mem_append_right _ (List.mem_append_right _ ((show _ ∈ my_85_2 from List.mem_of_getElem? (i := 31) rfl))))
theorem cd_85_375 : mt_cd 85 375 = some (.invokevirtual 83) := mt_cd_of (q := (375, .invokevirtual 83, 3)) mq_85 ci_85 (List.mem_append_right _ (List.mem_append_right _ ((show _ ∈ my_85_2 from List.mem_of_getElem? (i := 32) rfl))))
theorem cd_85_378 : mt_cd 85 378 = some (.lreturn) := mt_cd_of (q := (378, .lreturn, 1)) mq_85 ci_85 (List.mem_append_right _ (List.mem_append_right _ ((show _ ∈ my_85_2 from List.mem_of_getElem? (i := 33) rfl))))
theorem cd_85_379 : mt_cd 85 379 = some (.aload_n 0) := mt_cd_of (q := (379, .aload_n 0, 1)) mq_85 ci_85 (List.mem_append_right _ (List.mem_append_right _ ((show _ ∈ my_85_2 from List.mem_of_getElem? (i := 34) rfl))))
theorem cd_85_380 : mt_cd 85 380 = some (.iload_n 3) := mt_cd_of (q := (380, .iload_n 3, 1)) mq_85 ci_85 (List.mem_append_right _ (List.mem_append_right _ ((show _ ∈ my_85_2 from List.mem_of_getElem? (i := 35) rfl))))
theorem cd_85_381 : mt_cd 85 381 = some (.iload_n 2) := mt_cd_of (q := (381, .iload_n 2, 1)) mq_85 ci_85 (List.mem_append_right _ (List.mem_append_right _ ((show _ ∈ my_85_2 from List.mem_of_getElem? (i := 36) rfl))))
theorem cd_85_382 : mt_cd 85 382 = some (.iconst 1) := mt_cd_of (q := (382, .iconst 1, 1)) mq_85 ci_85 (List.mem_append_right _ (List.mem_append_right _ ((show _ ∈ my_85_2 from List.mem_of_getElem? (i := 37) rfl))))
theorem cd_85_383 : mt_cd 85 383 = some (.iadd) := mt_cd_of (q := (383, .iadd, 1)) mq_85 ci_85 (List.mem_append_right _ (List.mem_append_right _ ((show _ ∈ my_85_2 from List.mem_of_getElem? (i := 38) rfl))))
theorem cd_85_384 : mt_cd 85 384 = some (.invokevirtual 73) := mt_cd_of (q := (384, .invokevirtual 73, 3)) mq_85 ci_85 (List.mem_append_right _ (List.mem_append_right _ ((show _ ∈ my_85_2 from List.mem_of_getElem? (i := 39) rfl))))
theorem cd_85_387 : mt_cd 85 387 = some (.aload_n 0) := mt_cd_of (q := (387, .aload_n 0, 1)) mq_85 ci_85 (List.mem_append_right _ (List.mem_append_right _ ((show _ ∈ my_85_2 from List.mem_of_getElem? (i := 40) rfl))))
theorem cd_85_388 : mt_cd 85 388 = some (.iload 4) := mt_cd_of (q := (388, .iload 4, 2)) mq_85 ci_85 (List.mem_append_right _ (List.mem_append_right _ ((show _ ∈ my_85_2 from List.mem_of_getElem? (i := 41) rfl))))
theorem cd_85_390 : mt_cd 85 390 = some (.iload_n 2) := mt_cd_of (q := (390, .iload_n 2, 1)) mq_85 ci_85 (List.mem_append_right _ (List.mem_append_right _ ((show _ ∈ my_85_2 from List.mem_of_getElem? (i := 42) rfl))))
theorem cd_85_391 : mt_cd 85 391 = some (.iconst 1) := mt_cd_of (q := (391, .iconst 1, 1)) mq_85 ci_85 (List.mem_append_right _ (List.mem_append_right _ ((show _ ∈ my_85_2 from List.mem_of_getElem? (i := 43) rfl))))
theorem cd_85_392 : mt_cd 85 392 = some (.iadd) := mt_cd_of (q := (392, .iadd, 1)) mq_85 ci_85 (List.mem_append_right _ (List.mem_append_right _ ((show _ ∈ my_85_2 from List.mem_of_getElem? (i := 44) rfl))))
theorem cd_85_393 : mt_cd 85 393 = some (.invokevirtual 73) := mt_cd_of (q := (393, .invokevirtual 73, 3)) mq_85 ci_85 (List.mem_append_right _ (List.mem_append_right _ ((show _ ∈ my_85_2 from List.mem_of_getElem? (i := 45) rfl))))
theorem cd_85_396 : mt_cd 85 396 = some (.invokestatic 87) := mt_cd_of (q := (396, .invokestatic 87, 3)) mq_85 ci_85 (List.mem_append_right _ (List.mem_append_right _ ((show _ ∈ my_85_2 from List.mem_of_getElem? (i := 46) rfl))))
theorem cd_85_399 : mt_cd 85 399 = some (.lreturn) := mt_cd_of (q := (399, .lreturn, 1)) mq_85 ci_85 (List.mem_append_right _ (List.mem_append_right _ ((show _ ∈ my_85_2 from List.mem_of_getElem? (i := 47) rfl))))
theorem b_85_0 {d : Nat} {Q : (Option Value ⊕ Nat) → mi_H → Prop} (n sl : Nat) (f : Nat → mi_C) {l1 : Nat} {l2 : Int32} {l3 : Int32} {o4 : Option Value} {o5 : Option Value} {fs6 : List Value} {x9 : Int32} (h7 : f l1 = .inr (10, fs6)) (h8 : l1 < n) (h10 : fs6[4]? = some (.int x9)) (h11 : ¬ x9 = (0 : Int32) → mi_W d 85 24 [some (.ref l1), some (.int l2), some (.int l3), o4, o5] [] (n, sl, f) Q) (h12 : ¬ (¬ x9 = (0 : Int32)) → mi_W d 85 7 [some (.ref l1), some (.int l2), some (.int l3), o4, o5] [] (n, sl, f) Q) : mi_W d 85 0 [some (.ref l1), some (.int l2), some (.int l3), o4, o5] [] (n, sl, f) Q := by
  refine w_aload_n cd_85_0 rfl ?_
  refine w_getfield cd_85_1 (show mt_f 10 26 = some (10, 4) by decide +kernel) h7 h8 h10 ?_
  exact w_ifne cd_85_4 (by decide) h11 h12
theorem b_85_7 {d : Nat} {Q : (Option Value ⊕ Nat) → mi_H → Prop} (n sl : Nat) (f : Nat → mi_C) {l1 : Nat} {l2 : Int32} {l3 : Int32} {o4 : Option Value} {o5 : Option Value} (h6 : 100 < l3 → mi_W d 85 24 [some (.ref l1), some (.int l2), some (.int l3), o4, o5] [] (n, sl, f) Q) (h7 : ¬ (100 < l3) → mi_W d 85 13 [some (.ref l1), some (.int l2), some (.int l3), o4, o5] [] (n, sl, f) Q) : mi_W d 85 7 [some (.ref l1), some (.int l2), some (.int l3), o4, o5] [] (n, sl, f) Q := by
  refine w_iload_n cd_85_7 rfl ?_
  refine w_bipush (v := 100) cd_85_8 (by decide) ?_
  exact w_if_icmpgt cd_85_10 (by decide) h6 h7
theorem b_85_13 {d : Nat} {Q : (Option Value ⊕ Nat) → mi_H → Prop} (n sl : Nat) (f : Nat → mi_C) {l1 : Nat} {l2 : Int32} {l3 : Int32} {o4 : Option Value} {o5 : Option Value} {fs6 : List Value} {x9 : Nat} {fs11 : List Value} (h7 : f l1 = .inr (10, fs6)) (h8 : l1 < n) (h10 : fs6[0]? = some (.ref x9)) (h12 : f x9 = .inr (2, fs11)) (h13 : x9 < n) (h14 : mi_W d 80 0 (mi_en 2 [.ref x9, .int l2]) [] (n, sl, f) (mi_Kc d 85 18 [some (.ref l1), some (.int l2), some (.int l3), o4, o5] [] Q)) : mi_W (d + 1) 85 13 [some (.ref l1), some (.int l2), some (.int l3), o4, o5] [] (n, sl, f) Q := by
  refine w_aload_n cd_85_13 rfl ?_
  refine w_getfield cd_85_14 (show mt_f 10 9 = some (10, 0) by decide +kernel) h7 h8 h10 ?_
  refine w_iload_n cd_85_17 rfl ?_
  exact w_invokevirtual cd_85_18 (show mt_m 10 30 = some (80, 0) by decide +kernel) (rest := []) rfl (as := [.ref x9, .int l2]) rfl h12 (Or.inl h13) ⟨Nat.le_of_ble_eq_true rfl, Nat.le_of_ble_eq_true rfl, Nat.le_of_ble_eq_true rfl⟩ h14
theorem b_85_21 {d : Nat} {Q : (Option Value ⊕ Nat) → mi_H → Prop} (n sl : Nat) (f : Nat → mi_C) {l1 : Nat} {l2 : Int32} {l3 : Int32} {o4 : Option Value} {o5 : Option Value} {s6 : Int32} (h7 : ¬ s6 = (0 : Int32) → mi_W d 85 26 [some (.ref l1), some (.int l2), some (.int l3), o4, o5] [] (n, sl, f) Q) (h8 : ¬ (¬ s6 = (0 : Int32)) → mi_W d 85 24 [some (.ref l1), some (.int l2), some (.int l3), o4, o5] [] (n, sl, f) Q) : mi_W d 85 21 [some (.ref l1), some (.int l2), some (.int l3), o4, o5] [.int s6] (n, sl, f) Q := by
  exact w_ifne cd_85_21 (by decide) h7 h8
theorem b_85_24 {d : Nat} {Q : (Option Value ⊕ Nat) → mi_H → Prop} (n sl : Nat) (f : Nat → mi_C) {l1 : Nat} {l2 : Int32} {l3 : Int32} {o4 : Option Value} {o5 : Option Value} (h6 : Q (.inl (some (.long 0))) (n, sl, f)) : mi_W d 85 24 [some (.ref l1), some (.int l2), some (.int l3), o4, o5] [] (n, sl, f) Q := by
  refine w_lconst (lv := 0) cd_85_24 (by decide) ?_
  exact w_lreturn cd_85_25 (by decide +kernel) h6
theorem b_85_26 {d : Nat} {Q : (Option Value ⊕ Nat) → mi_H → Prop} (n sl : Nat) (f : Nat → mi_C) {l1 : Nat} {l2 : Int32} {l3 : Int32} {o4 : Option Value} {o5 : Option Value} {fs6 : List Value} {x9 : Nat} {fs11 : List Value} {x14 : Nat} (m16 i16 : Nat) (g16 : Nat → Int32) {fs20 : List Value} {x23 : Nat} {fs25 : List Value} {x28 : Nat} (m30 i30 : Nat) (g30 : Nat → Int32) {fs34 : List Value} {x37 : Nat} {fs39 : List Value} {x42 : Nat} (m44 i44 : Nat) (g44 : Nat → Int32) {t48 : Nat} (h7 : f l1 = .inr (10, fs6)) (h8 : l1 < n) (h10 : fs6[0]? = some (.ref x9)) (h12 : f x9 = .inr (2, fs11)) (h13 : x9 < n) (h15 : fs11[1]? = some (.ref x14)) (h17 : f x14 = .inl (0, m16, .inl g16)) (h18 : x14 < n ∨ x14 = mi_SC) (h19 : mi_ix l2 m16 i16) (h21 : f l1 = .inr (10, fs20)) (h22 : l1 < n) (h24 : fs20[0]? = some (.ref x23)) (h26 : f x23 = .inr (2, fs25)) (h27 : x23 < n) (h29 : fs25[3]? = some (.ref x28)) (h31 : f x28 = .inl (0, m30, .inl g30)) (h32 : x28 < n ∨ x28 = mi_SC) (h33 : mi_ix l2 m30 i30) (h35 : f l1 = .inr (10, fs34)) (h36 : l1 < n) (h38 : fs34[0]? = some (.ref x37)) (h40 : f x37 = .inr (2, fs39)) (h41 : x37 < n) (h43 : fs39[0]? = some (.ref x42)) (h45 : f x42 = .inl (0, m44, .inl g44)) (h46 : x42 < n ∨ x42 = mi_SC) (h47 : mi_ix l2 m44 i44) (h49 : mi_ts 56 323 11 37 #[134, 212, 160, 177, 194, 203, 222, 323, 323, 323, 323, 323, 323, 323, 323, 323, 323, 255, 278, 301, 323, 323, 323, 323, 323, 323, 124] ((g44 i44) : Int32).toInt = some t48) (h50 : mi_W d 85 t48 [some (.ref l1), some (.int l2), some (.int l3), some (.int (g16 i16)), some (.int (g30 i30))] [] (n, sl, f) Q) : mi_W d 85 26 [some (.ref l1), some (.int l2), some (.int l3), o4, o5] [] (n, sl, f) Q := by
  refine w_aload_n cd_85_26 rfl ?_
  refine w_getfield cd_85_27 (show mt_f 10 9 = some (10, 0) by decide +kernel) h7 h8 h10 ?_
  refine w_getfield cd_85_30 (show mt_f 10 36 = some (2, 1) by decide +kernel) h12 h13 h15 ?_
  refine w_iload_n cd_85_33 rfl ?_
  refine w_iaload cd_85_34 h17 h18 h19 ?_
  refine w_istore_n (ls' := [some (.ref l1), some (.int l2), some (.int l3), some (.int (g16 i16)), o5]) cd_85_35 (Nat.le_of_ble_eq_true rfl) rfl ?_
  refine w_aload_n cd_85_36 rfl ?_
  refine w_getfield cd_85_37 (show mt_f 10 9 = some (10, 0) by decide +kernel) h21 h22 h24 ?_
  refine w_getfield cd_85_40 (show mt_f 10 40 = some (2, 3) by decide +kernel) h26 h27 h29 ?_
  refine w_iload_n cd_85_43 rfl ?_
  refine w_iaload cd_85_44 h31 h32 h33 ?_
  refine w_istore (ls' := [some (.ref l1), some (.int l2), some (.int l3), some (.int (g16 i16)), some (.int (g30 i30))]) cd_85_45 (Nat.le_of_ble_eq_true rfl) rfl ?_
  refine w_aload_n cd_85_47 rfl ?_
  refine w_getfield cd_85_48 (show mt_f 10 9 = some (10, 0) by decide +kernel) h35 h36 h38 ?_
  refine w_getfield cd_85_51 (show mt_f 10 43 = some (2, 0) by decide +kernel) h40 h41 h43 ?_
  refine w_iload_n cd_85_54 rfl ?_
  refine w_iaload cd_85_55 h45 h46 h47 ?_
  exact w_tableswitch cd_85_56 h49 h50
theorem b_85_180 {d : Nat} {Q : (Option Value ⊕ Nat) → mi_H → Prop} (n sl : Nat) (f : Nat → mi_C) {l1 : Nat} {l2 : Int32} {l3 : Int32} {l4 : Int32} {l5 : Int32} {fs6 : List Value} {x9 : Nat} {fs11 : List Value} {x14 : Nat} (m16 i16 : Nat) (g16 : Nat → Int64) (h7 : f l1 = .inr (10, fs6)) (h8 : l1 < n) (h10 : fs6[0]? = some (.ref x9)) (h12 : f x9 = .inr (2, fs11)) (h13 : x9 < n) (h15 : fs11[9]? = some (.ref x14)) (h17 : f x14 = .inl (3, m16, .inr (.inl g16))) (h18 : x14 < n) (h19 : mi_ix l2 m16 i16) (h20 : Q (.inl (some (.long (g16 i16)))) (n, sl, f)) : mi_W d 85 180 [some (.ref l1), some (.int l2), some (.int l3), some (.int l4), some (.int l5)] [] (n, sl, f) Q := by
  refine w_aload_n cd_85_180 rfl ?_
  refine w_getfield cd_85_181 (show mt_f 10 9 = some (10, 0) by decide +kernel) h7 h8 h10 ?_
  refine w_getfield cd_85_184 (show mt_f 10 46 = some (2, 9) by decide +kernel) h12 h13 h15 ?_
  refine w_iload_n cd_85_187 rfl ?_
  refine w_laload cd_85_188 h17 h18 h19 ?_
  exact w_lreturn cd_85_189 (by decide +kernel) h20
theorem b_85_190 {d : Nat} {Q : (Option Value ⊕ Nat) → mi_H → Prop} (n sl : Nat) (f : Nat → mi_C) {l1 : Nat} {l2 : Int32} {l3 : Int32} {l4 : Int32} {l5 : Int32} {fs6 : List Value} {x9 : Nat} {fs11 : List Value} {x14 : Nat} {fs16 : List Value} {x19 : Nat} (m21 i21 : Nat) (g21 : Nat → Int32) {fs25 : List Value} {x28 : Nat} {fs30 : List Value} {x33 : Nat} (m35 i35 : Nat) (g35 : Nat → Int32) {fs39 : List Value} (h7 : f l1 = .inr (10, fs6)) (h8 : l1 < n) (h10 : fs6[1]? = some (.ref x9)) (h12 : f l1 = .inr (10, fs11)) (h13 : l1 < n) (h15 : fs11[0]? = some (.ref x14)) (h17 : f x14 = .inr (2, fs16)) (h18 : x14 < n) (h20 : fs16[4]? = some (.ref x19)) (h22 : f x19 = .inl (0, m21, .inl g21)) (h23 : x19 < n ∨ x19 = mi_SC) (h24 : mi_ix l2 m21 i21) (h26 : f l1 = .inr (10, fs25)) (h27 : l1 < n) (h29 : fs25[0]? = some (.ref x28)) (h31 : f x28 = .inr (2, fs30)) (h32 : x28 < n) (h34 : fs30[5]? = some (.ref x33)) (h36 : f x33 = .inl (0, m35, .inl g35)) (h37 : x33 < n ∨ x33 = mi_SC) (h38 : mi_ix l2 m35 i35) (h40 : f x9 = .inr (9, fs39)) (h41 : x9 < n) (h42 : mi_W d 86 0 (mi_en 4 [.ref x9, .int (g21 i21), .int (g35 i35)]) [] (n, sl, f) (mi_Kc d 85 212 [some (.ref l1), some (.int l2), some (.int l3), some (.int l4), some (.int l5)] [] Q)) : mi_W (d + 1) 85 190 [some (.ref l1), some (.int l2), some (.int l3), some (.int l4), some (.int l5)] [] (n, sl, f) Q := by
  refine w_aload_n cd_85_190 rfl ?_
  refine w_getfield cd_85_191 (show mt_f 10 15 = some (10, 1) by decide +kernel) h7 h8 h10 ?_
  refine w_aload_n cd_85_194 rfl ?_
  refine w_getfield cd_85_195 (show mt_f 10 9 = some (10, 0) by decide +kernel) h12 h13 h15 ?_
  refine w_getfield cd_85_198 (show mt_f 10 50 = some (2, 4) by decide +kernel) h17 h18 h20 ?_
  refine w_iload_n cd_85_201 rfl ?_
  refine w_iaload cd_85_202 h22 h23 h24 ?_
  refine w_aload_n cd_85_203 rfl ?_
  refine w_getfield cd_85_204 (show mt_f 10 9 = some (10, 0) by decide +kernel) h26 h27 h29 ?_
  refine w_getfield cd_85_207 (show mt_f 10 53 = some (2, 5) by decide +kernel) h31 h32 h34 ?_
  refine w_iload_n cd_85_210 rfl ?_
  refine w_iaload cd_85_211 h36 h37 h38 ?_
  exact w_invokevirtual cd_85_212 (show mt_m 10 56 = some (86, 0) by decide +kernel) (rest := []) rfl (as := [.ref x9, .int (g21 i21), .int (g35 i35)]) rfl h40 (Or.inl h41) ⟨Nat.le_of_ble_eq_true rfl, Nat.le_of_ble_eq_true rfl, Nat.le_of_ble_eq_true rfl⟩ h42
theorem b_85_215 {d : Nat} {Q : (Option Value ⊕ Nat) → mi_H → Prop} (n sl : Nat) (f : Nat → mi_C) {l1 : Nat} {l2 : Int32} {l3 : Int32} {l4 : Int32} {l5 : Int32} {s6 : Int64} (h7 : Q (.inl (some (.long s6))) (n, sl, f)) : mi_W d 85 215 [some (.ref l1), some (.int l2), some (.int l3), some (.int l4), some (.int l5)] [.long s6] (n, sl, f) Q := by
  exact w_lreturn cd_85_215 (by decide +kernel) h7
theorem b_85_216 {d : Nat} {Q : (Option Value ⊕ Nat) → mi_H → Prop} (n sl : Nat) (f : Nat → mi_C) {l1 : Nat} {l2 : Int32} {l3 : Int32} {l4 : Int32} {l5 : Int32} {fs6 : List Value} {x9 : Nat} {fs11 : List Value} {x14 : Nat} {fs16 : List Value} {x19 : Nat} (m21 i21 : Nat) (g21 : Nat → Int32) {fs25 : List Value} (h7 : f l1 = .inr (10, fs6)) (h8 : l1 < n) (h10 : fs6[1]? = some (.ref x9)) (h12 : f l1 = .inr (10, fs11)) (h13 : l1 < n) (h15 : fs11[0]? = some (.ref x14)) (h17 : f x14 = .inr (2, fs16)) (h18 : x14 < n) (h20 : fs16[4]? = some (.ref x19)) (h22 : f x19 = .inl (0, m21, .inl g21)) (h23 : x19 < n ∨ x19 = mi_SC) (h24 : mi_ix l2 m21 i21) (h26 : f x9 = .inr (9, fs25)) (h27 : x9 < n) (h28 : mi_W d 87 0 (mi_en 2 [.ref x9, .int (g21 i21)]) [] (n, sl, f) (mi_Kc d 85 229 [some (.ref l1), some (.int l2), some (.int l3), some (.int l4), some (.int l5)] [] Q)) : mi_W (d + 1) 85 216 [some (.ref l1), some (.int l2), some (.int l3), some (.int l4), some (.int l5)] [] (n, sl, f) Q := by
  refine w_aload_n cd_85_216 rfl ?_
  refine w_getfield cd_85_217 (show mt_f 10 15 = some (10, 1) by decide +kernel) h7 h8 h10 ?_
  refine w_aload_n cd_85_220 rfl ?_
  refine w_getfield cd_85_221 (show mt_f 10 9 = some (10, 0) by decide +kernel) h12 h13 h15 ?_
  refine w_getfield cd_85_224 (show mt_f 10 50 = some (2, 4) by decide +kernel) h17 h18 h20 ?_
  refine w_iload_n cd_85_227 rfl ?_
  refine w_iaload cd_85_228 h22 h23 h24 ?_
  exact w_invokevirtual cd_85_229 (show mt_m 10 62 = some (87, 0) by decide +kernel) (rest := []) rfl (as := [.ref x9, .int (g21 i21)]) rfl h26 (Or.inl h27) ⟨Nat.le_of_ble_eq_true rfl, Nat.le_of_ble_eq_true rfl, Nat.le_of_ble_eq_true rfl⟩ h28
theorem b_85_232 {d : Nat} {Q : (Option Value ⊕ Nat) → mi_H → Prop} (n sl : Nat) (f : Nat → mi_C) {l1 : Nat} {l2 : Int32} {l3 : Int32} {l4 : Int32} {l5 : Int32} {s6 : Int64} (h7 : Q (.inl (some (.long s6))) (n, sl, f)) : mi_W d 85 232 [some (.ref l1), some (.int l2), some (.int l3), some (.int l4), some (.int l5)] [.long s6] (n, sl, f) Q := by
  exact w_lreturn cd_85_232 (by decide +kernel) h7
theorem b_85_233 {d : Nat} {Q : (Option Value ⊕ Nat) → mi_H → Prop} (n sl : Nat) (f : Nat → mi_C) {l1 : Nat} {l2 : Int32} {l3 : Int32} {l4 : Int32} {l5 : Int32} {fs6 : List Value} {x9 : Nat} {fs11 : List Value} {x14 : Nat} {fs16 : List Value} {x19 : Nat} (m21 i21 : Nat) (g21 : Nat → Int32) {fs25 : List Value} (h7 : f l1 = .inr (10, fs6)) (h8 : l1 < n) (h10 : fs6[1]? = some (.ref x9)) (h12 : f l1 = .inr (10, fs11)) (h13 : l1 < n) (h15 : fs11[0]? = some (.ref x14)) (h17 : f x14 = .inr (2, fs16)) (h18 : x14 < n) (h20 : fs16[4]? = some (.ref x19)) (h22 : f x19 = .inl (0, m21, .inl g21)) (h23 : x19 < n ∨ x19 = mi_SC) (h24 : mi_ix l2 m21 i21) (h26 : f x9 = .inr (9, fs25)) (h27 : x9 < n) (h28 : mi_W d 88 0 (mi_en 2 [.ref x9, .int (g21 i21)]) [] (n, sl, f) (mi_Kc d 85 246 [some (.ref l1), some (.int l2), some (.int l3), some (.int l4), some (.int l5)] [] Q)) : mi_W (d + 1) 85 233 [some (.ref l1), some (.int l2), some (.int l3), some (.int l4), some (.int l5)] [] (n, sl, f) Q := by
  refine w_aload_n cd_85_233 rfl ?_
  refine w_getfield cd_85_234 (show mt_f 10 15 = some (10, 1) by decide +kernel) h7 h8 h10 ?_
  refine w_aload_n cd_85_237 rfl ?_
  refine w_getfield cd_85_238 (show mt_f 10 9 = some (10, 0) by decide +kernel) h12 h13 h15 ?_
  refine w_getfield cd_85_241 (show mt_f 10 50 = some (2, 4) by decide +kernel) h17 h18 h20 ?_
  refine w_iload_n cd_85_244 rfl ?_
  refine w_iaload cd_85_245 h22 h23 h24 ?_
  exact w_invokevirtual cd_85_246 (show mt_m 10 66 = some (88, 0) by decide +kernel) (rest := []) rfl (as := [.ref x9, .int (g21 i21)]) rfl h26 (Or.inl h27) ⟨Nat.le_of_ble_eq_true rfl, Nat.le_of_ble_eq_true rfl, Nat.le_of_ble_eq_true rfl⟩ h28
theorem b_85_249 {d : Nat} {Q : (Option Value ⊕ Nat) → mi_H → Prop} (n sl : Nat) (f : Nat → mi_C) {l1 : Nat} {l2 : Int32} {l3 : Int32} {l4 : Int32} {l5 : Int32} {s6 : Int64} (h7 : Q (.inl (some (.long s6))) (n, sl, f)) : mi_W d 85 249 [some (.ref l1), some (.int l2), some (.int l3), some (.int l4), some (.int l5)] [.long s6] (n, sl, f) Q := by
  exact w_lreturn cd_85_249 (by decide +kernel) h7
theorem b_85_250 {d : Nat} {Q : (Option Value ⊕ Nat) → mi_H → Prop} (n sl : Nat) (f : Nat → mi_C) {l1 : Nat} {l2 : Int32} {l3 : Int32} {l4 : Int32} {l5 : Int32} {fs6 : List Value} {x9 : Int64} {fs11 : List Value} (h7 : f l1 = .inr (10, fs6)) (h8 : l1 < n) (h10 : fs6[2]? = some (.long x9)) (h12 : f l1 = .inr (10, fs11)) (h13 : l1 < n) (h14 : mi_W d 89 0 (mi_en 3 [.ref l1, .long x9]) [] (n, sl, f) (mi_Kc d 85 255 [some (.ref l1), some (.int l2), some (.int l3), some (.int l4), some (.int l5)] [] Q)) : mi_W (d + 1) 85 250 [some (.ref l1), some (.int l2), some (.int l3), some (.int l4), some (.int l5)] [] (n, sl, f) Q := by
  refine w_aload_n cd_85_250 rfl ?_
  refine w_aload_n cd_85_251 rfl ?_
  refine w_getfield cd_85_252 (show mt_f 10 19 = some (10, 2) by decide +kernel) h7 h8 h10 ?_
  exact w_invokevirtual cd_85_255 (show mt_m 10 69 = some (89, 0) by decide +kernel) (rest := []) rfl (as := [.ref l1, .long x9]) rfl h12 (Or.inl h13) ⟨Nat.le_of_ble_eq_true rfl, Nat.le_of_ble_eq_true rfl, Nat.le_of_ble_eq_true rfl⟩ h14
theorem b_85_258 {d : Nat} {Q : (Option Value ⊕ Nat) → mi_H → Prop} (n sl : Nat) (f : Nat → mi_C) {l1 : Nat} {l2 : Int32} {l3 : Int32} {l4 : Int32} {l5 : Int32} {s6 : Int64} (h7 : Q (.inl (some (.long s6))) (n, sl, f)) : mi_W d 85 258 [some (.ref l1), some (.int l2), some (.int l3), some (.int l4), some (.int l5)] [.long s6] (n, sl, f) Q := by
  exact w_lreturn cd_85_258 (by decide +kernel) h7
theorem b_85_259 {d : Nat} {Q : (Option Value ⊕ Nat) → mi_H → Prop} (n sl : Nat) (f : Nat → mi_C) {l1 : Nat} {l2 : Int32} {l3 : Int32} {l4 : Int32} {l5 : Int32} {fs6 : List Value} {x9 : Int64} {fs11 : List Value} (h7 : f l1 = .inr (10, fs6)) (h8 : l1 < n) (h10 : fs6[3]? = some (.long x9)) (h12 : f l1 = .inr (10, fs11)) (h13 : l1 < n) (h14 : mi_W d 89 0 (mi_en 3 [.ref l1, .long x9]) [] (n, sl, f) (mi_Kc d 85 264 [some (.ref l1), some (.int l2), some (.int l3), some (.int l4), some (.int l5)] [] Q)) : mi_W (d + 1) 85 259 [some (.ref l1), some (.int l2), some (.int l3), some (.int l4), some (.int l5)] [] (n, sl, f) Q := by
  refine w_aload_n cd_85_259 rfl ?_
  refine w_aload_n cd_85_260 rfl ?_
  refine w_getfield cd_85_261 (show mt_f 10 23 = some (10, 3) by decide +kernel) h7 h8 h10 ?_
  exact w_invokevirtual cd_85_264 (show mt_m 10 69 = some (89, 0) by decide +kernel) (rest := []) rfl (as := [.ref l1, .long x9]) rfl h12 (Or.inl h13) ⟨Nat.le_of_ble_eq_true rfl, Nat.le_of_ble_eq_true rfl, Nat.le_of_ble_eq_true rfl⟩ h14
theorem b_85_267 {d : Nat} {Q : (Option Value ⊕ Nat) → mi_H → Prop} (n sl : Nat) (f : Nat → mi_C) {l1 : Nat} {l2 : Int32} {l3 : Int32} {l4 : Int32} {l5 : Int32} {s6 : Int64} (h7 : Q (.inl (some (.long s6))) (n, sl, f)) : mi_W d 85 267 [some (.ref l1), some (.int l2), some (.int l3), some (.int l4), some (.int l5)] [.long s6] (n, sl, f) Q := by
  exact w_lreturn cd_85_267 (by decide +kernel) h7
theorem b_85_268 {d : Nat} {Q : (Option Value ⊕ Nat) → mi_H → Prop} (n sl : Nat) (f : Nat → mi_C) {l1 : Nat} {l2 : Int32} {l3 : Int32} {l4 : Int32} {l5 : Int32} {fs6 : List Value} (h7 : f l1 = .inr (10, fs6)) (h8 : l1 < n) (h9 : mi_W d 85 0 (mi_en 5 [.ref l1, .int l4, .int (l3 + 1)]) [] (n, sl, f) (mi_Kc d 85 273 [some (.ref l1), some (.int l2), some (.int l3), some (.int l4), some (.int l5)] [] Q)) : mi_W (d + 1) 85 268 [some (.ref l1), some (.int l2), some (.int l3), some (.int l4), some (.int l5)] [] (n, sl, f) Q := by
  refine w_aload_n cd_85_268 rfl ?_
  refine w_iload_n cd_85_269 rfl ?_
  refine w_iload_n cd_85_270 rfl ?_
  refine w_iconst (v := 1) cd_85_271 (by decide) ?_
  refine w_iadd cd_85_272 ?_
  exact w_invokevirtual cd_85_273 (show mt_m 10 73 = some (85, 0) by decide +kernel) (rest := []) rfl (as := [.ref l1, .int l4, .int (l3 + 1)]) rfl h7 (Or.inl h8) ⟨Nat.le_of_ble_eq_true rfl, Nat.le_of_ble_eq_true rfl, Nat.le_of_ble_eq_true rfl⟩ h9
theorem b_85_276 {d : Nat} {Q : (Option Value ⊕ Nat) → mi_H → Prop} (n sl : Nat) (f : Nat → mi_C) {l1 : Nat} {l2 : Int32} {l3 : Int32} {l4 : Int32} {l5 : Int32} {s6 : Int64} (h7 : Q (.inl (some (.long (-s6)))) (n, sl, f)) : mi_W d 85 276 [some (.ref l1), some (.int l2), some (.int l3), some (.int l4), some (.int l5)] [.long s6] (n, sl, f) Q := by
  refine w_lneg cd_85_276 ?_
  exact w_lreturn cd_85_277 (by decide +kernel) h7
theorem b_85_278 {d : Nat} {Q : (Option Value ⊕ Nat) → mi_H → Prop} (n sl : Nat) (f : Nat → mi_C) {l1 : Nat} {l2 : Int32} {l3 : Int32} {l4 : Int32} {l5 : Int32} {fs6 : List Value} (h7 : f l1 = .inr (10, fs6)) (h8 : l1 < n) (h9 : mi_W d 90 0 (mi_en 6 [.ref l1, .int l4, .int (l3 + 1)]) [] (n, sl, f) (mi_Kc d 85 284 [some (.ref l1), some (.int l2), some (.int l3), some (.int l4), some (.int l5)] [.ref l1] Q)) : mi_W (d + 1) 85 278 [some (.ref l1), some (.int l2), some (.int l3), some (.int l4), some (.int l5)] [] (n, sl, f) Q := by
  refine w_aload_n cd_85_278 rfl ?_
  refine w_aload_n cd_85_279 rfl ?_
  refine w_iload_n cd_85_280 rfl ?_
  refine w_iload_n cd_85_281 rfl ?_
  refine w_iconst (v := 1) cd_85_282 (by decide) ?_
  refine w_iadd cd_85_283 ?_
  exact w_invokevirtual cd_85_284 (show mt_m 10 76 = some (90, 0) by decide +kernel) (rest := [.ref l1]) rfl (as := [.ref l1, .int l4, .int (l3 + 1)]) rfl h7 (Or.inl h8) ⟨Nat.le_of_ble_eq_true rfl, Nat.le_of_ble_eq_true rfl, Nat.le_of_ble_eq_true rfl⟩ h9
theorem b_85_287 {d : Nat} {Q : (Option Value ⊕ Nat) → mi_H → Prop} (n sl : Nat) (f : Nat → mi_C) {l1 : Nat} {l2 : Int32} {l3 : Int32} {l4 : Int32} {l5 : Int32} {s6 : Int32} {s7 : Nat} (h8 : s6 = (0 : Int32) → mi_W d 85 302 [some (.ref l1), some (.int l2), some (.int l3), some (.int l4), some (.int l5)] [.ref s7] (n, sl, f) Q) (h9 : ¬ (s6 = (0 : Int32)) → mi_W d 85 290 [some (.ref l1), some (.int l2), some (.int l3), some (.int l4), some (.int l5)] [.ref s7] (n, sl, f) Q) : mi_W d 85 287 [some (.ref l1), some (.int l2), some (.int l3), some (.int l4), some (.int l5)] [.int s6, .ref s7] (n, sl, f) Q := by
  exact w_ifeq cd_85_287 (by decide) h8 h9
theorem b_85_290 {d : Nat} {Q : (Option Value ⊕ Nat) → mi_H → Prop} (n sl : Nat) (f : Nat → mi_C) {l1 : Nat} {l2 : Int32} {l3 : Int32} {l4 : Int32} {l5 : Int32} {s6 : Nat} {fs7 : List Value} {x10 : Nat} {fs12 : List Value} {x15 : Nat} (m17 i17 : Nat) (g17 : Nat → Int32) (h8 : f l1 = .inr (10, fs7)) (h9 : l1 < n) (h11 : fs7[0]? = some (.ref x10)) (h13 : f x10 = .inr (2, fs12)) (h14 : x10 < n) (h16 : fs12[2]? = some (.ref x15)) (h18 : f x15 = .inl (0, m17, .inl g17)) (h19 : x15 < n ∨ x15 = mi_SC) (h20 : mi_ix l2 m17 i17) (h21 : mi_W d 85 304 [some (.ref l1), some (.int l2), some (.int l3), some (.int l4), some (.int l5)] [.int (g17 i17), .ref s6] (n, sl, f) Q) : mi_W d 85 290 [some (.ref l1), some (.int l2), some (.int l3), some (.int l4), some (.int l5)] [.ref s6] (n, sl, f) Q := by
  refine w_aload_n cd_85_290 rfl ?_
  refine w_getfield cd_85_291 (show mt_f 10 9 = some (10, 0) by decide +kernel) h8 h9 h11 ?_
  refine w_getfield cd_85_294 (show mt_f 10 80 = some (2, 2) by decide +kernel) h13 h14 h16 ?_
  refine w_iload_n cd_85_297 rfl ?_
  refine w_iaload cd_85_298 h18 h19 h20 ?_
  exact w_goto cd_85_299 (by decide) h21
theorem b_85_302 {d : Nat} {Q : (Option Value ⊕ Nat) → mi_H → Prop} (n sl : Nat) (f : Nat → mi_C) {l1 : Nat} {l2 : Int32} {l3 : Int32} {l4 : Int32} {l5 : Int32} {s6 : Nat} (h7 : mi_W d 85 304 [some (.ref l1), some (.int l2), some (.int l3), some (.int l4), some (.int l5)] [.int l5, .ref s6] (n, sl, f) Q) : mi_W d 85 302 [some (.ref l1), some (.int l2), some (.int l3), some (.int l4), some (.int l5)] [.ref s6] (n, sl, f) Q := by
  refine w_iload cd_85_302 rfl ?_
  exact h7
theorem b_85_304 {d : Nat} {Q : (Option Value ⊕ Nat) → mi_H → Prop} (n sl : Nat) (f : Nat → mi_C) {l1 : Nat} {l2 : Int32} {l3 : Int32} {l4 : Int32} {l5 : Int32} {s6 : Int32} {s7 : Nat} {fs8 : List Value} (h9 : f s7 = .inr (10, fs8)) (h10 : s7 < n) (h11 : mi_W d 85 0 (mi_en 5 [.ref s7, .int s6, .int (l3 + 1)]) [] (n, sl, f) (mi_Kc d 85 307 [some (.ref l1), some (.int l2), some (.int l3), some (.int l4), some (.int l5)] [] Q)) : mi_W (d + 1) 85 304 [some (.ref l1), some (.int l2), some (.int l3), some (.int l4), some (.int l5)] [.int s6, .ref s7] (n, sl, f) Q := by
  refine w_iload_n cd_85_304 rfl ?_
  refine w_iconst (v := 1) cd_85_305 (by decide) ?_
  refine w_iadd cd_85_306 ?_
  exact w_invokevirtual cd_85_307 (show mt_m 10 73 = some (85, 0) by decide +kernel) (rest := []) rfl (as := [.ref s7, .int s6, .int (l3 + 1)]) rfl h9 (Or.inl h10) ⟨Nat.le_of_ble_eq_true rfl, Nat.le_of_ble_eq_true rfl, Nat.le_of_ble_eq_true rfl⟩ h11
theorem b_85_310 {d : Nat} {Q : (Option Value ⊕ Nat) → mi_H → Prop} (n sl : Nat) (f : Nat → mi_C) {l1 : Nat} {l2 : Int32} {l3 : Int32} {l4 : Int32} {l5 : Int32} {s6 : Int64} (h7 : Q (.inl (some (.long s6))) (n, sl, f)) : mi_W d 85 310 [some (.ref l1), some (.int l2), some (.int l3), some (.int l4), some (.int l5)] [.long s6] (n, sl, f) Q := by
  exact w_lreturn cd_85_310 (by decide +kernel) h7
theorem b_85_311 {d : Nat} {Q : (Option Value ⊕ Nat) → mi_H → Prop} (n sl : Nat) (f : Nat → mi_C) {l1 : Nat} {l2 : Int32} {l3 : Int32} {l4 : Int32} {l5 : Int32} {fs6 : List Value} (h7 : f l1 = .inr (10, fs6)) (h8 : l1 < n) (h9 : mi_W d 85 0 (mi_en 5 [.ref l1, .int l4, .int (l3 + 1)]) [] (n, sl, f) (mi_Kc d 85 317 [some (.ref l1), some (.int l2), some (.int l3), some (.int l4), some (.int l5)] [.ref l1] Q)) : mi_W (d + 1) 85 311 [some (.ref l1), some (.int l2), some (.int l3), some (.int l4), some (.int l5)] [] (n, sl, f) Q := by
  refine w_aload_n cd_85_311 rfl ?_
  refine w_aload_n cd_85_312 rfl ?_
  refine w_iload_n cd_85_313 rfl ?_
  refine w_iload_n cd_85_314 rfl ?_
  refine w_iconst (v := 1) cd_85_315 (by decide) ?_
  refine w_iadd cd_85_316 ?_
  exact w_invokevirtual cd_85_317 (show mt_m 10 73 = some (85, 0) by decide +kernel) (rest := [.ref l1]) rfl (as := [.ref l1, .int l4, .int (l3 + 1)]) rfl h7 (Or.inl h8) ⟨Nat.le_of_ble_eq_true rfl, Nat.le_of_ble_eq_true rfl, Nat.le_of_ble_eq_true rfl⟩ h9
theorem b_85_320 {d : Nat} {Q : (Option Value ⊕ Nat) → mi_H → Prop} (n sl : Nat) (f : Nat → mi_C) {l1 : Nat} {l2 : Int32} {l3 : Int32} {l4 : Int32} {l5 : Int32} {s6 : Int64} {s7 : Nat} {fs8 : List Value} (h9 : f l1 = .inr (10, fs8)) (h10 : l1 < n) (h11 : mi_W d 85 0 (mi_en 5 [.ref l1, .int l5, .int (l3 + 1)]) [] (n, sl, f) (mi_Kc d 85 326 [some (.ref l1), some (.int l2), some (.int l3), some (.int l4), some (.int l5)] [.long s6, .ref s7] Q)) : mi_W (d + 1) 85 320 [some (.ref l1), some (.int l2), some (.int l3), some (.int l4), some (.int l5)] [.long s6, .ref s7] (n, sl, f) Q := by
  refine w_aload_n cd_85_320 rfl ?_
  refine w_iload cd_85_321 rfl ?_
  refine w_iload_n cd_85_323 rfl ?_
  refine w_iconst (v := 1) cd_85_324 (by decide) ?_
  refine w_iadd cd_85_325 ?_
  exact w_invokevirtual cd_85_326 (show mt_m 10 73 = some (85, 0) by decide +kernel) (rest := [.long s6, .ref s7]) rfl (as := [.ref l1, .int l5, .int (l3 + 1)]) rfl h9 (Or.inl h10) ⟨Nat.le_of_ble_eq_true rfl, Nat.le_of_ble_eq_true rfl, Nat.le_of_ble_eq_true rfl⟩ h11
theorem b_85_329 {d : Nat} {Q : (Option Value ⊕ Nat) → mi_H → Prop} (n sl : Nat) (f : Nat → mi_C) {l1 : Nat} {l2 : Int32} {l3 : Int32} {l4 : Int32} {l5 : Int32} {s6 : Int64} {s7 : Int64} {s8 : Nat} {fs9 : List Value} (h10 : f s8 = .inr (10, fs9)) (h11 : s8 < n) (h12 : mi_W d 89 0 (mi_en 3 [.ref s8, .long (s7 + s6)]) [] (n, sl, f) (mi_Kc d 85 330 [some (.ref l1), some (.int l2), some (.int l3), some (.int l4), some (.int l5)] [] Q)) : mi_W (d + 1) 85 329 [some (.ref l1), some (.int l2), some (.int l3), some (.int l4), some (.int l5)] [.long s6, .long s7, .ref s8] (n, sl, f) Q := by
  refine w_ladd cd_85_329 ?_
  exact w_invokevirtual cd_85_330 (show mt_m 10 69 = some (89, 0) by decide +kernel) (rest := []) rfl (as := [.ref s8, .long (s7 + s6)]) rfl h10 (Or.inl h11) ⟨Nat.le_of_ble_eq_true rfl, Nat.le_of_ble_eq_true rfl, Nat.le_of_ble_eq_true rfl⟩ h12
theorem b_85_333 {d : Nat} {Q : (Option Value ⊕ Nat) → mi_H → Prop} (n sl : Nat) (f : Nat → mi_C) {l1 : Nat} {l2 : Int32} {l3 : Int32} {l4 : Int32} {l5 : Int32} {s6 : Int64} (h7 : Q (.inl (some (.long s6))) (n, sl, f)) : mi_W d 85 333 [some (.ref l1), some (.int l2), some (.int l3), some (.int l4), some (.int l5)] [.long s6] (n, sl, f) Q := by
  exact w_lreturn cd_85_333 (by decide +kernel) h7
theorem b_85_334 {d : Nat} {Q : (Option Value ⊕ Nat) → mi_H → Prop} (n sl : Nat) (f : Nat → mi_C) {l1 : Nat} {l2 : Int32} {l3 : Int32} {l4 : Int32} {l5 : Int32} {fs6 : List Value} (h7 : f l1 = .inr (10, fs6)) (h8 : l1 < n) (h9 : mi_W d 85 0 (mi_en 5 [.ref l1, .int l4, .int (l3 + 1)]) [] (n, sl, f) (mi_Kc d 85 340 [some (.ref l1), some (.int l2), some (.int l3), some (.int l4), some (.int l5)] [.ref l1] Q)) : mi_W (d + 1) 85 334 [some (.ref l1), some (.int l2), some (.int l3), some (.int l4), some (.int l5)] [] (n, sl, f) Q := by
  refine w_aload_n cd_85_334 rfl ?_
  refine w_aload_n cd_85_335 rfl ?_
  refine w_iload_n cd_85_336 rfl ?_
  refine w_iload_n cd_85_337 rfl ?_
  refine w_iconst (v := 1) cd_85_338 (by decide) ?_
  refine w_iadd cd_85_339 ?_
  exact w_invokevirtual cd_85_340 (show mt_m 10 73 = some (85, 0) by decide +kernel) (rest := [.ref l1]) rfl (as := [.ref l1, .int l4, .int (l3 + 1)]) rfl h7 (Or.inl h8) ⟨Nat.le_of_ble_eq_true rfl, Nat.le_of_ble_eq_true rfl, Nat.le_of_ble_eq_true rfl⟩ h9
theorem b_85_343 {d : Nat} {Q : (Option Value ⊕ Nat) → mi_H → Prop} (n sl : Nat) (f : Nat → mi_C) {l1 : Nat} {l2 : Int32} {l3 : Int32} {l4 : Int32} {l5 : Int32} {s6 : Int64} {s7 : Nat} {fs8 : List Value} (h9 : f l1 = .inr (10, fs8)) (h10 : l1 < n) (h11 : mi_W d 85 0 (mi_en 5 [.ref l1, .int l5, .int (l3 + 1)]) [] (n, sl, f) (mi_Kc d 85 349 [some (.ref l1), some (.int l2), some (.int l3), some (.int l4), some (.int l5)] [.long s6, .ref s7] Q)) : mi_W (d + 1) 85 343 [some (.ref l1), some (.int l2), some (.int l3), some (.int l4), some (.int l5)] [.long s6, .ref s7] (n, sl, f) Q := by
  refine w_aload_n cd_85_343 rfl ?_
  refine w_iload cd_85_344 rfl ?_
  refine w_iload_n cd_85_346 rfl ?_
  refine w_iconst (v := 1) cd_85_347 (by decide) ?_
  refine w_iadd cd_85_348 ?_
  exact w_invokevirtual cd_85_349 (show mt_m 10 73 = some (85, 0) by decide +kernel) (rest := [.long s6, .ref s7]) rfl (as := [.ref l1, .int l5, .int (l3 + 1)]) rfl h9 (Or.inl h10) ⟨Nat.le_of_ble_eq_true rfl, Nat.le_of_ble_eq_true rfl, Nat.le_of_ble_eq_true rfl⟩ h11
theorem b_85_352 {d : Nat} {Q : (Option Value ⊕ Nat) → mi_H → Prop} (n sl : Nat) (f : Nat → mi_C) {l1 : Nat} {l2 : Int32} {l3 : Int32} {l4 : Int32} {l5 : Int32} {s6 : Int64} {s7 : Int64} {s8 : Nat} {fs9 : List Value} (h10 : f s8 = .inr (10, fs9)) (h11 : s8 < n) (h12 : mi_W d 89 0 (mi_en 3 [.ref s8, .long (s7 - s6)]) [] (n, sl, f) (mi_Kc d 85 353 [some (.ref l1), some (.int l2), some (.int l3), some (.int l4), some (.int l5)] [] Q)) : mi_W (d + 1) 85 352 [some (.ref l1), some (.int l2), some (.int l3), some (.int l4), some (.int l5)] [.long s6, .long s7, .ref s8] (n, sl, f) Q := by
  refine w_lsub cd_85_352 ?_
  exact w_invokevirtual cd_85_353 (show mt_m 10 69 = some (89, 0) by decide +kernel) (rest := []) rfl (as := [.ref s8, .long (s7 - s6)]) rfl h10 (Or.inl h11) ⟨Nat.le_of_ble_eq_true rfl, Nat.le_of_ble_eq_true rfl, Nat.le_of_ble_eq_true rfl⟩ h12
theorem b_85_356 {d : Nat} {Q : (Option Value ⊕ Nat) → mi_H → Prop} (n sl : Nat) (f : Nat → mi_C) {l1 : Nat} {l2 : Int32} {l3 : Int32} {l4 : Int32} {l5 : Int32} {s6 : Int64} (h7 : Q (.inl (some (.long s6))) (n, sl, f)) : mi_W d 85 356 [some (.ref l1), some (.int l2), some (.int l3), some (.int l4), some (.int l5)] [.long s6] (n, sl, f) Q := by
  exact w_lreturn cd_85_356 (by decide +kernel) h7
theorem b_85_357 {d : Nat} {Q : (Option Value ⊕ Nat) → mi_H → Prop} (n sl : Nat) (f : Nat → mi_C) {l1 : Nat} {l2 : Int32} {l3 : Int32} {l4 : Int32} {l5 : Int32} {fs6 : List Value} (h7 : f l1 = .inr (10, fs6)) (h8 : l1 < n) (h9 : mi_W d 85 0 (mi_en 5 [.ref l1, .int l4, .int (l3 + 1)]) [] (n, sl, f) (mi_Kc d 85 363 [some (.ref l1), some (.int l2), some (.int l3), some (.int l4), some (.int l5)] [.ref l1] Q)) : mi_W (d + 1) 85 357 [some (.ref l1), some (.int l2), some (.int l3), some (.int l4), some (.int l5)] [] (n, sl, f) Q := by
  refine w_aload_n cd_85_357 rfl ?_
  refine w_aload_n cd_85_358 rfl ?_
  refine w_iload_n cd_85_359 rfl ?_
  refine w_iload_n cd_85_360 rfl ?_
  refine w_iconst (v := 1) cd_85_361 (by decide) ?_
  refine w_iadd cd_85_362 ?_
  exact w_invokevirtual cd_85_363 (show mt_m 10 73 = some (85, 0) by decide +kernel) (rest := [.ref l1]) rfl (as := [.ref l1, .int l4, .int (l3 + 1)]) rfl h7 (Or.inl h8) ⟨Nat.le_of_ble_eq_true rfl, Nat.le_of_ble_eq_true rfl, Nat.le_of_ble_eq_true rfl⟩ h9
theorem b_85_366 {d : Nat} {Q : (Option Value ⊕ Nat) → mi_H → Prop} (n sl : Nat) (f : Nat → mi_C) {l1 : Nat} {l2 : Int32} {l3 : Int32} {l4 : Int32} {l5 : Int32} {s6 : Int64} {s7 : Nat} {fs8 : List Value} (h9 : f l1 = .inr (10, fs8)) (h10 : l1 < n) (h11 : mi_W d 85 0 (mi_en 5 [.ref l1, .int l5, .int (l3 + 1)]) [] (n, sl, f) (mi_Kc d 85 372 [some (.ref l1), some (.int l2), some (.int l3), some (.int l4), some (.int l5)] [.long s6, .ref s7] Q)) : mi_W (d + 1) 85 366 [some (.ref l1), some (.int l2), some (.int l3), some (.int l4), some (.int l5)] [.long s6, .ref s7] (n, sl, f) Q := by
  refine w_aload_n cd_85_366 rfl ?_
  refine w_iload cd_85_367 rfl ?_
  refine w_iload_n cd_85_369 rfl ?_
  refine w_iconst (v := 1) cd_85_370 (by decide) ?_
  refine w_iadd cd_85_371 ?_
  exact w_invokevirtual cd_85_372 (show mt_m 10 73 = some (85, 0) by decide +kernel) (rest := [.long s6, .ref s7]) rfl (as := [.ref l1, .int l5, .int (l3 + 1)]) rfl h9 (Or.inl h10) ⟨Nat.le_of_ble_eq_true rfl, Nat.le_of_ble_eq_true rfl, Nat.le_of_ble_eq_true rfl⟩ h11
theorem b_85_375 {d : Nat} {Q : (Option Value ⊕ Nat) → mi_H → Prop} (n sl : Nat) (f : Nat → mi_C) {l1 : Nat} {l2 : Int32} {l3 : Int32} {l4 : Int32} {l5 : Int32} {s6 : Int64} {s7 : Int64} {s8 : Nat} {fs9 : List Value} (h10 : f s8 = .inr (10, fs9)) (h11 : s8 < n) (h12 : mi_W d 93 0 (mi_en 5 [.ref s8, .long s7, .long s6]) [] (n, sl, f) (mi_Kc d 85 375 [some (.ref l1), some (.int l2), some (.int l3), some (.int l4), some (.int l5)] [] Q)) : mi_W (d + 1) 85 375 [some (.ref l1), some (.int l2), some (.int l3), some (.int l4), some (.int l5)] [.long s6, .long s7, .ref s8] (n, sl, f) Q := by
  exact w_invokevirtual cd_85_375 (show mt_m 10 83 = some (93, 0) by decide +kernel) (rest := []) rfl (as := [.ref s8, .long s7, .long s6]) rfl h10 (Or.inl h11) ⟨Nat.le_of_ble_eq_true rfl, Nat.le_of_ble_eq_true rfl, Nat.le_of_ble_eq_true rfl⟩ h12
theorem b_85_378 {d : Nat} {Q : (Option Value ⊕ Nat) → mi_H → Prop} (n sl : Nat) (f : Nat → mi_C) {l1 : Nat} {l2 : Int32} {l3 : Int32} {l4 : Int32} {l5 : Int32} {s6 : Int64} (h7 : Q (.inl (some (.long s6))) (n, sl, f)) : mi_W d 85 378 [some (.ref l1), some (.int l2), some (.int l3), some (.int l4), some (.int l5)] [.long s6] (n, sl, f) Q := by
  exact w_lreturn cd_85_378 (by decide +kernel) h7
theorem b_85_379 {d : Nat} {Q : (Option Value ⊕ Nat) → mi_H → Prop} (n sl : Nat) (f : Nat → mi_C) {l1 : Nat} {l2 : Int32} {l3 : Int32} {l4 : Int32} {l5 : Int32} {fs6 : List Value} (h7 : f l1 = .inr (10, fs6)) (h8 : l1 < n) (h9 : mi_W d 85 0 (mi_en 5 [.ref l1, .int l4, .int (l3 + 1)]) [] (n, sl, f) (mi_Kc d 85 384 [some (.ref l1), some (.int l2), some (.int l3), some (.int l4), some (.int l5)] [] Q)) : mi_W (d + 1) 85 379 [some (.ref l1), some (.int l2), some (.int l3), some (.int l4), some (.int l5)] [] (n, sl, f) Q := by
  refine w_aload_n cd_85_379 rfl ?_
  refine w_iload_n cd_85_380 rfl ?_
  refine w_iload_n cd_85_381 rfl ?_
  refine w_iconst (v := 1) cd_85_382 (by decide) ?_
  refine w_iadd cd_85_383 ?_
  exact w_invokevirtual cd_85_384 (show mt_m 10 73 = some (85, 0) by decide +kernel) (rest := []) rfl (as := [.ref l1, .int l4, .int (l3 + 1)]) rfl h7 (Or.inl h8) ⟨Nat.le_of_ble_eq_true rfl, Nat.le_of_ble_eq_true rfl, Nat.le_of_ble_eq_true rfl⟩ h9
theorem b_85_387 {d : Nat} {Q : (Option Value ⊕ Nat) → mi_H → Prop} (n sl : Nat) (f : Nat → mi_C) {l1 : Nat} {l2 : Int32} {l3 : Int32} {l4 : Int32} {l5 : Int32} {s6 : Int64} {fs7 : List Value} (h8 : f l1 = .inr (10, fs7)) (h9 : l1 < n) (h10 : mi_W d 85 0 (mi_en 5 [.ref l1, .int l5, .int (l3 + 1)]) [] (n, sl, f) (mi_Kc d 85 393 [some (.ref l1), some (.int l2), some (.int l3), some (.int l4), some (.int l5)] [.long s6] Q)) : mi_W (d + 1) 85 387 [some (.ref l1), some (.int l2), some (.int l3), some (.int l4), some (.int l5)] [.long s6] (n, sl, f) Q := by
  refine w_aload_n cd_85_387 rfl ?_
  refine w_iload cd_85_388 rfl ?_
  refine w_iload_n cd_85_390 rfl ?_
  refine w_iconst (v := 1) cd_85_391 (by decide) ?_
  refine w_iadd cd_85_392 ?_
  exact w_invokevirtual cd_85_393 (show mt_m 10 73 = some (85, 0) by decide +kernel) (rest := [.long s6]) rfl (as := [.ref l1, .int l5, .int (l3 + 1)]) rfl h8 (Or.inl h9) ⟨Nat.le_of_ble_eq_true rfl, Nat.le_of_ble_eq_true rfl, Nat.le_of_ble_eq_true rfl⟩ h10
theorem b_85_396 {d : Nat} {Q : (Option Value ⊕ Nat) → mi_H → Prop} (n sl : Nat) (f : Nat → mi_C) {l1 : Nat} {l2 : Int32} {l3 : Int32} {l4 : Int32} {l5 : Int32} {s6 : Int64} {s7 : Int64} (h8 : mi_W d 95 0 (mi_en 4 [.long s7, .long s6]) [] (n, sl, f) (mi_Kc d 85 396 [some (.ref l1), some (.int l2), some (.int l3), some (.int l4), some (.int l5)] [] Q)) : mi_W (d + 1) 85 396 [some (.ref l1), some (.int l2), some (.int l3), some (.int l4), some (.int l5)] [.long s6, .long s7] (n, sl, f) Q := by
  exact w_invokestatic cd_85_396 (show mt_m 10 87 = some (95, 4) by decide +kernel) (by decide) (rest := []) rfl (as := [.long s7, .long s6]) rfl ⟨Nat.le_of_ble_eq_true rfl, Nat.le_of_ble_eq_true rfl, Nat.le_of_ble_eq_true rfl⟩ h8
theorem b_85_399 {d : Nat} {Q : (Option Value ⊕ Nat) → mi_H → Prop} (n sl : Nat) (f : Nat → mi_C) {l1 : Nat} {l2 : Int32} {l3 : Int32} {l4 : Int32} {l5 : Int32} {s6 : Int64} (h7 : Q (.inl (some (.long s6))) (n, sl, f)) : mi_W d 85 399 [some (.ref l1), some (.int l2), some (.int l3), some (.int l4), some (.int l5)] [.long s6] (n, sl, f) Q := by
  exact w_lreturn cd_85_399 (by decide +kernel) h7
/-! MarloweHost$Situation.balance(II)J -/
set_option maxRecDepth 100000 in
theorem mq_86 : mt_q 86 = my_86 := rfl
set_option maxRecDepth 100000 in
theorem ci_86 : mt_inc 0 my_86.cd = true := by decide +kernel
theorem cd_86_0 : mt_cd 86 0 = some (.iload_n 1) := mt_cd_of (q := (0, .iload_n 1, 1)) mq_86 ci_86 (List.mem_of_getElem? (i := 0) rfl)
theorem cd_86_1 : mt_cd 86 1 = some (.iconst 4) := mt_cd_of (q := (1, .iconst 4, 1)) mq_86 ci_86 (List.mem_of_getElem? (i := 1) rfl)
theorem cd_86_2 : mt_cd 86 2 = some (.imul) := mt_cd_of (q := (2, .imul, 1)) mq_86 ci_86 (List.mem_of_getElem? (i := 2) rfl)
theorem cd_86_3 : mt_cd 86 3 = some (.iload_n 2) := mt_cd_of (q := (3, .iload_n 2, 1)) mq_86 ci_86 (List.mem_of_getElem? (i := 3) rfl)
theorem cd_86_4 : mt_cd 86 4 = some (.iadd) := mt_cd_of (q := (4, .iadd, 1)) mq_86 ci_86 (List.mem_of_getElem? (i := 4) rfl)
theorem cd_86_5 : mt_cd 86 5 = some (.istore_n 3) := mt_cd_of (q := (5, .istore_n 3, 1)) mq_86 ci_86 (List.mem_of_getElem? (i := 5) rfl)
theorem cd_86_6 : mt_cd 86 6 = some (.iload_n 3) := mt_cd_of (q := (6, .iload_n 3, 1)) mq_86 ci_86 (List.mem_of_getElem? (i := 6) rfl)
theorem cd_86_7 : mt_cd 86 7 = some (.ifCond .lt 18) := mt_cd_of (q := (7, .ifCond .lt 18, 3)) mq_86 ci_86 (List.mem_of_getElem? (i := 7) rfl)
theorem cd_86_10 : mt_cd 86 10 = some (.iload_n 3) := mt_cd_of (q := (10, .iload_n 3, 1)) mq_86 ci_86 (List.mem_of_getElem? (i := 8) rfl)
theorem cd_86_11 : mt_cd 86 11 = some (.bipush 32) := mt_cd_of (q := (11, .bipush 32, 2)) mq_86 ci_86 (List.mem_of_getElem? (i := 9) rfl)
theorem cd_86_13 : mt_cd 86 13 = some (.if_icmp .ge 12) := mt_cd_of (q := (13, .if_icmp .ge 12, 3)) mq_86 ci_86 (List.mem_of_getElem? (i := 10) rfl)
theorem cd_86_16 : mt_cd 86 16 = some (.aload_n 0) := mt_cd_of (q := (16, .aload_n 0, 1)) mq_86 ci_86 (List.mem_of_getElem? (i := 11) rfl)
theorem cd_86_17 : mt_cd 86 17 = some (.getfield 9) := mt_cd_of (q := (17, .getfield 9, 3)) mq_86 ci_86 (List.mem_of_getElem? (i := 12) rfl)
theorem cd_86_20 : mt_cd 86 20 = some (.iload_n 3) := mt_cd_of (q := (20, .iload_n 3, 1)) mq_86 ci_86 (List.mem_of_getElem? (i := 13) rfl)
theorem cd_86_21 : mt_cd 86 21 = some (.laload) := mt_cd_of (q := (21, .laload, 1)) mq_86 ci_86 (List.mem_of_getElem? (i := 14) rfl)
theorem cd_86_22 : mt_cd 86 22 = some (.goto 4) := mt_cd_of (q := (22, .goto 4, 3)) mq_86 ci_86 (List.mem_of_getElem? (i := 15) rfl)
theorem cd_86_25 : mt_cd 86 25 = some (.lconst 0) := mt_cd_of (q := (25, .lconst 0, 1)) mq_86 ci_86 (List.mem_of_getElem? (i := 16) rfl)
theorem cd_86_26 : mt_cd 86 26 = some (.lreturn) := mt_cd_of (q := (26, .lreturn, 1)) mq_86 ci_86 (List.mem_of_getElem? (i := 17) rfl)
theorem b_86_0 {d : Nat} {Q : (Option Value ⊕ Nat) → mi_H → Prop} (n sl : Nat) (f : Nat → mi_C) {l1 : Nat} {l2 : Int32} {l3 : Int32} {o4 : Option Value} (h5 : ((l2 * 4) + l3) < (0 : Int32) → mi_W d 86 25 [some (.ref l1), some (.int l2), some (.int l3), some (.int ((l2 * 4) + l3))] [] (n, sl, f) Q) (h6 : ¬ (((l2 * 4) + l3) < (0 : Int32)) → mi_W d 86 10 [some (.ref l1), some (.int l2), some (.int l3), some (.int ((l2 * 4) + l3))] [] (n, sl, f) Q) : mi_W d 86 0 [some (.ref l1), some (.int l2), some (.int l3), o4] [] (n, sl, f) Q := by
  refine w_iload_n cd_86_0 rfl ?_
  refine w_iconst (v := 4) cd_86_1 (by decide) ?_
  refine w_imul cd_86_2 ?_
  refine w_iload_n cd_86_3 rfl ?_
  refine w_iadd cd_86_4 ?_
  refine w_istore_n (ls' := [some (.ref l1), some (.int l2), some (.int l3), some (.int ((l2 * 4) + l3))]) cd_86_5 (Nat.le_of_ble_eq_true rfl) rfl ?_
  refine w_iload_n cd_86_6 rfl ?_
  exact w_iflt cd_86_7 (by decide) h5 h6
theorem b_86_10 {d : Nat} {Q : (Option Value ⊕ Nat) → mi_H → Prop} (n sl : Nat) (f : Nat → mi_C) {l1 : Nat} {l2 : Int32} {l3 : Int32} {l4 : Int32} (h5 : 32 ≤ l4 → mi_W d 86 25 [some (.ref l1), some (.int l2), some (.int l3), some (.int l4)] [] (n, sl, f) Q) (h6 : ¬ (32 ≤ l4) → mi_W d 86 16 [some (.ref l1), some (.int l2), some (.int l3), some (.int l4)] [] (n, sl, f) Q) : mi_W d 86 10 [some (.ref l1), some (.int l2), some (.int l3), some (.int l4)] [] (n, sl, f) Q := by
  refine w_iload_n cd_86_10 rfl ?_
  refine w_bipush (v := 32) cd_86_11 (by decide) ?_
  exact w_if_icmpge cd_86_13 (by decide) h5 h6
theorem b_86_16 {d : Nat} {Q : (Option Value ⊕ Nat) → mi_H → Prop} (n sl : Nat) (f : Nat → mi_C) {l1 : Nat} {l2 : Int32} {l3 : Int32} {l4 : Int32} {fs5 : List Value} {x8 : Nat} (m10 i10 : Nat) (g10 : Nat → Int64) (h6 : f l1 = .inr (9, fs5)) (h7 : l1 < n) (h9 : fs5[2]? = some (.ref x8)) (h11 : f x8 = .inl (3, m10, .inr (.inl g10))) (h12 : x8 < n) (h13 : mi_ix l4 m10 i10) (h14 : mi_W d 86 26 [some (.ref l1), some (.int l2), some (.int l3), some (.int l4)] [.long (g10 i10)] (n, sl, f) Q) : mi_W d 86 16 [some (.ref l1), some (.int l2), some (.int l3), some (.int l4)] [] (n, sl, f) Q := by
  refine w_aload_n cd_86_16 rfl ?_
  refine w_getfield cd_86_17 (show mt_f 9 9 = some (9, 2) by decide +kernel) h6 h7 h9 ?_
  refine w_iload_n cd_86_20 rfl ?_
  refine w_laload cd_86_21 h11 h12 h13 ?_
  exact w_goto cd_86_22 (by decide) h14
theorem b_86_25 {d : Nat} {Q : (Option Value ⊕ Nat) → mi_H → Prop} (n sl : Nat) (f : Nat → mi_C) {l1 : Nat} {l2 : Int32} {l3 : Int32} {l4 : Int32} (h5 : mi_W d 86 26 [some (.ref l1), some (.int l2), some (.int l3), some (.int l4)] [.long 0] (n, sl, f) Q) : mi_W d 86 25 [some (.ref l1), some (.int l2), some (.int l3), some (.int l4)] [] (n, sl, f) Q := by
  refine w_lconst (lv := 0) cd_86_25 (by decide) ?_
  exact h5
theorem b_86_26 {d : Nat} {Q : (Option Value ⊕ Nat) → mi_H → Prop} (n sl : Nat) (f : Nat → mi_C) {l1 : Nat} {l2 : Int32} {l3 : Int32} {l4 : Int32} {s5 : Int64} (h6 : Q (.inl (some (.long s5))) (n, sl, f)) : mi_W d 86 26 [some (.ref l1), some (.int l2), some (.int l3), some (.int l4)] [.long s5] (n, sl, f) Q := by
  exact w_lreturn cd_86_26 (by decide +kernel) h6
/-! MarloweHost$Situation.chosenOf(I)J -/
set_option maxRecDepth 100000 in
theorem mq_87 : mt_q 87 = my_87 := rfl
set_option maxRecDepth 100000 in
theorem ci_87 : mt_inc 0 my_87.cd = true := by decide +kernel
theorem cd_87_0 : mt_cd 87 0 = some (.iload_n 1) := mt_cd_of (q := (0, .iload_n 1, 1)) mq_87 ci_87 (List.mem_of_getElem? (i := 0) rfl)
theorem cd_87_1 : mt_cd 87 1 = some (.ifCond .lt 18) := mt_cd_of (q := (1, .ifCond .lt 18, 3)) mq_87 ci_87 (List.mem_of_getElem? (i := 1) rfl)
theorem cd_87_4 : mt_cd 87 4 = some (.iload_n 1) := mt_cd_of (q := (4, .iload_n 1, 1)) mq_87 ci_87 (List.mem_of_getElem? (i := 2) rfl)
theorem cd_87_5 : mt_cd 87 5 = some (.bipush 8) := mt_cd_of (q := (5, .bipush 8, 2)) mq_87 ci_87 (List.mem_of_getElem? (i := 3) rfl)
theorem cd_87_7 : mt_cd 87 7 = some (.if_icmp .ge 12) := mt_cd_of (q := (7, .if_icmp .ge 12, 3)) mq_87 ci_87 (List.mem_of_getElem? (i := 4) rfl)
theorem cd_87_10 : mt_cd 87 10 = some (.aload_n 0) := mt_cd_of (q := (10, .aload_n 0, 1)) mq_87 ci_87 (List.mem_of_getElem? (i := 5) rfl)
theorem cd_87_11 : mt_cd 87 11 = some (.getfield 15) := mt_cd_of (q := (11, .getfield 15, 3)) mq_87 ci_87 (List.mem_of_getElem? (i := 6) rfl)
theorem cd_87_14 : mt_cd 87 14 = some (.iload_n 1) := mt_cd_of (q := (14, .iload_n 1, 1)) mq_87 ci_87 (List.mem_of_getElem? (i := 7) rfl)
theorem cd_87_15 : mt_cd 87 15 = some (.laload) := mt_cd_of (q := (15, .laload, 1)) mq_87 ci_87 (List.mem_of_getElem? (i := 8) rfl)
theorem cd_87_16 : mt_cd 87 16 = some (.goto 4) := mt_cd_of (q := (16, .goto 4, 3)) mq_87 ci_87 (List.mem_of_getElem? (i := 9) rfl)
theorem cd_87_19 : mt_cd 87 19 = some (.lconst 0) := mt_cd_of (q := (19, .lconst 0, 1)) mq_87 ci_87 (List.mem_of_getElem? (i := 10) rfl)
theorem cd_87_20 : mt_cd 87 20 = some (.lreturn) := mt_cd_of (q := (20, .lreturn, 1)) mq_87 ci_87 (List.mem_of_getElem? (i := 11) rfl)
theorem b_87_0 {d : Nat} {Q : (Option Value ⊕ Nat) → mi_H → Prop} (n sl : Nat) (f : Nat → mi_C) {l1 : Nat} {l2 : Int32} (h3 : l2 < (0 : Int32) → mi_W d 87 19 [some (.ref l1), some (.int l2)] [] (n, sl, f) Q) (h4 : ¬ (l2 < (0 : Int32)) → mi_W d 87 4 [some (.ref l1), some (.int l2)] [] (n, sl, f) Q) : mi_W d 87 0 [some (.ref l1), some (.int l2)] [] (n, sl, f) Q := by
  refine w_iload_n cd_87_0 rfl ?_
  exact w_iflt cd_87_1 (by decide) h3 h4
theorem b_87_4 {d : Nat} {Q : (Option Value ⊕ Nat) → mi_H → Prop} (n sl : Nat) (f : Nat → mi_C) {l1 : Nat} {l2 : Int32} (h3 : 8 ≤ l2 → mi_W d 87 19 [some (.ref l1), some (.int l2)] [] (n, sl, f) Q) (h4 : ¬ (8 ≤ l2) → mi_W d 87 10 [some (.ref l1), some (.int l2)] [] (n, sl, f) Q) : mi_W d 87 4 [some (.ref l1), some (.int l2)] [] (n, sl, f) Q := by
  refine w_iload_n cd_87_4 rfl ?_
  refine w_bipush (v := 8) cd_87_5 (by decide) ?_
  exact w_if_icmpge cd_87_7 (by decide) h3 h4
theorem b_87_10 {d : Nat} {Q : (Option Value ⊕ Nat) → mi_H → Prop} (n sl : Nat) (f : Nat → mi_C) {l1 : Nat} {l2 : Int32} {fs3 : List Value} {x6 : Nat} (m8 i8 : Nat) (g8 : Nat → Int64) (h4 : f l1 = .inr (9, fs3)) (h5 : l1 < n) (h7 : fs3[3]? = some (.ref x6)) (h9 : f x6 = .inl (3, m8, .inr (.inl g8))) (h10 : x6 < n) (h11 : mi_ix l2 m8 i8) (h12 : mi_W d 87 20 [some (.ref l1), some (.int l2)] [.long (g8 i8)] (n, sl, f) Q) : mi_W d 87 10 [some (.ref l1), some (.int l2)] [] (n, sl, f) Q := by
  refine w_aload_n cd_87_10 rfl ?_
  refine w_getfield cd_87_11 (show mt_f 9 15 = some (9, 3) by decide +kernel) h4 h5 h7 ?_
  refine w_iload_n cd_87_14 rfl ?_
  refine w_laload cd_87_15 h9 h10 h11 ?_
  exact w_goto cd_87_16 (by decide) h12
theorem b_87_19 {d : Nat} {Q : (Option Value ⊕ Nat) → mi_H → Prop} (n sl : Nat) (f : Nat → mi_C) {l1 : Nat} {l2 : Int32} (h3 : mi_W d 87 20 [some (.ref l1), some (.int l2)] [.long 0] (n, sl, f) Q) : mi_W d 87 19 [some (.ref l1), some (.int l2)] [] (n, sl, f) Q := by
  refine w_lconst (lv := 0) cd_87_19 (by decide) ?_
  exact h3
theorem b_87_20 {d : Nat} {Q : (Option Value ⊕ Nat) → mi_H → Prop} (n sl : Nat) (f : Nat → mi_C) {l1 : Nat} {l2 : Int32} {s3 : Int64} (h4 : Q (.inl (some (.long s3))) (n, sl, f)) : mi_W d 87 20 [some (.ref l1), some (.int l2)] [.long s3] (n, sl, f) Q := by
  exact w_lreturn cd_87_20 (by decide +kernel) h4
/-! MarloweHost$Situation.usedOf(I)J -/
set_option maxRecDepth 100000 in
theorem mq_88 : mt_q 88 = my_88 := rfl
set_option maxRecDepth 100000 in
theorem ci_88 : mt_inc 0 my_88.cd = true := by decide +kernel
theorem cd_88_0 : mt_cd 88 0 = some (.iload_n 1) := mt_cd_of (q := (0, .iload_n 1, 1)) mq_88 ci_88 (List.mem_of_getElem? (i := 0) rfl)
theorem cd_88_1 : mt_cd 88 1 = some (.ifCond .lt 18) := mt_cd_of (q := (1, .ifCond .lt 18, 3)) mq_88 ci_88 (List.mem_of_getElem? (i := 1) rfl)
theorem cd_88_4 : mt_cd 88 4 = some (.iload_n 1) := mt_cd_of (q := (4, .iload_n 1, 1)) mq_88 ci_88 (List.mem_of_getElem? (i := 2) rfl)
theorem cd_88_5 : mt_cd 88 5 = some (.bipush 8) := mt_cd_of (q := (5, .bipush 8, 2)) mq_88 ci_88 (List.mem_of_getElem? (i := 3) rfl)
theorem cd_88_7 : mt_cd 88 7 = some (.if_icmp .ge 12) := mt_cd_of (q := (7, .if_icmp .ge 12, 3)) mq_88 ci_88 (List.mem_of_getElem? (i := 4) rfl)
theorem cd_88_10 : mt_cd 88 10 = some (.aload_n 0) := mt_cd_of (q := (10, .aload_n 0, 1)) mq_88 ci_88 (List.mem_of_getElem? (i := 5) rfl)
theorem cd_88_11 : mt_cd 88 11 = some (.getfield 18) := mt_cd_of (q := (11, .getfield 18, 3)) mq_88 ci_88 (List.mem_of_getElem? (i := 6) rfl)
theorem cd_88_14 : mt_cd 88 14 = some (.iload_n 1) := mt_cd_of (q := (14, .iload_n 1, 1)) mq_88 ci_88 (List.mem_of_getElem? (i := 7) rfl)
theorem cd_88_15 : mt_cd 88 15 = some (.laload) := mt_cd_of (q := (15, .laload, 1)) mq_88 ci_88 (List.mem_of_getElem? (i := 8) rfl)
theorem cd_88_16 : mt_cd 88 16 = some (.goto 4) := mt_cd_of (q := (16, .goto 4, 3)) mq_88 ci_88 (List.mem_of_getElem? (i := 9) rfl)
theorem cd_88_19 : mt_cd 88 19 = some (.lconst 0) := mt_cd_of (q := (19, .lconst 0, 1)) mq_88 ci_88 (List.mem_of_getElem? (i := 10) rfl)
theorem cd_88_20 : mt_cd 88 20 = some (.lreturn) := mt_cd_of (q := (20, .lreturn, 1)) mq_88 ci_88 (List.mem_of_getElem? (i := 11) rfl)
theorem b_88_0 {d : Nat} {Q : (Option Value ⊕ Nat) → mi_H → Prop} (n sl : Nat) (f : Nat → mi_C) {l1 : Nat} {l2 : Int32} (h3 : l2 < (0 : Int32) → mi_W d 88 19 [some (.ref l1), some (.int l2)] [] (n, sl, f) Q) (h4 : ¬ (l2 < (0 : Int32)) → mi_W d 88 4 [some (.ref l1), some (.int l2)] [] (n, sl, f) Q) : mi_W d 88 0 [some (.ref l1), some (.int l2)] [] (n, sl, f) Q := by
  refine w_iload_n cd_88_0 rfl ?_
  exact w_iflt cd_88_1 (by decide) h3 h4
theorem b_88_4 {d : Nat} {Q : (Option Value ⊕ Nat) → mi_H → Prop} (n sl : Nat) (f : Nat → mi_C) {l1 : Nat} {l2 : Int32} (h3 : 8 ≤ l2 → mi_W d 88 19 [some (.ref l1), some (.int l2)] [] (n, sl, f) Q) (h4 : ¬ (8 ≤ l2) → mi_W d 88 10 [some (.ref l1), some (.int l2)] [] (n, sl, f) Q) : mi_W d 88 4 [some (.ref l1), some (.int l2)] [] (n, sl, f) Q := by
  refine w_iload_n cd_88_4 rfl ?_
  refine w_bipush (v := 8) cd_88_5 (by decide) ?_
  exact w_if_icmpge cd_88_7 (by decide) h3 h4
theorem b_88_10 {d : Nat} {Q : (Option Value ⊕ Nat) → mi_H → Prop} (n sl : Nat) (f : Nat → mi_C) {l1 : Nat} {l2 : Int32} {fs3 : List Value} {x6 : Nat} (m8 i8 : Nat) (g8 : Nat → Int64) (h4 : f l1 = .inr (9, fs3)) (h5 : l1 < n) (h7 : fs3[4]? = some (.ref x6)) (h9 : f x6 = .inl (3, m8, .inr (.inl g8))) (h10 : x6 < n) (h11 : mi_ix l2 m8 i8) (h12 : mi_W d 88 20 [some (.ref l1), some (.int l2)] [.long (g8 i8)] (n, sl, f) Q) : mi_W d 88 10 [some (.ref l1), some (.int l2)] [] (n, sl, f) Q := by
  refine w_aload_n cd_88_10 rfl ?_
  refine w_getfield cd_88_11 (show mt_f 9 18 = some (9, 4) by decide +kernel) h4 h5 h7 ?_
  refine w_iload_n cd_88_14 rfl ?_
  refine w_laload cd_88_15 h9 h10 h11 ?_
  exact w_goto cd_88_16 (by decide) h12
theorem b_88_19 {d : Nat} {Q : (Option Value ⊕ Nat) → mi_H → Prop} (n sl : Nat) (f : Nat → mi_C) {l1 : Nat} {l2 : Int32} (h3 : mi_W d 88 20 [some (.ref l1), some (.int l2)] [.long 0] (n, sl, f) Q) : mi_W d 88 19 [some (.ref l1), some (.int l2)] [] (n, sl, f) Q := by
  refine w_lconst (lv := 0) cd_88_19 (by decide) ?_
  exact h3
theorem b_88_20 {d : Nat} {Q : (Option Value ⊕ Nat) → mi_H → Prop} (n sl : Nat) (f : Nat → mi_C) {l1 : Nat} {l2 : Int32} {s3 : Int64} (h4 : Q (.inl (some (.long s3))) (n, sl, f)) : mi_W d 88 20 [some (.ref l1), some (.int l2)] [.long s3] (n, sl, f) Q := by
  exact w_lreturn cd_88_20 (by decide +kernel) h4
/-! MarloweHost$Reckoner.bounded(J)J -/
set_option maxRecDepth 100000 in
theorem mq_89 : mt_q 89 = my_89 := rfl
set_option maxRecDepth 100000 in
theorem ci_89 : mt_inc 0 my_89.cd = true := by decide +kernel
theorem cd_89_0 : mt_cd 89 0 = some (.lload_n 1) := mt_cd_of (q := (0, .lload_n 1, 1)) mq_89 ci_89 (List.mem_of_getElem? (i := 0) rfl)
theorem cd_89_1 : mt_cd 89 1 = some (.ldc2_w 102) := mt_cd_of (q := (1, .ldc2_w 102, 3)) mq_89 ci_89 (List.mem_of_getElem? (i := 1) rfl)
theorem cd_89_4 : mt_cd 89 4 = some (.lcmp) := mt_cd_of (q := (4, .lcmp, 1)) mq_89 ci_89 (List.mem_of_getElem? (i := 2) rfl)
theorem cd_89_5 : mt_cd 89 5 = some (.ifCond .gt 11) := mt_cd_of (q := (5, .ifCond .gt 11, 3)) mq_89 ci_89 (List.mem_of_getElem? (i := 3) rfl)
theorem cd_89_8 : mt_cd 89 8 = some (.lload_n 1) := mt_cd_of (q := (8, .lload_n 1, 1)) mq_89 ci_89 (List.mem_of_getElem? (i := 4) rfl)
theorem cd_89_9 : mt_cd 89 9 = some (.ldc2_w 104) := mt_cd_of (q := (9, .ldc2_w 104, 3)) mq_89 ci_89 (List.mem_of_getElem? (i := 5) rfl)
theorem cd_89_12 : mt_cd 89 12 = some (.lcmp) := mt_cd_of (q := (12, .lcmp, 1)) mq_89 ci_89 (List.mem_of_getElem? (i := 6) rfl)
theorem cd_89_13 : mt_cd 89 13 = some (.ifCond .ge 10) := mt_cd_of (q := (13, .ifCond .ge 10, 3)) mq_89 ci_89 (List.mem_of_getElem? (i := 7) rfl)
theorem cd_89_16 : mt_cd 89 16 = some (.aload_n 0) := mt_cd_of (q := (16, .aload_n 0, 1)) mq_89 ci_89 (List.mem_of_getElem? (i := 8) rfl)
theorem cd_89_17 : mt_cd 89 17 = some (.iconst 1) := mt_cd_of (q := (17, .iconst 1, 1)) mq_89 ci_89 (List.mem_of_getElem? (i := 9) rfl)
theorem cd_89_18 : mt_cd 89 18 = some (.putfield 26) := mt_cd_of (q := (18, .putfield 26, 3)) mq_89 ci_89 (List.mem_of_getElem? (i := 10) rfl)
theorem cd_89_21 : mt_cd 89 21 = some (.lconst 0) := mt_cd_of (q := (21, .lconst 0, 1)) mq_89 ci_89 (List.mem_of_getElem? (i := 11) rfl)
theorem cd_89_22 : mt_cd 89 22 = some (.lreturn) := mt_cd_of (q := (22, .lreturn, 1)) mq_89 ci_89 (List.mem_of_getElem? (i := 12) rfl)
theorem cd_89_23 : mt_cd 89 23 = some (.lload_n 1) := mt_cd_of (q := (23, .lload_n 1, 1)) mq_89 ci_89 (List.mem_of_getElem? (i := 13) rfl)
theorem cd_89_24 : mt_cd 89 24 = some (.lreturn) := mt_cd_of (q := (24, .lreturn, 1)) mq_89 ci_89 (List.mem_of_getElem? (i := 14) rfl)
theorem b_89_0 {d : Nat} {Q : (Option Value ⊕ Nat) → mi_H → Prop} (n sl : Nat) (f : Nat → mi_C) {l1 : Nat} {l2 : Int64} (h3 : (0 : Int32) < (lg_cmp l2 4611686018427387904) → mi_W d 89 16 [some (.ref l1), some (.long l2), none] [] (n, sl, f) Q) (h4 : ¬ ((0 : Int32) < (lg_cmp l2 4611686018427387904)) → mi_W d 89 8 [some (.ref l1), some (.long l2), none] [] (n, sl, f) Q) : mi_W d 89 0 [some (.ref l1), some (.long l2), none] [] (n, sl, f) Q := by
  refine w_lload_n cd_89_0 rfl ?_
  refine w_ldc2_w (lv := 4611686018427387904) cd_89_1 (by decide +kernel) ?_
  refine w_lcmp cd_89_4 ?_
  exact w_ifgt cd_89_5 (by decide) h3 h4
theorem b_89_8 {d : Nat} {Q : (Option Value ⊕ Nat) → mi_H → Prop} (n sl : Nat) (f : Nat → mi_C) {l1 : Nat} {l2 : Int64} (h3 : (0 : Int32) ≤ (lg_cmp l2 ((-4611686018427387904))) → mi_W d 89 23 [some (.ref l1), some (.long l2), none] [] (n, sl, f) Q) (h4 : ¬ ((0 : Int32) ≤ (lg_cmp l2 ((-4611686018427387904)))) → mi_W d 89 16 [some (.ref l1), some (.long l2), none] [] (n, sl, f) Q) : mi_W d 89 8 [some (.ref l1), some (.long l2), none] [] (n, sl, f) Q := by
  refine w_lload_n cd_89_8 rfl ?_
  refine w_ldc2_w (lv := (-4611686018427387904)) cd_89_9 (by decide +kernel) ?_
  refine w_lcmp cd_89_12 ?_
  exact w_ifge cd_89_13 (by decide) h3 h4
theorem b_89_16 {d : Nat} {Q : (Option Value ⊕ Nat) → mi_H → Prop} (n sl : Nat) (f : Nat → mi_C) {l1 : Nat} {l2 : Int64} {fs3 : List Value} (h4 : f l1 = .inr (10, fs3)) (h5 : l1 < n) (h6 : 4 < fs3.length) (h7 : mi_fk .boolean (.int 1) = true) (h8 : Q (.inl (some (.long 0))) (n, sl, (va_up f l1 (.inr (10, fs3.set 4 (.int 1)))))) : mi_W d 89 16 [some (.ref l1), some (.long l2), none] [] (n, sl, f) Q := by
  refine w_aload_n cd_89_16 rfl ?_
  refine w_iconst (v := 1) cd_89_17 (by decide) ?_
  refine w_putfield (w := .int 1) cd_89_18 (show mt_f 10 26 = some (10, 4) by decide +kernel) h4 h5 ⟨h6, h7, Or.inl (by decide)⟩ ?_
  refine w_lconst (lv := 0) cd_89_21 (by decide) ?_
  exact w_lreturn cd_89_22 (by decide +kernel) h8
theorem b_89_23 {d : Nat} {Q : (Option Value ⊕ Nat) → mi_H → Prop} (n sl : Nat) (f : Nat → mi_C) {l1 : Nat} {l2 : Int64} (h3 : Q (.inl (some (.long l2))) (n, sl, f)) : mi_W d 89 23 [some (.ref l1), some (.long l2), none] [] (n, sl, f) Q := by
  refine w_lload_n cd_89_23 rfl ?_
  exact w_lreturn cd_89_24 (by decide +kernel) h3
/-! MarloweHost$Reckoner.truth(II)Z -/
set_option maxRecDepth 100000 in
theorem mq_90 : mt_q 90 = my_90 := rfl
set_option maxRecDepth 100000 in
theorem ci_90 : mt_inc 0 my_90.cd = true := by decide +kernel
theorem cd_90_0 : mt_cd 90 0 = some (.aload_n 0) := mt_cd_of (q := (0, .aload_n 0, 1)) mq_90 ci_90 (List.mem_append_left _ (show _ ∈ my_90_0 from List.mem_of_getElem? (i := 0) rfl))
theorem cd_90_1 : mt_cd 90 1 = some (.getfield 26) := mt_cd_of (q := (1, .getfield 26, 3)) mq_90 ci_90 (List.mem_append_left _ (show _ ∈ my_90_0 from List.mem_of_getElem? (i := 1) rfl))
theorem cd_90_4 : mt_cd 90 4 = some (.ifCond .ne 20) := mt_cd_of (q := (4, .ifCond .ne 20, 3)) mq_90 ci_90 (List.mem_append_left _ (show _ ∈ my_90_0 from List.mem_of_getElem? (i := 2) rfl))
theorem cd_90_7 : mt_cd 90 7 = some (.iload_n 2) := mt_cd_of (q := (7, .iload_n 2, 1)) mq_90 ci_90 (List.mem_append_left _ (show _ ∈ my_90_0 from List.mem_of_getElem? (i := 3) rfl))
theorem cd_90_8 : mt_cd 90 8 = some (.bipush 100) := mt_cd_of (q := (8, .bipush 100, 2)) mq_90 ci_90 (List.mem_append_left _ (show _ ∈ my_90_0 from List.mem_of_getElem? (i := 4) rfl))
theorem cd_90_10 : mt_cd 90 10 = some (.if_icmp .gt 14) := mt_cd_of (q := (10, .if_icmp .gt 14, 3)) mq_90 ci_90 (List.mem_append_left _ (show _ ∈ my_90_0 from List.mem_of_getElem? (i := 5) rfl))
theorem cd_90_13 : mt_cd 90 13 = some (.aload_n 0) := mt_cd_of (q := (13, .aload_n 0, 1)) mq_90 ci_90 (List.mem_append_left _ (show _ ∈ my_90_0 from List.mem_of_getElem? (i := 6) rfl))
theorem cd_90_14 : mt_cd 90 14 = some (.getfield 9) := mt_cd_of (q := (14, .getfield 9, 3)) mq_90 ci_90 (List.mem_append_left _ (show _ ∈ my_90_0 from List.mem_of_getElem? (i := 7) rfl))
theorem cd_90_17 : mt_cd 90 17 = some (.iload_n 1) := mt_cd_of (q := (17, .iload_n 1, 1)) mq_90 ci_90 (List.mem_append_left _ (show _ ∈ my_90_0 from List.mem_of_getElem? (i := 8) rfl))
theorem cd_90_18 : mt_cd 90 18 = some (.invokevirtual 30) := mt_cd_of (q := (18, .invokevirtual 30, 3)) mq_90 ci_90 (List.mem_append_left _ (show _ ∈ my_90_0 from List.mem_of_getElem? (i := 9) rfl))
theorem cd_90_21 : mt_cd 90 21 = some (.ifCond .ne 5) := mt_cd_of (q := (21, .ifCond .ne 5, 3)) mq_90 ci_90 (List.mem_append_left _ (show _ ∈ my_90_0 from List.mem_of_getElem? (i := 10) rfl))
theorem cd_90_24 : mt_cd 90 24 = some (.iconst 0) := mt_cd_of (q := (24, .iconst 0, 1)) mq_90 ci_90 (List.mem_append_left _ (show _ ∈ my_90_0 from List.mem_of_getElem? (i := 11) rfl))
theorem cd_90_25 : mt_cd 90 25 = some (.ireturn) := mt_cd_of (q := (25, .ireturn, 1)) mq_90 ci_90 (List.mem_append_left _ (show _ ∈ my_90_0 from List.mem_of_getElem? (i := 12) rfl))
theorem cd_90_26 : mt_cd 90 26 = some (.aload_n 0) := mt_cd_of (q := (26, .aload_n 0, 1)) mq_90 ci_90 (List.mem_append_left _ (show _ ∈ my_90_0 from List.mem_of_getElem? (i := 13) rfl))
theorem cd_90_27 : mt_cd 90 27 = some (.getfield 9) := mt_cd_of (q := (27, .getfield 9, 3)) mq_90 ci_90 (List.mem_append_left _ (show _ ∈ my_90_0 from List.mem_of_getElem? (i := 14) rfl))
theorem cd_90_30 : mt_cd 90 30 = some (.getfield 43) := mt_cd_of (q := (30, .getfield 43, 3)) mq_90 ci_90 (List.mem_append_left _ (show _ ∈ my_90_0 from List.mem_of_getElem? (i := 15) rfl))
theorem cd_90_33 : mt_cd 90 33 = some (.iload_n 1) := mt_cd_of (q := (33, .iload_n 1, 1)) mq_90 ci_90 (List.mem_append_left _ (show _ ∈ my_90_0 from List.mem_of_getElem? (i := 16) rfl))
theorem cd_90_34 : mt_cd 90 34 = some (.iaload) := mt_cd_of (q := (34, .iaload, 1)) mq_90 ci_90 (List.mem_append_left _ (show _ ∈ my_90_0 from List.mem_of_getElem? (i := 17) rfl))
theorem cd_90_35 : mt_cd 90 35 = some (.istore_n 3) := mt_cd_of (q := (35, .istore_n 3, 1)) mq_90 ci_90 (List.mem_append_left _ (show _ ∈ my_90_0 from List.mem_of_getElem? (i := 18) rfl))
theorem cd_90_36 : mt_cd 90 36 = some (.iload_n 3) := mt_cd_of (q := (36, .iload_n 3, 1)) mq_90 ci_90 (List.mem_append_left _ (show _ ∈ my_90_0 from List.mem_of_getElem? (i := 19) rfl))
theorem cd_90_37 : mt_cd 90 37 = some (.tableswitch 161 18 23 #[39, 41, 85, 85, 43, 68]) := mt_cd_of (q := (37, .tableswitch 161 18 23 #[39, 41, 85, 85, 43, 68], 39)) mq_90 ci_90 (List.mem_append_left _ (show _ ∈ my_90_0 from List.mem_of_getElem? (i := 20) rfl))
theorem cd_90_76 : mt_cd 90 76 = some (.iconst 1) := mt_cd_of (q := (76, .iconst 1, 1)) mq_90 ci_90 (List.mem_append_left _ (show _ ∈ my_90_0 from List.mem_of_getElem? (i := 21) rfl))
theorem cd_90_77 : mt_cd 90 77 = some (.ireturn) := mt_cd_of (q := (77, .ireturn, 1)) mq_90 ci_90 (List.mem_append_left _ (show _ ∈ my_90_0 from List.mem_of_getElem? (i := 22) rfl))
theorem cd_90_78 : mt_cd 90 78 = some (.iconst 0) := mt_cd_of (q := (78, .iconst 0, 1)) mq_90 ci_90 (List.mem_append_left _ (show _ ∈ my_90_0 from List.mem_of_getElem? (i := 23) rfl))
theorem cd_90_79 : mt_cd 90 79 = some (.ireturn) := mt_cd_of (q := (79, .ireturn, 1)) mq_90 ci_90 (List.mem_append_left _ (show _ ∈ my_90_0 from List.mem_of_getElem? (i := 24) rfl))
theorem cd_90_80 : mt_cd 90 80 = some (.aload_n 0) := mt_cd_of (q := (80, .aload_n 0, 1)) mq_90 ci_90 (List.mem_append_left _ (show _ ∈ my_90_0 from List.mem_of_getElem? (i := 25) rfl))
theorem cd_90_81 : mt_cd 90 81 = some (.aload_n 0) := mt_cd_of (q := (81, .aload_n 0, 1)) mq_90 ci_90 (List.mem_append_left _ (show _ ∈ my_90_0 from List.mem_of_getElem? (i := 26) rfl))
theorem cd_90_82 : mt_cd 90 82 = some (.getfield 9) := mt_cd_of (q := (82, .getfield 9, 3)) mq_90 ci_90 (List.mem_append_left _ (show _ ∈ my_90_0 from List.mem_of_getElem? (i := 27) rfl))
theorem cd_90_85 : mt_cd 90 85 = some (.getfield 36) := mt_cd_of (q := (85, .getfield 36, 3)) mq_90 ci_90 (List.mem_append_left _ (show _ ∈ my_90_0 from List.mem_of_getElem? (i := 28) rfl))
theorem cd_90_88 : mt_cd 90 88 = some (.iload_n 1) := mt_cd_of (q := (88, .iload_n 1, 1)) mq_90 ci_90 (List.mem_append_left _ (show _ ∈ my_90_0 from List.mem_of_getElem? (i := 29) rfl))
theorem cd_90_89 : mt_cd 90 89 = some (.iaload) := mt_cd_of (q := (89, .iaload, 1)) mq_90 ci_90 (List.mem_append_left _ (show _ ∈ my_90_0 from List.mem_of_getElem? (i := 30) rfl))
theorem cd_90_90 : mt_cd 90 90 = some (.iload_n 2) := mt_cd_of (q := (90, .iload_n 2, 1)) mq_90 ci_90 (List.mem_append_left _ (show _ ∈ my_90_0 from List.mem_of_getElem? (i := 31) rfl))
theorem cd_90_91 : mt_cd 90 91 = some (.iconst 1) := mt_cd_of (q := (91, .iconst 1, 1)) mq_90 ci_90 (List.mem_append_left _ (show _ ∈ my_90_0 from List.mem_of_getElem? (i := 32) rfl))
theorem cd_90_92 : mt_cd 90 92 = some (.iadd) := mt_cd_of (q := (92, .iadd, 1)) mq_90 ci_90 (List.mem_append_left _ (show _ ∈ my_90_0 from List.mem_of_getElem? (i := 33) rfl))
theorem cd_90_93 : mt_cd 90 93 = some (.invokevirtual 76) := mt_cd_of (q := (93, .invokevirtual 76, 3)) mq_90 ci_90 (List.mem_append_left _ (show _ ∈ my_90_0 from List.mem_of_getElem? (i := 34) rfl))
theorem cd_90_96 : mt_cd 90 96 = some (.ifCond .ne 7) := mt_cd_of (q := (96, .ifCond .ne 7, 3)) mq_90 ci_90 (List.mem_append_left _ (show _ ∈ my_90_0 from List.mem_of_getElem? (i := 35) rfl))
theorem cd_90_99 : mt_cd 90 99 = some (.iconst 1) := mt_cd_of (q := (99, .iconst 1, 1)) mq_90 ci_90 (List.mem_append_left _ (show _ ∈ my_90_0 from List.mem_of_getElem? (i := 36) rfl))
theorem cd_90_100 : mt_cd 90 100 = some (.goto 4) := mt_cd_of (q := (100, .goto 4, 3)) mq_90 ci_90 (List.mem_append_left _ (show _ ∈ my_90_0 from List.mem_of_getElem? (i := 37) rfl))
theorem cd_90_103 : mt_cd 90 103 = some (.iconst 0) := mt_cd_of (q := (103, .iconst 0, 1)) mq_90 ci_90 (List.mem_append_left _ (show _ ∈ my_90_0 from List.mem_of_getElem? (i := 38) rfl))
theorem cd_90_104 : mt_cd 90 104 = some (.ireturn) := mt_cd_of (q := (104, .ireturn, 1)) mq_90 ci_90 (List.mem_append_left _ (show _ ∈ my_90_0 from List.mem_of_getElem? (i := 39) rfl))
theorem cd_90_105 : mt_cd 90 105 = some (.aload_n 0) := mt_cd_of (q := (105, .aload_n 0, 1)) mq_90 ci_90 (List.mem_append_left _ (show _ ∈ my_90_0 from List.mem_of_getElem? (i := 40) rfl))
theorem cd_90_106 : mt_cd 90 106 = some (.getfield 15) := mt_cd_of (q := (106, .getfield 15, 3)) mq_90 ci_90 (List.mem_append_left _ (show _ ∈ my_90_0 from List.mem_of_getElem? (i := 41) rfl))
theorem cd_90_109 : mt_cd 90 109 = some (.aload_n 0) := mt_cd_of (q := (109, .aload_n 0, 1)) mq_90 ci_90 (List.mem_append_left _ (show _ ∈ my_90_0 from List.mem_of_getElem? (i := 42) rfl))
theorem cd_90_110 : mt_cd 90 110 = some (.getfield 9) := mt_cd_of (q := (110, .getfield 9, 3)) mq_90 ci_90 (List.mem_append_left _ (show _ ∈ my_90_0 from List.mem_of_getElem? (i := 43) rfl))
theorem cd_90_113 : mt_cd 90 113 = some (.getfield 50) := mt_cd_of (q := (113, .getfield 50, 3)) mq_90 ci_90 (List.mem_append_left _ (show _ ∈ my_90_0 from List.mem_of_getElem? (i := 44) rfl))
theorem cd_90_116 : mt_cd 90 116 = some (.iload_n 1) := mt_cd_of (q := (116, .iload_n 1, 1)) mq_90 ci_90 (List.mem_append_left _ (show _ ∈ my_90_0 from List.mem_of_getElem? (i := 45) rfl))
theorem cd_90_117 : mt_cd 90 117 = some (.iaload) := mt_cd_of (q := (117, .iaload, 1)) mq_90 ci_90 (List.mem_append_left _ (show _ ∈ my_90_0 from List.mem_of_getElem? (i := 46) rfl))
theorem cd_90_118 : mt_cd 90 118 = some (.invokevirtual 90) := mt_cd_of (q := (118, .invokevirtual 90, 3)) mq_90 ci_90 (List.mem_append_left _ (show _ ∈ my_90_0 from List.mem_of_getElem? (i := 47) rfl))
theorem cd_90_121 : mt_cd 90 121 = some (.ireturn) := mt_cd_of (q := (121, .ireturn, 1)) mq_90 ci_90 (List.mem_append_left _ (show _ ∈ my_90_0 from List.mem_of_getElem? (i := 48) rfl))
theorem cd_90_122 : mt_cd 90 122 = some (.aload_n 0) := mt_cd_of (q := (122, .aload_n 0, 1)) mq_90 ci_90 (List.mem_append_left _ (show _ ∈ my_90_0 from List.mem_of_getElem? (i := 49) rfl))
theorem cd_90_123 : mt_cd 90 123 = some (.aload_n 0) := mt_cd_of (q := (123, .aload_n 0, 1)) mq_90 ci_90 (List.mem_append_left _ (show _ ∈ my_90_0 from List.mem_of_getElem? (i := 50) rfl))
theorem cd_90_124 : mt_cd 90 124 = some (.getfield 9) := mt_cd_of (q := (124, .getfield 9, 3)) mq_90 ci_90 (List.mem_append_left _ (show _ ∈ my_90_0 from List.mem_of_getElem? (i := 51) rfl))
theorem cd_90_127 : mt_cd 90 127 = some (.getfield 36) := mt_cd_of (q := (127, .getfield 36, 3)) mq_90 ci_90 (List.mem_append_left _ (show _ ∈ my_90_0 from List.mem_of_getElem? (i := 52) rfl))
theorem cd_90_130 : mt_cd 90 130 = some (.iload_n 1) := mt_cd_of (q := (130, .iload_n 1, 1)) mq_90 ci_90 (List.mem_append_left _ (show _ ∈ my_90_0 from List.mem_of_getElem? (i := 53) rfl))
theorem cd_90_131 : mt_cd 90 131 = some (.iaload) := mt_cd_of (q := (131, .iaload, 1)) mq_90 ci_90 (List.mem_append_left _ (show _ ∈ my_90_0 from List.mem_of_getElem? (i := 54) rfl))
theorem cd_90_132 : mt_cd 90 132 = some (.iload_n 2) := mt_cd_of (q := (132, .iload_n 2, 1)) mq_90 ci_90 (List.mem_append_left _ (show _ ∈ my_90_0 from List.mem_of_getElem? (i := 55) rfl))
theorem cd_90_133 : mt_cd 90 133 = some (.iconst 1) := mt_cd_of (q := (133, .iconst 1, 1)) mq_90 ci_90 (List.mem_append_left _ (show _ ∈ my_90_0 from List.mem_of_getElem? (i := 56) rfl))
theorem cd_90_134 : mt_cd 90 134 = some (.iadd) := mt_cd_of (q := (134, .iadd, 1)) mq_90 ci_90 (List.mem_append_left _ (show _ ∈ my_90_0 from List.mem_of_getElem? (i := 57) rfl))
theorem cd_90_135 : mt_cd 90 135 = some (.invokevirtual 76) := mt_cd_of (q := (135, .invokevirtual 76, 3)) mq_90 ci_90 (List.mem_append_left _ (show _ ∈ my_90_0 from List.mem_of_getElem? (i := 58) rfl))
theorem cd_90_138 : mt_cd 90 138 = some (.istore 4) := mt_cd_of (q := (138, .istore 4, 2)) mq_90 ci_90 (List.mem_append_left _ (show _ ∈ my_90_0 from List.mem_of_getElem? (i := 59) rfl))
theorem cd_90_140 : mt_cd 90 140 = some (.aload_n 0) := mt_cd_of (q := (140, .aload_n 0, 1)) mq_90 ci_90 (List.mem_append_right _ ((show _ ∈ my_90_1 from List.mem_of_getElem? (i := 0) rfl)))
theorem cd_90_141 : mt_cd 90 141 = some (.aload_n 0) := mt_cd_of (q := (141, .aload_n 0, 1)) mq_90 ci_90 (List.mem_append_right _ ((show _ ∈ my_90_1 from List.mem_of_getElem? (i := 1) rfl)))
theorem cd_90_142 : mt_cd 90 142 = some (.getfield 9) := mt_cd_of (q := (142, .getfield 9, 3)) mq_90 ci_90 (List.mem_append_right _ ((show _ ∈ my_90_1 from List.mem_of_getElem? (i := 2) rfl)))
theorem cd_90_145 : mt_cd 90 145 = some (.getfield 40) := mt_cd_of (q := (145, .getfield 40, 3)) mq_90 ci_90 (List.mem_append_right _ ((show _ ∈ my_90_1 from List.mem_of_getElem? (i := 3) rfl)))
theorem cd_90_148 : mt_cd 90 148 = some (.iload_n 1) := mt_cd_of (q := (148, .iload_n 1, 1)) mq_90 ci_90 (List.mem_append_right _ ((show _ ∈ my_90_1 from List.mem_of_getElem? (i := 4) rfl)))
theorem cd_90_149 : mt_cd 90 149 = some (.iaload) := mt_cd_of (q := (149, .iaload, 1)) mq_90 ci_90 (List.mem_append_right _ ((show _ ∈ my_90_1 from List.mem_of_getElem? (i := 5) rfl)))
theorem cd_90_150 : mt_cd 90 150 = some (.iload_n 2) := mt_cd_of (q := (150, .iload_n 2, 1)) mq_90 ci_90 (List.mem_append_right _ ((show _ ∈ my_90_1 from List.mem_of_getElem? (i := 6) rfl)))
theorem cd_90_151 : mt_cd 90 151 = some (.iconst 1) := mt_cd_of (q := (151, .iconst 1, 1)) mq_90 ci_90 (List.mem_append_right _ ((show _ ∈ my_90_1 from List.mem_of_getElem? (i := 7) rfl)))
theorem cd_90_152 : mt_cd 90 152 = some (.iadd) := mt_cd_of (q := (152, .iadd, 1)) mq_90 ci_90 (List.mem_append_right _ ((show _ ∈ my_90_1 from List.mem_of_getElem? (i := 8) rfl)))
theorem cd_90_153 : mt_cd 90 153 = some (.invokevirtual 76) := mt_cd_of (q := (153, .invokevirtual 76, 3)) mq_90 ci_90 (List.mem_append_right _ ((show _ ∈ my_90_1 from List.mem_of_getElem? (i := 9) rfl)))
theorem cd_90_156 : mt_cd 90 156 = some (.istore 5) := mt_cd_of (q := (156, .istore 5, 2)) mq_90 ci_90 (List.mem_append_right _ ((show _ ∈ my_90_1 from List.mem_of_getElem? (i := 10) rfl)))
theorem cd_90_158 : mt_cd 90 158 = some (.iload_n 3) := mt_cd_of (q := (158, .iload_n 3, 1)) mq_90 ci_90 (List.mem_append_right _ ((show _ ∈ my_90_1 from List.mem_of_getElem? (i := 11) rfl)))
theorem cd_90_159 : mt_cd 90 159 = some (.bipush 20) := mt_cd_of (q := (159, .bipush 20, 2)) mq_90 ci_90 (List.mem_append_right _ ((show _ ∈ my_90_1 from List.mem_of_getElem? (i := 12) rfl)))
theorem cd_90_161 : mt_cd 90 161 = some (.if_icmp .ne 21) := mt_cd_of (q := (161, .if_icmp .ne 21, 3)) mq_90 ci_90 (List.mem_append_right _ ((show _ ∈ my_90_1 from List.mem_of_getElem? (i := 13) rfl)))
theorem cd_90_164 : mt_cd 90 164 = some (.iload 4) := mt_cd_of (q := (164, .iload 4, 2)) mq_90 ci_90 (List.mem_append_right _ ((show _ ∈ my_90_1 from List.mem_of_getElem? (i := 14) rfl)))
theorem cd_90_166 : mt_cd 90 166 = some (.ifCond .eq 12) := mt_cd_of (q := (166, .ifCond .eq 12, 3)) mq_90 ci_90 (List.mem_append_right _ ((show _ ∈ my_90_1 from List.mem_of_getElem? (i := 15) rfl)))
theorem cd_90_169 : mt_cd 90 169 = some (.iload 5) := mt_cd_of (q := (169, .iload 5, 2)) mq_90 ci_90 (List.mem_append_right _ ((show _ ∈ my_90_1 from List.mem_of_getElem? (i := 16) rfl)))
theorem cd_90_171 : mt_cd 90 171 = some (.ifCond .eq 7) := mt_cd_of (q := (171, .ifCond .eq 7, 3)) mq_90 ci_90 (List.mem_append_right _ ((show _ ∈ my_90_1 from List.mem_of_getElem? (i := 17) rfl)))
theorem cd_90_174 : mt_cd 90 174 = some (.iconst 1) := mt_cd_of (q := (174, .iconst 1, 1)) mq_90 ci_90 (List.mem_append_right _ ((show _ ∈ my_90_1 from List.mem_of_getElem? (i := 18) rfl)))
theorem cd_90_175 : mt_cd 90 175 = some (.goto 22) := mt_cd_of (q := (175, .goto 22, 3)) mq_90 ci_90 (List.mem_append_right _ ((show _ ∈ my_90_1 from List.mem_of_getElem? (i := 19) rfl)))
theorem cd_90_178 : mt_cd 90 178 = some (.iconst 0) := mt_cd_of (q := (178, .iconst 0, 1)) mq_90 ci_90 (List.mem_append_right _ ((show _ ∈ my_90_1 from List.mem_of_getElem? (i := 20) rfl)))
theorem cd_90_179 : mt_cd 90 179 = some (.goto 18) := mt_cd_of (q := (179, .goto 18, 3)) mq_90 ci_90 (List.mem_append_right _ ((show _ ∈ my_90_1 from List.mem_of_getElem? (i := 21) rfl)))
theorem cd_90_182 : mt_cd 90 182 = some (.iload 4) := mt_cd_of (q := (182, .iload 4, 2)) mq_90 ci_90 (List.mem_append_right _ ((show _ ∈ my_90_1 from List.mem_of_getElem? (i := 22) rfl)))
theorem cd_90_184 : mt_cd 90 184 = some (.ifCond .ne 8) := mt_cd_of (q := (184, .ifCond .ne 8, 3)) mq_90 ci_90 (List.mem_append_right _ ((show _ ∈ my_90_1 from List.mem_of_getElem? (i := 23) rfl)))
theorem cd_90_187 : mt_cd 90 187 = some (.iload 5) := mt_cd_of (q := (187, .iload 5, 2)) mq_90 ci_90 (List.mem_append_right _ ((show _ ∈ my_90_1 from List.mem_of_getElem? (i := 24) rfl)))
theorem cd_90_189 : mt_cd 90 189 = some (.ifCond .eq 7) := mt_cd_of (q := (189, .ifCond .eq 7, 3)) mq_90 ci_90 (List.mem_append_right _ ((show _ ∈ my_90_1 from List.mem_of_getElem? (i := 25) rfl)))
theorem cd_90_192 : mt_cd 90 192 = some (.iconst 1) := mt_cd_of (q := (192, .iconst 1, 1)) mq_90 ci_90 (List.mem_append_right _ ((show _ ∈ my_90_1 from List.mem_of_getElem? (i := 26) rfl)))
theorem cd_90_193 : mt_cd 90 193 = some (.goto 4) := mt_cd_of (q := (193, .goto 4, 3)) mq_90 ci_90 (List.mem_append_right _ ((show _ ∈ my_90_1 from List.mem_of_getElem? (i := 27) rfl)))
theorem cd_90_196 : mt_cd 90 196 = some (.iconst 0) := mt_cd_of (q := (196, .iconst 0, 1)) mq_90 ci_90 (List.mem_append_right _ ((show _ ∈ my_90_1 from List.mem_of_getElem? (i := 28) rfl)))
theorem cd_90_197 : mt_cd 90 197 = some (.ireturn) := mt_cd_of (q := (197, .ireturn, 1)) mq_90 ci_90 (List.mem_append_right _ ((show _ ∈ my_90_1 from List.mem_of_getElem? (i := 29) rfl)))
theorem cd_90_198 : mt_cd 90 198 = some (.iload_n 3) := mt_cd_of (q := (198, .iload_n 3, 1)) mq_90 ci_90 (List.mem_append_right _ ((show _ ∈ my_90_1 from List.mem_of_getElem? (i := 30) rfl)))
theorem cd_90_199 : mt_cd 90 199 = some (.aload_n 0) := mt_cd_of (q := (199, .aload_n 0, 1)) mq_90 ci_90 (List.mem_append_right _ ((show _ ∈ my_90_1 from List.mem_of_getElem? (i := 31) rfl)))
theorem cd_90_200 : mt_cd 90 200 = some (.aload_n 0) := mt_cd_of (q := (200, .aload_n 0, 1)) mq_90 ci_90 (List.mem_append_right _ ((show _ ∈ my_90_1 from List.mem_of_getElem? (i := 32) rfl)))
theorem cd_90_201 : mt_cd 90 201 = some (.getfield 9) := mt_cd_of (q := (201, .getfield 9, 3)) mq_90 ci_90 (List.mem_append_right _ ((show _ ∈ my_90_1 from List.mem_of_getElem? (i := 33) rfl)))
theorem cd_90_204 : mt_cd 90 204 = some (.getfield 36) := mt_cd_of (q := (204, .getfield 36, 3)) mq_90 ci_90 (List.mem_append_right _ ((show _ ∈ my_90_1 from List.mem_of_getElem? (i := 34) rfl)))
theorem cd_90_207 : mt_cd 90 207 = some (.iload_n 1) := mt_cd_of (q := (207, .iload_n 1, 1)) mq_90 ci_90 (List.mem_append_right _ ((show _ ∈ my_90_1 from List.mem_of_getElem? (i := 35) rfl)))
theorem cd_90_208 : mt_cd 90 208 = some (.iaload) := mt_cd_of (q := (208, .iaload, 1)) mq_90 ci_90 (List.mem_append_right _ ((show _ ∈ my_90_1 from List.mem_of_getElem? (i := 36) rfl)))
theorem cd_90_209 : mt_cd 90 209 = some (.iload_n 2) := mt_cd_of (q := (209, .iload_n 2, 1)) mq_90 ci_90 (List.mem_append_right _ ((show _ ∈ my_90_1 from List.mem_of_getElem? (i := 37) rfl)))
theorem cd_90_210 : mt_cd 90 210 = some (.iconst 1) := mt_cd_of (q := (210, .iconst 1, 1)) mq_90 ci_90 (List.mem_append_right _ ((show _ ∈ my_90_1 from List.mem_of_getElem? (i := 38) rfl)))
theorem cd_90_211 : mt_cd 90 211 = some (.iadd) := mt_cd_of (q := (211, .iadd, 1)) mq_90 ci_90 (List.mem_append_right _ ((show _ ∈ my_90_1 from List.mem_of_getElem? (i := 39) rfl)))
theorem cd_90_212 : mt_cd 90 212 = some (.invokevirtual 73) := mt_cd_of (q := (212, .invokevirtual 73, 3)) mq_90 ci_90 (List.mem_append_right _ ((show _ ∈ my_90_1 from List.mem_of_getElem? (i := 40) rfl)))
theorem cd_90_215 : mt_cd 90 215 = some (.aload_n 0) := mt_cd_of (q := (215, .aload_n 0, 1)) mq_90 ci_90 (List.mem_append_right _ ((show _ ∈ my_90_1 from List.mem_of_getElem? (i := 41) rfl)))
theorem cd_90_216 : mt_cd 90 216 = some (.aload_n 0) := mt_cd_of (q := (216, .aload_n 0, 1)) mq_90 ci_90 (List.mem_append_right _ ((show _ ∈ my_90_1 from List.mem_of_getElem? (i := 42) rfl)))
theorem cd_90_217 : mt_cd 90 217 = some (.getfield 9) := mt_cd_of (q := (217, .getfield 9, 3)) mq_90 ci_90 (List.mem_append_right _ ((show _ ∈ my_90_1 from List.mem_of_getElem? (i := 43) rfl)))
theorem cd_90_220 : mt_cd 90 220 = some (.getfield 40) := mt_cd_of (q := (220, .getfield 40, 3)) mq_90 ci_90 (List.mem_append_right _ ((show _ ∈ my_90_1 from List.mem_of_getElem? (i := 44) rfl)))
theorem cd_90_223 : mt_cd 90 223 = some (.iload_n 1) := mt_cd_of (q := (223, .iload_n 1, 1)) mq_90 ci_90 (List.mem_append_right _ ((show _ ∈ my_90_1 from List.mem_of_getElem? (i := 45) rfl)))
theorem cd_90_224 : mt_cd 90 224 = some (.iaload) := mt_cd_of (q := (224, .iaload, 1)) mq_90 ci_90 (List.mem_append_right _ ((show _ ∈ my_90_1 from List.mem_of_getElem? (i := 46) rfl)))
theorem cd_90_225 : mt_cd 90 225 = some (.iload_n 2) := mt_cd_of (q := (225, .iload_n 2, 1)) mq_90 ci_90 (List.mem_append_right _ ((show _ ∈ my_90_1 from List.mem_of_getElem? (i := 47) rfl)))
theorem cd_90_226 : mt_cd 90 226 = some (.iconst 1) := mt_cd_of (q := (226, .iconst 1, 1)) mq_90 ci_90 (List.mem_append_right _ ((show _ ∈ my_90_1 from List.mem_of_getElem? (i := 48) rfl)))
theorem cd_90_227 : mt_cd 90 227 = some (.iadd) := mt_cd_of (q := (227, .iadd, 1)) mq_90 ci_90 (List.mem_append_right _ ((show _ ∈ my_90_1 from List.mem_of_getElem? (i := 49) rfl)))
theorem cd_90_228 : mt_cd 90 228 = some (.invokevirtual 73) := mt_cd_of (q := (228, .invokevirtual 73, 3)) mq_90 ci_90 (List.mem_append_right _ ((show _ ∈ my_90_1 from List.mem_of_getElem? (i := 50) rfl)))
theorem cd_90_231 : mt_cd 90 231 = some (.invokestatic 93) := mt_cd_of (q := (231, .invokestatic 93, 3)) mq_90 ci_90 (List.mem_append_right _ ((show _ ∈ my_90_1 from List.mem_of_getElem? (i := 51) rfl)))
theorem cd_90_234 : mt_cd 90 234 = some (.ireturn) := mt_cd_of (q := (234, .ireturn, 1)) mq_90 ci_90 (List.mem_append_right _ ((show _ ∈ my_90_1 from List.mem_of_getElem? (i := 52) rfl)))
theorem b_90_0 {d : Nat} {Q : (Option Value ⊕ Nat) → mi_H → Prop} (n sl : Nat) (f : Nat → mi_C) {l1 : Nat} {l2 : Int32} {l3 : Int32} {o4 : Option Value} {o5 : Option Value} {o6 : Option Value} {fs7 : List Value} {x10 : Int32} (h8 : f l1 = .inr (10, fs7)) (h9 : l1 < n) (h11 : fs7[4]? = some (.int x10)) (h12 : ¬ x10 = (0 : Int32) → mi_W d 90 24 [some (.ref l1), some (.int l2), some (.int l3), o4, o5, o6] [] (n, sl, f) Q) (h13 : ¬ (¬ x10 = (0 : Int32)) → mi_W d 90 7 [some (.ref l1), some (.int l2), some (.int l3), o4, o5, o6] [] (n, sl, f) Q) : mi_W d 90 0 [some (.ref l1), some (.int l2), some (.int l3), o4, o5, o6] [] (n, sl, f) Q := by
  refine w_aload_n cd_90_0 rfl ?_
  refine w_getfield cd_90_1 (show mt_f 10 26 = some (10, 4) by decide +kernel) h8 h9 h11 ?_
  exact w_ifne cd_90_4 (by decide) h12 h13
theorem b_90_7 {d : Nat} {Q : (Option Value ⊕ Nat) → mi_H → Prop} (n sl : Nat) (f : Nat → mi_C) {l1 : Nat} {l2 : Int32} {l3 : Int32} {o4 : Option Value} {o5 : Option Value} {o6 : Option Value} (h7 : 100 < l3 → mi_W d 90 24 [some (.ref l1), some (.int l2), some (.int l3), o4, o5, o6] [] (n, sl, f) Q) (h8 : ¬ (100 < l3) → mi_W d 90 13 [some (.ref l1), some (.int l2), some (.int l3), o4, o5, o6] [] (n, sl, f) Q) : mi_W d 90 7 [some (.ref l1), some (.int l2), some (.int l3), o4, o5, o6] [] (n, sl, f) Q := by
  refine w_iload_n cd_90_7 rfl ?_
  refine w_bipush (v := 100) cd_90_8 (by decide) ?_
  exact w_if_icmpgt cd_90_10 (by decide) h7 h8
theorem b_90_13 {d : Nat} {Q : (Option Value ⊕ Nat) → mi_H → Prop} (n sl : Nat) (f : Nat → mi_C) {l1 : Nat} {l2 : Int32} {l3 : Int32} {o4 : Option Value} {o5 : Option Value} {o6 : Option Value} {fs7 : List Value} {x10 : Nat} {fs12 : List Value} (h8 : f l1 = .inr (10, fs7)) (h9 : l1 < n) (h11 : fs7[0]? = some (.ref x10)) (h13 : f x10 = .inr (2, fs12)) (h14 : x10 < n) (h15 : mi_W d 80 0 (mi_en 2 [.ref x10, .int l2]) [] (n, sl, f) (mi_Kc d 90 18 [some (.ref l1), some (.int l2), some (.int l3), o4, o5, o6] [] Q)) : mi_W (d + 1) 90 13 [some (.ref l1), some (.int l2), some (.int l3), o4, o5, o6] [] (n, sl, f) Q := by
  refine w_aload_n cd_90_13 rfl ?_
  refine w_getfield cd_90_14 (show mt_f 10 9 = some (10, 0) by decide +kernel) h8 h9 h11 ?_
  refine w_iload_n cd_90_17 rfl ?_
  exact w_invokevirtual cd_90_18 (show mt_m 10 30 = some (80, 0) by decide +kernel) (rest := []) rfl (as := [.ref x10, .int l2]) rfl h13 (Or.inl h14) ⟨Nat.le_of_ble_eq_true rfl, Nat.le_of_ble_eq_true rfl, Nat.le_of_ble_eq_true rfl⟩ h15
theorem b_90_21 {d : Nat} {Q : (Option Value ⊕ Nat) → mi_H → Prop} (n sl : Nat) (f : Nat → mi_C) {l1 : Nat} {l2 : Int32} {l3 : Int32} {o4 : Option Value} {o5 : Option Value} {o6 : Option Value} {s7 : Int32} (h8 : ¬ s7 = (0 : Int32) → mi_W d 90 26 [some (.ref l1), some (.int l2), some (.int l3), o4, o5, o6] [] (n, sl, f) Q) (h9 : ¬ (¬ s7 = (0 : Int32)) → mi_W d 90 24 [some (.ref l1), some (.int l2), some (.int l3), o4, o5, o6] [] (n, sl, f) Q) : mi_W d 90 21 [some (.ref l1), some (.int l2), some (.int l3), o4, o5, o6] [.int s7] (n, sl, f) Q := by
  exact w_ifne cd_90_21 (by decide) h8 h9
theorem b_90_24 {d : Nat} {Q : (Option Value ⊕ Nat) → mi_H → Prop} (n sl : Nat) (f : Nat → mi_C) {l1 : Nat} {l2 : Int32} {l3 : Int32} {o4 : Option Value} {o5 : Option Value} {o6 : Option Value} (h7 : Q (.inl (some (.int 0))) (n, sl, f)) : mi_W d 90 24 [some (.ref l1), some (.int l2), some (.int l3), o4, o5, o6] [] (n, sl, f) Q := by
  refine w_iconst (v := 0) cd_90_24 (by decide) ?_
  exact w_ireturn_z cd_90_25 (by decide +kernel) (by decide) h7
theorem b_90_26 {d : Nat} {Q : (Option Value ⊕ Nat) → mi_H → Prop} (n sl : Nat) (f : Nat → mi_C) {l1 : Nat} {l2 : Int32} {l3 : Int32} {o4 : Option Value} {o5 : Option Value} {o6 : Option Value} {fs7 : List Value} {x10 : Nat} {fs12 : List Value} {x15 : Nat} (m17 i17 : Nat) (g17 : Nat → Int32) {t21 : Nat} (h8 : f l1 = .inr (10, fs7)) (h9 : l1 < n) (h11 : fs7[0]? = some (.ref x10)) (h13 : f x10 = .inr (2, fs12)) (h14 : x10 < n) (h16 : fs12[0]? = some (.ref x15)) (h18 : f x15 = .inl (0, m17, .inl g17)) (h19 : x15 < n ∨ x15 = mi_SC) (h20 : mi_ix l2 m17 i17) (h22 : mi_ts 37 161 18 23 #[39, 41, 85, 85, 43, 68] ((g17 i17) : Int32).toInt = some t21) (h23 : mi_W d 90 t21 [some (.ref l1), some (.int l2), some (.int l3), some (.int (g17 i17)), o5, o6] [] (n, sl, f) Q) : mi_W d 90 26 [some (.ref l1), some (.int l2), some (.int l3), o4, o5, o6] [] (n, sl, f) Q := by
  refine w_aload_n cd_90_26 rfl ?_
  refine w_getfield cd_90_27 (show mt_f 10 9 = some (10, 0) by decide +kernel) h8 h9 h11 ?_
  refine w_getfield cd_90_30 (show mt_f 10 43 = some (2, 0) by decide +kernel) h13 h14 h16 ?_
  refine w_iload_n cd_90_33 rfl ?_
  refine w_iaload cd_90_34 h18 h19 h20 ?_
  refine w_istore_n (ls' := [some (.ref l1), some (.int l2), some (.int l3), some (.int (g17 i17)), o5, o6]) cd_90_35 (Nat.le_of_ble_eq_true rfl) rfl ?_
  refine w_iload_n cd_90_36 rfl ?_
  exact w_tableswitch cd_90_37 h22 h23
theorem b_90_76 {d : Nat} {Q : (Option Value ⊕ Nat) → mi_H → Prop} (n sl : Nat) (f : Nat → mi_C) {l1 : Nat} {l2 : Int32} {l3 : Int32} {l4 : Int32} {o5 : Option Value} {o6 : Option Value} (h7 : Q (.inl (some (.int 1))) (n, sl, f)) : mi_W d 90 76 [some (.ref l1), some (.int l2), some (.int l3), some (.int l4), o5, o6] [] (n, sl, f) Q := by
  refine w_iconst (v := 1) cd_90_76 (by decide) ?_
  exact w_ireturn_z cd_90_77 (by decide +kernel) (by decide) h7
theorem b_90_78 {d : Nat} {Q : (Option Value ⊕ Nat) → mi_H → Prop} (n sl : Nat) (f : Nat → mi_C) {l1 : Nat} {l2 : Int32} {l3 : Int32} {l4 : Int32} {o5 : Option Value} {o6 : Option Value} (h7 : Q (.inl (some (.int 0))) (n, sl, f)) : mi_W d 90 78 [some (.ref l1), some (.int l2), some (.int l3), some (.int l4), o5, o6] [] (n, sl, f) Q := by
  refine w_iconst (v := 0) cd_90_78 (by decide) ?_
  exact w_ireturn_z cd_90_79 (by decide +kernel) (by decide) h7
theorem b_90_80 {d : Nat} {Q : (Option Value ⊕ Nat) → mi_H → Prop} (n sl : Nat) (f : Nat → mi_C) {l1 : Nat} {l2 : Int32} {l3 : Int32} {l4 : Int32} {o5 : Option Value} {o6 : Option Value} {fs7 : List Value} {x10 : Nat} {fs12 : List Value} {x15 : Nat} (m17 i17 : Nat) (g17 : Nat → Int32) {fs21 : List Value} (h8 : f l1 = .inr (10, fs7)) (h9 : l1 < n) (h11 : fs7[0]? = some (.ref x10)) (h13 : f x10 = .inr (2, fs12)) (h14 : x10 < n) (h16 : fs12[1]? = some (.ref x15)) (h18 : f x15 = .inl (0, m17, .inl g17)) (h19 : x15 < n ∨ x15 = mi_SC) (h20 : mi_ix l2 m17 i17) (h22 : f l1 = .inr (10, fs21)) (h23 : l1 < n) (h24 : mi_W d 90 0 (mi_en 6 [.ref l1, .int (g17 i17), .int (l3 + 1)]) [] (n, sl, f) (mi_Kc d 90 93 [some (.ref l1), some (.int l2), some (.int l3), some (.int l4), o5, o6] [] Q)) : mi_W (d + 1) 90 80 [some (.ref l1), some (.int l2), some (.int l3), some (.int l4), o5, o6] [] (n, sl, f) Q := by
  refine w_aload_n cd_90_80 rfl ?_
  refine w_aload_n cd_90_81 rfl ?_
  refine w_getfield cd_90_82 (show mt_f 10 9 = some (10, 0) by decide +kernel) h8 h9 h11 ?_
  refine w_getfield cd_90_85 (show mt_f 10 36 = some (2, 1) by decide +kernel) h13 h14 h16 ?_
  refine w_iload_n cd_90_88 rfl ?_
  refine w_iaload cd_90_89 h18 h19 h20 ?_
  refine w_iload_n cd_90_90 rfl ?_
  refine w_iconst (v := 1) cd_90_91 (by decide) ?_
  refine w_iadd cd_90_92 ?_
  exact w_invokevirtual cd_90_93 (show mt_m 10 76 = some (90, 0) by decide +kernel) (rest := []) rfl (as := [.ref l1, .int (g17 i17), .int (l3 + 1)]) rfl h22 (Or.inl h23) ⟨Nat.le_of_ble_eq_true rfl, Nat.le_of_ble_eq_true rfl, Nat.le_of_ble_eq_true rfl⟩ h24
theorem b_90_96 {d : Nat} {Q : (Option Value ⊕ Nat) → mi_H → Prop} (n sl : Nat) (f : Nat → mi_C) {l1 : Nat} {l2 : Int32} {l3 : Int32} {l4 : Int32} {o5 : Option Value} {o6 : Option Value} {s7 : Int32} (h8 : ¬ s7 = (0 : Int32) → mi_W d 90 103 [some (.ref l1), some (.int l2), some (.int l3), some (.int l4), o5, o6] [] (n, sl, f) Q) (h9 : ¬ (¬ s7 = (0 : Int32)) → mi_W d 90 99 [some (.ref l1), some (.int l2), some (.int l3), some (.int l4), o5, o6] [] (n, sl, f) Q) : mi_W d 90 96 [some (.ref l1), some (.int l2), some (.int l3), some (.int l4), o5, o6] [.int s7] (n, sl, f) Q := by
  exact w_ifne cd_90_96 (by decide) h8 h9
theorem b_90_99 {d : Nat} {Q : (Option Value ⊕ Nat) → mi_H → Prop} (n sl : Nat) (f : Nat → mi_C) {l1 : Nat} {l2 : Int32} {l3 : Int32} {l4 : Int32} {o5 : Option Value} {o6 : Option Value} (h7 : mi_W d 90 104 [some (.ref l1), some (.int l2), some (.int l3), some (.int l4), o5, o6] [.int 1] (n, sl, f) Q) : mi_W d 90 99 [some (.ref l1), some (.int l2), some (.int l3), some (.int l4), o5, o6] [] (n, sl, f) Q := by
  refine w_iconst (v := 1) cd_90_99 (by decide) ?_
  exact w_goto cd_90_100 (by decide) h7
theorem b_90_103 {d : Nat} {Q : (Option Value ⊕ Nat) → mi_H → Prop} (n sl : Nat) (f : Nat → mi_C) {l1 : Nat} {l2 : Int32} {l3 : Int32} {l4 : Int32} {o5 : Option Value} {o6 : Option Value} (h7 : mi_W d 90 104 [some (.ref l1), some (.int l2), some (.int l3), some (.int l4), o5, o6] [.int 0] (n, sl, f) Q) : mi_W d 90 103 [some (.ref l1), some (.int l2), some (.int l3), some (.int l4), o5, o6] [] (n, sl, f) Q := by
  refine w_iconst (v := 0) cd_90_103 (by decide) ?_
  exact h7
theorem b_90_104 {d : Nat} {Q : (Option Value ⊕ Nat) → mi_H → Prop} (n sl : Nat) (f : Nat → mi_C) {l1 : Nat} {l2 : Int32} {l3 : Int32} {l4 : Int32} {o5 : Option Value} {o6 : Option Value} {s7 : Int32} (h8 : s7 = 0 ∨ s7 = 1) (h9 : Q (.inl (some (.int s7))) (n, sl, f)) : mi_W d 90 104 [some (.ref l1), some (.int l2), some (.int l3), some (.int l4), o5, o6] [.int s7] (n, sl, f) Q := by
  exact w_ireturn_z cd_90_104 (by decide +kernel) h8 h9
theorem b_90_105 {d : Nat} {Q : (Option Value ⊕ Nat) → mi_H → Prop} (n sl : Nat) (f : Nat → mi_C) {l1 : Nat} {l2 : Int32} {l3 : Int32} {l4 : Int32} {o5 : Option Value} {o6 : Option Value} {fs7 : List Value} {x10 : Nat} {fs12 : List Value} {x15 : Nat} {fs17 : List Value} {x20 : Nat} (m22 i22 : Nat) (g22 : Nat → Int32) {fs26 : List Value} (h8 : f l1 = .inr (10, fs7)) (h9 : l1 < n) (h11 : fs7[1]? = some (.ref x10)) (h13 : f l1 = .inr (10, fs12)) (h14 : l1 < n) (h16 : fs12[0]? = some (.ref x15)) (h18 : f x15 = .inr (2, fs17)) (h19 : x15 < n) (h21 : fs17[4]? = some (.ref x20)) (h23 : f x20 = .inl (0, m22, .inl g22)) (h24 : x20 < n ∨ x20 = mi_SC) (h25 : mi_ix l2 m22 i22) (h27 : f x10 = .inr (9, fs26)) (h28 : x10 < n) (h29 : mi_W d 91 0 (mi_en 2 [.ref x10, .int (g22 i22)]) [] (n, sl, f) (mi_Kc d 90 118 [some (.ref l1), some (.int l2), some (.int l3), some (.int l4), o5, o6] [] Q)) : mi_W (d + 1) 90 105 [some (.ref l1), some (.int l2), some (.int l3), some (.int l4), o5, o6] [] (n, sl, f) Q := by
  refine w_aload_n cd_90_105 rfl ?_
  refine w_getfield cd_90_106 (show mt_f 10 15 = some (10, 1) by decide +kernel) h8 h9 h11 ?_
  refine w_aload_n cd_90_109 rfl ?_
  refine w_getfield cd_90_110 (show mt_f 10 9 = some (10, 0) by decide +kernel) h13 h14 h16 ?_
  refine w_getfield cd_90_113 (show mt_f 10 50 = some (2, 4) by decide +kernel) h18 h19 h21 ?_
  refine w_iload_n cd_90_116 rfl ?_
  refine w_iaload cd_90_117 h23 h24 h25 ?_
  exact w_invokevirtual cd_90_118 (show mt_m 10 90 = some (91, 0) by decide +kernel) (rest := []) rfl (as := [.ref x10, .int (g22 i22)]) rfl h27 (Or.inl h28) ⟨Nat.le_of_ble_eq_true rfl, Nat.le_of_ble_eq_true rfl, Nat.le_of_ble_eq_true rfl⟩ h29
theorem b_90_121 {d : Nat} {Q : (Option Value ⊕ Nat) → mi_H → Prop} (n sl : Nat) (f : Nat → mi_C) {l1 : Nat} {l2 : Int32} {l3 : Int32} {l4 : Int32} {o5 : Option Value} {o6 : Option Value} {s7 : Int32} (h8 : s7 = 0 ∨ s7 = 1) (h9 : Q (.inl (some (.int s7))) (n, sl, f)) : mi_W d 90 121 [some (.ref l1), some (.int l2), some (.int l3), some (.int l4), o5, o6] [.int s7] (n, sl, f) Q := by
  exact w_ireturn_z cd_90_121 (by decide +kernel) h8 h9
theorem b_90_122 {d : Nat} {Q : (Option Value ⊕ Nat) → mi_H → Prop} (n sl : Nat) (f : Nat → mi_C) {l1 : Nat} {l2 : Int32} {l3 : Int32} {l4 : Int32} {o5 : Option Value} {o6 : Option Value} {fs7 : List Value} {x10 : Nat} {fs12 : List Value} {x15 : Nat} (m17 i17 : Nat) (g17 : Nat → Int32) {fs21 : List Value} (h8 : f l1 = .inr (10, fs7)) (h9 : l1 < n) (h11 : fs7[0]? = some (.ref x10)) (h13 : f x10 = .inr (2, fs12)) (h14 : x10 < n) (h16 : fs12[1]? = some (.ref x15)) (h18 : f x15 = .inl (0, m17, .inl g17)) (h19 : x15 < n ∨ x15 = mi_SC) (h20 : mi_ix l2 m17 i17) (h22 : f l1 = .inr (10, fs21)) (h23 : l1 < n) (h24 : mi_W d 90 0 (mi_en 6 [.ref l1, .int (g17 i17), .int (l3 + 1)]) [] (n, sl, f) (mi_Kc d 90 135 [some (.ref l1), some (.int l2), some (.int l3), some (.int l4), o5, o6] [] Q)) : mi_W (d + 1) 90 122 [some (.ref l1), some (.int l2), some (.int l3), some (.int l4), o5, o6] [] (n, sl, f) Q := by
  refine w_aload_n cd_90_122 rfl ?_
  refine w_aload_n cd_90_123 rfl ?_
  refine w_getfield cd_90_124 (show mt_f 10 9 = some (10, 0) by decide +kernel) h8 h9 h11 ?_
  refine w_getfield cd_90_127 (show mt_f 10 36 = some (2, 1) by decide +kernel) h13 h14 h16 ?_
  refine w_iload_n cd_90_130 rfl ?_
  refine w_iaload cd_90_131 h18 h19 h20 ?_
  refine w_iload_n cd_90_132 rfl ?_
  refine w_iconst (v := 1) cd_90_133 (by decide) ?_
  refine w_iadd cd_90_134 ?_
  exact w_invokevirtual cd_90_135 (show mt_m 10 76 = some (90, 0) by decide +kernel) (rest := []) rfl (as := [.ref l1, .int (g17 i17), .int (l3 + 1)]) rfl h22 (Or.inl h23) ⟨Nat.le_of_ble_eq_true rfl, Nat.le_of_ble_eq_true rfl, Nat.le_of_ble_eq_true rfl⟩ h24
theorem b_90_138 {d : Nat} {Q : (Option Value ⊕ Nat) → mi_H → Prop} (n sl : Nat) (f : Nat → mi_C) {l1 : Nat} {l2 : Int32} {l3 : Int32} {l4 : Int32} {o5 : Option Value} {o6 : Option Value} {s7 : Int32} {fs8 : List Value} {x11 : Nat} {fs13 : List Value} {x16 : Nat} (m18 i18 : Nat) (g18 : Nat → Int32) {fs22 : List Value} (h9 : f l1 = .inr (10, fs8)) (h10 : l1 < n) (h12 : fs8[0]? = some (.ref x11)) (h14 : f x11 = .inr (2, fs13)) (h15 : x11 < n) (h17 : fs13[3]? = some (.ref x16)) (h19 : f x16 = .inl (0, m18, .inl g18)) (h20 : x16 < n ∨ x16 = mi_SC) (h21 : mi_ix l2 m18 i18) (h23 : f l1 = .inr (10, fs22)) (h24 : l1 < n) (h25 : mi_W d 90 0 (mi_en 6 [.ref l1, .int (g18 i18), .int (l3 + 1)]) [] (n, sl, f) (mi_Kc d 90 153 [some (.ref l1), some (.int l2), some (.int l3), some (.int l4), some (.int s7), o6] [] Q)) : mi_W (d + 1) 90 138 [some (.ref l1), some (.int l2), some (.int l3), some (.int l4), o5, o6] [.int s7] (n, sl, f) Q := by
  refine w_istore (ls' := [some (.ref l1), some (.int l2), some (.int l3), some (.int l4), some (.int s7), o6]) cd_90_138 (Nat.le_of_ble_eq_true rfl) rfl ?_
  refine w_aload_n cd_90_140 rfl ?_
  refine w_aload_n cd_90_141 rfl ?_
  refine w_getfield cd_90_142 (show mt_f 10 9 = some (10, 0) by decide +kernel) h9 h10 h12 ?_
  refine w_getfield cd_90_145 (show mt_f 10 40 = some (2, 3) by decide +kernel) h14 h15 h17 ?_
  refine w_iload_n cd_90_148 rfl ?_
  refine w_iaload cd_90_149 h19 h20 h21 ?_
  refine w_iload_n cd_90_150 rfl ?_
  refine w_iconst (v := 1) cd_90_151 (by decide) ?_
  refine w_iadd cd_90_152 ?_
  exact w_invokevirtual cd_90_153 (show mt_m 10 76 = some (90, 0) by decide +kernel) (rest := []) rfl (as := [.ref l1, .int (g18 i18), .int (l3 + 1)]) rfl h23 (Or.inl h24) ⟨Nat.le_of_ble_eq_true rfl, Nat.le_of_ble_eq_true rfl, Nat.le_of_ble_eq_true rfl⟩ h25
theorem b_90_156 {d : Nat} {Q : (Option Value ⊕ Nat) → mi_H → Prop} (n sl : Nat) (f : Nat → mi_C) {l1 : Nat} {l2 : Int32} {l3 : Int32} {l4 : Int32} {l5 : Int32} {o6 : Option Value} {s7 : Int32} (h8 : ¬ l4 = 20 → mi_W d 90 182 [some (.ref l1), some (.int l2), some (.int l3), some (.int l4), some (.int l5), some (.int s7)] [] (n, sl, f) Q) (h9 : ¬ (¬ l4 = 20) → mi_W d 90 164 [some (.ref l1), some (.int l2), some (.int l3), some (.int l4), some (.int l5), some (.int s7)] [] (n, sl, f) Q) : mi_W d 90 156 [some (.ref l1), some (.int l2), some (.int l3), some (.int l4), some (.int l5), o6] [.int s7] (n, sl, f) Q := by
  refine w_istore (ls' := [some (.ref l1), some (.int l2), some (.int l3), some (.int l4), some (.int l5), some (.int s7)]) cd_90_156 (Nat.le_of_ble_eq_true rfl) rfl ?_
  refine w_iload_n cd_90_158 rfl ?_
  refine w_bipush (v := 20) cd_90_159 (by decide) ?_
  exact w_if_icmpne cd_90_161 (by decide) h8 h9
theorem b_90_164 {d : Nat} {Q : (Option Value ⊕ Nat) → mi_H → Prop} (n sl : Nat) (f : Nat → mi_C) {l1 : Nat} {l2 : Int32} {l3 : Int32} {l4 : Int32} {l5 : Int32} {l6 : Int32} (h7 : l5 = (0 : Int32) → mi_W d 90 178 [some (.ref l1), some (.int l2), some (.int l3), some (.int l4), some (.int l5), some (.int l6)] [] (n, sl, f) Q) (h8 : ¬ (l5 = (0 : Int32)) → mi_W d 90 169 [some (.ref l1), some (.int l2), some (.int l3), some (.int l4), some (.int l5), some (.int l6)] [] (n, sl, f) Q) : mi_W d 90 164 [some (.ref l1), some (.int l2), some (.int l3), some (.int l4), some (.int l5), some (.int l6)] [] (n, sl, f) Q := by
  refine w_iload cd_90_164 rfl ?_
  exact w_ifeq cd_90_166 (by decide) h7 h8
theorem b_90_169 {d : Nat} {Q : (Option Value ⊕ Nat) → mi_H → Prop} (n sl : Nat) (f : Nat → mi_C) {l1 : Nat} {l2 : Int32} {l3 : Int32} {l4 : Int32} {l5 : Int32} {l6 : Int32} (h7 : l6 = (0 : Int32) → mi_W d 90 178 [some (.ref l1), some (.int l2), some (.int l3), some (.int l4), some (.int l5), some (.int l6)] [] (n, sl, f) Q) (h8 : ¬ (l6 = (0 : Int32)) → mi_W d 90 174 [some (.ref l1), some (.int l2), some (.int l3), some (.int l4), some (.int l5), some (.int l6)] [] (n, sl, f) Q) : mi_W d 90 169 [some (.ref l1), some (.int l2), some (.int l3), some (.int l4), some (.int l5), some (.int l6)] [] (n, sl, f) Q := by
  refine w_iload cd_90_169 rfl ?_
  exact w_ifeq cd_90_171 (by decide) h7 h8
theorem b_90_174 {d : Nat} {Q : (Option Value ⊕ Nat) → mi_H → Prop} (n sl : Nat) (f : Nat → mi_C) {l1 : Nat} {l2 : Int32} {l3 : Int32} {l4 : Int32} {l5 : Int32} {l6 : Int32} (h7 : mi_W d 90 197 [some (.ref l1), some (.int l2), some (.int l3), some (.int l4), some (.int l5), some (.int l6)] [.int 1] (n, sl, f) Q) : mi_W d 90 174 [some (.ref l1), some (.int l2), some (.int l3), some (.int l4), some (.int l5), some (.int l6)] [] (n, sl, f) Q := by
  refine w_iconst (v := 1) cd_90_174 (by decide) ?_
  exact w_goto cd_90_175 (by decide) h7
theorem b_90_178 {d : Nat} {Q : (Option Value ⊕ Nat) → mi_H → Prop} (n sl : Nat) (f : Nat → mi_C) {l1 : Nat} {l2 : Int32} {l3 : Int32} {l4 : Int32} {l5 : Int32} {l6 : Int32} (h7 : mi_W d 90 197 [some (.ref l1), some (.int l2), some (.int l3), some (.int l4), some (.int l5), some (.int l6)] [.int 0] (n, sl, f) Q) : mi_W d 90 178 [some (.ref l1), some (.int l2), some (.int l3), some (.int l4), some (.int l5), some (.int l6)] [] (n, sl, f) Q := by
  refine w_iconst (v := 0) cd_90_178 (by decide) ?_
  exact w_goto cd_90_179 (by decide) h7
theorem b_90_182 {d : Nat} {Q : (Option Value ⊕ Nat) → mi_H → Prop} (n sl : Nat) (f : Nat → mi_C) {l1 : Nat} {l2 : Int32} {l3 : Int32} {l4 : Int32} {l5 : Int32} {l6 : Int32} (h7 : ¬ l5 = (0 : Int32) → mi_W d 90 192 [some (.ref l1), some (.int l2), some (.int l3), some (.int l4), some (.int l5), some (.int l6)] [] (n, sl, f) Q) (h8 : ¬ (¬ l5 = (0 : Int32)) → mi_W d 90 187 [some (.ref l1), some (.int l2), some (.int l3), some (.int l4), some (.int l5), some (.int l6)] [] (n, sl, f) Q) : mi_W d 90 182 [some (.ref l1), some (.int l2), some (.int l3), some (.int l4), some (.int l5), some (.int l6)] [] (n, sl, f) Q := by
  refine w_iload cd_90_182 rfl ?_
  exact w_ifne cd_90_184 (by decide) h7 h8
theorem b_90_187 {d : Nat} {Q : (Option Value ⊕ Nat) → mi_H → Prop} (n sl : Nat) (f : Nat → mi_C) {l1 : Nat} {l2 : Int32} {l3 : Int32} {l4 : Int32} {l5 : Int32} {l6 : Int32} (h7 : l6 = (0 : Int32) → mi_W d 90 196 [some (.ref l1), some (.int l2), some (.int l3), some (.int l4), some (.int l5), some (.int l6)] [] (n, sl, f) Q) (h8 : ¬ (l6 = (0 : Int32)) → mi_W d 90 192 [some (.ref l1), some (.int l2), some (.int l3), some (.int l4), some (.int l5), some (.int l6)] [] (n, sl, f) Q) : mi_W d 90 187 [some (.ref l1), some (.int l2), some (.int l3), some (.int l4), some (.int l5), some (.int l6)] [] (n, sl, f) Q := by
  refine w_iload cd_90_187 rfl ?_
  exact w_ifeq cd_90_189 (by decide) h7 h8
theorem b_90_192 {d : Nat} {Q : (Option Value ⊕ Nat) → mi_H → Prop} (n sl : Nat) (f : Nat → mi_C) {l1 : Nat} {l2 : Int32} {l3 : Int32} {l4 : Int32} {l5 : Int32} {l6 : Int32} (h7 : mi_W d 90 197 [some (.ref l1), some (.int l2), some (.int l3), some (.int l4), some (.int l5), some (.int l6)] [.int 1] (n, sl, f) Q) : mi_W d 90 192 [some (.ref l1), some (.int l2), some (.int l3), some (.int l4), some (.int l5), some (.int l6)] [] (n, sl, f) Q := by
  refine w_iconst (v := 1) cd_90_192 (by decide) ?_
  exact w_goto cd_90_193 (by decide) h7
theorem b_90_196 {d : Nat} {Q : (Option Value ⊕ Nat) → mi_H → Prop} (n sl : Nat) (f : Nat → mi_C) {l1 : Nat} {l2 : Int32} {l3 : Int32} {l4 : Int32} {l5 : Int32} {l6 : Int32} (h7 : mi_W d 90 197 [some (.ref l1), some (.int l2), some (.int l3), some (.int l4), some (.int l5), some (.int l6)] [.int 0] (n, sl, f) Q) : mi_W d 90 196 [some (.ref l1), some (.int l2), some (.int l3), some (.int l4), some (.int l5), some (.int l6)] [] (n, sl, f) Q := by
  refine w_iconst (v := 0) cd_90_196 (by decide) ?_
  exact h7
theorem b_90_197 {d : Nat} {Q : (Option Value ⊕ Nat) → mi_H → Prop} (n sl : Nat) (f : Nat → mi_C) {l1 : Nat} {l2 : Int32} {l3 : Int32} {l4 : Int32} {l5 : Int32} {l6 : Int32} {s7 : Int32} (h8 : s7 = 0 ∨ s7 = 1) (h9 : Q (.inl (some (.int s7))) (n, sl, f)) : mi_W d 90 197 [some (.ref l1), some (.int l2), some (.int l3), some (.int l4), some (.int l5), some (.int l6)] [.int s7] (n, sl, f) Q := by
  exact w_ireturn_z cd_90_197 (by decide +kernel) h8 h9
theorem b_90_198 {d : Nat} {Q : (Option Value ⊕ Nat) → mi_H → Prop} (n sl : Nat) (f : Nat → mi_C) {l1 : Nat} {l2 : Int32} {l3 : Int32} {l4 : Int32} {o5 : Option Value} {o6 : Option Value} {fs7 : List Value} {x10 : Nat} {fs12 : List Value} {x15 : Nat} (m17 i17 : Nat) (g17 : Nat → Int32) {fs21 : List Value} (h8 : f l1 = .inr (10, fs7)) (h9 : l1 < n) (h11 : fs7[0]? = some (.ref x10)) (h13 : f x10 = .inr (2, fs12)) (h14 : x10 < n) (h16 : fs12[1]? = some (.ref x15)) (h18 : f x15 = .inl (0, m17, .inl g17)) (h19 : x15 < n ∨ x15 = mi_SC) (h20 : mi_ix l2 m17 i17) (h22 : f l1 = .inr (10, fs21)) (h23 : l1 < n) (h24 : mi_W d 85 0 (mi_en 5 [.ref l1, .int (g17 i17), .int (l3 + 1)]) [] (n, sl, f) (mi_Kc d 90 212 [some (.ref l1), some (.int l2), some (.int l3), some (.int l4), o5, o6] [.int l4] Q)) : mi_W (d + 1) 90 198 [some (.ref l1), some (.int l2), some (.int l3), some (.int l4), o5, o6] [] (n, sl, f) Q := by
  refine w_iload_n cd_90_198 rfl ?_
  refine w_aload_n cd_90_199 rfl ?_
  refine w_aload_n cd_90_200 rfl ?_
  refine w_getfield cd_90_201 (show mt_f 10 9 = some (10, 0) by decide +kernel) h8 h9 h11 ?_
  refine w_getfield cd_90_204 (show mt_f 10 36 = some (2, 1) by decide +kernel) h13 h14 h16 ?_
  refine w_iload_n cd_90_207 rfl ?_
  refine w_iaload cd_90_208 h18 h19 h20 ?_
  refine w_iload_n cd_90_209 rfl ?_
  refine w_iconst (v := 1) cd_90_210 (by decide) ?_
  refine w_iadd cd_90_211 ?_
  exact w_invokevirtual cd_90_212 (show mt_m 10 73 = some (85, 0) by decide +kernel) (rest := [.int l4]) rfl (as := [.ref l1, .int (g17 i17), .int (l3 + 1)]) rfl h22 (Or.inl h23) ⟨Nat.le_of_ble_eq_true rfl, Nat.le_of_ble_eq_true rfl, Nat.le_of_ble_eq_true rfl⟩ h24
theorem b_90_215 {d : Nat} {Q : (Option Value ⊕ Nat) → mi_H → Prop} (n sl : Nat) (f : Nat → mi_C) {l1 : Nat} {l2 : Int32} {l3 : Int32} {l4 : Int32} {o5 : Option Value} {o6 : Option Value} {s7 : Int64} {s8 : Int32} {fs9 : List Value} {x12 : Nat} {fs14 : List Value} {x17 : Nat} (m19 i19 : Nat) (g19 : Nat → Int32) {fs23 : List Value} (h10 : f l1 = .inr (10, fs9)) (h11 : l1 < n) (h13 : fs9[0]? = some (.ref x12)) (h15 : f x12 = .inr (2, fs14)) (h16 : x12 < n) (h18 : fs14[3]? = some (.ref x17)) (h20 : f x17 = .inl (0, m19, .inl g19)) (h21 : x17 < n ∨ x17 = mi_SC) (h22 : mi_ix l2 m19 i19) (h24 : f l1 = .inr (10, fs23)) (h25 : l1 < n) (h26 : mi_W d 85 0 (mi_en 5 [.ref l1, .int (g19 i19), .int (l3 + 1)]) [] (n, sl, f) (mi_Kc d 90 228 [some (.ref l1), some (.int l2), some (.int l3), some (.int l4), o5, o6] [.long s7, .int s8] Q)) : mi_W (d + 1) 90 215 [some (.ref l1), some (.int l2), some (.int l3), some (.int l4), o5, o6] [.long s7, .int s8] (n, sl, f) Q := by
  refine w_aload_n cd_90_215 rfl ?_
  refine w_aload_n cd_90_216 rfl ?_
  refine w_getfield cd_90_217 (show mt_f 10 9 = some (10, 0) by decide +kernel) h10 h11 h13 ?_
  refine w_getfield cd_90_220 (show mt_f 10 40 = some (2, 3) by decide +kernel) h15 h16 h18 ?_
  refine w_iload_n cd_90_223 rfl ?_
  refine w_iaload cd_90_224 h20 h21 h22 ?_
  refine w_iload_n cd_90_225 rfl ?_
  refine w_iconst (v := 1) cd_90_226 (by decide) ?_
  refine w_iadd cd_90_227 ?_
  exact w_invokevirtual cd_90_228 (show mt_m 10 73 = some (85, 0) by decide +kernel) (rest := [.long s7, .int s8]) rfl (as := [.ref l1, .int (g19 i19), .int (l3 + 1)]) rfl h24 (Or.inl h25) ⟨Nat.le_of_ble_eq_true rfl, Nat.le_of_ble_eq_true rfl, Nat.le_of_ble_eq_true rfl⟩ h26
theorem b_90_231 {d : Nat} {Q : (Option Value ⊕ Nat) → mi_H → Prop} (n sl : Nat) (f : Nat → mi_C) {l1 : Nat} {l2 : Int32} {l3 : Int32} {l4 : Int32} {o5 : Option Value} {o6 : Option Value} {s7 : Int64} {s8 : Int64} {s9 : Int32} (h10 : mi_W d 92 0 (mi_en 5 [.int s9, .long s8, .long s7]) [] (n, sl, f) (mi_Kc d 90 231 [some (.ref l1), some (.int l2), some (.int l3), some (.int l4), o5, o6] [] Q)) : mi_W (d + 1) 90 231 [some (.ref l1), some (.int l2), some (.int l3), some (.int l4), o5, o6] [.long s7, .long s8, .int s9] (n, sl, f) Q := by
  exact w_invokestatic cd_90_231 (show mt_m 10 93 = some (92, 4) by decide +kernel) (by decide) (rest := []) rfl (as := [.int s9, .long s8, .long s7]) rfl ⟨Nat.le_of_ble_eq_true rfl, Nat.le_of_ble_eq_true rfl, Nat.le_of_ble_eq_true rfl⟩ h10
theorem b_90_234 {d : Nat} {Q : (Option Value ⊕ Nat) → mi_H → Prop} (n sl : Nat) (f : Nat → mi_C) {l1 : Nat} {l2 : Int32} {l3 : Int32} {l4 : Int32} {o5 : Option Value} {o6 : Option Value} {s7 : Int32} (h8 : s7 = 0 ∨ s7 = 1) (h9 : Q (.inl (some (.int s7))) (n, sl, f)) : mi_W d 90 234 [some (.ref l1), some (.int l2), some (.int l3), some (.int l4), o5, o6] [.int s7] (n, sl, f) Q := by
  exact w_ireturn_z cd_90_234 (by decide +kernel) h8 h9
/-! MarloweHost$Situation.isMade(I)Z -/
set_option maxRecDepth 100000 in
theorem mq_91 : mt_q 91 = my_91 := rfl
set_option maxRecDepth 100000 in
theorem ci_91 : mt_inc 0 my_91.cd = true := by decide +kernel
theorem cd_91_0 : mt_cd 91 0 = some (.aload_n 0) := mt_cd_of (q := (0, .aload_n 0, 1)) mq_91 ci_91 (List.mem_of_getElem? (i := 0) rfl)
theorem cd_91_1 : mt_cd 91 1 = some (.getfield 35) := mt_cd_of (q := (1, .getfield 35, 3)) mq_91 ci_91 (List.mem_of_getElem? (i := 1) rfl)
theorem cd_91_4 : mt_cd 91 4 = some (.iload_n 1) := mt_cd_of (q := (4, .iload_n 1, 1)) mq_91 ci_91 (List.mem_of_getElem? (i := 2) rfl)
theorem cd_91_5 : mt_cd 91 5 = some (.ishr) := mt_cd_of (q := (5, .ishr, 1)) mq_91 ci_91 (List.mem_of_getElem? (i := 3) rfl)
theorem cd_91_6 : mt_cd 91 6 = some (.iconst 1) := mt_cd_of (q := (6, .iconst 1, 1)) mq_91 ci_91 (List.mem_of_getElem? (i := 4) rfl)
theorem cd_91_7 : mt_cd 91 7 = some (.iand) := mt_cd_of (q := (7, .iand, 1)) mq_91 ci_91 (List.mem_of_getElem? (i := 5) rfl)
theorem cd_91_8 : mt_cd 91 8 = some (.ifCond .eq 7) := mt_cd_of (q := (8, .ifCond .eq 7, 3)) mq_91 ci_91 (List.mem_of_getElem? (i := 6) rfl)
theorem cd_91_11 : mt_cd 91 11 = some (.iconst 1) := mt_cd_of (q := (11, .iconst 1, 1)) mq_91 ci_91 (List.mem_of_getElem? (i := 7) rfl)
theorem cd_91_12 : mt_cd 91 12 = some (.goto 4) := mt_cd_of (q := (12, .goto 4, 3)) mq_91 ci_91 (List.mem_of_getElem? (i := 8) rfl)
theorem cd_91_15 : mt_cd 91 15 = some (.iconst 0) := mt_cd_of (q := (15, .iconst 0, 1)) mq_91 ci_91 (List.mem_of_getElem? (i := 9) rfl)
theorem cd_91_16 : mt_cd 91 16 = some (.ireturn) := mt_cd_of (q := (16, .ireturn, 1)) mq_91 ci_91 (List.mem_of_getElem? (i := 10) rfl)
theorem b_91_0 {d : Nat} {Q : (Option Value ⊕ Nat) → mi_H → Prop} (n sl : Nat) (f : Nat → mi_C) {l1 : Nat} {l2 : Int32} {fs3 : List Value} {x6 : Int32} (h4 : f l1 = .inr (9, fs3)) (h5 : l1 < n) (h7 : fs3[5]? = some (.int x6)) (h8 : ((x6 >>> (l2 &&& 31)) &&& 1) = (0 : Int32) → mi_W d 91 15 [some (.ref l1), some (.int l2)] [] (n, sl, f) Q) (h9 : ¬ (((x6 >>> (l2 &&& 31)) &&& 1) = (0 : Int32)) → mi_W d 91 11 [some (.ref l1), some (.int l2)] [] (n, sl, f) Q) : mi_W d 91 0 [some (.ref l1), some (.int l2)] [] (n, sl, f) Q := by
  refine w_aload_n cd_91_0 rfl ?_
  refine w_getfield cd_91_1 (show mt_f 9 35 = some (9, 5) by decide +kernel) h4 h5 h7 ?_
  refine w_iload_n cd_91_4 rfl ?_
  refine w_ishr cd_91_5 ?_
  refine w_iconst (v := 1) cd_91_6 (by decide) ?_
  refine w_iand cd_91_7 ?_
  exact w_ifeq cd_91_8 (by decide) h8 h9
theorem b_91_11 {d : Nat} {Q : (Option Value ⊕ Nat) → mi_H → Prop} (n sl : Nat) (f : Nat → mi_C) {l1 : Nat} {l2 : Int32} (h3 : mi_W d 91 16 [some (.ref l1), some (.int l2)] [.int 1] (n, sl, f) Q) : mi_W d 91 11 [some (.ref l1), some (.int l2)] [] (n, sl, f) Q := by
  refine w_iconst (v := 1) cd_91_11 (by decide) ?_
  exact w_goto cd_91_12 (by decide) h3
theorem b_91_15 {d : Nat} {Q : (Option Value ⊕ Nat) → mi_H → Prop} (n sl : Nat) (f : Nat → mi_C) {l1 : Nat} {l2 : Int32} (h3 : mi_W d 91 16 [some (.ref l1), some (.int l2)] [.int 0] (n, sl, f) Q) : mi_W d 91 15 [some (.ref l1), some (.int l2)] [] (n, sl, f) Q := by
  refine w_iconst (v := 0) cd_91_15 (by decide) ?_
  exact h3
theorem b_91_16 {d : Nat} {Q : (Option Value ⊕ Nat) → mi_H → Prop} (n sl : Nat) (f : Nat → mi_C) {l1 : Nat} {l2 : Int32} {s3 : Int32} (h4 : s3 = 0 ∨ s3 = 1) (h5 : Q (.inl (some (.int s3))) (n, sl, f)) : mi_W d 91 16 [some (.ref l1), some (.int l2)] [.int s3] (n, sl, f) Q := by
  exact w_ireturn_z cd_91_16 (by decide +kernel) h4 h5
/-! MarloweHost$Reckoner.compare(IJJ)Z -/
set_option maxRecDepth 100000 in
theorem mq_92 : mt_q 92 = my_92 := rfl
set_option maxRecDepth 100000 in
theorem ci_92 : mt_inc 0 my_92.cd = true := by decide +kernel
theorem cd_92_0 : mt_cd 92 0 = some (.iload_n 0) := mt_cd_of (q := (0, .iload_n 0, 1)) mq_92 ci_92 (List.mem_of_getElem? (i := 0) rfl)
theorem cd_92_1 : mt_cd 92 1 = some (.tableswitch 79 32 35 #[31, 43, 55, 67]) := mt_cd_of (q := (1, .tableswitch 79 32 35 #[31, 43, 55, 67], 31)) mq_92 ci_92 (List.mem_of_getElem? (i := 1) rfl)
theorem cd_92_32 : mt_cd 92 32 = some (.lload_n 1) := mt_cd_of (q := (32, .lload_n 1, 1)) mq_92 ci_92 (List.mem_of_getElem? (i := 2) rfl)
theorem cd_92_33 : mt_cd 92 33 = some (.lload_n 3) := mt_cd_of (q := (33, .lload_n 3, 1)) mq_92 ci_92 (List.mem_of_getElem? (i := 3) rfl)
theorem cd_92_34 : mt_cd 92 34 = some (.lcmp) := mt_cd_of (q := (34, .lcmp, 1)) mq_92 ci_92 (List.mem_of_getElem? (i := 4) rfl)
theorem cd_92_35 : mt_cd 92 35 = some (.ifCond .ge 7) := mt_cd_of (q := (35, .ifCond .ge 7, 3)) mq_92 ci_92 (List.mem_of_getElem? (i := 5) rfl)
theorem cd_92_38 : mt_cd 92 38 = some (.iconst 1) := mt_cd_of (q := (38, .iconst 1, 1)) mq_92 ci_92 (List.mem_of_getElem? (i := 6) rfl)
theorem cd_92_39 : mt_cd 92 39 = some (.goto 4) := mt_cd_of (q := (39, .goto 4, 3)) mq_92 ci_92 (List.mem_of_getElem? (i := 7) rfl)
theorem cd_92_42 : mt_cd 92 42 = some (.iconst 0) := mt_cd_of (q := (42, .iconst 0, 1)) mq_92 ci_92 (List.mem_of_getElem? (i := 8) rfl)
theorem cd_92_43 : mt_cd 92 43 = some (.ireturn) := mt_cd_of (q := (43, .ireturn, 1)) mq_92 ci_92 (List.mem_of_getElem? (i := 9) rfl)
theorem cd_92_44 : mt_cd 92 44 = some (.lload_n 1) := mt_cd_of (q := (44, .lload_n 1, 1)) mq_92 ci_92 (List.mem_of_getElem? (i := 10) rfl)
theorem cd_92_45 : mt_cd 92 45 = some (.lload_n 3) := mt_cd_of (q := (45, .lload_n 3, 1)) mq_92 ci_92 (List.mem_of_getElem? (i := 11) rfl)
theorem cd_92_46 : mt_cd 92 46 = some (.lcmp) := mt_cd_of (q := (46, .lcmp, 1)) mq_92 ci_92 (List.mem_of_getElem? (i := 12) rfl)
theorem cd_92_47 : mt_cd 92 47 = some (.ifCond .gt 7) := mt_cd_of (q := (47, .ifCond .gt 7, 3)) mq_92 ci_92 (List.mem_of_getElem? (i := 13) rfl)
theorem cd_92_50 : mt_cd 92 50 = some (.iconst 1) := mt_cd_of (q := (50, .iconst 1, 1)) mq_92 ci_92 (List.mem_of_getElem? (i := 14) rfl)
theorem cd_92_51 : mt_cd 92 51 = some (.goto 4) := mt_cd_of (q := (51, .goto 4, 3)) mq_92 ci_92 (List.mem_of_getElem? (i := 15) rfl)
theorem cd_92_54 : mt_cd 92 54 = some (.iconst 0) := mt_cd_of (q := (54, .iconst 0, 1)) mq_92 ci_92 (List.mem_of_getElem? (i := 16) rfl)
theorem cd_92_55 : mt_cd 92 55 = some (.ireturn) := mt_cd_of (q := (55, .ireturn, 1)) mq_92 ci_92 (List.mem_of_getElem? (i := 17) rfl)
theorem cd_92_56 : mt_cd 92 56 = some (.lload_n 1) := mt_cd_of (q := (56, .lload_n 1, 1)) mq_92 ci_92 (List.mem_of_getElem? (i := 18) rfl)
theorem cd_92_57 : mt_cd 92 57 = some (.lload_n 3) := mt_cd_of (q := (57, .lload_n 3, 1)) mq_92 ci_92 (List.mem_of_getElem? (i := 19) rfl)
theorem cd_92_58 : mt_cd 92 58 = some (.lcmp) := mt_cd_of (q := (58, .lcmp, 1)) mq_92 ci_92 (List.mem_of_getElem? (i := 20) rfl)
theorem cd_92_59 : mt_cd 92 59 = some (.ifCond .le 7) := mt_cd_of (q := (59, .ifCond .le 7, 3)) mq_92 ci_92 (List.mem_of_getElem? (i := 21) rfl)
theorem cd_92_62 : mt_cd 92 62 = some (.iconst 1) := mt_cd_of (q := (62, .iconst 1, 1)) mq_92 ci_92 (List.mem_of_getElem? (i := 22) rfl)
theorem cd_92_63 : mt_cd 92 63 = some (.goto 4) := mt_cd_of (q := (63, .goto 4, 3)) mq_92 ci_92 (List.mem_of_getElem? (i := 23) rfl)
theorem cd_92_66 : mt_cd 92 66 = some (.iconst 0) := mt_cd_of (q := (66, .iconst 0, 1)) mq_92 ci_92 (List.mem_of_getElem? (i := 24) rfl)
theorem cd_92_67 : mt_cd 92 67 = some (.ireturn) := mt_cd_of (q := (67, .ireturn, 1)) mq_92 ci_92 (List.mem_of_getElem? (i := 25) rfl)
theorem cd_92_68 : mt_cd 92 68 = some (.lload_n 1) := mt_cd_of (q := (68, .lload_n 1, 1)) mq_92 ci_92 (List.mem_of_getElem? (i := 26) rfl)
theorem cd_92_69 : mt_cd 92 69 = some (.lload_n 3) := mt_cd_of (q := (69, .lload_n 3, 1)) mq_92 ci_92 (List.mem_of_getElem? (i := 27) rfl)
theorem cd_92_70 : mt_cd 92 70 = some (.lcmp) := mt_cd_of (q := (70, .lcmp, 1)) mq_92 ci_92 (List.mem_of_getElem? (i := 28) rfl)
theorem cd_92_71 : mt_cd 92 71 = some (.ifCond .lt 7) := mt_cd_of (q := (71, .ifCond .lt 7, 3)) mq_92 ci_92 (List.mem_of_getElem? (i := 29) rfl)
theorem cd_92_74 : mt_cd 92 74 = some (.iconst 1) := mt_cd_of (q := (74, .iconst 1, 1)) mq_92 ci_92 (List.mem_of_getElem? (i := 30) rfl)
theorem cd_92_75 : mt_cd 92 75 = some (.goto 4) := mt_cd_of (q := (75, .goto 4, 3)) mq_92 ci_92 (List.mem_of_getElem? (i := 31) rfl)
theorem cd_92_78 : mt_cd 92 78 = some (.iconst 0) := mt_cd_of (q := (78, .iconst 0, 1)) mq_92 ci_92 (List.mem_of_getElem? (i := 32) rfl)
theorem cd_92_79 : mt_cd 92 79 = some (.ireturn) := mt_cd_of (q := (79, .ireturn, 1)) mq_92 ci_92 (List.mem_of_getElem? (i := 33) rfl)
theorem cd_92_80 : mt_cd 92 80 = some (.lload_n 1) := mt_cd_of (q := (80, .lload_n 1, 1)) mq_92 ci_92 (List.mem_of_getElem? (i := 34) rfl)
theorem cd_92_81 : mt_cd 92 81 = some (.lload_n 3) := mt_cd_of (q := (81, .lload_n 3, 1)) mq_92 ci_92 (List.mem_of_getElem? (i := 35) rfl)
theorem cd_92_82 : mt_cd 92 82 = some (.lcmp) := mt_cd_of (q := (82, .lcmp, 1)) mq_92 ci_92 (List.mem_of_getElem? (i := 36) rfl)
theorem cd_92_83 : mt_cd 92 83 = some (.ifCond .ne 7) := mt_cd_of (q := (83, .ifCond .ne 7, 3)) mq_92 ci_92 (List.mem_of_getElem? (i := 37) rfl)
theorem cd_92_86 : mt_cd 92 86 = some (.iconst 1) := mt_cd_of (q := (86, .iconst 1, 1)) mq_92 ci_92 (List.mem_of_getElem? (i := 38) rfl)
theorem cd_92_87 : mt_cd 92 87 = some (.goto 4) := mt_cd_of (q := (87, .goto 4, 3)) mq_92 ci_92 (List.mem_of_getElem? (i := 39) rfl)
theorem cd_92_90 : mt_cd 92 90 = some (.iconst 0) := mt_cd_of (q := (90, .iconst 0, 1)) mq_92 ci_92 (List.mem_of_getElem? (i := 40) rfl)
theorem cd_92_91 : mt_cd 92 91 = some (.ireturn) := mt_cd_of (q := (91, .ireturn, 1)) mq_92 ci_92 (List.mem_of_getElem? (i := 41) rfl)
theorem b_92_0 {d : Nat} {Q : (Option Value ⊕ Nat) → mi_H → Prop} (n sl : Nat) (f : Nat → mi_C) {l1 : Int32} {l2 : Int64} {l3 : Int64} {t4 : Nat} (h5 : mi_ts 1 79 32 35 #[31, 43, 55, 67] (l1 : Int32).toInt = some t4) (h6 : mi_W d 92 t4 [some (.int l1), some (.long l2), none, some (.long l3), none] [] (n, sl, f) Q) : mi_W d 92 0 [some (.int l1), some (.long l2), none, some (.long l3), none] [] (n, sl, f) Q := by
  refine w_iload_n cd_92_0 rfl ?_
  exact w_tableswitch cd_92_1 h5 h6
theorem b_92_32 {d : Nat} {Q : (Option Value ⊕ Nat) → mi_H → Prop} (n sl : Nat) (f : Nat → mi_C) {l1 : Int32} {l2 : Int64} {l3 : Int64} (h4 : (0 : Int32) ≤ (lg_cmp l2 l3) → mi_W d 92 42 [some (.int l1), some (.long l2), none, some (.long l3), none] [] (n, sl, f) Q) (h5 : ¬ ((0 : Int32) ≤ (lg_cmp l2 l3)) → mi_W d 92 38 [some (.int l1), some (.long l2), none, some (.long l3), none] [] (n, sl, f) Q) : mi_W d 92 32 [some (.int l1), some (.long l2), none, some (.long l3), none] [] (n, sl, f) Q := by
  refine w_lload_n cd_92_32 rfl ?_
  refine w_lload_n cd_92_33 rfl ?_
  refine w_lcmp cd_92_34 ?_
  exact w_ifge cd_92_35 (by decide) h4 h5
theorem b_92_38 {d : Nat} {Q : (Option Value ⊕ Nat) → mi_H → Prop} (n sl : Nat) (f : Nat → mi_C) {l1 : Int32} {l2 : Int64} {l3 : Int64} (h4 : mi_W d 92 43 [some (.int l1), some (.long l2), none, some (.long l3), none] [.int 1] (n, sl, f) Q) : mi_W d 92 38 [some (.int l1), some (.long l2), none, some (.long l3), none] [] (n, sl, f) Q := by
  refine w_iconst (v := 1) cd_92_38 (by decide) ?_
  exact w_goto cd_92_39 (by decide) h4
theorem b_92_42 {d : Nat} {Q : (Option Value ⊕ Nat) → mi_H → Prop} (n sl : Nat) (f : Nat → mi_C) {l1 : Int32} {l2 : Int64} {l3 : Int64} (h4 : mi_W d 92 43 [some (.int l1), some (.long l2), none, some (.long l3), none] [.int 0] (n, sl, f) Q) : mi_W d 92 42 [some (.int l1), some (.long l2), none, some (.long l3), none] [] (n, sl, f) Q := by
  refine w_iconst (v := 0) cd_92_42 (by decide) ?_
  exact h4
theorem b_92_43 {d : Nat} {Q : (Option Value ⊕ Nat) → mi_H → Prop} (n sl : Nat) (f : Nat → mi_C) {l1 : Int32} {l2 : Int64} {l3 : Int64} {s4 : Int32} (h5 : s4 = 0 ∨ s4 = 1) (h6 : Q (.inl (some (.int s4))) (n, sl, f)) : mi_W d 92 43 [some (.int l1), some (.long l2), none, some (.long l3), none] [.int s4] (n, sl, f) Q := by
  exact w_ireturn_z cd_92_43 (by decide +kernel) h5 h6
theorem b_92_44 {d : Nat} {Q : (Option Value ⊕ Nat) → mi_H → Prop} (n sl : Nat) (f : Nat → mi_C) {l1 : Int32} {l2 : Int64} {l3 : Int64} (h4 : (0 : Int32) < (lg_cmp l2 l3) → mi_W d 92 54 [some (.int l1), some (.long l2), none, some (.long l3), none] [] (n, sl, f) Q) (h5 : ¬ ((0 : Int32) < (lg_cmp l2 l3)) → mi_W d 92 50 [some (.int l1), some (.long l2), none, some (.long l3), none] [] (n, sl, f) Q) : mi_W d 92 44 [some (.int l1), some (.long l2), none, some (.long l3), none] [] (n, sl, f) Q := by
  refine w_lload_n cd_92_44 rfl ?_
  refine w_lload_n cd_92_45 rfl ?_
  refine w_lcmp cd_92_46 ?_
  exact w_ifgt cd_92_47 (by decide) h4 h5
theorem b_92_50 {d : Nat} {Q : (Option Value ⊕ Nat) → mi_H → Prop} (n sl : Nat) (f : Nat → mi_C) {l1 : Int32} {l2 : Int64} {l3 : Int64} (h4 : mi_W d 92 55 [some (.int l1), some (.long l2), none, some (.long l3), none] [.int 1] (n, sl, f) Q) : mi_W d 92 50 [some (.int l1), some (.long l2), none, some (.long l3), none] [] (n, sl, f) Q := by
  refine w_iconst (v := 1) cd_92_50 (by decide) ?_
  exact w_goto cd_92_51 (by decide) h4
theorem b_92_54 {d : Nat} {Q : (Option Value ⊕ Nat) → mi_H → Prop} (n sl : Nat) (f : Nat → mi_C) {l1 : Int32} {l2 : Int64} {l3 : Int64} (h4 : mi_W d 92 55 [some (.int l1), some (.long l2), none, some (.long l3), none] [.int 0] (n, sl, f) Q) : mi_W d 92 54 [some (.int l1), some (.long l2), none, some (.long l3), none] [] (n, sl, f) Q := by
  refine w_iconst (v := 0) cd_92_54 (by decide) ?_
  exact h4
theorem b_92_55 {d : Nat} {Q : (Option Value ⊕ Nat) → mi_H → Prop} (n sl : Nat) (f : Nat → mi_C) {l1 : Int32} {l2 : Int64} {l3 : Int64} {s4 : Int32} (h5 : s4 = 0 ∨ s4 = 1) (h6 : Q (.inl (some (.int s4))) (n, sl, f)) : mi_W d 92 55 [some (.int l1), some (.long l2), none, some (.long l3), none] [.int s4] (n, sl, f) Q := by
  exact w_ireturn_z cd_92_55 (by decide +kernel) h5 h6
theorem b_92_56 {d : Nat} {Q : (Option Value ⊕ Nat) → mi_H → Prop} (n sl : Nat) (f : Nat → mi_C) {l1 : Int32} {l2 : Int64} {l3 : Int64} (h4 : (lg_cmp l2 l3) ≤ (0 : Int32) → mi_W d 92 66 [some (.int l1), some (.long l2), none, some (.long l3), none] [] (n, sl, f) Q) (h5 : ¬ ((lg_cmp l2 l3) ≤ (0 : Int32)) → mi_W d 92 62 [some (.int l1), some (.long l2), none, some (.long l3), none] [] (n, sl, f) Q) : mi_W d 92 56 [some (.int l1), some (.long l2), none, some (.long l3), none] [] (n, sl, f) Q := by
  refine w_lload_n cd_92_56 rfl ?_
  refine w_lload_n cd_92_57 rfl ?_
  refine w_lcmp cd_92_58 ?_
  exact w_ifle cd_92_59 (by decide) h4 h5
theorem b_92_62 {d : Nat} {Q : (Option Value ⊕ Nat) → mi_H → Prop} (n sl : Nat) (f : Nat → mi_C) {l1 : Int32} {l2 : Int64} {l3 : Int64} (h4 : mi_W d 92 67 [some (.int l1), some (.long l2), none, some (.long l3), none] [.int 1] (n, sl, f) Q) : mi_W d 92 62 [some (.int l1), some (.long l2), none, some (.long l3), none] [] (n, sl, f) Q := by
  refine w_iconst (v := 1) cd_92_62 (by decide) ?_
  exact w_goto cd_92_63 (by decide) h4
theorem b_92_66 {d : Nat} {Q : (Option Value ⊕ Nat) → mi_H → Prop} (n sl : Nat) (f : Nat → mi_C) {l1 : Int32} {l2 : Int64} {l3 : Int64} (h4 : mi_W d 92 67 [some (.int l1), some (.long l2), none, some (.long l3), none] [.int 0] (n, sl, f) Q) : mi_W d 92 66 [some (.int l1), some (.long l2), none, some (.long l3), none] [] (n, sl, f) Q := by
  refine w_iconst (v := 0) cd_92_66 (by decide) ?_
  exact h4
theorem b_92_67 {d : Nat} {Q : (Option Value ⊕ Nat) → mi_H → Prop} (n sl : Nat) (f : Nat → mi_C) {l1 : Int32} {l2 : Int64} {l3 : Int64} {s4 : Int32} (h5 : s4 = 0 ∨ s4 = 1) (h6 : Q (.inl (some (.int s4))) (n, sl, f)) : mi_W d 92 67 [some (.int l1), some (.long l2), none, some (.long l3), none] [.int s4] (n, sl, f) Q := by
  exact w_ireturn_z cd_92_67 (by decide +kernel) h5 h6
theorem b_92_68 {d : Nat} {Q : (Option Value ⊕ Nat) → mi_H → Prop} (n sl : Nat) (f : Nat → mi_C) {l1 : Int32} {l2 : Int64} {l3 : Int64} (h4 : (lg_cmp l2 l3) < (0 : Int32) → mi_W d 92 78 [some (.int l1), some (.long l2), none, some (.long l3), none] [] (n, sl, f) Q) (h5 : ¬ ((lg_cmp l2 l3) < (0 : Int32)) → mi_W d 92 74 [some (.int l1), some (.long l2), none, some (.long l3), none] [] (n, sl, f) Q) : mi_W d 92 68 [some (.int l1), some (.long l2), none, some (.long l3), none] [] (n, sl, f) Q := by
  refine w_lload_n cd_92_68 rfl ?_
  refine w_lload_n cd_92_69 rfl ?_
  refine w_lcmp cd_92_70 ?_
  exact w_iflt cd_92_71 (by decide) h4 h5
theorem b_92_74 {d : Nat} {Q : (Option Value ⊕ Nat) → mi_H → Prop} (n sl : Nat) (f : Nat → mi_C) {l1 : Int32} {l2 : Int64} {l3 : Int64} (h4 : mi_W d 92 79 [some (.int l1), some (.long l2), none, some (.long l3), none] [.int 1] (n, sl, f) Q) : mi_W d 92 74 [some (.int l1), some (.long l2), none, some (.long l3), none] [] (n, sl, f) Q := by
  refine w_iconst (v := 1) cd_92_74 (by decide) ?_
  exact w_goto cd_92_75 (by decide) h4
theorem b_92_78 {d : Nat} {Q : (Option Value ⊕ Nat) → mi_H → Prop} (n sl : Nat) (f : Nat → mi_C) {l1 : Int32} {l2 : Int64} {l3 : Int64} (h4 : mi_W d 92 79 [some (.int l1), some (.long l2), none, some (.long l3), none] [.int 0] (n, sl, f) Q) : mi_W d 92 78 [some (.int l1), some (.long l2), none, some (.long l3), none] [] (n, sl, f) Q := by
  refine w_iconst (v := 0) cd_92_78 (by decide) ?_
  exact h4
theorem b_92_79 {d : Nat} {Q : (Option Value ⊕ Nat) → mi_H → Prop} (n sl : Nat) (f : Nat → mi_C) {l1 : Int32} {l2 : Int64} {l3 : Int64} {s4 : Int32} (h5 : s4 = 0 ∨ s4 = 1) (h6 : Q (.inl (some (.int s4))) (n, sl, f)) : mi_W d 92 79 [some (.int l1), some (.long l2), none, some (.long l3), none] [.int s4] (n, sl, f) Q := by
  exact w_ireturn_z cd_92_79 (by decide +kernel) h5 h6
theorem b_92_80 {d : Nat} {Q : (Option Value ⊕ Nat) → mi_H → Prop} (n sl : Nat) (f : Nat → mi_C) {l1 : Int32} {l2 : Int64} {l3 : Int64} (h4 : ¬ (lg_cmp l2 l3) = (0 : Int32) → mi_W d 92 90 [some (.int l1), some (.long l2), none, some (.long l3), none] [] (n, sl, f) Q) (h5 : ¬ (¬ (lg_cmp l2 l3) = (0 : Int32)) → mi_W d 92 86 [some (.int l1), some (.long l2), none, some (.long l3), none] [] (n, sl, f) Q) : mi_W d 92 80 [some (.int l1), some (.long l2), none, some (.long l3), none] [] (n, sl, f) Q := by
  refine w_lload_n cd_92_80 rfl ?_
  refine w_lload_n cd_92_81 rfl ?_
  refine w_lcmp cd_92_82 ?_
  exact w_ifne cd_92_83 (by decide) h4 h5
theorem b_92_86 {d : Nat} {Q : (Option Value ⊕ Nat) → mi_H → Prop} (n sl : Nat) (f : Nat → mi_C) {l1 : Int32} {l2 : Int64} {l3 : Int64} (h4 : mi_W d 92 91 [some (.int l1), some (.long l2), none, some (.long l3), none] [.int 1] (n, sl, f) Q) : mi_W d 92 86 [some (.int l1), some (.long l2), none, some (.long l3), none] [] (n, sl, f) Q := by
  refine w_iconst (v := 1) cd_92_86 (by decide) ?_
  exact w_goto cd_92_87 (by decide) h4
theorem b_92_90 {d : Nat} {Q : (Option Value ⊕ Nat) → mi_H → Prop} (n sl : Nat) (f : Nat → mi_C) {l1 : Int32} {l2 : Int64} {l3 : Int64} (h4 : mi_W d 92 91 [some (.int l1), some (.long l2), none, some (.long l3), none] [.int 0] (n, sl, f) Q) : mi_W d 92 90 [some (.int l1), some (.long l2), none, some (.long l3), none] [] (n, sl, f) Q := by
  refine w_iconst (v := 0) cd_92_90 (by decide) ?_
  exact h4
theorem b_92_91 {d : Nat} {Q : (Option Value ⊕ Nat) → mi_H → Prop} (n sl : Nat) (f : Nat → mi_C) {l1 : Int32} {l2 : Int64} {l3 : Int64} {s4 : Int32} (h5 : s4 = 0 ∨ s4 = 1) (h6 : Q (.inl (some (.int s4))) (n, sl, f)) : mi_W d 92 91 [some (.int l1), some (.long l2), none, some (.long l3), none] [.int s4] (n, sl, f) Q := by
  exact w_ireturn_z cd_92_91 (by decide +kernel) h5 h6
/-! MarloweHost$Reckoner.product(JJ)J -/
set_option maxRecDepth 100000 in
theorem mq_93 : mt_q 93 = my_93 := rfl
set_option maxRecDepth 100000 in
theorem ci_93 : mt_inc 0 my_93.cd = true := by decide +kernel
theorem cd_93_0 : mt_cd 93 0 = some (.lload_n 1) := mt_cd_of (q := (0, .lload_n 1, 1)) mq_93 ci_93 (List.mem_of_getElem? (i := 0) rfl)
theorem cd_93_1 : mt_cd 93 1 = some (.lconst 0) := mt_cd_of (q := (1, .lconst 0, 1)) mq_93 ci_93 (List.mem_of_getElem? (i := 1) rfl)
theorem cd_93_2 : mt_cd 93 2 = some (.lcmp) := mt_cd_of (q := (2, .lcmp, 1)) mq_93 ci_93 (List.mem_of_getElem? (i := 2) rfl)
theorem cd_93_3 : mt_cd 93 3 = some (.ifCond .ne 5) := mt_cd_of (q := (3, .ifCond .ne 5, 3)) mq_93 ci_93 (List.mem_of_getElem? (i := 3) rfl)
theorem cd_93_6 : mt_cd 93 6 = some (.lconst 0) := mt_cd_of (q := (6, .lconst 0, 1)) mq_93 ci_93 (List.mem_of_getElem? (i := 4) rfl)
theorem cd_93_7 : mt_cd 93 7 = some (.lreturn) := mt_cd_of (q := (7, .lreturn, 1)) mq_93 ci_93 (List.mem_of_getElem? (i := 5) rfl)
theorem cd_93_8 : mt_cd 93 8 = some (.lload_n 3) := mt_cd_of (q := (8, .lload_n 3, 1)) mq_93 ci_93 (List.mem_of_getElem? (i := 6) rfl)
theorem cd_93_9 : mt_cd 93 9 = some (.invokestatic 97) := mt_cd_of (q := (9, .invokestatic 97, 3)) mq_93 ci_93 (List.mem_of_getElem? (i := 7) rfl)
theorem cd_93_12 : mt_cd 93 12 = some (.ldc2_w 102) := mt_cd_of (q := (12, .ldc2_w 102, 3)) mq_93 ci_93 (List.mem_of_getElem? (i := 8) rfl)
theorem cd_93_15 : mt_cd 93 15 = some (.lload_n 1) := mt_cd_of (q := (15, .lload_n 1, 1)) mq_93 ci_93 (List.mem_of_getElem? (i := 9) rfl)
theorem cd_93_16 : mt_cd 93 16 = some (.invokestatic 97) := mt_cd_of (q := (16, .invokestatic 97, 3)) mq_93 ci_93 (List.mem_of_getElem? (i := 10) rfl)
theorem cd_93_19 : mt_cd 93 19 = some (.ldiv) := mt_cd_of (q := (19, .ldiv, 1)) mq_93 ci_93 (List.mem_of_getElem? (i := 11) rfl)
theorem cd_93_20 : mt_cd 93 20 = some (.lcmp) := mt_cd_of (q := (20, .lcmp, 1)) mq_93 ci_93 (List.mem_of_getElem? (i := 12) rfl)
theorem cd_93_21 : mt_cd 93 21 = some (.ifCond .le 10) := mt_cd_of (q := (21, .ifCond .le 10, 3)) mq_93 ci_93 (List.mem_of_getElem? (i := 13) rfl)
theorem cd_93_24 : mt_cd 93 24 = some (.aload_n 0) := mt_cd_of (q := (24, .aload_n 0, 1)) mq_93 ci_93 (List.mem_of_getElem? (i := 14) rfl)
theorem cd_93_25 : mt_cd 93 25 = some (.iconst 1) := mt_cd_of (q := (25, .iconst 1, 1)) mq_93 ci_93 (List.mem_of_getElem? (i := 15) rfl)
theorem cd_93_26 : mt_cd 93 26 = some (.putfield 26) := mt_cd_of (q := (26, .putfield 26, 3)) mq_93 ci_93 (List.mem_of_getElem? (i := 16) rfl)
theorem cd_93_29 : mt_cd 93 29 = some (.lconst 0) := mt_cd_of (q := (29, .lconst 0, 1)) mq_93 ci_93 (List.mem_of_getElem? (i := 17) rfl)
theorem cd_93_30 : mt_cd 93 30 = some (.lreturn) := mt_cd_of (q := (30, .lreturn, 1)) mq_93 ci_93 (List.mem_of_getElem? (i := 18) rfl)
theorem cd_93_31 : mt_cd 93 31 = some (.lload_n 1) := mt_cd_of (q := (31, .lload_n 1, 1)) mq_93 ci_93 (List.mem_of_getElem? (i := 19) rfl)
theorem cd_93_32 : mt_cd 93 32 = some (.lload_n 3) := mt_cd_of (q := (32, .lload_n 3, 1)) mq_93 ci_93 (List.mem_of_getElem? (i := 20) rfl)
theorem cd_93_33 : mt_cd 93 33 = some (.lmul) := mt_cd_of (q := (33, .lmul, 1)) mq_93 ci_93 (List.mem_of_getElem? (i := 21) rfl)
theorem cd_93_34 : mt_cd 93 34 = some (.lreturn) := mt_cd_of (q := (34, .lreturn, 1)) mq_93 ci_93 (List.mem_of_getElem? (i := 22) rfl)
theorem b_93_0 {d : Nat} {Q : (Option Value ⊕ Nat) → mi_H → Prop} (n sl : Nat) (f : Nat → mi_C) {l1 : Nat} {l2 : Int64} {l3 : Int64} (h4 : ¬ (lg_cmp l2 0) = (0 : Int32) → mi_W d 93 8 [some (.ref l1), some (.long l2), none, some (.long l3), none] [] (n, sl, f) Q) (h5 : ¬ (¬ (lg_cmp l2 0) = (0 : Int32)) → mi_W d 93 6 [some (.ref l1), some (.long l2), none, some (.long l3), none] [] (n, sl, f) Q) : mi_W d 93 0 [some (.ref l1), some (.long l2), none, some (.long l3), none] [] (n, sl, f) Q := by
  refine w_lload_n cd_93_0 rfl ?_
  refine w_lconst (lv := 0) cd_93_1 (by decide) ?_
  refine w_lcmp cd_93_2 ?_
  exact w_ifne cd_93_3 (by decide) h4 h5
theorem b_93_6 {d : Nat} {Q : (Option Value ⊕ Nat) → mi_H → Prop} (n sl : Nat) (f : Nat → mi_C) {l1 : Nat} {l2 : Int64} {l3 : Int64} (h4 : Q (.inl (some (.long 0))) (n, sl, f)) : mi_W d 93 6 [some (.ref l1), some (.long l2), none, some (.long l3), none] [] (n, sl, f) Q := by
  refine w_lconst (lv := 0) cd_93_6 (by decide) ?_
  exact w_lreturn cd_93_7 (by decide +kernel) h4
theorem b_93_8 {d : Nat} {Q : (Option Value ⊕ Nat) → mi_H → Prop} (n sl : Nat) (f : Nat → mi_C) {l1 : Nat} {l2 : Int64} {l3 : Int64} (h4 : mi_W d 94 0 (mi_en 2 [.long l3]) [] (n, sl, f) (mi_Kc d 93 9 [some (.ref l1), some (.long l2), none, some (.long l3), none] [] Q)) : mi_W (d + 1) 93 8 [some (.ref l1), some (.long l2), none, some (.long l3), none] [] (n, sl, f) Q := by
  refine w_lload_n cd_93_8 rfl ?_
  exact w_invokestatic cd_93_9 (show mt_m 10 97 = some (94, 4) by decide +kernel) (by decide) (rest := []) rfl (as := [.long l3]) rfl ⟨Nat.le_of_ble_eq_true rfl, Nat.le_of_ble_eq_true rfl, Nat.le_of_ble_eq_true rfl⟩ h4
theorem b_93_12 {d : Nat} {Q : (Option Value ⊕ Nat) → mi_H → Prop} (n sl : Nat) (f : Nat → mi_C) {l1 : Nat} {l2 : Int64} {l3 : Int64} {s4 : Int64} (h5 : mi_W d 94 0 (mi_en 2 [.long l2]) [] (n, sl, f) (mi_Kc d 93 16 [some (.ref l1), some (.long l2), none, some (.long l3), none] [.long 4611686018427387904, .long s4] Q)) : mi_W (d + 1) 93 12 [some (.ref l1), some (.long l2), none, some (.long l3), none] [.long s4] (n, sl, f) Q := by
  refine w_ldc2_w (lv := 4611686018427387904) cd_93_12 (by decide +kernel) ?_
  refine w_lload_n cd_93_15 rfl ?_
  exact w_invokestatic cd_93_16 (show mt_m 10 97 = some (94, 4) by decide +kernel) (by decide) (rest := [.long 4611686018427387904, .long s4]) rfl (as := [.long l2]) rfl ⟨Nat.le_of_ble_eq_true rfl, Nat.le_of_ble_eq_true rfl, Nat.le_of_ble_eq_true rfl⟩ h5
theorem b_93_19 {d : Nat} {Q : (Option Value ⊕ Nat) → mi_H → Prop} (n sl : Nat) (f : Nat → mi_C) {l1 : Nat} {l2 : Int64} {l3 : Int64} {s4 : Int64} {s5 : Int64} {s6 : Int64} (h7 : ¬ s4 = (0 : Int64)) (h8 : (lg_cmp s6 (s5 / s4)) ≤ (0 : Int32) → mi_W d 93 31 [some (.ref l1), some (.long l2), none, some (.long l3), none] [] (n, sl, f) Q) (h9 : ¬ ((lg_cmp s6 (s5 / s4)) ≤ (0 : Int32)) → mi_W d 93 24 [some (.ref l1), some (.long l2), none, some (.long l3), none] [] (n, sl, f) Q) : mi_W d 93 19 [some (.ref l1), some (.long l2), none, some (.long l3), none] [.long s4, .long s5, .long s6] (n, sl, f) Q := by
  refine w_ldiv cd_93_19 h7 ?_
  refine w_lcmp cd_93_20 ?_
  exact w_ifle cd_93_21 (by decide) h8 h9
theorem b_93_24 {d : Nat} {Q : (Option Value ⊕ Nat) → mi_H → Prop} (n sl : Nat) (f : Nat → mi_C) {l1 : Nat} {l2 : Int64} {l3 : Int64} {fs4 : List Value} (h5 : f l1 = .inr (10, fs4)) (h6 : l1 < n) (h7 : 4 < fs4.length) (h8 : mi_fk .boolean (.int 1) = true) (h9 : Q (.inl (some (.long 0))) (n, sl, (va_up f l1 (.inr (10, fs4.set 4 (.int 1)))))) : mi_W d 93 24 [some (.ref l1), some (.long l2), none, some (.long l3), none] [] (n, sl, f) Q := by
  refine w_aload_n cd_93_24 rfl ?_
  refine w_iconst (v := 1) cd_93_25 (by decide) ?_
  refine w_putfield (w := .int 1) cd_93_26 (show mt_f 10 26 = some (10, 4) by decide +kernel) h5 h6 ⟨h7, h8, Or.inl (by decide)⟩ ?_
  refine w_lconst (lv := 0) cd_93_29 (by decide) ?_
  exact w_lreturn cd_93_30 (by decide +kernel) h9
theorem b_93_31 {d : Nat} {Q : (Option Value ⊕ Nat) → mi_H → Prop} (n sl : Nat) (f : Nat → mi_C) {l1 : Nat} {l2 : Int64} {l3 : Int64} (h4 : Q (.inl (some (.long (l2 * l3)))) (n, sl, f)) : mi_W d 93 31 [some (.ref l1), some (.long l2), none, some (.long l3), none] [] (n, sl, f) Q := by
  refine w_lload_n cd_93_31 rfl ?_
  refine w_lload_n cd_93_32 rfl ?_
  refine w_lmul cd_93_33 ?_
  exact w_lreturn cd_93_34 (by decide +kernel) h4
/-! MarloweHost$Reckoner.quotient(JJ)J -/
set_option maxRecDepth 100000 in
theorem mq_95 : mt_q 95 = my_95 := rfl
set_option maxRecDepth 100000 in
theorem ci_95 : mt_inc 0 my_95.cd = true := by decide +kernel
theorem cd_95_0 : mt_cd 95 0 = some (.lload_n 2) := mt_cd_of (q := (0, .lload_n 2, 1)) mq_95 ci_95 (List.mem_of_getElem? (i := 0) rfl)
theorem cd_95_1 : mt_cd 95 1 = some (.lconst 0) := mt_cd_of (q := (1, .lconst 0, 1)) mq_95 ci_95 (List.mem_of_getElem? (i := 1) rfl)
theorem cd_95_2 : mt_cd 95 2 = some (.lcmp) := mt_cd_of (q := (2, .lcmp, 1)) mq_95 ci_95 (List.mem_of_getElem? (i := 2) rfl)
theorem cd_95_3 : mt_cd 95 3 = some (.ifCond .ne 7) := mt_cd_of (q := (3, .ifCond .ne 7, 3)) mq_95 ci_95 (List.mem_of_getElem? (i := 3) rfl)
theorem cd_95_6 : mt_cd 95 6 = some (.lconst 0) := mt_cd_of (q := (6, .lconst 0, 1)) mq_95 ci_95 (List.mem_of_getElem? (i := 4) rfl)
theorem cd_95_7 : mt_cd 95 7 = some (.goto 6) := mt_cd_of (q := (7, .goto 6, 3)) mq_95 ci_95 (List.mem_of_getElem? (i := 5) rfl)
theorem cd_95_10 : mt_cd 95 10 = some (.lload_n 0) := mt_cd_of (q := (10, .lload_n 0, 1)) mq_95 ci_95 (List.mem_of_getElem? (i := 6) rfl)
theorem cd_95_11 : mt_cd 95 11 = some (.lload_n 2) := mt_cd_of (q := (11, .lload_n 2, 1)) mq_95 ci_95 (List.mem_of_getElem? (i := 7) rfl)
theorem cd_95_12 : mt_cd 95 12 = some (.ldiv) := mt_cd_of (q := (12, .ldiv, 1)) mq_95 ci_95 (List.mem_of_getElem? (i := 8) rfl)
theorem cd_95_13 : mt_cd 95 13 = some (.lreturn) := mt_cd_of (q := (13, .lreturn, 1)) mq_95 ci_95 (List.mem_of_getElem? (i := 9) rfl)
theorem b_95_0 {d : Nat} {Q : (Option Value ⊕ Nat) → mi_H → Prop} (n sl : Nat) (f : Nat → mi_C) {l1 : Int64} {l2 : Int64} (h3 : ¬ (lg_cmp l2 0) = (0 : Int32) → mi_W d 95 10 [some (.long l1), none, some (.long l2), none] [] (n, sl, f) Q) (h4 : ¬ (¬ (lg_cmp l2 0) = (0 : Int32)) → mi_W d 95 6 [some (.long l1), none, some (.long l2), none] [] (n, sl, f) Q) : mi_W d 95 0 [some (.long l1), none, some (.long l2), none] [] (n, sl, f) Q := by
  refine w_lload_n cd_95_0 rfl ?_
  refine w_lconst (lv := 0) cd_95_1 (by decide) ?_
  refine w_lcmp cd_95_2 ?_
  exact w_ifne cd_95_3 (by decide) h3 h4
theorem b_95_6 {d : Nat} {Q : (Option Value ⊕ Nat) → mi_H → Prop} (n sl : Nat) (f : Nat → mi_C) {l1 : Int64} {l2 : Int64} (h3 : mi_W d 95 13 [some (.long l1), none, some (.long l2), none] [.long 0] (n, sl, f) Q) : mi_W d 95 6 [some (.long l1), none, some (.long l2), none] [] (n, sl, f) Q := by
  refine w_lconst (lv := 0) cd_95_6 (by decide) ?_
  exact w_goto cd_95_7 (by decide) h3
theorem b_95_10 {d : Nat} {Q : (Option Value ⊕ Nat) → mi_H → Prop} (n sl : Nat) (f : Nat → mi_C) {l1 : Int64} {l2 : Int64} (h3 : ¬ l2 = (0 : Int64)) (h4 : mi_W d 95 13 [some (.long l1), none, some (.long l2), none] [.long (l1 / l2)] (n, sl, f) Q) : mi_W d 95 10 [some (.long l1), none, some (.long l2), none] [] (n, sl, f) Q := by
  refine w_lload_n cd_95_10 rfl ?_
  refine w_lload_n cd_95_11 rfl ?_
  refine w_ldiv cd_95_12 h3 ?_
  exact h4
theorem b_95_13 {d : Nat} {Q : (Option Value ⊕ Nat) → mi_H → Prop} (n sl : Nat) (f : Nat → mi_C) {l1 : Int64} {l2 : Int64} {s3 : Int64} (h4 : Q (.inl (some (.long s3))) (n, sl, f)) : mi_W d 95 13 [some (.long l1), none, some (.long l2), none] [.long s3] (n, sl, f) Q := by
  exact w_lreturn cd_95_13 (by decide +kernel) h4
/-! MarloweHost$Events.warn(II)V -/
set_option maxRecDepth 100000 in
theorem mq_96 : mt_q 96 = my_96 := rfl
set_option maxRecDepth 100000 in
theorem ci_96 : mt_inc 0 my_96.cd = true := by decide +kernel
theorem cd_96_0 : mt_cd 96 0 = some (.aload_n 0) := mt_cd_of (q := (0, .aload_n 0, 1)) mq_96 ci_96 (List.mem_of_getElem? (i := 0) rfl)
theorem cd_96_1 : mt_cd 96 1 = some (.getfield 31) := mt_cd_of (q := (1, .getfield 31, 3)) mq_96 ci_96 (List.mem_of_getElem? (i := 1) rfl)
theorem cd_96_4 : mt_cd 96 4 = some (.ifCond .lt 43) := mt_cd_of (q := (4, .ifCond .lt 43, 3)) mq_96 ci_96 (List.mem_of_getElem? (i := 2) rfl)
theorem cd_96_7 : mt_cd 96 7 = some (.aload_n 0) := mt_cd_of (q := (7, .aload_n 0, 1)) mq_96 ci_96 (List.mem_of_getElem? (i := 3) rfl)
theorem cd_96_8 : mt_cd 96 8 = some (.getfield 31) := mt_cd_of (q := (8, .getfield 31, 3)) mq_96 ci_96 (List.mem_of_getElem? (i := 4) rfl)
theorem cd_96_11 : mt_cd 96 11 = some (.sipush 148) := mt_cd_of (q := (11, .sipush 148, 3)) mq_96 ci_96 (List.mem_of_getElem? (i := 5) rfl)
theorem cd_96_14 : mt_cd 96 14 = some (.if_icmp .ge 33) := mt_cd_of (q := (14, .if_icmp .ge 33, 3)) mq_96 ci_96 (List.mem_of_getElem? (i := 6) rfl)
theorem cd_96_17 : mt_cd 96 17 = some (.aload_n 0) := mt_cd_of (q := (17, .aload_n 0, 1)) mq_96 ci_96 (List.mem_of_getElem? (i := 7) rfl)
theorem cd_96_18 : mt_cd 96 18 = some (.getfield 9) := mt_cd_of (q := (18, .getfield 9, 3)) mq_96 ci_96 (List.mem_of_getElem? (i := 8) rfl)
theorem cd_96_21 : mt_cd 96 21 = some (.aload_n 0) := mt_cd_of (q := (21, .aload_n 0, 1)) mq_96 ci_96 (List.mem_of_getElem? (i := 9) rfl)
theorem cd_96_22 : mt_cd 96 22 = some (.getfield 31) := mt_cd_of (q := (22, .getfield 31, 3)) mq_96 ci_96 (List.mem_of_getElem? (i := 10) rfl)
theorem cd_96_25 : mt_cd 96 25 = some (.iload_n 1) := mt_cd_of (q := (25, .iload_n 1, 1)) mq_96 ci_96 (List.mem_of_getElem? (i := 11) rfl)
theorem cd_96_26 : mt_cd 96 26 = some (.iastore) := mt_cd_of (q := (26, .iastore, 1)) mq_96 ci_96 (List.mem_of_getElem? (i := 12) rfl)
theorem cd_96_27 : mt_cd 96 27 = some (.aload_n 0) := mt_cd_of (q := (27, .aload_n 0, 1)) mq_96 ci_96 (List.mem_of_getElem? (i := 13) rfl)
theorem cd_96_28 : mt_cd 96 28 = some (.getfield 15) := mt_cd_of (q := (28, .getfield 15, 3)) mq_96 ci_96 (List.mem_of_getElem? (i := 14) rfl)
theorem cd_96_31 : mt_cd 96 31 = some (.aload_n 0) := mt_cd_of (q := (31, .aload_n 0, 1)) mq_96 ci_96 (List.mem_of_getElem? (i := 15) rfl)
theorem cd_96_32 : mt_cd 96 32 = some (.getfield 31) := mt_cd_of (q := (32, .getfield 31, 3)) mq_96 ci_96 (List.mem_of_getElem? (i := 16) rfl)
theorem cd_96_35 : mt_cd 96 35 = some (.iload_n 2) := mt_cd_of (q := (35, .iload_n 2, 1)) mq_96 ci_96 (List.mem_of_getElem? (i := 17) rfl)
theorem cd_96_36 : mt_cd 96 36 = some (.iastore) := mt_cd_of (q := (36, .iastore, 1)) mq_96 ci_96 (List.mem_of_getElem? (i := 18) rfl)
theorem cd_96_37 : mt_cd 96 37 = some (.aload_n 0) := mt_cd_of (q := (37, .aload_n 0, 1)) mq_96 ci_96 (List.mem_of_getElem? (i := 19) rfl)
theorem cd_96_38 : mt_cd 96 38 = some (.dup) := mt_cd_of (q := (38, .dup, 1)) mq_96 ci_96 (List.mem_of_getElem? (i := 20) rfl)
theorem cd_96_39 : mt_cd 96 39 = some (.getfield 31) := mt_cd_of (q := (39, .getfield 31, 3)) mq_96 ci_96 (List.mem_of_getElem? (i := 21) rfl)
theorem cd_96_42 : mt_cd 96 42 = some (.iconst 1) := mt_cd_of (q := (42, .iconst 1, 1)) mq_96 ci_96 (List.mem_of_getElem? (i := 22) rfl)
theorem cd_96_43 : mt_cd 96 43 = some (.iadd) := mt_cd_of (q := (43, .iadd, 1)) mq_96 ci_96 (List.mem_of_getElem? (i := 23) rfl)
theorem cd_96_44 : mt_cd 96 44 = some (.putfield 31) := mt_cd_of (q := (44, .putfield 31, 3)) mq_96 ci_96 (List.mem_of_getElem? (i := 24) rfl)
theorem cd_96_47 : mt_cd 96 47 = some (.return_) := mt_cd_of (q := (47, .return_, 1)) mq_96 ci_96 (List.mem_of_getElem? (i := 25) rfl)
theorem b_96_0 {d : Nat} {Q : (Option Value ⊕ Nat) → mi_H → Prop} (n sl : Nat) (f : Nat → mi_C) {l1 : Nat} {l2 : Int32} {l3 : Int32} {fs4 : List Value} {x7 : Int32} (h5 : f l1 = .inr (8, fs4)) (h6 : l1 < n) (h8 : fs4[6]? = some (.int x7)) (h9 : x7 < (0 : Int32) → mi_W d 96 47 [some (.ref l1), some (.int l2), some (.int l3)] [] (n, sl, f) Q) (h10 : ¬ (x7 < (0 : Int32)) → mi_W d 96 7 [some (.ref l1), some (.int l2), some (.int l3)] [] (n, sl, f) Q) : mi_W d 96 0 [some (.ref l1), some (.int l2), some (.int l3)] [] (n, sl, f) Q := by
  refine w_aload_n cd_96_0 rfl ?_
  refine w_getfield cd_96_1 (show mt_f 8 31 = some (8, 6) by decide +kernel) h5 h6 h8 ?_
  exact w_iflt cd_96_4 (by decide) h9 h10
theorem b_96_7 {d : Nat} {Q : (Option Value ⊕ Nat) → mi_H → Prop} (n sl : Nat) (f : Nat → mi_C) {l1 : Nat} {l2 : Int32} {l3 : Int32} {fs4 : List Value} {x7 : Int32} (h5 : f l1 = .inr (8, fs4)) (h6 : l1 < n) (h8 : fs4[6]? = some (.int x7)) (h9 : 148 ≤ x7 → mi_W d 96 47 [some (.ref l1), some (.int l2), some (.int l3)] [] (n, sl, f) Q) (h10 : ¬ (148 ≤ x7) → mi_W d 96 17 [some (.ref l1), some (.int l2), some (.int l3)] [] (n, sl, f) Q) : mi_W d 96 7 [some (.ref l1), some (.int l2), some (.int l3)] [] (n, sl, f) Q := by
  refine w_aload_n cd_96_7 rfl ?_
  refine w_getfield cd_96_8 (show mt_f 8 31 = some (8, 6) by decide +kernel) h5 h6 h8 ?_
  refine w_sipush (v := 148) cd_96_11 (by decide) ?_
  exact w_if_icmpge cd_96_14 (by decide) h9 h10
theorem b_96_17 {d : Nat} {Q : (Option Value ⊕ Nat) → mi_H → Prop} (n sl : Nat) (f : Nat → mi_C) {l1 : Nat} {l2 : Int32} {l3 : Int32} {fs4 : List Value} {x7 : Nat} {fs9 : List Value} {x12 : Int32} (m14 i14 : Nat) (g14 : Nat → Int32) {fs18 : List Value} {x21 : Nat} {fs23 : List Value} {x26 : Int32} (m28 i28 : Nat) (g28 : Nat → Int32) {fs32 : List Value} {x35 : Int32} {fs37 : List Value} (h5 : f l1 = .inr (8, fs4)) (h6 : l1 < n) (h8 : fs4[0]? = some (.ref x7)) (h10 : f l1 = .inr (8, fs9)) (h11 : l1 < n) (h13 : fs9[6]? = some (.int x12)) (h15 : f x7 = .inl (0, m14, .inl g14)) (h16 : x7 < n) (h17 : mi_ix x12 m14 i14) (h19 : (va_up f x7 (.inl (0, m14, .inl (upd g14 i14 l2)))) l1 = .inr (8, fs18)) (h20 : l1 < n) (h22 : fs18[1]? = some (.ref x21)) (h24 : (va_up f x7 (.inl (0, m14, .inl (upd g14 i14 l2)))) l1 = .inr (8, fs23)) (h25 : l1 < n) (h27 : fs23[6]? = some (.int x26)) (h29 : (va_up f x7 (.inl (0, m14, .inl (upd g14 i14 l2)))) x21 = .inl (0, m28, .inl g28)) (h30 : x21 < n) (h31 : mi_ix x26 m28 i28) (h33 : (va_up (va_up f x7 (.inl (0, m14, .inl (upd g14 i14 l2)))) x21 (.inl (0, m28, .inl (upd g28 i28 l3)))) l1 = .inr (8, fs32)) (h34 : l1 < n) (h36 : fs32[6]? = some (.int x35)) (h38 : (va_up (va_up f x7 (.inl (0, m14, .inl (upd g14 i14 l2)))) x21 (.inl (0, m28, .inl (upd g28 i28 l3)))) l1 = .inr (8, fs37)) (h39 : l1 < n) (h40 : 6 < fs37.length) (h41 : mi_W d 96 47 [some (.ref l1), some (.int l2), some (.int l3)] [] (n, sl, (va_up (va_up (va_up f x7 (.inl (0, m14, .inl (upd g14 i14 l2)))) x21 (.inl (0, m28, .inl (upd g28 i28 l3)))) l1 (.inr (8, fs37.set 6 (.int (x35 + 1)))))) Q) : mi_W d 96 17 [some (.ref l1), some (.int l2), some (.int l3)] [] (n, sl, f) Q := by
  refine w_aload_n cd_96_17 rfl ?_
  refine w_getfield cd_96_18 (show mt_f 8 9 = some (8, 0) by decide +kernel) h5 h6 h8 ?_
  refine w_aload_n cd_96_21 rfl ?_
  refine w_getfield cd_96_22 (show mt_f 8 31 = some (8, 6) by decide +kernel) h10 h11 h13 ?_
  refine w_iload_n cd_96_25 rfl ?_
  refine w_iastore cd_96_26 h15 h16 h17 ?_
  refine w_aload_n cd_96_27 rfl ?_
  refine w_getfield cd_96_28 (show mt_f 8 15 = some (8, 1) by decide +kernel) h19 h20 h22 ?_
  refine w_aload_n cd_96_31 rfl ?_
  refine w_getfield cd_96_32 (show mt_f 8 31 = some (8, 6) by decide +kernel) h24 h25 h27 ?_
  refine w_iload_n cd_96_35 rfl ?_
  refine w_iastore cd_96_36 h29 h30 h31 ?_
  refine w_aload_n cd_96_37 rfl ?_
  refine w_dup_r cd_96_38 ?_
  refine w_getfield cd_96_39 (show mt_f 8 31 = some (8, 6) by decide +kernel) h33 h34 h36 ?_
  refine w_iconst (v := 1) cd_96_42 (by decide) ?_
  refine w_iadd cd_96_43 ?_
  refine w_putfield (w := .int (x35 + 1)) cd_96_44 (show mt_f 8 31 = some (8, 6) by decide +kernel) h38 h39 ⟨h40, rfl, Or.inl (by decide)⟩ ?_
  exact h41
theorem b_96_47 {d : Nat} {Q : (Option Value ⊕ Nat) → mi_H → Prop} (n sl : Nat) (f : Nat → mi_C) {l1 : Nat} {l2 : Int32} {l3 : Int32} (h4 : Q (.inl none) (n, sl, f)) : mi_W d 96 47 [some (.ref l1), some (.int l2), some (.int l3)] [] (n, sl, f) Q := by
  exact w_return cd_96_47 (by decide +kernel) h4
/-! MarloweHost$Situation.addTo(IIJ)Z -/
set_option maxRecDepth 100000 in
theorem mq_98 : mt_q 98 = my_98 := rfl
set_option maxRecDepth 100000 in
theorem ci_98 : mt_inc 0 my_98.cd = true := by decide +kernel
theorem cd_98_0 : mt_cd 98 0 = some (.iload_n 1) := mt_cd_of (q := (0, .iload_n 1, 1)) mq_98 ci_98 (List.mem_of_getElem? (i := 0) rfl)
theorem cd_98_1 : mt_cd 98 1 = some (.iconst 4) := mt_cd_of (q := (1, .iconst 4, 1)) mq_98 ci_98 (List.mem_of_getElem? (i := 1) rfl)
theorem cd_98_2 : mt_cd 98 2 = some (.imul) := mt_cd_of (q := (2, .imul, 1)) mq_98 ci_98 (List.mem_of_getElem? (i := 2) rfl)
theorem cd_98_3 : mt_cd 98 3 = some (.iload_n 2) := mt_cd_of (q := (3, .iload_n 2, 1)) mq_98 ci_98 (List.mem_of_getElem? (i := 3) rfl)
theorem cd_98_4 : mt_cd 98 4 = some (.iadd) := mt_cd_of (q := (4, .iadd, 1)) mq_98 ci_98 (List.mem_of_getElem? (i := 4) rfl)
theorem cd_98_5 : mt_cd 98 5 = some (.istore 5) := mt_cd_of (q := (5, .istore 5, 2)) mq_98 ci_98 (List.mem_of_getElem? (i := 5) rfl)
theorem cd_98_7 : mt_cd 98 7 = some (.iload 5) := mt_cd_of (q := (7, .iload 5, 2)) mq_98 ci_98 (List.mem_of_getElem? (i := 6) rfl)
theorem cd_98_9 : mt_cd 98 9 = some (.ifCond .lt 10) := mt_cd_of (q := (9, .ifCond .lt 10, 3)) mq_98 ci_98 (List.mem_of_getElem? (i := 7) rfl)
theorem cd_98_12 : mt_cd 98 12 = some (.iload 5) := mt_cd_of (q := (12, .iload 5, 2)) mq_98 ci_98 (List.mem_of_getElem? (i := 8) rfl)
theorem cd_98_14 : mt_cd 98 14 = some (.bipush 32) := mt_cd_of (q := (14, .bipush 32, 2)) mq_98 ci_98 (List.mem_of_getElem? (i := 9) rfl)
theorem cd_98_16 : mt_cd 98 16 = some (.if_icmp .lt 5) := mt_cd_of (q := (16, .if_icmp .lt 5, 3)) mq_98 ci_98 (List.mem_of_getElem? (i := 10) rfl)
theorem cd_98_19 : mt_cd 98 19 = some (.iconst 1) := mt_cd_of (q := (19, .iconst 1, 1)) mq_98 ci_98 (List.mem_of_getElem? (i := 11) rfl)
theorem cd_98_20 : mt_cd 98 20 = some (.ireturn) := mt_cd_of (q := (20, .ireturn, 1)) mq_98 ci_98 (List.mem_of_getElem? (i := 12) rfl)
theorem cd_98_21 : mt_cd 98 21 = some (.aload_n 0) := mt_cd_of (q := (21, .aload_n 0, 1)) mq_98 ci_98 (List.mem_of_getElem? (i := 13) rfl)
theorem cd_98_22 : mt_cd 98 22 = some (.getfield 9) := mt_cd_of (q := (22, .getfield 9, 3)) mq_98 ci_98 (List.mem_of_getElem? (i := 14) rfl)
theorem cd_98_25 : mt_cd 98 25 = some (.iload 5) := mt_cd_of (q := (25, .iload 5, 2)) mq_98 ci_98 (List.mem_of_getElem? (i := 15) rfl)
theorem cd_98_27 : mt_cd 98 27 = some (.dup2) := mt_cd_of (q := (27, .dup2, 1)) mq_98 ci_98 (List.mem_of_getElem? (i := 16) rfl)
theorem cd_98_28 : mt_cd 98 28 = some (.laload) := mt_cd_of (q := (28, .laload, 1)) mq_98 ci_98 (List.mem_of_getElem? (i := 17) rfl)
theorem cd_98_29 : mt_cd 98 29 = some (.lload_n 3) := mt_cd_of (q := (29, .lload_n 3, 1)) mq_98 ci_98 (List.mem_of_getElem? (i := 18) rfl)
theorem cd_98_30 : mt_cd 98 30 = some (.ladd) := mt_cd_of (q := (30, .ladd, 1)) mq_98 ci_98 (List.mem_of_getElem? (i := 19) rfl)
theorem cd_98_31 : mt_cd 98 31 = some (.lastore) := mt_cd_of (q := (31, .lastore, 1)) mq_98 ci_98 (List.mem_of_getElem? (i := 20) rfl)
theorem cd_98_32 : mt_cd 98 32 = some (.aload_n 0) := mt_cd_of (q := (32, .aload_n 0, 1)) mq_98 ci_98 (List.mem_of_getElem? (i := 21) rfl)
theorem cd_98_33 : mt_cd 98 33 = some (.getfield 9) := mt_cd_of (q := (33, .getfield 9, 3)) mq_98 ci_98 (List.mem_of_getElem? (i := 22) rfl)
theorem cd_98_36 : mt_cd 98 36 = some (.iload 5) := mt_cd_of (q := (36, .iload 5, 2)) mq_98 ci_98 (List.mem_of_getElem? (i := 23) rfl)
theorem cd_98_38 : mt_cd 98 38 = some (.laload) := mt_cd_of (q := (38, .laload, 1)) mq_98 ci_98 (List.mem_of_getElem? (i := 24) rfl)
theorem cd_98_39 : mt_cd 98 39 = some (.lconst 0) := mt_cd_of (q := (39, .lconst 0, 1)) mq_98 ci_98 (List.mem_of_getElem? (i := 25) rfl)
theorem cd_98_40 : mt_cd 98 40 = some (.lcmp) := mt_cd_of (q := (40, .lcmp, 1)) mq_98 ci_98 (List.mem_of_getElem? (i := 26) rfl)
theorem cd_98_41 : mt_cd 98 41 = some (.ifCond .lt 21) := mt_cd_of (q := (41, .ifCond .lt 21, 3)) mq_98 ci_98 (List.mem_of_getElem? (i := 27) rfl)
theorem cd_98_44 : mt_cd 98 44 = some (.aload_n 0) := mt_cd_of (q := (44, .aload_n 0, 1)) mq_98 ci_98 (List.mem_of_getElem? (i := 28) rfl)
theorem cd_98_45 : mt_cd 98 45 = some (.getfield 9) := mt_cd_of (q := (45, .getfield 9, 3)) mq_98 ci_98 (List.mem_of_getElem? (i := 29) rfl)
theorem cd_98_48 : mt_cd 98 48 = some (.iload 5) := mt_cd_of (q := (48, .iload 5, 2)) mq_98 ci_98 (List.mem_of_getElem? (i := 30) rfl)
theorem cd_98_50 : mt_cd 98 50 = some (.laload) := mt_cd_of (q := (50, .laload, 1)) mq_98 ci_98 (List.mem_of_getElem? (i := 31) rfl)
theorem cd_98_51 : mt_cd 98 51 = some (.ldc2_w 47) := mt_cd_of (q := (51, .ldc2_w 47, 3)) mq_98 ci_98 (List.mem_of_getElem? (i := 32) rfl)
theorem cd_98_54 : mt_cd 98 54 = some (.lcmp) := mt_cd_of (q := (54, .lcmp, 1)) mq_98 ci_98 (List.mem_of_getElem? (i := 33) rfl)
theorem cd_98_55 : mt_cd 98 55 = some (.ifCond .gt 7) := mt_cd_of (q := (55, .ifCond .gt 7, 3)) mq_98 ci_98 (List.mem_of_getElem? (i := 34) rfl)
theorem cd_98_58 : mt_cd 98 58 = some (.iconst 1) := mt_cd_of (q := (58, .iconst 1, 1)) mq_98 ci_98 (List.mem_of_getElem? (i := 35) rfl)
theorem cd_98_59 : mt_cd 98 59 = some (.goto 4) := mt_cd_of (q := (59, .goto 4, 3)) mq_98 ci_98 (List.mem_of_getElem? (i := 36) rfl)
theorem cd_98_62 : mt_cd 98 62 = some (.iconst 0) := mt_cd_of (q := (62, .iconst 0, 1)) mq_98 ci_98 (List.mem_of_getElem? (i := 37) rfl)
theorem cd_98_63 : mt_cd 98 63 = some (.ireturn) := mt_cd_of (q := (63, .ireturn, 1)) mq_98 ci_98 (List.mem_of_getElem? (i := 38) rfl)
theorem b_98_0 {d : Nat} {Q : (Option Value ⊕ Nat) → mi_H → Prop} (n sl : Nat) (f : Nat → mi_C) {l1 : Nat} {l2 : Int32} {l3 : Int32} {l4 : Int64} {o5 : Option Value} (h6 : ((l2 * 4) + l3) < (0 : Int32) → mi_W d 98 19 [some (.ref l1), some (.int l2), some (.int l3), some (.long l4), none, some (.int ((l2 * 4) + l3))] [] (n, sl, f) Q) (h7 : ¬ (((l2 * 4) + l3) < (0 : Int32)) → mi_W d 98 12 [some (.ref l1), some (.int l2), some (.int l3), some (.long l4), none, some (.int ((l2 * 4) + l3))] [] (n, sl, f) Q) : mi_W d 98 0 [some (.ref l1), some (.int l2), some (.int l3), some (.long l4), none, o5] [] (n, sl, f) Q := by
  refine w_iload_n cd_98_0 rfl ?_
  refine w_iconst (v := 4) cd_98_1 (by decide) ?_
  refine w_imul cd_98_2 ?_
  refine w_iload_n cd_98_3 rfl ?_
  refine w_iadd cd_98_4 ?_
  refine w_istore (ls' := [some (.ref l1), some (.int l2), some (.int l3), some (.long l4), none, some (.int ((l2 * 4) + l3))]) cd_98_5 (Nat.le_of_ble_eq_true rfl) rfl ?_
  refine w_iload cd_98_7 rfl ?_
  exact w_iflt cd_98_9 (by decide) h6 h7
theorem b_98_12 {d : Nat} {Q : (Option Value ⊕ Nat) → mi_H → Prop} (n sl : Nat) (f : Nat → mi_C) {l1 : Nat} {l2 : Int32} {l3 : Int32} {l4 : Int64} {l5 : Int32} (h6 : l5 < 32 → mi_W d 98 21 [some (.ref l1), some (.int l2), some (.int l3), some (.long l4), none, some (.int l5)] [] (n, sl, f) Q) (h7 : ¬ (l5 < 32) → mi_W d 98 19 [some (.ref l1), some (.int l2), some (.int l3), some (.long l4), none, some (.int l5)] [] (n, sl, f) Q) : mi_W d 98 12 [some (.ref l1), some (.int l2), some (.int l3), some (.long l4), none, some (.int l5)] [] (n, sl, f) Q := by
  refine w_iload cd_98_12 rfl ?_
  refine w_bipush (v := 32) cd_98_14 (by decide) ?_
  exact w_if_icmplt cd_98_16 (by decide) h6 h7
theorem b_98_19 {d : Nat} {Q : (Option Value ⊕ Nat) → mi_H → Prop} (n sl : Nat) (f : Nat → mi_C) {l1 : Nat} {l2 : Int32} {l3 : Int32} {l4 : Int64} {l5 : Int32} (h6 : Q (.inl (some (.int 1))) (n, sl, f)) : mi_W d 98 19 [some (.ref l1), some (.int l2), some (.int l3), some (.long l4), none, some (.int l5)] [] (n, sl, f) Q := by
  refine w_iconst (v := 1) cd_98_19 (by decide) ?_
  exact w_ireturn_z cd_98_20 (by decide +kernel) (by decide) h6
theorem b_98_21 {d : Nat} {Q : (Option Value ⊕ Nat) → mi_H → Prop} (n sl : Nat) (f : Nat → mi_C) {l1 : Nat} {l2 : Int32} {l3 : Int32} {l4 : Int64} {l5 : Int32} {fs6 : List Value} {x9 : Nat} (m11 i11 : Nat) (g11 : Nat → Int64) (m15 i15 : Nat) (g15 : Nat → Int64) {fs19 : List Value} {x22 : Nat} (m24 i24 : Nat) (g24 : Nat → Int64) (h7 : f l1 = .inr (9, fs6)) (h8 : l1 < n) (h10 : fs6[2]? = some (.ref x9)) (h12 : f x9 = .inl (3, m11, .inr (.inl g11))) (h13 : x9 < n) (h14 : mi_ix l5 m11 i11) (h16 : f x9 = .inl (3, m15, .inr (.inl g15))) (h17 : x9 < n) (h18 : mi_ix l5 m15 i15) (h20 : (va_up f x9 (.inl (3, m15, .inr (.inl (vp_updL g15 i15 ((g11 i11) + l4)))))) l1 = .inr (9, fs19)) (h21 : l1 < n) (h23 : fs19[2]? = some (.ref x22)) (h25 : (va_up f x9 (.inl (3, m15, .inr (.inl (vp_updL g15 i15 ((g11 i11) + l4)))))) x22 = .inl (3, m24, .inr (.inl g24))) (h26 : x22 < n) (h27 : mi_ix l5 m24 i24) (h28 : (lg_cmp (g24 i24) 0) < (0 : Int32) → mi_W d 98 62 [some (.ref l1), some (.int l2), some (.int l3), some (.long l4), none, some (.int l5)] [] (n, sl, (va_up f x9 (.inl (3, m15, .inr (.inl (vp_updL g15 i15 ((g11 i11) + l4))))))) Q) (h29 : ¬ ((lg_cmp (g24 i24) 0) < (0 : Int32)) → mi_W d 98 44 [some (.ref l1), some (.int l2), some (.int l3), some (.long l4), none, some (.int l5)] [] (n, sl, (va_up f x9 (.inl (3, m15, .inr (.inl (vp_updL g15 i15 ((g11 i11) + l4))))))) Q) : mi_W d 98 21 [some (.ref l1), some (.int l2), some (.int l3), some (.long l4), none, some (.int l5)] [] (n, sl, f) Q := by
  refine w_aload_n cd_98_21 rfl ?_
  refine w_getfield cd_98_22 (show mt_f 9 9 = some (9, 2) by decide +kernel) h7 h8 h10 ?_
  refine w_iload cd_98_25 rfl ?_
  refine w_dup2_ir cd_98_27 ?_
  refine w_laload cd_98_28 h12 h13 h14 ?_
  refine w_lload_n cd_98_29 rfl ?_
  refine w_ladd cd_98_30 ?_
  refine w_lastore cd_98_31 h16 h17 h18 ?_
  refine w_aload_n cd_98_32 rfl ?_
  refine w_getfield cd_98_33 (show mt_f 9 9 = some (9, 2) by decide +kernel) h20 h21 h23 ?_
  refine w_iload cd_98_36 rfl ?_
  refine w_laload cd_98_38 h25 h26 h27 ?_
  refine w_lconst (lv := 0) cd_98_39 (by decide) ?_
  refine w_lcmp cd_98_40 ?_
  exact w_iflt cd_98_41 (by decide) h28 h29
theorem b_98_44 {d : Nat} {Q : (Option Value ⊕ Nat) → mi_H → Prop} (n sl : Nat) (f : Nat → mi_C) {l1 : Nat} {l2 : Int32} {l3 : Int32} {l4 : Int64} {l5 : Int32} {fs6 : List Value} {x9 : Nat} (m11 i11 : Nat) (g11 : Nat → Int64) (h7 : f l1 = .inr (9, fs6)) (h8 : l1 < n) (h10 : fs6[2]? = some (.ref x9)) (h12 : f x9 = .inl (3, m11, .inr (.inl g11))) (h13 : x9 < n) (h14 : mi_ix l5 m11 i11) (h15 : (0 : Int32) < (lg_cmp (g11 i11) 4611686018427387904) → mi_W d 98 62 [some (.ref l1), some (.int l2), some (.int l3), some (.long l4), none, some (.int l5)] [] (n, sl, f) Q) (h16 : ¬ ((0 : Int32) < (lg_cmp (g11 i11) 4611686018427387904)) → mi_W d 98 58 [some (.ref l1), some (.int l2), some (.int l3), some (.long l4), none, some (.int l5)] [] (n, sl, f) Q) : mi_W d 98 44 [some (.ref l1), some (.int l2), some (.int l3), some (.long l4), none, some (.int l5)] [] (n, sl, f) Q := by
  refine w_aload_n cd_98_44 rfl ?_
  refine w_getfield cd_98_45 (show mt_f 9 9 = some (9, 2) by decide +kernel) h7 h8 h10 ?_
  refine w_iload cd_98_48 rfl ?_
  refine w_laload cd_98_50 h12 h13 h14 ?_
  refine w_ldc2_w (lv := 4611686018427387904) cd_98_51 (by decide +kernel) ?_
  refine w_lcmp cd_98_54 ?_
  exact w_ifgt cd_98_55 (by decide) h15 h16
theorem b_98_58 {d : Nat} {Q : (Option Value ⊕ Nat) → mi_H → Prop} (n sl : Nat) (f : Nat → mi_C) {l1 : Nat} {l2 : Int32} {l3 : Int32} {l4 : Int64} {l5 : Int32} (h6 : mi_W d 98 63 [some (.ref l1), some (.int l2), some (.int l3), some (.long l4), none, some (.int l5)] [.int 1] (n, sl, f) Q) : mi_W d 98 58 [some (.ref l1), some (.int l2), some (.int l3), some (.long l4), none, some (.int l5)] [] (n, sl, f) Q := by
  refine w_iconst (v := 1) cd_98_58 (by decide) ?_
  exact w_goto cd_98_59 (by decide) h6
theorem b_98_62 {d : Nat} {Q : (Option Value ⊕ Nat) → mi_H → Prop} (n sl : Nat) (f : Nat → mi_C) {l1 : Nat} {l2 : Int32} {l3 : Int32} {l4 : Int64} {l5 : Int32} (h6 : mi_W d 98 63 [some (.ref l1), some (.int l2), some (.int l3), some (.long l4), none, some (.int l5)] [.int 0] (n, sl, f) Q) : mi_W d 98 62 [some (.ref l1), some (.int l2), some (.int l3), some (.long l4), none, some (.int l5)] [] (n, sl, f) Q := by
  refine w_iconst (v := 0) cd_98_62 (by decide) ?_
  exact h6
theorem b_98_63 {d : Nat} {Q : (Option Value ⊕ Nat) → mi_H → Prop} (n sl : Nat) (f : Nat → mi_C) {l1 : Nat} {l2 : Int32} {l3 : Int32} {l4 : Int64} {l5 : Int32} {s6 : Int32} (h7 : s6 = 0 ∨ s6 = 1) (h8 : Q (.inl (some (.int s6))) (n, sl, f)) : mi_W d 98 63 [some (.ref l1), some (.int l2), some (.int l3), some (.long l4), none, some (.int l5)] [.int s6] (n, sl, f) Q := by
  exact w_ireturn_z cd_98_63 (by decide +kernel) h7 h8
/-! MarloweHost$Machine.passTime(I)Z -/
set_option maxRecDepth 100000 in
theorem mq_99 : mt_q 99 = my_99 := rfl
set_option maxRecDepth 100000 in
theorem ci_99 : mt_inc 0 my_99.cd = true := by decide +kernel
theorem cd_99_0 : mt_cd 99 0 = some (.aload_n 0) := mt_cd_of (q := (0, .aload_n 0, 1)) mq_99 ci_99 (List.mem_of_getElem? (i := 0) rfl)
theorem cd_99_1 : mt_cd 99 1 = some (.getfield 18) := mt_cd_of (q := (1, .getfield 18, 3)) mq_99 ci_99 (List.mem_of_getElem? (i := 1) rfl)
theorem cd_99_4 : mt_cd 99 4 = some (.getfield 107) := mt_cd_of (q := (4, .getfield 107, 3)) mq_99 ci_99 (List.mem_of_getElem? (i := 2) rfl)
theorem cd_99_7 : mt_cd 99 7 = some (.iload_n 1) := mt_cd_of (q := (7, .iload_n 1, 1)) mq_99 ci_99 (List.mem_of_getElem? (i := 3) rfl)
theorem cd_99_8 : mt_cd 99 8 = some (.laload) := mt_cd_of (q := (8, .laload, 1)) mq_99 ci_99 (List.mem_of_getElem? (i := 4) rfl)
theorem cd_99_9 : mt_cd 99 9 = some (.lstore_n 2) := mt_cd_of (q := (9, .lstore_n 2, 1)) mq_99 ci_99 (List.mem_of_getElem? (i := 5) rfl)
theorem cd_99_10 : mt_cd 99 10 = some (.aload_n 0) := mt_cd_of (q := (10, .aload_n 0, 1)) mq_99 ci_99 (List.mem_of_getElem? (i := 6) rfl)
theorem cd_99_11 : mt_cd 99 11 = some (.getfield 85) := mt_cd_of (q := (11, .getfield 85, 3)) mq_99 ci_99 (List.mem_of_getElem? (i := 7) rfl)
theorem cd_99_14 : mt_cd 99 14 = some (.lload_n 2) := mt_cd_of (q := (14, .lload_n 2, 1)) mq_99 ci_99 (List.mem_of_getElem? (i := 8) rfl)
theorem cd_99_15 : mt_cd 99 15 = some (.lcmp) := mt_cd_of (q := (15, .lcmp, 1)) mq_99 ci_99 (List.mem_of_getElem? (i := 9) rfl)
theorem cd_99_16 : mt_cd 99 16 = some (.ifCond .ge 5) := mt_cd_of (q := (16, .ifCond .ge 5, 3)) mq_99 ci_99 (List.mem_of_getElem? (i := 10) rfl)
theorem cd_99_19 : mt_cd 99 19 = some (.iconst 0) := mt_cd_of (q := (19, .iconst 0, 1)) mq_99 ci_99 (List.mem_of_getElem? (i := 11) rfl)
theorem cd_99_20 : mt_cd 99 20 = some (.ireturn) := mt_cd_of (q := (20, .ireturn, 1)) mq_99 ci_99 (List.mem_of_getElem? (i := 12) rfl)
theorem cd_99_21 : mt_cd 99 21 = some (.lload_n 2) := mt_cd_of (q := (21, .lload_n 2, 1)) mq_99 ci_99 (List.mem_of_getElem? (i := 13) rfl)
theorem cd_99_22 : mt_cd 99 22 = some (.aload_n 0) := mt_cd_of (q := (22, .aload_n 0, 1)) mq_99 ci_99 (List.mem_of_getElem? (i := 14) rfl)
theorem cd_99_23 : mt_cd 99 23 = some (.getfield 82) := mt_cd_of (q := (23, .getfield 82, 3)) mq_99 ci_99 (List.mem_of_getElem? (i := 15) rfl)
theorem cd_99_26 : mt_cd 99 26 = some (.lcmp) := mt_cd_of (q := (26, .lcmp, 1)) mq_99 ci_99 (List.mem_of_getElem? (i := 16) rfl)
theorem cd_99_27 : mt_cd 99 27 = some (.ifCond .le 10) := mt_cd_of (q := (27, .ifCond .le 10, 3)) mq_99 ci_99 (List.mem_of_getElem? (i := 17) rfl)
theorem cd_99_30 : mt_cd 99 30 = some (.aload_n 0) := mt_cd_of (q := (30, .aload_n 0, 1)) mq_99 ci_99 (List.mem_of_getElem? (i := 18) rfl)
theorem cd_99_31 : mt_cd 99 31 = some (.iconst 3) := mt_cd_of (q := (31, .iconst 3, 1)) mq_99 ci_99 (List.mem_of_getElem? (i := 19) rfl)
theorem cd_99_32 : mt_cd 99 32 = some (.putfield 49) := mt_cd_of (q := (32, .putfield 49, 3)) mq_99 ci_99 (List.mem_of_getElem? (i := 20) rfl)
theorem cd_99_35 : mt_cd 99 35 = some (.iconst 0) := mt_cd_of (q := (35, .iconst 0, 1)) mq_99 ci_99 (List.mem_of_getElem? (i := 21) rfl)
theorem cd_99_36 : mt_cd 99 36 = some (.ireturn) := mt_cd_of (q := (36, .ireturn, 1)) mq_99 ci_99 (List.mem_of_getElem? (i := 22) rfl)
theorem cd_99_37 : mt_cd 99 37 = some (.aload_n 0) := mt_cd_of (q := (37, .aload_n 0, 1)) mq_99 ci_99 (List.mem_of_getElem? (i := 23) rfl)
theorem cd_99_38 : mt_cd 99 38 = some (.getfield 29) := mt_cd_of (q := (38, .getfield 29, 3)) mq_99 ci_99 (List.mem_of_getElem? (i := 24) rfl)
theorem cd_99_41 : mt_cd 99 41 = some (.aload_n 0) := mt_cd_of (q := (41, .aload_n 0, 1)) mq_99 ci_99 (List.mem_of_getElem? (i := 25) rfl)
theorem cd_99_42 : mt_cd 99 42 = some (.getfield 18) := mt_cd_of (q := (42, .getfield 18, 3)) mq_99 ci_99 (List.mem_of_getElem? (i := 26) rfl)
theorem cd_99_45 : mt_cd 99 45 = some (.getfield 129) := mt_cd_of (q := (45, .getfield 129, 3)) mq_99 ci_99 (List.mem_of_getElem? (i := 27) rfl)
theorem cd_99_48 : mt_cd 99 48 = some (.iload_n 1) := mt_cd_of (q := (48, .iload_n 1, 1)) mq_99 ci_99 (List.mem_of_getElem? (i := 28) rfl)
theorem cd_99_49 : mt_cd 99 49 = some (.iaload) := mt_cd_of (q := (49, .iaload, 1)) mq_99 ci_99 (List.mem_of_getElem? (i := 29) rfl)
theorem cd_99_50 : mt_cd 99 50 = some (.putfield 94) := mt_cd_of (q := (50, .putfield 94, 3)) mq_99 ci_99 (List.mem_of_getElem? (i := 30) rfl)
theorem cd_99_53 : mt_cd 99 53 = some (.iconst 1) := mt_cd_of (q := (53, .iconst 1, 1)) mq_99 ci_99 (List.mem_of_getElem? (i := 31) rfl)
theorem cd_99_54 : mt_cd 99 54 = some (.ireturn) := mt_cd_of (q := (54, .ireturn, 1)) mq_99 ci_99 (List.mem_of_getElem? (i := 32) rfl)
theorem b_99_0 {d : Nat} {Q : (Option Value ⊕ Nat) → mi_H → Prop} (n sl : Nat) (f : Nat → mi_C) {l1 : Nat} {l2 : Int32} {o3 : Option Value} {o4 : Option Value} {fs5 : List Value} {x8 : Nat} {fs10 : List Value} {x13 : Nat} (m15 i15 : Nat) (g15 : Nat → Int64) {fs19 : List Value} {x22 : Int64} (h6 : f l1 = .inr (7, fs5)) (h7 : l1 < n) (h9 : fs5[0]? = some (.ref x8)) (h11 : f x8 = .inr (2, fs10)) (h12 : x8 < n) (h14 : fs10[9]? = some (.ref x13)) (h16 : f x13 = .inl (3, m15, .inr (.inl g15))) (h17 : x13 < n) (h18 : mi_ix l2 m15 i15) (h20 : f l1 = .inr (7, fs19)) (h21 : l1 < n) (h23 : fs19[5]? = some (.long x22)) (h24 : (0 : Int32) ≤ (lg_cmp x22 (g15 i15)) → mi_W d 99 21 [some (.ref l1), some (.int l2), some (.long (g15 i15)), none] [] (n, sl, f) Q) (h25 : ¬ ((0 : Int32) ≤ (lg_cmp x22 (g15 i15))) → mi_W d 99 19 [some (.ref l1), some (.int l2), some (.long (g15 i15)), none] [] (n, sl, f) Q) : mi_W d 99 0 [some (.ref l1), some (.int l2), o3, o4] [] (n, sl, f) Q := by
  refine w_aload_n cd_99_0 rfl ?_
  refine w_getfield cd_99_1 (show mt_f 7 18 = some (7, 0) by decide +kernel) h6 h7 h9 ?_
  refine w_getfield cd_99_4 (show mt_f 7 107 = some (2, 9) by decide +kernel) h11 h12 h14 ?_
  refine w_iload_n cd_99_7 rfl ?_
  refine w_laload cd_99_8 h16 h17 h18 ?_
  refine w_lstore_n (ls' := [some (.ref l1), some (.int l2), some (.long (g15 i15)), none]) cd_99_9 (Nat.le_of_ble_eq_true rfl) rfl ?_
  refine w_aload_n cd_99_10 rfl ?_
  refine w_getfield cd_99_11 (show mt_f 7 85 = some (7, 5) by decide +kernel) h20 h21 h23 ?_
  refine w_lload_n cd_99_14 rfl ?_
  refine w_lcmp cd_99_15 ?_
  exact w_ifge cd_99_16 (by decide) h24 h25
theorem b_99_19 {d : Nat} {Q : (Option Value ⊕ Nat) → mi_H → Prop} (n sl : Nat) (f : Nat → mi_C) {l1 : Nat} {l2 : Int32} {l3 : Int64} (h4 : Q (.inl (some (.int 0))) (n, sl, f)) : mi_W d 99 19 [some (.ref l1), some (.int l2), some (.long l3), none] [] (n, sl, f) Q := by
  refine w_iconst (v := 0) cd_99_19 (by decide) ?_
  exact w_ireturn_z cd_99_20 (by decide +kernel) (by decide) h4
theorem b_99_21 {d : Nat} {Q : (Option Value ⊕ Nat) → mi_H → Prop} (n sl : Nat) (f : Nat → mi_C) {l1 : Nat} {l2 : Int32} {l3 : Int64} {fs4 : List Value} {x7 : Int64} (h5 : f l1 = .inr (7, fs4)) (h6 : l1 < n) (h8 : fs4[4]? = some (.long x7)) (h9 : (lg_cmp l3 x7) ≤ (0 : Int32) → mi_W d 99 37 [some (.ref l1), some (.int l2), some (.long l3), none] [] (n, sl, f) Q) (h10 : ¬ ((lg_cmp l3 x7) ≤ (0 : Int32)) → mi_W d 99 30 [some (.ref l1), some (.int l2), some (.long l3), none] [] (n, sl, f) Q) : mi_W d 99 21 [some (.ref l1), some (.int l2), some (.long l3), none] [] (n, sl, f) Q := by
  refine w_lload_n cd_99_21 rfl ?_
  refine w_aload_n cd_99_22 rfl ?_
  refine w_getfield cd_99_23 (show mt_f 7 82 = some (7, 4) by decide +kernel) h5 h6 h8 ?_
  refine w_lcmp cd_99_26 ?_
  exact w_ifle cd_99_27 (by decide) h9 h10
theorem b_99_30 {d : Nat} {Q : (Option Value ⊕ Nat) → mi_H → Prop} (n sl : Nat) (f : Nat → mi_C) {l1 : Nat} {l2 : Int32} {l3 : Int64} {fs4 : List Value} (h5 : f l1 = .inr (7, fs4)) (h6 : l1 < n) (h7 : 6 < fs4.length) (h8 : Q (.inl (some (.int 0))) (n, sl, (va_up f l1 (.inr (7, fs4.set 6 (.int 3)))))) : mi_W d 99 30 [some (.ref l1), some (.int l2), some (.long l3), none] [] (n, sl, f) Q := by
  refine w_aload_n cd_99_30 rfl ?_
  refine w_iconst (v := 3) cd_99_31 (by decide) ?_
  refine w_putfield (w := .int 3) cd_99_32 (show mt_f 7 49 = some (7, 6) by decide +kernel) h5 h6 ⟨h7, rfl, Or.inl (by decide)⟩ ?_
  refine w_iconst (v := 0) cd_99_35 (by decide) ?_
  exact w_ireturn_z cd_99_36 (by decide +kernel) (by decide) h8
theorem b_99_37 {d : Nat} {Q : (Option Value ⊕ Nat) → mi_H → Prop} (n sl : Nat) (f : Nat → mi_C) {l1 : Nat} {l2 : Int32} {l3 : Int64} {fs4 : List Value} {x7 : Nat} {fs9 : List Value} {x12 : Nat} {fs14 : List Value} {x17 : Nat} (m19 i19 : Nat) (g19 : Nat → Int32) {fs23 : List Value} (h5 : f l1 = .inr (7, fs4)) (h6 : l1 < n) (h8 : fs4[3]? = some (.ref x7)) (h10 : f l1 = .inr (7, fs9)) (h11 : l1 < n) (h13 : fs9[0]? = some (.ref x12)) (h15 : f x12 = .inr (2, fs14)) (h16 : x12 < n) (h18 : fs14[3]? = some (.ref x17)) (h20 : f x17 = .inl (0, m19, .inl g19)) (h21 : x17 < n ∨ x17 = mi_SC) (h22 : mi_ix l2 m19 i19) (h24 : f x7 = .inr (9, fs23)) (h25 : x7 < n) (h26 : 0 < fs23.length) (h27 : Q (.inl (some (.int 1))) (n, sl, (va_up f x7 (.inr (9, fs23.set 0 (.int (g19 i19))))))) : mi_W d 99 37 [some (.ref l1), some (.int l2), some (.long l3), none] [] (n, sl, f) Q := by
  refine w_aload_n cd_99_37 rfl ?_
  refine w_getfield cd_99_38 (show mt_f 7 29 = some (7, 3) by decide +kernel) h5 h6 h8 ?_
  refine w_aload_n cd_99_41 rfl ?_
  refine w_getfield cd_99_42 (show mt_f 7 18 = some (7, 0) by decide +kernel) h10 h11 h13 ?_
  refine w_getfield cd_99_45 (show mt_f 7 129 = some (2, 3) by decide +kernel) h15 h16 h18 ?_
  refine w_iload_n cd_99_48 rfl ?_
  refine w_iaload cd_99_49 h20 h21 h22 ?_
  refine w_putfield (w := .int (g19 i19)) cd_99_50 (show mt_f 7 94 = some (9, 0) by decide +kernel) h24 h25 ⟨h26, rfl, Or.inl (by decide)⟩ ?_
  refine w_iconst (v := 1) cd_99_53 (by decide) ?_
  exact w_ireturn_z cd_99_54 (by decide +kernel) (by decide) h27
/-! MarloweHost$Machine.let(I)V -/
set_option maxRecDepth 100000 in
theorem mq_100 : mt_q 100 = my_100 := rfl
set_option maxRecDepth 100000 in
theorem ci_100 : mt_inc 0 my_100.cd = true := by decide +kernel
theorem cd_100_0 : mt_cd 100 0 = some (.aload_n 0) := mt_cd_of (q := (0, .aload_n 0, 1)) mq_100 ci_100 (List.mem_of_getElem? (i := 0) rfl)
theorem cd_100_1 : mt_cd 100 1 = some (.getfield 18) := mt_cd_of (q := (1, .getfield 18, 3)) mq_100 ci_100 (List.mem_of_getElem? (i := 1) rfl)
theorem cd_100_4 : mt_cd 100 4 = some (.getfield 157) := mt_cd_of (q := (4, .getfield 157, 3)) mq_100 ci_100 (List.mem_of_getElem? (i := 2) rfl)
theorem cd_100_7 : mt_cd 100 7 = some (.iload_n 1) := mt_cd_of (q := (7, .iload_n 1, 1)) mq_100 ci_100 (List.mem_of_getElem? (i := 3) rfl)
theorem cd_100_8 : mt_cd 100 8 = some (.iaload) := mt_cd_of (q := (8, .iaload, 1)) mq_100 ci_100 (List.mem_of_getElem? (i := 4) rfl)
theorem cd_100_9 : mt_cd 100 9 = some (.istore_n 2) := mt_cd_of (q := (9, .istore_n 2, 1)) mq_100 ci_100 (List.mem_of_getElem? (i := 5) rfl)
theorem cd_100_10 : mt_cd 100 10 = some (.aload_n 0) := mt_cd_of (q := (10, .aload_n 0, 1)) mq_100 ci_100 (List.mem_of_getElem? (i := 6) rfl)
theorem cd_100_11 : mt_cd 100 11 = some (.getfield 38) := mt_cd_of (q := (11, .getfield 38, 3)) mq_100 ci_100 (List.mem_of_getElem? (i := 7) rfl)
theorem cd_100_14 : mt_cd 100 14 = some (.aload_n 0) := mt_cd_of (q := (14, .aload_n 0, 1)) mq_100 ci_100 (List.mem_of_getElem? (i := 8) rfl)
theorem cd_100_15 : mt_cd 100 15 = some (.getfield 18) := mt_cd_of (q := (15, .getfield 18, 3)) mq_100 ci_100 (List.mem_of_getElem? (i := 9) rfl)
theorem cd_100_18 : mt_cd 100 18 = some (.getfield 118) := mt_cd_of (q := (18, .getfield 118, 3)) mq_100 ci_100 (List.mem_of_getElem? (i := 10) rfl)
theorem cd_100_21 : mt_cd 100 21 = some (.iload_n 1) := mt_cd_of (q := (21, .iload_n 1, 1)) mq_100 ci_100 (List.mem_of_getElem? (i := 11) rfl)
theorem cd_100_22 : mt_cd 100 22 = some (.iaload) := mt_cd_of (q := (22, .iaload, 1)) mq_100 ci_100 (List.mem_of_getElem? (i := 12) rfl)
theorem cd_100_23 : mt_cd 100 23 = some (.iconst 1) := mt_cd_of (q := (23, .iconst 1, 1)) mq_100 ci_100 (List.mem_of_getElem? (i := 13) rfl)
theorem cd_100_24 : mt_cd 100 24 = some (.invokevirtual 153) := mt_cd_of (q := (24, .invokevirtual 153, 3)) mq_100 ci_100 (List.mem_of_getElem? (i := 14) rfl)
theorem cd_100_27 : mt_cd 100 27 = some (.lstore_n 3) := mt_cd_of (q := (27, .lstore_n 3, 1)) mq_100 ci_100 (List.mem_of_getElem? (i := 15) rfl)
theorem cd_100_28 : mt_cd 100 28 = some (.aload_n 0) := mt_cd_of (q := (28, .aload_n 0, 1)) mq_100 ci_100 (List.mem_of_getElem? (i := 16) rfl)
theorem cd_100_29 : mt_cd 100 29 = some (.getfield 29) := mt_cd_of (q := (29, .getfield 29, 3)) mq_100 ci_100 (List.mem_of_getElem? (i := 17) rfl)
theorem cd_100_32 : mt_cd 100 32 = some (.iload_n 2) := mt_cd_of (q := (32, .iload_n 2, 1)) mq_100 ci_100 (List.mem_of_getElem? (i := 18) rfl)
theorem cd_100_33 : mt_cd 100 33 = some (.invokevirtual 180) := mt_cd_of (q := (33, .invokevirtual 180, 3)) mq_100 ci_100 (List.mem_of_getElem? (i := 19) rfl)
theorem cd_100_36 : mt_cd 100 36 = some (.ifCond .eq 12) := mt_cd_of (q := (36, .ifCond .eq 12, 3)) mq_100 ci_100 (List.mem_of_getElem? (i := 20) rfl)
theorem cd_100_39 : mt_cd 100 39 = some (.aload_n 0) := mt_cd_of (q := (39, .aload_n 0, 1)) mq_100 ci_100 (List.mem_of_getElem? (i := 21) rfl)
theorem cd_100_40 : mt_cd 100 40 = some (.getfield 12) := mt_cd_of (q := (40, .getfield 12, 3)) mq_100 ci_100 (List.mem_of_getElem? (i := 22) rfl)
theorem cd_100_43 : mt_cd 100 43 = some (.iconst 4) := mt_cd_of (q := (43, .iconst 4, 1)) mq_100 ci_100 (List.mem_of_getElem? (i := 23) rfl)
theorem cd_100_44 : mt_cd 100 44 = some (.iload_n 1) := mt_cd_of (q := (44, .iload_n 1, 1)) mq_100 ci_100 (List.mem_of_getElem? (i := 24) rfl)
theorem cd_100_45 : mt_cd 100 45 = some (.invokevirtual 139) := mt_cd_of (q := (45, .invokevirtual 139, 3)) mq_100 ci_100 (List.mem_of_getElem? (i := 25) rfl)
theorem cd_100_48 : mt_cd 100 48 = some (.aload_n 0) := mt_cd_of (q := (48, .aload_n 0, 1)) mq_100 ci_100 (List.mem_of_getElem? (i := 26) rfl)
theorem cd_100_49 : mt_cd 100 49 = some (.getfield 29) := mt_cd_of (q := (49, .getfield 29, 3)) mq_100 ci_100 (List.mem_of_getElem? (i := 27) rfl)
theorem cd_100_52 : mt_cd 100 52 = some (.iload_n 2) := mt_cd_of (q := (52, .iload_n 2, 1)) mq_100 ci_100 (List.mem_of_getElem? (i := 28) rfl)
theorem cd_100_53 : mt_cd 100 53 = some (.lload_n 3) := mt_cd_of (q := (53, .lload_n 3, 1)) mq_100 ci_100 (List.mem_of_getElem? (i := 29) rfl)
theorem cd_100_54 : mt_cd 100 54 = some (.invokevirtual 183) := mt_cd_of (q := (54, .invokevirtual 183, 3)) mq_100 ci_100 (List.mem_of_getElem? (i := 30) rfl)
theorem cd_100_57 : mt_cd 100 57 = some (.aload_n 0) := mt_cd_of (q := (57, .aload_n 0, 1)) mq_100 ci_100 (List.mem_of_getElem? (i := 31) rfl)
theorem cd_100_58 : mt_cd 100 58 = some (.getfield 29) := mt_cd_of (q := (58, .getfield 29, 3)) mq_100 ci_100 (List.mem_of_getElem? (i := 32) rfl)
theorem cd_100_61 : mt_cd 100 61 = some (.aload_n 0) := mt_cd_of (q := (61, .aload_n 0, 1)) mq_100 ci_100 (List.mem_of_getElem? (i := 33) rfl)
theorem cd_100_62 : mt_cd 100 62 = some (.getfield 18) := mt_cd_of (q := (62, .getfield 18, 3)) mq_100 ci_100 (List.mem_of_getElem? (i := 34) rfl)
theorem cd_100_65 : mt_cd 100 65 = some (.getfield 129) := mt_cd_of (q := (65, .getfield 129, 3)) mq_100 ci_100 (List.mem_of_getElem? (i := 35) rfl)
theorem cd_100_68 : mt_cd 100 68 = some (.iload_n 1) := mt_cd_of (q := (68, .iload_n 1, 1)) mq_100 ci_100 (List.mem_of_getElem? (i := 36) rfl)
theorem cd_100_69 : mt_cd 100 69 = some (.iaload) := mt_cd_of (q := (69, .iaload, 1)) mq_100 ci_100 (List.mem_of_getElem? (i := 37) rfl)
theorem cd_100_70 : mt_cd 100 70 = some (.putfield 94) := mt_cd_of (q := (70, .putfield 94, 3)) mq_100 ci_100 (List.mem_of_getElem? (i := 38) rfl)
theorem cd_100_73 : mt_cd 100 73 = some (.return_) := mt_cd_of (q := (73, .return_, 1)) mq_100 ci_100 (List.mem_of_getElem? (i := 39) rfl)
theorem b_100_0 {d : Nat} {Q : (Option Value ⊕ Nat) → mi_H → Prop} (n sl : Nat) (f : Nat → mi_C) {l1 : Nat} {l2 : Int32} {o3 : Option Value} {o4 : Option Value} {o5 : Option Value} {fs6 : List Value} {x9 : Nat} {fs11 : List Value} {x14 : Nat} (m16 i16 : Nat) (g16 : Nat → Int32) {fs20 : List Value} {x23 : Nat} {fs25 : List Value} {x28 : Nat} {fs30 : List Value} {x33 : Nat} (m35 i35 : Nat) (g35 : Nat → Int32) {fs39 : List Value} (h7 : f l1 = .inr (7, fs6)) (h8 : l1 < n) (h10 : fs6[0]? = some (.ref x9)) (h12 : f x9 = .inr (2, fs11)) (h13 : x9 < n) (h15 : fs11[4]? = some (.ref x14)) (h17 : f x14 = .inl (0, m16, .inl g16)) (h18 : x14 < n ∨ x14 = mi_SC) (h19 : mi_ix l2 m16 i16) (h21 : f l1 = .inr (7, fs20)) (h22 : l1 < n) (h24 : fs20[2]? = some (.ref x23)) (h26 : f l1 = .inr (7, fs25)) (h27 : l1 < n) (h29 : fs25[0]? = some (.ref x28)) (h31 : f x28 = .inr (2, fs30)) (h32 : x28 < n) (h34 : fs30[1]? = some (.ref x33)) (h36 : f x33 = .inl (0, m35, .inl g35)) (h37 : x33 < n ∨ x33 = mi_SC) (h38 : mi_ix l2 m35 i35) (h40 : f x23 = .inr (10, fs39)) (h41 : x23 < n) (h42 : mi_W d 85 0 (mi_en 5 [.ref x23, .int (g35 i35), .int 1]) [] (n, sl, f) (mi_Kc d 100 24 [some (.ref l1), some (.int l2), some (.int (g16 i16)), o4, o5] [] Q)) : mi_W (d + 1) 100 0 [some (.ref l1), some (.int l2), o3, o4, o5] [] (n, sl, f) Q := by
  refine w_aload_n cd_100_0 rfl ?_
  refine w_getfield cd_100_1 (show mt_f 7 18 = some (7, 0) by decide +kernel) h7 h8 h10 ?_
  refine w_getfield cd_100_4 (show mt_f 7 157 = some (2, 4) by decide +kernel) h12 h13 h15 ?_
  refine w_iload_n cd_100_7 rfl ?_
  refine w_iaload cd_100_8 h17 h18 h19 ?_
  refine w_istore_n (ls' := [some (.ref l1), some (.int l2), some (.int (g16 i16)), o4, o5]) cd_100_9 (Nat.le_of_ble_eq_true rfl) rfl ?_
  refine w_aload_n cd_100_10 rfl ?_
  refine w_getfield cd_100_11 (show mt_f 7 38 = some (7, 2) by decide +kernel) h21 h22 h24 ?_
  refine w_aload_n cd_100_14 rfl ?_
  refine w_getfield cd_100_15 (show mt_f 7 18 = some (7, 0) by decide +kernel) h26 h27 h29 ?_
  refine w_getfield cd_100_18 (show mt_f 7 118 = some (2, 1) by decide +kernel) h31 h32 h34 ?_
  refine w_iload_n cd_100_21 rfl ?_
  refine w_iaload cd_100_22 h36 h37 h38 ?_
  refine w_iconst (v := 1) cd_100_23 (by decide) ?_
  exact w_invokevirtual cd_100_24 (show mt_m 7 153 = some (85, 0) by decide +kernel) (rest := []) rfl (as := [.ref x23, .int (g35 i35), .int 1]) rfl h40 (Or.inl h41) ⟨Nat.le_of_ble_eq_true rfl, Nat.le_of_ble_eq_true rfl, Nat.le_of_ble_eq_true rfl⟩ h42
theorem b_100_27 {d : Nat} {Q : (Option Value ⊕ Nat) → mi_H → Prop} (n sl : Nat) (f : Nat → mi_C) {l1 : Nat} {l2 : Int32} {l3 : Int32} {o4 : Option Value} {o5 : Option Value} {s6 : Int64} {fs7 : List Value} {x10 : Nat} {fs12 : List Value} (h8 : f l1 = .inr (7, fs7)) (h9 : l1 < n) (h11 : fs7[3]? = some (.ref x10)) (h13 : f x10 = .inr (9, fs12)) (h14 : x10 < n) (h15 : mi_W d 101 0 (mi_en 2 [.ref x10, .int l3]) [] (n, sl, f) (mi_Kc d 100 33 [some (.ref l1), some (.int l2), some (.int l3), some (.long s6), none] [] Q)) : mi_W (d + 1) 100 27 [some (.ref l1), some (.int l2), some (.int l3), o4, o5] [.long s6] (n, sl, f) Q := by
  refine w_lstore_n (ls' := [some (.ref l1), some (.int l2), some (.int l3), some (.long s6), none]) cd_100_27 (Nat.le_of_ble_eq_true rfl) rfl ?_
  refine w_aload_n cd_100_28 rfl ?_
  refine w_getfield cd_100_29 (show mt_f 7 29 = some (7, 3) by decide +kernel) h8 h9 h11 ?_
  refine w_iload_n cd_100_32 rfl ?_
  exact w_invokevirtual cd_100_33 (show mt_m 7 180 = some (101, 0) by decide +kernel) (rest := []) rfl (as := [.ref x10, .int l3]) rfl h13 (Or.inl h14) ⟨Nat.le_of_ble_eq_true rfl, Nat.le_of_ble_eq_true rfl, Nat.le_of_ble_eq_true rfl⟩ h15
theorem b_100_36 {d : Nat} {Q : (Option Value ⊕ Nat) → mi_H → Prop} (n sl : Nat) (f : Nat → mi_C) {l1 : Nat} {l2 : Int32} {l3 : Int32} {l4 : Int64} {s5 : Int32} (h6 : s5 = (0 : Int32) → mi_W d 100 48 [some (.ref l1), some (.int l2), some (.int l3), some (.long l4), none] [] (n, sl, f) Q) (h7 : ¬ (s5 = (0 : Int32)) → mi_W d 100 39 [some (.ref l1), some (.int l2), some (.int l3), some (.long l4), none] [] (n, sl, f) Q) : mi_W d 100 36 [some (.ref l1), some (.int l2), some (.int l3), some (.long l4), none] [.int s5] (n, sl, f) Q := by
  exact w_ifeq cd_100_36 (by decide) h6 h7
theorem b_100_39 {d : Nat} {Q : (Option Value ⊕ Nat) → mi_H → Prop} (n sl : Nat) (f : Nat → mi_C) {l1 : Nat} {l2 : Int32} {l3 : Int32} {l4 : Int64} {fs5 : List Value} {x8 : Nat} {fs10 : List Value} (h6 : f l1 = .inr (7, fs5)) (h7 : l1 < n) (h9 : fs5[7]? = some (.ref x8)) (h11 : f x8 = .inr (8, fs10)) (h12 : x8 < n) (h13 : mi_W d 96 0 (mi_en 3 [.ref x8, .int 4, .int l2]) [] (n, sl, f) (mi_Kc d 100 45 [some (.ref l1), some (.int l2), some (.int l3), some (.long l4), none] [] Q)) : mi_W (d + 1) 100 39 [some (.ref l1), some (.int l2), some (.int l3), some (.long l4), none] [] (n, sl, f) Q := by
  refine w_aload_n cd_100_39 rfl ?_
  refine w_getfield cd_100_40 (show mt_f 7 12 = some (7, 7) by decide +kernel) h6 h7 h9 ?_
  refine w_iconst (v := 4) cd_100_43 (by decide) ?_
  refine w_iload_n cd_100_44 rfl ?_
  exact w_invokevirtual cd_100_45 (show mt_m 7 139 = some (96, 0) by decide +kernel) (rest := []) rfl (as := [.ref x8, .int 4, .int l2]) rfl h11 (Or.inl h12) ⟨Nat.le_of_ble_eq_true rfl, Nat.le_of_ble_eq_true rfl, Nat.le_of_ble_eq_true rfl⟩ h13
theorem b_100_48 {d : Nat} {Q : (Option Value ⊕ Nat) → mi_H → Prop} (n sl : Nat) (f : Nat → mi_C) {l1 : Nat} {l2 : Int32} {l3 : Int32} {l4 : Int64} {fs5 : List Value} {x8 : Nat} {fs10 : List Value} (h6 : f l1 = .inr (7, fs5)) (h7 : l1 < n) (h9 : fs5[3]? = some (.ref x8)) (h11 : f x8 = .inr (9, fs10)) (h12 : x8 < n) (h13 : mi_W d 102 0 (mi_en 4 [.ref x8, .int l3, .long l4]) [] (n, sl, f) (mi_Kc d 100 54 [some (.ref l1), some (.int l2), some (.int l3), some (.long l4), none] [] Q)) : mi_W (d + 1) 100 48 [some (.ref l1), some (.int l2), some (.int l3), some (.long l4), none] [] (n, sl, f) Q := by
  refine w_aload_n cd_100_48 rfl ?_
  refine w_getfield cd_100_49 (show mt_f 7 29 = some (7, 3) by decide +kernel) h6 h7 h9 ?_
  refine w_iload_n cd_100_52 rfl ?_
  refine w_lload_n cd_100_53 rfl ?_
  exact w_invokevirtual cd_100_54 (show mt_m 7 183 = some (102, 0) by decide +kernel) (rest := []) rfl (as := [.ref x8, .int l3, .long l4]) rfl h11 (Or.inl h12) ⟨Nat.le_of_ble_eq_true rfl, Nat.le_of_ble_eq_true rfl, Nat.le_of_ble_eq_true rfl⟩ h13
theorem b_100_57 {d : Nat} {Q : (Option Value ⊕ Nat) → mi_H → Prop} (n sl : Nat) (f : Nat → mi_C) {l1 : Nat} {l2 : Int32} {l3 : Int32} {l4 : Int64} {fs5 : List Value} {x8 : Nat} {fs10 : List Value} {x13 : Nat} {fs15 : List Value} {x18 : Nat} (m20 i20 : Nat) (g20 : Nat → Int32) {fs24 : List Value} (h6 : f l1 = .inr (7, fs5)) (h7 : l1 < n) (h9 : fs5[3]? = some (.ref x8)) (h11 : f l1 = .inr (7, fs10)) (h12 : l1 < n) (h14 : fs10[0]? = some (.ref x13)) (h16 : f x13 = .inr (2, fs15)) (h17 : x13 < n) (h19 : fs15[3]? = some (.ref x18)) (h21 : f x18 = .inl (0, m20, .inl g20)) (h22 : x18 < n ∨ x18 = mi_SC) (h23 : mi_ix l2 m20 i20) (h25 : f x8 = .inr (9, fs24)) (h26 : x8 < n) (h27 : 0 < fs24.length) (h28 : Q (.inl none) (n, sl, (va_up f x8 (.inr (9, fs24.set 0 (.int (g20 i20))))))) : mi_W d 100 57 [some (.ref l1), some (.int l2), some (.int l3), some (.long l4), none] [] (n, sl, f) Q := by
  refine w_aload_n cd_100_57 rfl ?_
  refine w_getfield cd_100_58 (show mt_f 7 29 = some (7, 3) by decide +kernel) h6 h7 h9 ?_
  refine w_aload_n cd_100_61 rfl ?_
  refine w_getfield cd_100_62 (show mt_f 7 18 = some (7, 0) by decide +kernel) h11 h12 h14 ?_
  refine w_getfield cd_100_65 (show mt_f 7 129 = some (2, 3) by decide +kernel) h16 h17 h19 ?_
  refine w_iload_n cd_100_68 rfl ?_
  refine w_iaload cd_100_69 h21 h22 h23 ?_
  refine w_putfield (w := .int (g20 i20)) cd_100_70 (show mt_f 7 94 = some (9, 0) by decide +kernel) h25 h26 ⟨h27, rfl, Or.inl (by decide)⟩ ?_
  exact w_return cd_100_73 (by decide +kernel) h28
/-! MarloweHost$Situation.isUsed(I)Z -/
set_option maxRecDepth 100000 in
theorem mq_101 : mt_q 101 = my_101 := rfl
set_option maxRecDepth 100000 in
theorem ci_101 : mt_inc 0 my_101.cd = true := by decide +kernel
theorem cd_101_0 : mt_cd 101 0 = some (.aload_n 0) := mt_cd_of (q := (0, .aload_n 0, 1)) mq_101 ci_101 (List.mem_of_getElem? (i := 0) rfl)
theorem cd_101_1 : mt_cd 101 1 = some (.getfield 38) := mt_cd_of (q := (1, .getfield 38, 3)) mq_101 ci_101 (List.mem_of_getElem? (i := 1) rfl)
theorem cd_101_4 : mt_cd 101 4 = some (.iload_n 1) := mt_cd_of (q := (4, .iload_n 1, 1)) mq_101 ci_101 (List.mem_of_getElem? (i := 2) rfl)
theorem cd_101_5 : mt_cd 101 5 = some (.ishr) := mt_cd_of (q := (5, .ishr, 1)) mq_101 ci_101 (List.mem_of_getElem? (i := 3) rfl)
theorem cd_101_6 : mt_cd 101 6 = some (.iconst 1) := mt_cd_of (q := (6, .iconst 1, 1)) mq_101 ci_101 (List.mem_of_getElem? (i := 4) rfl)
theorem cd_101_7 : mt_cd 101 7 = some (.iand) := mt_cd_of (q := (7, .iand, 1)) mq_101 ci_101 (List.mem_of_getElem? (i := 5) rfl)
theorem cd_101_8 : mt_cd 101 8 = some (.ifCond .eq 7) := mt_cd_of (q := (8, .ifCond .eq 7, 3)) mq_101 ci_101 (List.mem_of_getElem? (i := 6) rfl)
theorem cd_101_11 : mt_cd 101 11 = some (.iconst 1) := mt_cd_of (q := (11, .iconst 1, 1)) mq_101 ci_101 (List.mem_of_getElem? (i := 7) rfl)
theorem cd_101_12 : mt_cd 101 12 = some (.goto 4) := mt_cd_of (q := (12, .goto 4, 3)) mq_101 ci_101 (List.mem_of_getElem? (i := 8) rfl)
theorem cd_101_15 : mt_cd 101 15 = some (.iconst 0) := mt_cd_of (q := (15, .iconst 0, 1)) mq_101 ci_101 (List.mem_of_getElem? (i := 9) rfl)
theorem cd_101_16 : mt_cd 101 16 = some (.ireturn) := mt_cd_of (q := (16, .ireturn, 1)) mq_101 ci_101 (List.mem_of_getElem? (i := 10) rfl)
theorem b_101_0 {d : Nat} {Q : (Option Value ⊕ Nat) → mi_H → Prop} (n sl : Nat) (f : Nat → mi_C) {l1 : Nat} {l2 : Int32} {fs3 : List Value} {x6 : Int32} (h4 : f l1 = .inr (9, fs3)) (h5 : l1 < n) (h7 : fs3[6]? = some (.int x6)) (h8 : ((x6 >>> (l2 &&& 31)) &&& 1) = (0 : Int32) → mi_W d 101 15 [some (.ref l1), some (.int l2)] [] (n, sl, f) Q) (h9 : ¬ (((x6 >>> (l2 &&& 31)) &&& 1) = (0 : Int32)) → mi_W d 101 11 [some (.ref l1), some (.int l2)] [] (n, sl, f) Q) : mi_W d 101 0 [some (.ref l1), some (.int l2)] [] (n, sl, f) Q := by
  refine w_aload_n cd_101_0 rfl ?_
  refine w_getfield cd_101_1 (show mt_f 9 38 = some (9, 6) by decide +kernel) h4 h5 h7 ?_
  refine w_iload_n cd_101_4 rfl ?_
  refine w_ishr cd_101_5 ?_
  refine w_iconst (v := 1) cd_101_6 (by decide) ?_
  refine w_iand cd_101_7 ?_
  exact w_ifeq cd_101_8 (by decide) h8 h9
theorem b_101_11 {d : Nat} {Q : (Option Value ⊕ Nat) → mi_H → Prop} (n sl : Nat) (f : Nat → mi_C) {l1 : Nat} {l2 : Int32} (h3 : mi_W d 101 16 [some (.ref l1), some (.int l2)] [.int 1] (n, sl, f) Q) : mi_W d 101 11 [some (.ref l1), some (.int l2)] [] (n, sl, f) Q := by
  refine w_iconst (v := 1) cd_101_11 (by decide) ?_
  exact w_goto cd_101_12 (by decide) h3
theorem b_101_15 {d : Nat} {Q : (Option Value ⊕ Nat) → mi_H → Prop} (n sl : Nat) (f : Nat → mi_C) {l1 : Nat} {l2 : Int32} (h3 : mi_W d 101 16 [some (.ref l1), some (.int l2)] [.int 0] (n, sl, f) Q) : mi_W d 101 15 [some (.ref l1), some (.int l2)] [] (n, sl, f) Q := by
  refine w_iconst (v := 0) cd_101_15 (by decide) ?_
  exact h3
theorem b_101_16 {d : Nat} {Q : (Option Value ⊕ Nat) → mi_H → Prop} (n sl : Nat) (f : Nat → mi_C) {l1 : Nat} {l2 : Int32} {s3 : Int32} (h4 : s3 = 0 ∨ s3 = 1) (h5 : Q (.inl (some (.int s3))) (n, sl, f)) : mi_W d 101 16 [some (.ref l1), some (.int l2)] [.int s3] (n, sl, f) Q := by
  exact w_ireturn_z cd_101_16 (by decide +kernel) h4 h5
/-! MarloweHost$Situation.setUsed(IJ)V -/
set_option maxRecDepth 100000 in
theorem mq_102 : mt_q 102 = my_102 := rfl
set_option maxRecDepth 100000 in
theorem ci_102 : mt_inc 0 my_102.cd = true := by decide +kernel
theorem cd_102_0 : mt_cd 102 0 = some (.iload_n 1) := mt_cd_of (q := (0, .iload_n 1, 1)) mq_102 ci_102 (List.mem_of_getElem? (i := 0) rfl)
theorem cd_102_1 : mt_cd 102 1 = some (.ifCond .lt 28) := mt_cd_of (q := (1, .ifCond .lt 28, 3)) mq_102 ci_102 (List.mem_of_getElem? (i := 1) rfl)
theorem cd_102_4 : mt_cd 102 4 = some (.iload_n 1) := mt_cd_of (q := (4, .iload_n 1, 1)) mq_102 ci_102 (List.mem_of_getElem? (i := 2) rfl)
theorem cd_102_5 : mt_cd 102 5 = some (.bipush 8) := mt_cd_of (q := (5, .bipush 8, 2)) mq_102 ci_102 (List.mem_of_getElem? (i := 3) rfl)
theorem cd_102_7 : mt_cd 102 7 = some (.if_icmp .ge 22) := mt_cd_of (q := (7, .if_icmp .ge 22, 3)) mq_102 ci_102 (List.mem_of_getElem? (i := 4) rfl)
theorem cd_102_10 : mt_cd 102 10 = some (.aload_n 0) := mt_cd_of (q := (10, .aload_n 0, 1)) mq_102 ci_102 (List.mem_of_getElem? (i := 5) rfl)
theorem cd_102_11 : mt_cd 102 11 = some (.getfield 18) := mt_cd_of (q := (11, .getfield 18, 3)) mq_102 ci_102 (List.mem_of_getElem? (i := 6) rfl)
theorem cd_102_14 : mt_cd 102 14 = some (.iload_n 1) := mt_cd_of (q := (14, .iload_n 1, 1)) mq_102 ci_102 (List.mem_of_getElem? (i := 7) rfl)
theorem cd_102_15 : mt_cd 102 15 = some (.lload_n 2) := mt_cd_of (q := (15, .lload_n 2, 1)) mq_102 ci_102 (List.mem_of_getElem? (i := 8) rfl)
theorem cd_102_16 : mt_cd 102 16 = some (.lastore) := mt_cd_of (q := (16, .lastore, 1)) mq_102 ci_102 (List.mem_of_getElem? (i := 9) rfl)
theorem cd_102_17 : mt_cd 102 17 = some (.aload_n 0) := mt_cd_of (q := (17, .aload_n 0, 1)) mq_102 ci_102 (List.mem_of_getElem? (i := 10) rfl)
theorem cd_102_18 : mt_cd 102 18 = some (.dup) := mt_cd_of (q := (18, .dup, 1)) mq_102 ci_102 (List.mem_of_getElem? (i := 11) rfl)
theorem cd_102_19 : mt_cd 102 19 = some (.getfield 38) := mt_cd_of (q := (19, .getfield 38, 3)) mq_102 ci_102 (List.mem_of_getElem? (i := 12) rfl)
theorem cd_102_22 : mt_cd 102 22 = some (.iconst 1) := mt_cd_of (q := (22, .iconst 1, 1)) mq_102 ci_102 (List.mem_of_getElem? (i := 13) rfl)
theorem cd_102_23 : mt_cd 102 23 = some (.iload_n 1) := mt_cd_of (q := (23, .iload_n 1, 1)) mq_102 ci_102 (List.mem_of_getElem? (i := 14) rfl)
theorem cd_102_24 : mt_cd 102 24 = some (.ishl) := mt_cd_of (q := (24, .ishl, 1)) mq_102 ci_102 (List.mem_of_getElem? (i := 15) rfl)
theorem cd_102_25 : mt_cd 102 25 = some (.ior) := mt_cd_of (q := (25, .ior, 1)) mq_102 ci_102 (List.mem_of_getElem? (i := 16) rfl)
theorem cd_102_26 : mt_cd 102 26 = some (.putfield 38) := mt_cd_of (q := (26, .putfield 38, 3)) mq_102 ci_102 (List.mem_of_getElem? (i := 17) rfl)
theorem cd_102_29 : mt_cd 102 29 = some (.return_) := mt_cd_of (q := (29, .return_, 1)) mq_102 ci_102 (List.mem_of_getElem? (i := 18) rfl)
theorem b_102_0 {d : Nat} {Q : (Option Value ⊕ Nat) → mi_H → Prop} (n sl : Nat) (f : Nat → mi_C) {l1 : Nat} {l2 : Int32} {l3 : Int64} (h4 : l2 < (0 : Int32) → mi_W d 102 29 [some (.ref l1), some (.int l2), some (.long l3), none] [] (n, sl, f) Q) (h5 : ¬ (l2 < (0 : Int32)) → mi_W d 102 4 [some (.ref l1), some (.int l2), some (.long l3), none] [] (n, sl, f) Q) : mi_W d 102 0 [some (.ref l1), some (.int l2), some (.long l3), none] [] (n, sl, f) Q := by
  refine w_iload_n cd_102_0 rfl ?_
  exact w_iflt cd_102_1 (by decide) h4 h5
theorem b_102_4 {d : Nat} {Q : (Option Value ⊕ Nat) → mi_H → Prop} (n sl : Nat) (f : Nat → mi_C) {l1 : Nat} {l2 : Int32} {l3 : Int64} (h4 : 8 ≤ l2 → mi_W d 102 29 [some (.ref l1), some (.int l2), some (.long l3), none] [] (n, sl, f) Q) (h5 : ¬ (8 ≤ l2) → mi_W d 102 10 [some (.ref l1), some (.int l2), some (.long l3), none] [] (n, sl, f) Q) : mi_W d 102 4 [some (.ref l1), some (.int l2), some (.long l3), none] [] (n, sl, f) Q := by
  refine w_iload_n cd_102_4 rfl ?_
  refine w_bipush (v := 8) cd_102_5 (by decide) ?_
  exact w_if_icmpge cd_102_7 (by decide) h4 h5
theorem b_102_10 {d : Nat} {Q : (Option Value ⊕ Nat) → mi_H → Prop} (n sl : Nat) (f : Nat → mi_C) {l1 : Nat} {l2 : Int32} {l3 : Int64} {fs4 : List Value} {x7 : Nat} (m9 i9 : Nat) (g9 : Nat → Int64) {fs13 : List Value} {x16 : Int32} {fs18 : List Value} (h5 : f l1 = .inr (9, fs4)) (h6 : l1 < n) (h8 : fs4[4]? = some (.ref x7)) (h10 : f x7 = .inl (3, m9, .inr (.inl g9))) (h11 : x7 < n) (h12 : mi_ix l2 m9 i9) (h14 : (va_up f x7 (.inl (3, m9, .inr (.inl (vp_updL g9 i9 l3))))) l1 = .inr (9, fs13)) (h15 : l1 < n) (h17 : fs13[6]? = some (.int x16)) (h19 : (va_up f x7 (.inl (3, m9, .inr (.inl (vp_updL g9 i9 l3))))) l1 = .inr (9, fs18)) (h20 : l1 < n) (h21 : 6 < fs18.length) (h22 : mi_W d 102 29 [some (.ref l1), some (.int l2), some (.long l3), none] [] (n, sl, (va_up (va_up f x7 (.inl (3, m9, .inr (.inl (vp_updL g9 i9 l3))))) l1 (.inr (9, fs18.set 6 (.int (x16 ||| (1 <<< (l2 &&& 31)))))))) Q) : mi_W d 102 10 [some (.ref l1), some (.int l2), some (.long l3), none] [] (n, sl, f) Q := by
  refine w_aload_n cd_102_10 rfl ?_
  refine w_getfield cd_102_11 (show mt_f 9 18 = some (9, 4) by decide +kernel) h5 h6 h8 ?_
  refine w_iload_n cd_102_14 rfl ?_
  refine w_lload_n cd_102_15 rfl ?_
  refine w_lastore cd_102_16 h10 h11 h12 ?_
  refine w_aload_n cd_102_17 rfl ?_
  refine w_dup_r cd_102_18 ?_
  refine w_getfield cd_102_19 (show mt_f 9 38 = some (9, 6) by decide +kernel) h14 h15 h17 ?_
  refine w_iconst (v := 1) cd_102_22 (by decide) ?_
  refine w_iload_n cd_102_23 rfl ?_
  refine w_ishl cd_102_24 ?_
  refine w_ior cd_102_25 ?_
  refine w_putfield (w := .int (x16 ||| (1 <<< (l2 &&& 31)))) cd_102_26 (show mt_f 9 38 = some (9, 6) by decide +kernel) h19 h20 ⟨h21, rfl, Or.inl (by decide)⟩ ?_
  exact h22
theorem b_102_29 {d : Nat} {Q : (Option Value ⊕ Nat) → mi_H → Prop} (n sl : Nat) (f : Nat → mi_C) {l1 : Nat} {l2 : Int32} {l3 : Int64} (h4 : Q (.inl none) (n, sl, f)) : mi_W d 102 29 [some (.ref l1), some (.int l2), some (.long l3), none] [] (n, sl, f) Q := by
  exact w_return cd_102_29 (by decide +kernel) h4
/-! MarloweHost$Machine.takeInput(LMarloweHost$Inputs;I)V -/
set_option maxRecDepth 100000 in
theorem mq_103 : mt_q 103 = my_103 := rfl
set_option maxRecDepth 100000 in
theorem ci_103 : mt_inc 0 my_103.cd = true := by decide +kernel
theorem cd_103_0 : mt_cd 103 0 = some (.aload_n 0) := mt_cd_of (q := (0, .aload_n 0, 1)) mq_103 ci_103 (List.mem_of_getElem? (i := 0) rfl)
theorem cd_103_1 : mt_cd 103 1 = some (.getfield 29) := mt_cd_of (q := (1, .getfield 29, 3)) mq_103 ci_103 (List.mem_of_getElem? (i := 1) rfl)
theorem cd_103_4 : mt_cd 103 4 = some (.getfield 94) := mt_cd_of (q := (4, .getfield 94, 3)) mq_103 ci_103 (List.mem_of_getElem? (i := 2) rfl)
theorem cd_103_7 : mt_cd 103 7 = some (.istore_n 3) := mt_cd_of (q := (7, .istore_n 3, 1)) mq_103 ci_103 (List.mem_of_getElem? (i := 3) rfl)
theorem cd_103_8 : mt_cd 103 8 = some (.aload_n 0) := mt_cd_of (q := (8, .aload_n 0, 1)) mq_103 ci_103 (List.mem_of_getElem? (i := 4) rfl)
theorem cd_103_9 : mt_cd 103 9 = some (.getfield 18) := mt_cd_of (q := (9, .getfield 18, 3)) mq_103 ci_103 (List.mem_of_getElem? (i := 5) rfl)
theorem cd_103_12 : mt_cd 103 12 = some (.iload_n 3) := mt_cd_of (q := (12, .iload_n 3, 1)) mq_103 ci_103 (List.mem_of_getElem? (i := 6) rfl)
theorem cd_103_13 : mt_cd 103 13 = some (.invokevirtual 97) := mt_cd_of (q := (13, .invokevirtual 97, 3)) mq_103 ci_103 (List.mem_of_getElem? (i := 7) rfl)
theorem cd_103_16 : mt_cd 103 16 = some (.iconst 5) := mt_cd_of (q := (16, .iconst 5, 1)) mq_103 ci_103 (List.mem_of_getElem? (i := 8) rfl)
theorem cd_103_17 : mt_cd 103 17 = some (.if_icmp .ne 15) := mt_cd_of (q := (17, .if_icmp .ne 15, 3)) mq_103 ci_103 (List.mem_of_getElem? (i := 9) rfl)
theorem cd_103_20 : mt_cd 103 20 = some (.aload_n 0) := mt_cd_of (q := (20, .aload_n 0, 1)) mq_103 ci_103 (List.mem_of_getElem? (i := 10) rfl)
theorem cd_103_21 : mt_cd 103 21 = some (.getfield 18) := mt_cd_of (q := (21, .getfield 18, 3)) mq_103 ci_103 (List.mem_of_getElem? (i := 11) rfl)
theorem cd_103_24 : mt_cd 103 24 = some (.getfield 118) := mt_cd_of (q := (24, .getfield 118, 3)) mq_103 ci_103 (List.mem_of_getElem? (i := 12) rfl)
theorem cd_103_27 : mt_cd 103 27 = some (.iload_n 3) := mt_cd_of (q := (27, .iload_n 3, 1)) mq_103 ci_103 (List.mem_of_getElem? (i := 13) rfl)
theorem cd_103_28 : mt_cd 103 28 = some (.iaload) := mt_cd_of (q := (28, .iaload, 1)) mq_103 ci_103 (List.mem_of_getElem? (i := 14) rfl)
theorem cd_103_29 : mt_cd 103 29 = some (.goto 4) := mt_cd_of (q := (29, .goto 4, 3)) mq_103 ci_103 (List.mem_of_getElem? (i := 15) rfl)
theorem cd_103_32 : mt_cd 103 32 = some (.iconst (-1)) := mt_cd_of (q := (32, .iconst (-1), 1)) mq_103 ci_103 (List.mem_of_getElem? (i := 16) rfl)
theorem cd_103_33 : mt_cd 103 33 = some (.istore 4) := mt_cd_of (q := (33, .istore 4, 2)) mq_103 ci_103 (List.mem_of_getElem? (i := 17) rfl)
theorem cd_103_35 : mt_cd 103 35 = some (.iconst 0) := mt_cd_of (q := (35, .iconst 0, 1)) mq_103 ci_103 (List.mem_of_getElem? (i := 18) rfl)
theorem cd_103_36 : mt_cd 103 36 = some (.istore 5) := mt_cd_of (q := (36, .istore 5, 2)) mq_103 ci_103 (List.mem_of_getElem? (i := 19) rfl)
theorem cd_103_38 : mt_cd 103 38 = some (.iload 5) := mt_cd_of (q := (38, .iload 5, 2)) mq_103 ci_103 (List.mem_of_getElem? (i := 20) rfl)
theorem cd_103_40 : mt_cd 103 40 = some (.bipush 8) := mt_cd_of (q := (40, .bipush 8, 2)) mq_103 ci_103 (List.mem_of_getElem? (i := 21) rfl)
theorem cd_103_42 : mt_cd 103 42 = some (.if_icmp .ge 78) := mt_cd_of (q := (42, .if_icmp .ge 78, 3)) mq_103 ci_103 (List.mem_of_getElem? (i := 22) rfl)
theorem cd_103_45 : mt_cd 103 45 = some (.aload_n 0) := mt_cd_of (q := (45, .aload_n 0, 1)) mq_103 ci_103 (List.mem_of_getElem? (i := 23) rfl)
theorem cd_103_46 : mt_cd 103 46 = some (.getfield 18) := mt_cd_of (q := (46, .getfield 18, 3)) mq_103 ci_103 (List.mem_of_getElem? (i := 24) rfl)
theorem cd_103_49 : mt_cd 103 49 = some (.iload 4) := mt_cd_of (q := (49, .iload 4, 2)) mq_103 ci_103 (List.mem_of_getElem? (i := 25) rfl)
theorem cd_103_51 : mt_cd 103 51 = some (.invokevirtual 187) := mt_cd_of (q := (51, .invokevirtual 187, 3)) mq_103 ci_103 (List.mem_of_getElem? (i := 26) rfl)
theorem cd_103_54 : mt_cd 103 54 = some (.ifCond .eq 66) := mt_cd_of (q := (54, .ifCond .eq 66, 3)) mq_103 ci_103 (List.mem_of_getElem? (i := 27) rfl)
theorem cd_103_57 : mt_cd 103 57 = some (.aload_n 0) := mt_cd_of (q := (57, .aload_n 0, 1)) mq_103 ci_103 (List.mem_of_getElem? (i := 28) rfl)
theorem cd_103_58 : mt_cd 103 58 = some (.iload 4) := mt_cd_of (q := (58, .iload 4, 2)) mq_103 ci_103 (List.mem_of_getElem? (i := 29) rfl)
theorem cd_103_60 : mt_cd 103 60 = some (.aload_n 1) := mt_cd_of (q := (60, .aload_n 1, 1)) mq_103 ci_103 (List.mem_of_getElem? (i := 30) rfl)
theorem cd_103_61 : mt_cd 103 61 = some (.iload_n 2) := mt_cd_of (q := (61, .iload_n 2, 1)) mq_103 ci_103 (List.mem_of_getElem? (i := 31) rfl)
theorem cd_103_62 : mt_cd 103 62 = some (.invokevirtual 190) := mt_cd_of (q := (62, .invokevirtual 190, 3)) mq_103 ci_103 (List.mem_of_getElem? (i := 32) rfl)
theorem cd_103_65 : mt_cd 103 65 = some (.istore 6) := mt_cd_of (q := (65, .istore 6, 2)) mq_103 ci_103 (List.mem_of_getElem? (i := 33) rfl)
theorem cd_103_67 : mt_cd 103 67 = some (.aload_n 0) := mt_cd_of (q := (67, .aload_n 0, 1)) mq_103 ci_103 (List.mem_of_getElem? (i := 34) rfl)
theorem cd_103_68 : mt_cd 103 68 = some (.getfield 38) := mt_cd_of (q := (68, .getfield 38, 3)) mq_103 ci_103 (List.mem_of_getElem? (i := 35) rfl)
theorem cd_103_71 : mt_cd 103 71 = some (.getfield 143) := mt_cd_of (q := (71, .getfield 143, 3)) mq_103 ci_103 (List.mem_of_getElem? (i := 36) rfl)
theorem cd_103_74 : mt_cd 103 74 = some (.ifCond .eq 10) := mt_cd_of (q := (74, .ifCond .eq 10, 3)) mq_103 ci_103 (List.mem_of_getElem? (i := 37) rfl)
theorem cd_103_77 : mt_cd 103 77 = some (.aload_n 0) := mt_cd_of (q := (77, .aload_n 0, 1)) mq_103 ci_103 (List.mem_of_getElem? (i := 38) rfl)
theorem cd_103_78 : mt_cd 103 78 = some (.bipush 6) := mt_cd_of (q := (78, .bipush 6, 2)) mq_103 ci_103 (List.mem_of_getElem? (i := 39) rfl)
theorem cd_103_80 : mt_cd 103 80 = some (.putfield 49) := mt_cd_of (q := (80, .putfield 49, 3)) mq_103 ci_103 (List.mem_of_getElem? (i := 40) rfl)
theorem cd_103_83 : mt_cd 103 83 = some (.return_) := mt_cd_of (q := (83, .return_, 1)) mq_103 ci_103 (List.mem_of_getElem? (i := 41) rfl)
theorem cd_103_84 : mt_cd 103 84 = some (.iload 6) := mt_cd_of (q := (84, .iload 6, 2)) mq_103 ci_103 (List.mem_of_getElem? (i := 42) rfl)
theorem cd_103_86 : mt_cd 103 86 = some (.ifCond .eq 16) := mt_cd_of (q := (86, .ifCond .eq 16, 3)) mq_103 ci_103 (List.mem_of_getElem? (i := 43) rfl)
theorem cd_103_89 : mt_cd 103 89 = some (.aload_n 0) := mt_cd_of (q := (89, .aload_n 0, 1)) mq_103 ci_103 (List.mem_of_getElem? (i := 44) rfl)
theorem cd_103_90 : mt_cd 103 90 = some (.iload 4) := mt_cd_of (q := (90, .iload 4, 2)) mq_103 ci_103 (List.mem_of_getElem? (i := 45) rfl)
theorem cd_103_92 : mt_cd 103 92 = some (.aload_n 1) := mt_cd_of (q := (92, .aload_n 1, 1)) mq_103 ci_103 (List.mem_of_getElem? (i := 46) rfl)
theorem cd_103_93 : mt_cd 103 93 = some (.getfield 194) := mt_cd_of (q := (93, .getfield 194, 3)) mq_103 ci_103 (List.mem_of_getElem? (i := 47) rfl)
theorem cd_103_96 : mt_cd 103 96 = some (.iload_n 2) := mt_cd_of (q := (96, .iload_n 2, 1)) mq_103 ci_103 (List.mem_of_getElem? (i := 48) rfl)
theorem cd_103_97 : mt_cd 103 97 = some (.laload) := mt_cd_of (q := (97, .laload, 1)) mq_103 ci_103 (List.mem_of_getElem? (i := 49) rfl)
theorem cd_103_98 : mt_cd 103 98 = some (.invokevirtual 197) := mt_cd_of (q := (98, .invokevirtual 197, 3)) mq_103 ci_103 (List.mem_of_getElem? (i := 50) rfl)
theorem cd_103_101 : mt_cd 103 101 = some (.return_) := mt_cd_of (q := (101, .return_, 1)) mq_103 ci_103 (List.mem_of_getElem? (i := 51) rfl)
theorem cd_103_102 : mt_cd 103 102 = some (.aload_n 0) := mt_cd_of (q := (102, .aload_n 0, 1)) mq_103 ci_103 (List.mem_of_getElem? (i := 52) rfl)
theorem cd_103_103 : mt_cd 103 103 = some (.getfield 18) := mt_cd_of (q := (103, .getfield 18, 3)) mq_103 ci_103 (List.mem_of_getElem? (i := 53) rfl)
theorem cd_103_106 : mt_cd 103 106 = some (.getfield 129) := mt_cd_of (q := (106, .getfield 129, 3)) mq_103 ci_103 (List.mem_of_getElem? (i := 54) rfl)
theorem cd_103_109 : mt_cd 103 109 = some (.iload 4) := mt_cd_of (q := (109, .iload 4, 2)) mq_103 ci_103 (List.mem_of_getElem? (i := 55) rfl)
theorem cd_103_111 : mt_cd 103 111 = some (.iaload) := mt_cd_of (q := (111, .iaload, 1)) mq_103 ci_103 (List.mem_of_getElem? (i := 56) rfl)
theorem cd_103_112 : mt_cd 103 112 = some (.istore 4) := mt_cd_of (q := (112, .istore 4, 2)) mq_103 ci_103 (List.mem_of_getElem? (i := 57) rfl)
theorem cd_103_114 : mt_cd 103 114 = some (.iinc 5 1) := mt_cd_of (q := (114, .iinc 5 1, 3)) mq_103 ci_103 (List.mem_of_getElem? (i := 58) rfl)
theorem cd_103_117 : mt_cd 103 117 = some (.goto (-79)) := mt_cd_of (q := (117, .goto (-79), 3)) mq_103 ci_103 (List.mem_of_getElem? (i := 59) rfl)
theorem cd_103_120 : mt_cd 103 120 = some (.aload_n 0) := mt_cd_of (q := (120, .aload_n 0, 1)) mq_103 ci_103 (List.mem_of_getElem? (i := 60) rfl)
theorem cd_103_121 : mt_cd 103 121 = some (.iconst 4) := mt_cd_of (q := (121, .iconst 4, 1)) mq_103 ci_103 (List.mem_of_getElem? (i := 61) rfl)
theorem cd_103_122 : mt_cd 103 122 = some (.putfield 49) := mt_cd_of (q := (122, .putfield 49, 3)) mq_103 ci_103 (List.mem_of_getElem? (i := 62) rfl)
theorem cd_103_125 : mt_cd 103 125 = some (.return_) := mt_cd_of (q := (125, .return_, 1)) mq_103 ci_103 (List.mem_of_getElem? (i := 63) rfl)
theorem b_103_0 {d : Nat} {Q : (Option Value ⊕ Nat) → mi_H → Prop} (n sl : Nat) (f : Nat → mi_C) {l1 : Nat} {l2 : Nat} {l3 : Int32} {o4 : Option Value} {o5 : Option Value} {o6 : Option Value} {o7 : Option Value} {fs8 : List Value} {x11 : Nat} {fs13 : List Value} {x16 : Int32} {fs18 : List Value} {x21 : Nat} {fs23 : List Value} (h9 : f l1 = .inr (7, fs8)) (h10 : l1 < n) (h12 : fs8[3]? = some (.ref x11)) (h14 : f x11 = .inr (9, fs13)) (h15 : x11 < n) (h17 : fs13[0]? = some (.int x16)) (h19 : f l1 = .inr (7, fs18)) (h20 : l1 < n) (h22 : fs18[0]? = some (.ref x21)) (h24 : f x21 = .inr (2, fs23)) (h25 : x21 < n) (h26 : mi_W d 79 0 (mi_en 2 [.ref x21, .int x16]) [] (n, sl, f) (mi_Kc d 103 13 [some (.ref l1), some (.ref l2), some (.int l3), some (.int x16), o5, o6, o7] [] Q)) : mi_W (d + 1) 103 0 [some (.ref l1), some (.ref l2), some (.int l3), o4, o5, o6, o7] [] (n, sl, f) Q := by
  refine w_aload_n cd_103_0 rfl ?_
  refine w_getfield cd_103_1 (show mt_f 7 29 = some (7, 3) by decide +kernel) h9 h10 h12 ?_
  refine w_getfield cd_103_4 (show mt_f 7 94 = some (9, 0) by decide +kernel) h14 h15 h17 ?_
  refine w_istore_n (ls' := [some (.ref l1), some (.ref l2), some (.int l3), some (.int x16), o5, o6, o7]) cd_103_7 (Nat.le_of_ble_eq_true rfl) rfl ?_
  refine w_aload_n cd_103_8 rfl ?_
  refine w_getfield cd_103_9 (show mt_f 7 18 = some (7, 0) by decide +kernel) h19 h20 h22 ?_
  refine w_iload_n cd_103_12 rfl ?_
  exact w_invokevirtual cd_103_13 (show mt_m 7 97 = some (79, 0) by decide +kernel) (rest := []) rfl (as := [.ref x21, .int x16]) rfl h24 (Or.inl h25) ⟨Nat.le_of_ble_eq_true rfl, Nat.le_of_ble_eq_true rfl, Nat.le_of_ble_eq_true rfl⟩ h26
theorem b_103_16 {d : Nat} {Q : (Option Value ⊕ Nat) → mi_H → Prop} (n sl : Nat) (f : Nat → mi_C) {l1 : Nat} {l2 : Nat} {l3 : Int32} {l4 : Int32} {o5 : Option Value} {o6 : Option Value} {o7 : Option Value} {s8 : Int32} (h9 : ¬ s8 = 5 → mi_W d 103 32 [some (.ref l1), some (.ref l2), some (.int l3), some (.int l4), o5, o6, o7] [] (n, sl, f) Q) (h10 : ¬ (¬ s8 = 5) → mi_W d 103 20 [some (.ref l1), some (.ref l2), some (.int l3), some (.int l4), o5, o6, o7] [] (n, sl, f) Q) : mi_W d 103 16 [some (.ref l1), some (.ref l2), some (.int l3), some (.int l4), o5, o6, o7] [.int s8] (n, sl, f) Q := by
  refine w_iconst (v := 5) cd_103_16 (by decide) ?_
  exact w_if_icmpne cd_103_17 (by decide) h9 h10
theorem b_103_20 {d : Nat} {Q : (Option Value ⊕ Nat) → mi_H → Prop} (n sl : Nat) (f : Nat → mi_C) {l1 : Nat} {l2 : Nat} {l3 : Int32} {l4 : Int32} {o5 : Option Value} {o6 : Option Value} {o7 : Option Value} {fs8 : List Value} {x11 : Nat} {fs13 : List Value} {x16 : Nat} (m18 i18 : Nat) (g18 : Nat → Int32) (h9 : f l1 = .inr (7, fs8)) (h10 : l1 < n) (h12 : fs8[0]? = some (.ref x11)) (h14 : f x11 = .inr (2, fs13)) (h15 : x11 < n) (h17 : fs13[1]? = some (.ref x16)) (h19 : f x16 = .inl (0, m18, .inl g18)) (h20 : x16 < n ∨ x16 = mi_SC) (h21 : mi_ix l4 m18 i18) (h22 : mi_W d 103 33 [some (.ref l1), some (.ref l2), some (.int l3), some (.int l4), o5, o6, o7] [.int (g18 i18)] (n, sl, f) Q) : mi_W d 103 20 [some (.ref l1), some (.ref l2), some (.int l3), some (.int l4), o5, o6, o7] [] (n, sl, f) Q := by
  refine w_aload_n cd_103_20 rfl ?_
  refine w_getfield cd_103_21 (show mt_f 7 18 = some (7, 0) by decide +kernel) h9 h10 h12 ?_
  refine w_getfield cd_103_24 (show mt_f 7 118 = some (2, 1) by decide +kernel) h14 h15 h17 ?_
  refine w_iload_n cd_103_27 rfl ?_
  refine w_iaload cd_103_28 h19 h20 h21 ?_
  exact w_goto cd_103_29 (by decide) h22
theorem b_103_32 {d : Nat} {Q : (Option Value ⊕ Nat) → mi_H → Prop} (n sl : Nat) (f : Nat → mi_C) {l1 : Nat} {l2 : Nat} {l3 : Int32} {l4 : Int32} {o5 : Option Value} {o6 : Option Value} {o7 : Option Value} (h8 : mi_W d 103 33 [some (.ref l1), some (.ref l2), some (.int l3), some (.int l4), o5, o6, o7] [.int (-1)] (n, sl, f) Q) : mi_W d 103 32 [some (.ref l1), some (.ref l2), some (.int l3), some (.int l4), o5, o6, o7] [] (n, sl, f) Q := by
  refine w_iconst (v := (-1)) cd_103_32 (by decide) ?_
  exact h8
theorem b_103_33 {d : Nat} {Q : (Option Value ⊕ Nat) → mi_H → Prop} (n sl : Nat) (f : Nat → mi_C) {l1 : Nat} {l2 : Nat} {l3 : Int32} {l4 : Int32} {o5 : Option Value} {o6 : Option Value} {o7 : Option Value} {s8 : Int32} (h9 : mi_W d 103 38 [some (.ref l1), some (.ref l2), some (.int l3), some (.int l4), some (.int s8), some (.int 0), o7] [] (n, sl, f) Q) : mi_W d 103 33 [some (.ref l1), some (.ref l2), some (.int l3), some (.int l4), o5, o6, o7] [.int s8] (n, sl, f) Q := by
  refine w_istore (ls' := [some (.ref l1), some (.ref l2), some (.int l3), some (.int l4), some (.int s8), o6, o7]) cd_103_33 (Nat.le_of_ble_eq_true rfl) rfl ?_
  refine w_iconst (v := 0) cd_103_35 (by decide) ?_
  refine w_istore (ls' := [some (.ref l1), some (.ref l2), some (.int l3), some (.int l4), some (.int s8), some (.int 0), o7]) cd_103_36 (Nat.le_of_ble_eq_true rfl) rfl ?_
  exact h9
theorem b_103_38 {d : Nat} {Q : (Option Value ⊕ Nat) → mi_H → Prop} (n sl : Nat) (f : Nat → mi_C) {l1 : Nat} {l2 : Nat} {l3 : Int32} {l4 : Int32} {l5 : Int32} {l6 : Int32} {o7 : Option Value} (h8 : 8 ≤ l6 → mi_W d 103 120 [some (.ref l1), some (.ref l2), some (.int l3), some (.int l4), some (.int l5), some (.int l6), o7] [] (n, sl, f) Q) (h9 : ¬ (8 ≤ l6) → mi_W d 103 45 [some (.ref l1), some (.ref l2), some (.int l3), some (.int l4), some (.int l5), some (.int l6), o7] [] (n, sl, f) Q) : mi_W d 103 38 [some (.ref l1), some (.ref l2), some (.int l3), some (.int l4), some (.int l5), some (.int l6), o7] [] (n, sl, f) Q := by
  refine w_iload cd_103_38 rfl ?_
  refine w_bipush (v := 8) cd_103_40 (by decide) ?_
  exact w_if_icmpge cd_103_42 (by decide) h8 h9
theorem b_103_45 {d : Nat} {Q : (Option Value ⊕ Nat) → mi_H → Prop} (n sl : Nat) (f : Nat → mi_C) {l1 : Nat} {l2 : Nat} {l3 : Int32} {l4 : Int32} {l5 : Int32} {l6 : Int32} {o7 : Option Value} {fs8 : List Value} {x11 : Nat} {fs13 : List Value} (h9 : f l1 = .inr (7, fs8)) (h10 : l1 < n) (h12 : fs8[0]? = some (.ref x11)) (h14 : f x11 = .inr (2, fs13)) (h15 : x11 < n) (h16 : mi_W d 80 0 (mi_en 2 [.ref x11, .int l5]) [] (n, sl, f) (mi_Kc d 103 51 [some (.ref l1), some (.ref l2), some (.int l3), some (.int l4), some (.int l5), some (.int l6), o7] [] Q)) : mi_W (d + 1) 103 45 [some (.ref l1), some (.ref l2), some (.int l3), some (.int l4), some (.int l5), some (.int l6), o7] [] (n, sl, f) Q := by
  refine w_aload_n cd_103_45 rfl ?_
  refine w_getfield cd_103_46 (show mt_f 7 18 = some (7, 0) by decide +kernel) h9 h10 h12 ?_
  refine w_iload cd_103_49 rfl ?_
  exact w_invokevirtual cd_103_51 (show mt_m 7 187 = some (80, 0) by decide +kernel) (rest := []) rfl (as := [.ref x11, .int l5]) rfl h14 (Or.inl h15) ⟨Nat.le_of_ble_eq_true rfl, Nat.le_of_ble_eq_true rfl, Nat.le_of_ble_eq_true rfl⟩ h16
theorem b_103_54 {d : Nat} {Q : (Option Value ⊕ Nat) → mi_H → Prop} (n sl : Nat) (f : Nat → mi_C) {l1 : Nat} {l2 : Nat} {l3 : Int32} {l4 : Int32} {l5 : Int32} {l6 : Int32} {o7 : Option Value} {s8 : Int32} (h9 : s8 = (0 : Int32) → mi_W d 103 120 [some (.ref l1), some (.ref l2), some (.int l3), some (.int l4), some (.int l5), some (.int l6), o7] [] (n, sl, f) Q) (h10 : ¬ (s8 = (0 : Int32)) → mi_W d 103 57 [some (.ref l1), some (.ref l2), some (.int l3), some (.int l4), some (.int l5), some (.int l6), o7] [] (n, sl, f) Q) : mi_W d 103 54 [some (.ref l1), some (.ref l2), some (.int l3), some (.int l4), some (.int l5), some (.int l6), o7] [.int s8] (n, sl, f) Q := by
  exact w_ifeq cd_103_54 (by decide) h9 h10
theorem b_103_57 {d : Nat} {Q : (Option Value ⊕ Nat) → mi_H → Prop} (n sl : Nat) (f : Nat → mi_C) {l1 : Nat} {l2 : Nat} {l3 : Int32} {l4 : Int32} {l5 : Int32} {l6 : Int32} {o7 : Option Value} {fs8 : List Value} (h9 : f l1 = .inr (7, fs8)) (h10 : l1 < n) (h11 : mi_W d 104 0 (mi_en 7 [.ref l1, .int l5, .ref l2, .int l3]) [] (n, sl, f) (mi_Kc d 103 62 [some (.ref l1), some (.ref l2), some (.int l3), some (.int l4), some (.int l5), some (.int l6), o7] [] Q)) : mi_W (d + 1) 103 57 [some (.ref l1), some (.ref l2), some (.int l3), some (.int l4), some (.int l5), some (.int l6), o7] [] (n, sl, f) Q := by
  refine w_aload_n cd_103_57 rfl ?_
  refine w_iload cd_103_58 rfl ?_
  refine w_aload_n cd_103_60 rfl ?_
  refine w_iload_n cd_103_61 rfl ?_
  exact w_invokevirtual cd_103_62 (show mt_m 7 190 = some (104, 0) by decide +kernel) (rest := []) rfl (as := [.ref l1, .int l5, .ref l2, .int l3]) rfl h9 (Or.inl h10) ⟨Nat.le_of_ble_eq_true rfl, Nat.le_of_ble_eq_true rfl, Nat.le_of_ble_eq_true rfl⟩ h11
theorem b_103_65 {d : Nat} {Q : (Option Value ⊕ Nat) → mi_H → Prop} (n sl : Nat) (f : Nat → mi_C) {l1 : Nat} {l2 : Nat} {l3 : Int32} {l4 : Int32} {l5 : Int32} {l6 : Int32} {o7 : Option Value} {s8 : Int32} {fs9 : List Value} {x12 : Nat} {fs14 : List Value} {x17 : Int32} (h10 : f l1 = .inr (7, fs9)) (h11 : l1 < n) (h13 : fs9[2]? = some (.ref x12)) (h15 : f x12 = .inr (10, fs14)) (h16 : x12 < n) (h18 : fs14[4]? = some (.int x17)) (h19 : x17 = (0 : Int32) → mi_W d 103 84 [some (.ref l1), some (.ref l2), some (.int l3), some (.int l4), some (.int l5), some (.int l6), some (.int s8)] [] (n, sl, f) Q) (h20 : ¬ (x17 = (0 : Int32)) → mi_W d 103 77 [some (.ref l1), some (.ref l2), some (.int l3), some (.int l4), some (.int l5), some (.int l6), some (.int s8)] [] (n, sl, f) Q) : mi_W d 103 65 [some (.ref l1), some (.ref l2), some (.int l3), some (.int l4), some (.int l5), some (.int l6), o7] [.int s8] (n, sl, f) Q := by
  refine w_istore (ls' := [some (.ref l1), some (.ref l2), some (.int l3), some (.int l4), some (.int l5), some (.int l6), some (.int s8)]) cd_103_65 (Nat.le_of_ble_eq_true rfl) rfl ?_
  refine w_aload_n cd_103_67 rfl ?_
  refine w_getfield cd_103_68 (show mt_f 7 38 = some (7, 2) by decide +kernel) h10 h11 h13 ?_
  refine w_getfield cd_103_71 (show mt_f 7 143 = some (10, 4) by decide +kernel) h15 h16 h18 ?_
  exact w_ifeq cd_103_74 (by decide) h19 h20
theorem b_103_77 {d : Nat} {Q : (Option Value ⊕ Nat) → mi_H → Prop} (n sl : Nat) (f : Nat → mi_C) {l1 : Nat} {l2 : Nat} {l3 : Int32} {l4 : Int32} {l5 : Int32} {l6 : Int32} {l7 : Int32} {fs8 : List Value} (h9 : f l1 = .inr (7, fs8)) (h10 : l1 < n) (h11 : 6 < fs8.length) (h12 : Q (.inl none) (n, sl, (va_up f l1 (.inr (7, fs8.set 6 (.int 6)))))) : mi_W d 103 77 [some (.ref l1), some (.ref l2), some (.int l3), some (.int l4), some (.int l5), some (.int l6), some (.int l7)] [] (n, sl, f) Q := by
  refine w_aload_n cd_103_77 rfl ?_
  refine w_bipush (v := 6) cd_103_78 (by decide) ?_
  refine w_putfield (w := .int 6) cd_103_80 (show mt_f 7 49 = some (7, 6) by decide +kernel) h9 h10 ⟨h11, rfl, Or.inl (by decide)⟩ ?_
  exact w_return cd_103_83 (by decide +kernel) h12
theorem b_103_84 {d : Nat} {Q : (Option Value ⊕ Nat) → mi_H → Prop} (n sl : Nat) (f : Nat → mi_C) {l1 : Nat} {l2 : Nat} {l3 : Int32} {l4 : Int32} {l5 : Int32} {l6 : Int32} {l7 : Int32} (h8 : l7 = (0 : Int32) → mi_W d 103 102 [some (.ref l1), some (.ref l2), some (.int l3), some (.int l4), some (.int l5), some (.int l6), some (.int l7)] [] (n, sl, f) Q) (h9 : ¬ (l7 = (0 : Int32)) → mi_W d 103 89 [some (.ref l1), some (.ref l2), some (.int l3), some (.int l4), some (.int l5), some (.int l6), some (.int l7)] [] (n, sl, f) Q) : mi_W d 103 84 [some (.ref l1), some (.ref l2), some (.int l3), some (.int l4), some (.int l5), some (.int l6), some (.int l7)] [] (n, sl, f) Q := by
  refine w_iload cd_103_84 rfl ?_
  exact w_ifeq cd_103_86 (by decide) h8 h9
theorem b_103_89 {d : Nat} {Q : (Option Value ⊕ Nat) → mi_H → Prop} (n sl : Nat) (f : Nat → mi_C) {l1 : Nat} {l2 : Nat} {l3 : Int32} {l4 : Int32} {l5 : Int32} {l6 : Int32} {l7 : Int32} {fs8 : List Value} {x11 : Nat} (m13 i13 : Nat) (g13 : Nat → Int64) {fs17 : List Value} (h9 : f l2 = .inr (6, fs8)) (h10 : l2 < n) (h12 : fs8[4]? = some (.ref x11)) (h14 : f x11 = .inl (3, m13, .inr (.inl g13))) (h15 : x11 < n) (h16 : mi_ix l3 m13 i13) (h18 : f l1 = .inr (7, fs17)) (h19 : l1 < n) (h20 : mi_W d 106 0 (mi_en 5 [.ref l1, .int l5, .long (g13 i13)]) [] (n, sl, f) (mi_Kc d 103 98 [some (.ref l1), some (.ref l2), some (.int l3), some (.int l4), some (.int l5), some (.int l6), some (.int l7)] [] Q)) : mi_W (d + 1) 103 89 [some (.ref l1), some (.ref l2), some (.int l3), some (.int l4), some (.int l5), some (.int l6), some (.int l7)] [] (n, sl, f) Q := by
  refine w_aload_n cd_103_89 rfl ?_
  refine w_iload cd_103_90 rfl ?_
  refine w_aload_n cd_103_92 rfl ?_
  refine w_getfield cd_103_93 (show mt_f 7 194 = some (6, 4) by decide +kernel) h9 h10 h12 ?_
  refine w_iload_n cd_103_96 rfl ?_
  refine w_laload cd_103_97 h14 h15 h16 ?_
  exact w_invokevirtual cd_103_98 (show mt_m 7 197 = some (106, 0) by decide +kernel) (rest := []) rfl (as := [.ref l1, .int l5, .long (g13 i13)]) rfl h18 (Or.inl h19) ⟨Nat.le_of_ble_eq_true rfl, Nat.le_of_ble_eq_true rfl, Nat.le_of_ble_eq_true rfl⟩ h20
theorem b_103_101 {d : Nat} {Q : (Option Value ⊕ Nat) → mi_H → Prop} (n sl : Nat) (f : Nat → mi_C) {l1 : Nat} {l2 : Nat} {l3 : Int32} {l4 : Int32} {l5 : Int32} {l6 : Int32} {l7 : Int32} (h8 : Q (.inl none) (n, sl, f)) : mi_W d 103 101 [some (.ref l1), some (.ref l2), some (.int l3), some (.int l4), some (.int l5), some (.int l6), some (.int l7)] [] (n, sl, f) Q := by
  exact w_return cd_103_101 (by decide +kernel) h8
theorem b_103_102 {d : Nat} {Q : (Option Value ⊕ Nat) → mi_H → Prop} (n sl : Nat) (f : Nat → mi_C) {l1 : Nat} {l2 : Nat} {l3 : Int32} {l4 : Int32} {l5 : Int32} {l6 : Int32} {l7 : Int32} {fs8 : List Value} {x11 : Nat} {fs13 : List Value} {x16 : Nat} (m18 i18 : Nat) (g18 : Nat → Int32) (h9 : f l1 = .inr (7, fs8)) (h10 : l1 < n) (h12 : fs8[0]? = some (.ref x11)) (h14 : f x11 = .inr (2, fs13)) (h15 : x11 < n) (h17 : fs13[3]? = some (.ref x16)) (h19 : f x16 = .inl (0, m18, .inl g18)) (h20 : x16 < n ∨ x16 = mi_SC) (h21 : mi_ix l5 m18 i18) (h22 : mi_W d 103 38 [some (.ref l1), some (.ref l2), some (.int l3), some (.int l4), some (.int (g18 i18)), some (.int (l6 + 1)), some (.int l7)] [] (n, sl, f) Q) : mi_W d 103 102 [some (.ref l1), some (.ref l2), some (.int l3), some (.int l4), some (.int l5), some (.int l6), some (.int l7)] [] (n, sl, f) Q := by
  refine w_aload_n cd_103_102 rfl ?_
  refine w_getfield cd_103_103 (show mt_f 7 18 = some (7, 0) by decide +kernel) h9 h10 h12 ?_
  refine w_getfield cd_103_106 (show mt_f 7 129 = some (2, 3) by decide +kernel) h14 h15 h17 ?_
  refine w_iload cd_103_109 rfl ?_
  refine w_iaload cd_103_111 h19 h20 h21 ?_
  refine w_istore (ls' := [some (.ref l1), some (.ref l2), some (.int l3), some (.int l4), some (.int (g18 i18)), some (.int l6), some (.int l7)]) cd_103_112 (Nat.le_of_ble_eq_true rfl) rfl ?_
  refine w_iinc (v := 1) (ls' := [some (.ref l1), some (.ref l2), some (.int l3), some (.int l4), some (.int (g18 i18)), some (.int (l6 + 1)), some (.int l7)]) cd_103_114 rfl (by decide) rfl ?_
  exact w_goto cd_103_117 (by decide) h22
theorem b_103_120 {d : Nat} {Q : (Option Value ⊕ Nat) → mi_H → Prop} (n sl : Nat) (f : Nat → mi_C) {l1 : Nat} {l2 : Nat} {l3 : Int32} {l4 : Int32} {l5 : Int32} {l6 : Int32} {o7 : Option Value} {fs8 : List Value} (h9 : f l1 = .inr (7, fs8)) (h10 : l1 < n) (h11 : 6 < fs8.length) (h12 : Q (.inl none) (n, sl, (va_up f l1 (.inr (7, fs8.set 6 (.int 4)))))) : mi_W d 103 120 [some (.ref l1), some (.ref l2), some (.int l3), some (.int l4), some (.int l5), some (.int l6), o7] [] (n, sl, f) Q := by
  refine w_aload_n cd_103_120 rfl ?_
  refine w_iconst (v := 4) cd_103_121 (by decide) ?_
  refine w_putfield (w := .int 4) cd_103_122 (show mt_f 7 49 = some (7, 6) by decide +kernel) h9 h10 ⟨h11, rfl, Or.inl (by decide)⟩ ?_
  exact w_return cd_103_125 (by decide +kernel) h12
/-! MarloweHost$Machine.isFitting(ILMarloweHost$Inputs;I)Z -/
set_option maxRecDepth 100000 in
theorem mq_104 : mt_q 104 = my_104 := rfl
set_option maxRecDepth 100000 in
theorem ci_104 : mt_inc 0 my_104.cd = true := by decide +kernel
theorem cd_104_0 : mt_cd 104 0 = some (.aload_n 0) := mt_cd_of (q := (0, .aload_n 0, 1)) mq_104 ci_104 (List.mem_of_getElem? (i := 0) rfl)
theorem cd_104_1 : mt_cd 104 1 = some (.getfield 18) := mt_cd_of (q := (1, .getfield 18, 3)) mq_104 ci_104 (List.mem_of_getElem? (i := 1) rfl)
theorem cd_104_4 : mt_cd 104 4 = some (.getfield 200) := mt_cd_of (q := (4, .getfield 200, 3)) mq_104 ci_104 (List.mem_of_getElem? (i := 2) rfl)
theorem cd_104_7 : mt_cd 104 7 = some (.iload_n 1) := mt_cd_of (q := (7, .iload_n 1, 1)) mq_104 ci_104 (List.mem_of_getElem? (i := 3) rfl)
theorem cd_104_8 : mt_cd 104 8 = some (.iaload) := mt_cd_of (q := (8, .iaload, 1)) mq_104 ci_104 (List.mem_of_getElem? (i := 4) rfl)
theorem cd_104_9 : mt_cd 104 9 = some (.istore 4) := mt_cd_of (q := (9, .istore 4, 2)) mq_104 ci_104 (List.mem_of_getElem? (i := 5) rfl)
theorem cd_104_11 : mt_cd 104 11 = some (.iload 4) := mt_cd_of (q := (11, .iload 4, 2)) mq_104 ci_104 (List.mem_of_getElem? (i := 6) rfl)
theorem cd_104_13 : mt_cd 104 13 = some (.aload_n 2) := mt_cd_of (q := (13, .aload_n 2, 1)) mq_104 ci_104 (List.mem_of_getElem? (i := 7) rfl)
theorem cd_104_14 : mt_cd 104 14 = some (.getfield 203) := mt_cd_of (q := (14, .getfield 203, 3)) mq_104 ci_104 (List.mem_of_getElem? (i := 8) rfl)
theorem cd_104_17 : mt_cd 104 17 = some (.iload_n 3) := mt_cd_of (q := (17, .iload_n 3, 1)) mq_104 ci_104 (List.mem_of_getElem? (i := 9) rfl)
theorem cd_104_18 : mt_cd 104 18 = some (.iaload) := mt_cd_of (q := (18, .iaload, 1)) mq_104 ci_104 (List.mem_of_getElem? (i := 10) rfl)
theorem cd_104_19 : mt_cd 104 19 = some (.if_icmp .eq 5) := mt_cd_of (q := (19, .if_icmp .eq 5, 3)) mq_104 ci_104 (List.mem_of_getElem? (i := 11) rfl)
theorem cd_104_22 : mt_cd 104 22 = some (.iconst 0) := mt_cd_of (q := (22, .iconst 0, 1)) mq_104 ci_104 (List.mem_of_getElem? (i := 12) rfl)
theorem cd_104_23 : mt_cd 104 23 = some (.ireturn) := mt_cd_of (q := (23, .ireturn, 1)) mq_104 ci_104 (List.mem_of_getElem? (i := 13) rfl)
theorem cd_104_24 : mt_cd 104 24 = some (.iload 4) := mt_cd_of (q := (24, .iload 4, 2)) mq_104 ci_104 (List.mem_of_getElem? (i := 14) rfl)
theorem cd_104_26 : mt_cd 104 26 = some (.bipush 10) := mt_cd_of (q := (26, .bipush 10, 2)) mq_104 ci_104 (List.mem_of_getElem? (i := 15) rfl)
theorem cd_104_28 : mt_cd 104 28 = some (.if_icmp .ne 21) := mt_cd_of (q := (28, .if_icmp .ne 21, 3)) mq_104 ci_104 (List.mem_of_getElem? (i := 16) rfl)
theorem cd_104_31 : mt_cd 104 31 = some (.aload_n 0) := mt_cd_of (q := (31, .aload_n 0, 1)) mq_104 ci_104 (List.mem_of_getElem? (i := 17) rfl)
theorem cd_104_32 : mt_cd 104 32 = some (.getfield 38) := mt_cd_of (q := (32, .getfield 38, 3)) mq_104 ci_104 (List.mem_of_getElem? (i := 18) rfl)
theorem cd_104_35 : mt_cd 104 35 = some (.aload_n 0) := mt_cd_of (q := (35, .aload_n 0, 1)) mq_104 ci_104 (List.mem_of_getElem? (i := 19) rfl)
theorem cd_104_36 : mt_cd 104 36 = some (.getfield 18) := mt_cd_of (q := (36, .getfield 18, 3)) mq_104 ci_104 (List.mem_of_getElem? (i := 20) rfl)
theorem cd_104_39 : mt_cd 104 39 = some (.getfield 118) := mt_cd_of (q := (39, .getfield 118, 3)) mq_104 ci_104 (List.mem_of_getElem? (i := 21) rfl)
theorem cd_104_42 : mt_cd 104 42 = some (.iload_n 1) := mt_cd_of (q := (42, .iload_n 1, 1)) mq_104 ci_104 (List.mem_of_getElem? (i := 22) rfl)
theorem cd_104_43 : mt_cd 104 43 = some (.iaload) := mt_cd_of (q := (43, .iaload, 1)) mq_104 ci_104 (List.mem_of_getElem? (i := 23) rfl)
theorem cd_104_44 : mt_cd 104 44 = some (.iconst 1) := mt_cd_of (q := (44, .iconst 1, 1)) mq_104 ci_104 (List.mem_of_getElem? (i := 24) rfl)
theorem cd_104_45 : mt_cd 104 45 = some (.invokevirtual 122) := mt_cd_of (q := (45, .invokevirtual 122, 3)) mq_104 ci_104 (List.mem_of_getElem? (i := 25) rfl)
theorem cd_104_48 : mt_cd 104 48 = some (.ireturn) := mt_cd_of (q := (48, .ireturn, 1)) mq_104 ci_104 (List.mem_of_getElem? (i := 26) rfl)
theorem cd_104_49 : mt_cd 104 49 = some (.aload_n 0) := mt_cd_of (q := (49, .aload_n 0, 1)) mq_104 ci_104 (List.mem_of_getElem? (i := 27) rfl)
theorem cd_104_50 : mt_cd 104 50 = some (.getfield 18) := mt_cd_of (q := (50, .getfield 18, 3)) mq_104 ci_104 (List.mem_of_getElem? (i := 28) rfl)
theorem cd_104_53 : mt_cd 104 53 = some (.getfield 157) := mt_cd_of (q := (53, .getfield 157, 3)) mq_104 ci_104 (List.mem_of_getElem? (i := 29) rfl)
theorem cd_104_56 : mt_cd 104 56 = some (.iload_n 1) := mt_cd_of (q := (56, .iload_n 1, 1)) mq_104 ci_104 (List.mem_of_getElem? (i := 30) rfl)
theorem cd_104_57 : mt_cd 104 57 = some (.iaload) := mt_cd_of (q := (57, .iaload, 1)) mq_104 ci_104 (List.mem_of_getElem? (i := 31) rfl)
theorem cd_104_58 : mt_cd 104 58 = some (.aload_n 2) := mt_cd_of (q := (58, .aload_n 2, 1)) mq_104 ci_104 (List.mem_of_getElem? (i := 32) rfl)
theorem cd_104_59 : mt_cd 104 59 = some (.getfield 204) := mt_cd_of (q := (59, .getfield 204, 3)) mq_104 ci_104 (List.mem_of_getElem? (i := 33) rfl)
theorem cd_104_62 : mt_cd 104 62 = some (.iload_n 3) := mt_cd_of (q := (62, .iload_n 3, 1)) mq_104 ci_104 (List.mem_of_getElem? (i := 34) rfl)
theorem cd_104_63 : mt_cd 104 63 = some (.iaload) := mt_cd_of (q := (63, .iaload, 1)) mq_104 ci_104 (List.mem_of_getElem? (i := 35) rfl)
theorem cd_104_64 : mt_cd 104 64 = some (.if_icmp .eq 5) := mt_cd_of (q := (64, .if_icmp .eq 5, 3)) mq_104 ci_104 (List.mem_of_getElem? (i := 36) rfl)
theorem cd_104_67 : mt_cd 104 67 = some (.iconst 0) := mt_cd_of (q := (67, .iconst 0, 1)) mq_104 ci_104 (List.mem_of_getElem? (i := 37) rfl)
theorem cd_104_68 : mt_cd 104 68 = some (.ireturn) := mt_cd_of (q := (68, .ireturn, 1)) mq_104 ci_104 (List.mem_of_getElem? (i := 38) rfl)
theorem cd_104_69 : mt_cd 104 69 = some (.aload_n 2) := mt_cd_of (q := (69, .aload_n 2, 1)) mq_104 ci_104 (List.mem_of_getElem? (i := 39) rfl)
theorem cd_104_70 : mt_cd 104 70 = some (.getfield 194) := mt_cd_of (q := (70, .getfield 194, 3)) mq_104 ci_104 (List.mem_of_getElem? (i := 40) rfl)
theorem cd_104_73 : mt_cd 104 73 = some (.iload_n 3) := mt_cd_of (q := (73, .iload_n 3, 1)) mq_104 ci_104 (List.mem_of_getElem? (i := 41) rfl)
theorem cd_104_74 : mt_cd 104 74 = some (.laload) := mt_cd_of (q := (74, .laload, 1)) mq_104 ci_104 (List.mem_of_getElem? (i := 42) rfl)
theorem cd_104_75 : mt_cd 104 75 = some (.lstore 5) := mt_cd_of (q := (75, .lstore 5, 2)) mq_104 ci_104 (List.mem_of_getElem? (i := 43) rfl)
theorem cd_104_77 : mt_cd 104 77 = some (.iload 4) := mt_cd_of (q := (77, .iload 4, 2)) mq_104 ci_104 (List.mem_of_getElem? (i := 44) rfl)
theorem cd_104_79 : mt_cd 104 79 = some (.bipush 9) := mt_cd_of (q := (79, .bipush 9, 2)) mq_104 ci_104 (List.mem_of_getElem? (i := 45) rfl)
theorem cd_104_81 : mt_cd 104 81 = some (.if_icmp .ne 14) := mt_cd_of (q := (81, .if_icmp .ne 14, 3)) mq_104 ci_104 (List.mem_of_getElem? (i := 46) rfl)
theorem cd_104_84 : mt_cd 104 84 = some (.aload_n 0) := mt_cd_of (q := (84, .aload_n 0, 1)) mq_104 ci_104 (List.mem_of_getElem? (i := 47) rfl)
theorem cd_104_85 : mt_cd 104 85 = some (.getfield 18) := mt_cd_of (q := (85, .getfield 18, 3)) mq_104 ci_104 (List.mem_of_getElem? (i := 48) rfl)
theorem cd_104_88 : mt_cd 104 88 = some (.iload_n 1) := mt_cd_of (q := (88, .iload_n 1, 1)) mq_104 ci_104 (List.mem_of_getElem? (i := 49) rfl)
theorem cd_104_89 : mt_cd 104 89 = some (.lload 5) := mt_cd_of (q := (89, .lload 5, 2)) mq_104 ci_104 (List.mem_of_getElem? (i := 50) rfl)
theorem cd_104_91 : mt_cd 104 91 = some (.invokevirtual 205) := mt_cd_of (q := (91, .invokevirtual 205, 3)) mq_104 ci_104 (List.mem_of_getElem? (i := 51) rfl)
theorem cd_104_94 : mt_cd 104 94 = some (.ireturn) := mt_cd_of (q := (94, .ireturn, 1)) mq_104 ci_104 (List.mem_of_getElem? (i := 52) rfl)
theorem cd_104_95 : mt_cd 104 95 = some (.aload_n 0) := mt_cd_of (q := (95, .aload_n 0, 1)) mq_104 ci_104 (List.mem_of_getElem? (i := 53) rfl)
theorem cd_104_96 : mt_cd 104 96 = some (.getfield 18) := mt_cd_of (q := (96, .getfield 18, 3)) mq_104 ci_104 (List.mem_of_getElem? (i := 54) rfl)
theorem cd_104_99 : mt_cd 104 99 = some (.getfield 160) := mt_cd_of (q := (99, .getfield 160, 3)) mq_104 ci_104 (List.mem_of_getElem? (i := 55) rfl)
theorem cd_104_102 : mt_cd 104 102 = some (.iload_n 1) := mt_cd_of (q := (102, .iload_n 1, 1)) mq_104 ci_104 (List.mem_of_getElem? (i := 56) rfl)
theorem cd_104_103 : mt_cd 104 103 = some (.iaload) := mt_cd_of (q := (103, .iaload, 1)) mq_104 ci_104 (List.mem_of_getElem? (i := 57) rfl)
theorem cd_104_104 : mt_cd 104 104 = some (.aload_n 2) := mt_cd_of (q := (104, .aload_n 2, 1)) mq_104 ci_104 (List.mem_of_getElem? (i := 58) rfl)
theorem cd_104_105 : mt_cd 104 105 = some (.getfield 209) := mt_cd_of (q := (105, .getfield 209, 3)) mq_104 ci_104 (List.mem_of_getElem? (i := 59) rfl)
theorem cd_104_108 : mt_cd 104 108 = some (.iload_n 3) := mt_cd_of (q := (108, .iload_n 3, 1)) mq_104 ci_104 (List.mem_of_getElem? (i := 60) rfl)
theorem cd_104_109 : mt_cd 104 109 = some (.iaload) := mt_cd_of (q := (109, .iaload, 1)) mq_104 ci_104 (List.mem_of_getElem? (i := 61) rfl)
theorem cd_104_110 : mt_cd 104 110 = some (.if_icmp .ne 48) := mt_cd_of (q := (110, .if_icmp .ne 48, 3)) mq_104 ci_104 (List.mem_of_getElem? (i := 62) rfl)
theorem cd_104_113 : mt_cd 104 113 = some (.aload_n 0) := mt_cd_of (q := (113, .aload_n 0, 1)) mq_104 ci_104 (List.mem_of_getElem? (i := 63) rfl)
theorem cd_104_114 : mt_cd 104 114 = some (.getfield 18) := mt_cd_of (q := (114, .getfield 18, 3)) mq_104 ci_104 (List.mem_of_getElem? (i := 64) rfl)
theorem cd_104_117 : mt_cd 104 117 = some (.getfield 163) := mt_cd_of (q := (117, .getfield 163, 3)) mq_104 ci_104 (List.mem_of_getElem? (i := 65) rfl)
theorem cd_104_120 : mt_cd 104 120 = some (.iload_n 1) := mt_cd_of (q := (120, .iload_n 1, 1)) mq_104 ci_104 (List.mem_of_getElem? (i := 66) rfl)
theorem cd_104_121 : mt_cd 104 121 = some (.iaload) := mt_cd_of (q := (121, .iaload, 1)) mq_104 ci_104 (List.mem_of_getElem? (i := 67) rfl)
theorem cd_104_122 : mt_cd 104 122 = some (.aload_n 2) := mt_cd_of (q := (122, .aload_n 2, 1)) mq_104 ci_104 (List.mem_of_getElem? (i := 68) rfl)
theorem cd_104_123 : mt_cd 104 123 = some (.getfield 210) := mt_cd_of (q := (123, .getfield 210, 3)) mq_104 ci_104 (List.mem_of_getElem? (i := 69) rfl)
theorem cd_104_126 : mt_cd 104 126 = some (.iload_n 3) := mt_cd_of (q := (126, .iload_n 3, 1)) mq_104 ci_104 (List.mem_of_getElem? (i := 70) rfl)
theorem cd_104_127 : mt_cd 104 127 = some (.iaload) := mt_cd_of (q := (127, .iaload, 1)) mq_104 ci_104 (List.mem_of_getElem? (i := 71) rfl)
theorem cd_104_128 : mt_cd 104 128 = some (.if_icmp .ne 30) := mt_cd_of (q := (128, .if_icmp .ne 30, 3)) mq_104 ci_104 (List.mem_of_getElem? (i := 72) rfl)
theorem cd_104_131 : mt_cd 104 131 = some (.aload_n 0) := mt_cd_of (q := (131, .aload_n 0, 1)) mq_104 ci_104 (List.mem_of_getElem? (i := 73) rfl)
theorem cd_104_132 : mt_cd 104 132 = some (.getfield 38) := mt_cd_of (q := (132, .getfield 38, 3)) mq_104 ci_104 (List.mem_of_getElem? (i := 74) rfl)
theorem cd_104_135 : mt_cd 104 135 = some (.aload_n 0) := mt_cd_of (q := (135, .aload_n 0, 1)) mq_104 ci_104 (List.mem_of_getElem? (i := 75) rfl)
theorem cd_104_136 : mt_cd 104 136 = some (.getfield 18) := mt_cd_of (q := (136, .getfield 18, 3)) mq_104 ci_104 (List.mem_of_getElem? (i := 76) rfl)
theorem cd_104_139 : mt_cd 104 139 = some (.getfield 118) := mt_cd_of (q := (139, .getfield 118, 3)) mq_104 ci_104 (List.mem_of_getElem? (i := 77) rfl)
theorem cd_104_142 : mt_cd 104 142 = some (.iload_n 1) := mt_cd_of (q := (142, .iload_n 1, 1)) mq_104 ci_104 (List.mem_of_getElem? (i := 78) rfl)
theorem cd_104_143 : mt_cd 104 143 = some (.iaload) := mt_cd_of (q := (143, .iaload, 1)) mq_104 ci_104 (List.mem_of_getElem? (i := 79) rfl)
theorem cd_104_144 : mt_cd 104 144 = some (.iconst 1) := mt_cd_of (q := (144, .iconst 1, 1)) mq_104 ci_104 (List.mem_of_getElem? (i := 80) rfl)
theorem cd_104_145 : mt_cd 104 145 = some (.invokevirtual 153) := mt_cd_of (q := (145, .invokevirtual 153, 3)) mq_104 ci_104 (List.mem_of_getElem? (i := 81) rfl)
theorem cd_104_148 : mt_cd 104 148 = some (.lload 5) := mt_cd_of (q := (148, .lload 5, 2)) mq_104 ci_104 (List.mem_of_getElem? (i := 82) rfl)
theorem cd_104_150 : mt_cd 104 150 = some (.lcmp) := mt_cd_of (q := (150, .lcmp, 1)) mq_104 ci_104 (List.mem_of_getElem? (i := 83) rfl)
theorem cd_104_151 : mt_cd 104 151 = some (.ifCond .ne 7) := mt_cd_of (q := (151, .ifCond .ne 7, 3)) mq_104 ci_104 (List.mem_of_getElem? (i := 84) rfl)
theorem cd_104_154 : mt_cd 104 154 = some (.iconst 1) := mt_cd_of (q := (154, .iconst 1, 1)) mq_104 ci_104 (List.mem_of_getElem? (i := 85) rfl)
theorem cd_104_155 : mt_cd 104 155 = some (.goto 4) := mt_cd_of (q := (155, .goto 4, 3)) mq_104 ci_104 (List.mem_of_getElem? (i := 86) rfl)
theorem cd_104_158 : mt_cd 104 158 = some (.iconst 0) := mt_cd_of (q := (158, .iconst 0, 1)) mq_104 ci_104 (List.mem_of_getElem? (i := 87) rfl)
theorem cd_104_159 : mt_cd 104 159 = some (.ireturn) := mt_cd_of (q := (159, .ireturn, 1)) mq_104 ci_104 (List.mem_of_getElem? (i := 88) rfl)
theorem b_104_0 {d : Nat} {Q : (Option Value ⊕ Nat) → mi_H → Prop} (n sl : Nat) (f : Nat → mi_C) {l1 : Nat} {l2 : Int32} {l3 : Nat} {l4 : Int32} {o5 : Option Value} {o6 : Option Value} {o7 : Option Value} {fs8 : List Value} {x11 : Nat} {fs13 : List Value} {x16 : Nat} (m18 i18 : Nat) (g18 : Nat → Int32) {fs22 : List Value} {x25 : Nat} (m27 i27 : Nat) (g27 : Nat → Int32) (h9 : f l1 = .inr (7, fs8)) (h10 : l1 < n) (h12 : fs8[0]? = some (.ref x11)) (h14 : f x11 = .inr (2, fs13)) (h15 : x11 < n) (h17 : fs13[0]? = some (.ref x16)) (h19 : f x16 = .inl (0, m18, .inl g18)) (h20 : x16 < n ∨ x16 = mi_SC) (h21 : mi_ix l2 m18 i18) (h23 : f l3 = .inr (6, fs22)) (h24 : l3 < n) (h26 : fs22[0]? = some (.ref x25)) (h28 : f x25 = .inl (0, m27, .inl g27)) (h29 : x25 < n ∨ x25 = mi_SC) (h30 : mi_ix l4 m27 i27) (h31 : (g18 i18) = (g27 i27) → mi_W d 104 24 [some (.ref l1), some (.int l2), some (.ref l3), some (.int l4), some (.int (g18 i18)), o6, o7] [] (n, sl, f) Q) (h32 : ¬ ((g18 i18) = (g27 i27)) → mi_W d 104 22 [some (.ref l1), some (.int l2), some (.ref l3), some (.int l4), some (.int (g18 i18)), o6, o7] [] (n, sl, f) Q) : mi_W d 104 0 [some (.ref l1), some (.int l2), some (.ref l3), some (.int l4), o5, o6, o7] [] (n, sl, f) Q := by
  refine w_aload_n cd_104_0 rfl ?_
  refine w_getfield cd_104_1 (show mt_f 7 18 = some (7, 0) by decide +kernel) h9 h10 h12 ?_
  refine w_getfield cd_104_4 (show mt_f 7 200 = some (2, 0) by decide +kernel) h14 h15 h17 ?_
  refine w_iload_n cd_104_7 rfl ?_
  refine w_iaload cd_104_8 h19 h20 h21 ?_
  refine w_istore (ls' := [some (.ref l1), some (.int l2), some (.ref l3), some (.int l4), some (.int (g18 i18)), o6, o7]) cd_104_9 (Nat.le_of_ble_eq_true rfl) rfl ?_
  refine w_iload cd_104_11 rfl ?_
  refine w_aload_n cd_104_13 rfl ?_
  refine w_getfield cd_104_14 (show mt_f 7 203 = some (6, 0) by decide +kernel) h23 h24 h26 ?_
  refine w_iload_n cd_104_17 rfl ?_
  refine w_iaload cd_104_18 h28 h29 h30 ?_
  exact w_if_icmpeq cd_104_19 (by decide) h31 h32
theorem b_104_22 {d : Nat} {Q : (Option Value ⊕ Nat) → mi_H → Prop} (n sl : Nat) (f : Nat → mi_C) {l1 : Nat} {l2 : Int32} {l3 : Nat} {l4 : Int32} {l5 : Int32} {o6 : Option Value} {o7 : Option Value} (h8 : Q (.inl (some (.int 0))) (n, sl, f)) : mi_W d 104 22 [some (.ref l1), some (.int l2), some (.ref l3), some (.int l4), some (.int l5), o6, o7] [] (n, sl, f) Q := by
  refine w_iconst (v := 0) cd_104_22 (by decide) ?_
  exact w_ireturn_z cd_104_23 (by decide +kernel) (by decide) h8
theorem b_104_24 {d : Nat} {Q : (Option Value ⊕ Nat) → mi_H → Prop} (n sl : Nat) (f : Nat → mi_C) {l1 : Nat} {l2 : Int32} {l3 : Nat} {l4 : Int32} {l5 : Int32} {o6 : Option Value} {o7 : Option Value} (h8 : ¬ l5 = 10 → mi_W d 104 49 [some (.ref l1), some (.int l2), some (.ref l3), some (.int l4), some (.int l5), o6, o7] [] (n, sl, f) Q) (h9 : ¬ (¬ l5 = 10) → mi_W d 104 31 [some (.ref l1), some (.int l2), some (.ref l3), some (.int l4), some (.int l5), o6, o7] [] (n, sl, f) Q) : mi_W d 104 24 [some (.ref l1), some (.int l2), some (.ref l3), some (.int l4), some (.int l5), o6, o7] [] (n, sl, f) Q := by
  refine w_iload cd_104_24 rfl ?_
  refine w_bipush (v := 10) cd_104_26 (by decide) ?_
  exact w_if_icmpne cd_104_28 (by decide) h8 h9
theorem b_104_31 {d : Nat} {Q : (Option Value ⊕ Nat) → mi_H → Prop} (n sl : Nat) (f : Nat → mi_C) {l1 : Nat} {l2 : Int32} {l3 : Nat} {l4 : Int32} {l5 : Int32} {o6 : Option Value} {o7 : Option Value} {fs8 : List Value} {x11 : Nat} {fs13 : List Value} {x16 : Nat} {fs18 : List Value} {x21 : Nat} (m23 i23 : Nat) (g23 : Nat → Int32) {fs27 : List Value} (h9 : f l1 = .inr (7, fs8)) (h10 : l1 < n) (h12 : fs8[2]? = some (.ref x11)) (h14 : f l1 = .inr (7, fs13)) (h15 : l1 < n) (h17 : fs13[0]? = some (.ref x16)) (h19 : f x16 = .inr (2, fs18)) (h20 : x16 < n) (h22 : fs18[1]? = some (.ref x21)) (h24 : f x21 = .inl (0, m23, .inl g23)) (h25 : x21 < n ∨ x21 = mi_SC) (h26 : mi_ix l2 m23 i23) (h28 : f x11 = .inr (10, fs27)) (h29 : x11 < n) (h30 : mi_W d 90 0 (mi_en 6 [.ref x11, .int (g23 i23), .int 1]) [] (n, sl, f) (mi_Kc d 104 45 [some (.ref l1), some (.int l2), some (.ref l3), some (.int l4), some (.int l5), o6, o7] [] Q)) : mi_W (d + 1) 104 31 [some (.ref l1), some (.int l2), some (.ref l3), some (.int l4), some (.int l5), o6, o7] [] (n, sl, f) Q := by
  refine w_aload_n cd_104_31 rfl ?_
  refine w_getfield cd_104_32 (show mt_f 7 38 = some (7, 2) by decide +kernel) h9 h10 h12 ?_
  refine w_aload_n cd_104_35 rfl ?_
  refine w_getfield cd_104_36 (show mt_f 7 18 = some (7, 0) by decide +kernel) h14 h15 h17 ?_
  refine w_getfield cd_104_39 (show mt_f 7 118 = some (2, 1) by decide +kernel) h19 h20 h22 ?_
  refine w_iload_n cd_104_42 rfl ?_
  refine w_iaload cd_104_43 h24 h25 h26 ?_
  refine w_iconst (v := 1) cd_104_44 (by decide) ?_
  exact w_invokevirtual cd_104_45 (show mt_m 7 122 = some (90, 0) by decide +kernel) (rest := []) rfl (as := [.ref x11, .int (g23 i23), .int 1]) rfl h28 (Or.inl h29) ⟨Nat.le_of_ble_eq_true rfl, Nat.le_of_ble_eq_true rfl, Nat.le_of_ble_eq_true rfl⟩ h30
theorem b_104_48 {d : Nat} {Q : (Option Value ⊕ Nat) → mi_H → Prop} (n sl : Nat) (f : Nat → mi_C) {l1 : Nat} {l2 : Int32} {l3 : Nat} {l4 : Int32} {l5 : Int32} {o6 : Option Value} {o7 : Option Value} {s8 : Int32} (h9 : s8 = 0 ∨ s8 = 1) (h10 : Q (.inl (some (.int s8))) (n, sl, f)) : mi_W d 104 48 [some (.ref l1), some (.int l2), some (.ref l3), some (.int l4), some (.int l5), o6, o7] [.int s8] (n, sl, f) Q := by
  exact w_ireturn_z cd_104_48 (by decide +kernel) h9 h10
theorem b_104_49 {d : Nat} {Q : (Option Value ⊕ Nat) → mi_H → Prop} (n sl : Nat) (f : Nat → mi_C) {l1 : Nat} {l2 : Int32} {l3 : Nat} {l4 : Int32} {l5 : Int32} {o6 : Option Value} {o7 : Option Value} {fs8 : List Value} {x11 : Nat} {fs13 : List Value} {x16 : Nat} (m18 i18 : Nat) (g18 : Nat → Int32) {fs22 : List Value} {x25 : Nat} (m27 i27 : Nat) (g27 : Nat → Int32) (h9 : f l1 = .inr (7, fs8)) (h10 : l1 < n) (h12 : fs8[0]? = some (.ref x11)) (h14 : f x11 = .inr (2, fs13)) (h15 : x11 < n) (h17 : fs13[4]? = some (.ref x16)) (h19 : f x16 = .inl (0, m18, .inl g18)) (h20 : x16 < n ∨ x16 = mi_SC) (h21 : mi_ix l2 m18 i18) (h23 : f l3 = .inr (6, fs22)) (h24 : l3 < n) (h26 : fs22[1]? = some (.ref x25)) (h28 : f x25 = .inl (0, m27, .inl g27)) (h29 : x25 < n ∨ x25 = mi_SC) (h30 : mi_ix l4 m27 i27) (h31 : (g18 i18) = (g27 i27) → mi_W d 104 69 [some (.ref l1), some (.int l2), some (.ref l3), some (.int l4), some (.int l5), o6, o7] [] (n, sl, f) Q) (h32 : ¬ ((g18 i18) = (g27 i27)) → mi_W d 104 67 [some (.ref l1), some (.int l2), some (.ref l3), some (.int l4), some (.int l5), o6, o7] [] (n, sl, f) Q) : mi_W d 104 49 [some (.ref l1), some (.int l2), some (.ref l3), some (.int l4), some (.int l5), o6, o7] [] (n, sl, f) Q := by
  refine w_aload_n cd_104_49 rfl ?_
  refine w_getfield cd_104_50 (show mt_f 7 18 = some (7, 0) by decide +kernel) h9 h10 h12 ?_
  refine w_getfield cd_104_53 (show mt_f 7 157 = some (2, 4) by decide +kernel) h14 h15 h17 ?_
  refine w_iload_n cd_104_56 rfl ?_
  refine w_iaload cd_104_57 h19 h20 h21 ?_
  refine w_aload_n cd_104_58 rfl ?_
  refine w_getfield cd_104_59 (show mt_f 7 204 = some (6, 1) by decide +kernel) h23 h24 h26 ?_
  refine w_iload_n cd_104_62 rfl ?_
  refine w_iaload cd_104_63 h28 h29 h30 ?_
  exact w_if_icmpeq cd_104_64 (by decide) h31 h32
theorem b_104_67 {d : Nat} {Q : (Option Value ⊕ Nat) → mi_H → Prop} (n sl : Nat) (f : Nat → mi_C) {l1 : Nat} {l2 : Int32} {l3 : Nat} {l4 : Int32} {l5 : Int32} {o6 : Option Value} {o7 : Option Value} (h8 : Q (.inl (some (.int 0))) (n, sl, f)) : mi_W d 104 67 [some (.ref l1), some (.int l2), some (.ref l3), some (.int l4), some (.int l5), o6, o7] [] (n, sl, f) Q := by
  refine w_iconst (v := 0) cd_104_67 (by decide) ?_
  exact w_ireturn_z cd_104_68 (by decide +kernel) (by decide) h8
theorem b_104_69 {d : Nat} {Q : (Option Value ⊕ Nat) → mi_H → Prop} (n sl : Nat) (f : Nat → mi_C) {l1 : Nat} {l2 : Int32} {l3 : Nat} {l4 : Int32} {l5 : Int32} {o6 : Option Value} {o7 : Option Value} {fs8 : List Value} {x11 : Nat} (m13 i13 : Nat) (g13 : Nat → Int64) (h9 : f l3 = .inr (6, fs8)) (h10 : l3 < n) (h12 : fs8[4]? = some (.ref x11)) (h14 : f x11 = .inl (3, m13, .inr (.inl g13))) (h15 : x11 < n) (h16 : mi_ix l4 m13 i13) (h17 : ¬ l5 = 9 → mi_W d 104 95 [some (.ref l1), some (.int l2), some (.ref l3), some (.int l4), some (.int l5), some (.long (g13 i13)), none] [] (n, sl, f) Q) (h18 : ¬ (¬ l5 = 9) → mi_W d 104 84 [some (.ref l1), some (.int l2), some (.ref l3), some (.int l4), some (.int l5), some (.long (g13 i13)), none] [] (n, sl, f) Q) : mi_W d 104 69 [some (.ref l1), some (.int l2), some (.ref l3), some (.int l4), some (.int l5), o6, o7] [] (n, sl, f) Q := by
  refine w_aload_n cd_104_69 rfl ?_
  refine w_getfield cd_104_70 (show mt_f 7 194 = some (6, 4) by decide +kernel) h9 h10 h12 ?_
  refine w_iload_n cd_104_73 rfl ?_
  refine w_laload cd_104_74 h14 h15 h16 ?_
  refine w_lstore (ls' := [some (.ref l1), some (.int l2), some (.ref l3), some (.int l4), some (.int l5), some (.long (g13 i13)), none]) cd_104_75 (Nat.le_of_ble_eq_true rfl) rfl ?_
  refine w_iload cd_104_77 rfl ?_
  refine w_bipush (v := 9) cd_104_79 (by decide) ?_
  exact w_if_icmpne cd_104_81 (by decide) h17 h18
theorem b_104_84 {d : Nat} {Q : (Option Value ⊕ Nat) → mi_H → Prop} (n sl : Nat) (f : Nat → mi_C) {l1 : Nat} {l2 : Int32} {l3 : Nat} {l4 : Int32} {l5 : Int32} {l6 : Int64} {fs7 : List Value} {x10 : Nat} {fs12 : List Value} (h8 : f l1 = .inr (7, fs7)) (h9 : l1 < n) (h11 : fs7[0]? = some (.ref x10)) (h13 : f x10 = .inr (2, fs12)) (h14 : x10 < n) (h15 : mi_W d 105 0 (mi_en 5 [.ref x10, .int l2, .long l6]) [] (n, sl, f) (mi_Kc d 104 91 [some (.ref l1), some (.int l2), some (.ref l3), some (.int l4), some (.int l5), some (.long l6), none] [] Q)) : mi_W (d + 1) 104 84 [some (.ref l1), some (.int l2), some (.ref l3), some (.int l4), some (.int l5), some (.long l6), none] [] (n, sl, f) Q := by
  refine w_aload_n cd_104_84 rfl ?_
  refine w_getfield cd_104_85 (show mt_f 7 18 = some (7, 0) by decide +kernel) h8 h9 h11 ?_
  refine w_iload_n cd_104_88 rfl ?_
  refine w_lload cd_104_89 rfl ?_
  exact w_invokevirtual cd_104_91 (show mt_m 7 205 = some (105, 0) by decide +kernel) (rest := []) rfl (as := [.ref x10, .int l2, .long l6]) rfl h13 (Or.inl h14) ⟨Nat.le_of_ble_eq_true rfl, Nat.le_of_ble_eq_true rfl, Nat.le_of_ble_eq_true rfl⟩ h15
theorem b_104_94 {d : Nat} {Q : (Option Value ⊕ Nat) → mi_H → Prop} (n sl : Nat) (f : Nat → mi_C) {l1 : Nat} {l2 : Int32} {l3 : Nat} {l4 : Int32} {l5 : Int32} {l6 : Int64} {s7 : Int32} (h8 : s7 = 0 ∨ s7 = 1) (h9 : Q (.inl (some (.int s7))) (n, sl, f)) : mi_W d 104 94 [some (.ref l1), some (.int l2), some (.ref l3), some (.int l4), some (.int l5), some (.long l6), none] [.int s7] (n, sl, f) Q := by
  exact w_ireturn_z cd_104_94 (by decide +kernel) h8 h9
theorem b_104_95 {d : Nat} {Q : (Option Value ⊕ Nat) → mi_H → Prop} (n sl : Nat) (f : Nat → mi_C) {l1 : Nat} {l2 : Int32} {l3 : Nat} {l4 : Int32} {l5 : Int32} {l6 : Int64} {fs7 : List Value} {x10 : Nat} {fs12 : List Value} {x15 : Nat} (m17 i17 : Nat) (g17 : Nat → Int32) {fs21 : List Value} {x24 : Nat} (m26 i26 : Nat) (g26 : Nat → Int32) (h8 : f l1 = .inr (7, fs7)) (h9 : l1 < n) (h11 : fs7[0]? = some (.ref x10)) (h13 : f x10 = .inr (2, fs12)) (h14 : x10 < n) (h16 : fs12[5]? = some (.ref x15)) (h18 : f x15 = .inl (0, m17, .inl g17)) (h19 : x15 < n ∨ x15 = mi_SC) (h20 : mi_ix l2 m17 i17) (h22 : f l3 = .inr (6, fs21)) (h23 : l3 < n) (h25 : fs21[2]? = some (.ref x24)) (h27 : f x24 = .inl (0, m26, .inl g26)) (h28 : x24 < n ∨ x24 = mi_SC) (h29 : mi_ix l4 m26 i26) (h30 : ¬ (g17 i17) = (g26 i26) → mi_W d 104 158 [some (.ref l1), some (.int l2), some (.ref l3), some (.int l4), some (.int l5), some (.long l6), none] [] (n, sl, f) Q) (h31 : ¬ (¬ (g17 i17) = (g26 i26)) → mi_W d 104 113 [some (.ref l1), some (.int l2), some (.ref l3), some (.int l4), some (.int l5), some (.long l6), none] [] (n, sl, f) Q) : mi_W d 104 95 [some (.ref l1), some (.int l2), some (.ref l3), some (.int l4), some (.int l5), some (.long l6), none] [] (n, sl, f) Q := by
  refine w_aload_n cd_104_95 rfl ?_
  refine w_getfield cd_104_96 (show mt_f 7 18 = some (7, 0) by decide +kernel) h8 h9 h11 ?_
  refine w_getfield cd_104_99 (show mt_f 7 160 = some (2, 5) by decide +kernel) h13 h14 h16 ?_
  refine w_iload_n cd_104_102 rfl ?_
  refine w_iaload cd_104_103 h18 h19 h20 ?_
  refine w_aload_n cd_104_104 rfl ?_
  refine w_getfield cd_104_105 (show mt_f 7 209 = some (6, 2) by decide +kernel) h22 h23 h25 ?_
  refine w_iload_n cd_104_108 rfl ?_
  refine w_iaload cd_104_109 h27 h28 h29 ?_
  exact w_if_icmpne cd_104_110 (by decide) h30 h31
theorem b_104_113 {d : Nat} {Q : (Option Value ⊕ Nat) → mi_H → Prop} (n sl : Nat) (f : Nat → mi_C) {l1 : Nat} {l2 : Int32} {l3 : Nat} {l4 : Int32} {l5 : Int32} {l6 : Int64} {fs7 : List Value} {x10 : Nat} {fs12 : List Value} {x15 : Nat} (m17 i17 : Nat) (g17 : Nat → Int32) {fs21 : List Value} {x24 : Nat} (m26 i26 : Nat) (g26 : Nat → Int32) (h8 : f l1 = .inr (7, fs7)) (h9 : l1 < n) (h11 : fs7[0]? = some (.ref x10)) (h13 : f x10 = .inr (2, fs12)) (h14 : x10 < n) (h16 : fs12[6]? = some (.ref x15)) (h18 : f x15 = .inl (0, m17, .inl g17)) (h19 : x15 < n ∨ x15 = mi_SC) (h20 : mi_ix l2 m17 i17) (h22 : f l3 = .inr (6, fs21)) (h23 : l3 < n) (h25 : fs21[3]? = some (.ref x24)) (h27 : f x24 = .inl (0, m26, .inl g26)) (h28 : x24 < n ∨ x24 = mi_SC) (h29 : mi_ix l4 m26 i26) (h30 : ¬ (g17 i17) = (g26 i26) → mi_W d 104 158 [some (.ref l1), some (.int l2), some (.ref l3), some (.int l4), some (.int l5), some (.long l6), none] [] (n, sl, f) Q) (h31 : ¬ (¬ (g17 i17) = (g26 i26)) → mi_W d 104 131 [some (.ref l1), some (.int l2), some (.ref l3), some (.int l4), some (.int l5), some (.long l6), none] [] (n, sl, f) Q) : mi_W d 104 113 [some (.ref l1), some (.int l2), some (.ref l3), some (.int l4), some (.int l5), some (.long l6), none] [] (n, sl, f) Q := by
  refine w_aload_n cd_104_113 rfl ?_
  refine w_getfield cd_104_114 (show mt_f 7 18 = some (7, 0) by decide +kernel) h8 h9 h11 ?_
  refine w_getfield cd_104_117 (show mt_f 7 163 = some (2, 6) by decide +kernel) h13 h14 h16 ?_
  refine w_iload_n cd_104_120 rfl ?_
  refine w_iaload cd_104_121 h18 h19 h20 ?_
  refine w_aload_n cd_104_122 rfl ?_
  refine w_getfield cd_104_123 (show mt_f 7 210 = some (6, 3) by decide +kernel) h22 h23 h25 ?_
  refine w_iload_n cd_104_126 rfl ?_
  refine w_iaload cd_104_127 h27 h28 h29 ?_
  exact w_if_icmpne cd_104_128 (by decide) h30 h31
theorem b_104_131 {d : Nat} {Q : (Option Value ⊕ Nat) → mi_H → Prop} (n sl : Nat) (f : Nat → mi_C) {l1 : Nat} {l2 : Int32} {l3 : Nat} {l4 : Int32} {l5 : Int32} {l6 : Int64} {fs7 : List Value} {x10 : Nat} {fs12 : List Value} {x15 : Nat} {fs17 : List Value} {x20 : Nat} (m22 i22 : Nat) (g22 : Nat → Int32) {fs26 : List Value} (h8 : f l1 = .inr (7, fs7)) (h9 : l1 < n) (h11 : fs7[2]? = some (.ref x10)) (h13 : f l1 = .inr (7, fs12)) (h14 : l1 < n) (h16 : fs12[0]? = some (.ref x15)) (h18 : f x15 = .inr (2, fs17)) (h19 : x15 < n) (h21 : fs17[1]? = some (.ref x20)) (h23 : f x20 = .inl (0, m22, .inl g22)) (h24 : x20 < n ∨ x20 = mi_SC) (h25 : mi_ix l2 m22 i22) (h27 : f x10 = .inr (10, fs26)) (h28 : x10 < n) (h29 : mi_W d 85 0 (mi_en 5 [.ref x10, .int (g22 i22), .int 1]) [] (n, sl, f) (mi_Kc d 104 145 [some (.ref l1), some (.int l2), some (.ref l3), some (.int l4), some (.int l5), some (.long l6), none] [] Q)) : mi_W (d + 1) 104 131 [some (.ref l1), some (.int l2), some (.ref l3), some (.int l4), some (.int l5), some (.long l6), none] [] (n, sl, f) Q := by
  refine w_aload_n cd_104_131 rfl ?_
  refine w_getfield cd_104_132 (show mt_f 7 38 = some (7, 2) by decide +kernel) h8 h9 h11 ?_
  refine w_aload_n cd_104_135 rfl ?_
  refine w_getfield cd_104_136 (show mt_f 7 18 = some (7, 0) by decide +kernel) h13 h14 h16 ?_
  refine w_getfield cd_104_139 (show mt_f 7 118 = some (2, 1) by decide +kernel) h18 h19 h21 ?_
  refine w_iload_n cd_104_142 rfl ?_
  refine w_iaload cd_104_143 h23 h24 h25 ?_
  refine w_iconst (v := 1) cd_104_144 (by decide) ?_
  exact w_invokevirtual cd_104_145 (show mt_m 7 153 = some (85, 0) by decide +kernel) (rest := []) rfl (as := [.ref x10, .int (g22 i22), .int 1]) rfl h27 (Or.inl h28) ⟨Nat.le_of_ble_eq_true rfl, Nat.le_of_ble_eq_true rfl, Nat.le_of_ble_eq_true rfl⟩ h29
theorem b_104_148 {d : Nat} {Q : (Option Value ⊕ Nat) → mi_H → Prop} (n sl : Nat) (f : Nat → mi_C) {l1 : Nat} {l2 : Int32} {l3 : Nat} {l4 : Int32} {l5 : Int32} {l6 : Int64} {s7 : Int64} (h8 : ¬ (lg_cmp s7 l6) = (0 : Int32) → mi_W d 104 158 [some (.ref l1), some (.int l2), some (.ref l3), some (.int l4), some (.int l5), some (.long l6), none] [] (n, sl, f) Q) (h9 : ¬ (¬ (lg_cmp s7 l6) = (0 : Int32)) → mi_W d 104 154 [some (.ref l1), some (.int l2), some (.ref l3), some (.int l4), some (.int l5), some (.long l6), none] [] (n, sl, f) Q) : mi_W d 104 148 [some (.ref l1), some (.int l2), some (.ref l3), some (.int l4), some (.int l5), some (.long l6), none] [.long s7] (n, sl, f) Q := by
  refine w_lload cd_104_148 rfl ?_
  refine w_lcmp cd_104_150 ?_
  exact w_ifne cd_104_151 (by decide) h8 h9
theorem b_104_154 {d : Nat} {Q : (Option Value ⊕ Nat) → mi_H → Prop} (n sl : Nat) (f : Nat → mi_C) {l1 : Nat} {l2 : Int32} {l3 : Nat} {l4 : Int32} {l5 : Int32} {l6 : Int64} (h7 : mi_W d 104 159 [some (.ref l1), some (.int l2), some (.ref l3), some (.int l4), some (.int l5), some (.long l6), none] [.int 1] (n, sl, f) Q) : mi_W d 104 154 [some (.ref l1), some (.int l2), some (.ref l3), some (.int l4), some (.int l5), some (.long l6), none] [] (n, sl, f) Q := by
  refine w_iconst (v := 1) cd_104_154 (by decide) ?_
  exact w_goto cd_104_155 (by decide) h7
theorem b_104_158 {d : Nat} {Q : (Option Value ⊕ Nat) → mi_H → Prop} (n sl : Nat) (f : Nat → mi_C) {l1 : Nat} {l2 : Int32} {l3 : Nat} {l4 : Int32} {l5 : Int32} {l6 : Int64} (h7 : mi_W d 104 159 [some (.ref l1), some (.int l2), some (.ref l3), some (.int l4), some (.int l5), some (.long l6), none] [.int 0] (n, sl, f) Q) : mi_W d 104 158 [some (.ref l1), some (.int l2), some (.ref l3), some (.int l4), some (.int l5), some (.long l6), none] [] (n, sl, f) Q := by
  refine w_iconst (v := 0) cd_104_158 (by decide) ?_
  exact h7
theorem b_104_159 {d : Nat} {Q : (Option Value ⊕ Nat) → mi_H → Prop} (n sl : Nat) (f : Nat → mi_C) {l1 : Nat} {l2 : Int32} {l3 : Nat} {l4 : Int32} {l5 : Int32} {l6 : Int64} {s7 : Int32} (h8 : s7 = 0 ∨ s7 = 1) (h9 : Q (.inl (some (.int s7))) (n, sl, f)) : mi_W d 104 159 [some (.ref l1), some (.int l2), some (.ref l3), some (.int l4), some (.int l5), some (.long l6), none] [.int s7] (n, sl, f) Q := by
  exact w_ireturn_z cd_104_159 (by decide +kernel) h8 h9
/-! MarloweHost$Tree.isWithin(IJ)Z -/
set_option maxRecDepth 100000 in
theorem mq_105 : mt_q 105 = my_105 := rfl
set_option maxRecDepth 100000 in
theorem ci_105 : mt_inc 0 my_105.cd = true := by decide +kernel
theorem cd_105_0 : mt_cd 105 0 = some (.aload_n 0) := mt_cd_of (q := (0, .aload_n 0, 1)) mq_105 ci_105 (List.mem_of_getElem? (i := 0) rfl)
theorem cd_105_1 : mt_cd 105 1 = some (.getfield 27) := mt_cd_of (q := (1, .getfield 27, 3)) mq_105 ci_105 (List.mem_of_getElem? (i := 1) rfl)
theorem cd_105_4 : mt_cd 105 4 = some (.iload_n 1) := mt_cd_of (q := (4, .iload_n 1, 1)) mq_105 ci_105 (List.mem_of_getElem? (i := 2) rfl)
theorem cd_105_5 : mt_cd 105 5 = some (.iaload) := mt_cd_of (q := (5, .iaload, 1)) mq_105 ci_105 (List.mem_of_getElem? (i := 3) rfl)
theorem cd_105_6 : mt_cd 105 6 = some (.istore 4) := mt_cd_of (q := (6, .istore 4, 2)) mq_105 ci_105 (List.mem_of_getElem? (i := 4) rfl)
theorem cd_105_8 : mt_cd 105 8 = some (.iload 4) := mt_cd_of (q := (8, .iload 4, 2)) mq_105 ci_105 (List.mem_of_getElem? (i := 5) rfl)
theorem cd_105_10 : mt_cd 105 10 = some (.ifCond .lt 50) := mt_cd_of (q := (10, .ifCond .lt 50, 3)) mq_105 ci_105 (List.mem_of_getElem? (i := 6) rfl)
theorem cd_105_13 : mt_cd 105 13 = some (.iload 4) := mt_cd_of (q := (13, .iload 4, 2)) mq_105 ci_105 (List.mem_of_getElem? (i := 7) rfl)
theorem cd_105_15 : mt_cd 105 15 = some (.iconst 1) := mt_cd_of (q := (15, .iconst 1, 1)) mq_105 ci_105 (List.mem_of_getElem? (i := 8) rfl)
theorem cd_105_16 : mt_cd 105 16 = some (.iadd) := mt_cd_of (q := (16, .iadd, 1)) mq_105 ci_105 (List.mem_of_getElem? (i := 9) rfl)
theorem cd_105_17 : mt_cd 105 17 = some (.aload_n 0) := mt_cd_of (q := (17, .aload_n 0, 1)) mq_105 ci_105 (List.mem_of_getElem? (i := 10) rfl)
theorem cd_105_18 : mt_cd 105 18 = some (.getfield 30) := mt_cd_of (q := (18, .getfield 30, 3)) mq_105 ci_105 (List.mem_of_getElem? (i := 11) rfl)
theorem cd_105_21 : mt_cd 105 21 = some (.iload_n 1) := mt_cd_of (q := (21, .iload_n 1, 1)) mq_105 ci_105 (List.mem_of_getElem? (i := 12) rfl)
theorem cd_105_22 : mt_cd 105 22 = some (.iaload) := mt_cd_of (q := (22, .iaload, 1)) mq_105 ci_105 (List.mem_of_getElem? (i := 13) rfl)
theorem cd_105_23 : mt_cd 105 23 = some (.if_icmp .ge 37) := mt_cd_of (q := (23, .if_icmp .ge 37, 3)) mq_105 ci_105 (List.mem_of_getElem? (i := 14) rfl)
theorem cd_105_26 : mt_cd 105 26 = some (.lload_n 2) := mt_cd_of (q := (26, .lload_n 2, 1)) mq_105 ci_105 (List.mem_of_getElem? (i := 15) rfl)
theorem cd_105_27 : mt_cd 105 27 = some (.aload_n 0) := mt_cd_of (q := (27, .aload_n 0, 1)) mq_105 ci_105 (List.mem_of_getElem? (i := 16) rfl)
theorem cd_105_28 : mt_cd 105 28 = some (.getfield 44) := mt_cd_of (q := (28, .getfield 44, 3)) mq_105 ci_105 (List.mem_of_getElem? (i := 17) rfl)
theorem cd_105_31 : mt_cd 105 31 = some (.iload 4) := mt_cd_of (q := (31, .iload 4, 2)) mq_105 ci_105 (List.mem_of_getElem? (i := 18) rfl)
theorem cd_105_33 : mt_cd 105 33 = some (.laload) := mt_cd_of (q := (33, .laload, 1)) mq_105 ci_105 (List.mem_of_getElem? (i := 19) rfl)
theorem cd_105_34 : mt_cd 105 34 = some (.lcmp) := mt_cd_of (q := (34, .lcmp, 1)) mq_105 ci_105 (List.mem_of_getElem? (i := 20) rfl)
theorem cd_105_35 : mt_cd 105 35 = some (.ifCond .lt 19) := mt_cd_of (q := (35, .ifCond .lt 19, 3)) mq_105 ci_105 (List.mem_of_getElem? (i := 21) rfl)
theorem cd_105_38 : mt_cd 105 38 = some (.lload_n 2) := mt_cd_of (q := (38, .lload_n 2, 1)) mq_105 ci_105 (List.mem_of_getElem? (i := 22) rfl)
theorem cd_105_39 : mt_cd 105 39 = some (.aload_n 0) := mt_cd_of (q := (39, .aload_n 0, 1)) mq_105 ci_105 (List.mem_of_getElem? (i := 23) rfl)
theorem cd_105_40 : mt_cd 105 40 = some (.getfield 44) := mt_cd_of (q := (40, .getfield 44, 3)) mq_105 ci_105 (List.mem_of_getElem? (i := 24) rfl)
theorem cd_105_43 : mt_cd 105 43 = some (.iload 4) := mt_cd_of (q := (43, .iload 4, 2)) mq_105 ci_105 (List.mem_of_getElem? (i := 25) rfl)
theorem cd_105_45 : mt_cd 105 45 = some (.iconst 1) := mt_cd_of (q := (45, .iconst 1, 1)) mq_105 ci_105 (List.mem_of_getElem? (i := 26) rfl)
theorem cd_105_46 : mt_cd 105 46 = some (.iadd) := mt_cd_of (q := (46, .iadd, 1)) mq_105 ci_105 (List.mem_of_getElem? (i := 27) rfl)
theorem cd_105_47 : mt_cd 105 47 = some (.laload) := mt_cd_of (q := (47, .laload, 1)) mq_105 ci_105 (List.mem_of_getElem? (i := 28) rfl)
theorem cd_105_48 : mt_cd 105 48 = some (.lcmp) := mt_cd_of (q := (48, .lcmp, 1)) mq_105 ci_105 (List.mem_of_getElem? (i := 29) rfl)
theorem cd_105_49 : mt_cd 105 49 = some (.ifCond .gt 5) := mt_cd_of (q := (49, .ifCond .gt 5, 3)) mq_105 ci_105 (List.mem_of_getElem? (i := 30) rfl)
theorem cd_105_52 : mt_cd 105 52 = some (.iconst 1) := mt_cd_of (q := (52, .iconst 1, 1)) mq_105 ci_105 (List.mem_of_getElem? (i := 31) rfl)
theorem cd_105_53 : mt_cd 105 53 = some (.ireturn) := mt_cd_of (q := (53, .ireturn, 1)) mq_105 ci_105 (List.mem_of_getElem? (i := 32) rfl)
theorem cd_105_54 : mt_cd 105 54 = some (.iinc 4 2) := mt_cd_of (q := (54, .iinc 4 2, 3)) mq_105 ci_105 (List.mem_of_getElem? (i := 33) rfl)
theorem cd_105_57 : mt_cd 105 57 = some (.goto (-49)) := mt_cd_of (q := (57, .goto (-49), 3)) mq_105 ci_105 (List.mem_of_getElem? (i := 34) rfl)
theorem cd_105_60 : mt_cd 105 60 = some (.iconst 0) := mt_cd_of (q := (60, .iconst 0, 1)) mq_105 ci_105 (List.mem_of_getElem? (i := 35) rfl)
theorem cd_105_61 : mt_cd 105 61 = some (.ireturn) := mt_cd_of (q := (61, .ireturn, 1)) mq_105 ci_105 (List.mem_of_getElem? (i := 36) rfl)
theorem b_105_0 {d : Nat} {Q : (Option Value ⊕ Nat) → mi_H → Prop} (n sl : Nat) (f : Nat → mi_C) {l1 : Nat} {l2 : Int32} {l3 : Int64} {o4 : Option Value} {fs5 : List Value} {x8 : Nat} (m10 i10 : Nat) (g10 : Nat → Int32) (h6 : f l1 = .inr (2, fs5)) (h7 : l1 < n) (h9 : fs5[5]? = some (.ref x8)) (h11 : f x8 = .inl (0, m10, .inl g10)) (h12 : x8 < n ∨ x8 = mi_SC) (h13 : mi_ix l2 m10 i10) (h14 : mi_W d 105 8 [some (.ref l1), some (.int l2), some (.long l3), none, some (.int (g10 i10))] [] (n, sl, f) Q) : mi_W d 105 0 [some (.ref l1), some (.int l2), some (.long l3), none, o4] [] (n, sl, f) Q := by
  refine w_aload_n cd_105_0 rfl ?_
  refine w_getfield cd_105_1 (show mt_f 2 27 = some (2, 5) by decide +kernel) h6 h7 h9 ?_
  refine w_iload_n cd_105_4 rfl ?_
  refine w_iaload cd_105_5 h11 h12 h13 ?_
  refine w_istore (ls' := [some (.ref l1), some (.int l2), some (.long l3), none, some (.int (g10 i10))]) cd_105_6 (Nat.le_of_ble_eq_true rfl) rfl ?_
  exact h14
theorem b_105_8 {d : Nat} {Q : (Option Value ⊕ Nat) → mi_H → Prop} (n sl : Nat) (f : Nat → mi_C) {l1 : Nat} {l2 : Int32} {l3 : Int64} {l4 : Int32} (h5 : l4 < (0 : Int32) → mi_W d 105 60 [some (.ref l1), some (.int l2), some (.long l3), none, some (.int l4)] [] (n, sl, f) Q) (h6 : ¬ (l4 < (0 : Int32)) → mi_W d 105 13 [some (.ref l1), some (.int l2), some (.long l3), none, some (.int l4)] [] (n, sl, f) Q) : mi_W d 105 8 [some (.ref l1), some (.int l2), some (.long l3), none, some (.int l4)] [] (n, sl, f) Q := by
  refine w_iload cd_105_8 rfl ?_
  exact w_iflt cd_105_10 (by decide) h5 h6
theorem b_105_13 {d : Nat} {Q : (Option Value ⊕ Nat) → mi_H → Prop} (n sl : Nat) (f : Nat → mi_C) {l1 : Nat} {l2 : Int32} {l3 : Int64} {l4 : Int32} {fs5 : List Value} {x8 : Nat} (m10 i10 : Nat) (g10 : Nat → Int32) (h6 : f l1 = .inr (2, fs5)) (h7 : l1 < n) (h9 : fs5[6]? = some (.ref x8)) (h11 : f x8 = .inl (0, m10, .inl g10)) (h12 : x8 < n ∨ x8 = mi_SC) (h13 : mi_ix l2 m10 i10) (h14 : (g10 i10) ≤ (l4 + 1) → mi_W d 105 60 [some (.ref l1), some (.int l2), some (.long l3), none, some (.int l4)] [] (n, sl, f) Q) (h15 : ¬ ((g10 i10) ≤ (l4 + 1)) → mi_W d 105 26 [some (.ref l1), some (.int l2), some (.long l3), none, some (.int l4)] [] (n, sl, f) Q) : mi_W d 105 13 [some (.ref l1), some (.int l2), some (.long l3), none, some (.int l4)] [] (n, sl, f) Q := by
  refine w_iload cd_105_13 rfl ?_
  refine w_iconst (v := 1) cd_105_15 (by decide) ?_
  refine w_iadd cd_105_16 ?_
  refine w_aload_n cd_105_17 rfl ?_
  refine w_getfield cd_105_18 (show mt_f 2 30 = some (2, 6) by decide +kernel) h6 h7 h9 ?_
  refine w_iload_n cd_105_21 rfl ?_
  refine w_iaload cd_105_22 h11 h12 h13 ?_
  exact w_if_icmpge cd_105_23 (by decide) h14 h15
theorem b_105_26 {d : Nat} {Q : (Option Value ⊕ Nat) → mi_H → Prop} (n sl : Nat) (f : Nat → mi_C) {l1 : Nat} {l2 : Int32} {l3 : Int64} {l4 : Int32} {fs5 : List Value} {x8 : Nat} (m10 i10 : Nat) (g10 : Nat → Int64) (h6 : f l1 = .inr (2, fs5)) (h7 : l1 < n) (h9 : fs5[10]? = some (.ref x8)) (h11 : f x8 = .inl (3, m10, .inr (.inl g10))) (h12 : x8 < n) (h13 : mi_ix l4 m10 i10) (h14 : (lg_cmp l3 (g10 i10)) < (0 : Int32) → mi_W d 105 54 [some (.ref l1), some (.int l2), some (.long l3), none, some (.int l4)] [] (n, sl, f) Q) (h15 : ¬ ((lg_cmp l3 (g10 i10)) < (0 : Int32)) → mi_W d 105 38 [some (.ref l1), some (.int l2), some (.long l3), none, some (.int l4)] [] (n, sl, f) Q) : mi_W d 105 26 [some (.ref l1), some (.int l2), some (.long l3), none, some (.int l4)] [] (n, sl, f) Q := by
  refine w_lload_n cd_105_26 rfl ?_
  refine w_aload_n cd_105_27 rfl ?_
  refine w_getfield cd_105_28 (show mt_f 2 44 = some (2, 10) by decide +kernel) h6 h7 h9 ?_
  refine w_iload cd_105_31 rfl ?_
  refine w_laload cd_105_33 h11 h12 h13 ?_
  refine w_lcmp cd_105_34 ?_
  exact w_iflt cd_105_35 (by decide) h14 h15
theorem b_105_38 {d : Nat} {Q : (Option Value ⊕ Nat) → mi_H → Prop} (n sl : Nat) (f : Nat → mi_C) {l1 : Nat} {l2 : Int32} {l3 : Int64} {l4 : Int32} {fs5 : List Value} {x8 : Nat} (m10 i10 : Nat) (g10 : Nat → Int64) (h6 : f l1 = .inr (2, fs5)) (h7 : l1 < n) (h9 : fs5[10]? = some (.ref x8)) (h11 : f x8 = .inl (3, m10, .inr (.inl g10))) (h12 : x8 < n) (h13 : mi_ix (l4 + 1) m10 i10) (h14 : (0 : Int32) < (lg_cmp l3 (g10 i10)) → mi_W d 105 54 [some (.ref l1), some (.int l2), some (.long l3), none, some (.int l4)] [] (n, sl, f) Q) (h15 : ¬ ((0 : Int32) < (lg_cmp l3 (g10 i10))) → mi_W d 105 52 [some (.ref l1), some (.int l2), some (.long l3), none, some (.int l4)] [] (n, sl, f) Q) : mi_W d 105 38 [some (.ref l1), some (.int l2), some (.long l3), none, some (.int l4)] [] (n, sl, f) Q := by
  refine w_lload_n cd_105_38 rfl ?_
  refine w_aload_n cd_105_39 rfl ?_
  refine w_getfield cd_105_40 (show mt_f 2 44 = some (2, 10) by decide +kernel) h6 h7 h9 ?_
  refine w_iload cd_105_43 rfl ?_
  refine w_iconst (v := 1) cd_105_45 (by decide) ?_
  refine w_iadd cd_105_46 ?_
  refine w_laload cd_105_47 h11 h12 h13 ?_
  refine w_lcmp cd_105_48 ?_
  exact w_ifgt cd_105_49 (by decide) h14 h15
theorem b_105_52 {d : Nat} {Q : (Option Value ⊕ Nat) → mi_H → Prop} (n sl : Nat) (f : Nat → mi_C) {l1 : Nat} {l2 : Int32} {l3 : Int64} {l4 : Int32} (h5 : Q (.inl (some (.int 1))) (n, sl, f)) : mi_W d 105 52 [some (.ref l1), some (.int l2), some (.long l3), none, some (.int l4)] [] (n, sl, f) Q := by
  refine w_iconst (v := 1) cd_105_52 (by decide) ?_
  exact w_ireturn_z cd_105_53 (by decide +kernel) (by decide) h5
theorem b_105_54 {d : Nat} {Q : (Option Value ⊕ Nat) → mi_H → Prop} (n sl : Nat) (f : Nat → mi_C) {l1 : Nat} {l2 : Int32} {l3 : Int64} {l4 : Int32} (h5 : mi_W d 105 8 [some (.ref l1), some (.int l2), some (.long l3), none, some (.int (l4 + 2))] [] (n, sl, f) Q) : mi_W d 105 54 [some (.ref l1), some (.int l2), some (.long l3), none, some (.int l4)] [] (n, sl, f) Q := by
  refine w_iinc (v := 2) (ls' := [some (.ref l1), some (.int l2), some (.long l3), none, some (.int (l4 + 2))]) cd_105_54 rfl (by decide) rfl ?_
  exact w_goto cd_105_57 (by decide) h5
theorem b_105_60 {d : Nat} {Q : (Option Value ⊕ Nat) → mi_H → Prop} (n sl : Nat) (f : Nat → mi_C) {l1 : Nat} {l2 : Int32} {l3 : Int64} {l4 : Int32} (h5 : Q (.inl (some (.int 0))) (n, sl, f)) : mi_W d 105 60 [some (.ref l1), some (.int l2), some (.long l3), none, some (.int l4)] [] (n, sl, f) Q := by
  refine w_iconst (v := 0) cd_105_60 (by decide) ?_
  exact w_ireturn_z cd_105_61 (by decide +kernel) (by decide) h5
/-! MarloweHost$Machine.accept(IJ)V -/
set_option maxRecDepth 100000 in
theorem mq_106 : mt_q 106 = my_106 := rfl
set_option maxRecDepth 100000 in
theorem ci_106 : mt_inc 0 my_106.cd = true := by decide +kernel
theorem cd_106_0 : mt_cd 106 0 = some (.aload_n 0) := mt_cd_of (q := (0, .aload_n 0, 1)) mq_106 ci_106 (List.mem_of_getElem? (i := 0) rfl)
theorem cd_106_1 : mt_cd 106 1 = some (.getfield 18) := mt_cd_of (q := (1, .getfield 18, 3)) mq_106 ci_106 (List.mem_of_getElem? (i := 1) rfl)
theorem cd_106_4 : mt_cd 106 4 = some (.getfield 200) := mt_cd_of (q := (4, .getfield 200, 3)) mq_106 ci_106 (List.mem_of_getElem? (i := 2) rfl)
theorem cd_106_7 : mt_cd 106 7 = some (.iload_n 1) := mt_cd_of (q := (7, .iload_n 1, 1)) mq_106 ci_106 (List.mem_of_getElem? (i := 3) rfl)
theorem cd_106_8 : mt_cd 106 8 = some (.iaload) := mt_cd_of (q := (8, .iaload, 1)) mq_106 ci_106 (List.mem_of_getElem? (i := 4) rfl)
theorem cd_106_9 : mt_cd 106 9 = some (.istore 4) := mt_cd_of (q := (9, .istore 4, 2)) mq_106 ci_106 (List.mem_of_getElem? (i := 5) rfl)
theorem cd_106_11 : mt_cd 106 11 = some (.iload 4) := mt_cd_of (q := (11, .iload 4, 2)) mq_106 ci_106 (List.mem_of_getElem? (i := 6) rfl)
theorem cd_106_13 : mt_cd 106 13 = some (.bipush 9) := mt_cd_of (q := (13, .bipush 9, 2)) mq_106 ci_106 (List.mem_of_getElem? (i := 7) rfl)
theorem cd_106_15 : mt_cd 106 15 = some (.if_icmp .ne 23) := mt_cd_of (q := (15, .if_icmp .ne 23, 3)) mq_106 ci_106 (List.mem_of_getElem? (i := 8) rfl)
theorem cd_106_18 : mt_cd 106 18 = some (.aload_n 0) := mt_cd_of (q := (18, .aload_n 0, 1)) mq_106 ci_106 (List.mem_of_getElem? (i := 9) rfl)
theorem cd_106_19 : mt_cd 106 19 = some (.getfield 29) := mt_cd_of (q := (19, .getfield 29, 3)) mq_106 ci_106 (List.mem_of_getElem? (i := 10) rfl)
theorem cd_106_22 : mt_cd 106 22 = some (.aload_n 0) := mt_cd_of (q := (22, .aload_n 0, 1)) mq_106 ci_106 (List.mem_of_getElem? (i := 11) rfl)
theorem cd_106_23 : mt_cd 106 23 = some (.getfield 18) := mt_cd_of (q := (23, .getfield 18, 3)) mq_106 ci_106 (List.mem_of_getElem? (i := 12) rfl)
theorem cd_106_26 : mt_cd 106 26 = some (.getfield 157) := mt_cd_of (q := (26, .getfield 157, 3)) mq_106 ci_106 (List.mem_of_getElem? (i := 13) rfl)
theorem cd_106_29 : mt_cd 106 29 = some (.iload_n 1) := mt_cd_of (q := (29, .iload_n 1, 1)) mq_106 ci_106 (List.mem_of_getElem? (i := 14) rfl)
theorem cd_106_30 : mt_cd 106 30 = some (.iaload) := mt_cd_of (q := (30, .iaload, 1)) mq_106 ci_106 (List.mem_of_getElem? (i := 15) rfl)
theorem cd_106_31 : mt_cd 106 31 = some (.lload_n 2) := mt_cd_of (q := (31, .lload_n 2, 1)) mq_106 ci_106 (List.mem_of_getElem? (i := 16) rfl)
theorem cd_106_32 : mt_cd 106 32 = some (.invokevirtual 211) := mt_cd_of (q := (32, .invokevirtual 211, 3)) mq_106 ci_106 (List.mem_of_getElem? (i := 17) rfl)
theorem cd_106_35 : mt_cd 106 35 = some (.goto 41) := mt_cd_of (q := (35, .goto 41, 3)) mq_106 ci_106 (List.mem_of_getElem? (i := 18) rfl)
theorem cd_106_38 : mt_cd 106 38 = some (.iload 4) := mt_cd_of (q := (38, .iload 4, 2)) mq_106 ci_106 (List.mem_of_getElem? (i := 19) rfl)
theorem cd_106_40 : mt_cd 106 40 = some (.bipush 8) := mt_cd_of (q := (40, .bipush 8, 2)) mq_106 ci_106 (List.mem_of_getElem? (i := 20) rfl)
theorem cd_106_42 : mt_cd 106 42 = some (.if_icmp .ne 21) := mt_cd_of (q := (42, .if_icmp .ne 21, 3)) mq_106 ci_106 (List.mem_of_getElem? (i := 21) rfl)
theorem cd_106_45 : mt_cd 106 45 = some (.lload_n 2) := mt_cd_of (q := (45, .lload_n 2, 1)) mq_106 ci_106 (List.mem_of_getElem? (i := 22) rfl)
theorem cd_106_46 : mt_cd 106 46 = some (.lconst 0) := mt_cd_of (q := (46, .lconst 0, 1)) mq_106 ci_106 (List.mem_of_getElem? (i := 23) rfl)
theorem cd_106_47 : mt_cd 106 47 = some (.lcmp) := mt_cd_of (q := (47, .lcmp, 1)) mq_106 ci_106 (List.mem_of_getElem? (i := 24) rfl)
theorem cd_106_48 : mt_cd 106 48 = some (.ifCond .gt 15) := mt_cd_of (q := (48, .ifCond .gt 15, 3)) mq_106 ci_106 (List.mem_of_getElem? (i := 25) rfl)
theorem cd_106_51 : mt_cd 106 51 = some (.aload_n 0) := mt_cd_of (q := (51, .aload_n 0, 1)) mq_106 ci_106 (List.mem_of_getElem? (i := 26) rfl)
theorem cd_106_52 : mt_cd 106 52 = some (.getfield 12) := mt_cd_of (q := (52, .getfield 12, 3)) mq_106 ci_106 (List.mem_of_getElem? (i := 27) rfl)
theorem cd_106_55 : mt_cd 106 55 = some (.iconst 1) := mt_cd_of (q := (55, .iconst 1, 1)) mq_106 ci_106 (List.mem_of_getElem? (i := 28) rfl)
theorem cd_106_56 : mt_cd 106 56 = some (.iload_n 1) := mt_cd_of (q := (56, .iload_n 1, 1)) mq_106 ci_106 (List.mem_of_getElem? (i := 29) rfl)
theorem cd_106_57 : mt_cd 106 57 = some (.invokevirtual 139) := mt_cd_of (q := (57, .invokevirtual 139, 3)) mq_106 ci_106 (List.mem_of_getElem? (i := 30) rfl)
theorem cd_106_60 : mt_cd 106 60 = some (.goto 16) := mt_cd_of (q := (60, .goto 16, 3)) mq_106 ci_106 (List.mem_of_getElem? (i := 31) rfl)
theorem cd_106_63 : mt_cd 106 63 = some (.iload 4) := mt_cd_of (q := (63, .iload 4, 2)) mq_106 ci_106 (List.mem_of_getElem? (i := 32) rfl)
theorem cd_106_65 : mt_cd 106 65 = some (.bipush 8) := mt_cd_of (q := (65, .bipush 8, 2)) mq_106 ci_106 (List.mem_of_getElem? (i := 33) rfl)
theorem cd_106_67 : mt_cd 106 67 = some (.if_icmp .ne 9) := mt_cd_of (q := (67, .if_icmp .ne 9, 3)) mq_106 ci_106 (List.mem_of_getElem? (i := 34) rfl)
theorem cd_106_70 : mt_cd 106 70 = some (.aload_n 0) := mt_cd_of (q := (70, .aload_n 0, 1)) mq_106 ci_106 (List.mem_of_getElem? (i := 35) rfl)
theorem cd_106_71 : mt_cd 106 71 = some (.iload_n 1) := mt_cd_of (q := (71, .iload_n 1, 1)) mq_106 ci_106 (List.mem_of_getElem? (i := 36) rfl)
theorem cd_106_72 : mt_cd 106 72 = some (.lload_n 2) := mt_cd_of (q := (72, .lload_n 2, 1)) mq_106 ci_106 (List.mem_of_getElem? (i := 37) rfl)
theorem cd_106_73 : mt_cd 106 73 = some (.invokevirtual 214) := mt_cd_of (q := (73, .invokevirtual 214, 3)) mq_106 ci_106 (List.mem_of_getElem? (i := 38) rfl)
theorem cd_106_76 : mt_cd 106 76 = some (.aload_n 0) := mt_cd_of (q := (76, .aload_n 0, 1)) mq_106 ci_106 (List.mem_of_getElem? (i := 39) rfl)
theorem cd_106_77 : mt_cd 106 77 = some (.getfield 29) := mt_cd_of (q := (77, .getfield 29, 3)) mq_106 ci_106 (List.mem_of_getElem? (i := 40) rfl)
theorem cd_106_80 : mt_cd 106 80 = some (.aload_n 0) := mt_cd_of (q := (80, .aload_n 0, 1)) mq_106 ci_106 (List.mem_of_getElem? (i := 41) rfl)
theorem cd_106_81 : mt_cd 106 81 = some (.getfield 18) := mt_cd_of (q := (81, .getfield 18, 3)) mq_106 ci_106 (List.mem_of_getElem? (i := 42) rfl)
theorem cd_106_84 : mt_cd 106 84 = some (.getfield 126) := mt_cd_of (q := (84, .getfield 126, 3)) mq_106 ci_106 (List.mem_of_getElem? (i := 43) rfl)
theorem cd_106_87 : mt_cd 106 87 = some (.iload_n 1) := mt_cd_of (q := (87, .iload_n 1, 1)) mq_106 ci_106 (List.mem_of_getElem? (i := 44) rfl)
theorem cd_106_88 : mt_cd 106 88 = some (.iaload) := mt_cd_of (q := (88, .iaload, 1)) mq_106 ci_106 (List.mem_of_getElem? (i := 45) rfl)
theorem cd_106_89 : mt_cd 106 89 = some (.putfield 94) := mt_cd_of (q := (89, .putfield 94, 3)) mq_106 ci_106 (List.mem_of_getElem? (i := 46) rfl)
theorem cd_106_92 : mt_cd 106 92 = some (.return_) := mt_cd_of (q := (92, .return_, 1)) mq_106 ci_106 (List.mem_of_getElem? (i := 47) rfl)
theorem b_106_0 {d : Nat} {Q : (Option Value ⊕ Nat) → mi_H → Prop} (n sl : Nat) (f : Nat → mi_C) {l1 : Nat} {l2 : Int32} {l3 : Int64} {o4 : Option Value} {fs5 : List Value} {x8 : Nat} {fs10 : List Value} {x13 : Nat} (m15 i15 : Nat) (g15 : Nat → Int32) (h6 : f l1 = .inr (7, fs5)) (h7 : l1 < n) (h9 : fs5[0]? = some (.ref x8)) (h11 : f x8 = .inr (2, fs10)) (h12 : x8 < n) (h14 : fs10[0]? = some (.ref x13)) (h16 : f x13 = .inl (0, m15, .inl g15)) (h17 : x13 < n ∨ x13 = mi_SC) (h18 : mi_ix l2 m15 i15) (h19 : ¬ (g15 i15) = 9 → mi_W d 106 38 [some (.ref l1), some (.int l2), some (.long l3), none, some (.int (g15 i15))] [] (n, sl, f) Q) (h20 : ¬ (¬ (g15 i15) = 9) → mi_W d 106 18 [some (.ref l1), some (.int l2), some (.long l3), none, some (.int (g15 i15))] [] (n, sl, f) Q) : mi_W d 106 0 [some (.ref l1), some (.int l2), some (.long l3), none, o4] [] (n, sl, f) Q := by
  refine w_aload_n cd_106_0 rfl ?_
  refine w_getfield cd_106_1 (show mt_f 7 18 = some (7, 0) by decide +kernel) h6 h7 h9 ?_
  refine w_getfield cd_106_4 (show mt_f 7 200 = some (2, 0) by decide +kernel) h11 h12 h14 ?_
  refine w_iload_n cd_106_7 rfl ?_
  refine w_iaload cd_106_8 h16 h17 h18 ?_
  refine w_istore (ls' := [some (.ref l1), some (.int l2), some (.long l3), none, some (.int (g15 i15))]) cd_106_9 (Nat.le_of_ble_eq_true rfl) rfl ?_
  refine w_iload cd_106_11 rfl ?_
  refine w_bipush (v := 9) cd_106_13 (by decide) ?_
  exact w_if_icmpne cd_106_15 (by decide) h19 h20
theorem b_106_18 {d : Nat} {Q : (Option Value ⊕ Nat) → mi_H → Prop} (n sl : Nat) (f : Nat → mi_C) {l1 : Nat} {l2 : Int32} {l3 : Int64} {l4 : Int32} {fs5 : List Value} {x8 : Nat} {fs10 : List Value} {x13 : Nat} {fs15 : List Value} {x18 : Nat} (m20 i20 : Nat) (g20 : Nat → Int32) {fs24 : List Value} (h6 : f l1 = .inr (7, fs5)) (h7 : l1 < n) (h9 : fs5[3]? = some (.ref x8)) (h11 : f l1 = .inr (7, fs10)) (h12 : l1 < n) (h14 : fs10[0]? = some (.ref x13)) (h16 : f x13 = .inr (2, fs15)) (h17 : x13 < n) (h19 : fs15[4]? = some (.ref x18)) (h21 : f x18 = .inl (0, m20, .inl g20)) (h22 : x18 < n ∨ x18 = mi_SC) (h23 : mi_ix l2 m20 i20) (h25 : f x8 = .inr (9, fs24)) (h26 : x8 < n) (h27 : mi_W d 107 0 (mi_en 4 [.ref x8, .int (g20 i20), .long l3]) [] (n, sl, f) (mi_Kc d 106 32 [some (.ref l1), some (.int l2), some (.long l3), none, some (.int l4)] [] Q)) : mi_W (d + 1) 106 18 [some (.ref l1), some (.int l2), some (.long l3), none, some (.int l4)] [] (n, sl, f) Q := by
  refine w_aload_n cd_106_18 rfl ?_
  refine w_getfield cd_106_19 (show mt_f 7 29 = some (7, 3) by decide +kernel) h6 h7 h9 ?_
  refine w_aload_n cd_106_22 rfl ?_
  refine w_getfield cd_106_23 (show mt_f 7 18 = some (7, 0) by decide +kernel) h11 h12 h14 ?_
  refine w_getfield cd_106_26 (show mt_f 7 157 = some (2, 4) by decide +kernel) h16 h17 h19 ?_
  refine w_iload_n cd_106_29 rfl ?_
  refine w_iaload cd_106_30 h21 h22 h23 ?_
  refine w_lload_n cd_106_31 rfl ?_
  exact w_invokevirtual cd_106_32 (show mt_m 7 211 = some (107, 0) by decide +kernel) (rest := []) rfl (as := [.ref x8, .int (g20 i20), .long l3]) rfl h25 (Or.inl h26) ⟨Nat.le_of_ble_eq_true rfl, Nat.le_of_ble_eq_true rfl, Nat.le_of_ble_eq_true rfl⟩ h27
theorem b_106_35 {d : Nat} {Q : (Option Value ⊕ Nat) → mi_H → Prop} (n sl : Nat) (f : Nat → mi_C) {l1 : Nat} {l2 : Int32} {l3 : Int64} {l4 : Int32} (h5 : mi_W d 106 76 [some (.ref l1), some (.int l2), some (.long l3), none, some (.int l4)] [] (n, sl, f) Q) : mi_W d 106 35 [some (.ref l1), some (.int l2), some (.long l3), none, some (.int l4)] [] (n, sl, f) Q := by
  exact w_goto cd_106_35 (by decide) h5
theorem b_106_38 {d : Nat} {Q : (Option Value ⊕ Nat) → mi_H → Prop} (n sl : Nat) (f : Nat → mi_C) {l1 : Nat} {l2 : Int32} {l3 : Int64} {l4 : Int32} (h5 : ¬ l4 = 8 → mi_W d 106 63 [some (.ref l1), some (.int l2), some (.long l3), none, some (.int l4)] [] (n, sl, f) Q) (h6 : ¬ (¬ l4 = 8) → mi_W d 106 45 [some (.ref l1), some (.int l2), some (.long l3), none, some (.int l4)] [] (n, sl, f) Q) : mi_W d 106 38 [some (.ref l1), some (.int l2), some (.long l3), none, some (.int l4)] [] (n, sl, f) Q := by
  refine w_iload cd_106_38 rfl ?_
  refine w_bipush (v := 8) cd_106_40 (by decide) ?_
  exact w_if_icmpne cd_106_42 (by decide) h5 h6
theorem b_106_45 {d : Nat} {Q : (Option Value ⊕ Nat) → mi_H → Prop} (n sl : Nat) (f : Nat → mi_C) {l1 : Nat} {l2 : Int32} {l3 : Int64} {l4 : Int32} (h5 : (0 : Int32) < (lg_cmp l3 0) → mi_W d 106 63 [some (.ref l1), some (.int l2), some (.long l3), none, some (.int l4)] [] (n, sl, f) Q) (h6 : ¬ ((0 : Int32) < (lg_cmp l3 0)) → mi_W d 106 51 [some (.ref l1), some (.int l2), some (.long l3), none, some (.int l4)] [] (n, sl, f) Q) : mi_W d 106 45 [some (.ref l1), some (.int l2), some (.long l3), none, some (.int l4)] [] (n, sl, f) Q := by
  refine w_lload_n cd_106_45 rfl ?_
  refine w_lconst (lv := 0) cd_106_46 (by decide) ?_
  refine w_lcmp cd_106_47 ?_
  exact w_ifgt cd_106_48 (by decide) h5 h6
theorem b_106_51 {d : Nat} {Q : (Option Value ⊕ Nat) → mi_H → Prop} (n sl : Nat) (f : Nat → mi_C) {l1 : Nat} {l2 : Int32} {l3 : Int64} {l4 : Int32} {fs5 : List Value} {x8 : Nat} {fs10 : List Value} (h6 : f l1 = .inr (7, fs5)) (h7 : l1 < n) (h9 : fs5[7]? = some (.ref x8)) (h11 : f x8 = .inr (8, fs10)) (h12 : x8 < n) (h13 : mi_W d 96 0 (mi_en 3 [.ref x8, .int 1, .int l2]) [] (n, sl, f) (mi_Kc d 106 57 [some (.ref l1), some (.int l2), some (.long l3), none, some (.int l4)] [] Q)) : mi_W (d + 1) 106 51 [some (.ref l1), some (.int l2), some (.long l3), none, some (.int l4)] [] (n, sl, f) Q := by
  refine w_aload_n cd_106_51 rfl ?_
  refine w_getfield cd_106_52 (show mt_f 7 12 = some (7, 7) by decide +kernel) h6 h7 h9 ?_
  refine w_iconst (v := 1) cd_106_55 (by decide) ?_
  refine w_iload_n cd_106_56 rfl ?_
  exact w_invokevirtual cd_106_57 (show mt_m 7 139 = some (96, 0) by decide +kernel) (rest := []) rfl (as := [.ref x8, .int 1, .int l2]) rfl h11 (Or.inl h12) ⟨Nat.le_of_ble_eq_true rfl, Nat.le_of_ble_eq_true rfl, Nat.le_of_ble_eq_true rfl⟩ h13
theorem b_106_60 {d : Nat} {Q : (Option Value ⊕ Nat) → mi_H → Prop} (n sl : Nat) (f : Nat → mi_C) {l1 : Nat} {l2 : Int32} {l3 : Int64} {l4 : Int32} (h5 : mi_W d 106 76 [some (.ref l1), some (.int l2), some (.long l3), none, some (.int l4)] [] (n, sl, f) Q) : mi_W d 106 60 [some (.ref l1), some (.int l2), some (.long l3), none, some (.int l4)] [] (n, sl, f) Q := by
  exact w_goto cd_106_60 (by decide) h5
theorem b_106_63 {d : Nat} {Q : (Option Value ⊕ Nat) → mi_H → Prop} (n sl : Nat) (f : Nat → mi_C) {l1 : Nat} {l2 : Int32} {l3 : Int64} {l4 : Int32} (h5 : ¬ l4 = 8 → mi_W d 106 76 [some (.ref l1), some (.int l2), some (.long l3), none, some (.int l4)] [] (n, sl, f) Q) (h6 : ¬ (¬ l4 = 8) → mi_W d 106 70 [some (.ref l1), some (.int l2), some (.long l3), none, some (.int l4)] [] (n, sl, f) Q) : mi_W d 106 63 [some (.ref l1), some (.int l2), some (.long l3), none, some (.int l4)] [] (n, sl, f) Q := by
  refine w_iload cd_106_63 rfl ?_
  refine w_bipush (v := 8) cd_106_65 (by decide) ?_
  exact w_if_icmpne cd_106_67 (by decide) h5 h6
theorem b_106_70 {d : Nat} {Q : (Option Value ⊕ Nat) → mi_H → Prop} (n sl : Nat) (f : Nat → mi_C) {l1 : Nat} {l2 : Int32} {l3 : Int64} {l4 : Int32} {fs5 : List Value} (h6 : f l1 = .inr (7, fs5)) (h7 : l1 < n) (h8 : mi_W d 108 0 (mi_en 5 [.ref l1, .int l2, .long l3]) [] (n, sl, f) (mi_Kc d 106 73 [some (.ref l1), some (.int l2), some (.long l3), none, some (.int l4)] [] Q)) : mi_W (d + 1) 106 70 [some (.ref l1), some (.int l2), some (.long l3), none, some (.int l4)] [] (n, sl, f) Q := by
  refine w_aload_n cd_106_70 rfl ?_
  refine w_iload_n cd_106_71 rfl ?_
  refine w_lload_n cd_106_72 rfl ?_
  exact w_invokevirtual cd_106_73 (show mt_m 7 214 = some (108, 0) by decide +kernel) (rest := []) rfl (as := [.ref l1, .int l2, .long l3]) rfl h6 (Or.inl h7) ⟨Nat.le_of_ble_eq_true rfl, Nat.le_of_ble_eq_true rfl, Nat.le_of_ble_eq_true rfl⟩ h8
theorem b_106_76 {d : Nat} {Q : (Option Value ⊕ Nat) → mi_H → Prop} (n sl : Nat) (f : Nat → mi_C) {l1 : Nat} {l2 : Int32} {l3 : Int64} {l4 : Int32} {fs5 : List Value} {x8 : Nat} {fs10 : List Value} {x13 : Nat} {fs15 : List Value} {x18 : Nat} (m20 i20 : Nat) (g20 : Nat → Int32) {fs24 : List Value} (h6 : f l1 = .inr (7, fs5)) (h7 : l1 < n) (h9 : fs5[3]? = some (.ref x8)) (h11 : f l1 = .inr (7, fs10)) (h12 : l1 < n) (h14 : fs10[0]? = some (.ref x13)) (h16 : f x13 = .inr (2, fs15)) (h17 : x13 < n) (h19 : fs15[2]? = some (.ref x18)) (h21 : f x18 = .inl (0, m20, .inl g20)) (h22 : x18 < n ∨ x18 = mi_SC) (h23 : mi_ix l2 m20 i20) (h25 : f x8 = .inr (9, fs24)) (h26 : x8 < n) (h27 : 0 < fs24.length) (h28 : Q (.inl none) (n, sl, (va_up f x8 (.inr (9, fs24.set 0 (.int (g20 i20))))))) : mi_W d 106 76 [some (.ref l1), some (.int l2), some (.long l3), none, some (.int l4)] [] (n, sl, f) Q := by
  refine w_aload_n cd_106_76 rfl ?_
  refine w_getfield cd_106_77 (show mt_f 7 29 = some (7, 3) by decide +kernel) h6 h7 h9 ?_
  refine w_aload_n cd_106_80 rfl ?_
  refine w_getfield cd_106_81 (show mt_f 7 18 = some (7, 0) by decide +kernel) h11 h12 h14 ?_
  refine w_getfield cd_106_84 (show mt_f 7 126 = some (2, 2) by decide +kernel) h16 h17 h19 ?_
  refine w_iload_n cd_106_87 rfl ?_
  refine w_iaload cd_106_88 h21 h22 h23 ?_
  refine w_putfield (w := .int (g20 i20)) cd_106_89 (show mt_f 7 94 = some (9, 0) by decide +kernel) h25 h26 ⟨h27, rfl, Or.inl (by decide)⟩ ?_
  exact w_return cd_106_92 (by decide +kernel) h28
/-! MarloweHost$Situation.setChosen(IJ)V -/
set_option maxRecDepth 100000 in
theorem mq_107 : mt_q 107 = my_107 := rfl
set_option maxRecDepth 100000 in
theorem ci_107 : mt_inc 0 my_107.cd = true := by decide +kernel
theorem cd_107_0 : mt_cd 107 0 = some (.iload_n 1) := mt_cd_of (q := (0, .iload_n 1, 1)) mq_107 ci_107 (List.mem_of_getElem? (i := 0) rfl)
theorem cd_107_1 : mt_cd 107 1 = some (.ifCond .lt 28) := mt_cd_of (q := (1, .ifCond .lt 28, 3)) mq_107 ci_107 (List.mem_of_getElem? (i := 1) rfl)
theorem cd_107_4 : mt_cd 107 4 = some (.iload_n 1) := mt_cd_of (q := (4, .iload_n 1, 1)) mq_107 ci_107 (List.mem_of_getElem? (i := 2) rfl)
theorem cd_107_5 : mt_cd 107 5 = some (.bipush 8) := mt_cd_of (q := (5, .bipush 8, 2)) mq_107 ci_107 (List.mem_of_getElem? (i := 3) rfl)
theorem cd_107_7 : mt_cd 107 7 = some (.if_icmp .ge 22) := mt_cd_of (q := (7, .if_icmp .ge 22, 3)) mq_107 ci_107 (List.mem_of_getElem? (i := 4) rfl)
theorem cd_107_10 : mt_cd 107 10 = some (.aload_n 0) := mt_cd_of (q := (10, .aload_n 0, 1)) mq_107 ci_107 (List.mem_of_getElem? (i := 5) rfl)
theorem cd_107_11 : mt_cd 107 11 = some (.getfield 15) := mt_cd_of (q := (11, .getfield 15, 3)) mq_107 ci_107 (List.mem_of_getElem? (i := 6) rfl)
theorem cd_107_14 : mt_cd 107 14 = some (.iload_n 1) := mt_cd_of (q := (14, .iload_n 1, 1)) mq_107 ci_107 (List.mem_of_getElem? (i := 7) rfl)
theorem cd_107_15 : mt_cd 107 15 = some (.lload_n 2) := mt_cd_of (q := (15, .lload_n 2, 1)) mq_107 ci_107 (List.mem_of_getElem? (i := 8) rfl)
theorem cd_107_16 : mt_cd 107 16 = some (.lastore) := mt_cd_of (q := (16, .lastore, 1)) mq_107 ci_107 (List.mem_of_getElem? (i := 9) rfl)
theorem cd_107_17 : mt_cd 107 17 = some (.aload_n 0) := mt_cd_of (q := (17, .aload_n 0, 1)) mq_107 ci_107 (List.mem_of_getElem? (i := 10) rfl)
theorem cd_107_18 : mt_cd 107 18 = some (.dup) := mt_cd_of (q := (18, .dup, 1)) mq_107 ci_107 (List.mem_of_getElem? (i := 11) rfl)
theorem cd_107_19 : mt_cd 107 19 = some (.getfield 35) := mt_cd_of (q := (19, .getfield 35, 3)) mq_107 ci_107 (List.mem_of_getElem? (i := 12) rfl)
theorem cd_107_22 : mt_cd 107 22 = some (.iconst 1) := mt_cd_of (q := (22, .iconst 1, 1)) mq_107 ci_107 (List.mem_of_getElem? (i := 13) rfl)
theorem cd_107_23 : mt_cd 107 23 = some (.iload_n 1) := mt_cd_of (q := (23, .iload_n 1, 1)) mq_107 ci_107 (List.mem_of_getElem? (i := 14) rfl)
theorem cd_107_24 : mt_cd 107 24 = some (.ishl) := mt_cd_of (q := (24, .ishl, 1)) mq_107 ci_107 (List.mem_of_getElem? (i := 15) rfl)
theorem cd_107_25 : mt_cd 107 25 = some (.ior) := mt_cd_of (q := (25, .ior, 1)) mq_107 ci_107 (List.mem_of_getElem? (i := 16) rfl)
theorem cd_107_26 : mt_cd 107 26 = some (.putfield 35) := mt_cd_of (q := (26, .putfield 35, 3)) mq_107 ci_107 (List.mem_of_getElem? (i := 17) rfl)
theorem cd_107_29 : mt_cd 107 29 = some (.return_) := mt_cd_of (q := (29, .return_, 1)) mq_107 ci_107 (List.mem_of_getElem? (i := 18) rfl)
theorem b_107_0 {d : Nat} {Q : (Option Value ⊕ Nat) → mi_H → Prop} (n sl : Nat) (f : Nat → mi_C) {l1 : Nat} {l2 : Int32} {l3 : Int64} (h4 : l2 < (0 : Int32) → mi_W d 107 29 [some (.ref l1), some (.int l2), some (.long l3), none] [] (n, sl, f) Q) (h5 : ¬ (l2 < (0 : Int32)) → mi_W d 107 4 [some (.ref l1), some (.int l2), some (.long l3), none] [] (n, sl, f) Q) : mi_W d 107 0 [some (.ref l1), some (.int l2), some (.long l3), none] [] (n, sl, f) Q := by
  refine w_iload_n cd_107_0 rfl ?_
  exact w_iflt cd_107_1 (by decide) h4 h5
theorem b_107_4 {d : Nat} {Q : (Option Value ⊕ Nat) → mi_H → Prop} (n sl : Nat) (f : Nat → mi_C) {l1 : Nat} {l2 : Int32} {l3 : Int64} (h4 : 8 ≤ l2 → mi_W d 107 29 [some (.ref l1), some (.int l2), some (.long l3), none] [] (n, sl, f) Q) (h5 : ¬ (8 ≤ l2) → mi_W d 107 10 [some (.ref l1), some (.int l2), some (.long l3), none] [] (n, sl, f) Q) : mi_W d 107 4 [some (.ref l1), some (.int l2), some (.long l3), none] [] (n, sl, f) Q := by
  refine w_iload_n cd_107_4 rfl ?_
  refine w_bipush (v := 8) cd_107_5 (by decide) ?_
  exact w_if_icmpge cd_107_7 (by decide) h4 h5
theorem b_107_10 {d : Nat} {Q : (Option Value ⊕ Nat) → mi_H → Prop} (n sl : Nat) (f : Nat → mi_C) {l1 : Nat} {l2 : Int32} {l3 : Int64} {fs4 : List Value} {x7 : Nat} (m9 i9 : Nat) (g9 : Nat → Int64) {fs13 : List Value} {x16 : Int32} {fs18 : List Value} (h5 : f l1 = .inr (9, fs4)) (h6 : l1 < n) (h8 : fs4[3]? = some (.ref x7)) (h10 : f x7 = .inl (3, m9, .inr (.inl g9))) (h11 : x7 < n) (h12 : mi_ix l2 m9 i9) (h14 : (va_up f x7 (.inl (3, m9, .inr (.inl (vp_updL g9 i9 l3))))) l1 = .inr (9, fs13)) (h15 : l1 < n) (h17 : fs13[5]? = some (.int x16)) (h19 : (va_up f x7 (.inl (3, m9, .inr (.inl (vp_updL g9 i9 l3))))) l1 = .inr (9, fs18)) (h20 : l1 < n) (h21 : 5 < fs18.length) (h22 : mi_W d 107 29 [some (.ref l1), some (.int l2), some (.long l3), none] [] (n, sl, (va_up (va_up f x7 (.inl (3, m9, .inr (.inl (vp_updL g9 i9 l3))))) l1 (.inr (9, fs18.set 5 (.int (x16 ||| (1 <<< (l2 &&& 31)))))))) Q) : mi_W d 107 10 [some (.ref l1), some (.int l2), some (.long l3), none] [] (n, sl, f) Q := by
  refine w_aload_n cd_107_10 rfl ?_
  refine w_getfield cd_107_11 (show mt_f 9 15 = some (9, 3) by decide +kernel) h5 h6 h8 ?_
  refine w_iload_n cd_107_14 rfl ?_
  refine w_lload_n cd_107_15 rfl ?_
  refine w_lastore cd_107_16 h10 h11 h12 ?_
  refine w_aload_n cd_107_17 rfl ?_
  refine w_dup_r cd_107_18 ?_
  refine w_getfield cd_107_19 (show mt_f 9 35 = some (9, 5) by decide +kernel) h14 h15 h17 ?_
  refine w_iconst (v := 1) cd_107_22 (by decide) ?_
  refine w_iload_n cd_107_23 rfl ?_
  refine w_ishl cd_107_24 ?_
  refine w_ior cd_107_25 ?_
  refine w_putfield (w := .int (x16 ||| (1 <<< (l2 &&& 31)))) cd_107_26 (show mt_f 9 35 = some (9, 5) by decide +kernel) h19 h20 ⟨h21, rfl, Or.inl (by decide)⟩ ?_
  exact h22
theorem b_107_29 {d : Nat} {Q : (Option Value ⊕ Nat) → mi_H → Prop} (n sl : Nat) (f : Nat → mi_C) {l1 : Nat} {l2 : Int32} {l3 : Int64} (h4 : Q (.inl none) (n, sl, f)) : mi_W d 107 29 [some (.ref l1), some (.int l2), some (.long l3), none] [] (n, sl, f) Q := by
  exact w_return cd_107_29 (by decide +kernel) h4
/-! MarloweHost$Machine.receive(IJ)V -/
set_option maxRecDepth 100000 in
theorem mq_108 : mt_q 108 = my_108 := rfl
set_option maxRecDepth 100000 in
theorem ci_108 : mt_inc 0 my_108.cd = true := by decide +kernel
theorem cd_108_0 : mt_cd 108 0 = some (.aload_n 0) := mt_cd_of (q := (0, .aload_n 0, 1)) mq_108 ci_108 (List.mem_of_getElem? (i := 0) rfl)
theorem cd_108_1 : mt_cd 108 1 = some (.getfield 18) := mt_cd_of (q := (1, .getfield 18, 3)) mq_108 ci_108 (List.mem_of_getElem? (i := 1) rfl)
theorem cd_108_4 : mt_cd 108 4 = some (.getfield 163) := mt_cd_of (q := (4, .getfield 163, 3)) mq_108 ci_108 (List.mem_of_getElem? (i := 2) rfl)
theorem cd_108_7 : mt_cd 108 7 = some (.iload_n 1) := mt_cd_of (q := (7, .iload_n 1, 1)) mq_108 ci_108 (List.mem_of_getElem? (i := 3) rfl)
theorem cd_108_8 : mt_cd 108 8 = some (.iaload) := mt_cd_of (q := (8, .iaload, 1)) mq_108 ci_108 (List.mem_of_getElem? (i := 4) rfl)
theorem cd_108_9 : mt_cd 108 9 = some (.istore 4) := mt_cd_of (q := (9, .istore 4, 2)) mq_108 ci_108 (List.mem_of_getElem? (i := 5) rfl)
theorem cd_108_11 : mt_cd 108 11 = some (.aload_n 0) := mt_cd_of (q := (11, .aload_n 0, 1)) mq_108 ci_108 (List.mem_of_getElem? (i := 6) rfl)
theorem cd_108_12 : mt_cd 108 12 = some (.getfield 22) := mt_cd_of (q := (12, .getfield 22, 3)) mq_108 ci_108 (List.mem_of_getElem? (i := 7) rfl)
theorem cd_108_15 : mt_cd 108 15 = some (.ifnull 34) := mt_cd_of (q := (15, .ifnull 34, 3)) mq_108 ci_108 (List.mem_of_getElem? (i := 8) rfl)
theorem cd_108_18 : mt_cd 108 18 = some (.aload_n 0) := mt_cd_of (q := (18, .aload_n 0, 1)) mq_108 ci_108 (List.mem_of_getElem? (i := 9) rfl)
theorem cd_108_19 : mt_cd 108 19 = some (.getfield 22) := mt_cd_of (q := (19, .getfield 22, 3)) mq_108 ci_108 (List.mem_of_getElem? (i := 10) rfl)
theorem cd_108_22 : mt_cd 108 22 = some (.aload_n 0) := mt_cd_of (q := (22, .aload_n 0, 1)) mq_108 ci_108 (List.mem_of_getElem? (i := 11) rfl)
theorem cd_108_23 : mt_cd 108 23 = some (.getfield 18) := mt_cd_of (q := (23, .getfield 18, 3)) mq_108 ci_108 (List.mem_of_getElem? (i := 12) rfl)
theorem cd_108_26 : mt_cd 108 26 = some (.getfield 160) := mt_cd_of (q := (26, .getfield 160, 3)) mq_108 ci_108 (List.mem_of_getElem? (i := 13) rfl)
theorem cd_108_29 : mt_cd 108 29 = some (.iload_n 1) := mt_cd_of (q := (29, .iload_n 1, 1)) mq_108 ci_108 (List.mem_of_getElem? (i := 14) rfl)
theorem cd_108_30 : mt_cd 108 30 = some (.iaload) := mt_cd_of (q := (30, .iaload, 1)) mq_108 ci_108 (List.mem_of_getElem? (i := 15) rfl)
theorem cd_108_31 : mt_cd 108 31 = some (.iload 4) := mt_cd_of (q := (31, .iload 4, 2)) mq_108 ci_108 (List.mem_of_getElem? (i := 16) rfl)
theorem cd_108_33 : mt_cd 108 33 = some (.lload_n 2) := mt_cd_of (q := (33, .lload_n 2, 1)) mq_108 ci_108 (List.mem_of_getElem? (i := 17) rfl)
theorem cd_108_34 : mt_cd 108 34 = some (.invokevirtual 217) := mt_cd_of (q := (34, .invokevirtual 217, 3)) mq_108 ci_108 (List.mem_of_getElem? (i := 18) rfl)
theorem cd_108_37 : mt_cd 108 37 = some (.ifCond .ne 12) := mt_cd_of (q := (37, .ifCond .ne 12, 3)) mq_108 ci_108 (List.mem_of_getElem? (i := 19) rfl)
theorem cd_108_40 : mt_cd 108 40 = some (.aload_n 0) := mt_cd_of (q := (40, .aload_n 0, 1)) mq_108 ci_108 (List.mem_of_getElem? (i := 20) rfl)
theorem cd_108_41 : mt_cd 108 41 = some (.bipush 7) := mt_cd_of (q := (41, .bipush 7, 2)) mq_108 ci_108 (List.mem_of_getElem? (i := 21) rfl)
theorem cd_108_43 : mt_cd 108 43 = some (.putfield 49) := mt_cd_of (q := (43, .putfield 49, 3)) mq_108 ci_108 (List.mem_of_getElem? (i := 22) rfl)
theorem cd_108_46 : mt_cd 108 46 = some (.goto 31) := mt_cd_of (q := (46, .goto 31, 3)) mq_108 ci_108 (List.mem_of_getElem? (i := 23) rfl)
theorem cd_108_49 : mt_cd 108 49 = some (.aload_n 0) := mt_cd_of (q := (49, .aload_n 0, 1)) mq_108 ci_108 (List.mem_of_getElem? (i := 24) rfl)
theorem cd_108_50 : mt_cd 108 50 = some (.getfield 29) := mt_cd_of (q := (50, .getfield 29, 3)) mq_108 ci_108 (List.mem_of_getElem? (i := 25) rfl)
theorem cd_108_53 : mt_cd 108 53 = some (.aload_n 0) := mt_cd_of (q := (53, .aload_n 0, 1)) mq_108 ci_108 (List.mem_of_getElem? (i := 26) rfl)
theorem cd_108_54 : mt_cd 108 54 = some (.getfield 18) := mt_cd_of (q := (54, .getfield 18, 3)) mq_108 ci_108 (List.mem_of_getElem? (i := 27) rfl)
theorem cd_108_57 : mt_cd 108 57 = some (.getfield 157) := mt_cd_of (q := (57, .getfield 157, 3)) mq_108 ci_108 (List.mem_of_getElem? (i := 28) rfl)
theorem cd_108_60 : mt_cd 108 60 = some (.iload_n 1) := mt_cd_of (q := (60, .iload_n 1, 1)) mq_108 ci_108 (List.mem_of_getElem? (i := 29) rfl)
theorem cd_108_61 : mt_cd 108 61 = some (.iaload) := mt_cd_of (q := (61, .iaload, 1)) mq_108 ci_108 (List.mem_of_getElem? (i := 30) rfl)
theorem cd_108_62 : mt_cd 108 62 = some (.iload 4) := mt_cd_of (q := (62, .iload 4, 2)) mq_108 ci_108 (List.mem_of_getElem? (i := 31) rfl)
theorem cd_108_64 : mt_cd 108 64 = some (.lload_n 2) := mt_cd_of (q := (64, .lload_n 2, 1)) mq_108 ci_108 (List.mem_of_getElem? (i := 32) rfl)
theorem cd_108_65 : mt_cd 108 65 = some (.invokevirtual 172) := mt_cd_of (q := (65, .invokevirtual 172, 3)) mq_108 ci_108 (List.mem_of_getElem? (i := 33) rfl)
theorem cd_108_68 : mt_cd 108 68 = some (.ifCond .ne 9) := mt_cd_of (q := (68, .ifCond .ne 9, 3)) mq_108 ci_108 (List.mem_of_getElem? (i := 34) rfl)
theorem cd_108_71 : mt_cd 108 71 = some (.aload_n 0) := mt_cd_of (q := (71, .aload_n 0, 1)) mq_108 ci_108 (List.mem_of_getElem? (i := 35) rfl)
theorem cd_108_72 : mt_cd 108 72 = some (.bipush 6) := mt_cd_of (q := (72, .bipush 6, 2)) mq_108 ci_108 (List.mem_of_getElem? (i := 36) rfl)
theorem cd_108_74 : mt_cd 108 74 = some (.putfield 49) := mt_cd_of (q := (74, .putfield 49, 3)) mq_108 ci_108 (List.mem_of_getElem? (i := 37) rfl)
theorem cd_108_77 : mt_cd 108 77 = some (.return_) := mt_cd_of (q := (77, .return_, 1)) mq_108 ci_108 (List.mem_of_getElem? (i := 38) rfl)
theorem b_108_0 {d : Nat} {Q : (Option Value ⊕ Nat) → mi_H → Prop} (n sl : Nat) (f : Nat → mi_C) {l1 : Nat} {l2 : Int32} {l3 : Int64} {o4 : Option Value} {fs5 : List Value} {x8 : Nat} {fs10 : List Value} {x13 : Nat} (m15 i15 : Nat) (g15 : Nat → Int32) {fs19 : List Value} {w22 : Value} (h6 : f l1 = .inr (7, fs5)) (h7 : l1 < n) (h9 : fs5[0]? = some (.ref x8)) (h11 : f x8 = .inr (2, fs10)) (h12 : x8 < n) (h14 : fs10[6]? = some (.ref x13)) (h16 : f x13 = .inl (0, m15, .inl g15)) (h17 : x13 < n ∨ x13 = mi_SC) (h18 : mi_ix l2 m15 i15) (h20 : f l1 = .inr (7, fs19)) (h21 : l1 < n) (h23 : fs19[1]? = some (w22)) (h24 : w22 = .null → mi_W d 108 49 [some (.ref l1), some (.int l2), some (.long l3), none, some (.int (g15 i15))] [] (n, sl, f) Q) (h25 : ∀ q : Nat, w22 = .ref q → mi_W d 108 18 [some (.ref l1), some (.int l2), some (.long l3), none, some (.int (g15 i15))] [] (n, sl, f) Q) (h26 : w22.isRef = true) : mi_W d 108 0 [some (.ref l1), some (.int l2), some (.long l3), none, o4] [] (n, sl, f) Q := by
  refine w_aload_n cd_108_0 rfl ?_
  refine w_getfield cd_108_1 (show mt_f 7 18 = some (7, 0) by decide +kernel) h6 h7 h9 ?_
  refine w_getfield cd_108_4 (show mt_f 7 163 = some (2, 6) by decide +kernel) h11 h12 h14 ?_
  refine w_iload_n cd_108_7 rfl ?_
  refine w_iaload cd_108_8 h16 h17 h18 ?_
  refine w_istore (ls' := [some (.ref l1), some (.int l2), some (.long l3), none, some (.int (g15 i15))]) cd_108_9 (Nat.le_of_ble_eq_true rfl) rfl ?_
  refine w_aload_n cd_108_11 rfl ?_
  refine w_getfield cd_108_12 (show mt_f 7 22 = some (7, 1) by decide +kernel) h20 h21 h23 ?_
  
  cases w22 with
  | null => exact w_ifnull_n cd_108_15 (by decide) (h24 rfl)
  | ref q => exact w_ifnull_r cd_108_15 (h25 q rfl)
  | _ => cases h26
theorem b_108_18 {d : Nat} {Q : (Option Value ⊕ Nat) → mi_H → Prop} (n sl : Nat) (f : Nat → mi_C) {l1 : Nat} {l2 : Int32} {l3 : Int64} {l4 : Int32} {fs5 : List Value} {x8 : Nat} {fs10 : List Value} {x13 : Nat} {fs15 : List Value} {x18 : Nat} (m20 i20 : Nat) (g20 : Nat → Int32) {fs24 : List Value} (h6 : f l1 = .inr (7, fs5)) (h7 : l1 < n) (h9 : fs5[1]? = some (.ref x8)) (h11 : f l1 = .inr (7, fs10)) (h12 : l1 < n) (h14 : fs10[0]? = some (.ref x13)) (h16 : f x13 = .inr (2, fs15)) (h17 : x13 < n) (h19 : fs15[5]? = some (.ref x18)) (h21 : f x18 = .inl (0, m20, .inl g20)) (h22 : x18 < n ∨ x18 = mi_SC) (h23 : mi_ix l2 m20 i20) (h25 : f x8 = .inr (5, fs24)) (h26 : x8 < n) (h27 : mi_W d 109 0 (mi_en 6 [.ref x8, .int (g20 i20), .int l4, .long l3]) [] (n, sl, f) (mi_Kc d 108 34 [some (.ref l1), some (.int l2), some (.long l3), none, some (.int l4)] [] Q)) : mi_W (d + 1) 108 18 [some (.ref l1), some (.int l2), some (.long l3), none, some (.int l4)] [] (n, sl, f) Q := by
  refine w_aload_n cd_108_18 rfl ?_
  refine w_getfield cd_108_19 (show mt_f 7 22 = some (7, 1) by decide +kernel) h6 h7 h9 ?_
  refine w_aload_n cd_108_22 rfl ?_
  refine w_getfield cd_108_23 (show mt_f 7 18 = some (7, 0) by decide +kernel) h11 h12 h14 ?_
  refine w_getfield cd_108_26 (show mt_f 7 160 = some (2, 5) by decide +kernel) h16 h17 h19 ?_
  refine w_iload_n cd_108_29 rfl ?_
  refine w_iaload cd_108_30 h21 h22 h23 ?_
  refine w_iload cd_108_31 rfl ?_
  refine w_lload_n cd_108_33 rfl ?_
  exact w_invokevirtual cd_108_34 (show mt_m 7 217 = some (109, 0) by decide +kernel) (rest := []) rfl (as := [.ref x8, .int (g20 i20), .int l4, .long l3]) rfl h25 (Or.inl h26) ⟨Nat.le_of_ble_eq_true rfl, Nat.le_of_ble_eq_true rfl, Nat.le_of_ble_eq_true rfl⟩ h27
theorem b_108_37 {d : Nat} {Q : (Option Value ⊕ Nat) → mi_H → Prop} (n sl : Nat) (f : Nat → mi_C) {l1 : Nat} {l2 : Int32} {l3 : Int64} {l4 : Int32} {s5 : Int32} (h6 : ¬ s5 = (0 : Int32) → mi_W d 108 49 [some (.ref l1), some (.int l2), some (.long l3), none, some (.int l4)] [] (n, sl, f) Q) (h7 : ¬ (¬ s5 = (0 : Int32)) → mi_W d 108 40 [some (.ref l1), some (.int l2), some (.long l3), none, some (.int l4)] [] (n, sl, f) Q) : mi_W d 108 37 [some (.ref l1), some (.int l2), some (.long l3), none, some (.int l4)] [.int s5] (n, sl, f) Q := by
  exact w_ifne cd_108_37 (by decide) h6 h7
theorem b_108_40 {d : Nat} {Q : (Option Value ⊕ Nat) → mi_H → Prop} (n sl : Nat) (f : Nat → mi_C) {l1 : Nat} {l2 : Int32} {l3 : Int64} {l4 : Int32} {fs5 : List Value} (h6 : f l1 = .inr (7, fs5)) (h7 : l1 < n) (h8 : 6 < fs5.length) (h9 : mi_W d 108 77 [some (.ref l1), some (.int l2), some (.long l3), none, some (.int l4)] [] (n, sl, (va_up f l1 (.inr (7, fs5.set 6 (.int 7))))) Q) : mi_W d 108 40 [some (.ref l1), some (.int l2), some (.long l3), none, some (.int l4)] [] (n, sl, f) Q := by
  refine w_aload_n cd_108_40 rfl ?_
  refine w_bipush (v := 7) cd_108_41 (by decide) ?_
  refine w_putfield (w := .int 7) cd_108_43 (show mt_f 7 49 = some (7, 6) by decide +kernel) h6 h7 ⟨h8, rfl, Or.inl (by decide)⟩ ?_
  exact w_goto cd_108_46 (by decide) h9
theorem b_108_49 {d : Nat} {Q : (Option Value ⊕ Nat) → mi_H → Prop} (n sl : Nat) (f : Nat → mi_C) {l1 : Nat} {l2 : Int32} {l3 : Int64} {l4 : Int32} {fs5 : List Value} {x8 : Nat} {fs10 : List Value} {x13 : Nat} {fs15 : List Value} {x18 : Nat} (m20 i20 : Nat) (g20 : Nat → Int32) {fs24 : List Value} (h6 : f l1 = .inr (7, fs5)) (h7 : l1 < n) (h9 : fs5[3]? = some (.ref x8)) (h11 : f l1 = .inr (7, fs10)) (h12 : l1 < n) (h14 : fs10[0]? = some (.ref x13)) (h16 : f x13 = .inr (2, fs15)) (h17 : x13 < n) (h19 : fs15[4]? = some (.ref x18)) (h21 : f x18 = .inl (0, m20, .inl g20)) (h22 : x18 < n ∨ x18 = mi_SC) (h23 : mi_ix l2 m20 i20) (h25 : f x8 = .inr (9, fs24)) (h26 : x8 < n) (h27 : mi_W d 98 0 (mi_en 6 [.ref x8, .int (g20 i20), .int l4, .long l3]) [] (n, sl, f) (mi_Kc d 108 65 [some (.ref l1), some (.int l2), some (.long l3), none, some (.int l4)] [] Q)) : mi_W (d + 1) 108 49 [some (.ref l1), some (.int l2), some (.long l3), none, some (.int l4)] [] (n, sl, f) Q := by
  refine w_aload_n cd_108_49 rfl ?_
  refine w_getfield cd_108_50 (show mt_f 7 29 = some (7, 3) by decide +kernel) h6 h7 h9 ?_
  refine w_aload_n cd_108_53 rfl ?_
  refine w_getfield cd_108_54 (show mt_f 7 18 = some (7, 0) by decide +kernel) h11 h12 h14 ?_
  refine w_getfield cd_108_57 (show mt_f 7 157 = some (2, 4) by decide +kernel) h16 h17 h19 ?_
  refine w_iload_n cd_108_60 rfl ?_
  refine w_iaload cd_108_61 h21 h22 h23 ?_
  refine w_iload cd_108_62 rfl ?_
  refine w_lload_n cd_108_64 rfl ?_
  exact w_invokevirtual cd_108_65 (show mt_m 7 172 = some (98, 0) by decide +kernel) (rest := []) rfl (as := [.ref x8, .int (g20 i20), .int l4, .long l3]) rfl h25 (Or.inl h26) ⟨Nat.le_of_ble_eq_true rfl, Nat.le_of_ble_eq_true rfl, Nat.le_of_ble_eq_true rfl⟩ h27
theorem b_108_68 {d : Nat} {Q : (Option Value ⊕ Nat) → mi_H → Prop} (n sl : Nat) (f : Nat → mi_C) {l1 : Nat} {l2 : Int32} {l3 : Int64} {l4 : Int32} {s5 : Int32} (h6 : ¬ s5 = (0 : Int32) → mi_W d 108 77 [some (.ref l1), some (.int l2), some (.long l3), none, some (.int l4)] [] (n, sl, f) Q) (h7 : ¬ (¬ s5 = (0 : Int32)) → mi_W d 108 71 [some (.ref l1), some (.int l2), some (.long l3), none, some (.int l4)] [] (n, sl, f) Q) : mi_W d 108 68 [some (.ref l1), some (.int l2), some (.long l3), none, some (.int l4)] [.int s5] (n, sl, f) Q := by
  exact w_ifne cd_108_68 (by decide) h6 h7
theorem b_108_71 {d : Nat} {Q : (Option Value ⊕ Nat) → mi_H → Prop} (n sl : Nat) (f : Nat → mi_C) {l1 : Nat} {l2 : Int32} {l3 : Int64} {l4 : Int32} {fs5 : List Value} (h6 : f l1 = .inr (7, fs5)) (h7 : l1 < n) (h8 : 6 < fs5.length) (h9 : mi_W d 108 77 [some (.ref l1), some (.int l2), some (.long l3), none, some (.int l4)] [] (n, sl, (va_up f l1 (.inr (7, fs5.set 6 (.int 6))))) Q) : mi_W d 108 71 [some (.ref l1), some (.int l2), some (.long l3), none, some (.int l4)] [] (n, sl, f) Q := by
  refine w_aload_n cd_108_71 rfl ?_
  refine w_bipush (v := 6) cd_108_72 (by decide) ?_
  refine w_putfield (w := .int 6) cd_108_74 (show mt_f 7 49 = some (7, 6) by decide +kernel) h6 h7 ⟨h8, rfl, Or.inl (by decide)⟩ ?_
  exact h9
theorem b_108_77 {d : Nat} {Q : (Option Value ⊕ Nat) → mi_H → Prop} (n sl : Nat) (f : Nat → mi_C) {l1 : Nat} {l2 : Int32} {l3 : Int64} {l4 : Int32} (h5 : Q (.inl none) (n, sl, f)) : mi_W d 108 77 [some (.ref l1), some (.int l2), some (.long l3), none, some (.int l4)] [] (n, sl, f) Q := by
  exact w_return cd_108_77 (by decide +kernel) h5
/-! MarloweHost$Wallets.take(IIJ)Z -/
set_option maxRecDepth 100000 in
theorem mq_109 : mt_q 109 = my_109 := rfl
set_option maxRecDepth 100000 in
theorem ci_109 : mt_inc 0 my_109.cd = true := by decide +kernel
theorem cd_109_0 : mt_cd 109 0 = some (.iload_n 1) := mt_cd_of (q := (0, .iload_n 1, 1)) mq_109 ci_109 (List.mem_of_getElem? (i := 0) rfl)
theorem cd_109_1 : mt_cd 109 1 = some (.iconst 4) := mt_cd_of (q := (1, .iconst 4, 1)) mq_109 ci_109 (List.mem_of_getElem? (i := 1) rfl)
theorem cd_109_2 : mt_cd 109 2 = some (.imul) := mt_cd_of (q := (2, .imul, 1)) mq_109 ci_109 (List.mem_of_getElem? (i := 2) rfl)
theorem cd_109_3 : mt_cd 109 3 = some (.iload_n 2) := mt_cd_of (q := (3, .iload_n 2, 1)) mq_109 ci_109 (List.mem_of_getElem? (i := 3) rfl)
theorem cd_109_4 : mt_cd 109 4 = some (.iadd) := mt_cd_of (q := (4, .iadd, 1)) mq_109 ci_109 (List.mem_of_getElem? (i := 4) rfl)
theorem cd_109_5 : mt_cd 109 5 = some (.istore 5) := mt_cd_of (q := (5, .istore 5, 2)) mq_109 ci_109 (List.mem_of_getElem? (i := 5) rfl)
theorem cd_109_7 : mt_cd 109 7 = some (.iload 5) := mt_cd_of (q := (7, .iload 5, 2)) mq_109 ci_109 (List.mem_of_getElem? (i := 6) rfl)
theorem cd_109_9 : mt_cd 109 9 = some (.ifCond .lt 22) := mt_cd_of (q := (9, .ifCond .lt 22, 3)) mq_109 ci_109 (List.mem_of_getElem? (i := 7) rfl)
theorem cd_109_12 : mt_cd 109 12 = some (.iload 5) := mt_cd_of (q := (12, .iload 5, 2)) mq_109 ci_109 (List.mem_of_getElem? (i := 8) rfl)
theorem cd_109_14 : mt_cd 109 14 = some (.bipush 32) := mt_cd_of (q := (14, .bipush 32, 2)) mq_109 ci_109 (List.mem_of_getElem? (i := 9) rfl)
theorem cd_109_16 : mt_cd 109 16 = some (.if_icmp .ge 15) := mt_cd_of (q := (16, .if_icmp .ge 15, 3)) mq_109 ci_109 (List.mem_of_getElem? (i := 10) rfl)
theorem cd_109_19 : mt_cd 109 19 = some (.aload_n 0) := mt_cd_of (q := (19, .aload_n 0, 1)) mq_109 ci_109 (List.mem_of_getElem? (i := 11) rfl)
theorem cd_109_20 : mt_cd 109 20 = some (.getfield 15) := mt_cd_of (q := (20, .getfield 15, 3)) mq_109 ci_109 (List.mem_of_getElem? (i := 12) rfl)
theorem cd_109_23 : mt_cd 109 23 = some (.iload 5) := mt_cd_of (q := (23, .iload 5, 2)) mq_109 ci_109 (List.mem_of_getElem? (i := 13) rfl)
theorem cd_109_25 : mt_cd 109 25 = some (.laload) := mt_cd_of (q := (25, .laload, 1)) mq_109 ci_109 (List.mem_of_getElem? (i := 14) rfl)
theorem cd_109_26 : mt_cd 109 26 = some (.lload_n 3) := mt_cd_of (q := (26, .lload_n 3, 1)) mq_109 ci_109 (List.mem_of_getElem? (i := 15) rfl)
theorem cd_109_27 : mt_cd 109 27 = some (.lcmp) := mt_cd_of (q := (27, .lcmp, 1)) mq_109 ci_109 (List.mem_of_getElem? (i := 16) rfl)
theorem cd_109_28 : mt_cd 109 28 = some (.ifCond .ge 5) := mt_cd_of (q := (28, .ifCond .ge 5, 3)) mq_109 ci_109 (List.mem_of_getElem? (i := 17) rfl)
theorem cd_109_31 : mt_cd 109 31 = some (.iconst 0) := mt_cd_of (q := (31, .iconst 0, 1)) mq_109 ci_109 (List.mem_of_getElem? (i := 18) rfl)
theorem cd_109_32 : mt_cd 109 32 = some (.ireturn) := mt_cd_of (q := (32, .ireturn, 1)) mq_109 ci_109 (List.mem_of_getElem? (i := 19) rfl)
theorem cd_109_33 : mt_cd 109 33 = some (.aload_n 0) := mt_cd_of (q := (33, .aload_n 0, 1)) mq_109 ci_109 (List.mem_of_getElem? (i := 20) rfl)
theorem cd_109_34 : mt_cd 109 34 = some (.getfield 15) := mt_cd_of (q := (34, .getfield 15, 3)) mq_109 ci_109 (List.mem_of_getElem? (i := 21) rfl)
theorem cd_109_37 : mt_cd 109 37 = some (.iload 5) := mt_cd_of (q := (37, .iload 5, 2)) mq_109 ci_109 (List.mem_of_getElem? (i := 22) rfl)
theorem cd_109_39 : mt_cd 109 39 = some (.dup2) := mt_cd_of (q := (39, .dup2, 1)) mq_109 ci_109 (List.mem_of_getElem? (i := 23) rfl)
theorem cd_109_40 : mt_cd 109 40 = some (.laload) := mt_cd_of (q := (40, .laload, 1)) mq_109 ci_109 (List.mem_of_getElem? (i := 24) rfl)
theorem cd_109_41 : mt_cd 109 41 = some (.lload_n 3) := mt_cd_of (q := (41, .lload_n 3, 1)) mq_109 ci_109 (List.mem_of_getElem? (i := 25) rfl)
theorem cd_109_42 : mt_cd 109 42 = some (.lsub) := mt_cd_of (q := (42, .lsub, 1)) mq_109 ci_109 (List.mem_of_getElem? (i := 26) rfl)
theorem cd_109_43 : mt_cd 109 43 = some (.lastore) := mt_cd_of (q := (43, .lastore, 1)) mq_109 ci_109 (List.mem_of_getElem? (i := 27) rfl)
theorem cd_109_44 : mt_cd 109 44 = some (.iconst 1) := mt_cd_of (q := (44, .iconst 1, 1)) mq_109 ci_109 (List.mem_of_getElem? (i := 28) rfl)
theorem cd_109_45 : mt_cd 109 45 = some (.ireturn) := mt_cd_of (q := (45, .ireturn, 1)) mq_109 ci_109 (List.mem_of_getElem? (i := 29) rfl)
theorem b_109_0 {d : Nat} {Q : (Option Value ⊕ Nat) → mi_H → Prop} (n sl : Nat) (f : Nat → mi_C) {l1 : Nat} {l2 : Int32} {l3 : Int32} {l4 : Int64} {o5 : Option Value} (h6 : ((l2 * 4) + l3) < (0 : Int32) → mi_W d 109 31 [some (.ref l1), some (.int l2), some (.int l3), some (.long l4), none, some (.int ((l2 * 4) + l3))] [] (n, sl, f) Q) (h7 : ¬ (((l2 * 4) + l3) < (0 : Int32)) → mi_W d 109 12 [some (.ref l1), some (.int l2), some (.int l3), some (.long l4), none, some (.int ((l2 * 4) + l3))] [] (n, sl, f) Q) : mi_W d 109 0 [some (.ref l1), some (.int l2), some (.int l3), some (.long l4), none, o5] [] (n, sl, f) Q := by
  refine w_iload_n cd_109_0 rfl ?_
  refine w_iconst (v := 4) cd_109_1 (by decide) ?_
  refine w_imul cd_109_2 ?_
  refine w_iload_n cd_109_3 rfl ?_
  refine w_iadd cd_109_4 ?_
  refine w_istore (ls' := [some (.ref l1), some (.int l2), some (.int l3), some (.long l4), none, some (.int ((l2 * 4) + l3))]) cd_109_5 (Nat.le_of_ble_eq_true rfl) rfl ?_
  refine w_iload cd_109_7 rfl ?_
  exact w_iflt cd_109_9 (by decide) h6 h7
theorem b_109_12 {d : Nat} {Q : (Option Value ⊕ Nat) → mi_H → Prop} (n sl : Nat) (f : Nat → mi_C) {l1 : Nat} {l2 : Int32} {l3 : Int32} {l4 : Int64} {l5 : Int32} (h6 : 32 ≤ l5 → mi_W d 109 31 [some (.ref l1), some (.int l2), some (.int l3), some (.long l4), none, some (.int l5)] [] (n, sl, f) Q) (h7 : ¬ (32 ≤ l5) → mi_W d 109 19 [some (.ref l1), some (.int l2), some (.int l3), some (.long l4), none, some (.int l5)] [] (n, sl, f) Q) : mi_W d 109 12 [some (.ref l1), some (.int l2), some (.int l3), some (.long l4), none, some (.int l5)] [] (n, sl, f) Q := by
  refine w_iload cd_109_12 rfl ?_
  refine w_bipush (v := 32) cd_109_14 (by decide) ?_
  exact w_if_icmpge cd_109_16 (by decide) h6 h7
theorem b_109_19 {d : Nat} {Q : (Option Value ⊕ Nat) → mi_H → Prop} (n sl : Nat) (f : Nat → mi_C) {l1 : Nat} {l2 : Int32} {l3 : Int32} {l4 : Int64} {l5 : Int32} {fs6 : List Value} {x9 : Nat} (m11 i11 : Nat) (g11 : Nat → Int64) (h7 : f l1 = .inr (5, fs6)) (h8 : l1 < n) (h10 : fs6[1]? = some (.ref x9)) (h12 : f x9 = .inl (3, m11, .inr (.inl g11))) (h13 : x9 < n) (h14 : mi_ix l5 m11 i11) (h15 : (0 : Int32) ≤ (lg_cmp (g11 i11) l4) → mi_W d 109 33 [some (.ref l1), some (.int l2), some (.int l3), some (.long l4), none, some (.int l5)] [] (n, sl, f) Q) (h16 : ¬ ((0 : Int32) ≤ (lg_cmp (g11 i11) l4)) → mi_W d 109 31 [some (.ref l1), some (.int l2), some (.int l3), some (.long l4), none, some (.int l5)] [] (n, sl, f) Q) : mi_W d 109 19 [some (.ref l1), some (.int l2), some (.int l3), some (.long l4), none, some (.int l5)] [] (n, sl, f) Q := by
  refine w_aload_n cd_109_19 rfl ?_
  refine w_getfield cd_109_20 (show mt_f 5 15 = some (5, 1) by decide +kernel) h7 h8 h10 ?_
  refine w_iload cd_109_23 rfl ?_
  refine w_laload cd_109_25 h12 h13 h14 ?_
  refine w_lload_n cd_109_26 rfl ?_
  refine w_lcmp cd_109_27 ?_
  exact w_ifge cd_109_28 (by decide) h15 h16
theorem b_109_31 {d : Nat} {Q : (Option Value ⊕ Nat) → mi_H → Prop} (n sl : Nat) (f : Nat → mi_C) {l1 : Nat} {l2 : Int32} {l3 : Int32} {l4 : Int64} {l5 : Int32} (h6 : Q (.inl (some (.int 0))) (n, sl, f)) : mi_W d 109 31 [some (.ref l1), some (.int l2), some (.int l3), some (.long l4), none, some (.int l5)] [] (n, sl, f) Q := by
  refine w_iconst (v := 0) cd_109_31 (by decide) ?_
  exact w_ireturn_z cd_109_32 (by decide +kernel) (by decide) h6
theorem b_109_33 {d : Nat} {Q : (Option Value ⊕ Nat) → mi_H → Prop} (n sl : Nat) (f : Nat → mi_C) {l1 : Nat} {l2 : Int32} {l3 : Int32} {l4 : Int64} {l5 : Int32} {fs6 : List Value} {x9 : Nat} (m11 i11 : Nat) (g11 : Nat → Int64) (m15 i15 : Nat) (g15 : Nat → Int64) (h7 : f l1 = .inr (5, fs6)) (h8 : l1 < n) (h10 : fs6[1]? = some (.ref x9)) (h12 : f x9 = .inl (3, m11, .inr (.inl g11))) (h13 : x9 < n) (h14 : mi_ix l5 m11 i11) (h16 : f x9 = .inl (3, m15, .inr (.inl g15))) (h17 : x9 < n) (h18 : mi_ix l5 m15 i15) (h19 : Q (.inl (some (.int 1))) (n, sl, (va_up f x9 (.inl (3, m15, .inr (.inl (vp_updL g15 i15 ((g11 i11) - l4)))))))) : mi_W d 109 33 [some (.ref l1), some (.int l2), some (.int l3), some (.long l4), none, some (.int l5)] [] (n, sl, f) Q := by
  refine w_aload_n cd_109_33 rfl ?_
  refine w_getfield cd_109_34 (show mt_f 5 15 = some (5, 1) by decide +kernel) h7 h8 h10 ?_
  refine w_iload cd_109_37 rfl ?_
  refine w_dup2_ir cd_109_39 ?_
  refine w_laload cd_109_40 h12 h13 h14 ?_
  refine w_lload_n cd_109_41 rfl ?_
  refine w_lsub cd_109_42 ?_
  refine w_lastore cd_109_43 h16 h17 h18 ?_
  refine w_iconst (v := 1) cd_109_44 (by decide) ?_
  exact w_ireturn_z cd_109_45 (by decide +kernel) (by decide) h19
/-! MarloweHost$Wallets.settle(LMarloweHost$Events;)Z -/
set_option maxRecDepth 100000 in
theorem mq_110 : mt_q 110 = my_110 := rfl
set_option maxRecDepth 100000 in
theorem ci_110 : mt_inc 0 my_110.cd = true := by decide +kernel
theorem cd_110_0 : mt_cd 110 0 = some (.iconst 0) := mt_cd_of (q := (0, .iconst 0, 1)) mq_110 ci_110 (List.mem_of_getElem? (i := 0) rfl)
theorem cd_110_1 : mt_cd 110 1 = some (.istore_n 2) := mt_cd_of (q := (1, .istore_n 2, 1)) mq_110 ci_110 (List.mem_of_getElem? (i := 1) rfl)
theorem cd_110_2 : mt_cd 110 2 = some (.iload_n 2) := mt_cd_of (q := (2, .iload_n 2, 1)) mq_110 ci_110 (List.mem_of_getElem? (i := 2) rfl)
theorem cd_110_3 : mt_cd 110 3 = some (.aload_n 1) := mt_cd_of (q := (3, .aload_n 1, 1)) mq_110 ci_110 (List.mem_of_getElem? (i := 3) rfl)
theorem cd_110_4 : mt_cd 110 4 = some (.getfield 24) := mt_cd_of (q := (4, .getfield 24, 3)) mq_110 ci_110 (List.mem_of_getElem? (i := 4) rfl)
theorem cd_110_7 : mt_cd 110 7 = some (.if_icmp .ge 79) := mt_cd_of (q := (7, .if_icmp .ge 79, 3)) mq_110 ci_110 (List.mem_of_getElem? (i := 5) rfl)
theorem cd_110_10 : mt_cd 110 10 = some (.iload_n 2) := mt_cd_of (q := (10, .iload_n 2, 1)) mq_110 ci_110 (List.mem_of_getElem? (i := 6) rfl)
theorem cd_110_11 : mt_cd 110 11 = some (.sipush 148) := mt_cd_of (q := (11, .sipush 148, 3)) mq_110 ci_110 (List.mem_of_getElem? (i := 7) rfl)
theorem cd_110_14 : mt_cd 110 14 = some (.if_icmp .ge 72) := mt_cd_of (q := (14, .if_icmp .ge 72, 3)) mq_110 ci_110 (List.mem_of_getElem? (i := 8) rfl)
theorem cd_110_17 : mt_cd 110 17 = some (.aload_n 1) := mt_cd_of (q := (17, .aload_n 1, 1)) mq_110 ci_110 (List.mem_of_getElem? (i := 9) rfl)
theorem cd_110_18 : mt_cd 110 18 = some (.getfield 30) := mt_cd_of (q := (18, .getfield 30, 3)) mq_110 ci_110 (List.mem_of_getElem? (i := 10) rfl)
theorem cd_110_21 : mt_cd 110 21 = some (.iload_n 2) := mt_cd_of (q := (21, .iload_n 2, 1)) mq_110 ci_110 (List.mem_of_getElem? (i := 11) rfl)
theorem cd_110_22 : mt_cd 110 22 = some (.iaload) := mt_cd_of (q := (22, .iaload, 1)) mq_110 ci_110 (List.mem_of_getElem? (i := 12) rfl)
theorem cd_110_23 : mt_cd 110 23 = some (.iconst 4) := mt_cd_of (q := (23, .iconst 4, 1)) mq_110 ci_110 (List.mem_of_getElem? (i := 13) rfl)
theorem cd_110_24 : mt_cd 110 24 = some (.imul) := mt_cd_of (q := (24, .imul, 1)) mq_110 ci_110 (List.mem_of_getElem? (i := 14) rfl)
theorem cd_110_25 : mt_cd 110 25 = some (.aload_n 1) := mt_cd_of (q := (25, .aload_n 1, 1)) mq_110 ci_110 (List.mem_of_getElem? (i := 15) rfl)
theorem cd_110_26 : mt_cd 110 26 = some (.getfield 34) := mt_cd_of (q := (26, .getfield 34, 3)) mq_110 ci_110 (List.mem_of_getElem? (i := 16) rfl)
theorem cd_110_29 : mt_cd 110 29 = some (.iload_n 2) := mt_cd_of (q := (29, .iload_n 2, 1)) mq_110 ci_110 (List.mem_of_getElem? (i := 17) rfl)
theorem cd_110_30 : mt_cd 110 30 = some (.iaload) := mt_cd_of (q := (30, .iaload, 1)) mq_110 ci_110 (List.mem_of_getElem? (i := 18) rfl)
theorem cd_110_31 : mt_cd 110 31 = some (.iadd) := mt_cd_of (q := (31, .iadd, 1)) mq_110 ci_110 (List.mem_of_getElem? (i := 19) rfl)
theorem cd_110_32 : mt_cd 110 32 = some (.istore_n 3) := mt_cd_of (q := (32, .istore_n 3, 1)) mq_110 ci_110 (List.mem_of_getElem? (i := 20) rfl)
theorem cd_110_33 : mt_cd 110 33 = some (.iload_n 3) := mt_cd_of (q := (33, .iload_n 3, 1)) mq_110 ci_110 (List.mem_of_getElem? (i := 21) rfl)
theorem cd_110_34 : mt_cd 110 34 = some (.ifCond .lt 29) := mt_cd_of (q := (34, .ifCond .lt 29, 3)) mq_110 ci_110 (List.mem_of_getElem? (i := 22) rfl)
theorem cd_110_37 : mt_cd 110 37 = some (.iload_n 3) := mt_cd_of (q := (37, .iload_n 3, 1)) mq_110 ci_110 (List.mem_of_getElem? (i := 23) rfl)
theorem cd_110_38 : mt_cd 110 38 = some (.bipush 32) := mt_cd_of (q := (38, .bipush 32, 2)) mq_110 ci_110 (List.mem_of_getElem? (i := 24) rfl)
theorem cd_110_40 : mt_cd 110 40 = some (.if_icmp .ge 23) := mt_cd_of (q := (40, .if_icmp .ge 23, 3)) mq_110 ci_110 (List.mem_of_getElem? (i := 25) rfl)
theorem cd_110_43 : mt_cd 110 43 = some (.aload_n 0) := mt_cd_of (q := (43, .aload_n 0, 1)) mq_110 ci_110 (List.mem_of_getElem? (i := 26) rfl)
theorem cd_110_44 : mt_cd 110 44 = some (.getfield 15) := mt_cd_of (q := (44, .getfield 15, 3)) mq_110 ci_110 (List.mem_of_getElem? (i := 27) rfl)
theorem cd_110_47 : mt_cd 110 47 = some (.iload_n 3) := mt_cd_of (q := (47, .iload_n 3, 1)) mq_110 ci_110 (List.mem_of_getElem? (i := 28) rfl)
theorem cd_110_48 : mt_cd 110 48 = some (.laload) := mt_cd_of (q := (48, .laload, 1)) mq_110 ci_110 (List.mem_of_getElem? (i := 29) rfl)
theorem cd_110_49 : mt_cd 110 49 = some (.ldc2_w 37) := mt_cd_of (q := (49, .ldc2_w 37, 3)) mq_110 ci_110 (List.mem_of_getElem? (i := 30) rfl)
theorem cd_110_52 : mt_cd 110 52 = some (.aload_n 1) := mt_cd_of (q := (52, .aload_n 1, 1)) mq_110 ci_110 (List.mem_of_getElem? (i := 31) rfl)
theorem cd_110_53 : mt_cd 110 53 = some (.getfield 39) := mt_cd_of (q := (53, .getfield 39, 3)) mq_110 ci_110 (List.mem_of_getElem? (i := 32) rfl)
theorem cd_110_56 : mt_cd 110 56 = some (.iload_n 2) := mt_cd_of (q := (56, .iload_n 2, 1)) mq_110 ci_110 (List.mem_of_getElem? (i := 33) rfl)
theorem cd_110_57 : mt_cd 110 57 = some (.laload) := mt_cd_of (q := (57, .laload, 1)) mq_110 ci_110 (List.mem_of_getElem? (i := 34) rfl)
theorem cd_110_58 : mt_cd 110 58 = some (.lsub) := mt_cd_of (q := (58, .lsub, 1)) mq_110 ci_110 (List.mem_of_getElem? (i := 35) rfl)
theorem cd_110_59 : mt_cd 110 59 = some (.lcmp) := mt_cd_of (q := (59, .lcmp, 1)) mq_110 ci_110 (List.mem_of_getElem? (i := 36) rfl)
theorem cd_110_60 : mt_cd 110 60 = some (.ifCond .le 5) := mt_cd_of (q := (60, .ifCond .le 5, 3)) mq_110 ci_110 (List.mem_of_getElem? (i := 37) rfl)
theorem cd_110_63 : mt_cd 110 63 = some (.iconst 0) := mt_cd_of (q := (63, .iconst 0, 1)) mq_110 ci_110 (List.mem_of_getElem? (i := 38) rfl)
theorem cd_110_64 : mt_cd 110 64 = some (.ireturn) := mt_cd_of (q := (64, .ireturn, 1)) mq_110 ci_110 (List.mem_of_getElem? (i := 39) rfl)
theorem cd_110_65 : mt_cd 110 65 = some (.aload_n 0) := mt_cd_of (q := (65, .aload_n 0, 1)) mq_110 ci_110 (List.mem_of_getElem? (i := 40) rfl)
theorem cd_110_66 : mt_cd 110 66 = some (.getfield 15) := mt_cd_of (q := (66, .getfield 15, 3)) mq_110 ci_110 (List.mem_of_getElem? (i := 41) rfl)
theorem cd_110_69 : mt_cd 110 69 = some (.iload_n 3) := mt_cd_of (q := (69, .iload_n 3, 1)) mq_110 ci_110 (List.mem_of_getElem? (i := 42) rfl)
theorem cd_110_70 : mt_cd 110 70 = some (.dup2) := mt_cd_of (q := (70, .dup2, 1)) mq_110 ci_110 (List.mem_of_getElem? (i := 43) rfl)
theorem cd_110_71 : mt_cd 110 71 = some (.laload) := mt_cd_of (q := (71, .laload, 1)) mq_110 ci_110 (List.mem_of_getElem? (i := 44) rfl)
theorem cd_110_72 : mt_cd 110 72 = some (.aload_n 1) := mt_cd_of (q := (72, .aload_n 1, 1)) mq_110 ci_110 (List.mem_of_getElem? (i := 45) rfl)
theorem cd_110_73 : mt_cd 110 73 = some (.getfield 39) := mt_cd_of (q := (73, .getfield 39, 3)) mq_110 ci_110 (List.mem_of_getElem? (i := 46) rfl)
theorem cd_110_76 : mt_cd 110 76 = some (.iload_n 2) := mt_cd_of (q := (76, .iload_n 2, 1)) mq_110 ci_110 (List.mem_of_getElem? (i := 47) rfl)
theorem cd_110_77 : mt_cd 110 77 = some (.laload) := mt_cd_of (q := (77, .laload, 1)) mq_110 ci_110 (List.mem_of_getElem? (i := 48) rfl)
theorem cd_110_78 : mt_cd 110 78 = some (.ladd) := mt_cd_of (q := (78, .ladd, 1)) mq_110 ci_110 (List.mem_of_getElem? (i := 49) rfl)
theorem cd_110_79 : mt_cd 110 79 = some (.lastore) := mt_cd_of (q := (79, .lastore, 1)) mq_110 ci_110 (List.mem_of_getElem? (i := 50) rfl)
theorem cd_110_80 : mt_cd 110 80 = some (.iinc 2 1) := mt_cd_of (q := (80, .iinc 2 1, 3)) mq_110 ci_110 (List.mem_of_getElem? (i := 51) rfl)
theorem cd_110_83 : mt_cd 110 83 = some (.goto (-81)) := mt_cd_of (q := (83, .goto (-81), 3)) mq_110 ci_110 (List.mem_of_getElem? (i := 52) rfl)
theorem cd_110_86 : mt_cd 110 86 = some (.aload_n 0) := mt_cd_of (q := (86, .aload_n 0, 1)) mq_110 ci_110 (List.mem_of_getElem? (i := 53) rfl)
theorem cd_110_87 : mt_cd 110 87 = some (.getfield 15) := mt_cd_of (q := (87, .getfield 15, 3)) mq_110 ci_110 (List.mem_of_getElem? (i := 54) rfl)
theorem cd_110_90 : mt_cd 110 90 = some (.iconst 0) := mt_cd_of (q := (90, .iconst 0, 1)) mq_110 ci_110 (List.mem_of_getElem? (i := 55) rfl)
theorem cd_110_91 : mt_cd 110 91 = some (.aload_n 0) := mt_cd_of (q := (91, .aload_n 0, 1)) mq_110 ci_110 (List.mem_of_getElem? (i := 56) rfl)
theorem cd_110_92 : mt_cd 110 92 = some (.getfield 9) := mt_cd_of (q := (92, .getfield 9, 3)) mq_110 ci_110 (List.mem_of_getElem? (i := 57) rfl)
theorem cd_110_95 : mt_cd 110 95 = some (.iconst 0) := mt_cd_of (q := (95, .iconst 0, 1)) mq_110 ci_110 (List.mem_of_getElem? (i := 58) rfl)
theorem cd_110_96 : mt_cd 110 96 = some (.bipush 32) := mt_cd_of (q := (96, .bipush 32, 2)) mq_110 ci_110 (List.mem_of_getElem? (i := 59) rfl)
theorem cd_110_98 : mt_cd 110 98 = some (.invokestatic 18) := mt_cd_of (q := (98, .invokestatic 18, 3)) mq_110 ci_110 (List.mem_of_getElem? (i := 60) rfl)
theorem cd_110_101 : mt_cd 110 101 = some (.iconst 1) := mt_cd_of (q := (101, .iconst 1, 1)) mq_110 ci_110 (List.mem_of_getElem? (i := 61) rfl)
theorem cd_110_102 : mt_cd 110 102 = some (.ireturn) := mt_cd_of (q := (102, .ireturn, 1)) mq_110 ci_110 (List.mem_of_getElem? (i := 62) rfl)
theorem b_110_0 {d : Nat} {Q : (Option Value ⊕ Nat) → mi_H → Prop} (n sl : Nat) (f : Nat → mi_C) {l1 : Nat} {l2 : Nat} {o3 : Option Value} {o4 : Option Value} (h5 : mi_W d 110 2 [some (.ref l1), some (.ref l2), some (.int 0), o4] [] (n, sl, f) Q) : mi_W d 110 0 [some (.ref l1), some (.ref l2), o3, o4] [] (n, sl, f) Q := by
  refine w_iconst (v := 0) cd_110_0 (by decide) ?_
  refine w_istore_n (ls' := [some (.ref l1), some (.ref l2), some (.int 0), o4]) cd_110_1 (Nat.le_of_ble_eq_true rfl) rfl ?_
  exact h5
theorem b_110_2 {d : Nat} {Q : (Option Value ⊕ Nat) → mi_H → Prop} (n sl : Nat) (f : Nat → mi_C) {l1 : Nat} {l2 : Nat} {l3 : Int32} {o4 : Option Value} {fs5 : List Value} {x8 : Int32} (h6 : f l2 = .inr (8, fs5)) (h7 : l2 < n) (h9 : fs5[7]? = some (.int x8)) (h10 : x8 ≤ l3 → mi_W d 110 86 [some (.ref l1), some (.ref l2), some (.int l3), o4] [] (n, sl, f) Q) (h11 : ¬ (x8 ≤ l3) → mi_W d 110 10 [some (.ref l1), some (.ref l2), some (.int l3), o4] [] (n, sl, f) Q) : mi_W d 110 2 [some (.ref l1), some (.ref l2), some (.int l3), o4] [] (n, sl, f) Q := by
  refine w_iload_n cd_110_2 rfl ?_
  refine w_aload_n cd_110_3 rfl ?_
  refine w_getfield cd_110_4 (show mt_f 5 24 = some (8, 7) by decide +kernel) h6 h7 h9 ?_
  exact w_if_icmpge cd_110_7 (by decide) h10 h11
theorem b_110_10 {d : Nat} {Q : (Option Value ⊕ Nat) → mi_H → Prop} (n sl : Nat) (f : Nat → mi_C) {l1 : Nat} {l2 : Nat} {l3 : Int32} {o4 : Option Value} (h5 : 148 ≤ l3 → mi_W d 110 86 [some (.ref l1), some (.ref l2), some (.int l3), o4] [] (n, sl, f) Q) (h6 : ¬ (148 ≤ l3) → mi_W d 110 17 [some (.ref l1), some (.ref l2), some (.int l3), o4] [] (n, sl, f) Q) : mi_W d 110 10 [some (.ref l1), some (.ref l2), some (.int l3), o4] [] (n, sl, f) Q := by
  refine w_iload_n cd_110_10 rfl ?_
  refine w_sipush (v := 148) cd_110_11 (by decide) ?_
  exact w_if_icmpge cd_110_14 (by decide) h5 h6
theorem b_110_17 {d : Nat} {Q : (Option Value ⊕ Nat) → mi_H → Prop} (n sl : Nat) (f : Nat → mi_C) {l1 : Nat} {l2 : Nat} {l3 : Int32} {o4 : Option Value} {fs5 : List Value} {x8 : Nat} (m10 i10 : Nat) (g10 : Nat → Int32) {fs14 : List Value} {x17 : Nat} (m19 i19 : Nat) (g19 : Nat → Int32) (h6 : f l2 = .inr (8, fs5)) (h7 : l2 < n) (h9 : fs5[3]? = some (.ref x8)) (h11 : f x8 = .inl (0, m10, .inl g10)) (h12 : x8 < n ∨ x8 = mi_SC) (h13 : mi_ix l3 m10 i10) (h15 : f l2 = .inr (8, fs14)) (h16 : l2 < n) (h18 : fs14[4]? = some (.ref x17)) (h20 : f x17 = .inl (0, m19, .inl g19)) (h21 : x17 < n ∨ x17 = mi_SC) (h22 : mi_ix l3 m19 i19) (h23 : (((g10 i10) * 4) + (g19 i19)) < (0 : Int32) → mi_W d 110 63 [some (.ref l1), some (.ref l2), some (.int l3), some (.int (((g10 i10) * 4) + (g19 i19)))] [] (n, sl, f) Q) (h24 : ¬ ((((g10 i10) * 4) + (g19 i19)) < (0 : Int32)) → mi_W d 110 37 [some (.ref l1), some (.ref l2), some (.int l3), some (.int (((g10 i10) * 4) + (g19 i19)))] [] (n, sl, f) Q) : mi_W d 110 17 [some (.ref l1), some (.ref l2), some (.int l3), o4] [] (n, sl, f) Q := by
  refine w_aload_n cd_110_17 rfl ?_
  refine w_getfield cd_110_18 (show mt_f 5 30 = some (8, 3) by decide +kernel) h6 h7 h9 ?_
  refine w_iload_n cd_110_21 rfl ?_
  refine w_iaload cd_110_22 h11 h12 h13 ?_
  refine w_iconst (v := 4) cd_110_23 (by decide) ?_
  refine w_imul cd_110_24 ?_
  refine w_aload_n cd_110_25 rfl ?_
  refine w_getfield cd_110_26 (show mt_f 5 34 = some (8, 4) by decide +kernel) h15 h16 h18 ?_
  refine w_iload_n cd_110_29 rfl ?_
  refine w_iaload cd_110_30 h20 h21 h22 ?_
  refine w_iadd cd_110_31 ?_
  refine w_istore_n (ls' := [some (.ref l1), some (.ref l2), some (.int l3), some (.int (((g10 i10) * 4) + (g19 i19)))]) cd_110_32 (Nat.le_of_ble_eq_true rfl) rfl ?_
  refine w_iload_n cd_110_33 rfl ?_
  exact w_iflt cd_110_34 (by decide) h23 h24
theorem b_110_37 {d : Nat} {Q : (Option Value ⊕ Nat) → mi_H → Prop} (n sl : Nat) (f : Nat → mi_C) {l1 : Nat} {l2 : Nat} {l3 : Int32} {l4 : Int32} (h5 : 32 ≤ l4 → mi_W d 110 63 [some (.ref l1), some (.ref l2), some (.int l3), some (.int l4)] [] (n, sl, f) Q) (h6 : ¬ (32 ≤ l4) → mi_W d 110 43 [some (.ref l1), some (.ref l2), some (.int l3), some (.int l4)] [] (n, sl, f) Q) : mi_W d 110 37 [some (.ref l1), some (.ref l2), some (.int l3), some (.int l4)] [] (n, sl, f) Q := by
  refine w_iload_n cd_110_37 rfl ?_
  refine w_bipush (v := 32) cd_110_38 (by decide) ?_
  exact w_if_icmpge cd_110_40 (by decide) h5 h6
theorem b_110_43 {d : Nat} {Q : (Option Value ⊕ Nat) → mi_H → Prop} (n sl : Nat) (f : Nat → mi_C) {l1 : Nat} {l2 : Nat} {l3 : Int32} {l4 : Int32} {fs5 : List Value} {x8 : Nat} (m10 i10 : Nat) (g10 : Nat → Int64) {fs14 : List Value} {x17 : Nat} (m19 i19 : Nat) (g19 : Nat → Int64) (h6 : f l1 = .inr (5, fs5)) (h7 : l1 < n) (h9 : fs5[1]? = some (.ref x8)) (h11 : f x8 = .inl (3, m10, .inr (.inl g10))) (h12 : x8 < n) (h13 : mi_ix l4 m10 i10) (h15 : f l2 = .inr (8, fs14)) (h16 : l2 < n) (h18 : fs14[5]? = some (.ref x17)) (h20 : f x17 = .inl (3, m19, .inr (.inl g19))) (h21 : x17 < n) (h22 : mi_ix l3 m19 i19) (h23 : (lg_cmp (g10 i10) (4611686018427387904 - (g19 i19))) ≤ (0 : Int32) → mi_W d 110 65 [some (.ref l1), some (.ref l2), some (.int l3), some (.int l4)] [] (n, sl, f) Q) (h24 : ¬ ((lg_cmp (g10 i10) (4611686018427387904 - (g19 i19))) ≤ (0 : Int32)) → mi_W d 110 63 [some (.ref l1), some (.ref l2), some (.int l3), some (.int l4)] [] (n, sl, f) Q) : mi_W d 110 43 [some (.ref l1), some (.ref l2), some (.int l3), some (.int l4)] [] (n, sl, f) Q := by
  refine w_aload_n cd_110_43 rfl ?_
  refine w_getfield cd_110_44 (show mt_f 5 15 = some (5, 1) by decide +kernel) h6 h7 h9 ?_
  refine w_iload_n cd_110_47 rfl ?_
  refine w_laload cd_110_48 h11 h12 h13 ?_
  refine w_ldc2_w (lv := 4611686018427387904) cd_110_49 (by decide +kernel) ?_
  refine w_aload_n cd_110_52 rfl ?_
  refine w_getfield cd_110_53 (show mt_f 5 39 = some (8, 5) by decide +kernel) h15 h16 h18 ?_
  refine w_iload_n cd_110_56 rfl ?_
  refine w_laload cd_110_57 h20 h21 h22 ?_
  refine w_lsub cd_110_58 ?_
  refine w_lcmp cd_110_59 ?_
  exact w_ifle cd_110_60 (by decide) h23 h24
theorem b_110_63 {d : Nat} {Q : (Option Value ⊕ Nat) → mi_H → Prop} (n sl : Nat) (f : Nat → mi_C) {l1 : Nat} {l2 : Nat} {l3 : Int32} {l4 : Int32} (h5 : Q (.inl (some (.int 0))) (n, sl, f)) : mi_W d 110 63 [some (.ref l1), some (.ref l2), some (.int l3), some (.int l4)] [] (n, sl, f) Q := by
  refine w_iconst (v := 0) cd_110_63 (by decide) ?_
  exact w_ireturn_z cd_110_64 (by decide +kernel) (by decide) h5
theorem b_110_65 {d : Nat} {Q : (Option Value ⊕ Nat) → mi_H → Prop} (n sl : Nat) (f : Nat → mi_C) {l1 : Nat} {l2 : Nat} {l3 : Int32} {l4 : Int32} {fs5 : List Value} {x8 : Nat} (m10 i10 : Nat) (g10 : Nat → Int64) {fs14 : List Value} {x17 : Nat} (m19 i19 : Nat) (g19 : Nat → Int64) (m23 i23 : Nat) (g23 : Nat → Int64) (h6 : f l1 = .inr (5, fs5)) (h7 : l1 < n) (h9 : fs5[1]? = some (.ref x8)) (h11 : f x8 = .inl (3, m10, .inr (.inl g10))) (h12 : x8 < n) (h13 : mi_ix l4 m10 i10) (h15 : f l2 = .inr (8, fs14)) (h16 : l2 < n) (h18 : fs14[5]? = some (.ref x17)) (h20 : f x17 = .inl (3, m19, .inr (.inl g19))) (h21 : x17 < n) (h22 : mi_ix l3 m19 i19) (h24 : f x8 = .inl (3, m23, .inr (.inl g23))) (h25 : x8 < n) (h26 : mi_ix l4 m23 i23) (h27 : mi_W d 110 2 [some (.ref l1), some (.ref l2), some (.int (l3 + 1)), some (.int l4)] [] (n, sl, (va_up f x8 (.inl (3, m23, .inr (.inl (vp_updL g23 i23 ((g10 i10) + (g19 i19)))))))) Q) : mi_W d 110 65 [some (.ref l1), some (.ref l2), some (.int l3), some (.int l4)] [] (n, sl, f) Q := by
  refine w_aload_n cd_110_65 rfl ?_
  refine w_getfield cd_110_66 (show mt_f 5 15 = some (5, 1) by decide +kernel) h6 h7 h9 ?_
  refine w_iload_n cd_110_69 rfl ?_
  refine w_dup2_ir cd_110_70 ?_
  refine w_laload cd_110_71 h11 h12 h13 ?_
  refine w_aload_n cd_110_72 rfl ?_
  refine w_getfield cd_110_73 (show mt_f 5 39 = some (8, 5) by decide +kernel) h15 h16 h18 ?_
  refine w_iload_n cd_110_76 rfl ?_
  refine w_laload cd_110_77 h20 h21 h22 ?_
  refine w_ladd cd_110_78 ?_
  refine w_lastore cd_110_79 h24 h25 h26 ?_
  refine w_iinc (v := 1) (ls' := [some (.ref l1), some (.ref l2), some (.int (l3 + 1)), some (.int l4)]) cd_110_80 rfl (by decide) rfl ?_
  exact w_goto cd_110_83 (by decide) h27
theorem b_110_86 {d : Nat} {Q : (Option Value ⊕ Nat) → mi_H → Prop} (n sl : Nat) (f : Nat → mi_C) {l1 : Nat} {l2 : Nat} {l3 : Int32} {o4 : Option Value} {fs5 : List Value} {x8 : Nat} {fs10 : List Value} {x13 : Nat} (m15 k15 : Nat) (g15 e15 : Nat → Int64) (h6 : f l1 = .inr (5, fs5)) (h7 : l1 < n) (h9 : fs5[1]? = some (.ref x8)) (h11 : f l1 = .inr (5, fs10)) (h12 : l1 < n) (h14 : fs10[0]? = some (.ref x13)) (h16 : f x8 = .inl (3, m15, .inr (.inl g15))) (h17 : x8 < n) (h18 : f x13 = .inl (3, k15, .inr (.inl e15))) (h19 : x13 < n) (h20 : ¬ (0 : Int32) < 0 ∧ ¬ (0 : Int32) < 0 ∧ ¬ (32 : Int32) < 0 ∧ (0 : Int32).toNatClampNeg + (32 : Int32).toNatClampNeg ≤ m15 ∧ (0 : Int32).toNatClampNeg + (32 : Int32).toNatClampNeg ≤ k15) (h21 : Q (.inl (some (.int 1))) (n, sl, (va_up f x13 (.inl (3, k15, .inr (.inl (va_cpy g15 e15 (0 : Int32).toNatClampNeg (0 : Int32).toNatClampNeg (32 : Int32).toNatClampNeg))))))) : mi_W d 110 86 [some (.ref l1), some (.ref l2), some (.int l3), o4] [] (n, sl, f) Q := by
  refine w_aload_n cd_110_86 rfl ?_
  refine w_getfield cd_110_87 (show mt_f 5 15 = some (5, 1) by decide +kernel) h6 h7 h9 ?_
  refine w_iconst (v := 0) cd_110_90 (by decide) ?_
  refine w_aload_n cd_110_91 rfl ?_
  refine w_getfield cd_110_92 (show mt_f 5 9 = some (5, 0) by decide +kernel) h11 h12 h14 ?_
  refine w_iconst (v := 0) cd_110_95 (by decide) ?_
  refine w_bipush (v := 32) cd_110_96 (by decide) ?_
  refine w_arraycopy cd_110_98 (by decide) h16 h17 h18 h19 (Nat.le_of_ble_eq_true rfl) h20 ?_
  refine w_iconst (v := 1) cd_110_101 (by decide) ?_
  exact w_ireturn_z cd_110_102 (by decide +kernel) (by decide) h21
/-! MarloweHostLaw.told(LMarloweHost;II[J)I -/
set_option maxRecDepth 100000 in
theorem mq_111 : mt_q 111 = my_111 := rfl
set_option maxRecDepth 100000 in
theorem ci_111 : mt_inc 0 my_111.cd = true := by decide +kernel
theorem cd_111_0 : mt_cd 111 0 = some (.aload_n 3) := mt_cd_of (q := (0, .aload_n 3, 1)) mq_111 ci_111 (List.mem_of_getElem? (i := 0) rfl)
theorem cd_111_1 : mt_cd 111 1 = some (.iconst 0) := mt_cd_of (q := (1, .iconst 0, 1)) mq_111 ci_111 (List.mem_of_getElem? (i := 1) rfl)
theorem cd_111_2 : mt_cd 111 2 = some (.aload_n 0) := mt_cd_of (q := (2, .aload_n 0, 1)) mq_111 ci_111 (List.mem_of_getElem? (i := 2) rfl)
theorem cd_111_3 : mt_cd 111 3 = some (.iload_n 1) := mt_cd_of (q := (3, .iload_n 1, 1)) mq_111 ci_111 (List.mem_of_getElem? (i := 3) rfl)
theorem cd_111_4 : mt_cd 111 4 = some (.iload_n 2) := mt_cd_of (q := (4, .iload_n 2, 1)) mq_111 ci_111 (List.mem_of_getElem? (i := 4) rfl)
theorem cd_111_5 : mt_cd 111 5 = some (.invokevirtual 43) := mt_cd_of (q := (5, .invokevirtual 43, 3)) mq_111 ci_111 (List.mem_of_getElem? (i := 5) rfl)
theorem cd_111_8 : mt_cd 111 8 = some (.i2l) := mt_cd_of (q := (8, .i2l, 1)) mq_111 ci_111 (List.mem_of_getElem? (i := 6) rfl)
theorem cd_111_9 : mt_cd 111 9 = some (.lastore) := mt_cd_of (q := (9, .lastore, 1)) mq_111 ci_111 (List.mem_of_getElem? (i := 7) rfl)
theorem cd_111_10 : mt_cd 111 10 = some (.goto 11) := mt_cd_of (q := (10, .goto 11, 3)) mq_111 ci_111 (List.mem_of_getElem? (i := 8) rfl)
theorem cd_111_13 : mt_cd 111 13 = some (.astore 4) := mt_cd_of (q := (13, .astore 4, 2)) mq_111 ci_111 (List.mem_of_getElem? (i := 9) rfl)
theorem cd_111_15 : mt_cd 111 15 = some (.iconst 1) := mt_cd_of (q := (15, .iconst 1, 1)) mq_111 ci_111 (List.mem_of_getElem? (i := 10) rfl)
theorem cd_111_16 : mt_cd 111 16 = some (.ireturn) := mt_cd_of (q := (16, .ireturn, 1)) mq_111 ci_111 (List.mem_of_getElem? (i := 11) rfl)
theorem cd_111_17 : mt_cd 111 17 = some (.astore 4) := mt_cd_of (q := (17, .astore 4, 2)) mq_111 ci_111 (List.mem_of_getElem? (i := 12) rfl)
theorem cd_111_19 : mt_cd 111 19 = some (.iconst 2) := mt_cd_of (q := (19, .iconst 2, 1)) mq_111 ci_111 (List.mem_of_getElem? (i := 13) rfl)
theorem cd_111_20 : mt_cd 111 20 = some (.ireturn) := mt_cd_of (q := (20, .ireturn, 1)) mq_111 ci_111 (List.mem_of_getElem? (i := 14) rfl)
theorem cd_111_21 : mt_cd 111 21 = some (.iconst 0) := mt_cd_of (q := (21, .iconst 0, 1)) mq_111 ci_111 (List.mem_of_getElem? (i := 15) rfl)
theorem cd_111_22 : mt_cd 111 22 = some (.ireturn) := mt_cd_of (q := (22, .ireturn, 1)) mq_111 ci_111 (List.mem_of_getElem? (i := 16) rfl)
theorem b_111_0 {d : Nat} {Q : (Option Value ⊕ Nat) → mi_H → Prop} (n sl : Nat) (f : Nat → mi_C) {l1 : Nat} {l2 : Int32} {l3 : Int32} {l4 : Nat} {o5 : Option Value} {fs6 : List Value} (h7 : f l1 = .inr (0, fs6)) (h8 : l1 < n) (h9 : mi_W d 112 0 (mi_en 4 [.ref l1, .int l2, .int l3]) [] (n, sl, f) (mi_Kc d 111 5 [some (.ref l1), some (.int l2), some (.int l3), some (.ref l4), o5] [.int 0, .ref l4] Q)) : mi_W (d + 1) 111 0 [some (.ref l1), some (.int l2), some (.int l3), some (.ref l4), o5] [] (n, sl, f) Q := by
  refine w_aload_n cd_111_0 rfl ?_
  refine w_iconst (v := 0) cd_111_1 (by decide) ?_
  refine w_aload_n cd_111_2 rfl ?_
  refine w_iload_n cd_111_3 rfl ?_
  refine w_iload_n cd_111_4 rfl ?_
  exact w_invokevirtual cd_111_5 (show mt_m 18 43 = some (112, 0) by decide +kernel) (rest := [.int 0, .ref l4]) rfl (as := [.ref l1, .int l2, .int l3]) rfl h7 (Or.inl h8) ⟨Nat.le_of_ble_eq_true rfl, Nat.le_of_ble_eq_true rfl, Nat.le_of_ble_eq_true rfl⟩ h9
theorem b_111_8 {d : Nat} {Q : (Option Value ⊕ Nat) → mi_H → Prop} (n sl : Nat) (f : Nat → mi_C) {l1 : Nat} {l2 : Int32} {l3 : Int32} {l4 : Nat} {o5 : Option Value} {s6 : Int32} {s7 : Int32} {s8 : Nat} (m9 i9 : Nat) (g9 : Nat → Int64) (h10 : f s8 = .inl (3, m9, .inr (.inl g9))) (h11 : s8 < n) (h12 : mi_ix s7 m9 i9) (h13 : mi_W d 111 21 [some (.ref l1), some (.int l2), some (.int l3), some (.ref l4), o5] [] (n, sl, (va_up f s8 (.inl (3, m9, .inr (.inl (vp_updL g9 i9 ((s6 : Int32).toInt64))))))) Q) : mi_W d 111 8 [some (.ref l1), some (.int l2), some (.int l3), some (.ref l4), o5] [.int s6, .int s7, .ref s8] (n, sl, f) Q := by
  refine w_i2l cd_111_8 ?_
  refine w_lastore cd_111_9 h10 h11 h12 ?_
  exact w_goto cd_111_10 (by decide) h13
theorem b_111_13 {d : Nat} {Q : (Option Value ⊕ Nat) → mi_H → Prop} (n sl : Nat) (f : Nat → mi_C) {l1 : Nat} {l2 : Int32} {l3 : Int32} {l4 : Nat} {o5 : Option Value} {s6 : Nat} (h7 : Q (.inl (some (.int 1))) (n, sl, f)) : mi_W d 111 13 [some (.ref l1), some (.int l2), some (.int l3), some (.ref l4), o5] [.ref s6] (n, sl, f) Q := by
  refine w_astore (ls' := [some (.ref l1), some (.int l2), some (.int l3), some (.ref l4), some (.ref s6)]) cd_111_13 (Nat.le_of_ble_eq_true rfl) rfl ?_
  refine w_iconst (v := 1) cd_111_15 (by decide) ?_
  exact w_ireturn_i cd_111_16 (by decide +kernel) h7
theorem b_111_17 {d : Nat} {Q : (Option Value ⊕ Nat) → mi_H → Prop} (n sl : Nat) (f : Nat → mi_C) {l1 : Nat} {l2 : Int32} {l3 : Int32} {l4 : Nat} {o5 : Option Value} {s6 : Nat} (h7 : Q (.inl (some (.int 2))) (n, sl, f)) : mi_W d 111 17 [some (.ref l1), some (.int l2), some (.int l3), some (.ref l4), o5] [.ref s6] (n, sl, f) Q := by
  refine w_astore (ls' := [some (.ref l1), some (.int l2), some (.int l3), some (.ref l4), some (.ref s6)]) cd_111_17 (Nat.le_of_ble_eq_true rfl) rfl ?_
  refine w_iconst (v := 2) cd_111_19 (by decide) ?_
  exact w_ireturn_i cd_111_20 (by decide +kernel) h7
theorem b_111_21 {d : Nat} {Q : (Option Value ⊕ Nat) → mi_H → Prop} (n sl : Nat) (f : Nat → mi_C) {l1 : Nat} {l2 : Int32} {l3 : Int32} {l4 : Nat} {o5 : Option Value} (h6 : Q (.inl (some (.int 0))) (n, sl, f)) : mi_W d 111 21 [some (.ref l1), some (.int l2), some (.int l3), some (.ref l4), o5] [] (n, sl, f) Q := by
  refine w_iconst (v := 0) cd_111_21 (by decide) ?_
  exact w_ireturn_i cd_111_22 (by decide +kernel) h6
/-! MarloweHost.told(II)I -/
set_option maxRecDepth 100000 in
theorem mq_112 : mt_q 112 = my_112 := rfl
set_option maxRecDepth 100000 in
theorem ci_112 : mt_inc 0 my_112.cd = true := by decide +kernel
theorem cd_112_0 : mt_cd 112 0 = some (.iload_n 1) := mt_cd_of (q := (0, .iload_n 1, 1)) mq_112 ci_112 (List.mem_of_getElem? (i := 0) rfl)
theorem cd_112_1 : mt_cd 112 1 = some (.ifCond .lt 8) := mt_cd_of (q := (1, .ifCond .lt 8, 3)) mq_112 ci_112 (List.mem_of_getElem? (i := 1) rfl)
theorem cd_112_4 : mt_cd 112 4 = some (.iload_n 1) := mt_cd_of (q := (4, .iload_n 1, 1)) mq_112 ci_112 (List.mem_of_getElem? (i := 2) rfl)
theorem cd_112_5 : mt_cd 112 5 = some (.iconst 4) := mt_cd_of (q := (5, .iconst 4, 1)) mq_112 ci_112 (List.mem_of_getElem? (i := 3) rfl)
theorem cd_112_6 : mt_cd 112 6 = some (.if_icmp .le 13) := mt_cd_of (q := (6, .if_icmp .le 13, 3)) mq_112 ci_112 (List.mem_of_getElem? (i := 4) rfl)
theorem cd_112_9 : mt_cd 112 9 = some (.new 123) := mt_cd_of (q := (9, .new 123, 3)) mq_112 ci_112 (List.mem_of_getElem? (i := 5) rfl)
theorem cd_112_12 : mt_cd 112 12 = some (.dup) := mt_cd_of (q := (12, .dup, 1)) mq_112 ci_112 (List.mem_of_getElem? (i := 6) rfl)
theorem cd_112_13 : mt_cd 112 13 = some (.ldc 154) := mt_cd_of (q := (13, .ldc 154, 2)) mq_112 ci_112 (List.mem_of_getElem? (i := 7) rfl)
theorem cd_112_15 : mt_cd 112 15 = some (.invokespecial 127) := mt_cd_of (q := (15, .invokespecial 127, 3)) mq_112 ci_112 (List.mem_of_getElem? (i := 8) rfl)
theorem cd_112_18 : mt_cd 112 18 = some (.athrow) := mt_cd_of (q := (18, .athrow, 1)) mq_112 ci_112 (List.mem_of_getElem? (i := 9) rfl)
theorem cd_112_19 : mt_cd 112 19 = some (.aload_n 0) := mt_cd_of (q := (19, .aload_n 0, 1)) mq_112 ci_112 (List.mem_of_getElem? (i := 10) rfl)
theorem cd_112_20 : mt_cd 112 20 = some (.getfield 51) := mt_cd_of (q := (20, .getfield 51, 3)) mq_112 ci_112 (List.mem_of_getElem? (i := 11) rfl)
theorem cd_112_23 : mt_cd 112 23 = some (.getfield 156) := mt_cd_of (q := (23, .getfield 156, 3)) mq_112 ci_112 (List.mem_of_getElem? (i := 12) rfl)
theorem cd_112_26 : mt_cd 112 26 = some (.astore_n 3) := mt_cd_of (q := (26, .astore_n 3, 1)) mq_112 ci_112 (List.mem_of_getElem? (i := 13) rfl)
theorem cd_112_27 : mt_cd 112 27 = some (.iload_n 2) := mt_cd_of (q := (27, .iload_n 2, 1)) mq_112 ci_112 (List.mem_of_getElem? (i := 14) rfl)
theorem cd_112_28 : mt_cd 112 28 = some (.ifCond .lt 23) := mt_cd_of (q := (28, .ifCond .lt 23, 3)) mq_112 ci_112 (List.mem_of_getElem? (i := 15) rfl)
theorem cd_112_31 : mt_cd 112 31 = some (.iload_n 2) := mt_cd_of (q := (31, .iload_n 2, 1)) mq_112 ci_112 (List.mem_of_getElem? (i := 16) rfl)
theorem cd_112_32 : mt_cd 112 32 = some (.iload_n 1) := mt_cd_of (q := (32, .iload_n 1, 1)) mq_112 ci_112 (List.mem_of_getElem? (i := 17) rfl)
theorem cd_112_33 : mt_cd 112 33 = some (.iconst 1) := mt_cd_of (q := (33, .iconst 1, 1)) mq_112 ci_112 (List.mem_of_getElem? (i := 18) rfl)
theorem cd_112_34 : mt_cd 112 34 = some (.if_icmp .gt 10) := mt_cd_of (q := (34, .if_icmp .gt 10, 3)) mq_112 ci_112 (List.mem_of_getElem? (i := 19) rfl)
theorem cd_112_37 : mt_cd 112 37 = some (.aload_n 3) := mt_cd_of (q := (37, .aload_n 3, 1)) mq_112 ci_112 (List.mem_of_getElem? (i := 20) rfl)
theorem cd_112_38 : mt_cd 112 38 = some (.getfield 160) := mt_cd_of (q := (38, .getfield 160, 3)) mq_112 ci_112 (List.mem_of_getElem? (i := 21) rfl)
theorem cd_112_41 : mt_cd 112 41 = some (.goto 7) := mt_cd_of (q := (41, .goto 7, 3)) mq_112 ci_112 (List.mem_of_getElem? (i := 22) rfl)
theorem cd_112_44 : mt_cd 112 44 = some (.aload_n 3) := mt_cd_of (q := (44, .aload_n 3, 1)) mq_112 ci_112 (List.mem_of_getElem? (i := 23) rfl)
theorem cd_112_45 : mt_cd 112 45 = some (.getfield 165) := mt_cd_of (q := (45, .getfield 165, 3)) mq_112 ci_112 (List.mem_of_getElem? (i := 24) rfl)
theorem cd_112_48 : mt_cd 112 48 = some (.if_icmp .lt 13) := mt_cd_of (q := (48, .if_icmp .lt 13, 3)) mq_112 ci_112 (List.mem_of_getElem? (i := 25) rfl)
theorem cd_112_51 : mt_cd 112 51 = some (.new 78) := mt_cd_of (q := (51, .new 78, 3)) mq_112 ci_112 (List.mem_of_getElem? (i := 26) rfl)
theorem cd_112_54 : mt_cd 112 54 = some (.dup) := mt_cd_of (q := (54, .dup, 1)) mq_112 ci_112 (List.mem_of_getElem? (i := 27) rfl)
theorem cd_112_55 : mt_cd 112 55 = some (.ldc 168) := mt_cd_of (q := (55, .ldc 168, 2)) mq_112 ci_112 (List.mem_of_getElem? (i := 28) rfl)
theorem cd_112_57 : mt_cd 112 57 = some (.invokespecial 82) := mt_cd_of (q := (57, .invokespecial 82, 3)) mq_112 ci_112 (List.mem_of_getElem? (i := 29) rfl)
theorem cd_112_60 : mt_cd 112 60 = some (.athrow) := mt_cd_of (q := (60, .athrow, 1)) mq_112 ci_112 (List.mem_of_getElem? (i := 30) rfl)
theorem cd_112_61 : mt_cd 112 61 = some (.iload_n 1) := mt_cd_of (q := (61, .iload_n 1, 1)) mq_112 ci_112 (List.mem_of_getElem? (i := 31) rfl)
theorem cd_112_62 : mt_cd 112 62 = some (.tableswitch 58 0 3 #[30, 37, 44, 51]) := mt_cd_of (q := (62, .tableswitch 58 0 3 #[30, 37, 44, 51], 30)) mq_112 ci_112 (List.mem_of_getElem? (i := 32) rfl)
theorem cd_112_92 : mt_cd 112 92 = some (.aload_n 3) := mt_cd_of (q := (92, .aload_n 3, 1)) mq_112 ci_112 (List.mem_of_getElem? (i := 33) rfl)
theorem cd_112_93 : mt_cd 112 93 = some (.getfield 170) := mt_cd_of (q := (93, .getfield 170, 3)) mq_112 ci_112 (List.mem_of_getElem? (i := 34) rfl)
theorem cd_112_96 : mt_cd 112 96 = some (.iload_n 2) := mt_cd_of (q := (96, .iload_n 2, 1)) mq_112 ci_112 (List.mem_of_getElem? (i := 35) rfl)
theorem cd_112_97 : mt_cd 112 97 = some (.iaload) := mt_cd_of (q := (97, .iaload, 1)) mq_112 ci_112 (List.mem_of_getElem? (i := 36) rfl)
theorem cd_112_98 : mt_cd 112 98 = some (.ireturn) := mt_cd_of (q := (98, .ireturn, 1)) mq_112 ci_112 (List.mem_of_getElem? (i := 37) rfl)
theorem cd_112_99 : mt_cd 112 99 = some (.aload_n 3) := mt_cd_of (q := (99, .aload_n 3, 1)) mq_112 ci_112 (List.mem_of_getElem? (i := 38) rfl)
theorem cd_112_100 : mt_cd 112 100 = some (.getfield 174) := mt_cd_of (q := (100, .getfield 174, 3)) mq_112 ci_112 (List.mem_of_getElem? (i := 39) rfl)
theorem cd_112_103 : mt_cd 112 103 = some (.iload_n 2) := mt_cd_of (q := (103, .iload_n 2, 1)) mq_112 ci_112 (List.mem_of_getElem? (i := 40) rfl)
theorem cd_112_104 : mt_cd 112 104 = some (.iaload) := mt_cd_of (q := (104, .iaload, 1)) mq_112 ci_112 (List.mem_of_getElem? (i := 41) rfl)
theorem cd_112_105 : mt_cd 112 105 = some (.ireturn) := mt_cd_of (q := (105, .ireturn, 1)) mq_112 ci_112 (List.mem_of_getElem? (i := 42) rfl)
theorem cd_112_106 : mt_cd 112 106 = some (.aload_n 3) := mt_cd_of (q := (106, .aload_n 3, 1)) mq_112 ci_112 (List.mem_of_getElem? (i := 43) rfl)
theorem cd_112_107 : mt_cd 112 107 = some (.getfield 177) := mt_cd_of (q := (107, .getfield 177, 3)) mq_112 ci_112 (List.mem_of_getElem? (i := 44) rfl)
theorem cd_112_110 : mt_cd 112 110 = some (.iload_n 2) := mt_cd_of (q := (110, .iload_n 2, 1)) mq_112 ci_112 (List.mem_of_getElem? (i := 45) rfl)
theorem cd_112_111 : mt_cd 112 111 = some (.iaload) := mt_cd_of (q := (111, .iaload, 1)) mq_112 ci_112 (List.mem_of_getElem? (i := 46) rfl)
theorem cd_112_112 : mt_cd 112 112 = some (.ireturn) := mt_cd_of (q := (112, .ireturn, 1)) mq_112 ci_112 (List.mem_of_getElem? (i := 47) rfl)
theorem cd_112_113 : mt_cd 112 113 = some (.aload_n 3) := mt_cd_of (q := (113, .aload_n 3, 1)) mq_112 ci_112 (List.mem_of_getElem? (i := 48) rfl)
theorem cd_112_114 : mt_cd 112 114 = some (.getfield 180) := mt_cd_of (q := (114, .getfield 180, 3)) mq_112 ci_112 (List.mem_of_getElem? (i := 49) rfl)
theorem cd_112_117 : mt_cd 112 117 = some (.iload_n 2) := mt_cd_of (q := (117, .iload_n 2, 1)) mq_112 ci_112 (List.mem_of_getElem? (i := 50) rfl)
theorem cd_112_118 : mt_cd 112 118 = some (.iaload) := mt_cd_of (q := (118, .iaload, 1)) mq_112 ci_112 (List.mem_of_getElem? (i := 51) rfl)
theorem cd_112_119 : mt_cd 112 119 = some (.ireturn) := mt_cd_of (q := (119, .ireturn, 1)) mq_112 ci_112 (List.mem_of_getElem? (i := 52) rfl)
theorem cd_112_120 : mt_cd 112 120 = some (.aload_n 3) := mt_cd_of (q := (120, .aload_n 3, 1)) mq_112 ci_112 (List.mem_of_getElem? (i := 53) rfl)
theorem cd_112_121 : mt_cd 112 121 = some (.getfield 183) := mt_cd_of (q := (121, .getfield 183, 3)) mq_112 ci_112 (List.mem_of_getElem? (i := 54) rfl)
theorem cd_112_124 : mt_cd 112 124 = some (.iload_n 2) := mt_cd_of (q := (124, .iload_n 2, 1)) mq_112 ci_112 (List.mem_of_getElem? (i := 55) rfl)
theorem cd_112_125 : mt_cd 112 125 = some (.iaload) := mt_cd_of (q := (125, .iaload, 1)) mq_112 ci_112 (List.mem_of_getElem? (i := 56) rfl)
theorem cd_112_126 : mt_cd 112 126 = some (.ireturn) := mt_cd_of (q := (126, .ireturn, 1)) mq_112 ci_112 (List.mem_of_getElem? (i := 57) rfl)
theorem b_112_0 {d : Nat} {Q : (Option Value ⊕ Nat) → mi_H → Prop} (n sl : Nat) (f : Nat → mi_C) {l1 : Nat} {l2 : Int32} {l3 : Int32} {o4 : Option Value} (h5 : l2 < (0 : Int32) → mi_W d 112 9 [some (.ref l1), some (.int l2), some (.int l3), o4] [] (n, sl, f) Q) (h6 : ¬ (l2 < (0 : Int32)) → mi_W d 112 4 [some (.ref l1), some (.int l2), some (.int l3), o4] [] (n, sl, f) Q) : mi_W d 112 0 [some (.ref l1), some (.int l2), some (.int l3), o4] [] (n, sl, f) Q := by
  refine w_iload_n cd_112_0 rfl ?_
  exact w_iflt cd_112_1 (by decide) h5 h6
theorem b_112_4 {d : Nat} {Q : (Option Value ⊕ Nat) → mi_H → Prop} (n sl : Nat) (f : Nat → mi_C) {l1 : Nat} {l2 : Int32} {l3 : Int32} {o4 : Option Value} (h5 : l2 ≤ 4 → mi_W d 112 19 [some (.ref l1), some (.int l2), some (.int l3), o4] [] (n, sl, f) Q) (h6 : ¬ (l2 ≤ 4) → mi_W d 112 9 [some (.ref l1), some (.int l2), some (.int l3), o4] [] (n, sl, f) Q) : mi_W d 112 4 [some (.ref l1), some (.int l2), some (.int l3), o4] [] (n, sl, f) Q := by
  refine w_iload_n cd_112_4 rfl ?_
  refine w_iconst (v := 4) cd_112_5 (by decide) ?_
  exact w_if_icmple cd_112_6 (by decide) h5 h6
theorem b_112_9 {d : Nat} {Q : (Option Value ⊕ Nat) → mi_H → Prop} (n sl : Nat) (f : Nat → mi_C) {l1 : Nat} {l2 : Int32} {l3 : Int32} {o4 : Option Value} {h' : mi_H} (h5 : mi_t 112 9 (.new 123) [] (n, sl, f) = some h') (h6 : Q (.inr n) h') : mi_W d 112 9 [some (.ref l1), some (.int l2), some (.int l3), o4] [] (n, sl, f) Q := by
  exact w_throw cd_112_9 (show mt_c 0 123 = some 15 by decide +kernel) (by decide) h5 h6
theorem b_112_19 {d : Nat} {Q : (Option Value ⊕ Nat) → mi_H → Prop} (n sl : Nat) (f : Nat → mi_C) {l1 : Nat} {l2 : Int32} {l3 : Int32} {o4 : Option Value} {fs5 : List Value} {x8 : Nat} {fs10 : List Value} {x13 : Nat} (h6 : f l1 = .inr (0, fs5)) (h7 : l1 < n) (h9 : fs5[5]? = some (.ref x8)) (h11 : f x8 = .inr (7, fs10)) (h12 : x8 < n) (h14 : fs10[7]? = some (.ref x13)) (h15 : l3 < (0 : Int32) → mi_W d 112 51 [some (.ref l1), some (.int l2), some (.int l3), some (.ref x13)] [] (n, sl, f) Q) (h16 : ¬ (l3 < (0 : Int32)) → mi_W d 112 31 [some (.ref l1), some (.int l2), some (.int l3), some (.ref x13)] [] (n, sl, f) Q) : mi_W d 112 19 [some (.ref l1), some (.int l2), some (.int l3), o4] [] (n, sl, f) Q := by
  refine w_aload_n cd_112_19 rfl ?_
  refine w_getfield cd_112_20 (show mt_f 0 51 = some (0, 5) by decide +kernel) h6 h7 h9 ?_
  refine w_getfield cd_112_23 (show mt_f 0 156 = some (7, 7) by decide +kernel) h11 h12 h14 ?_
  refine w_astore_n (ls' := [some (.ref l1), some (.int l2), some (.int l3), some (.ref x13)]) cd_112_26 (Nat.le_of_ble_eq_true rfl) rfl ?_
  refine w_iload_n cd_112_27 rfl ?_
  exact w_iflt cd_112_28 (by decide) h15 h16
theorem b_112_31 {d : Nat} {Q : (Option Value ⊕ Nat) → mi_H → Prop} (n sl : Nat) (f : Nat → mi_C) {l1 : Nat} {l2 : Int32} {l3 : Int32} {l4 : Nat} (h5 : 1 < l2 → mi_W d 112 44 [some (.ref l1), some (.int l2), some (.int l3), some (.ref l4)] [.int l3] (n, sl, f) Q) (h6 : ¬ (1 < l2) → mi_W d 112 37 [some (.ref l1), some (.int l2), some (.int l3), some (.ref l4)] [.int l3] (n, sl, f) Q) : mi_W d 112 31 [some (.ref l1), some (.int l2), some (.int l3), some (.ref l4)] [] (n, sl, f) Q := by
  refine w_iload_n cd_112_31 rfl ?_
  refine w_iload_n cd_112_32 rfl ?_
  refine w_iconst (v := 1) cd_112_33 (by decide) ?_
  exact w_if_icmpgt cd_112_34 (by decide) h5 h6
theorem b_112_37 {d : Nat} {Q : (Option Value ⊕ Nat) → mi_H → Prop} (n sl : Nat) (f : Nat → mi_C) {l1 : Nat} {l2 : Int32} {l3 : Int32} {l4 : Nat} {s5 : Int32} {fs6 : List Value} {x9 : Int32} (h7 : f l4 = .inr (8, fs6)) (h8 : l4 < n) (h10 : fs6[6]? = some (.int x9)) (h11 : mi_W d 112 48 [some (.ref l1), some (.int l2), some (.int l3), some (.ref l4)] [.int x9, .int s5] (n, sl, f) Q) : mi_W d 112 37 [some (.ref l1), some (.int l2), some (.int l3), some (.ref l4)] [.int s5] (n, sl, f) Q := by
  refine w_aload_n cd_112_37 rfl ?_
  refine w_getfield cd_112_38 (show mt_f 0 160 = some (8, 6) by decide +kernel) h7 h8 h10 ?_
  exact w_goto cd_112_41 (by decide) h11
theorem b_112_44 {d : Nat} {Q : (Option Value ⊕ Nat) → mi_H → Prop} (n sl : Nat) (f : Nat → mi_C) {l1 : Nat} {l2 : Int32} {l3 : Int32} {l4 : Nat} {s5 : Int32} {fs6 : List Value} {x9 : Int32} (h7 : f l4 = .inr (8, fs6)) (h8 : l4 < n) (h10 : fs6[7]? = some (.int x9)) (h11 : mi_W d 112 48 [some (.ref l1), some (.int l2), some (.int l3), some (.ref l4)] [.int x9, .int s5] (n, sl, f) Q) : mi_W d 112 44 [some (.ref l1), some (.int l2), some (.int l3), some (.ref l4)] [.int s5] (n, sl, f) Q := by
  refine w_aload_n cd_112_44 rfl ?_
  refine w_getfield cd_112_45 (show mt_f 0 165 = some (8, 7) by decide +kernel) h7 h8 h10 ?_
  exact h11
theorem b_112_48 {d : Nat} {Q : (Option Value ⊕ Nat) → mi_H → Prop} (n sl : Nat) (f : Nat → mi_C) {l1 : Nat} {l2 : Int32} {l3 : Int32} {l4 : Nat} {s5 : Int32} {s6 : Int32} (h7 : s6 < s5 → mi_W d 112 61 [some (.ref l1), some (.int l2), some (.int l3), some (.ref l4)] [] (n, sl, f) Q) (h8 : ¬ (s6 < s5) → mi_W d 112 51 [some (.ref l1), some (.int l2), some (.int l3), some (.ref l4)] [] (n, sl, f) Q) : mi_W d 112 48 [some (.ref l1), some (.int l2), some (.int l3), some (.ref l4)] [.int s5, .int s6] (n, sl, f) Q := by
  exact w_if_icmplt cd_112_48 (by decide) h7 h8
theorem b_112_51 {d : Nat} {Q : (Option Value ⊕ Nat) → mi_H → Prop} (n sl : Nat) (f : Nat → mi_C) {l1 : Nat} {l2 : Int32} {l3 : Int32} {l4 : Nat} {h' : mi_H} (h5 : mi_t 112 51 (.new 78) [] (n, sl, f) = some h') (h6 : Q (.inr n) h') : mi_W d 112 51 [some (.ref l1), some (.int l2), some (.int l3), some (.ref l4)] [] (n, sl, f) Q := by
  exact w_throw cd_112_51 (show mt_c 0 78 = some 14 by decide +kernel) (by decide) h5 h6
theorem b_112_61 {d : Nat} {Q : (Option Value ⊕ Nat) → mi_H → Prop} (n sl : Nat) (f : Nat → mi_C) {l1 : Nat} {l2 : Int32} {l3 : Int32} {l4 : Nat} {t5 : Nat} (h6 : mi_ts 62 58 0 3 #[30, 37, 44, 51] (l2 : Int32).toInt = some t5) (h7 : mi_W d 112 t5 [some (.ref l1), some (.int l2), some (.int l3), some (.ref l4)] [] (n, sl, f) Q) : mi_W d 112 61 [some (.ref l1), some (.int l2), some (.int l3), some (.ref l4)] [] (n, sl, f) Q := by
  refine w_iload_n cd_112_61 rfl ?_
  exact w_tableswitch cd_112_62 h6 h7
theorem b_112_92 {d : Nat} {Q : (Option Value ⊕ Nat) → mi_H → Prop} (n sl : Nat) (f : Nat → mi_C) {l1 : Nat} {l2 : Int32} {l3 : Int32} {l4 : Nat} {fs5 : List Value} {x8 : Nat} (m10 i10 : Nat) (g10 : Nat → Int32) (h6 : f l4 = .inr (8, fs5)) (h7 : l4 < n) (h9 : fs5[0]? = some (.ref x8)) (h11 : f x8 = .inl (0, m10, .inl g10)) (h12 : x8 < n ∨ x8 = mi_SC) (h13 : mi_ix l3 m10 i10) (h14 : Q (.inl (some (.int (g10 i10)))) (n, sl, f)) : mi_W d 112 92 [some (.ref l1), some (.int l2), some (.int l3), some (.ref l4)] [] (n, sl, f) Q := by
  refine w_aload_n cd_112_92 rfl ?_
  refine w_getfield cd_112_93 (show mt_f 0 170 = some (8, 0) by decide +kernel) h6 h7 h9 ?_
  refine w_iload_n cd_112_96 rfl ?_
  refine w_iaload cd_112_97 h11 h12 h13 ?_
  exact w_ireturn_i cd_112_98 (by decide +kernel) h14
theorem b_112_99 {d : Nat} {Q : (Option Value ⊕ Nat) → mi_H → Prop} (n sl : Nat) (f : Nat → mi_C) {l1 : Nat} {l2 : Int32} {l3 : Int32} {l4 : Nat} {fs5 : List Value} {x8 : Nat} (m10 i10 : Nat) (g10 : Nat → Int32) (h6 : f l4 = .inr (8, fs5)) (h7 : l4 < n) (h9 : fs5[1]? = some (.ref x8)) (h11 : f x8 = .inl (0, m10, .inl g10)) (h12 : x8 < n ∨ x8 = mi_SC) (h13 : mi_ix l3 m10 i10) (h14 : Q (.inl (some (.int (g10 i10)))) (n, sl, f)) : mi_W d 112 99 [some (.ref l1), some (.int l2), some (.int l3), some (.ref l4)] [] (n, sl, f) Q := by
  refine w_aload_n cd_112_99 rfl ?_
  refine w_getfield cd_112_100 (show mt_f 0 174 = some (8, 1) by decide +kernel) h6 h7 h9 ?_
  refine w_iload_n cd_112_103 rfl ?_
  refine w_iaload cd_112_104 h11 h12 h13 ?_
  exact w_ireturn_i cd_112_105 (by decide +kernel) h14
theorem b_112_106 {d : Nat} {Q : (Option Value ⊕ Nat) → mi_H → Prop} (n sl : Nat) (f : Nat → mi_C) {l1 : Nat} {l2 : Int32} {l3 : Int32} {l4 : Nat} {fs5 : List Value} {x8 : Nat} (m10 i10 : Nat) (g10 : Nat → Int32) (h6 : f l4 = .inr (8, fs5)) (h7 : l4 < n) (h9 : fs5[2]? = some (.ref x8)) (h11 : f x8 = .inl (0, m10, .inl g10)) (h12 : x8 < n ∨ x8 = mi_SC) (h13 : mi_ix l3 m10 i10) (h14 : Q (.inl (some (.int (g10 i10)))) (n, sl, f)) : mi_W d 112 106 [some (.ref l1), some (.int l2), some (.int l3), some (.ref l4)] [] (n, sl, f) Q := by
  refine w_aload_n cd_112_106 rfl ?_
  refine w_getfield cd_112_107 (show mt_f 0 177 = some (8, 2) by decide +kernel) h6 h7 h9 ?_
  refine w_iload_n cd_112_110 rfl ?_
  refine w_iaload cd_112_111 h11 h12 h13 ?_
  exact w_ireturn_i cd_112_112 (by decide +kernel) h14
theorem b_112_113 {d : Nat} {Q : (Option Value ⊕ Nat) → mi_H → Prop} (n sl : Nat) (f : Nat → mi_C) {l1 : Nat} {l2 : Int32} {l3 : Int32} {l4 : Nat} {fs5 : List Value} {x8 : Nat} (m10 i10 : Nat) (g10 : Nat → Int32) (h6 : f l4 = .inr (8, fs5)) (h7 : l4 < n) (h9 : fs5[3]? = some (.ref x8)) (h11 : f x8 = .inl (0, m10, .inl g10)) (h12 : x8 < n ∨ x8 = mi_SC) (h13 : mi_ix l3 m10 i10) (h14 : Q (.inl (some (.int (g10 i10)))) (n, sl, f)) : mi_W d 112 113 [some (.ref l1), some (.int l2), some (.int l3), some (.ref l4)] [] (n, sl, f) Q := by
  refine w_aload_n cd_112_113 rfl ?_
  refine w_getfield cd_112_114 (show mt_f 0 180 = some (8, 3) by decide +kernel) h6 h7 h9 ?_
  refine w_iload_n cd_112_117 rfl ?_
  refine w_iaload cd_112_118 h11 h12 h13 ?_
  exact w_ireturn_i cd_112_119 (by decide +kernel) h14
theorem b_112_120 {d : Nat} {Q : (Option Value ⊕ Nat) → mi_H → Prop} (n sl : Nat) (f : Nat → mi_C) {l1 : Nat} {l2 : Int32} {l3 : Int32} {l4 : Nat} {fs5 : List Value} {x8 : Nat} (m10 i10 : Nat) (g10 : Nat → Int32) (h6 : f l4 = .inr (8, fs5)) (h7 : l4 < n) (h9 : fs5[4]? = some (.ref x8)) (h11 : f x8 = .inl (0, m10, .inl g10)) (h12 : x8 < n ∨ x8 = mi_SC) (h13 : mi_ix l3 m10 i10) (h14 : Q (.inl (some (.int (g10 i10)))) (n, sl, f)) : mi_W d 112 120 [some (.ref l1), some (.int l2), some (.int l3), some (.ref l4)] [] (n, sl, f) Q := by
  refine w_aload_n cd_112_120 rfl ?_
  refine w_getfield cd_112_121 (show mt_f 0 183 = some (8, 4) by decide +kernel) h6 h7 h9 ?_
  refine w_iload_n cd_112_124 rfl ?_
  refine w_iaload cd_112_125 h11 h12 h13 ?_
  exact w_ireturn_i cd_112_126 (by decide +kernel) h14
end
