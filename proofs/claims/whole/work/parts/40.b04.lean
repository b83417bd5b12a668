section
/-! MarloweHostModel$State.<init>()V -/
set_option maxRecDepth 100000 in
theorem mq_137 : mt_q 137 = my_137 := rfl
set_option maxRecDepth 100000 in
theorem ci_137 : mt_inc 0 my_137.cd = true := by decide +kernel
theorem cd_137_0 : mt_cd 137 0 = some (.aload_n 0) := mt_cd_of (q := (0, .aload_n 0, 1)) mq_137 ci_137 (List.mem_of_getElem? (i := 0) rfl)
theorem cd_137_1 : mt_cd 137 1 = some (.invokespecial 3) := mt_cd_of (q := (1, .invokespecial 3, 3)) mq_137 ci_137 (List.mem_of_getElem? (i := 1) rfl)
theorem cd_137_4 : mt_cd 137 4 = some (.aload_n 0) := mt_cd_of (q := (4, .aload_n 0, 1)) mq_137 ci_137 (List.mem_of_getElem? (i := 2) rfl)
theorem cd_137_5 : mt_cd 137 5 = some (.bipush 32) := mt_cd_of (q := (5, .bipush 32, 2)) mq_137 ci_137 (List.mem_of_getElem? (i := 3) rfl)
theorem cd_137_7 : mt_cd 137 7 = some (.newarray .long) := mt_cd_of (q := (7, .newarray .long, 2)) mq_137 ci_137 (List.mem_of_getElem? (i := 4) rfl)
theorem cd_137_9 : mt_cd 137 9 = some (.putfield 9) := mt_cd_of (q := (9, .putfield 9, 3)) mq_137 ci_137 (List.mem_of_getElem? (i := 5) rfl)
theorem cd_137_12 : mt_cd 137 12 = some (.aload_n 0) := mt_cd_of (q := (12, .aload_n 0, 1)) mq_137 ci_137 (List.mem_of_getElem? (i := 6) rfl)
theorem cd_137_13 : mt_cd 137 13 = some (.bipush 8) := mt_cd_of (q := (13, .bipush 8, 2)) mq_137 ci_137 (List.mem_of_getElem? (i := 7) rfl)
theorem cd_137_15 : mt_cd 137 15 = some (.newarray .long) := mt_cd_of (q := (15, .newarray .long, 2)) mq_137 ci_137 (List.mem_of_getElem? (i := 8) rfl)
theorem cd_137_17 : mt_cd 137 17 = some (.putfield 15) := mt_cd_of (q := (17, .putfield 15, 3)) mq_137 ci_137 (List.mem_of_getElem? (i := 9) rfl)
theorem cd_137_20 : mt_cd 137 20 = some (.aload_n 0) := mt_cd_of (q := (20, .aload_n 0, 1)) mq_137 ci_137 (List.mem_of_getElem? (i := 10) rfl)
theorem cd_137_21 : mt_cd 137 21 = some (.bipush 8) := mt_cd_of (q := (21, .bipush 8, 2)) mq_137 ci_137 (List.mem_of_getElem? (i := 11) rfl)
theorem cd_137_23 : mt_cd 137 23 = some (.newarray .long) := mt_cd_of (q := (23, .newarray .long, 2)) mq_137 ci_137 (List.mem_of_getElem? (i := 12) rfl)
theorem cd_137_25 : mt_cd 137 25 = some (.putfield 18) := mt_cd_of (q := (25, .putfield 18, 3)) mq_137 ci_137 (List.mem_of_getElem? (i := 13) rfl)
theorem cd_137_28 : mt_cd 137 28 = some (.aload_n 0) := mt_cd_of (q := (28, .aload_n 0, 1)) mq_137 ci_137 (List.mem_of_getElem? (i := 14) rfl)
theorem cd_137_29 : mt_cd 137 29 = some (.bipush 8) := mt_cd_of (q := (29, .bipush 8, 2)) mq_137 ci_137 (List.mem_of_getElem? (i := 15) rfl)
theorem cd_137_31 : mt_cd 137 31 = some (.newarray .boolean) := mt_cd_of (q := (31, .newarray .boolean, 2)) mq_137 ci_137 (List.mem_of_getElem? (i := 16) rfl)
theorem cd_137_33 : mt_cd 137 33 = some (.putfield 21) := mt_cd_of (q := (33, .putfield 21, 3)) mq_137 ci_137 (List.mem_of_getElem? (i := 17) rfl)
theorem cd_137_36 : mt_cd 137 36 = some (.aload_n 0) := mt_cd_of (q := (36, .aload_n 0, 1)) mq_137 ci_137 (List.mem_of_getElem? (i := 18) rfl)
theorem cd_137_37 : mt_cd 137 37 = some (.bipush 8) := mt_cd_of (q := (37, .bipush 8, 2)) mq_137 ci_137 (List.mem_of_getElem? (i := 19) rfl)
theorem cd_137_39 : mt_cd 137 39 = some (.newarray .boolean) := mt_cd_of (q := (39, .newarray .boolean, 2)) mq_137 ci_137 (List.mem_of_getElem? (i := 20) rfl)
theorem cd_137_41 : mt_cd 137 41 = some (.putfield 25) := mt_cd_of (q := (41, .putfield 25, 3)) mq_137 ci_137 (List.mem_of_getElem? (i := 21) rfl)
theorem cd_137_44 : mt_cd 137 44 = some (.return_) := mt_cd_of (q := (44, .return_, 1)) mq_137 ci_137 (List.mem_of_getElem? (i := 22) rfl)
theorem b_137_0 {d : Nat} {Q : (Option Value ⊕ Nat) → mi_H → Prop} (n sl : Nat) (f : Nat → mi_C) {l1 : Nat} {m2 : Nat} {fs5 : List Value} {m9 : Nat} {fs12 : List Value} {m16 : Nat} {fs19 : List Value} (h3 : ¬ 32 < (0 : Int32) ∧ Int32.toNatClampNeg 32 = m2 ∧ m2 ≤ 1000000) (h4 : n + 1 ≤ mi_NC ∧ sl + m2 ≤ mi_NS) (h6 : (va_up f n (.inl (3, m2, .inr (.inl (fun _ => 0))))) l1 = .inr (13, fs5)) (h7 : l1 < (n + 1)) (h8 : 2 < fs5.length) (h10 : ¬ 8 < (0 : Int32) ∧ Int32.toNatClampNeg 8 = m9 ∧ m9 ≤ 1000000) (h11 : (n + 1) + 1 ≤ mi_NC ∧ (sl + m2) + m9 ≤ mi_NS) (h13 : (va_up (va_up (va_up f n (.inl (3, m2, .inr (.inl (fun _ => 0))))) l1 (.inr (13, fs5.set 2 (.ref n)))) (n + 1) (.inl (3, m9, .inr (.inl (fun _ => 0))))) l1 = .inr (13, fs12)) (h14 : l1 < ((n + 1) + 1)) (h15 : 3 < fs12.length) (h17 : ¬ 8 < (0 : Int32) ∧ Int32.toNatClampNeg 8 = m16 ∧ m16 ≤ 1000000) (h18 : ((n + 1) + 1) + 1 ≤ mi_NC ∧ ((sl + m2) + m9) + m16 ≤ mi_NS) (h20 : (va_up (va_up (va_up (va_up (va_up f n (.inl (3, m2, .inr (.inl (fun _ => 0))))) l1 (.inr (13, fs5.set 2 (.ref n)))) (n + 1) (.inl (3, m9, .inr (.inl (fun _ => 0))))) l1 (.inr (13, fs12.set 3 (.ref (n + 1))))) ((n + 1) + 1) (.inl (3, m16, .inr (.inl (fun _ => 0))))) l1 = .inr (13, fs19)) (h21 : l1 < (((n + 1) + 1) + 1)) (h22 : 4 < fs19.length) (h23 : mi_W d 137 28 [some (.ref l1)] [] ((((n + 1) + 1) + 1), (((sl + m2) + m9) + m16), (va_up (va_up (va_up (va_up (va_up (va_up f n (.inl (3, m2, .inr (.inl (fun _ => 0))))) l1 (.inr (13, fs5.set 2 (.ref n)))) (n + 1) (.inl (3, m9, .inr (.inl (fun _ => 0))))) l1 (.inr (13, fs12.set 3 (.ref (n + 1))))) ((n + 1) + 1) (.inl (3, m16, .inr (.inl (fun _ => 0))))) l1 (.inr (13, fs19.set 4 (.ref ((n + 1) + 1)))))) Q) : mi_W d 137 0 [some (.ref l1)] [] (n, sl, f) Q := by
  refine w_aload_n cd_137_0 rfl ?_
  refine w_oinit cd_137_1 (by decide) (Nat.le_of_ble_eq_true rfl) ?_
  refine w_aload_n cd_137_4 rfl ?_
  refine w_bipush (v := 32) cd_137_5 (by decide) ?_
  refine w_newarray cd_137_7 rfl h3 h4 ?_
  refine w_putfield (w := .ref n) cd_137_9 (show mt_f 13 9 = some (13, 2) by decide +kernel) h6 h7 ⟨h8, rfl, Or.inr (by decide +kernel)⟩ ?_
  refine w_aload_n cd_137_12 rfl ?_
  refine w_bipush (v := 8) cd_137_13 (by decide) ?_
  refine w_newarray cd_137_15 rfl h10 h11 ?_
  refine w_putfield (w := .ref (n + 1)) cd_137_17 (show mt_f 13 15 = some (13, 3) by decide +kernel) h13 h14 ⟨h15, rfl, Or.inr (by decide +kernel)⟩ ?_
  refine w_aload_n cd_137_20 rfl ?_
  refine w_bipush (v := 8) cd_137_21 (by decide) ?_
  refine w_newarray cd_137_23 rfl h17 h18 ?_
  refine w_putfield (w := .ref ((n + 1) + 1)) cd_137_25 (show mt_f 13 18 = some (13, 4) by decide +kernel) h20 h21 ⟨h22, rfl, Or.inr (by decide +kernel)⟩ ?_
  exact h23
theorem b_137_28 {d : Nat} {Q : (Option Value ⊕ Nat) → mi_H → Prop} (n sl : Nat) (f : Nat → mi_C) {l1 : Nat} {m2 : Nat} {fs5 : List Value} {m9 : Nat} {fs12 : List Value} (h3 : ¬ 8 < (0 : Int32) ∧ Int32.toNatClampNeg 8 = m2 ∧ m2 ≤ 1000000) (h4 : n + 1 ≤ mi_NC ∧ sl + m2 ≤ mi_NS) (h6 : (va_up f n (.inl (2, m2, .inl (fun _ => 0)))) l1 = .inr (13, fs5)) (h7 : l1 < (n + 1)) (h8 : 5 < fs5.length) (h10 : ¬ 8 < (0 : Int32) ∧ Int32.toNatClampNeg 8 = m9 ∧ m9 ≤ 1000000) (h11 : (n + 1) + 1 ≤ mi_NC ∧ (sl + m2) + m9 ≤ mi_NS) (h13 : (va_up (va_up (va_up f n (.inl (2, m2, .inl (fun _ => 0)))) l1 (.inr (13, fs5.set 5 (.ref n)))) (n + 1) (.inl (2, m9, .inl (fun _ => 0)))) l1 = .inr (13, fs12)) (h14 : l1 < ((n + 1) + 1)) (h15 : 6 < fs12.length) (h16 : Q (.inl none) (((n + 1) + 1), ((sl + m2) + m9), (va_up (va_up (va_up (va_up f n (.inl (2, m2, .inl (fun _ => 0)))) l1 (.inr (13, fs5.set 5 (.ref n)))) (n + 1) (.inl (2, m9, .inl (fun _ => 0)))) l1 (.inr (13, fs12.set 6 (.ref (n + 1))))))) : mi_W d 137 28 [some (.ref l1)] [] (n, sl, f) Q := by
  refine w_aload_n cd_137_28 rfl ?_
  refine w_bipush (v := 8) cd_137_29 (by decide) ?_
  refine w_newarray cd_137_31 rfl h3 h4 ?_
  refine w_putfield (w := .ref n) cd_137_33 (show mt_f 13 21 = some (13, 5) by decide +kernel) h6 h7 ⟨h8, rfl, Or.inr (by decide +kernel)⟩ ?_
  refine w_aload_n cd_137_36 rfl ?_
  refine w_bipush (v := 8) cd_137_37 (by decide) ?_
  refine w_newarray cd_137_39 rfl h10 h11 ?_
  refine w_putfield (w := .ref (n + 1)) cd_137_41 (show mt_f 13 25 = some (13, 6) by decide +kernel) h13 h14 ⟨h15, rfl, Or.inr (by decide +kernel)⟩ ?_
  exact w_return cd_137_44 (by decide +kernel) h16
/-! MarloweHostModel.thrown()I -/
set_option maxRecDepth 100000 in
theorem mq_138 : mt_q 138 = my_138 := rfl
set_option maxRecDepth 100000 in
theorem ci_138 : mt_inc 0 my_138.cd = true := by decide +kernel
theorem cd_138_0 : mt_cd 138 0 = some (.aload_n 0) := mt_cd_of (q := (0, .aload_n 0, 1)) mq_138 ci_138 (List.mem_of_getElem? (i := 0) rfl)
theorem cd_138_1 : mt_cd 138 1 = some (.getfield 248) := mt_cd_of (q := (1, .getfield 248, 3)) mq_138 ci_138 (List.mem_of_getElem? (i := 1) rfl)
theorem cd_138_4 : mt_cd 138 4 = some (.ireturn) := mt_cd_of (q := (4, .ireturn, 1)) mq_138 ci_138 (List.mem_of_getElem? (i := 2) rfl)
theorem b_138_0 {d : Nat} {Q : (Option Value ⊕ Nat) → mi_H → Prop} (n sl : Nat) (f : Nat → mi_C) {l1 : Nat} {fs2 : List Value} {x5 : Int32} (h3 : f l1 = .inr (12, fs2)) (h4 : l1 < n) (h6 : fs2[0]? = some (.int x5)) (h7 : Q (.inl (some (.int x5))) (n, sl, f)) : mi_W d 138 0 [some (.ref l1)] [] (n, sl, f) Q := by
  refine w_aload_n cd_138_0 rfl ?_
  refine w_getfield cd_138_1 (show mt_f 12 248 = some (12, 0) by decide +kernel) h3 h4 h6 ?_
  exact w_ireturn_i cd_138_4 (by decide +kernel) h7
/-! MarloweHostModel.feed(IIIII)I -/
set_option maxRecDepth 100000 in
theorem mq_139 : mt_q 139 = my_139 := rfl
set_option maxRecDepth 100000 in
theorem ci_139 : mt_inc 0 my_139.cd = true := by decide +kernel
theorem cd_139_0 : mt_cd 139 0 = some (.aload_n 0) := mt_cd_of (q := (0, .aload_n 0, 1)) mq_139 ci_139 (List.mem_of_getElem? (i := 0) rfl)
theorem cd_139_1 : mt_cd 139 1 = some (.iconst 0) := mt_cd_of (q := (1, .iconst 0, 1)) mq_139 ci_139 (List.mem_of_getElem? (i := 1) rfl)
theorem cd_139_2 : mt_cd 139 2 = some (.putfield 248) := mt_cd_of (q := (2, .putfield 248, 3)) mq_139 ci_139 (List.mem_of_getElem? (i := 2) rfl)
theorem cd_139_5 : mt_cd 139 5 = some (.aload_n 0) := mt_cd_of (q := (5, .aload_n 0, 1)) mq_139 ci_139 (List.mem_of_getElem? (i := 3) rfl)
theorem cd_139_6 : mt_cd 139 6 = some (.aload_n 0) := mt_cd_of (q := (6, .aload_n 0, 1)) mq_139 ci_139 (List.mem_of_getElem? (i := 4) rfl)
theorem cd_139_7 : mt_cd 139 7 = some (.getfield 251) := mt_cd_of (q := (7, .getfield 251, 3)) mq_139 ci_139 (List.mem_of_getElem? (i := 5) rfl)
theorem cd_139_10 : mt_cd 139 10 = some (.bipush 20) := mt_cd_of (q := (10, .bipush 20, 2)) mq_139 ci_139 (List.mem_of_getElem? (i := 6) rfl)
theorem cd_139_12 : mt_cd 139 12 = some (.iadd) := mt_cd_of (q := (12, .iadd, 1)) mq_139 ci_139 (List.mem_of_getElem? (i := 7) rfl)
theorem cd_139_13 : mt_cd 139 13 = some (.sipush 8200) := mt_cd_of (q := (13, .sipush 8200, 3)) mq_139 ci_139 (List.mem_of_getElem? (i := 8) rfl)
theorem cd_139_16 : mt_cd 139 16 = some (.if_icmp .le 7) := mt_cd_of (q := (16, .if_icmp .le 7, 3)) mq_139 ci_139 (List.mem_of_getElem? (i := 9) rfl)
theorem cd_139_19 : mt_cd 139 19 = some (.iconst 1) := mt_cd_of (q := (19, .iconst 1, 1)) mq_139 ci_139 (List.mem_of_getElem? (i := 10) rfl)
theorem cd_139_20 : mt_cd 139 20 = some (.goto 4) := mt_cd_of (q := (20, .goto 4, 3)) mq_139 ci_139 (List.mem_of_getElem? (i := 11) rfl)
theorem cd_139_23 : mt_cd 139 23 = some (.iconst 0) := mt_cd_of (q := (23, .iconst 0, 1)) mq_139 ci_139 (List.mem_of_getElem? (i := 12) rfl)
theorem cd_139_24 : mt_cd 139 24 = some (.iconst 1) := mt_cd_of (q := (24, .iconst 1, 1)) mq_139 ci_139 (List.mem_of_getElem? (i := 13) rfl)
theorem cd_139_25 : mt_cd 139 25 = some (.invokevirtual 254) := mt_cd_of (q := (25, .invokevirtual 254, 3)) mq_139 ci_139 (List.mem_of_getElem? (i := 14) rfl)
theorem cd_139_28 : mt_cd 139 28 = some (.ifCond .eq 5) := mt_cd_of (q := (28, .ifCond .eq 5, 3)) mq_139 ci_139 (List.mem_of_getElem? (i := 15) rfl)
theorem cd_139_31 : mt_cd 139 31 = some (.iconst 0) := mt_cd_of (q := (31, .iconst 0, 1)) mq_139 ci_139 (List.mem_of_getElem? (i := 16) rfl)
theorem cd_139_32 : mt_cd 139 32 = some (.ireturn) := mt_cd_of (q := (32, .ireturn, 1)) mq_139 ci_139 (List.mem_of_getElem? (i := 17) rfl)
theorem cd_139_33 : mt_cd 139 33 = some (.iconst 0) := mt_cd_of (q := (33, .iconst 0, 1)) mq_139 ci_139 (List.mem_of_getElem? (i := 18) rfl)
theorem cd_139_34 : mt_cd 139 34 = some (.istore 6) := mt_cd_of (q := (34, .istore 6, 2)) mq_139 ci_139 (List.mem_of_getElem? (i := 19) rfl)
theorem cd_139_36 : mt_cd 139 36 = some (.iload 6) := mt_cd_of (q := (36, .iload 6, 2)) mq_139 ci_139 (List.mem_of_getElem? (i := 20) rfl)
theorem cd_139_38 : mt_cd 139 38 = some (.bipush 20) := mt_cd_of (q := (38, .bipush 20, 2)) mq_139 ci_139 (List.mem_of_getElem? (i := 21) rfl)
theorem cd_139_40 : mt_cd 139 40 = some (.if_icmp .ge 90) := mt_cd_of (q := (40, .if_icmp .ge 90, 3)) mq_139 ci_139 (List.mem_of_getElem? (i := 22) rfl)
theorem cd_139_43 : mt_cd 139 43 = some (.iload 6) := mt_cd_of (q := (43, .iload 6, 2)) mq_139 ci_139 (List.mem_of_getElem? (i := 23) rfl)
theorem cd_139_45 : mt_cd 139 45 = some (.iconst 4) := mt_cd_of (q := (45, .iconst 4, 1)) mq_139 ci_139 (List.mem_of_getElem? (i := 24) rfl)
theorem cd_139_46 : mt_cd 139 46 = some (.if_icmp .ge 7) := mt_cd_of (q := (46, .if_icmp .ge 7, 3)) mq_139 ci_139 (List.mem_of_getElem? (i := 25) rfl)
theorem cd_139_49 : mt_cd 139 49 = some (.iload_n 1) := mt_cd_of (q := (49, .iload_n 1, 1)) mq_139 ci_139 (List.mem_of_getElem? (i := 26) rfl)
theorem cd_139_50 : mt_cd 139 50 = some (.goto 39) := mt_cd_of (q := (50, .goto 39, 3)) mq_139 ci_139 (List.mem_of_getElem? (i := 27) rfl)
theorem cd_139_53 : mt_cd 139 53 = some (.iload 6) := mt_cd_of (q := (53, .iload 6, 2)) mq_139 ci_139 (List.mem_of_getElem? (i := 28) rfl)
theorem cd_139_55 : mt_cd 139 55 = some (.bipush 8) := mt_cd_of (q := (55, .bipush 8, 2)) mq_139 ci_139 (List.mem_of_getElem? (i := 29) rfl)
theorem cd_139_57 : mt_cd 139 57 = some (.if_icmp .ge 7) := mt_cd_of (q := (57, .if_icmp .ge 7, 3)) mq_139 ci_139 (List.mem_of_getElem? (i := 30) rfl)
theorem cd_139_60 : mt_cd 139 60 = some (.iload_n 2) := mt_cd_of (q := (60, .iload_n 2, 1)) mq_139 ci_139 (List.mem_of_getElem? (i := 31) rfl)
theorem cd_139_61 : mt_cd 139 61 = some (.goto 28) := mt_cd_of (q := (61, .goto 28, 3)) mq_139 ci_139 (List.mem_of_getElem? (i := 32) rfl)
theorem cd_139_64 : mt_cd 139 64 = some (.iload 6) := mt_cd_of (q := (64, .iload 6, 2)) mq_139 ci_139 (List.mem_of_getElem? (i := 33) rfl)
theorem cd_139_66 : mt_cd 139 66 = some (.bipush 12) := mt_cd_of (q := (66, .bipush 12, 2)) mq_139 ci_139 (List.mem_of_getElem? (i := 34) rfl)
theorem cd_139_68 : mt_cd 139 68 = some (.if_icmp .ge 7) := mt_cd_of (q := (68, .if_icmp .ge 7, 3)) mq_139 ci_139 (List.mem_of_getElem? (i := 35) rfl)
theorem cd_139_71 : mt_cd 139 71 = some (.iload_n 3) := mt_cd_of (q := (71, .iload_n 3, 1)) mq_139 ci_139 (List.mem_of_getElem? (i := 36) rfl)
theorem cd_139_72 : mt_cd 139 72 = some (.goto 17) := mt_cd_of (q := (72, .goto 17, 3)) mq_139 ci_139 (List.mem_of_getElem? (i := 37) rfl)
theorem cd_139_75 : mt_cd 139 75 = some (.iload 6) := mt_cd_of (q := (75, .iload 6, 2)) mq_139 ci_139 (List.mem_of_getElem? (i := 38) rfl)
theorem cd_139_77 : mt_cd 139 77 = some (.bipush 16) := mt_cd_of (q := (77, .bipush 16, 2)) mq_139 ci_139 (List.mem_of_getElem? (i := 39) rfl)
theorem cd_139_79 : mt_cd 139 79 = some (.if_icmp .ge 8) := mt_cd_of (q := (79, .if_icmp .ge 8, 3)) mq_139 ci_139 (List.mem_of_getElem? (i := 40) rfl)
theorem cd_139_82 : mt_cd 139 82 = some (.iload 4) := mt_cd_of (q := (82, .iload 4, 2)) mq_139 ci_139 (List.mem_of_getElem? (i := 41) rfl)
theorem cd_139_84 : mt_cd 139 84 = some (.goto 5) := mt_cd_of (q := (84, .goto 5, 3)) mq_139 ci_139 (List.mem_of_getElem? (i := 42) rfl)
theorem cd_139_87 : mt_cd 139 87 = some (.iload 5) := mt_cd_of (q := (87, .iload 5, 2)) mq_139 ci_139 (List.mem_of_getElem? (i := 43) rfl)
theorem cd_139_89 : mt_cd 139 89 = some (.istore 7) := mt_cd_of (q := (89, .istore 7, 2)) mq_139 ci_139 (List.mem_of_getElem? (i := 44) rfl)
theorem cd_139_91 : mt_cd 139 91 = some (.aload_n 0) := mt_cd_of (q := (91, .aload_n 0, 1)) mq_139 ci_139 (List.mem_of_getElem? (i := 45) rfl)
theorem cd_139_92 : mt_cd 139 92 = some (.getfield 16) := mt_cd_of (q := (92, .getfield 16, 3)) mq_139 ci_139 (List.mem_of_getElem? (i := 46) rfl)
theorem cd_139_95 : mt_cd 139 95 = some (.aload_n 0) := mt_cd_of (q := (95, .aload_n 0, 1)) mq_139 ci_139 (List.mem_of_getElem? (i := 47) rfl)
theorem cd_139_96 : mt_cd 139 96 = some (.dup) := mt_cd_of (q := (96, .dup, 1)) mq_139 ci_139 (List.mem_of_getElem? (i := 48) rfl)
theorem cd_139_97 : mt_cd 139 97 = some (.getfield 251) := mt_cd_of (q := (97, .getfield 251, 3)) mq_139 ci_139 (List.mem_of_getElem? (i := 49) rfl)
theorem cd_139_100 : mt_cd 139 100 = some (.dup_x1) := mt_cd_of (q := (100, .dup_x1, 1)) mq_139 ci_139 (List.mem_of_getElem? (i := 50) rfl)
theorem cd_139_101 : mt_cd 139 101 = some (.iconst 1) := mt_cd_of (q := (101, .iconst 1, 1)) mq_139 ci_139 (List.mem_of_getElem? (i := 51) rfl)
theorem cd_139_102 : mt_cd 139 102 = some (.iadd) := mt_cd_of (q := (102, .iadd, 1)) mq_139 ci_139 (List.mem_of_getElem? (i := 52) rfl)
theorem cd_139_103 : mt_cd 139 103 = some (.putfield 251) := mt_cd_of (q := (103, .putfield 251, 3)) mq_139 ci_139 (List.mem_of_getElem? (i := 53) rfl)
theorem cd_139_106 : mt_cd 139 106 = some (.iload 7) := mt_cd_of (q := (106, .iload 7, 2)) mq_139 ci_139 (List.mem_of_getElem? (i := 54) rfl)
theorem cd_139_108 : mt_cd 139 108 = some (.bipush 24) := mt_cd_of (q := (108, .bipush 24, 2)) mq_139 ci_139 (List.mem_of_getElem? (i := 55) rfl)
theorem cd_139_110 : mt_cd 139 110 = some (.bipush 8) := mt_cd_of (q := (110, .bipush 8, 2)) mq_139 ci_139 (List.mem_of_getElem? (i := 56) rfl)
theorem cd_139_112 : mt_cd 139 112 = some (.iload 6) := mt_cd_of (q := (112, .iload 6, 2)) mq_139 ci_139 (List.mem_of_getElem? (i := 57) rfl)
theorem cd_139_114 : mt_cd 139 114 = some (.iconst 3) := mt_cd_of (q := (114, .iconst 3, 1)) mq_139 ci_139 (List.mem_of_getElem? (i := 58) rfl)
theorem cd_139_115 : mt_cd 139 115 = some (.iand) := mt_cd_of (q := (115, .iand, 1)) mq_139 ci_139 (List.mem_of_getElem? (i := 59) rfl)
theorem cd_139_116 : mt_cd 139 116 = some (.imul) := mt_cd_of (q := (116, .imul, 1)) mq_139 ci_139 (List.mem_of_getElem? (i := 60) rfl)
theorem cd_139_117 : mt_cd 139 117 = some (.isub) := mt_cd_of (q := (117, .isub, 1)) mq_139 ci_139 (List.mem_of_getElem? (i := 61) rfl)
theorem cd_139_118 : mt_cd 139 118 = some (.iushr) := mt_cd_of (q := (118, .iushr, 1)) mq_139 ci_139 (List.mem_of_getElem? (i := 62) rfl)
theorem cd_139_119 : mt_cd 139 119 = some (.sipush 255) := mt_cd_of (q := (119, .sipush 255, 3)) mq_139 ci_139 (List.mem_of_getElem? (i := 63) rfl)
theorem cd_139_122 : mt_cd 139 122 = some (.iand) := mt_cd_of (q := (122, .iand, 1)) mq_139 ci_139 (List.mem_of_getElem? (i := 64) rfl)
theorem cd_139_123 : mt_cd 139 123 = some (.iastore) := mt_cd_of (q := (123, .iastore, 1)) mq_139 ci_139 (List.mem_of_getElem? (i := 65) rfl)
theorem cd_139_124 : mt_cd 139 124 = some (.iinc 6 1) := mt_cd_of (q := (124, .iinc 6 1, 3)) mq_139 ci_139 (List.mem_of_getElem? (i := 66) rfl)
theorem cd_139_127 : mt_cd 139 127 = some (.goto (-91)) := mt_cd_of (q := (127, .goto (-91), 3)) mq_139 ci_139 (List.mem_of_getElem? (i := 67) rfl)
theorem cd_139_130 : mt_cd 139 130 = some (.aload_n 0) := mt_cd_of (q := (130, .aload_n 0, 1)) mq_139 ci_139 (List.mem_of_getElem? (i := 68) rfl)
theorem cd_139_131 : mt_cd 139 131 = some (.getfield 251) := mt_cd_of (q := (131, .getfield 251, 3)) mq_139 ci_139 (List.mem_of_getElem? (i := 69) rfl)
theorem cd_139_134 : mt_cd 139 134 = some (.ireturn) := mt_cd_of (q := (134, .ireturn, 1)) mq_139 ci_139 (List.mem_of_getElem? (i := 70) rfl)
theorem b_139_0 {d : Nat} {Q : (Option Value ⊕ Nat) → mi_H → Prop} (n sl : Nat) (f : Nat → mi_C) {l1 : Nat} {l2 : Int32} {l3 : Int32} {l4 : Int32} {l5 : Int32} {l6 : Int32} {o7 : Option Value} {o8 : Option Value} {fs9 : List Value} {fs13 : List Value} {x16 : Int32} (h10 : f l1 = .inr (12, fs9)) (h11 : l1 < n) (h12 : 0 < fs9.length) (h14 : (va_up f l1 (.inr (12, fs9.set 0 (.int 0)))) l1 = .inr (12, fs13)) (h15 : l1 < n) (h17 : fs13[1]? = some (.int x16)) (h18 : (x16 + 20) ≤ 8200 → mi_W d 139 23 [some (.ref l1), some (.int l2), some (.int l3), some (.int l4), some (.int l5), some (.int l6), o7, o8] [.ref l1] (n, sl, (va_up f l1 (.inr (12, fs9.set 0 (.int 0))))) Q) (h19 : ¬ ((x16 + 20) ≤ 8200) → mi_W d 139 19 [some (.ref l1), some (.int l2), some (.int l3), some (.int l4), some (.int l5), some (.int l6), o7, o8] [.ref l1] (n, sl, (va_up f l1 (.inr (12, fs9.set 0 (.int 0))))) Q) : mi_W d 139 0 [some (.ref l1), some (.int l2), some (.int l3), some (.int l4), some (.int l5), some (.int l6), o7, o8] [] (n, sl, f) Q := by
  refine w_aload_n cd_139_0 rfl ?_
  refine w_iconst (v := 0) cd_139_1 (by decide) ?_
  refine w_putfield (w := .int 0) cd_139_2 (show mt_f 12 248 = some (12, 0) by decide +kernel) h10 h11 ⟨h12, rfl, Or.inl (by decide)⟩ ?_
  refine w_aload_n cd_139_5 rfl ?_
  refine w_aload_n cd_139_6 rfl ?_
  refine w_getfield cd_139_7 (show mt_f 12 251 = some (12, 1) by decide +kernel) h14 h15 h17 ?_
  refine w_bipush (v := 20) cd_139_10 (by decide) ?_
  refine w_iadd cd_139_12 ?_
  refine w_sipush (v := 8200) cd_139_13 (by decide) ?_
  exact w_if_icmple cd_139_16 (by decide) h18 h19
theorem b_139_19 {d : Nat} {Q : (Option Value ⊕ Nat) → mi_H → Prop} (n sl : Nat) (f : Nat → mi_C) {l1 : Nat} {l2 : Int32} {l3 : Int32} {l4 : Int32} {l5 : Int32} {l6 : Int32} {o7 : Option Value} {o8 : Option Value} {s9 : Nat} (h10 : mi_W d 139 24 [some (.ref l1), some (.int l2), some (.int l3), some (.int l4), some (.int l5), some (.int l6), o7, o8] [.int 1, .ref s9] (n, sl, f) Q) : mi_W d 139 19 [some (.ref l1), some (.int l2), some (.int l3), some (.int l4), some (.int l5), some (.int l6), o7, o8] [.ref s9] (n, sl, f) Q := by
  refine w_iconst (v := 1) cd_139_19 (by decide) ?_
  exact w_goto cd_139_20 (by decide) h10
theorem b_139_23 {d : Nat} {Q : (Option Value ⊕ Nat) → mi_H → Prop} (n sl : Nat) (f : Nat → mi_C) {l1 : Nat} {l2 : Int32} {l3 : Int32} {l4 : Int32} {l5 : Int32} {l6 : Int32} {o7 : Option Value} {o8 : Option Value} {s9 : Nat} (h10 : mi_W d 139 24 [some (.ref l1), some (.int l2), some (.int l3), some (.int l4), some (.int l5), some (.int l6), o7, o8] [.int 0, .ref s9] (n, sl, f) Q) : mi_W d 139 23 [some (.ref l1), some (.int l2), some (.int l3), some (.int l4), some (.int l5), some (.int l6), o7, o8] [.ref s9] (n, sl, f) Q := by
  refine w_iconst (v := 0) cd_139_23 (by decide) ?_
  exact h10
theorem b_139_24 {d : Nat} {Q : (Option Value ⊕ Nat) → mi_H → Prop} (n sl : Nat) (f : Nat → mi_C) {l1 : Nat} {l2 : Int32} {l3 : Int32} {l4 : Int32} {l5 : Int32} {l6 : Int32} {o7 : Option Value} {o8 : Option Value} {s9 : Int32} {s10 : Nat} {fs11 : List Value} (h12 : f s10 = .inr (12, fs11)) (h13 : s10 < n) (h14 : mi_W d 140 0 (mi_en 3 [.ref s10, .int s9, .int 1]) [] (n, sl, f) (mi_Kc d 139 25 [some (.ref l1), some (.int l2), some (.int l3), some (.int l4), some (.int l5), some (.int l6), o7, o8] [] Q)) : mi_W (d + 1) 139 24 [some (.ref l1), some (.int l2), some (.int l3), some (.int l4), some (.int l5), some (.int l6), o7, o8] [.int s9, .ref s10] (n, sl, f) Q := by
  refine w_iconst (v := 1) cd_139_24 (by decide) ?_
  exact w_invokevirtual cd_139_25 (show mt_m 12 254 = some (140, 0) by decide +kernel) (rest := []) rfl (as := [.ref s10, .int s9, .int 1]) rfl h12 (Or.inl h13) ⟨Nat.le_of_ble_eq_true rfl, Nat.le_of_ble_eq_true rfl, Nat.le_of_ble_eq_true rfl⟩ h14
theorem b_139_28 {d : Nat} {Q : (Option Value ⊕ Nat) → mi_H → Prop} (n sl : Nat) (f : Nat → mi_C) {l1 : Nat} {l2 : Int32} {l3 : Int32} {l4 : Int32} {l5 : Int32} {l6 : Int32} {o7 : Option Value} {o8 : Option Value} {s9 : Int32} (h10 : s9 = (0 : Int32) → mi_W d 139 33 [some (.ref l1), some (.int l2), some (.int l3), some (.int l4), some (.int l5), some (.int l6), o7, o8] [] (n, sl, f) Q) (h11 : ¬ (s9 = (0 : Int32)) → mi_W d 139 31 [some (.ref l1), some (.int l2), some (.int l3), some (.int l4), some (.int l5), some (.int l6), o7, o8] [] (n, sl, f) Q) : mi_W d 139 28 [some (.ref l1), some (.int l2), some (.int l3), some (.int l4), some (.int l5), some (.int l6), o7, o8] [.int s9] (n, sl, f) Q := by
  exact w_ifeq cd_139_28 (by decide) h10 h11
theorem b_139_31 {d : Nat} {Q : (Option Value ⊕ Nat) → mi_H → Prop} (n sl : Nat) (f : Nat → mi_C) {l1 : Nat} {l2 : Int32} {l3 : Int32} {l4 : Int32} {l5 : Int32} {l6 : Int32} {o7 : Option Value} {o8 : Option Value} (h9 : Q (.inl (some (.int 0))) (n, sl, f)) : mi_W d 139 31 [some (.ref l1), some (.int l2), some (.int l3), some (.int l4), some (.int l5), some (.int l6), o7, o8] [] (n, sl, f) Q := by
  refine w_iconst (v := 0) cd_139_31 (by decide) ?_
  exact w_ireturn_i cd_139_32 (by decide +kernel) h9
theorem b_139_33 {d : Nat} {Q : (Option Value ⊕ Nat) → mi_H → Prop} (n sl : Nat) (f : Nat → mi_C) {l1 : Nat} {l2 : Int32} {l3 : Int32} {l4 : Int32} {l5 : Int32} {l6 : Int32} {o7 : Option Value} {o8 : Option Value} (h9 : mi_W d 139 36 [some (.ref l1), some (.int l2), some (.int l3), some (.int l4), some (.int l5), some (.int l6), some (.int 0), o8] [] (n, sl, f) Q) : mi_W d 139 33 [some (.ref l1), some (.int l2), some (.int l3), some (.int l4), some (.int l5), some (.int l6), o7, o8] [] (n, sl, f) Q := by
  refine w_iconst (v := 0) cd_139_33 (by decide) ?_
  refine w_istore (ls' := [some (.ref l1), some (.int l2), some (.int l3), some (.int l4), some (.int l5), some (.int l6), some (.int 0), o8]) cd_139_34 (Nat.le_of_ble_eq_true rfl) rfl ?_
  exact h9
theorem b_139_36 {d : Nat} {Q : (Option Value ⊕ Nat) → mi_H → Prop} (n sl : Nat) (f : Nat → mi_C) {l1 : Nat} {l2 : Int32} {l3 : Int32} {l4 : Int32} {l5 : Int32} {l6 : Int32} {l7 : Int32} {o8 : Option Value} (h9 : 20 ≤ l7 → mi_W d 139 130 [some (.ref l1), some (.int l2), some (.int l3), some (.int l4), some (.int l5), some (.int l6), some (.int l7), o8] [] (n, sl, f) Q) (h10 : ¬ (20 ≤ l7) → mi_W d 139 43 [some (.ref l1), some (.int l2), some (.int l3), some (.int l4), some (.int l5), some (.int l6), some (.int l7), o8] [] (n, sl, f) Q) : mi_W d 139 36 [some (.ref l1), some (.int l2), some (.int l3), some (.int l4), some (.int l5), some (.int l6), some (.int l7), o8] [] (n, sl, f) Q := by
  refine w_iload cd_139_36 rfl ?_
  refine w_bipush (v := 20) cd_139_38 (by decide) ?_
  exact w_if_icmpge cd_139_40 (by decide) h9 h10
theorem b_139_43 {d : Nat} {Q : (Option Value ⊕ Nat) → mi_H → Prop} (n sl : Nat) (f : Nat → mi_C) {l1 : Nat} {l2 : Int32} {l3 : Int32} {l4 : Int32} {l5 : Int32} {l6 : Int32} {l7 : Int32} {o8 : Option Value} (h9 : 4 ≤ l7 → mi_W d 139 53 [some (.ref l1), some (.int l2), some (.int l3), some (.int l4), some (.int l5), some (.int l6), some (.int l7), o8] [] (n, sl, f) Q) (h10 : ¬ (4 ≤ l7) → mi_W d 139 49 [some (.ref l1), some (.int l2), some (.int l3), some (.int l4), some (.int l5), some (.int l6), some (.int l7), o8] [] (n, sl, f) Q) : mi_W d 139 43 [some (.ref l1), some (.int l2), some (.int l3), some (.int l4), some (.int l5), some (.int l6), some (.int l7), o8] [] (n, sl, f) Q := by
  refine w_iload cd_139_43 rfl ?_
  refine w_iconst (v := 4) cd_139_45 (by decide) ?_
  exact w_if_icmpge cd_139_46 (by decide) h9 h10
theorem b_139_49 {d : Nat} {Q : (Option Value ⊕ Nat) → mi_H → Prop} (n sl : Nat) (f : Nat → mi_C) {l1 : Nat} {l2 : Int32} {l3 : Int32} {l4 : Int32} {l5 : Int32} {l6 : Int32} {l7 : Int32} {o8 : Option Value} (h9 : mi_W d 139 89 [some (.ref l1), some (.int l2), some (.int l3), some (.int l4), some (.int l5), some (.int l6), some (.int l7), o8] [.int l2] (n, sl, f) Q) : mi_W d 139 49 [some (.ref l1), some (.int l2), some (.int l3), some (.int l4), some (.int l5), some (.int l6), some (.int l7), o8] [] (n, sl, f) Q := by
  refine w_iload_n cd_139_49 rfl ?_
  exact w_goto cd_139_50 (by decide) h9
theorem b_139_53 {d : Nat} {Q : (Option Value ⊕ Nat) → mi_H → Prop} (n sl : Nat) (f : Nat → mi_C) {l1 : Nat} {l2 : Int32} {l3 : Int32} {l4 : Int32} {l5 : Int32} {l6 : Int32} {l7 : Int32} {o8 : Option Value} (h9 : 8 ≤ l7 → mi_W d 139 64 [some (.ref l1), some (.int l2), some (.int l3), some (.int l4), some (.int l5), some (.int l6), some (.int l7), o8] [] (n, sl, f) Q) (h10 : ¬ (8 ≤ l7) → mi_W d 139 60 [some (.ref l1), some (.int l2), some (.int l3), some (.int l4), some (.int l5), some (.int l6), some (.int l7), o8] [] (n, sl, f) Q) : mi_W d 139 53 [some (.ref l1), some (.int l2), some (.int l3), some (.int l4), some (.int l5), some (.int l6), some (.int l7), o8] [] (n, sl, f) Q := by
  refine w_iload cd_139_53 rfl ?_
  refine w_bipush (v := 8) cd_139_55 (by decide) ?_
  exact w_if_icmpge cd_139_57 (by decide) h9 h10
theorem b_139_60 {d : Nat} {Q : (Option Value ⊕ Nat) → mi_H → Prop} (n sl : Nat) (f : Nat → mi_C) {l1 : Nat} {l2 : Int32} {l3 : Int32} {l4 : Int32} {l5 : Int32} {l6 : Int32} {l7 : Int32} {o8 : Option Value} (h9 : mi_W d 139 89 [some (.ref l1), some (.int l2), some (.int l3), some (.int l4), some (.int l5), some (.int l6), some (.int l7), o8] [.int l3] (n, sl, f) Q) : mi_W d 139 60 [some (.ref l1), some (.int l2), some (.int l3), some (.int l4), some (.int l5), some (.int l6), some (.int l7), o8] [] (n, sl, f) Q := by
  refine w_iload_n cd_139_60 rfl ?_
  exact w_goto cd_139_61 (by decide) h9
theorem b_139_64 {d : Nat} {Q : (Option Value ⊕ Nat) → mi_H → Prop} (n sl : Nat) (f : Nat → mi_C) {l1 : Nat} {l2 : Int32} {l3 : Int32} {l4 : Int32} {l5 : Int32} {l6 : Int32} {l7 : Int32} {o8 : Option Value} (h9 : 12 ≤ l7 → mi_W d 139 75 [some (.ref l1), some (.int l2), some (.int l3), some (.int l4), some (.int l5), some (.int l6), some (.int l7), o8] [] (n, sl, f) Q) (h10 : ¬ (12 ≤ l7) → mi_W d 139 71 [some (.ref l1), some (.int l2), some (.int l3), some (.int l4), some (.int l5), some (.int l6), some (.int l7), o8] [] (n, sl, f) Q) : mi_W d 139 64 [some (.ref l1), some (.int l2), some (.int l3), some (.int l4), some (.int l5), some (.int l6), some (.int l7), o8] [] (n, sl, f) Q := by
  refine w_iload cd_139_64 rfl ?_
  refine w_bipush (v := 12) cd_139_66 (by decide) ?_
  exact w_if_icmpge cd_139_68 (by decide) h9 h10
theorem b_139_71 {d : Nat} {Q : (Option Value ⊕ Nat) → mi_H → Prop} (n sl : Nat) (f : Nat → mi_C) {l1 : Nat} {l2 : Int32} {l3 : Int32} {l4 : Int32} {l5 : Int32} {l6 : Int32} {l7 : Int32} {o8 : Option Value} (h9 : mi_W d 139 89 [some (.ref l1), some (.int l2), some (.int l3), some (.int l4), some (.int l5), some (.int l6), some (.int l7), o8] [.int l4] (n, sl, f) Q) : mi_W d 139 71 [some (.ref l1), some (.int l2), some (.int l3), some (.int l4), some (.int l5), some (.int l6), some (.int l7), o8] [] (n, sl, f) Q := by
  refine w_iload_n cd_139_71 rfl ?_
  exact w_goto cd_139_72 (by decide) h9
theorem b_139_75 {d : Nat} {Q : (Option Value ⊕ Nat) → mi_H → Prop} (n sl : Nat) (f : Nat → mi_C) {l1 : Nat} {l2 : Int32} {l3 : Int32} {l4 : Int32} {l5 : Int32} {l6 : Int32} {l7 : Int32} {o8 : Option Value} (h9 : 16 ≤ l7 → mi_W d 139 87 [some (.ref l1), some (.int l2), some (.int l3), some (.int l4), some (.int l5), some (.int l6), some (.int l7), o8] [] (n, sl, f) Q) (h10 : ¬ (16 ≤ l7) → mi_W d 139 82 [some (.ref l1), some (.int l2), some (.int l3), some (.int l4), some (.int l5), some (.int l6), some (.int l7), o8] [] (n, sl, f) Q) : mi_W d 139 75 [some (.ref l1), some (.int l2), some (.int l3), some (.int l4), some (.int l5), some (.int l6), some (.int l7), o8] [] (n, sl, f) Q := by
  refine w_iload cd_139_75 rfl ?_
  refine w_bipush (v := 16) cd_139_77 (by decide) ?_
  exact w_if_icmpge cd_139_79 (by decide) h9 h10
theorem b_139_82 {d : Nat} {Q : (Option Value ⊕ Nat) → mi_H → Prop} (n sl : Nat) (f : Nat → mi_C) {l1 : Nat} {l2 : Int32} {l3 : Int32} {l4 : Int32} {l5 : Int32} {l6 : Int32} {l7 : Int32} {o8 : Option Value} (h9 : mi_W d 139 89 [some (.ref l1), some (.int l2), some (.int l3), some (.int l4), some (.int l5), some (.int l6), some (.int l7), o8] [.int l5] (n, sl, f) Q) : mi_W d 139 82 [some (.ref l1), some (.int l2), some (.int l3), some (.int l4), some (.int l5), some (.int l6), some (.int l7), o8] [] (n, sl, f) Q := by
  refine w_iload cd_139_82 rfl ?_
  exact w_goto cd_139_84 (by decide) h9
theorem b_139_87 {d : Nat} {Q : (Option Value ⊕ Nat) → mi_H → Prop} (n sl : Nat) (f : Nat → mi_C) {l1 : Nat} {l2 : Int32} {l3 : Int32} {l4 : Int32} {l5 : Int32} {l6 : Int32} {l7 : Int32} {o8 : Option Value} (h9 : mi_W d 139 89 [some (.ref l1), some (.int l2), some (.int l3), some (.int l4), some (.int l5), some (.int l6), some (.int l7), o8] [.int l6] (n, sl, f) Q) : mi_W d 139 87 [some (.ref l1), some (.int l2), some (.int l3), some (.int l4), some (.int l5), some (.int l6), some (.int l7), o8] [] (n, sl, f) Q := by
  refine w_iload cd_139_87 rfl ?_
  exact h9
theorem b_139_89 {d : Nat} {Q : (Option Value ⊕ Nat) → mi_H → Prop} (n sl : Nat) (f : Nat → mi_C) {l1 : Nat} {l2 : Int32} {l3 : Int32} {l4 : Int32} {l5 : Int32} {l6 : Int32} {l7 : Int32} {o8 : Option Value} {s9 : Int32} {fs10 : List Value} {x13 : Nat} {fs15 : List Value} {x18 : Int32} {fs20 : List Value} (m24 i24 : Nat) (g24 : Nat → Int32) (h11 : f l1 = .inr (12, fs10)) (h12 : l1 < n) (h14 : fs10[5]? = some (.ref x13)) (h16 : f l1 = .inr (12, fs15)) (h17 : l1 < n) (h19 : fs15[1]? = some (.int x18)) (h21 : f l1 = .inr (12, fs20)) (h22 : l1 < n) (h23 : 1 < fs20.length) (h25 : (va_up f l1 (.inr (12, fs20.set 1 (.int (x18 + 1))))) x13 = .inl (0, m24, .inl g24)) (h26 : x13 < n) (h27 : mi_ix x18 m24 i24) (h28 : mi_W d 139 36 [some (.ref l1), some (.int l2), some (.int l3), some (.int l4), some (.int l5), some (.int l6), some (.int (l7 + 1)), some (.int s9)] [] (n, sl, (va_up (va_up f l1 (.inr (12, fs20.set 1 (.int (x18 + 1))))) x13 (.inl (0, m24, .inl (upd g24 i24 (((s9.toUInt32 >>> (((24 - (8 * (l7 &&& 3))) : Int32).toUInt32 &&& Int32.toUInt32 31)).toInt32) &&& 255)))))) Q) : mi_W d 139 89 [some (.ref l1), some (.int l2), some (.int l3), some (.int l4), some (.int l5), some (.int l6), some (.int l7), o8] [.int s9] (n, sl, f) Q := by
  refine w_istore (ls' := [some (.ref l1), some (.int l2), some (.int l3), some (.int l4), some (.int l5), some (.int l6), some (.int l7), some (.int s9)]) cd_139_89 (Nat.le_of_ble_eq_true rfl) rfl ?_
  refine w_aload_n cd_139_91 rfl ?_
  refine w_getfield cd_139_92 (show mt_f 12 16 = some (12, 5) by decide +kernel) h11 h12 h14 ?_
  refine w_aload_n cd_139_95 rfl ?_
  refine w_dup_r cd_139_96 ?_
  refine w_getfield cd_139_97 (show mt_f 12 251 = some (12, 1) by decide +kernel) h16 h17 h19 ?_
  refine w_dup_x1_ir cd_139_100 ?_
  refine w_iconst (v := 1) cd_139_101 (by decide) ?_
  refine w_iadd cd_139_102 ?_
  refine w_putfield (w := .int (x18 + 1)) cd_139_103 (show mt_f 12 251 = some (12, 1) by decide +kernel) h21 h22 ⟨h23, rfl, Or.inl (by decide)⟩ ?_
  refine w_iload cd_139_106 rfl ?_
  refine w_bipush (v := 24) cd_139_108 (by decide) ?_
  refine w_bipush (v := 8) cd_139_110 (by decide) ?_
  refine w_iload cd_139_112 rfl ?_
  refine w_iconst (v := 3) cd_139_114 (by decide) ?_
  refine w_iand cd_139_115 ?_
  refine w_imul cd_139_116 ?_
  refine w_isub cd_139_117 ?_
  refine w_iushr cd_139_118 ?_
  refine w_sipush (v := 255) cd_139_119 (by decide) ?_
  refine w_iand cd_139_122 ?_
  refine w_iastore cd_139_123 h25 h26 h27 ?_
  refine w_iinc (v := 1) (ls' := [some (.ref l1), some (.int l2), some (.int l3), some (.int l4), some (.int l5), some (.int l6), some (.int (l7 + 1)), some (.int s9)]) cd_139_124 rfl (by decide) rfl ?_
  exact w_goto cd_139_127 (by decide) h28
theorem b_139_130 {d : Nat} {Q : (Option Value ⊕ Nat) → mi_H → Prop} (n sl : Nat) (f : Nat → mi_C) {l1 : Nat} {l2 : Int32} {l3 : Int32} {l4 : Int32} {l5 : Int32} {l6 : Int32} {l7 : Int32} {o8 : Option Value} {fs9 : List Value} {x12 : Int32} (h10 : f l1 = .inr (12, fs9)) (h11 : l1 < n) (h13 : fs9[1]? = some (.int x12)) (h14 : Q (.inl (some (.int x12))) (n, sl, f)) : mi_W d 139 130 [some (.ref l1), some (.int l2), some (.int l3), some (.int l4), some (.int l5), some (.int l6), some (.int l7), o8] [] (n, sl, f) Q := by
  refine w_aload_n cd_139_130 rfl ?_
  refine w_getfield cd_139_131 (show mt_f 12 251 = some (12, 1) by decide +kernel) h10 h11 h13 ?_
  exact w_ireturn_i cd_139_134 (by decide +kernel) h14
/-! MarloweHostModel.fails(ZI)Z -/
set_option maxRecDepth 100000 in
theorem mq_140 : mt_q 140 = my_140 := rfl
set_option maxRecDepth 100000 in
theorem ci_140 : mt_inc 0 my_140.cd = true := by decide +kernel
theorem cd_140_0 : mt_cd 140 0 = some (.iload_n 1) := mt_cd_of (q := (0, .iload_n 1, 1)) mq_140 ci_140 (List.mem_of_getElem? (i := 0) rfl)
theorem cd_140_1 : mt_cd 140 1 = some (.ifCond .eq 15) := mt_cd_of (q := (1, .ifCond .eq 15, 3)) mq_140 ci_140 (List.mem_of_getElem? (i := 1) rfl)
theorem cd_140_4 : mt_cd 140 4 = some (.aload_n 0) := mt_cd_of (q := (4, .aload_n 0, 1)) mq_140 ci_140 (List.mem_of_getElem? (i := 2) rfl)
theorem cd_140_5 : mt_cd 140 5 = some (.getfield 248) := mt_cd_of (q := (5, .getfield 248, 3)) mq_140 ci_140 (List.mem_of_getElem? (i := 3) rfl)
theorem cd_140_8 : mt_cd 140 8 = some (.ifCond .ne 8) := mt_cd_of (q := (8, .ifCond .ne 8, 3)) mq_140 ci_140 (List.mem_of_getElem? (i := 4) rfl)
theorem cd_140_11 : mt_cd 140 11 = some (.aload_n 0) := mt_cd_of (q := (11, .aload_n 0, 1)) mq_140 ci_140 (List.mem_of_getElem? (i := 5) rfl)
theorem cd_140_12 : mt_cd 140 12 = some (.iload_n 2) := mt_cd_of (q := (12, .iload_n 2, 1)) mq_140 ci_140 (List.mem_of_getElem? (i := 6) rfl)
theorem cd_140_13 : mt_cd 140 13 = some (.putfield 248) := mt_cd_of (q := (13, .putfield 248, 3)) mq_140 ci_140 (List.mem_of_getElem? (i := 7) rfl)
theorem cd_140_16 : mt_cd 140 16 = some (.aload_n 0) := mt_cd_of (q := (16, .aload_n 0, 1)) mq_140 ci_140 (List.mem_of_getElem? (i := 8) rfl)
theorem cd_140_17 : mt_cd 140 17 = some (.getfield 248) := mt_cd_of (q := (17, .getfield 248, 3)) mq_140 ci_140 (List.mem_of_getElem? (i := 9) rfl)
theorem cd_140_20 : mt_cd 140 20 = some (.ifCond .eq 7) := mt_cd_of (q := (20, .ifCond .eq 7, 3)) mq_140 ci_140 (List.mem_of_getElem? (i := 10) rfl)
theorem cd_140_23 : mt_cd 140 23 = some (.iconst 1) := mt_cd_of (q := (23, .iconst 1, 1)) mq_140 ci_140 (List.mem_of_getElem? (i := 11) rfl)
theorem cd_140_24 : mt_cd 140 24 = some (.goto 4) := mt_cd_of (q := (24, .goto 4, 3)) mq_140 ci_140 (List.mem_of_getElem? (i := 12) rfl)
theorem cd_140_27 : mt_cd 140 27 = some (.iconst 0) := mt_cd_of (q := (27, .iconst 0, 1)) mq_140 ci_140 (List.mem_of_getElem? (i := 13) rfl)
theorem cd_140_28 : mt_cd 140 28 = some (.ireturn) := mt_cd_of (q := (28, .ireturn, 1)) mq_140 ci_140 (List.mem_of_getElem? (i := 14) rfl)
theorem b_140_0 {d : Nat} {Q : (Option Value ⊕ Nat) → mi_H → Prop} (n sl : Nat) (f : Nat → mi_C) {l1 : Nat} {l2 : Int32} {l3 : Int32} (h4 : l2 = (0 : Int32) → mi_W d 140 16 [some (.ref l1), some (.int l2), some (.int l3)] [] (n, sl, f) Q) (h5 : ¬ (l2 = (0 : Int32)) → mi_W d 140 4 [some (.ref l1), some (.int l2), some (.int l3)] [] (n, sl, f) Q) : mi_W d 140 0 [some (.ref l1), some (.int l2), some (.int l3)] [] (n, sl, f) Q := by
  refine w_iload_n cd_140_0 rfl ?_
  exact w_ifeq cd_140_1 (by decide) h4 h5
theorem b_140_4 {d : Nat} {Q : (Option Value ⊕ Nat) → mi_H → Prop} (n sl : Nat) (f : Nat → mi_C) {l1 : Nat} {l2 : Int32} {l3 : Int32} {fs4 : List Value} {x7 : Int32} (h5 : f l1 = .inr (12, fs4)) (h6 : l1 < n) (h8 : fs4[0]? = some (.int x7)) (h9 : ¬ x7 = (0 : Int32) → mi_W d 140 16 [some (.ref l1), some (.int l2), some (.int l3)] [] (n, sl, f) Q) (h10 : ¬ (¬ x7 = (0 : Int32)) → mi_W d 140 11 [some (.ref l1), some (.int l2), some (.int l3)] [] (n, sl, f) Q) : mi_W d 140 4 [some (.ref l1), some (.int l2), some (.int l3)] [] (n, sl, f) Q := by
  refine w_aload_n cd_140_4 rfl ?_
  refine w_getfield cd_140_5 (show mt_f 12 248 = some (12, 0) by decide +kernel) h5 h6 h8 ?_
  exact w_ifne cd_140_8 (by decide) h9 h10
theorem b_140_11 {d : Nat} {Q : (Option Value ⊕ Nat) → mi_H → Prop} (n sl : Nat) (f : Nat → mi_C) {l1 : Nat} {l2 : Int32} {l3 : Int32} {fs4 : List Value} (h5 : f l1 = .inr (12, fs4)) (h6 : l1 < n) (h7 : 0 < fs4.length) (h8 : mi_W d 140 16 [some (.ref l1), some (.int l2), some (.int l3)] [] (n, sl, (va_up f l1 (.inr (12, fs4.set 0 (.int l3))))) Q) : mi_W d 140 11 [some (.ref l1), some (.int l2), some (.int l3)] [] (n, sl, f) Q := by
  refine w_aload_n cd_140_11 rfl ?_
  refine w_iload_n cd_140_12 rfl ?_
  refine w_putfield (w := .int l3) cd_140_13 (show mt_f 12 248 = some (12, 0) by decide +kernel) h5 h6 ⟨h7, rfl, Or.inl (by decide)⟩ ?_
  exact h8
theorem b_140_16 {d : Nat} {Q : (Option Value ⊕ Nat) → mi_H → Prop} (n sl : Nat) (f : Nat → mi_C) {l1 : Nat} {l2 : Int32} {l3 : Int32} {fs4 : List Value} {x7 : Int32} (h5 : f l1 = .inr (12, fs4)) (h6 : l1 < n) (h8 : fs4[0]? = some (.int x7)) (h9 : x7 = (0 : Int32) → mi_W d 140 27 [some (.ref l1), some (.int l2), some (.int l3)] [] (n, sl, f) Q) (h10 : ¬ (x7 = (0 : Int32)) → mi_W d 140 23 [some (.ref l1), some (.int l2), some (.int l3)] [] (n, sl, f) Q) : mi_W d 140 16 [some (.ref l1), some (.int l2), some (.int l3)] [] (n, sl, f) Q := by
  refine w_aload_n cd_140_16 rfl ?_
  refine w_getfield cd_140_17 (show mt_f 12 248 = some (12, 0) by decide +kernel) h5 h6 h8 ?_
  exact w_ifeq cd_140_20 (by decide) h9 h10
theorem b_140_23 {d : Nat} {Q : (Option Value ⊕ Nat) → mi_H → Prop} (n sl : Nat) (f : Nat → mi_C) {l1 : Nat} {l2 : Int32} {l3 : Int32} (h4 : mi_W d 140 28 [some (.ref l1), some (.int l2), some (.int l3)] [.int 1] (n, sl, f) Q) : mi_W d 140 23 [some (.ref l1), some (.int l2), some (.int l3)] [] (n, sl, f) Q := by
  refine w_iconst (v := 1) cd_140_23 (by decide) ?_
  exact w_goto cd_140_24 (by decide) h4
theorem b_140_27 {d : Nat} {Q : (Option Value ⊕ Nat) → mi_H → Prop} (n sl : Nat) (f : Nat → mi_C) {l1 : Nat} {l2 : Int32} {l3 : Int32} (h4 : mi_W d 140 28 [some (.ref l1), some (.int l2), some (.int l3)] [.int 0] (n, sl, f) Q) : mi_W d 140 27 [some (.ref l1), some (.int l2), some (.int l3)] [] (n, sl, f) Q := by
  refine w_iconst (v := 0) cd_140_27 (by decide) ?_
  exact h4
theorem b_140_28 {d : Nat} {Q : (Option Value ⊕ Nat) → mi_H → Prop} (n sl : Nat) (f : Nat → mi_C) {l1 : Nat} {l2 : Int32} {l3 : Int32} {s4 : Int32} (h5 : s4 = 0 ∨ s4 = 1) (h6 : Q (.inl (some (.int s4))) (n, sl, f)) : mi_W d 140 28 [some (.ref l1), some (.int l2), some (.int l3)] [.int s4] (n, sl, f) Q := by
  exact w_ireturn_z cd_140_28 (by decide +kernel) h5 h6
/-! MarloweHostModel.end(I)I -/
set_option maxRecDepth 100000 in
theorem mq_141 : mt_q 141 = my_141 := rfl
set_option maxRecDepth 100000 in
theorem ci_141 : mt_inc 0 my_141.cd = true := by decide +kernel
theorem cd_141_0 : mt_cd 141 0 = some (.aload_n 0) := mt_cd_of (q := (0, .aload_n 0, 1)) mq_141 ci_141 (List.mem_of_getElem? (i := 0) rfl)
theorem cd_141_1 : mt_cd 141 1 = some (.iconst 0) := mt_cd_of (q := (1, .iconst 0, 1)) mq_141 ci_141 (List.mem_of_getElem? (i := 1) rfl)
theorem cd_141_2 : mt_cd 141 2 = some (.putfield 248) := mt_cd_of (q := (2, .putfield 248, 3)) mq_141 ci_141 (List.mem_of_getElem? (i := 2) rfl)
theorem cd_141_5 : mt_cd 141 5 = some (.aload_n 0) := mt_cd_of (q := (5, .aload_n 0, 1)) mq_141 ci_141 (List.mem_of_getElem? (i := 3) rfl)
theorem cd_141_6 : mt_cd 141 6 = some (.iload_n 1) := mt_cd_of (q := (6, .iload_n 1, 1)) mq_141 ci_141 (List.mem_of_getElem? (i := 4) rfl)
theorem cd_141_7 : mt_cd 141 7 = some (.ifCond .lt 18) := mt_cd_of (q := (7, .ifCond .lt 18, 3)) mq_141 ci_141 (List.mem_of_getElem? (i := 5) rfl)
theorem cd_141_10 : mt_cd 141 10 = some (.iload_n 1) := mt_cd_of (q := (10, .iload_n 1, 1)) mq_141 ci_141 (List.mem_of_getElem? (i := 6) rfl)
theorem cd_141_11 : mt_cd 141 11 = some (.sipush 8192) := mt_cd_of (q := (11, .sipush 8192, 3)) mq_141 ci_141 (List.mem_of_getElem? (i := 7) rfl)
theorem cd_141_14 : mt_cd 141 14 = some (.if_icmp .gt 11) := mt_cd_of (q := (14, .if_icmp .gt 11, 3)) mq_141 ci_141 (List.mem_of_getElem? (i := 8) rfl)
theorem cd_141_17 : mt_cd 141 17 = some (.iload_n 1) := mt_cd_of (q := (17, .iload_n 1, 1)) mq_141 ci_141 (List.mem_of_getElem? (i := 9) rfl)
theorem cd_141_18 : mt_cd 141 18 = some (.aload_n 0) := mt_cd_of (q := (18, .aload_n 0, 1)) mq_141 ci_141 (List.mem_of_getElem? (i := 10) rfl)
theorem cd_141_19 : mt_cd 141 19 = some (.getfield 251) := mt_cd_of (q := (19, .getfield 251, 3)) mq_141 ci_141 (List.mem_of_getElem? (i := 11) rfl)
theorem cd_141_22 : mt_cd 141 22 = some (.if_icmp .le 7) := mt_cd_of (q := (22, .if_icmp .le 7, 3)) mq_141 ci_141 (List.mem_of_getElem? (i := 12) rfl)
theorem cd_141_25 : mt_cd 141 25 = some (.iconst 1) := mt_cd_of (q := (25, .iconst 1, 1)) mq_141 ci_141 (List.mem_of_getElem? (i := 13) rfl)
theorem cd_141_26 : mt_cd 141 26 = some (.goto 4) := mt_cd_of (q := (26, .goto 4, 3)) mq_141 ci_141 (List.mem_of_getElem? (i := 14) rfl)
theorem cd_141_29 : mt_cd 141 29 = some (.iconst 0) := mt_cd_of (q := (29, .iconst 0, 1)) mq_141 ci_141 (List.mem_of_getElem? (i := 15) rfl)
theorem cd_141_30 : mt_cd 141 30 = some (.iconst 1) := mt_cd_of (q := (30, .iconst 1, 1)) mq_141 ci_141 (List.mem_of_getElem? (i := 16) rfl)
theorem cd_141_31 : mt_cd 141 31 = some (.invokevirtual 254) := mt_cd_of (q := (31, .invokevirtual 254, 3)) mq_141 ci_141 (List.mem_of_getElem? (i := 17) rfl)
theorem cd_141_34 : mt_cd 141 34 = some (.ifCond .eq 5) := mt_cd_of (q := (34, .ifCond .eq 5, 3)) mq_141 ci_141 (List.mem_of_getElem? (i := 18) rfl)
theorem cd_141_37 : mt_cd 141 37 = some (.iconst 0) := mt_cd_of (q := (37, .iconst 0, 1)) mq_141 ci_141 (List.mem_of_getElem? (i := 19) rfl)
theorem cd_141_38 : mt_cd 141 38 = some (.ireturn) := mt_cd_of (q := (38, .ireturn, 1)) mq_141 ci_141 (List.mem_of_getElem? (i := 20) rfl)
theorem cd_141_39 : mt_cd 141 39 = some (.aload_n 0) := mt_cd_of (q := (39, .aload_n 0, 1)) mq_141 ci_141 (List.mem_of_getElem? (i := 21) rfl)
theorem cd_141_40 : mt_cd 141 40 = some (.iconst 0) := mt_cd_of (q := (40, .iconst 0, 1)) mq_141 ci_141 (List.mem_of_getElem? (i := 22) rfl)
theorem cd_141_41 : mt_cd 141 41 = some (.putfield 251) := mt_cd_of (q := (41, .putfield 251, 3)) mq_141 ci_141 (List.mem_of_getElem? (i := 23) rfl)
theorem cd_141_44 : mt_cd 141 44 = some (.aload_n 0) := mt_cd_of (q := (44, .aload_n 0, 1)) mq_141 ci_141 (List.mem_of_getElem? (i := 24) rfl)
theorem cd_141_45 : mt_cd 141 45 = some (.iconst (-1)) := mt_cd_of (q := (45, .iconst (-1), 1)) mq_141 ci_141 (List.mem_of_getElem? (i := 25) rfl)
theorem cd_141_46 : mt_cd 141 46 = some (.putfield 7) := mt_cd_of (q := (46, .putfield 7, 3)) mq_141 ci_141 (List.mem_of_getElem? (i := 26) rfl)
theorem cd_141_49 : mt_cd 141 49 = some (.aload_n 0) := mt_cd_of (q := (49, .aload_n 0, 1)) mq_141 ci_141 (List.mem_of_getElem? (i := 27) rfl)
theorem cd_141_50 : mt_cd 141 50 = some (.iconst (-1)) := mt_cd_of (q := (50, .iconst (-1), 1)) mq_141 ci_141 (List.mem_of_getElem? (i := 28) rfl)
theorem cd_141_51 : mt_cd 141 51 = some (.putfield 13) := mt_cd_of (q := (51, .putfield 13, 3)) mq_141 ci_141 (List.mem_of_getElem? (i := 29) rfl)
theorem cd_141_54 : mt_cd 141 54 = some (.aload_n 0) := mt_cd_of (q := (54, .aload_n 0, 1)) mq_141 ci_141 (List.mem_of_getElem? (i := 30) rfl)
theorem cd_141_55 : mt_cd 141 55 = some (.iconst 0) := mt_cd_of (q := (55, .iconst 0, 1)) mq_141 ci_141 (List.mem_of_getElem? (i := 31) rfl)
theorem cd_141_56 : mt_cd 141 56 = some (.putfield 258) := mt_cd_of (q := (56, .putfield 258, 3)) mq_141 ci_141 (List.mem_of_getElem? (i := 32) rfl)
theorem cd_141_59 : mt_cd 141 59 = some (.aload_n 0) := mt_cd_of (q := (59, .aload_n 0, 1)) mq_141 ci_141 (List.mem_of_getElem? (i := 33) rfl)
theorem cd_141_60 : mt_cd 141 60 = some (.iload_n 1) := mt_cd_of (q := (60, .iload_n 1, 1)) mq_141 ci_141 (List.mem_of_getElem? (i := 34) rfl)
theorem cd_141_61 : mt_cd 141 61 = some (.putfield 261) := mt_cd_of (q := (61, .putfield 261, 3)) mq_141 ci_141 (List.mem_of_getElem? (i := 35) rfl)
theorem cd_141_64 : mt_cd 141 64 = some (.iconst 0) := mt_cd_of (q := (64, .iconst 0, 1)) mq_141 ci_141 (List.mem_of_getElem? (i := 36) rfl)
theorem cd_141_65 : mt_cd 141 65 = some (.istore_n 2) := mt_cd_of (q := (65, .istore_n 2, 1)) mq_141 ci_141 (List.mem_of_getElem? (i := 37) rfl)
theorem cd_141_66 : mt_cd 141 66 = some (.iload_n 2) := mt_cd_of (q := (66, .iload_n 2, 1)) mq_141 ci_141 (List.mem_of_getElem? (i := 38) rfl)
theorem cd_141_67 : mt_cd 141 67 = some (.iload_n 1) := mt_cd_of (q := (67, .iload_n 1, 1)) mq_141 ci_141 (List.mem_of_getElem? (i := 39) rfl)
theorem cd_141_68 : mt_cd 141 68 = some (.if_icmp .ge 57) := mt_cd_of (q := (68, .if_icmp .ge 57, 3)) mq_141 ci_141 (List.mem_of_getElem? (i := 40) rfl)
theorem cd_141_71 : mt_cd 141 71 = some (.aload_n 0) := mt_cd_of (q := (71, .aload_n 0, 1)) mq_141 ci_141 (List.mem_of_getElem? (i := 41) rfl)
theorem cd_141_72 : mt_cd 141 72 = some (.getfield 20) := mt_cd_of (q := (72, .getfield 20, 3)) mq_141 ci_141 (List.mem_of_getElem? (i := 42) rfl)
theorem cd_141_75 : mt_cd 141 75 = some (.iload_n 2) := mt_cd_of (q := (75, .iload_n 2, 1)) mq_141 ci_141 (List.mem_of_getElem? (i := 43) rfl)
theorem cd_141_76 : mt_cd 141 76 = some (.aload_n 0) := mt_cd_of (q := (76, .aload_n 0, 1)) mq_141 ci_141 (List.mem_of_getElem? (i := 44) rfl)
theorem cd_141_77 : mt_cd 141 77 = some (.getfield 16) := mt_cd_of (q := (77, .getfield 16, 3)) mq_141 ci_141 (List.mem_of_getElem? (i := 45) rfl)
theorem cd_141_80 : mt_cd 141 80 = some (.iload_n 2) := mt_cd_of (q := (80, .iload_n 2, 1)) mq_141 ci_141 (List.mem_of_getElem? (i := 46) rfl)
theorem cd_141_81 : mt_cd 141 81 = some (.iaload) := mt_cd_of (q := (81, .iaload, 1)) mq_141 ci_141 (List.mem_of_getElem? (i := 47) rfl)
theorem cd_141_82 : mt_cd 141 82 = some (.iastore) := mt_cd_of (q := (82, .iastore, 1)) mq_141 ci_141 (List.mem_of_getElem? (i := 48) rfl)
theorem cd_141_83 : mt_cd 141 83 = some (.aload_n 0) := mt_cd_of (q := (83, .aload_n 0, 1)) mq_141 ci_141 (List.mem_of_getElem? (i := 49) rfl)
theorem cd_141_84 : mt_cd 141 84 = some (.getfield 20) := mt_cd_of (q := (84, .getfield 20, 3)) mq_141 ci_141 (List.mem_of_getElem? (i := 50) rfl)
theorem cd_141_87 : mt_cd 141 87 = some (.iload_n 2) := mt_cd_of (q := (87, .iload_n 2, 1)) mq_141 ci_141 (List.mem_of_getElem? (i := 51) rfl)
theorem cd_141_88 : mt_cd 141 88 = some (.iaload) := mt_cd_of (q := (88, .iaload, 1)) mq_141 ci_141 (List.mem_of_getElem? (i := 52) rfl)
theorem cd_141_89 : mt_cd 141 89 = some (.bipush 10) := mt_cd_of (q := (89, .bipush 10, 2)) mq_141 ci_141 (List.mem_of_getElem? (i := 53) rfl)
theorem cd_141_91 : mt_cd 141 91 = some (.if_icmp .eq 28) := mt_cd_of (q := (91, .if_icmp .eq 28, 3)) mq_141 ci_141 (List.mem_of_getElem? (i := 54) rfl)
theorem cd_141_94 : mt_cd 141 94 = some (.aload_n 0) := mt_cd_of (q := (94, .aload_n 0, 1)) mq_141 ci_141 (List.mem_of_getElem? (i := 55) rfl)
theorem cd_141_95 : mt_cd 141 95 = some (.getfield 20) := mt_cd_of (q := (95, .getfield 20, 3)) mq_141 ci_141 (List.mem_of_getElem? (i := 56) rfl)
theorem cd_141_98 : mt_cd 141 98 = some (.iload_n 2) := mt_cd_of (q := (98, .iload_n 2, 1)) mq_141 ci_141 (List.mem_of_getElem? (i := 57) rfl)
theorem cd_141_99 : mt_cd 141 99 = some (.iaload) := mt_cd_of (q := (99, .iaload, 1)) mq_141 ci_141 (List.mem_of_getElem? (i := 58) rfl)
theorem cd_141_100 : mt_cd 141 100 = some (.i2l) := mt_cd_of (q := (100, .i2l, 1)) mq_141 ci_141 (List.mem_of_getElem? (i := 59) rfl)
theorem cd_141_101 : mt_cd 141 101 = some (.ldc2_w 264) := mt_cd_of (q := (101, .ldc2_w 264, 3)) mq_141 ci_141 (List.mem_of_getElem? (i := 60) rfl)
theorem cd_141_104 : mt_cd 141 104 = some (.ldc2_w 266) := mt_cd_of (q := (104, .ldc2_w 266, 3)) mq_141 ci_141 (List.mem_of_getElem? (i := 61) rfl)
theorem cd_141_107 : mt_cd 141 107 = some (.invokestatic 268) := mt_cd_of (q := (107, .invokestatic 268, 3)) mq_141 ci_141 (List.mem_of_getElem? (i := 62) rfl)
theorem cd_141_110 : mt_cd 141 110 = some (.ifCond .ne 9) := mt_cd_of (q := (110, .ifCond .ne 9, 3)) mq_141 ci_141 (List.mem_of_getElem? (i := 63) rfl)
theorem cd_141_113 : mt_cd 141 113 = some (.aload_n 0) := mt_cd_of (q := (113, .aload_n 0, 1)) mq_141 ci_141 (List.mem_of_getElem? (i := 64) rfl)
theorem cd_141_114 : mt_cd 141 114 = some (.iload_n 2) := mt_cd_of (q := (114, .iload_n 2, 1)) mq_141 ci_141 (List.mem_of_getElem? (i := 65) rfl)
theorem cd_141_115 : mt_cd 141 115 = some (.invokevirtual 272) := mt_cd_of (q := (115, .invokevirtual 272, 3)) mq_141 ci_141 (List.mem_of_getElem? (i := 66) rfl)
theorem cd_141_118 : mt_cd 141 118 = some (.pop) := mt_cd_of (q := (118, .pop, 1)) mq_141 ci_141 (List.mem_of_getElem? (i := 67) rfl)
theorem cd_141_119 : mt_cd 141 119 = some (.iinc 2 1) := mt_cd_of (q := (119, .iinc 2 1, 3)) mq_141 ci_141 (List.mem_of_getElem? (i := 68) rfl)
theorem cd_141_122 : mt_cd 141 122 = some (.goto (-56)) := mt_cd_of (q := (122, .goto (-56), 3)) mq_141 ci_141 (List.mem_of_getElem? (i := 69) rfl)
theorem cd_141_125 : mt_cd 141 125 = some (.aload_n 0) := mt_cd_of (q := (125, .aload_n 0, 1)) mq_141 ci_141 (List.mem_of_getElem? (i := 70) rfl)
theorem cd_141_126 : mt_cd 141 126 = some (.getfield 7) := mt_cd_of (q := (126, .getfield 7, 3)) mq_141 ci_141 (List.mem_of_getElem? (i := 71) rfl)
theorem cd_141_129 : mt_cd 141 129 = some (.ifCond .ge 7) := mt_cd_of (q := (129, .ifCond .ge 7, 3)) mq_141 ci_141 (List.mem_of_getElem? (i := 72) rfl)
theorem cd_141_132 : mt_cd 141 132 = some (.aload_n 0) := mt_cd_of (q := (132, .aload_n 0, 1)) mq_141 ci_141 (List.mem_of_getElem? (i := 73) rfl)
theorem cd_141_133 : mt_cd 141 133 = some (.invokevirtual 276) := mt_cd_of (q := (133, .invokevirtual 276, 3)) mq_141 ci_141 (List.mem_of_getElem? (i := 74) rfl)
theorem cd_141_136 : mt_cd 141 136 = some (.aload_n 0) := mt_cd_of (q := (136, .aload_n 0, 1)) mq_141 ci_141 (List.mem_of_getElem? (i := 75) rfl)
theorem cd_141_137 : mt_cd 141 137 = some (.aload_n 0) := mt_cd_of (q := (137, .aload_n 0, 1)) mq_141 ci_141 (List.mem_of_getElem? (i := 76) rfl)
theorem cd_141_138 : mt_cd 141 138 = some (.getfield 7) := mt_cd_of (q := (138, .getfield 7, 3)) mq_141 ci_141 (List.mem_of_getElem? (i := 77) rfl)
theorem cd_141_141 : mt_cd 141 141 = some (.ifCond .lt 7) := mt_cd_of (q := (141, .ifCond .lt 7, 3)) mq_141 ci_141 (List.mem_of_getElem? (i := 78) rfl)
theorem cd_141_144 : mt_cd 141 144 = some (.iconst 1) := mt_cd_of (q := (144, .iconst 1, 1)) mq_141 ci_141 (List.mem_of_getElem? (i := 79) rfl)
theorem cd_141_145 : mt_cd 141 145 = some (.goto 4) := mt_cd_of (q := (145, .goto 4, 3)) mq_141 ci_141 (List.mem_of_getElem? (i := 80) rfl)
theorem cd_141_148 : mt_cd 141 148 = some (.iconst 0) := mt_cd_of (q := (148, .iconst 0, 1)) mq_141 ci_141 (List.mem_of_getElem? (i := 81) rfl)
theorem cd_141_149 : mt_cd 141 149 = some (.iconst 2) := mt_cd_of (q := (149, .iconst 2, 1)) mq_141 ci_141 (List.mem_of_getElem? (i := 82) rfl)
theorem cd_141_150 : mt_cd 141 150 = some (.invokevirtual 254) := mt_cd_of (q := (150, .invokevirtual 254, 3)) mq_141 ci_141 (List.mem_of_getElem? (i := 83) rfl)
theorem cd_141_153 : mt_cd 141 153 = some (.ifCond .eq 5) := mt_cd_of (q := (153, .ifCond .eq 5, 3)) mq_141 ci_141 (List.mem_of_getElem? (i := 84) rfl)
theorem cd_141_156 : mt_cd 141 156 = some (.iconst 0) := mt_cd_of (q := (156, .iconst 0, 1)) mq_141 ci_141 (List.mem_of_getElem? (i := 85) rfl)
theorem cd_141_157 : mt_cd 141 157 = some (.ireturn) := mt_cd_of (q := (157, .ireturn, 1)) mq_141 ci_141 (List.mem_of_getElem? (i := 86) rfl)
theorem cd_141_158 : mt_cd 141 158 = some (.aload_n 0) := mt_cd_of (q := (158, .aload_n 0, 1)) mq_141 ci_141 (List.mem_of_getElem? (i := 87) rfl)
theorem cd_141_159 : mt_cd 141 159 = some (.iconst 0) := mt_cd_of (q := (159, .iconst 0, 1)) mq_141 ci_141 (List.mem_of_getElem? (i := 88) rfl)
theorem cd_141_160 : mt_cd 141 160 = some (.putfield 13) := mt_cd_of (q := (160, .putfield 13, 3)) mq_141 ci_141 (List.mem_of_getElem? (i := 89) rfl)
theorem cd_141_163 : mt_cd 141 163 = some (.aload_n 0) := mt_cd_of (q := (163, .aload_n 0, 1)) mq_141 ci_141 (List.mem_of_getElem? (i := 90) rfl)
theorem cd_141_164 : mt_cd 141 164 = some (.getfield 147) := mt_cd_of (q := (164, .getfield 147, 3)) mq_141 ci_141 (List.mem_of_getElem? (i := 91) rfl)
theorem cd_141_167 : mt_cd 141 167 = some (.invokevirtual 279) := mt_cd_of (q := (167, .invokevirtual 279, 3)) mq_141 ci_141 (List.mem_of_getElem? (i := 92) rfl)
theorem cd_141_170 : mt_cd 141 170 = some (.aload_n 0) := mt_cd_of (q := (170, .aload_n 0, 1)) mq_141 ci_141 (List.mem_of_getElem? (i := 93) rfl)
theorem cd_141_171 : mt_cd 141 171 = some (.getfield 282) := mt_cd_of (q := (171, .getfield 282, 3)) mq_141 ci_141 (List.mem_of_getElem? (i := 94) rfl)
theorem cd_141_174 : mt_cd 141 174 = some (.ireturn) := mt_cd_of (q := (174, .ireturn, 1)) mq_141 ci_141 (List.mem_of_getElem? (i := 95) rfl)
theorem b_141_0 {d : Nat} {Q : (Option Value ⊕ Nat) → mi_H → Prop} (n sl : Nat) (f : Nat → mi_C) {l1 : Nat} {l2 : Int32} {o3 : Option Value} {fs4 : List Value} (h5 : f l1 = .inr (12, fs4)) (h6 : l1 < n) (h7 : 0 < fs4.length) (h8 : l2 < (0 : Int32) → mi_W d 141 25 [some (.ref l1), some (.int l2), o3] [.ref l1] (n, sl, (va_up f l1 (.inr (12, fs4.set 0 (.int 0))))) Q) (h9 : ¬ (l2 < (0 : Int32)) → mi_W d 141 10 [some (.ref l1), some (.int l2), o3] [.ref l1] (n, sl, (va_up f l1 (.inr (12, fs4.set 0 (.int 0))))) Q) : mi_W d 141 0 [some (.ref l1), some (.int l2), o3] [] (n, sl, f) Q := by
  refine w_aload_n cd_141_0 rfl ?_
  refine w_iconst (v := 0) cd_141_1 (by decide) ?_
  refine w_putfield (w := .int 0) cd_141_2 (show mt_f 12 248 = some (12, 0) by decide +kernel) h5 h6 ⟨h7, rfl, Or.inl (by decide)⟩ ?_
  refine w_aload_n cd_141_5 rfl ?_
  refine w_iload_n cd_141_6 rfl ?_
  exact w_iflt cd_141_7 (by decide) h8 h9
theorem b_141_10 {d : Nat} {Q : (Option Value ⊕ Nat) → mi_H → Prop} (n sl : Nat) (f : Nat → mi_C) {l1 : Nat} {l2 : Int32} {o3 : Option Value} {s4 : Nat} (h5 : 8192 < l2 → mi_W d 141 25 [some (.ref l1), some (.int l2), o3] [.ref s4] (n, sl, f) Q) (h6 : ¬ (8192 < l2) → mi_W d 141 17 [some (.ref l1), some (.int l2), o3] [.ref s4] (n, sl, f) Q) : mi_W d 141 10 [some (.ref l1), some (.int l2), o3] [.ref s4] (n, sl, f) Q := by
  refine w_iload_n cd_141_10 rfl ?_
  refine w_sipush (v := 8192) cd_141_11 (by decide) ?_
  exact w_if_icmpgt cd_141_14 (by decide) h5 h6
theorem b_141_17 {d : Nat} {Q : (Option Value ⊕ Nat) → mi_H → Prop} (n sl : Nat) (f : Nat → mi_C) {l1 : Nat} {l2 : Int32} {o3 : Option Value} {s4 : Nat} {fs5 : List Value} {x8 : Int32} (h6 : f l1 = .inr (12, fs5)) (h7 : l1 < n) (h9 : fs5[1]? = some (.int x8)) (h10 : l2 ≤ x8 → mi_W d 141 29 [some (.ref l1), some (.int l2), o3] [.ref s4] (n, sl, f) Q) (h11 : ¬ (l2 ≤ x8) → mi_W d 141 25 [some (.ref l1), some (.int l2), o3] [.ref s4] (n, sl, f) Q) : mi_W d 141 17 [some (.ref l1), some (.int l2), o3] [.ref s4] (n, sl, f) Q := by
  refine w_iload_n cd_141_17 rfl ?_
  refine w_aload_n cd_141_18 rfl ?_
  refine w_getfield cd_141_19 (show mt_f 12 251 = some (12, 1) by decide +kernel) h6 h7 h9 ?_
  exact w_if_icmple cd_141_22 (by decide) h10 h11
theorem b_141_25 {d : Nat} {Q : (Option Value ⊕ Nat) → mi_H → Prop} (n sl : Nat) (f : Nat → mi_C) {l1 : Nat} {l2 : Int32} {o3 : Option Value} {s4 : Nat} (h5 : mi_W d 141 30 [some (.ref l1), some (.int l2), o3] [.int 1, .ref s4] (n, sl, f) Q) : mi_W d 141 25 [some (.ref l1), some (.int l2), o3] [.ref s4] (n, sl, f) Q := by
  refine w_iconst (v := 1) cd_141_25 (by decide) ?_
  exact w_goto cd_141_26 (by decide) h5
theorem b_141_29 {d : Nat} {Q : (Option Value ⊕ Nat) → mi_H → Prop} (n sl : Nat) (f : Nat → mi_C) {l1 : Nat} {l2 : Int32} {o3 : Option Value} {s4 : Nat} (h5 : mi_W d 141 30 [some (.ref l1), some (.int l2), o3] [.int 0, .ref s4] (n, sl, f) Q) : mi_W d 141 29 [some (.ref l1), some (.int l2), o3] [.ref s4] (n, sl, f) Q := by
  refine w_iconst (v := 0) cd_141_29 (by decide) ?_
  exact h5
theorem b_141_30 {d : Nat} {Q : (Option Value ⊕ Nat) → mi_H → Prop} (n sl : Nat) (f : Nat → mi_C) {l1 : Nat} {l2 : Int32} {o3 : Option Value} {s4 : Int32} {s5 : Nat} {fs6 : List Value} (h7 : f s5 = .inr (12, fs6)) (h8 : s5 < n) (h9 : mi_W d 140 0 (mi_en 3 [.ref s5, .int s4, .int 1]) [] (n, sl, f) (mi_Kc d 141 31 [some (.ref l1), some (.int l2), o3] [] Q)) : mi_W (d + 1) 141 30 [some (.ref l1), some (.int l2), o3] [.int s4, .ref s5] (n, sl, f) Q := by
  refine w_iconst (v := 1) cd_141_30 (by decide) ?_
  exact w_invokevirtual cd_141_31 (show mt_m 12 254 = some (140, 0) by decide +kernel) (rest := []) rfl (as := [.ref s5, .int s4, .int 1]) rfl h7 (Or.inl h8) ⟨Nat.le_of_ble_eq_true rfl, Nat.le_of_ble_eq_true rfl, Nat.le_of_ble_eq_true rfl⟩ h9
theorem b_141_34 {d : Nat} {Q : (Option Value ⊕ Nat) → mi_H → Prop} (n sl : Nat) (f : Nat → mi_C) {l1 : Nat} {l2 : Int32} {o3 : Option Value} {s4 : Int32} (h5 : s4 = (0 : Int32) → mi_W d 141 39 [some (.ref l1), some (.int l2), o3] [] (n, sl, f) Q) (h6 : ¬ (s4 = (0 : Int32)) → mi_W d 141 37 [some (.ref l1), some (.int l2), o3] [] (n, sl, f) Q) : mi_W d 141 34 [some (.ref l1), some (.int l2), o3] [.int s4] (n, sl, f) Q := by
  exact w_ifeq cd_141_34 (by decide) h5 h6
theorem b_141_37 {d : Nat} {Q : (Option Value ⊕ Nat) → mi_H → Prop} (n sl : Nat) (f : Nat → mi_C) {l1 : Nat} {l2 : Int32} {o3 : Option Value} (h4 : Q (.inl (some (.int 0))) (n, sl, f)) : mi_W d 141 37 [some (.ref l1), some (.int l2), o3] [] (n, sl, f) Q := by
  refine w_iconst (v := 0) cd_141_37 (by decide) ?_
  exact w_ireturn_i cd_141_38 (by decide +kernel) h4
theorem b_141_39 {d : Nat} {Q : (Option Value ⊕ Nat) → mi_H → Prop} (n sl : Nat) (f : Nat → mi_C) {l1 : Nat} {l2 : Int32} {o3 : Option Value} {fs4 : List Value} {fs8 : List Value} {fs12 : List Value} {fs16 : List Value} {fs20 : List Value} (h5 : f l1 = .inr (12, fs4)) (h6 : l1 < n) (h7 : 1 < fs4.length) (h9 : (va_up f l1 (.inr (12, fs4.set 1 (.int 0)))) l1 = .inr (12, fs8)) (h10 : l1 < n) (h11 : 3 < fs8.length) (h13 : (va_up (va_up f l1 (.inr (12, fs4.set 1 (.int 0)))) l1 (.inr (12, fs8.set 3 (.int (-1))))) l1 = .inr (12, fs12)) (h14 : l1 < n) (h15 : 4 < fs12.length) (h17 : (va_up (va_up (va_up f l1 (.inr (12, fs4.set 1 (.int 0)))) l1 (.inr (12, fs8.set 3 (.int (-1))))) l1 (.inr (12, fs12.set 4 (.int (-1))))) l1 = .inr (12, fs16)) (h18 : l1 < n) (h19 : 59 < fs16.length) (h21 : (va_up (va_up (va_up (va_up f l1 (.inr (12, fs4.set 1 (.int 0)))) l1 (.inr (12, fs8.set 3 (.int (-1))))) l1 (.inr (12, fs12.set 4 (.int (-1))))) l1 (.inr (12, fs16.set 59 (.int 0)))) l1 = .inr (12, fs20)) (h22 : l1 < n) (h23 : 2 < fs20.length) (h24 : mi_W d 141 66 [some (.ref l1), some (.int l2), some (.int 0)] [] (n, sl, (va_up (va_up (va_up (va_up (va_up f l1 (.inr (12, fs4.set 1 (.int 0)))) l1 (.inr (12, fs8.set 3 (.int (-1))))) l1 (.inr (12, fs12.set 4 (.int (-1))))) l1 (.inr (12, fs16.set 59 (.int 0)))) l1 (.inr (12, fs20.set 2 (.int l2))))) Q) : mi_W d 141 39 [some (.ref l1), some (.int l2), o3] [] (n, sl, f) Q := by
  refine w_aload_n cd_141_39 rfl ?_
  refine w_iconst (v := 0) cd_141_40 (by decide) ?_
  refine w_putfield (w := .int 0) cd_141_41 (show mt_f 12 251 = some (12, 1) by decide +kernel) h5 h6 ⟨h7, rfl, Or.inl (by decide)⟩ ?_
  refine w_aload_n cd_141_44 rfl ?_
  refine w_iconst (v := (-1)) cd_141_45 (by decide) ?_
  refine w_putfield (w := .int (-1)) cd_141_46 (show mt_f 12 7 = some (12, 3) by decide +kernel) h9 h10 ⟨h11, rfl, Or.inl (by decide)⟩ ?_
  refine w_aload_n cd_141_49 rfl ?_
  refine w_iconst (v := (-1)) cd_141_50 (by decide) ?_
  refine w_putfield (w := .int (-1)) cd_141_51 (show mt_f 12 13 = some (12, 4) by decide +kernel) h13 h14 ⟨h15, rfl, Or.inl (by decide)⟩ ?_
  refine w_aload_n cd_141_54 rfl ?_
  refine w_iconst (v := 0) cd_141_55 (by decide) ?_
  refine w_putfield (w := .int 0) cd_141_56 (show mt_f 12 258 = some (12, 59) by decide +kernel) h17 h18 ⟨h19, rfl, Or.inl (by decide)⟩ ?_
  refine w_aload_n cd_141_59 rfl ?_
  refine w_iload_n cd_141_60 rfl ?_
  refine w_putfield (w := .int l2) cd_141_61 (show mt_f 12 261 = some (12, 2) by decide +kernel) h21 h22 ⟨h23, rfl, Or.inl (by decide)⟩ ?_
  refine w_iconst (v := 0) cd_141_64 (by decide) ?_
  refine w_istore_n (ls' := [some (.ref l1), some (.int l2), some (.int 0)]) cd_141_65 (Nat.le_of_ble_eq_true rfl) rfl ?_
  exact h24
theorem b_141_66 {d : Nat} {Q : (Option Value ⊕ Nat) → mi_H → Prop} (n sl : Nat) (f : Nat → mi_C) {l1 : Nat} {l2 : Int32} {l3 : Int32} (h4 : l2 ≤ l3 → mi_W d 141 125 [some (.ref l1), some (.int l2), some (.int l3)] [] (n, sl, f) Q) (h5 : ¬ (l2 ≤ l3) → mi_W d 141 71 [some (.ref l1), some (.int l2), some (.int l3)] [] (n, sl, f) Q) : mi_W d 141 66 [some (.ref l1), some (.int l2), some (.int l3)] [] (n, sl, f) Q := by
  refine w_iload_n cd_141_66 rfl ?_
  refine w_iload_n cd_141_67 rfl ?_
  exact w_if_icmpge cd_141_68 (by decide) h4 h5
theorem b_141_71 {d : Nat} {Q : (Option Value ⊕ Nat) → mi_H → Prop} (n sl : Nat) (f : Nat → mi_C) {l1 : Nat} {l2 : Int32} {l3 : Int32} {fs4 : List Value} {x7 : Nat} {fs9 : List Value} {x12 : Nat} (m14 i14 : Nat) (g14 : Nat → Int32) (m18 i18 : Nat) (g18 : Nat → Int32) {fs22 : List Value} {x25 : Nat} (m27 i27 : Nat) (g27 : Nat → Int32) (h5 : f l1 = .inr (12, fs4)) (h6 : l1 < n) (h8 : fs4[6]? = some (.ref x7)) (h10 : f l1 = .inr (12, fs9)) (h11 : l1 < n) (h13 : fs9[5]? = some (.ref x12)) (h15 : f x12 = .inl (0, m14, .inl g14)) (h16 : x12 < n ∨ x12 = mi_SC) (h17 : mi_ix l3 m14 i14) (h19 : f x7 = .inl (0, m18, .inl g18)) (h20 : x7 < n) (h21 : mi_ix l3 m18 i18) (h23 : (va_up f x7 (.inl (0, m18, .inl (upd g18 i18 (g14 i14))))) l1 = .inr (12, fs22)) (h24 : l1 < n) (h26 : fs22[6]? = some (.ref x25)) (h28 : (va_up f x7 (.inl (0, m18, .inl (upd g18 i18 (g14 i14))))) x25 = .inl (0, m27, .inl g27)) (h29 : x25 < n ∨ x25 = mi_SC) (h30 : mi_ix l3 m27 i27) (h31 : (g27 i27) = 10 → mi_W d 141 119 [some (.ref l1), some (.int l2), some (.int l3)] [] (n, sl, (va_up f x7 (.inl (0, m18, .inl (upd g18 i18 (g14 i14)))))) Q) (h32 : ¬ ((g27 i27) = 10) → mi_W d 141 94 [some (.ref l1), some (.int l2), some (.int l3)] [] (n, sl, (va_up f x7 (.inl (0, m18, .inl (upd g18 i18 (g14 i14)))))) Q) : mi_W d 141 71 [some (.ref l1), some (.int l2), some (.int l3)] [] (n, sl, f) Q := by
  refine w_aload_n cd_141_71 rfl ?_
  refine w_getfield cd_141_72 (show mt_f 12 20 = some (12, 6) by decide +kernel) h5 h6 h8 ?_
  refine w_iload_n cd_141_75 rfl ?_
  refine w_aload_n cd_141_76 rfl ?_
  refine w_getfield cd_141_77 (show mt_f 12 16 = some (12, 5) by decide +kernel) h10 h11 h13 ?_
  refine w_iload_n cd_141_80 rfl ?_
  refine w_iaload cd_141_81 h15 h16 h17 ?_
  refine w_iastore cd_141_82 h19 h20 h21 ?_
  refine w_aload_n cd_141_83 rfl ?_
  refine w_getfield cd_141_84 (show mt_f 12 20 = some (12, 6) by decide +kernel) h23 h24 h26 ?_
  refine w_iload_n cd_141_87 rfl ?_
  refine w_iaload cd_141_88 h28 h29 h30 ?_
  refine w_bipush (v := 10) cd_141_89 (by decide) ?_
  exact w_if_icmpeq cd_141_91 (by decide) h31 h32
theorem b_141_94 {d : Nat} {Q : (Option Value ⊕ Nat) → mi_H → Prop} (n sl : Nat) (f : Nat → mi_C) {l1 : Nat} {l2 : Int32} {l3 : Int32} {fs4 : List Value} {x7 : Nat} (m9 i9 : Nat) (g9 : Nat → Int32) (h5 : f l1 = .inr (12, fs4)) (h6 : l1 < n) (h8 : fs4[6]? = some (.ref x7)) (h10 : f x7 = .inl (0, m9, .inl g9)) (h11 : x7 < n ∨ x7 = mi_SC) (h12 : mi_ix l3 m9 i9) (h13 : mi_W d 142 0 (mi_en 6 [.long (((g9 i9) : Int32).toInt64), .long 32, .long 126]) [] (n, sl, f) (mi_Kc d 141 107 [some (.ref l1), some (.int l2), some (.int l3)] [] Q)) : mi_W (d + 1) 141 94 [some (.ref l1), some (.int l2), some (.int l3)] [] (n, sl, f) Q := by
  refine w_aload_n cd_141_94 rfl ?_
  refine w_getfield cd_141_95 (show mt_f 12 20 = some (12, 6) by decide +kernel) h5 h6 h8 ?_
  refine w_iload_n cd_141_98 rfl ?_
  refine w_iaload cd_141_99 h10 h11 h12 ?_
  refine w_i2l cd_141_100 ?_
  refine w_ldc2_w (lv := 32) cd_141_101 (by decide +kernel) ?_
  refine w_ldc2_w (lv := 126) cd_141_104 (by decide +kernel) ?_
  exact w_invokestatic cd_141_107 (show mt_m 12 268 = some (142, 4) by decide +kernel) (by decide) (rest := []) rfl (as := [.long (((g9 i9) : Int32).toInt64), .long 32, .long 126]) rfl ⟨Nat.le_of_ble_eq_true rfl, Nat.le_of_ble_eq_true rfl, Nat.le_of_ble_eq_true rfl⟩ h13
theorem b_141_110 {d : Nat} {Q : (Option Value ⊕ Nat) → mi_H → Prop} (n sl : Nat) (f : Nat → mi_C) {l1 : Nat} {l2 : Int32} {l3 : Int32} {s4 : Int32} (h5 : ¬ s4 = (0 : Int32) → mi_W d 141 119 [some (.ref l1), some (.int l2), some (.int l3)] [] (n, sl, f) Q) (h6 : ¬ (¬ s4 = (0 : Int32)) → mi_W d 141 113 [some (.ref l1), some (.int l2), some (.int l3)] [] (n, sl, f) Q) : mi_W d 141 110 [some (.ref l1), some (.int l2), some (.int l3)] [.int s4] (n, sl, f) Q := by
  exact w_ifne cd_141_110 (by decide) h5 h6
theorem b_141_113 {d : Nat} {Q : (Option Value ⊕ Nat) → mi_H → Prop} (n sl : Nat) (f : Nat → mi_C) {l1 : Nat} {l2 : Int32} {l3 : Int32} {fs4 : List Value} (h5 : f l1 = .inr (12, fs4)) (h6 : l1 < n) (h7 : mi_W d 143 0 (mi_en 2 [.ref l1, .int l3]) [] (n, sl, f) (mi_Kc d 141 115 [some (.ref l1), some (.int l2), some (.int l3)] [] Q)) : mi_W (d + 1) 141 113 [some (.ref l1), some (.int l2), some (.int l3)] [] (n, sl, f) Q := by
  refine w_aload_n cd_141_113 rfl ?_
  refine w_iload_n cd_141_114 rfl ?_
  exact w_invokevirtual cd_141_115 (show mt_m 12 272 = some (143, 0) by decide +kernel) (rest := []) rfl (as := [.ref l1, .int l3]) rfl h5 (Or.inl h6) ⟨Nat.le_of_ble_eq_true rfl, Nat.le_of_ble_eq_true rfl, Nat.le_of_ble_eq_true rfl⟩ h7
theorem b_141_118 {d : Nat} {Q : (Option Value ⊕ Nat) → mi_H → Prop} (n sl : Nat) (f : Nat → mi_C) {l1 : Nat} {l2 : Int32} {l3 : Int32} {s4 : Int32} (h5 : mi_W d 141 119 [some (.ref l1), some (.int l2), some (.int l3)] [] (n, sl, f) Q) : mi_W d 141 118 [some (.ref l1), some (.int l2), some (.int l3)] [.int s4] (n, sl, f) Q := by
  refine w_pop_i cd_141_118 ?_
  exact h5
theorem b_141_119 {d : Nat} {Q : (Option Value ⊕ Nat) → mi_H → Prop} (n sl : Nat) (f : Nat → mi_C) {l1 : Nat} {l2 : Int32} {l3 : Int32} (h4 : mi_W d 141 66 [some (.ref l1), some (.int l2), some (.int (l3 + 1))] [] (n, sl, f) Q) : mi_W d 141 119 [some (.ref l1), some (.int l2), some (.int l3)] [] (n, sl, f) Q := by
  refine w_iinc (v := 1) (ls' := [some (.ref l1), some (.int l2), some (.int (l3 + 1))]) cd_141_119 rfl (by decide) rfl ?_
  exact w_goto cd_141_122 (by decide) h4
theorem b_141_125 {d : Nat} {Q : (Option Value ⊕ Nat) → mi_H → Prop} (n sl : Nat) (f : Nat → mi_C) {l1 : Nat} {l2 : Int32} {l3 : Int32} {fs4 : List Value} {x7 : Int32} (h5 : f l1 = .inr (12, fs4)) (h6 : l1 < n) (h8 : fs4[3]? = some (.int x7)) (h9 : (0 : Int32) ≤ x7 → mi_W d 141 136 [some (.ref l1), some (.int l2), some (.int l3)] [] (n, sl, f) Q) (h10 : ¬ ((0 : Int32) ≤ x7) → mi_W d 141 132 [some (.ref l1), some (.int l2), some (.int l3)] [] (n, sl, f) Q) : mi_W d 141 125 [some (.ref l1), some (.int l2), some (.int l3)] [] (n, sl, f) Q := by
  refine w_aload_n cd_141_125 rfl ?_
  refine w_getfield cd_141_126 (show mt_f 12 7 = some (12, 3) by decide +kernel) h5 h6 h8 ?_
  exact w_ifge cd_141_129 (by decide) h9 h10
theorem b_141_132 {d : Nat} {Q : (Option Value ⊕ Nat) → mi_H → Prop} (n sl : Nat) (f : Nat → mi_C) {l1 : Nat} {l2 : Int32} {l3 : Int32} {fs4 : List Value} (h5 : f l1 = .inr (12, fs4)) (h6 : l1 < n) (h7 : mi_W d 144 0 (mi_en 1 [.ref l1]) [] (n, sl, f) (mi_Kc d 141 133 [some (.ref l1), some (.int l2), some (.int l3)] [] Q)) : mi_W (d + 1) 141 132 [some (.ref l1), some (.int l2), some (.int l3)] [] (n, sl, f) Q := by
  refine w_aload_n cd_141_132 rfl ?_
  exact w_invokevirtual cd_141_133 (show mt_m 12 276 = some (144, 0) by decide +kernel) (rest := []) rfl (as := [.ref l1]) rfl h5 (Or.inl h6) ⟨Nat.le_of_ble_eq_true rfl, Nat.le_of_ble_eq_true rfl, Nat.le_of_ble_eq_true rfl⟩ h7
theorem b_141_136 {d : Nat} {Q : (Option Value ⊕ Nat) → mi_H → Prop} (n sl : Nat) (f : Nat → mi_C) {l1 : Nat} {l2 : Int32} {l3 : Int32} {fs4 : List Value} {x7 : Int32} (h5 : f l1 = .inr (12, fs4)) (h6 : l1 < n) (h8 : fs4[3]? = some (.int x7)) (h9 : x7 < (0 : Int32) → mi_W d 141 148 [some (.ref l1), some (.int l2), some (.int l3)] [.ref l1] (n, sl, f) Q) (h10 : ¬ (x7 < (0 : Int32)) → mi_W d 141 144 [some (.ref l1), some (.int l2), some (.int l3)] [.ref l1] (n, sl, f) Q) : mi_W d 141 136 [some (.ref l1), some (.int l2), some (.int l3)] [] (n, sl, f) Q := by
  refine w_aload_n cd_141_136 rfl ?_
  refine w_aload_n cd_141_137 rfl ?_
  refine w_getfield cd_141_138 (show mt_f 12 7 = some (12, 3) by decide +kernel) h5 h6 h8 ?_
  exact w_iflt cd_141_141 (by decide) h9 h10
theorem b_141_144 {d : Nat} {Q : (Option Value ⊕ Nat) → mi_H → Prop} (n sl : Nat) (f : Nat → mi_C) {l1 : Nat} {l2 : Int32} {l3 : Int32} {s4 : Nat} (h5 : mi_W d 141 149 [some (.ref l1), some (.int l2), some (.int l3)] [.int 1, .ref s4] (n, sl, f) Q) : mi_W d 141 144 [some (.ref l1), some (.int l2), some (.int l3)] [.ref s4] (n, sl, f) Q := by
  refine w_iconst (v := 1) cd_141_144 (by decide) ?_
  exact w_goto cd_141_145 (by decide) h5
theorem b_141_148 {d : Nat} {Q : (Option Value ⊕ Nat) → mi_H → Prop} (n sl : Nat) (f : Nat → mi_C) {l1 : Nat} {l2 : Int32} {l3 : Int32} {s4 : Nat} (h5 : mi_W d 141 149 [some (.ref l1), some (.int l2), some (.int l3)] [.int 0, .ref s4] (n, sl, f) Q) : mi_W d 141 148 [some (.ref l1), some (.int l2), some (.int l3)] [.ref s4] (n, sl, f) Q := by
  refine w_iconst (v := 0) cd_141_148 (by decide) ?_
  exact h5
theorem b_141_149 {d : Nat} {Q : (Option Value ⊕ Nat) → mi_H → Prop} (n sl : Nat) (f : Nat → mi_C) {l1 : Nat} {l2 : Int32} {l3 : Int32} {s4 : Int32} {s5 : Nat} {fs6 : List Value} (h7 : f s5 = .inr (12, fs6)) (h8 : s5 < n) (h9 : mi_W d 140 0 (mi_en 3 [.ref s5, .int s4, .int 2]) [] (n, sl, f) (mi_Kc d 141 150 [some (.ref l1), some (.int l2), some (.int l3)] [] Q)) : mi_W (d + 1) 141 149 [some (.ref l1), some (.int l2), some (.int l3)] [.int s4, .ref s5] (n, sl, f) Q := by
  refine w_iconst (v := 2) cd_141_149 (by decide) ?_
  exact w_invokevirtual cd_141_150 (show mt_m 12 254 = some (140, 0) by decide +kernel) (rest := []) rfl (as := [.ref s5, .int s4, .int 2]) rfl h7 (Or.inl h8) ⟨Nat.le_of_ble_eq_true rfl, Nat.le_of_ble_eq_true rfl, Nat.le_of_ble_eq_true rfl⟩ h9
theorem b_141_153 {d : Nat} {Q : (Option Value ⊕ Nat) → mi_H → Prop} (n sl : Nat) (f : Nat → mi_C) {l1 : Nat} {l2 : Int32} {l3 : Int32} {s4 : Int32} (h5 : s4 = (0 : Int32) → mi_W d 141 158 [some (.ref l1), some (.int l2), some (.int l3)] [] (n, sl, f) Q) (h6 : ¬ (s4 = (0 : Int32)) → mi_W d 141 156 [some (.ref l1), some (.int l2), some (.int l3)] [] (n, sl, f) Q) : mi_W d 141 153 [some (.ref l1), some (.int l2), some (.int l3)] [.int s4] (n, sl, f) Q := by
  exact w_ifeq cd_141_153 (by decide) h5 h6
theorem b_141_156 {d : Nat} {Q : (Option Value ⊕ Nat) → mi_H → Prop} (n sl : Nat) (f : Nat → mi_C) {l1 : Nat} {l2 : Int32} {l3 : Int32} (h4 : Q (.inl (some (.int 0))) (n, sl, f)) : mi_W d 141 156 [some (.ref l1), some (.int l2), some (.int l3)] [] (n, sl, f) Q := by
  refine w_iconst (v := 0) cd_141_156 (by decide) ?_
  exact w_ireturn_i cd_141_157 (by decide +kernel) h4
theorem b_141_158 {d : Nat} {Q : (Option Value ⊕ Nat) → mi_H → Prop} (n sl : Nat) (f : Nat → mi_C) {l1 : Nat} {l2 : Int32} {l3 : Int32} {fs4 : List Value} {fs8 : List Value} {x11 : Nat} {fs13 : List Value} (h5 : f l1 = .inr (12, fs4)) (h6 : l1 < n) (h7 : 4 < fs4.length) (h9 : (va_up f l1 (.inr (12, fs4.set 4 (.int 0)))) l1 = .inr (12, fs8)) (h10 : l1 < n) (h12 : fs8[41]? = some (.ref x11)) (h14 : (va_up f l1 (.inr (12, fs4.set 4 (.int 0)))) x11 = .inr (13, fs13)) (h15 : x11 < n) (h16 : mi_W d 170 0 (mi_en 2 [.ref x11]) [] (n, sl, (va_up f l1 (.inr (12, fs4.set 4 (.int 0))))) (mi_Kc d 141 167 [some (.ref l1), some (.int l2), some (.int l3)] [] Q)) : mi_W (d + 1) 141 158 [some (.ref l1), some (.int l2), some (.int l3)] [] (n, sl, f) Q := by
  refine w_aload_n cd_141_158 rfl ?_
  refine w_iconst (v := 0) cd_141_159 (by decide) ?_
  refine w_putfield (w := .int 0) cd_141_160 (show mt_f 12 13 = some (12, 4) by decide +kernel) h5 h6 ⟨h7, rfl, Or.inl (by decide)⟩ ?_
  refine w_aload_n cd_141_163 rfl ?_
  refine w_getfield cd_141_164 (show mt_f 12 147 = some (12, 41) by decide +kernel) h9 h10 h12 ?_
  exact w_invokevirtual cd_141_167 (show mt_m 12 279 = some (170, 0) by decide +kernel) (rest := []) rfl (as := [.ref x11]) rfl h14 (Or.inl h15) ⟨Nat.le_of_ble_eq_true rfl, Nat.le_of_ble_eq_true rfl, Nat.le_of_ble_eq_true rfl⟩ h16
theorem b_141_170 {d : Nat} {Q : (Option Value ⊕ Nat) → mi_H → Prop} (n sl : Nat) (f : Nat → mi_C) {l1 : Nat} {l2 : Int32} {l3 : Int32} {fs4 : List Value} {x7 : Int32} (h5 : f l1 = .inr (12, fs4)) (h6 : l1 < n) (h8 : fs4[21]? = some (.int x7)) (h9 : Q (.inl (some (.int x7))) (n, sl, f)) : mi_W d 141 170 [some (.ref l1), some (.int l2), some (.int l3)] [] (n, sl, f) Q := by
  refine w_aload_n cd_141_170 rfl ?_
  refine w_getfield cd_141_171 (show mt_f 12 282 = some (12, 21) by decide +kernel) h5 h6 h8 ?_
  exact w_ireturn_i cd_141_174 (by decide +kernel) h9
/-! MarloweHostModel.in(JJJ)Z -/
set_option maxRecDepth 100000 in
theorem mq_142 : mt_q 142 = my_142 := rfl
set_option maxRecDepth 100000 in
theorem ci_142 : mt_inc 0 my_142.cd = true := by decide +kernel
theorem cd_142_0 : mt_cd 142 0 = some (.lload_n 0) := mt_cd_of (q := (0, .lload_n 0, 1)) mq_142 ci_142 (List.mem_of_getElem? (i := 0) rfl)
theorem cd_142_1 : mt_cd 142 1 = some (.lload_n 2) := mt_cd_of (q := (1, .lload_n 2, 1)) mq_142 ci_142 (List.mem_of_getElem? (i := 1) rfl)
theorem cd_142_2 : mt_cd 142 2 = some (.lcmp) := mt_cd_of (q := (2, .lcmp, 1)) mq_142 ci_142 (List.mem_of_getElem? (i := 2) rfl)
theorem cd_142_3 : mt_cd 142 3 = some (.ifCond .lt 14) := mt_cd_of (q := (3, .ifCond .lt 14, 3)) mq_142 ci_142 (List.mem_of_getElem? (i := 3) rfl)
theorem cd_142_6 : mt_cd 142 6 = some (.lload_n 0) := mt_cd_of (q := (6, .lload_n 0, 1)) mq_142 ci_142 (List.mem_of_getElem? (i := 4) rfl)
theorem cd_142_7 : mt_cd 142 7 = some (.lload 4) := mt_cd_of (q := (7, .lload 4, 2)) mq_142 ci_142 (List.mem_of_getElem? (i := 5) rfl)
theorem cd_142_9 : mt_cd 142 9 = some (.lcmp) := mt_cd_of (q := (9, .lcmp, 1)) mq_142 ci_142 (List.mem_of_getElem? (i := 6) rfl)
theorem cd_142_10 : mt_cd 142 10 = some (.ifCond .gt 7) := mt_cd_of (q := (10, .ifCond .gt 7, 3)) mq_142 ci_142 (List.mem_of_getElem? (i := 7) rfl)
theorem cd_142_13 : mt_cd 142 13 = some (.iconst 1) := mt_cd_of (q := (13, .iconst 1, 1)) mq_142 ci_142 (List.mem_of_getElem? (i := 8) rfl)
theorem cd_142_14 : mt_cd 142 14 = some (.goto 4) := mt_cd_of (q := (14, .goto 4, 3)) mq_142 ci_142 (List.mem_of_getElem? (i := 9) rfl)
theorem cd_142_17 : mt_cd 142 17 = some (.iconst 0) := mt_cd_of (q := (17, .iconst 0, 1)) mq_142 ci_142 (List.mem_of_getElem? (i := 10) rfl)
theorem cd_142_18 : mt_cd 142 18 = some (.ireturn) := mt_cd_of (q := (18, .ireturn, 1)) mq_142 ci_142 (List.mem_of_getElem? (i := 11) rfl)
theorem b_142_0 {d : Nat} {Q : (Option Value ⊕ Nat) → mi_H → Prop} (n sl : Nat) (f : Nat → mi_C) {l1 : Int64} {l2 : Int64} {l3 : Int64} (h4 : (lg_cmp l1 l2) < (0 : Int32) → mi_W d 142 17 [some (.long l1), none, some (.long l2), none, some (.long l3), none] [] (n, sl, f) Q) (h5 : ¬ ((lg_cmp l1 l2) < (0 : Int32)) → mi_W d 142 6 [some (.long l1), none, some (.long l2), none, some (.long l3), none] [] (n, sl, f) Q) : mi_W d 142 0 [some (.long l1), none, some (.long l2), none, some (.long l3), none] [] (n, sl, f) Q := by
  refine w_lload_n cd_142_0 rfl ?_
  refine w_lload_n cd_142_1 rfl ?_
  refine w_lcmp cd_142_2 ?_
  exact w_iflt cd_142_3 (by decide) h4 h5
theorem b_142_6 {d : Nat} {Q : (Option Value ⊕ Nat) → mi_H → Prop} (n sl : Nat) (f : Nat → mi_C) {l1 : Int64} {l2 : Int64} {l3 : Int64} (h4 : (0 : Int32) < (lg_cmp l1 l3) → mi_W d 142 17 [some (.long l1), none, some (.long l2), none, some (.long l3), none] [] (n, sl, f) Q) (h5 : ¬ ((0 : Int32) < (lg_cmp l1 l3)) → mi_W d 142 13 [some (.long l1), none, some (.long l2), none, some (.long l3), none] [] (n, sl, f) Q) : mi_W d 142 6 [some (.long l1), none, some (.long l2), none, some (.long l3), none] [] (n, sl, f) Q := by
  refine w_lload_n cd_142_6 rfl ?_
  refine w_lload cd_142_7 rfl ?_
  refine w_lcmp cd_142_9 ?_
  exact w_ifgt cd_142_10 (by decide) h4 h5
theorem b_142_13 {d : Nat} {Q : (Option Value ⊕ Nat) → mi_H → Prop} (n sl : Nat) (f : Nat → mi_C) {l1 : Int64} {l2 : Int64} {l3 : Int64} (h4 : mi_W d 142 18 [some (.long l1), none, some (.long l2), none, some (.long l3), none] [.int 1] (n, sl, f) Q) : mi_W d 142 13 [some (.long l1), none, some (.long l2), none, some (.long l3), none] [] (n, sl, f) Q := by
  refine w_iconst (v := 1) cd_142_13 (by decide) ?_
  exact w_goto cd_142_14 (by decide) h4
theorem b_142_17 {d : Nat} {Q : (Option Value ⊕ Nat) → mi_H → Prop} (n sl : Nat) (f : Nat → mi_C) {l1 : Int64} {l2 : Int64} {l3 : Int64} (h4 : mi_W d 142 18 [some (.long l1), none, some (.long l2), none, some (.long l3), none] [.int 0] (n, sl, f) Q) : mi_W d 142 17 [some (.long l1), none, some (.long l2), none, some (.long l3), none] [] (n, sl, f) Q := by
  refine w_iconst (v := 0) cd_142_17 (by decide) ?_
  exact h4
theorem b_142_18 {d : Nat} {Q : (Option Value ⊕ Nat) → mi_H → Prop} (n sl : Nat) (f : Nat → mi_C) {l1 : Int64} {l2 : Int64} {l3 : Int64} {s4 : Int32} (h5 : s4 = 0 ∨ s4 = 1) (h6 : Q (.inl (some (.int s4))) (n, sl, f)) : mi_W d 142 18 [some (.long l1), none, some (.long l2), none, some (.long l3), none] [.int s4] (n, sl, f) Q := by
  exact w_ireturn_z cd_142_18 (by decide +kernel) h5 h6
/-! MarloweHostModel.bad(I)Z -/
set_option maxRecDepth 100000 in
theorem mq_143 : mt_q 143 = my_143 := rfl
set_option maxRecDepth 100000 in
theorem ci_143 : mt_inc 0 my_143.cd = true := by decide +kernel
theorem cd_143_0 : mt_cd 143 0 = some (.aload_n 0) := mt_cd_of (q := (0, .aload_n 0, 1)) mq_143 ci_143 (List.mem_of_getElem? (i := 0) rfl)
theorem cd_143_1 : mt_cd 143 1 = some (.getfield 7) := mt_cd_of (q := (1, .getfield 7, 3)) mq_143 ci_143 (List.mem_of_getElem? (i := 1) rfl)
theorem cd_143_4 : mt_cd 143 4 = some (.ifCond .ge 8) := mt_cd_of (q := (4, .ifCond .ge 8, 3)) mq_143 ci_143 (List.mem_of_getElem? (i := 2) rfl)
theorem cd_143_7 : mt_cd 143 7 = some (.aload_n 0) := mt_cd_of (q := (7, .aload_n 0, 1)) mq_143 ci_143 (List.mem_of_getElem? (i := 3) rfl)
theorem cd_143_8 : mt_cd 143 8 = some (.iload_n 1) := mt_cd_of (q := (8, .iload_n 1, 1)) mq_143 ci_143 (List.mem_of_getElem? (i := 4) rfl)
theorem cd_143_9 : mt_cd 143 9 = some (.putfield 7) := mt_cd_of (q := (9, .putfield 7, 3)) mq_143 ci_143 (List.mem_of_getElem? (i := 5) rfl)
theorem cd_143_12 : mt_cd 143 12 = some (.iconst 0) := mt_cd_of (q := (12, .iconst 0, 1)) mq_143 ci_143 (List.mem_of_getElem? (i := 6) rfl)
theorem cd_143_13 : mt_cd 143 13 = some (.ireturn) := mt_cd_of (q := (13, .ireturn, 1)) mq_143 ci_143 (List.mem_of_getElem? (i := 7) rfl)
theorem b_143_0 {d : Nat} {Q : (Option Value ⊕ Nat) → mi_H → Prop} (n sl : Nat) (f : Nat → mi_C) {l1 : Nat} {l2 : Int32} {fs3 : List Value} {x6 : Int32} (h4 : f l1 = .inr (12, fs3)) (h5 : l1 < n) (h7 : fs3[3]? = some (.int x6)) (h8 : (0 : Int32) ≤ x6 → mi_W d 143 12 [some (.ref l1), some (.int l2)] [] (n, sl, f) Q) (h9 : ¬ ((0 : Int32) ≤ x6) → mi_W d 143 7 [some (.ref l1), some (.int l2)] [] (n, sl, f) Q) : mi_W d 143 0 [some (.ref l1), some (.int l2)] [] (n, sl, f) Q := by
  refine w_aload_n cd_143_0 rfl ?_
  refine w_getfield cd_143_1 (show mt_f 12 7 = some (12, 3) by decide +kernel) h4 h5 h7 ?_
  exact w_ifge cd_143_4 (by decide) h8 h9
theorem b_143_7 {d : Nat} {Q : (Option Value ⊕ Nat) → mi_H → Prop} (n sl : Nat) (f : Nat → mi_C) {l1 : Nat} {l2 : Int32} {fs3 : List Value} (h4 : f l1 = .inr (12, fs3)) (h5 : l1 < n) (h6 : 3 < fs3.length) (h7 : mi_W d 143 12 [some (.ref l1), some (.int l2)] [] (n, sl, (va_up f l1 (.inr (12, fs3.set 3 (.int l2))))) Q) : mi_W d 143 7 [some (.ref l1), some (.int l2)] [] (n, sl, f) Q := by
  refine w_aload_n cd_143_7 rfl ?_
  refine w_iload_n cd_143_8 rfl ?_
  refine w_putfield (w := .int l2) cd_143_9 (show mt_f 12 7 = some (12, 3) by decide +kernel) h4 h5 ⟨h6, rfl, Or.inl (by decide)⟩ ?_
  exact h7
theorem b_143_12 {d : Nat} {Q : (Option Value ⊕ Nat) → mi_H → Prop} (n sl : Nat) (f : Nat → mi_C) {l1 : Nat} {l2 : Int32} (h3 : Q (.inl (some (.int 0))) (n, sl, f)) : mi_W d 143 12 [some (.ref l1), some (.int l2)] [] (n, sl, f) Q := by
  refine w_iconst (v := 0) cd_143_12 (by decide) ?_
  exact w_ireturn_z cd_143_13 (by decide +kernel) (by decide) h3
/-! MarloweHostModel.read()V -/
set_option maxRecDepth 100000 in
theorem mq_144 : mt_q 144 = my_144 := rfl
set_option maxRecDepth 100000 in
theorem ci_144 : mt_inc 0 my_144.cd = true := by decide +kernel
theorem cd_144_0 : mt_cd 144 0 = some (.aload_n 0) := mt_cd_of (q := (0, .aload_n 0, 1)) mq_144 ci_144 (List.mem_of_getElem? (i := 0) rfl)
theorem cd_144_1 : mt_cd 144 1 = some (.iconst 0) := mt_cd_of (q := (1, .iconst 0, 1)) mq_144 ci_144 (List.mem_of_getElem? (i := 1) rfl)
theorem cd_144_2 : mt_cd 144 2 = some (.putfield 282) := mt_cd_of (q := (2, .putfield 282, 3)) mq_144 ci_144 (List.mem_of_getElem? (i := 2) rfl)
theorem cd_144_5 : mt_cd 144 5 = some (.aload_n 0) := mt_cd_of (q := (5, .aload_n 0, 1)) mq_144 ci_144 (List.mem_of_getElem? (i := 3) rfl)
theorem cd_144_6 : mt_cd 144 6 = some (.iconst 0) := mt_cd_of (q := (6, .iconst 0, 1)) mq_144 ci_144 (List.mem_of_getElem? (i := 4) rfl)
theorem cd_144_7 : mt_cd 144 7 = some (.putfield 337) := mt_cd_of (q := (7, .putfield 337, 3)) mq_144 ci_144 (List.mem_of_getElem? (i := 5) rfl)
theorem cd_144_10 : mt_cd 144 10 = some (.aload_n 0) := mt_cd_of (q := (10, .aload_n 0, 1)) mq_144 ci_144 (List.mem_of_getElem? (i := 6) rfl)
theorem cd_144_11 : mt_cd 144 11 = some (.iconst 0) := mt_cd_of (q := (11, .iconst 0, 1)) mq_144 ci_144 (List.mem_of_getElem? (i := 7) rfl)
theorem cd_144_12 : mt_cd 144 12 = some (.putfield 340) := mt_cd_of (q := (12, .putfield 340, 3)) mq_144 ci_144 (List.mem_of_getElem? (i := 8) rfl)
theorem cd_144_15 : mt_cd 144 15 = some (.aload_n 0) := mt_cd_of (q := (15, .aload_n 0, 1)) mq_144 ci_144 (List.mem_of_getElem? (i := 9) rfl)
theorem cd_144_16 : mt_cd 144 16 = some (.iconst 0) := mt_cd_of (q := (16, .iconst 0, 1)) mq_144 ci_144 (List.mem_of_getElem? (i := 10) rfl)
theorem cd_144_17 : mt_cd 144 17 = some (.putfield 343) := mt_cd_of (q := (17, .putfield 343, 3)) mq_144 ci_144 (List.mem_of_getElem? (i := 11) rfl)
theorem cd_144_20 : mt_cd 144 20 = some (.aload_n 0) := mt_cd_of (q := (20, .aload_n 0, 1)) mq_144 ci_144 (List.mem_of_getElem? (i := 12) rfl)
theorem cd_144_21 : mt_cd 144 21 = some (.iconst 0) := mt_cd_of (q := (21, .iconst 0, 1)) mq_144 ci_144 (List.mem_of_getElem? (i := 13) rfl)
theorem cd_144_22 : mt_cd 144 22 = some (.putfield 346) := mt_cd_of (q := (22, .putfield 346, 3)) mq_144 ci_144 (List.mem_of_getElem? (i := 14) rfl)
theorem cd_144_25 : mt_cd 144 25 = some (.aload_n 0) := mt_cd_of (q := (25, .aload_n 0, 1)) mq_144 ci_144 (List.mem_of_getElem? (i := 15) rfl)
theorem cd_144_26 : mt_cd 144 26 = some (.iconst 0) := mt_cd_of (q := (26, .iconst 0, 1)) mq_144 ci_144 (List.mem_of_getElem? (i := 16) rfl)
theorem cd_144_27 : mt_cd 144 27 = some (.putfield 349) := mt_cd_of (q := (27, .putfield 349, 3)) mq_144 ci_144 (List.mem_of_getElem? (i := 17) rfl)
theorem cd_144_30 : mt_cd 144 30 = some (.aload_n 0) := mt_cd_of (q := (30, .aload_n 0, 1)) mq_144 ci_144 (List.mem_of_getElem? (i := 18) rfl)
theorem cd_144_31 : mt_cd 144 31 = some (.iconst 0) := mt_cd_of (q := (31, .iconst 0, 1)) mq_144 ci_144 (List.mem_of_getElem? (i := 19) rfl)
theorem cd_144_32 : mt_cd 144 32 = some (.putfield 352) := mt_cd_of (q := (32, .putfield 352, 3)) mq_144 ci_144 (List.mem_of_getElem? (i := 20) rfl)
theorem cd_144_35 : mt_cd 144 35 = some (.aload_n 0) := mt_cd_of (q := (35, .aload_n 0, 1)) mq_144 ci_144 (List.mem_of_getElem? (i := 21) rfl)
theorem cd_144_36 : mt_cd 144 36 = some (.iconst 0) := mt_cd_of (q := (36, .iconst 0, 1)) mq_144 ci_144 (List.mem_of_getElem? (i := 22) rfl)
theorem cd_144_37 : mt_cd 144 37 = some (.putfield 297) := mt_cd_of (q := (37, .putfield 297, 3)) mq_144 ci_144 (List.mem_of_getElem? (i := 23) rfl)
theorem cd_144_40 : mt_cd 144 40 = some (.aload_n 0) := mt_cd_of (q := (40, .aload_n 0, 1)) mq_144 ci_144 (List.mem_of_getElem? (i := 24) rfl)
theorem cd_144_41 : mt_cd 144 41 = some (.invokevirtual 333) := mt_cd_of (q := (41, .invokevirtual 333, 3)) mq_144 ci_144 (List.mem_of_getElem? (i := 25) rfl)
theorem cd_144_44 : mt_cd 144 44 = some (.ifCond .eq 26) := mt_cd_of (q := (44, .ifCond .eq 26, 3)) mq_144 ci_144 (List.mem_of_getElem? (i := 26) rfl)
theorem cd_144_47 : mt_cd 144 47 = some (.aload_n 0) := mt_cd_of (q := (47, .aload_n 0, 1)) mq_144 ci_144 (List.mem_of_getElem? (i := 27) rfl)
theorem cd_144_48 : mt_cd 144 48 = some (.invokevirtual 355) := mt_cd_of (q := (48, .invokevirtual 355, 3)) mq_144 ci_144 (List.mem_of_getElem? (i := 28) rfl)
theorem cd_144_51 : mt_cd 144 51 = some (.ifCond .lt 19) := mt_cd_of (q := (51, .ifCond .lt 19, 3)) mq_144 ci_144 (List.mem_of_getElem? (i := 29) rfl)
theorem cd_144_54 : mt_cd 144 54 = some (.aload_n 0) := mt_cd_of (q := (54, .aload_n 0, 1)) mq_144 ci_144 (List.mem_of_getElem? (i := 30) rfl)
theorem cd_144_55 : mt_cd 144 55 = some (.getfield 310) := mt_cd_of (q := (55, .getfield 310, 3)) mq_144 ci_144 (List.mem_of_getElem? (i := 31) rfl)
theorem cd_144_58 : mt_cd 144 58 = some (.ifCond .eq 12) := mt_cd_of (q := (58, .ifCond .eq 12, 3)) mq_144 ci_144 (List.mem_of_getElem? (i := 32) rfl)
theorem cd_144_61 : mt_cd 144 61 = some (.aload_n 0) := mt_cd_of (q := (61, .aload_n 0, 1)) mq_144 ci_144 (List.mem_of_getElem? (i := 33) rfl)
theorem cd_144_62 : mt_cd 144 62 = some (.aload_n 0) := mt_cd_of (q := (62, .aload_n 0, 1)) mq_144 ci_144 (List.mem_of_getElem? (i := 34) rfl)
theorem cd_144_63 : mt_cd 144 63 = some (.getfield 299) := mt_cd_of (q := (63, .getfield 299, 3)) mq_144 ci_144 (List.mem_of_getElem? (i := 35) rfl)
theorem cd_144_66 : mt_cd 144 66 = some (.invokevirtual 272) := mt_cd_of (q := (66, .invokevirtual 272, 3)) mq_144 ci_144 (List.mem_of_getElem? (i := 36) rfl)
theorem cd_144_69 : mt_cd 144 69 = some (.pop) := mt_cd_of (q := (69, .pop, 1)) mq_144 ci_144 (List.mem_of_getElem? (i := 37) rfl)
theorem cd_144_70 : mt_cd 144 70 = some (.return_) := mt_cd_of (q := (70, .return_, 1)) mq_144 ci_144 (List.mem_of_getElem? (i := 38) rfl)
theorem b_144_0 {d : Nat} {Q : (Option Value ⊕ Nat) → mi_H → Prop} (n sl : Nat) (f : Nat → mi_C) {l1 : Nat} {fs2 : List Value} {fs6 : List Value} {fs10 : List Value} {fs14 : List Value} {fs18 : List Value} {fs22 : List Value} (h3 : f l1 = .inr (12, fs2)) (h4 : l1 < n) (h5 : 21 < fs2.length) (h7 : (va_up f l1 (.inr (12, fs2.set 21 (.int 0)))) l1 = .inr (12, fs6)) (h8 : l1 < n) (h9 : 22 < fs6.length) (h11 : (va_up (va_up f l1 (.inr (12, fs2.set 21 (.int 0)))) l1 (.inr (12, fs6.set 22 (.int 0)))) l1 = .inr (12, fs10)) (h12 : l1 < n) (h13 : 23 < fs10.length) (h15 : (va_up (va_up (va_up f l1 (.inr (12, fs2.set 21 (.int 0)))) l1 (.inr (12, fs6.set 22 (.int 0)))) l1 (.inr (12, fs10.set 23 (.int 0)))) l1 = .inr (12, fs14)) (h16 : l1 < n) (h17 : 24 < fs14.length) (h19 : (va_up (va_up (va_up (va_up f l1 (.inr (12, fs2.set 21 (.int 0)))) l1 (.inr (12, fs6.set 22 (.int 0)))) l1 (.inr (12, fs10.set 23 (.int 0)))) l1 (.inr (12, fs14.set 24 (.int 0)))) l1 = .inr (12, fs18)) (h20 : l1 < n) (h21 : 25 < fs18.length) (h23 : (va_up (va_up (va_up (va_up (va_up f l1 (.inr (12, fs2.set 21 (.int 0)))) l1 (.inr (12, fs6.set 22 (.int 0)))) l1 (.inr (12, fs10.set 23 (.int 0)))) l1 (.inr (12, fs14.set 24 (.int 0)))) l1 (.inr (12, fs18.set 25 (.int 0)))) l1 = .inr (12, fs22)) (h24 : l1 < n) (h25 : 26 < fs22.length) (h26 : mi_W d 144 30 [some (.ref l1)] [] (n, sl, (va_up (va_up (va_up (va_up (va_up (va_up f l1 (.inr (12, fs2.set 21 (.int 0)))) l1 (.inr (12, fs6.set 22 (.int 0)))) l1 (.inr (12, fs10.set 23 (.int 0)))) l1 (.inr (12, fs14.set 24 (.int 0)))) l1 (.inr (12, fs18.set 25 (.int 0)))) l1 (.inr (12, fs22.set 26 (.int 0))))) Q) : mi_W d 144 0 [some (.ref l1)] [] (n, sl, f) Q := by
  refine w_aload_n cd_144_0 rfl ?_
  refine w_iconst (v := 0) cd_144_1 (by decide) ?_
  refine w_putfield (w := .int 0) cd_144_2 (show mt_f 12 282 = some (12, 21) by decide +kernel) h3 h4 ⟨h5, rfl, Or.inl (by decide)⟩ ?_
  refine w_aload_n cd_144_5 rfl ?_
  refine w_iconst (v := 0) cd_144_6 (by decide) ?_
  refine w_putfield (w := .int 0) cd_144_7 (show mt_f 12 337 = some (12, 22) by decide +kernel) h7 h8 ⟨h9, rfl, Or.inl (by decide)⟩ ?_
  refine w_aload_n cd_144_10 rfl ?_
  refine w_iconst (v := 0) cd_144_11 (by decide) ?_
  refine w_putfield (w := .int 0) cd_144_12 (show mt_f 12 340 = some (12, 23) by decide +kernel) h11 h12 ⟨h13, rfl, Or.inl (by decide)⟩ ?_
  refine w_aload_n cd_144_15 rfl ?_
  refine w_iconst (v := 0) cd_144_16 (by decide) ?_
  refine w_putfield (w := .int 0) cd_144_17 (show mt_f 12 343 = some (12, 24) by decide +kernel) h15 h16 ⟨h17, rfl, Or.inl (by decide)⟩ ?_
  refine w_aload_n cd_144_20 rfl ?_
  refine w_iconst (v := 0) cd_144_21 (by decide) ?_
  refine w_putfield (w := .int 0) cd_144_22 (show mt_f 12 346 = some (12, 25) by decide +kernel) h19 h20 ⟨h21, rfl, Or.inl (by decide)⟩ ?_
  refine w_aload_n cd_144_25 rfl ?_
  refine w_iconst (v := 0) cd_144_26 (by decide) ?_
  refine w_putfield (w := .int 0) cd_144_27 (show mt_f 12 349 = some (12, 26) by decide +kernel) h23 h24 ⟨h25, rfl, Or.inl (by decide)⟩ ?_
  exact h26
theorem b_144_30 {d : Nat} {Q : (Option Value ⊕ Nat) → mi_H → Prop} (n sl : Nat) (f : Nat → mi_C) {l1 : Nat} {fs2 : List Value} {fs6 : List Value} {fs10 : List Value} (h3 : f l1 = .inr (12, fs2)) (h4 : l1 < n) (h5 : 27 < fs2.length) (h7 : (va_up f l1 (.inr (12, fs2.set 27 (.int 0)))) l1 = .inr (12, fs6)) (h8 : l1 < n) (h9 : 10 < fs6.length) (h11 : (va_up (va_up f l1 (.inr (12, fs2.set 27 (.int 0)))) l1 (.inr (12, fs6.set 10 (.int 0)))) l1 = .inr (12, fs10)) (h12 : l1 < n) (h13 : mi_W d 145 0 (mi_en 4 [.ref l1]) [] (n, sl, (va_up (va_up f l1 (.inr (12, fs2.set 27 (.int 0)))) l1 (.inr (12, fs6.set 10 (.int 0))))) (mi_Kc d 144 41 [some (.ref l1)] [] Q)) : mi_W (d + 1) 144 30 [some (.ref l1)] [] (n, sl, f) Q := by
  refine w_aload_n cd_144_30 rfl ?_
  refine w_iconst (v := 0) cd_144_31 (by decide) ?_
  refine w_putfield (w := .int 0) cd_144_32 (show mt_f 12 352 = some (12, 27) by decide +kernel) h3 h4 ⟨h5, rfl, Or.inl (by decide)⟩ ?_
  refine w_aload_n cd_144_35 rfl ?_
  refine w_iconst (v := 0) cd_144_36 (by decide) ?_
  refine w_putfield (w := .int 0) cd_144_37 (show mt_f 12 297 = some (12, 10) by decide +kernel) h7 h8 ⟨h9, rfl, Or.inl (by decide)⟩ ?_
  refine w_aload_n cd_144_40 rfl ?_
  exact w_invokevirtual cd_144_41 (show mt_m 12 333 = some (145, 0) by decide +kernel) (rest := []) rfl (as := [.ref l1]) rfl h11 (Or.inl h12) ⟨Nat.le_of_ble_eq_true rfl, Nat.le_of_ble_eq_true rfl, Nat.le_of_ble_eq_true rfl⟩ h13
theorem b_144_44 {d : Nat} {Q : (Option Value ⊕ Nat) → mi_H → Prop} (n sl : Nat) (f : Nat → mi_C) {l1 : Nat} {s2 : Int32} (h3 : s2 = (0 : Int32) → mi_W d 144 70 [some (.ref l1)] [] (n, sl, f) Q) (h4 : ¬ (s2 = (0 : Int32)) → mi_W d 144 47 [some (.ref l1)] [] (n, sl, f) Q) : mi_W d 144 44 [some (.ref l1)] [.int s2] (n, sl, f) Q := by
  exact w_ifeq cd_144_44 (by decide) h3 h4
theorem b_144_47 {d : Nat} {Q : (Option Value ⊕ Nat) → mi_H → Prop} (n sl : Nat) (f : Nat → mi_C) {l1 : Nat} {fs2 : List Value} (h3 : f l1 = .inr (12, fs2)) (h4 : l1 < n) (h5 : mi_W d 152 0 (mi_en 4 [.ref l1]) [] (n, sl, f) (mi_Kc d 144 48 [some (.ref l1)] [] Q)) : mi_W (d + 1) 144 47 [some (.ref l1)] [] (n, sl, f) Q := by
  refine w_aload_n cd_144_47 rfl ?_
  exact w_invokevirtual cd_144_48 (show mt_m 12 355 = some (152, 0) by decide +kernel) (rest := []) rfl (as := [.ref l1]) rfl h3 (Or.inl h4) ⟨Nat.le_of_ble_eq_true rfl, Nat.le_of_ble_eq_true rfl, Nat.le_of_ble_eq_true rfl⟩ h5
theorem b_144_51 {d : Nat} {Q : (Option Value ⊕ Nat) → mi_H → Prop} (n sl : Nat) (f : Nat → mi_C) {l1 : Nat} {s2 : Int32} (h3 : s2 < (0 : Int32) → mi_W d 144 70 [some (.ref l1)] [] (n, sl, f) Q) (h4 : ¬ (s2 < (0 : Int32)) → mi_W d 144 54 [some (.ref l1)] [] (n, sl, f) Q) : mi_W d 144 51 [some (.ref l1)] [.int s2] (n, sl, f) Q := by
  exact w_iflt cd_144_51 (by decide) h3 h4
theorem b_144_54 {d : Nat} {Q : (Option Value ⊕ Nat) → mi_H → Prop} (n sl : Nat) (f : Nat → mi_C) {l1 : Nat} {fs2 : List Value} {x5 : Int32} (h3 : f l1 = .inr (12, fs2)) (h4 : l1 < n) (h6 : fs2[8]? = some (.int x5)) (h7 : x5 = (0 : Int32) → mi_W d 144 70 [some (.ref l1)] [] (n, sl, f) Q) (h8 : ¬ (x5 = (0 : Int32)) → mi_W d 144 61 [some (.ref l1)] [] (n, sl, f) Q) : mi_W d 144 54 [some (.ref l1)] [] (n, sl, f) Q := by
  refine w_aload_n cd_144_54 rfl ?_
  refine w_getfield cd_144_55 (show mt_f 12 310 = some (12, 8) by decide +kernel) h3 h4 h6 ?_
  exact w_ifeq cd_144_58 (by decide) h7 h8
theorem b_144_61 {d : Nat} {Q : (Option Value ⊕ Nat) → mi_H → Prop} (n sl : Nat) (f : Nat → mi_C) {l1 : Nat} {fs2 : List Value} {x5 : Int32} {fs7 : List Value} (h3 : f l1 = .inr (12, fs2)) (h4 : l1 < n) (h6 : fs2[9]? = some (.int x5)) (h8 : f l1 = .inr (12, fs7)) (h9 : l1 < n) (h10 : mi_W d 143 0 (mi_en 2 [.ref l1, .int x5]) [] (n, sl, f) (mi_Kc d 144 66 [some (.ref l1)] [] Q)) : mi_W (d + 1) 144 61 [some (.ref l1)] [] (n, sl, f) Q := by
  refine w_aload_n cd_144_61 rfl ?_
  refine w_aload_n cd_144_62 rfl ?_
  refine w_getfield cd_144_63 (show mt_f 12 299 = some (12, 9) by decide +kernel) h3 h4 h6 ?_
  exact w_invokevirtual cd_144_66 (show mt_m 12 272 = some (143, 0) by decide +kernel) (rest := []) rfl (as := [.ref l1, .int x5]) rfl h8 (Or.inl h9) ⟨Nat.le_of_ble_eq_true rfl, Nat.le_of_ble_eq_true rfl, Nat.le_of_ble_eq_true rfl⟩ h10
theorem b_144_69 {d : Nat} {Q : (Option Value ⊕ Nat) → mi_H → Prop} (n sl : Nat) (f : Nat → mi_C) {l1 : Nat} {s2 : Int32} (h3 : mi_W d 144 70 [some (.ref l1)] [] (n, sl, f) Q) : mi_W d 144 69 [some (.ref l1)] [.int s2] (n, sl, f) Q := by
  refine w_pop_i cd_144_69 ?_
  exact h3
theorem b_144_70 {d : Nat} {Q : (Option Value ⊕ Nat) → mi_H → Prop} (n sl : Nat) (f : Nat → mi_C) {l1 : Nat} (h2 : Q (.inl none) (n, sl, f)) : mi_W d 144 70 [some (.ref l1)] [] (n, sl, f) Q := by
  exact w_return cd_144_70 (by decide +kernel) h2
/-! MarloweHostModel.next()Z -/
set_option maxRecDepth 100000 in
theorem mq_145 : mt_q 145 = my_145 := rfl
set_option maxRecDepth 100000 in
theorem ci_145 : mt_inc 0 my_145.cd = true := by decide +kernel
theorem cd_145_0 : mt_cd 145 0 = some (.aload_n 0) := mt_cd_of (q := (0, .aload_n 0, 1)) mq_145 ci_145 (List.mem_append_left _ (show _ ∈ my_145_0 from List.mem_of_getElem? (i := 0) rfl))
theorem cd_145_1 : mt_cd 145 1 = some (.getfield 297) := mt_cd_of (q := (1, .getfield 297, 3)) mq_145 ci_145 (List.mem_append_left _ (show _ ∈ my_145_0 from List.mem_of_getElem? (i := 1) rfl))
theorem cd_145_4 : mt_cd 145 4 = some (.istore_n 1) := mt_cd_of (q := (4, .istore_n 1, 1)) mq_145 ci_145 (List.mem_append_left _ (show _ ∈ my_145_0 from List.mem_of_getElem? (i := 2) rfl))
theorem cd_145_5 : mt_cd 145 5 = some (.iload_n 1) := mt_cd_of (q := (5, .iload_n 1, 1)) mq_145 ci_145 (List.mem_append_left _ (show _ ∈ my_145_0 from List.mem_of_getElem? (i := 3) rfl))
theorem cd_145_6 : mt_cd 145 6 = some (.aload_n 0) := mt_cd_of (q := (6, .aload_n 0, 1)) mq_145 ci_145 (List.mem_append_left _ (show _ ∈ my_145_0 from List.mem_of_getElem? (i := 4) rfl))
theorem cd_145_7 : mt_cd 145 7 = some (.getfield 261) := mt_cd_of (q := (7, .getfield 261, 3)) mq_145 ci_145 (List.mem_append_left _ (show _ ∈ my_145_0 from List.mem_of_getElem? (i := 5) rfl))
theorem cd_145_10 : mt_cd 145 10 = some (.if_icmp .ge 31) := mt_cd_of (q := (10, .if_icmp .ge 31, 3)) mq_145 ci_145 (List.mem_append_left _ (show _ ∈ my_145_0 from List.mem_of_getElem? (i := 6) rfl))
theorem cd_145_13 : mt_cd 145 13 = some (.aload_n 0) := mt_cd_of (q := (13, .aload_n 0, 1)) mq_145 ci_145 (List.mem_append_left _ (show _ ∈ my_145_0 from List.mem_of_getElem? (i := 7) rfl))
theorem cd_145_14 : mt_cd 145 14 = some (.getfield 20) := mt_cd_of (q := (14, .getfield 20, 3)) mq_145 ci_145 (List.mem_append_left _ (show _ ∈ my_145_0 from List.mem_of_getElem? (i := 8) rfl))
theorem cd_145_17 : mt_cd 145 17 = some (.iload_n 1) := mt_cd_of (q := (17, .iload_n 1, 1)) mq_145 ci_145 (List.mem_append_left _ (show _ ∈ my_145_0 from List.mem_of_getElem? (i := 9) rfl))
theorem cd_145_18 : mt_cd 145 18 = some (.iaload) := mt_cd_of (q := (18, .iaload, 1)) mq_145 ci_145 (List.mem_append_left _ (show _ ∈ my_145_0 from List.mem_of_getElem? (i := 10) rfl))
theorem cd_145_19 : mt_cd 145 19 = some (.bipush 10) := mt_cd_of (q := (19, .bipush 10, 2)) mq_145 ci_145 (List.mem_append_left _ (show _ ∈ my_145_0 from List.mem_of_getElem? (i := 11) rfl))
theorem cd_145_21 : mt_cd 145 21 = some (.if_icmp .eq 14) := mt_cd_of (q := (21, .if_icmp .eq 14, 3)) mq_145 ci_145 (List.mem_append_left _ (show _ ∈ my_145_0 from List.mem_of_getElem? (i := 12) rfl))
theorem cd_145_24 : mt_cd 145 24 = some (.aload_n 0) := mt_cd_of (q := (24, .aload_n 0, 1)) mq_145 ci_145 (List.mem_append_left _ (show _ ∈ my_145_0 from List.mem_of_getElem? (i := 13) rfl))
theorem cd_145_25 : mt_cd 145 25 = some (.getfield 20) := mt_cd_of (q := (25, .getfield 20, 3)) mq_145 ci_145 (List.mem_append_left _ (show _ ∈ my_145_0 from List.mem_of_getElem? (i := 14) rfl))
theorem cd_145_28 : mt_cd 145 28 = some (.iload_n 1) := mt_cd_of (q := (28, .iload_n 1, 1)) mq_145 ci_145 (List.mem_append_left _ (show _ ∈ my_145_0 from List.mem_of_getElem? (i := 15) rfl))
theorem cd_145_29 : mt_cd 145 29 = some (.iaload) := mt_cd_of (q := (29, .iaload, 1)) mq_145 ci_145 (List.mem_append_left _ (show _ ∈ my_145_0 from List.mem_of_getElem? (i := 16) rfl))
theorem cd_145_30 : mt_cd 145 30 = some (.bipush 32) := mt_cd_of (q := (30, .bipush 32, 2)) mq_145 ci_145 (List.mem_append_left _ (show _ ∈ my_145_0 from List.mem_of_getElem? (i := 17) rfl))
theorem cd_145_32 : mt_cd 145 32 = some (.if_icmp .ne 9) := mt_cd_of (q := (32, .if_icmp .ne 9, 3)) mq_145 ci_145 (List.mem_append_left _ (show _ ∈ my_145_0 from List.mem_of_getElem? (i := 18) rfl))
theorem cd_145_35 : mt_cd 145 35 = some (.iinc 1 1) := mt_cd_of (q := (35, .iinc 1 1, 3)) mq_145 ci_145 (List.mem_append_left _ (show _ ∈ my_145_0 from List.mem_of_getElem? (i := 19) rfl))
theorem cd_145_38 : mt_cd 145 38 = some (.goto (-33)) := mt_cd_of (q := (38, .goto (-33), 3)) mq_145 ci_145 (List.mem_append_left _ (show _ ∈ my_145_0 from List.mem_of_getElem? (i := 20) rfl))
theorem cd_145_41 : mt_cd 145 41 = some (.aload_n 0) := mt_cd_of (q := (41, .aload_n 0, 1)) mq_145 ci_145 (List.mem_append_left _ (show _ ∈ my_145_0 from List.mem_of_getElem? (i := 21) rfl))
theorem cd_145_42 : mt_cd 145 42 = some (.iload_n 1) := mt_cd_of (q := (42, .iload_n 1, 1)) mq_145 ci_145 (List.mem_append_left _ (show _ ∈ my_145_0 from List.mem_of_getElem? (i := 22) rfl))
theorem cd_145_43 : mt_cd 145 43 = some (.putfield 299) := mt_cd_of (q := (43, .putfield 299, 3)) mq_145 ci_145 (List.mem_append_left _ (show _ ∈ my_145_0 from List.mem_of_getElem? (i := 23) rfl))
theorem cd_145_46 : mt_cd 145 46 = some (.aload_n 0) := mt_cd_of (q := (46, .aload_n 0, 1)) mq_145 ci_145 (List.mem_append_left _ (show _ ∈ my_145_0 from List.mem_of_getElem? (i := 24) rfl))
theorem cd_145_47 : mt_cd 145 47 = some (.iload_n 1) := mt_cd_of (q := (47, .iload_n 1, 1)) mq_145 ci_145 (List.mem_append_left _ (show _ ∈ my_145_0 from List.mem_of_getElem? (i := 25) rfl))
theorem cd_145_48 : mt_cd 145 48 = some (.putfield 297) := mt_cd_of (q := (48, .putfield 297, 3)) mq_145 ci_145 (List.mem_append_left _ (show _ ∈ my_145_0 from List.mem_of_getElem? (i := 26) rfl))
theorem cd_145_51 : mt_cd 145 51 = some (.iload_n 1) := mt_cd_of (q := (51, .iload_n 1, 1)) mq_145 ci_145 (List.mem_append_left _ (show _ ∈ my_145_0 from List.mem_of_getElem? (i := 27) rfl))
theorem cd_145_52 : mt_cd 145 52 = some (.aload_n 0) := mt_cd_of (q := (52, .aload_n 0, 1)) mq_145 ci_145 (List.mem_append_left _ (show _ ∈ my_145_0 from List.mem_of_getElem? (i := 28) rfl))
theorem cd_145_53 : mt_cd 145 53 = some (.getfield 261) := mt_cd_of (q := (53, .getfield 261, 3)) mq_145 ci_145 (List.mem_append_left _ (show _ ∈ my_145_0 from List.mem_of_getElem? (i := 29) rfl))
theorem cd_145_56 : mt_cd 145 56 = some (.if_icmp .ne 10) := mt_cd_of (q := (56, .if_icmp .ne 10, 3)) mq_145 ci_145 (List.mem_append_left _ (show _ ∈ my_145_0 from List.mem_of_getElem? (i := 30) rfl))
theorem cd_145_59 : mt_cd 145 59 = some (.aload_n 0) := mt_cd_of (q := (59, .aload_n 0, 1)) mq_145 ci_145 (List.mem_append_left _ (show _ ∈ my_145_0 from List.mem_of_getElem? (i := 31) rfl))
theorem cd_145_60 : mt_cd 145 60 = some (.iconst 0) := mt_cd_of (q := (60, .iconst 0, 1)) mq_145 ci_145 (List.mem_append_left _ (show _ ∈ my_145_0 from List.mem_of_getElem? (i := 32) rfl))
theorem cd_145_61 : mt_cd 145 61 = some (.putfield 310) := mt_cd_of (q := (61, .putfield 310, 3)) mq_145 ci_145 (List.mem_append_left _ (show _ ∈ my_145_0 from List.mem_of_getElem? (i := 33) rfl))
theorem cd_145_64 : mt_cd 145 64 = some (.iconst 1) := mt_cd_of (q := (64, .iconst 1, 1)) mq_145 ci_145 (List.mem_append_left _ (show _ ∈ my_145_0 from List.mem_of_getElem? (i := 34) rfl))
theorem cd_145_65 : mt_cd 145 65 = some (.ireturn) := mt_cd_of (q := (65, .ireturn, 1)) mq_145 ci_145 (List.mem_append_left _ (show _ ∈ my_145_0 from List.mem_of_getElem? (i := 35) rfl))
theorem cd_145_66 : mt_cd 145 66 = some (.aload_n 0) := mt_cd_of (q := (66, .aload_n 0, 1)) mq_145 ci_145 (List.mem_append_left _ (show _ ∈ my_145_0 from List.mem_of_getElem? (i := 36) rfl))
theorem cd_145_67 : mt_cd 145 67 = some (.iload_n 1) := mt_cd_of (q := (67, .iload_n 1, 1)) mq_145 ci_145 (List.mem_append_left _ (show _ ∈ my_145_0 from List.mem_of_getElem? (i := 37) rfl))
theorem cd_145_68 : mt_cd 145 68 = some (.invokevirtual 313) := mt_cd_of (q := (68, .invokevirtual 313, 3)) mq_145 ci_145 (List.mem_append_left _ (show _ ∈ my_145_0 from List.mem_of_getElem? (i := 38) rfl))
theorem cd_145_71 : mt_cd 145 71 = some (.invokestatic 317) := mt_cd_of (q := (71, .invokestatic 317, 3)) mq_145 ci_145 (List.mem_append_left _ (show _ ∈ my_145_0 from List.mem_of_getElem? (i := 39) rfl))
theorem cd_145_74 : mt_cd 145 74 = some (.ifCond .eq 100) := mt_cd_of (q := (74, .ifCond .eq 100, 3)) mq_145 ci_145 (List.mem_append_left _ (show _ ∈ my_145_0 from List.mem_of_getElem? (i := 40) rfl))
theorem cd_145_77 : mt_cd 145 77 = some (.aload_n 0) := mt_cd_of (q := (77, .aload_n 0, 1)) mq_145 ci_145 (List.mem_append_left _ (show _ ∈ my_145_0 from List.mem_of_getElem? (i := 41) rfl))
theorem cd_145_78 : mt_cd 145 78 = some (.getfield 297) := mt_cd_of (q := (78, .getfield 297, 3)) mq_145 ci_145 (List.mem_append_left _ (show _ ∈ my_145_0 from List.mem_of_getElem? (i := 42) rfl))
theorem cd_145_81 : mt_cd 145 81 = some (.aload_n 0) := mt_cd_of (q := (81, .aload_n 0, 1)) mq_145 ci_145 (List.mem_append_left _ (show _ ∈ my_145_0 from List.mem_of_getElem? (i := 43) rfl))
theorem cd_145_82 : mt_cd 145 82 = some (.getfield 299) := mt_cd_of (q := (82, .getfield 299, 3)) mq_145 ci_145 (List.mem_append_left _ (show _ ∈ my_145_0 from List.mem_of_getElem? (i := 44) rfl))
theorem cd_145_85 : mt_cd 145 85 = some (.isub) := mt_cd_of (q := (85, .isub, 1)) mq_145 ci_145 (List.mem_append_left _ (show _ ∈ my_145_0 from List.mem_of_getElem? (i := 45) rfl))
theorem cd_145_86 : mt_cd 145 86 = some (.bipush 16) := mt_cd_of (q := (86, .bipush 16, 2)) mq_145 ci_145 (List.mem_append_left _ (show _ ∈ my_145_0 from List.mem_of_getElem? (i := 46) rfl))
theorem cd_145_88 : mt_cd 145 88 = some (.if_icmp .ge 44) := mt_cd_of (q := (88, .if_icmp .ge 44, 3)) mq_145 ci_145 (List.mem_append_left _ (show _ ∈ my_145_0 from List.mem_of_getElem? (i := 47) rfl))
theorem cd_145_91 : mt_cd 145 91 = some (.aload_n 0) := mt_cd_of (q := (91, .aload_n 0, 1)) mq_145 ci_145 (List.mem_append_left _ (show _ ∈ my_145_0 from List.mem_of_getElem? (i := 48) rfl))
theorem cd_145_92 : mt_cd 145 92 = some (.aload_n 0) := mt_cd_of (q := (92, .aload_n 0, 1)) mq_145 ci_145 (List.mem_append_left _ (show _ ∈ my_145_0 from List.mem_of_getElem? (i := 49) rfl))
theorem cd_145_93 : mt_cd 145 93 = some (.getfield 297) := mt_cd_of (q := (93, .getfield 297, 3)) mq_145 ci_145 (List.mem_append_left _ (show _ ∈ my_145_0 from List.mem_of_getElem? (i := 50) rfl))
theorem cd_145_96 : mt_cd 145 96 = some (.invokevirtual 313) := mt_cd_of (q := (96, .invokevirtual 313, 3)) mq_145 ci_145 (List.mem_append_left _ (show _ ∈ my_145_0 from List.mem_of_getElem? (i := 51) rfl))
theorem cd_145_99 : mt_cd 145 99 = some (.invokestatic 317) := mt_cd_of (q := (99, .invokestatic 317, 3)) mq_145 ci_145 (List.mem_append_left _ (show _ ∈ my_145_0 from List.mem_of_getElem? (i := 52) rfl))
theorem cd_145_102 : mt_cd 145 102 = some (.ifCond .ne 17) := mt_cd_of (q := (102, .ifCond .ne 17, 3)) mq_145 ci_145 (List.mem_append_left _ (show _ ∈ my_145_0 from List.mem_of_getElem? (i := 53) rfl))
theorem cd_145_105 : mt_cd 145 105 = some (.aload_n 0) := mt_cd_of (q := (105, .aload_n 0, 1)) mq_145 ci_145 (List.mem_append_left _ (show _ ∈ my_145_0 from List.mem_of_getElem? (i := 54) rfl))
theorem cd_145_106 : mt_cd 145 106 = some (.aload_n 0) := mt_cd_of (q := (106, .aload_n 0, 1)) mq_145 ci_145 (List.mem_append_left _ (show _ ∈ my_145_0 from List.mem_of_getElem? (i := 55) rfl))
theorem cd_145_107 : mt_cd 145 107 = some (.getfield 297) := mt_cd_of (q := (107, .getfield 297, 3)) mq_145 ci_145 (List.mem_append_left _ (show _ ∈ my_145_0 from List.mem_of_getElem? (i := 56) rfl))
theorem cd_145_110 : mt_cd 145 110 = some (.invokevirtual 313) := mt_cd_of (q := (110, .invokevirtual 313, 3)) mq_145 ci_145 (List.mem_append_left _ (show _ ∈ my_145_0 from List.mem_of_getElem? (i := 57) rfl))
theorem cd_145_113 : mt_cd 145 113 = some (.invokestatic 320) := mt_cd_of (q := (113, .invokestatic 320, 3)) mq_145 ci_145 (List.mem_append_left _ (show _ ∈ my_145_0 from List.mem_of_getElem? (i := 58) rfl))
theorem cd_145_116 : mt_cd 145 116 = some (.ifCond .eq 16) := mt_cd_of (q := (116, .ifCond .eq 16, 3)) mq_145 ci_145 (List.mem_append_left _ (show _ ∈ my_145_0 from List.mem_of_getElem? (i := 59) rfl))
theorem cd_145_119 : mt_cd 145 119 = some (.aload_n 0) := mt_cd_of (q := (119, .aload_n 0, 1)) mq_145 ci_145 (List.mem_append_right _ (List.mem_append_left _ (show _ ∈ my_145_1 from List.mem_of_getElem? (i := 0) rfl)))
theorem cd_145_120 : mt_cd 145 120 = some (.dup) := mt_cd_of (q := (120, .dup, 1)) mq_145 ci_145 (List.mem_append_right _ (List.mem_append_left _ (show _ ∈ my_145_1 from List.mem_of_getElem? (i := 1) rfl)))
theorem cd_145_121 : mt_cd 145 121 = some (.getfield 297) := mt_cd_of (q := (121, .getfield 297, 3)) mq_145 ci_145 (List.mem_append_right _ (List.mem_append_left _ (show _ ∈ my_145_1 from List.mem_of_getElem? (i := 2) rfl)))
theorem cd_145_124 : mt_cd 145 124 = some (.iconst 1) := mt_cd_of (q := (124, .iconst 1, 1)) mq_145 ci_145 (List.mem_append_right _ (List.mem_append_left _ (show _ ∈ my_145_1 from List.mem_of_getElem? (i := 3) rfl)))
theorem cd_145_125 : mt_cd 145 125 = some (.iadd) := mt_cd_of (q := (125, .iadd, 1)) mq_145 ci_145 (List.mem_append_right _ (List.mem_append_left _ (show _ ∈ my_145_1 from List.mem_of_getElem? (i := 4) rfl)))
theorem cd_145_126 : mt_cd 145 126 = some (.putfield 297) := mt_cd_of (q := (126, .putfield 297, 3)) mq_145 ci_145 (List.mem_append_right _ (List.mem_append_left _ (show _ ∈ my_145_1 from List.mem_of_getElem? (i := 5) rfl)))
theorem cd_145_129 : mt_cd 145 129 = some (.goto (-52)) := mt_cd_of (q := (129, .goto (-52), 3)) mq_145 ci_145 (List.mem_append_right _ (List.mem_append_left _ (show _ ∈ my_145_1 from List.mem_of_getElem? (i := 6) rfl)))
theorem cd_145_132 : mt_cd 145 132 = some (.aload_n 0) := mt_cd_of (q := (132, .aload_n 0, 1)) mq_145 ci_145 (List.mem_append_right _ (List.mem_append_left _ (show _ ∈ my_145_1 from List.mem_of_getElem? (i := 7) rfl)))
theorem cd_145_133 : mt_cd 145 133 = some (.iconst 1) := mt_cd_of (q := (133, .iconst 1, 1)) mq_145 ci_145 (List.mem_append_right _ (List.mem_append_left _ (show _ ∈ my_145_1 from List.mem_of_getElem? (i := 8) rfl)))
theorem cd_145_134 : mt_cd 145 134 = some (.putfield 310) := mt_cd_of (q := (134, .putfield 310, 3)) mq_145 ci_145 (List.mem_append_right _ (List.mem_append_left _ (show _ ∈ my_145_1 from List.mem_of_getElem? (i := 9) rfl)))
theorem cd_145_137 : mt_cd 145 137 = some (.iconst 0) := mt_cd_of (q := (137, .iconst 0, 1)) mq_145 ci_145 (List.mem_append_right _ (List.mem_append_left _ (show _ ∈ my_145_1 from List.mem_of_getElem? (i := 10) rfl)))
theorem cd_145_138 : mt_cd 145 138 = some (.istore_n 2) := mt_cd_of (q := (138, .istore_n 2, 1)) mq_145 ci_145 (List.mem_append_right _ (List.mem_append_left _ (show _ ∈ my_145_1 from List.mem_of_getElem? (i := 11) rfl)))
theorem cd_145_139 : mt_cd 145 139 = some (.iload_n 2) := mt_cd_of (q := (139, .iload_n 2, 1)) mq_145 ci_145 (List.mem_append_right _ (List.mem_append_left _ (show _ ∈ my_145_1 from List.mem_of_getElem? (i := 12) rfl)))
theorem cd_145_140 : mt_cd 145 140 = some (.aload_n 0) := mt_cd_of (q := (140, .aload_n 0, 1)) mq_145 ci_145 (List.mem_append_right _ (List.mem_append_left _ (show _ ∈ my_145_1 from List.mem_of_getElem? (i := 13) rfl)))
theorem cd_145_141 : mt_cd 145 141 = some (.getfield 73) := mt_cd_of (q := (141, .getfield 73, 3)) mq_145 ci_145 (List.mem_append_right _ (List.mem_append_left _ (show _ ∈ my_145_1 from List.mem_of_getElem? (i := 14) rfl)))
theorem cd_145_144 : mt_cd 145 144 = some (.arraylength) := mt_cd_of (q := (144, .arraylength, 1)) mq_145 ci_145 (List.mem_append_right _ (List.mem_append_left _ (show _ ∈ my_145_1 from List.mem_of_getElem? (i := 15) rfl)))
theorem cd_145_145 : mt_cd 145 145 = some (.if_icmp .ge 27) := mt_cd_of (q := (145, .if_icmp .ge 27, 3)) mq_145 ci_145 (List.mem_append_right _ (List.mem_append_left _ (show _ ∈ my_145_1 from List.mem_of_getElem? (i := 16) rfl)))
theorem cd_145_148 : mt_cd 145 148 = some (.aload_n 0) := mt_cd_of (q := (148, .aload_n 0, 1)) mq_145 ci_145 (List.mem_append_right _ (List.mem_append_left _ (show _ ∈ my_145_1 from List.mem_of_getElem? (i := 17) rfl)))
theorem cd_145_149 : mt_cd 145 149 = some (.aload_n 0) := mt_cd_of (q := (149, .aload_n 0, 1)) mq_145 ci_145 (List.mem_append_right _ (List.mem_append_left _ (show _ ∈ my_145_1 from List.mem_of_getElem? (i := 18) rfl)))
theorem cd_145_150 : mt_cd 145 150 = some (.getfield 73) := mt_cd_of (q := (150, .getfield 73, 3)) mq_145 ci_145 (List.mem_append_right _ (List.mem_append_left _ (show _ ∈ my_145_1 from List.mem_of_getElem? (i := 19) rfl)))
theorem cd_145_153 : mt_cd 145 153 = some (.iload_n 2) := mt_cd_of (q := (153, .iload_n 2, 1)) mq_145 ci_145 (List.mem_append_right _ (List.mem_append_left _ (show _ ∈ my_145_1 from List.mem_of_getElem? (i := 20) rfl)))
theorem cd_145_154 : mt_cd 145 154 = some (.aaload) := mt_cd_of (q := (154, .aaload, 1)) mq_145 ci_145 (List.mem_append_right _ (List.mem_append_left _ (show _ ∈ my_145_1 from List.mem_of_getElem? (i := 21) rfl)))
theorem cd_145_155 : mt_cd 145 155 = some (.invokevirtual 323) := mt_cd_of (q := (155, .invokevirtual 323, 3)) mq_145 ci_145 (List.mem_append_right _ (List.mem_append_left _ (show _ ∈ my_145_1 from List.mem_of_getElem? (i := 22) rfl)))
theorem cd_145_158 : mt_cd 145 158 = some (.ifCond .eq 8) := mt_cd_of (q := (158, .ifCond .eq 8, 3)) mq_145 ci_145 (List.mem_append_right _ (List.mem_append_left _ (show _ ∈ my_145_1 from List.mem_of_getElem? (i := 23) rfl)))
theorem cd_145_161 : mt_cd 145 161 = some (.aload_n 0) := mt_cd_of (q := (161, .aload_n 0, 1)) mq_145 ci_145 (List.mem_append_right _ (List.mem_append_left _ (show _ ∈ my_145_1 from List.mem_of_getElem? (i := 24) rfl)))
theorem cd_145_162 : mt_cd 145 162 = some (.iconst 4) := mt_cd_of (q := (162, .iconst 4, 1)) mq_145 ci_145 (List.mem_append_right _ (List.mem_append_left _ (show _ ∈ my_145_1 from List.mem_of_getElem? (i := 25) rfl)))
theorem cd_145_163 : mt_cd 145 163 = some (.putfield 310) := mt_cd_of (q := (163, .putfield 310, 3)) mq_145 ci_145 (List.mem_append_right _ (List.mem_append_left _ (show _ ∈ my_145_1 from List.mem_of_getElem? (i := 26) rfl)))
theorem cd_145_166 : mt_cd 145 166 = some (.iinc 2 1) := mt_cd_of (q := (166, .iinc 2 1, 3)) mq_145 ci_145 (List.mem_append_right _ (List.mem_append_left _ (show _ ∈ my_145_1 from List.mem_of_getElem? (i := 27) rfl)))
theorem cd_145_169 : mt_cd 145 169 = some (.goto (-30)) := mt_cd_of (q := (169, .goto (-30), 3)) mq_145 ci_145 (List.mem_append_right _ (List.mem_append_left _ (show _ ∈ my_145_1 from List.mem_of_getElem? (i := 28) rfl)))
theorem cd_145_172 : mt_cd 145 172 = some (.iconst 1) := mt_cd_of (q := (172, .iconst 1, 1)) mq_145 ci_145 (List.mem_append_right _ (List.mem_append_left _ (show _ ∈ my_145_1 from List.mem_of_getElem? (i := 29) rfl)))
theorem cd_145_173 : mt_cd 145 173 = some (.ireturn) := mt_cd_of (q := (173, .ireturn, 1)) mq_145 ci_145 (List.mem_append_right _ (List.mem_append_left _ (show _ ∈ my_145_1 from List.mem_of_getElem? (i := 30) rfl)))
theorem cd_145_174 : mt_cd 145 174 = some (.aload_n 0) := mt_cd_of (q := (174, .aload_n 0, 1)) mq_145 ci_145 (List.mem_append_right _ (List.mem_append_left _ (show _ ∈ my_145_1 from List.mem_of_getElem? (i := 31) rfl)))
theorem cd_145_175 : mt_cd 145 175 = some (.iload_n 1) := mt_cd_of (q := (175, .iload_n 1, 1)) mq_145 ci_145 (List.mem_append_right _ (List.mem_append_left _ (show _ ∈ my_145_1 from List.mem_of_getElem? (i := 32) rfl)))
theorem cd_145_176 : mt_cd 145 176 = some (.invokevirtual 313) := mt_cd_of (q := (176, .invokevirtual 313, 3)) mq_145 ci_145 (List.mem_append_right _ (List.mem_append_left _ (show _ ∈ my_145_1 from List.mem_of_getElem? (i := 33) rfl)))
theorem cd_145_179 : mt_cd 145 179 = some (.bipush 45) := mt_cd_of (q := (179, .bipush 45, 2)) mq_145 ci_145 (List.mem_append_right _ (List.mem_append_left _ (show _ ∈ my_145_1 from List.mem_of_getElem? (i := 34) rfl)))
theorem cd_145_181 : mt_cd 145 181 = some (.if_icmp .ne 7) := mt_cd_of (q := (181, .if_icmp .ne 7, 3)) mq_145 ci_145 (List.mem_append_right _ (List.mem_append_left _ (show _ ∈ my_145_1 from List.mem_of_getElem? (i := 35) rfl)))
theorem cd_145_184 : mt_cd 145 184 = some (.iconst 1) := mt_cd_of (q := (184, .iconst 1, 1)) mq_145 ci_145 (List.mem_append_right _ (List.mem_append_left _ (show _ ∈ my_145_1 from List.mem_of_getElem? (i := 36) rfl)))
theorem cd_145_185 : mt_cd 145 185 = some (.goto 4) := mt_cd_of (q := (185, .goto 4, 3)) mq_145 ci_145 (List.mem_append_right _ (List.mem_append_left _ (show _ ∈ my_145_1 from List.mem_of_getElem? (i := 37) rfl)))
theorem cd_145_188 : mt_cd 145 188 = some (.iconst 0) := mt_cd_of (q := (188, .iconst 0, 1)) mq_145 ci_145 (List.mem_append_right _ (List.mem_append_left _ (show _ ∈ my_145_1 from List.mem_of_getElem? (i := 38) rfl)))
theorem cd_145_189 : mt_cd 145 189 = some (.istore_n 2) := mt_cd_of (q := (189, .istore_n 2, 1)) mq_145 ci_145 (List.mem_append_right _ (List.mem_append_left _ (show _ ∈ my_145_1 from List.mem_of_getElem? (i := 39) rfl)))
theorem cd_145_190 : mt_cd 145 190 = some (.aload_n 0) := mt_cd_of (q := (190, .aload_n 0, 1)) mq_145 ci_145 (List.mem_append_right _ (List.mem_append_left _ (show _ ∈ my_145_1 from List.mem_of_getElem? (i := 40) rfl)))
theorem cd_145_191 : mt_cd 145 191 = some (.iload_n 1) := mt_cd_of (q := (191, .iload_n 1, 1)) mq_145 ci_145 (List.mem_append_right _ (List.mem_append_left _ (show _ ∈ my_145_1 from List.mem_of_getElem? (i := 41) rfl)))
theorem cd_145_192 : mt_cd 145 192 = some (.invokevirtual 313) := mt_cd_of (q := (192, .invokevirtual 313, 3)) mq_145 ci_145 (List.mem_append_right _ (List.mem_append_left _ (show _ ∈ my_145_1 from List.mem_of_getElem? (i := 42) rfl)))
theorem cd_145_195 : mt_cd 145 195 = some (.invokestatic 320) := mt_cd_of (q := (195, .invokestatic 320, 3)) mq_145 ci_145 (List.mem_append_right _ (List.mem_append_left _ (show _ ∈ my_145_1 from List.mem_of_getElem? (i := 43) rfl)))
theorem cd_145_198 : mt_cd 145 198 = some (.ifCond .ne 20) := mt_cd_of (q := (198, .ifCond .ne 20, 3)) mq_145 ci_145 (List.mem_append_right _ (List.mem_append_left _ (show _ ∈ my_145_1 from List.mem_of_getElem? (i := 44) rfl)))
theorem cd_145_201 : mt_cd 145 201 = some (.iload_n 2) := mt_cd_of (q := (201, .iload_n 2, 1)) mq_145 ci_145 (List.mem_append_right _ (List.mem_append_left _ (show _ ∈ my_145_1 from List.mem_of_getElem? (i := 45) rfl)))
theorem cd_145_202 : mt_cd 145 202 = some (.ifCond .eq 117) := mt_cd_of (q := (202, .ifCond .eq 117, 3)) mq_145 ci_145 (List.mem_append_right _ (List.mem_append_left _ (show _ ∈ my_145_1 from List.mem_of_getElem? (i := 46) rfl)))
theorem cd_145_205 : mt_cd 145 205 = some (.aload_n 0) := mt_cd_of (q := (205, .aload_n 0, 1)) mq_145 ci_145 (List.mem_append_right _ (List.mem_append_left _ (show _ ∈ my_145_1 from List.mem_of_getElem? (i := 47) rfl)))
theorem cd_145_206 : mt_cd 145 206 = some (.iload_n 1) := mt_cd_of (q := (206, .iload_n 1, 1)) mq_145 ci_145 (List.mem_append_right _ (List.mem_append_left _ (show _ ∈ my_145_1 from List.mem_of_getElem? (i := 48) rfl)))
theorem cd_145_207 : mt_cd 145 207 = some (.iconst 1) := mt_cd_of (q := (207, .iconst 1, 1)) mq_145 ci_145 (List.mem_append_right _ (List.mem_append_left _ (show _ ∈ my_145_1 from List.mem_of_getElem? (i := 49) rfl)))
theorem cd_145_208 : mt_cd 145 208 = some (.iadd) := mt_cd_of (q := (208, .iadd, 1)) mq_145 ci_145 (List.mem_append_right _ (List.mem_append_left _ (show _ ∈ my_145_1 from List.mem_of_getElem? (i := 50) rfl)))
theorem cd_145_209 : mt_cd 145 209 = some (.invokevirtual 313) := mt_cd_of (q := (209, .invokevirtual 313, 3)) mq_145 ci_145 (List.mem_append_right _ (List.mem_append_left _ (show _ ∈ my_145_1 from List.mem_of_getElem? (i := 51) rfl)))
theorem cd_145_212 : mt_cd 145 212 = some (.invokestatic 320) := mt_cd_of (q := (212, .invokestatic 320, 3)) mq_145 ci_145 (List.mem_append_right _ (List.mem_append_left _ (show _ ∈ my_145_1 from List.mem_of_getElem? (i := 52) rfl)))
theorem cd_145_215 : mt_cd 145 215 = some (.ifCond .eq 104) := mt_cd_of (q := (215, .ifCond .eq 104, 3)) mq_145 ci_145 (List.mem_append_right _ (List.mem_append_left _ (show _ ∈ my_145_1 from List.mem_of_getElem? (i := 53) rfl)))
theorem cd_145_218 : mt_cd 145 218 = some (.aload_n 0) := mt_cd_of (q := (218, .aload_n 0, 1)) mq_145 ci_145 (List.mem_append_right _ (List.mem_append_left _ (show _ ∈ my_145_1 from List.mem_of_getElem? (i := 54) rfl)))
theorem cd_145_219 : mt_cd 145 219 = some (.iconst 2) := mt_cd_of (q := (219, .iconst 2, 1)) mq_145 ci_145 (List.mem_append_right _ (List.mem_append_left _ (show _ ∈ my_145_1 from List.mem_of_getElem? (i := 55) rfl)))
theorem cd_145_220 : mt_cd 145 220 = some (.putfield 310) := mt_cd_of (q := (220, .putfield 310, 3)) mq_145 ci_145 (List.mem_append_right _ (List.mem_append_left _ (show _ ∈ my_145_1 from List.mem_of_getElem? (i := 56) rfl)))
theorem cd_145_223 : mt_cd 145 223 = some (.aload_n 0) := mt_cd_of (q := (223, .aload_n 0, 1)) mq_145 ci_145 (List.mem_append_right _ (List.mem_append_left _ (show _ ∈ my_145_1 from List.mem_of_getElem? (i := 57) rfl)))
theorem cd_145_224 : mt_cd 145 224 = some (.iload_n 2) := mt_cd_of (q := (224, .iload_n 2, 1)) mq_145 ci_145 (List.mem_append_right _ (List.mem_append_left _ (show _ ∈ my_145_1 from List.mem_of_getElem? (i := 58) rfl)))
theorem cd_145_225 : mt_cd 145 225 = some (.ifCond .eq 9) := mt_cd_of (q := (225, .ifCond .eq 9, 3)) mq_145 ci_145 (List.mem_append_right _ (List.mem_append_left _ (show _ ∈ my_145_1 from List.mem_of_getElem? (i := 59) rfl)))
theorem cd_145_228 : mt_cd 145 228 = some (.iload_n 1) := mt_cd_of (q := (228, .iload_n 1, 1)) mq_145 ci_145 (List.mem_append_right _ (List.mem_append_right _ (List.mem_append_left _ (show _ ∈ my_145_2 from List.mem_of_getElem? (i := 0) rfl))))
theorem cd_145_229 : mt_cd 145 229 = some (.iconst 1) := mt_cd_of (q := (229, .iconst 1, 1)) mq_145 ci_145 (List.mem_append_right _ (List.mem_append_right _ (List.mem_append_left _ (show _ ∈ my_145_2 from List.mem_of_getElem? (i := 1) rfl))))
theorem cd_145_230 : mt_cd 145 230 = some (.iadd) := mt_cd_of (q := (230, .iadd, 1)) mq_145 ci_145 (List.mem_append_right _ (List.mem_append_right _ (List.mem_append_left _ (show _ ∈ my_145_2 from List.mem_of_getElem? (i := 2) rfl))))
theorem cd_145_231 : mt_cd 145 231 = some (.goto 4) := mt_cd_of (q := (231, .goto 4, 3)) mq_145 ci_145 (List.mem_append_right _ (List.mem_append_right _ (List.mem_append_left _ (show _ ∈ my_145_2 from List.mem_of_getElem? (i := 3) rfl))))
theorem cd_145_234 : mt_cd 145 234 = some (.iload_n 1) := mt_cd_of (q := (234, .iload_n 1, 1)) mq_145 ci_145 (List.mem_append_right _ (List.mem_append_right _ (List.mem_append_left _ (show _ ∈ my_145_2 from List.mem_of_getElem? (i := 4) rfl))))
theorem cd_145_235 : mt_cd 145 235 = some (.putfield 297) := mt_cd_of (q := (235, .putfield 297, 3)) mq_145 ci_145 (List.mem_append_right _ (List.mem_append_right _ (List.mem_append_left _ (show _ ∈ my_145_2 from List.mem_of_getElem? (i := 5) rfl))))
theorem cd_145_238 : mt_cd 145 238 = some (.aload_n 0) := mt_cd_of (q := (238, .aload_n 0, 1)) mq_145 ci_145 (List.mem_append_right _ (List.mem_append_right _ (List.mem_append_left _ (show _ ∈ my_145_2 from List.mem_of_getElem? (i := 6) rfl))))
theorem cd_145_239 : mt_cd 145 239 = some (.lconst 0) := mt_cd_of (q := (239, .lconst 0, 1)) mq_145 ci_145 (List.mem_append_right _ (List.mem_append_right _ (List.mem_append_left _ (show _ ∈ my_145_2 from List.mem_of_getElem? (i := 7) rfl))))
theorem cd_145_240 : mt_cd 145 240 = some (.putfield 327) := mt_cd_of (q := (240, .putfield 327, 3)) mq_145 ci_145 (List.mem_append_right _ (List.mem_append_right _ (List.mem_append_left _ (show _ ∈ my_145_2 from List.mem_of_getElem? (i := 8) rfl))))
theorem cd_145_243 : mt_cd 145 243 = some (.iconst 0) := mt_cd_of (q := (243, .iconst 0, 1)) mq_145 ci_145 (List.mem_append_right _ (List.mem_append_right _ (List.mem_append_left _ (show _ ∈ my_145_2 from List.mem_of_getElem? (i := 9) rfl))))
theorem cd_145_244 : mt_cd 145 244 = some (.istore_n 3) := mt_cd_of (q := (244, .istore_n 3, 1)) mq_145 ci_145 (List.mem_append_right _ (List.mem_append_right _ (List.mem_append_left _ (show _ ∈ my_145_2 from List.mem_of_getElem? (i := 10) rfl))))
theorem cd_145_245 : mt_cd 145 245 = some (.aload_n 0) := mt_cd_of (q := (245, .aload_n 0, 1)) mq_145 ci_145 (List.mem_append_right _ (List.mem_append_right _ (List.mem_append_left _ (show _ ∈ my_145_2 from List.mem_of_getElem? (i := 11) rfl))))
theorem cd_145_246 : mt_cd 145 246 = some (.aload_n 0) := mt_cd_of (q := (246, .aload_n 0, 1)) mq_145 ci_145 (List.mem_append_right _ (List.mem_append_right _ (List.mem_append_left _ (show _ ∈ my_145_2 from List.mem_of_getElem? (i := 12) rfl))))
theorem cd_145_247 : mt_cd 145 247 = some (.getfield 297) := mt_cd_of (q := (247, .getfield 297, 3)) mq_145 ci_145 (List.mem_append_right _ (List.mem_append_right _ (List.mem_append_left _ (show _ ∈ my_145_2 from List.mem_of_getElem? (i := 13) rfl))))
theorem cd_145_250 : mt_cd 145 250 = some (.invokevirtual 313) := mt_cd_of (q := (250, .invokevirtual 313, 3)) mq_145 ci_145 (List.mem_append_right _ (List.mem_append_right _ (List.mem_append_left _ (show _ ∈ my_145_2 from List.mem_of_getElem? (i := 14) rfl))))
theorem cd_145_253 : mt_cd 145 253 = some (.invokestatic 320) := mt_cd_of (q := (253, .invokestatic 320, 3)) mq_145 ci_145 (List.mem_append_right _ (List.mem_append_right _ (List.mem_append_left _ (show _ ∈ my_145_2 from List.mem_of_getElem? (i := 15) rfl))))
theorem cd_145_256 : mt_cd 145 256 = some (.ifCond .eq 48) := mt_cd_of (q := (256, .ifCond .eq 48, 3)) mq_145 ci_145 (List.mem_append_right _ (List.mem_append_right _ (List.mem_append_left _ (show _ ∈ my_145_2 from List.mem_of_getElem? (i := 16) rfl))))
theorem cd_145_259 : mt_cd 145 259 = some (.iload_n 3) := mt_cd_of (q := (259, .iload_n 3, 1)) mq_145 ci_145 (List.mem_append_right _ (List.mem_append_right _ (List.mem_append_left _ (show _ ∈ my_145_2 from List.mem_of_getElem? (i := 17) rfl))))
theorem cd_145_260 : mt_cd 145 260 = some (.bipush 17) := mt_cd_of (q := (260, .bipush 17, 2)) mq_145 ci_145 (List.mem_append_right _ (List.mem_append_right _ (List.mem_append_left _ (show _ ∈ my_145_2 from List.mem_of_getElem? (i := 18) rfl))))
theorem cd_145_262 : mt_cd 145 262 = some (.if_icmp .ge 42) := mt_cd_of (q := (262, .if_icmp .ge 42, 3)) mq_145 ci_145 (List.mem_append_right _ (List.mem_append_right _ (List.mem_append_left _ (show _ ∈ my_145_2 from List.mem_of_getElem? (i := 19) rfl))))
theorem cd_145_265 : mt_cd 145 265 = some (.aload_n 0) := mt_cd_of (q := (265, .aload_n 0, 1)) mq_145 ci_145 (List.mem_append_right _ (List.mem_append_right _ (List.mem_append_left _ (show _ ∈ my_145_2 from List.mem_of_getElem? (i := 20) rfl))))
theorem cd_145_266 : mt_cd 145 266 = some (.ldc2_w 331) := mt_cd_of (q := (266, .ldc2_w 331, 3)) mq_145 ci_145 (List.mem_append_right _ (List.mem_append_right _ (List.mem_append_left _ (show _ ∈ my_145_2 from List.mem_of_getElem? (i := 21) rfl))))
theorem cd_145_269 : mt_cd 145 269 = some (.aload_n 0) := mt_cd_of (q := (269, .aload_n 0, 1)) mq_145 ci_145 (List.mem_append_right _ (List.mem_append_right _ (List.mem_append_left _ (show _ ∈ my_145_2 from List.mem_of_getElem? (i := 22) rfl))))
theorem cd_145_270 : mt_cd 145 270 = some (.getfield 327) := mt_cd_of (q := (270, .getfield 327, 3)) mq_145 ci_145 (List.mem_append_right _ (List.mem_append_right _ (List.mem_append_left _ (show _ ∈ my_145_2 from List.mem_of_getElem? (i := 23) rfl))))
theorem cd_145_273 : mt_cd 145 273 = some (.lmul) := mt_cd_of (q := (273, .lmul, 1)) mq_145 ci_145 (List.mem_append_right _ (List.mem_append_right _ (List.mem_append_left _ (show _ ∈ my_145_2 from List.mem_of_getElem? (i := 24) rfl))))
theorem cd_145_274 : mt_cd 145 274 = some (.aload_n 0) := mt_cd_of (q := (274, .aload_n 0, 1)) mq_145 ci_145 (List.mem_append_right _ (List.mem_append_right _ (List.mem_append_left _ (show _ ∈ my_145_2 from List.mem_of_getElem? (i := 25) rfl))))
theorem cd_145_275 : mt_cd 145 275 = some (.aload_n 0) := mt_cd_of (q := (275, .aload_n 0, 1)) mq_145 ci_145 (List.mem_append_right _ (List.mem_append_right _ (List.mem_append_left _ (show _ ∈ my_145_2 from List.mem_of_getElem? (i := 26) rfl))))
theorem cd_145_276 : mt_cd 145 276 = some (.dup) := mt_cd_of (q := (276, .dup, 1)) mq_145 ci_145 (List.mem_append_right _ (List.mem_append_right _ (List.mem_append_left _ (show _ ∈ my_145_2 from List.mem_of_getElem? (i := 27) rfl))))
theorem cd_145_277 : mt_cd 145 277 = some (.getfield 297) := mt_cd_of (q := (277, .getfield 297, 3)) mq_145 ci_145 (List.mem_append_right _ (List.mem_append_right _ (List.mem_append_left _ (show _ ∈ my_145_2 from List.mem_of_getElem? (i := 28) rfl))))
theorem cd_145_280 : mt_cd 145 280 = some (.dup_x1) := mt_cd_of (q := (280, .dup_x1, 1)) mq_145 ci_145 (List.mem_append_right _ (List.mem_append_right _ (List.mem_append_left _ (show _ ∈ my_145_2 from List.mem_of_getElem? (i := 29) rfl))))
theorem cd_145_281 : mt_cd 145 281 = some (.iconst 1) := mt_cd_of (q := (281, .iconst 1, 1)) mq_145 ci_145 (List.mem_append_right _ (List.mem_append_right _ (List.mem_append_left _ (show _ ∈ my_145_2 from List.mem_of_getElem? (i := 30) rfl))))
theorem cd_145_282 : mt_cd 145 282 = some (.iadd) := mt_cd_of (q := (282, .iadd, 1)) mq_145 ci_145 (List.mem_append_right _ (List.mem_append_right _ (List.mem_append_left _ (show _ ∈ my_145_2 from List.mem_of_getElem? (i := 31) rfl))))
theorem cd_145_283 : mt_cd 145 283 = some (.putfield 297) := mt_cd_of (q := (283, .putfield 297, 3)) mq_145 ci_145 (List.mem_append_right _ (List.mem_append_right _ (List.mem_append_left _ (show _ ∈ my_145_2 from List.mem_of_getElem? (i := 32) rfl))))
theorem cd_145_286 : mt_cd 145 286 = some (.invokevirtual 313) := mt_cd_of (q := (286, .invokevirtual 313, 3)) mq_145 ci_145 (List.mem_append_right _ (List.mem_append_right _ (List.mem_append_left _ (show _ ∈ my_145_2 from List.mem_of_getElem? (i := 33) rfl))))
theorem cd_145_289 : mt_cd 145 289 = some (.i2l) := mt_cd_of (q := (289, .i2l, 1)) mq_145 ci_145 (List.mem_append_right _ (List.mem_append_right _ (List.mem_append_left _ (show _ ∈ my_145_2 from List.mem_of_getElem? (i := 34) rfl))))
theorem cd_145_290 : mt_cd 145 290 = some (.ladd) := mt_cd_of (q := (290, .ladd, 1)) mq_145 ci_145 (List.mem_append_right _ (List.mem_append_right _ (List.mem_append_left _ (show _ ∈ my_145_2 from List.mem_of_getElem? (i := 35) rfl))))
theorem cd_145_291 : mt_cd 145 291 = some (.ldc2_w 293) := mt_cd_of (q := (291, .ldc2_w 293, 3)) mq_145 ci_145 (List.mem_append_right _ (List.mem_append_right _ (List.mem_append_left _ (show _ ∈ my_145_2 from List.mem_of_getElem? (i := 36) rfl))))
theorem cd_145_294 : mt_cd 145 294 = some (.lsub) := mt_cd_of (q := (294, .lsub, 1)) mq_145 ci_145 (List.mem_append_right _ (List.mem_append_right _ (List.mem_append_left _ (show _ ∈ my_145_2 from List.mem_of_getElem? (i := 37) rfl))))
theorem cd_145_295 : mt_cd 145 295 = some (.putfield 327) := mt_cd_of (q := (295, .putfield 327, 3)) mq_145 ci_145 (List.mem_append_right _ (List.mem_append_right _ (List.mem_append_left _ (show _ ∈ my_145_2 from List.mem_of_getElem? (i := 38) rfl))))
theorem cd_145_298 : mt_cd 145 298 = some (.iinc 3 1) := mt_cd_of (q := (298, .iinc 3 1, 3)) mq_145 ci_145 (List.mem_append_right _ (List.mem_append_right _ (List.mem_append_left _ (show _ ∈ my_145_2 from List.mem_of_getElem? (i := 39) rfl))))
theorem cd_145_301 : mt_cd 145 301 = some (.goto (-56)) := mt_cd_of (q := (301, .goto (-56), 3)) mq_145 ci_145 (List.mem_append_right _ (List.mem_append_right _ (List.mem_append_left _ (show _ ∈ my_145_2 from List.mem_of_getElem? (i := 40) rfl))))
theorem cd_145_304 : mt_cd 145 304 = some (.iload_n 2) := mt_cd_of (q := (304, .iload_n 2, 1)) mq_145 ci_145 (List.mem_append_right _ (List.mem_append_right _ (List.mem_append_left _ (show _ ∈ my_145_2 from List.mem_of_getElem? (i := 41) rfl))))
theorem cd_145_305 : mt_cd 145 305 = some (.ifCond .eq 12) := mt_cd_of (q := (305, .ifCond .eq 12, 3)) mq_145 ci_145 (List.mem_append_right _ (List.mem_append_right _ (List.mem_append_left _ (show _ ∈ my_145_2 from List.mem_of_getElem? (i := 42) rfl))))
theorem cd_145_308 : mt_cd 145 308 = some (.aload_n 0) := mt_cd_of (q := (308, .aload_n 0, 1)) mq_145 ci_145 (List.mem_append_right _ (List.mem_append_right _ (List.mem_append_left _ (show _ ∈ my_145_2 from List.mem_of_getElem? (i := 43) rfl))))
theorem cd_145_309 : mt_cd 145 309 = some (.aload_n 0) := mt_cd_of (q := (309, .aload_n 0, 1)) mq_145 ci_145 (List.mem_append_right _ (List.mem_append_right _ (List.mem_append_left _ (show _ ∈ my_145_2 from List.mem_of_getElem? (i := 44) rfl))))
theorem cd_145_310 : mt_cd 145 310 = some (.getfield 327) := mt_cd_of (q := (310, .getfield 327, 3)) mq_145 ci_145 (List.mem_append_right _ (List.mem_append_right _ (List.mem_append_left _ (show _ ∈ my_145_2 from List.mem_of_getElem? (i := 45) rfl))))
theorem cd_145_313 : mt_cd 145 313 = some (.lneg) := mt_cd_of (q := (313, .lneg, 1)) mq_145 ci_145 (List.mem_append_right _ (List.mem_append_right _ (List.mem_append_left _ (show _ ∈ my_145_2 from List.mem_of_getElem? (i := 46) rfl))))
theorem cd_145_314 : mt_cd 145 314 = some (.putfield 327) := mt_cd_of (q := (314, .putfield 327, 3)) mq_145 ci_145 (List.mem_append_right _ (List.mem_append_right _ (List.mem_append_left _ (show _ ∈ my_145_2 from List.mem_of_getElem? (i := 47) rfl))))
theorem cd_145_317 : mt_cd 145 317 = some (.iconst 1) := mt_cd_of (q := (317, .iconst 1, 1)) mq_145 ci_145 (List.mem_append_right _ (List.mem_append_right _ (List.mem_append_left _ (show _ ∈ my_145_2 from List.mem_of_getElem? (i := 48) rfl))))
theorem cd_145_318 : mt_cd 145 318 = some (.ireturn) := mt_cd_of (q := (318, .ireturn, 1)) mq_145 ci_145 (List.mem_append_right _ (List.mem_append_right _ (List.mem_append_left _ (show _ ∈ my_145_2 from List.mem_of_getElem? (i := 49) rfl))))
theorem cd_145_319 : mt_cd 145 319 = some (.aload_n 0) := mt_cd_of (q := (319, .aload_n 0, 1)) mq_145 ci_145 (List.mem_append_right _ (List.mem_append_right _ (List.mem_append_left _ (show _ ∈ my_145_2 from List.mem_of_getElem? (i := 50) rfl))))
theorem cd_145_320 : mt_cd 145 320 = some (.iconst 3) := mt_cd_of (q := (320, .iconst 3, 1)) mq_145 ci_145 (List.mem_append_right _ (List.mem_append_right _ (List.mem_append_left _ (show _ ∈ my_145_2 from List.mem_of_getElem? (i := 51) rfl))))
theorem cd_145_321 : mt_cd 145 321 = some (.putfield 310) := mt_cd_of (q := (321, .putfield 310, 3)) mq_145 ci_145 (List.mem_append_right _ (List.mem_append_right _ (List.mem_append_left _ (show _ ∈ my_145_2 from List.mem_of_getElem? (i := 52) rfl))))
theorem cd_145_324 : mt_cd 145 324 = some (.aload_n 0) := mt_cd_of (q := (324, .aload_n 0, 1)) mq_145 ci_145 (List.mem_append_right _ (List.mem_append_right _ (List.mem_append_left _ (show _ ∈ my_145_2 from List.mem_of_getElem? (i := 53) rfl))))
theorem cd_145_325 : mt_cd 145 325 = some (.iload_n 1) := mt_cd_of (q := (325, .iload_n 1, 1)) mq_145 ci_145 (List.mem_append_right _ (List.mem_append_right _ (List.mem_append_left _ (show _ ∈ my_145_2 from List.mem_of_getElem? (i := 54) rfl))))
theorem cd_145_326 : mt_cd 145 326 = some (.invokevirtual 313) := mt_cd_of (q := (326, .invokevirtual 313, 3)) mq_145 ci_145 (List.mem_append_right _ (List.mem_append_right _ (List.mem_append_left _ (show _ ∈ my_145_2 from List.mem_of_getElem? (i := 55) rfl))))
theorem cd_145_329 : mt_cd 145 329 = some (.istore_n 3) := mt_cd_of (q := (329, .istore_n 3, 1)) mq_145 ci_145 (List.mem_append_right _ (List.mem_append_right _ (List.mem_append_left _ (show _ ∈ my_145_2 from List.mem_of_getElem? (i := 56) rfl))))
theorem cd_145_330 : mt_cd 145 330 = some (.aload_n 0) := mt_cd_of (q := (330, .aload_n 0, 1)) mq_145 ci_145 (List.mem_append_right _ (List.mem_append_right _ (List.mem_append_left _ (show _ ∈ my_145_2 from List.mem_of_getElem? (i := 57) rfl))))
theorem cd_145_331 : mt_cd 145 331 = some (.iload_n 1) := mt_cd_of (q := (331, .iload_n 1, 1)) mq_145 ci_145 (List.mem_append_right _ (List.mem_append_right _ (List.mem_append_left _ (show _ ∈ my_145_2 from List.mem_of_getElem? (i := 58) rfl))))
theorem cd_145_332 : mt_cd 145 332 = some (.iload_n 3) := mt_cd_of (q := (332, .iload_n 3, 1)) mq_145 ci_145 (List.mem_append_right _ (List.mem_append_right _ (List.mem_append_left _ (show _ ∈ my_145_2 from List.mem_of_getElem? (i := 59) rfl))))
theorem cd_145_333 : mt_cd 145 333 = some (.bipush 60) := mt_cd_of (q := (333, .bipush 60, 2)) mq_145 ci_145 (List.mem_append_right _ (List.mem_append_right _ (List.mem_append_right _ ((show _ ∈ my_145_3 from List.mem_of_getElem? (i := 0) rfl)))))
theorem cd_145_335 : mt_cd 145 335 = some (.if_icmp .eq 9) := mt_cd_of (q := (335, .if_icmp .eq 9, 3)) mq_145 ci_145 (List.mem_append_right _ (List.mem_append_right _ (List.mem_append_right _ ((show _ ∈ my_145_3 from List.mem_of_getElem? (i := 1) rfl)))))
theorem cd_145_338 : mt_cd 145 338 = some (.iload_n 3) := mt_cd_of (q := (338, .iload_n 3, 1)) mq_145 ci_145 (List.mem_append_right _ (List.mem_append_right _ (List.mem_append_right _ ((show _ ∈ my_145_3 from List.mem_of_getElem? (i := 2) rfl)))))
theorem cd_145_339 : mt_cd 145 339 = some (.bipush 62) := mt_cd_of (q := (339, .bipush 62, 2)) mq_145 ci_145 (List.mem_append_right _ (List.mem_append_right _ (List.mem_append_right _ ((show _ ∈ my_145_3 from List.mem_of_getElem? (i := 3) rfl)))))
theorem cd_145_341 : mt_cd 145 341 = some (.if_icmp .ne 19) := mt_cd_of (q := (341, .if_icmp .ne 19, 3)) mq_145 ci_145 (List.mem_append_right _ (List.mem_append_right _ (List.mem_append_right _ ((show _ ∈ my_145_3 from List.mem_of_getElem? (i := 4) rfl)))))
theorem cd_145_344 : mt_cd 145 344 = some (.aload_n 0) := mt_cd_of (q := (344, .aload_n 0, 1)) mq_145 ci_145 (List.mem_append_right _ (List.mem_append_right _ (List.mem_append_right _ ((show _ ∈ my_145_3 from List.mem_of_getElem? (i := 5) rfl)))))
theorem cd_145_345 : mt_cd 145 345 = some (.iload_n 1) := mt_cd_of (q := (345, .iload_n 1, 1)) mq_145 ci_145 (List.mem_append_right _ (List.mem_append_right _ (List.mem_append_right _ ((show _ ∈ my_145_3 from List.mem_of_getElem? (i := 6) rfl)))))
theorem cd_145_346 : mt_cd 145 346 = some (.iconst 1) := mt_cd_of (q := (346, .iconst 1, 1)) mq_145 ci_145 (List.mem_append_right _ (List.mem_append_right _ (List.mem_append_right _ ((show _ ∈ my_145_3 from List.mem_of_getElem? (i := 7) rfl)))))
theorem cd_145_347 : mt_cd 145 347 = some (.iadd) := mt_cd_of (q := (347, .iadd, 1)) mq_145 ci_145 (List.mem_append_right _ (List.mem_append_right _ (List.mem_append_right _ ((show _ ∈ my_145_3 from List.mem_of_getElem? (i := 8) rfl)))))
theorem cd_145_348 : mt_cd 145 348 = some (.invokevirtual 313) := mt_cd_of (q := (348, .invokevirtual 313, 3)) mq_145 ci_145 (List.mem_append_right _ (List.mem_append_right _ (List.mem_append_right _ ((show _ ∈ my_145_3 from List.mem_of_getElem? (i := 9) rfl)))))
theorem cd_145_351 : mt_cd 145 351 = some (.bipush 61) := mt_cd_of (q := (351, .bipush 61, 2)) mq_145 ci_145 (List.mem_append_right _ (List.mem_append_right _ (List.mem_append_right _ ((show _ ∈ my_145_3 from List.mem_of_getElem? (i := 10) rfl)))))
theorem cd_145_353 : mt_cd 145 353 = some (.if_icmp .ne 7) := mt_cd_of (q := (353, .if_icmp .ne 7, 3)) mq_145 ci_145 (List.mem_append_right _ (List.mem_append_right _ (List.mem_append_right _ ((show _ ∈ my_145_3 from List.mem_of_getElem? (i := 11) rfl)))))
theorem cd_145_356 : mt_cd 145 356 = some (.iconst 2) := mt_cd_of (q := (356, .iconst 2, 1)) mq_145 ci_145 (List.mem_append_right _ (List.mem_append_right _ (List.mem_append_right _ ((show _ ∈ my_145_3 from List.mem_of_getElem? (i := 12) rfl)))))
theorem cd_145_357 : mt_cd 145 357 = some (.goto 4) := mt_cd_of (q := (357, .goto 4, 3)) mq_145 ci_145 (List.mem_append_right _ (List.mem_append_right _ (List.mem_append_right _ ((show _ ∈ my_145_3 from List.mem_of_getElem? (i := 13) rfl)))))
theorem cd_145_360 : mt_cd 145 360 = some (.iconst 1) := mt_cd_of (q := (360, .iconst 1, 1)) mq_145 ci_145 (List.mem_append_right _ (List.mem_append_right _ (List.mem_append_right _ ((show _ ∈ my_145_3 from List.mem_of_getElem? (i := 14) rfl)))))
theorem cd_145_361 : mt_cd 145 361 = some (.iadd) := mt_cd_of (q := (361, .iadd, 1)) mq_145 ci_145 (List.mem_append_right _ (List.mem_append_right _ (List.mem_append_right _ ((show _ ∈ my_145_3 from List.mem_of_getElem? (i := 15) rfl)))))
theorem cd_145_362 : mt_cd 145 362 = some (.putfield 297) := mt_cd_of (q := (362, .putfield 297, 3)) mq_145 ci_145 (List.mem_append_right _ (List.mem_append_right _ (List.mem_append_right _ ((show _ ∈ my_145_3 from List.mem_of_getElem? (i := 16) rfl)))))
theorem cd_145_365 : mt_cd 145 365 = some (.iload_n 3) := mt_cd_of (q := (365, .iload_n 3, 1)) mq_145 ci_145 (List.mem_append_right _ (List.mem_append_right _ (List.mem_append_right _ ((show _ ∈ my_145_3 from List.mem_of_getElem? (i := 17) rfl)))))
theorem cd_145_366 : mt_cd 145 366 = some (.bipush 40) := mt_cd_of (q := (366, .bipush 40, 2)) mq_145 ci_145 (List.mem_append_right _ (List.mem_append_right _ (List.mem_append_right _ ((show _ ∈ my_145_3 from List.mem_of_getElem? (i := 18) rfl)))))
theorem cd_145_368 : mt_cd 145 368 = some (.if_icmp .eq 69) := mt_cd_of (q := (368, .if_icmp .eq 69, 3)) mq_145 ci_145 (List.mem_append_right _ (List.mem_append_right _ (List.mem_append_right _ ((show _ ∈ my_145_3 from List.mem_of_getElem? (i := 19) rfl)))))
theorem cd_145_371 : mt_cd 145 371 = some (.iload_n 3) := mt_cd_of (q := (371, .iload_n 3, 1)) mq_145 ci_145 (List.mem_append_right _ (List.mem_append_right _ (List.mem_append_right _ ((show _ ∈ my_145_3 from List.mem_of_getElem? (i := 20) rfl)))))
theorem cd_145_372 : mt_cd 145 372 = some (.bipush 41) := mt_cd_of (q := (372, .bipush 41, 2)) mq_145 ci_145 (List.mem_append_right _ (List.mem_append_right _ (List.mem_append_right _ ((show _ ∈ my_145_3 from List.mem_of_getElem? (i := 21) rfl)))))
theorem cd_145_374 : mt_cd 145 374 = some (.if_icmp .eq 63) := mt_cd_of (q := (374, .if_icmp .eq 63, 3)) mq_145 ci_145 (List.mem_append_right _ (List.mem_append_right _ (List.mem_append_right _ ((show _ ∈ my_145_3 from List.mem_of_getElem? (i := 22) rfl)))))
theorem cd_145_377 : mt_cd 145 377 = some (.iload_n 3) := mt_cd_of (q := (377, .iload_n 3, 1)) mq_145 ci_145 (List.mem_append_right _ (List.mem_append_right _ (List.mem_append_right _ ((show _ ∈ my_145_3 from List.mem_of_getElem? (i := 23) rfl)))))
theorem cd_145_378 : mt_cd 145 378 = some (.bipush 91) := mt_cd_of (q := (378, .bipush 91, 2)) mq_145 ci_145 (List.mem_append_right _ (List.mem_append_right _ (List.mem_append_right _ ((show _ ∈ my_145_3 from List.mem_of_getElem? (i := 24) rfl)))))
theorem cd_145_380 : mt_cd 145 380 = some (.if_icmp .eq 57) := mt_cd_of (q := (380, .if_icmp .eq 57, 3)) mq_145 ci_145 (List.mem_append_right _ (List.mem_append_right _ (List.mem_append_right _ ((show _ ∈ my_145_3 from List.mem_of_getElem? (i := 25) rfl)))))
theorem cd_145_383 : mt_cd 145 383 = some (.iload_n 3) := mt_cd_of (q := (383, .iload_n 3, 1)) mq_145 ci_145 (List.mem_append_right _ (List.mem_append_right _ (List.mem_append_right _ ((show _ ∈ my_145_3 from List.mem_of_getElem? (i := 26) rfl)))))
theorem cd_145_384 : mt_cd 145 384 = some (.bipush 93) := mt_cd_of (q := (384, .bipush 93, 2)) mq_145 ci_145 (List.mem_append_right _ (List.mem_append_right _ (List.mem_append_right _ ((show _ ∈ my_145_3 from List.mem_of_getElem? (i := 27) rfl)))))
theorem cd_145_386 : mt_cd 145 386 = some (.if_icmp .eq 51) := mt_cd_of (q := (386, .if_icmp .eq 51, 3)) mq_145 ci_145 (List.mem_append_right _ (List.mem_append_right _ (List.mem_append_right _ ((show _ ∈ my_145_3 from List.mem_of_getElem? (i := 28) rfl)))))
theorem cd_145_389 : mt_cd 145 389 = some (.iload_n 3) := mt_cd_of (q := (389, .iload_n 3, 1)) mq_145 ci_145 (List.mem_append_right _ (List.mem_append_right _ (List.mem_append_right _ ((show _ ∈ my_145_3 from List.mem_of_getElem? (i := 29) rfl)))))
theorem cd_145_390 : mt_cd 145 390 = some (.bipush 43) := mt_cd_of (q := (390, .bipush 43, 2)) mq_145 ci_145 (List.mem_append_right _ (List.mem_append_right _ (List.mem_append_right _ ((show _ ∈ my_145_3 from List.mem_of_getElem? (i := 30) rfl)))))
theorem cd_145_392 : mt_cd 145 392 = some (.if_icmp .eq 45) := mt_cd_of (q := (392, .if_icmp .eq 45, 3)) mq_145 ci_145 (List.mem_append_right _ (List.mem_append_right _ (List.mem_append_right _ ((show _ ∈ my_145_3 from List.mem_of_getElem? (i := 31) rfl)))))
theorem cd_145_395 : mt_cd 145 395 = some (.iload_n 2) := mt_cd_of (q := (395, .iload_n 2, 1)) mq_145 ci_145 (List.mem_append_right _ (List.mem_append_right _ (List.mem_append_right _ ((show _ ∈ my_145_3 from List.mem_of_getElem? (i := 32) rfl)))))
theorem cd_145_396 : mt_cd 145 396 = some (.ifCond .ne 41) := mt_cd_of (q := (396, .ifCond .ne 41, 3)) mq_145 ci_145 (List.mem_append_right _ (List.mem_append_right _ (List.mem_append_right _ ((show _ ∈ my_145_3 from List.mem_of_getElem? (i := 33) rfl)))))
theorem cd_145_399 : mt_cd 145 399 = some (.iload_n 3) := mt_cd_of (q := (399, .iload_n 3, 1)) mq_145 ci_145 (List.mem_append_right _ (List.mem_append_right _ (List.mem_append_right _ ((show _ ∈ my_145_3 from List.mem_of_getElem? (i := 34) rfl)))))
theorem cd_145_400 : mt_cd 145 400 = some (.bipush 42) := mt_cd_of (q := (400, .bipush 42, 2)) mq_145 ci_145 (List.mem_append_right _ (List.mem_append_right _ (List.mem_append_right _ ((show _ ∈ my_145_3 from List.mem_of_getElem? (i := 35) rfl)))))
theorem cd_145_402 : mt_cd 145 402 = some (.if_icmp .eq 35) := mt_cd_of (q := (402, .if_icmp .eq 35, 3)) mq_145 ci_145 (List.mem_append_right _ (List.mem_append_right _ (List.mem_append_right _ ((show _ ∈ my_145_3 from List.mem_of_getElem? (i := 36) rfl)))))
theorem cd_145_405 : mt_cd 145 405 = some (.iload_n 3) := mt_cd_of (q := (405, .iload_n 3, 1)) mq_145 ci_145 (List.mem_append_right _ (List.mem_append_right _ (List.mem_append_right _ ((show _ ∈ my_145_3 from List.mem_of_getElem? (i := 37) rfl)))))
theorem cd_145_406 : mt_cd 145 406 = some (.bipush 47) := mt_cd_of (q := (406, .bipush 47, 2)) mq_145 ci_145 (List.mem_append_right _ (List.mem_append_right _ (List.mem_append_right _ ((show _ ∈ my_145_3 from List.mem_of_getElem? (i := 38) rfl)))))
theorem cd_145_408 : mt_cd 145 408 = some (.if_icmp .eq 29) := mt_cd_of (q := (408, .if_icmp .eq 29, 3)) mq_145 ci_145 (List.mem_append_right _ (List.mem_append_right _ (List.mem_append_right _ ((show _ ∈ my_145_3 from List.mem_of_getElem? (i := 39) rfl)))))
theorem cd_145_411 : mt_cd 145 411 = some (.iload_n 3) := mt_cd_of (q := (411, .iload_n 3, 1)) mq_145 ci_145 (List.mem_append_right _ (List.mem_append_right _ (List.mem_append_right _ ((show _ ∈ my_145_3 from List.mem_of_getElem? (i := 40) rfl)))))
theorem cd_145_412 : mt_cd 145 412 = some (.bipush 60) := mt_cd_of (q := (412, .bipush 60, 2)) mq_145 ci_145 (List.mem_append_right _ (List.mem_append_right _ (List.mem_append_right _ ((show _ ∈ my_145_3 from List.mem_of_getElem? (i := 41) rfl)))))
theorem cd_145_414 : mt_cd 145 414 = some (.if_icmp .eq 23) := mt_cd_of (q := (414, .if_icmp .eq 23, 3)) mq_145 ci_145 (List.mem_append_right _ (List.mem_append_right _ (List.mem_append_right _ ((show _ ∈ my_145_3 from List.mem_of_getElem? (i := 42) rfl)))))
theorem cd_145_417 : mt_cd 145 417 = some (.iload_n 3) := mt_cd_of (q := (417, .iload_n 3, 1)) mq_145 ci_145 (List.mem_append_right _ (List.mem_append_right _ (List.mem_append_right _ ((show _ ∈ my_145_3 from List.mem_of_getElem? (i := 43) rfl)))))
theorem cd_145_418 : mt_cd 145 418 = some (.bipush 62) := mt_cd_of (q := (418, .bipush 62, 2)) mq_145 ci_145 (List.mem_append_right _ (List.mem_append_right _ (List.mem_append_right _ ((show _ ∈ my_145_3 from List.mem_of_getElem? (i := 44) rfl)))))
theorem cd_145_420 : mt_cd 145 420 = some (.if_icmp .eq 17) := mt_cd_of (q := (420, .if_icmp .eq 17, 3)) mq_145 ci_145 (List.mem_append_right _ (List.mem_append_right _ (List.mem_append_right _ ((show _ ∈ my_145_3 from List.mem_of_getElem? (i := 45) rfl)))))
theorem cd_145_423 : mt_cd 145 423 = some (.iload_n 3) := mt_cd_of (q := (423, .iload_n 3, 1)) mq_145 ci_145 (List.mem_append_right _ (List.mem_append_right _ (List.mem_append_right _ ((show _ ∈ my_145_3 from List.mem_of_getElem? (i := 46) rfl)))))
theorem cd_145_424 : mt_cd 145 424 = some (.bipush 61) := mt_cd_of (q := (424, .bipush 61, 2)) mq_145 ci_145 (List.mem_append_right _ (List.mem_append_right _ (List.mem_append_right _ ((show _ ∈ my_145_3 from List.mem_of_getElem? (i := 47) rfl)))))
theorem cd_145_426 : mt_cd 145 426 = some (.if_icmp .eq 11) := mt_cd_of (q := (426, .if_icmp .eq 11, 3)) mq_145 ci_145 (List.mem_append_right _ (List.mem_append_right _ (List.mem_append_right _ ((show _ ∈ my_145_3 from List.mem_of_getElem? (i := 48) rfl)))))
theorem cd_145_429 : mt_cd 145 429 = some (.aload_n 0) := mt_cd_of (q := (429, .aload_n 0, 1)) mq_145 ci_145 (List.mem_append_right _ (List.mem_append_right _ (List.mem_append_right _ ((show _ ∈ my_145_3 from List.mem_of_getElem? (i := 49) rfl)))))
theorem cd_145_430 : mt_cd 145 430 = some (.iload_n 1) := mt_cd_of (q := (430, .iload_n 1, 1)) mq_145 ci_145 (List.mem_append_right _ (List.mem_append_right _ (List.mem_append_right _ ((show _ ∈ my_145_3 from List.mem_of_getElem? (i := 50) rfl)))))
theorem cd_145_431 : mt_cd 145 431 = some (.invokevirtual 272) := mt_cd_of (q := (431, .invokevirtual 272, 3)) mq_145 ci_145 (List.mem_append_right _ (List.mem_append_right _ (List.mem_append_right _ ((show _ ∈ my_145_3 from List.mem_of_getElem? (i := 51) rfl)))))
theorem cd_145_434 : mt_cd 145 434 = some (.ifCond .eq 7) := mt_cd_of (q := (434, .ifCond .eq 7, 3)) mq_145 ci_145 (List.mem_append_right _ (List.mem_append_right _ (List.mem_append_right _ ((show _ ∈ my_145_3 from List.mem_of_getElem? (i := 52) rfl)))))
theorem cd_145_437 : mt_cd 145 437 = some (.iconst 1) := mt_cd_of (q := (437, .iconst 1, 1)) mq_145 ci_145 (List.mem_append_right _ (List.mem_append_right _ (List.mem_append_right _ ((show _ ∈ my_145_3 from List.mem_of_getElem? (i := 53) rfl)))))
theorem cd_145_438 : mt_cd 145 438 = some (.goto 4) := mt_cd_of (q := (438, .goto 4, 3)) mq_145 ci_145 (List.mem_append_right _ (List.mem_append_right _ (List.mem_append_right _ ((show _ ∈ my_145_3 from List.mem_of_getElem? (i := 54) rfl)))))
theorem cd_145_441 : mt_cd 145 441 = some (.iconst 0) := mt_cd_of (q := (441, .iconst 0, 1)) mq_145 ci_145 (List.mem_append_right _ (List.mem_append_right _ (List.mem_append_right _ ((show _ ∈ my_145_3 from List.mem_of_getElem? (i := 55) rfl)))))
theorem cd_145_442 : mt_cd 145 442 = some (.ireturn) := mt_cd_of (q := (442, .ireturn, 1)) mq_145 ci_145 (List.mem_append_right _ (List.mem_append_right _ (List.mem_append_right _ ((show _ ∈ my_145_3 from List.mem_of_getElem? (i := 56) rfl)))))
theorem b_145_0 {d : Nat} {Q : (Option Value ⊕ Nat) → mi_H → Prop} (n sl : Nat) (f : Nat → mi_C) {l1 : Nat} {o2 : Option Value} {o3 : Option Value} {o4 : Option Value} {fs5 : List Value} {x8 : Int32} (h6 : f l1 = .inr (12, fs5)) (h7 : l1 < n) (h9 : fs5[10]? = some (.int x8)) (h10 : mi_W d 145 5 [some (.ref l1), some (.int x8), o3, o4] [] (n, sl, f) Q) : mi_W d 145 0 [some (.ref l1), o2, o3, o4] [] (n, sl, f) Q := by
  refine w_aload_n cd_145_0 rfl ?_
  refine w_getfield cd_145_1 (show mt_f 12 297 = some (12, 10) by decide +kernel) h6 h7 h9 ?_
  refine w_istore_n (ls' := [some (.ref l1), some (.int x8), o3, o4]) cd_145_4 (Nat.le_of_ble_eq_true rfl) rfl ?_
  exact h10
theorem b_145_5 {d : Nat} {Q : (Option Value ⊕ Nat) → mi_H → Prop} (n sl : Nat) (f : Nat → mi_C) {l1 : Nat} {l2 : Int32} {o3 : Option Value} {o4 : Option Value} {fs5 : List Value} {x8 : Int32} (h6 : f l1 = .inr (12, fs5)) (h7 : l1 < n) (h9 : fs5[2]? = some (.int x8)) (h10 : x8 ≤ l2 → mi_W d 145 41 [some (.ref l1), some (.int l2), o3, o4] [] (n, sl, f) Q) (h11 : ¬ (x8 ≤ l2) → mi_W d 145 13 [some (.ref l1), some (.int l2), o3, o4] [] (n, sl, f) Q) : mi_W d 145 5 [some (.ref l1), some (.int l2), o3, o4] [] (n, sl, f) Q := by
  refine w_iload_n cd_145_5 rfl ?_
  refine w_aload_n cd_145_6 rfl ?_
  refine w_getfield cd_145_7 (show mt_f 12 261 = some (12, 2) by decide +kernel) h6 h7 h9 ?_
  exact w_if_icmpge cd_145_10 (by decide) h10 h11
theorem b_145_13 {d : Nat} {Q : (Option Value ⊕ Nat) → mi_H → Prop} (n sl : Nat) (f : Nat → mi_C) {l1 : Nat} {l2 : Int32} {o3 : Option Value} {o4 : Option Value} {fs5 : List Value} {x8 : Nat} (m10 i10 : Nat) (g10 : Nat → Int32) (h6 : f l1 = .inr (12, fs5)) (h7 : l1 < n) (h9 : fs5[6]? = some (.ref x8)) (h11 : f x8 = .inl (0, m10, .inl g10)) (h12 : x8 < n ∨ x8 = mi_SC) (h13 : mi_ix l2 m10 i10) (h14 : (g10 i10) = 10 → mi_W d 145 35 [some (.ref l1), some (.int l2), o3, o4] [] (n, sl, f) Q) (h15 : ¬ ((g10 i10) = 10) → mi_W d 145 24 [some (.ref l1), some (.int l2), o3, o4] [] (n, sl, f) Q) : mi_W d 145 13 [some (.ref l1), some (.int l2), o3, o4] [] (n, sl, f) Q := by
  refine w_aload_n cd_145_13 rfl ?_
  refine w_getfield cd_145_14 (show mt_f 12 20 = some (12, 6) by decide +kernel) h6 h7 h9 ?_
  refine w_iload_n cd_145_17 rfl ?_
  refine w_iaload cd_145_18 h11 h12 h13 ?_
  refine w_bipush (v := 10) cd_145_19 (by decide) ?_
  exact w_if_icmpeq cd_145_21 (by decide) h14 h15
theorem b_145_24 {d : Nat} {Q : (Option Value ⊕ Nat) → mi_H → Prop} (n sl : Nat) (f : Nat → mi_C) {l1 : Nat} {l2 : Int32} {o3 : Option Value} {o4 : Option Value} {fs5 : List Value} {x8 : Nat} (m10 i10 : Nat) (g10 : Nat → Int32) (h6 : f l1 = .inr (12, fs5)) (h7 : l1 < n) (h9 : fs5[6]? = some (.ref x8)) (h11 : f x8 = .inl (0, m10, .inl g10)) (h12 : x8 < n ∨ x8 = mi_SC) (h13 : mi_ix l2 m10 i10) (h14 : ¬ (g10 i10) = 32 → mi_W d 145 41 [some (.ref l1), some (.int l2), o3, o4] [] (n, sl, f) Q) (h15 : ¬ (¬ (g10 i10) = 32) → mi_W d 145 35 [some (.ref l1), some (.int l2), o3, o4] [] (n, sl, f) Q) : mi_W d 145 24 [some (.ref l1), some (.int l2), o3, o4] [] (n, sl, f) Q := by
  refine w_aload_n cd_145_24 rfl ?_
  refine w_getfield cd_145_25 (show mt_f 12 20 = some (12, 6) by decide +kernel) h6 h7 h9 ?_
  refine w_iload_n cd_145_28 rfl ?_
  refine w_iaload cd_145_29 h11 h12 h13 ?_
  refine w_bipush (v := 32) cd_145_30 (by decide) ?_
  exact w_if_icmpne cd_145_32 (by decide) h14 h15
theorem b_145_35 {d : Nat} {Q : (Option Value ⊕ Nat) → mi_H → Prop} (n sl : Nat) (f : Nat → mi_C) {l1 : Nat} {l2 : Int32} {o3 : Option Value} {o4 : Option Value} (h5 : mi_W d 145 5 [some (.ref l1), some (.int (l2 + 1)), o3, o4] [] (n, sl, f) Q) : mi_W d 145 35 [some (.ref l1), some (.int l2), o3, o4] [] (n, sl, f) Q := by
  refine w_iinc (v := 1) (ls' := [some (.ref l1), some (.int (l2 + 1)), o3, o4]) cd_145_35 rfl (by decide) rfl ?_
  exact w_goto cd_145_38 (by decide) h5
theorem b_145_41 {d : Nat} {Q : (Option Value ⊕ Nat) → mi_H → Prop} (n sl : Nat) (f : Nat → mi_C) {l1 : Nat} {l2 : Int32} {o3 : Option Value} {o4 : Option Value} {fs5 : List Value} {fs9 : List Value} {fs13 : List Value} {x16 : Int32} (h6 : f l1 = .inr (12, fs5)) (h7 : l1 < n) (h8 : 9 < fs5.length) (h10 : (va_up f l1 (.inr (12, fs5.set 9 (.int l2)))) l1 = .inr (12, fs9)) (h11 : l1 < n) (h12 : 10 < fs9.length) (h14 : (va_up (va_up f l1 (.inr (12, fs5.set 9 (.int l2)))) l1 (.inr (12, fs9.set 10 (.int l2)))) l1 = .inr (12, fs13)) (h15 : l1 < n) (h17 : fs13[2]? = some (.int x16)) (h18 : ¬ l2 = x16 → mi_W d 145 66 [some (.ref l1), some (.int l2), o3, o4] [] (n, sl, (va_up (va_up f l1 (.inr (12, fs5.set 9 (.int l2)))) l1 (.inr (12, fs9.set 10 (.int l2))))) Q) (h19 : ¬ (¬ l2 = x16) → mi_W d 145 59 [some (.ref l1), some (.int l2), o3, o4] [] (n, sl, (va_up (va_up f l1 (.inr (12, fs5.set 9 (.int l2)))) l1 (.inr (12, fs9.set 10 (.int l2))))) Q) : mi_W d 145 41 [some (.ref l1), some (.int l2), o3, o4] [] (n, sl, f) Q := by
  refine w_aload_n cd_145_41 rfl ?_
  refine w_iload_n cd_145_42 rfl ?_
  refine w_putfield (w := .int l2) cd_145_43 (show mt_f 12 299 = some (12, 9) by decide +kernel) h6 h7 ⟨h8, rfl, Or.inl (by decide)⟩ ?_
  refine w_aload_n cd_145_46 rfl ?_
  refine w_iload_n cd_145_47 rfl ?_
  refine w_putfield (w := .int l2) cd_145_48 (show mt_f 12 297 = some (12, 10) by decide +kernel) h10 h11 ⟨h12, rfl, Or.inl (by decide)⟩ ?_
  refine w_iload_n cd_145_51 rfl ?_
  refine w_aload_n cd_145_52 rfl ?_
  refine w_getfield cd_145_53 (show mt_f 12 261 = some (12, 2) by decide +kernel) h14 h15 h17 ?_
  exact w_if_icmpne cd_145_56 (by decide) h18 h19
theorem b_145_59 {d : Nat} {Q : (Option Value ⊕ Nat) → mi_H → Prop} (n sl : Nat) (f : Nat → mi_C) {l1 : Nat} {l2 : Int32} {o3 : Option Value} {o4 : Option Value} {fs5 : List Value} (h6 : f l1 = .inr (12, fs5)) (h7 : l1 < n) (h8 : 8 < fs5.length) (h9 : Q (.inl (some (.int 1))) (n, sl, (va_up f l1 (.inr (12, fs5.set 8 (.int 0)))))) : mi_W d 145 59 [some (.ref l1), some (.int l2), o3, o4] [] (n, sl, f) Q := by
  refine w_aload_n cd_145_59 rfl ?_
  refine w_iconst (v := 0) cd_145_60 (by decide) ?_
  refine w_putfield (w := .int 0) cd_145_61 (show mt_f 12 310 = some (12, 8) by decide +kernel) h6 h7 ⟨h8, rfl, Or.inl (by decide)⟩ ?_
  refine w_iconst (v := 1) cd_145_64 (by decide) ?_
  exact w_ireturn_z cd_145_65 (by decide +kernel) (by decide) h9
theorem b_145_66 {d : Nat} {Q : (Option Value ⊕ Nat) → mi_H → Prop} (n sl : Nat) (f : Nat → mi_C) {l1 : Nat} {l2 : Int32} {o3 : Option Value} {o4 : Option Value} {fs5 : List Value} (h6 : f l1 = .inr (12, fs5)) (h7 : l1 < n) (h8 : mi_W d 146 0 (mi_en 2 [.ref l1, .int l2]) [] (n, sl, f) (mi_Kc d 145 68 [some (.ref l1), some (.int l2), o3, o4] [] Q)) : mi_W (d + 1) 145 66 [some (.ref l1), some (.int l2), o3, o4] [] (n, sl, f) Q := by
  refine w_aload_n cd_145_66 rfl ?_
  refine w_iload_n cd_145_67 rfl ?_
  exact w_invokevirtual cd_145_68 (show mt_m 12 313 = some (146, 0) by decide +kernel) (rest := []) rfl (as := [.ref l1, .int l2]) rfl h6 (Or.inl h7) ⟨Nat.le_of_ble_eq_true rfl, Nat.le_of_ble_eq_true rfl, Nat.le_of_ble_eq_true rfl⟩ h8
theorem b_145_71 {d : Nat} {Q : (Option Value ⊕ Nat) → mi_H → Prop} (n sl : Nat) (f : Nat → mi_C) {l1 : Nat} {l2 : Int32} {o3 : Option Value} {o4 : Option Value} {s5 : Int32} (h6 : mi_W d 147 0 (mi_en 1 [.int s5]) [] (n, sl, f) (mi_Kc d 145 71 [some (.ref l1), some (.int l2), o3, o4] [] Q)) : mi_W (d + 1) 145 71 [some (.ref l1), some (.int l2), o3, o4] [.int s5] (n, sl, f) Q := by
  exact w_invokestatic cd_145_71 (show mt_m 12 317 = some (147, 4) by decide +kernel) (by decide) (rest := []) rfl (as := [.int s5]) rfl ⟨Nat.le_of_ble_eq_true rfl, Nat.le_of_ble_eq_true rfl, Nat.le_of_ble_eq_true rfl⟩ h6
theorem b_145_74 {d : Nat} {Q : (Option Value ⊕ Nat) → mi_H → Prop} (n sl : Nat) (f : Nat → mi_C) {l1 : Nat} {l2 : Int32} {o3 : Option Value} {o4 : Option Value} {s5 : Int32} (h6 : s5 = (0 : Int32) → mi_W d 145 174 [some (.ref l1), some (.int l2), o3, o4] [] (n, sl, f) Q) (h7 : ¬ (s5 = (0 : Int32)) → mi_W d 145 77 [some (.ref l1), some (.int l2), o3, o4] [] (n, sl, f) Q) : mi_W d 145 74 [some (.ref l1), some (.int l2), o3, o4] [.int s5] (n, sl, f) Q := by
  exact w_ifeq cd_145_74 (by decide) h6 h7
theorem b_145_77 {d : Nat} {Q : (Option Value ⊕ Nat) → mi_H → Prop} (n sl : Nat) (f : Nat → mi_C) {l1 : Nat} {l2 : Int32} {o3 : Option Value} {o4 : Option Value} {fs5 : List Value} {x8 : Int32} {fs10 : List Value} {x13 : Int32} (h6 : f l1 = .inr (12, fs5)) (h7 : l1 < n) (h9 : fs5[10]? = some (.int x8)) (h11 : f l1 = .inr (12, fs10)) (h12 : l1 < n) (h14 : fs10[9]? = some (.int x13)) (h15 : 16 ≤ (x8 - x13) → mi_W d 145 132 [some (.ref l1), some (.int l2), o3, o4] [] (n, sl, f) Q) (h16 : ¬ (16 ≤ (x8 - x13)) → mi_W d 145 91 [some (.ref l1), some (.int l2), o3, o4] [] (n, sl, f) Q) : mi_W d 145 77 [some (.ref l1), some (.int l2), o3, o4] [] (n, sl, f) Q := by
  refine w_aload_n cd_145_77 rfl ?_
  refine w_getfield cd_145_78 (show mt_f 12 297 = some (12, 10) by decide +kernel) h6 h7 h9 ?_
  refine w_aload_n cd_145_81 rfl ?_
  refine w_getfield cd_145_82 (show mt_f 12 299 = some (12, 9) by decide +kernel) h11 h12 h14 ?_
  refine w_isub cd_145_85 ?_
  refine w_bipush (v := 16) cd_145_86 (by decide) ?_
  exact w_if_icmpge cd_145_88 (by decide) h15 h16
theorem b_145_91 {d : Nat} {Q : (Option Value ⊕ Nat) → mi_H → Prop} (n sl : Nat) (f : Nat → mi_C) {l1 : Nat} {l2 : Int32} {o3 : Option Value} {o4 : Option Value} {fs5 : List Value} {x8 : Int32} {fs10 : List Value} (h6 : f l1 = .inr (12, fs5)) (h7 : l1 < n) (h9 : fs5[10]? = some (.int x8)) (h11 : f l1 = .inr (12, fs10)) (h12 : l1 < n) (h13 : mi_W d 146 0 (mi_en 2 [.ref l1, .int x8]) [] (n, sl, f) (mi_Kc d 145 96 [some (.ref l1), some (.int l2), o3, o4] [] Q)) : mi_W (d + 1) 145 91 [some (.ref l1), some (.int l2), o3, o4] [] (n, sl, f) Q := by
  refine w_aload_n cd_145_91 rfl ?_
  refine w_aload_n cd_145_92 rfl ?_
  refine w_getfield cd_145_93 (show mt_f 12 297 = some (12, 10) by decide +kernel) h6 h7 h9 ?_
  exact w_invokevirtual cd_145_96 (show mt_m 12 313 = some (146, 0) by decide +kernel) (rest := []) rfl (as := [.ref l1, .int x8]) rfl h11 (Or.inl h12) ⟨Nat.le_of_ble_eq_true rfl, Nat.le_of_ble_eq_true rfl, Nat.le_of_ble_eq_true rfl⟩ h13
theorem b_145_99 {d : Nat} {Q : (Option Value ⊕ Nat) → mi_H → Prop} (n sl : Nat) (f : Nat → mi_C) {l1 : Nat} {l2 : Int32} {o3 : Option Value} {o4 : Option Value} {s5 : Int32} (h6 : mi_W d 147 0 (mi_en 1 [.int s5]) [] (n, sl, f) (mi_Kc d 145 99 [some (.ref l1), some (.int l2), o3, o4] [] Q)) : mi_W (d + 1) 145 99 [some (.ref l1), some (.int l2), o3, o4] [.int s5] (n, sl, f) Q := by
  exact w_invokestatic cd_145_99 (show mt_m 12 317 = some (147, 4) by decide +kernel) (by decide) (rest := []) rfl (as := [.int s5]) rfl ⟨Nat.le_of_ble_eq_true rfl, Nat.le_of_ble_eq_true rfl, Nat.le_of_ble_eq_true rfl⟩ h6
theorem b_145_102 {d : Nat} {Q : (Option Value ⊕ Nat) → mi_H → Prop} (n sl : Nat) (f : Nat → mi_C) {l1 : Nat} {l2 : Int32} {o3 : Option Value} {o4 : Option Value} {s5 : Int32} (h6 : ¬ s5 = (0 : Int32) → mi_W d 145 119 [some (.ref l1), some (.int l2), o3, o4] [] (n, sl, f) Q) (h7 : ¬ (¬ s5 = (0 : Int32)) → mi_W d 145 105 [some (.ref l1), some (.int l2), o3, o4] [] (n, sl, f) Q) : mi_W d 145 102 [some (.ref l1), some (.int l2), o3, o4] [.int s5] (n, sl, f) Q := by
  exact w_ifne cd_145_102 (by decide) h6 h7
theorem b_145_105 {d : Nat} {Q : (Option Value ⊕ Nat) → mi_H → Prop} (n sl : Nat) (f : Nat → mi_C) {l1 : Nat} {l2 : Int32} {o3 : Option Value} {o4 : Option Value} {fs5 : List Value} {x8 : Int32} {fs10 : List Value} (h6 : f l1 = .inr (12, fs5)) (h7 : l1 < n) (h9 : fs5[10]? = some (.int x8)) (h11 : f l1 = .inr (12, fs10)) (h12 : l1 < n) (h13 : mi_W d 146 0 (mi_en 2 [.ref l1, .int x8]) [] (n, sl, f) (mi_Kc d 145 110 [some (.ref l1), some (.int l2), o3, o4] [] Q)) : mi_W (d + 1) 145 105 [some (.ref l1), some (.int l2), o3, o4] [] (n, sl, f) Q := by
  refine w_aload_n cd_145_105 rfl ?_
  refine w_aload_n cd_145_106 rfl ?_
  refine w_getfield cd_145_107 (show mt_f 12 297 = some (12, 10) by decide +kernel) h6 h7 h9 ?_
  exact w_invokevirtual cd_145_110 (show mt_m 12 313 = some (146, 0) by decide +kernel) (rest := []) rfl (as := [.ref l1, .int x8]) rfl h11 (Or.inl h12) ⟨Nat.le_of_ble_eq_true rfl, Nat.le_of_ble_eq_true rfl, Nat.le_of_ble_eq_true rfl⟩ h13
theorem b_145_113 {d : Nat} {Q : (Option Value ⊕ Nat) → mi_H → Prop} (n sl : Nat) (f : Nat → mi_C) {l1 : Nat} {l2 : Int32} {o3 : Option Value} {o4 : Option Value} {s5 : Int32} (h6 : mi_W d 148 0 (mi_en 1 [.int s5]) [] (n, sl, f) (mi_Kc d 145 113 [some (.ref l1), some (.int l2), o3, o4] [] Q)) : mi_W (d + 1) 145 113 [some (.ref l1), some (.int l2), o3, o4] [.int s5] (n, sl, f) Q := by
  exact w_invokestatic cd_145_113 (show mt_m 12 320 = some (148, 4) by decide +kernel) (by decide) (rest := []) rfl (as := [.int s5]) rfl ⟨Nat.le_of_ble_eq_true rfl, Nat.le_of_ble_eq_true rfl, Nat.le_of_ble_eq_true rfl⟩ h6
theorem b_145_116 {d : Nat} {Q : (Option Value ⊕ Nat) → mi_H → Prop} (n sl : Nat) (f : Nat → mi_C) {l1 : Nat} {l2 : Int32} {o3 : Option Value} {o4 : Option Value} {s5 : Int32} (h6 : s5 = (0 : Int32) → mi_W d 145 132 [some (.ref l1), some (.int l2), o3, o4] [] (n, sl, f) Q) (h7 : ¬ (s5 = (0 : Int32)) → mi_W d 145 119 [some (.ref l1), some (.int l2), o3, o4] [] (n, sl, f) Q) : mi_W d 145 116 [some (.ref l1), some (.int l2), o3, o4] [.int s5] (n, sl, f) Q := by
  exact w_ifeq cd_145_116 (by decide) h6 h7
theorem b_145_119 {d : Nat} {Q : (Option Value ⊕ Nat) → mi_H → Prop} (n sl : Nat) (f : Nat → mi_C) {l1 : Nat} {l2 : Int32} {o3 : Option Value} {o4 : Option Value} {fs5 : List Value} {x8 : Int32} {fs10 : List Value} (h6 : f l1 = .inr (12, fs5)) (h7 : l1 < n) (h9 : fs5[10]? = some (.int x8)) (h11 : f l1 = .inr (12, fs10)) (h12 : l1 < n) (h13 : 10 < fs10.length) (h14 : mi_W d 145 77 [some (.ref l1), some (.int l2), o3, o4] [] (n, sl, (va_up f l1 (.inr (12, fs10.set 10 (.int (x8 + 1)))))) Q) : mi_W d 145 119 [some (.ref l1), some (.int l2), o3, o4] [] (n, sl, f) Q := by
  refine w_aload_n cd_145_119 rfl ?_
  refine w_dup_r cd_145_120 ?_
  refine w_getfield cd_145_121 (show mt_f 12 297 = some (12, 10) by decide +kernel) h6 h7 h9 ?_
  refine w_iconst (v := 1) cd_145_124 (by decide) ?_
  refine w_iadd cd_145_125 ?_
  refine w_putfield (w := .int (x8 + 1)) cd_145_126 (show mt_f 12 297 = some (12, 10) by decide +kernel) h11 h12 ⟨h13, rfl, Or.inl (by decide)⟩ ?_
  exact w_goto cd_145_129 (by decide) h14
theorem b_145_132 {d : Nat} {Q : (Option Value ⊕ Nat) → mi_H → Prop} (n sl : Nat) (f : Nat → mi_C) {l1 : Nat} {l2 : Int32} {o3 : Option Value} {o4 : Option Value} {fs5 : List Value} (h6 : f l1 = .inr (12, fs5)) (h7 : l1 < n) (h8 : 8 < fs5.length) (h9 : mi_W d 145 139 [some (.ref l1), some (.int l2), some (.int 0), o4] [] (n, sl, (va_up f l1 (.inr (12, fs5.set 8 (.int 1))))) Q) : mi_W d 145 132 [some (.ref l1), some (.int l2), o3, o4] [] (n, sl, f) Q := by
  refine w_aload_n cd_145_132 rfl ?_
  refine w_iconst (v := 1) cd_145_133 (by decide) ?_
  refine w_putfield (w := .int 1) cd_145_134 (show mt_f 12 310 = some (12, 8) by decide +kernel) h6 h7 ⟨h8, rfl, Or.inl (by decide)⟩ ?_
  refine w_iconst (v := 0) cd_145_137 (by decide) ?_
  refine w_istore_n (ls' := [some (.ref l1), some (.int l2), some (.int 0), o4]) cd_145_138 (Nat.le_of_ble_eq_true rfl) rfl ?_
  exact h9
theorem b_145_139 {d : Nat} {Q : (Option Value ⊕ Nat) → mi_H → Prop} (n sl : Nat) (f : Nat → mi_C) {l1 : Nat} {l2 : Int32} {l3 : Int32} {o4 : Option Value} {fs5 : List Value} {x8 : Nat} (m10 ka10 : Nat) (g10 : (Nat → Int32) ⊕ (Nat → Int64) ⊕ (Nat → UInt32) ⊕ (Nat → UInt64) ⊕ (Nat → Option Nat)) (h6 : f l1 = .inr (12, fs5)) (h7 : l1 < n) (h9 : fs5[7]? = some (.ref x8)) (h11 : f x8 = .inl (ka10, m10, g10)) (h12 : x8 < n ∧ ka10 < mt_na) (h13 : (Int32.ofNat m10) ≤ l3 → mi_W d 145 172 [some (.ref l1), some (.int l2), some (.int l3), o4] [] (n, sl, f) Q) (h14 : ¬ ((Int32.ofNat m10) ≤ l3) → mi_W d 145 148 [some (.ref l1), some (.int l2), some (.int l3), o4] [] (n, sl, f) Q) : mi_W d 145 139 [some (.ref l1), some (.int l2), some (.int l3), o4] [] (n, sl, f) Q := by
  refine w_iload_n cd_145_139 rfl ?_
  refine w_aload_n cd_145_140 rfl ?_
  refine w_getfield cd_145_141 (show mt_f 12 73 = some (12, 7) by decide +kernel) h6 h7 h9 ?_
  refine w_arraylength cd_145_144 h11 h12 ?_
  exact w_if_icmpge cd_145_145 (by decide) h13 h14
theorem b_145_148 {d : Nat} {Q : (Option Value ⊕ Nat) → mi_H → Prop} (n sl : Nat) (f : Nat → mi_C) {l1 : Nat} {l2 : Int32} {l3 : Int32} {o4 : Option Value} {fs5 : List Value} {x8 : Nat} (m10 i10 ka10 : Nat) (g10 : Nat → Option Nat) {x15 : Nat} {fs17 : List Value} (h6 : f l1 = .inr (12, fs5)) (h7 : l1 < n) (h9 : fs5[7]? = some (.ref x8)) (h11 : f x8 = .inl (ka10, m10, .inr (.inr (.inr (.inr g10))))) (h12 : x8 < n) (h13 : 4 ≤ ka10 ∧ ka10 < mt_na) (h14 : mi_ix l3 m10 i10) (h16 : g10 i10 = some x15) (h18 : f l1 = .inr (12, fs17)) (h19 : l1 < n) (h20 : mi_W d 149 0 (mi_en 3 [.ref l1, .ref x15]) [] (n, sl, f) (mi_Kc d 145 155 [some (.ref l1), some (.int l2), some (.int l3), o4] [] Q)) : mi_W (d + 1) 145 148 [some (.ref l1), some (.int l2), some (.int l3), o4] [] (n, sl, f) Q := by
  refine w_aload_n cd_145_148 rfl ?_
  refine w_aload_n cd_145_149 rfl ?_
  refine w_getfield cd_145_150 (show mt_f 12 73 = some (12, 7) by decide +kernel) h6 h7 h9 ?_
  refine w_iload_n cd_145_153 rfl ?_
  refine w_aaload (w := .ref x15) cd_145_154 h11 h12 h13 h14 (by rw [h16]; rfl) ?_
  exact w_invokevirtual cd_145_155 (show mt_m 12 323 = some (149, 0) by decide +kernel) (rest := []) rfl (as := [.ref l1, .ref x15]) rfl h18 (Or.inl h19) ⟨Nat.le_of_ble_eq_true rfl, Nat.le_of_ble_eq_true rfl, Nat.le_of_ble_eq_true rfl⟩ h20
theorem b_145_158 {d : Nat} {Q : (Option Value ⊕ Nat) → mi_H → Prop} (n sl : Nat) (f : Nat → mi_C) {l1 : Nat} {l2 : Int32} {l3 : Int32} {o4 : Option Value} {s5 : Int32} (h6 : s5 = (0 : Int32) → mi_W d 145 166 [some (.ref l1), some (.int l2), some (.int l3), o4] [] (n, sl, f) Q) (h7 : ¬ (s5 = (0 : Int32)) → mi_W d 145 161 [some (.ref l1), some (.int l2), some (.int l3), o4] [] (n, sl, f) Q) : mi_W d 145 158 [some (.ref l1), some (.int l2), some (.int l3), o4] [.int s5] (n, sl, f) Q := by
  exact w_ifeq cd_145_158 (by decide) h6 h7
theorem b_145_161 {d : Nat} {Q : (Option Value ⊕ Nat) → mi_H → Prop} (n sl : Nat) (f : Nat → mi_C) {l1 : Nat} {l2 : Int32} {l3 : Int32} {o4 : Option Value} {fs5 : List Value} (h6 : f l1 = .inr (12, fs5)) (h7 : l1 < n) (h8 : 8 < fs5.length) (h9 : mi_W d 145 166 [some (.ref l1), some (.int l2), some (.int l3), o4] [] (n, sl, (va_up f l1 (.inr (12, fs5.set 8 (.int 4))))) Q) : mi_W d 145 161 [some (.ref l1), some (.int l2), some (.int l3), o4] [] (n, sl, f) Q := by
  refine w_aload_n cd_145_161 rfl ?_
  refine w_iconst (v := 4) cd_145_162 (by decide) ?_
  refine w_putfield (w := .int 4) cd_145_163 (show mt_f 12 310 = some (12, 8) by decide +kernel) h6 h7 ⟨h8, rfl, Or.inl (by decide)⟩ ?_
  exact h9
theorem b_145_166 {d : Nat} {Q : (Option Value ⊕ Nat) → mi_H → Prop} (n sl : Nat) (f : Nat → mi_C) {l1 : Nat} {l2 : Int32} {l3 : Int32} {o4 : Option Value} (h5 : mi_W d 145 139 [some (.ref l1), some (.int l2), some (.int (l3 + 1)), o4] [] (n, sl, f) Q) : mi_W d 145 166 [some (.ref l1), some (.int l2), some (.int l3), o4] [] (n, sl, f) Q := by
  refine w_iinc (v := 1) (ls' := [some (.ref l1), some (.int l2), some (.int (l3 + 1)), o4]) cd_145_166 rfl (by decide) rfl ?_
  exact w_goto cd_145_169 (by decide) h5
theorem b_145_172 {d : Nat} {Q : (Option Value ⊕ Nat) → mi_H → Prop} (n sl : Nat) (f : Nat → mi_C) {l1 : Nat} {l2 : Int32} {l3 : Int32} {o4 : Option Value} (h5 : Q (.inl (some (.int 1))) (n, sl, f)) : mi_W d 145 172 [some (.ref l1), some (.int l2), some (.int l3), o4] [] (n, sl, f) Q := by
  refine w_iconst (v := 1) cd_145_172 (by decide) ?_
  exact w_ireturn_z cd_145_173 (by decide +kernel) (by decide) h5
theorem b_145_174 {d : Nat} {Q : (Option Value ⊕ Nat) → mi_H → Prop} (n sl : Nat) (f : Nat → mi_C) {l1 : Nat} {l2 : Int32} {o3 : Option Value} {o4 : Option Value} {fs5 : List Value} (h6 : f l1 = .inr (12, fs5)) (h7 : l1 < n) (h8 : mi_W d 146 0 (mi_en 2 [.ref l1, .int l2]) [] (n, sl, f) (mi_Kc d 145 176 [some (.ref l1), some (.int l2), o3, o4] [] Q)) : mi_W (d + 1) 145 174 [some (.ref l1), some (.int l2), o3, o4] [] (n, sl, f) Q := by
  refine w_aload_n cd_145_174 rfl ?_
  refine w_iload_n cd_145_175 rfl ?_
  exact w_invokevirtual cd_145_176 (show mt_m 12 313 = some (146, 0) by decide +kernel) (rest := []) rfl (as := [.ref l1, .int l2]) rfl h6 (Or.inl h7) ⟨Nat.le_of_ble_eq_true rfl, Nat.le_of_ble_eq_true rfl, Nat.le_of_ble_eq_true rfl⟩ h8
theorem b_145_179 {d : Nat} {Q : (Option Value ⊕ Nat) → mi_H → Prop} (n sl : Nat) (f : Nat → mi_C) {l1 : Nat} {l2 : Int32} {o3 : Option Value} {o4 : Option Value} {s5 : Int32} (h6 : ¬ s5 = 45 → mi_W d 145 188 [some (.ref l1), some (.int l2), o3, o4] [] (n, sl, f) Q) (h7 : ¬ (¬ s5 = 45) → mi_W d 145 184 [some (.ref l1), some (.int l2), o3, o4] [] (n, sl, f) Q) : mi_W d 145 179 [some (.ref l1), some (.int l2), o3, o4] [.int s5] (n, sl, f) Q := by
  refine w_bipush (v := 45) cd_145_179 (by decide) ?_
  exact w_if_icmpne cd_145_181 (by decide) h6 h7
theorem b_145_184 {d : Nat} {Q : (Option Value ⊕ Nat) → mi_H → Prop} (n sl : Nat) (f : Nat → mi_C) {l1 : Nat} {l2 : Int32} {o3 : Option Value} {o4 : Option Value} (h5 : mi_W d 145 189 [some (.ref l1), some (.int l2), o3, o4] [.int 1] (n, sl, f) Q) : mi_W d 145 184 [some (.ref l1), some (.int l2), o3, o4] [] (n, sl, f) Q := by
  refine w_iconst (v := 1) cd_145_184 (by decide) ?_
  exact w_goto cd_145_185 (by decide) h5
theorem b_145_188 {d : Nat} {Q : (Option Value ⊕ Nat) → mi_H → Prop} (n sl : Nat) (f : Nat → mi_C) {l1 : Nat} {l2 : Int32} {o3 : Option Value} {o4 : Option Value} (h5 : mi_W d 145 189 [some (.ref l1), some (.int l2), o3, o4] [.int 0] (n, sl, f) Q) : mi_W d 145 188 [some (.ref l1), some (.int l2), o3, o4] [] (n, sl, f) Q := by
  refine w_iconst (v := 0) cd_145_188 (by decide) ?_
  exact h5
theorem b_145_189 {d : Nat} {Q : (Option Value ⊕ Nat) → mi_H → Prop} (n sl : Nat) (f : Nat → mi_C) {l1 : Nat} {l2 : Int32} {o3 : Option Value} {o4 : Option Value} {s5 : Int32} {fs6 : List Value} (h7 : f l1 = .inr (12, fs6)) (h8 : l1 < n) (h9 : mi_W d 146 0 (mi_en 2 [.ref l1, .int l2]) [] (n, sl, f) (mi_Kc d 145 192 [some (.ref l1), some (.int l2), some (.int s5), o4] [] Q)) : mi_W (d + 1) 145 189 [some (.ref l1), some (.int l2), o3, o4] [.int s5] (n, sl, f) Q := by
  refine w_istore_n (ls' := [some (.ref l1), some (.int l2), some (.int s5), o4]) cd_145_189 (Nat.le_of_ble_eq_true rfl) rfl ?_
  refine w_aload_n cd_145_190 rfl ?_
  refine w_iload_n cd_145_191 rfl ?_
  exact w_invokevirtual cd_145_192 (show mt_m 12 313 = some (146, 0) by decide +kernel) (rest := []) rfl (as := [.ref l1, .int l2]) rfl h7 (Or.inl h8) ⟨Nat.le_of_ble_eq_true rfl, Nat.le_of_ble_eq_true rfl, Nat.le_of_ble_eq_true rfl⟩ h9
theorem b_145_195 {d : Nat} {Q : (Option Value ⊕ Nat) → mi_H → Prop} (n sl : Nat) (f : Nat → mi_C) {l1 : Nat} {l2 : Int32} {l3 : Int32} {o4 : Option Value} {s5 : Int32} (h6 : mi_W d 148 0 (mi_en 1 [.int s5]) [] (n, sl, f) (mi_Kc d 145 195 [some (.ref l1), some (.int l2), some (.int l3), o4] [] Q)) : mi_W (d + 1) 145 195 [some (.ref l1), some (.int l2), some (.int l3), o4] [.int s5] (n, sl, f) Q := by
  exact w_invokestatic cd_145_195 (show mt_m 12 320 = some (148, 4) by decide +kernel) (by decide) (rest := []) rfl (as := [.int s5]) rfl ⟨Nat.le_of_ble_eq_true rfl, Nat.le_of_ble_eq_true rfl, Nat.le_of_ble_eq_true rfl⟩ h6
theorem b_145_198 {d : Nat} {Q : (Option Value ⊕ Nat) → mi_H → Prop} (n sl : Nat) (f : Nat → mi_C) {l1 : Nat} {l2 : Int32} {l3 : Int32} {o4 : Option Value} {s5 : Int32} (h6 : ¬ s5 = (0 : Int32) → mi_W d 145 218 [some (.ref l1), some (.int l2), some (.int l3), o4] [] (n, sl, f) Q) (h7 : ¬ (¬ s5 = (0 : Int32)) → mi_W d 145 201 [some (.ref l1), some (.int l2), some (.int l3), o4] [] (n, sl, f) Q) : mi_W d 145 198 [some (.ref l1), some (.int l2), some (.int l3), o4] [.int s5] (n, sl, f) Q := by
  exact w_ifne cd_145_198 (by decide) h6 h7
theorem b_145_201 {d : Nat} {Q : (Option Value ⊕ Nat) → mi_H → Prop} (n sl : Nat) (f : Nat → mi_C) {l1 : Nat} {l2 : Int32} {l3 : Int32} {o4 : Option Value} (h5 : l3 = (0 : Int32) → mi_W d 145 319 [some (.ref l1), some (.int l2), some (.int l3), o4] [] (n, sl, f) Q) (h6 : ¬ (l3 = (0 : Int32)) → mi_W d 145 205 [some (.ref l1), some (.int l2), some (.int l3), o4] [] (n, sl, f) Q) : mi_W d 145 201 [some (.ref l1), some (.int l2), some (.int l3), o4] [] (n, sl, f) Q := by
  refine w_iload_n cd_145_201 rfl ?_
  exact w_ifeq cd_145_202 (by decide) h5 h6
theorem b_145_205 {d : Nat} {Q : (Option Value ⊕ Nat) → mi_H → Prop} (n sl : Nat) (f : Nat → mi_C) {l1 : Nat} {l2 : Int32} {l3 : Int32} {o4 : Option Value} {fs5 : List Value} (h6 : f l1 = .inr (12, fs5)) (h7 : l1 < n) (h8 : mi_W d 146 0 (mi_en 2 [.ref l1, .int (l2 + 1)]) [] (n, sl, f) (mi_Kc d 145 209 [some (.ref l1), some (.int l2), some (.int l3), o4] [] Q)) : mi_W (d + 1) 145 205 [some (.ref l1), some (.int l2), some (.int l3), o4] [] (n, sl, f) Q := by
  refine w_aload_n cd_145_205 rfl ?_
  refine w_iload_n cd_145_206 rfl ?_
  refine w_iconst (v := 1) cd_145_207 (by decide) ?_
  refine w_iadd cd_145_208 ?_
  exact w_invokevirtual cd_145_209 (show mt_m 12 313 = some (146, 0) by decide +kernel) (rest := []) rfl (as := [.ref l1, .int (l2 + 1)]) rfl h6 (Or.inl h7) ⟨Nat.le_of_ble_eq_true rfl, Nat.le_of_ble_eq_true rfl, Nat.le_of_ble_eq_true rfl⟩ h8
theorem b_145_212 {d : Nat} {Q : (Option Value ⊕ Nat) → mi_H → Prop} (n sl : Nat) (f : Nat → mi_C) {l1 : Nat} {l2 : Int32} {l3 : Int32} {o4 : Option Value} {s5 : Int32} (h6 : mi_W d 148 0 (mi_en 1 [.int s5]) [] (n, sl, f) (mi_Kc d 145 212 [some (.ref l1), some (.int l2), some (.int l3), o4] [] Q)) : mi_W (d + 1) 145 212 [some (.ref l1), some (.int l2), some (.int l3), o4] [.int s5] (n, sl, f) Q := by
  exact w_invokestatic cd_145_212 (show mt_m 12 320 = some (148, 4) by decide +kernel) (by decide) (rest := []) rfl (as := [.int s5]) rfl ⟨Nat.le_of_ble_eq_true rfl, Nat.le_of_ble_eq_true rfl, Nat.le_of_ble_eq_true rfl⟩ h6
theorem b_145_215 {d : Nat} {Q : (Option Value ⊕ Nat) → mi_H → Prop} (n sl : Nat) (f : Nat → mi_C) {l1 : Nat} {l2 : Int32} {l3 : Int32} {o4 : Option Value} {s5 : Int32} (h6 : s5 = (0 : Int32) → mi_W d 145 319 [some (.ref l1), some (.int l2), some (.int l3), o4] [] (n, sl, f) Q) (h7 : ¬ (s5 = (0 : Int32)) → mi_W d 145 218 [some (.ref l1), some (.int l2), some (.int l3), o4] [] (n, sl, f) Q) : mi_W d 145 215 [some (.ref l1), some (.int l2), some (.int l3), o4] [.int s5] (n, sl, f) Q := by
  exact w_ifeq cd_145_215 (by decide) h6 h7
theorem b_145_218 {d : Nat} {Q : (Option Value ⊕ Nat) → mi_H → Prop} (n sl : Nat) (f : Nat → mi_C) {l1 : Nat} {l2 : Int32} {l3 : Int32} {o4 : Option Value} {fs5 : List Value} (h6 : f l1 = .inr (12, fs5)) (h7 : l1 < n) (h8 : 8 < fs5.length) (h9 : l3 = (0 : Int32) → mi_W d 145 234 [some (.ref l1), some (.int l2), some (.int l3), o4] [.ref l1] (n, sl, (va_up f l1 (.inr (12, fs5.set 8 (.int 2))))) Q) (h10 : ¬ (l3 = (0 : Int32)) → mi_W d 145 228 [some (.ref l1), some (.int l2), some (.int l3), o4] [.ref l1] (n, sl, (va_up f l1 (.inr (12, fs5.set 8 (.int 2))))) Q) : mi_W d 145 218 [some (.ref l1), some (.int l2), some (.int l3), o4] [] (n, sl, f) Q := by
  refine w_aload_n cd_145_218 rfl ?_
  refine w_iconst (v := 2) cd_145_219 (by decide) ?_
  refine w_putfield (w := .int 2) cd_145_220 (show mt_f 12 310 = some (12, 8) by decide +kernel) h6 h7 ⟨h8, rfl, Or.inl (by decide)⟩ ?_
  refine w_aload_n cd_145_223 rfl ?_
  refine w_iload_n cd_145_224 rfl ?_
  exact w_ifeq cd_145_225 (by decide) h9 h10
theorem b_145_228 {d : Nat} {Q : (Option Value ⊕ Nat) → mi_H → Prop} (n sl : Nat) (f : Nat → mi_C) {l1 : Nat} {l2 : Int32} {l3 : Int32} {o4 : Option Value} {s5 : Nat} (h6 : mi_W d 145 235 [some (.ref l1), some (.int l2), some (.int l3), o4] [.int (l2 + 1), .ref s5] (n, sl, f) Q) : mi_W d 145 228 [some (.ref l1), some (.int l2), some (.int l3), o4] [.ref s5] (n, sl, f) Q := by
  refine w_iload_n cd_145_228 rfl ?_
  refine w_iconst (v := 1) cd_145_229 (by decide) ?_
  refine w_iadd cd_145_230 ?_
  exact w_goto cd_145_231 (by decide) h6
theorem b_145_234 {d : Nat} {Q : (Option Value ⊕ Nat) → mi_H → Prop} (n sl : Nat) (f : Nat → mi_C) {l1 : Nat} {l2 : Int32} {l3 : Int32} {o4 : Option Value} {s5 : Nat} (h6 : mi_W d 145 235 [some (.ref l1), some (.int l2), some (.int l3), o4] [.int l2, .ref s5] (n, sl, f) Q) : mi_W d 145 234 [some (.ref l1), some (.int l2), some (.int l3), o4] [.ref s5] (n, sl, f) Q := by
  refine w_iload_n cd_145_234 rfl ?_
  exact h6
theorem b_145_235 {d : Nat} {Q : (Option Value ⊕ Nat) → mi_H → Prop} (n sl : Nat) (f : Nat → mi_C) {l1 : Nat} {l2 : Int32} {l3 : Int32} {o4 : Option Value} {s5 : Int32} {s6 : Nat} {fs7 : List Value} {fs11 : List Value} (h8 : f s6 = .inr (12, fs7)) (h9 : s6 < n) (h10 : 10 < fs7.length) (h12 : (va_up f s6 (.inr (12, fs7.set 10 (.int s5)))) l1 = .inr (12, fs11)) (h13 : l1 < n) (h14 : 11 < fs11.length) (h15 : mi_W d 145 245 [some (.ref l1), some (.int l2), some (.int l3), some (.int 0)] [] (n, sl, (va_up (va_up f s6 (.inr (12, fs7.set 10 (.int s5)))) l1 (.inr (12, fs11.set 11 (.long 0))))) Q) : mi_W d 145 235 [some (.ref l1), some (.int l2), some (.int l3), o4] [.int s5, .ref s6] (n, sl, f) Q := by
  refine w_putfield (w := .int s5) cd_145_235 (show mt_f 12 297 = some (12, 10) by decide +kernel) h8 h9 ⟨h10, rfl, Or.inl (by decide)⟩ ?_
  refine w_aload_n cd_145_238 rfl ?_
  refine w_lconst (lv := 0) cd_145_239 (by decide) ?_
  refine w_putfield (w := .long 0) cd_145_240 (show mt_f 12 327 = some (12, 11) by decide +kernel) h12 h13 ⟨h14, rfl, Or.inl (by decide)⟩ ?_
  refine w_iconst (v := 0) cd_145_243 (by decide) ?_
  refine w_istore_n (ls' := [some (.ref l1), some (.int l2), some (.int l3), some (.int 0)]) cd_145_244 (Nat.le_of_ble_eq_true rfl) rfl ?_
  exact h15
theorem b_145_245 {d : Nat} {Q : (Option Value ⊕ Nat) → mi_H → Prop} (n sl : Nat) (f : Nat → mi_C) {l1 : Nat} {l2 : Int32} {l3 : Int32} {l4 : Int32} {fs5 : List Value} {x8 : Int32} {fs10 : List Value} (h6 : f l1 = .inr (12, fs5)) (h7 : l1 < n) (h9 : fs5[10]? = some (.int x8)) (h11 : f l1 = .inr (12, fs10)) (h12 : l1 < n) (h13 : mi_W d 146 0 (mi_en 2 [.ref l1, .int x8]) [] (n, sl, f) (mi_Kc d 145 250 [some (.ref l1), some (.int l2), some (.int l3), some (.int l4)] [] Q)) : mi_W (d + 1) 145 245 [some (.ref l1), some (.int l2), some (.int l3), some (.int l4)] [] (n, sl, f) Q := by
  refine w_aload_n cd_145_245 rfl ?_
  refine w_aload_n cd_145_246 rfl ?_
  refine w_getfield cd_145_247 (show mt_f 12 297 = some (12, 10) by decide +kernel) h6 h7 h9 ?_
  exact w_invokevirtual cd_145_250 (show mt_m 12 313 = some (146, 0) by decide +kernel) (rest := []) rfl (as := [.ref l1, .int x8]) rfl h11 (Or.inl h12) ⟨Nat.le_of_ble_eq_true rfl, Nat.le_of_ble_eq_true rfl, Nat.le_of_ble_eq_true rfl⟩ h13
theorem b_145_253 {d : Nat} {Q : (Option Value ⊕ Nat) → mi_H → Prop} (n sl : Nat) (f : Nat → mi_C) {l1 : Nat} {l2 : Int32} {l3 : Int32} {l4 : Int32} {s5 : Int32} (h6 : mi_W d 148 0 (mi_en 1 [.int s5]) [] (n, sl, f) (mi_Kc d 145 253 [some (.ref l1), some (.int l2), some (.int l3), some (.int l4)] [] Q)) : mi_W (d + 1) 145 253 [some (.ref l1), some (.int l2), some (.int l3), some (.int l4)] [.int s5] (n, sl, f) Q := by
  exact w_invokestatic cd_145_253 (show mt_m 12 320 = some (148, 4) by decide +kernel) (by decide) (rest := []) rfl (as := [.int s5]) rfl ⟨Nat.le_of_ble_eq_true rfl, Nat.le_of_ble_eq_true rfl, Nat.le_of_ble_eq_true rfl⟩ h6
theorem b_145_256 {d : Nat} {Q : (Option Value ⊕ Nat) → mi_H → Prop} (n sl : Nat) (f : Nat → mi_C) {l1 : Nat} {l2 : Int32} {l3 : Int32} {l4 : Int32} {s5 : Int32} (h6 : s5 = (0 : Int32) → mi_W d 145 304 [some (.ref l1), some (.int l2), some (.int l3), some (.int l4)] [] (n, sl, f) Q) (h7 : ¬ (s5 = (0 : Int32)) → mi_W d 145 259 [some (.ref l1), some (.int l2), some (.int l3), some (.int l4)] [] (n, sl, f) Q) : mi_W d 145 256 [some (.ref l1), some (.int l2), some (.int l3), some (.int l4)] [.int s5] (n, sl, f) Q := by
  exact w_ifeq cd_145_256 (by decide) h6 h7
theorem b_145_259 {d : Nat} {Q : (Option Value ⊕ Nat) → mi_H → Prop} (n sl : Nat) (f : Nat → mi_C) {l1 : Nat} {l2 : Int32} {l3 : Int32} {l4 : Int32} (h5 : 17 ≤ l4 → mi_W d 145 304 [some (.ref l1), some (.int l2), some (.int l3), some (.int l4)] [] (n, sl, f) Q) (h6 : ¬ (17 ≤ l4) → mi_W d 145 265 [some (.ref l1), some (.int l2), some (.int l3), some (.int l4)] [] (n, sl, f) Q) : mi_W d 145 259 [some (.ref l1), some (.int l2), some (.int l3), some (.int l4)] [] (n, sl, f) Q := by
  refine w_iload_n cd_145_259 rfl ?_
  refine w_bipush (v := 17) cd_145_260 (by decide) ?_
  exact w_if_icmpge cd_145_262 (by decide) h5 h6
theorem b_145_265 {d : Nat} {Q : (Option Value ⊕ Nat) → mi_H → Prop} (n sl : Nat) (f : Nat → mi_C) {l1 : Nat} {l2 : Int32} {l3 : Int32} {l4 : Int32} {fs5 : List Value} {x8 : Int64} {fs10 : List Value} {x13 : Int32} {fs15 : List Value} {fs19 : List Value} (h6 : f l1 = .inr (12, fs5)) (h7 : l1 < n) (h9 : fs5[11]? = some (.long x8)) (h11 : f l1 = .inr (12, fs10)) (h12 : l1 < n) (h14 : fs10[10]? = some (.int x13)) (h16 : f l1 = .inr (12, fs15)) (h17 : l1 < n) (h18 : 10 < fs15.length) (h20 : (va_up f l1 (.inr (12, fs15.set 10 (.int (x13 + 1))))) l1 = .inr (12, fs19)) (h21 : l1 < n) (h22 : mi_W d 146 0 (mi_en 2 [.ref l1, .int x13]) [] (n, sl, (va_up f l1 (.inr (12, fs15.set 10 (.int (x13 + 1)))))) (mi_Kc d 145 286 [some (.ref l1), some (.int l2), some (.int l3), some (.int l4)] [.long (10 * x8), .ref l1] Q)) : mi_W (d + 1) 145 265 [some (.ref l1), some (.int l2), some (.int l3), some (.int l4)] [] (n, sl, f) Q := by
  refine w_aload_n cd_145_265 rfl ?_
  refine w_ldc2_w (lv := 10) cd_145_266 (by decide +kernel) ?_
  refine w_aload_n cd_145_269 rfl ?_
  refine w_getfield cd_145_270 (show mt_f 12 327 = some (12, 11) by decide +kernel) h6 h7 h9 ?_
  refine w_lmul cd_145_273 ?_
  refine w_aload_n cd_145_274 rfl ?_
  refine w_aload_n cd_145_275 rfl ?_
  refine w_dup_r cd_145_276 ?_
  refine w_getfield cd_145_277 (show mt_f 12 297 = some (12, 10) by decide +kernel) h11 h12 h14 ?_
  refine w_dup_x1_ir cd_145_280 ?_
  refine w_iconst (v := 1) cd_145_281 (by decide) ?_
  refine w_iadd cd_145_282 ?_
  refine w_putfield (w := .int (x13 + 1)) cd_145_283 (show mt_f 12 297 = some (12, 10) by decide +kernel) h16 h17 ⟨h18, rfl, Or.inl (by decide)⟩ ?_
  exact w_invokevirtual cd_145_286 (show mt_m 12 313 = some (146, 0) by decide +kernel) (rest := [.long (10 * x8), .ref l1]) rfl (as := [.ref l1, .int x13]) rfl h20 (Or.inl h21) ⟨Nat.le_of_ble_eq_true rfl, Nat.le_of_ble_eq_true rfl, Nat.le_of_ble_eq_true rfl⟩ h22
theorem b_145_289 {d : Nat} {Q : (Option Value ⊕ Nat) → mi_H → Prop} (n sl : Nat) (f : Nat → mi_C) {l1 : Nat} {l2 : Int32} {l3 : Int32} {l4 : Int32} {s5 : Int32} {s6 : Int64} {s7 : Nat} {fs8 : List Value} (h9 : f s7 = .inr (12, fs8)) (h10 : s7 < n) (h11 : 11 < fs8.length) (h12 : mi_W d 145 245 [some (.ref l1), some (.int l2), some (.int l3), some (.int (l4 + 1))] [] (n, sl, (va_up f s7 (.inr (12, fs8.set 11 (.long ((s6 + ((s5 : Int32).toInt64)) - 48)))))) Q) : mi_W d 145 289 [some (.ref l1), some (.int l2), some (.int l3), some (.int l4)] [.int s5, .long s6, .ref s7] (n, sl, f) Q := by
  refine w_i2l cd_145_289 ?_
  refine w_ladd cd_145_290 ?_
  refine w_ldc2_w (lv := 48) cd_145_291 (by decide +kernel) ?_
  refine w_lsub cd_145_294 ?_
  refine w_putfield (w := .long ((s6 + ((s5 : Int32).toInt64)) - 48)) cd_145_295 (show mt_f 12 327 = some (12, 11) by decide +kernel) h9 h10 ⟨h11, rfl, Or.inl (by decide)⟩ ?_
  refine w_iinc (v := 1) (ls' := [some (.ref l1), some (.int l2), some (.int l3), some (.int (l4 + 1))]) cd_145_298 rfl (by decide) rfl ?_
  exact w_goto cd_145_301 (by decide) h12
theorem b_145_304 {d : Nat} {Q : (Option Value ⊕ Nat) → mi_H → Prop} (n sl : Nat) (f : Nat → mi_C) {l1 : Nat} {l2 : Int32} {l3 : Int32} {l4 : Int32} (h5 : l3 = (0 : Int32) → mi_W d 145 317 [some (.ref l1), some (.int l2), some (.int l3), some (.int l4)] [] (n, sl, f) Q) (h6 : ¬ (l3 = (0 : Int32)) → mi_W d 145 308 [some (.ref l1), some (.int l2), some (.int l3), some (.int l4)] [] (n, sl, f) Q) : mi_W d 145 304 [some (.ref l1), some (.int l2), some (.int l3), some (.int l4)] [] (n, sl, f) Q := by
  refine w_iload_n cd_145_304 rfl ?_
  exact w_ifeq cd_145_305 (by decide) h5 h6
theorem b_145_308 {d : Nat} {Q : (Option Value ⊕ Nat) → mi_H → Prop} (n sl : Nat) (f : Nat → mi_C) {l1 : Nat} {l2 : Int32} {l3 : Int32} {l4 : Int32} {fs5 : List Value} {x8 : Int64} {fs10 : List Value} (h6 : f l1 = .inr (12, fs5)) (h7 : l1 < n) (h9 : fs5[11]? = some (.long x8)) (h11 : f l1 = .inr (12, fs10)) (h12 : l1 < n) (h13 : 11 < fs10.length) (h14 : mi_W d 145 317 [some (.ref l1), some (.int l2), some (.int l3), some (.int l4)] [] (n, sl, (va_up f l1 (.inr (12, fs10.set 11 (.long (-x8)))))) Q) : mi_W d 145 308 [some (.ref l1), some (.int l2), some (.int l3), some (.int l4)] [] (n, sl, f) Q := by
  refine w_aload_n cd_145_308 rfl ?_
  refine w_aload_n cd_145_309 rfl ?_
  refine w_getfield cd_145_310 (show mt_f 12 327 = some (12, 11) by decide +kernel) h6 h7 h9 ?_
  refine w_lneg cd_145_313 ?_
  refine w_putfield (w := .long (-x8)) cd_145_314 (show mt_f 12 327 = some (12, 11) by decide +kernel) h11 h12 ⟨h13, rfl, Or.inl (by decide)⟩ ?_
  exact h14
theorem b_145_317 {d : Nat} {Q : (Option Value ⊕ Nat) → mi_H → Prop} (n sl : Nat) (f : Nat → mi_C) {l1 : Nat} {l2 : Int32} {l3 : Int32} {l4 : Int32} (h5 : Q (.inl (some (.int 1))) (n, sl, f)) : mi_W d 145 317 [some (.ref l1), some (.int l2), some (.int l3), some (.int l4)] [] (n, sl, f) Q := by
  refine w_iconst (v := 1) cd_145_317 (by decide) ?_
  exact w_ireturn_z cd_145_318 (by decide +kernel) (by decide) h5
theorem b_145_319 {d : Nat} {Q : (Option Value ⊕ Nat) → mi_H → Prop} (n sl : Nat) (f : Nat → mi_C) {l1 : Nat} {l2 : Int32} {l3 : Int32} {o4 : Option Value} {fs5 : List Value} {fs9 : List Value} (h6 : f l1 = .inr (12, fs5)) (h7 : l1 < n) (h8 : 8 < fs5.length) (h10 : (va_up f l1 (.inr (12, fs5.set 8 (.int 3)))) l1 = .inr (12, fs9)) (h11 : l1 < n) (h12 : mi_W d 146 0 (mi_en 2 [.ref l1, .int l2]) [] (n, sl, (va_up f l1 (.inr (12, fs5.set 8 (.int 3))))) (mi_Kc d 145 326 [some (.ref l1), some (.int l2), some (.int l3), o4] [] Q)) : mi_W (d + 1) 145 319 [some (.ref l1), some (.int l2), some (.int l3), o4] [] (n, sl, f) Q := by
  refine w_aload_n cd_145_319 rfl ?_
  refine w_iconst (v := 3) cd_145_320 (by decide) ?_
  refine w_putfield (w := .int 3) cd_145_321 (show mt_f 12 310 = some (12, 8) by decide +kernel) h6 h7 ⟨h8, rfl, Or.inl (by decide)⟩ ?_
  refine w_aload_n cd_145_324 rfl ?_
  refine w_iload_n cd_145_325 rfl ?_
  exact w_invokevirtual cd_145_326 (show mt_m 12 313 = some (146, 0) by decide +kernel) (rest := []) rfl (as := [.ref l1, .int l2]) rfl h10 (Or.inl h11) ⟨Nat.le_of_ble_eq_true rfl, Nat.le_of_ble_eq_true rfl, Nat.le_of_ble_eq_true rfl⟩ h12
theorem b_145_329 {d : Nat} {Q : (Option Value ⊕ Nat) → mi_H → Prop} (n sl : Nat) (f : Nat → mi_C) {l1 : Nat} {l2 : Int32} {l3 : Int32} {o4 : Option Value} {s5 : Int32} (h6 : s5 = 60 → mi_W d 145 344 [some (.ref l1), some (.int l2), some (.int l3), some (.int s5)] [.int l2, .ref l1] (n, sl, f) Q) (h7 : ¬ (s5 = 60) → mi_W d 145 338 [some (.ref l1), some (.int l2), some (.int l3), some (.int s5)] [.int l2, .ref l1] (n, sl, f) Q) : mi_W d 145 329 [some (.ref l1), some (.int l2), some (.int l3), o4] [.int s5] (n, sl, f) Q := by
  refine w_istore_n (ls' := [some (.ref l1), some (.int l2), some (.int l3), some (.int s5)]) cd_145_329 (Nat.le_of_ble_eq_true rfl) rfl ?_
  refine w_aload_n cd_145_330 rfl ?_
  refine w_iload_n cd_145_331 rfl ?_
  refine w_iload_n cd_145_332 rfl ?_
  refine w_bipush (v := 60) cd_145_333 (by decide) ?_
  exact w_if_icmpeq cd_145_335 (by decide) h6 h7
theorem b_145_338 {d : Nat} {Q : (Option Value ⊕ Nat) → mi_H → Prop} (n sl : Nat) (f : Nat → mi_C) {l1 : Nat} {l2 : Int32} {l3 : Int32} {l4 : Int32} {s5 : Int32} {s6 : Nat} (h7 : ¬ l4 = 62 → mi_W d 145 360 [some (.ref l1), some (.int l2), some (.int l3), some (.int l4)] [.int s5, .ref s6] (n, sl, f) Q) (h8 : ¬ (¬ l4 = 62) → mi_W d 145 344 [some (.ref l1), some (.int l2), some (.int l3), some (.int l4)] [.int s5, .ref s6] (n, sl, f) Q) : mi_W d 145 338 [some (.ref l1), some (.int l2), some (.int l3), some (.int l4)] [.int s5, .ref s6] (n, sl, f) Q := by
  refine w_iload_n cd_145_338 rfl ?_
  refine w_bipush (v := 62) cd_145_339 (by decide) ?_
  exact w_if_icmpne cd_145_341 (by decide) h7 h8
theorem b_145_344 {d : Nat} {Q : (Option Value ⊕ Nat) → mi_H → Prop} (n sl : Nat) (f : Nat → mi_C) {l1 : Nat} {l2 : Int32} {l3 : Int32} {l4 : Int32} {s5 : Int32} {s6 : Nat} {fs7 : List Value} (h8 : f l1 = .inr (12, fs7)) (h9 : l1 < n) (h10 : mi_W d 146 0 (mi_en 2 [.ref l1, .int (l2 + 1)]) [] (n, sl, f) (mi_Kc d 145 348 [some (.ref l1), some (.int l2), some (.int l3), some (.int l4)] [.int s5, .ref s6] Q)) : mi_W (d + 1) 145 344 [some (.ref l1), some (.int l2), some (.int l3), some (.int l4)] [.int s5, .ref s6] (n, sl, f) Q := by
  refine w_aload_n cd_145_344 rfl ?_
  refine w_iload_n cd_145_345 rfl ?_
  refine w_iconst (v := 1) cd_145_346 (by decide) ?_
  refine w_iadd cd_145_347 ?_
  exact w_invokevirtual cd_145_348 (show mt_m 12 313 = some (146, 0) by decide +kernel) (rest := [.int s5, .ref s6]) rfl (as := [.ref l1, .int (l2 + 1)]) rfl h8 (Or.inl h9) ⟨Nat.le_of_ble_eq_true rfl, Nat.le_of_ble_eq_true rfl, Nat.le_of_ble_eq_true rfl⟩ h10
theorem b_145_351 {d : Nat} {Q : (Option Value ⊕ Nat) → mi_H → Prop} (n sl : Nat) (f : Nat → mi_C) {l1 : Nat} {l2 : Int32} {l3 : Int32} {l4 : Int32} {s5 : Int32} {s6 : Int32} {s7 : Nat} (h8 : ¬ s5 = 61 → mi_W d 145 360 [some (.ref l1), some (.int l2), some (.int l3), some (.int l4)] [.int s6, .ref s7] (n, sl, f) Q) (h9 : ¬ (¬ s5 = 61) → mi_W d 145 356 [some (.ref l1), some (.int l2), some (.int l3), some (.int l4)] [.int s6, .ref s7] (n, sl, f) Q) : mi_W d 145 351 [some (.ref l1), some (.int l2), some (.int l3), some (.int l4)] [.int s5, .int s6, .ref s7] (n, sl, f) Q := by
  refine w_bipush (v := 61) cd_145_351 (by decide) ?_
  exact w_if_icmpne cd_145_353 (by decide) h8 h9
theorem b_145_356 {d : Nat} {Q : (Option Value ⊕ Nat) → mi_H → Prop} (n sl : Nat) (f : Nat → mi_C) {l1 : Nat} {l2 : Int32} {l3 : Int32} {l4 : Int32} {s5 : Int32} {s6 : Nat} (h7 : mi_W d 145 361 [some (.ref l1), some (.int l2), some (.int l3), some (.int l4)] [.int 2, .int s5, .ref s6] (n, sl, f) Q) : mi_W d 145 356 [some (.ref l1), some (.int l2), some (.int l3), some (.int l4)] [.int s5, .ref s6] (n, sl, f) Q := by
  refine w_iconst (v := 2) cd_145_356 (by decide) ?_
  exact w_goto cd_145_357 (by decide) h7
theorem b_145_360 {d : Nat} {Q : (Option Value ⊕ Nat) → mi_H → Prop} (n sl : Nat) (f : Nat → mi_C) {l1 : Nat} {l2 : Int32} {l3 : Int32} {l4 : Int32} {s5 : Int32} {s6 : Nat} (h7 : mi_W d 145 361 [some (.ref l1), some (.int l2), some (.int l3), some (.int l4)] [.int 1, .int s5, .ref s6] (n, sl, f) Q) : mi_W d 145 360 [some (.ref l1), some (.int l2), some (.int l3), some (.int l4)] [.int s5, .ref s6] (n, sl, f) Q := by
  refine w_iconst (v := 1) cd_145_360 (by decide) ?_
  exact h7
theorem b_145_361 {d : Nat} {Q : (Option Value ⊕ Nat) → mi_H → Prop} (n sl : Nat) (f : Nat → mi_C) {l1 : Nat} {l2 : Int32} {l3 : Int32} {l4 : Int32} {s5 : Int32} {s6 : Int32} {s7 : Nat} {fs8 : List Value} (h9 : f s7 = .inr (12, fs8)) (h10 : s7 < n) (h11 : 10 < fs8.length) (h12 : l4 = 40 → mi_W d 145 437 [some (.ref l1), some (.int l2), some (.int l3), some (.int l4)] [] (n, sl, (va_up f s7 (.inr (12, fs8.set 10 (.int (s6 + s5)))))) Q) (h13 : ¬ (l4 = 40) → mi_W d 145 371 [some (.ref l1), some (.int l2), some (.int l3), some (.int l4)] [] (n, sl, (va_up f s7 (.inr (12, fs8.set 10 (.int (s6 + s5)))))) Q) : mi_W d 145 361 [some (.ref l1), some (.int l2), some (.int l3), some (.int l4)] [.int s5, .int s6, .ref s7] (n, sl, f) Q := by
  refine w_iadd cd_145_361 ?_
  refine w_putfield (w := .int (s6 + s5)) cd_145_362 (show mt_f 12 297 = some (12, 10) by decide +kernel) h9 h10 ⟨h11, rfl, Or.inl (by decide)⟩ ?_
  refine w_iload_n cd_145_365 rfl ?_
  refine w_bipush (v := 40) cd_145_366 (by decide) ?_
  exact w_if_icmpeq cd_145_368 (by decide) h12 h13
theorem b_145_371 {d : Nat} {Q : (Option Value ⊕ Nat) → mi_H → Prop} (n sl : Nat) (f : Nat → mi_C) {l1 : Nat} {l2 : Int32} {l3 : Int32} {l4 : Int32} (h5 : l4 = 41 → mi_W d 145 437 [some (.ref l1), some (.int l2), some (.int l3), some (.int l4)] [] (n, sl, f) Q) (h6 : ¬ (l4 = 41) → mi_W d 145 377 [some (.ref l1), some (.int l2), some (.int l3), some (.int l4)] [] (n, sl, f) Q) : mi_W d 145 371 [some (.ref l1), some (.int l2), some (.int l3), some (.int l4)] [] (n, sl, f) Q := by
  refine w_iload_n cd_145_371 rfl ?_
  refine w_bipush (v := 41) cd_145_372 (by decide) ?_
  exact w_if_icmpeq cd_145_374 (by decide) h5 h6
theorem b_145_377 {d : Nat} {Q : (Option Value ⊕ Nat) → mi_H → Prop} (n sl : Nat) (f : Nat → mi_C) {l1 : Nat} {l2 : Int32} {l3 : Int32} {l4 : Int32} (h5 : l4 = 91 → mi_W d 145 437 [some (.ref l1), some (.int l2), some (.int l3), some (.int l4)] [] (n, sl, f) Q) (h6 : ¬ (l4 = 91) → mi_W d 145 383 [some (.ref l1), some (.int l2), some (.int l3), some (.int l4)] [] (n, sl, f) Q) : mi_W d 145 377 [some (.ref l1), some (.int l2), some (.int l3), some (.int l4)] [] (n, sl, f) Q := by
  refine w_iload_n cd_145_377 rfl ?_
  refine w_bipush (v := 91) cd_145_378 (by decide) ?_
  exact w_if_icmpeq cd_145_380 (by decide) h5 h6
theorem b_145_383 {d : Nat} {Q : (Option Value ⊕ Nat) → mi_H → Prop} (n sl : Nat) (f : Nat → mi_C) {l1 : Nat} {l2 : Int32} {l3 : Int32} {l4 : Int32} (h5 : l4 = 93 → mi_W d 145 437 [some (.ref l1), some (.int l2), some (.int l3), some (.int l4)] [] (n, sl, f) Q) (h6 : ¬ (l4 = 93) → mi_W d 145 389 [some (.ref l1), some (.int l2), some (.int l3), some (.int l4)] [] (n, sl, f) Q) : mi_W d 145 383 [some (.ref l1), some (.int l2), some (.int l3), some (.int l4)] [] (n, sl, f) Q := by
  refine w_iload_n cd_145_383 rfl ?_
  refine w_bipush (v := 93) cd_145_384 (by decide) ?_
  exact w_if_icmpeq cd_145_386 (by decide) h5 h6
theorem b_145_389 {d : Nat} {Q : (Option Value ⊕ Nat) → mi_H → Prop} (n sl : Nat) (f : Nat → mi_C) {l1 : Nat} {l2 : Int32} {l3 : Int32} {l4 : Int32} (h5 : l4 = 43 → mi_W d 145 437 [some (.ref l1), some (.int l2), some (.int l3), some (.int l4)] [] (n, sl, f) Q) (h6 : ¬ (l4 = 43) → mi_W d 145 395 [some (.ref l1), some (.int l2), some (.int l3), some (.int l4)] [] (n, sl, f) Q) : mi_W d 145 389 [some (.ref l1), some (.int l2), some (.int l3), some (.int l4)] [] (n, sl, f) Q := by
  refine w_iload_n cd_145_389 rfl ?_
  refine w_bipush (v := 43) cd_145_390 (by decide) ?_
  exact w_if_icmpeq cd_145_392 (by decide) h5 h6
theorem b_145_395 {d : Nat} {Q : (Option Value ⊕ Nat) → mi_H → Prop} (n sl : Nat) (f : Nat → mi_C) {l1 : Nat} {l2 : Int32} {l3 : Int32} {l4 : Int32} (h5 : ¬ l3 = (0 : Int32) → mi_W d 145 437 [some (.ref l1), some (.int l2), some (.int l3), some (.int l4)] [] (n, sl, f) Q) (h6 : ¬ (¬ l3 = (0 : Int32)) → mi_W d 145 399 [some (.ref l1), some (.int l2), some (.int l3), some (.int l4)] [] (n, sl, f) Q) : mi_W d 145 395 [some (.ref l1), some (.int l2), some (.int l3), some (.int l4)] [] (n, sl, f) Q := by
  refine w_iload_n cd_145_395 rfl ?_
  exact w_ifne cd_145_396 (by decide) h5 h6
theorem b_145_399 {d : Nat} {Q : (Option Value ⊕ Nat) → mi_H → Prop} (n sl : Nat) (f : Nat → mi_C) {l1 : Nat} {l2 : Int32} {l3 : Int32} {l4 : Int32} (h5 : l4 = 42 → mi_W d 145 437 [some (.ref l1), some (.int l2), some (.int l3), some (.int l4)] [] (n, sl, f) Q) (h6 : ¬ (l4 = 42) → mi_W d 145 405 [some (.ref l1), some (.int l2), some (.int l3), some (.int l4)] [] (n, sl, f) Q) : mi_W d 145 399 [some (.ref l1), some (.int l2), some (.int l3), some (.int l4)] [] (n, sl, f) Q := by
  refine w_iload_n cd_145_399 rfl ?_
  refine w_bipush (v := 42) cd_145_400 (by decide) ?_
  exact w_if_icmpeq cd_145_402 (by decide) h5 h6
theorem b_145_405 {d : Nat} {Q : (Option Value ⊕ Nat) → mi_H → Prop} (n sl : Nat) (f : Nat → mi_C) {l1 : Nat} {l2 : Int32} {l3 : Int32} {l4 : Int32} (h5 : l4 = 47 → mi_W d 145 437 [some (.ref l1), some (.int l2), some (.int l3), some (.int l4)] [] (n, sl, f) Q) (h6 : ¬ (l4 = 47) → mi_W d 145 411 [some (.ref l1), some (.int l2), some (.int l3), some (.int l4)] [] (n, sl, f) Q) : mi_W d 145 405 [some (.ref l1), some (.int l2), some (.int l3), some (.int l4)] [] (n, sl, f) Q := by
  refine w_iload_n cd_145_405 rfl ?_
  refine w_bipush (v := 47) cd_145_406 (by decide) ?_
  exact w_if_icmpeq cd_145_408 (by decide) h5 h6
theorem b_145_411 {d : Nat} {Q : (Option Value ⊕ Nat) → mi_H → Prop} (n sl : Nat) (f : Nat → mi_C) {l1 : Nat} {l2 : Int32} {l3 : Int32} {l4 : Int32} (h5 : l4 = 60 → mi_W d 145 437 [some (.ref l1), some (.int l2), some (.int l3), some (.int l4)] [] (n, sl, f) Q) (h6 : ¬ (l4 = 60) → mi_W d 145 417 [some (.ref l1), some (.int l2), some (.int l3), some (.int l4)] [] (n, sl, f) Q) : mi_W d 145 411 [some (.ref l1), some (.int l2), some (.int l3), some (.int l4)] [] (n, sl, f) Q := by
  refine w_iload_n cd_145_411 rfl ?_
  refine w_bipush (v := 60) cd_145_412 (by decide) ?_
  exact w_if_icmpeq cd_145_414 (by decide) h5 h6
theorem b_145_417 {d : Nat} {Q : (Option Value ⊕ Nat) → mi_H → Prop} (n sl : Nat) (f : Nat → mi_C) {l1 : Nat} {l2 : Int32} {l3 : Int32} {l4 : Int32} (h5 : l4 = 62 → mi_W d 145 437 [some (.ref l1), some (.int l2), some (.int l3), some (.int l4)] [] (n, sl, f) Q) (h6 : ¬ (l4 = 62) → mi_W d 145 423 [some (.ref l1), some (.int l2), some (.int l3), some (.int l4)] [] (n, sl, f) Q) : mi_W d 145 417 [some (.ref l1), some (.int l2), some (.int l3), some (.int l4)] [] (n, sl, f) Q := by
  refine w_iload_n cd_145_417 rfl ?_
  refine w_bipush (v := 62) cd_145_418 (by decide) ?_
  exact w_if_icmpeq cd_145_420 (by decide) h5 h6
theorem b_145_423 {d : Nat} {Q : (Option Value ⊕ Nat) → mi_H → Prop} (n sl : Nat) (f : Nat → mi_C) {l1 : Nat} {l2 : Int32} {l3 : Int32} {l4 : Int32} (h5 : l4 = 61 → mi_W d 145 437 [some (.ref l1), some (.int l2), some (.int l3), some (.int l4)] [] (n, sl, f) Q) (h6 : ¬ (l4 = 61) → mi_W d 145 429 [some (.ref l1), some (.int l2), some (.int l3), some (.int l4)] [] (n, sl, f) Q) : mi_W d 145 423 [some (.ref l1), some (.int l2), some (.int l3), some (.int l4)] [] (n, sl, f) Q := by
  refine w_iload_n cd_145_423 rfl ?_
  refine w_bipush (v := 61) cd_145_424 (by decide) ?_
  exact w_if_icmpeq cd_145_426 (by decide) h5 h6
theorem b_145_429 {d : Nat} {Q : (Option Value ⊕ Nat) → mi_H → Prop} (n sl : Nat) (f : Nat → mi_C) {l1 : Nat} {l2 : Int32} {l3 : Int32} {l4 : Int32} {fs5 : List Value} (h6 : f l1 = .inr (12, fs5)) (h7 : l1 < n) (h8 : mi_W d 143 0 (mi_en 2 [.ref l1, .int l2]) [] (n, sl, f) (mi_Kc d 145 431 [some (.ref l1), some (.int l2), some (.int l3), some (.int l4)] [] Q)) : mi_W (d + 1) 145 429 [some (.ref l1), some (.int l2), some (.int l3), some (.int l4)] [] (n, sl, f) Q := by
  refine w_aload_n cd_145_429 rfl ?_
  refine w_iload_n cd_145_430 rfl ?_
  exact w_invokevirtual cd_145_431 (show mt_m 12 272 = some (143, 0) by decide +kernel) (rest := []) rfl (as := [.ref l1, .int l2]) rfl h6 (Or.inl h7) ⟨Nat.le_of_ble_eq_true rfl, Nat.le_of_ble_eq_true rfl, Nat.le_of_ble_eq_true rfl⟩ h8
theorem b_145_434 {d : Nat} {Q : (Option Value ⊕ Nat) → mi_H → Prop} (n sl : Nat) (f : Nat → mi_C) {l1 : Nat} {l2 : Int32} {l3 : Int32} {l4 : Int32} {s5 : Int32} (h6 : s5 = (0 : Int32) → mi_W d 145 441 [some (.ref l1), some (.int l2), some (.int l3), some (.int l4)] [] (n, sl, f) Q) (h7 : ¬ (s5 = (0 : Int32)) → mi_W d 145 437 [some (.ref l1), some (.int l2), some (.int l3), some (.int l4)] [] (n, sl, f) Q) : mi_W d 145 434 [some (.ref l1), some (.int l2), some (.int l3), some (.int l4)] [.int s5] (n, sl, f) Q := by
  exact w_ifeq cd_145_434 (by decide) h6 h7
theorem b_145_437 {d : Nat} {Q : (Option Value ⊕ Nat) → mi_H → Prop} (n sl : Nat) (f : Nat → mi_C) {l1 : Nat} {l2 : Int32} {l3 : Int32} {l4 : Int32} (h5 : mi_W d 145 442 [some (.ref l1), some (.int l2), some (.int l3), some (.int l4)] [.int 1] (n, sl, f) Q) : mi_W d 145 437 [some (.ref l1), some (.int l2), some (.int l3), some (.int l4)] [] (n, sl, f) Q := by
  refine w_iconst (v := 1) cd_145_437 (by decide) ?_
  exact w_goto cd_145_438 (by decide) h5
theorem b_145_441 {d : Nat} {Q : (Option Value ⊕ Nat) → mi_H → Prop} (n sl : Nat) (f : Nat → mi_C) {l1 : Nat} {l2 : Int32} {l3 : Int32} {l4 : Int32} (h5 : mi_W d 145 442 [some (.ref l1), some (.int l2), some (.int l3), some (.int l4)] [.int 0] (n, sl, f) Q) : mi_W d 145 441 [some (.ref l1), some (.int l2), some (.int l3), some (.int l4)] [] (n, sl, f) Q := by
  refine w_iconst (v := 0) cd_145_441 (by decide) ?_
  exact h5
theorem b_145_442 {d : Nat} {Q : (Option Value ⊕ Nat) → mi_H → Prop} (n sl : Nat) (f : Nat → mi_C) {l1 : Nat} {l2 : Int32} {l3 : Int32} {l4 : Int32} {s5 : Int32} (h6 : s5 = 0 ∨ s5 = 1) (h7 : Q (.inl (some (.int s5))) (n, sl, f)) : mi_W d 145 442 [some (.ref l1), some (.int l2), some (.int l3), some (.int l4)] [.int s5] (n, sl, f) Q := by
  exact w_ireturn_z cd_145_442 (by decide +kernel) h6 h7
/-! MarloweHostModel.c(I)I -/
set_option maxRecDepth 100000 in
theorem mq_146 : mt_q 146 = my_146 := rfl
set_option maxRecDepth 100000 in
theorem ci_146 : mt_inc 0 my_146.cd = true := by decide +kernel
theorem cd_146_0 : mt_cd 146 0 = some (.iload_n 1) := mt_cd_of (q := (0, .iload_n 1, 1)) mq_146 ci_146 (List.mem_of_getElem? (i := 0) rfl)
theorem cd_146_1 : mt_cd 146 1 = some (.aload_n 0) := mt_cd_of (q := (1, .aload_n 0, 1)) mq_146 ci_146 (List.mem_of_getElem? (i := 1) rfl)
theorem cd_146_2 : mt_cd 146 2 = some (.getfield 261) := mt_cd_of (q := (2, .getfield 261, 3)) mq_146 ci_146 (List.mem_of_getElem? (i := 2) rfl)
theorem cd_146_5 : mt_cd 146 5 = some (.if_icmp .ge 12) := mt_cd_of (q := (5, .if_icmp .ge 12, 3)) mq_146 ci_146 (List.mem_of_getElem? (i := 3) rfl)
theorem cd_146_8 : mt_cd 146 8 = some (.aload_n 0) := mt_cd_of (q := (8, .aload_n 0, 1)) mq_146 ci_146 (List.mem_of_getElem? (i := 4) rfl)
theorem cd_146_9 : mt_cd 146 9 = some (.getfield 20) := mt_cd_of (q := (9, .getfield 20, 3)) mq_146 ci_146 (List.mem_of_getElem? (i := 5) rfl)
theorem cd_146_12 : mt_cd 146 12 = some (.iload_n 1) := mt_cd_of (q := (12, .iload_n 1, 1)) mq_146 ci_146 (List.mem_of_getElem? (i := 6) rfl)
theorem cd_146_13 : mt_cd 146 13 = some (.iaload) := mt_cd_of (q := (13, .iaload, 1)) mq_146 ci_146 (List.mem_of_getElem? (i := 7) rfl)
theorem cd_146_14 : mt_cd 146 14 = some (.goto 4) := mt_cd_of (q := (14, .goto 4, 3)) mq_146 ci_146 (List.mem_of_getElem? (i := 8) rfl)
theorem cd_146_17 : mt_cd 146 17 = some (.iconst 0) := mt_cd_of (q := (17, .iconst 0, 1)) mq_146 ci_146 (List.mem_of_getElem? (i := 9) rfl)
theorem cd_146_18 : mt_cd 146 18 = some (.ireturn) := mt_cd_of (q := (18, .ireturn, 1)) mq_146 ci_146 (List.mem_of_getElem? (i := 10) rfl)
theorem b_146_0 {d : Nat} {Q : (Option Value ⊕ Nat) → mi_H → Prop} (n sl : Nat) (f : Nat → mi_C) {l1 : Nat} {l2 : Int32} {fs3 : List Value} {x6 : Int32} (h4 : f l1 = .inr (12, fs3)) (h5 : l1 < n) (h7 : fs3[2]? = some (.int x6)) (h8 : x6 ≤ l2 → mi_W d 146 17 [some (.ref l1), some (.int l2)] [] (n, sl, f) Q) (h9 : ¬ (x6 ≤ l2) → mi_W d 146 8 [some (.ref l1), some (.int l2)] [] (n, sl, f) Q) : mi_W d 146 0 [some (.ref l1), some (.int l2)] [] (n, sl, f) Q := by
  refine w_iload_n cd_146_0 rfl ?_
  refine w_aload_n cd_146_1 rfl ?_
  refine w_getfield cd_146_2 (show mt_f 12 261 = some (12, 2) by decide +kernel) h4 h5 h7 ?_
  exact w_if_icmpge cd_146_5 (by decide) h8 h9
theorem b_146_8 {d : Nat} {Q : (Option Value ⊕ Nat) → mi_H → Prop} (n sl : Nat) (f : Nat → mi_C) {l1 : Nat} {l2 : Int32} {fs3 : List Value} {x6 : Nat} (m8 i8 : Nat) (g8 : Nat → Int32) (h4 : f l1 = .inr (12, fs3)) (h5 : l1 < n) (h7 : fs3[6]? = some (.ref x6)) (h9 : f x6 = .inl (0, m8, .inl g8)) (h10 : x6 < n ∨ x6 = mi_SC) (h11 : mi_ix l2 m8 i8) (h12 : mi_W d 146 18 [some (.ref l1), some (.int l2)] [.int (g8 i8)] (n, sl, f) Q) : mi_W d 146 8 [some (.ref l1), some (.int l2)] [] (n, sl, f) Q := by
  refine w_aload_n cd_146_8 rfl ?_
  refine w_getfield cd_146_9 (show mt_f 12 20 = some (12, 6) by decide +kernel) h4 h5 h7 ?_
  refine w_iload_n cd_146_12 rfl ?_
  refine w_iaload cd_146_13 h9 h10 h11 ?_
  exact w_goto cd_146_14 (by decide) h12
theorem b_146_17 {d : Nat} {Q : (Option Value ⊕ Nat) → mi_H → Prop} (n sl : Nat) (f : Nat → mi_C) {l1 : Nat} {l2 : Int32} (h3 : mi_W d 146 18 [some (.ref l1), some (.int l2)] [.int 0] (n, sl, f) Q) : mi_W d 146 17 [some (.ref l1), some (.int l2)] [] (n, sl, f) Q := by
  refine w_iconst (v := 0) cd_146_17 (by decide) ?_
  exact h3
theorem b_146_18 {d : Nat} {Q : (Option Value ⊕ Nat) → mi_H → Prop} (n sl : Nat) (f : Nat → mi_C) {l1 : Nat} {l2 : Int32} {s3 : Int32} (h4 : Q (.inl (some (.int s3))) (n, sl, f)) : mi_W d 146 18 [some (.ref l1), some (.int l2)] [.int s3] (n, sl, f) Q := by
  exact w_ireturn_i cd_146_18 (by decide +kernel) h4
/-! MarloweHostModel.isLetter(I)Z -/
set_option maxRecDepth 100000 in
theorem mq_147 : mt_q 147 = my_147 := rfl
set_option maxRecDepth 100000 in
theorem ci_147 : mt_inc 0 my_147.cd = true := by decide +kernel
theorem cd_147_0 : mt_cd 147 0 = some (.iload_n 0) := mt_cd_of (q := (0, .iload_n 0, 1)) mq_147 ci_147 (List.mem_of_getElem? (i := 0) rfl)
theorem cd_147_1 : mt_cd 147 1 = some (.i2l) := mt_cd_of (q := (1, .i2l, 1)) mq_147 ci_147 (List.mem_of_getElem? (i := 1) rfl)
theorem cd_147_2 : mt_cd 147 2 = some (.ldc2_w 285) := mt_cd_of (q := (2, .ldc2_w 285, 3)) mq_147 ci_147 (List.mem_of_getElem? (i := 2) rfl)
theorem cd_147_5 : mt_cd 147 5 = some (.ldc2_w 287) := mt_cd_of (q := (5, .ldc2_w 287, 3)) mq_147 ci_147 (List.mem_of_getElem? (i := 3) rfl)
theorem cd_147_8 : mt_cd 147 8 = some (.invokestatic 268) := mt_cd_of (q := (8, .invokestatic 268, 3)) mq_147 ci_147 (List.mem_of_getElem? (i := 4) rfl)
theorem cd_147_11 : mt_cd 147 11 = some (.ifCond .ne 23) := mt_cd_of (q := (11, .ifCond .ne 23, 3)) mq_147 ci_147 (List.mem_of_getElem? (i := 5) rfl)
theorem cd_147_14 : mt_cd 147 14 = some (.iload_n 0) := mt_cd_of (q := (14, .iload_n 0, 1)) mq_147 ci_147 (List.mem_of_getElem? (i := 6) rfl)
theorem cd_147_15 : mt_cd 147 15 = some (.i2l) := mt_cd_of (q := (15, .i2l, 1)) mq_147 ci_147 (List.mem_of_getElem? (i := 7) rfl)
theorem cd_147_16 : mt_cd 147 16 = some (.ldc2_w 289) := mt_cd_of (q := (16, .ldc2_w 289, 3)) mq_147 ci_147 (List.mem_of_getElem? (i := 8) rfl)
theorem cd_147_19 : mt_cd 147 19 = some (.ldc2_w 291) := mt_cd_of (q := (19, .ldc2_w 291, 3)) mq_147 ci_147 (List.mem_of_getElem? (i := 9) rfl)
theorem cd_147_22 : mt_cd 147 22 = some (.invokestatic 268) := mt_cd_of (q := (22, .invokestatic 268, 3)) mq_147 ci_147 (List.mem_of_getElem? (i := 10) rfl)
theorem cd_147_25 : mt_cd 147 25 = some (.ifCond .ne 9) := mt_cd_of (q := (25, .ifCond .ne 9, 3)) mq_147 ci_147 (List.mem_of_getElem? (i := 11) rfl)
theorem cd_147_28 : mt_cd 147 28 = some (.iload_n 0) := mt_cd_of (q := (28, .iload_n 0, 1)) mq_147 ci_147 (List.mem_of_getElem? (i := 12) rfl)
theorem cd_147_29 : mt_cd 147 29 = some (.bipush 95) := mt_cd_of (q := (29, .bipush 95, 2)) mq_147 ci_147 (List.mem_of_getElem? (i := 13) rfl)
theorem cd_147_31 : mt_cd 147 31 = some (.if_icmp .ne 7) := mt_cd_of (q := (31, .if_icmp .ne 7, 3)) mq_147 ci_147 (List.mem_of_getElem? (i := 14) rfl)
theorem cd_147_34 : mt_cd 147 34 = some (.iconst 1) := mt_cd_of (q := (34, .iconst 1, 1)) mq_147 ci_147 (List.mem_of_getElem? (i := 15) rfl)
theorem cd_147_35 : mt_cd 147 35 = some (.goto 4) := mt_cd_of (q := (35, .goto 4, 3)) mq_147 ci_147 (List.mem_of_getElem? (i := 16) rfl)
theorem cd_147_38 : mt_cd 147 38 = some (.iconst 0) := mt_cd_of (q := (38, .iconst 0, 1)) mq_147 ci_147 (List.mem_of_getElem? (i := 17) rfl)
theorem cd_147_39 : mt_cd 147 39 = some (.ireturn) := mt_cd_of (q := (39, .ireturn, 1)) mq_147 ci_147 (List.mem_of_getElem? (i := 18) rfl)
theorem b_147_0 {d : Nat} {Q : (Option Value ⊕ Nat) → mi_H → Prop} (n sl : Nat) (f : Nat → mi_C) {l1 : Int32} (h2 : mi_W d 142 0 (mi_en 6 [.long ((l1 : Int32).toInt64), .long 97, .long 122]) [] (n, sl, f) (mi_Kc d 147 8 [some (.int l1)] [] Q)) : mi_W (d + 1) 147 0 [some (.int l1)] [] (n, sl, f) Q := by
  refine w_iload_n cd_147_0 rfl ?_
  refine w_i2l cd_147_1 ?_
  refine w_ldc2_w (lv := 97) cd_147_2 (by decide +kernel) ?_
  refine w_ldc2_w (lv := 122) cd_147_5 (by decide +kernel) ?_
  exact w_invokestatic cd_147_8 (show mt_m 12 268 = some (142, 4) by decide +kernel) (by decide) (rest := []) rfl (as := [.long ((l1 : Int32).toInt64), .long 97, .long 122]) rfl ⟨Nat.le_of_ble_eq_true rfl, Nat.le_of_ble_eq_true rfl, Nat.le_of_ble_eq_true rfl⟩ h2
theorem b_147_11 {d : Nat} {Q : (Option Value ⊕ Nat) → mi_H → Prop} (n sl : Nat) (f : Nat → mi_C) {l1 : Int32} {s2 : Int32} (h3 : ¬ s2 = (0 : Int32) → mi_W d 147 34 [some (.int l1)] [] (n, sl, f) Q) (h4 : ¬ (¬ s2 = (0 : Int32)) → mi_W d 147 14 [some (.int l1)] [] (n, sl, f) Q) : mi_W d 147 11 [some (.int l1)] [.int s2] (n, sl, f) Q := by
  exact w_ifne cd_147_11 (by decide) h3 h4
theorem b_147_14 {d : Nat} {Q : (Option Value ⊕ Nat) → mi_H → Prop} (n sl : Nat) (f : Nat → mi_C) {l1 : Int32} (h2 : mi_W d 142 0 (mi_en 6 [.long ((l1 : Int32).toInt64), .long 65, .long 90]) [] (n, sl, f) (mi_Kc d 147 22 [some (.int l1)] [] Q)) : mi_W (d + 1) 147 14 [some (.int l1)] [] (n, sl, f) Q := by
  refine w_iload_n cd_147_14 rfl ?_
  refine w_i2l cd_147_15 ?_
  refine w_ldc2_w (lv := 65) cd_147_16 (by decide +kernel) ?_
  refine w_ldc2_w (lv := 90) cd_147_19 (by decide +kernel) ?_
  exact w_invokestatic cd_147_22 (show mt_m 12 268 = some (142, 4) by decide +kernel) (by decide) (rest := []) rfl (as := [.long ((l1 : Int32).toInt64), .long 65, .long 90]) rfl ⟨Nat.le_of_ble_eq_true rfl, Nat.le_of_ble_eq_true rfl, Nat.le_of_ble_eq_true rfl⟩ h2
theorem b_147_25 {d : Nat} {Q : (Option Value ⊕ Nat) → mi_H → Prop} (n sl : Nat) (f : Nat → mi_C) {l1 : Int32} {s2 : Int32} (h3 : ¬ s2 = (0 : Int32) → mi_W d 147 34 [some (.int l1)] [] (n, sl, f) Q) (h4 : ¬ (¬ s2 = (0 : Int32)) → mi_W d 147 28 [some (.int l1)] [] (n, sl, f) Q) : mi_W d 147 25 [some (.int l1)] [.int s2] (n, sl, f) Q := by
  exact w_ifne cd_147_25 (by decide) h3 h4
theorem b_147_28 {d : Nat} {Q : (Option Value ⊕ Nat) → mi_H → Prop} (n sl : Nat) (f : Nat → mi_C) {l1 : Int32} (h2 : ¬ l1 = 95 → mi_W d 147 38 [some (.int l1)] [] (n, sl, f) Q) (h3 : ¬ (¬ l1 = 95) → mi_W d 147 34 [some (.int l1)] [] (n, sl, f) Q) : mi_W d 147 28 [some (.int l1)] [] (n, sl, f) Q := by
  refine w_iload_n cd_147_28 rfl ?_
  refine w_bipush (v := 95) cd_147_29 (by decide) ?_
  exact w_if_icmpne cd_147_31 (by decide) h2 h3
theorem b_147_34 {d : Nat} {Q : (Option Value ⊕ Nat) → mi_H → Prop} (n sl : Nat) (f : Nat → mi_C) {l1 : Int32} (h2 : mi_W d 147 39 [some (.int l1)] [.int 1] (n, sl, f) Q) : mi_W d 147 34 [some (.int l1)] [] (n, sl, f) Q := by
  refine w_iconst (v := 1) cd_147_34 (by decide) ?_
  exact w_goto cd_147_35 (by decide) h2
theorem b_147_38 {d : Nat} {Q : (Option Value ⊕ Nat) → mi_H → Prop} (n sl : Nat) (f : Nat → mi_C) {l1 : Int32} (h2 : mi_W d 147 39 [some (.int l1)] [.int 0] (n, sl, f) Q) : mi_W d 147 38 [some (.int l1)] [] (n, sl, f) Q := by
  refine w_iconst (v := 0) cd_147_38 (by decide) ?_
  exact h2
theorem b_147_39 {d : Nat} {Q : (Option Value ⊕ Nat) → mi_H → Prop} (n sl : Nat) (f : Nat → mi_C) {l1 : Int32} {s2 : Int32} (h3 : s2 = 0 ∨ s2 = 1) (h4 : Q (.inl (some (.int s2))) (n, sl, f)) : mi_W d 147 39 [some (.int l1)] [.int s2] (n, sl, f) Q := by
  exact w_ireturn_z cd_147_39 (by decide +kernel) h3 h4
/-! MarloweHostModel.isDigit(I)Z -/
set_option maxRecDepth 100000 in
theorem mq_148 : mt_q 148 = my_148 := rfl
set_option maxRecDepth 100000 in
theorem ci_148 : mt_inc 0 my_148.cd = true := by decide +kernel
theorem cd_148_0 : mt_cd 148 0 = some (.iload_n 0) := mt_cd_of (q := (0, .iload_n 0, 1)) mq_148 ci_148 (List.mem_of_getElem? (i := 0) rfl)
theorem cd_148_1 : mt_cd 148 1 = some (.i2l) := mt_cd_of (q := (1, .i2l, 1)) mq_148 ci_148 (List.mem_of_getElem? (i := 1) rfl)
theorem cd_148_2 : mt_cd 148 2 = some (.ldc2_w 293) := mt_cd_of (q := (2, .ldc2_w 293, 3)) mq_148 ci_148 (List.mem_of_getElem? (i := 2) rfl)
theorem cd_148_5 : mt_cd 148 5 = some (.ldc2_w 295) := mt_cd_of (q := (5, .ldc2_w 295, 3)) mq_148 ci_148 (List.mem_of_getElem? (i := 3) rfl)
theorem cd_148_8 : mt_cd 148 8 = some (.invokestatic 268) := mt_cd_of (q := (8, .invokestatic 268, 3)) mq_148 ci_148 (List.mem_of_getElem? (i := 4) rfl)
theorem cd_148_11 : mt_cd 148 11 = some (.ireturn) := mt_cd_of (q := (11, .ireturn, 1)) mq_148 ci_148 (List.mem_of_getElem? (i := 5) rfl)
theorem b_148_0 {d : Nat} {Q : (Option Value ⊕ Nat) → mi_H → Prop} (n sl : Nat) (f : Nat → mi_C) {l1 : Int32} (h2 : mi_W d 142 0 (mi_en 6 [.long ((l1 : Int32).toInt64), .long 48, .long 57]) [] (n, sl, f) (mi_Kc d 148 8 [some (.int l1)] [] Q)) : mi_W (d + 1) 148 0 [some (.int l1)] [] (n, sl, f) Q := by
  refine w_iload_n cd_148_0 rfl ?_
  refine w_i2l cd_148_1 ?_
  refine w_ldc2_w (lv := 48) cd_148_2 (by decide +kernel) ?_
  refine w_ldc2_w (lv := 57) cd_148_5 (by decide +kernel) ?_
  exact w_invokestatic cd_148_8 (show mt_m 12 268 = some (142, 4) by decide +kernel) (by decide) (rest := []) rfl (as := [.long ((l1 : Int32).toInt64), .long 48, .long 57]) rfl ⟨Nat.le_of_ble_eq_true rfl, Nat.le_of_ble_eq_true rfl, Nat.le_of_ble_eq_true rfl⟩ h2
theorem b_148_11 {d : Nat} {Q : (Option Value ⊕ Nat) → mi_H → Prop} (n sl : Nat) (f : Nat → mi_C) {l1 : Int32} {s2 : Int32} (h3 : s2 = 0 ∨ s2 = 1) (h4 : Q (.inl (some (.int s2))) (n, sl, f)) : mi_W d 148 11 [some (.int l1)] [.int s2] (n, sl, f) Q := by
  exact w_ireturn_z cd_148_11 (by decide +kernel) h3 h4
/-! MarloweHostModel.is(Ljava/lang/String;)Z -/
set_option maxRecDepth 100000 in
theorem mq_149 : mt_q 149 = my_149 := rfl
set_option maxRecDepth 100000 in
theorem ci_149 : mt_inc 0 my_149.cd = true := by decide +kernel
theorem cd_149_0 : mt_cd 149 0 = some (.aload_n 0) := mt_cd_of (q := (0, .aload_n 0, 1)) mq_149 ci_149 (List.mem_of_getElem? (i := 0) rfl)
theorem cd_149_1 : mt_cd 149 1 = some (.getfield 297) := mt_cd_of (q := (1, .getfield 297, 3)) mq_149 ci_149 (List.mem_of_getElem? (i := 1) rfl)
theorem cd_149_4 : mt_cd 149 4 = some (.aload_n 0) := mt_cd_of (q := (4, .aload_n 0, 1)) mq_149 ci_149 (List.mem_of_getElem? (i := 2) rfl)
theorem cd_149_5 : mt_cd 149 5 = some (.getfield 299) := mt_cd_of (q := (5, .getfield 299, 3)) mq_149 ci_149 (List.mem_of_getElem? (i := 3) rfl)
theorem cd_149_8 : mt_cd 149 8 = some (.isub) := mt_cd_of (q := (8, .isub, 1)) mq_149 ci_149 (List.mem_of_getElem? (i := 4) rfl)
theorem cd_149_9 : mt_cd 149 9 = some (.aload_n 1) := mt_cd_of (q := (9, .aload_n 1, 1)) mq_149 ci_149 (List.mem_of_getElem? (i := 5) rfl)
theorem cd_149_10 : mt_cd 149 10 = some (.invokevirtual 302) := mt_cd_of (q := (10, .invokevirtual 302, 3)) mq_149 ci_149 (List.mem_of_getElem? (i := 6) rfl)
theorem cd_149_13 : mt_cd 149 13 = some (.if_icmp .eq 5) := mt_cd_of (q := (13, .if_icmp .eq 5, 3)) mq_149 ci_149 (List.mem_of_getElem? (i := 7) rfl)
theorem cd_149_16 : mt_cd 149 16 = some (.iconst 0) := mt_cd_of (q := (16, .iconst 0, 1)) mq_149 ci_149 (List.mem_of_getElem? (i := 8) rfl)
theorem cd_149_17 : mt_cd 149 17 = some (.ireturn) := mt_cd_of (q := (17, .ireturn, 1)) mq_149 ci_149 (List.mem_of_getElem? (i := 9) rfl)
theorem cd_149_18 : mt_cd 149 18 = some (.iconst 0) := mt_cd_of (q := (18, .iconst 0, 1)) mq_149 ci_149 (List.mem_of_getElem? (i := 10) rfl)
theorem cd_149_19 : mt_cd 149 19 = some (.istore_n 2) := mt_cd_of (q := (19, .istore_n 2, 1)) mq_149 ci_149 (List.mem_of_getElem? (i := 11) rfl)
theorem cd_149_20 : mt_cd 149 20 = some (.iload_n 2) := mt_cd_of (q := (20, .iload_n 2, 1)) mq_149 ci_149 (List.mem_of_getElem? (i := 12) rfl)
theorem cd_149_21 : mt_cd 149 21 = some (.aload_n 1) := mt_cd_of (q := (21, .aload_n 1, 1)) mq_149 ci_149 (List.mem_of_getElem? (i := 13) rfl)
theorem cd_149_22 : mt_cd 149 22 = some (.invokevirtual 302) := mt_cd_of (q := (22, .invokevirtual 302, 3)) mq_149 ci_149 (List.mem_of_getElem? (i := 14) rfl)
theorem cd_149_25 : mt_cd 149 25 = some (.if_icmp .ge 30) := mt_cd_of (q := (25, .if_icmp .ge 30, 3)) mq_149 ci_149 (List.mem_of_getElem? (i := 15) rfl)
theorem cd_149_28 : mt_cd 149 28 = some (.aload_n 0) := mt_cd_of (q := (28, .aload_n 0, 1)) mq_149 ci_149 (List.mem_of_getElem? (i := 16) rfl)
theorem cd_149_29 : mt_cd 149 29 = some (.getfield 20) := mt_cd_of (q := (29, .getfield 20, 3)) mq_149 ci_149 (List.mem_of_getElem? (i := 17) rfl)
theorem cd_149_32 : mt_cd 149 32 = some (.aload_n 0) := mt_cd_of (q := (32, .aload_n 0, 1)) mq_149 ci_149 (List.mem_of_getElem? (i := 18) rfl)
theorem cd_149_33 : mt_cd 149 33 = some (.getfield 299) := mt_cd_of (q := (33, .getfield 299, 3)) mq_149 ci_149 (List.mem_of_getElem? (i := 19) rfl)
theorem cd_149_36 : mt_cd 149 36 = some (.iload_n 2) := mt_cd_of (q := (36, .iload_n 2, 1)) mq_149 ci_149 (List.mem_of_getElem? (i := 20) rfl)
theorem cd_149_37 : mt_cd 149 37 = some (.iadd) := mt_cd_of (q := (37, .iadd, 1)) mq_149 ci_149 (List.mem_of_getElem? (i := 21) rfl)
theorem cd_149_38 : mt_cd 149 38 = some (.iaload) := mt_cd_of (q := (38, .iaload, 1)) mq_149 ci_149 (List.mem_of_getElem? (i := 22) rfl)
theorem cd_149_39 : mt_cd 149 39 = some (.aload_n 1) := mt_cd_of (q := (39, .aload_n 1, 1)) mq_149 ci_149 (List.mem_of_getElem? (i := 23) rfl)
theorem cd_149_40 : mt_cd 149 40 = some (.iload_n 2) := mt_cd_of (q := (40, .iload_n 2, 1)) mq_149 ci_149 (List.mem_of_getElem? (i := 24) rfl)
theorem cd_149_41 : mt_cd 149 41 = some (.invokevirtual 306) := mt_cd_of (q := (41, .invokevirtual 306, 3)) mq_149 ci_149 (List.mem_of_getElem? (i := 25) rfl)
theorem cd_149_44 : mt_cd 149 44 = some (.if_icmp .eq 5) := mt_cd_of (q := (44, .if_icmp .eq 5, 3)) mq_149 ci_149 (List.mem_of_getElem? (i := 26) rfl)
theorem cd_149_47 : mt_cd 149 47 = some (.iconst 0) := mt_cd_of (q := (47, .iconst 0, 1)) mq_149 ci_149 (List.mem_of_getElem? (i := 27) rfl)
theorem cd_149_48 : mt_cd 149 48 = some (.ireturn) := mt_cd_of (q := (48, .ireturn, 1)) mq_149 ci_149 (List.mem_of_getElem? (i := 28) rfl)
theorem cd_149_49 : mt_cd 149 49 = some (.iinc 2 1) := mt_cd_of (q := (49, .iinc 2 1, 3)) mq_149 ci_149 (List.mem_of_getElem? (i := 29) rfl)
theorem cd_149_52 : mt_cd 149 52 = some (.goto (-32)) := mt_cd_of (q := (52, .goto (-32), 3)) mq_149 ci_149 (List.mem_of_getElem? (i := 30) rfl)
theorem cd_149_55 : mt_cd 149 55 = some (.iconst 1) := mt_cd_of (q := (55, .iconst 1, 1)) mq_149 ci_149 (List.mem_of_getElem? (i := 31) rfl)
theorem cd_149_56 : mt_cd 149 56 = some (.ireturn) := mt_cd_of (q := (56, .ireturn, 1)) mq_149 ci_149 (List.mem_of_getElem? (i := 32) rfl)
theorem b_149_0 {d : Nat} {Q : (Option Value ⊕ Nat) → mi_H → Prop} (n sl : Nat) (f : Nat → mi_C) {l1 : Nat} {l2 : Nat} {o3 : Option Value} {fs4 : List Value} {x7 : Int32} {fs9 : List Value} {x12 : Int32} {fs14 : List Value} (h5 : f l1 = .inr (12, fs4)) (h6 : l1 < n) (h8 : fs4[10]? = some (.int x7)) (h10 : f l1 = .inr (12, fs9)) (h11 : l1 < n) (h13 : fs9[9]? = some (.int x12)) (h15 : f l2 = .inr (17, fs14)) (h16 : l2 < n ∨ (mi_SC < l2 ∧ (l2 - mi_SC - 1) / 2 < mt_ns)) (h17 : mi_W d 150 0 (mi_en 1 [.ref l2]) [] (n, sl, f) (mi_Kc d 149 10 [some (.ref l1), some (.ref l2), o3] [.int (x7 - x12)] Q)) : mi_W (d + 1) 149 0 [some (.ref l1), some (.ref l2), o3] [] (n, sl, f) Q := by
  refine w_aload_n cd_149_0 rfl ?_
  refine w_getfield cd_149_1 (show mt_f 12 297 = some (12, 10) by decide +kernel) h5 h6 h8 ?_
  refine w_aload_n cd_149_4 rfl ?_
  refine w_getfield cd_149_5 (show mt_f 12 299 = some (12, 9) by decide +kernel) h10 h11 h13 ?_
  refine w_isub cd_149_8 ?_
  refine w_aload_n cd_149_9 rfl ?_
  exact w_invokevirtual cd_149_10 (show mt_m 12 302 = some (150, 0) by decide +kernel) (rest := [.int (x7 - x12)]) rfl (as := [.ref l2]) rfl h15 h16 ⟨Nat.le_of_ble_eq_true rfl, Nat.le_of_ble_eq_true rfl, Nat.le_of_ble_eq_true rfl⟩ h17
theorem b_149_13 {d : Nat} {Q : (Option Value ⊕ Nat) → mi_H → Prop} (n sl : Nat) (f : Nat → mi_C) {l1 : Nat} {l2 : Nat} {o3 : Option Value} {s4 : Int32} {s5 : Int32} (h6 : s5 = s4 → mi_W d 149 18 [some (.ref l1), some (.ref l2), o3] [] (n, sl, f) Q) (h7 : ¬ (s5 = s4) → mi_W d 149 16 [some (.ref l1), some (.ref l2), o3] [] (n, sl, f) Q) : mi_W d 149 13 [some (.ref l1), some (.ref l2), o3] [.int s4, .int s5] (n, sl, f) Q := by
  exact w_if_icmpeq cd_149_13 (by decide) h6 h7
theorem b_149_16 {d : Nat} {Q : (Option Value ⊕ Nat) → mi_H → Prop} (n sl : Nat) (f : Nat → mi_C) {l1 : Nat} {l2 : Nat} {o3 : Option Value} (h4 : Q (.inl (some (.int 0))) (n, sl, f)) : mi_W d 149 16 [some (.ref l1), some (.ref l2), o3] [] (n, sl, f) Q := by
  refine w_iconst (v := 0) cd_149_16 (by decide) ?_
  exact w_ireturn_z cd_149_17 (by decide +kernel) (by decide) h4
theorem b_149_18 {d : Nat} {Q : (Option Value ⊕ Nat) → mi_H → Prop} (n sl : Nat) (f : Nat → mi_C) {l1 : Nat} {l2 : Nat} {o3 : Option Value} (h4 : mi_W d 149 20 [some (.ref l1), some (.ref l2), some (.int 0)] [] (n, sl, f) Q) : mi_W d 149 18 [some (.ref l1), some (.ref l2), o3] [] (n, sl, f) Q := by
  refine w_iconst (v := 0) cd_149_18 (by decide) ?_
  refine w_istore_n (ls' := [some (.ref l1), some (.ref l2), some (.int 0)]) cd_149_19 (Nat.le_of_ble_eq_true rfl) rfl ?_
  exact h4
theorem b_149_20 {d : Nat} {Q : (Option Value ⊕ Nat) → mi_H → Prop} (n sl : Nat) (f : Nat → mi_C) {l1 : Nat} {l2 : Nat} {l3 : Int32} {fs4 : List Value} (h5 : f l2 = .inr (17, fs4)) (h6 : l2 < n ∨ (mi_SC < l2 ∧ (l2 - mi_SC - 1) / 2 < mt_ns)) (h7 : mi_W d 150 0 (mi_en 1 [.ref l2]) [] (n, sl, f) (mi_Kc d 149 22 [some (.ref l1), some (.ref l2), some (.int l3)] [.int l3] Q)) : mi_W (d + 1) 149 20 [some (.ref l1), some (.ref l2), some (.int l3)] [] (n, sl, f) Q := by
  refine w_iload_n cd_149_20 rfl ?_
  refine w_aload_n cd_149_21 rfl ?_
  exact w_invokevirtual cd_149_22 (show mt_m 12 302 = some (150, 0) by decide +kernel) (rest := [.int l3]) rfl (as := [.ref l2]) rfl h5 h6 ⟨Nat.le_of_ble_eq_true rfl, Nat.le_of_ble_eq_true rfl, Nat.le_of_ble_eq_true rfl⟩ h7
theorem b_149_25 {d : Nat} {Q : (Option Value ⊕ Nat) → mi_H → Prop} (n sl : Nat) (f : Nat → mi_C) {l1 : Nat} {l2 : Nat} {l3 : Int32} {s4 : Int32} {s5 : Int32} (h6 : s4 ≤ s5 → mi_W d 149 55 [some (.ref l1), some (.ref l2), some (.int l3)] [] (n, sl, f) Q) (h7 : ¬ (s4 ≤ s5) → mi_W d 149 28 [some (.ref l1), some (.ref l2), some (.int l3)] [] (n, sl, f) Q) : mi_W d 149 25 [some (.ref l1), some (.ref l2), some (.int l3)] [.int s4, .int s5] (n, sl, f) Q := by
  exact w_if_icmpge cd_149_25 (by decide) h6 h7
theorem b_149_28 {d : Nat} {Q : (Option Value ⊕ Nat) → mi_H → Prop} (n sl : Nat) (f : Nat → mi_C) {l1 : Nat} {l2 : Nat} {l3 : Int32} {fs4 : List Value} {x7 : Nat} {fs9 : List Value} {x12 : Int32} (m14 i14 : Nat) (g14 : Nat → Int32) {fs18 : List Value} (h5 : f l1 = .inr (12, fs4)) (h6 : l1 < n) (h8 : fs4[6]? = some (.ref x7)) (h10 : f l1 = .inr (12, fs9)) (h11 : l1 < n) (h13 : fs9[9]? = some (.int x12)) (h15 : f x7 = .inl (0, m14, .inl g14)) (h16 : x7 < n ∨ x7 = mi_SC) (h17 : mi_ix (x12 + l3) m14 i14) (h19 : f l2 = .inr (17, fs18)) (h20 : l2 < n ∨ (mi_SC < l2 ∧ (l2 - mi_SC - 1) / 2 < mt_ns)) (h21 : mi_W d 29 0 (mi_en 2 [.ref l2, .int l3]) [] (n, sl, f) (mi_Kc d 149 41 [some (.ref l1), some (.ref l2), some (.int l3)] [.int (g14 i14)] Q)) : mi_W (d + 1) 149 28 [some (.ref l1), some (.ref l2), some (.int l3)] [] (n, sl, f) Q := by
  refine w_aload_n cd_149_28 rfl ?_
  refine w_getfield cd_149_29 (show mt_f 12 20 = some (12, 6) by decide +kernel) h5 h6 h8 ?_
  refine w_aload_n cd_149_32 rfl ?_
  refine w_getfield cd_149_33 (show mt_f 12 299 = some (12, 9) by decide +kernel) h10 h11 h13 ?_
  refine w_iload_n cd_149_36 rfl ?_
  refine w_iadd cd_149_37 ?_
  refine w_iaload cd_149_38 h15 h16 h17 ?_
  refine w_aload_n cd_149_39 rfl ?_
  refine w_iload_n cd_149_40 rfl ?_
  exact w_invokevirtual cd_149_41 (show mt_m 12 306 = some (29, 0) by decide +kernel) (rest := [.int (g14 i14)]) rfl (as := [.ref l2, .int l3]) rfl h19 h20 ⟨Nat.le_of_ble_eq_true rfl, Nat.le_of_ble_eq_true rfl, Nat.le_of_ble_eq_true rfl⟩ h21
theorem b_149_44 {d : Nat} {Q : (Option Value ⊕ Nat) → mi_H → Prop} (n sl : Nat) (f : Nat → mi_C) {l1 : Nat} {l2 : Nat} {l3 : Int32} {s4 : Int32} {s5 : Int32} (h6 : s5 = s4 → mi_W d 149 49 [some (.ref l1), some (.ref l2), some (.int l3)] [] (n, sl, f) Q) (h7 : ¬ (s5 = s4) → mi_W d 149 47 [some (.ref l1), some (.ref l2), some (.int l3)] [] (n, sl, f) Q) : mi_W d 149 44 [some (.ref l1), some (.ref l2), some (.int l3)] [.int s4, .int s5] (n, sl, f) Q := by
  exact w_if_icmpeq cd_149_44 (by decide) h6 h7
theorem b_149_47 {d : Nat} {Q : (Option Value ⊕ Nat) → mi_H → Prop} (n sl : Nat) (f : Nat → mi_C) {l1 : Nat} {l2 : Nat} {l3 : Int32} (h4 : Q (.inl (some (.int 0))) (n, sl, f)) : mi_W d 149 47 [some (.ref l1), some (.ref l2), some (.int l3)] [] (n, sl, f) Q := by
  refine w_iconst (v := 0) cd_149_47 (by decide) ?_
  exact w_ireturn_z cd_149_48 (by decide +kernel) (by decide) h4
theorem b_149_49 {d : Nat} {Q : (Option Value ⊕ Nat) → mi_H → Prop} (n sl : Nat) (f : Nat → mi_C) {l1 : Nat} {l2 : Nat} {l3 : Int32} (h4 : mi_W d 149 20 [some (.ref l1), some (.ref l2), some (.int (l3 + 1))] [] (n, sl, f) Q) : mi_W d 149 49 [some (.ref l1), some (.ref l2), some (.int l3)] [] (n, sl, f) Q := by
  refine w_iinc (v := 1) (ls' := [some (.ref l1), some (.ref l2), some (.int (l3 + 1))]) cd_149_49 rfl (by decide) rfl ?_
  exact w_goto cd_149_52 (by decide) h4
theorem b_149_55 {d : Nat} {Q : (Option Value ⊕ Nat) → mi_H → Prop} (n sl : Nat) (f : Nat → mi_C) {l1 : Nat} {l2 : Nat} {l3 : Int32} (h4 : Q (.inl (some (.int 1))) (n, sl, f)) : mi_W d 149 55 [some (.ref l1), some (.ref l2), some (.int l3)] [] (n, sl, f) Q := by
  refine w_iconst (v := 1) cd_149_55 (by decide) ?_
  exact w_ireturn_z cd_149_56 (by decide +kernel) (by decide) h4
/-! MarloweHostModel.contract()I -/
set_option maxRecDepth 100000 in
theorem mq_152 : mt_q 152 = my_152 := rfl
set_option maxRecDepth 100000 in
theorem ci_152 : mt_inc 0 my_152.cd = true := by decide +kernel
theorem cd_152_0 : mt_cd 152 0 = some (.aload_n 0) := mt_cd_of (q := (0, .aload_n 0, 1)) mq_152 ci_152 (List.mem_append_left _ (show _ ∈ my_152_0 from List.mem_of_getElem? (i := 0) rfl))
theorem cd_152_1 : mt_cd 152 1 = some (.ldc_w 373) := mt_cd_of (q := (1, .ldc_w 373, 3)) mq_152 ci_152 (List.mem_append_left _ (show _ ∈ my_152_0 from List.mem_of_getElem? (i := 1) rfl))
theorem cd_152_4 : mt_cd 152 4 = some (.invokevirtual 375) := mt_cd_of (q := (4, .invokevirtual 375, 3)) mq_152 ci_152 (List.mem_append_left _ (show _ ∈ my_152_0 from List.mem_of_getElem? (i := 2) rfl))
theorem cd_152_7 : mt_cd 152 7 = some (.ifCond .eq 58) := mt_cd_of (q := (7, .ifCond .eq 58, 3)) mq_152 ci_152 (List.mem_append_left _ (show _ ∈ my_152_0 from List.mem_of_getElem? (i := 3) rfl))
theorem cd_152_10 : mt_cd 152 10 = some (.aload_n 0) := mt_cd_of (q := (10, .aload_n 0, 1)) mq_152 ci_152 (List.mem_append_left _ (show _ ∈ my_152_0 from List.mem_of_getElem? (i := 4) rfl))
theorem cd_152_11 : mt_cd 152 11 = some (.invokevirtual 378) := mt_cd_of (q := (11, .invokevirtual 378, 3)) mq_152 ci_152 (List.mem_append_left _ (show _ ∈ my_152_0 from List.mem_of_getElem? (i := 5) rfl))
theorem cd_152_14 : mt_cd 152 14 = some (.ifCond .eq 10) := mt_cd_of (q := (14, .ifCond .eq 10, 3)) mq_152 ci_152 (List.mem_append_left _ (show _ ∈ my_152_0 from List.mem_of_getElem? (i := 6) rfl))
theorem cd_152_17 : mt_cd 152 17 = some (.aload_n 0) := mt_cd_of (q := (17, .aload_n 0, 1)) mq_152 ci_152 (List.mem_append_left _ (show _ ∈ my_152_0 from List.mem_of_getElem? (i := 7) rfl))
theorem cd_152_18 : mt_cd 152 18 = some (.invokevirtual 333) := mt_cd_of (q := (18, .invokevirtual 333, 3)) mq_152 ci_152 (List.mem_append_left _ (show _ ∈ my_152_0 from List.mem_of_getElem? (i := 8) rfl))
theorem cd_152_21 : mt_cd 152 21 = some (.ifCond .ne 5) := mt_cd_of (q := (21, .ifCond .ne 5, 3)) mq_152 ci_152 (List.mem_append_left _ (show _ ∈ my_152_0 from List.mem_of_getElem? (i := 9) rfl))
theorem cd_152_24 : mt_cd 152 24 = some (.iconst (-1)) := mt_cd_of (q := (24, .iconst (-1), 1)) mq_152 ci_152 (List.mem_append_left _ (show _ ∈ my_152_0 from List.mem_of_getElem? (i := 10) rfl))
theorem cd_152_25 : mt_cd 152 25 = some (.ireturn) := mt_cd_of (q := (25, .ireturn, 1)) mq_152 ci_152 (List.mem_append_left _ (show _ ∈ my_152_0 from List.mem_of_getElem? (i := 11) rfl))
theorem cd_152_26 : mt_cd 152 26 = some (.aload_n 0) := mt_cd_of (q := (26, .aload_n 0, 1)) mq_152 ci_152 (List.mem_append_left _ (show _ ∈ my_152_0 from List.mem_of_getElem? (i := 12) rfl))
theorem cd_152_27 : mt_cd 152 27 = some (.invokevirtual 355) := mt_cd_of (q := (27, .invokevirtual 355, 3)) mq_152 ci_152 (List.mem_append_left _ (show _ ∈ my_152_0 from List.mem_of_getElem? (i := 13) rfl))
theorem cd_152_30 : mt_cd 152 30 = some (.istore_n 1) := mt_cd_of (q := (30, .istore_n 1, 1)) mq_152 ci_152 (List.mem_append_left _ (show _ ∈ my_152_0 from List.mem_of_getElem? (i := 14) rfl))
theorem cd_152_31 : mt_cd 152 31 = some (.aload_n 0) := mt_cd_of (q := (31, .aload_n 0, 1)) mq_152 ci_152 (List.mem_append_left _ (show _ ∈ my_152_0 from List.mem_of_getElem? (i := 15) rfl))
theorem cd_152_32 : mt_cd 152 32 = some (.dup) := mt_cd_of (q := (32, .dup, 1)) mq_152 ci_152 (List.mem_append_left _ (show _ ∈ my_152_0 from List.mem_of_getElem? (i := 16) rfl))
theorem cd_152_33 : mt_cd 152 33 = some (.getfield 337) := mt_cd_of (q := (33, .getfield 337, 3)) mq_152 ci_152 (List.mem_append_left _ (show _ ∈ my_152_0 from List.mem_of_getElem? (i := 17) rfl))
theorem cd_152_36 : mt_cd 152 36 = some (.iconst 1) := mt_cd_of (q := (36, .iconst 1, 1)) mq_152 ci_152 (List.mem_append_left _ (show _ ∈ my_152_0 from List.mem_of_getElem? (i := 18) rfl))
theorem cd_152_37 : mt_cd 152 37 = some (.isub) := mt_cd_of (q := (37, .isub, 1)) mq_152 ci_152 (List.mem_append_left _ (show _ ∈ my_152_0 from List.mem_of_getElem? (i := 19) rfl))
theorem cd_152_38 : mt_cd 152 38 = some (.putfield 337) := mt_cd_of (q := (38, .putfield 337, 3)) mq_152 ci_152 (List.mem_append_left _ (show _ ∈ my_152_0 from List.mem_of_getElem? (i := 20) rfl))
theorem cd_152_41 : mt_cd 152 41 = some (.iload_n 1) := mt_cd_of (q := (41, .iload_n 1, 1)) mq_152 ci_152 (List.mem_append_left _ (show _ ∈ my_152_0 from List.mem_of_getElem? (i := 21) rfl))
theorem cd_152_42 : mt_cd 152 42 = some (.ifCond .lt 21) := mt_cd_of (q := (42, .ifCond .lt 21, 3)) mq_152 ci_152 (List.mem_append_left _ (show _ ∈ my_152_0 from List.mem_of_getElem? (i := 22) rfl))
theorem cd_152_45 : mt_cd 152 45 = some (.aload_n 0) := mt_cd_of (q := (45, .aload_n 0, 1)) mq_152 ci_152 (List.mem_append_left _ (show _ ∈ my_152_0 from List.mem_of_getElem? (i := 23) rfl))
theorem cd_152_46 : mt_cd 152 46 = some (.aload_n 0) := mt_cd_of (q := (46, .aload_n 0, 1)) mq_152 ci_152 (List.mem_append_left _ (show _ ∈ my_152_0 from List.mem_of_getElem? (i := 24) rfl))
theorem cd_152_47 : mt_cd 152 47 = some (.ldc_w 381) := mt_cd_of (q := (47, .ldc_w 381, 3)) mq_152 ci_152 (List.mem_append_left _ (show _ ∈ my_152_0 from List.mem_of_getElem? (i := 25) rfl))
theorem cd_152_50 : mt_cd 152 50 = some (.invokevirtual 375) := mt_cd_of (q := (50, .invokevirtual 375, 3)) mq_152 ci_152 (List.mem_append_left _ (show _ ∈ my_152_0 from List.mem_of_getElem? (i := 26) rfl))
theorem cd_152_53 : mt_cd 152 53 = some (.invokevirtual 383) := mt_cd_of (q := (53, .invokevirtual 383, 3)) mq_152 ci_152 (List.mem_append_left _ (show _ ∈ my_152_0 from List.mem_of_getElem? (i := 27) rfl))
theorem cd_152_56 : mt_cd 152 56 = some (.ifCond .eq 7) := mt_cd_of (q := (56, .ifCond .eq 7, 3)) mq_152 ci_152 (List.mem_append_left _ (show _ ∈ my_152_0 from List.mem_of_getElem? (i := 28) rfl))
theorem cd_152_59 : mt_cd 152 59 = some (.iload_n 1) := mt_cd_of (q := (59, .iload_n 1, 1)) mq_152 ci_152 (List.mem_append_left _ (show _ ∈ my_152_0 from List.mem_of_getElem? (i := 29) rfl))
theorem cd_152_60 : mt_cd 152 60 = some (.goto 4) := mt_cd_of (q := (60, .goto 4, 3)) mq_152 ci_152 (List.mem_append_left _ (show _ ∈ my_152_0 from List.mem_of_getElem? (i := 30) rfl))
theorem cd_152_63 : mt_cd 152 63 = some (.iconst (-1)) := mt_cd_of (q := (63, .iconst (-1), 1)) mq_152 ci_152 (List.mem_append_left _ (show _ ∈ my_152_0 from List.mem_of_getElem? (i := 31) rfl))
theorem cd_152_64 : mt_cd 152 64 = some (.ireturn) := mt_cd_of (q := (64, .ireturn, 1)) mq_152 ci_152 (List.mem_append_left _ (show _ ∈ my_152_0 from List.mem_of_getElem? (i := 32) rfl))
theorem cd_152_65 : mt_cd 152 65 = some (.aload_n 0) := mt_cd_of (q := (65, .aload_n 0, 1)) mq_152 ci_152 (List.mem_append_left _ (show _ ∈ my_152_0 from List.mem_of_getElem? (i := 33) rfl))
theorem cd_152_66 : mt_cd 152 66 = some (.ldc 25) := mt_cd_of (q := (66, .ldc 25, 2)) mq_152 ci_152 (List.mem_append_left _ (show _ ∈ my_152_0 from List.mem_of_getElem? (i := 34) rfl))
theorem cd_152_68 : mt_cd 152 68 = some (.invokevirtual 387) := mt_cd_of (q := (68, .invokevirtual 387, 3)) mq_152 ci_152 (List.mem_append_left _ (show _ ∈ my_152_0 from List.mem_of_getElem? (i := 35) rfl))
theorem cd_152_71 : mt_cd 152 71 = some (.ifCond .eq 7) := mt_cd_of (q := (71, .ifCond .eq 7, 3)) mq_152 ci_152 (List.mem_append_left _ (show _ ∈ my_152_0 from List.mem_of_getElem? (i := 36) rfl))
theorem cd_152_74 : mt_cd 152 74 = some (.iconst 0) := mt_cd_of (q := (74, .iconst 0, 1)) mq_152 ci_152 (List.mem_append_left _ (show _ ∈ my_152_0 from List.mem_of_getElem? (i := 37) rfl))
theorem cd_152_75 : mt_cd 152 75 = some (.goto 70) := mt_cd_of (q := (75, .goto 70, 3)) mq_152 ci_152 (List.mem_append_left _ (show _ ∈ my_152_0 from List.mem_of_getElem? (i := 38) rfl))
theorem cd_152_78 : mt_cd 152 78 = some (.aload_n 0) := mt_cd_of (q := (78, .aload_n 0, 1)) mq_152 ci_152 (List.mem_append_left _ (show _ ∈ my_152_0 from List.mem_of_getElem? (i := 39) rfl))
theorem cd_152_79 : mt_cd 152 79 = some (.ldc 27) := mt_cd_of (q := (79, .ldc 27, 2)) mq_152 ci_152 (List.mem_append_left _ (show _ ∈ my_152_0 from List.mem_of_getElem? (i := 40) rfl))
theorem cd_152_81 : mt_cd 152 81 = some (.invokevirtual 387) := mt_cd_of (q := (81, .invokevirtual 387, 3)) mq_152 ci_152 (List.mem_append_left _ (show _ ∈ my_152_0 from List.mem_of_getElem? (i := 41) rfl))
theorem cd_152_84 : mt_cd 152 84 = some (.ifCond .eq 7) := mt_cd_of (q := (84, .ifCond .eq 7, 3)) mq_152 ci_152 (List.mem_append_left _ (show _ ∈ my_152_0 from List.mem_of_getElem? (i := 42) rfl))
theorem cd_152_87 : mt_cd 152 87 = some (.iconst 1) := mt_cd_of (q := (87, .iconst 1, 1)) mq_152 ci_152 (List.mem_append_left _ (show _ ∈ my_152_0 from List.mem_of_getElem? (i := 43) rfl))
theorem cd_152_88 : mt_cd 152 88 = some (.goto 57) := mt_cd_of (q := (88, .goto 57, 3)) mq_152 ci_152 (List.mem_append_left _ (show _ ∈ my_152_0 from List.mem_of_getElem? (i := 44) rfl))
theorem cd_152_91 : mt_cd 152 91 = some (.aload_n 0) := mt_cd_of (q := (91, .aload_n 0, 1)) mq_152 ci_152 (List.mem_append_left _ (show _ ∈ my_152_0 from List.mem_of_getElem? (i := 45) rfl))
theorem cd_152_92 : mt_cd 152 92 = some (.ldc 33) := mt_cd_of (q := (92, .ldc 33, 2)) mq_152 ci_152 (List.mem_append_left _ (show _ ∈ my_152_0 from List.mem_of_getElem? (i := 46) rfl))
theorem cd_152_94 : mt_cd 152 94 = some (.invokevirtual 387) := mt_cd_of (q := (94, .invokevirtual 387, 3)) mq_152 ci_152 (List.mem_append_left _ (show _ ∈ my_152_0 from List.mem_of_getElem? (i := 47) rfl))
theorem cd_152_97 : mt_cd 152 97 = some (.ifCond .eq 7) := mt_cd_of (q := (97, .ifCond .eq 7, 3)) mq_152 ci_152 (List.mem_append_left _ (show _ ∈ my_152_0 from List.mem_of_getElem? (i := 48) rfl))
theorem cd_152_100 : mt_cd 152 100 = some (.iconst 3) := mt_cd_of (q := (100, .iconst 3, 1)) mq_152 ci_152 (List.mem_append_left _ (show _ ∈ my_152_0 from List.mem_of_getElem? (i := 49) rfl))
theorem cd_152_101 : mt_cd 152 101 = some (.goto 44) := mt_cd_of (q := (101, .goto 44, 3)) mq_152 ci_152 (List.mem_append_left _ (show _ ∈ my_152_0 from List.mem_of_getElem? (i := 50) rfl))
theorem cd_152_104 : mt_cd 152 104 = some (.aload_n 0) := mt_cd_of (q := (104, .aload_n 0, 1)) mq_152 ci_152 (List.mem_append_left _ (show _ ∈ my_152_0 from List.mem_of_getElem? (i := 51) rfl))
theorem cd_152_105 : mt_cd 152 105 = some (.ldc 35) := mt_cd_of (q := (105, .ldc 35, 2)) mq_152 ci_152 (List.mem_append_left _ (show _ ∈ my_152_0 from List.mem_of_getElem? (i := 52) rfl))
theorem cd_152_107 : mt_cd 152 107 = some (.invokevirtual 387) := mt_cd_of (q := (107, .invokevirtual 387, 3)) mq_152 ci_152 (List.mem_append_left _ (show _ ∈ my_152_0 from List.mem_of_getElem? (i := 53) rfl))
theorem cd_152_110 : mt_cd 152 110 = some (.ifCond .eq 7) := mt_cd_of (q := (110, .ifCond .eq 7, 3)) mq_152 ci_152 (List.mem_append_left _ (show _ ∈ my_152_0 from List.mem_of_getElem? (i := 54) rfl))
theorem cd_152_113 : mt_cd 152 113 = some (.iconst 4) := mt_cd_of (q := (113, .iconst 4, 1)) mq_152 ci_152 (List.mem_append_left _ (show _ ∈ my_152_0 from List.mem_of_getElem? (i := 55) rfl))
theorem cd_152_114 : mt_cd 152 114 = some (.goto 31) := mt_cd_of (q := (114, .goto 31, 3)) mq_152 ci_152 (List.mem_append_left _ (show _ ∈ my_152_0 from List.mem_of_getElem? (i := 56) rfl))
theorem cd_152_117 : mt_cd 152 117 = some (.aload_n 0) := mt_cd_of (q := (117, .aload_n 0, 1)) mq_152 ci_152 (List.mem_append_left _ (show _ ∈ my_152_0 from List.mem_of_getElem? (i := 57) rfl))
theorem cd_152_118 : mt_cd 152 118 = some (.ldc 37) := mt_cd_of (q := (118, .ldc 37, 2)) mq_152 ci_152 (List.mem_append_left _ (show _ ∈ my_152_0 from List.mem_of_getElem? (i := 58) rfl))
theorem cd_152_120 : mt_cd 152 120 = some (.invokevirtual 387) := mt_cd_of (q := (120, .invokevirtual 387, 3)) mq_152 ci_152 (List.mem_append_left _ (show _ ∈ my_152_0 from List.mem_of_getElem? (i := 59) rfl))
theorem cd_152_123 : mt_cd 152 123 = some (.ifCond .eq 7) := mt_cd_of (q := (123, .ifCond .eq 7, 3)) mq_152 ci_152 (List.mem_append_right _ ((show _ ∈ my_152_1 from List.mem_of_getElem? (i := 0) rfl)))
theorem cd_152_126 : mt_cd 152 126 = some (.iconst 5) := mt_cd_of (q := (126, .iconst 5, 1)) mq_152 ci_152 (List.mem_append_right _ ((show _ ∈ my_152_1 from List.mem_of_getElem? (i := 1) rfl)))
theorem cd_152_127 : mt_cd 152 127 = some (.goto 18) := mt_cd_of (q := (127, .goto 18, 3)) mq_152 ci_152 (List.mem_append_right _ ((show _ ∈ my_152_1 from List.mem_of_getElem? (i := 2) rfl)))
theorem cd_152_130 : mt_cd 152 130 = some (.aload_n 0) := mt_cd_of (q := (130, .aload_n 0, 1)) mq_152 ci_152 (List.mem_append_right _ ((show _ ∈ my_152_1 from List.mem_of_getElem? (i := 3) rfl)))
theorem cd_152_131 : mt_cd 152 131 = some (.ldc 39) := mt_cd_of (q := (131, .ldc 39, 2)) mq_152 ci_152 (List.mem_append_right _ ((show _ ∈ my_152_1 from List.mem_of_getElem? (i := 4) rfl)))
theorem cd_152_133 : mt_cd 152 133 = some (.invokevirtual 387) := mt_cd_of (q := (133, .invokevirtual 387, 3)) mq_152 ci_152 (List.mem_append_right _ ((show _ ∈ my_152_1 from List.mem_of_getElem? (i := 5) rfl)))
theorem cd_152_136 : mt_cd 152 136 = some (.ifCond .eq 8) := mt_cd_of (q := (136, .ifCond .eq 8, 3)) mq_152 ci_152 (List.mem_append_right _ ((show _ ∈ my_152_1 from List.mem_of_getElem? (i := 6) rfl)))
theorem cd_152_139 : mt_cd 152 139 = some (.bipush 6) := mt_cd_of (q := (139, .bipush 6, 2)) mq_152 ci_152 (List.mem_append_right _ ((show _ ∈ my_152_1 from List.mem_of_getElem? (i := 7) rfl)))
theorem cd_152_141 : mt_cd 152 141 = some (.goto 4) := mt_cd_of (q := (141, .goto 4, 3)) mq_152 ci_152 (List.mem_append_right _ ((show _ ∈ my_152_1 from List.mem_of_getElem? (i := 8) rfl)))
theorem cd_152_144 : mt_cd 152 144 = some (.iconst (-1)) := mt_cd_of (q := (144, .iconst (-1), 1)) mq_152 ci_152 (List.mem_append_right _ ((show _ ∈ my_152_1 from List.mem_of_getElem? (i := 9) rfl)))
theorem cd_152_145 : mt_cd 152 145 = some (.istore_n 1) := mt_cd_of (q := (145, .istore_n 1, 1)) mq_152 ci_152 (List.mem_append_right _ ((show _ ∈ my_152_1 from List.mem_of_getElem? (i := 10) rfl)))
theorem cd_152_146 : mt_cd 152 146 = some (.iload_n 1) := mt_cd_of (q := (146, .iload_n 1, 1)) mq_152 ci_152 (List.mem_append_right _ ((show _ ∈ my_152_1 from List.mem_of_getElem? (i := 11) rfl)))
theorem cd_152_147 : mt_cd 152 147 = some (.ifCond .ge 14) := mt_cd_of (q := (147, .ifCond .ge 14, 3)) mq_152 ci_152 (List.mem_append_right _ ((show _ ∈ my_152_1 from List.mem_of_getElem? (i := 12) rfl)))
theorem cd_152_150 : mt_cd 152 150 = some (.aload_n 0) := mt_cd_of (q := (150, .aload_n 0, 1)) mq_152 ci_152 (List.mem_append_right _ ((show _ ∈ my_152_1 from List.mem_of_getElem? (i := 13) rfl)))
theorem cd_152_151 : mt_cd 152 151 = some (.aload_n 0) := mt_cd_of (q := (151, .aload_n 0, 1)) mq_152 ci_152 (List.mem_append_right _ ((show _ ∈ my_152_1 from List.mem_of_getElem? (i := 14) rfl)))
theorem cd_152_152 : mt_cd 152 152 = some (.getfield 299) := mt_cd_of (q := (152, .getfield 299, 3)) mq_152 ci_152 (List.mem_append_right _ ((show _ ∈ my_152_1 from List.mem_of_getElem? (i := 15) rfl)))
theorem cd_152_155 : mt_cd 152 155 = some (.invokevirtual 272) := mt_cd_of (q := (155, .invokevirtual 272, 3)) mq_152 ci_152 (List.mem_append_right _ ((show _ ∈ my_152_1 from List.mem_of_getElem? (i := 16) rfl)))
theorem cd_152_158 : mt_cd 152 158 = some (.pop) := mt_cd_of (q := (158, .pop, 1)) mq_152 ci_152 (List.mem_append_right _ ((show _ ∈ my_152_1 from List.mem_of_getElem? (i := 17) rfl)))
theorem cd_152_159 : mt_cd 152 159 = some (.iconst (-1)) := mt_cd_of (q := (159, .iconst (-1), 1)) mq_152 ci_152 (List.mem_append_right _ ((show _ ∈ my_152_1 from List.mem_of_getElem? (i := 18) rfl)))
theorem cd_152_160 : mt_cd 152 160 = some (.ireturn) := mt_cd_of (q := (160, .ireturn, 1)) mq_152 ci_152 (List.mem_append_right _ ((show _ ∈ my_152_1 from List.mem_of_getElem? (i := 19) rfl)))
theorem cd_152_161 : mt_cd 152 161 = some (.aload_n 0) := mt_cd_of (q := (161, .aload_n 0, 1)) mq_152 ci_152 (List.mem_append_right _ ((show _ ∈ my_152_1 from List.mem_of_getElem? (i := 20) rfl)))
theorem cd_152_162 : mt_cd 152 162 = some (.invokevirtual 378) := mt_cd_of (q := (162, .invokevirtual 378, 3)) mq_152 ci_152 (List.mem_append_right _ ((show _ ∈ my_152_1 from List.mem_of_getElem? (i := 21) rfl)))
theorem cd_152_165 : mt_cd 152 165 = some (.ifCond .ne 5) := mt_cd_of (q := (165, .ifCond .ne 5, 3)) mq_152 ci_152 (List.mem_append_right _ ((show _ ∈ my_152_1 from List.mem_of_getElem? (i := 22) rfl)))
theorem cd_152_168 : mt_cd 152 168 = some (.iconst (-1)) := mt_cd_of (q := (168, .iconst (-1), 1)) mq_152 ci_152 (List.mem_append_right _ ((show _ ∈ my_152_1 from List.mem_of_getElem? (i := 23) rfl)))
theorem cd_152_169 : mt_cd 152 169 = some (.ireturn) := mt_cd_of (q := (169, .ireturn, 1)) mq_152 ci_152 (List.mem_append_right _ ((show _ ∈ my_152_1 from List.mem_of_getElem? (i := 24) rfl)))
theorem cd_152_170 : mt_cd 152 170 = some (.aload_n 0) := mt_cd_of (q := (170, .aload_n 0, 1)) mq_152 ci_152 (List.mem_append_right _ ((show _ ∈ my_152_1 from List.mem_of_getElem? (i := 25) rfl)))
theorem cd_152_171 : mt_cd 152 171 = some (.iload_n 1) := mt_cd_of (q := (171, .iload_n 1, 1)) mq_152 ci_152 (List.mem_append_right _ ((show _ ∈ my_152_1 from List.mem_of_getElem? (i := 26) rfl)))
theorem cd_152_172 : mt_cd 152 172 = some (.invokevirtual 390) := mt_cd_of (q := (172, .invokevirtual 390, 3)) mq_152 ci_152 (List.mem_append_right _ ((show _ ∈ my_152_1 from List.mem_of_getElem? (i := 27) rfl)))
theorem cd_152_175 : mt_cd 152 175 = some (.istore_n 2) := mt_cd_of (q := (175, .istore_n 2, 1)) mq_152 ci_152 (List.mem_append_right _ ((show _ ∈ my_152_1 from List.mem_of_getElem? (i := 28) rfl)))
theorem cd_152_176 : mt_cd 152 176 = some (.iload_n 2) := mt_cd_of (q := (176, .iload_n 2, 1)) mq_152 ci_152 (List.mem_append_right _ ((show _ ∈ my_152_1 from List.mem_of_getElem? (i := 29) rfl)))
theorem cd_152_177 : mt_cd 152 177 = some (.ifCond .lt 22) := mt_cd_of (q := (177, .ifCond .lt 22, 3)) mq_152 ci_152 (List.mem_append_right _ ((show _ ∈ my_152_1 from List.mem_of_getElem? (i := 30) rfl)))
theorem cd_152_180 : mt_cd 152 180 = some (.aload_n 0) := mt_cd_of (q := (180, .aload_n 0, 1)) mq_152 ci_152 (List.mem_append_right _ ((show _ ∈ my_152_1 from List.mem_of_getElem? (i := 31) rfl)))
theorem cd_152_181 : mt_cd 152 181 = some (.invokevirtual 333) := mt_cd_of (q := (181, .invokevirtual 333, 3)) mq_152 ci_152 (List.mem_append_right _ ((show _ ∈ my_152_1 from List.mem_of_getElem? (i := 32) rfl)))
theorem cd_152_184 : mt_cd 152 184 = some (.ifCond .eq 15) := mt_cd_of (q := (184, .ifCond .eq 15, 3)) mq_152 ci_152 (List.mem_append_right _ ((show _ ∈ my_152_1 from List.mem_of_getElem? (i := 33) rfl)))
theorem cd_152_187 : mt_cd 152 187 = some (.aload_n 0) := mt_cd_of (q := (187, .aload_n 0, 1)) mq_152 ci_152 (List.mem_append_right _ ((show _ ∈ my_152_1 from List.mem_of_getElem? (i := 34) rfl)))
theorem cd_152_188 : mt_cd 152 188 = some (.iload_n 2) := mt_cd_of (q := (188, .iload_n 2, 1)) mq_152 ci_152 (List.mem_append_right _ ((show _ ∈ my_152_1 from List.mem_of_getElem? (i := 35) rfl)))
theorem cd_152_189 : mt_cd 152 189 = some (.invokevirtual 393) := mt_cd_of (q := (189, .invokevirtual 393, 3)) mq_152 ci_152 (List.mem_append_right _ ((show _ ∈ my_152_1 from List.mem_of_getElem? (i := 36) rfl)))
theorem cd_152_192 : mt_cd 152 192 = some (.ifCond .eq 7) := mt_cd_of (q := (192, .ifCond .eq 7, 3)) mq_152 ci_152 (List.mem_append_right _ ((show _ ∈ my_152_1 from List.mem_of_getElem? (i := 37) rfl)))
theorem cd_152_195 : mt_cd 152 195 = some (.iconst 1) := mt_cd_of (q := (195, .iconst 1, 1)) mq_152 ci_152 (List.mem_append_right _ ((show _ ∈ my_152_1 from List.mem_of_getElem? (i := 38) rfl)))
theorem cd_152_196 : mt_cd 152 196 = some (.goto 4) := mt_cd_of (q := (196, .goto 4, 3)) mq_152 ci_152 (List.mem_append_right _ ((show _ ∈ my_152_1 from List.mem_of_getElem? (i := 39) rfl)))
theorem cd_152_199 : mt_cd 152 199 = some (.iconst 0) := mt_cd_of (q := (199, .iconst 0, 1)) mq_152 ci_152 (List.mem_append_right _ ((show _ ∈ my_152_1 from List.mem_of_getElem? (i := 40) rfl)))
theorem cd_152_200 : mt_cd 152 200 = some (.istore_n 3) := mt_cd_of (q := (200, .istore_n 3, 1)) mq_152 ci_152 (List.mem_append_right _ ((show _ ∈ my_152_1 from List.mem_of_getElem? (i := 41) rfl)))
theorem cd_152_201 : mt_cd 152 201 = some (.aload_n 0) := mt_cd_of (q := (201, .aload_n 0, 1)) mq_152 ci_152 (List.mem_append_right _ ((show _ ∈ my_152_1 from List.mem_of_getElem? (i := 42) rfl)))
theorem cd_152_202 : mt_cd 152 202 = some (.dup) := mt_cd_of (q := (202, .dup, 1)) mq_152 ci_152 (List.mem_append_right _ ((show _ ∈ my_152_1 from List.mem_of_getElem? (i := 43) rfl)))
theorem cd_152_203 : mt_cd 152 203 = some (.getfield 337) := mt_cd_of (q := (203, .getfield 337, 3)) mq_152 ci_152 (List.mem_append_right _ ((show _ ∈ my_152_1 from List.mem_of_getElem? (i := 44) rfl)))
theorem cd_152_206 : mt_cd 152 206 = some (.iconst 1) := mt_cd_of (q := (206, .iconst 1, 1)) mq_152 ci_152 (List.mem_append_right _ ((show _ ∈ my_152_1 from List.mem_of_getElem? (i := 45) rfl)))
theorem cd_152_207 : mt_cd 152 207 = some (.isub) := mt_cd_of (q := (207, .isub, 1)) mq_152 ci_152 (List.mem_append_right _ ((show _ ∈ my_152_1 from List.mem_of_getElem? (i := 46) rfl)))
theorem cd_152_208 : mt_cd 152 208 = some (.putfield 337) := mt_cd_of (q := (208, .putfield 337, 3)) mq_152 ci_152 (List.mem_append_right _ ((show _ ∈ my_152_1 from List.mem_of_getElem? (i := 47) rfl)))
theorem cd_152_211 : mt_cd 152 211 = some (.iload_n 3) := mt_cd_of (q := (211, .iload_n 3, 1)) mq_152 ci_152 (List.mem_append_right _ ((show _ ∈ my_152_1 from List.mem_of_getElem? (i := 48) rfl)))
theorem cd_152_212 : mt_cd 152 212 = some (.ifCond .eq 7) := mt_cd_of (q := (212, .ifCond .eq 7, 3)) mq_152 ci_152 (List.mem_append_right _ ((show _ ∈ my_152_1 from List.mem_of_getElem? (i := 49) rfl)))
theorem cd_152_215 : mt_cd 152 215 = some (.iload_n 2) := mt_cd_of (q := (215, .iload_n 2, 1)) mq_152 ci_152 (List.mem_append_right _ ((show _ ∈ my_152_1 from List.mem_of_getElem? (i := 50) rfl)))
theorem cd_152_216 : mt_cd 152 216 = some (.goto 4) := mt_cd_of (q := (216, .goto 4, 3)) mq_152 ci_152 (List.mem_append_right _ ((show _ ∈ my_152_1 from List.mem_of_getElem? (i := 51) rfl)))
theorem cd_152_219 : mt_cd 152 219 = some (.iconst (-1)) := mt_cd_of (q := (219, .iconst (-1), 1)) mq_152 ci_152 (List.mem_append_right _ ((show _ ∈ my_152_1 from List.mem_of_getElem? (i := 52) rfl)))
theorem cd_152_220 : mt_cd 152 220 = some (.ireturn) := mt_cd_of (q := (220, .ireturn, 1)) mq_152 ci_152 (List.mem_append_right _ ((show _ ∈ my_152_1 from List.mem_of_getElem? (i := 53) rfl)))
theorem b_152_0 {d : Nat} {Q : (Option Value ⊕ Nat) → mi_H → Prop} (n sl : Nat) (f : Nat → mi_C) {l1 : Nat} {o2 : Option Value} {o3 : Option Value} {o4 : Option Value} {fs5 : List Value} (h6 : f l1 = .inr (12, fs5)) (h7 : l1 < n) (h8 : mi_W d 153 0 (mi_en 2 [.ref l1, .ref (mi_SC + 1 + 2 * 40)]) [] (n, sl, f) (mi_Kc d 152 4 [some (.ref l1), o2, o3, o4] [] Q)) : mi_W (d + 1) 152 0 [some (.ref l1), o2, o3, o4] [] (n, sl, f) Q := by
  refine w_aload_n cd_152_0 rfl ?_
  refine w_ldc_w (n := 40) cd_152_1 (by decide +kernel) ?_
  exact w_invokevirtual cd_152_4 (show mt_m 12 375 = some (153, 0) by decide +kernel) (rest := []) rfl (as := [.ref l1, .ref (mi_SC + 1 + 2 * 40)]) rfl h6 (Or.inl h7) ⟨Nat.le_of_ble_eq_true rfl, Nat.le_of_ble_eq_true rfl, Nat.le_of_ble_eq_true rfl⟩ h8
theorem b_152_7 {d : Nat} {Q : (Option Value ⊕ Nat) → mi_H → Prop} (n sl : Nat) (f : Nat → mi_C) {l1 : Nat} {o2 : Option Value} {o3 : Option Value} {o4 : Option Value} {s5 : Int32} (h6 : s5 = (0 : Int32) → mi_W d 152 65 [some (.ref l1), o2, o3, o4] [] (n, sl, f) Q) (h7 : ¬ (s5 = (0 : Int32)) → mi_W d 152 10 [some (.ref l1), o2, o3, o4] [] (n, sl, f) Q) : mi_W d 152 7 [some (.ref l1), o2, o3, o4] [.int s5] (n, sl, f) Q := by
  exact w_ifeq cd_152_7 (by decide) h6 h7
theorem b_152_10 {d : Nat} {Q : (Option Value ⊕ Nat) → mi_H → Prop} (n sl : Nat) (f : Nat → mi_C) {l1 : Nat} {o2 : Option Value} {o3 : Option Value} {o4 : Option Value} {fs5 : List Value} (h6 : f l1 = .inr (12, fs5)) (h7 : l1 < n) (h8 : mi_W d 154 0 (mi_en 1 [.ref l1]) [] (n, sl, f) (mi_Kc d 152 11 [some (.ref l1), o2, o3, o4] [] Q)) : mi_W (d + 1) 152 10 [some (.ref l1), o2, o3, o4] [] (n, sl, f) Q := by
  refine w_aload_n cd_152_10 rfl ?_
  exact w_invokevirtual cd_152_11 (show mt_m 12 378 = some (154, 0) by decide +kernel) (rest := []) rfl (as := [.ref l1]) rfl h6 (Or.inl h7) ⟨Nat.le_of_ble_eq_true rfl, Nat.le_of_ble_eq_true rfl, Nat.le_of_ble_eq_true rfl⟩ h8
theorem b_152_14 {d : Nat} {Q : (Option Value ⊕ Nat) → mi_H → Prop} (n sl : Nat) (f : Nat → mi_C) {l1 : Nat} {o2 : Option Value} {o3 : Option Value} {o4 : Option Value} {s5 : Int32} (h6 : s5 = (0 : Int32) → mi_W d 152 24 [some (.ref l1), o2, o3, o4] [] (n, sl, f) Q) (h7 : ¬ (s5 = (0 : Int32)) → mi_W d 152 17 [some (.ref l1), o2, o3, o4] [] (n, sl, f) Q) : mi_W d 152 14 [some (.ref l1), o2, o3, o4] [.int s5] (n, sl, f) Q := by
  exact w_ifeq cd_152_14 (by decide) h6 h7
theorem b_152_17 {d : Nat} {Q : (Option Value ⊕ Nat) → mi_H → Prop} (n sl : Nat) (f : Nat → mi_C) {l1 : Nat} {o2 : Option Value} {o3 : Option Value} {o4 : Option Value} {fs5 : List Value} (h6 : f l1 = .inr (12, fs5)) (h7 : l1 < n) (h8 : mi_W d 145 0 (mi_en 4 [.ref l1]) [] (n, sl, f) (mi_Kc d 152 18 [some (.ref l1), o2, o3, o4] [] Q)) : mi_W (d + 1) 152 17 [some (.ref l1), o2, o3, o4] [] (n, sl, f) Q := by
  refine w_aload_n cd_152_17 rfl ?_
  exact w_invokevirtual cd_152_18 (show mt_m 12 333 = some (145, 0) by decide +kernel) (rest := []) rfl (as := [.ref l1]) rfl h6 (Or.inl h7) ⟨Nat.le_of_ble_eq_true rfl, Nat.le_of_ble_eq_true rfl, Nat.le_of_ble_eq_true rfl⟩ h8
theorem b_152_21 {d : Nat} {Q : (Option Value ⊕ Nat) → mi_H → Prop} (n sl : Nat) (f : Nat → mi_C) {l1 : Nat} {o2 : Option Value} {o3 : Option Value} {o4 : Option Value} {s5 : Int32} (h6 : ¬ s5 = (0 : Int32) → mi_W d 152 26 [some (.ref l1), o2, o3, o4] [] (n, sl, f) Q) (h7 : ¬ (¬ s5 = (0 : Int32)) → mi_W d 152 24 [some (.ref l1), o2, o3, o4] [] (n, sl, f) Q) : mi_W d 152 21 [some (.ref l1), o2, o3, o4] [.int s5] (n, sl, f) Q := by
  exact w_ifne cd_152_21 (by decide) h6 h7
theorem b_152_24 {d : Nat} {Q : (Option Value ⊕ Nat) → mi_H → Prop} (n sl : Nat) (f : Nat → mi_C) {l1 : Nat} {o2 : Option Value} {o3 : Option Value} {o4 : Option Value} (h5 : Q (.inl (some (.int (-1)))) (n, sl, f)) : mi_W d 152 24 [some (.ref l1), o2, o3, o4] [] (n, sl, f) Q := by
  refine w_iconst (v := (-1)) cd_152_24 (by decide) ?_
  exact w_ireturn_i cd_152_25 (by decide +kernel) h5
theorem b_152_26 {d : Nat} {Q : (Option Value ⊕ Nat) → mi_H → Prop} (n sl : Nat) (f : Nat → mi_C) {l1 : Nat} {o2 : Option Value} {o3 : Option Value} {o4 : Option Value} {fs5 : List Value} (h6 : f l1 = .inr (12, fs5)) (h7 : l1 < n) (h8 : mi_W d 152 0 (mi_en 4 [.ref l1]) [] (n, sl, f) (mi_Kc d 152 27 [some (.ref l1), o2, o3, o4] [] Q)) : mi_W (d + 1) 152 26 [some (.ref l1), o2, o3, o4] [] (n, sl, f) Q := by
  refine w_aload_n cd_152_26 rfl ?_
  exact w_invokevirtual cd_152_27 (show mt_m 12 355 = some (152, 0) by decide +kernel) (rest := []) rfl (as := [.ref l1]) rfl h6 (Or.inl h7) ⟨Nat.le_of_ble_eq_true rfl, Nat.le_of_ble_eq_true rfl, Nat.le_of_ble_eq_true rfl⟩ h8
theorem b_152_30 {d : Nat} {Q : (Option Value ⊕ Nat) → mi_H → Prop} (n sl : Nat) (f : Nat → mi_C) {l1 : Nat} {o2 : Option Value} {o3 : Option Value} {o4 : Option Value} {s5 : Int32} {fs6 : List Value} {x9 : Int32} {fs11 : List Value} (h7 : f l1 = .inr (12, fs6)) (h8 : l1 < n) (h10 : fs6[22]? = some (.int x9)) (h12 : f l1 = .inr (12, fs11)) (h13 : l1 < n) (h14 : 22 < fs11.length) (h15 : s5 < (0 : Int32) → mi_W d 152 63 [some (.ref l1), some (.int s5), o3, o4] [] (n, sl, (va_up f l1 (.inr (12, fs11.set 22 (.int (x9 - 1)))))) Q) (h16 : ¬ (s5 < (0 : Int32)) → mi_W d 152 45 [some (.ref l1), some (.int s5), o3, o4] [] (n, sl, (va_up f l1 (.inr (12, fs11.set 22 (.int (x9 - 1)))))) Q) : mi_W d 152 30 [some (.ref l1), o2, o3, o4] [.int s5] (n, sl, f) Q := by
  refine w_istore_n (ls' := [some (.ref l1), some (.int s5), o3, o4]) cd_152_30 (Nat.le_of_ble_eq_true rfl) rfl ?_
  refine w_aload_n cd_152_31 rfl ?_
  refine w_dup_r cd_152_32 ?_
  refine w_getfield cd_152_33 (show mt_f 12 337 = some (12, 22) by decide +kernel) h7 h8 h10 ?_
  refine w_iconst (v := 1) cd_152_36 (by decide) ?_
  refine w_isub cd_152_37 ?_
  refine w_putfield (w := .int (x9 - 1)) cd_152_38 (show mt_f 12 337 = some (12, 22) by decide +kernel) h12 h13 ⟨h14, rfl, Or.inl (by decide)⟩ ?_
  refine w_iload_n cd_152_41 rfl ?_
  exact w_iflt cd_152_42 (by decide) h15 h16
theorem b_152_45 {d : Nat} {Q : (Option Value ⊕ Nat) → mi_H → Prop} (n sl : Nat) (f : Nat → mi_C) {l1 : Nat} {l2 : Int32} {o3 : Option Value} {o4 : Option Value} {fs5 : List Value} (h6 : f l1 = .inr (12, fs5)) (h7 : l1 < n) (h8 : mi_W d 153 0 (mi_en 2 [.ref l1, .ref (mi_SC + 1 + 2 * 41)]) [] (n, sl, f) (mi_Kc d 152 50 [some (.ref l1), some (.int l2), o3, o4] [.ref l1] Q)) : mi_W (d + 1) 152 45 [some (.ref l1), some (.int l2), o3, o4] [] (n, sl, f) Q := by
  refine w_aload_n cd_152_45 rfl ?_
  refine w_aload_n cd_152_46 rfl ?_
  refine w_ldc_w (n := 41) cd_152_47 (by decide +kernel) ?_
  exact w_invokevirtual cd_152_50 (show mt_m 12 375 = some (153, 0) by decide +kernel) (rest := [.ref l1]) rfl (as := [.ref l1, .ref (mi_SC + 1 + 2 * 41)]) rfl h6 (Or.inl h7) ⟨Nat.le_of_ble_eq_true rfl, Nat.le_of_ble_eq_true rfl, Nat.le_of_ble_eq_true rfl⟩ h8
theorem b_152_53 {d : Nat} {Q : (Option Value ⊕ Nat) → mi_H → Prop} (n sl : Nat) (f : Nat → mi_C) {l1 : Nat} {l2 : Int32} {o3 : Option Value} {o4 : Option Value} {s5 : Int32} {s6 : Nat} {fs7 : List Value} (h8 : f s6 = .inr (12, fs7)) (h9 : s6 < n) (h10 : mi_W d 155 0 (mi_en 2 [.ref s6, .int s5]) [] (n, sl, f) (mi_Kc d 152 53 [some (.ref l1), some (.int l2), o3, o4] [] Q)) : mi_W (d + 1) 152 53 [some (.ref l1), some (.int l2), o3, o4] [.int s5, .ref s6] (n, sl, f) Q := by
  exact w_invokevirtual cd_152_53 (show mt_m 12 383 = some (155, 0) by decide +kernel) (rest := []) rfl (as := [.ref s6, .int s5]) rfl h8 (Or.inl h9) ⟨Nat.le_of_ble_eq_true rfl, Nat.le_of_ble_eq_true rfl, Nat.le_of_ble_eq_true rfl⟩ h10
theorem b_152_56 {d : Nat} {Q : (Option Value ⊕ Nat) → mi_H → Prop} (n sl : Nat) (f : Nat → mi_C) {l1 : Nat} {l2 : Int32} {o3 : Option Value} {o4 : Option Value} {s5 : Int32} (h6 : s5 = (0 : Int32) → mi_W d 152 63 [some (.ref l1), some (.int l2), o3, o4] [] (n, sl, f) Q) (h7 : ¬ (s5 = (0 : Int32)) → mi_W d 152 59 [some (.ref l1), some (.int l2), o3, o4] [] (n, sl, f) Q) : mi_W d 152 56 [some (.ref l1), some (.int l2), o3, o4] [.int s5] (n, sl, f) Q := by
  exact w_ifeq cd_152_56 (by decide) h6 h7
theorem b_152_59 {d : Nat} {Q : (Option Value ⊕ Nat) → mi_H → Prop} (n sl : Nat) (f : Nat → mi_C) {l1 : Nat} {l2 : Int32} {o3 : Option Value} {o4 : Option Value} (h5 : mi_W d 152 64 [some (.ref l1), some (.int l2), o3, o4] [.int l2] (n, sl, f) Q) : mi_W d 152 59 [some (.ref l1), some (.int l2), o3, o4] [] (n, sl, f) Q := by
  refine w_iload_n cd_152_59 rfl ?_
  exact w_goto cd_152_60 (by decide) h5
theorem b_152_63 {d : Nat} {Q : (Option Value ⊕ Nat) → mi_H → Prop} (n sl : Nat) (f : Nat → mi_C) {l1 : Nat} {l2 : Int32} {o3 : Option Value} {o4 : Option Value} (h5 : mi_W d 152 64 [some (.ref l1), some (.int l2), o3, o4] [.int (-1)] (n, sl, f) Q) : mi_W d 152 63 [some (.ref l1), some (.int l2), o3, o4] [] (n, sl, f) Q := by
  refine w_iconst (v := (-1)) cd_152_63 (by decide) ?_
  exact h5
theorem b_152_64 {d : Nat} {Q : (Option Value ⊕ Nat) → mi_H → Prop} (n sl : Nat) (f : Nat → mi_C) {l1 : Nat} {l2 : Int32} {o3 : Option Value} {o4 : Option Value} {s5 : Int32} (h6 : Q (.inl (some (.int s5))) (n, sl, f)) : mi_W d 152 64 [some (.ref l1), some (.int l2), o3, o4] [.int s5] (n, sl, f) Q := by
  exact w_ireturn_i cd_152_64 (by decide +kernel) h6
theorem b_152_65 {d : Nat} {Q : (Option Value ⊕ Nat) → mi_H → Prop} (n sl : Nat) (f : Nat → mi_C) {l1 : Nat} {o2 : Option Value} {o3 : Option Value} {o4 : Option Value} {fs5 : List Value} (h6 : f l1 = .inr (12, fs5)) (h7 : l1 < n) (h8 : mi_W d 156 0 (mi_en 2 [.ref l1, .ref (mi_SC + 1 + 2 * 16)]) [] (n, sl, f) (mi_Kc d 152 68 [some (.ref l1), o2, o3, o4] [] Q)) : mi_W (d + 1) 152 65 [some (.ref l1), o2, o3, o4] [] (n, sl, f) Q := by
  refine w_aload_n cd_152_65 rfl ?_
  refine w_ldc (n := 16) cd_152_66 (by decide +kernel) ?_
  exact w_invokevirtual cd_152_68 (show mt_m 12 387 = some (156, 0) by decide +kernel) (rest := []) rfl (as := [.ref l1, .ref (mi_SC + 1 + 2 * 16)]) rfl h6 (Or.inl h7) ⟨Nat.le_of_ble_eq_true rfl, Nat.le_of_ble_eq_true rfl, Nat.le_of_ble_eq_true rfl⟩ h8
theorem b_152_71 {d : Nat} {Q : (Option Value ⊕ Nat) → mi_H → Prop} (n sl : Nat) (f : Nat → mi_C) {l1 : Nat} {o2 : Option Value} {o3 : Option Value} {o4 : Option Value} {s5 : Int32} (h6 : s5 = (0 : Int32) → mi_W d 152 78 [some (.ref l1), o2, o3, o4] [] (n, sl, f) Q) (h7 : ¬ (s5 = (0 : Int32)) → mi_W d 152 74 [some (.ref l1), o2, o3, o4] [] (n, sl, f) Q) : mi_W d 152 71 [some (.ref l1), o2, o3, o4] [.int s5] (n, sl, f) Q := by
  exact w_ifeq cd_152_71 (by decide) h6 h7
theorem b_152_74 {d : Nat} {Q : (Option Value ⊕ Nat) → mi_H → Prop} (n sl : Nat) (f : Nat → mi_C) {l1 : Nat} {o2 : Option Value} {o3 : Option Value} {o4 : Option Value} (h5 : mi_W d 152 145 [some (.ref l1), o2, o3, o4] [.int 0] (n, sl, f) Q) : mi_W d 152 74 [some (.ref l1), o2, o3, o4] [] (n, sl, f) Q := by
  refine w_iconst (v := 0) cd_152_74 (by decide) ?_
  exact w_goto cd_152_75 (by decide) h5
theorem b_152_78 {d : Nat} {Q : (Option Value ⊕ Nat) → mi_H → Prop} (n sl : Nat) (f : Nat → mi_C) {l1 : Nat} {o2 : Option Value} {o3 : Option Value} {o4 : Option Value} {fs5 : List Value} (h6 : f l1 = .inr (12, fs5)) (h7 : l1 < n) (h8 : mi_W d 156 0 (mi_en 2 [.ref l1, .ref (mi_SC + 1 + 2 * 17)]) [] (n, sl, f) (mi_Kc d 152 81 [some (.ref l1), o2, o3, o4] [] Q)) : mi_W (d + 1) 152 78 [some (.ref l1), o2, o3, o4] [] (n, sl, f) Q := by
  refine w_aload_n cd_152_78 rfl ?_
  refine w_ldc (n := 17) cd_152_79 (by decide +kernel) ?_
  exact w_invokevirtual cd_152_81 (show mt_m 12 387 = some (156, 0) by decide +kernel) (rest := []) rfl (as := [.ref l1, .ref (mi_SC + 1 + 2 * 17)]) rfl h6 (Or.inl h7) ⟨Nat.le_of_ble_eq_true rfl, Nat.le_of_ble_eq_true rfl, Nat.le_of_ble_eq_true rfl⟩ h8
theorem b_152_84 {d : Nat} {Q : (Option Value ⊕ Nat) → mi_H → Prop} (n sl : Nat) (f : Nat → mi_C) {l1 : Nat} {o2 : Option Value} {o3 : Option Value} {o4 : Option Value} {s5 : Int32} (h6 : s5 = (0 : Int32) → mi_W d 152 91 [some (.ref l1), o2, o3, o4] [] (n, sl, f) Q) (h7 : ¬ (s5 = (0 : Int32)) → mi_W d 152 87 [some (.ref l1), o2, o3, o4] [] (n, sl, f) Q) : mi_W d 152 84 [some (.ref l1), o2, o3, o4] [.int s5] (n, sl, f) Q := by
  exact w_ifeq cd_152_84 (by decide) h6 h7
theorem b_152_87 {d : Nat} {Q : (Option Value ⊕ Nat) → mi_H → Prop} (n sl : Nat) (f : Nat → mi_C) {l1 : Nat} {o2 : Option Value} {o3 : Option Value} {o4 : Option Value} (h5 : mi_W d 152 145 [some (.ref l1), o2, o3, o4] [.int 1] (n, sl, f) Q) : mi_W d 152 87 [some (.ref l1), o2, o3, o4] [] (n, sl, f) Q := by
  refine w_iconst (v := 1) cd_152_87 (by decide) ?_
  exact w_goto cd_152_88 (by decide) h5
theorem b_152_91 {d : Nat} {Q : (Option Value ⊕ Nat) → mi_H → Prop} (n sl : Nat) (f : Nat → mi_C) {l1 : Nat} {o2 : Option Value} {o3 : Option Value} {o4 : Option Value} {fs5 : List Value} (h6 : f l1 = .inr (12, fs5)) (h7 : l1 < n) (h8 : mi_W d 156 0 (mi_en 2 [.ref l1, .ref (mi_SC + 1 + 2 * 20)]) [] (n, sl, f) (mi_Kc d 152 94 [some (.ref l1), o2, o3, o4] [] Q)) : mi_W (d + 1) 152 91 [some (.ref l1), o2, o3, o4] [] (n, sl, f) Q := by
  refine w_aload_n cd_152_91 rfl ?_
  refine w_ldc (n := 20) cd_152_92 (by decide +kernel) ?_
  exact w_invokevirtual cd_152_94 (show mt_m 12 387 = some (156, 0) by decide +kernel) (rest := []) rfl (as := [.ref l1, .ref (mi_SC + 1 + 2 * 20)]) rfl h6 (Or.inl h7) ⟨Nat.le_of_ble_eq_true rfl, Nat.le_of_ble_eq_true rfl, Nat.le_of_ble_eq_true rfl⟩ h8
theorem b_152_97 {d : Nat} {Q : (Option Value ⊕ Nat) → mi_H → Prop} (n sl : Nat) (f : Nat → mi_C) {l1 : Nat} {o2 : Option Value} {o3 : Option Value} {o4 : Option Value} {s5 : Int32} (h6 : s5 = (0 : Int32) → mi_W d 152 104 [some (.ref l1), o2, o3, o4] [] (n, sl, f) Q) (h7 : ¬ (s5 = (0 : Int32)) → mi_W d 152 100 [some (.ref l1), o2, o3, o4] [] (n, sl, f) Q) : mi_W d 152 97 [some (.ref l1), o2, o3, o4] [.int s5] (n, sl, f) Q := by
  exact w_ifeq cd_152_97 (by decide) h6 h7
theorem b_152_100 {d : Nat} {Q : (Option Value ⊕ Nat) → mi_H → Prop} (n sl : Nat) (f : Nat → mi_C) {l1 : Nat} {o2 : Option Value} {o3 : Option Value} {o4 : Option Value} (h5 : mi_W d 152 145 [some (.ref l1), o2, o3, o4] [.int 3] (n, sl, f) Q) : mi_W d 152 100 [some (.ref l1), o2, o3, o4] [] (n, sl, f) Q := by
  refine w_iconst (v := 3) cd_152_100 (by decide) ?_
  exact w_goto cd_152_101 (by decide) h5
theorem b_152_104 {d : Nat} {Q : (Option Value ⊕ Nat) → mi_H → Prop} (n sl : Nat) (f : Nat → mi_C) {l1 : Nat} {o2 : Option Value} {o3 : Option Value} {o4 : Option Value} {fs5 : List Value} (h6 : f l1 = .inr (12, fs5)) (h7 : l1 < n) (h8 : mi_W d 156 0 (mi_en 2 [.ref l1, .ref (mi_SC + 1 + 2 * 21)]) [] (n, sl, f) (mi_Kc d 152 107 [some (.ref l1), o2, o3, o4] [] Q)) : mi_W (d + 1) 152 104 [some (.ref l1), o2, o3, o4] [] (n, sl, f) Q := by
  refine w_aload_n cd_152_104 rfl ?_
  refine w_ldc (n := 21) cd_152_105 (by decide +kernel) ?_
  exact w_invokevirtual cd_152_107 (show mt_m 12 387 = some (156, 0) by decide +kernel) (rest := []) rfl (as := [.ref l1, .ref (mi_SC + 1 + 2 * 21)]) rfl h6 (Or.inl h7) ⟨Nat.le_of_ble_eq_true rfl, Nat.le_of_ble_eq_true rfl, Nat.le_of_ble_eq_true rfl⟩ h8
theorem b_152_110 {d : Nat} {Q : (Option Value ⊕ Nat) → mi_H → Prop} (n sl : Nat) (f : Nat → mi_C) {l1 : Nat} {o2 : Option Value} {o3 : Option Value} {o4 : Option Value} {s5 : Int32} (h6 : s5 = (0 : Int32) → mi_W d 152 117 [some (.ref l1), o2, o3, o4] [] (n, sl, f) Q) (h7 : ¬ (s5 = (0 : Int32)) → mi_W d 152 113 [some (.ref l1), o2, o3, o4] [] (n, sl, f) Q) : mi_W d 152 110 [some (.ref l1), o2, o3, o4] [.int s5] (n, sl, f) Q := by
  exact w_ifeq cd_152_110 (by decide) h6 h7
theorem b_152_113 {d : Nat} {Q : (Option Value ⊕ Nat) → mi_H → Prop} (n sl : Nat) (f : Nat → mi_C) {l1 : Nat} {o2 : Option Value} {o3 : Option Value} {o4 : Option Value} (h5 : mi_W d 152 145 [some (.ref l1), o2, o3, o4] [.int 4] (n, sl, f) Q) : mi_W d 152 113 [some (.ref l1), o2, o3, o4] [] (n, sl, f) Q := by
  refine w_iconst (v := 4) cd_152_113 (by decide) ?_
  exact w_goto cd_152_114 (by decide) h5
theorem b_152_117 {d : Nat} {Q : (Option Value ⊕ Nat) → mi_H → Prop} (n sl : Nat) (f : Nat → mi_C) {l1 : Nat} {o2 : Option Value} {o3 : Option Value} {o4 : Option Value} {fs5 : List Value} (h6 : f l1 = .inr (12, fs5)) (h7 : l1 < n) (h8 : mi_W d 156 0 (mi_en 2 [.ref l1, .ref (mi_SC + 1 + 2 * 22)]) [] (n, sl, f) (mi_Kc d 152 120 [some (.ref l1), o2, o3, o4] [] Q)) : mi_W (d + 1) 152 117 [some (.ref l1), o2, o3, o4] [] (n, sl, f) Q := by
  refine w_aload_n cd_152_117 rfl ?_
  refine w_ldc (n := 22) cd_152_118 (by decide +kernel) ?_
  exact w_invokevirtual cd_152_120 (show mt_m 12 387 = some (156, 0) by decide +kernel) (rest := []) rfl (as := [.ref l1, .ref (mi_SC + 1 + 2 * 22)]) rfl h6 (Or.inl h7) ⟨Nat.le_of_ble_eq_true rfl, Nat.le_of_ble_eq_true rfl, Nat.le_of_ble_eq_true rfl⟩ h8
theorem b_152_123 {d : Nat} {Q : (Option Value ⊕ Nat) → mi_H → Prop} (n sl : Nat) (f : Nat → mi_C) {l1 : Nat} {o2 : Option Value} {o3 : Option Value} {o4 : Option Value} {s5 : Int32} (h6 : s5 = (0 : Int32) → mi_W d 152 130 [some (.ref l1), o2, o3, o4] [] (n, sl, f) Q) (h7 : ¬ (s5 = (0 : Int32)) → mi_W d 152 126 [some (.ref l1), o2, o3, o4] [] (n, sl, f) Q) : mi_W d 152 123 [some (.ref l1), o2, o3, o4] [.int s5] (n, sl, f) Q := by
  exact w_ifeq cd_152_123 (by decide) h6 h7
theorem b_152_126 {d : Nat} {Q : (Option Value ⊕ Nat) → mi_H → Prop} (n sl : Nat) (f : Nat → mi_C) {l1 : Nat} {o2 : Option Value} {o3 : Option Value} {o4 : Option Value} (h5 : mi_W d 152 145 [some (.ref l1), o2, o3, o4] [.int 5] (n, sl, f) Q) : mi_W d 152 126 [some (.ref l1), o2, o3, o4] [] (n, sl, f) Q := by
  refine w_iconst (v := 5) cd_152_126 (by decide) ?_
  exact w_goto cd_152_127 (by decide) h5
theorem b_152_130 {d : Nat} {Q : (Option Value ⊕ Nat) → mi_H → Prop} (n sl : Nat) (f : Nat → mi_C) {l1 : Nat} {o2 : Option Value} {o3 : Option Value} {o4 : Option Value} {fs5 : List Value} (h6 : f l1 = .inr (12, fs5)) (h7 : l1 < n) (h8 : mi_W d 156 0 (mi_en 2 [.ref l1, .ref (mi_SC + 1 + 2 * 23)]) [] (n, sl, f) (mi_Kc d 152 133 [some (.ref l1), o2, o3, o4] [] Q)) : mi_W (d + 1) 152 130 [some (.ref l1), o2, o3, o4] [] (n, sl, f) Q := by
  refine w_aload_n cd_152_130 rfl ?_
  refine w_ldc (n := 23) cd_152_131 (by decide +kernel) ?_
  exact w_invokevirtual cd_152_133 (show mt_m 12 387 = some (156, 0) by decide +kernel) (rest := []) rfl (as := [.ref l1, .ref (mi_SC + 1 + 2 * 23)]) rfl h6 (Or.inl h7) ⟨Nat.le_of_ble_eq_true rfl, Nat.le_of_ble_eq_true rfl, Nat.le_of_ble_eq_true rfl⟩ h8
theorem b_152_136 {d : Nat} {Q : (Option Value ⊕ Nat) → mi_H → Prop} (n sl : Nat) (f : Nat → mi_C) {l1 : Nat} {o2 : Option Value} {o3 : Option Value} {o4 : Option Value} {s5 : Int32} (h6 : s5 = (0 : Int32) → mi_W d 152 144 [some (.ref l1), o2, o3, o4] [] (n, sl, f) Q) (h7 : ¬ (s5 = (0 : Int32)) → mi_W d 152 139 [some (.ref l1), o2, o3, o4] [] (n, sl, f) Q) : mi_W d 152 136 [some (.ref l1), o2, o3, o4] [.int s5] (n, sl, f) Q := by
  exact w_ifeq cd_152_136 (by decide) h6 h7
theorem b_152_139 {d : Nat} {Q : (Option Value ⊕ Nat) → mi_H → Prop} (n sl : Nat) (f : Nat → mi_C) {l1 : Nat} {o2 : Option Value} {o3 : Option Value} {o4 : Option Value} (h5 : mi_W d 152 145 [some (.ref l1), o2, o3, o4] [.int 6] (n, sl, f) Q) : mi_W d 152 139 [some (.ref l1), o2, o3, o4] [] (n, sl, f) Q := by
  refine w_bipush (v := 6) cd_152_139 (by decide) ?_
  exact w_goto cd_152_141 (by decide) h5
theorem b_152_144 {d : Nat} {Q : (Option Value ⊕ Nat) → mi_H → Prop} (n sl : Nat) (f : Nat → mi_C) {l1 : Nat} {o2 : Option Value} {o3 : Option Value} {o4 : Option Value} (h5 : mi_W d 152 145 [some (.ref l1), o2, o3, o4] [.int (-1)] (n, sl, f) Q) : mi_W d 152 144 [some (.ref l1), o2, o3, o4] [] (n, sl, f) Q := by
  refine w_iconst (v := (-1)) cd_152_144 (by decide) ?_
  exact h5
theorem b_152_145 {d : Nat} {Q : (Option Value ⊕ Nat) → mi_H → Prop} (n sl : Nat) (f : Nat → mi_C) {l1 : Nat} {o2 : Option Value} {o3 : Option Value} {o4 : Option Value} {s5 : Int32} (h6 : (0 : Int32) ≤ s5 → mi_W d 152 161 [some (.ref l1), some (.int s5), o3, o4] [] (n, sl, f) Q) (h7 : ¬ ((0 : Int32) ≤ s5) → mi_W d 152 150 [some (.ref l1), some (.int s5), o3, o4] [] (n, sl, f) Q) : mi_W d 152 145 [some (.ref l1), o2, o3, o4] [.int s5] (n, sl, f) Q := by
  refine w_istore_n (ls' := [some (.ref l1), some (.int s5), o3, o4]) cd_152_145 (Nat.le_of_ble_eq_true rfl) rfl ?_
  refine w_iload_n cd_152_146 rfl ?_
  exact w_ifge cd_152_147 (by decide) h6 h7
theorem b_152_150 {d : Nat} {Q : (Option Value ⊕ Nat) → mi_H → Prop} (n sl : Nat) (f : Nat → mi_C) {l1 : Nat} {l2 : Int32} {o3 : Option Value} {o4 : Option Value} {fs5 : List Value} {x8 : Int32} {fs10 : List Value} (h6 : f l1 = .inr (12, fs5)) (h7 : l1 < n) (h9 : fs5[9]? = some (.int x8)) (h11 : f l1 = .inr (12, fs10)) (h12 : l1 < n) (h13 : mi_W d 143 0 (mi_en 2 [.ref l1, .int x8]) [] (n, sl, f) (mi_Kc d 152 155 [some (.ref l1), some (.int l2), o3, o4] [] Q)) : mi_W (d + 1) 152 150 [some (.ref l1), some (.int l2), o3, o4] [] (n, sl, f) Q := by
  refine w_aload_n cd_152_150 rfl ?_
  refine w_aload_n cd_152_151 rfl ?_
  refine w_getfield cd_152_152 (show mt_f 12 299 = some (12, 9) by decide +kernel) h6 h7 h9 ?_
  exact w_invokevirtual cd_152_155 (show mt_m 12 272 = some (143, 0) by decide +kernel) (rest := []) rfl (as := [.ref l1, .int x8]) rfl h11 (Or.inl h12) ⟨Nat.le_of_ble_eq_true rfl, Nat.le_of_ble_eq_true rfl, Nat.le_of_ble_eq_true rfl⟩ h13
theorem b_152_158 {d : Nat} {Q : (Option Value ⊕ Nat) → mi_H → Prop} (n sl : Nat) (f : Nat → mi_C) {l1 : Nat} {l2 : Int32} {o3 : Option Value} {o4 : Option Value} {s5 : Int32} (h6 : Q (.inl (some (.int (-1)))) (n, sl, f)) : mi_W d 152 158 [some (.ref l1), some (.int l2), o3, o4] [.int s5] (n, sl, f) Q := by
  refine w_pop_i cd_152_158 ?_
  refine w_iconst (v := (-1)) cd_152_159 (by decide) ?_
  exact w_ireturn_i cd_152_160 (by decide +kernel) h6
theorem b_152_161 {d : Nat} {Q : (Option Value ⊕ Nat) → mi_H → Prop} (n sl : Nat) (f : Nat → mi_C) {l1 : Nat} {l2 : Int32} {o3 : Option Value} {o4 : Option Value} {fs5 : List Value} (h6 : f l1 = .inr (12, fs5)) (h7 : l1 < n) (h8 : mi_W d 154 0 (mi_en 1 [.ref l1]) [] (n, sl, f) (mi_Kc d 152 162 [some (.ref l1), some (.int l2), o3, o4] [] Q)) : mi_W (d + 1) 152 161 [some (.ref l1), some (.int l2), o3, o4] [] (n, sl, f) Q := by
  refine w_aload_n cd_152_161 rfl ?_
  exact w_invokevirtual cd_152_162 (show mt_m 12 378 = some (154, 0) by decide +kernel) (rest := []) rfl (as := [.ref l1]) rfl h6 (Or.inl h7) ⟨Nat.le_of_ble_eq_true rfl, Nat.le_of_ble_eq_true rfl, Nat.le_of_ble_eq_true rfl⟩ h8
theorem b_152_165 {d : Nat} {Q : (Option Value ⊕ Nat) → mi_H → Prop} (n sl : Nat) (f : Nat → mi_C) {l1 : Nat} {l2 : Int32} {o3 : Option Value} {o4 : Option Value} {s5 : Int32} (h6 : ¬ s5 = (0 : Int32) → mi_W d 152 170 [some (.ref l1), some (.int l2), o3, o4] [] (n, sl, f) Q) (h7 : ¬ (¬ s5 = (0 : Int32)) → mi_W d 152 168 [some (.ref l1), some (.int l2), o3, o4] [] (n, sl, f) Q) : mi_W d 152 165 [some (.ref l1), some (.int l2), o3, o4] [.int s5] (n, sl, f) Q := by
  exact w_ifne cd_152_165 (by decide) h6 h7
theorem b_152_168 {d : Nat} {Q : (Option Value ⊕ Nat) → mi_H → Prop} (n sl : Nat) (f : Nat → mi_C) {l1 : Nat} {l2 : Int32} {o3 : Option Value} {o4 : Option Value} (h5 : Q (.inl (some (.int (-1)))) (n, sl, f)) : mi_W d 152 168 [some (.ref l1), some (.int l2), o3, o4] [] (n, sl, f) Q := by
  refine w_iconst (v := (-1)) cd_152_168 (by decide) ?_
  exact w_ireturn_i cd_152_169 (by decide +kernel) h5
theorem b_152_170 {d : Nat} {Q : (Option Value ⊕ Nat) → mi_H → Prop} (n sl : Nat) (f : Nat → mi_C) {l1 : Nat} {l2 : Int32} {o3 : Option Value} {o4 : Option Value} {fs5 : List Value} (h6 : f l1 = .inr (12, fs5)) (h7 : l1 < n) (h8 : mi_W d 157 0 (mi_en 2 [.ref l1, .int l2]) [] (n, sl, f) (mi_Kc d 152 172 [some (.ref l1), some (.int l2), o3, o4] [] Q)) : mi_W (d + 1) 152 170 [some (.ref l1), some (.int l2), o3, o4] [] (n, sl, f) Q := by
  refine w_aload_n cd_152_170 rfl ?_
  refine w_iload_n cd_152_171 rfl ?_
  exact w_invokevirtual cd_152_172 (show mt_m 12 390 = some (157, 0) by decide +kernel) (rest := []) rfl (as := [.ref l1, .int l2]) rfl h6 (Or.inl h7) ⟨Nat.le_of_ble_eq_true rfl, Nat.le_of_ble_eq_true rfl, Nat.le_of_ble_eq_true rfl⟩ h8
theorem b_152_175 {d : Nat} {Q : (Option Value ⊕ Nat) → mi_H → Prop} (n sl : Nat) (f : Nat → mi_C) {l1 : Nat} {l2 : Int32} {o3 : Option Value} {o4 : Option Value} {s5 : Int32} (h6 : s5 < (0 : Int32) → mi_W d 152 199 [some (.ref l1), some (.int l2), some (.int s5), o4] [] (n, sl, f) Q) (h7 : ¬ (s5 < (0 : Int32)) → mi_W d 152 180 [some (.ref l1), some (.int l2), some (.int s5), o4] [] (n, sl, f) Q) : mi_W d 152 175 [some (.ref l1), some (.int l2), o3, o4] [.int s5] (n, sl, f) Q := by
  refine w_istore_n (ls' := [some (.ref l1), some (.int l2), some (.int s5), o4]) cd_152_175 (Nat.le_of_ble_eq_true rfl) rfl ?_
  refine w_iload_n cd_152_176 rfl ?_
  exact w_iflt cd_152_177 (by decide) h6 h7
theorem b_152_180 {d : Nat} {Q : (Option Value ⊕ Nat) → mi_H → Prop} (n sl : Nat) (f : Nat → mi_C) {l1 : Nat} {l2 : Int32} {l3 : Int32} {o4 : Option Value} {fs5 : List Value} (h6 : f l1 = .inr (12, fs5)) (h7 : l1 < n) (h8 : mi_W d 145 0 (mi_en 4 [.ref l1]) [] (n, sl, f) (mi_Kc d 152 181 [some (.ref l1), some (.int l2), some (.int l3), o4] [] Q)) : mi_W (d + 1) 152 180 [some (.ref l1), some (.int l2), some (.int l3), o4] [] (n, sl, f) Q := by
  refine w_aload_n cd_152_180 rfl ?_
  exact w_invokevirtual cd_152_181 (show mt_m 12 333 = some (145, 0) by decide +kernel) (rest := []) rfl (as := [.ref l1]) rfl h6 (Or.inl h7) ⟨Nat.le_of_ble_eq_true rfl, Nat.le_of_ble_eq_true rfl, Nat.le_of_ble_eq_true rfl⟩ h8
theorem b_152_184 {d : Nat} {Q : (Option Value ⊕ Nat) → mi_H → Prop} (n sl : Nat) (f : Nat → mi_C) {l1 : Nat} {l2 : Int32} {l3 : Int32} {o4 : Option Value} {s5 : Int32} (h6 : s5 = (0 : Int32) → mi_W d 152 199 [some (.ref l1), some (.int l2), some (.int l3), o4] [] (n, sl, f) Q) (h7 : ¬ (s5 = (0 : Int32)) → mi_W d 152 187 [some (.ref l1), some (.int l2), some (.int l3), o4] [] (n, sl, f) Q) : mi_W d 152 184 [some (.ref l1), some (.int l2), some (.int l3), o4] [.int s5] (n, sl, f) Q := by
  exact w_ifeq cd_152_184 (by decide) h6 h7
theorem b_152_187 {d : Nat} {Q : (Option Value ⊕ Nat) → mi_H → Prop} (n sl : Nat) (f : Nat → mi_C) {l1 : Nat} {l2 : Int32} {l3 : Int32} {o4 : Option Value} {fs5 : List Value} (h6 : f l1 = .inr (12, fs5)) (h7 : l1 < n) (h8 : mi_W d 158 0 (mi_en 2 [.ref l1, .int l3]) [] (n, sl, f) (mi_Kc d 152 189 [some (.ref l1), some (.int l2), some (.int l3), o4] [] Q)) : mi_W (d + 1) 152 187 [some (.ref l1), some (.int l2), some (.int l3), o4] [] (n, sl, f) Q := by
  refine w_aload_n cd_152_187 rfl ?_
  refine w_iload_n cd_152_188 rfl ?_
  exact w_invokevirtual cd_152_189 (show mt_m 12 393 = some (158, 0) by decide +kernel) (rest := []) rfl (as := [.ref l1, .int l3]) rfl h6 (Or.inl h7) ⟨Nat.le_of_ble_eq_true rfl, Nat.le_of_ble_eq_true rfl, Nat.le_of_ble_eq_true rfl⟩ h8
theorem b_152_192 {d : Nat} {Q : (Option Value ⊕ Nat) → mi_H → Prop} (n sl : Nat) (f : Nat → mi_C) {l1 : Nat} {l2 : Int32} {l3 : Int32} {o4 : Option Value} {s5 : Int32} (h6 : s5 = (0 : Int32) → mi_W d 152 199 [some (.ref l1), some (.int l2), some (.int l3), o4] [] (n, sl, f) Q) (h7 : ¬ (s5 = (0 : Int32)) → mi_W d 152 195 [some (.ref l1), some (.int l2), some (.int l3), o4] [] (n, sl, f) Q) : mi_W d 152 192 [some (.ref l1), some (.int l2), some (.int l3), o4] [.int s5] (n, sl, f) Q := by
  exact w_ifeq cd_152_192 (by decide) h6 h7
theorem b_152_195 {d : Nat} {Q : (Option Value ⊕ Nat) → mi_H → Prop} (n sl : Nat) (f : Nat → mi_C) {l1 : Nat} {l2 : Int32} {l3 : Int32} {o4 : Option Value} (h5 : mi_W d 152 200 [some (.ref l1), some (.int l2), some (.int l3), o4] [.int 1] (n, sl, f) Q) : mi_W d 152 195 [some (.ref l1), some (.int l2), some (.int l3), o4] [] (n, sl, f) Q := by
  refine w_iconst (v := 1) cd_152_195 (by decide) ?_
  exact w_goto cd_152_196 (by decide) h5
theorem b_152_199 {d : Nat} {Q : (Option Value ⊕ Nat) → mi_H → Prop} (n sl : Nat) (f : Nat → mi_C) {l1 : Nat} {l2 : Int32} {l3 : Int32} {o4 : Option Value} (h5 : mi_W d 152 200 [some (.ref l1), some (.int l2), some (.int l3), o4] [.int 0] (n, sl, f) Q) : mi_W d 152 199 [some (.ref l1), some (.int l2), some (.int l3), o4] [] (n, sl, f) Q := by
  refine w_iconst (v := 0) cd_152_199 (by decide) ?_
  exact h5
theorem b_152_200 {d : Nat} {Q : (Option Value ⊕ Nat) → mi_H → Prop} (n sl : Nat) (f : Nat → mi_C) {l1 : Nat} {l2 : Int32} {l3 : Int32} {o4 : Option Value} {s5 : Int32} {fs6 : List Value} {x9 : Int32} {fs11 : List Value} (h7 : f l1 = .inr (12, fs6)) (h8 : l1 < n) (h10 : fs6[22]? = some (.int x9)) (h12 : f l1 = .inr (12, fs11)) (h13 : l1 < n) (h14 : 22 < fs11.length) (h15 : s5 = (0 : Int32) → mi_W d 152 219 [some (.ref l1), some (.int l2), some (.int l3), some (.int s5)] [] (n, sl, (va_up f l1 (.inr (12, fs11.set 22 (.int (x9 - 1)))))) Q) (h16 : ¬ (s5 = (0 : Int32)) → mi_W d 152 215 [some (.ref l1), some (.int l2), some (.int l3), some (.int s5)] [] (n, sl, (va_up f l1 (.inr (12, fs11.set 22 (.int (x9 - 1)))))) Q) : mi_W d 152 200 [some (.ref l1), some (.int l2), some (.int l3), o4] [.int s5] (n, sl, f) Q := by
  refine w_istore_n (ls' := [some (.ref l1), some (.int l2), some (.int l3), some (.int s5)]) cd_152_200 (Nat.le_of_ble_eq_true rfl) rfl ?_
  refine w_aload_n cd_152_201 rfl ?_
  refine w_dup_r cd_152_202 ?_
  refine w_getfield cd_152_203 (show mt_f 12 337 = some (12, 22) by decide +kernel) h7 h8 h10 ?_
  refine w_iconst (v := 1) cd_152_206 (by decide) ?_
  refine w_isub cd_152_207 ?_
  refine w_putfield (w := .int (x9 - 1)) cd_152_208 (show mt_f 12 337 = some (12, 22) by decide +kernel) h12 h13 ⟨h14, rfl, Or.inl (by decide)⟩ ?_
  refine w_iload_n cd_152_211 rfl ?_
  exact w_ifeq cd_152_212 (by decide) h15 h16
theorem b_152_215 {d : Nat} {Q : (Option Value ⊕ Nat) → mi_H → Prop} (n sl : Nat) (f : Nat → mi_C) {l1 : Nat} {l2 : Int32} {l3 : Int32} {l4 : Int32} (h5 : mi_W d 152 220 [some (.ref l1), some (.int l2), some (.int l3), some (.int l4)] [.int l3] (n, sl, f) Q) : mi_W d 152 215 [some (.ref l1), some (.int l2), some (.int l3), some (.int l4)] [] (n, sl, f) Q := by
  refine w_iload_n cd_152_215 rfl ?_
  exact w_goto cd_152_216 (by decide) h5
theorem b_152_219 {d : Nat} {Q : (Option Value ⊕ Nat) → mi_H → Prop} (n sl : Nat) (f : Nat → mi_C) {l1 : Nat} {l2 : Int32} {l3 : Int32} {l4 : Int32} (h5 : mi_W d 152 220 [some (.ref l1), some (.int l2), some (.int l3), some (.int l4)] [.int (-1)] (n, sl, f) Q) : mi_W d 152 219 [some (.ref l1), some (.int l2), some (.int l3), some (.int l4)] [] (n, sl, f) Q := by
  refine w_iconst (v := (-1)) cd_152_219 (by decide) ?_
  exact h5
theorem b_152_220 {d : Nat} {Q : (Option Value ⊕ Nat) → mi_H → Prop} (n sl : Nat) (f : Nat → mi_C) {l1 : Nat} {l2 : Int32} {l3 : Int32} {l4 : Int32} {s5 : Int32} (h6 : Q (.inl (some (.int s5))) (n, sl, f)) : mi_W d 152 220 [some (.ref l1), some (.int l2), some (.int l3), some (.int l4)] [.int s5] (n, sl, f) Q := by
  exact w_ireturn_i cd_152_220 (by decide +kernel) h6
/-! MarloweHostModel.sign(Ljava/lang/String;)Z -/
set_option maxRecDepth 100000 in
theorem mq_153 : mt_q 153 = my_153 := rfl
set_option maxRecDepth 100000 in
theorem ci_153 : mt_inc 0 my_153.cd = true := by decide +kernel
theorem cd_153_0 : mt_cd 153 0 = some (.aload_n 0) := mt_cd_of (q := (0, .aload_n 0, 1)) mq_153 ci_153 (List.mem_of_getElem? (i := 0) rfl)
theorem cd_153_1 : mt_cd 153 1 = some (.getfield 310) := mt_cd_of (q := (1, .getfield 310, 3)) mq_153 ci_153 (List.mem_of_getElem? (i := 1) rfl)
theorem cd_153_4 : mt_cd 153 4 = some (.iconst 3) := mt_cd_of (q := (4, .iconst 3, 1)) mq_153 ci_153 (List.mem_of_getElem? (i := 2) rfl)
theorem cd_153_5 : mt_cd 153 5 = some (.if_icmp .ne 15) := mt_cd_of (q := (5, .if_icmp .ne 15, 3)) mq_153 ci_153 (List.mem_of_getElem? (i := 3) rfl)
theorem cd_153_8 : mt_cd 153 8 = some (.aload_n 0) := mt_cd_of (q := (8, .aload_n 0, 1)) mq_153 ci_153 (List.mem_of_getElem? (i := 4) rfl)
theorem cd_153_9 : mt_cd 153 9 = some (.aload_n 1) := mt_cd_of (q := (9, .aload_n 1, 1)) mq_153 ci_153 (List.mem_of_getElem? (i := 5) rfl)
theorem cd_153_10 : mt_cd 153 10 = some (.invokevirtual 323) := mt_cd_of (q := (10, .invokevirtual 323, 3)) mq_153 ci_153 (List.mem_of_getElem? (i := 6) rfl)
theorem cd_153_13 : mt_cd 153 13 = some (.ifCond .eq 7) := mt_cd_of (q := (13, .ifCond .eq 7, 3)) mq_153 ci_153 (List.mem_of_getElem? (i := 7) rfl)
theorem cd_153_16 : mt_cd 153 16 = some (.iconst 1) := mt_cd_of (q := (16, .iconst 1, 1)) mq_153 ci_153 (List.mem_of_getElem? (i := 8) rfl)
theorem cd_153_17 : mt_cd 153 17 = some (.goto 4) := mt_cd_of (q := (17, .goto 4, 3)) mq_153 ci_153 (List.mem_of_getElem? (i := 9) rfl)
theorem cd_153_20 : mt_cd 153 20 = some (.iconst 0) := mt_cd_of (q := (20, .iconst 0, 1)) mq_153 ci_153 (List.mem_of_getElem? (i := 10) rfl)
theorem cd_153_21 : mt_cd 153 21 = some (.ireturn) := mt_cd_of (q := (21, .ireturn, 1)) mq_153 ci_153 (List.mem_of_getElem? (i := 11) rfl)
theorem b_153_0 {d : Nat} {Q : (Option Value ⊕ Nat) → mi_H → Prop} (n sl : Nat) (f : Nat → mi_C) {l1 : Nat} {l2 : Nat} {fs3 : List Value} {x6 : Int32} (h4 : f l1 = .inr (12, fs3)) (h5 : l1 < n) (h7 : fs3[8]? = some (.int x6)) (h8 : ¬ x6 = 3 → mi_W d 153 20 [some (.ref l1), some (.ref l2)] [] (n, sl, f) Q) (h9 : ¬ (¬ x6 = 3) → mi_W d 153 8 [some (.ref l1), some (.ref l2)] [] (n, sl, f) Q) : mi_W d 153 0 [some (.ref l1), some (.ref l2)] [] (n, sl, f) Q := by
  refine w_aload_n cd_153_0 rfl ?_
  refine w_getfield cd_153_1 (show mt_f 12 310 = some (12, 8) by decide +kernel) h4 h5 h7 ?_
  refine w_iconst (v := 3) cd_153_4 (by decide) ?_
  exact w_if_icmpne cd_153_5 (by decide) h8 h9
theorem b_153_8 {d : Nat} {Q : (Option Value ⊕ Nat) → mi_H → Prop} (n sl : Nat) (f : Nat → mi_C) {l1 : Nat} {l2 : Nat} {fs3 : List Value} (h4 : f l1 = .inr (12, fs3)) (h5 : l1 < n) (h6 : mi_W d 149 0 (mi_en 3 [.ref l1, .ref l2]) [] (n, sl, f) (mi_Kc d 153 10 [some (.ref l1), some (.ref l2)] [] Q)) : mi_W (d + 1) 153 8 [some (.ref l1), some (.ref l2)] [] (n, sl, f) Q := by
  refine w_aload_n cd_153_8 rfl ?_
  refine w_aload_n cd_153_9 rfl ?_
  exact w_invokevirtual cd_153_10 (show mt_m 12 323 = some (149, 0) by decide +kernel) (rest := []) rfl (as := [.ref l1, .ref l2]) rfl h4 (Or.inl h5) ⟨Nat.le_of_ble_eq_true rfl, Nat.le_of_ble_eq_true rfl, Nat.le_of_ble_eq_true rfl⟩ h6
theorem b_153_13 {d : Nat} {Q : (Option Value ⊕ Nat) → mi_H → Prop} (n sl : Nat) (f : Nat → mi_C) {l1 : Nat} {l2 : Nat} {s3 : Int32} (h4 : s3 = (0 : Int32) → mi_W d 153 20 [some (.ref l1), some (.ref l2)] [] (n, sl, f) Q) (h5 : ¬ (s3 = (0 : Int32)) → mi_W d 153 16 [some (.ref l1), some (.ref l2)] [] (n, sl, f) Q) : mi_W d 153 13 [some (.ref l1), some (.ref l2)] [.int s3] (n, sl, f) Q := by
  exact w_ifeq cd_153_13 (by decide) h4 h5
theorem b_153_16 {d : Nat} {Q : (Option Value ⊕ Nat) → mi_H → Prop} (n sl : Nat) (f : Nat → mi_C) {l1 : Nat} {l2 : Nat} (h3 : mi_W d 153 21 [some (.ref l1), some (.ref l2)] [.int 1] (n, sl, f) Q) : mi_W d 153 16 [some (.ref l1), some (.ref l2)] [] (n, sl, f) Q := by
  refine w_iconst (v := 1) cd_153_16 (by decide) ?_
  exact w_goto cd_153_17 (by decide) h3
theorem b_153_20 {d : Nat} {Q : (Option Value ⊕ Nat) → mi_H → Prop} (n sl : Nat) (f : Nat → mi_C) {l1 : Nat} {l2 : Nat} (h3 : mi_W d 153 21 [some (.ref l1), some (.ref l2)] [.int 0] (n, sl, f) Q) : mi_W d 153 20 [some (.ref l1), some (.ref l2)] [] (n, sl, f) Q := by
  refine w_iconst (v := 0) cd_153_20 (by decide) ?_
  exact h3
theorem b_153_21 {d : Nat} {Q : (Option Value ⊕ Nat) → mi_H → Prop} (n sl : Nat) (f : Nat → mi_C) {l1 : Nat} {l2 : Nat} {s3 : Int32} (h4 : s3 = 0 ∨ s3 = 1) (h5 : Q (.inl (some (.int s3))) (n, sl, f)) : mi_W d 153 21 [some (.ref l1), some (.ref l2)] [.int s3] (n, sl, f) Q := by
  exact w_ireturn_z cd_153_21 (by decide +kernel) h4 h5
/-! MarloweHostModel.open()Z -/
set_option maxRecDepth 100000 in
theorem mq_154 : mt_q 154 = my_154 := rfl
set_option maxRecDepth 100000 in
theorem ci_154 : mt_inc 0 my_154.cd = true := by decide +kernel
theorem cd_154_0 : mt_cd 154 0 = some (.aload_n 0) := mt_cd_of (q := (0, .aload_n 0, 1)) mq_154 ci_154 (List.mem_of_getElem? (i := 0) rfl)
theorem cd_154_1 : mt_cd 154 1 = some (.dup) := mt_cd_of (q := (1, .dup, 1)) mq_154 ci_154 (List.mem_of_getElem? (i := 1) rfl)
theorem cd_154_2 : mt_cd 154 2 = some (.getfield 337) := mt_cd_of (q := (2, .getfield 337, 3)) mq_154 ci_154 (List.mem_of_getElem? (i := 2) rfl)
theorem cd_154_5 : mt_cd 154 5 = some (.dup_x1) := mt_cd_of (q := (5, .dup_x1, 1)) mq_154 ci_154 (List.mem_of_getElem? (i := 3) rfl)
theorem cd_154_6 : mt_cd 154 6 = some (.iconst 1) := mt_cd_of (q := (6, .iconst 1, 1)) mq_154 ci_154 (List.mem_of_getElem? (i := 4) rfl)
theorem cd_154_7 : mt_cd 154 7 = some (.iadd) := mt_cd_of (q := (7, .iadd, 1)) mq_154 ci_154 (List.mem_of_getElem? (i := 5) rfl)
theorem cd_154_8 : mt_cd 154 8 = some (.putfield 337) := mt_cd_of (q := (8, .putfield 337, 3)) mq_154 ci_154 (List.mem_of_getElem? (i := 6) rfl)
theorem cd_154_11 : mt_cd 154 11 = some (.bipush 100) := mt_cd_of (q := (11, .bipush 100, 2)) mq_154 ci_154 (List.mem_of_getElem? (i := 7) rfl)
theorem cd_154_13 : mt_cd 154 13 = some (.if_icmp .lt 14) := mt_cd_of (q := (13, .if_icmp .lt 14, 3)) mq_154 ci_154 (List.mem_of_getElem? (i := 8) rfl)
theorem cd_154_16 : mt_cd 154 16 = some (.aload_n 0) := mt_cd_of (q := (16, .aload_n 0, 1)) mq_154 ci_154 (List.mem_of_getElem? (i := 9) rfl)
theorem cd_154_17 : mt_cd 154 17 = some (.aload_n 0) := mt_cd_of (q := (17, .aload_n 0, 1)) mq_154 ci_154 (List.mem_of_getElem? (i := 10) rfl)
theorem cd_154_18 : mt_cd 154 18 = some (.getfield 299) := mt_cd_of (q := (18, .getfield 299, 3)) mq_154 ci_154 (List.mem_of_getElem? (i := 11) rfl)
theorem cd_154_21 : mt_cd 154 21 = some (.invokevirtual 272) := mt_cd_of (q := (21, .invokevirtual 272, 3)) mq_154 ci_154 (List.mem_of_getElem? (i := 12) rfl)
theorem cd_154_24 : mt_cd 154 24 = some (.ifCond .eq 7) := mt_cd_of (q := (24, .ifCond .eq 7, 3)) mq_154 ci_154 (List.mem_of_getElem? (i := 13) rfl)
theorem cd_154_27 : mt_cd 154 27 = some (.iconst 1) := mt_cd_of (q := (27, .iconst 1, 1)) mq_154 ci_154 (List.mem_of_getElem? (i := 14) rfl)
theorem cd_154_28 : mt_cd 154 28 = some (.goto 4) := mt_cd_of (q := (28, .goto 4, 3)) mq_154 ci_154 (List.mem_of_getElem? (i := 15) rfl)
theorem cd_154_31 : mt_cd 154 31 = some (.iconst 0) := mt_cd_of (q := (31, .iconst 0, 1)) mq_154 ci_154 (List.mem_of_getElem? (i := 16) rfl)
theorem cd_154_32 : mt_cd 154 32 = some (.ireturn) := mt_cd_of (q := (32, .ireturn, 1)) mq_154 ci_154 (List.mem_of_getElem? (i := 17) rfl)
theorem b_154_0 {d : Nat} {Q : (Option Value ⊕ Nat) → mi_H → Prop} (n sl : Nat) (f : Nat → mi_C) {l1 : Nat} {fs2 : List Value} {x5 : Int32} {fs7 : List Value} (h3 : f l1 = .inr (12, fs2)) (h4 : l1 < n) (h6 : fs2[22]? = some (.int x5)) (h8 : f l1 = .inr (12, fs7)) (h9 : l1 < n) (h10 : 22 < fs7.length) (h11 : x5 < 100 → mi_W d 154 27 [some (.ref l1)] [] (n, sl, (va_up f l1 (.inr (12, fs7.set 22 (.int (x5 + 1)))))) Q) (h12 : ¬ (x5 < 100) → mi_W d 154 16 [some (.ref l1)] [] (n, sl, (va_up f l1 (.inr (12, fs7.set 22 (.int (x5 + 1)))))) Q) : mi_W d 154 0 [some (.ref l1)] [] (n, sl, f) Q := by
  refine w_aload_n cd_154_0 rfl ?_
  refine w_dup_r cd_154_1 ?_
  refine w_getfield cd_154_2 (show mt_f 12 337 = some (12, 22) by decide +kernel) h3 h4 h6 ?_
  refine w_dup_x1_ir cd_154_5 ?_
  refine w_iconst (v := 1) cd_154_6 (by decide) ?_
  refine w_iadd cd_154_7 ?_
  refine w_putfield (w := .int (x5 + 1)) cd_154_8 (show mt_f 12 337 = some (12, 22) by decide +kernel) h8 h9 ⟨h10, rfl, Or.inl (by decide)⟩ ?_
  refine w_bipush (v := 100) cd_154_11 (by decide) ?_
  exact w_if_icmplt cd_154_13 (by decide) h11 h12
theorem b_154_16 {d : Nat} {Q : (Option Value ⊕ Nat) → mi_H → Prop} (n sl : Nat) (f : Nat → mi_C) {l1 : Nat} {fs2 : List Value} {x5 : Int32} {fs7 : List Value} (h3 : f l1 = .inr (12, fs2)) (h4 : l1 < n) (h6 : fs2[9]? = some (.int x5)) (h8 : f l1 = .inr (12, fs7)) (h9 : l1 < n) (h10 : mi_W d 143 0 (mi_en 2 [.ref l1, .int x5]) [] (n, sl, f) (mi_Kc d 154 21 [some (.ref l1)] [] Q)) : mi_W (d + 1) 154 16 [some (.ref l1)] [] (n, sl, f) Q := by
  refine w_aload_n cd_154_16 rfl ?_
  refine w_aload_n cd_154_17 rfl ?_
  refine w_getfield cd_154_18 (show mt_f 12 299 = some (12, 9) by decide +kernel) h3 h4 h6 ?_
  exact w_invokevirtual cd_154_21 (show mt_m 12 272 = some (143, 0) by decide +kernel) (rest := []) rfl (as := [.ref l1, .int x5]) rfl h8 (Or.inl h9) ⟨Nat.le_of_ble_eq_true rfl, Nat.le_of_ble_eq_true rfl, Nat.le_of_ble_eq_true rfl⟩ h10
theorem b_154_24 {d : Nat} {Q : (Option Value ⊕ Nat) → mi_H → Prop} (n sl : Nat) (f : Nat → mi_C) {l1 : Nat} {s2 : Int32} (h3 : s2 = (0 : Int32) → mi_W d 154 31 [some (.ref l1)] [] (n, sl, f) Q) (h4 : ¬ (s2 = (0 : Int32)) → mi_W d 154 27 [some (.ref l1)] [] (n, sl, f) Q) : mi_W d 154 24 [some (.ref l1)] [.int s2] (n, sl, f) Q := by
  exact w_ifeq cd_154_24 (by decide) h3 h4
theorem b_154_27 {d : Nat} {Q : (Option Value ⊕ Nat) → mi_H → Prop} (n sl : Nat) (f : Nat → mi_C) {l1 : Nat} (h2 : mi_W d 154 32 [some (.ref l1)] [.int 1] (n, sl, f) Q) : mi_W d 154 27 [some (.ref l1)] [] (n, sl, f) Q := by
  refine w_iconst (v := 1) cd_154_27 (by decide) ?_
  exact w_goto cd_154_28 (by decide) h2
theorem b_154_31 {d : Nat} {Q : (Option Value ⊕ Nat) → mi_H → Prop} (n sl : Nat) (f : Nat → mi_C) {l1 : Nat} (h2 : mi_W d 154 32 [some (.ref l1)] [.int 0] (n, sl, f) Q) : mi_W d 154 31 [some (.ref l1)] [] (n, sl, f) Q := by
  refine w_iconst (v := 0) cd_154_31 (by decide) ?_
  exact h2
theorem b_154_32 {d : Nat} {Q : (Option Value ⊕ Nat) → mi_H → Prop} (n sl : Nat) (f : Nat → mi_C) {l1 : Nat} {s2 : Int32} (h3 : s2 = 0 ∨ s2 = 1) (h4 : Q (.inl (some (.int s2))) (n, sl, f)) : mi_W d 154 32 [some (.ref l1)] [.int s2] (n, sl, f) Q := by
  exact w_ireturn_z cd_154_32 (by decide +kernel) h3 h4
/-! MarloweHostModel.need(Z)Z -/
set_option maxRecDepth 100000 in
theorem mq_155 : mt_q 155 = my_155 := rfl
set_option maxRecDepth 100000 in
theorem ci_155 : mt_inc 0 my_155.cd = true := by decide +kernel
theorem cd_155_0 : mt_cd 155 0 = some (.iload_n 1) := mt_cd_of (q := (0, .iload_n 1, 1)) mq_155 ci_155 (List.mem_of_getElem? (i := 0) rfl)
theorem cd_155_1 : mt_cd 155 1 = some (.ifCond .eq 10) := mt_cd_of (q := (1, .ifCond .eq 10, 3)) mq_155 ci_155 (List.mem_of_getElem? (i := 1) rfl)
theorem cd_155_4 : mt_cd 155 4 = some (.aload_n 0) := mt_cd_of (q := (4, .aload_n 0, 1)) mq_155 ci_155 (List.mem_of_getElem? (i := 2) rfl)
theorem cd_155_5 : mt_cd 155 5 = some (.invokevirtual 333) := mt_cd_of (q := (5, .invokevirtual 333, 3)) mq_155 ci_155 (List.mem_of_getElem? (i := 3) rfl)
theorem cd_155_8 : mt_cd 155 8 = some (.goto 11) := mt_cd_of (q := (8, .goto 11, 3)) mq_155 ci_155 (List.mem_of_getElem? (i := 4) rfl)
theorem cd_155_11 : mt_cd 155 11 = some (.aload_n 0) := mt_cd_of (q := (11, .aload_n 0, 1)) mq_155 ci_155 (List.mem_of_getElem? (i := 5) rfl)
theorem cd_155_12 : mt_cd 155 12 = some (.aload_n 0) := mt_cd_of (q := (12, .aload_n 0, 1)) mq_155 ci_155 (List.mem_of_getElem? (i := 6) rfl)
theorem cd_155_13 : mt_cd 155 13 = some (.getfield 299) := mt_cd_of (q := (13, .getfield 299, 3)) mq_155 ci_155 (List.mem_of_getElem? (i := 7) rfl)
theorem cd_155_16 : mt_cd 155 16 = some (.invokevirtual 272) := mt_cd_of (q := (16, .invokevirtual 272, 3)) mq_155 ci_155 (List.mem_of_getElem? (i := 8) rfl)
theorem cd_155_19 : mt_cd 155 19 = some (.ireturn) := mt_cd_of (q := (19, .ireturn, 1)) mq_155 ci_155 (List.mem_of_getElem? (i := 9) rfl)
theorem b_155_0 {d : Nat} {Q : (Option Value ⊕ Nat) → mi_H → Prop} (n sl : Nat) (f : Nat → mi_C) {l1 : Nat} {l2 : Int32} (h3 : l2 = (0 : Int32) → mi_W d 155 11 [some (.ref l1), some (.int l2)] [] (n, sl, f) Q) (h4 : ¬ (l2 = (0 : Int32)) → mi_W d 155 4 [some (.ref l1), some (.int l2)] [] (n, sl, f) Q) : mi_W d 155 0 [some (.ref l1), some (.int l2)] [] (n, sl, f) Q := by
  refine w_iload_n cd_155_0 rfl ?_
  exact w_ifeq cd_155_1 (by decide) h3 h4
theorem b_155_4 {d : Nat} {Q : (Option Value ⊕ Nat) → mi_H → Prop} (n sl : Nat) (f : Nat → mi_C) {l1 : Nat} {l2 : Int32} {fs3 : List Value} (h4 : f l1 = .inr (12, fs3)) (h5 : l1 < n) (h6 : mi_W d 145 0 (mi_en 4 [.ref l1]) [] (n, sl, f) (mi_Kc d 155 5 [some (.ref l1), some (.int l2)] [] Q)) : mi_W (d + 1) 155 4 [some (.ref l1), some (.int l2)] [] (n, sl, f) Q := by
  refine w_aload_n cd_155_4 rfl ?_
  exact w_invokevirtual cd_155_5 (show mt_m 12 333 = some (145, 0) by decide +kernel) (rest := []) rfl (as := [.ref l1]) rfl h4 (Or.inl h5) ⟨Nat.le_of_ble_eq_true rfl, Nat.le_of_ble_eq_true rfl, Nat.le_of_ble_eq_true rfl⟩ h6
theorem b_155_8 {d : Nat} {Q : (Option Value ⊕ Nat) → mi_H → Prop} (n sl : Nat) (f : Nat → mi_C) {l1 : Nat} {l2 : Int32} {s3 : Int32} (h4 : mi_W d 155 19 [some (.ref l1), some (.int l2)] [.int s3] (n, sl, f) Q) : mi_W d 155 8 [some (.ref l1), some (.int l2)] [.int s3] (n, sl, f) Q := by
  exact w_goto cd_155_8 (by decide) h4
theorem b_155_11 {d : Nat} {Q : (Option Value ⊕ Nat) → mi_H → Prop} (n sl : Nat) (f : Nat → mi_C) {l1 : Nat} {l2 : Int32} {fs3 : List Value} {x6 : Int32} {fs8 : List Value} (h4 : f l1 = .inr (12, fs3)) (h5 : l1 < n) (h7 : fs3[9]? = some (.int x6)) (h9 : f l1 = .inr (12, fs8)) (h10 : l1 < n) (h11 : mi_W d 143 0 (mi_en 2 [.ref l1, .int x6]) [] (n, sl, f) (mi_Kc d 155 16 [some (.ref l1), some (.int l2)] [] Q)) : mi_W (d + 1) 155 11 [some (.ref l1), some (.int l2)] [] (n, sl, f) Q := by
  refine w_aload_n cd_155_11 rfl ?_
  refine w_aload_n cd_155_12 rfl ?_
  refine w_getfield cd_155_13 (show mt_f 12 299 = some (12, 9) by decide +kernel) h4 h5 h7 ?_
  exact w_invokevirtual cd_155_16 (show mt_m 12 272 = some (143, 0) by decide +kernel) (rest := []) rfl (as := [.ref l1, .int x6]) rfl h9 (Or.inl h10) ⟨Nat.le_of_ble_eq_true rfl, Nat.le_of_ble_eq_true rfl, Nat.le_of_ble_eq_true rfl⟩ h11
theorem b_155_19 {d : Nat} {Q : (Option Value ⊕ Nat) → mi_H → Prop} (n sl : Nat) (f : Nat → mi_C) {l1 : Nat} {l2 : Int32} {s3 : Int32} (h4 : s3 = 0 ∨ s3 = 1) (h5 : Q (.inl (some (.int s3))) (n, sl, f)) : mi_W d 155 19 [some (.ref l1), some (.int l2)] [.int s3] (n, sl, f) Q := by
  exact w_ireturn_z cd_155_19 (by decide +kernel) h4 h5
/-! MarloweHostModel.key(Ljava/lang/String;)Z -/
set_option maxRecDepth 100000 in
theorem mq_156 : mt_q 156 = my_156 := rfl
set_option maxRecDepth 100000 in
theorem ci_156 : mt_inc 0 my_156.cd = true := by decide +kernel
theorem cd_156_0 : mt_cd 156 0 = some (.aload_n 0) := mt_cd_of (q := (0, .aload_n 0, 1)) mq_156 ci_156 (List.mem_of_getElem? (i := 0) rfl)
theorem cd_156_1 : mt_cd 156 1 = some (.getfield 310) := mt_cd_of (q := (1, .getfield 310, 3)) mq_156 ci_156 (List.mem_of_getElem? (i := 1) rfl)
theorem cd_156_4 : mt_cd 156 4 = some (.iconst 4) := mt_cd_of (q := (4, .iconst 4, 1)) mq_156 ci_156 (List.mem_of_getElem? (i := 2) rfl)
theorem cd_156_5 : mt_cd 156 5 = some (.if_icmp .ne 15) := mt_cd_of (q := (5, .if_icmp .ne 15, 3)) mq_156 ci_156 (List.mem_of_getElem? (i := 3) rfl)
theorem cd_156_8 : mt_cd 156 8 = some (.aload_n 0) := mt_cd_of (q := (8, .aload_n 0, 1)) mq_156 ci_156 (List.mem_of_getElem? (i := 4) rfl)
theorem cd_156_9 : mt_cd 156 9 = some (.aload_n 1) := mt_cd_of (q := (9, .aload_n 1, 1)) mq_156 ci_156 (List.mem_of_getElem? (i := 5) rfl)
theorem cd_156_10 : mt_cd 156 10 = some (.invokevirtual 323) := mt_cd_of (q := (10, .invokevirtual 323, 3)) mq_156 ci_156 (List.mem_of_getElem? (i := 6) rfl)
theorem cd_156_13 : mt_cd 156 13 = some (.ifCond .eq 7) := mt_cd_of (q := (13, .ifCond .eq 7, 3)) mq_156 ci_156 (List.mem_of_getElem? (i := 7) rfl)
theorem cd_156_16 : mt_cd 156 16 = some (.iconst 1) := mt_cd_of (q := (16, .iconst 1, 1)) mq_156 ci_156 (List.mem_of_getElem? (i := 8) rfl)
theorem cd_156_17 : mt_cd 156 17 = some (.goto 4) := mt_cd_of (q := (17, .goto 4, 3)) mq_156 ci_156 (List.mem_of_getElem? (i := 9) rfl)
theorem cd_156_20 : mt_cd 156 20 = some (.iconst 0) := mt_cd_of (q := (20, .iconst 0, 1)) mq_156 ci_156 (List.mem_of_getElem? (i := 10) rfl)
theorem cd_156_21 : mt_cd 156 21 = some (.ireturn) := mt_cd_of (q := (21, .ireturn, 1)) mq_156 ci_156 (List.mem_of_getElem? (i := 11) rfl)
theorem b_156_0 {d : Nat} {Q : (Option Value ⊕ Nat) → mi_H → Prop} (n sl : Nat) (f : Nat → mi_C) {l1 : Nat} {l2 : Nat} {fs3 : List Value} {x6 : Int32} (h4 : f l1 = .inr (12, fs3)) (h5 : l1 < n) (h7 : fs3[8]? = some (.int x6)) (h8 : ¬ x6 = 4 → mi_W d 156 20 [some (.ref l1), some (.ref l2)] [] (n, sl, f) Q) (h9 : ¬ (¬ x6 = 4) → mi_W d 156 8 [some (.ref l1), some (.ref l2)] [] (n, sl, f) Q) : mi_W d 156 0 [some (.ref l1), some (.ref l2)] [] (n, sl, f) Q := by
  refine w_aload_n cd_156_0 rfl ?_
  refine w_getfield cd_156_1 (show mt_f 12 310 = some (12, 8) by decide +kernel) h4 h5 h7 ?_
  refine w_iconst (v := 4) cd_156_4 (by decide) ?_
  exact w_if_icmpne cd_156_5 (by decide) h8 h9
theorem b_156_8 {d : Nat} {Q : (Option Value ⊕ Nat) → mi_H → Prop} (n sl : Nat) (f : Nat → mi_C) {l1 : Nat} {l2 : Nat} {fs3 : List Value} (h4 : f l1 = .inr (12, fs3)) (h5 : l1 < n) (h6 : mi_W d 149 0 (mi_en 3 [.ref l1, .ref l2]) [] (n, sl, f) (mi_Kc d 156 10 [some (.ref l1), some (.ref l2)] [] Q)) : mi_W (d + 1) 156 8 [some (.ref l1), some (.ref l2)] [] (n, sl, f) Q := by
  refine w_aload_n cd_156_8 rfl ?_
  refine w_aload_n cd_156_9 rfl ?_
  exact w_invokevirtual cd_156_10 (show mt_m 12 323 = some (149, 0) by decide +kernel) (rest := []) rfl (as := [.ref l1, .ref l2]) rfl h4 (Or.inl h5) ⟨Nat.le_of_ble_eq_true rfl, Nat.le_of_ble_eq_true rfl, Nat.le_of_ble_eq_true rfl⟩ h6
theorem b_156_13 {d : Nat} {Q : (Option Value ⊕ Nat) → mi_H → Prop} (n sl : Nat) (f : Nat → mi_C) {l1 : Nat} {l2 : Nat} {s3 : Int32} (h4 : s3 = (0 : Int32) → mi_W d 156 20 [some (.ref l1), some (.ref l2)] [] (n, sl, f) Q) (h5 : ¬ (s3 = (0 : Int32)) → mi_W d 156 16 [some (.ref l1), some (.ref l2)] [] (n, sl, f) Q) : mi_W d 156 13 [some (.ref l1), some (.ref l2)] [.int s3] (n, sl, f) Q := by
  exact w_ifeq cd_156_13 (by decide) h4 h5
theorem b_156_16 {d : Nat} {Q : (Option Value ⊕ Nat) → mi_H → Prop} (n sl : Nat) (f : Nat → mi_C) {l1 : Nat} {l2 : Nat} (h3 : mi_W d 156 21 [some (.ref l1), some (.ref l2)] [.int 1] (n, sl, f) Q) : mi_W d 156 16 [some (.ref l1), some (.ref l2)] [] (n, sl, f) Q := by
  refine w_iconst (v := 1) cd_156_16 (by decide) ?_
  exact w_goto cd_156_17 (by decide) h3
theorem b_156_20 {d : Nat} {Q : (Option Value ⊕ Nat) → mi_H → Prop} (n sl : Nat) (f : Nat → mi_C) {l1 : Nat} {l2 : Nat} (h3 : mi_W d 156 21 [some (.ref l1), some (.ref l2)] [.int 0] (n, sl, f) Q) : mi_W d 156 20 [some (.ref l1), some (.ref l2)] [] (n, sl, f) Q := by
  refine w_iconst (v := 0) cd_156_20 (by decide) ?_
  exact h3
theorem b_156_21 {d : Nat} {Q : (Option Value ⊕ Nat) → mi_H → Prop} (n sl : Nat) (f : Nat → mi_C) {l1 : Nat} {l2 : Nat} {s3 : Int32} (h4 : s3 = 0 ∨ s3 = 1) (h5 : Q (.inl (some (.int s3))) (n, sl, f)) : mi_W d 156 21 [some (.ref l1), some (.ref l2)] [.int s3] (n, sl, f) Q := by
  exact w_ireturn_z cd_156_21 (by decide +kernel) h4 h5
/-! MarloweHostModel.node(I)I -/
set_option maxRecDepth 100000 in
theorem mq_157 : mt_q 157 = my_157 := rfl
set_option maxRecDepth 100000 in
theorem ci_157 : mt_inc 0 my_157.cd = true := by decide +kernel
theorem cd_157_0 : mt_cd 157 0 = some (.aload_n 0) := mt_cd_of (q := (0, .aload_n 0, 1)) mq_157 ci_157 (List.mem_of_getElem? (i := 0) rfl)
theorem cd_157_1 : mt_cd 157 1 = some (.getfield 282) := mt_cd_of (q := (1, .getfield 282, 3)) mq_157 ci_157 (List.mem_of_getElem? (i := 1) rfl)
theorem cd_157_4 : mt_cd 157 4 = some (.sipush 800) := mt_cd_of (q := (4, .sipush 800, 3)) mq_157 ci_157 (List.mem_of_getElem? (i := 2) rfl)
theorem cd_157_7 : mt_cd 157 7 = some (.if_icmp .ne 14) := mt_cd_of (q := (7, .if_icmp .ne 14, 3)) mq_157 ci_157 (List.mem_of_getElem? (i := 3) rfl)
theorem cd_157_10 : mt_cd 157 10 = some (.aload_n 0) := mt_cd_of (q := (10, .aload_n 0, 1)) mq_157 ci_157 (List.mem_of_getElem? (i := 4) rfl)
theorem cd_157_11 : mt_cd 157 11 = some (.aload_n 0) := mt_cd_of (q := (11, .aload_n 0, 1)) mq_157 ci_157 (List.mem_of_getElem? (i := 5) rfl)
theorem cd_157_12 : mt_cd 157 12 = some (.getfield 299) := mt_cd_of (q := (12, .getfield 299, 3)) mq_157 ci_157 (List.mem_of_getElem? (i := 6) rfl)
theorem cd_157_15 : mt_cd 157 15 = some (.invokevirtual 272) := mt_cd_of (q := (15, .invokevirtual 272, 3)) mq_157 ci_157 (List.mem_of_getElem? (i := 7) rfl)
theorem cd_157_18 : mt_cd 157 18 = some (.pop) := mt_cd_of (q := (18, .pop, 1)) mq_157 ci_157 (List.mem_of_getElem? (i := 8) rfl)
theorem cd_157_19 : mt_cd 157 19 = some (.iconst (-1)) := mt_cd_of (q := (19, .iconst (-1), 1)) mq_157 ci_157 (List.mem_of_getElem? (i := 9) rfl)
theorem cd_157_20 : mt_cd 157 20 = some (.ireturn) := mt_cd_of (q := (20, .ireturn, 1)) mq_157 ci_157 (List.mem_of_getElem? (i := 10) rfl)
theorem cd_157_21 : mt_cd 157 21 = some (.aload_n 0) := mt_cd_of (q := (21, .aload_n 0, 1)) mq_157 ci_157 (List.mem_of_getElem? (i := 11) rfl)
theorem cd_157_22 : mt_cd 157 22 = some (.getfield 77) := mt_cd_of (q := (22, .getfield 77, 3)) mq_157 ci_157 (List.mem_of_getElem? (i := 12) rfl)
theorem cd_157_25 : mt_cd 157 25 = some (.aload_n 0) := mt_cd_of (q := (25, .aload_n 0, 1)) mq_157 ci_157 (List.mem_of_getElem? (i := 13) rfl)
theorem cd_157_26 : mt_cd 157 26 = some (.getfield 282) := mt_cd_of (q := (26, .getfield 282, 3)) mq_157 ci_157 (List.mem_of_getElem? (i := 14) rfl)
theorem cd_157_29 : mt_cd 157 29 = some (.iload_n 1) := mt_cd_of (q := (29, .iload_n 1, 1)) mq_157 ci_157 (List.mem_of_getElem? (i := 15) rfl)
theorem cd_157_30 : mt_cd 157 30 = some (.iastore) := mt_cd_of (q := (30, .iastore, 1)) mq_157 ci_157 (List.mem_of_getElem? (i := 16) rfl)
theorem cd_157_31 : mt_cd 157 31 = some (.aload_n 0) := mt_cd_of (q := (31, .aload_n 0, 1)) mq_157 ci_157 (List.mem_of_getElem? (i := 17) rfl)
theorem cd_157_32 : mt_cd 157 32 = some (.dup) := mt_cd_of (q := (32, .dup, 1)) mq_157 ci_157 (List.mem_of_getElem? (i := 18) rfl)
theorem cd_157_33 : mt_cd 157 33 = some (.getfield 282) := mt_cd_of (q := (33, .getfield 282, 3)) mq_157 ci_157 (List.mem_of_getElem? (i := 19) rfl)
theorem cd_157_36 : mt_cd 157 36 = some (.dup_x1) := mt_cd_of (q := (36, .dup_x1, 1)) mq_157 ci_157 (List.mem_of_getElem? (i := 20) rfl)
theorem cd_157_37 : mt_cd 157 37 = some (.iconst 1) := mt_cd_of (q := (37, .iconst 1, 1)) mq_157 ci_157 (List.mem_of_getElem? (i := 21) rfl)
theorem cd_157_38 : mt_cd 157 38 = some (.iadd) := mt_cd_of (q := (38, .iadd, 1)) mq_157 ci_157 (List.mem_of_getElem? (i := 22) rfl)
theorem cd_157_39 : mt_cd 157 39 = some (.putfield 282) := mt_cd_of (q := (39, .putfield 282, 3)) mq_157 ci_157 (List.mem_of_getElem? (i := 23) rfl)
theorem cd_157_42 : mt_cd 157 42 = some (.ireturn) := mt_cd_of (q := (42, .ireturn, 1)) mq_157 ci_157 (List.mem_of_getElem? (i := 24) rfl)
theorem b_157_0 {d : Nat} {Q : (Option Value ⊕ Nat) → mi_H → Prop} (n sl : Nat) (f : Nat → mi_C) {l1 : Nat} {l2 : Int32} {fs3 : List Value} {x6 : Int32} (h4 : f l1 = .inr (12, fs3)) (h5 : l1 < n) (h7 : fs3[21]? = some (.int x6)) (h8 : ¬ x6 = 800 → mi_W d 157 21 [some (.ref l1), some (.int l2)] [] (n, sl, f) Q) (h9 : ¬ (¬ x6 = 800) → mi_W d 157 10 [some (.ref l1), some (.int l2)] [] (n, sl, f) Q) : mi_W d 157 0 [some (.ref l1), some (.int l2)] [] (n, sl, f) Q := by
  refine w_aload_n cd_157_0 rfl ?_
  refine w_getfield cd_157_1 (show mt_f 12 282 = some (12, 21) by decide +kernel) h4 h5 h7 ?_
  refine w_sipush (v := 800) cd_157_4 (by decide) ?_
  exact w_if_icmpne cd_157_7 (by decide) h8 h9
theorem b_157_10 {d : Nat} {Q : (Option Value ⊕ Nat) → mi_H → Prop} (n sl : Nat) (f : Nat → mi_C) {l1 : Nat} {l2 : Int32} {fs3 : List Value} {x6 : Int32} {fs8 : List Value} (h4 : f l1 = .inr (12, fs3)) (h5 : l1 < n) (h7 : fs3[9]? = some (.int x6)) (h9 : f l1 = .inr (12, fs8)) (h10 : l1 < n) (h11 : mi_W d 143 0 (mi_en 2 [.ref l1, .int x6]) [] (n, sl, f) (mi_Kc d 157 15 [some (.ref l1), some (.int l2)] [] Q)) : mi_W (d + 1) 157 10 [some (.ref l1), some (.int l2)] [] (n, sl, f) Q := by
  refine w_aload_n cd_157_10 rfl ?_
  refine w_aload_n cd_157_11 rfl ?_
  refine w_getfield cd_157_12 (show mt_f 12 299 = some (12, 9) by decide +kernel) h4 h5 h7 ?_
  exact w_invokevirtual cd_157_15 (show mt_m 12 272 = some (143, 0) by decide +kernel) (rest := []) rfl (as := [.ref l1, .int x6]) rfl h9 (Or.inl h10) ⟨Nat.le_of_ble_eq_true rfl, Nat.le_of_ble_eq_true rfl, Nat.le_of_ble_eq_true rfl⟩ h11
theorem b_157_18 {d : Nat} {Q : (Option Value ⊕ Nat) → mi_H → Prop} (n sl : Nat) (f : Nat → mi_C) {l1 : Nat} {l2 : Int32} {s3 : Int32} (h4 : Q (.inl (some (.int (-1)))) (n, sl, f)) : mi_W d 157 18 [some (.ref l1), some (.int l2)] [.int s3] (n, sl, f) Q := by
  refine w_pop_i cd_157_18 ?_
  refine w_iconst (v := (-1)) cd_157_19 (by decide) ?_
  exact w_ireturn_i cd_157_20 (by decide +kernel) h4
theorem b_157_21 {d : Nat} {Q : (Option Value ⊕ Nat) → mi_H → Prop} (n sl : Nat) (f : Nat → mi_C) {l1 : Nat} {l2 : Int32} {fs3 : List Value} {x6 : Nat} {fs8 : List Value} {x11 : Int32} (m13 i13 : Nat) (g13 : Nat → Int32) {fs17 : List Value} {x20 : Int32} {fs22 : List Value} (h4 : f l1 = .inr (12, fs3)) (h5 : l1 < n) (h7 : fs3[12]? = some (.ref x6)) (h9 : f l1 = .inr (12, fs8)) (h10 : l1 < n) (h12 : fs8[21]? = some (.int x11)) (h14 : f x6 = .inl (0, m13, .inl g13)) (h15 : x6 < n) (h16 : mi_ix x11 m13 i13) (h18 : (va_up f x6 (.inl (0, m13, .inl (upd g13 i13 l2)))) l1 = .inr (12, fs17)) (h19 : l1 < n) (h21 : fs17[21]? = some (.int x20)) (h23 : (va_up f x6 (.inl (0, m13, .inl (upd g13 i13 l2)))) l1 = .inr (12, fs22)) (h24 : l1 < n) (h25 : 21 < fs22.length) (h26 : Q (.inl (some (.int x20))) (n, sl, (va_up (va_up f x6 (.inl (0, m13, .inl (upd g13 i13 l2)))) l1 (.inr (12, fs22.set 21 (.int (x20 + 1))))))) : mi_W d 157 21 [some (.ref l1), some (.int l2)] [] (n, sl, f) Q := by
  refine w_aload_n cd_157_21 rfl ?_
  refine w_getfield cd_157_22 (show mt_f 12 77 = some (12, 12) by decide +kernel) h4 h5 h7 ?_
  refine w_aload_n cd_157_25 rfl ?_
  refine w_getfield cd_157_26 (show mt_f 12 282 = some (12, 21) by decide +kernel) h9 h10 h12 ?_
  refine w_iload_n cd_157_29 rfl ?_
  refine w_iastore cd_157_30 h14 h15 h16 ?_
  refine w_aload_n cd_157_31 rfl ?_
  refine w_dup_r cd_157_32 ?_
  refine w_getfield cd_157_33 (show mt_f 12 282 = some (12, 21) by decide +kernel) h18 h19 h21 ?_
  refine w_dup_x1_ir cd_157_36 ?_
  refine w_iconst (v := 1) cd_157_37 (by decide) ?_
  refine w_iadd cd_157_38 ?_
  refine w_putfield (w := .int (x20 + 1)) cd_157_39 (show mt_f 12 282 = some (12, 21) by decide +kernel) h23 h24 ⟨h25, rfl, Or.inl (by decide)⟩ ?_
  exact w_ireturn_i cd_157_42 (by decide +kernel) h26
/-! MarloweHostModel.parts(I)Z -/
set_option maxRecDepth 100000 in
theorem mq_158 : mt_q 158 = my_158 := rfl
set_option maxRecDepth 100000 in
theorem ci_158 : mt_inc 0 my_158.cd = true := by decide +kernel
theorem cd_158_0 : mt_cd 158 0 = some (.aload_n 0) := mt_cd_of (q := (0, .aload_n 0, 1)) mq_158 ci_158 (List.mem_append_left _ (show _ ∈ my_158_0 from List.mem_of_getElem? (i := 0) rfl))
theorem cd_158_1 : mt_cd 158 1 = some (.getfield 77) := mt_cd_of (q := (1, .getfield 77, 3)) mq_158 ci_158 (List.mem_append_left _ (show _ ∈ my_158_0 from List.mem_of_getElem? (i := 1) rfl))
theorem cd_158_4 : mt_cd 158 4 = some (.iload_n 1) := mt_cd_of (q := (4, .iload_n 1, 1)) mq_158 ci_158 (List.mem_append_left _ (show _ ∈ my_158_0 from List.mem_of_getElem? (i := 2) rfl))
theorem cd_158_5 : mt_cd 158 5 = some (.iaload) := mt_cd_of (q := (5, .iaload, 1)) mq_158 ci_158 (List.mem_append_left _ (show _ ∈ my_158_0 from List.mem_of_getElem? (i := 3) rfl))
theorem cd_158_6 : mt_cd 158 6 = some (.tableswitch 266 0 5 #[38, 40, 266, 164, 212, 218]) := mt_cd_of (q := (6, .tableswitch 266 0 5 #[38, 40, 266, 164, 212, 218], 38)) mq_158 ci_158 (List.mem_append_left _ (show _ ∈ my_158_0 from List.mem_of_getElem? (i := 4) rfl))
theorem cd_158_44 : mt_cd 158 44 = some (.iconst 1) := mt_cd_of (q := (44, .iconst 1, 1)) mq_158 ci_158 (List.mem_append_left _ (show _ ∈ my_158_0 from List.mem_of_getElem? (i := 5) rfl))
theorem cd_158_45 : mt_cd 158 45 = some (.ireturn) := mt_cd_of (q := (45, .ireturn, 1)) mq_158 ci_158 (List.mem_append_left _ (show _ ∈ my_158_0 from List.mem_of_getElem? (i := 6) rfl))
theorem cd_158_46 : mt_cd 158 46 = some (.aload_n 0) := mt_cd_of (q := (46, .aload_n 0, 1)) mq_158 ci_158 (List.mem_append_left _ (show _ ∈ my_158_0 from List.mem_of_getElem? (i := 7) rfl))
theorem cd_158_47 : mt_cd 158 47 = some (.getfield 80) := mt_cd_of (q := (47, .getfield 80, 3)) mq_158 ci_158 (List.mem_append_left _ (show _ ∈ my_158_0 from List.mem_of_getElem? (i := 8) rfl))
theorem cd_158_50 : mt_cd 158 50 = some (.iload_n 1) := mt_cd_of (q := (50, .iload_n 1, 1)) mq_158 ci_158 (List.mem_append_left _ (show _ ∈ my_158_0 from List.mem_of_getElem? (i := 9) rfl))
theorem cd_158_51 : mt_cd 158 51 = some (.aload_n 0) := mt_cd_of (q := (51, .aload_n 0, 1)) mq_158 ci_158 (List.mem_append_left _ (show _ ∈ my_158_0 from List.mem_of_getElem? (i := 10) rfl))
theorem cd_158_52 : mt_cd 158 52 = some (.invokevirtual 370) := mt_cd_of (q := (52, .invokevirtual 370, 3)) mq_158 ci_158 (List.mem_append_left _ (show _ ∈ my_158_0 from List.mem_of_getElem? (i := 11) rfl))
theorem cd_158_55 : mt_cd 158 55 = some (.dup_x2) := mt_cd_of (q := (55, .dup_x2, 1)) mq_158 ci_158 (List.mem_append_left _ (show _ ∈ my_158_0 from List.mem_of_getElem? (i := 12) rfl))
theorem cd_158_56 : mt_cd 158 56 = some (.iastore) := mt_cd_of (q := (56, .iastore, 1)) mq_158 ci_158 (List.mem_append_left _ (show _ ∈ my_158_0 from List.mem_of_getElem? (i := 13) rfl))
theorem cd_158_57 : mt_cd 158 57 = some (.ifCond .ge 5) := mt_cd_of (q := (57, .ifCond .ge 5, 3)) mq_158 ci_158 (List.mem_append_left _ (show _ ∈ my_158_0 from List.mem_of_getElem? (i := 14) rfl))
theorem cd_158_60 : mt_cd 158 60 = some (.iconst 0) := mt_cd_of (q := (60, .iconst 0, 1)) mq_158 ci_158 (List.mem_append_left _ (show _ ∈ my_158_0 from List.mem_of_getElem? (i := 15) rfl))
theorem cd_158_61 : mt_cd 158 61 = some (.ireturn) := mt_cd_of (q := (61, .ireturn, 1)) mq_158 ci_158 (List.mem_append_left _ (show _ ∈ my_158_0 from List.mem_of_getElem? (i := 16) rfl))
theorem cd_158_62 : mt_cd 158 62 = some (.aload_n 0) := mt_cd_of (q := (62, .aload_n 0, 1)) mq_158 ci_158 (List.mem_append_left _ (show _ ∈ my_158_0 from List.mem_of_getElem? (i := 17) rfl))
theorem cd_158_63 : mt_cd 158 63 = some (.ldc 31) := mt_cd_of (q := (63, .ldc 31, 2)) mq_158 ci_158 (List.mem_append_left _ (show _ ∈ my_158_0 from List.mem_of_getElem? (i := 18) rfl))
theorem cd_158_65 : mt_cd 158 65 = some (.invokevirtual 387) := mt_cd_of (q := (65, .invokevirtual 387, 3)) mq_158 ci_158 (List.mem_append_left _ (show _ ∈ my_158_0 from List.mem_of_getElem? (i := 19) rfl))
theorem cd_158_68 : mt_cd 158 68 = some (.ifCond .eq 10) := mt_cd_of (q := (68, .ifCond .eq 10, 3)) mq_158 ci_158 (List.mem_append_left _ (show _ ∈ my_158_0 from List.mem_of_getElem? (i := 20) rfl))
theorem cd_158_71 : mt_cd 158 71 = some (.aload_n 0) := mt_cd_of (q := (71, .aload_n 0, 1)) mq_158 ci_158 (List.mem_append_left _ (show _ ∈ my_158_0 from List.mem_of_getElem? (i := 21) rfl))
theorem cd_158_72 : mt_cd 158 72 = some (.getfield 77) := mt_cd_of (q := (72, .getfield 77, 3)) mq_158 ci_158 (List.mem_append_left _ (show _ ∈ my_158_0 from List.mem_of_getElem? (i := 22) rfl))
theorem cd_158_75 : mt_cd 158 75 = some (.iload_n 1) := mt_cd_of (q := (75, .iload_n 1, 1)) mq_158 ci_158 (List.mem_append_left _ (show _ ∈ my_158_0 from List.mem_of_getElem? (i := 23) rfl))
theorem cd_158_76 : mt_cd 158 76 = some (.iconst 2) := mt_cd_of (q := (76, .iconst 2, 1)) mq_158 ci_158 (List.mem_append_left _ (show _ ∈ my_158_0 from List.mem_of_getElem? (i := 24) rfl))
theorem cd_158_77 : mt_cd 158 77 = some (.iastore) := mt_cd_of (q := (77, .iastore, 1)) mq_158 ci_158 (List.mem_append_left _ (show _ ∈ my_158_0 from List.mem_of_getElem? (i := 25) rfl))
theorem cd_158_78 : mt_cd 158 78 = some (.aload_n 0) := mt_cd_of (q := (78, .aload_n 0, 1)) mq_158 ci_158 (List.mem_append_left _ (show _ ∈ my_158_0 from List.mem_of_getElem? (i := 26) rfl))
theorem cd_158_79 : mt_cd 158 79 = some (.aload_n 0) := mt_cd_of (q := (79, .aload_n 0, 1)) mq_158 ci_158 (List.mem_append_left _ (show _ ∈ my_158_0 from List.mem_of_getElem? (i := 27) rfl))
theorem cd_158_80 : mt_cd 158 80 = some (.ldc 29) := mt_cd_of (q := (80, .ldc 29, 2)) mq_158 ci_158 (List.mem_append_left _ (show _ ∈ my_158_0 from List.mem_of_getElem? (i := 28) rfl))
theorem cd_158_82 : mt_cd 158 82 = some (.invokevirtual 387) := mt_cd_of (q := (82, .invokevirtual 387, 3)) mq_158 ci_158 (List.mem_append_left _ (show _ ∈ my_158_0 from List.mem_of_getElem? (i := 29) rfl))
theorem cd_158_85 : mt_cd 158 85 = some (.ifCond .ne 12) := mt_cd_of (q := (85, .ifCond .ne 12, 3)) mq_158 ci_158 (List.mem_append_left _ (show _ ∈ my_158_0 from List.mem_of_getElem? (i := 30) rfl))
theorem cd_158_88 : mt_cd 158 88 = some (.aload_n 0) := mt_cd_of (q := (88, .aload_n 0, 1)) mq_158 ci_158 (List.mem_append_left _ (show _ ∈ my_158_0 from List.mem_of_getElem? (i := 31) rfl))
theorem cd_158_89 : mt_cd 158 89 = some (.ldc 31) := mt_cd_of (q := (89, .ldc 31, 2)) mq_158 ci_158 (List.mem_append_left _ (show _ ∈ my_158_0 from List.mem_of_getElem? (i := 32) rfl))
theorem cd_158_91 : mt_cd 158 91 = some (.invokevirtual 387) := mt_cd_of (q := (91, .invokevirtual 387, 3)) mq_158 ci_158 (List.mem_append_left _ (show _ ∈ my_158_0 from List.mem_of_getElem? (i := 33) rfl))
theorem cd_158_94 : mt_cd 158 94 = some (.ifCond .eq 7) := mt_cd_of (q := (94, .ifCond .eq 7, 3)) mq_158 ci_158 (List.mem_append_left _ (show _ ∈ my_158_0 from List.mem_of_getElem? (i := 34) rfl))
theorem cd_158_97 : mt_cd 158 97 = some (.iconst 1) := mt_cd_of (q := (97, .iconst 1, 1)) mq_158 ci_158 (List.mem_append_left _ (show _ ∈ my_158_0 from List.mem_of_getElem? (i := 35) rfl))
theorem cd_158_98 : mt_cd 158 98 = some (.goto 4) := mt_cd_of (q := (98, .goto 4, 3)) mq_158 ci_158 (List.mem_append_left _ (show _ ∈ my_158_0 from List.mem_of_getElem? (i := 36) rfl))
theorem cd_158_101 : mt_cd 158 101 = some (.iconst 0) := mt_cd_of (q := (101, .iconst 0, 1)) mq_158 ci_158 (List.mem_append_left _ (show _ ∈ my_158_0 from List.mem_of_getElem? (i := 37) rfl))
theorem cd_158_102 : mt_cd 158 102 = some (.invokevirtual 383) := mt_cd_of (q := (102, .invokevirtual 383, 3)) mq_158 ci_158 (List.mem_append_left _ (show _ ∈ my_158_0 from List.mem_of_getElem? (i := 38) rfl))
theorem cd_158_105 : mt_cd 158 105 = some (.ifCond .eq 63) := mt_cd_of (q := (105, .ifCond .eq 63, 3)) mq_158 ci_158 (List.mem_append_left _ (show _ ∈ my_158_0 from List.mem_of_getElem? (i := 39) rfl))
theorem cd_158_108 : mt_cd 158 108 = some (.aload_n 0) := mt_cd_of (q := (108, .aload_n 0, 1)) mq_158 ci_158 (List.mem_append_left _ (show _ ∈ my_158_0 from List.mem_of_getElem? (i := 40) rfl))
theorem cd_158_109 : mt_cd 158 109 = some (.getfield 83) := mt_cd_of (q := (109, .getfield 83, 3)) mq_158 ci_158 (List.mem_append_left _ (show _ ∈ my_158_0 from List.mem_of_getElem? (i := 41) rfl))
theorem cd_158_112 : mt_cd 158 112 = some (.iload_n 1) := mt_cd_of (q := (112, .iload_n 1, 1)) mq_158 ci_158 (List.mem_append_left _ (show _ ∈ my_158_0 from List.mem_of_getElem? (i := 42) rfl))
theorem cd_158_113 : mt_cd 158 113 = some (.aload_n 0) := mt_cd_of (q := (113, .aload_n 0, 1)) mq_158 ci_158 (List.mem_append_left _ (show _ ∈ my_158_0 from List.mem_of_getElem? (i := 43) rfl))
theorem cd_158_114 : mt_cd 158 114 = some (.invokevirtual 370) := mt_cd_of (q := (114, .invokevirtual 370, 3)) mq_158 ci_158 (List.mem_append_left _ (show _ ∈ my_158_0 from List.mem_of_getElem? (i := 44) rfl))
theorem cd_158_117 : mt_cd 158 117 = some (.dup_x2) := mt_cd_of (q := (117, .dup_x2, 1)) mq_158 ci_158 (List.mem_append_left _ (show _ ∈ my_158_0 from List.mem_of_getElem? (i := 45) rfl))
theorem cd_158_118 : mt_cd 158 118 = some (.iastore) := mt_cd_of (q := (118, .iastore, 1)) mq_158 ci_158 (List.mem_append_left _ (show _ ∈ my_158_0 from List.mem_of_getElem? (i := 46) rfl))
theorem cd_158_119 : mt_cd 158 119 = some (.ifCond .lt 49) := mt_cd_of (q := (119, .ifCond .lt 49, 3)) mq_158 ci_158 (List.mem_append_left _ (show _ ∈ my_158_0 from List.mem_of_getElem? (i := 47) rfl))
theorem cd_158_122 : mt_cd 158 122 = some (.aload_n 0) := mt_cd_of (q := (122, .aload_n 0, 1)) mq_158 ci_158 (List.mem_append_left _ (show _ ∈ my_158_0 from List.mem_of_getElem? (i := 48) rfl))
theorem cd_158_123 : mt_cd 158 123 = some (.getfield 86) := mt_cd_of (q := (123, .getfield 86, 3)) mq_158 ci_158 (List.mem_append_left _ (show _ ∈ my_158_0 from List.mem_of_getElem? (i := 49) rfl))
theorem cd_158_126 : mt_cd 158 126 = some (.iload_n 1) := mt_cd_of (q := (126, .iload_n 1, 1)) mq_158 ci_158 (List.mem_append_left _ (show _ ∈ my_158_0 from List.mem_of_getElem? (i := 50) rfl))
theorem cd_158_127 : mt_cd 158 127 = some (.aload_n 0) := mt_cd_of (q := (127, .aload_n 0, 1)) mq_158 ci_158 (List.mem_append_left _ (show _ ∈ my_158_0 from List.mem_of_getElem? (i := 51) rfl))
theorem cd_158_128 : mt_cd 158 128 = some (.invokevirtual 396) := mt_cd_of (q := (128, .invokevirtual 396, 3)) mq_158 ci_158 (List.mem_append_left _ (show _ ∈ my_158_0 from List.mem_of_getElem? (i := 52) rfl))
theorem cd_158_131 : mt_cd 158 131 = some (.dup_x2) := mt_cd_of (q := (131, .dup_x2, 1)) mq_158 ci_158 (List.mem_append_left _ (show _ ∈ my_158_0 from List.mem_of_getElem? (i := 53) rfl))
theorem cd_158_132 : mt_cd 158 132 = some (.iastore) := mt_cd_of (q := (132, .iastore, 1)) mq_158 ci_158 (List.mem_append_left _ (show _ ∈ my_158_0 from List.mem_of_getElem? (i := 54) rfl))
theorem cd_158_133 : mt_cd 158 133 = some (.ifCond .lt 35) := mt_cd_of (q := (133, .ifCond .lt 35, 3)) mq_158 ci_158 (List.mem_append_left _ (show _ ∈ my_158_0 from List.mem_of_getElem? (i := 55) rfl))
theorem cd_158_136 : mt_cd 158 136 = some (.aload_n 0) := mt_cd_of (q := (136, .aload_n 0, 1)) mq_158 ci_158 (List.mem_append_left _ (show _ ∈ my_158_0 from List.mem_of_getElem? (i := 56) rfl))
theorem cd_158_137 : mt_cd 158 137 = some (.getfield 89) := mt_cd_of (q := (137, .getfield 89, 3)) mq_158 ci_158 (List.mem_append_left _ (show _ ∈ my_158_0 from List.mem_of_getElem? (i := 57) rfl))
theorem cd_158_140 : mt_cd 158 140 = some (.iload_n 1) := mt_cd_of (q := (140, .iload_n 1, 1)) mq_158 ci_158 (List.mem_append_left _ (show _ ∈ my_158_0 from List.mem_of_getElem? (i := 58) rfl))
theorem cd_158_141 : mt_cd 158 141 = some (.aload_n 0) := mt_cd_of (q := (141, .aload_n 0, 1)) mq_158 ci_158 (List.mem_append_left _ (show _ ∈ my_158_0 from List.mem_of_getElem? (i := 59) rfl))
theorem cd_158_142 : mt_cd 158 142 = some (.invokevirtual 399) := mt_cd_of (q := (142, .invokevirtual 399, 3)) mq_158 ci_158 (List.mem_append_right _ (List.mem_append_left _ (show _ ∈ my_158_1 from List.mem_of_getElem? (i := 0) rfl)))
theorem cd_158_145 : mt_cd 158 145 = some (.dup_x2) := mt_cd_of (q := (145, .dup_x2, 1)) mq_158 ci_158 (List.mem_append_right _ (List.mem_append_left _ (show _ ∈ my_158_1 from List.mem_of_getElem? (i := 1) rfl)))
theorem cd_158_146 : mt_cd 158 146 = some (.iastore) := mt_cd_of (q := (146, .iastore, 1)) mq_158 ci_158 (List.mem_append_right _ (List.mem_append_left _ (show _ ∈ my_158_1 from List.mem_of_getElem? (i := 2) rfl)))
theorem cd_158_147 : mt_cd 158 147 = some (.ifCond .lt 21) := mt_cd_of (q := (147, .ifCond .lt 21, 3)) mq_158 ci_158 (List.mem_append_right _ (List.mem_append_left _ (show _ ∈ my_158_1 from List.mem_of_getElem? (i := 3) rfl)))
theorem cd_158_150 : mt_cd 158 150 = some (.aload_n 0) := mt_cd_of (q := (150, .aload_n 0, 1)) mq_158 ci_158 (List.mem_append_right _ (List.mem_append_left _ (show _ ∈ my_158_1 from List.mem_of_getElem? (i := 4) rfl)))
theorem cd_158_151 : mt_cd 158 151 = some (.getfield 98) := mt_cd_of (q := (151, .getfield 98, 3)) mq_158 ci_158 (List.mem_append_right _ (List.mem_append_left _ (show _ ∈ my_158_1 from List.mem_of_getElem? (i := 5) rfl)))
theorem cd_158_154 : mt_cd 158 154 = some (.iload_n 1) := mt_cd_of (q := (154, .iload_n 1, 1)) mq_158 ci_158 (List.mem_append_right _ (List.mem_append_left _ (show _ ∈ my_158_1 from List.mem_of_getElem? (i := 6) rfl)))
theorem cd_158_155 : mt_cd 158 155 = some (.aload_n 0) := mt_cd_of (q := (155, .aload_n 0, 1)) mq_158 ci_158 (List.mem_append_right _ (List.mem_append_left _ (show _ ∈ my_158_1 from List.mem_of_getElem? (i := 7) rfl)))
theorem cd_158_156 : mt_cd 158 156 = some (.invokevirtual 355) := mt_cd_of (q := (156, .invokevirtual 355, 3)) mq_158 ci_158 (List.mem_append_right _ (List.mem_append_left _ (show _ ∈ my_158_1 from List.mem_of_getElem? (i := 8) rfl)))
theorem cd_158_159 : mt_cd 158 159 = some (.dup_x2) := mt_cd_of (q := (159, .dup_x2, 1)) mq_158 ci_158 (List.mem_append_right _ (List.mem_append_left _ (show _ ∈ my_158_1 from List.mem_of_getElem? (i := 9) rfl)))
theorem cd_158_160 : mt_cd 158 160 = some (.iastore) := mt_cd_of (q := (160, .iastore, 1)) mq_158 ci_158 (List.mem_append_right _ (List.mem_append_left _ (show _ ∈ my_158_1 from List.mem_of_getElem? (i := 10) rfl)))
theorem cd_158_161 : mt_cd 158 161 = some (.ifCond .lt 7) := mt_cd_of (q := (161, .ifCond .lt 7, 3)) mq_158 ci_158 (List.mem_append_right _ (List.mem_append_left _ (show _ ∈ my_158_1 from List.mem_of_getElem? (i := 11) rfl)))
theorem cd_158_164 : mt_cd 158 164 = some (.iconst 1) := mt_cd_of (q := (164, .iconst 1, 1)) mq_158 ci_158 (List.mem_append_right _ (List.mem_append_left _ (show _ ∈ my_158_1 from List.mem_of_getElem? (i := 12) rfl)))
theorem cd_158_165 : mt_cd 158 165 = some (.goto 4) := mt_cd_of (q := (165, .goto 4, 3)) mq_158 ci_158 (List.mem_append_right _ (List.mem_append_left _ (show _ ∈ my_158_1 from List.mem_of_getElem? (i := 13) rfl)))
theorem cd_158_168 : mt_cd 158 168 = some (.iconst 0) := mt_cd_of (q := (168, .iconst 0, 1)) mq_158 ci_158 (List.mem_append_right _ (List.mem_append_left _ (show _ ∈ my_158_1 from List.mem_of_getElem? (i := 14) rfl)))
theorem cd_158_169 : mt_cd 158 169 = some (.ireturn) := mt_cd_of (q := (169, .ireturn, 1)) mq_158 ci_158 (List.mem_append_right _ (List.mem_append_left _ (show _ ∈ my_158_1 from List.mem_of_getElem? (i := 15) rfl)))
theorem cd_158_170 : mt_cd 158 170 = some (.aload_n 0) := mt_cd_of (q := (170, .aload_n 0, 1)) mq_158 ci_158 (List.mem_append_right _ (List.mem_append_left _ (show _ ∈ my_158_1 from List.mem_of_getElem? (i := 16) rfl)))
theorem cd_158_171 : mt_cd 158 171 = some (.getfield 89) := mt_cd_of (q := (171, .getfield 89, 3)) mq_158 ci_158 (List.mem_append_right _ (List.mem_append_left _ (show _ ∈ my_158_1 from List.mem_of_getElem? (i := 17) rfl)))
theorem cd_158_174 : mt_cd 158 174 = some (.iload_n 1) := mt_cd_of (q := (174, .iload_n 1, 1)) mq_158 ci_158 (List.mem_append_right _ (List.mem_append_left _ (show _ ∈ my_158_1 from List.mem_of_getElem? (i := 18) rfl)))
theorem cd_158_175 : mt_cd 158 175 = some (.aload_n 0) := mt_cd_of (q := (175, .aload_n 0, 1)) mq_158 ci_158 (List.mem_append_right _ (List.mem_append_left _ (show _ ∈ my_158_1 from List.mem_of_getElem? (i := 19) rfl)))
theorem cd_158_176 : mt_cd 158 176 = some (.invokevirtual 401) := mt_cd_of (q := (176, .invokevirtual 401, 3)) mq_158 ci_158 (List.mem_append_right _ (List.mem_append_left _ (show _ ∈ my_158_1 from List.mem_of_getElem? (i := 20) rfl)))
theorem cd_158_179 : mt_cd 158 179 = some (.dup_x2) := mt_cd_of (q := (179, .dup_x2, 1)) mq_158 ci_158 (List.mem_append_right _ (List.mem_append_left _ (show _ ∈ my_158_1 from List.mem_of_getElem? (i := 21) rfl)))
theorem cd_158_180 : mt_cd 158 180 = some (.iastore) := mt_cd_of (q := (180, .iastore, 1)) mq_158 ci_158 (List.mem_append_right _ (List.mem_append_left _ (show _ ∈ my_158_1 from List.mem_of_getElem? (i := 22) rfl)))
theorem cd_158_181 : mt_cd 158 181 = some (.ifCond .lt 35) := mt_cd_of (q := (181, .ifCond .lt 35, 3)) mq_158 ci_158 (List.mem_append_right _ (List.mem_append_left _ (show _ ∈ my_158_1 from List.mem_of_getElem? (i := 23) rfl)))
theorem cd_158_184 : mt_cd 158 184 = some (.aload_n 0) := mt_cd_of (q := (184, .aload_n 0, 1)) mq_158 ci_158 (List.mem_append_right _ (List.mem_append_left _ (show _ ∈ my_158_1 from List.mem_of_getElem? (i := 24) rfl)))
theorem cd_158_185 : mt_cd 158 185 = some (.getfield 80) := mt_cd_of (q := (185, .getfield 80, 3)) mq_158 ci_158 (List.mem_append_right _ (List.mem_append_left _ (show _ ∈ my_158_1 from List.mem_of_getElem? (i := 25) rfl)))
theorem cd_158_188 : mt_cd 158 188 = some (.iload_n 1) := mt_cd_of (q := (188, .iload_n 1, 1)) mq_158 ci_158 (List.mem_append_right _ (List.mem_append_left _ (show _ ∈ my_158_1 from List.mem_of_getElem? (i := 26) rfl)))
theorem cd_158_189 : mt_cd 158 189 = some (.aload_n 0) := mt_cd_of (q := (189, .aload_n 0, 1)) mq_158 ci_158 (List.mem_append_right _ (List.mem_append_left _ (show _ ∈ my_158_1 from List.mem_of_getElem? (i := 27) rfl)))
theorem cd_158_190 : mt_cd 158 190 = some (.invokevirtual 355) := mt_cd_of (q := (190, .invokevirtual 355, 3)) mq_158 ci_158 (List.mem_append_right _ (List.mem_append_left _ (show _ ∈ my_158_1 from List.mem_of_getElem? (i := 28) rfl)))
theorem cd_158_193 : mt_cd 158 193 = some (.dup_x2) := mt_cd_of (q := (193, .dup_x2, 1)) mq_158 ci_158 (List.mem_append_right _ (List.mem_append_left _ (show _ ∈ my_158_1 from List.mem_of_getElem? (i := 29) rfl)))
theorem cd_158_194 : mt_cd 158 194 = some (.iastore) := mt_cd_of (q := (194, .iastore, 1)) mq_158 ci_158 (List.mem_append_right _ (List.mem_append_left _ (show _ ∈ my_158_1 from List.mem_of_getElem? (i := 30) rfl)))
theorem cd_158_195 : mt_cd 158 195 = some (.ifCond .lt 21) := mt_cd_of (q := (195, .ifCond .lt 21, 3)) mq_158 ci_158 (List.mem_append_right _ (List.mem_append_left _ (show _ ∈ my_158_1 from List.mem_of_getElem? (i := 31) rfl)))
theorem cd_158_198 : mt_cd 158 198 = some (.aload_n 0) := mt_cd_of (q := (198, .aload_n 0, 1)) mq_158 ci_158 (List.mem_append_right _ (List.mem_append_left _ (show _ ∈ my_158_1 from List.mem_of_getElem? (i := 32) rfl)))
theorem cd_158_199 : mt_cd 158 199 = some (.getfield 83) := mt_cd_of (q := (199, .getfield 83, 3)) mq_158 ci_158 (List.mem_append_right _ (List.mem_append_left _ (show _ ∈ my_158_1 from List.mem_of_getElem? (i := 33) rfl)))
theorem cd_158_202 : mt_cd 158 202 = some (.iload_n 1) := mt_cd_of (q := (202, .iload_n 1, 1)) mq_158 ci_158 (List.mem_append_right _ (List.mem_append_left _ (show _ ∈ my_158_1 from List.mem_of_getElem? (i := 34) rfl)))
theorem cd_158_203 : mt_cd 158 203 = some (.aload_n 0) := mt_cd_of (q := (203, .aload_n 0, 1)) mq_158 ci_158 (List.mem_append_right _ (List.mem_append_left _ (show _ ∈ my_158_1 from List.mem_of_getElem? (i := 35) rfl)))
theorem cd_158_204 : mt_cd 158 204 = some (.invokevirtual 355) := mt_cd_of (q := (204, .invokevirtual 355, 3)) mq_158 ci_158 (List.mem_append_right _ (List.mem_append_left _ (show _ ∈ my_158_1 from List.mem_of_getElem? (i := 36) rfl)))
theorem cd_158_207 : mt_cd 158 207 = some (.dup_x2) := mt_cd_of (q := (207, .dup_x2, 1)) mq_158 ci_158 (List.mem_append_right _ (List.mem_append_left _ (show _ ∈ my_158_1 from List.mem_of_getElem? (i := 37) rfl)))
theorem cd_158_208 : mt_cd 158 208 = some (.iastore) := mt_cd_of (q := (208, .iastore, 1)) mq_158 ci_158 (List.mem_append_right _ (List.mem_append_left _ (show _ ∈ my_158_1 from List.mem_of_getElem? (i := 38) rfl)))
theorem cd_158_209 : mt_cd 158 209 = some (.ifCond .lt 7) := mt_cd_of (q := (209, .ifCond .lt 7, 3)) mq_158 ci_158 (List.mem_append_right _ (List.mem_append_left _ (show _ ∈ my_158_1 from List.mem_of_getElem? (i := 39) rfl)))
theorem cd_158_212 : mt_cd 158 212 = some (.iconst 1) := mt_cd_of (q := (212, .iconst 1, 1)) mq_158 ci_158 (List.mem_append_right _ (List.mem_append_left _ (show _ ∈ my_158_1 from List.mem_of_getElem? (i := 40) rfl)))
theorem cd_158_213 : mt_cd 158 213 = some (.goto 4) := mt_cd_of (q := (213, .goto 4, 3)) mq_158 ci_158 (List.mem_append_right _ (List.mem_append_left _ (show _ ∈ my_158_1 from List.mem_of_getElem? (i := 41) rfl)))
theorem cd_158_216 : mt_cd 158 216 = some (.iconst 0) := mt_cd_of (q := (216, .iconst 0, 1)) mq_158 ci_158 (List.mem_append_right _ (List.mem_append_left _ (show _ ∈ my_158_1 from List.mem_of_getElem? (i := 42) rfl)))
theorem cd_158_217 : mt_cd 158 217 = some (.ireturn) := mt_cd_of (q := (217, .ireturn, 1)) mq_158 ci_158 (List.mem_append_right _ (List.mem_append_left _ (show _ ∈ my_158_1 from List.mem_of_getElem? (i := 43) rfl)))
theorem cd_158_218 : mt_cd 158 218 = some (.aload_n 0) := mt_cd_of (q := (218, .aload_n 0, 1)) mq_158 ci_158 (List.mem_append_right _ (List.mem_append_left _ (show _ ∈ my_158_1 from List.mem_of_getElem? (i := 44) rfl)))
theorem cd_158_219 : mt_cd 158 219 = some (.iload_n 1) := mt_cd_of (q := (219, .iload_n 1, 1)) mq_158 ci_158 (List.mem_append_right _ (List.mem_append_left _ (show _ ∈ my_158_1 from List.mem_of_getElem? (i := 45) rfl)))
theorem cd_158_220 : mt_cd 158 220 = some (.invokevirtual 404) := mt_cd_of (q := (220, .invokevirtual 404, 3)) mq_158 ci_158 (List.mem_append_right _ (List.mem_append_left _ (show _ ∈ my_158_1 from List.mem_of_getElem? (i := 46) rfl)))
theorem cd_158_223 : mt_cd 158 223 = some (.ireturn) := mt_cd_of (q := (223, .ireturn, 1)) mq_158 ci_158 (List.mem_append_right _ (List.mem_append_left _ (show _ ∈ my_158_1 from List.mem_of_getElem? (i := 47) rfl)))
theorem cd_158_224 : mt_cd 158 224 = some (.aload_n 0) := mt_cd_of (q := (224, .aload_n 0, 1)) mq_158 ci_158 (List.mem_append_right _ (List.mem_append_left _ (show _ ∈ my_158_1 from List.mem_of_getElem? (i := 48) rfl)))
theorem cd_158_225 : mt_cd 158 225 = some (.getfield 80) := mt_cd_of (q := (225, .getfield 80, 3)) mq_158 ci_158 (List.mem_append_right _ (List.mem_append_left _ (show _ ∈ my_158_1 from List.mem_of_getElem? (i := 49) rfl)))
theorem cd_158_228 : mt_cd 158 228 = some (.iload_n 1) := mt_cd_of (q := (228, .iload_n 1, 1)) mq_158 ci_158 (List.mem_append_right _ (List.mem_append_left _ (show _ ∈ my_158_1 from List.mem_of_getElem? (i := 50) rfl)))
theorem cd_158_229 : mt_cd 158 229 = some (.aload_n 0) := mt_cd_of (q := (229, .aload_n 0, 1)) mq_158 ci_158 (List.mem_append_right _ (List.mem_append_left _ (show _ ∈ my_158_1 from List.mem_of_getElem? (i := 51) rfl)))
theorem cd_158_230 : mt_cd 158 230 = some (.invokevirtual 406) := mt_cd_of (q := (230, .invokevirtual 406, 3)) mq_158 ci_158 (List.mem_append_right _ (List.mem_append_left _ (show _ ∈ my_158_1 from List.mem_of_getElem? (i := 52) rfl)))
theorem cd_158_233 : mt_cd 158 233 = some (.dup_x2) := mt_cd_of (q := (233, .dup_x2, 1)) mq_158 ci_158 (List.mem_append_right _ (List.mem_append_left _ (show _ ∈ my_158_1 from List.mem_of_getElem? (i := 53) rfl)))
theorem cd_158_234 : mt_cd 158 234 = some (.iastore) := mt_cd_of (q := (234, .iastore, 1)) mq_158 ci_158 (List.mem_append_right _ (List.mem_append_left _ (show _ ∈ my_158_1 from List.mem_of_getElem? (i := 54) rfl)))
theorem cd_158_235 : mt_cd 158 235 = some (.ifCond .lt 35) := mt_cd_of (q := (235, .ifCond .lt 35, 3)) mq_158 ci_158 (List.mem_append_right _ (List.mem_append_left _ (show _ ∈ my_158_1 from List.mem_of_getElem? (i := 55) rfl)))
theorem cd_158_238 : mt_cd 158 238 = some (.aload_n 0) := mt_cd_of (q := (238, .aload_n 0, 1)) mq_158 ci_158 (List.mem_append_right _ (List.mem_append_left _ (show _ ∈ my_158_1 from List.mem_of_getElem? (i := 56) rfl)))
theorem cd_158_239 : mt_cd 158 239 = some (.getfield 89) := mt_cd_of (q := (239, .getfield 89, 3)) mq_158 ci_158 (List.mem_append_right _ (List.mem_append_left _ (show _ ∈ my_158_1 from List.mem_of_getElem? (i := 57) rfl)))
theorem cd_158_242 : mt_cd 158 242 = some (.iload_n 1) := mt_cd_of (q := (242, .iload_n 1, 1)) mq_158 ci_158 (List.mem_append_right _ (List.mem_append_left _ (show _ ∈ my_158_1 from List.mem_of_getElem? (i := 58) rfl)))
theorem cd_158_243 : mt_cd 158 243 = some (.aload_n 0) := mt_cd_of (q := (243, .aload_n 0, 1)) mq_158 ci_158 (List.mem_append_right _ (List.mem_append_left _ (show _ ∈ my_158_1 from List.mem_of_getElem? (i := 59) rfl)))
theorem cd_158_244 : mt_cd 158 244 = some (.invokevirtual 399) := mt_cd_of (q := (244, .invokevirtual 399, 3)) mq_158 ci_158 (List.mem_append_right _ (List.mem_append_right _ ((show _ ∈ my_158_2 from List.mem_of_getElem? (i := 0) rfl))))
theorem cd_158_247 : mt_cd 158 247 = some (.dup_x2) := mt_cd_of (q := (247, .dup_x2, 1)) mq_158 ci_158 (List.mem_append_right _ (List.mem_append_right _ ((show _ ∈ my_158_2 from List.mem_of_getElem? (i := 1) rfl))))
theorem cd_158_248 : mt_cd 158 248 = some (.iastore) := mt_cd_of (q := (248, .iastore, 1)) mq_158 ci_158 (List.mem_append_right _ (List.mem_append_right _ ((show _ ∈ my_158_2 from List.mem_of_getElem? (i := 2) rfl))))
theorem cd_158_249 : mt_cd 158 249 = some (.ifCond .lt 21) := mt_cd_of (q := (249, .ifCond .lt 21, 3)) mq_158 ci_158 (List.mem_append_right _ (List.mem_append_right _ ((show _ ∈ my_158_2 from List.mem_of_getElem? (i := 3) rfl))))
theorem cd_158_252 : mt_cd 158 252 = some (.aload_n 0) := mt_cd_of (q := (252, .aload_n 0, 1)) mq_158 ci_158 (List.mem_append_right _ (List.mem_append_right _ ((show _ ∈ my_158_2 from List.mem_of_getElem? (i := 4) rfl))))
theorem cd_158_253 : mt_cd 158 253 = some (.getfield 98) := mt_cd_of (q := (253, .getfield 98, 3)) mq_158 ci_158 (List.mem_append_right _ (List.mem_append_right _ ((show _ ∈ my_158_2 from List.mem_of_getElem? (i := 5) rfl))))
theorem cd_158_256 : mt_cd 158 256 = some (.iload_n 1) := mt_cd_of (q := (256, .iload_n 1, 1)) mq_158 ci_158 (List.mem_append_right _ (List.mem_append_right _ ((show _ ∈ my_158_2 from List.mem_of_getElem? (i := 6) rfl))))
theorem cd_158_257 : mt_cd 158 257 = some (.aload_n 0) := mt_cd_of (q := (257, .aload_n 0, 1)) mq_158 ci_158 (List.mem_append_right _ (List.mem_append_right _ ((show _ ∈ my_158_2 from List.mem_of_getElem? (i := 7) rfl))))
theorem cd_158_258 : mt_cd 158 258 = some (.invokevirtual 355) := mt_cd_of (q := (258, .invokevirtual 355, 3)) mq_158 ci_158 (List.mem_append_right _ (List.mem_append_right _ ((show _ ∈ my_158_2 from List.mem_of_getElem? (i := 8) rfl))))
theorem cd_158_261 : mt_cd 158 261 = some (.dup_x2) := mt_cd_of (q := (261, .dup_x2, 1)) mq_158 ci_158 (List.mem_append_right _ (List.mem_append_right _ ((show _ ∈ my_158_2 from List.mem_of_getElem? (i := 9) rfl))))
theorem cd_158_262 : mt_cd 158 262 = some (.iastore) := mt_cd_of (q := (262, .iastore, 1)) mq_158 ci_158 (List.mem_append_right _ (List.mem_append_right _ ((show _ ∈ my_158_2 from List.mem_of_getElem? (i := 10) rfl))))
theorem cd_158_263 : mt_cd 158 263 = some (.ifCond .lt 7) := mt_cd_of (q := (263, .ifCond .lt 7, 3)) mq_158 ci_158 (List.mem_append_right _ (List.mem_append_right _ ((show _ ∈ my_158_2 from List.mem_of_getElem? (i := 11) rfl))))
theorem cd_158_266 : mt_cd 158 266 = some (.iconst 1) := mt_cd_of (q := (266, .iconst 1, 1)) mq_158 ci_158 (List.mem_append_right _ (List.mem_append_right _ ((show _ ∈ my_158_2 from List.mem_of_getElem? (i := 12) rfl))))
theorem cd_158_267 : mt_cd 158 267 = some (.goto 4) := mt_cd_of (q := (267, .goto 4, 3)) mq_158 ci_158 (List.mem_append_right _ (List.mem_append_right _ ((show _ ∈ my_158_2 from List.mem_of_getElem? (i := 13) rfl))))
theorem cd_158_270 : mt_cd 158 270 = some (.iconst 0) := mt_cd_of (q := (270, .iconst 0, 1)) mq_158 ci_158 (List.mem_append_right _ (List.mem_append_right _ ((show _ ∈ my_158_2 from List.mem_of_getElem? (i := 14) rfl))))
theorem cd_158_271 : mt_cd 158 271 = some (.ireturn) := mt_cd_of (q := (271, .ireturn, 1)) mq_158 ci_158 (List.mem_append_right _ (List.mem_append_right _ ((show _ ∈ my_158_2 from List.mem_of_getElem? (i := 15) rfl))))
theorem cd_158_272 : mt_cd 158 272 = some (.aload_n 0) := mt_cd_of (q := (272, .aload_n 0, 1)) mq_158 ci_158 (List.mem_append_right _ (List.mem_append_right _ ((show _ ∈ my_158_2 from List.mem_of_getElem? (i := 16) rfl))))
theorem cd_158_273 : mt_cd 158 273 = some (.getfield 89) := mt_cd_of (q := (273, .getfield 89, 3)) mq_158 ci_158 (List.mem_append_right _ (List.mem_append_right _ ((show _ ∈ my_158_2 from List.mem_of_getElem? (i := 17) rfl))))
theorem cd_158_276 : mt_cd 158 276 = some (.iload_n 1) := mt_cd_of (q := (276, .iload_n 1, 1)) mq_158 ci_158 (List.mem_append_right _ (List.mem_append_right _ ((show _ ∈ my_158_2 from List.mem_of_getElem? (i := 18) rfl))))
theorem cd_158_277 : mt_cd 158 277 = some (.aload_n 0) := mt_cd_of (q := (277, .aload_n 0, 1)) mq_158 ci_158 (List.mem_append_right _ (List.mem_append_right _ ((show _ ∈ my_158_2 from List.mem_of_getElem? (i := 19) rfl))))
theorem cd_158_278 : mt_cd 158 278 = some (.invokevirtual 401) := mt_cd_of (q := (278, .invokevirtual 401, 3)) mq_158 ci_158 (List.mem_append_right _ (List.mem_append_right _ ((show _ ∈ my_158_2 from List.mem_of_getElem? (i := 20) rfl))))
theorem cd_158_281 : mt_cd 158 281 = some (.dup_x2) := mt_cd_of (q := (281, .dup_x2, 1)) mq_158 ci_158 (List.mem_append_right _ (List.mem_append_right _ ((show _ ∈ my_158_2 from List.mem_of_getElem? (i := 21) rfl))))
theorem cd_158_282 : mt_cd 158 282 = some (.iastore) := mt_cd_of (q := (282, .iastore, 1)) mq_158 ci_158 (List.mem_append_right _ (List.mem_append_right _ ((show _ ∈ my_158_2 from List.mem_of_getElem? (i := 22) rfl))))
theorem cd_158_283 : mt_cd 158 283 = some (.ifCond .lt 21) := mt_cd_of (q := (283, .ifCond .lt 21, 3)) mq_158 ci_158 (List.mem_append_right _ (List.mem_append_right _ ((show _ ∈ my_158_2 from List.mem_of_getElem? (i := 23) rfl))))
theorem cd_158_286 : mt_cd 158 286 = some (.aload_n 0) := mt_cd_of (q := (286, .aload_n 0, 1)) mq_158 ci_158 (List.mem_append_right _ (List.mem_append_right _ ((show _ ∈ my_158_2 from List.mem_of_getElem? (i := 24) rfl))))
theorem cd_158_287 : mt_cd 158 287 = some (.getfield 98) := mt_cd_of (q := (287, .getfield 98, 3)) mq_158 ci_158 (List.mem_append_right _ (List.mem_append_right _ ((show _ ∈ my_158_2 from List.mem_of_getElem? (i := 25) rfl))))
theorem cd_158_290 : mt_cd 158 290 = some (.iload_n 1) := mt_cd_of (q := (290, .iload_n 1, 1)) mq_158 ci_158 (List.mem_append_right _ (List.mem_append_right _ ((show _ ∈ my_158_2 from List.mem_of_getElem? (i := 26) rfl))))
theorem cd_158_291 : mt_cd 158 291 = some (.aload_n 0) := mt_cd_of (q := (291, .aload_n 0, 1)) mq_158 ci_158 (List.mem_append_right _ (List.mem_append_right _ ((show _ ∈ my_158_2 from List.mem_of_getElem? (i := 27) rfl))))
theorem cd_158_292 : mt_cd 158 292 = some (.invokevirtual 355) := mt_cd_of (q := (292, .invokevirtual 355, 3)) mq_158 ci_158 (List.mem_append_right _ (List.mem_append_right _ ((show _ ∈ my_158_2 from List.mem_of_getElem? (i := 28) rfl))))
theorem cd_158_295 : mt_cd 158 295 = some (.dup_x2) := mt_cd_of (q := (295, .dup_x2, 1)) mq_158 ci_158 (List.mem_append_right _ (List.mem_append_right _ ((show _ ∈ my_158_2 from List.mem_of_getElem? (i := 29) rfl))))
theorem cd_158_296 : mt_cd 158 296 = some (.iastore) := mt_cd_of (q := (296, .iastore, 1)) mq_158 ci_158 (List.mem_append_right _ (List.mem_append_right _ ((show _ ∈ my_158_2 from List.mem_of_getElem? (i := 30) rfl))))
theorem cd_158_297 : mt_cd 158 297 = some (.ifCond .lt 7) := mt_cd_of (q := (297, .ifCond .lt 7, 3)) mq_158 ci_158 (List.mem_append_right _ (List.mem_append_right _ ((show _ ∈ my_158_2 from List.mem_of_getElem? (i := 31) rfl))))
theorem cd_158_300 : mt_cd 158 300 = some (.iconst 1) := mt_cd_of (q := (300, .iconst 1, 1)) mq_158 ci_158 (List.mem_append_right _ (List.mem_append_right _ ((show _ ∈ my_158_2 from List.mem_of_getElem? (i := 32) rfl))))
theorem cd_158_301 : mt_cd 158 301 = some (.goto 4) := mt_cd_of (q := (301, .goto 4, 3)) mq_158 ci_158 (List.mem_append_right _ (List.mem_append_right _ ((show _ ∈ my_158_2 from List.mem_of_getElem? (i := 33) rfl))))
theorem cd_158_304 : mt_cd 158 304 = some (.iconst 0) := mt_cd_of (q := (304, .iconst 0, 1)) mq_158 ci_158 (List.mem_append_right _ (List.mem_append_right _ ((show _ ∈ my_158_2 from List.mem_of_getElem? (i := 34) rfl))))
theorem cd_158_305 : mt_cd 158 305 = some (.ireturn) := mt_cd_of (q := (305, .ireturn, 1)) mq_158 ci_158 (List.mem_append_right _ (List.mem_append_right _ ((show _ ∈ my_158_2 from List.mem_of_getElem? (i := 35) rfl))))
theorem b_158_0 {d : Nat} {Q : (Option Value ⊕ Nat) → mi_H → Prop} (n sl : Nat) (f : Nat → mi_C) {l1 : Nat} {l2 : Int32} {fs3 : List Value} {x6 : Nat} (m8 i8 : Nat) (g8 : Nat → Int32) {t12 : Nat} (h4 : f l1 = .inr (12, fs3)) (h5 : l1 < n) (h7 : fs3[12]? = some (.ref x6)) (h9 : f x6 = .inl (0, m8, .inl g8)) (h10 : x6 < n ∨ x6 = mi_SC) (h11 : mi_ix l2 m8 i8) (h13 : mi_ts 6 266 0 5 #[38, 40, 266, 164, 212, 218] ((g8 i8) : Int32).toInt = some t12) (h14 : mi_W d 158 t12 [some (.ref l1), some (.int l2)] [] (n, sl, f) Q) : mi_W d 158 0 [some (.ref l1), some (.int l2)] [] (n, sl, f) Q := by
  refine w_aload_n cd_158_0 rfl ?_
  refine w_getfield cd_158_1 (show mt_f 12 77 = some (12, 12) by decide +kernel) h4 h5 h7 ?_
  refine w_iload_n cd_158_4 rfl ?_
  refine w_iaload cd_158_5 h9 h10 h11 ?_
  exact w_tableswitch cd_158_6 h13 h14
theorem b_158_44 {d : Nat} {Q : (Option Value ⊕ Nat) → mi_H → Prop} (n sl : Nat) (f : Nat → mi_C) {l1 : Nat} {l2 : Int32} (h3 : Q (.inl (some (.int 1))) (n, sl, f)) : mi_W d 158 44 [some (.ref l1), some (.int l2)] [] (n, sl, f) Q := by
  refine w_iconst (v := 1) cd_158_44 (by decide) ?_
  exact w_ireturn_z cd_158_45 (by decide +kernel) (by decide) h3
theorem b_158_46 {d : Nat} {Q : (Option Value ⊕ Nat) → mi_H → Prop} (n sl : Nat) (f : Nat → mi_C) {l1 : Nat} {l2 : Int32} {fs3 : List Value} {x6 : Nat} {fs8 : List Value} (h4 : f l1 = .inr (12, fs3)) (h5 : l1 < n) (h7 : fs3[13]? = some (.ref x6)) (h9 : f l1 = .inr (12, fs8)) (h10 : l1 < n) (h11 : mi_W d 159 0 (mi_en 2 [.ref l1]) [] (n, sl, f) (mi_Kc d 158 52 [some (.ref l1), some (.int l2)] [.int l2, .ref x6] Q)) : mi_W (d + 1) 158 46 [some (.ref l1), some (.int l2)] [] (n, sl, f) Q := by
  refine w_aload_n cd_158_46 rfl ?_
  refine w_getfield cd_158_47 (show mt_f 12 80 = some (12, 13) by decide +kernel) h4 h5 h7 ?_
  refine w_iload_n cd_158_50 rfl ?_
  refine w_aload_n cd_158_51 rfl ?_
  exact w_invokevirtual cd_158_52 (show mt_m 12 370 = some (159, 0) by decide +kernel) (rest := [.int l2, .ref x6]) rfl (as := [.ref l1]) rfl h9 (Or.inl h10) ⟨Nat.le_of_ble_eq_true rfl, Nat.le_of_ble_eq_true rfl, Nat.le_of_ble_eq_true rfl⟩ h11
theorem b_158_55 {d : Nat} {Q : (Option Value ⊕ Nat) → mi_H → Prop} (n sl : Nat) (f : Nat → mi_C) {l1 : Nat} {l2 : Int32} {s3 : Int32} {s4 : Int32} {s5 : Nat} (m6 i6 : Nat) (g6 : Nat → Int32) (h7 : f s5 = .inl (0, m6, .inl g6)) (h8 : s5 < n) (h9 : mi_ix s4 m6 i6) (h10 : (0 : Int32) ≤ s3 → mi_W d 158 62 [some (.ref l1), some (.int l2)] [] (n, sl, (va_up f s5 (.inl (0, m6, .inl (upd g6 i6 s3))))) Q) (h11 : ¬ ((0 : Int32) ≤ s3) → mi_W d 158 60 [some (.ref l1), some (.int l2)] [] (n, sl, (va_up f s5 (.inl (0, m6, .inl (upd g6 i6 s3))))) Q) : mi_W d 158 55 [some (.ref l1), some (.int l2)] [.int s3, .int s4, .ref s5] (n, sl, f) Q := by
  refine w_dup_x2_iir cd_158_55 ?_
  refine w_iastore cd_158_56 h7 h8 h9 ?_
  exact w_ifge cd_158_57 (by decide) h10 h11
theorem b_158_60 {d : Nat} {Q : (Option Value ⊕ Nat) → mi_H → Prop} (n sl : Nat) (f : Nat → mi_C) {l1 : Nat} {l2 : Int32} (h3 : Q (.inl (some (.int 0))) (n, sl, f)) : mi_W d 158 60 [some (.ref l1), some (.int l2)] [] (n, sl, f) Q := by
  refine w_iconst (v := 0) cd_158_60 (by decide) ?_
  exact w_ireturn_z cd_158_61 (by decide +kernel) (by decide) h3
theorem b_158_62 {d : Nat} {Q : (Option Value ⊕ Nat) → mi_H → Prop} (n sl : Nat) (f : Nat → mi_C) {l1 : Nat} {l2 : Int32} {fs3 : List Value} (h4 : f l1 = .inr (12, fs3)) (h5 : l1 < n) (h6 : mi_W d 156 0 (mi_en 2 [.ref l1, .ref (mi_SC + 1 + 2 * 19)]) [] (n, sl, f) (mi_Kc d 158 65 [some (.ref l1), some (.int l2)] [] Q)) : mi_W (d + 1) 158 62 [some (.ref l1), some (.int l2)] [] (n, sl, f) Q := by
  refine w_aload_n cd_158_62 rfl ?_
  refine w_ldc (n := 19) cd_158_63 (by decide +kernel) ?_
  exact w_invokevirtual cd_158_65 (show mt_m 12 387 = some (156, 0) by decide +kernel) (rest := []) rfl (as := [.ref l1, .ref (mi_SC + 1 + 2 * 19)]) rfl h4 (Or.inl h5) ⟨Nat.le_of_ble_eq_true rfl, Nat.le_of_ble_eq_true rfl, Nat.le_of_ble_eq_true rfl⟩ h6
theorem b_158_68 {d : Nat} {Q : (Option Value ⊕ Nat) → mi_H → Prop} (n sl : Nat) (f : Nat → mi_C) {l1 : Nat} {l2 : Int32} {s3 : Int32} (h4 : s3 = (0 : Int32) → mi_W d 158 78 [some (.ref l1), some (.int l2)] [] (n, sl, f) Q) (h5 : ¬ (s3 = (0 : Int32)) → mi_W d 158 71 [some (.ref l1), some (.int l2)] [] (n, sl, f) Q) : mi_W d 158 68 [some (.ref l1), some (.int l2)] [.int s3] (n, sl, f) Q := by
  exact w_ifeq cd_158_68 (by decide) h4 h5
theorem b_158_71 {d : Nat} {Q : (Option Value ⊕ Nat) → mi_H → Prop} (n sl : Nat) (f : Nat → mi_C) {l1 : Nat} {l2 : Int32} {fs3 : List Value} {x6 : Nat} (m8 i8 : Nat) (g8 : Nat → Int32) (h4 : f l1 = .inr (12, fs3)) (h5 : l1 < n) (h7 : fs3[12]? = some (.ref x6)) (h9 : f x6 = .inl (0, m8, .inl g8)) (h10 : x6 < n) (h11 : mi_ix l2 m8 i8) (h12 : mi_W d 158 78 [some (.ref l1), some (.int l2)] [] (n, sl, (va_up f x6 (.inl (0, m8, .inl (upd g8 i8 2))))) Q) : mi_W d 158 71 [some (.ref l1), some (.int l2)] [] (n, sl, f) Q := by
  refine w_aload_n cd_158_71 rfl ?_
  refine w_getfield cd_158_72 (show mt_f 12 77 = some (12, 12) by decide +kernel) h4 h5 h7 ?_
  refine w_iload_n cd_158_75 rfl ?_
  refine w_iconst (v := 2) cd_158_76 (by decide) ?_
  refine w_iastore cd_158_77 h9 h10 h11 ?_
  exact h12
theorem b_158_78 {d : Nat} {Q : (Option Value ⊕ Nat) → mi_H → Prop} (n sl : Nat) (f : Nat → mi_C) {l1 : Nat} {l2 : Int32} {fs3 : List Value} (h4 : f l1 = .inr (12, fs3)) (h5 : l1 < n) (h6 : mi_W d 156 0 (mi_en 2 [.ref l1, .ref (mi_SC + 1 + 2 * 18)]) [] (n, sl, f) (mi_Kc d 158 82 [some (.ref l1), some (.int l2)] [.ref l1] Q)) : mi_W (d + 1) 158 78 [some (.ref l1), some (.int l2)] [] (n, sl, f) Q := by
  refine w_aload_n cd_158_78 rfl ?_
  refine w_aload_n cd_158_79 rfl ?_
  refine w_ldc (n := 18) cd_158_80 (by decide +kernel) ?_
  exact w_invokevirtual cd_158_82 (show mt_m 12 387 = some (156, 0) by decide +kernel) (rest := [.ref l1]) rfl (as := [.ref l1, .ref (mi_SC + 1 + 2 * 18)]) rfl h4 (Or.inl h5) ⟨Nat.le_of_ble_eq_true rfl, Nat.le_of_ble_eq_true rfl, Nat.le_of_ble_eq_true rfl⟩ h6
theorem b_158_85 {d : Nat} {Q : (Option Value ⊕ Nat) → mi_H → Prop} (n sl : Nat) (f : Nat → mi_C) {l1 : Nat} {l2 : Int32} {s3 : Int32} {s4 : Nat} (h5 : ¬ s3 = (0 : Int32) → mi_W d 158 97 [some (.ref l1), some (.int l2)] [.ref s4] (n, sl, f) Q) (h6 : ¬ (¬ s3 = (0 : Int32)) → mi_W d 158 88 [some (.ref l1), some (.int l2)] [.ref s4] (n, sl, f) Q) : mi_W d 158 85 [some (.ref l1), some (.int l2)] [.int s3, .ref s4] (n, sl, f) Q := by
  exact w_ifne cd_158_85 (by decide) h5 h6
theorem b_158_88 {d : Nat} {Q : (Option Value ⊕ Nat) → mi_H → Prop} (n sl : Nat) (f : Nat → mi_C) {l1 : Nat} {l2 : Int32} {s3 : Nat} {fs4 : List Value} (h5 : f l1 = .inr (12, fs4)) (h6 : l1 < n) (h7 : mi_W d 156 0 (mi_en 2 [.ref l1, .ref (mi_SC + 1 + 2 * 19)]) [] (n, sl, f) (mi_Kc d 158 91 [some (.ref l1), some (.int l2)] [.ref s3] Q)) : mi_W (d + 1) 158 88 [some (.ref l1), some (.int l2)] [.ref s3] (n, sl, f) Q := by
  refine w_aload_n cd_158_88 rfl ?_
  refine w_ldc (n := 19) cd_158_89 (by decide +kernel) ?_
  exact w_invokevirtual cd_158_91 (show mt_m 12 387 = some (156, 0) by decide +kernel) (rest := [.ref s3]) rfl (as := [.ref l1, .ref (mi_SC + 1 + 2 * 19)]) rfl h5 (Or.inl h6) ⟨Nat.le_of_ble_eq_true rfl, Nat.le_of_ble_eq_true rfl, Nat.le_of_ble_eq_true rfl⟩ h7
theorem b_158_94 {d : Nat} {Q : (Option Value ⊕ Nat) → mi_H → Prop} (n sl : Nat) (f : Nat → mi_C) {l1 : Nat} {l2 : Int32} {s3 : Int32} {s4 : Nat} (h5 : s3 = (0 : Int32) → mi_W d 158 101 [some (.ref l1), some (.int l2)] [.ref s4] (n, sl, f) Q) (h6 : ¬ (s3 = (0 : Int32)) → mi_W d 158 97 [some (.ref l1), some (.int l2)] [.ref s4] (n, sl, f) Q) : mi_W d 158 94 [some (.ref l1), some (.int l2)] [.int s3, .ref s4] (n, sl, f) Q := by
  exact w_ifeq cd_158_94 (by decide) h5 h6
theorem b_158_97 {d : Nat} {Q : (Option Value ⊕ Nat) → mi_H → Prop} (n sl : Nat) (f : Nat → mi_C) {l1 : Nat} {l2 : Int32} {s3 : Nat} (h4 : mi_W d 158 102 [some (.ref l1), some (.int l2)] [.int 1, .ref s3] (n, sl, f) Q) : mi_W d 158 97 [some (.ref l1), some (.int l2)] [.ref s3] (n, sl, f) Q := by
  refine w_iconst (v := 1) cd_158_97 (by decide) ?_
  exact w_goto cd_158_98 (by decide) h4
theorem b_158_101 {d : Nat} {Q : (Option Value ⊕ Nat) → mi_H → Prop} (n sl : Nat) (f : Nat → mi_C) {l1 : Nat} {l2 : Int32} {s3 : Nat} (h4 : mi_W d 158 102 [some (.ref l1), some (.int l2)] [.int 0, .ref s3] (n, sl, f) Q) : mi_W d 158 101 [some (.ref l1), some (.int l2)] [.ref s3] (n, sl, f) Q := by
  refine w_iconst (v := 0) cd_158_101 (by decide) ?_
  exact h4
theorem b_158_102 {d : Nat} {Q : (Option Value ⊕ Nat) → mi_H → Prop} (n sl : Nat) (f : Nat → mi_C) {l1 : Nat} {l2 : Int32} {s3 : Int32} {s4 : Nat} {fs5 : List Value} (h6 : f s4 = .inr (12, fs5)) (h7 : s4 < n) (h8 : mi_W d 155 0 (mi_en 2 [.ref s4, .int s3]) [] (n, sl, f) (mi_Kc d 158 102 [some (.ref l1), some (.int l2)] [] Q)) : mi_W (d + 1) 158 102 [some (.ref l1), some (.int l2)] [.int s3, .ref s4] (n, sl, f) Q := by
  exact w_invokevirtual cd_158_102 (show mt_m 12 383 = some (155, 0) by decide +kernel) (rest := []) rfl (as := [.ref s4, .int s3]) rfl h6 (Or.inl h7) ⟨Nat.le_of_ble_eq_true rfl, Nat.le_of_ble_eq_true rfl, Nat.le_of_ble_eq_true rfl⟩ h8
theorem b_158_105 {d : Nat} {Q : (Option Value ⊕ Nat) → mi_H → Prop} (n sl : Nat) (f : Nat → mi_C) {l1 : Nat} {l2 : Int32} {s3 : Int32} (h4 : s3 = (0 : Int32) → mi_W d 158 168 [some (.ref l1), some (.int l2)] [] (n, sl, f) Q) (h5 : ¬ (s3 = (0 : Int32)) → mi_W d 158 108 [some (.ref l1), some (.int l2)] [] (n, sl, f) Q) : mi_W d 158 105 [some (.ref l1), some (.int l2)] [.int s3] (n, sl, f) Q := by
  exact w_ifeq cd_158_105 (by decide) h4 h5
theorem b_158_108 {d : Nat} {Q : (Option Value ⊕ Nat) → mi_H → Prop} (n sl : Nat) (f : Nat → mi_C) {l1 : Nat} {l2 : Int32} {fs3 : List Value} {x6 : Nat} {fs8 : List Value} (h4 : f l1 = .inr (12, fs3)) (h5 : l1 < n) (h7 : fs3[14]? = some (.ref x6)) (h9 : f l1 = .inr (12, fs8)) (h10 : l1 < n) (h11 : mi_W d 159 0 (mi_en 2 [.ref l1]) [] (n, sl, f) (mi_Kc d 158 114 [some (.ref l1), some (.int l2)] [.int l2, .ref x6] Q)) : mi_W (d + 1) 158 108 [some (.ref l1), some (.int l2)] [] (n, sl, f) Q := by
  refine w_aload_n cd_158_108 rfl ?_
  refine w_getfield cd_158_109 (show mt_f 12 83 = some (12, 14) by decide +kernel) h4 h5 h7 ?_
  refine w_iload_n cd_158_112 rfl ?_
  refine w_aload_n cd_158_113 rfl ?_
  exact w_invokevirtual cd_158_114 (show mt_m 12 370 = some (159, 0) by decide +kernel) (rest := [.int l2, .ref x6]) rfl (as := [.ref l1]) rfl h9 (Or.inl h10) ⟨Nat.le_of_ble_eq_true rfl, Nat.le_of_ble_eq_true rfl, Nat.le_of_ble_eq_true rfl⟩ h11
theorem b_158_117 {d : Nat} {Q : (Option Value ⊕ Nat) → mi_H → Prop} (n sl : Nat) (f : Nat → mi_C) {l1 : Nat} {l2 : Int32} {s3 : Int32} {s4 : Int32} {s5 : Nat} (m6 i6 : Nat) (g6 : Nat → Int32) (h7 : f s5 = .inl (0, m6, .inl g6)) (h8 : s5 < n) (h9 : mi_ix s4 m6 i6) (h10 : s3 < (0 : Int32) → mi_W d 158 168 [some (.ref l1), some (.int l2)] [] (n, sl, (va_up f s5 (.inl (0, m6, .inl (upd g6 i6 s3))))) Q) (h11 : ¬ (s3 < (0 : Int32)) → mi_W d 158 122 [some (.ref l1), some (.int l2)] [] (n, sl, (va_up f s5 (.inl (0, m6, .inl (upd g6 i6 s3))))) Q) : mi_W d 158 117 [some (.ref l1), some (.int l2)] [.int s3, .int s4, .ref s5] (n, sl, f) Q := by
  refine w_dup_x2_iir cd_158_117 ?_
  refine w_iastore cd_158_118 h7 h8 h9 ?_
  exact w_iflt cd_158_119 (by decide) h10 h11
theorem b_158_122 {d : Nat} {Q : (Option Value ⊕ Nat) → mi_H → Prop} (n sl : Nat) (f : Nat → mi_C) {l1 : Nat} {l2 : Int32} {fs3 : List Value} {x6 : Nat} {fs8 : List Value} (h4 : f l1 = .inr (12, fs3)) (h5 : l1 < n) (h7 : fs3[15]? = some (.ref x6)) (h9 : f l1 = .inr (12, fs8)) (h10 : l1 < n) (h11 : mi_W d 162 0 (mi_en 2 [.ref l1]) [] (n, sl, f) (mi_Kc d 158 128 [some (.ref l1), some (.int l2)] [.int l2, .ref x6] Q)) : mi_W (d + 1) 158 122 [some (.ref l1), some (.int l2)] [] (n, sl, f) Q := by
  refine w_aload_n cd_158_122 rfl ?_
  refine w_getfield cd_158_123 (show mt_f 12 86 = some (12, 15) by decide +kernel) h4 h5 h7 ?_
  refine w_iload_n cd_158_126 rfl ?_
  refine w_aload_n cd_158_127 rfl ?_
  exact w_invokevirtual cd_158_128 (show mt_m 12 396 = some (162, 0) by decide +kernel) (rest := [.int l2, .ref x6]) rfl (as := [.ref l1]) rfl h9 (Or.inl h10) ⟨Nat.le_of_ble_eq_true rfl, Nat.le_of_ble_eq_true rfl, Nat.le_of_ble_eq_true rfl⟩ h11
theorem b_158_131 {d : Nat} {Q : (Option Value ⊕ Nat) → mi_H → Prop} (n sl : Nat) (f : Nat → mi_C) {l1 : Nat} {l2 : Int32} {s3 : Int32} {s4 : Int32} {s5 : Nat} (m6 i6 : Nat) (g6 : Nat → Int32) (h7 : f s5 = .inl (0, m6, .inl g6)) (h8 : s5 < n) (h9 : mi_ix s4 m6 i6) (h10 : s3 < (0 : Int32) → mi_W d 158 168 [some (.ref l1), some (.int l2)] [] (n, sl, (va_up f s5 (.inl (0, m6, .inl (upd g6 i6 s3))))) Q) (h11 : ¬ (s3 < (0 : Int32)) → mi_W d 158 136 [some (.ref l1), some (.int l2)] [] (n, sl, (va_up f s5 (.inl (0, m6, .inl (upd g6 i6 s3))))) Q) : mi_W d 158 131 [some (.ref l1), some (.int l2)] [.int s3, .int s4, .ref s5] (n, sl, f) Q := by
  refine w_dup_x2_iir cd_158_131 ?_
  refine w_iastore cd_158_132 h7 h8 h9 ?_
  exact w_iflt cd_158_133 (by decide) h10 h11
theorem b_158_136 {d : Nat} {Q : (Option Value ⊕ Nat) → mi_H → Prop} (n sl : Nat) (f : Nat → mi_C) {l1 : Nat} {l2 : Int32} {fs3 : List Value} {x6 : Nat} {fs8 : List Value} (h4 : f l1 = .inr (12, fs3)) (h5 : l1 < n) (h7 : fs3[16]? = some (.ref x6)) (h9 : f l1 = .inr (12, fs8)) (h10 : l1 < n) (h11 : mi_W d 163 0 (mi_en 4 [.ref l1]) [] (n, sl, f) (mi_Kc d 158 142 [some (.ref l1), some (.int l2)] [.int l2, .ref x6] Q)) : mi_W (d + 1) 158 136 [some (.ref l1), some (.int l2)] [] (n, sl, f) Q := by
  refine w_aload_n cd_158_136 rfl ?_
  refine w_getfield cd_158_137 (show mt_f 12 89 = some (12, 16) by decide +kernel) h4 h5 h7 ?_
  refine w_iload_n cd_158_140 rfl ?_
  refine w_aload_n cd_158_141 rfl ?_
  exact w_invokevirtual cd_158_142 (show mt_m 12 399 = some (163, 0) by decide +kernel) (rest := [.int l2, .ref x6]) rfl (as := [.ref l1]) rfl h9 (Or.inl h10) ⟨Nat.le_of_ble_eq_true rfl, Nat.le_of_ble_eq_true rfl, Nat.le_of_ble_eq_true rfl⟩ h11
theorem b_158_145 {d : Nat} {Q : (Option Value ⊕ Nat) → mi_H → Prop} (n sl : Nat) (f : Nat → mi_C) {l1 : Nat} {l2 : Int32} {s3 : Int32} {s4 : Int32} {s5 : Nat} (m6 i6 : Nat) (g6 : Nat → Int32) (h7 : f s5 = .inl (0, m6, .inl g6)) (h8 : s5 < n) (h9 : mi_ix s4 m6 i6) (h10 : s3 < (0 : Int32) → mi_W d 158 168 [some (.ref l1), some (.int l2)] [] (n, sl, (va_up f s5 (.inl (0, m6, .inl (upd g6 i6 s3))))) Q) (h11 : ¬ (s3 < (0 : Int32)) → mi_W d 158 150 [some (.ref l1), some (.int l2)] [] (n, sl, (va_up f s5 (.inl (0, m6, .inl (upd g6 i6 s3))))) Q) : mi_W d 158 145 [some (.ref l1), some (.int l2)] [.int s3, .int s4, .ref s5] (n, sl, f) Q := by
  refine w_dup_x2_iir cd_158_145 ?_
  refine w_iastore cd_158_146 h7 h8 h9 ?_
  exact w_iflt cd_158_147 (by decide) h10 h11
theorem b_158_150 {d : Nat} {Q : (Option Value ⊕ Nat) → mi_H → Prop} (n sl : Nat) (f : Nat → mi_C) {l1 : Nat} {l2 : Int32} {fs3 : List Value} {x6 : Nat} {fs8 : List Value} (h4 : f l1 = .inr (12, fs3)) (h5 : l1 < n) (h7 : fs3[19]? = some (.ref x6)) (h9 : f l1 = .inr (12, fs8)) (h10 : l1 < n) (h11 : mi_W d 152 0 (mi_en 4 [.ref l1]) [] (n, sl, f) (mi_Kc d 158 156 [some (.ref l1), some (.int l2)] [.int l2, .ref x6] Q)) : mi_W (d + 1) 158 150 [some (.ref l1), some (.int l2)] [] (n, sl, f) Q := by
  refine w_aload_n cd_158_150 rfl ?_
  refine w_getfield cd_158_151 (show mt_f 12 98 = some (12, 19) by decide +kernel) h4 h5 h7 ?_
  refine w_iload_n cd_158_154 rfl ?_
  refine w_aload_n cd_158_155 rfl ?_
  exact w_invokevirtual cd_158_156 (show mt_m 12 355 = some (152, 0) by decide +kernel) (rest := [.int l2, .ref x6]) rfl (as := [.ref l1]) rfl h9 (Or.inl h10) ⟨Nat.le_of_ble_eq_true rfl, Nat.le_of_ble_eq_true rfl, Nat.le_of_ble_eq_true rfl⟩ h11
theorem b_158_159 {d : Nat} {Q : (Option Value ⊕ Nat) → mi_H → Prop} (n sl : Nat) (f : Nat → mi_C) {l1 : Nat} {l2 : Int32} {s3 : Int32} {s4 : Int32} {s5 : Nat} (m6 i6 : Nat) (g6 : Nat → Int32) (h7 : f s5 = .inl (0, m6, .inl g6)) (h8 : s5 < n) (h9 : mi_ix s4 m6 i6) (h10 : s3 < (0 : Int32) → mi_W d 158 168 [some (.ref l1), some (.int l2)] [] (n, sl, (va_up f s5 (.inl (0, m6, .inl (upd g6 i6 s3))))) Q) (h11 : ¬ (s3 < (0 : Int32)) → mi_W d 158 164 [some (.ref l1), some (.int l2)] [] (n, sl, (va_up f s5 (.inl (0, m6, .inl (upd g6 i6 s3))))) Q) : mi_W d 158 159 [some (.ref l1), some (.int l2)] [.int s3, .int s4, .ref s5] (n, sl, f) Q := by
  refine w_dup_x2_iir cd_158_159 ?_
  refine w_iastore cd_158_160 h7 h8 h9 ?_
  exact w_iflt cd_158_161 (by decide) h10 h11
theorem b_158_164 {d : Nat} {Q : (Option Value ⊕ Nat) → mi_H → Prop} (n sl : Nat) (f : Nat → mi_C) {l1 : Nat} {l2 : Int32} (h3 : mi_W d 158 169 [some (.ref l1), some (.int l2)] [.int 1] (n, sl, f) Q) : mi_W d 158 164 [some (.ref l1), some (.int l2)] [] (n, sl, f) Q := by
  refine w_iconst (v := 1) cd_158_164 (by decide) ?_
  exact w_goto cd_158_165 (by decide) h3
theorem b_158_168 {d : Nat} {Q : (Option Value ⊕ Nat) → mi_H → Prop} (n sl : Nat) (f : Nat → mi_C) {l1 : Nat} {l2 : Int32} (h3 : mi_W d 158 169 [some (.ref l1), some (.int l2)] [.int 0] (n, sl, f) Q) : mi_W d 158 168 [some (.ref l1), some (.int l2)] [] (n, sl, f) Q := by
  refine w_iconst (v := 0) cd_158_168 (by decide) ?_
  exact h3
theorem b_158_169 {d : Nat} {Q : (Option Value ⊕ Nat) → mi_H → Prop} (n sl : Nat) (f : Nat → mi_C) {l1 : Nat} {l2 : Int32} {s3 : Int32} (h4 : s3 = 0 ∨ s3 = 1) (h5 : Q (.inl (some (.int s3))) (n, sl, f)) : mi_W d 158 169 [some (.ref l1), some (.int l2)] [.int s3] (n, sl, f) Q := by
  exact w_ireturn_z cd_158_169 (by decide +kernel) h4 h5
theorem b_158_170 {d : Nat} {Q : (Option Value ⊕ Nat) → mi_H → Prop} (n sl : Nat) (f : Nat → mi_C) {l1 : Nat} {l2 : Int32} {fs3 : List Value} {x6 : Nat} {fs8 : List Value} (h4 : f l1 = .inr (12, fs3)) (h5 : l1 < n) (h7 : fs3[16]? = some (.ref x6)) (h9 : f l1 = .inr (12, fs8)) (h10 : l1 < n) (h11 : mi_W d 167 0 (mi_en 4 [.ref l1]) [] (n, sl, f) (mi_Kc d 158 176 [some (.ref l1), some (.int l2)] [.int l2, .ref x6] Q)) : mi_W (d + 1) 158 170 [some (.ref l1), some (.int l2)] [] (n, sl, f) Q := by
  refine w_aload_n cd_158_170 rfl ?_
  refine w_getfield cd_158_171 (show mt_f 12 89 = some (12, 16) by decide +kernel) h4 h5 h7 ?_
  refine w_iload_n cd_158_174 rfl ?_
  refine w_aload_n cd_158_175 rfl ?_
  exact w_invokevirtual cd_158_176 (show mt_m 12 401 = some (167, 0) by decide +kernel) (rest := [.int l2, .ref x6]) rfl (as := [.ref l1]) rfl h9 (Or.inl h10) ⟨Nat.le_of_ble_eq_true rfl, Nat.le_of_ble_eq_true rfl, Nat.le_of_ble_eq_true rfl⟩ h11
theorem b_158_179 {d : Nat} {Q : (Option Value ⊕ Nat) → mi_H → Prop} (n sl : Nat) (f : Nat → mi_C) {l1 : Nat} {l2 : Int32} {s3 : Int32} {s4 : Int32} {s5 : Nat} (m6 i6 : Nat) (g6 : Nat → Int32) (h7 : f s5 = .inl (0, m6, .inl g6)) (h8 : s5 < n) (h9 : mi_ix s4 m6 i6) (h10 : s3 < (0 : Int32) → mi_W d 158 216 [some (.ref l1), some (.int l2)] [] (n, sl, (va_up f s5 (.inl (0, m6, .inl (upd g6 i6 s3))))) Q) (h11 : ¬ (s3 < (0 : Int32)) → mi_W d 158 184 [some (.ref l1), some (.int l2)] [] (n, sl, (va_up f s5 (.inl (0, m6, .inl (upd g6 i6 s3))))) Q) : mi_W d 158 179 [some (.ref l1), some (.int l2)] [.int s3, .int s4, .ref s5] (n, sl, f) Q := by
  refine w_dup_x2_iir cd_158_179 ?_
  refine w_iastore cd_158_180 h7 h8 h9 ?_
  exact w_iflt cd_158_181 (by decide) h10 h11
theorem b_158_184 {d : Nat} {Q : (Option Value ⊕ Nat) → mi_H → Prop} (n sl : Nat) (f : Nat → mi_C) {l1 : Nat} {l2 : Int32} {fs3 : List Value} {x6 : Nat} {fs8 : List Value} (h4 : f l1 = .inr (12, fs3)) (h5 : l1 < n) (h7 : fs3[13]? = some (.ref x6)) (h9 : f l1 = .inr (12, fs8)) (h10 : l1 < n) (h11 : mi_W d 152 0 (mi_en 4 [.ref l1]) [] (n, sl, f) (mi_Kc d 158 190 [some (.ref l1), some (.int l2)] [.int l2, .ref x6] Q)) : mi_W (d + 1) 158 184 [some (.ref l1), some (.int l2)] [] (n, sl, f) Q := by
  refine w_aload_n cd_158_184 rfl ?_
  refine w_getfield cd_158_185 (show mt_f 12 80 = some (12, 13) by decide +kernel) h4 h5 h7 ?_
  refine w_iload_n cd_158_188 rfl ?_
  refine w_aload_n cd_158_189 rfl ?_
  exact w_invokevirtual cd_158_190 (show mt_m 12 355 = some (152, 0) by decide +kernel) (rest := [.int l2, .ref x6]) rfl (as := [.ref l1]) rfl h9 (Or.inl h10) ⟨Nat.le_of_ble_eq_true rfl, Nat.le_of_ble_eq_true rfl, Nat.le_of_ble_eq_true rfl⟩ h11
theorem b_158_193 {d : Nat} {Q : (Option Value ⊕ Nat) → mi_H → Prop} (n sl : Nat) (f : Nat → mi_C) {l1 : Nat} {l2 : Int32} {s3 : Int32} {s4 : Int32} {s5 : Nat} (m6 i6 : Nat) (g6 : Nat → Int32) (h7 : f s5 = .inl (0, m6, .inl g6)) (h8 : s5 < n) (h9 : mi_ix s4 m6 i6) (h10 : s3 < (0 : Int32) → mi_W d 158 216 [some (.ref l1), some (.int l2)] [] (n, sl, (va_up f s5 (.inl (0, m6, .inl (upd g6 i6 s3))))) Q) (h11 : ¬ (s3 < (0 : Int32)) → mi_W d 158 198 [some (.ref l1), some (.int l2)] [] (n, sl, (va_up f s5 (.inl (0, m6, .inl (upd g6 i6 s3))))) Q) : mi_W d 158 193 [some (.ref l1), some (.int l2)] [.int s3, .int s4, .ref s5] (n, sl, f) Q := by
  refine w_dup_x2_iir cd_158_193 ?_
  refine w_iastore cd_158_194 h7 h8 h9 ?_
  exact w_iflt cd_158_195 (by decide) h10 h11
theorem b_158_198 {d : Nat} {Q : (Option Value ⊕ Nat) → mi_H → Prop} (n sl : Nat) (f : Nat → mi_C) {l1 : Nat} {l2 : Int32} {fs3 : List Value} {x6 : Nat} {fs8 : List Value} (h4 : f l1 = .inr (12, fs3)) (h5 : l1 < n) (h7 : fs3[14]? = some (.ref x6)) (h9 : f l1 = .inr (12, fs8)) (h10 : l1 < n) (h11 : mi_W d 152 0 (mi_en 4 [.ref l1]) [] (n, sl, f) (mi_Kc d 158 204 [some (.ref l1), some (.int l2)] [.int l2, .ref x6] Q)) : mi_W (d + 1) 158 198 [some (.ref l1), some (.int l2)] [] (n, sl, f) Q := by
  refine w_aload_n cd_158_198 rfl ?_
  refine w_getfield cd_158_199 (show mt_f 12 83 = some (12, 14) by decide +kernel) h4 h5 h7 ?_
  refine w_iload_n cd_158_202 rfl ?_
  refine w_aload_n cd_158_203 rfl ?_
  exact w_invokevirtual cd_158_204 (show mt_m 12 355 = some (152, 0) by decide +kernel) (rest := [.int l2, .ref x6]) rfl (as := [.ref l1]) rfl h9 (Or.inl h10) ⟨Nat.le_of_ble_eq_true rfl, Nat.le_of_ble_eq_true rfl, Nat.le_of_ble_eq_true rfl⟩ h11
theorem b_158_207 {d : Nat} {Q : (Option Value ⊕ Nat) → mi_H → Prop} (n sl : Nat) (f : Nat → mi_C) {l1 : Nat} {l2 : Int32} {s3 : Int32} {s4 : Int32} {s5 : Nat} (m6 i6 : Nat) (g6 : Nat → Int32) (h7 : f s5 = .inl (0, m6, .inl g6)) (h8 : s5 < n) (h9 : mi_ix s4 m6 i6) (h10 : s3 < (0 : Int32) → mi_W d 158 216 [some (.ref l1), some (.int l2)] [] (n, sl, (va_up f s5 (.inl (0, m6, .inl (upd g6 i6 s3))))) Q) (h11 : ¬ (s3 < (0 : Int32)) → mi_W d 158 212 [some (.ref l1), some (.int l2)] [] (n, sl, (va_up f s5 (.inl (0, m6, .inl (upd g6 i6 s3))))) Q) : mi_W d 158 207 [some (.ref l1), some (.int l2)] [.int s3, .int s4, .ref s5] (n, sl, f) Q := by
  refine w_dup_x2_iir cd_158_207 ?_
  refine w_iastore cd_158_208 h7 h8 h9 ?_
  exact w_iflt cd_158_209 (by decide) h10 h11
theorem b_158_212 {d : Nat} {Q : (Option Value ⊕ Nat) → mi_H → Prop} (n sl : Nat) (f : Nat → mi_C) {l1 : Nat} {l2 : Int32} (h3 : mi_W d 158 217 [some (.ref l1), some (.int l2)] [.int 1] (n, sl, f) Q) : mi_W d 158 212 [some (.ref l1), some (.int l2)] [] (n, sl, f) Q := by
  refine w_iconst (v := 1) cd_158_212 (by decide) ?_
  exact w_goto cd_158_213 (by decide) h3
theorem b_158_216 {d : Nat} {Q : (Option Value ⊕ Nat) → mi_H → Prop} (n sl : Nat) (f : Nat → mi_C) {l1 : Nat} {l2 : Int32} (h3 : mi_W d 158 217 [some (.ref l1), some (.int l2)] [.int 0] (n, sl, f) Q) : mi_W d 158 216 [some (.ref l1), some (.int l2)] [] (n, sl, f) Q := by
  refine w_iconst (v := 0) cd_158_216 (by decide) ?_
  exact h3
theorem b_158_217 {d : Nat} {Q : (Option Value ⊕ Nat) → mi_H → Prop} (n sl : Nat) (f : Nat → mi_C) {l1 : Nat} {l2 : Int32} {s3 : Int32} (h4 : s3 = 0 ∨ s3 = 1) (h5 : Q (.inl (some (.int s3))) (n, sl, f)) : mi_W d 158 217 [some (.ref l1), some (.int l2)] [.int s3] (n, sl, f) Q := by
  exact w_ireturn_z cd_158_217 (by decide +kernel) h4 h5
theorem b_158_218 {d : Nat} {Q : (Option Value ⊕ Nat) → mi_H → Prop} (n sl : Nat) (f : Nat → mi_C) {l1 : Nat} {l2 : Int32} {fs3 : List Value} (h4 : f l1 = .inr (12, fs3)) (h5 : l1 < n) (h6 : mi_W d 168 0 (mi_en 6 [.ref l1, .int l2]) [] (n, sl, f) (mi_Kc d 158 220 [some (.ref l1), some (.int l2)] [] Q)) : mi_W (d + 1) 158 218 [some (.ref l1), some (.int l2)] [] (n, sl, f) Q := by
  refine w_aload_n cd_158_218 rfl ?_
  refine w_iload_n cd_158_219 rfl ?_
  exact w_invokevirtual cd_158_220 (show mt_m 12 404 = some (168, 0) by decide +kernel) (rest := []) rfl (as := [.ref l1, .int l2]) rfl h4 (Or.inl h5) ⟨Nat.le_of_ble_eq_true rfl, Nat.le_of_ble_eq_true rfl, Nat.le_of_ble_eq_true rfl⟩ h6
theorem b_158_223 {d : Nat} {Q : (Option Value ⊕ Nat) → mi_H → Prop} (n sl : Nat) (f : Nat → mi_C) {l1 : Nat} {l2 : Int32} {s3 : Int32} (h4 : s3 = 0 ∨ s3 = 1) (h5 : Q (.inl (some (.int s3))) (n, sl, f)) : mi_W d 158 223 [some (.ref l1), some (.int l2)] [.int s3] (n, sl, f) Q := by
  exact w_ireturn_z cd_158_223 (by decide +kernel) h4 h5
theorem b_158_224 {d : Nat} {Q : (Option Value ⊕ Nat) → mi_H → Prop} (n sl : Nat) (f : Nat → mi_C) {l1 : Nat} {l2 : Int32} {fs3 : List Value} {x6 : Nat} {fs8 : List Value} (h4 : f l1 = .inr (12, fs3)) (h5 : l1 < n) (h7 : fs3[13]? = some (.ref x6)) (h9 : f l1 = .inr (12, fs8)) (h10 : l1 < n) (h11 : mi_W d 166 0 (mi_en 2 [.ref l1]) [] (n, sl, f) (mi_Kc d 158 230 [some (.ref l1), some (.int l2)] [.int l2, .ref x6] Q)) : mi_W (d + 1) 158 224 [some (.ref l1), some (.int l2)] [] (n, sl, f) Q := by
  refine w_aload_n cd_158_224 rfl ?_
  refine w_getfield cd_158_225 (show mt_f 12 80 = some (12, 13) by decide +kernel) h4 h5 h7 ?_
  refine w_iload_n cd_158_228 rfl ?_
  refine w_aload_n cd_158_229 rfl ?_
  exact w_invokevirtual cd_158_230 (show mt_m 12 406 = some (166, 0) by decide +kernel) (rest := [.int l2, .ref x6]) rfl (as := [.ref l1]) rfl h9 (Or.inl h10) ⟨Nat.le_of_ble_eq_true rfl, Nat.le_of_ble_eq_true rfl, Nat.le_of_ble_eq_true rfl⟩ h11
theorem b_158_233 {d : Nat} {Q : (Option Value ⊕ Nat) → mi_H → Prop} (n sl : Nat) (f : Nat → mi_C) {l1 : Nat} {l2 : Int32} {s3 : Int32} {s4 : Int32} {s5 : Nat} (m6 i6 : Nat) (g6 : Nat → Int32) (h7 : f s5 = .inl (0, m6, .inl g6)) (h8 : s5 < n) (h9 : mi_ix s4 m6 i6) (h10 : s3 < (0 : Int32) → mi_W d 158 270 [some (.ref l1), some (.int l2)] [] (n, sl, (va_up f s5 (.inl (0, m6, .inl (upd g6 i6 s3))))) Q) (h11 : ¬ (s3 < (0 : Int32)) → mi_W d 158 238 [some (.ref l1), some (.int l2)] [] (n, sl, (va_up f s5 (.inl (0, m6, .inl (upd g6 i6 s3))))) Q) : mi_W d 158 233 [some (.ref l1), some (.int l2)] [.int s3, .int s4, .ref s5] (n, sl, f) Q := by
  refine w_dup_x2_iir cd_158_233 ?_
  refine w_iastore cd_158_234 h7 h8 h9 ?_
  exact w_iflt cd_158_235 (by decide) h10 h11
theorem b_158_238 {d : Nat} {Q : (Option Value ⊕ Nat) → mi_H → Prop} (n sl : Nat) (f : Nat → mi_C) {l1 : Nat} {l2 : Int32} {fs3 : List Value} {x6 : Nat} {fs8 : List Value} (h4 : f l1 = .inr (12, fs3)) (h5 : l1 < n) (h7 : fs3[16]? = some (.ref x6)) (h9 : f l1 = .inr (12, fs8)) (h10 : l1 < n) (h11 : mi_W d 163 0 (mi_en 4 [.ref l1]) [] (n, sl, f) (mi_Kc d 158 244 [some (.ref l1), some (.int l2)] [.int l2, .ref x6] Q)) : mi_W (d + 1) 158 238 [some (.ref l1), some (.int l2)] [] (n, sl, f) Q := by
  refine w_aload_n cd_158_238 rfl ?_
  refine w_getfield cd_158_239 (show mt_f 12 89 = some (12, 16) by decide +kernel) h4 h5 h7 ?_
  refine w_iload_n cd_158_242 rfl ?_
  refine w_aload_n cd_158_243 rfl ?_
  exact w_invokevirtual cd_158_244 (show mt_m 12 399 = some (163, 0) by decide +kernel) (rest := [.int l2, .ref x6]) rfl (as := [.ref l1]) rfl h9 (Or.inl h10) ⟨Nat.le_of_ble_eq_true rfl, Nat.le_of_ble_eq_true rfl, Nat.le_of_ble_eq_true rfl⟩ h11
theorem b_158_247 {d : Nat} {Q : (Option Value ⊕ Nat) → mi_H → Prop} (n sl : Nat) (f : Nat → mi_C) {l1 : Nat} {l2 : Int32} {s3 : Int32} {s4 : Int32} {s5 : Nat} (m6 i6 : Nat) (g6 : Nat → Int32) (h7 : f s5 = .inl (0, m6, .inl g6)) (h8 : s5 < n) (h9 : mi_ix s4 m6 i6) (h10 : s3 < (0 : Int32) → mi_W d 158 270 [some (.ref l1), some (.int l2)] [] (n, sl, (va_up f s5 (.inl (0, m6, .inl (upd g6 i6 s3))))) Q) (h11 : ¬ (s3 < (0 : Int32)) → mi_W d 158 252 [some (.ref l1), some (.int l2)] [] (n, sl, (va_up f s5 (.inl (0, m6, .inl (upd g6 i6 s3))))) Q) : mi_W d 158 247 [some (.ref l1), some (.int l2)] [.int s3, .int s4, .ref s5] (n, sl, f) Q := by
  refine w_dup_x2_iir cd_158_247 ?_
  refine w_iastore cd_158_248 h7 h8 h9 ?_
  exact w_iflt cd_158_249 (by decide) h10 h11
theorem b_158_252 {d : Nat} {Q : (Option Value ⊕ Nat) → mi_H → Prop} (n sl : Nat) (f : Nat → mi_C) {l1 : Nat} {l2 : Int32} {fs3 : List Value} {x6 : Nat} {fs8 : List Value} (h4 : f l1 = .inr (12, fs3)) (h5 : l1 < n) (h7 : fs3[19]? = some (.ref x6)) (h9 : f l1 = .inr (12, fs8)) (h10 : l1 < n) (h11 : mi_W d 152 0 (mi_en 4 [.ref l1]) [] (n, sl, f) (mi_Kc d 158 258 [some (.ref l1), some (.int l2)] [.int l2, .ref x6] Q)) : mi_W (d + 1) 158 252 [some (.ref l1), some (.int l2)] [] (n, sl, f) Q := by
  refine w_aload_n cd_158_252 rfl ?_
  refine w_getfield cd_158_253 (show mt_f 12 98 = some (12, 19) by decide +kernel) h4 h5 h7 ?_
  refine w_iload_n cd_158_256 rfl ?_
  refine w_aload_n cd_158_257 rfl ?_
  exact w_invokevirtual cd_158_258 (show mt_m 12 355 = some (152, 0) by decide +kernel) (rest := [.int l2, .ref x6]) rfl (as := [.ref l1]) rfl h9 (Or.inl h10) ⟨Nat.le_of_ble_eq_true rfl, Nat.le_of_ble_eq_true rfl, Nat.le_of_ble_eq_true rfl⟩ h11
theorem b_158_261 {d : Nat} {Q : (Option Value ⊕ Nat) → mi_H → Prop} (n sl : Nat) (f : Nat → mi_C) {l1 : Nat} {l2 : Int32} {s3 : Int32} {s4 : Int32} {s5 : Nat} (m6 i6 : Nat) (g6 : Nat → Int32) (h7 : f s5 = .inl (0, m6, .inl g6)) (h8 : s5 < n) (h9 : mi_ix s4 m6 i6) (h10 : s3 < (0 : Int32) → mi_W d 158 270 [some (.ref l1), some (.int l2)] [] (n, sl, (va_up f s5 (.inl (0, m6, .inl (upd g6 i6 s3))))) Q) (h11 : ¬ (s3 < (0 : Int32)) → mi_W d 158 266 [some (.ref l1), some (.int l2)] [] (n, sl, (va_up f s5 (.inl (0, m6, .inl (upd g6 i6 s3))))) Q) : mi_W d 158 261 [some (.ref l1), some (.int l2)] [.int s3, .int s4, .ref s5] (n, sl, f) Q := by
  refine w_dup_x2_iir cd_158_261 ?_
  refine w_iastore cd_158_262 h7 h8 h9 ?_
  exact w_iflt cd_158_263 (by decide) h10 h11
theorem b_158_266 {d : Nat} {Q : (Option Value ⊕ Nat) → mi_H → Prop} (n sl : Nat) (f : Nat → mi_C) {l1 : Nat} {l2 : Int32} (h3 : mi_W d 158 271 [some (.ref l1), some (.int l2)] [.int 1] (n, sl, f) Q) : mi_W d 158 266 [some (.ref l1), some (.int l2)] [] (n, sl, f) Q := by
  refine w_iconst (v := 1) cd_158_266 (by decide) ?_
  exact w_goto cd_158_267 (by decide) h3
theorem b_158_270 {d : Nat} {Q : (Option Value ⊕ Nat) → mi_H → Prop} (n sl : Nat) (f : Nat → mi_C) {l1 : Nat} {l2 : Int32} (h3 : mi_W d 158 271 [some (.ref l1), some (.int l2)] [.int 0] (n, sl, f) Q) : mi_W d 158 270 [some (.ref l1), some (.int l2)] [] (n, sl, f) Q := by
  refine w_iconst (v := 0) cd_158_270 (by decide) ?_
  exact h3
theorem b_158_271 {d : Nat} {Q : (Option Value ⊕ Nat) → mi_H → Prop} (n sl : Nat) (f : Nat → mi_C) {l1 : Nat} {l2 : Int32} {s3 : Int32} (h4 : s3 = 0 ∨ s3 = 1) (h5 : Q (.inl (some (.int s3))) (n, sl, f)) : mi_W d 158 271 [some (.ref l1), some (.int l2)] [.int s3] (n, sl, f) Q := by
  exact w_ireturn_z cd_158_271 (by decide +kernel) h4 h5
theorem b_158_272 {d : Nat} {Q : (Option Value ⊕ Nat) → mi_H → Prop} (n sl : Nat) (f : Nat → mi_C) {l1 : Nat} {l2 : Int32} {fs3 : List Value} {x6 : Nat} {fs8 : List Value} (h4 : f l1 = .inr (12, fs3)) (h5 : l1 < n) (h7 : fs3[16]? = some (.ref x6)) (h9 : f l1 = .inr (12, fs8)) (h10 : l1 < n) (h11 : mi_W d 167 0 (mi_en 4 [.ref l1]) [] (n, sl, f) (mi_Kc d 158 278 [some (.ref l1), some (.int l2)] [.int l2, .ref x6] Q)) : mi_W (d + 1) 158 272 [some (.ref l1), some (.int l2)] [] (n, sl, f) Q := by
  refine w_aload_n cd_158_272 rfl ?_
  refine w_getfield cd_158_273 (show mt_f 12 89 = some (12, 16) by decide +kernel) h4 h5 h7 ?_
  refine w_iload_n cd_158_276 rfl ?_
  refine w_aload_n cd_158_277 rfl ?_
  exact w_invokevirtual cd_158_278 (show mt_m 12 401 = some (167, 0) by decide +kernel) (rest := [.int l2, .ref x6]) rfl (as := [.ref l1]) rfl h9 (Or.inl h10) ⟨Nat.le_of_ble_eq_true rfl, Nat.le_of_ble_eq_true rfl, Nat.le_of_ble_eq_true rfl⟩ h11
theorem b_158_281 {d : Nat} {Q : (Option Value ⊕ Nat) → mi_H → Prop} (n sl : Nat) (f : Nat → mi_C) {l1 : Nat} {l2 : Int32} {s3 : Int32} {s4 : Int32} {s5 : Nat} (m6 i6 : Nat) (g6 : Nat → Int32) (h7 : f s5 = .inl (0, m6, .inl g6)) (h8 : s5 < n) (h9 : mi_ix s4 m6 i6) (h10 : s3 < (0 : Int32) → mi_W d 158 304 [some (.ref l1), some (.int l2)] [] (n, sl, (va_up f s5 (.inl (0, m6, .inl (upd g6 i6 s3))))) Q) (h11 : ¬ (s3 < (0 : Int32)) → mi_W d 158 286 [some (.ref l1), some (.int l2)] [] (n, sl, (va_up f s5 (.inl (0, m6, .inl (upd g6 i6 s3))))) Q) : mi_W d 158 281 [some (.ref l1), some (.int l2)] [.int s3, .int s4, .ref s5] (n, sl, f) Q := by
  refine w_dup_x2_iir cd_158_281 ?_
  refine w_iastore cd_158_282 h7 h8 h9 ?_
  exact w_iflt cd_158_283 (by decide) h10 h11
theorem b_158_286 {d : Nat} {Q : (Option Value ⊕ Nat) → mi_H → Prop} (n sl : Nat) (f : Nat → mi_C) {l1 : Nat} {l2 : Int32} {fs3 : List Value} {x6 : Nat} {fs8 : List Value} (h4 : f l1 = .inr (12, fs3)) (h5 : l1 < n) (h7 : fs3[19]? = some (.ref x6)) (h9 : f l1 = .inr (12, fs8)) (h10 : l1 < n) (h11 : mi_W d 152 0 (mi_en 4 [.ref l1]) [] (n, sl, f) (mi_Kc d 158 292 [some (.ref l1), some (.int l2)] [.int l2, .ref x6] Q)) : mi_W (d + 1) 158 286 [some (.ref l1), some (.int l2)] [] (n, sl, f) Q := by
  refine w_aload_n cd_158_286 rfl ?_
  refine w_getfield cd_158_287 (show mt_f 12 98 = some (12, 19) by decide +kernel) h4 h5 h7 ?_
  refine w_iload_n cd_158_290 rfl ?_
  refine w_aload_n cd_158_291 rfl ?_
  exact w_invokevirtual cd_158_292 (show mt_m 12 355 = some (152, 0) by decide +kernel) (rest := [.int l2, .ref x6]) rfl (as := [.ref l1]) rfl h9 (Or.inl h10) ⟨Nat.le_of_ble_eq_true rfl, Nat.le_of_ble_eq_true rfl, Nat.le_of_ble_eq_true rfl⟩ h11
theorem b_158_295 {d : Nat} {Q : (Option Value ⊕ Nat) → mi_H → Prop} (n sl : Nat) (f : Nat → mi_C) {l1 : Nat} {l2 : Int32} {s3 : Int32} {s4 : Int32} {s5 : Nat} (m6 i6 : Nat) (g6 : Nat → Int32) (h7 : f s5 = .inl (0, m6, .inl g6)) (h8 : s5 < n) (h9 : mi_ix s4 m6 i6) (h10 : s3 < (0 : Int32) → mi_W d 158 304 [some (.ref l1), some (.int l2)] [] (n, sl, (va_up f s5 (.inl (0, m6, .inl (upd g6 i6 s3))))) Q) (h11 : ¬ (s3 < (0 : Int32)) → mi_W d 158 300 [some (.ref l1), some (.int l2)] [] (n, sl, (va_up f s5 (.inl (0, m6, .inl (upd g6 i6 s3))))) Q) : mi_W d 158 295 [some (.ref l1), some (.int l2)] [.int s3, .int s4, .ref s5] (n, sl, f) Q := by
  refine w_dup_x2_iir cd_158_295 ?_
  refine w_iastore cd_158_296 h7 h8 h9 ?_
  exact w_iflt cd_158_297 (by decide) h10 h11
theorem b_158_300 {d : Nat} {Q : (Option Value ⊕ Nat) → mi_H → Prop} (n sl : Nat) (f : Nat → mi_C) {l1 : Nat} {l2 : Int32} (h3 : mi_W d 158 305 [some (.ref l1), some (.int l2)] [.int 1] (n, sl, f) Q) : mi_W d 158 300 [some (.ref l1), some (.int l2)] [] (n, sl, f) Q := by
  refine w_iconst (v := 1) cd_158_300 (by decide) ?_
  exact w_goto cd_158_301 (by decide) h3
theorem b_158_304 {d : Nat} {Q : (Option Value ⊕ Nat) → mi_H → Prop} (n sl : Nat) (f : Nat → mi_C) {l1 : Nat} {l2 : Int32} (h3 : mi_W d 158 305 [some (.ref l1), some (.int l2)] [.int 0] (n, sl, f) Q) : mi_W d 158 304 [some (.ref l1), some (.int l2)] [] (n, sl, f) Q := by
  refine w_iconst (v := 0) cd_158_304 (by decide) ?_
  exact h3
theorem b_158_305 {d : Nat} {Q : (Option Value ⊕ Nat) → mi_H → Prop} (n sl : Nat) (f : Nat → mi_C) {l1 : Nat} {l2 : Int32} {s3 : Int32} (h4 : s3 = 0 ∨ s3 = 1) (h5 : Q (.inl (some (.int s3))) (n, sl, f)) : mi_W d 158 305 [some (.ref l1), some (.int l2)] [.int s3] (n, sl, f) Q := by
  exact w_ireturn_z cd_158_305 (by decide +kernel) h4 h5
/-! MarloweHostModel.party()I -/
set_option maxRecDepth 100000 in
theorem mq_159 : mt_q 159 = my_159 := rfl
set_option maxRecDepth 100000 in
theorem ci_159 : mt_inc 0 my_159.cd = true := by decide +kernel
theorem cd_159_0 : mt_cd 159 0 = some (.aload_n 0) := mt_cd_of (q := (0, .aload_n 0, 1)) mq_159 ci_159 (List.mem_of_getElem? (i := 0) rfl)
theorem cd_159_1 : mt_cd 159 1 = some (.aload_n 0) := mt_cd_of (q := (1, .aload_n 0, 1)) mq_159 ci_159 (List.mem_of_getElem? (i := 1) rfl)
theorem cd_159_2 : mt_cd 159 2 = some (.getfield 111) := mt_cd_of (q := (2, .getfield 111, 3)) mq_159 ci_159 (List.mem_of_getElem? (i := 2) rfl)
theorem cd_159_5 : mt_cd 159 5 = some (.aload_n 0) := mt_cd_of (q := (5, .aload_n 0, 1)) mq_159 ci_159 (List.mem_of_getElem? (i := 3) rfl)
theorem cd_159_6 : mt_cd 159 6 = some (.getfield 114) := mt_cd_of (q := (6, .getfield 114, 3)) mq_159 ci_159 (List.mem_of_getElem? (i := 4) rfl)
theorem cd_159_9 : mt_cd 159 9 = some (.aload_n 0) := mt_cd_of (q := (9, .aload_n 0, 1)) mq_159 ci_159 (List.mem_of_getElem? (i := 5) rfl)
theorem cd_159_10 : mt_cd 159 10 = some (.getfield 343) := mt_cd_of (q := (10, .getfield 343, 3)) mq_159 ci_159 (List.mem_of_getElem? (i := 6) rfl)
theorem cd_159_13 : mt_cd 159 13 = some (.bipush 8) := mt_cd_of (q := (13, .bipush 8, 2)) mq_159 ci_159 (List.mem_of_getElem? (i := 7) rfl)
theorem cd_159_15 : mt_cd 159 15 = some (.invokevirtual 362) := mt_cd_of (q := (15, .invokevirtual 362, 3)) mq_159 ci_159 (List.mem_of_getElem? (i := 8) rfl)
theorem cd_159_18 : mt_cd 159 18 = some (.istore_n 1) := mt_cd_of (q := (18, .istore_n 1, 1)) mq_159 ci_159 (List.mem_of_getElem? (i := 9) rfl)
theorem cd_159_19 : mt_cd 159 19 = some (.iload_n 1) := mt_cd_of (q := (19, .iload_n 1, 1)) mq_159 ci_159 (List.mem_of_getElem? (i := 10) rfl)
theorem cd_159_20 : mt_cd 159 20 = some (.aload_n 0) := mt_cd_of (q := (20, .aload_n 0, 1)) mq_159 ci_159 (List.mem_of_getElem? (i := 11) rfl)
theorem cd_159_21 : mt_cd 159 21 = some (.getfield 343) := mt_cd_of (q := (21, .getfield 343, 3)) mq_159 ci_159 (List.mem_of_getElem? (i := 12) rfl)
theorem cd_159_24 : mt_cd 159 24 = some (.if_icmp .ne 13) := mt_cd_of (q := (24, .if_icmp .ne 13, 3)) mq_159 ci_159 (List.mem_of_getElem? (i := 13) rfl)
theorem cd_159_27 : mt_cd 159 27 = some (.aload_n 0) := mt_cd_of (q := (27, .aload_n 0, 1)) mq_159 ci_159 (List.mem_of_getElem? (i := 14) rfl)
theorem cd_159_28 : mt_cd 159 28 = some (.dup) := mt_cd_of (q := (28, .dup, 1)) mq_159 ci_159 (List.mem_of_getElem? (i := 15) rfl)
theorem cd_159_29 : mt_cd 159 29 = some (.getfield 343) := mt_cd_of (q := (29, .getfield 343, 3)) mq_159 ci_159 (List.mem_of_getElem? (i := 16) rfl)
theorem cd_159_32 : mt_cd 159 32 = some (.iconst 1) := mt_cd_of (q := (32, .iconst 1, 1)) mq_159 ci_159 (List.mem_of_getElem? (i := 17) rfl)
theorem cd_159_33 : mt_cd 159 33 = some (.iadd) := mt_cd_of (q := (33, .iadd, 1)) mq_159 ci_159 (List.mem_of_getElem? (i := 18) rfl)
theorem cd_159_34 : mt_cd 159 34 = some (.putfield 343) := mt_cd_of (q := (34, .putfield 343, 3)) mq_159 ci_159 (List.mem_of_getElem? (i := 19) rfl)
theorem cd_159_37 : mt_cd 159 37 = some (.iload_n 1) := mt_cd_of (q := (37, .iload_n 1, 1)) mq_159 ci_159 (List.mem_of_getElem? (i := 20) rfl)
theorem cd_159_38 : mt_cd 159 38 = some (.ireturn) := mt_cd_of (q := (38, .ireturn, 1)) mq_159 ci_159 (List.mem_of_getElem? (i := 21) rfl)
theorem b_159_0 {d : Nat} {Q : (Option Value ⊕ Nat) → mi_H → Prop} (n sl : Nat) (f : Nat → mi_C) {l1 : Nat} {o2 : Option Value} {fs3 : List Value} {x6 : Nat} {fs8 : List Value} {x11 : Nat} {fs13 : List Value} {x16 : Int32} {fs18 : List Value} (h4 : f l1 = .inr (12, fs3)) (h5 : l1 < n) (h7 : fs3[30]? = some (.ref x6)) (h9 : f l1 = .inr (12, fs8)) (h10 : l1 < n) (h12 : fs8[31]? = some (.ref x11)) (h14 : f l1 = .inr (12, fs13)) (h15 : l1 < n) (h17 : fs13[24]? = some (.int x16)) (h19 : f l1 = .inr (12, fs18)) (h20 : l1 < n) (h21 : mi_W d 160 0 (mi_en 6 [.ref l1, .ref x6, .ref x11, .int x16, .int 8]) [] (n, sl, f) (mi_Kc d 159 15 [some (.ref l1), o2] [] Q)) : mi_W (d + 1) 159 0 [some (.ref l1), o2] [] (n, sl, f) Q := by
  refine w_aload_n cd_159_0 rfl ?_
  refine w_aload_n cd_159_1 rfl ?_
  refine w_getfield cd_159_2 (show mt_f 12 111 = some (12, 30) by decide +kernel) h4 h5 h7 ?_
  refine w_aload_n cd_159_5 rfl ?_
  refine w_getfield cd_159_6 (show mt_f 12 114 = some (12, 31) by decide +kernel) h9 h10 h12 ?_
  refine w_aload_n cd_159_9 rfl ?_
  refine w_getfield cd_159_10 (show mt_f 12 343 = some (12, 24) by decide +kernel) h14 h15 h17 ?_
  refine w_bipush (v := 8) cd_159_13 (by decide) ?_
  exact w_invokevirtual cd_159_15 (show mt_m 12 362 = some (160, 0) by decide +kernel) (rest := []) rfl (as := [.ref l1, .ref x6, .ref x11, .int x16, .int 8]) rfl h19 (Or.inl h20) ⟨Nat.le_of_ble_eq_true rfl, Nat.le_of_ble_eq_true rfl, Nat.le_of_ble_eq_true rfl⟩ h21
theorem b_159_18 {d : Nat} {Q : (Option Value ⊕ Nat) → mi_H → Prop} (n sl : Nat) (f : Nat → mi_C) {l1 : Nat} {o2 : Option Value} {s3 : Int32} {fs4 : List Value} {x7 : Int32} (h5 : f l1 = .inr (12, fs4)) (h6 : l1 < n) (h8 : fs4[24]? = some (.int x7)) (h9 : ¬ s3 = x7 → mi_W d 159 37 [some (.ref l1), some (.int s3)] [] (n, sl, f) Q) (h10 : ¬ (¬ s3 = x7) → mi_W d 159 27 [some (.ref l1), some (.int s3)] [] (n, sl, f) Q) : mi_W d 159 18 [some (.ref l1), o2] [.int s3] (n, sl, f) Q := by
  refine w_istore_n (ls' := [some (.ref l1), some (.int s3)]) cd_159_18 (Nat.le_of_ble_eq_true rfl) rfl ?_
  refine w_iload_n cd_159_19 rfl ?_
  refine w_aload_n cd_159_20 rfl ?_
  refine w_getfield cd_159_21 (show mt_f 12 343 = some (12, 24) by decide +kernel) h5 h6 h8 ?_
  exact w_if_icmpne cd_159_24 (by decide) h9 h10
theorem b_159_27 {d : Nat} {Q : (Option Value ⊕ Nat) → mi_H → Prop} (n sl : Nat) (f : Nat → mi_C) {l1 : Nat} {l2 : Int32} {fs3 : List Value} {x6 : Int32} {fs8 : List Value} (h4 : f l1 = .inr (12, fs3)) (h5 : l1 < n) (h7 : fs3[24]? = some (.int x6)) (h9 : f l1 = .inr (12, fs8)) (h10 : l1 < n) (h11 : 24 < fs8.length) (h12 : mi_W d 159 37 [some (.ref l1), some (.int l2)] [] (n, sl, (va_up f l1 (.inr (12, fs8.set 24 (.int (x6 + 1)))))) Q) : mi_W d 159 27 [some (.ref l1), some (.int l2)] [] (n, sl, f) Q := by
  refine w_aload_n cd_159_27 rfl ?_
  refine w_dup_r cd_159_28 ?_
  refine w_getfield cd_159_29 (show mt_f 12 343 = some (12, 24) by decide +kernel) h4 h5 h7 ?_
  refine w_iconst (v := 1) cd_159_32 (by decide) ?_
  refine w_iadd cd_159_33 ?_
  refine w_putfield (w := .int (x6 + 1)) cd_159_34 (show mt_f 12 343 = some (12, 24) by decide +kernel) h9 h10 ⟨h11, rfl, Or.inl (by decide)⟩ ?_
  exact h12
theorem b_159_37 {d : Nat} {Q : (Option Value ⊕ Nat) → mi_H → Prop} (n sl : Nat) (f : Nat → mi_C) {l1 : Nat} {l2 : Int32} (h3 : Q (.inl (some (.int l2))) (n, sl, f)) : mi_W d 159 37 [some (.ref l1), some (.int l2)] [] (n, sl, f) Q := by
  refine w_iload_n cd_159_37 rfl ?_
  exact w_ireturn_i cd_159_38 (by decide +kernel) h3
/-! MarloweHostModel.named([I[III)I -/
set_option maxRecDepth 100000 in
theorem mq_160 : mt_q 160 = my_160 := rfl
set_option maxRecDepth 100000 in
theorem ci_160 : mt_inc 0 my_160.cd = true := by decide +kernel
theorem cd_160_0 : mt_cd 160 0 = some (.aload_n 0) := mt_cd_of (q := (0, .aload_n 0, 1)) mq_160 ci_160 (List.mem_of_getElem? (i := 0) rfl)
theorem cd_160_1 : mt_cd 160 1 = some (.getfield 310) := mt_cd_of (q := (1, .getfield 310, 3)) mq_160 ci_160 (List.mem_of_getElem? (i := 1) rfl)
theorem cd_160_4 : mt_cd 160 4 = some (.iconst 1) := mt_cd_of (q := (4, .iconst 1, 1)) mq_160 ci_160 (List.mem_of_getElem? (i := 2) rfl)
theorem cd_160_5 : mt_cd 160 5 = some (.if_icmp .eq 14) := mt_cd_of (q := (5, .if_icmp .eq 14, 3)) mq_160 ci_160 (List.mem_of_getElem? (i := 3) rfl)
theorem cd_160_8 : mt_cd 160 8 = some (.aload_n 0) := mt_cd_of (q := (8, .aload_n 0, 1)) mq_160 ci_160 (List.mem_of_getElem? (i := 4) rfl)
theorem cd_160_9 : mt_cd 160 9 = some (.aload_n 0) := mt_cd_of (q := (9, .aload_n 0, 1)) mq_160 ci_160 (List.mem_of_getElem? (i := 5) rfl)
theorem cd_160_10 : mt_cd 160 10 = some (.getfield 299) := mt_cd_of (q := (10, .getfield 299, 3)) mq_160 ci_160 (List.mem_of_getElem? (i := 6) rfl)
theorem cd_160_13 : mt_cd 160 13 = some (.invokevirtual 272) := mt_cd_of (q := (13, .invokevirtual 272, 3)) mq_160 ci_160 (List.mem_of_getElem? (i := 7) rfl)
theorem cd_160_16 : mt_cd 160 16 = some (.pop) := mt_cd_of (q := (16, .pop, 1)) mq_160 ci_160 (List.mem_of_getElem? (i := 8) rfl)
theorem cd_160_17 : mt_cd 160 17 = some (.iconst (-1)) := mt_cd_of (q := (17, .iconst (-1), 1)) mq_160 ci_160 (List.mem_of_getElem? (i := 9) rfl)
theorem cd_160_18 : mt_cd 160 18 = some (.ireturn) := mt_cd_of (q := (18, .ireturn, 1)) mq_160 ci_160 (List.mem_of_getElem? (i := 10) rfl)
theorem cd_160_19 : mt_cd 160 19 = some (.iconst 0) := mt_cd_of (q := (19, .iconst 0, 1)) mq_160 ci_160 (List.mem_of_getElem? (i := 11) rfl)
theorem cd_160_20 : mt_cd 160 20 = some (.istore 5) := mt_cd_of (q := (20, .istore 5, 2)) mq_160 ci_160 (List.mem_of_getElem? (i := 12) rfl)
theorem cd_160_22 : mt_cd 160 22 = some (.iload 5) := mt_cd_of (q := (22, .iload 5, 2)) mq_160 ci_160 (List.mem_of_getElem? (i := 13) rfl)
theorem cd_160_24 : mt_cd 160 24 = some (.iload_n 3) := mt_cd_of (q := (24, .iload_n 3, 1)) mq_160 ci_160 (List.mem_of_getElem? (i := 14) rfl)
theorem cd_160_25 : mt_cd 160 25 = some (.if_icmp .ge 24) := mt_cd_of (q := (25, .if_icmp .ge 24, 3)) mq_160 ci_160 (List.mem_of_getElem? (i := 15) rfl)
theorem cd_160_28 : mt_cd 160 28 = some (.aload_n 0) := mt_cd_of (q := (28, .aload_n 0, 1)) mq_160 ci_160 (List.mem_of_getElem? (i := 16) rfl)
theorem cd_160_29 : mt_cd 160 29 = some (.aload_n 1) := mt_cd_of (q := (29, .aload_n 1, 1)) mq_160 ci_160 (List.mem_of_getElem? (i := 17) rfl)
theorem cd_160_30 : mt_cd 160 30 = some (.iload 5) := mt_cd_of (q := (30, .iload 5, 2)) mq_160 ci_160 (List.mem_of_getElem? (i := 18) rfl)
theorem cd_160_32 : mt_cd 160 32 = some (.iaload) := mt_cd_of (q := (32, .iaload, 1)) mq_160 ci_160 (List.mem_of_getElem? (i := 19) rfl)
theorem cd_160_33 : mt_cd 160 33 = some (.aload_n 2) := mt_cd_of (q := (33, .aload_n 2, 1)) mq_160 ci_160 (List.mem_of_getElem? (i := 20) rfl)
theorem cd_160_34 : mt_cd 160 34 = some (.iload 5) := mt_cd_of (q := (34, .iload 5, 2)) mq_160 ci_160 (List.mem_of_getElem? (i := 21) rfl)
theorem cd_160_36 : mt_cd 160 36 = some (.iaload) := mt_cd_of (q := (36, .iaload, 1)) mq_160 ci_160 (List.mem_of_getElem? (i := 22) rfl)
theorem cd_160_37 : mt_cd 160 37 = some (.invokevirtual 358) := mt_cd_of (q := (37, .invokevirtual 358, 3)) mq_160 ci_160 (List.mem_of_getElem? (i := 23) rfl)
theorem cd_160_40 : mt_cd 160 40 = some (.ifCond .ne 9) := mt_cd_of (q := (40, .ifCond .ne 9, 3)) mq_160 ci_160 (List.mem_of_getElem? (i := 24) rfl)
theorem cd_160_43 : mt_cd 160 43 = some (.iinc 5 1) := mt_cd_of (q := (43, .iinc 5 1, 3)) mq_160 ci_160 (List.mem_of_getElem? (i := 25) rfl)
theorem cd_160_46 : mt_cd 160 46 = some (.goto (-24)) := mt_cd_of (q := (46, .goto (-24), 3)) mq_160 ci_160 (List.mem_of_getElem? (i := 26) rfl)
theorem cd_160_49 : mt_cd 160 49 = some (.iload 5) := mt_cd_of (q := (49, .iload 5, 2)) mq_160 ci_160 (List.mem_of_getElem? (i := 27) rfl)
theorem cd_160_51 : mt_cd 160 51 = some (.iload 4) := mt_cd_of (q := (51, .iload 4, 2)) mq_160 ci_160 (List.mem_of_getElem? (i := 28) rfl)
theorem cd_160_53 : mt_cd 160 53 = some (.if_icmp .ne 14) := mt_cd_of (q := (53, .if_icmp .ne 14, 3)) mq_160 ci_160 (List.mem_of_getElem? (i := 29) rfl)
theorem cd_160_56 : mt_cd 160 56 = some (.aload_n 0) := mt_cd_of (q := (56, .aload_n 0, 1)) mq_160 ci_160 (List.mem_of_getElem? (i := 30) rfl)
theorem cd_160_57 : mt_cd 160 57 = some (.aload_n 0) := mt_cd_of (q := (57, .aload_n 0, 1)) mq_160 ci_160 (List.mem_of_getElem? (i := 31) rfl)
theorem cd_160_58 : mt_cd 160 58 = some (.getfield 299) := mt_cd_of (q := (58, .getfield 299, 3)) mq_160 ci_160 (List.mem_of_getElem? (i := 32) rfl)
theorem cd_160_61 : mt_cd 160 61 = some (.invokevirtual 272) := mt_cd_of (q := (61, .invokevirtual 272, 3)) mq_160 ci_160 (List.mem_of_getElem? (i := 33) rfl)
theorem cd_160_64 : mt_cd 160 64 = some (.pop) := mt_cd_of (q := (64, .pop, 1)) mq_160 ci_160 (List.mem_of_getElem? (i := 34) rfl)
theorem cd_160_65 : mt_cd 160 65 = some (.iconst (-1)) := mt_cd_of (q := (65, .iconst (-1), 1)) mq_160 ci_160 (List.mem_of_getElem? (i := 35) rfl)
theorem cd_160_66 : mt_cd 160 66 = some (.ireturn) := mt_cd_of (q := (66, .ireturn, 1)) mq_160 ci_160 (List.mem_of_getElem? (i := 36) rfl)
theorem cd_160_67 : mt_cd 160 67 = some (.iload 5) := mt_cd_of (q := (67, .iload 5, 2)) mq_160 ci_160 (List.mem_of_getElem? (i := 37) rfl)
theorem cd_160_69 : mt_cd 160 69 = some (.iload_n 3) := mt_cd_of (q := (69, .iload_n 3, 1)) mq_160 ci_160 (List.mem_of_getElem? (i := 38) rfl)
theorem cd_160_70 : mt_cd 160 70 = some (.if_icmp .ne 24) := mt_cd_of (q := (70, .if_icmp .ne 24, 3)) mq_160 ci_160 (List.mem_of_getElem? (i := 39) rfl)
theorem cd_160_73 : mt_cd 160 73 = some (.aload_n 1) := mt_cd_of (q := (73, .aload_n 1, 1)) mq_160 ci_160 (List.mem_of_getElem? (i := 40) rfl)
theorem cd_160_74 : mt_cd 160 74 = some (.iload 5) := mt_cd_of (q := (74, .iload 5, 2)) mq_160 ci_160 (List.mem_of_getElem? (i := 41) rfl)
theorem cd_160_76 : mt_cd 160 76 = some (.aload_n 0) := mt_cd_of (q := (76, .aload_n 0, 1)) mq_160 ci_160 (List.mem_of_getElem? (i := 42) rfl)
theorem cd_160_77 : mt_cd 160 77 = some (.getfield 299) := mt_cd_of (q := (77, .getfield 299, 3)) mq_160 ci_160 (List.mem_of_getElem? (i := 43) rfl)
theorem cd_160_80 : mt_cd 160 80 = some (.iastore) := mt_cd_of (q := (80, .iastore, 1)) mq_160 ci_160 (List.mem_of_getElem? (i := 44) rfl)
theorem cd_160_81 : mt_cd 160 81 = some (.aload_n 2) := mt_cd_of (q := (81, .aload_n 2, 1)) mq_160 ci_160 (List.mem_of_getElem? (i := 45) rfl)
theorem cd_160_82 : mt_cd 160 82 = some (.iload 5) := mt_cd_of (q := (82, .iload 5, 2)) mq_160 ci_160 (List.mem_of_getElem? (i := 46) rfl)
theorem cd_160_84 : mt_cd 160 84 = some (.aload_n 0) := mt_cd_of (q := (84, .aload_n 0, 1)) mq_160 ci_160 (List.mem_of_getElem? (i := 47) rfl)
theorem cd_160_85 : mt_cd 160 85 = some (.getfield 297) := mt_cd_of (q := (85, .getfield 297, 3)) mq_160 ci_160 (List.mem_of_getElem? (i := 48) rfl)
theorem cd_160_88 : mt_cd 160 88 = some (.aload_n 0) := mt_cd_of (q := (88, .aload_n 0, 1)) mq_160 ci_160 (List.mem_of_getElem? (i := 49) rfl)
theorem cd_160_89 : mt_cd 160 89 = some (.getfield 299) := mt_cd_of (q := (89, .getfield 299, 3)) mq_160 ci_160 (List.mem_of_getElem? (i := 50) rfl)
theorem cd_160_92 : mt_cd 160 92 = some (.isub) := mt_cd_of (q := (92, .isub, 1)) mq_160 ci_160 (List.mem_of_getElem? (i := 51) rfl)
theorem cd_160_93 : mt_cd 160 93 = some (.iastore) := mt_cd_of (q := (93, .iastore, 1)) mq_160 ci_160 (List.mem_of_getElem? (i := 52) rfl)
theorem cd_160_94 : mt_cd 160 94 = some (.aload_n 0) := mt_cd_of (q := (94, .aload_n 0, 1)) mq_160 ci_160 (List.mem_of_getElem? (i := 53) rfl)
theorem cd_160_95 : mt_cd 160 95 = some (.invokevirtual 333) := mt_cd_of (q := (95, .invokevirtual 333, 3)) mq_160 ci_160 (List.mem_of_getElem? (i := 54) rfl)
theorem cd_160_98 : mt_cd 160 98 = some (.ifCond .eq 8) := mt_cd_of (q := (98, .ifCond .eq 8, 3)) mq_160 ci_160 (List.mem_of_getElem? (i := 55) rfl)
theorem cd_160_101 : mt_cd 160 101 = some (.iload 5) := mt_cd_of (q := (101, .iload 5, 2)) mq_160 ci_160 (List.mem_of_getElem? (i := 56) rfl)
theorem cd_160_103 : mt_cd 160 103 = some (.goto 4) := mt_cd_of (q := (103, .goto 4, 3)) mq_160 ci_160 (List.mem_of_getElem? (i := 57) rfl)
theorem cd_160_106 : mt_cd 160 106 = some (.iconst (-1)) := mt_cd_of (q := (106, .iconst (-1), 1)) mq_160 ci_160 (List.mem_of_getElem? (i := 58) rfl)
theorem cd_160_107 : mt_cd 160 107 = some (.ireturn) := mt_cd_of (q := (107, .ireturn, 1)) mq_160 ci_160 (List.mem_of_getElem? (i := 59) rfl)
theorem b_160_0 {d : Nat} {Q : (Option Value ⊕ Nat) → mi_H → Prop} (n sl : Nat) (f : Nat → mi_C) {l1 : Nat} {l2 : Nat} {l3 : Nat} {l4 : Int32} {l5 : Int32} {o6 : Option Value} {fs7 : List Value} {x10 : Int32} (h8 : f l1 = .inr (12, fs7)) (h9 : l1 < n) (h11 : fs7[8]? = some (.int x10)) (h12 : x10 = 1 → mi_W d 160 19 [some (.ref l1), some (.ref l2), some (.ref l3), some (.int l4), some (.int l5), o6] [] (n, sl, f) Q) (h13 : ¬ (x10 = 1) → mi_W d 160 8 [some (.ref l1), some (.ref l2), some (.ref l3), some (.int l4), some (.int l5), o6] [] (n, sl, f) Q) : mi_W d 160 0 [some (.ref l1), some (.ref l2), some (.ref l3), some (.int l4), some (.int l5), o6] [] (n, sl, f) Q := by
  refine w_aload_n cd_160_0 rfl ?_
  refine w_getfield cd_160_1 (show mt_f 12 310 = some (12, 8) by decide +kernel) h8 h9 h11 ?_
  refine w_iconst (v := 1) cd_160_4 (by decide) ?_
  exact w_if_icmpeq cd_160_5 (by decide) h12 h13
theorem b_160_8 {d : Nat} {Q : (Option Value ⊕ Nat) → mi_H → Prop} (n sl : Nat) (f : Nat → mi_C) {l1 : Nat} {l2 : Nat} {l3 : Nat} {l4 : Int32} {l5 : Int32} {o6 : Option Value} {fs7 : List Value} {x10 : Int32} {fs12 : List Value} (h8 : f l1 = .inr (12, fs7)) (h9 : l1 < n) (h11 : fs7[9]? = some (.int x10)) (h13 : f l1 = .inr (12, fs12)) (h14 : l1 < n) (h15 : mi_W d 143 0 (mi_en 2 [.ref l1, .int x10]) [] (n, sl, f) (mi_Kc d 160 13 [some (.ref l1), some (.ref l2), some (.ref l3), some (.int l4), some (.int l5), o6] [] Q)) : mi_W (d + 1) 160 8 [some (.ref l1), some (.ref l2), some (.ref l3), some (.int l4), some (.int l5), o6] [] (n, sl, f) Q := by
  refine w_aload_n cd_160_8 rfl ?_
  refine w_aload_n cd_160_9 rfl ?_
  refine w_getfield cd_160_10 (show mt_f 12 299 = some (12, 9) by decide +kernel) h8 h9 h11 ?_
  exact w_invokevirtual cd_160_13 (show mt_m 12 272 = some (143, 0) by decide +kernel) (rest := []) rfl (as := [.ref l1, .int x10]) rfl h13 (Or.inl h14) ⟨Nat.le_of_ble_eq_true rfl, Nat.le_of_ble_eq_true rfl, Nat.le_of_ble_eq_true rfl⟩ h15
theorem b_160_16 {d : Nat} {Q : (Option Value ⊕ Nat) → mi_H → Prop} (n sl : Nat) (f : Nat → mi_C) {l1 : Nat} {l2 : Nat} {l3 : Nat} {l4 : Int32} {l5 : Int32} {o6 : Option Value} {s7 : Int32} (h8 : Q (.inl (some (.int (-1)))) (n, sl, f)) : mi_W d 160 16 [some (.ref l1), some (.ref l2), some (.ref l3), some (.int l4), some (.int l5), o6] [.int s7] (n, sl, f) Q := by
  refine w_pop_i cd_160_16 ?_
  refine w_iconst (v := (-1)) cd_160_17 (by decide) ?_
  exact w_ireturn_i cd_160_18 (by decide +kernel) h8
theorem b_160_19 {d : Nat} {Q : (Option Value ⊕ Nat) → mi_H → Prop} (n sl : Nat) (f : Nat → mi_C) {l1 : Nat} {l2 : Nat} {l3 : Nat} {l4 : Int32} {l5 : Int32} {o6 : Option Value} (h7 : mi_W d 160 22 [some (.ref l1), some (.ref l2), some (.ref l3), some (.int l4), some (.int l5), some (.int 0)] [] (n, sl, f) Q) : mi_W d 160 19 [some (.ref l1), some (.ref l2), some (.ref l3), some (.int l4), some (.int l5), o6] [] (n, sl, f) Q := by
  refine w_iconst (v := 0) cd_160_19 (by decide) ?_
  refine w_istore (ls' := [some (.ref l1), some (.ref l2), some (.ref l3), some (.int l4), some (.int l5), some (.int 0)]) cd_160_20 (Nat.le_of_ble_eq_true rfl) rfl ?_
  exact h7
theorem b_160_22 {d : Nat} {Q : (Option Value ⊕ Nat) → mi_H → Prop} (n sl : Nat) (f : Nat → mi_C) {l1 : Nat} {l2 : Nat} {l3 : Nat} {l4 : Int32} {l5 : Int32} {l6 : Int32} (h7 : l4 ≤ l6 → mi_W d 160 49 [some (.ref l1), some (.ref l2), some (.ref l3), some (.int l4), some (.int l5), some (.int l6)] [] (n, sl, f) Q) (h8 : ¬ (l4 ≤ l6) → mi_W d 160 28 [some (.ref l1), some (.ref l2), some (.ref l3), some (.int l4), some (.int l5), some (.int l6)] [] (n, sl, f) Q) : mi_W d 160 22 [some (.ref l1), some (.ref l2), some (.ref l3), some (.int l4), some (.int l5), some (.int l6)] [] (n, sl, f) Q := by
  refine w_iload cd_160_22 rfl ?_
  refine w_iload_n cd_160_24 rfl ?_
  exact w_if_icmpge cd_160_25 (by decide) h7 h8
theorem b_160_28 {d : Nat} {Q : (Option Value ⊕ Nat) → mi_H → Prop} (n sl : Nat) (f : Nat → mi_C) {l1 : Nat} {l2 : Nat} {l3 : Nat} {l4 : Int32} {l5 : Int32} {l6 : Int32} (m7 i7 : Nat) (g7 : Nat → Int32) (m11 i11 : Nat) (g11 : Nat → Int32) {fs15 : List Value} (h8 : f l2 = .inl (0, m7, .inl g7)) (h9 : l2 < n ∨ l2 = mi_SC) (h10 : mi_ix l6 m7 i7) (h12 : f l3 = .inl (0, m11, .inl g11)) (h13 : l3 < n ∨ l3 = mi_SC) (h14 : mi_ix l6 m11 i11) (h16 : f l1 = .inr (12, fs15)) (h17 : l1 < n) (h18 : mi_W d 161 0 (mi_en 4 [.ref l1, .int (g7 i7), .int (g11 i11)]) [] (n, sl, f) (mi_Kc d 160 37 [some (.ref l1), some (.ref l2), some (.ref l3), some (.int l4), some (.int l5), some (.int l6)] [] Q)) : mi_W (d + 1) 160 28 [some (.ref l1), some (.ref l2), some (.ref l3), some (.int l4), some (.int l5), some (.int l6)] [] (n, sl, f) Q := by
  refine w_aload_n cd_160_28 rfl ?_
  refine w_aload_n cd_160_29 rfl ?_
  refine w_iload cd_160_30 rfl ?_
  refine w_iaload cd_160_32 h8 h9 h10 ?_
  refine w_aload_n cd_160_33 rfl ?_
  refine w_iload cd_160_34 rfl ?_
  refine w_iaload cd_160_36 h12 h13 h14 ?_
  exact w_invokevirtual cd_160_37 (show mt_m 12 358 = some (161, 0) by decide +kernel) (rest := []) rfl (as := [.ref l1, .int (g7 i7), .int (g11 i11)]) rfl h16 (Or.inl h17) ⟨Nat.le_of_ble_eq_true rfl, Nat.le_of_ble_eq_true rfl, Nat.le_of_ble_eq_true rfl⟩ h18
theorem b_160_40 {d : Nat} {Q : (Option Value ⊕ Nat) → mi_H → Prop} (n sl : Nat) (f : Nat → mi_C) {l1 : Nat} {l2 : Nat} {l3 : Nat} {l4 : Int32} {l5 : Int32} {l6 : Int32} {s7 : Int32} (h8 : ¬ s7 = (0 : Int32) → mi_W d 160 49 [some (.ref l1), some (.ref l2), some (.ref l3), some (.int l4), some (.int l5), some (.int l6)] [] (n, sl, f) Q) (h9 : ¬ (¬ s7 = (0 : Int32)) → mi_W d 160 43 [some (.ref l1), some (.ref l2), some (.ref l3), some (.int l4), some (.int l5), some (.int l6)] [] (n, sl, f) Q) : mi_W d 160 40 [some (.ref l1), some (.ref l2), some (.ref l3), some (.int l4), some (.int l5), some (.int l6)] [.int s7] (n, sl, f) Q := by
  exact w_ifne cd_160_40 (by decide) h8 h9
theorem b_160_43 {d : Nat} {Q : (Option Value ⊕ Nat) → mi_H → Prop} (n sl : Nat) (f : Nat → mi_C) {l1 : Nat} {l2 : Nat} {l3 : Nat} {l4 : Int32} {l5 : Int32} {l6 : Int32} (h7 : mi_W d 160 22 [some (.ref l1), some (.ref l2), some (.ref l3), some (.int l4), some (.int l5), some (.int (l6 + 1))] [] (n, sl, f) Q) : mi_W d 160 43 [some (.ref l1), some (.ref l2), some (.ref l3), some (.int l4), some (.int l5), some (.int l6)] [] (n, sl, f) Q := by
  refine w_iinc (v := 1) (ls' := [some (.ref l1), some (.ref l2), some (.ref l3), some (.int l4), some (.int l5), some (.int (l6 + 1))]) cd_160_43 rfl (by decide) rfl ?_
  exact w_goto cd_160_46 (by decide) h7
theorem b_160_49 {d : Nat} {Q : (Option Value ⊕ Nat) → mi_H → Prop} (n sl : Nat) (f : Nat → mi_C) {l1 : Nat} {l2 : Nat} {l3 : Nat} {l4 : Int32} {l5 : Int32} {l6 : Int32} (h7 : ¬ l6 = l5 → mi_W d 160 67 [some (.ref l1), some (.ref l2), some (.ref l3), some (.int l4), some (.int l5), some (.int l6)] [] (n, sl, f) Q) (h8 : ¬ (¬ l6 = l5) → mi_W d 160 56 [some (.ref l1), some (.ref l2), some (.ref l3), some (.int l4), some (.int l5), some (.int l6)] [] (n, sl, f) Q) : mi_W d 160 49 [some (.ref l1), some (.ref l2), some (.ref l3), some (.int l4), some (.int l5), some (.int l6)] [] (n, sl, f) Q := by
  refine w_iload cd_160_49 rfl ?_
  refine w_iload cd_160_51 rfl ?_
  exact w_if_icmpne cd_160_53 (by decide) h7 h8
theorem b_160_56 {d : Nat} {Q : (Option Value ⊕ Nat) → mi_H → Prop} (n sl : Nat) (f : Nat → mi_C) {l1 : Nat} {l2 : Nat} {l3 : Nat} {l4 : Int32} {l5 : Int32} {l6 : Int32} {fs7 : List Value} {x10 : Int32} {fs12 : List Value} (h8 : f l1 = .inr (12, fs7)) (h9 : l1 < n) (h11 : fs7[9]? = some (.int x10)) (h13 : f l1 = .inr (12, fs12)) (h14 : l1 < n) (h15 : mi_W d 143 0 (mi_en 2 [.ref l1, .int x10]) [] (n, sl, f) (mi_Kc d 160 61 [some (.ref l1), some (.ref l2), some (.ref l3), some (.int l4), some (.int l5), some (.int l6)] [] Q)) : mi_W (d + 1) 160 56 [some (.ref l1), some (.ref l2), some (.ref l3), some (.int l4), some (.int l5), some (.int l6)] [] (n, sl, f) Q := by
  refine w_aload_n cd_160_56 rfl ?_
  refine w_aload_n cd_160_57 rfl ?_
  refine w_getfield cd_160_58 (show mt_f 12 299 = some (12, 9) by decide +kernel) h8 h9 h11 ?_
  exact w_invokevirtual cd_160_61 (show mt_m 12 272 = some (143, 0) by decide +kernel) (rest := []) rfl (as := [.ref l1, .int x10]) rfl h13 (Or.inl h14) ⟨Nat.le_of_ble_eq_true rfl, Nat.le_of_ble_eq_true rfl, Nat.le_of_ble_eq_true rfl⟩ h15
theorem b_160_64 {d : Nat} {Q : (Option Value ⊕ Nat) → mi_H → Prop} (n sl : Nat) (f : Nat → mi_C) {l1 : Nat} {l2 : Nat} {l3 : Nat} {l4 : Int32} {l5 : Int32} {l6 : Int32} {s7 : Int32} (h8 : Q (.inl (some (.int (-1)))) (n, sl, f)) : mi_W d 160 64 [some (.ref l1), some (.ref l2), some (.ref l3), some (.int l4), some (.int l5), some (.int l6)] [.int s7] (n, sl, f) Q := by
  refine w_pop_i cd_160_64 ?_
  refine w_iconst (v := (-1)) cd_160_65 (by decide) ?_
  exact w_ireturn_i cd_160_66 (by decide +kernel) h8
theorem b_160_67 {d : Nat} {Q : (Option Value ⊕ Nat) → mi_H → Prop} (n sl : Nat) (f : Nat → mi_C) {l1 : Nat} {l2 : Nat} {l3 : Nat} {l4 : Int32} {l5 : Int32} {l6 : Int32} (h7 : ¬ l6 = l4 → mi_W d 160 94 [some (.ref l1), some (.ref l2), some (.ref l3), some (.int l4), some (.int l5), some (.int l6)] [] (n, sl, f) Q) (h8 : ¬ (¬ l6 = l4) → mi_W d 160 73 [some (.ref l1), some (.ref l2), some (.ref l3), some (.int l4), some (.int l5), some (.int l6)] [] (n, sl, f) Q) : mi_W d 160 67 [some (.ref l1), some (.ref l2), some (.ref l3), some (.int l4), some (.int l5), some (.int l6)] [] (n, sl, f) Q := by
  refine w_iload cd_160_67 rfl ?_
  refine w_iload_n cd_160_69 rfl ?_
  exact w_if_icmpne cd_160_70 (by decide) h7 h8
theorem b_160_73 {d : Nat} {Q : (Option Value ⊕ Nat) → mi_H → Prop} (n sl : Nat) (f : Nat → mi_C) {l1 : Nat} {l2 : Nat} {l3 : Nat} {l4 : Int32} {l5 : Int32} {l6 : Int32} {fs7 : List Value} {x10 : Int32} (m12 i12 : Nat) (g12 : Nat → Int32) {fs16 : List Value} {x19 : Int32} {fs21 : List Value} {x24 : Int32} (m26 i26 : Nat) (g26 : Nat → Int32) (h8 : f l1 = .inr (12, fs7)) (h9 : l1 < n) (h11 : fs7[9]? = some (.int x10)) (h13 : f l2 = .inl (0, m12, .inl g12)) (h14 : l2 < n) (h15 : mi_ix l6 m12 i12) (h17 : (va_up f l2 (.inl (0, m12, .inl (upd g12 i12 x10)))) l1 = .inr (12, fs16)) (h18 : l1 < n) (h20 : fs16[10]? = some (.int x19)) (h22 : (va_up f l2 (.inl (0, m12, .inl (upd g12 i12 x10)))) l1 = .inr (12, fs21)) (h23 : l1 < n) (h25 : fs21[9]? = some (.int x24)) (h27 : (va_up f l2 (.inl (0, m12, .inl (upd g12 i12 x10)))) l3 = .inl (0, m26, .inl g26)) (h28 : l3 < n) (h29 : mi_ix l6 m26 i26) (h30 : mi_W d 160 94 [some (.ref l1), some (.ref l2), some (.ref l3), some (.int l4), some (.int l5), some (.int l6)] [] (n, sl, (va_up (va_up f l2 (.inl (0, m12, .inl (upd g12 i12 x10)))) l3 (.inl (0, m26, .inl (upd g26 i26 (x19 - x24)))))) Q) : mi_W d 160 73 [some (.ref l1), some (.ref l2), some (.ref l3), some (.int l4), some (.int l5), some (.int l6)] [] (n, sl, f) Q := by
  refine w_aload_n cd_160_73 rfl ?_
  refine w_iload cd_160_74 rfl ?_
  refine w_aload_n cd_160_76 rfl ?_
  refine w_getfield cd_160_77 (show mt_f 12 299 = some (12, 9) by decide +kernel) h8 h9 h11 ?_
  refine w_iastore cd_160_80 h13 h14 h15 ?_
  refine w_aload_n cd_160_81 rfl ?_
  refine w_iload cd_160_82 rfl ?_
  refine w_aload_n cd_160_84 rfl ?_
  refine w_getfield cd_160_85 (show mt_f 12 297 = some (12, 10) by decide +kernel) h17 h18 h20 ?_
  refine w_aload_n cd_160_88 rfl ?_
  refine w_getfield cd_160_89 (show mt_f 12 299 = some (12, 9) by decide +kernel) h22 h23 h25 ?_
  refine w_isub cd_160_92 ?_
  refine w_iastore cd_160_93 h27 h28 h29 ?_
  exact h30
theorem b_160_94 {d : Nat} {Q : (Option Value ⊕ Nat) → mi_H → Prop} (n sl : Nat) (f : Nat → mi_C) {l1 : Nat} {l2 : Nat} {l3 : Nat} {l4 : Int32} {l5 : Int32} {l6 : Int32} {fs7 : List Value} (h8 : f l1 = .inr (12, fs7)) (h9 : l1 < n) (h10 : mi_W d 145 0 (mi_en 4 [.ref l1]) [] (n, sl, f) (mi_Kc d 160 95 [some (.ref l1), some (.ref l2), some (.ref l3), some (.int l4), some (.int l5), some (.int l6)] [] Q)) : mi_W (d + 1) 160 94 [some (.ref l1), some (.ref l2), some (.ref l3), some (.int l4), some (.int l5), some (.int l6)] [] (n, sl, f) Q := by
  refine w_aload_n cd_160_94 rfl ?_
  exact w_invokevirtual cd_160_95 (show mt_m 12 333 = some (145, 0) by decide +kernel) (rest := []) rfl (as := [.ref l1]) rfl h8 (Or.inl h9) ⟨Nat.le_of_ble_eq_true rfl, Nat.le_of_ble_eq_true rfl, Nat.le_of_ble_eq_true rfl⟩ h10
theorem b_160_98 {d : Nat} {Q : (Option Value ⊕ Nat) → mi_H → Prop} (n sl : Nat) (f : Nat → mi_C) {l1 : Nat} {l2 : Nat} {l3 : Nat} {l4 : Int32} {l5 : Int32} {l6 : Int32} {s7 : Int32} (h8 : s7 = (0 : Int32) → mi_W d 160 106 [some (.ref l1), some (.ref l2), some (.ref l3), some (.int l4), some (.int l5), some (.int l6)] [] (n, sl, f) Q) (h9 : ¬ (s7 = (0 : Int32)) → mi_W d 160 101 [some (.ref l1), some (.ref l2), some (.ref l3), some (.int l4), some (.int l5), some (.int l6)] [] (n, sl, f) Q) : mi_W d 160 98 [some (.ref l1), some (.ref l2), some (.ref l3), some (.int l4), some (.int l5), some (.int l6)] [.int s7] (n, sl, f) Q := by
  exact w_ifeq cd_160_98 (by decide) h8 h9
theorem b_160_101 {d : Nat} {Q : (Option Value ⊕ Nat) → mi_H → Prop} (n sl : Nat) (f : Nat → mi_C) {l1 : Nat} {l2 : Nat} {l3 : Nat} {l4 : Int32} {l5 : Int32} {l6 : Int32} (h7 : mi_W d 160 107 [some (.ref l1), some (.ref l2), some (.ref l3), some (.int l4), some (.int l5), some (.int l6)] [.int l6] (n, sl, f) Q) : mi_W d 160 101 [some (.ref l1), some (.ref l2), some (.ref l3), some (.int l4), some (.int l5), some (.int l6)] [] (n, sl, f) Q := by
  refine w_iload cd_160_101 rfl ?_
  exact w_goto cd_160_103 (by decide) h7
theorem b_160_106 {d : Nat} {Q : (Option Value ⊕ Nat) → mi_H → Prop} (n sl : Nat) (f : Nat → mi_C) {l1 : Nat} {l2 : Nat} {l3 : Nat} {l4 : Int32} {l5 : Int32} {l6 : Int32} (h7 : mi_W d 160 107 [some (.ref l1), some (.ref l2), some (.ref l3), some (.int l4), some (.int l5), some (.int l6)] [.int (-1)] (n, sl, f) Q) : mi_W d 160 106 [some (.ref l1), some (.ref l2), some (.ref l3), some (.int l4), some (.int l5), some (.int l6)] [] (n, sl, f) Q := by
  refine w_iconst (v := (-1)) cd_160_106 (by decide) ?_
  exact h7
theorem b_160_107 {d : Nat} {Q : (Option Value ⊕ Nat) → mi_H → Prop} (n sl : Nat) (f : Nat → mi_C) {l1 : Nat} {l2 : Nat} {l3 : Nat} {l4 : Int32} {l5 : Int32} {l6 : Int32} {s7 : Int32} (h8 : Q (.inl (some (.int s7))) (n, sl, f)) : mi_W d 160 107 [some (.ref l1), some (.ref l2), some (.ref l3), some (.int l4), some (.int l5), some (.int l6)] [.int s7] (n, sl, f) Q := by
  exact w_ireturn_i cd_160_107 (by decide +kernel) h8
/-! MarloweHostModel.same(II)Z -/
set_option maxRecDepth 100000 in
theorem mq_161 : mt_q 161 = my_161 := rfl
set_option maxRecDepth 100000 in
theorem ci_161 : mt_inc 0 my_161.cd = true := by decide +kernel
theorem cd_161_0 : mt_cd 161 0 = some (.iload_n 2) := mt_cd_of (q := (0, .iload_n 2, 1)) mq_161 ci_161 (List.mem_of_getElem? (i := 0) rfl)
theorem cd_161_1 : mt_cd 161 1 = some (.aload_n 0) := mt_cd_of (q := (1, .aload_n 0, 1)) mq_161 ci_161 (List.mem_of_getElem? (i := 1) rfl)
theorem cd_161_2 : mt_cd 161 2 = some (.getfield 297) := mt_cd_of (q := (2, .getfield 297, 3)) mq_161 ci_161 (List.mem_of_getElem? (i := 2) rfl)
theorem cd_161_5 : mt_cd 161 5 = some (.aload_n 0) := mt_cd_of (q := (5, .aload_n 0, 1)) mq_161 ci_161 (List.mem_of_getElem? (i := 3) rfl)
theorem cd_161_6 : mt_cd 161 6 = some (.getfield 299) := mt_cd_of (q := (6, .getfield 299, 3)) mq_161 ci_161 (List.mem_of_getElem? (i := 4) rfl)
theorem cd_161_9 : mt_cd 161 9 = some (.isub) := mt_cd_of (q := (9, .isub, 1)) mq_161 ci_161 (List.mem_of_getElem? (i := 5) rfl)
theorem cd_161_10 : mt_cd 161 10 = some (.if_icmp .eq 5) := mt_cd_of (q := (10, .if_icmp .eq 5, 3)) mq_161 ci_161 (List.mem_of_getElem? (i := 6) rfl)
theorem cd_161_13 : mt_cd 161 13 = some (.iconst 0) := mt_cd_of (q := (13, .iconst 0, 1)) mq_161 ci_161 (List.mem_of_getElem? (i := 7) rfl)
theorem cd_161_14 : mt_cd 161 14 = some (.ireturn) := mt_cd_of (q := (14, .ireturn, 1)) mq_161 ci_161 (List.mem_of_getElem? (i := 8) rfl)
theorem cd_161_15 : mt_cd 161 15 = some (.iconst 0) := mt_cd_of (q := (15, .iconst 0, 1)) mq_161 ci_161 (List.mem_of_getElem? (i := 9) rfl)
theorem cd_161_16 : mt_cd 161 16 = some (.istore_n 3) := mt_cd_of (q := (16, .istore_n 3, 1)) mq_161 ci_161 (List.mem_of_getElem? (i := 10) rfl)
theorem cd_161_17 : mt_cd 161 17 = some (.iload_n 3) := mt_cd_of (q := (17, .iload_n 3, 1)) mq_161 ci_161 (List.mem_of_getElem? (i := 11) rfl)
theorem cd_161_18 : mt_cd 161 18 = some (.iload_n 2) := mt_cd_of (q := (18, .iload_n 2, 1)) mq_161 ci_161 (List.mem_of_getElem? (i := 12) rfl)
theorem cd_161_19 : mt_cd 161 19 = some (.if_icmp .ge 33) := mt_cd_of (q := (19, .if_icmp .ge 33, 3)) mq_161 ci_161 (List.mem_of_getElem? (i := 13) rfl)
theorem cd_161_22 : mt_cd 161 22 = some (.aload_n 0) := mt_cd_of (q := (22, .aload_n 0, 1)) mq_161 ci_161 (List.mem_of_getElem? (i := 14) rfl)
theorem cd_161_23 : mt_cd 161 23 = some (.getfield 20) := mt_cd_of (q := (23, .getfield 20, 3)) mq_161 ci_161 (List.mem_of_getElem? (i := 15) rfl)
theorem cd_161_26 : mt_cd 161 26 = some (.iload_n 1) := mt_cd_of (q := (26, .iload_n 1, 1)) mq_161 ci_161 (List.mem_of_getElem? (i := 16) rfl)
theorem cd_161_27 : mt_cd 161 27 = some (.iload_n 3) := mt_cd_of (q := (27, .iload_n 3, 1)) mq_161 ci_161 (List.mem_of_getElem? (i := 17) rfl)
theorem cd_161_28 : mt_cd 161 28 = some (.iadd) := mt_cd_of (q := (28, .iadd, 1)) mq_161 ci_161 (List.mem_of_getElem? (i := 18) rfl)
theorem cd_161_29 : mt_cd 161 29 = some (.iaload) := mt_cd_of (q := (29, .iaload, 1)) mq_161 ci_161 (List.mem_of_getElem? (i := 19) rfl)
theorem cd_161_30 : mt_cd 161 30 = some (.aload_n 0) := mt_cd_of (q := (30, .aload_n 0, 1)) mq_161 ci_161 (List.mem_of_getElem? (i := 20) rfl)
theorem cd_161_31 : mt_cd 161 31 = some (.getfield 20) := mt_cd_of (q := (31, .getfield 20, 3)) mq_161 ci_161 (List.mem_of_getElem? (i := 21) rfl)
theorem cd_161_34 : mt_cd 161 34 = some (.aload_n 0) := mt_cd_of (q := (34, .aload_n 0, 1)) mq_161 ci_161 (List.mem_of_getElem? (i := 22) rfl)
theorem cd_161_35 : mt_cd 161 35 = some (.getfield 299) := mt_cd_of (q := (35, .getfield 299, 3)) mq_161 ci_161 (List.mem_of_getElem? (i := 23) rfl)
theorem cd_161_38 : mt_cd 161 38 = some (.iload_n 3) := mt_cd_of (q := (38, .iload_n 3, 1)) mq_161 ci_161 (List.mem_of_getElem? (i := 24) rfl)
theorem cd_161_39 : mt_cd 161 39 = some (.iadd) := mt_cd_of (q := (39, .iadd, 1)) mq_161 ci_161 (List.mem_of_getElem? (i := 25) rfl)
theorem cd_161_40 : mt_cd 161 40 = some (.iaload) := mt_cd_of (q := (40, .iaload, 1)) mq_161 ci_161 (List.mem_of_getElem? (i := 26) rfl)
theorem cd_161_41 : mt_cd 161 41 = some (.if_icmp .eq 5) := mt_cd_of (q := (41, .if_icmp .eq 5, 3)) mq_161 ci_161 (List.mem_of_getElem? (i := 27) rfl)
theorem cd_161_44 : mt_cd 161 44 = some (.iconst 0) := mt_cd_of (q := (44, .iconst 0, 1)) mq_161 ci_161 (List.mem_of_getElem? (i := 28) rfl)
theorem cd_161_45 : mt_cd 161 45 = some (.ireturn) := mt_cd_of (q := (45, .ireturn, 1)) mq_161 ci_161 (List.mem_of_getElem? (i := 29) rfl)
theorem cd_161_46 : mt_cd 161 46 = some (.iinc 3 1) := mt_cd_of (q := (46, .iinc 3 1, 3)) mq_161 ci_161 (List.mem_of_getElem? (i := 30) rfl)
theorem cd_161_49 : mt_cd 161 49 = some (.goto (-32)) := mt_cd_of (q := (49, .goto (-32), 3)) mq_161 ci_161 (List.mem_of_getElem? (i := 31) rfl)
theorem cd_161_52 : mt_cd 161 52 = some (.iconst 1) := mt_cd_of (q := (52, .iconst 1, 1)) mq_161 ci_161 (List.mem_of_getElem? (i := 32) rfl)
theorem cd_161_53 : mt_cd 161 53 = some (.ireturn) := mt_cd_of (q := (53, .ireturn, 1)) mq_161 ci_161 (List.mem_of_getElem? (i := 33) rfl)
theorem b_161_0 {d : Nat} {Q : (Option Value ⊕ Nat) → mi_H → Prop} (n sl : Nat) (f : Nat → mi_C) {l1 : Nat} {l2 : Int32} {l3 : Int32} {o4 : Option Value} {fs5 : List Value} {x8 : Int32} {fs10 : List Value} {x13 : Int32} (h6 : f l1 = .inr (12, fs5)) (h7 : l1 < n) (h9 : fs5[10]? = some (.int x8)) (h11 : f l1 = .inr (12, fs10)) (h12 : l1 < n) (h14 : fs10[9]? = some (.int x13)) (h15 : l3 = (x8 - x13) → mi_W d 161 15 [some (.ref l1), some (.int l2), some (.int l3), o4] [] (n, sl, f) Q) (h16 : ¬ (l3 = (x8 - x13)) → mi_W d 161 13 [some (.ref l1), some (.int l2), some (.int l3), o4] [] (n, sl, f) Q) : mi_W d 161 0 [some (.ref l1), some (.int l2), some (.int l3), o4] [] (n, sl, f) Q := by
  refine w_iload_n cd_161_0 rfl ?_
  refine w_aload_n cd_161_1 rfl ?_
  refine w_getfield cd_161_2 (show mt_f 12 297 = some (12, 10) by decide +kernel) h6 h7 h9 ?_
  refine w_aload_n cd_161_5 rfl ?_
  refine w_getfield cd_161_6 (show mt_f 12 299 = some (12, 9) by decide +kernel) h11 h12 h14 ?_
  refine w_isub cd_161_9 ?_
  exact w_if_icmpeq cd_161_10 (by decide) h15 h16
theorem b_161_13 {d : Nat} {Q : (Option Value ⊕ Nat) → mi_H → Prop} (n sl : Nat) (f : Nat → mi_C) {l1 : Nat} {l2 : Int32} {l3 : Int32} {o4 : Option Value} (h5 : Q (.inl (some (.int 0))) (n, sl, f)) : mi_W d 161 13 [some (.ref l1), some (.int l2), some (.int l3), o4] [] (n, sl, f) Q := by
  refine w_iconst (v := 0) cd_161_13 (by decide) ?_
  exact w_ireturn_z cd_161_14 (by decide +kernel) (by decide) h5
theorem b_161_15 {d : Nat} {Q : (Option Value ⊕ Nat) → mi_H → Prop} (n sl : Nat) (f : Nat → mi_C) {l1 : Nat} {l2 : Int32} {l3 : Int32} {o4 : Option Value} (h5 : mi_W d 161 17 [some (.ref l1), some (.int l2), some (.int l3), some (.int 0)] [] (n, sl, f) Q) : mi_W d 161 15 [some (.ref l1), some (.int l2), some (.int l3), o4] [] (n, sl, f) Q := by
  refine w_iconst (v := 0) cd_161_15 (by decide) ?_
  refine w_istore_n (ls' := [some (.ref l1), some (.int l2), some (.int l3), some (.int 0)]) cd_161_16 (Nat.le_of_ble_eq_true rfl) rfl ?_
  exact h5
theorem b_161_17 {d : Nat} {Q : (Option Value ⊕ Nat) → mi_H → Prop} (n sl : Nat) (f : Nat → mi_C) {l1 : Nat} {l2 : Int32} {l3 : Int32} {l4 : Int32} (h5 : l3 ≤ l4 → mi_W d 161 52 [some (.ref l1), some (.int l2), some (.int l3), some (.int l4)] [] (n, sl, f) Q) (h6 : ¬ (l3 ≤ l4) → mi_W d 161 22 [some (.ref l1), some (.int l2), some (.int l3), some (.int l4)] [] (n, sl, f) Q) : mi_W d 161 17 [some (.ref l1), some (.int l2), some (.int l3), some (.int l4)] [] (n, sl, f) Q := by
  refine w_iload_n cd_161_17 rfl ?_
  refine w_iload_n cd_161_18 rfl ?_
  exact w_if_icmpge cd_161_19 (by decide) h5 h6
theorem b_161_22 {d : Nat} {Q : (Option Value ⊕ Nat) → mi_H → Prop} (n sl : Nat) (f : Nat → mi_C) {l1 : Nat} {l2 : Int32} {l3 : Int32} {l4 : Int32} {fs5 : List Value} {x8 : Nat} (m10 i10 : Nat) (g10 : Nat → Int32) {fs14 : List Value} {x17 : Nat} {fs19 : List Value} {x22 : Int32} (m24 i24 : Nat) (g24 : Nat → Int32) (h6 : f l1 = .inr (12, fs5)) (h7 : l1 < n) (h9 : fs5[6]? = some (.ref x8)) (h11 : f x8 = .inl (0, m10, .inl g10)) (h12 : x8 < n ∨ x8 = mi_SC) (h13 : mi_ix (l2 + l4) m10 i10) (h15 : f l1 = .inr (12, fs14)) (h16 : l1 < n) (h18 : fs14[6]? = some (.ref x17)) (h20 : f l1 = .inr (12, fs19)) (h21 : l1 < n) (h23 : fs19[9]? = some (.int x22)) (h25 : f x17 = .inl (0, m24, .inl g24)) (h26 : x17 < n ∨ x17 = mi_SC) (h27 : mi_ix (x22 + l4) m24 i24) (h28 : (g10 i10) = (g24 i24) → mi_W d 161 46 [some (.ref l1), some (.int l2), some (.int l3), some (.int l4)] [] (n, sl, f) Q) (h29 : ¬ ((g10 i10) = (g24 i24)) → mi_W d 161 44 [some (.ref l1), some (.int l2), some (.int l3), some (.int l4)] [] (n, sl, f) Q) : mi_W d 161 22 [some (.ref l1), some (.int l2), some (.int l3), some (.int l4)] [] (n, sl, f) Q := by
  refine w_aload_n cd_161_22 rfl ?_
  refine w_getfield cd_161_23 (show mt_f 12 20 = some (12, 6) by decide +kernel) h6 h7 h9 ?_
  refine w_iload_n cd_161_26 rfl ?_
  refine w_iload_n cd_161_27 rfl ?_
  refine w_iadd cd_161_28 ?_
  refine w_iaload cd_161_29 h11 h12 h13 ?_
  refine w_aload_n cd_161_30 rfl ?_
  refine w_getfield cd_161_31 (show mt_f 12 20 = some (12, 6) by decide +kernel) h15 h16 h18 ?_
  refine w_aload_n cd_161_34 rfl ?_
  refine w_getfield cd_161_35 (show mt_f 12 299 = some (12, 9) by decide +kernel) h20 h21 h23 ?_
  refine w_iload_n cd_161_38 rfl ?_
  refine w_iadd cd_161_39 ?_
  refine w_iaload cd_161_40 h25 h26 h27 ?_
  exact w_if_icmpeq cd_161_41 (by decide) h28 h29
theorem b_161_44 {d : Nat} {Q : (Option Value ⊕ Nat) → mi_H → Prop} (n sl : Nat) (f : Nat → mi_C) {l1 : Nat} {l2 : Int32} {l3 : Int32} {l4 : Int32} (h5 : Q (.inl (some (.int 0))) (n, sl, f)) : mi_W d 161 44 [some (.ref l1), some (.int l2), some (.int l3), some (.int l4)] [] (n, sl, f) Q := by
  refine w_iconst (v := 0) cd_161_44 (by decide) ?_
  exact w_ireturn_z cd_161_45 (by decide +kernel) (by decide) h5
theorem b_161_46 {d : Nat} {Q : (Option Value ⊕ Nat) → mi_H → Prop} (n sl : Nat) (f : Nat → mi_C) {l1 : Nat} {l2 : Int32} {l3 : Int32} {l4 : Int32} (h5 : mi_W d 161 17 [some (.ref l1), some (.int l2), some (.int l3), some (.int (l4 + 1))] [] (n, sl, f) Q) : mi_W d 161 46 [some (.ref l1), some (.int l2), some (.int l3), some (.int l4)] [] (n, sl, f) Q := by
  refine w_iinc (v := 1) (ls' := [some (.ref l1), some (.int l2), some (.int l3), some (.int (l4 + 1))]) cd_161_46 rfl (by decide) rfl ?_
  exact w_goto cd_161_49 (by decide) h5
theorem b_161_52 {d : Nat} {Q : (Option Value ⊕ Nat) → mi_H → Prop} (n sl : Nat) (f : Nat → mi_C) {l1 : Nat} {l2 : Int32} {l3 : Int32} {l4 : Int32} (h5 : Q (.inl (some (.int 1))) (n, sl, f)) : mi_W d 161 52 [some (.ref l1), some (.int l2), some (.int l3), some (.int l4)] [] (n, sl, f) Q := by
  refine w_iconst (v := 1) cd_161_52 (by decide) ?_
  exact w_ireturn_z cd_161_53 (by decide +kernel) (by decide) h5
/-! MarloweHostModel.token()I -/
set_option maxRecDepth 100000 in
theorem mq_162 : mt_q 162 = my_162 := rfl
set_option maxRecDepth 100000 in
theorem ci_162 : mt_inc 0 my_162.cd = true := by decide +kernel
theorem cd_162_0 : mt_cd 162 0 = some (.aload_n 0) := mt_cd_of (q := (0, .aload_n 0, 1)) mq_162 ci_162 (List.mem_of_getElem? (i := 0) rfl)
theorem cd_162_1 : mt_cd 162 1 = some (.aload_n 0) := mt_cd_of (q := (1, .aload_n 0, 1)) mq_162 ci_162 (List.mem_of_getElem? (i := 1) rfl)
theorem cd_162_2 : mt_cd 162 2 = some (.getfield 117) := mt_cd_of (q := (2, .getfield 117, 3)) mq_162 ci_162 (List.mem_of_getElem? (i := 2) rfl)
theorem cd_162_5 : mt_cd 162 5 = some (.aload_n 0) := mt_cd_of (q := (5, .aload_n 0, 1)) mq_162 ci_162 (List.mem_of_getElem? (i := 3) rfl)
theorem cd_162_6 : mt_cd 162 6 = some (.getfield 120) := mt_cd_of (q := (6, .getfield 120, 3)) mq_162 ci_162 (List.mem_of_getElem? (i := 4) rfl)
theorem cd_162_9 : mt_cd 162 9 = some (.aload_n 0) := mt_cd_of (q := (9, .aload_n 0, 1)) mq_162 ci_162 (List.mem_of_getElem? (i := 5) rfl)
theorem cd_162_10 : mt_cd 162 10 = some (.getfield 346) := mt_cd_of (q := (10, .getfield 346, 3)) mq_162 ci_162 (List.mem_of_getElem? (i := 6) rfl)
theorem cd_162_13 : mt_cd 162 13 = some (.iconst 4) := mt_cd_of (q := (13, .iconst 4, 1)) mq_162 ci_162 (List.mem_of_getElem? (i := 7) rfl)
theorem cd_162_14 : mt_cd 162 14 = some (.invokevirtual 362) := mt_cd_of (q := (14, .invokevirtual 362, 3)) mq_162 ci_162 (List.mem_of_getElem? (i := 8) rfl)
theorem cd_162_17 : mt_cd 162 17 = some (.istore_n 1) := mt_cd_of (q := (17, .istore_n 1, 1)) mq_162 ci_162 (List.mem_of_getElem? (i := 9) rfl)
theorem cd_162_18 : mt_cd 162 18 = some (.iload_n 1) := mt_cd_of (q := (18, .iload_n 1, 1)) mq_162 ci_162 (List.mem_of_getElem? (i := 10) rfl)
theorem cd_162_19 : mt_cd 162 19 = some (.aload_n 0) := mt_cd_of (q := (19, .aload_n 0, 1)) mq_162 ci_162 (List.mem_of_getElem? (i := 11) rfl)
theorem cd_162_20 : mt_cd 162 20 = some (.getfield 346) := mt_cd_of (q := (20, .getfield 346, 3)) mq_162 ci_162 (List.mem_of_getElem? (i := 12) rfl)
theorem cd_162_23 : mt_cd 162 23 = some (.if_icmp .ne 13) := mt_cd_of (q := (23, .if_icmp .ne 13, 3)) mq_162 ci_162 (List.mem_of_getElem? (i := 13) rfl)
theorem cd_162_26 : mt_cd 162 26 = some (.aload_n 0) := mt_cd_of (q := (26, .aload_n 0, 1)) mq_162 ci_162 (List.mem_of_getElem? (i := 14) rfl)
theorem cd_162_27 : mt_cd 162 27 = some (.dup) := mt_cd_of (q := (27, .dup, 1)) mq_162 ci_162 (List.mem_of_getElem? (i := 15) rfl)
theorem cd_162_28 : mt_cd 162 28 = some (.getfield 346) := mt_cd_of (q := (28, .getfield 346, 3)) mq_162 ci_162 (List.mem_of_getElem? (i := 16) rfl)
theorem cd_162_31 : mt_cd 162 31 = some (.iconst 1) := mt_cd_of (q := (31, .iconst 1, 1)) mq_162 ci_162 (List.mem_of_getElem? (i := 17) rfl)
theorem cd_162_32 : mt_cd 162 32 = some (.iadd) := mt_cd_of (q := (32, .iadd, 1)) mq_162 ci_162 (List.mem_of_getElem? (i := 18) rfl)
theorem cd_162_33 : mt_cd 162 33 = some (.putfield 346) := mt_cd_of (q := (33, .putfield 346, 3)) mq_162 ci_162 (List.mem_of_getElem? (i := 19) rfl)
theorem cd_162_36 : mt_cd 162 36 = some (.iload_n 1) := mt_cd_of (q := (36, .iload_n 1, 1)) mq_162 ci_162 (List.mem_of_getElem? (i := 20) rfl)
theorem cd_162_37 : mt_cd 162 37 = some (.ireturn) := mt_cd_of (q := (37, .ireturn, 1)) mq_162 ci_162 (List.mem_of_getElem? (i := 21) rfl)
theorem b_162_0 {d : Nat} {Q : (Option Value ⊕ Nat) → mi_H → Prop} (n sl : Nat) (f : Nat → mi_C) {l1 : Nat} {o2 : Option Value} {fs3 : List Value} {x6 : Nat} {fs8 : List Value} {x11 : Nat} {fs13 : List Value} {x16 : Int32} {fs18 : List Value} (h4 : f l1 = .inr (12, fs3)) (h5 : l1 < n) (h7 : fs3[32]? = some (.ref x6)) (h9 : f l1 = .inr (12, fs8)) (h10 : l1 < n) (h12 : fs8[33]? = some (.ref x11)) (h14 : f l1 = .inr (12, fs13)) (h15 : l1 < n) (h17 : fs13[25]? = some (.int x16)) (h19 : f l1 = .inr (12, fs18)) (h20 : l1 < n) (h21 : mi_W d 160 0 (mi_en 6 [.ref l1, .ref x6, .ref x11, .int x16, .int 4]) [] (n, sl, f) (mi_Kc d 162 14 [some (.ref l1), o2] [] Q)) : mi_W (d + 1) 162 0 [some (.ref l1), o2] [] (n, sl, f) Q := by
  refine w_aload_n cd_162_0 rfl ?_
  refine w_aload_n cd_162_1 rfl ?_
  refine w_getfield cd_162_2 (show mt_f 12 117 = some (12, 32) by decide +kernel) h4 h5 h7 ?_
  refine w_aload_n cd_162_5 rfl ?_
  refine w_getfield cd_162_6 (show mt_f 12 120 = some (12, 33) by decide +kernel) h9 h10 h12 ?_
  refine w_aload_n cd_162_9 rfl ?_
  refine w_getfield cd_162_10 (show mt_f 12 346 = some (12, 25) by decide +kernel) h14 h15 h17 ?_
  refine w_iconst (v := 4) cd_162_13 (by decide) ?_
  exact w_invokevirtual cd_162_14 (show mt_m 12 362 = some (160, 0) by decide +kernel) (rest := []) rfl (as := [.ref l1, .ref x6, .ref x11, .int x16, .int 4]) rfl h19 (Or.inl h20) ⟨Nat.le_of_ble_eq_true rfl, Nat.le_of_ble_eq_true rfl, Nat.le_of_ble_eq_true rfl⟩ h21
theorem b_162_17 {d : Nat} {Q : (Option Value ⊕ Nat) → mi_H → Prop} (n sl : Nat) (f : Nat → mi_C) {l1 : Nat} {o2 : Option Value} {s3 : Int32} {fs4 : List Value} {x7 : Int32} (h5 : f l1 = .inr (12, fs4)) (h6 : l1 < n) (h8 : fs4[25]? = some (.int x7)) (h9 : ¬ s3 = x7 → mi_W d 162 36 [some (.ref l1), some (.int s3)] [] (n, sl, f) Q) (h10 : ¬ (¬ s3 = x7) → mi_W d 162 26 [some (.ref l1), some (.int s3)] [] (n, sl, f) Q) : mi_W d 162 17 [some (.ref l1), o2] [.int s3] (n, sl, f) Q := by
  refine w_istore_n (ls' := [some (.ref l1), some (.int s3)]) cd_162_17 (Nat.le_of_ble_eq_true rfl) rfl ?_
  refine w_iload_n cd_162_18 rfl ?_
  refine w_aload_n cd_162_19 rfl ?_
  refine w_getfield cd_162_20 (show mt_f 12 346 = some (12, 25) by decide +kernel) h5 h6 h8 ?_
  exact w_if_icmpne cd_162_23 (by decide) h9 h10
theorem b_162_26 {d : Nat} {Q : (Option Value ⊕ Nat) → mi_H → Prop} (n sl : Nat) (f : Nat → mi_C) {l1 : Nat} {l2 : Int32} {fs3 : List Value} {x6 : Int32} {fs8 : List Value} (h4 : f l1 = .inr (12, fs3)) (h5 : l1 < n) (h7 : fs3[25]? = some (.int x6)) (h9 : f l1 = .inr (12, fs8)) (h10 : l1 < n) (h11 : 25 < fs8.length) (h12 : mi_W d 162 36 [some (.ref l1), some (.int l2)] [] (n, sl, (va_up f l1 (.inr (12, fs8.set 25 (.int (x6 + 1)))))) Q) : mi_W d 162 26 [some (.ref l1), some (.int l2)] [] (n, sl, f) Q := by
  refine w_aload_n cd_162_26 rfl ?_
  refine w_dup_r cd_162_27 ?_
  refine w_getfield cd_162_28 (show mt_f 12 346 = some (12, 25) by decide +kernel) h4 h5 h7 ?_
  refine w_iconst (v := 1) cd_162_31 (by decide) ?_
  refine w_iadd cd_162_32 ?_
  refine w_putfield (w := .int (x6 + 1)) cd_162_33 (show mt_f 12 346 = some (12, 25) by decide +kernel) h9 h10 ⟨h11, rfl, Or.inl (by decide)⟩ ?_
  exact h12
theorem b_162_36 {d : Nat} {Q : (Option Value ⊕ Nat) → mi_H → Prop} (n sl : Nat) (f : Nat → mi_C) {l1 : Nat} {l2 : Int32} (h3 : Q (.inl (some (.int l2))) (n, sl, f)) : mi_W d 162 36 [some (.ref l1), some (.int l2)] [] (n, sl, f) Q := by
  refine w_iload_n cd_162_36 rfl ?_
  exact w_ireturn_i cd_162_37 (by decide +kernel) h3
/-! MarloweHostModel.number()I -/
set_option maxRecDepth 100000 in
theorem mq_163 : mt_q 163 = my_163 := rfl
set_option maxRecDepth 100000 in
theorem ci_163 : mt_inc 0 my_163.cd = true := by decide +kernel
theorem cd_163_0 : mt_cd 163 0 = some (.aload_n 0) := mt_cd_of (q := (0, .aload_n 0, 1)) mq_163 ci_163 (List.mem_append_left _ (show _ ∈ my_163_0 from List.mem_of_getElem? (i := 0) rfl))
theorem cd_163_1 : mt_cd 163 1 = some (.ldc_w 373) := mt_cd_of (q := (1, .ldc_w 373, 3)) mq_163 ci_163 (List.mem_append_left _ (show _ ∈ my_163_0 from List.mem_of_getElem? (i := 1) rfl))
theorem cd_163_4 : mt_cd 163 4 = some (.invokevirtual 375) := mt_cd_of (q := (4, .invokevirtual 375, 3)) mq_163 ci_163 (List.mem_append_left _ (show _ ∈ my_163_0 from List.mem_of_getElem? (i := 2) rfl))
theorem cd_163_7 : mt_cd 163 7 = some (.ifCond .eq 58) := mt_cd_of (q := (7, .ifCond .eq 58, 3)) mq_163 ci_163 (List.mem_append_left _ (show _ ∈ my_163_0 from List.mem_of_getElem? (i := 3) rfl))
theorem cd_163_10 : mt_cd 163 10 = some (.aload_n 0) := mt_cd_of (q := (10, .aload_n 0, 1)) mq_163 ci_163 (List.mem_append_left _ (show _ ∈ my_163_0 from List.mem_of_getElem? (i := 4) rfl))
theorem cd_163_11 : mt_cd 163 11 = some (.invokevirtual 378) := mt_cd_of (q := (11, .invokevirtual 378, 3)) mq_163 ci_163 (List.mem_append_left _ (show _ ∈ my_163_0 from List.mem_of_getElem? (i := 5) rfl))
theorem cd_163_14 : mt_cd 163 14 = some (.ifCond .eq 10) := mt_cd_of (q := (14, .ifCond .eq 10, 3)) mq_163 ci_163 (List.mem_append_left _ (show _ ∈ my_163_0 from List.mem_of_getElem? (i := 6) rfl))
theorem cd_163_17 : mt_cd 163 17 = some (.aload_n 0) := mt_cd_of (q := (17, .aload_n 0, 1)) mq_163 ci_163 (List.mem_append_left _ (show _ ∈ my_163_0 from List.mem_of_getElem? (i := 7) rfl))
theorem cd_163_18 : mt_cd 163 18 = some (.invokevirtual 333) := mt_cd_of (q := (18, .invokevirtual 333, 3)) mq_163 ci_163 (List.mem_append_left _ (show _ ∈ my_163_0 from List.mem_of_getElem? (i := 8) rfl))
theorem cd_163_21 : mt_cd 163 21 = some (.ifCond .ne 5) := mt_cd_of (q := (21, .ifCond .ne 5, 3)) mq_163 ci_163 (List.mem_append_left _ (show _ ∈ my_163_0 from List.mem_of_getElem? (i := 9) rfl))
theorem cd_163_24 : mt_cd 163 24 = some (.iconst (-1)) := mt_cd_of (q := (24, .iconst (-1), 1)) mq_163 ci_163 (List.mem_append_left _ (show _ ∈ my_163_0 from List.mem_of_getElem? (i := 10) rfl))
theorem cd_163_25 : mt_cd 163 25 = some (.ireturn) := mt_cd_of (q := (25, .ireturn, 1)) mq_163 ci_163 (List.mem_append_left _ (show _ ∈ my_163_0 from List.mem_of_getElem? (i := 11) rfl))
theorem cd_163_26 : mt_cd 163 26 = some (.aload_n 0) := mt_cd_of (q := (26, .aload_n 0, 1)) mq_163 ci_163 (List.mem_append_left _ (show _ ∈ my_163_0 from List.mem_of_getElem? (i := 12) rfl))
theorem cd_163_27 : mt_cd 163 27 = some (.invokevirtual 399) := mt_cd_of (q := (27, .invokevirtual 399, 3)) mq_163 ci_163 (List.mem_append_left _ (show _ ∈ my_163_0 from List.mem_of_getElem? (i := 13) rfl))
theorem cd_163_30 : mt_cd 163 30 = some (.istore_n 1) := mt_cd_of (q := (30, .istore_n 1, 1)) mq_163 ci_163 (List.mem_append_left _ (show _ ∈ my_163_0 from List.mem_of_getElem? (i := 14) rfl))
theorem cd_163_31 : mt_cd 163 31 = some (.aload_n 0) := mt_cd_of (q := (31, .aload_n 0, 1)) mq_163 ci_163 (List.mem_append_left _ (show _ ∈ my_163_0 from List.mem_of_getElem? (i := 15) rfl))
theorem cd_163_32 : mt_cd 163 32 = some (.dup) := mt_cd_of (q := (32, .dup, 1)) mq_163 ci_163 (List.mem_append_left _ (show _ ∈ my_163_0 from List.mem_of_getElem? (i := 16) rfl))
theorem cd_163_33 : mt_cd 163 33 = some (.getfield 337) := mt_cd_of (q := (33, .getfield 337, 3)) mq_163 ci_163 (List.mem_append_left _ (show _ ∈ my_163_0 from List.mem_of_getElem? (i := 17) rfl))
theorem cd_163_36 : mt_cd 163 36 = some (.iconst 1) := mt_cd_of (q := (36, .iconst 1, 1)) mq_163 ci_163 (List.mem_append_left _ (show _ ∈ my_163_0 from List.mem_of_getElem? (i := 18) rfl))
theorem cd_163_37 : mt_cd 163 37 = some (.isub) := mt_cd_of (q := (37, .isub, 1)) mq_163 ci_163 (List.mem_append_left _ (show _ ∈ my_163_0 from List.mem_of_getElem? (i := 19) rfl))
theorem cd_163_38 : mt_cd 163 38 = some (.putfield 337) := mt_cd_of (q := (38, .putfield 337, 3)) mq_163 ci_163 (List.mem_append_left _ (show _ ∈ my_163_0 from List.mem_of_getElem? (i := 20) rfl))
theorem cd_163_41 : mt_cd 163 41 = some (.iload_n 1) := mt_cd_of (q := (41, .iload_n 1, 1)) mq_163 ci_163 (List.mem_append_left _ (show _ ∈ my_163_0 from List.mem_of_getElem? (i := 21) rfl))
theorem cd_163_42 : mt_cd 163 42 = some (.ifCond .lt 21) := mt_cd_of (q := (42, .ifCond .lt 21, 3)) mq_163 ci_163 (List.mem_append_left _ (show _ ∈ my_163_0 from List.mem_of_getElem? (i := 22) rfl))
theorem cd_163_45 : mt_cd 163 45 = some (.aload_n 0) := mt_cd_of (q := (45, .aload_n 0, 1)) mq_163 ci_163 (List.mem_append_left _ (show _ ∈ my_163_0 from List.mem_of_getElem? (i := 23) rfl))
theorem cd_163_46 : mt_cd 163 46 = some (.aload_n 0) := mt_cd_of (q := (46, .aload_n 0, 1)) mq_163 ci_163 (List.mem_append_left _ (show _ ∈ my_163_0 from List.mem_of_getElem? (i := 24) rfl))
theorem cd_163_47 : mt_cd 163 47 = some (.ldc_w 381) := mt_cd_of (q := (47, .ldc_w 381, 3)) mq_163 ci_163 (List.mem_append_left _ (show _ ∈ my_163_0 from List.mem_of_getElem? (i := 25) rfl))
theorem cd_163_50 : mt_cd 163 50 = some (.invokevirtual 375) := mt_cd_of (q := (50, .invokevirtual 375, 3)) mq_163 ci_163 (List.mem_append_left _ (show _ ∈ my_163_0 from List.mem_of_getElem? (i := 26) rfl))
theorem cd_163_53 : mt_cd 163 53 = some (.invokevirtual 383) := mt_cd_of (q := (53, .invokevirtual 383, 3)) mq_163 ci_163 (List.mem_append_left _ (show _ ∈ my_163_0 from List.mem_of_getElem? (i := 27) rfl))
theorem cd_163_56 : mt_cd 163 56 = some (.ifCond .eq 7) := mt_cd_of (q := (56, .ifCond .eq 7, 3)) mq_163 ci_163 (List.mem_append_left _ (show _ ∈ my_163_0 from List.mem_of_getElem? (i := 28) rfl))
theorem cd_163_59 : mt_cd 163 59 = some (.iload_n 1) := mt_cd_of (q := (59, .iload_n 1, 1)) mq_163 ci_163 (List.mem_append_left _ (show _ ∈ my_163_0 from List.mem_of_getElem? (i := 29) rfl))
theorem cd_163_60 : mt_cd 163 60 = some (.goto 4) := mt_cd_of (q := (60, .goto 4, 3)) mq_163 ci_163 (List.mem_append_left _ (show _ ∈ my_163_0 from List.mem_of_getElem? (i := 30) rfl))
theorem cd_163_63 : mt_cd 163 63 = some (.iconst (-1)) := mt_cd_of (q := (63, .iconst (-1), 1)) mq_163 ci_163 (List.mem_append_left _ (show _ ∈ my_163_0 from List.mem_of_getElem? (i := 31) rfl))
theorem cd_163_64 : mt_cd 163 64 = some (.ireturn) := mt_cd_of (q := (64, .ireturn, 1)) mq_163 ci_163 (List.mem_append_left _ (show _ ∈ my_163_0 from List.mem_of_getElem? (i := 32) rfl))
theorem cd_163_65 : mt_cd 163 65 = some (.aload_n 0) := mt_cd_of (q := (65, .aload_n 0, 1)) mq_163 ci_163 (List.mem_append_left _ (show _ ∈ my_163_0 from List.mem_of_getElem? (i := 33) rfl))
theorem cd_163_66 : mt_cd 163 66 = some (.getfield 310) := mt_cd_of (q := (66, .getfield 310, 3)) mq_163 ci_163 (List.mem_append_left _ (show _ ∈ my_163_0 from List.mem_of_getElem? (i := 34) rfl))
theorem cd_163_69 : mt_cd 163 69 = some (.iconst 2) := mt_cd_of (q := (69, .iconst 2, 1)) mq_163 ci_163 (List.mem_append_left _ (show _ ∈ my_163_0 from List.mem_of_getElem? (i := 35) rfl))
theorem cd_163_70 : mt_cd 163 70 = some (.if_icmp .ne 8) := mt_cd_of (q := (70, .if_icmp .ne 8, 3)) mq_163 ci_163 (List.mem_append_left _ (show _ ∈ my_163_0 from List.mem_of_getElem? (i := 36) rfl))
theorem cd_163_73 : mt_cd 163 73 = some (.bipush 10) := mt_cd_of (q := (73, .bipush 10, 2)) mq_163 ci_163 (List.mem_append_left _ (show _ ∈ my_163_0 from List.mem_of_getElem? (i := 37) rfl))
theorem cd_163_75 : mt_cd 163 75 = some (.goto 162) := mt_cd_of (q := (75, .goto 162, 3)) mq_163 ci_163 (List.mem_append_left _ (show _ ∈ my_163_0 from List.mem_of_getElem? (i := 38) rfl))
theorem cd_163_78 : mt_cd 163 78 = some (.aload_n 0) := mt_cd_of (q := (78, .aload_n 0, 1)) mq_163 ci_163 (List.mem_append_left _ (show _ ∈ my_163_0 from List.mem_of_getElem? (i := 39) rfl))
theorem cd_163_79 : mt_cd 163 79 = some (.ldc 47) := mt_cd_of (q := (79, .ldc 47, 2)) mq_163 ci_163 (List.mem_append_left _ (show _ ∈ my_163_0 from List.mem_of_getElem? (i := 40) rfl))
theorem cd_163_81 : mt_cd 163 81 = some (.invokevirtual 387) := mt_cd_of (q := (81, .invokevirtual 387, 3)) mq_163 ci_163 (List.mem_append_left _ (show _ ∈ my_163_0 from List.mem_of_getElem? (i := 41) rfl))
theorem cd_163_84 : mt_cd 163 84 = some (.ifCond .eq 8) := mt_cd_of (q := (84, .ifCond .eq 8, 3)) mq_163 ci_163 (List.mem_append_left _ (show _ ∈ my_163_0 from List.mem_of_getElem? (i := 42) rfl))
theorem cd_163_87 : mt_cd 163 87 = some (.bipush 11) := mt_cd_of (q := (87, .bipush 11, 2)) mq_163 ci_163 (List.mem_append_left _ (show _ ∈ my_163_0 from List.mem_of_getElem? (i := 43) rfl))
theorem cd_163_89 : mt_cd 163 89 = some (.goto 148) := mt_cd_of (q := (89, .goto 148, 3)) mq_163 ci_163 (List.mem_append_left _ (show _ ∈ my_163_0 from List.mem_of_getElem? (i := 44) rfl))
theorem cd_163_92 : mt_cd 163 92 = some (.aload_n 0) := mt_cd_of (q := (92, .aload_n 0, 1)) mq_163 ci_163 (List.mem_append_left _ (show _ ∈ my_163_0 from List.mem_of_getElem? (i := 45) rfl))
theorem cd_163_93 : mt_cd 163 93 = some (.ldc 49) := mt_cd_of (q := (93, .ldc 49, 2)) mq_163 ci_163 (List.mem_append_left _ (show _ ∈ my_163_0 from List.mem_of_getElem? (i := 46) rfl))
theorem cd_163_95 : mt_cd 163 95 = some (.invokevirtual 387) := mt_cd_of (q := (95, .invokevirtual 387, 3)) mq_163 ci_163 (List.mem_append_left _ (show _ ∈ my_163_0 from List.mem_of_getElem? (i := 47) rfl))
theorem cd_163_98 : mt_cd 163 98 = some (.ifCond .eq 8) := mt_cd_of (q := (98, .ifCond .eq 8, 3)) mq_163 ci_163 (List.mem_append_left _ (show _ ∈ my_163_0 from List.mem_of_getElem? (i := 48) rfl))
theorem cd_163_101 : mt_cd 163 101 = some (.bipush 12) := mt_cd_of (q := (101, .bipush 12, 2)) mq_163 ci_163 (List.mem_append_left _ (show _ ∈ my_163_0 from List.mem_of_getElem? (i := 49) rfl))
theorem cd_163_103 : mt_cd 163 103 = some (.goto 134) := mt_cd_of (q := (103, .goto 134, 3)) mq_163 ci_163 (List.mem_append_left _ (show _ ∈ my_163_0 from List.mem_of_getElem? (i := 50) rfl))
theorem cd_163_106 : mt_cd 163 106 = some (.aload_n 0) := mt_cd_of (q := (106, .aload_n 0, 1)) mq_163 ci_163 (List.mem_append_left _ (show _ ∈ my_163_0 from List.mem_of_getElem? (i := 51) rfl))
theorem cd_163_107 : mt_cd 163 107 = some (.ldc_w 419) := mt_cd_of (q := (107, .ldc_w 419, 3)) mq_163 ci_163 (List.mem_append_left _ (show _ ∈ my_163_0 from List.mem_of_getElem? (i := 52) rfl))
theorem cd_163_110 : mt_cd 163 110 = some (.invokevirtual 375) := mt_cd_of (q := (110, .invokevirtual 375, 3)) mq_163 ci_163 (List.mem_append_left _ (show _ ∈ my_163_0 from List.mem_of_getElem? (i := 53) rfl))
theorem cd_163_113 : mt_cd 163 113 = some (.ifCond .eq 8) := mt_cd_of (q := (113, .ifCond .eq 8, 3)) mq_163 ci_163 (List.mem_append_left _ (show _ ∈ my_163_0 from List.mem_of_getElem? (i := 54) rfl))
theorem cd_163_116 : mt_cd 163 116 = some (.bipush 13) := mt_cd_of (q := (116, .bipush 13, 2)) mq_163 ci_163 (List.mem_append_left _ (show _ ∈ my_163_0 from List.mem_of_getElem? (i := 55) rfl))
theorem cd_163_118 : mt_cd 163 118 = some (.goto 119) := mt_cd_of (q := (118, .goto 119, 3)) mq_163 ci_163 (List.mem_append_left _ (show _ ∈ my_163_0 from List.mem_of_getElem? (i := 56) rfl))
theorem cd_163_121 : mt_cd 163 121 = some (.aload_n 0) := mt_cd_of (q := (121, .aload_n 0, 1)) mq_163 ci_163 (List.mem_append_left _ (show _ ∈ my_163_0 from List.mem_of_getElem? (i := 57) rfl))
theorem cd_163_122 : mt_cd 163 122 = some (.ldc_w 421) := mt_cd_of (q := (122, .ldc_w 421, 3)) mq_163 ci_163 (List.mem_append_left _ (show _ ∈ my_163_0 from List.mem_of_getElem? (i := 58) rfl))
theorem cd_163_125 : mt_cd 163 125 = some (.invokevirtual 375) := mt_cd_of (q := (125, .invokevirtual 375, 3)) mq_163 ci_163 (List.mem_append_left _ (show _ ∈ my_163_0 from List.mem_of_getElem? (i := 59) rfl))
theorem cd_163_128 : mt_cd 163 128 = some (.ifCond .eq 8) := mt_cd_of (q := (128, .ifCond .eq 8, 3)) mq_163 ci_163 (List.mem_append_right _ (List.mem_append_left _ (show _ ∈ my_163_1 from List.mem_of_getElem? (i := 0) rfl)))
theorem cd_163_131 : mt_cd 163 131 = some (.bipush 14) := mt_cd_of (q := (131, .bipush 14, 2)) mq_163 ci_163 (List.mem_append_right _ (List.mem_append_left _ (show _ ∈ my_163_1 from List.mem_of_getElem? (i := 1) rfl)))
theorem cd_163_133 : mt_cd 163 133 = some (.goto 104) := mt_cd_of (q := (133, .goto 104, 3)) mq_163 ci_163 (List.mem_append_right _ (List.mem_append_left _ (show _ ∈ my_163_1 from List.mem_of_getElem? (i := 2) rfl)))
theorem cd_163_136 : mt_cd 163 136 = some (.aload_n 0) := mt_cd_of (q := (136, .aload_n 0, 1)) mq_163 ci_163 (List.mem_append_right _ (List.mem_append_left _ (show _ ∈ my_163_1 from List.mem_of_getElem? (i := 3) rfl)))
theorem cd_163_137 : mt_cd 163 137 = some (.ldc_w 423) := mt_cd_of (q := (137, .ldc_w 423, 3)) mq_163 ci_163 (List.mem_append_right _ (List.mem_append_left _ (show _ ∈ my_163_1 from List.mem_of_getElem? (i := 4) rfl)))
theorem cd_163_140 : mt_cd 163 140 = some (.invokevirtual 375) := mt_cd_of (q := (140, .invokevirtual 375, 3)) mq_163 ci_163 (List.mem_append_right _ (List.mem_append_left _ (show _ ∈ my_163_1 from List.mem_of_getElem? (i := 5) rfl)))
theorem cd_163_143 : mt_cd 163 143 = some (.ifCond .eq 8) := mt_cd_of (q := (143, .ifCond .eq 8, 3)) mq_163 ci_163 (List.mem_append_right _ (List.mem_append_left _ (show _ ∈ my_163_1 from List.mem_of_getElem? (i := 6) rfl)))
theorem cd_163_146 : mt_cd 163 146 = some (.bipush 15) := mt_cd_of (q := (146, .bipush 15, 2)) mq_163 ci_163 (List.mem_append_right _ (List.mem_append_left _ (show _ ∈ my_163_1 from List.mem_of_getElem? (i := 7) rfl)))
theorem cd_163_148 : mt_cd 163 148 = some (.goto 89) := mt_cd_of (q := (148, .goto 89, 3)) mq_163 ci_163 (List.mem_append_right _ (List.mem_append_left _ (show _ ∈ my_163_1 from List.mem_of_getElem? (i := 8) rfl)))
theorem cd_163_151 : mt_cd 163 151 = some (.aload_n 0) := mt_cd_of (q := (151, .aload_n 0, 1)) mq_163 ci_163 (List.mem_append_right _ (List.mem_append_left _ (show _ ∈ my_163_1 from List.mem_of_getElem? (i := 9) rfl)))
theorem cd_163_152 : mt_cd 163 152 = some (.ldc_w 425) := mt_cd_of (q := (152, .ldc_w 425, 3)) mq_163 ci_163 (List.mem_append_right _ (List.mem_append_left _ (show _ ∈ my_163_1 from List.mem_of_getElem? (i := 10) rfl)))
theorem cd_163_155 : mt_cd 163 155 = some (.invokevirtual 375) := mt_cd_of (q := (155, .invokevirtual 375, 3)) mq_163 ci_163 (List.mem_append_right _ (List.mem_append_left _ (show _ ∈ my_163_1 from List.mem_of_getElem? (i := 11) rfl)))
theorem cd_163_158 : mt_cd 163 158 = some (.ifCond .eq 8) := mt_cd_of (q := (158, .ifCond .eq 8, 3)) mq_163 ci_163 (List.mem_append_right _ (List.mem_append_left _ (show _ ∈ my_163_1 from List.mem_of_getElem? (i := 12) rfl)))
theorem cd_163_161 : mt_cd 163 161 = some (.bipush 16) := mt_cd_of (q := (161, .bipush 16, 2)) mq_163 ci_163 (List.mem_append_right _ (List.mem_append_left _ (show _ ∈ my_163_1 from List.mem_of_getElem? (i := 13) rfl)))
theorem cd_163_163 : mt_cd 163 163 = some (.goto 74) := mt_cd_of (q := (163, .goto 74, 3)) mq_163 ci_163 (List.mem_append_right _ (List.mem_append_left _ (show _ ∈ my_163_1 from List.mem_of_getElem? (i := 14) rfl)))
theorem cd_163_166 : mt_cd 163 166 = some (.aload_n 0) := mt_cd_of (q := (166, .aload_n 0, 1)) mq_163 ci_163 (List.mem_append_right _ (List.mem_append_left _ (show _ ∈ my_163_1 from List.mem_of_getElem? (i := 15) rfl)))
theorem cd_163_167 : mt_cd 163 167 = some (.ldc 51) := mt_cd_of (q := (167, .ldc 51, 2)) mq_163 ci_163 (List.mem_append_right _ (List.mem_append_left _ (show _ ∈ my_163_1 from List.mem_of_getElem? (i := 16) rfl)))
theorem cd_163_169 : mt_cd 163 169 = some (.invokevirtual 387) := mt_cd_of (q := (169, .invokevirtual 387, 3)) mq_163 ci_163 (List.mem_append_right _ (List.mem_append_left _ (show _ ∈ my_163_1 from List.mem_of_getElem? (i := 17) rfl)))
theorem cd_163_172 : mt_cd 163 172 = some (.ifCond .eq 8) := mt_cd_of (q := (172, .ifCond .eq 8, 3)) mq_163 ci_163 (List.mem_append_right _ (List.mem_append_left _ (show _ ∈ my_163_1 from List.mem_of_getElem? (i := 18) rfl)))
theorem cd_163_175 : mt_cd 163 175 = some (.bipush 17) := mt_cd_of (q := (175, .bipush 17, 2)) mq_163 ci_163 (List.mem_append_right _ (List.mem_append_left _ (show _ ∈ my_163_1 from List.mem_of_getElem? (i := 19) rfl)))
theorem cd_163_177 : mt_cd 163 177 = some (.goto 60) := mt_cd_of (q := (177, .goto 60, 3)) mq_163 ci_163 (List.mem_append_right _ (List.mem_append_left _ (show _ ∈ my_163_1 from List.mem_of_getElem? (i := 20) rfl)))
theorem cd_163_180 : mt_cd 163 180 = some (.aload_n 0) := mt_cd_of (q := (180, .aload_n 0, 1)) mq_163 ci_163 (List.mem_append_right _ (List.mem_append_left _ (show _ ∈ my_163_1 from List.mem_of_getElem? (i := 21) rfl)))
theorem cd_163_181 : mt_cd 163 181 = some (.ldc 53) := mt_cd_of (q := (181, .ldc 53, 2)) mq_163 ci_163 (List.mem_append_right _ (List.mem_append_left _ (show _ ∈ my_163_1 from List.mem_of_getElem? (i := 22) rfl)))
theorem cd_163_183 : mt_cd 163 183 = some (.invokevirtual 387) := mt_cd_of (q := (183, .invokevirtual 387, 3)) mq_163 ci_163 (List.mem_append_right _ (List.mem_append_left _ (show _ ∈ my_163_1 from List.mem_of_getElem? (i := 23) rfl)))
theorem cd_163_186 : mt_cd 163 186 = some (.ifCond .eq 8) := mt_cd_of (q := (186, .ifCond .eq 8, 3)) mq_163 ci_163 (List.mem_append_right _ (List.mem_append_left _ (show _ ∈ my_163_1 from List.mem_of_getElem? (i := 24) rfl)))
theorem cd_163_189 : mt_cd 163 189 = some (.bipush 18) := mt_cd_of (q := (189, .bipush 18, 2)) mq_163 ci_163 (List.mem_append_right _ (List.mem_append_left _ (show _ ∈ my_163_1 from List.mem_of_getElem? (i := 25) rfl)))
theorem cd_163_191 : mt_cd 163 191 = some (.goto 46) := mt_cd_of (q := (191, .goto 46, 3)) mq_163 ci_163 (List.mem_append_right _ (List.mem_append_left _ (show _ ∈ my_163_1 from List.mem_of_getElem? (i := 26) rfl)))
theorem cd_163_194 : mt_cd 163 194 = some (.aload_n 0) := mt_cd_of (q := (194, .aload_n 0, 1)) mq_163 ci_163 (List.mem_append_right _ (List.mem_append_left _ (show _ ∈ my_163_1 from List.mem_of_getElem? (i := 27) rfl)))
theorem cd_163_195 : mt_cd 163 195 = some (.ldc 55) := mt_cd_of (q := (195, .ldc 55, 2)) mq_163 ci_163 (List.mem_append_right _ (List.mem_append_left _ (show _ ∈ my_163_1 from List.mem_of_getElem? (i := 28) rfl)))
theorem cd_163_197 : mt_cd 163 197 = some (.invokevirtual 387) := mt_cd_of (q := (197, .invokevirtual 387, 3)) mq_163 ci_163 (List.mem_append_right _ (List.mem_append_left _ (show _ ∈ my_163_1 from List.mem_of_getElem? (i := 29) rfl)))
theorem cd_163_200 : mt_cd 163 200 = some (.ifCond .eq 8) := mt_cd_of (q := (200, .ifCond .eq 8, 3)) mq_163 ci_163 (List.mem_append_right _ (List.mem_append_left _ (show _ ∈ my_163_1 from List.mem_of_getElem? (i := 30) rfl)))
theorem cd_163_203 : mt_cd 163 203 = some (.bipush 19) := mt_cd_of (q := (203, .bipush 19, 2)) mq_163 ci_163 (List.mem_append_right _ (List.mem_append_left _ (show _ ∈ my_163_1 from List.mem_of_getElem? (i := 31) rfl)))
theorem cd_163_205 : mt_cd 163 205 = some (.goto 32) := mt_cd_of (q := (205, .goto 32, 3)) mq_163 ci_163 (List.mem_append_right _ (List.mem_append_left _ (show _ ∈ my_163_1 from List.mem_of_getElem? (i := 32) rfl)))
theorem cd_163_208 : mt_cd 163 208 = some (.aload_n 0) := mt_cd_of (q := (208, .aload_n 0, 1)) mq_163 ci_163 (List.mem_append_right _ (List.mem_append_left _ (show _ ∈ my_163_1 from List.mem_of_getElem? (i := 33) rfl)))
theorem cd_163_209 : mt_cd 163 209 = some (.ldc 57) := mt_cd_of (q := (209, .ldc 57, 2)) mq_163 ci_163 (List.mem_append_right _ (List.mem_append_left _ (show _ ∈ my_163_1 from List.mem_of_getElem? (i := 34) rfl)))
theorem cd_163_211 : mt_cd 163 211 = some (.invokevirtual 387) := mt_cd_of (q := (211, .invokevirtual 387, 3)) mq_163 ci_163 (List.mem_append_right _ (List.mem_append_left _ (show _ ∈ my_163_1 from List.mem_of_getElem? (i := 35) rfl)))
theorem cd_163_214 : mt_cd 163 214 = some (.ifCond .eq 8) := mt_cd_of (q := (214, .ifCond .eq 8, 3)) mq_163 ci_163 (List.mem_append_right _ (List.mem_append_left _ (show _ ∈ my_163_1 from List.mem_of_getElem? (i := 36) rfl)))
theorem cd_163_217 : mt_cd 163 217 = some (.bipush 20) := mt_cd_of (q := (217, .bipush 20, 2)) mq_163 ci_163 (List.mem_append_right _ (List.mem_append_left _ (show _ ∈ my_163_1 from List.mem_of_getElem? (i := 37) rfl)))
theorem cd_163_219 : mt_cd 163 219 = some (.goto 18) := mt_cd_of (q := (219, .goto 18, 3)) mq_163 ci_163 (List.mem_append_right _ (List.mem_append_left _ (show _ ∈ my_163_1 from List.mem_of_getElem? (i := 38) rfl)))
theorem cd_163_222 : mt_cd 163 222 = some (.aload_n 0) := mt_cd_of (q := (222, .aload_n 0, 1)) mq_163 ci_163 (List.mem_append_right _ (List.mem_append_left _ (show _ ∈ my_163_1 from List.mem_of_getElem? (i := 39) rfl)))
theorem cd_163_223 : mt_cd 163 223 = some (.ldc 59) := mt_cd_of (q := (223, .ldc 59, 2)) mq_163 ci_163 (List.mem_append_right _ (List.mem_append_left _ (show _ ∈ my_163_1 from List.mem_of_getElem? (i := 40) rfl)))
theorem cd_163_225 : mt_cd 163 225 = some (.invokevirtual 387) := mt_cd_of (q := (225, .invokevirtual 387, 3)) mq_163 ci_163 (List.mem_append_right _ (List.mem_append_left _ (show _ ∈ my_163_1 from List.mem_of_getElem? (i := 41) rfl)))
theorem cd_163_228 : mt_cd 163 228 = some (.ifCond .eq 8) := mt_cd_of (q := (228, .ifCond .eq 8, 3)) mq_163 ci_163 (List.mem_append_right _ (List.mem_append_left _ (show _ ∈ my_163_1 from List.mem_of_getElem? (i := 42) rfl)))
theorem cd_163_231 : mt_cd 163 231 = some (.bipush 21) := mt_cd_of (q := (231, .bipush 21, 2)) mq_163 ci_163 (List.mem_append_right _ (List.mem_append_left _ (show _ ∈ my_163_1 from List.mem_of_getElem? (i := 43) rfl)))
theorem cd_163_233 : mt_cd 163 233 = some (.goto 4) := mt_cd_of (q := (233, .goto 4, 3)) mq_163 ci_163 (List.mem_append_right _ (List.mem_append_left _ (show _ ∈ my_163_1 from List.mem_of_getElem? (i := 44) rfl)))
theorem cd_163_236 : mt_cd 163 236 = some (.iconst (-1)) := mt_cd_of (q := (236, .iconst (-1), 1)) mq_163 ci_163 (List.mem_append_right _ (List.mem_append_left _ (show _ ∈ my_163_1 from List.mem_of_getElem? (i := 45) rfl)))
theorem cd_163_237 : mt_cd 163 237 = some (.istore_n 1) := mt_cd_of (q := (237, .istore_n 1, 1)) mq_163 ci_163 (List.mem_append_right _ (List.mem_append_left _ (show _ ∈ my_163_1 from List.mem_of_getElem? (i := 46) rfl)))
theorem cd_163_238 : mt_cd 163 238 = some (.iload_n 1) := mt_cd_of (q := (238, .iload_n 1, 1)) mq_163 ci_163 (List.mem_append_right _ (List.mem_append_left _ (show _ ∈ my_163_1 from List.mem_of_getElem? (i := 47) rfl)))
theorem cd_163_239 : mt_cd 163 239 = some (.ifCond .ge 14) := mt_cd_of (q := (239, .ifCond .ge 14, 3)) mq_163 ci_163 (List.mem_append_right _ (List.mem_append_left _ (show _ ∈ my_163_1 from List.mem_of_getElem? (i := 48) rfl)))
theorem cd_163_242 : mt_cd 163 242 = some (.aload_n 0) := mt_cd_of (q := (242, .aload_n 0, 1)) mq_163 ci_163 (List.mem_append_right _ (List.mem_append_left _ (show _ ∈ my_163_1 from List.mem_of_getElem? (i := 49) rfl)))
theorem cd_163_243 : mt_cd 163 243 = some (.aload_n 0) := mt_cd_of (q := (243, .aload_n 0, 1)) mq_163 ci_163 (List.mem_append_right _ (List.mem_append_left _ (show _ ∈ my_163_1 from List.mem_of_getElem? (i := 50) rfl)))
theorem cd_163_244 : mt_cd 163 244 = some (.getfield 299) := mt_cd_of (q := (244, .getfield 299, 3)) mq_163 ci_163 (List.mem_append_right _ (List.mem_append_left _ (show _ ∈ my_163_1 from List.mem_of_getElem? (i := 51) rfl)))
theorem cd_163_247 : mt_cd 163 247 = some (.invokevirtual 272) := mt_cd_of (q := (247, .invokevirtual 272, 3)) mq_163 ci_163 (List.mem_append_right _ (List.mem_append_left _ (show _ ∈ my_163_1 from List.mem_of_getElem? (i := 52) rfl)))
theorem cd_163_250 : mt_cd 163 250 = some (.pop) := mt_cd_of (q := (250, .pop, 1)) mq_163 ci_163 (List.mem_append_right _ (List.mem_append_left _ (show _ ∈ my_163_1 from List.mem_of_getElem? (i := 53) rfl)))
theorem cd_163_251 : mt_cd 163 251 = some (.iconst (-1)) := mt_cd_of (q := (251, .iconst (-1), 1)) mq_163 ci_163 (List.mem_append_right _ (List.mem_append_left _ (show _ ∈ my_163_1 from List.mem_of_getElem? (i := 54) rfl)))
theorem cd_163_252 : mt_cd 163 252 = some (.ireturn) := mt_cd_of (q := (252, .ireturn, 1)) mq_163 ci_163 (List.mem_append_right _ (List.mem_append_left _ (show _ ∈ my_163_1 from List.mem_of_getElem? (i := 55) rfl)))
theorem cd_163_253 : mt_cd 163 253 = some (.aload_n 0) := mt_cd_of (q := (253, .aload_n 0, 1)) mq_163 ci_163 (List.mem_append_right _ (List.mem_append_left _ (show _ ∈ my_163_1 from List.mem_of_getElem? (i := 56) rfl)))
theorem cd_163_254 : mt_cd 163 254 = some (.invokevirtual 378) := mt_cd_of (q := (254, .invokevirtual 378, 3)) mq_163 ci_163 (List.mem_append_right _ (List.mem_append_left _ (show _ ∈ my_163_1 from List.mem_of_getElem? (i := 57) rfl)))
theorem cd_163_257 : mt_cd 163 257 = some (.ifCond .ne 5) := mt_cd_of (q := (257, .ifCond .ne 5, 3)) mq_163 ci_163 (List.mem_append_right _ (List.mem_append_left _ (show _ ∈ my_163_1 from List.mem_of_getElem? (i := 58) rfl)))
theorem cd_163_260 : mt_cd 163 260 = some (.iconst (-1)) := mt_cd_of (q := (260, .iconst (-1), 1)) mq_163 ci_163 (List.mem_append_right _ (List.mem_append_left _ (show _ ∈ my_163_1 from List.mem_of_getElem? (i := 59) rfl)))
theorem cd_163_261 : mt_cd 163 261 = some (.ireturn) := mt_cd_of (q := (261, .ireturn, 1)) mq_163 ci_163 (List.mem_append_right _ (List.mem_append_right _ (List.mem_append_left _ (show _ ∈ my_163_2 from List.mem_of_getElem? (i := 0) rfl))))
theorem cd_163_262 : mt_cd 163 262 = some (.aload_n 0) := mt_cd_of (q := (262, .aload_n 0, 1)) mq_163 ci_163 (List.mem_append_right _ (List.mem_append_right _ (List.mem_append_left _ (show _ ∈ my_163_2 from List.mem_of_getElem? (i := 1) rfl))))
theorem cd_163_263 : mt_cd 163 263 = some (.iload_n 1) := mt_cd_of (q := (263, .iload_n 1, 1)) mq_163 ci_163 (List.mem_append_right _ (List.mem_append_right _ (List.mem_append_left _ (show _ ∈ my_163_2 from List.mem_of_getElem? (i := 2) rfl))))
theorem cd_163_264 : mt_cd 163 264 = some (.invokevirtual 390) := mt_cd_of (q := (264, .invokevirtual 390, 3)) mq_163 ci_163 (List.mem_append_right _ (List.mem_append_right _ (List.mem_append_left _ (show _ ∈ my_163_2 from List.mem_of_getElem? (i := 3) rfl))))
theorem cd_163_267 : mt_cd 163 267 = some (.istore_n 2) := mt_cd_of (q := (267, .istore_n 2, 1)) mq_163 ci_163 (List.mem_append_right _ (List.mem_append_right _ (List.mem_append_left _ (show _ ∈ my_163_2 from List.mem_of_getElem? (i := 4) rfl))))
theorem cd_163_268 : mt_cd 163 268 = some (.iload_n 2) := mt_cd_of (q := (268, .iload_n 2, 1)) mq_163 ci_163 (List.mem_append_right _ (List.mem_append_right _ (List.mem_append_left _ (show _ ∈ my_163_2 from List.mem_of_getElem? (i := 5) rfl))))
theorem cd_163_269 : mt_cd 163 269 = some (.ifCond .lt 13) := mt_cd_of (q := (269, .ifCond .lt 13, 3)) mq_163 ci_163 (List.mem_append_right _ (List.mem_append_right _ (List.mem_append_left _ (show _ ∈ my_163_2 from List.mem_of_getElem? (i := 6) rfl))))
theorem cd_163_272 : mt_cd 163 272 = some (.aload_n 0) := mt_cd_of (q := (272, .aload_n 0, 1)) mq_163 ci_163 (List.mem_append_right _ (List.mem_append_right _ (List.mem_append_left _ (show _ ∈ my_163_2 from List.mem_of_getElem? (i := 7) rfl))))
theorem cd_163_273 : mt_cd 163 273 = some (.getfield 101) := mt_cd_of (q := (273, .getfield 101, 3)) mq_163 ci_163 (List.mem_append_right _ (List.mem_append_right _ (List.mem_append_left _ (show _ ∈ my_163_2 from List.mem_of_getElem? (i := 8) rfl))))
theorem cd_163_276 : mt_cd 163 276 = some (.iload_n 2) := mt_cd_of (q := (276, .iload_n 2, 1)) mq_163 ci_163 (List.mem_append_right _ (List.mem_append_right _ (List.mem_append_left _ (show _ ∈ my_163_2 from List.mem_of_getElem? (i := 9) rfl))))
theorem cd_163_277 : mt_cd 163 277 = some (.aload_n 0) := mt_cd_of (q := (277, .aload_n 0, 1)) mq_163 ci_163 (List.mem_append_right _ (List.mem_append_right _ (List.mem_append_left _ (show _ ∈ my_163_2 from List.mem_of_getElem? (i := 10) rfl))))
theorem cd_163_278 : mt_cd 163 278 = some (.getfield 327) := mt_cd_of (q := (278, .getfield 327, 3)) mq_163 ci_163 (List.mem_append_right _ (List.mem_append_right _ (List.mem_append_left _ (show _ ∈ my_163_2 from List.mem_of_getElem? (i := 11) rfl))))
theorem cd_163_281 : mt_cd 163 281 = some (.lastore) := mt_cd_of (q := (281, .lastore, 1)) mq_163 ci_163 (List.mem_append_right _ (List.mem_append_right _ (List.mem_append_left _ (show _ ∈ my_163_2 from List.mem_of_getElem? (i := 12) rfl))))
theorem cd_163_282 : mt_cd 163 282 = some (.iload_n 2) := mt_cd_of (q := (282, .iload_n 2, 1)) mq_163 ci_163 (List.mem_append_right _ (List.mem_append_right _ (List.mem_append_left _ (show _ ∈ my_163_2 from List.mem_of_getElem? (i := 13) rfl))))
theorem cd_163_283 : mt_cd 163 283 = some (.ifCond .lt 14) := mt_cd_of (q := (283, .ifCond .lt 14, 3)) mq_163 ci_163 (List.mem_append_right _ (List.mem_append_right _ (List.mem_append_left _ (show _ ∈ my_163_2 from List.mem_of_getElem? (i := 14) rfl))))
theorem cd_163_286 : mt_cd 163 286 = some (.aload_n 0) := mt_cd_of (q := (286, .aload_n 0, 1)) mq_163 ci_163 (List.mem_append_right _ (List.mem_append_right _ (List.mem_append_left _ (show _ ∈ my_163_2 from List.mem_of_getElem? (i := 15) rfl))))
theorem cd_163_287 : mt_cd 163 287 = some (.invokevirtual 333) := mt_cd_of (q := (287, .invokevirtual 333, 3)) mq_163 ci_163 (List.mem_append_right _ (List.mem_append_right _ (List.mem_append_left _ (show _ ∈ my_163_2 from List.mem_of_getElem? (i := 16) rfl))))
theorem cd_163_290 : mt_cd 163 290 = some (.ifCond .eq 7) := mt_cd_of (q := (290, .ifCond .eq 7, 3)) mq_163 ci_163 (List.mem_append_right _ (List.mem_append_right _ (List.mem_append_left _ (show _ ∈ my_163_2 from List.mem_of_getElem? (i := 17) rfl))))
theorem cd_163_293 : mt_cd 163 293 = some (.iconst 1) := mt_cd_of (q := (293, .iconst 1, 1)) mq_163 ci_163 (List.mem_append_right _ (List.mem_append_right _ (List.mem_append_left _ (show _ ∈ my_163_2 from List.mem_of_getElem? (i := 18) rfl))))
theorem cd_163_294 : mt_cd 163 294 = some (.goto 4) := mt_cd_of (q := (294, .goto 4, 3)) mq_163 ci_163 (List.mem_append_right _ (List.mem_append_right _ (List.mem_append_left _ (show _ ∈ my_163_2 from List.mem_of_getElem? (i := 19) rfl))))
theorem cd_163_297 : mt_cd 163 297 = some (.iconst 0) := mt_cd_of (q := (297, .iconst 0, 1)) mq_163 ci_163 (List.mem_append_right _ (List.mem_append_right _ (List.mem_append_left _ (show _ ∈ my_163_2 from List.mem_of_getElem? (i := 20) rfl))))
theorem cd_163_298 : mt_cd 163 298 = some (.istore_n 3) := mt_cd_of (q := (298, .istore_n 3, 1)) mq_163 ci_163 (List.mem_append_right _ (List.mem_append_right _ (List.mem_append_left _ (show _ ∈ my_163_2 from List.mem_of_getElem? (i := 21) rfl))))
theorem cd_163_299 : mt_cd 163 299 = some (.iload_n 3) := mt_cd_of (q := (299, .iload_n 3, 1)) mq_163 ci_163 (List.mem_append_right _ (List.mem_append_right _ (List.mem_append_left _ (show _ ∈ my_163_2 from List.mem_of_getElem? (i := 22) rfl))))
theorem cd_163_300 : mt_cd 163 300 = some (.ifCond .eq 258) := mt_cd_of (q := (300, .ifCond .eq 258, 3)) mq_163 ci_163 (List.mem_append_right _ (List.mem_append_right _ (List.mem_append_left _ (show _ ∈ my_163_2 from List.mem_of_getElem? (i := 23) rfl))))
theorem cd_163_303 : mt_cd 163 303 = some (.iload_n 1) := mt_cd_of (q := (303, .iload_n 1, 1)) mq_163 ci_163 (List.mem_append_right _ (List.mem_append_right _ (List.mem_append_left _ (show _ ∈ my_163_2 from List.mem_of_getElem? (i := 24) rfl))))
theorem cd_163_304 : mt_cd 163 304 = some (.tableswitch 254 11 21 #[60, 97, 120, 120, 120, 120, 157, 180, 254, 254, 203]) := mt_cd_of (q := (304, .tableswitch 254 11 21 #[60, 97, 120, 120, 120, 120, 157, 180, 254, 254, 203], 60)) mq_163 ci_163 (List.mem_append_right _ (List.mem_append_right _ (List.mem_append_left _ (show _ ∈ my_163_2 from List.mem_of_getElem? (i := 25) rfl))))
theorem cd_163_364 : mt_cd 163 364 = some (.aload_n 0) := mt_cd_of (q := (364, .aload_n 0, 1)) mq_163 ci_163 (List.mem_append_right _ (List.mem_append_right _ (List.mem_append_left _ (show _ ∈ my_163_2 from List.mem_of_getElem? (i := 26) rfl))))
theorem cd_163_365 : mt_cd 163 365 = some (.getfield 80) := mt_cd_of (q := (365, .getfield 80, 3)) mq_163 ci_163 (List.mem_append_right _ (List.mem_append_right _ (List.mem_append_left _ (show _ ∈ my_163_2 from List.mem_of_getElem? (i := 27) rfl))))
theorem cd_163_368 : mt_cd 163 368 = some (.iload_n 2) := mt_cd_of (q := (368, .iload_n 2, 1)) mq_163 ci_163 (List.mem_append_right _ (List.mem_append_right _ (List.mem_append_left _ (show _ ∈ my_163_2 from List.mem_of_getElem? (i := 28) rfl))))
theorem cd_163_369 : mt_cd 163 369 = some (.aload_n 0) := mt_cd_of (q := (369, .aload_n 0, 1)) mq_163 ci_163 (List.mem_append_right _ (List.mem_append_right _ (List.mem_append_left _ (show _ ∈ my_163_2 from List.mem_of_getElem? (i := 29) rfl))))
theorem cd_163_370 : mt_cd 163 370 = some (.invokevirtual 370) := mt_cd_of (q := (370, .invokevirtual 370, 3)) mq_163 ci_163 (List.mem_append_right _ (List.mem_append_right _ (List.mem_append_left _ (show _ ∈ my_163_2 from List.mem_of_getElem? (i := 30) rfl))))
theorem cd_163_373 : mt_cd 163 373 = some (.dup_x2) := mt_cd_of (q := (373, .dup_x2, 1)) mq_163 ci_163 (List.mem_append_right _ (List.mem_append_right _ (List.mem_append_left _ (show _ ∈ my_163_2 from List.mem_of_getElem? (i := 31) rfl))))
theorem cd_163_374 : mt_cd 163 374 = some (.iastore) := mt_cd_of (q := (374, .iastore, 1)) mq_163 ci_163 (List.mem_append_right _ (List.mem_append_right _ (List.mem_append_left _ (show _ ∈ my_163_2 from List.mem_of_getElem? (i := 32) rfl))))
theorem cd_163_375 : mt_cd 163 375 = some (.ifCond .lt 21) := mt_cd_of (q := (375, .ifCond .lt 21, 3)) mq_163 ci_163 (List.mem_append_right _ (List.mem_append_right _ (List.mem_append_left _ (show _ ∈ my_163_2 from List.mem_of_getElem? (i := 33) rfl))))
theorem cd_163_378 : mt_cd 163 378 = some (.aload_n 0) := mt_cd_of (q := (378, .aload_n 0, 1)) mq_163 ci_163 (List.mem_append_right _ (List.mem_append_right _ (List.mem_append_left _ (show _ ∈ my_163_2 from List.mem_of_getElem? (i := 34) rfl))))
theorem cd_163_379 : mt_cd 163 379 = some (.getfield 86) := mt_cd_of (q := (379, .getfield 86, 3)) mq_163 ci_163 (List.mem_append_right _ (List.mem_append_right _ (List.mem_append_left _ (show _ ∈ my_163_2 from List.mem_of_getElem? (i := 35) rfl))))
theorem cd_163_382 : mt_cd 163 382 = some (.iload_n 2) := mt_cd_of (q := (382, .iload_n 2, 1)) mq_163 ci_163 (List.mem_append_right _ (List.mem_append_right _ (List.mem_append_left _ (show _ ∈ my_163_2 from List.mem_of_getElem? (i := 36) rfl))))
theorem cd_163_383 : mt_cd 163 383 = some (.aload_n 0) := mt_cd_of (q := (383, .aload_n 0, 1)) mq_163 ci_163 (List.mem_append_right _ (List.mem_append_right _ (List.mem_append_left _ (show _ ∈ my_163_2 from List.mem_of_getElem? (i := 37) rfl))))
theorem cd_163_384 : mt_cd 163 384 = some (.invokevirtual 396) := mt_cd_of (q := (384, .invokevirtual 396, 3)) mq_163 ci_163 (List.mem_append_right _ (List.mem_append_right _ (List.mem_append_left _ (show _ ∈ my_163_2 from List.mem_of_getElem? (i := 38) rfl))))
theorem cd_163_387 : mt_cd 163 387 = some (.dup_x2) := mt_cd_of (q := (387, .dup_x2, 1)) mq_163 ci_163 (List.mem_append_right _ (List.mem_append_right _ (List.mem_append_left _ (show _ ∈ my_163_2 from List.mem_of_getElem? (i := 39) rfl))))
theorem cd_163_388 : mt_cd 163 388 = some (.iastore) := mt_cd_of (q := (388, .iastore, 1)) mq_163 ci_163 (List.mem_append_right _ (List.mem_append_right _ (List.mem_append_left _ (show _ ∈ my_163_2 from List.mem_of_getElem? (i := 40) rfl))))
theorem cd_163_389 : mt_cd 163 389 = some (.ifCond .lt 7) := mt_cd_of (q := (389, .ifCond .lt 7, 3)) mq_163 ci_163 (List.mem_append_right _ (List.mem_append_right _ (List.mem_append_left _ (show _ ∈ my_163_2 from List.mem_of_getElem? (i := 41) rfl))))
theorem cd_163_392 : mt_cd 163 392 = some (.iconst 1) := mt_cd_of (q := (392, .iconst 1, 1)) mq_163 ci_163 (List.mem_append_right _ (List.mem_append_right _ (List.mem_append_left _ (show _ ∈ my_163_2 from List.mem_of_getElem? (i := 42) rfl))))
theorem cd_163_393 : mt_cd 163 393 = some (.goto 4) := mt_cd_of (q := (393, .goto 4, 3)) mq_163 ci_163 (List.mem_append_right _ (List.mem_append_right _ (List.mem_append_left _ (show _ ∈ my_163_2 from List.mem_of_getElem? (i := 43) rfl))))
theorem cd_163_396 : mt_cd 163 396 = some (.iconst 0) := mt_cd_of (q := (396, .iconst 0, 1)) mq_163 ci_163 (List.mem_append_right _ (List.mem_append_right _ (List.mem_append_left _ (show _ ∈ my_163_2 from List.mem_of_getElem? (i := 44) rfl))))
theorem cd_163_397 : mt_cd 163 397 = some (.istore_n 3) := mt_cd_of (q := (397, .istore_n 3, 1)) mq_163 ci_163 (List.mem_append_right _ (List.mem_append_right _ (List.mem_append_left _ (show _ ∈ my_163_2 from List.mem_of_getElem? (i := 45) rfl))))
theorem cd_163_398 : mt_cd 163 398 = some (.goto 160) := mt_cd_of (q := (398, .goto 160, 3)) mq_163 ci_163 (List.mem_append_right _ (List.mem_append_right _ (List.mem_append_left _ (show _ ∈ my_163_2 from List.mem_of_getElem? (i := 46) rfl))))
theorem cd_163_401 : mt_cd 163 401 = some (.aload_n 0) := mt_cd_of (q := (401, .aload_n 0, 1)) mq_163 ci_163 (List.mem_append_right _ (List.mem_append_right _ (List.mem_append_left _ (show _ ∈ my_163_2 from List.mem_of_getElem? (i := 47) rfl))))
theorem cd_163_402 : mt_cd 163 402 = some (.getfield 80) := mt_cd_of (q := (402, .getfield 80, 3)) mq_163 ci_163 (List.mem_append_right _ (List.mem_append_right _ (List.mem_append_left _ (show _ ∈ my_163_2 from List.mem_of_getElem? (i := 48) rfl))))
theorem cd_163_405 : mt_cd 163 405 = some (.iload_n 2) := mt_cd_of (q := (405, .iload_n 2, 1)) mq_163 ci_163 (List.mem_append_right _ (List.mem_append_right _ (List.mem_append_left _ (show _ ∈ my_163_2 from List.mem_of_getElem? (i := 49) rfl))))
theorem cd_163_406 : mt_cd 163 406 = some (.aload_n 0) := mt_cd_of (q := (406, .aload_n 0, 1)) mq_163 ci_163 (List.mem_append_right _ (List.mem_append_right _ (List.mem_append_left _ (show _ ∈ my_163_2 from List.mem_of_getElem? (i := 50) rfl))))
theorem cd_163_407 : mt_cd 163 407 = some (.invokevirtual 399) := mt_cd_of (q := (407, .invokevirtual 399, 3)) mq_163 ci_163 (List.mem_append_right _ (List.mem_append_right _ (List.mem_append_left _ (show _ ∈ my_163_2 from List.mem_of_getElem? (i := 51) rfl))))
theorem cd_163_410 : mt_cd 163 410 = some (.dup_x2) := mt_cd_of (q := (410, .dup_x2, 1)) mq_163 ci_163 (List.mem_append_right _ (List.mem_append_right _ (List.mem_append_left _ (show _ ∈ my_163_2 from List.mem_of_getElem? (i := 52) rfl))))
theorem cd_163_411 : mt_cd 163 411 = some (.iastore) := mt_cd_of (q := (411, .iastore, 1)) mq_163 ci_163 (List.mem_append_right _ (List.mem_append_right _ (List.mem_append_left _ (show _ ∈ my_163_2 from List.mem_of_getElem? (i := 53) rfl))))
theorem cd_163_412 : mt_cd 163 412 = some (.ifCond .lt 7) := mt_cd_of (q := (412, .ifCond .lt 7, 3)) mq_163 ci_163 (List.mem_append_right _ (List.mem_append_right _ (List.mem_append_left _ (show _ ∈ my_163_2 from List.mem_of_getElem? (i := 54) rfl))))
theorem cd_163_415 : mt_cd 163 415 = some (.iconst 1) := mt_cd_of (q := (415, .iconst 1, 1)) mq_163 ci_163 (List.mem_append_right _ (List.mem_append_right _ (List.mem_append_left _ (show _ ∈ my_163_2 from List.mem_of_getElem? (i := 55) rfl))))
theorem cd_163_416 : mt_cd 163 416 = some (.goto 4) := mt_cd_of (q := (416, .goto 4, 3)) mq_163 ci_163 (List.mem_append_right _ (List.mem_append_right _ (List.mem_append_left _ (show _ ∈ my_163_2 from List.mem_of_getElem? (i := 56) rfl))))
theorem cd_163_419 : mt_cd 163 419 = some (.iconst 0) := mt_cd_of (q := (419, .iconst 0, 1)) mq_163 ci_163 (List.mem_append_right _ (List.mem_append_right _ (List.mem_append_left _ (show _ ∈ my_163_2 from List.mem_of_getElem? (i := 57) rfl))))
theorem cd_163_420 : mt_cd 163 420 = some (.istore_n 3) := mt_cd_of (q := (420, .istore_n 3, 1)) mq_163 ci_163 (List.mem_append_right _ (List.mem_append_right _ (List.mem_append_left _ (show _ ∈ my_163_2 from List.mem_of_getElem? (i := 58) rfl))))
theorem cd_163_421 : mt_cd 163 421 = some (.goto 137) := mt_cd_of (q := (421, .goto 137, 3)) mq_163 ci_163 (List.mem_append_right _ (List.mem_append_right _ (List.mem_append_left _ (show _ ∈ my_163_2 from List.mem_of_getElem? (i := 59) rfl))))
theorem cd_163_424 : mt_cd 163 424 = some (.aload_n 0) := mt_cd_of (q := (424, .aload_n 0, 1)) mq_163 ci_163 (List.mem_append_right _ (List.mem_append_right _ (List.mem_append_right _ (List.mem_append_left _ (show _ ∈ my_163_3 from List.mem_of_getElem? (i := 0) rfl)))))
theorem cd_163_425 : mt_cd 163 425 = some (.getfield 80) := mt_cd_of (q := (425, .getfield 80, 3)) mq_163 ci_163 (List.mem_append_right _ (List.mem_append_right _ (List.mem_append_right _ (List.mem_append_left _ (show _ ∈ my_163_3 from List.mem_of_getElem? (i := 1) rfl)))))
theorem cd_163_428 : mt_cd 163 428 = some (.iload_n 2) := mt_cd_of (q := (428, .iload_n 2, 1)) mq_163 ci_163 (List.mem_append_right _ (List.mem_append_right _ (List.mem_append_right _ (List.mem_append_left _ (show _ ∈ my_163_3 from List.mem_of_getElem? (i := 2) rfl)))))
theorem cd_163_429 : mt_cd 163 429 = some (.aload_n 0) := mt_cd_of (q := (429, .aload_n 0, 1)) mq_163 ci_163 (List.mem_append_right _ (List.mem_append_right _ (List.mem_append_right _ (List.mem_append_left _ (show _ ∈ my_163_3 from List.mem_of_getElem? (i := 3) rfl)))))
theorem cd_163_430 : mt_cd 163 430 = some (.invokevirtual 399) := mt_cd_of (q := (430, .invokevirtual 399, 3)) mq_163 ci_163 (List.mem_append_right _ (List.mem_append_right _ (List.mem_append_right _ (List.mem_append_left _ (show _ ∈ my_163_3 from List.mem_of_getElem? (i := 4) rfl)))))
theorem cd_163_433 : mt_cd 163 433 = some (.dup_x2) := mt_cd_of (q := (433, .dup_x2, 1)) mq_163 ci_163 (List.mem_append_right _ (List.mem_append_right _ (List.mem_append_right _ (List.mem_append_left _ (show _ ∈ my_163_3 from List.mem_of_getElem? (i := 5) rfl)))))
theorem cd_163_434 : mt_cd 163 434 = some (.iastore) := mt_cd_of (q := (434, .iastore, 1)) mq_163 ci_163 (List.mem_append_right _ (List.mem_append_right _ (List.mem_append_right _ (List.mem_append_left _ (show _ ∈ my_163_3 from List.mem_of_getElem? (i := 6) rfl)))))
theorem cd_163_435 : mt_cd 163 435 = some (.ifCond .lt 21) := mt_cd_of (q := (435, .ifCond .lt 21, 3)) mq_163 ci_163 (List.mem_append_right _ (List.mem_append_right _ (List.mem_append_right _ (List.mem_append_left _ (show _ ∈ my_163_3 from List.mem_of_getElem? (i := 7) rfl)))))
theorem cd_163_438 : mt_cd 163 438 = some (.aload_n 0) := mt_cd_of (q := (438, .aload_n 0, 1)) mq_163 ci_163 (List.mem_append_right _ (List.mem_append_right _ (List.mem_append_right _ (List.mem_append_left _ (show _ ∈ my_163_3 from List.mem_of_getElem? (i := 8) rfl)))))
theorem cd_163_439 : mt_cd 163 439 = some (.getfield 83) := mt_cd_of (q := (439, .getfield 83, 3)) mq_163 ci_163 (List.mem_append_right _ (List.mem_append_right _ (List.mem_append_right _ (List.mem_append_left _ (show _ ∈ my_163_3 from List.mem_of_getElem? (i := 9) rfl)))))
theorem cd_163_442 : mt_cd 163 442 = some (.iload_n 2) := mt_cd_of (q := (442, .iload_n 2, 1)) mq_163 ci_163 (List.mem_append_right _ (List.mem_append_right _ (List.mem_append_right _ (List.mem_append_left _ (show _ ∈ my_163_3 from List.mem_of_getElem? (i := 10) rfl)))))
theorem cd_163_443 : mt_cd 163 443 = some (.aload_n 0) := mt_cd_of (q := (443, .aload_n 0, 1)) mq_163 ci_163 (List.mem_append_right _ (List.mem_append_right _ (List.mem_append_right _ (List.mem_append_left _ (show _ ∈ my_163_3 from List.mem_of_getElem? (i := 11) rfl)))))
theorem cd_163_444 : mt_cd 163 444 = some (.invokevirtual 399) := mt_cd_of (q := (444, .invokevirtual 399, 3)) mq_163 ci_163 (List.mem_append_right _ (List.mem_append_right _ (List.mem_append_right _ (List.mem_append_left _ (show _ ∈ my_163_3 from List.mem_of_getElem? (i := 12) rfl)))))
theorem cd_163_447 : mt_cd 163 447 = some (.dup_x2) := mt_cd_of (q := (447, .dup_x2, 1)) mq_163 ci_163 (List.mem_append_right _ (List.mem_append_right _ (List.mem_append_right _ (List.mem_append_left _ (show _ ∈ my_163_3 from List.mem_of_getElem? (i := 13) rfl)))))
theorem cd_163_448 : mt_cd 163 448 = some (.iastore) := mt_cd_of (q := (448, .iastore, 1)) mq_163 ci_163 (List.mem_append_right _ (List.mem_append_right _ (List.mem_append_right _ (List.mem_append_left _ (show _ ∈ my_163_3 from List.mem_of_getElem? (i := 14) rfl)))))
theorem cd_163_449 : mt_cd 163 449 = some (.ifCond .lt 7) := mt_cd_of (q := (449, .ifCond .lt 7, 3)) mq_163 ci_163 (List.mem_append_right _ (List.mem_append_right _ (List.mem_append_right _ (List.mem_append_left _ (show _ ∈ my_163_3 from List.mem_of_getElem? (i := 15) rfl)))))
theorem cd_163_452 : mt_cd 163 452 = some (.iconst 1) := mt_cd_of (q := (452, .iconst 1, 1)) mq_163 ci_163 (List.mem_append_right _ (List.mem_append_right _ (List.mem_append_right _ (List.mem_append_left _ (show _ ∈ my_163_3 from List.mem_of_getElem? (i := 16) rfl)))))
theorem cd_163_453 : mt_cd 163 453 = some (.goto 4) := mt_cd_of (q := (453, .goto 4, 3)) mq_163 ci_163 (List.mem_append_right _ (List.mem_append_right _ (List.mem_append_right _ (List.mem_append_left _ (show _ ∈ my_163_3 from List.mem_of_getElem? (i := 17) rfl)))))
theorem cd_163_456 : mt_cd 163 456 = some (.iconst 0) := mt_cd_of (q := (456, .iconst 0, 1)) mq_163 ci_163 (List.mem_append_right _ (List.mem_append_right _ (List.mem_append_right _ (List.mem_append_left _ (show _ ∈ my_163_3 from List.mem_of_getElem? (i := 18) rfl)))))
theorem cd_163_457 : mt_cd 163 457 = some (.istore_n 3) := mt_cd_of (q := (457, .istore_n 3, 1)) mq_163 ci_163 (List.mem_append_right _ (List.mem_append_right _ (List.mem_append_right _ (List.mem_append_left _ (show _ ∈ my_163_3 from List.mem_of_getElem? (i := 19) rfl)))))
theorem cd_163_458 : mt_cd 163 458 = some (.goto 100) := mt_cd_of (q := (458, .goto 100, 3)) mq_163 ci_163 (List.mem_append_right _ (List.mem_append_right _ (List.mem_append_right _ (List.mem_append_left _ (show _ ∈ my_163_3 from List.mem_of_getElem? (i := 20) rfl)))))
theorem cd_163_461 : mt_cd 163 461 = some (.aload_n 0) := mt_cd_of (q := (461, .aload_n 0, 1)) mq_163 ci_163 (List.mem_append_right _ (List.mem_append_right _ (List.mem_append_right _ (List.mem_append_left _ (show _ ∈ my_163_3 from List.mem_of_getElem? (i := 21) rfl)))))
theorem cd_163_462 : mt_cd 163 462 = some (.getfield 80) := mt_cd_of (q := (462, .getfield 80, 3)) mq_163 ci_163 (List.mem_append_right _ (List.mem_append_right _ (List.mem_append_right _ (List.mem_append_left _ (show _ ∈ my_163_3 from List.mem_of_getElem? (i := 22) rfl)))))
theorem cd_163_465 : mt_cd 163 465 = some (.iload_n 2) := mt_cd_of (q := (465, .iload_n 2, 1)) mq_163 ci_163 (List.mem_append_right _ (List.mem_append_right _ (List.mem_append_right _ (List.mem_append_left _ (show _ ∈ my_163_3 from List.mem_of_getElem? (i := 23) rfl)))))
theorem cd_163_466 : mt_cd 163 466 = some (.aload_n 0) := mt_cd_of (q := (466, .aload_n 0, 1)) mq_163 ci_163 (List.mem_append_right _ (List.mem_append_right _ (List.mem_append_right _ (List.mem_append_left _ (show _ ∈ my_163_3 from List.mem_of_getElem? (i := 24) rfl)))))
theorem cd_163_467 : mt_cd 163 467 = some (.invokevirtual 416) := mt_cd_of (q := (467, .invokevirtual 416, 3)) mq_163 ci_163 (List.mem_append_right _ (List.mem_append_right _ (List.mem_append_right _ (List.mem_append_left _ (show _ ∈ my_163_3 from List.mem_of_getElem? (i := 25) rfl)))))
theorem cd_163_470 : mt_cd 163 470 = some (.dup_x2) := mt_cd_of (q := (470, .dup_x2, 1)) mq_163 ci_163 (List.mem_append_right _ (List.mem_append_right _ (List.mem_append_right _ (List.mem_append_left _ (show _ ∈ my_163_3 from List.mem_of_getElem? (i := 26) rfl)))))
theorem cd_163_471 : mt_cd 163 471 = some (.iastore) := mt_cd_of (q := (471, .iastore, 1)) mq_163 ci_163 (List.mem_append_right _ (List.mem_append_right _ (List.mem_append_right _ (List.mem_append_left _ (show _ ∈ my_163_3 from List.mem_of_getElem? (i := 27) rfl)))))
theorem cd_163_472 : mt_cd 163 472 = some (.ifCond .lt 7) := mt_cd_of (q := (472, .ifCond .lt 7, 3)) mq_163 ci_163 (List.mem_append_right _ (List.mem_append_right _ (List.mem_append_right _ (List.mem_append_left _ (show _ ∈ my_163_3 from List.mem_of_getElem? (i := 28) rfl)))))
theorem cd_163_475 : mt_cd 163 475 = some (.iconst 1) := mt_cd_of (q := (475, .iconst 1, 1)) mq_163 ci_163 (List.mem_append_right _ (List.mem_append_right _ (List.mem_append_right _ (List.mem_append_left _ (show _ ∈ my_163_3 from List.mem_of_getElem? (i := 29) rfl)))))
theorem cd_163_476 : mt_cd 163 476 = some (.goto 4) := mt_cd_of (q := (476, .goto 4, 3)) mq_163 ci_163 (List.mem_append_right _ (List.mem_append_right _ (List.mem_append_right _ (List.mem_append_left _ (show _ ∈ my_163_3 from List.mem_of_getElem? (i := 30) rfl)))))
theorem cd_163_479 : mt_cd 163 479 = some (.iconst 0) := mt_cd_of (q := (479, .iconst 0, 1)) mq_163 ci_163 (List.mem_append_right _ (List.mem_append_right _ (List.mem_append_right _ (List.mem_append_left _ (show _ ∈ my_163_3 from List.mem_of_getElem? (i := 31) rfl)))))
theorem cd_163_480 : mt_cd 163 480 = some (.istore_n 3) := mt_cd_of (q := (480, .istore_n 3, 1)) mq_163 ci_163 (List.mem_append_right _ (List.mem_append_right _ (List.mem_append_right _ (List.mem_append_left _ (show _ ∈ my_163_3 from List.mem_of_getElem? (i := 32) rfl)))))
theorem cd_163_481 : mt_cd 163 481 = some (.goto 77) := mt_cd_of (q := (481, .goto 77, 3)) mq_163 ci_163 (List.mem_append_right _ (List.mem_append_right _ (List.mem_append_right _ (List.mem_append_left _ (show _ ∈ my_163_3 from List.mem_of_getElem? (i := 33) rfl)))))
theorem cd_163_484 : mt_cd 163 484 = some (.aload_n 0) := mt_cd_of (q := (484, .aload_n 0, 1)) mq_163 ci_163 (List.mem_append_right _ (List.mem_append_right _ (List.mem_append_right _ (List.mem_append_left _ (show _ ∈ my_163_3 from List.mem_of_getElem? (i := 34) rfl)))))
theorem cd_163_485 : mt_cd 163 485 = some (.getfield 80) := mt_cd_of (q := (485, .getfield 80, 3)) mq_163 ci_163 (List.mem_append_right _ (List.mem_append_right _ (List.mem_append_right _ (List.mem_append_left _ (show _ ∈ my_163_3 from List.mem_of_getElem? (i := 35) rfl)))))
theorem cd_163_488 : mt_cd 163 488 = some (.iload_n 2) := mt_cd_of (q := (488, .iload_n 2, 1)) mq_163 ci_163 (List.mem_append_right _ (List.mem_append_right _ (List.mem_append_right _ (List.mem_append_left _ (show _ ∈ my_163_3 from List.mem_of_getElem? (i := 36) rfl)))))
theorem cd_163_489 : mt_cd 163 489 = some (.aload_n 0) := mt_cd_of (q := (489, .aload_n 0, 1)) mq_163 ci_163 (List.mem_append_right _ (List.mem_append_right _ (List.mem_append_right _ (List.mem_append_left _ (show _ ∈ my_163_3 from List.mem_of_getElem? (i := 37) rfl)))))
theorem cd_163_490 : mt_cd 163 490 = some (.invokevirtual 406) := mt_cd_of (q := (490, .invokevirtual 406, 3)) mq_163 ci_163 (List.mem_append_right _ (List.mem_append_right _ (List.mem_append_right _ (List.mem_append_left _ (show _ ∈ my_163_3 from List.mem_of_getElem? (i := 38) rfl)))))
theorem cd_163_493 : mt_cd 163 493 = some (.dup_x2) := mt_cd_of (q := (493, .dup_x2, 1)) mq_163 ci_163 (List.mem_append_right _ (List.mem_append_right _ (List.mem_append_right _ (List.mem_append_left _ (show _ ∈ my_163_3 from List.mem_of_getElem? (i := 39) rfl)))))
theorem cd_163_494 : mt_cd 163 494 = some (.iastore) := mt_cd_of (q := (494, .iastore, 1)) mq_163 ci_163 (List.mem_append_right _ (List.mem_append_right _ (List.mem_append_right _ (List.mem_append_left _ (show _ ∈ my_163_3 from List.mem_of_getElem? (i := 40) rfl)))))
theorem cd_163_495 : mt_cd 163 495 = some (.ifCond .lt 7) := mt_cd_of (q := (495, .ifCond .lt 7, 3)) mq_163 ci_163 (List.mem_append_right _ (List.mem_append_right _ (List.mem_append_right _ (List.mem_append_left _ (show _ ∈ my_163_3 from List.mem_of_getElem? (i := 41) rfl)))))
theorem cd_163_498 : mt_cd 163 498 = some (.iconst 1) := mt_cd_of (q := (498, .iconst 1, 1)) mq_163 ci_163 (List.mem_append_right _ (List.mem_append_right _ (List.mem_append_right _ (List.mem_append_left _ (show _ ∈ my_163_3 from List.mem_of_getElem? (i := 42) rfl)))))
theorem cd_163_499 : mt_cd 163 499 = some (.goto 4) := mt_cd_of (q := (499, .goto 4, 3)) mq_163 ci_163 (List.mem_append_right _ (List.mem_append_right _ (List.mem_append_right _ (List.mem_append_left _ (show _ ∈ my_163_3 from List.mem_of_getElem? (i := 43) rfl)))))
theorem cd_163_502 : mt_cd 163 502 = some (.iconst 0) := mt_cd_of (q := (502, .iconst 0, 1)) mq_163 ci_163 (List.mem_append_right _ (List.mem_append_right _ (List.mem_append_right _ (List.mem_append_left _ (show _ ∈ my_163_3 from List.mem_of_getElem? (i := 44) rfl)))))
theorem cd_163_503 : mt_cd 163 503 = some (.istore_n 3) := mt_cd_of (q := (503, .istore_n 3, 1)) mq_163 ci_163 (List.mem_append_right _ (List.mem_append_right _ (List.mem_append_right _ (List.mem_append_left _ (show _ ∈ my_163_3 from List.mem_of_getElem? (i := 45) rfl)))))
theorem cd_163_504 : mt_cd 163 504 = some (.goto 54) := mt_cd_of (q := (504, .goto 54, 3)) mq_163 ci_163 (List.mem_append_right _ (List.mem_append_right _ (List.mem_append_right _ (List.mem_append_left _ (show _ ∈ my_163_3 from List.mem_of_getElem? (i := 46) rfl)))))
theorem cd_163_507 : mt_cd 163 507 = some (.aload_n 0) := mt_cd_of (q := (507, .aload_n 0, 1)) mq_163 ci_163 (List.mem_append_right _ (List.mem_append_right _ (List.mem_append_right _ (List.mem_append_left _ (show _ ∈ my_163_3 from List.mem_of_getElem? (i := 47) rfl)))))
theorem cd_163_508 : mt_cd 163 508 = some (.getfield 89) := mt_cd_of (q := (508, .getfield 89, 3)) mq_163 ci_163 (List.mem_append_right _ (List.mem_append_right _ (List.mem_append_right _ (List.mem_append_left _ (show _ ∈ my_163_3 from List.mem_of_getElem? (i := 48) rfl)))))
theorem cd_163_511 : mt_cd 163 511 = some (.iload_n 2) := mt_cd_of (q := (511, .iload_n 2, 1)) mq_163 ci_163 (List.mem_append_right _ (List.mem_append_right _ (List.mem_append_right _ (List.mem_append_left _ (show _ ∈ my_163_3 from List.mem_of_getElem? (i := 49) rfl)))))
theorem cd_163_512 : mt_cd 163 512 = some (.aload_n 0) := mt_cd_of (q := (512, .aload_n 0, 1)) mq_163 ci_163 (List.mem_append_right _ (List.mem_append_right _ (List.mem_append_right _ (List.mem_append_left _ (show _ ∈ my_163_3 from List.mem_of_getElem? (i := 50) rfl)))))
theorem cd_163_513 : mt_cd 163 513 = some (.invokevirtual 401) := mt_cd_of (q := (513, .invokevirtual 401, 3)) mq_163 ci_163 (List.mem_append_right _ (List.mem_append_right _ (List.mem_append_right _ (List.mem_append_left _ (show _ ∈ my_163_3 from List.mem_of_getElem? (i := 51) rfl)))))
theorem cd_163_516 : mt_cd 163 516 = some (.dup_x2) := mt_cd_of (q := (516, .dup_x2, 1)) mq_163 ci_163 (List.mem_append_right _ (List.mem_append_right _ (List.mem_append_right _ (List.mem_append_left _ (show _ ∈ my_163_3 from List.mem_of_getElem? (i := 52) rfl)))))
theorem cd_163_517 : mt_cd 163 517 = some (.iastore) := mt_cd_of (q := (517, .iastore, 1)) mq_163 ci_163 (List.mem_append_right _ (List.mem_append_right _ (List.mem_append_right _ (List.mem_append_left _ (show _ ∈ my_163_3 from List.mem_of_getElem? (i := 53) rfl)))))
theorem cd_163_518 : mt_cd 163 518 = some (.ifCond .lt 35) := mt_cd_of (q := (518, .ifCond .lt 35, 3)) mq_163 ci_163 (List.mem_append_right _ (List.mem_append_right _ (List.mem_append_right _ (List.mem_append_left _ (show _ ∈ my_163_3 from List.mem_of_getElem? (i := 54) rfl)))))
theorem cd_163_521 : mt_cd 163 521 = some (.aload_n 0) := mt_cd_of (q := (521, .aload_n 0, 1)) mq_163 ci_163 (List.mem_append_right _ (List.mem_append_right _ (List.mem_append_right _ (List.mem_append_left _ (show _ ∈ my_163_3 from List.mem_of_getElem? (i := 55) rfl)))))
theorem cd_163_522 : mt_cd 163 522 = some (.getfield 80) := mt_cd_of (q := (522, .getfield 80, 3)) mq_163 ci_163 (List.mem_append_right _ (List.mem_append_right _ (List.mem_append_right _ (List.mem_append_left _ (show _ ∈ my_163_3 from List.mem_of_getElem? (i := 56) rfl)))))
theorem cd_163_525 : mt_cd 163 525 = some (.iload_n 2) := mt_cd_of (q := (525, .iload_n 2, 1)) mq_163 ci_163 (List.mem_append_right _ (List.mem_append_right _ (List.mem_append_right _ (List.mem_append_left _ (show _ ∈ my_163_3 from List.mem_of_getElem? (i := 57) rfl)))))
theorem cd_163_526 : mt_cd 163 526 = some (.aload_n 0) := mt_cd_of (q := (526, .aload_n 0, 1)) mq_163 ci_163 (List.mem_append_right _ (List.mem_append_right _ (List.mem_append_right _ (List.mem_append_left _ (show _ ∈ my_163_3 from List.mem_of_getElem? (i := 58) rfl)))))
theorem cd_163_527 : mt_cd 163 527 = some (.invokevirtual 399) := mt_cd_of (q := (527, .invokevirtual 399, 3)) mq_163 ci_163 (List.mem_append_right _ (List.mem_append_right _ (List.mem_append_right _ (List.mem_append_left _ (show _ ∈ my_163_3 from List.mem_of_getElem? (i := 59) rfl)))))
theorem cd_163_530 : mt_cd 163 530 = some (.dup_x2) := mt_cd_of (q := (530, .dup_x2, 1)) mq_163 ci_163 (List.mem_append_right _ (List.mem_append_right _ (List.mem_append_right _ (List.mem_append_right _ ((show _ ∈ my_163_4 from List.mem_of_getElem? (i := 0) rfl))))))
theorem cd_163_531 : mt_cd 163 531 = some (.iastore) := mt_cd_of (q := (531, .iastore, 1)) mq_163 ci_163 (List.mem_append_right _ (List.mem_append_right _ (List.mem_append_right _ (List.mem_append_right _ ((show _ ∈ my_163_4 from List.mem_of_getElem? (i := 1) rfl))))))
theorem cd_163_532 : mt_cd 163 532 = some (.ifCond .lt 21) := mt_cd_of (q := (532, .ifCond .lt 21, 3)) mq_163 ci_163 (List.mem_append_right _ (List.mem_append_right _ (List.mem_append_right _ (List.mem_append_right _ ((show _ ∈ my_163_4 from List.mem_of_getElem? (i := 2) rfl))))))
theorem cd_163_535 : mt_cd 163 535 = some (.aload_n 0) := mt_cd_of (q := (535, .aload_n 0, 1)) mq_163 ci_163 (List.mem_append_right _ (List.mem_append_right _ (List.mem_append_right _ (List.mem_append_right _ ((show _ ∈ my_163_4 from List.mem_of_getElem? (i := 3) rfl))))))
theorem cd_163_536 : mt_cd 163 536 = some (.getfield 83) := mt_cd_of (q := (536, .getfield 83, 3)) mq_163 ci_163 (List.mem_append_right _ (List.mem_append_right _ (List.mem_append_right _ (List.mem_append_right _ ((show _ ∈ my_163_4 from List.mem_of_getElem? (i := 4) rfl))))))
theorem cd_163_539 : mt_cd 163 539 = some (.iload_n 2) := mt_cd_of (q := (539, .iload_n 2, 1)) mq_163 ci_163 (List.mem_append_right _ (List.mem_append_right _ (List.mem_append_right _ (List.mem_append_right _ ((show _ ∈ my_163_4 from List.mem_of_getElem? (i := 5) rfl))))))
theorem cd_163_540 : mt_cd 163 540 = some (.aload_n 0) := mt_cd_of (q := (540, .aload_n 0, 1)) mq_163 ci_163 (List.mem_append_right _ (List.mem_append_right _ (List.mem_append_right _ (List.mem_append_right _ ((show _ ∈ my_163_4 from List.mem_of_getElem? (i := 6) rfl))))))
theorem cd_163_541 : mt_cd 163 541 = some (.invokevirtual 399) := mt_cd_of (q := (541, .invokevirtual 399, 3)) mq_163 ci_163 (List.mem_append_right _ (List.mem_append_right _ (List.mem_append_right _ (List.mem_append_right _ ((show _ ∈ my_163_4 from List.mem_of_getElem? (i := 7) rfl))))))
theorem cd_163_544 : mt_cd 163 544 = some (.dup_x2) := mt_cd_of (q := (544, .dup_x2, 1)) mq_163 ci_163 (List.mem_append_right _ (List.mem_append_right _ (List.mem_append_right _ (List.mem_append_right _ ((show _ ∈ my_163_4 from List.mem_of_getElem? (i := 8) rfl))))))
theorem cd_163_545 : mt_cd 163 545 = some (.iastore) := mt_cd_of (q := (545, .iastore, 1)) mq_163 ci_163 (List.mem_append_right _ (List.mem_append_right _ (List.mem_append_right _ (List.mem_append_right _ ((show _ ∈ my_163_4 from List.mem_of_getElem? (i := 9) rfl))))))
theorem cd_163_546 : mt_cd 163 546 = some (.ifCond .lt 7) := mt_cd_of (q := (546, .ifCond .lt 7, 3)) mq_163 ci_163 (List.mem_append_right _ (List.mem_append_right _ (List.mem_append_right _ (List.mem_append_right _ ((show _ ∈ my_163_4 from List.mem_of_getElem? (i := 10) rfl))))))
theorem cd_163_549 : mt_cd 163 549 = some (.iconst 1) := mt_cd_of (q := (549, .iconst 1, 1)) mq_163 ci_163 (List.mem_append_right _ (List.mem_append_right _ (List.mem_append_right _ (List.mem_append_right _ ((show _ ∈ my_163_4 from List.mem_of_getElem? (i := 11) rfl))))))
theorem cd_163_550 : mt_cd 163 550 = some (.goto 4) := mt_cd_of (q := (550, .goto 4, 3)) mq_163 ci_163 (List.mem_append_right _ (List.mem_append_right _ (List.mem_append_right _ (List.mem_append_right _ ((show _ ∈ my_163_4 from List.mem_of_getElem? (i := 12) rfl))))))
theorem cd_163_553 : mt_cd 163 553 = some (.iconst 0) := mt_cd_of (q := (553, .iconst 0, 1)) mq_163 ci_163 (List.mem_append_right _ (List.mem_append_right _ (List.mem_append_right _ (List.mem_append_right _ ((show _ ∈ my_163_4 from List.mem_of_getElem? (i := 13) rfl))))))
theorem cd_163_554 : mt_cd 163 554 = some (.istore_n 3) := mt_cd_of (q := (554, .istore_n 3, 1)) mq_163 ci_163 (List.mem_append_right _ (List.mem_append_right _ (List.mem_append_right _ (List.mem_append_right _ ((show _ ∈ my_163_4 from List.mem_of_getElem? (i := 14) rfl))))))
theorem cd_163_555 : mt_cd 163 555 = some (.goto 3) := mt_cd_of (q := (555, .goto 3, 3)) mq_163 ci_163 (List.mem_append_right _ (List.mem_append_right _ (List.mem_append_right _ (List.mem_append_right _ ((show _ ∈ my_163_4 from List.mem_of_getElem? (i := 15) rfl))))))
theorem cd_163_558 : mt_cd 163 558 = some (.aload_n 0) := mt_cd_of (q := (558, .aload_n 0, 1)) mq_163 ci_163 (List.mem_append_right _ (List.mem_append_right _ (List.mem_append_right _ (List.mem_append_right _ ((show _ ∈ my_163_4 from List.mem_of_getElem? (i := 16) rfl))))))
theorem cd_163_559 : mt_cd 163 559 = some (.dup) := mt_cd_of (q := (559, .dup, 1)) mq_163 ci_163 (List.mem_append_right _ (List.mem_append_right _ (List.mem_append_right _ (List.mem_append_right _ ((show _ ∈ my_163_4 from List.mem_of_getElem? (i := 17) rfl))))))
theorem cd_163_560 : mt_cd 163 560 = some (.getfield 337) := mt_cd_of (q := (560, .getfield 337, 3)) mq_163 ci_163 (List.mem_append_right _ (List.mem_append_right _ (List.mem_append_right _ (List.mem_append_right _ ((show _ ∈ my_163_4 from List.mem_of_getElem? (i := 18) rfl))))))
theorem cd_163_563 : mt_cd 163 563 = some (.iconst 1) := mt_cd_of (q := (563, .iconst 1, 1)) mq_163 ci_163 (List.mem_append_right _ (List.mem_append_right _ (List.mem_append_right _ (List.mem_append_right _ ((show _ ∈ my_163_4 from List.mem_of_getElem? (i := 19) rfl))))))
theorem cd_163_564 : mt_cd 163 564 = some (.isub) := mt_cd_of (q := (564, .isub, 1)) mq_163 ci_163 (List.mem_append_right _ (List.mem_append_right _ (List.mem_append_right _ (List.mem_append_right _ ((show _ ∈ my_163_4 from List.mem_of_getElem? (i := 20) rfl))))))
theorem cd_163_565 : mt_cd 163 565 = some (.putfield 337) := mt_cd_of (q := (565, .putfield 337, 3)) mq_163 ci_163 (List.mem_append_right _ (List.mem_append_right _ (List.mem_append_right _ (List.mem_append_right _ ((show _ ∈ my_163_4 from List.mem_of_getElem? (i := 21) rfl))))))
theorem cd_163_568 : mt_cd 163 568 = some (.iload_n 3) := mt_cd_of (q := (568, .iload_n 3, 1)) mq_163 ci_163 (List.mem_append_right _ (List.mem_append_right _ (List.mem_append_right _ (List.mem_append_right _ ((show _ ∈ my_163_4 from List.mem_of_getElem? (i := 22) rfl))))))
theorem cd_163_569 : mt_cd 163 569 = some (.ifCond .eq 7) := mt_cd_of (q := (569, .ifCond .eq 7, 3)) mq_163 ci_163 (List.mem_append_right _ (List.mem_append_right _ (List.mem_append_right _ (List.mem_append_right _ ((show _ ∈ my_163_4 from List.mem_of_getElem? (i := 23) rfl))))))
theorem cd_163_572 : mt_cd 163 572 = some (.iload_n 2) := mt_cd_of (q := (572, .iload_n 2, 1)) mq_163 ci_163 (List.mem_append_right _ (List.mem_append_right _ (List.mem_append_right _ (List.mem_append_right _ ((show _ ∈ my_163_4 from List.mem_of_getElem? (i := 24) rfl))))))
theorem cd_163_573 : mt_cd 163 573 = some (.goto 4) := mt_cd_of (q := (573, .goto 4, 3)) mq_163 ci_163 (List.mem_append_right _ (List.mem_append_right _ (List.mem_append_right _ (List.mem_append_right _ ((show _ ∈ my_163_4 from List.mem_of_getElem? (i := 25) rfl))))))
theorem cd_163_576 : mt_cd 163 576 = some (.iconst (-1)) := mt_cd_of (q := (576, .iconst (-1), 1)) mq_163 ci_163 (List.mem_append_right _ (List.mem_append_right _ (List.mem_append_right _ (List.mem_append_right _ ((show _ ∈ my_163_4 from List.mem_of_getElem? (i := 26) rfl))))))
theorem cd_163_577 : mt_cd 163 577 = some (.ireturn) := mt_cd_of (q := (577, .ireturn, 1)) mq_163 ci_163 (List.mem_append_right _ (List.mem_append_right _ (List.mem_append_right _ (List.mem_append_right _ ((show _ ∈ my_163_4 from List.mem_of_getElem? (i := 27) rfl))))))
theorem b_163_0 {d : Nat} {Q : (Option Value ⊕ Nat) → mi_H → Prop} (n sl : Nat) (f : Nat → mi_C) {l1 : Nat} {o2 : Option Value} {o3 : Option Value} {o4 : Option Value} {fs5 : List Value} (h6 : f l1 = .inr (12, fs5)) (h7 : l1 < n) (h8 : mi_W d 153 0 (mi_en 2 [.ref l1, .ref (mi_SC + 1 + 2 * 40)]) [] (n, sl, f) (mi_Kc d 163 4 [some (.ref l1), o2, o3, o4] [] Q)) : mi_W (d + 1) 163 0 [some (.ref l1), o2, o3, o4] [] (n, sl, f) Q := by
  refine w_aload_n cd_163_0 rfl ?_
  refine w_ldc_w (n := 40) cd_163_1 (by decide +kernel) ?_
  exact w_invokevirtual cd_163_4 (show mt_m 12 375 = some (153, 0) by decide +kernel) (rest := []) rfl (as := [.ref l1, .ref (mi_SC + 1 + 2 * 40)]) rfl h6 (Or.inl h7) ⟨Nat.le_of_ble_eq_true rfl, Nat.le_of_ble_eq_true rfl, Nat.le_of_ble_eq_true rfl⟩ h8
theorem b_163_7 {d : Nat} {Q : (Option Value ⊕ Nat) → mi_H → Prop} (n sl : Nat) (f : Nat → mi_C) {l1 : Nat} {o2 : Option Value} {o3 : Option Value} {o4 : Option Value} {s5 : Int32} (h6 : s5 = (0 : Int32) → mi_W d 163 65 [some (.ref l1), o2, o3, o4] [] (n, sl, f) Q) (h7 : ¬ (s5 = (0 : Int32)) → mi_W d 163 10 [some (.ref l1), o2, o3, o4] [] (n, sl, f) Q) : mi_W d 163 7 [some (.ref l1), o2, o3, o4] [.int s5] (n, sl, f) Q := by
  exact w_ifeq cd_163_7 (by decide) h6 h7
theorem b_163_10 {d : Nat} {Q : (Option Value ⊕ Nat) → mi_H → Prop} (n sl : Nat) (f : Nat → mi_C) {l1 : Nat} {o2 : Option Value} {o3 : Option Value} {o4 : Option Value} {fs5 : List Value} (h6 : f l1 = .inr (12, fs5)) (h7 : l1 < n) (h8 : mi_W d 154 0 (mi_en 1 [.ref l1]) [] (n, sl, f) (mi_Kc d 163 11 [some (.ref l1), o2, o3, o4] [] Q)) : mi_W (d + 1) 163 10 [some (.ref l1), o2, o3, o4] [] (n, sl, f) Q := by
  refine w_aload_n cd_163_10 rfl ?_
  exact w_invokevirtual cd_163_11 (show mt_m 12 378 = some (154, 0) by decide +kernel) (rest := []) rfl (as := [.ref l1]) rfl h6 (Or.inl h7) ⟨Nat.le_of_ble_eq_true rfl, Nat.le_of_ble_eq_true rfl, Nat.le_of_ble_eq_true rfl⟩ h8
theorem b_163_14 {d : Nat} {Q : (Option Value ⊕ Nat) → mi_H → Prop} (n sl : Nat) (f : Nat → mi_C) {l1 : Nat} {o2 : Option Value} {o3 : Option Value} {o4 : Option Value} {s5 : Int32} (h6 : s5 = (0 : Int32) → mi_W d 163 24 [some (.ref l1), o2, o3, o4] [] (n, sl, f) Q) (h7 : ¬ (s5 = (0 : Int32)) → mi_W d 163 17 [some (.ref l1), o2, o3, o4] [] (n, sl, f) Q) : mi_W d 163 14 [some (.ref l1), o2, o3, o4] [.int s5] (n, sl, f) Q := by
  exact w_ifeq cd_163_14 (by decide) h6 h7
theorem b_163_17 {d : Nat} {Q : (Option Value ⊕ Nat) → mi_H → Prop} (n sl : Nat) (f : Nat → mi_C) {l1 : Nat} {o2 : Option Value} {o3 : Option Value} {o4 : Option Value} {fs5 : List Value} (h6 : f l1 = .inr (12, fs5)) (h7 : l1 < n) (h8 : mi_W d 145 0 (mi_en 4 [.ref l1]) [] (n, sl, f) (mi_Kc d 163 18 [some (.ref l1), o2, o3, o4] [] Q)) : mi_W (d + 1) 163 17 [some (.ref l1), o2, o3, o4] [] (n, sl, f) Q := by
  refine w_aload_n cd_163_17 rfl ?_
  exact w_invokevirtual cd_163_18 (show mt_m 12 333 = some (145, 0) by decide +kernel) (rest := []) rfl (as := [.ref l1]) rfl h6 (Or.inl h7) ⟨Nat.le_of_ble_eq_true rfl, Nat.le_of_ble_eq_true rfl, Nat.le_of_ble_eq_true rfl⟩ h8
theorem b_163_21 {d : Nat} {Q : (Option Value ⊕ Nat) → mi_H → Prop} (n sl : Nat) (f : Nat → mi_C) {l1 : Nat} {o2 : Option Value} {o3 : Option Value} {o4 : Option Value} {s5 : Int32} (h6 : ¬ s5 = (0 : Int32) → mi_W d 163 26 [some (.ref l1), o2, o3, o4] [] (n, sl, f) Q) (h7 : ¬ (¬ s5 = (0 : Int32)) → mi_W d 163 24 [some (.ref l1), o2, o3, o4] [] (n, sl, f) Q) : mi_W d 163 21 [some (.ref l1), o2, o3, o4] [.int s5] (n, sl, f) Q := by
  exact w_ifne cd_163_21 (by decide) h6 h7
theorem b_163_24 {d : Nat} {Q : (Option Value ⊕ Nat) → mi_H → Prop} (n sl : Nat) (f : Nat → mi_C) {l1 : Nat} {o2 : Option Value} {o3 : Option Value} {o4 : Option Value} (h5 : Q (.inl (some (.int (-1)))) (n, sl, f)) : mi_W d 163 24 [some (.ref l1), o2, o3, o4] [] (n, sl, f) Q := by
  refine w_iconst (v := (-1)) cd_163_24 (by decide) ?_
  exact w_ireturn_i cd_163_25 (by decide +kernel) h5
theorem b_163_26 {d : Nat} {Q : (Option Value ⊕ Nat) → mi_H → Prop} (n sl : Nat) (f : Nat → mi_C) {l1 : Nat} {o2 : Option Value} {o3 : Option Value} {o4 : Option Value} {fs5 : List Value} (h6 : f l1 = .inr (12, fs5)) (h7 : l1 < n) (h8 : mi_W d 163 0 (mi_en 4 [.ref l1]) [] (n, sl, f) (mi_Kc d 163 27 [some (.ref l1), o2, o3, o4] [] Q)) : mi_W (d + 1) 163 26 [some (.ref l1), o2, o3, o4] [] (n, sl, f) Q := by
  refine w_aload_n cd_163_26 rfl ?_
  exact w_invokevirtual cd_163_27 (show mt_m 12 399 = some (163, 0) by decide +kernel) (rest := []) rfl (as := [.ref l1]) rfl h6 (Or.inl h7) ⟨Nat.le_of_ble_eq_true rfl, Nat.le_of_ble_eq_true rfl, Nat.le_of_ble_eq_true rfl⟩ h8
theorem b_163_30 {d : Nat} {Q : (Option Value ⊕ Nat) → mi_H → Prop} (n sl : Nat) (f : Nat → mi_C) {l1 : Nat} {o2 : Option Value} {o3 : Option Value} {o4 : Option Value} {s5 : Int32} {fs6 : List Value} {x9 : Int32} {fs11 : List Value} (h7 : f l1 = .inr (12, fs6)) (h8 : l1 < n) (h10 : fs6[22]? = some (.int x9)) (h12 : f l1 = .inr (12, fs11)) (h13 : l1 < n) (h14 : 22 < fs11.length) (h15 : s5 < (0 : Int32) → mi_W d 163 63 [some (.ref l1), some (.int s5), o3, o4] [] (n, sl, (va_up f l1 (.inr (12, fs11.set 22 (.int (x9 - 1)))))) Q) (h16 : ¬ (s5 < (0 : Int32)) → mi_W d 163 45 [some (.ref l1), some (.int s5), o3, o4] [] (n, sl, (va_up f l1 (.inr (12, fs11.set 22 (.int (x9 - 1)))))) Q) : mi_W d 163 30 [some (.ref l1), o2, o3, o4] [.int s5] (n, sl, f) Q := by
  refine w_istore_n (ls' := [some (.ref l1), some (.int s5), o3, o4]) cd_163_30 (Nat.le_of_ble_eq_true rfl) rfl ?_
  refine w_aload_n cd_163_31 rfl ?_
  refine w_dup_r cd_163_32 ?_
  refine w_getfield cd_163_33 (show mt_f 12 337 = some (12, 22) by decide +kernel) h7 h8 h10 ?_
  refine w_iconst (v := 1) cd_163_36 (by decide) ?_
  refine w_isub cd_163_37 ?_
  refine w_putfield (w := .int (x9 - 1)) cd_163_38 (show mt_f 12 337 = some (12, 22) by decide +kernel) h12 h13 ⟨h14, rfl, Or.inl (by decide)⟩ ?_
  refine w_iload_n cd_163_41 rfl ?_
  exact w_iflt cd_163_42 (by decide) h15 h16
theorem b_163_45 {d : Nat} {Q : (Option Value ⊕ Nat) → mi_H → Prop} (n sl : Nat) (f : Nat → mi_C) {l1 : Nat} {l2 : Int32} {o3 : Option Value} {o4 : Option Value} {fs5 : List Value} (h6 : f l1 = .inr (12, fs5)) (h7 : l1 < n) (h8 : mi_W d 153 0 (mi_en 2 [.ref l1, .ref (mi_SC + 1 + 2 * 41)]) [] (n, sl, f) (mi_Kc d 163 50 [some (.ref l1), some (.int l2), o3, o4] [.ref l1] Q)) : mi_W (d + 1) 163 45 [some (.ref l1), some (.int l2), o3, o4] [] (n, sl, f) Q := by
  refine w_aload_n cd_163_45 rfl ?_
  refine w_aload_n cd_163_46 rfl ?_
  refine w_ldc_w (n := 41) cd_163_47 (by decide +kernel) ?_
  exact w_invokevirtual cd_163_50 (show mt_m 12 375 = some (153, 0) by decide +kernel) (rest := [.ref l1]) rfl (as := [.ref l1, .ref (mi_SC + 1 + 2 * 41)]) rfl h6 (Or.inl h7) ⟨Nat.le_of_ble_eq_true rfl, Nat.le_of_ble_eq_true rfl, Nat.le_of_ble_eq_true rfl⟩ h8
theorem b_163_53 {d : Nat} {Q : (Option Value ⊕ Nat) → mi_H → Prop} (n sl : Nat) (f : Nat → mi_C) {l1 : Nat} {l2 : Int32} {o3 : Option Value} {o4 : Option Value} {s5 : Int32} {s6 : Nat} {fs7 : List Value} (h8 : f s6 = .inr (12, fs7)) (h9 : s6 < n) (h10 : mi_W d 155 0 (mi_en 2 [.ref s6, .int s5]) [] (n, sl, f) (mi_Kc d 163 53 [some (.ref l1), some (.int l2), o3, o4] [] Q)) : mi_W (d + 1) 163 53 [some (.ref l1), some (.int l2), o3, o4] [.int s5, .ref s6] (n, sl, f) Q := by
  exact w_invokevirtual cd_163_53 (show mt_m 12 383 = some (155, 0) by decide +kernel) (rest := []) rfl (as := [.ref s6, .int s5]) rfl h8 (Or.inl h9) ⟨Nat.le_of_ble_eq_true rfl, Nat.le_of_ble_eq_true rfl, Nat.le_of_ble_eq_true rfl⟩ h10
theorem b_163_56 {d : Nat} {Q : (Option Value ⊕ Nat) → mi_H → Prop} (n sl : Nat) (f : Nat → mi_C) {l1 : Nat} {l2 : Int32} {o3 : Option Value} {o4 : Option Value} {s5 : Int32} (h6 : s5 = (0 : Int32) → mi_W d 163 63 [some (.ref l1), some (.int l2), o3, o4] [] (n, sl, f) Q) (h7 : ¬ (s5 = (0 : Int32)) → mi_W d 163 59 [some (.ref l1), some (.int l2), o3, o4] [] (n, sl, f) Q) : mi_W d 163 56 [some (.ref l1), some (.int l2), o3, o4] [.int s5] (n, sl, f) Q := by
  exact w_ifeq cd_163_56 (by decide) h6 h7
theorem b_163_59 {d : Nat} {Q : (Option Value ⊕ Nat) → mi_H → Prop} (n sl : Nat) (f : Nat → mi_C) {l1 : Nat} {l2 : Int32} {o3 : Option Value} {o4 : Option Value} (h5 : mi_W d 163 64 [some (.ref l1), some (.int l2), o3, o4] [.int l2] (n, sl, f) Q) : mi_W d 163 59 [some (.ref l1), some (.int l2), o3, o4] [] (n, sl, f) Q := by
  refine w_iload_n cd_163_59 rfl ?_
  exact w_goto cd_163_60 (by decide) h5
theorem b_163_63 {d : Nat} {Q : (Option Value ⊕ Nat) → mi_H → Prop} (n sl : Nat) (f : Nat → mi_C) {l1 : Nat} {l2 : Int32} {o3 : Option Value} {o4 : Option Value} (h5 : mi_W d 163 64 [some (.ref l1), some (.int l2), o3, o4] [.int (-1)] (n, sl, f) Q) : mi_W d 163 63 [some (.ref l1), some (.int l2), o3, o4] [] (n, sl, f) Q := by
  refine w_iconst (v := (-1)) cd_163_63 (by decide) ?_
  exact h5
theorem b_163_64 {d : Nat} {Q : (Option Value ⊕ Nat) → mi_H → Prop} (n sl : Nat) (f : Nat → mi_C) {l1 : Nat} {l2 : Int32} {o3 : Option Value} {o4 : Option Value} {s5 : Int32} (h6 : Q (.inl (some (.int s5))) (n, sl, f)) : mi_W d 163 64 [some (.ref l1), some (.int l2), o3, o4] [.int s5] (n, sl, f) Q := by
  exact w_ireturn_i cd_163_64 (by decide +kernel) h6
theorem b_163_65 {d : Nat} {Q : (Option Value ⊕ Nat) → mi_H → Prop} (n sl : Nat) (f : Nat → mi_C) {l1 : Nat} {o2 : Option Value} {o3 : Option Value} {o4 : Option Value} {fs5 : List Value} {x8 : Int32} (h6 : f l1 = .inr (12, fs5)) (h7 : l1 < n) (h9 : fs5[8]? = some (.int x8)) (h10 : ¬ x8 = 2 → mi_W d 163 78 [some (.ref l1), o2, o3, o4] [] (n, sl, f) Q) (h11 : ¬ (¬ x8 = 2) → mi_W d 163 73 [some (.ref l1), o2, o3, o4] [] (n, sl, f) Q) : mi_W d 163 65 [some (.ref l1), o2, o3, o4] [] (n, sl, f) Q := by
  refine w_aload_n cd_163_65 rfl ?_
  refine w_getfield cd_163_66 (show mt_f 12 310 = some (12, 8) by decide +kernel) h6 h7 h9 ?_
  refine w_iconst (v := 2) cd_163_69 (by decide) ?_
  exact w_if_icmpne cd_163_70 (by decide) h10 h11
theorem b_163_73 {d : Nat} {Q : (Option Value ⊕ Nat) → mi_H → Prop} (n sl : Nat) (f : Nat → mi_C) {l1 : Nat} {o2 : Option Value} {o3 : Option Value} {o4 : Option Value} (h5 : mi_W d 163 237 [some (.ref l1), o2, o3, o4] [.int 10] (n, sl, f) Q) : mi_W d 163 73 [some (.ref l1), o2, o3, o4] [] (n, sl, f) Q := by
  refine w_bipush (v := 10) cd_163_73 (by decide) ?_
  exact w_goto cd_163_75 (by decide) h5
theorem b_163_78 {d : Nat} {Q : (Option Value ⊕ Nat) → mi_H → Prop} (n sl : Nat) (f : Nat → mi_C) {l1 : Nat} {o2 : Option Value} {o3 : Option Value} {o4 : Option Value} {fs5 : List Value} (h6 : f l1 = .inr (12, fs5)) (h7 : l1 < n) (h8 : mi_W d 156 0 (mi_en 2 [.ref l1, .ref (mi_SC + 1 + 2 * 27)]) [] (n, sl, f) (mi_Kc d 163 81 [some (.ref l1), o2, o3, o4] [] Q)) : mi_W (d + 1) 163 78 [some (.ref l1), o2, o3, o4] [] (n, sl, f) Q := by
  refine w_aload_n cd_163_78 rfl ?_
  refine w_ldc (n := 27) cd_163_79 (by decide +kernel) ?_
  exact w_invokevirtual cd_163_81 (show mt_m 12 387 = some (156, 0) by decide +kernel) (rest := []) rfl (as := [.ref l1, .ref (mi_SC + 1 + 2 * 27)]) rfl h6 (Or.inl h7) ⟨Nat.le_of_ble_eq_true rfl, Nat.le_of_ble_eq_true rfl, Nat.le_of_ble_eq_true rfl⟩ h8
theorem b_163_84 {d : Nat} {Q : (Option Value ⊕ Nat) → mi_H → Prop} (n sl : Nat) (f : Nat → mi_C) {l1 : Nat} {o2 : Option Value} {o3 : Option Value} {o4 : Option Value} {s5 : Int32} (h6 : s5 = (0 : Int32) → mi_W d 163 92 [some (.ref l1), o2, o3, o4] [] (n, sl, f) Q) (h7 : ¬ (s5 = (0 : Int32)) → mi_W d 163 87 [some (.ref l1), o2, o3, o4] [] (n, sl, f) Q) : mi_W d 163 84 [some (.ref l1), o2, o3, o4] [.int s5] (n, sl, f) Q := by
  exact w_ifeq cd_163_84 (by decide) h6 h7
theorem b_163_87 {d : Nat} {Q : (Option Value ⊕ Nat) → mi_H → Prop} (n sl : Nat) (f : Nat → mi_C) {l1 : Nat} {o2 : Option Value} {o3 : Option Value} {o4 : Option Value} (h5 : mi_W d 163 237 [some (.ref l1), o2, o3, o4] [.int 11] (n, sl, f) Q) : mi_W d 163 87 [some (.ref l1), o2, o3, o4] [] (n, sl, f) Q := by
  refine w_bipush (v := 11) cd_163_87 (by decide) ?_
  exact w_goto cd_163_89 (by decide) h5
theorem b_163_92 {d : Nat} {Q : (Option Value ⊕ Nat) → mi_H → Prop} (n sl : Nat) (f : Nat → mi_C) {l1 : Nat} {o2 : Option Value} {o3 : Option Value} {o4 : Option Value} {fs5 : List Value} (h6 : f l1 = .inr (12, fs5)) (h7 : l1 < n) (h8 : mi_W d 156 0 (mi_en 2 [.ref l1, .ref (mi_SC + 1 + 2 * 28)]) [] (n, sl, f) (mi_Kc d 163 95 [some (.ref l1), o2, o3, o4] [] Q)) : mi_W (d + 1) 163 92 [some (.ref l1), o2, o3, o4] [] (n, sl, f) Q := by
  refine w_aload_n cd_163_92 rfl ?_
  refine w_ldc (n := 28) cd_163_93 (by decide +kernel) ?_
  exact w_invokevirtual cd_163_95 (show mt_m 12 387 = some (156, 0) by decide +kernel) (rest := []) rfl (as := [.ref l1, .ref (mi_SC + 1 + 2 * 28)]) rfl h6 (Or.inl h7) ⟨Nat.le_of_ble_eq_true rfl, Nat.le_of_ble_eq_true rfl, Nat.le_of_ble_eq_true rfl⟩ h8
theorem b_163_98 {d : Nat} {Q : (Option Value ⊕ Nat) → mi_H → Prop} (n sl : Nat) (f : Nat → mi_C) {l1 : Nat} {o2 : Option Value} {o3 : Option Value} {o4 : Option Value} {s5 : Int32} (h6 : s5 = (0 : Int32) → mi_W d 163 106 [some (.ref l1), o2, o3, o4] [] (n, sl, f) Q) (h7 : ¬ (s5 = (0 : Int32)) → mi_W d 163 101 [some (.ref l1), o2, o3, o4] [] (n, sl, f) Q) : mi_W d 163 98 [some (.ref l1), o2, o3, o4] [.int s5] (n, sl, f) Q := by
  exact w_ifeq cd_163_98 (by decide) h6 h7
theorem b_163_101 {d : Nat} {Q : (Option Value ⊕ Nat) → mi_H → Prop} (n sl : Nat) (f : Nat → mi_C) {l1 : Nat} {o2 : Option Value} {o3 : Option Value} {o4 : Option Value} (h5 : mi_W d 163 237 [some (.ref l1), o2, o3, o4] [.int 12] (n, sl, f) Q) : mi_W d 163 101 [some (.ref l1), o2, o3, o4] [] (n, sl, f) Q := by
  refine w_bipush (v := 12) cd_163_101 (by decide) ?_
  exact w_goto cd_163_103 (by decide) h5
theorem b_163_106 {d : Nat} {Q : (Option Value ⊕ Nat) → mi_H → Prop} (n sl : Nat) (f : Nat → mi_C) {l1 : Nat} {o2 : Option Value} {o3 : Option Value} {o4 : Option Value} {fs5 : List Value} (h6 : f l1 = .inr (12, fs5)) (h7 : l1 < n) (h8 : mi_W d 153 0 (mi_en 2 [.ref l1, .ref (mi_SC + 1 + 2 * 42)]) [] (n, sl, f) (mi_Kc d 163 110 [some (.ref l1), o2, o3, o4] [] Q)) : mi_W (d + 1) 163 106 [some (.ref l1), o2, o3, o4] [] (n, sl, f) Q := by
  refine w_aload_n cd_163_106 rfl ?_
  refine w_ldc_w (n := 42) cd_163_107 (by decide +kernel) ?_
  exact w_invokevirtual cd_163_110 (show mt_m 12 375 = some (153, 0) by decide +kernel) (rest := []) rfl (as := [.ref l1, .ref (mi_SC + 1 + 2 * 42)]) rfl h6 (Or.inl h7) ⟨Nat.le_of_ble_eq_true rfl, Nat.le_of_ble_eq_true rfl, Nat.le_of_ble_eq_true rfl⟩ h8
theorem b_163_113 {d : Nat} {Q : (Option Value ⊕ Nat) → mi_H → Prop} (n sl : Nat) (f : Nat → mi_C) {l1 : Nat} {o2 : Option Value} {o3 : Option Value} {o4 : Option Value} {s5 : Int32} (h6 : s5 = (0 : Int32) → mi_W d 163 121 [some (.ref l1), o2, o3, o4] [] (n, sl, f) Q) (h7 : ¬ (s5 = (0 : Int32)) → mi_W d 163 116 [some (.ref l1), o2, o3, o4] [] (n, sl, f) Q) : mi_W d 163 113 [some (.ref l1), o2, o3, o4] [.int s5] (n, sl, f) Q := by
  exact w_ifeq cd_163_113 (by decide) h6 h7
theorem b_163_116 {d : Nat} {Q : (Option Value ⊕ Nat) → mi_H → Prop} (n sl : Nat) (f : Nat → mi_C) {l1 : Nat} {o2 : Option Value} {o3 : Option Value} {o4 : Option Value} (h5 : mi_W d 163 237 [some (.ref l1), o2, o3, o4] [.int 13] (n, sl, f) Q) : mi_W d 163 116 [some (.ref l1), o2, o3, o4] [] (n, sl, f) Q := by
  refine w_bipush (v := 13) cd_163_116 (by decide) ?_
  exact w_goto cd_163_118 (by decide) h5
theorem b_163_121 {d : Nat} {Q : (Option Value ⊕ Nat) → mi_H → Prop} (n sl : Nat) (f : Nat → mi_C) {l1 : Nat} {o2 : Option Value} {o3 : Option Value} {o4 : Option Value} {fs5 : List Value} (h6 : f l1 = .inr (12, fs5)) (h7 : l1 < n) (h8 : mi_W d 153 0 (mi_en 2 [.ref l1, .ref (mi_SC + 1 + 2 * 43)]) [] (n, sl, f) (mi_Kc d 163 125 [some (.ref l1), o2, o3, o4] [] Q)) : mi_W (d + 1) 163 121 [some (.ref l1), o2, o3, o4] [] (n, sl, f) Q := by
  refine w_aload_n cd_163_121 rfl ?_
  refine w_ldc_w (n := 43) cd_163_122 (by decide +kernel) ?_
  exact w_invokevirtual cd_163_125 (show mt_m 12 375 = some (153, 0) by decide +kernel) (rest := []) rfl (as := [.ref l1, .ref (mi_SC + 1 + 2 * 43)]) rfl h6 (Or.inl h7) ⟨Nat.le_of_ble_eq_true rfl, Nat.le_of_ble_eq_true rfl, Nat.le_of_ble_eq_true rfl⟩ h8
theorem b_163_128 {d : Nat} {Q : (Option Value ⊕ Nat) → mi_H → Prop} (n sl : Nat) (f : Nat → mi_C) {l1 : Nat} {o2 : Option Value} {o3 : Option Value} {o4 : Option Value} {s5 : Int32} (h6 : s5 = (0 : Int32) → mi_W d 163 136 [some (.ref l1), o2, o3, o4] [] (n, sl, f) Q) (h7 : ¬ (s5 = (0 : Int32)) → mi_W d 163 131 [some (.ref l1), o2, o3, o4] [] (n, sl, f) Q) : mi_W d 163 128 [some (.ref l1), o2, o3, o4] [.int s5] (n, sl, f) Q := by
  exact w_ifeq cd_163_128 (by decide) h6 h7
theorem b_163_131 {d : Nat} {Q : (Option Value ⊕ Nat) → mi_H → Prop} (n sl : Nat) (f : Nat → mi_C) {l1 : Nat} {o2 : Option Value} {o3 : Option Value} {o4 : Option Value} (h5 : mi_W d 163 237 [some (.ref l1), o2, o3, o4] [.int 14] (n, sl, f) Q) : mi_W d 163 131 [some (.ref l1), o2, o3, o4] [] (n, sl, f) Q := by
  refine w_bipush (v := 14) cd_163_131 (by decide) ?_
  exact w_goto cd_163_133 (by decide) h5
theorem b_163_136 {d : Nat} {Q : (Option Value ⊕ Nat) → mi_H → Prop} (n sl : Nat) (f : Nat → mi_C) {l1 : Nat} {o2 : Option Value} {o3 : Option Value} {o4 : Option Value} {fs5 : List Value} (h6 : f l1 = .inr (12, fs5)) (h7 : l1 < n) (h8 : mi_W d 153 0 (mi_en 2 [.ref l1, .ref (mi_SC + 1 + 2 * 44)]) [] (n, sl, f) (mi_Kc d 163 140 [some (.ref l1), o2, o3, o4] [] Q)) : mi_W (d + 1) 163 136 [some (.ref l1), o2, o3, o4] [] (n, sl, f) Q := by
  refine w_aload_n cd_163_136 rfl ?_
  refine w_ldc_w (n := 44) cd_163_137 (by decide +kernel) ?_
  exact w_invokevirtual cd_163_140 (show mt_m 12 375 = some (153, 0) by decide +kernel) (rest := []) rfl (as := [.ref l1, .ref (mi_SC + 1 + 2 * 44)]) rfl h6 (Or.inl h7) ⟨Nat.le_of_ble_eq_true rfl, Nat.le_of_ble_eq_true rfl, Nat.le_of_ble_eq_true rfl⟩ h8
theorem b_163_143 {d : Nat} {Q : (Option Value ⊕ Nat) → mi_H → Prop} (n sl : Nat) (f : Nat → mi_C) {l1 : Nat} {o2 : Option Value} {o3 : Option Value} {o4 : Option Value} {s5 : Int32} (h6 : s5 = (0 : Int32) → mi_W d 163 151 [some (.ref l1), o2, o3, o4] [] (n, sl, f) Q) (h7 : ¬ (s5 = (0 : Int32)) → mi_W d 163 146 [some (.ref l1), o2, o3, o4] [] (n, sl, f) Q) : mi_W d 163 143 [some (.ref l1), o2, o3, o4] [.int s5] (n, sl, f) Q := by
  exact w_ifeq cd_163_143 (by decide) h6 h7
theorem b_163_146 {d : Nat} {Q : (Option Value ⊕ Nat) → mi_H → Prop} (n sl : Nat) (f : Nat → mi_C) {l1 : Nat} {o2 : Option Value} {o3 : Option Value} {o4 : Option Value} (h5 : mi_W d 163 237 [some (.ref l1), o2, o3, o4] [.int 15] (n, sl, f) Q) : mi_W d 163 146 [some (.ref l1), o2, o3, o4] [] (n, sl, f) Q := by
  refine w_bipush (v := 15) cd_163_146 (by decide) ?_
  exact w_goto cd_163_148 (by decide) h5
theorem b_163_151 {d : Nat} {Q : (Option Value ⊕ Nat) → mi_H → Prop} (n sl : Nat) (f : Nat → mi_C) {l1 : Nat} {o2 : Option Value} {o3 : Option Value} {o4 : Option Value} {fs5 : List Value} (h6 : f l1 = .inr (12, fs5)) (h7 : l1 < n) (h8 : mi_W d 153 0 (mi_en 2 [.ref l1, .ref (mi_SC + 1 + 2 * 45)]) [] (n, sl, f) (mi_Kc d 163 155 [some (.ref l1), o2, o3, o4] [] Q)) : mi_W (d + 1) 163 151 [some (.ref l1), o2, o3, o4] [] (n, sl, f) Q := by
  refine w_aload_n cd_163_151 rfl ?_
  refine w_ldc_w (n := 45) cd_163_152 (by decide +kernel) ?_
  exact w_invokevirtual cd_163_155 (show mt_m 12 375 = some (153, 0) by decide +kernel) (rest := []) rfl (as := [.ref l1, .ref (mi_SC + 1 + 2 * 45)]) rfl h6 (Or.inl h7) ⟨Nat.le_of_ble_eq_true rfl, Nat.le_of_ble_eq_true rfl, Nat.le_of_ble_eq_true rfl⟩ h8
theorem b_163_158 {d : Nat} {Q : (Option Value ⊕ Nat) → mi_H → Prop} (n sl : Nat) (f : Nat → mi_C) {l1 : Nat} {o2 : Option Value} {o3 : Option Value} {o4 : Option Value} {s5 : Int32} (h6 : s5 = (0 : Int32) → mi_W d 163 166 [some (.ref l1), o2, o3, o4] [] (n, sl, f) Q) (h7 : ¬ (s5 = (0 : Int32)) → mi_W d 163 161 [some (.ref l1), o2, o3, o4] [] (n, sl, f) Q) : mi_W d 163 158 [some (.ref l1), o2, o3, o4] [.int s5] (n, sl, f) Q := by
  exact w_ifeq cd_163_158 (by decide) h6 h7
theorem b_163_161 {d : Nat} {Q : (Option Value ⊕ Nat) → mi_H → Prop} (n sl : Nat) (f : Nat → mi_C) {l1 : Nat} {o2 : Option Value} {o3 : Option Value} {o4 : Option Value} (h5 : mi_W d 163 237 [some (.ref l1), o2, o3, o4] [.int 16] (n, sl, f) Q) : mi_W d 163 161 [some (.ref l1), o2, o3, o4] [] (n, sl, f) Q := by
  refine w_bipush (v := 16) cd_163_161 (by decide) ?_
  exact w_goto cd_163_163 (by decide) h5
theorem b_163_166 {d : Nat} {Q : (Option Value ⊕ Nat) → mi_H → Prop} (n sl : Nat) (f : Nat → mi_C) {l1 : Nat} {o2 : Option Value} {o3 : Option Value} {o4 : Option Value} {fs5 : List Value} (h6 : f l1 = .inr (12, fs5)) (h7 : l1 < n) (h8 : mi_W d 156 0 (mi_en 2 [.ref l1, .ref (mi_SC + 1 + 2 * 29)]) [] (n, sl, f) (mi_Kc d 163 169 [some (.ref l1), o2, o3, o4] [] Q)) : mi_W (d + 1) 163 166 [some (.ref l1), o2, o3, o4] [] (n, sl, f) Q := by
  refine w_aload_n cd_163_166 rfl ?_
  refine w_ldc (n := 29) cd_163_167 (by decide +kernel) ?_
  exact w_invokevirtual cd_163_169 (show mt_m 12 387 = some (156, 0) by decide +kernel) (rest := []) rfl (as := [.ref l1, .ref (mi_SC + 1 + 2 * 29)]) rfl h6 (Or.inl h7) ⟨Nat.le_of_ble_eq_true rfl, Nat.le_of_ble_eq_true rfl, Nat.le_of_ble_eq_true rfl⟩ h8
theorem b_163_172 {d : Nat} {Q : (Option Value ⊕ Nat) → mi_H → Prop} (n sl : Nat) (f : Nat → mi_C) {l1 : Nat} {o2 : Option Value} {o3 : Option Value} {o4 : Option Value} {s5 : Int32} (h6 : s5 = (0 : Int32) → mi_W d 163 180 [some (.ref l1), o2, o3, o4] [] (n, sl, f) Q) (h7 : ¬ (s5 = (0 : Int32)) → mi_W d 163 175 [some (.ref l1), o2, o3, o4] [] (n, sl, f) Q) : mi_W d 163 172 [some (.ref l1), o2, o3, o4] [.int s5] (n, sl, f) Q := by
  exact w_ifeq cd_163_172 (by decide) h6 h7
theorem b_163_175 {d : Nat} {Q : (Option Value ⊕ Nat) → mi_H → Prop} (n sl : Nat) (f : Nat → mi_C) {l1 : Nat} {o2 : Option Value} {o3 : Option Value} {o4 : Option Value} (h5 : mi_W d 163 237 [some (.ref l1), o2, o3, o4] [.int 17] (n, sl, f) Q) : mi_W d 163 175 [some (.ref l1), o2, o3, o4] [] (n, sl, f) Q := by
  refine w_bipush (v := 17) cd_163_175 (by decide) ?_
  exact w_goto cd_163_177 (by decide) h5
theorem b_163_180 {d : Nat} {Q : (Option Value ⊕ Nat) → mi_H → Prop} (n sl : Nat) (f : Nat → mi_C) {l1 : Nat} {o2 : Option Value} {o3 : Option Value} {o4 : Option Value} {fs5 : List Value} (h6 : f l1 = .inr (12, fs5)) (h7 : l1 < n) (h8 : mi_W d 156 0 (mi_en 2 [.ref l1, .ref (mi_SC + 1 + 2 * 30)]) [] (n, sl, f) (mi_Kc d 163 183 [some (.ref l1), o2, o3, o4] [] Q)) : mi_W (d + 1) 163 180 [some (.ref l1), o2, o3, o4] [] (n, sl, f) Q := by
  refine w_aload_n cd_163_180 rfl ?_
  refine w_ldc (n := 30) cd_163_181 (by decide +kernel) ?_
  exact w_invokevirtual cd_163_183 (show mt_m 12 387 = some (156, 0) by decide +kernel) (rest := []) rfl (as := [.ref l1, .ref (mi_SC + 1 + 2 * 30)]) rfl h6 (Or.inl h7) ⟨Nat.le_of_ble_eq_true rfl, Nat.le_of_ble_eq_true rfl, Nat.le_of_ble_eq_true rfl⟩ h8
theorem b_163_186 {d : Nat} {Q : (Option Value ⊕ Nat) → mi_H → Prop} (n sl : Nat) (f : Nat → mi_C) {l1 : Nat} {o2 : Option Value} {o3 : Option Value} {o4 : Option Value} {s5 : Int32} (h6 : s5 = (0 : Int32) → mi_W d 163 194 [some (.ref l1), o2, o3, o4] [] (n, sl, f) Q) (h7 : ¬ (s5 = (0 : Int32)) → mi_W d 163 189 [some (.ref l1), o2, o3, o4] [] (n, sl, f) Q) : mi_W d 163 186 [some (.ref l1), o2, o3, o4] [.int s5] (n, sl, f) Q := by
  exact w_ifeq cd_163_186 (by decide) h6 h7
theorem b_163_189 {d : Nat} {Q : (Option Value ⊕ Nat) → mi_H → Prop} (n sl : Nat) (f : Nat → mi_C) {l1 : Nat} {o2 : Option Value} {o3 : Option Value} {o4 : Option Value} (h5 : mi_W d 163 237 [some (.ref l1), o2, o3, o4] [.int 18] (n, sl, f) Q) : mi_W d 163 189 [some (.ref l1), o2, o3, o4] [] (n, sl, f) Q := by
  refine w_bipush (v := 18) cd_163_189 (by decide) ?_
  exact w_goto cd_163_191 (by decide) h5
theorem b_163_194 {d : Nat} {Q : (Option Value ⊕ Nat) → mi_H → Prop} (n sl : Nat) (f : Nat → mi_C) {l1 : Nat} {o2 : Option Value} {o3 : Option Value} {o4 : Option Value} {fs5 : List Value} (h6 : f l1 = .inr (12, fs5)) (h7 : l1 < n) (h8 : mi_W d 156 0 (mi_en 2 [.ref l1, .ref (mi_SC + 1 + 2 * 31)]) [] (n, sl, f) (mi_Kc d 163 197 [some (.ref l1), o2, o3, o4] [] Q)) : mi_W (d + 1) 163 194 [some (.ref l1), o2, o3, o4] [] (n, sl, f) Q := by
  refine w_aload_n cd_163_194 rfl ?_
  refine w_ldc (n := 31) cd_163_195 (by decide +kernel) ?_
  exact w_invokevirtual cd_163_197 (show mt_m 12 387 = some (156, 0) by decide +kernel) (rest := []) rfl (as := [.ref l1, .ref (mi_SC + 1 + 2 * 31)]) rfl h6 (Or.inl h7) ⟨Nat.le_of_ble_eq_true rfl, Nat.le_of_ble_eq_true rfl, Nat.le_of_ble_eq_true rfl⟩ h8
theorem b_163_200 {d : Nat} {Q : (Option Value ⊕ Nat) → mi_H → Prop} (n sl : Nat) (f : Nat → mi_C) {l1 : Nat} {o2 : Option Value} {o3 : Option Value} {o4 : Option Value} {s5 : Int32} (h6 : s5 = (0 : Int32) → mi_W d 163 208 [some (.ref l1), o2, o3, o4] [] (n, sl, f) Q) (h7 : ¬ (s5 = (0 : Int32)) → mi_W d 163 203 [some (.ref l1), o2, o3, o4] [] (n, sl, f) Q) : mi_W d 163 200 [some (.ref l1), o2, o3, o4] [.int s5] (n, sl, f) Q := by
  exact w_ifeq cd_163_200 (by decide) h6 h7
theorem b_163_203 {d : Nat} {Q : (Option Value ⊕ Nat) → mi_H → Prop} (n sl : Nat) (f : Nat → mi_C) {l1 : Nat} {o2 : Option Value} {o3 : Option Value} {o4 : Option Value} (h5 : mi_W d 163 237 [some (.ref l1), o2, o3, o4] [.int 19] (n, sl, f) Q) : mi_W d 163 203 [some (.ref l1), o2, o3, o4] [] (n, sl, f) Q := by
  refine w_bipush (v := 19) cd_163_203 (by decide) ?_
  exact w_goto cd_163_205 (by decide) h5
theorem b_163_208 {d : Nat} {Q : (Option Value ⊕ Nat) → mi_H → Prop} (n sl : Nat) (f : Nat → mi_C) {l1 : Nat} {o2 : Option Value} {o3 : Option Value} {o4 : Option Value} {fs5 : List Value} (h6 : f l1 = .inr (12, fs5)) (h7 : l1 < n) (h8 : mi_W d 156 0 (mi_en 2 [.ref l1, .ref (mi_SC + 1 + 2 * 32)]) [] (n, sl, f) (mi_Kc d 163 211 [some (.ref l1), o2, o3, o4] [] Q)) : mi_W (d + 1) 163 208 [some (.ref l1), o2, o3, o4] [] (n, sl, f) Q := by
  refine w_aload_n cd_163_208 rfl ?_
  refine w_ldc (n := 32) cd_163_209 (by decide +kernel) ?_
  exact w_invokevirtual cd_163_211 (show mt_m 12 387 = some (156, 0) by decide +kernel) (rest := []) rfl (as := [.ref l1, .ref (mi_SC + 1 + 2 * 32)]) rfl h6 (Or.inl h7) ⟨Nat.le_of_ble_eq_true rfl, Nat.le_of_ble_eq_true rfl, Nat.le_of_ble_eq_true rfl⟩ h8
theorem b_163_214 {d : Nat} {Q : (Option Value ⊕ Nat) → mi_H → Prop} (n sl : Nat) (f : Nat → mi_C) {l1 : Nat} {o2 : Option Value} {o3 : Option Value} {o4 : Option Value} {s5 : Int32} (h6 : s5 = (0 : Int32) → mi_W d 163 222 [some (.ref l1), o2, o3, o4] [] (n, sl, f) Q) (h7 : ¬ (s5 = (0 : Int32)) → mi_W d 163 217 [some (.ref l1), o2, o3, o4] [] (n, sl, f) Q) : mi_W d 163 214 [some (.ref l1), o2, o3, o4] [.int s5] (n, sl, f) Q := by
  exact w_ifeq cd_163_214 (by decide) h6 h7
theorem b_163_217 {d : Nat} {Q : (Option Value ⊕ Nat) → mi_H → Prop} (n sl : Nat) (f : Nat → mi_C) {l1 : Nat} {o2 : Option Value} {o3 : Option Value} {o4 : Option Value} (h5 : mi_W d 163 237 [some (.ref l1), o2, o3, o4] [.int 20] (n, sl, f) Q) : mi_W d 163 217 [some (.ref l1), o2, o3, o4] [] (n, sl, f) Q := by
  refine w_bipush (v := 20) cd_163_217 (by decide) ?_
  exact w_goto cd_163_219 (by decide) h5
theorem b_163_222 {d : Nat} {Q : (Option Value ⊕ Nat) → mi_H → Prop} (n sl : Nat) (f : Nat → mi_C) {l1 : Nat} {o2 : Option Value} {o3 : Option Value} {o4 : Option Value} {fs5 : List Value} (h6 : f l1 = .inr (12, fs5)) (h7 : l1 < n) (h8 : mi_W d 156 0 (mi_en 2 [.ref l1, .ref (mi_SC + 1 + 2 * 33)]) [] (n, sl, f) (mi_Kc d 163 225 [some (.ref l1), o2, o3, o4] [] Q)) : mi_W (d + 1) 163 222 [some (.ref l1), o2, o3, o4] [] (n, sl, f) Q := by
  refine w_aload_n cd_163_222 rfl ?_
  refine w_ldc (n := 33) cd_163_223 (by decide +kernel) ?_
  exact w_invokevirtual cd_163_225 (show mt_m 12 387 = some (156, 0) by decide +kernel) (rest := []) rfl (as := [.ref l1, .ref (mi_SC + 1 + 2 * 33)]) rfl h6 (Or.inl h7) ⟨Nat.le_of_ble_eq_true rfl, Nat.le_of_ble_eq_true rfl, Nat.le_of_ble_eq_true rfl⟩ h8
theorem b_163_228 {d : Nat} {Q : (Option Value ⊕ Nat) → mi_H → Prop} (n sl : Nat) (f : Nat → mi_C) {l1 : Nat} {o2 : Option Value} {o3 : Option Value} {o4 : Option Value} {s5 : Int32} (h6 : s5 = (0 : Int32) → mi_W d 163 236 [some (.ref l1), o2, o3, o4] [] (n, sl, f) Q) (h7 : ¬ (s5 = (0 : Int32)) → mi_W d 163 231 [some (.ref l1), o2, o3, o4] [] (n, sl, f) Q) : mi_W d 163 228 [some (.ref l1), o2, o3, o4] [.int s5] (n, sl, f) Q := by
  exact w_ifeq cd_163_228 (by decide) h6 h7
theorem b_163_231 {d : Nat} {Q : (Option Value ⊕ Nat) → mi_H → Prop} (n sl : Nat) (f : Nat → mi_C) {l1 : Nat} {o2 : Option Value} {o3 : Option Value} {o4 : Option Value} (h5 : mi_W d 163 237 [some (.ref l1), o2, o3, o4] [.int 21] (n, sl, f) Q) : mi_W d 163 231 [some (.ref l1), o2, o3, o4] [] (n, sl, f) Q := by
  refine w_bipush (v := 21) cd_163_231 (by decide) ?_
  exact w_goto cd_163_233 (by decide) h5
theorem b_163_236 {d : Nat} {Q : (Option Value ⊕ Nat) → mi_H → Prop} (n sl : Nat) (f : Nat → mi_C) {l1 : Nat} {o2 : Option Value} {o3 : Option Value} {o4 : Option Value} (h5 : mi_W d 163 237 [some (.ref l1), o2, o3, o4] [.int (-1)] (n, sl, f) Q) : mi_W d 163 236 [some (.ref l1), o2, o3, o4] [] (n, sl, f) Q := by
  refine w_iconst (v := (-1)) cd_163_236 (by decide) ?_
  exact h5
theorem b_163_237 {d : Nat} {Q : (Option Value ⊕ Nat) → mi_H → Prop} (n sl : Nat) (f : Nat → mi_C) {l1 : Nat} {o2 : Option Value} {o3 : Option Value} {o4 : Option Value} {s5 : Int32} (h6 : (0 : Int32) ≤ s5 → mi_W d 163 253 [some (.ref l1), some (.int s5), o3, o4] [] (n, sl, f) Q) (h7 : ¬ ((0 : Int32) ≤ s5) → mi_W d 163 242 [some (.ref l1), some (.int s5), o3, o4] [] (n, sl, f) Q) : mi_W d 163 237 [some (.ref l1), o2, o3, o4] [.int s5] (n, sl, f) Q := by
  refine w_istore_n (ls' := [some (.ref l1), some (.int s5), o3, o4]) cd_163_237 (Nat.le_of_ble_eq_true rfl) rfl ?_
  refine w_iload_n cd_163_238 rfl ?_
  exact w_ifge cd_163_239 (by decide) h6 h7
theorem b_163_242 {d : Nat} {Q : (Option Value ⊕ Nat) → mi_H → Prop} (n sl : Nat) (f : Nat → mi_C) {l1 : Nat} {l2 : Int32} {o3 : Option Value} {o4 : Option Value} {fs5 : List Value} {x8 : Int32} {fs10 : List Value} (h6 : f l1 = .inr (12, fs5)) (h7 : l1 < n) (h9 : fs5[9]? = some (.int x8)) (h11 : f l1 = .inr (12, fs10)) (h12 : l1 < n) (h13 : mi_W d 143 0 (mi_en 2 [.ref l1, .int x8]) [] (n, sl, f) (mi_Kc d 163 247 [some (.ref l1), some (.int l2), o3, o4] [] Q)) : mi_W (d + 1) 163 242 [some (.ref l1), some (.int l2), o3, o4] [] (n, sl, f) Q := by
  refine w_aload_n cd_163_242 rfl ?_
  refine w_aload_n cd_163_243 rfl ?_
  refine w_getfield cd_163_244 (show mt_f 12 299 = some (12, 9) by decide +kernel) h6 h7 h9 ?_
  exact w_invokevirtual cd_163_247 (show mt_m 12 272 = some (143, 0) by decide +kernel) (rest := []) rfl (as := [.ref l1, .int x8]) rfl h11 (Or.inl h12) ⟨Nat.le_of_ble_eq_true rfl, Nat.le_of_ble_eq_true rfl, Nat.le_of_ble_eq_true rfl⟩ h13
theorem b_163_250 {d : Nat} {Q : (Option Value ⊕ Nat) → mi_H → Prop} (n sl : Nat) (f : Nat → mi_C) {l1 : Nat} {l2 : Int32} {o3 : Option Value} {o4 : Option Value} {s5 : Int32} (h6 : Q (.inl (some (.int (-1)))) (n, sl, f)) : mi_W d 163 250 [some (.ref l1), some (.int l2), o3, o4] [.int s5] (n, sl, f) Q := by
  refine w_pop_i cd_163_250 ?_
  refine w_iconst (v := (-1)) cd_163_251 (by decide) ?_
  exact w_ireturn_i cd_163_252 (by decide +kernel) h6
theorem b_163_253 {d : Nat} {Q : (Option Value ⊕ Nat) → mi_H → Prop} (n sl : Nat) (f : Nat → mi_C) {l1 : Nat} {l2 : Int32} {o3 : Option Value} {o4 : Option Value} {fs5 : List Value} (h6 : f l1 = .inr (12, fs5)) (h7 : l1 < n) (h8 : mi_W d 154 0 (mi_en 1 [.ref l1]) [] (n, sl, f) (mi_Kc d 163 254 [some (.ref l1), some (.int l2), o3, o4] [] Q)) : mi_W (d + 1) 163 253 [some (.ref l1), some (.int l2), o3, o4] [] (n, sl, f) Q := by
  refine w_aload_n cd_163_253 rfl ?_
  exact w_invokevirtual cd_163_254 (show mt_m 12 378 = some (154, 0) by decide +kernel) (rest := []) rfl (as := [.ref l1]) rfl h6 (Or.inl h7) ⟨Nat.le_of_ble_eq_true rfl, Nat.le_of_ble_eq_true rfl, Nat.le_of_ble_eq_true rfl⟩ h8
theorem b_163_257 {d : Nat} {Q : (Option Value ⊕ Nat) → mi_H → Prop} (n sl : Nat) (f : Nat → mi_C) {l1 : Nat} {l2 : Int32} {o3 : Option Value} {o4 : Option Value} {s5 : Int32} (h6 : ¬ s5 = (0 : Int32) → mi_W d 163 262 [some (.ref l1), some (.int l2), o3, o4] [] (n, sl, f) Q) (h7 : ¬ (¬ s5 = (0 : Int32)) → mi_W d 163 260 [some (.ref l1), some (.int l2), o3, o4] [] (n, sl, f) Q) : mi_W d 163 257 [some (.ref l1), some (.int l2), o3, o4] [.int s5] (n, sl, f) Q := by
  exact w_ifne cd_163_257 (by decide) h6 h7
theorem b_163_260 {d : Nat} {Q : (Option Value ⊕ Nat) → mi_H → Prop} (n sl : Nat) (f : Nat → mi_C) {l1 : Nat} {l2 : Int32} {o3 : Option Value} {o4 : Option Value} (h5 : Q (.inl (some (.int (-1)))) (n, sl, f)) : mi_W d 163 260 [some (.ref l1), some (.int l2), o3, o4] [] (n, sl, f) Q := by
  refine w_iconst (v := (-1)) cd_163_260 (by decide) ?_
  exact w_ireturn_i cd_163_261 (by decide +kernel) h5
theorem b_163_262 {d : Nat} {Q : (Option Value ⊕ Nat) → mi_H → Prop} (n sl : Nat) (f : Nat → mi_C) {l1 : Nat} {l2 : Int32} {o3 : Option Value} {o4 : Option Value} {fs5 : List Value} (h6 : f l1 = .inr (12, fs5)) (h7 : l1 < n) (h8 : mi_W d 157 0 (mi_en 2 [.ref l1, .int l2]) [] (n, sl, f) (mi_Kc d 163 264 [some (.ref l1), some (.int l2), o3, o4] [] Q)) : mi_W (d + 1) 163 262 [some (.ref l1), some (.int l2), o3, o4] [] (n, sl, f) Q := by
  refine w_aload_n cd_163_262 rfl ?_
  refine w_iload_n cd_163_263 rfl ?_
  exact w_invokevirtual cd_163_264 (show mt_m 12 390 = some (157, 0) by decide +kernel) (rest := []) rfl (as := [.ref l1, .int l2]) rfl h6 (Or.inl h7) ⟨Nat.le_of_ble_eq_true rfl, Nat.le_of_ble_eq_true rfl, Nat.le_of_ble_eq_true rfl⟩ h8
theorem b_163_267 {d : Nat} {Q : (Option Value ⊕ Nat) → mi_H → Prop} (n sl : Nat) (f : Nat → mi_C) {l1 : Nat} {l2 : Int32} {o3 : Option Value} {o4 : Option Value} {s5 : Int32} (h6 : s5 < (0 : Int32) → mi_W d 163 282 [some (.ref l1), some (.int l2), some (.int s5), o4] [] (n, sl, f) Q) (h7 : ¬ (s5 < (0 : Int32)) → mi_W d 163 272 [some (.ref l1), some (.int l2), some (.int s5), o4] [] (n, sl, f) Q) : mi_W d 163 267 [some (.ref l1), some (.int l2), o3, o4] [.int s5] (n, sl, f) Q := by
  refine w_istore_n (ls' := [some (.ref l1), some (.int l2), some (.int s5), o4]) cd_163_267 (Nat.le_of_ble_eq_true rfl) rfl ?_
  refine w_iload_n cd_163_268 rfl ?_
  exact w_iflt cd_163_269 (by decide) h6 h7
theorem b_163_272 {d : Nat} {Q : (Option Value ⊕ Nat) → mi_H → Prop} (n sl : Nat) (f : Nat → mi_C) {l1 : Nat} {l2 : Int32} {l3 : Int32} {o4 : Option Value} {fs5 : List Value} {x8 : Nat} {fs10 : List Value} {x13 : Int64} (m15 i15 : Nat) (g15 : Nat → Int64) (h6 : f l1 = .inr (12, fs5)) (h7 : l1 < n) (h9 : fs5[20]? = some (.ref x8)) (h11 : f l1 = .inr (12, fs10)) (h12 : l1 < n) (h14 : fs10[11]? = some (.long x13)) (h16 : f x8 = .inl (3, m15, .inr (.inl g15))) (h17 : x8 < n) (h18 : mi_ix l3 m15 i15) (h19 : mi_W d 163 282 [some (.ref l1), some (.int l2), some (.int l3), o4] [] (n, sl, (va_up f x8 (.inl (3, m15, .inr (.inl (vp_updL g15 i15 x13)))))) Q) : mi_W d 163 272 [some (.ref l1), some (.int l2), some (.int l3), o4] [] (n, sl, f) Q := by
  refine w_aload_n cd_163_272 rfl ?_
  refine w_getfield cd_163_273 (show mt_f 12 101 = some (12, 20) by decide +kernel) h6 h7 h9 ?_
  refine w_iload_n cd_163_276 rfl ?_
  refine w_aload_n cd_163_277 rfl ?_
  refine w_getfield cd_163_278 (show mt_f 12 327 = some (12, 11) by decide +kernel) h11 h12 h14 ?_
  refine w_lastore cd_163_281 h16 h17 h18 ?_
  exact h19
theorem b_163_282 {d : Nat} {Q : (Option Value ⊕ Nat) → mi_H → Prop} (n sl : Nat) (f : Nat → mi_C) {l1 : Nat} {l2 : Int32} {l3 : Int32} {o4 : Option Value} (h5 : l3 < (0 : Int32) → mi_W d 163 297 [some (.ref l1), some (.int l2), some (.int l3), o4] [] (n, sl, f) Q) (h6 : ¬ (l3 < (0 : Int32)) → mi_W d 163 286 [some (.ref l1), some (.int l2), some (.int l3), o4] [] (n, sl, f) Q) : mi_W d 163 282 [some (.ref l1), some (.int l2), some (.int l3), o4] [] (n, sl, f) Q := by
  refine w_iload_n cd_163_282 rfl ?_
  exact w_iflt cd_163_283 (by decide) h5 h6
theorem b_163_286 {d : Nat} {Q : (Option Value ⊕ Nat) → mi_H → Prop} (n sl : Nat) (f : Nat → mi_C) {l1 : Nat} {l2 : Int32} {l3 : Int32} {o4 : Option Value} {fs5 : List Value} (h6 : f l1 = .inr (12, fs5)) (h7 : l1 < n) (h8 : mi_W d 145 0 (mi_en 4 [.ref l1]) [] (n, sl, f) (mi_Kc d 163 287 [some (.ref l1), some (.int l2), some (.int l3), o4] [] Q)) : mi_W (d + 1) 163 286 [some (.ref l1), some (.int l2), some (.int l3), o4] [] (n, sl, f) Q := by
  refine w_aload_n cd_163_286 rfl ?_
  exact w_invokevirtual cd_163_287 (show mt_m 12 333 = some (145, 0) by decide +kernel) (rest := []) rfl (as := [.ref l1]) rfl h6 (Or.inl h7) ⟨Nat.le_of_ble_eq_true rfl, Nat.le_of_ble_eq_true rfl, Nat.le_of_ble_eq_true rfl⟩ h8
theorem b_163_290 {d : Nat} {Q : (Option Value ⊕ Nat) → mi_H → Prop} (n sl : Nat) (f : Nat → mi_C) {l1 : Nat} {l2 : Int32} {l3 : Int32} {o4 : Option Value} {s5 : Int32} (h6 : s5 = (0 : Int32) → mi_W d 163 297 [some (.ref l1), some (.int l2), some (.int l3), o4] [] (n, sl, f) Q) (h7 : ¬ (s5 = (0 : Int32)) → mi_W d 163 293 [some (.ref l1), some (.int l2), some (.int l3), o4] [] (n, sl, f) Q) : mi_W d 163 290 [some (.ref l1), some (.int l2), some (.int l3), o4] [.int s5] (n, sl, f) Q := by
  exact w_ifeq cd_163_290 (by decide) h6 h7
theorem b_163_293 {d : Nat} {Q : (Option Value ⊕ Nat) → mi_H → Prop} (n sl : Nat) (f : Nat → mi_C) {l1 : Nat} {l2 : Int32} {l3 : Int32} {o4 : Option Value} (h5 : mi_W d 163 298 [some (.ref l1), some (.int l2), some (.int l3), o4] [.int 1] (n, sl, f) Q) : mi_W d 163 293 [some (.ref l1), some (.int l2), some (.int l3), o4] [] (n, sl, f) Q := by
  refine w_iconst (v := 1) cd_163_293 (by decide) ?_
  exact w_goto cd_163_294 (by decide) h5
theorem b_163_297 {d : Nat} {Q : (Option Value ⊕ Nat) → mi_H → Prop} (n sl : Nat) (f : Nat → mi_C) {l1 : Nat} {l2 : Int32} {l3 : Int32} {o4 : Option Value} (h5 : mi_W d 163 298 [some (.ref l1), some (.int l2), some (.int l3), o4] [.int 0] (n, sl, f) Q) : mi_W d 163 297 [some (.ref l1), some (.int l2), some (.int l3), o4] [] (n, sl, f) Q := by
  refine w_iconst (v := 0) cd_163_297 (by decide) ?_
  exact h5
theorem b_163_298 {d : Nat} {Q : (Option Value ⊕ Nat) → mi_H → Prop} (n sl : Nat) (f : Nat → mi_C) {l1 : Nat} {l2 : Int32} {l3 : Int32} {o4 : Option Value} {s5 : Int32} (h6 : s5 = (0 : Int32) → mi_W d 163 558 [some (.ref l1), some (.int l2), some (.int l3), some (.int s5)] [] (n, sl, f) Q) (h7 : ¬ (s5 = (0 : Int32)) → mi_W d 163 303 [some (.ref l1), some (.int l2), some (.int l3), some (.int s5)] [] (n, sl, f) Q) : mi_W d 163 298 [some (.ref l1), some (.int l2), some (.int l3), o4] [.int s5] (n, sl, f) Q := by
  refine w_istore_n (ls' := [some (.ref l1), some (.int l2), some (.int l3), some (.int s5)]) cd_163_298 (Nat.le_of_ble_eq_true rfl) rfl ?_
  refine w_iload_n cd_163_299 rfl ?_
  exact w_ifeq cd_163_300 (by decide) h6 h7
theorem b_163_303 {d : Nat} {Q : (Option Value ⊕ Nat) → mi_H → Prop} (n sl : Nat) (f : Nat → mi_C) {l1 : Nat} {l2 : Int32} {l3 : Int32} {l4 : Int32} {t5 : Nat} (h6 : mi_ts 304 254 11 21 #[60, 97, 120, 120, 120, 120, 157, 180, 254, 254, 203] (l2 : Int32).toInt = some t5) (h7 : mi_W d 163 t5 [some (.ref l1), some (.int l2), some (.int l3), some (.int l4)] [] (n, sl, f) Q) : mi_W d 163 303 [some (.ref l1), some (.int l2), some (.int l3), some (.int l4)] [] (n, sl, f) Q := by
  refine w_iload_n cd_163_303 rfl ?_
  exact w_tableswitch cd_163_304 h6 h7
theorem b_163_364 {d : Nat} {Q : (Option Value ⊕ Nat) → mi_H → Prop} (n sl : Nat) (f : Nat → mi_C) {l1 : Nat} {l2 : Int32} {l3 : Int32} {l4 : Int32} {fs5 : List Value} {x8 : Nat} {fs10 : List Value} (h6 : f l1 = .inr (12, fs5)) (h7 : l1 < n) (h9 : fs5[13]? = some (.ref x8)) (h11 : f l1 = .inr (12, fs10)) (h12 : l1 < n) (h13 : mi_W d 159 0 (mi_en 2 [.ref l1]) [] (n, sl, f) (mi_Kc d 163 370 [some (.ref l1), some (.int l2), some (.int l3), some (.int l4)] [.int l3, .ref x8] Q)) : mi_W (d + 1) 163 364 [some (.ref l1), some (.int l2), some (.int l3), some (.int l4)] [] (n, sl, f) Q := by
  refine w_aload_n cd_163_364 rfl ?_
  refine w_getfield cd_163_365 (show mt_f 12 80 = some (12, 13) by decide +kernel) h6 h7 h9 ?_
  refine w_iload_n cd_163_368 rfl ?_
  refine w_aload_n cd_163_369 rfl ?_
  exact w_invokevirtual cd_163_370 (show mt_m 12 370 = some (159, 0) by decide +kernel) (rest := [.int l3, .ref x8]) rfl (as := [.ref l1]) rfl h11 (Or.inl h12) ⟨Nat.le_of_ble_eq_true rfl, Nat.le_of_ble_eq_true rfl, Nat.le_of_ble_eq_true rfl⟩ h13
theorem b_163_373 {d : Nat} {Q : (Option Value ⊕ Nat) → mi_H → Prop} (n sl : Nat) (f : Nat → mi_C) {l1 : Nat} {l2 : Int32} {l3 : Int32} {l4 : Int32} {s5 : Int32} {s6 : Int32} {s7 : Nat} (m8 i8 : Nat) (g8 : Nat → Int32) (h9 : f s7 = .inl (0, m8, .inl g8)) (h10 : s7 < n) (h11 : mi_ix s6 m8 i8) (h12 : s5 < (0 : Int32) → mi_W d 163 396 [some (.ref l1), some (.int l2), some (.int l3), some (.int l4)] [] (n, sl, (va_up f s7 (.inl (0, m8, .inl (upd g8 i8 s5))))) Q) (h13 : ¬ (s5 < (0 : Int32)) → mi_W d 163 378 [some (.ref l1), some (.int l2), some (.int l3), some (.int l4)] [] (n, sl, (va_up f s7 (.inl (0, m8, .inl (upd g8 i8 s5))))) Q) : mi_W d 163 373 [some (.ref l1), some (.int l2), some (.int l3), some (.int l4)] [.int s5, .int s6, .ref s7] (n, sl, f) Q := by
  refine w_dup_x2_iir cd_163_373 ?_
  refine w_iastore cd_163_374 h9 h10 h11 ?_
  exact w_iflt cd_163_375 (by decide) h12 h13
theorem b_163_378 {d : Nat} {Q : (Option Value ⊕ Nat) → mi_H → Prop} (n sl : Nat) (f : Nat → mi_C) {l1 : Nat} {l2 : Int32} {l3 : Int32} {l4 : Int32} {fs5 : List Value} {x8 : Nat} {fs10 : List Value} (h6 : f l1 = .inr (12, fs5)) (h7 : l1 < n) (h9 : fs5[15]? = some (.ref x8)) (h11 : f l1 = .inr (12, fs10)) (h12 : l1 < n) (h13 : mi_W d 162 0 (mi_en 2 [.ref l1]) [] (n, sl, f) (mi_Kc d 163 384 [some (.ref l1), some (.int l2), some (.int l3), some (.int l4)] [.int l3, .ref x8] Q)) : mi_W (d + 1) 163 378 [some (.ref l1), some (.int l2), some (.int l3), some (.int l4)] [] (n, sl, f) Q := by
  refine w_aload_n cd_163_378 rfl ?_
  refine w_getfield cd_163_379 (show mt_f 12 86 = some (12, 15) by decide +kernel) h6 h7 h9 ?_
  refine w_iload_n cd_163_382 rfl ?_
  refine w_aload_n cd_163_383 rfl ?_
  exact w_invokevirtual cd_163_384 (show mt_m 12 396 = some (162, 0) by decide +kernel) (rest := [.int l3, .ref x8]) rfl (as := [.ref l1]) rfl h11 (Or.inl h12) ⟨Nat.le_of_ble_eq_true rfl, Nat.le_of_ble_eq_true rfl, Nat.le_of_ble_eq_true rfl⟩ h13
theorem b_163_387 {d : Nat} {Q : (Option Value ⊕ Nat) → mi_H → Prop} (n sl : Nat) (f : Nat → mi_C) {l1 : Nat} {l2 : Int32} {l3 : Int32} {l4 : Int32} {s5 : Int32} {s6 : Int32} {s7 : Nat} (m8 i8 : Nat) (g8 : Nat → Int32) (h9 : f s7 = .inl (0, m8, .inl g8)) (h10 : s7 < n) (h11 : mi_ix s6 m8 i8) (h12 : s5 < (0 : Int32) → mi_W d 163 396 [some (.ref l1), some (.int l2), some (.int l3), some (.int l4)] [] (n, sl, (va_up f s7 (.inl (0, m8, .inl (upd g8 i8 s5))))) Q) (h13 : ¬ (s5 < (0 : Int32)) → mi_W d 163 392 [some (.ref l1), some (.int l2), some (.int l3), some (.int l4)] [] (n, sl, (va_up f s7 (.inl (0, m8, .inl (upd g8 i8 s5))))) Q) : mi_W d 163 387 [some (.ref l1), some (.int l2), some (.int l3), some (.int l4)] [.int s5, .int s6, .ref s7] (n, sl, f) Q := by
  refine w_dup_x2_iir cd_163_387 ?_
  refine w_iastore cd_163_388 h9 h10 h11 ?_
  exact w_iflt cd_163_389 (by decide) h12 h13
theorem b_163_392 {d : Nat} {Q : (Option Value ⊕ Nat) → mi_H → Prop} (n sl : Nat) (f : Nat → mi_C) {l1 : Nat} {l2 : Int32} {l3 : Int32} {l4 : Int32} (h5 : mi_W d 163 397 [some (.ref l1), some (.int l2), some (.int l3), some (.int l4)] [.int 1] (n, sl, f) Q) : mi_W d 163 392 [some (.ref l1), some (.int l2), some (.int l3), some (.int l4)] [] (n, sl, f) Q := by
  refine w_iconst (v := 1) cd_163_392 (by decide) ?_
  exact w_goto cd_163_393 (by decide) h5
theorem b_163_396 {d : Nat} {Q : (Option Value ⊕ Nat) → mi_H → Prop} (n sl : Nat) (f : Nat → mi_C) {l1 : Nat} {l2 : Int32} {l3 : Int32} {l4 : Int32} (h5 : mi_W d 163 397 [some (.ref l1), some (.int l2), some (.int l3), some (.int l4)] [.int 0] (n, sl, f) Q) : mi_W d 163 396 [some (.ref l1), some (.int l2), some (.int l3), some (.int l4)] [] (n, sl, f) Q := by
  refine w_iconst (v := 0) cd_163_396 (by decide) ?_
  exact h5
theorem b_163_397 {d : Nat} {Q : (Option Value ⊕ Nat) → mi_H → Prop} (n sl : Nat) (f : Nat → mi_C) {l1 : Nat} {l2 : Int32} {l3 : Int32} {l4 : Int32} {s5 : Int32} (h6 : mi_W d 163 558 [some (.ref l1), some (.int l2), some (.int l3), some (.int s5)] [] (n, sl, f) Q) : mi_W d 163 397 [some (.ref l1), some (.int l2), some (.int l3), some (.int l4)] [.int s5] (n, sl, f) Q := by
  refine w_istore_n (ls' := [some (.ref l1), some (.int l2), some (.int l3), some (.int s5)]) cd_163_397 (Nat.le_of_ble_eq_true rfl) rfl ?_
  exact w_goto cd_163_398 (by decide) h6
theorem b_163_401 {d : Nat} {Q : (Option Value ⊕ Nat) → mi_H → Prop} (n sl : Nat) (f : Nat → mi_C) {l1 : Nat} {l2 : Int32} {l3 : Int32} {l4 : Int32} {fs5 : List Value} {x8 : Nat} {fs10 : List Value} (h6 : f l1 = .inr (12, fs5)) (h7 : l1 < n) (h9 : fs5[13]? = some (.ref x8)) (h11 : f l1 = .inr (12, fs10)) (h12 : l1 < n) (h13 : mi_W d 163 0 (mi_en 4 [.ref l1]) [] (n, sl, f) (mi_Kc d 163 407 [some (.ref l1), some (.int l2), some (.int l3), some (.int l4)] [.int l3, .ref x8] Q)) : mi_W (d + 1) 163 401 [some (.ref l1), some (.int l2), some (.int l3), some (.int l4)] [] (n, sl, f) Q := by
  refine w_aload_n cd_163_401 rfl ?_
  refine w_getfield cd_163_402 (show mt_f 12 80 = some (12, 13) by decide +kernel) h6 h7 h9 ?_
  refine w_iload_n cd_163_405 rfl ?_
  refine w_aload_n cd_163_406 rfl ?_
  exact w_invokevirtual cd_163_407 (show mt_m 12 399 = some (163, 0) by decide +kernel) (rest := [.int l3, .ref x8]) rfl (as := [.ref l1]) rfl h11 (Or.inl h12) ⟨Nat.le_of_ble_eq_true rfl, Nat.le_of_ble_eq_true rfl, Nat.le_of_ble_eq_true rfl⟩ h13
theorem b_163_410 {d : Nat} {Q : (Option Value ⊕ Nat) → mi_H → Prop} (n sl : Nat) (f : Nat → mi_C) {l1 : Nat} {l2 : Int32} {l3 : Int32} {l4 : Int32} {s5 : Int32} {s6 : Int32} {s7 : Nat} (m8 i8 : Nat) (g8 : Nat → Int32) (h9 : f s7 = .inl (0, m8, .inl g8)) (h10 : s7 < n) (h11 : mi_ix s6 m8 i8) (h12 : s5 < (0 : Int32) → mi_W d 163 419 [some (.ref l1), some (.int l2), some (.int l3), some (.int l4)] [] (n, sl, (va_up f s7 (.inl (0, m8, .inl (upd g8 i8 s5))))) Q) (h13 : ¬ (s5 < (0 : Int32)) → mi_W d 163 415 [some (.ref l1), some (.int l2), some (.int l3), some (.int l4)] [] (n, sl, (va_up f s7 (.inl (0, m8, .inl (upd g8 i8 s5))))) Q) : mi_W d 163 410 [some (.ref l1), some (.int l2), some (.int l3), some (.int l4)] [.int s5, .int s6, .ref s7] (n, sl, f) Q := by
  refine w_dup_x2_iir cd_163_410 ?_
  refine w_iastore cd_163_411 h9 h10 h11 ?_
  exact w_iflt cd_163_412 (by decide) h12 h13
theorem b_163_415 {d : Nat} {Q : (Option Value ⊕ Nat) → mi_H → Prop} (n sl : Nat) (f : Nat → mi_C) {l1 : Nat} {l2 : Int32} {l3 : Int32} {l4 : Int32} (h5 : mi_W d 163 420 [some (.ref l1), some (.int l2), some (.int l3), some (.int l4)] [.int 1] (n, sl, f) Q) : mi_W d 163 415 [some (.ref l1), some (.int l2), some (.int l3), some (.int l4)] [] (n, sl, f) Q := by
  refine w_iconst (v := 1) cd_163_415 (by decide) ?_
  exact w_goto cd_163_416 (by decide) h5
theorem b_163_419 {d : Nat} {Q : (Option Value ⊕ Nat) → mi_H → Prop} (n sl : Nat) (f : Nat → mi_C) {l1 : Nat} {l2 : Int32} {l3 : Int32} {l4 : Int32} (h5 : mi_W d 163 420 [some (.ref l1), some (.int l2), some (.int l3), some (.int l4)] [.int 0] (n, sl, f) Q) : mi_W d 163 419 [some (.ref l1), some (.int l2), some (.int l3), some (.int l4)] [] (n, sl, f) Q := by
  refine w_iconst (v := 0) cd_163_419 (by decide) ?_
  exact h5
theorem b_163_420 {d : Nat} {Q : (Option Value ⊕ Nat) → mi_H → Prop} (n sl : Nat) (f : Nat → mi_C) {l1 : Nat} {l2 : Int32} {l3 : Int32} {l4 : Int32} {s5 : Int32} (h6 : mi_W d 163 558 [some (.ref l1), some (.int l2), some (.int l3), some (.int s5)] [] (n, sl, f) Q) : mi_W d 163 420 [some (.ref l1), some (.int l2), some (.int l3), some (.int l4)] [.int s5] (n, sl, f) Q := by
  refine w_istore_n (ls' := [some (.ref l1), some (.int l2), some (.int l3), some (.int s5)]) cd_163_420 (Nat.le_of_ble_eq_true rfl) rfl ?_
  exact w_goto cd_163_421 (by decide) h6
theorem b_163_424 {d : Nat} {Q : (Option Value ⊕ Nat) → mi_H → Prop} (n sl : Nat) (f : Nat → mi_C) {l1 : Nat} {l2 : Int32} {l3 : Int32} {l4 : Int32} {fs5 : List Value} {x8 : Nat} {fs10 : List Value} (h6 : f l1 = .inr (12, fs5)) (h7 : l1 < n) (h9 : fs5[13]? = some (.ref x8)) (h11 : f l1 = .inr (12, fs10)) (h12 : l1 < n) (h13 : mi_W d 163 0 (mi_en 4 [.ref l1]) [] (n, sl, f) (mi_Kc d 163 430 [some (.ref l1), some (.int l2), some (.int l3), some (.int l4)] [.int l3, .ref x8] Q)) : mi_W (d + 1) 163 424 [some (.ref l1), some (.int l2), some (.int l3), some (.int l4)] [] (n, sl, f) Q := by
  refine w_aload_n cd_163_424 rfl ?_
  refine w_getfield cd_163_425 (show mt_f 12 80 = some (12, 13) by decide +kernel) h6 h7 h9 ?_
  refine w_iload_n cd_163_428 rfl ?_
  refine w_aload_n cd_163_429 rfl ?_
  exact w_invokevirtual cd_163_430 (show mt_m 12 399 = some (163, 0) by decide +kernel) (rest := [.int l3, .ref x8]) rfl (as := [.ref l1]) rfl h11 (Or.inl h12) ⟨Nat.le_of_ble_eq_true rfl, Nat.le_of_ble_eq_true rfl, Nat.le_of_ble_eq_true rfl⟩ h13
theorem b_163_433 {d : Nat} {Q : (Option Value ⊕ Nat) → mi_H → Prop} (n sl : Nat) (f : Nat → mi_C) {l1 : Nat} {l2 : Int32} {l3 : Int32} {l4 : Int32} {s5 : Int32} {s6 : Int32} {s7 : Nat} (m8 i8 : Nat) (g8 : Nat → Int32) (h9 : f s7 = .inl (0, m8, .inl g8)) (h10 : s7 < n) (h11 : mi_ix s6 m8 i8) (h12 : s5 < (0 : Int32) → mi_W d 163 456 [some (.ref l1), some (.int l2), some (.int l3), some (.int l4)] [] (n, sl, (va_up f s7 (.inl (0, m8, .inl (upd g8 i8 s5))))) Q) (h13 : ¬ (s5 < (0 : Int32)) → mi_W d 163 438 [some (.ref l1), some (.int l2), some (.int l3), some (.int l4)] [] (n, sl, (va_up f s7 (.inl (0, m8, .inl (upd g8 i8 s5))))) Q) : mi_W d 163 433 [some (.ref l1), some (.int l2), some (.int l3), some (.int l4)] [.int s5, .int s6, .ref s7] (n, sl, f) Q := by
  refine w_dup_x2_iir cd_163_433 ?_
  refine w_iastore cd_163_434 h9 h10 h11 ?_
  exact w_iflt cd_163_435 (by decide) h12 h13
theorem b_163_438 {d : Nat} {Q : (Option Value ⊕ Nat) → mi_H → Prop} (n sl : Nat) (f : Nat → mi_C) {l1 : Nat} {l2 : Int32} {l3 : Int32} {l4 : Int32} {fs5 : List Value} {x8 : Nat} {fs10 : List Value} (h6 : f l1 = .inr (12, fs5)) (h7 : l1 < n) (h9 : fs5[14]? = some (.ref x8)) (h11 : f l1 = .inr (12, fs10)) (h12 : l1 < n) (h13 : mi_W d 163 0 (mi_en 4 [.ref l1]) [] (n, sl, f) (mi_Kc d 163 444 [some (.ref l1), some (.int l2), some (.int l3), some (.int l4)] [.int l3, .ref x8] Q)) : mi_W (d + 1) 163 438 [some (.ref l1), some (.int l2), some (.int l3), some (.int l4)] [] (n, sl, f) Q := by
  refine w_aload_n cd_163_438 rfl ?_
  refine w_getfield cd_163_439 (show mt_f 12 83 = some (12, 14) by decide +kernel) h6 h7 h9 ?_
  refine w_iload_n cd_163_442 rfl ?_
  refine w_aload_n cd_163_443 rfl ?_
  exact w_invokevirtual cd_163_444 (show mt_m 12 399 = some (163, 0) by decide +kernel) (rest := [.int l3, .ref x8]) rfl (as := [.ref l1]) rfl h11 (Or.inl h12) ⟨Nat.le_of_ble_eq_true rfl, Nat.le_of_ble_eq_true rfl, Nat.le_of_ble_eq_true rfl⟩ h13
theorem b_163_447 {d : Nat} {Q : (Option Value ⊕ Nat) → mi_H → Prop} (n sl : Nat) (f : Nat → mi_C) {l1 : Nat} {l2 : Int32} {l3 : Int32} {l4 : Int32} {s5 : Int32} {s6 : Int32} {s7 : Nat} (m8 i8 : Nat) (g8 : Nat → Int32) (h9 : f s7 = .inl (0, m8, .inl g8)) (h10 : s7 < n) (h11 : mi_ix s6 m8 i8) (h12 : s5 < (0 : Int32) → mi_W d 163 456 [some (.ref l1), some (.int l2), some (.int l3), some (.int l4)] [] (n, sl, (va_up f s7 (.inl (0, m8, .inl (upd g8 i8 s5))))) Q) (h13 : ¬ (s5 < (0 : Int32)) → mi_W d 163 452 [some (.ref l1), some (.int l2), some (.int l3), some (.int l4)] [] (n, sl, (va_up f s7 (.inl (0, m8, .inl (upd g8 i8 s5))))) Q) : mi_W d 163 447 [some (.ref l1), some (.int l2), some (.int l3), some (.int l4)] [.int s5, .int s6, .ref s7] (n, sl, f) Q := by
  refine w_dup_x2_iir cd_163_447 ?_
  refine w_iastore cd_163_448 h9 h10 h11 ?_
  exact w_iflt cd_163_449 (by decide) h12 h13
theorem b_163_452 {d : Nat} {Q : (Option Value ⊕ Nat) → mi_H → Prop} (n sl : Nat) (f : Nat → mi_C) {l1 : Nat} {l2 : Int32} {l3 : Int32} {l4 : Int32} (h5 : mi_W d 163 457 [some (.ref l1), some (.int l2), some (.int l3), some (.int l4)] [.int 1] (n, sl, f) Q) : mi_W d 163 452 [some (.ref l1), some (.int l2), some (.int l3), some (.int l4)] [] (n, sl, f) Q := by
  refine w_iconst (v := 1) cd_163_452 (by decide) ?_
  exact w_goto cd_163_453 (by decide) h5
theorem b_163_456 {d : Nat} {Q : (Option Value ⊕ Nat) → mi_H → Prop} (n sl : Nat) (f : Nat → mi_C) {l1 : Nat} {l2 : Int32} {l3 : Int32} {l4 : Int32} (h5 : mi_W d 163 457 [some (.ref l1), some (.int l2), some (.int l3), some (.int l4)] [.int 0] (n, sl, f) Q) : mi_W d 163 456 [some (.ref l1), some (.int l2), some (.int l3), some (.int l4)] [] (n, sl, f) Q := by
  refine w_iconst (v := 0) cd_163_456 (by decide) ?_
  exact h5
theorem b_163_457 {d : Nat} {Q : (Option Value ⊕ Nat) → mi_H → Prop} (n sl : Nat) (f : Nat → mi_C) {l1 : Nat} {l2 : Int32} {l3 : Int32} {l4 : Int32} {s5 : Int32} (h6 : mi_W d 163 558 [some (.ref l1), some (.int l2), some (.int l3), some (.int s5)] [] (n, sl, f) Q) : mi_W d 163 457 [some (.ref l1), some (.int l2), some (.int l3), some (.int l4)] [.int s5] (n, sl, f) Q := by
  refine w_istore_n (ls' := [some (.ref l1), some (.int l2), some (.int l3), some (.int s5)]) cd_163_457 (Nat.le_of_ble_eq_true rfl) rfl ?_
  exact w_goto cd_163_458 (by decide) h6
theorem b_163_461 {d : Nat} {Q : (Option Value ⊕ Nat) → mi_H → Prop} (n sl : Nat) (f : Nat → mi_C) {l1 : Nat} {l2 : Int32} {l3 : Int32} {l4 : Int32} {fs5 : List Value} {x8 : Nat} {fs10 : List Value} (h6 : f l1 = .inr (12, fs5)) (h7 : l1 < n) (h9 : fs5[13]? = some (.ref x8)) (h11 : f l1 = .inr (12, fs10)) (h12 : l1 < n) (h13 : mi_W d 164 0 (mi_en 5 [.ref l1]) [] (n, sl, f) (mi_Kc d 163 467 [some (.ref l1), some (.int l2), some (.int l3), some (.int l4)] [.int l3, .ref x8] Q)) : mi_W (d + 1) 163 461 [some (.ref l1), some (.int l2), some (.int l3), some (.int l4)] [] (n, sl, f) Q := by
  refine w_aload_n cd_163_461 rfl ?_
  refine w_getfield cd_163_462 (show mt_f 12 80 = some (12, 13) by decide +kernel) h6 h7 h9 ?_
  refine w_iload_n cd_163_465 rfl ?_
  refine w_aload_n cd_163_466 rfl ?_
  exact w_invokevirtual cd_163_467 (show mt_m 12 416 = some (164, 0) by decide +kernel) (rest := [.int l3, .ref x8]) rfl (as := [.ref l1]) rfl h11 (Or.inl h12) ⟨Nat.le_of_ble_eq_true rfl, Nat.le_of_ble_eq_true rfl, Nat.le_of_ble_eq_true rfl⟩ h13
theorem b_163_470 {d : Nat} {Q : (Option Value ⊕ Nat) → mi_H → Prop} (n sl : Nat) (f : Nat → mi_C) {l1 : Nat} {l2 : Int32} {l3 : Int32} {l4 : Int32} {s5 : Int32} {s6 : Int32} {s7 : Nat} (m8 i8 : Nat) (g8 : Nat → Int32) (h9 : f s7 = .inl (0, m8, .inl g8)) (h10 : s7 < n) (h11 : mi_ix s6 m8 i8) (h12 : s5 < (0 : Int32) → mi_W d 163 479 [some (.ref l1), some (.int l2), some (.int l3), some (.int l4)] [] (n, sl, (va_up f s7 (.inl (0, m8, .inl (upd g8 i8 s5))))) Q) (h13 : ¬ (s5 < (0 : Int32)) → mi_W d 163 475 [some (.ref l1), some (.int l2), some (.int l3), some (.int l4)] [] (n, sl, (va_up f s7 (.inl (0, m8, .inl (upd g8 i8 s5))))) Q) : mi_W d 163 470 [some (.ref l1), some (.int l2), some (.int l3), some (.int l4)] [.int s5, .int s6, .ref s7] (n, sl, f) Q := by
  refine w_dup_x2_iir cd_163_470 ?_
  refine w_iastore cd_163_471 h9 h10 h11 ?_
  exact w_iflt cd_163_472 (by decide) h12 h13
theorem b_163_475 {d : Nat} {Q : (Option Value ⊕ Nat) → mi_H → Prop} (n sl : Nat) (f : Nat → mi_C) {l1 : Nat} {l2 : Int32} {l3 : Int32} {l4 : Int32} (h5 : mi_W d 163 480 [some (.ref l1), some (.int l2), some (.int l3), some (.int l4)] [.int 1] (n, sl, f) Q) : mi_W d 163 475 [some (.ref l1), some (.int l2), some (.int l3), some (.int l4)] [] (n, sl, f) Q := by
  refine w_iconst (v := 1) cd_163_475 (by decide) ?_
  exact w_goto cd_163_476 (by decide) h5
theorem b_163_479 {d : Nat} {Q : (Option Value ⊕ Nat) → mi_H → Prop} (n sl : Nat) (f : Nat → mi_C) {l1 : Nat} {l2 : Int32} {l3 : Int32} {l4 : Int32} (h5 : mi_W d 163 480 [some (.ref l1), some (.int l2), some (.int l3), some (.int l4)] [.int 0] (n, sl, f) Q) : mi_W d 163 479 [some (.ref l1), some (.int l2), some (.int l3), some (.int l4)] [] (n, sl, f) Q := by
  refine w_iconst (v := 0) cd_163_479 (by decide) ?_
  exact h5
theorem b_163_480 {d : Nat} {Q : (Option Value ⊕ Nat) → mi_H → Prop} (n sl : Nat) (f : Nat → mi_C) {l1 : Nat} {l2 : Int32} {l3 : Int32} {l4 : Int32} {s5 : Int32} (h6 : mi_W d 163 558 [some (.ref l1), some (.int l2), some (.int l3), some (.int s5)] [] (n, sl, f) Q) : mi_W d 163 480 [some (.ref l1), some (.int l2), some (.int l3), some (.int l4)] [.int s5] (n, sl, f) Q := by
  refine w_istore_n (ls' := [some (.ref l1), some (.int l2), some (.int l3), some (.int s5)]) cd_163_480 (Nat.le_of_ble_eq_true rfl) rfl ?_
  exact w_goto cd_163_481 (by decide) h6
theorem b_163_484 {d : Nat} {Q : (Option Value ⊕ Nat) → mi_H → Prop} (n sl : Nat) (f : Nat → mi_C) {l1 : Nat} {l2 : Int32} {l3 : Int32} {l4 : Int32} {fs5 : List Value} {x8 : Nat} {fs10 : List Value} (h6 : f l1 = .inr (12, fs5)) (h7 : l1 < n) (h9 : fs5[13]? = some (.ref x8)) (h11 : f l1 = .inr (12, fs10)) (h12 : l1 < n) (h13 : mi_W d 166 0 (mi_en 2 [.ref l1]) [] (n, sl, f) (mi_Kc d 163 490 [some (.ref l1), some (.int l2), some (.int l3), some (.int l4)] [.int l3, .ref x8] Q)) : mi_W (d + 1) 163 484 [some (.ref l1), some (.int l2), some (.int l3), some (.int l4)] [] (n, sl, f) Q := by
  refine w_aload_n cd_163_484 rfl ?_
  refine w_getfield cd_163_485 (show mt_f 12 80 = some (12, 13) by decide +kernel) h6 h7 h9 ?_
  refine w_iload_n cd_163_488 rfl ?_
  refine w_aload_n cd_163_489 rfl ?_
  exact w_invokevirtual cd_163_490 (show mt_m 12 406 = some (166, 0) by decide +kernel) (rest := [.int l3, .ref x8]) rfl (as := [.ref l1]) rfl h11 (Or.inl h12) ⟨Nat.le_of_ble_eq_true rfl, Nat.le_of_ble_eq_true rfl, Nat.le_of_ble_eq_true rfl⟩ h13
theorem b_163_493 {d : Nat} {Q : (Option Value ⊕ Nat) → mi_H → Prop} (n sl : Nat) (f : Nat → mi_C) {l1 : Nat} {l2 : Int32} {l3 : Int32} {l4 : Int32} {s5 : Int32} {s6 : Int32} {s7 : Nat} (m8 i8 : Nat) (g8 : Nat → Int32) (h9 : f s7 = .inl (0, m8, .inl g8)) (h10 : s7 < n) (h11 : mi_ix s6 m8 i8) (h12 : s5 < (0 : Int32) → mi_W d 163 502 [some (.ref l1), some (.int l2), some (.int l3), some (.int l4)] [] (n, sl, (va_up f s7 (.inl (0, m8, .inl (upd g8 i8 s5))))) Q) (h13 : ¬ (s5 < (0 : Int32)) → mi_W d 163 498 [some (.ref l1), some (.int l2), some (.int l3), some (.int l4)] [] (n, sl, (va_up f s7 (.inl (0, m8, .inl (upd g8 i8 s5))))) Q) : mi_W d 163 493 [some (.ref l1), some (.int l2), some (.int l3), some (.int l4)] [.int s5, .int s6, .ref s7] (n, sl, f) Q := by
  refine w_dup_x2_iir cd_163_493 ?_
  refine w_iastore cd_163_494 h9 h10 h11 ?_
  exact w_iflt cd_163_495 (by decide) h12 h13
theorem b_163_498 {d : Nat} {Q : (Option Value ⊕ Nat) → mi_H → Prop} (n sl : Nat) (f : Nat → mi_C) {l1 : Nat} {l2 : Int32} {l3 : Int32} {l4 : Int32} (h5 : mi_W d 163 503 [some (.ref l1), some (.int l2), some (.int l3), some (.int l4)] [.int 1] (n, sl, f) Q) : mi_W d 163 498 [some (.ref l1), some (.int l2), some (.int l3), some (.int l4)] [] (n, sl, f) Q := by
  refine w_iconst (v := 1) cd_163_498 (by decide) ?_
  exact w_goto cd_163_499 (by decide) h5
theorem b_163_502 {d : Nat} {Q : (Option Value ⊕ Nat) → mi_H → Prop} (n sl : Nat) (f : Nat → mi_C) {l1 : Nat} {l2 : Int32} {l3 : Int32} {l4 : Int32} (h5 : mi_W d 163 503 [some (.ref l1), some (.int l2), some (.int l3), some (.int l4)] [.int 0] (n, sl, f) Q) : mi_W d 163 502 [some (.ref l1), some (.int l2), some (.int l3), some (.int l4)] [] (n, sl, f) Q := by
  refine w_iconst (v := 0) cd_163_502 (by decide) ?_
  exact h5
theorem b_163_503 {d : Nat} {Q : (Option Value ⊕ Nat) → mi_H → Prop} (n sl : Nat) (f : Nat → mi_C) {l1 : Nat} {l2 : Int32} {l3 : Int32} {l4 : Int32} {s5 : Int32} (h6 : mi_W d 163 558 [some (.ref l1), some (.int l2), some (.int l3), some (.int s5)] [] (n, sl, f) Q) : mi_W d 163 503 [some (.ref l1), some (.int l2), some (.int l3), some (.int l4)] [.int s5] (n, sl, f) Q := by
  refine w_istore_n (ls' := [some (.ref l1), some (.int l2), some (.int l3), some (.int s5)]) cd_163_503 (Nat.le_of_ble_eq_true rfl) rfl ?_
  exact w_goto cd_163_504 (by decide) h6
theorem b_163_507 {d : Nat} {Q : (Option Value ⊕ Nat) → mi_H → Prop} (n sl : Nat) (f : Nat → mi_C) {l1 : Nat} {l2 : Int32} {l3 : Int32} {l4 : Int32} {fs5 : List Value} {x8 : Nat} {fs10 : List Value} (h6 : f l1 = .inr (12, fs5)) (h7 : l1 < n) (h9 : fs5[16]? = some (.ref x8)) (h11 : f l1 = .inr (12, fs10)) (h12 : l1 < n) (h13 : mi_W d 167 0 (mi_en 4 [.ref l1]) [] (n, sl, f) (mi_Kc d 163 513 [some (.ref l1), some (.int l2), some (.int l3), some (.int l4)] [.int l3, .ref x8] Q)) : mi_W (d + 1) 163 507 [some (.ref l1), some (.int l2), some (.int l3), some (.int l4)] [] (n, sl, f) Q := by
  refine w_aload_n cd_163_507 rfl ?_
  refine w_getfield cd_163_508 (show mt_f 12 89 = some (12, 16) by decide +kernel) h6 h7 h9 ?_
  refine w_iload_n cd_163_511 rfl ?_
  refine w_aload_n cd_163_512 rfl ?_
  exact w_invokevirtual cd_163_513 (show mt_m 12 401 = some (167, 0) by decide +kernel) (rest := [.int l3, .ref x8]) rfl (as := [.ref l1]) rfl h11 (Or.inl h12) ⟨Nat.le_of_ble_eq_true rfl, Nat.le_of_ble_eq_true rfl, Nat.le_of_ble_eq_true rfl⟩ h13
theorem b_163_516 {d : Nat} {Q : (Option Value ⊕ Nat) → mi_H → Prop} (n sl : Nat) (f : Nat → mi_C) {l1 : Nat} {l2 : Int32} {l3 : Int32} {l4 : Int32} {s5 : Int32} {s6 : Int32} {s7 : Nat} (m8 i8 : Nat) (g8 : Nat → Int32) (h9 : f s7 = .inl (0, m8, .inl g8)) (h10 : s7 < n) (h11 : mi_ix s6 m8 i8) (h12 : s5 < (0 : Int32) → mi_W d 163 553 [some (.ref l1), some (.int l2), some (.int l3), some (.int l4)] [] (n, sl, (va_up f s7 (.inl (0, m8, .inl (upd g8 i8 s5))))) Q) (h13 : ¬ (s5 < (0 : Int32)) → mi_W d 163 521 [some (.ref l1), some (.int l2), some (.int l3), some (.int l4)] [] (n, sl, (va_up f s7 (.inl (0, m8, .inl (upd g8 i8 s5))))) Q) : mi_W d 163 516 [some (.ref l1), some (.int l2), some (.int l3), some (.int l4)] [.int s5, .int s6, .ref s7] (n, sl, f) Q := by
  refine w_dup_x2_iir cd_163_516 ?_
  refine w_iastore cd_163_517 h9 h10 h11 ?_
  exact w_iflt cd_163_518 (by decide) h12 h13
theorem b_163_521 {d : Nat} {Q : (Option Value ⊕ Nat) → mi_H → Prop} (n sl : Nat) (f : Nat → mi_C) {l1 : Nat} {l2 : Int32} {l3 : Int32} {l4 : Int32} {fs5 : List Value} {x8 : Nat} {fs10 : List Value} (h6 : f l1 = .inr (12, fs5)) (h7 : l1 < n) (h9 : fs5[13]? = some (.ref x8)) (h11 : f l1 = .inr (12, fs10)) (h12 : l1 < n) (h13 : mi_W d 163 0 (mi_en 4 [.ref l1]) [] (n, sl, f) (mi_Kc d 163 527 [some (.ref l1), some (.int l2), some (.int l3), some (.int l4)] [.int l3, .ref x8] Q)) : mi_W (d + 1) 163 521 [some (.ref l1), some (.int l2), some (.int l3), some (.int l4)] [] (n, sl, f) Q := by
  refine w_aload_n cd_163_521 rfl ?_
  refine w_getfield cd_163_522 (show mt_f 12 80 = some (12, 13) by decide +kernel) h6 h7 h9 ?_
  refine w_iload_n cd_163_525 rfl ?_
  refine w_aload_n cd_163_526 rfl ?_
  exact w_invokevirtual cd_163_527 (show mt_m 12 399 = some (163, 0) by decide +kernel) (rest := [.int l3, .ref x8]) rfl (as := [.ref l1]) rfl h11 (Or.inl h12) ⟨Nat.le_of_ble_eq_true rfl, Nat.le_of_ble_eq_true rfl, Nat.le_of_ble_eq_true rfl⟩ h13
theorem b_163_530 {d : Nat} {Q : (Option Value ⊕ Nat) → mi_H → Prop} (n sl : Nat) (f : Nat → mi_C) {l1 : Nat} {l2 : Int32} {l3 : Int32} {l4 : Int32} {s5 : Int32} {s6 : Int32} {s7 : Nat} (m8 i8 : Nat) (g8 : Nat → Int32) (h9 : f s7 = .inl (0, m8, .inl g8)) (h10 : s7 < n) (h11 : mi_ix s6 m8 i8) (h12 : s5 < (0 : Int32) → mi_W d 163 553 [some (.ref l1), some (.int l2), some (.int l3), some (.int l4)] [] (n, sl, (va_up f s7 (.inl (0, m8, .inl (upd g8 i8 s5))))) Q) (h13 : ¬ (s5 < (0 : Int32)) → mi_W d 163 535 [some (.ref l1), some (.int l2), some (.int l3), some (.int l4)] [] (n, sl, (va_up f s7 (.inl (0, m8, .inl (upd g8 i8 s5))))) Q) : mi_W d 163 530 [some (.ref l1), some (.int l2), some (.int l3), some (.int l4)] [.int s5, .int s6, .ref s7] (n, sl, f) Q := by
  refine w_dup_x2_iir cd_163_530 ?_
  refine w_iastore cd_163_531 h9 h10 h11 ?_
  exact w_iflt cd_163_532 (by decide) h12 h13
theorem b_163_535 {d : Nat} {Q : (Option Value ⊕ Nat) → mi_H → Prop} (n sl : Nat) (f : Nat → mi_C) {l1 : Nat} {l2 : Int32} {l3 : Int32} {l4 : Int32} {fs5 : List Value} {x8 : Nat} {fs10 : List Value} (h6 : f l1 = .inr (12, fs5)) (h7 : l1 < n) (h9 : fs5[14]? = some (.ref x8)) (h11 : f l1 = .inr (12, fs10)) (h12 : l1 < n) (h13 : mi_W d 163 0 (mi_en 4 [.ref l1]) [] (n, sl, f) (mi_Kc d 163 541 [some (.ref l1), some (.int l2), some (.int l3), some (.int l4)] [.int l3, .ref x8] Q)) : mi_W (d + 1) 163 535 [some (.ref l1), some (.int l2), some (.int l3), some (.int l4)] [] (n, sl, f) Q := by
  refine w_aload_n cd_163_535 rfl ?_
  refine w_getfield cd_163_536 (show mt_f 12 83 = some (12, 14) by decide +kernel) h6 h7 h9 ?_
  refine w_iload_n cd_163_539 rfl ?_
  refine w_aload_n cd_163_540 rfl ?_
  exact w_invokevirtual cd_163_541 (show mt_m 12 399 = some (163, 0) by decide +kernel) (rest := [.int l3, .ref x8]) rfl (as := [.ref l1]) rfl h11 (Or.inl h12) ⟨Nat.le_of_ble_eq_true rfl, Nat.le_of_ble_eq_true rfl, Nat.le_of_ble_eq_true rfl⟩ h13
theorem b_163_544 {d : Nat} {Q : (Option Value ⊕ Nat) → mi_H → Prop} (n sl : Nat) (f : Nat → mi_C) {l1 : Nat} {l2 : Int32} {l3 : Int32} {l4 : Int32} {s5 : Int32} {s6 : Int32} {s7 : Nat} (m8 i8 : Nat) (g8 : Nat → Int32) (h9 : f s7 = .inl (0, m8, .inl g8)) (h10 : s7 < n) (h11 : mi_ix s6 m8 i8) (h12 : s5 < (0 : Int32) → mi_W d 163 553 [some (.ref l1), some (.int l2), some (.int l3), some (.int l4)] [] (n, sl, (va_up f s7 (.inl (0, m8, .inl (upd g8 i8 s5))))) Q) (h13 : ¬ (s5 < (0 : Int32)) → mi_W d 163 549 [some (.ref l1), some (.int l2), some (.int l3), some (.int l4)] [] (n, sl, (va_up f s7 (.inl (0, m8, .inl (upd g8 i8 s5))))) Q) : mi_W d 163 544 [some (.ref l1), some (.int l2), some (.int l3), some (.int l4)] [.int s5, .int s6, .ref s7] (n, sl, f) Q := by
  refine w_dup_x2_iir cd_163_544 ?_
  refine w_iastore cd_163_545 h9 h10 h11 ?_
  exact w_iflt cd_163_546 (by decide) h12 h13
theorem b_163_549 {d : Nat} {Q : (Option Value ⊕ Nat) → mi_H → Prop} (n sl : Nat) (f : Nat → mi_C) {l1 : Nat} {l2 : Int32} {l3 : Int32} {l4 : Int32} (h5 : mi_W d 163 554 [some (.ref l1), some (.int l2), some (.int l3), some (.int l4)] [.int 1] (n, sl, f) Q) : mi_W d 163 549 [some (.ref l1), some (.int l2), some (.int l3), some (.int l4)] [] (n, sl, f) Q := by
  refine w_iconst (v := 1) cd_163_549 (by decide) ?_
  exact w_goto cd_163_550 (by decide) h5
theorem b_163_553 {d : Nat} {Q : (Option Value ⊕ Nat) → mi_H → Prop} (n sl : Nat) (f : Nat → mi_C) {l1 : Nat} {l2 : Int32} {l3 : Int32} {l4 : Int32} (h5 : mi_W d 163 554 [some (.ref l1), some (.int l2), some (.int l3), some (.int l4)] [.int 0] (n, sl, f) Q) : mi_W d 163 553 [some (.ref l1), some (.int l2), some (.int l3), some (.int l4)] [] (n, sl, f) Q := by
  refine w_iconst (v := 0) cd_163_553 (by decide) ?_
  exact h5
theorem b_163_554 {d : Nat} {Q : (Option Value ⊕ Nat) → mi_H → Prop} (n sl : Nat) (f : Nat → mi_C) {l1 : Nat} {l2 : Int32} {l3 : Int32} {l4 : Int32} {s5 : Int32} (h6 : mi_W d 163 558 [some (.ref l1), some (.int l2), some (.int l3), some (.int s5)] [] (n, sl, f) Q) : mi_W d 163 554 [some (.ref l1), some (.int l2), some (.int l3), some (.int l4)] [.int s5] (n, sl, f) Q := by
  refine w_istore_n (ls' := [some (.ref l1), some (.int l2), some (.int l3), some (.int s5)]) cd_163_554 (Nat.le_of_ble_eq_true rfl) rfl ?_
  exact w_goto cd_163_555 (by decide) h6
theorem b_163_558 {d : Nat} {Q : (Option Value ⊕ Nat) → mi_H → Prop} (n sl : Nat) (f : Nat → mi_C) {l1 : Nat} {l2 : Int32} {l3 : Int32} {l4 : Int32} {fs5 : List Value} {x8 : Int32} {fs10 : List Value} (h6 : f l1 = .inr (12, fs5)) (h7 : l1 < n) (h9 : fs5[22]? = some (.int x8)) (h11 : f l1 = .inr (12, fs10)) (h12 : l1 < n) (h13 : 22 < fs10.length) (h14 : l4 = (0 : Int32) → mi_W d 163 576 [some (.ref l1), some (.int l2), some (.int l3), some (.int l4)] [] (n, sl, (va_up f l1 (.inr (12, fs10.set 22 (.int (x8 - 1)))))) Q) (h15 : ¬ (l4 = (0 : Int32)) → mi_W d 163 572 [some (.ref l1), some (.int l2), some (.int l3), some (.int l4)] [] (n, sl, (va_up f l1 (.inr (12, fs10.set 22 (.int (x8 - 1)))))) Q) : mi_W d 163 558 [some (.ref l1), some (.int l2), some (.int l3), some (.int l4)] [] (n, sl, f) Q := by
  refine w_aload_n cd_163_558 rfl ?_
  refine w_dup_r cd_163_559 ?_
  refine w_getfield cd_163_560 (show mt_f 12 337 = some (12, 22) by decide +kernel) h6 h7 h9 ?_
  refine w_iconst (v := 1) cd_163_563 (by decide) ?_
  refine w_isub cd_163_564 ?_
  refine w_putfield (w := .int (x8 - 1)) cd_163_565 (show mt_f 12 337 = some (12, 22) by decide +kernel) h11 h12 ⟨h13, rfl, Or.inl (by decide)⟩ ?_
  refine w_iload_n cd_163_568 rfl ?_
  exact w_ifeq cd_163_569 (by decide) h14 h15
theorem b_163_572 {d : Nat} {Q : (Option Value ⊕ Nat) → mi_H → Prop} (n sl : Nat) (f : Nat → mi_C) {l1 : Nat} {l2 : Int32} {l3 : Int32} {l4 : Int32} (h5 : mi_W d 163 577 [some (.ref l1), some (.int l2), some (.int l3), some (.int l4)] [.int l3] (n, sl, f) Q) : mi_W d 163 572 [some (.ref l1), some (.int l2), some (.int l3), some (.int l4)] [] (n, sl, f) Q := by
  refine w_iload_n cd_163_572 rfl ?_
  exact w_goto cd_163_573 (by decide) h5
theorem b_163_576 {d : Nat} {Q : (Option Value ⊕ Nat) → mi_H → Prop} (n sl : Nat) (f : Nat → mi_C) {l1 : Nat} {l2 : Int32} {l3 : Int32} {l4 : Int32} (h5 : mi_W d 163 577 [some (.ref l1), some (.int l2), some (.int l3), some (.int l4)] [.int (-1)] (n, sl, f) Q) : mi_W d 163 576 [some (.ref l1), some (.int l2), some (.int l3), some (.int l4)] [] (n, sl, f) Q := by
  refine w_iconst (v := (-1)) cd_163_576 (by decide) ?_
  exact h5
theorem b_163_577 {d : Nat} {Q : (Option Value ⊕ Nat) → mi_H → Prop} (n sl : Nat) (f : Nat → mi_C) {l1 : Nat} {l2 : Int32} {l3 : Int32} {l4 : Int32} {s5 : Int32} (h6 : Q (.inl (some (.int s5))) (n, sl, f)) : mi_W d 163 577 [some (.ref l1), some (.int l2), some (.int l3), some (.int l4)] [.int s5] (n, sl, f) Q := by
  exact w_ireturn_i cd_163_577 (by decide +kernel) h6
end
