section
/-! MarloweHost.<init>()V -/
set_option maxRecDepth 100000 in
theorem mq_0 : mt_q 0 = my_0 := rfl
set_option maxRecDepth 100000 in
theorem ci_0 : mt_inc 0 my_0.cd = true := by decide +kernel
theorem cd_0_0 : mt_cd 0 0 = some (.aload_n 0) := mt_cd_of (q := (0, .aload_n 0, 1)) mq_0 ci_0 (List.mem_of_getElem? (i := 0) rfl)
theorem cd_0_1 : mt_cd 0 1 = some (.invokespecial 3) := mt_cd_of (q := (1, .invokespecial 3, 3)) mq_0 ci_0 (List.mem_of_getElem? (i := 1) rfl)
theorem cd_0_4 : mt_cd 0 4 = some (.aload_n 0) := mt_cd_of (q := (4, .aload_n 0, 1)) mq_0 ci_0 (List.mem_of_getElem? (i := 2) rfl)
theorem cd_0_5 : mt_cd 0 5 = some (.new 9) := mt_cd_of (q := (5, .new 9, 3)) mq_0 ci_0 (List.mem_of_getElem? (i := 3) rfl)
theorem cd_0_8 : mt_cd 0 8 = some (.dup) := mt_cd_of (q := (8, .dup, 1)) mq_0 ci_0 (List.mem_of_getElem? (i := 4) rfl)
theorem cd_0_9 : mt_cd 0 9 = some (.invokespecial 11) := mt_cd_of (q := (9, .invokespecial 11, 3)) mq_0 ci_0 (List.mem_of_getElem? (i := 5) rfl)
theorem cd_0_12 : mt_cd 0 12 = some (.putfield 12) := mt_cd_of (q := (12, .putfield 12, 3)) mq_0 ci_0 (List.mem_of_getElem? (i := 6) rfl)
theorem cd_0_15 : mt_cd 0 15 = some (.aload_n 0) := mt_cd_of (q := (15, .aload_n 0, 1)) mq_0 ci_0 (List.mem_of_getElem? (i := 7) rfl)
theorem cd_0_16 : mt_cd 0 16 = some (.new 16) := mt_cd_of (q := (16, .new 16, 3)) mq_0 ci_0 (List.mem_of_getElem? (i := 8) rfl)
theorem cd_0_19 : mt_cd 0 19 = some (.dup) := mt_cd_of (q := (19, .dup, 1)) mq_0 ci_0 (List.mem_of_getElem? (i := 9) rfl)
theorem cd_0_20 : mt_cd 0 20 = some (.invokespecial 18) := mt_cd_of (q := (20, .invokespecial 18, 3)) mq_0 ci_0 (List.mem_of_getElem? (i := 10) rfl)
theorem cd_0_23 : mt_cd 0 23 = some (.putfield 19) := mt_cd_of (q := (23, .putfield 19, 3)) mq_0 ci_0 (List.mem_of_getElem? (i := 11) rfl)
theorem cd_0_26 : mt_cd 0 26 = some (.aload_n 0) := mt_cd_of (q := (26, .aload_n 0, 1)) mq_0 ci_0 (List.mem_of_getElem? (i := 12) rfl)
theorem cd_0_27 : mt_cd 0 27 = some (.new 23) := mt_cd_of (q := (27, .new 23, 3)) mq_0 ci_0 (List.mem_of_getElem? (i := 13) rfl)
theorem cd_0_30 : mt_cd 0 30 = some (.dup) := mt_cd_of (q := (30, .dup, 1)) mq_0 ci_0 (List.mem_of_getElem? (i := 14) rfl)
theorem cd_0_31 : mt_cd 0 31 = some (.aload_n 0) := mt_cd_of (q := (31, .aload_n 0, 1)) mq_0 ci_0 (List.mem_of_getElem? (i := 15) rfl)
theorem cd_0_32 : mt_cd 0 32 = some (.getfield 12) := mt_cd_of (q := (32, .getfield 12, 3)) mq_0 ci_0 (List.mem_of_getElem? (i := 16) rfl)
theorem cd_0_35 : mt_cd 0 35 = some (.aload_n 0) := mt_cd_of (q := (35, .aload_n 0, 1)) mq_0 ci_0 (List.mem_of_getElem? (i := 17) rfl)
theorem cd_0_36 : mt_cd 0 36 = some (.getfield 19) := mt_cd_of (q := (36, .getfield 19, 3)) mq_0 ci_0 (List.mem_of_getElem? (i := 18) rfl)
theorem cd_0_39 : mt_cd 0 39 = some (.invokespecial 25) := mt_cd_of (q := (39, .invokespecial 25, 3)) mq_0 ci_0 (List.mem_of_getElem? (i := 19) rfl)
theorem cd_0_42 : mt_cd 0 42 = some (.putfield 28) := mt_cd_of (q := (42, .putfield 28, 3)) mq_0 ci_0 (List.mem_of_getElem? (i := 20) rfl)
theorem cd_0_45 : mt_cd 0 45 = some (.aload_n 0) := mt_cd_of (q := (45, .aload_n 0, 1)) mq_0 ci_0 (List.mem_of_getElem? (i := 21) rfl)
theorem cd_0_46 : mt_cd 0 46 = some (.new 32) := mt_cd_of (q := (46, .new 32, 3)) mq_0 ci_0 (List.mem_of_getElem? (i := 22) rfl)
theorem cd_0_49 : mt_cd 0 49 = some (.dup) := mt_cd_of (q := (49, .dup, 1)) mq_0 ci_0 (List.mem_of_getElem? (i := 23) rfl)
theorem cd_0_50 : mt_cd 0 50 = some (.invokespecial 34) := mt_cd_of (q := (50, .invokespecial 34, 3)) mq_0 ci_0 (List.mem_of_getElem? (i := 24) rfl)
theorem cd_0_53 : mt_cd 0 53 = some (.putfield 35) := mt_cd_of (q := (53, .putfield 35, 3)) mq_0 ci_0 (List.mem_of_getElem? (i := 25) rfl)
theorem cd_0_56 : mt_cd 0 56 = some (.aload_n 0) := mt_cd_of (q := (56, .aload_n 0, 1)) mq_0 ci_0 (List.mem_of_getElem? (i := 26) rfl)
theorem cd_0_57 : mt_cd 0 57 = some (.new 39) := mt_cd_of (q := (57, .new 39, 3)) mq_0 ci_0 (List.mem_of_getElem? (i := 27) rfl)
theorem cd_0_60 : mt_cd 0 60 = some (.dup) := mt_cd_of (q := (60, .dup, 1)) mq_0 ci_0 (List.mem_of_getElem? (i := 28) rfl)
theorem cd_0_61 : mt_cd 0 61 = some (.invokespecial 41) := mt_cd_of (q := (61, .invokespecial 41, 3)) mq_0 ci_0 (List.mem_of_getElem? (i := 29) rfl)
theorem cd_0_64 : mt_cd 0 64 = some (.putfield 42) := mt_cd_of (q := (64, .putfield 42, 3)) mq_0 ci_0 (List.mem_of_getElem? (i := 30) rfl)
theorem cd_0_67 : mt_cd 0 67 = some (.aload_n 0) := mt_cd_of (q := (67, .aload_n 0, 1)) mq_0 ci_0 (List.mem_of_getElem? (i := 31) rfl)
theorem cd_0_68 : mt_cd 0 68 = some (.new 46) := mt_cd_of (q := (68, .new 46, 3)) mq_0 ci_0 (List.mem_of_getElem? (i := 32) rfl)
theorem cd_0_71 : mt_cd 0 71 = some (.dup) := mt_cd_of (q := (71, .dup, 1)) mq_0 ci_0 (List.mem_of_getElem? (i := 33) rfl)
theorem cd_0_72 : mt_cd 0 72 = some (.aload_n 0) := mt_cd_of (q := (72, .aload_n 0, 1)) mq_0 ci_0 (List.mem_of_getElem? (i := 34) rfl)
theorem cd_0_73 : mt_cd 0 73 = some (.getfield 19) := mt_cd_of (q := (73, .getfield 19, 3)) mq_0 ci_0 (List.mem_of_getElem? (i := 35) rfl)
theorem cd_0_76 : mt_cd 0 76 = some (.aload_n 0) := mt_cd_of (q := (76, .aload_n 0, 1)) mq_0 ci_0 (List.mem_of_getElem? (i := 36) rfl)
theorem cd_0_77 : mt_cd 0 77 = some (.getfield 35) := mt_cd_of (q := (77, .getfield 35, 3)) mq_0 ci_0 (List.mem_of_getElem? (i := 37) rfl)
theorem cd_0_80 : mt_cd 0 80 = some (.invokespecial 48) := mt_cd_of (q := (80, .invokespecial 48, 3)) mq_0 ci_0 (List.mem_of_getElem? (i := 38) rfl)
theorem cd_0_83 : mt_cd 0 83 = some (.putfield 51) := mt_cd_of (q := (83, .putfield 51, 3)) mq_0 ci_0 (List.mem_of_getElem? (i := 39) rfl)
theorem cd_0_86 : mt_cd 0 86 = some (.aload_n 0) := mt_cd_of (q := (86, .aload_n 0, 1)) mq_0 ci_0 (List.mem_of_getElem? (i := 40) rfl)
theorem cd_0_87 : mt_cd 0 87 = some (.new 55) := mt_cd_of (q := (87, .new 55, 3)) mq_0 ci_0 (List.mem_of_getElem? (i := 41) rfl)
theorem cd_0_90 : mt_cd 0 90 = some (.dup) := mt_cd_of (q := (90, .dup, 1)) mq_0 ci_0 (List.mem_of_getElem? (i := 42) rfl)
theorem cd_0_91 : mt_cd 0 91 = some (.aload_n 0) := mt_cd_of (q := (91, .aload_n 0, 1)) mq_0 ci_0 (List.mem_of_getElem? (i := 43) rfl)
theorem cd_0_92 : mt_cd 0 92 = some (.getfield 19) := mt_cd_of (q := (92, .getfield 19, 3)) mq_0 ci_0 (List.mem_of_getElem? (i := 44) rfl)
theorem cd_0_95 : mt_cd 0 95 = some (.invokespecial 57) := mt_cd_of (q := (95, .invokespecial 57, 3)) mq_0 ci_0 (List.mem_of_getElem? (i := 45) rfl)
theorem cd_0_98 : mt_cd 0 98 = some (.putfield 60) := mt_cd_of (q := (98, .putfield 60, 3)) mq_0 ci_0 (List.mem_of_getElem? (i := 46) rfl)
theorem cd_0_101 : mt_cd 0 101 = some (.aload_n 0) := mt_cd_of (q := (101, .aload_n 0, 1)) mq_0 ci_0 (List.mem_of_getElem? (i := 47) rfl)
theorem cd_0_102 : mt_cd 0 102 = some (.new 64) := mt_cd_of (q := (102, .new 64, 3)) mq_0 ci_0 (List.mem_of_getElem? (i := 48) rfl)
theorem cd_0_105 : mt_cd 0 105 = some (.dup) := mt_cd_of (q := (105, .dup, 1)) mq_0 ci_0 (List.mem_of_getElem? (i := 49) rfl)
theorem cd_0_106 : mt_cd 0 106 = some (.invokespecial 66) := mt_cd_of (q := (106, .invokespecial 66, 3)) mq_0 ci_0 (List.mem_of_getElem? (i := 50) rfl)
theorem cd_0_109 : mt_cd 0 109 = some (.putfield 67) := mt_cd_of (q := (109, .putfield 67, 3)) mq_0 ci_0 (List.mem_of_getElem? (i := 51) rfl)
theorem cd_0_112 : mt_cd 0 112 = some (.aload_n 0) := mt_cd_of (q := (112, .aload_n 0, 1)) mq_0 ci_0 (List.mem_of_getElem? (i := 52) rfl)
theorem cd_0_113 : mt_cd 0 113 = some (.new 64) := mt_cd_of (q := (113, .new 64, 3)) mq_0 ci_0 (List.mem_of_getElem? (i := 53) rfl)
theorem cd_0_116 : mt_cd 0 116 = some (.dup) := mt_cd_of (q := (116, .dup, 1)) mq_0 ci_0 (List.mem_of_getElem? (i := 54) rfl)
theorem cd_0_117 : mt_cd 0 117 = some (.invokespecial 66) := mt_cd_of (q := (117, .invokespecial 66, 3)) mq_0 ci_0 (List.mem_of_getElem? (i := 55) rfl)
theorem cd_0_120 : mt_cd 0 120 = some (.putfield 71) := mt_cd_of (q := (120, .putfield 71, 3)) mq_0 ci_0 (List.mem_of_getElem? (i := 56) rfl)
theorem cd_0_123 : mt_cd 0 123 = some (.return_) := mt_cd_of (q := (123, .return_, 1)) mq_0 ci_0 (List.mem_of_getElem? (i := 57) rfl)
theorem b_0_0 {d : Nat} {Q : (Option Value ⊕ Nat) → mi_H → Prop} (n sl : Nat) (f : Nat → mi_C) {l1 : Nat} (h2 : n + 1 ≤ mi_NC ∧ sl + 7 ≤ mi_NS) (h3 : n < (n + 1)) (h4 : mi_W d 1 0 (mi_en 1 [.ref n]) [] ((n + 1), (sl + 7), (va_up f n (.inr (1, mt_df 1)))) (mi_Kc d 0 9 [some (.ref l1)] [.ref n, .ref l1] Q)) : mi_W (d + 1) 0 0 [some (.ref l1)] [] (n, sl, f) Q := by
  refine w_aload_n cd_0_0 rfl ?_
  refine w_oinit cd_0_1 (by decide) (Nat.le_of_ble_eq_true rfl) ?_
  refine w_aload_n cd_0_4 rfl ?_
  refine w_new cd_0_5 (show mt_c 0 9 = some 1 by decide +kernel) (by decide) h2 ?_
  refine w_dup_r cd_0_8 ?_
  exact w_invokespecial cd_0_9 (show mt_m 0 11 = some (1, 3) by decide +kernel) (Or.inr rfl) (by decide) (rest := [.ref n, .ref l1]) rfl (as := [.ref n]) rfl h3 ⟨Nat.le_of_ble_eq_true rfl, Nat.le_of_ble_eq_true rfl, Nat.le_of_ble_eq_true rfl⟩ h4
theorem b_0_12 {d : Nat} {Q : (Option Value ⊕ Nat) → mi_H → Prop} (n sl : Nat) (f : Nat → mi_C) {l1 : Nat} {s2 : Nat} {s3 : Nat} {fs4 : List Value} (h5 : f s3 = .inr (0, fs4)) (h6 : s3 < n) (h7 : 0 < fs4.length) (h8 : n + 1 ≤ mi_NC ∧ sl + 13 ≤ mi_NS) (h9 : n < (n + 1)) (h10 : mi_W d 2 0 (mi_en 1 [.ref n]) [] ((n + 1), (sl + 13), (va_up (va_up f s3 (.inr (0, fs4.set 0 (.ref s2)))) n (.inr (2, mt_df 2)))) (mi_Kc d 0 20 [some (.ref l1)] [.ref n, .ref l1] Q)) : mi_W (d + 1) 0 12 [some (.ref l1)] [.ref s2, .ref s3] (n, sl, f) Q := by
  refine w_putfield (w := .ref s2) cd_0_12 (show mt_f 0 12 = some (0, 0) by decide +kernel) h5 h6 ⟨h7, rfl, Or.inr (by decide +kernel)⟩ ?_
  refine w_aload_n cd_0_15 rfl ?_
  refine w_new cd_0_16 (show mt_c 0 16 = some 2 by decide +kernel) (by decide) h8 ?_
  refine w_dup_r cd_0_19 ?_
  exact w_invokespecial cd_0_20 (show mt_m 0 18 = some (2, 3) by decide +kernel) (Or.inr rfl) (by decide) (rest := [.ref n, .ref l1]) rfl (as := [.ref n]) rfl h9 ⟨Nat.le_of_ble_eq_true rfl, Nat.le_of_ble_eq_true rfl, Nat.le_of_ble_eq_true rfl⟩ h10
theorem b_0_23 {d : Nat} {Q : (Option Value ⊕ Nat) → mi_H → Prop} (n sl : Nat) (f : Nat → mi_C) {l1 : Nat} {s2 : Nat} {s3 : Nat} {fs4 : List Value} {fs9 : List Value} {x12 : Nat} {fs14 : List Value} {x17 : Nat} (h5 : f s3 = .inr (0, fs4)) (h6 : s3 < n) (h7 : 1 < fs4.length) (h8 : n + 1 ≤ mi_NC ∧ sl + 7 ≤ mi_NS) (h10 : (va_up (va_up f s3 (.inr (0, fs4.set 1 (.ref s2)))) n (.inr (3, mt_df 3))) l1 = .inr (0, fs9)) (h11 : l1 < (n + 1)) (h13 : fs9[0]? = some (.ref x12)) (h15 : (va_up (va_up f s3 (.inr (0, fs4.set 1 (.ref s2)))) n (.inr (3, mt_df 3))) l1 = .inr (0, fs14)) (h16 : l1 < (n + 1)) (h18 : fs14[1]? = some (.ref x17)) (h19 : n < (n + 1)) (h20 : mi_W d 3 0 (mi_en 3 [.ref n, .ref x12, .ref x17]) [] ((n + 1), (sl + 7), (va_up (va_up f s3 (.inr (0, fs4.set 1 (.ref s2)))) n (.inr (3, mt_df 3)))) (mi_Kc d 0 39 [some (.ref l1)] [.ref n, .ref l1] Q)) : mi_W (d + 1) 0 23 [some (.ref l1)] [.ref s2, .ref s3] (n, sl, f) Q := by
  refine w_putfield (w := .ref s2) cd_0_23 (show mt_f 0 19 = some (0, 1) by decide +kernel) h5 h6 ⟨h7, rfl, Or.inr (by decide +kernel)⟩ ?_
  refine w_aload_n cd_0_26 rfl ?_
  refine w_new cd_0_27 (show mt_c 0 23 = some 3 by decide +kernel) (by decide) h8 ?_
  refine w_dup_r cd_0_30 ?_
  refine w_aload_n cd_0_31 rfl ?_
  refine w_getfield cd_0_32 (show mt_f 0 12 = some (0, 0) by decide +kernel) h10 h11 h13 ?_
  refine w_aload_n cd_0_35 rfl ?_
  refine w_getfield cd_0_36 (show mt_f 0 19 = some (0, 1) by decide +kernel) h15 h16 h18 ?_
  exact w_invokespecial cd_0_39 (show mt_m 0 25 = some (3, 2) by decide +kernel) (Or.inl rfl) (by decide) (rest := [.ref n, .ref l1]) rfl (as := [.ref n, .ref x12, .ref x17]) rfl h19 ⟨Nat.le_of_ble_eq_true rfl, Nat.le_of_ble_eq_true rfl, Nat.le_of_ble_eq_true rfl⟩ h20
theorem b_0_42 {d : Nat} {Q : (Option Value ⊕ Nat) → mi_H → Prop} (n sl : Nat) (f : Nat → mi_C) {l1 : Nat} {s2 : Nat} {s3 : Nat} {fs4 : List Value} (h5 : f s3 = .inr (0, fs4)) (h6 : s3 < n) (h7 : 2 < fs4.length) (h8 : n + 1 ≤ mi_NC ∧ sl + 2 ≤ mi_NS) (h9 : n < (n + 1)) (h10 : mi_W d 5 0 (mi_en 1 [.ref n]) [] ((n + 1), (sl + 2), (va_up (va_up f s3 (.inr (0, fs4.set 2 (.ref s2)))) n (.inr (5, mt_df 5)))) (mi_Kc d 0 50 [some (.ref l1)] [.ref n, .ref l1] Q)) : mi_W (d + 1) 0 42 [some (.ref l1)] [.ref s2, .ref s3] (n, sl, f) Q := by
  refine w_putfield (w := .ref s2) cd_0_42 (show mt_f 0 28 = some (0, 2) by decide +kernel) h5 h6 ⟨h7, rfl, Or.inr (by decide +kernel)⟩ ?_
  refine w_aload_n cd_0_45 rfl ?_
  refine w_new cd_0_46 (show mt_c 0 32 = some 5 by decide +kernel) (by decide) h8 ?_
  refine w_dup_r cd_0_49 ?_
  exact w_invokespecial cd_0_50 (show mt_m 0 34 = some (5, 3) by decide +kernel) (Or.inr rfl) (by decide) (rest := [.ref n, .ref l1]) rfl (as := [.ref n]) rfl h9 ⟨Nat.le_of_ble_eq_true rfl, Nat.le_of_ble_eq_true rfl, Nat.le_of_ble_eq_true rfl⟩ h10
theorem b_0_53 {d : Nat} {Q : (Option Value ⊕ Nat) → mi_H → Prop} (n sl : Nat) (f : Nat → mi_C) {l1 : Nat} {s2 : Nat} {s3 : Nat} {fs4 : List Value} (h5 : f s3 = .inr (0, fs4)) (h6 : s3 < n) (h7 : 3 < fs4.length) (h8 : n + 1 ≤ mi_NC ∧ sl + 6 ≤ mi_NS) (h9 : n < (n + 1)) (h10 : mi_W d 6 0 (mi_en 1 [.ref n]) [] ((n + 1), (sl + 6), (va_up (va_up f s3 (.inr (0, fs4.set 3 (.ref s2)))) n (.inr (6, mt_df 6)))) (mi_Kc d 0 61 [some (.ref l1)] [.ref n, .ref l1] Q)) : mi_W (d + 1) 0 53 [some (.ref l1)] [.ref s2, .ref s3] (n, sl, f) Q := by
  refine w_putfield (w := .ref s2) cd_0_53 (show mt_f 0 35 = some (0, 3) by decide +kernel) h5 h6 ⟨h7, rfl, Or.inr (by decide +kernel)⟩ ?_
  refine w_aload_n cd_0_56 rfl ?_
  refine w_new cd_0_57 (show mt_c 0 39 = some 6 by decide +kernel) (by decide) h8 ?_
  refine w_dup_r cd_0_60 ?_
  exact w_invokespecial cd_0_61 (show mt_m 0 41 = some (6, 3) by decide +kernel) (Or.inr rfl) (by decide) (rest := [.ref n, .ref l1]) rfl (as := [.ref n]) rfl h9 ⟨Nat.le_of_ble_eq_true rfl, Nat.le_of_ble_eq_true rfl, Nat.le_of_ble_eq_true rfl⟩ h10
theorem b_0_64 {d : Nat} {Q : (Option Value ⊕ Nat) → mi_H → Prop} (n sl : Nat) (f : Nat → mi_C) {l1 : Nat} {s2 : Nat} {s3 : Nat} {fs4 : List Value} {fs9 : List Value} {x12 : Nat} {fs14 : List Value} {x17 : Nat} (h5 : f s3 = .inr (0, fs4)) (h6 : s3 < n) (h7 : 4 < fs4.length) (h8 : n + 1 ≤ mi_NC ∧ sl + 8 ≤ mi_NS) (h10 : (va_up (va_up f s3 (.inr (0, fs4.set 4 (.ref s2)))) n (.inr (7, mt_df 7))) l1 = .inr (0, fs9)) (h11 : l1 < (n + 1)) (h13 : fs9[1]? = some (.ref x12)) (h15 : (va_up (va_up f s3 (.inr (0, fs4.set 4 (.ref s2)))) n (.inr (7, mt_df 7))) l1 = .inr (0, fs14)) (h16 : l1 < (n + 1)) (h18 : fs14[3]? = some (.ref x17)) (h19 : n < (n + 1)) (h20 : mi_W d 7 0 (mi_en 3 [.ref n, .ref x12, .ref x17]) [] ((n + 1), (sl + 8), (va_up (va_up f s3 (.inr (0, fs4.set 4 (.ref s2)))) n (.inr (7, mt_df 7)))) (mi_Kc d 0 80 [some (.ref l1)] [.ref n, .ref l1] Q)) : mi_W (d + 1) 0 64 [some (.ref l1)] [.ref s2, .ref s3] (n, sl, f) Q := by
  refine w_putfield (w := .ref s2) cd_0_64 (show mt_f 0 42 = some (0, 4) by decide +kernel) h5 h6 ⟨h7, rfl, Or.inr (by decide +kernel)⟩ ?_
  refine w_aload_n cd_0_67 rfl ?_
  refine w_new cd_0_68 (show mt_c 0 46 = some 7 by decide +kernel) (by decide) h8 ?_
  refine w_dup_r cd_0_71 ?_
  refine w_aload_n cd_0_72 rfl ?_
  refine w_getfield cd_0_73 (show mt_f 0 19 = some (0, 1) by decide +kernel) h10 h11 h13 ?_
  refine w_aload_n cd_0_76 rfl ?_
  refine w_getfield cd_0_77 (show mt_f 0 35 = some (0, 3) by decide +kernel) h15 h16 h18 ?_
  exact w_invokespecial cd_0_80 (show mt_m 0 48 = some (7, 2) by decide +kernel) (Or.inl rfl) (by decide) (rest := [.ref n, .ref l1]) rfl (as := [.ref n, .ref x12, .ref x17]) rfl h19 ⟨Nat.le_of_ble_eq_true rfl, Nat.le_of_ble_eq_true rfl, Nat.le_of_ble_eq_true rfl⟩ h20
theorem b_0_83 {d : Nat} {Q : (Option Value ⊕ Nat) → mi_H → Prop} (n sl : Nat) (f : Nat → mi_C) {l1 : Nat} {s2 : Nat} {s3 : Nat} {fs4 : List Value} {fs9 : List Value} {x12 : Nat} (h5 : f s3 = .inr (0, fs4)) (h6 : s3 < n) (h7 : 5 < fs4.length) (h8 : n + 1 ≤ mi_NC ∧ sl + 12 ≤ mi_NS) (h10 : (va_up (va_up f s3 (.inr (0, fs4.set 5 (.ref s2)))) n (.inr (11, mt_df 11))) l1 = .inr (0, fs9)) (h11 : l1 < (n + 1)) (h13 : fs9[1]? = some (.ref x12)) (h14 : n < (n + 1)) (h15 : mi_W d 11 0 (mi_en 3 [.ref n, .ref x12]) [] ((n + 1), (sl + 12), (va_up (va_up f s3 (.inr (0, fs4.set 5 (.ref s2)))) n (.inr (11, mt_df 11)))) (mi_Kc d 0 95 [some (.ref l1)] [.ref n, .ref l1] Q)) : mi_W (d + 1) 0 83 [some (.ref l1)] [.ref s2, .ref s3] (n, sl, f) Q := by
  refine w_putfield (w := .ref s2) cd_0_83 (show mt_f 0 51 = some (0, 5) by decide +kernel) h5 h6 ⟨h7, rfl, Or.inr (by decide +kernel)⟩ ?_
  refine w_aload_n cd_0_86 rfl ?_
  refine w_new cd_0_87 (show mt_c 0 55 = some 11 by decide +kernel) (by decide) h8 ?_
  refine w_dup_r cd_0_90 ?_
  refine w_aload_n cd_0_91 rfl ?_
  refine w_getfield cd_0_92 (show mt_f 0 19 = some (0, 1) by decide +kernel) h10 h11 h13 ?_
  exact w_invokespecial cd_0_95 (show mt_m 0 57 = some (11, 2) by decide +kernel) (Or.inl rfl) (by decide) (rest := [.ref n, .ref l1]) rfl (as := [.ref n, .ref x12]) rfl h14 ⟨Nat.le_of_ble_eq_true rfl, Nat.le_of_ble_eq_true rfl, Nat.le_of_ble_eq_true rfl⟩ h15
theorem b_0_98 {d : Nat} {Q : (Option Value ⊕ Nat) → mi_H → Prop} (n sl : Nat) (f : Nat → mi_C) {l1 : Nat} {s2 : Nat} {s3 : Nat} {fs4 : List Value} (h5 : f s3 = .inr (0, fs4)) (h6 : s3 < n) (h7 : 6 < fs4.length) (h8 : n + 1 ≤ mi_NC ∧ sl + 7 ≤ mi_NS) (h9 : n < (n + 1)) (h10 : mi_W d 9 0 (mi_en 1 [.ref n]) [] ((n + 1), (sl + 7), (va_up (va_up f s3 (.inr (0, fs4.set 6 (.ref s2)))) n (.inr (9, mt_df 9)))) (mi_Kc d 0 106 [some (.ref l1)] [.ref n, .ref l1] Q)) : mi_W (d + 1) 0 98 [some (.ref l1)] [.ref s2, .ref s3] (n, sl, f) Q := by
  refine w_putfield (w := .ref s2) cd_0_98 (show mt_f 0 60 = some (0, 6) by decide +kernel) h5 h6 ⟨h7, rfl, Or.inr (by decide +kernel)⟩ ?_
  refine w_aload_n cd_0_101 rfl ?_
  refine w_new cd_0_102 (show mt_c 0 64 = some 9 by decide +kernel) (by decide) h8 ?_
  refine w_dup_r cd_0_105 ?_
  exact w_invokespecial cd_0_106 (show mt_m 0 66 = some (9, 3) by decide +kernel) (Or.inr rfl) (by decide) (rest := [.ref n, .ref l1]) rfl (as := [.ref n]) rfl h9 ⟨Nat.le_of_ble_eq_true rfl, Nat.le_of_ble_eq_true rfl, Nat.le_of_ble_eq_true rfl⟩ h10
theorem b_0_109 {d : Nat} {Q : (Option Value ⊕ Nat) → mi_H → Prop} (n sl : Nat) (f : Nat → mi_C) {l1 : Nat} {s2 : Nat} {s3 : Nat} {fs4 : List Value} (h5 : f s3 = .inr (0, fs4)) (h6 : s3 < n) (h7 : 7 < fs4.length) (h8 : n + 1 ≤ mi_NC ∧ sl + 7 ≤ mi_NS) (h9 : n < (n + 1)) (h10 : mi_W d 9 0 (mi_en 1 [.ref n]) [] ((n + 1), (sl + 7), (va_up (va_up f s3 (.inr (0, fs4.set 7 (.ref s2)))) n (.inr (9, mt_df 9)))) (mi_Kc d 0 117 [some (.ref l1)] [.ref n, .ref l1] Q)) : mi_W (d + 1) 0 109 [some (.ref l1)] [.ref s2, .ref s3] (n, sl, f) Q := by
  refine w_putfield (w := .ref s2) cd_0_109 (show mt_f 0 67 = some (0, 7) by decide +kernel) h5 h6 ⟨h7, rfl, Or.inr (by decide +kernel)⟩ ?_
  refine w_aload_n cd_0_112 rfl ?_
  refine w_new cd_0_113 (show mt_c 0 64 = some 9 by decide +kernel) (by decide) h8 ?_
  refine w_dup_r cd_0_116 ?_
  exact w_invokespecial cd_0_117 (show mt_m 0 66 = some (9, 3) by decide +kernel) (Or.inr rfl) (by decide) (rest := [.ref n, .ref l1]) rfl (as := [.ref n]) rfl h9 ⟨Nat.le_of_ble_eq_true rfl, Nat.le_of_ble_eq_true rfl, Nat.le_of_ble_eq_true rfl⟩ h10
theorem b_0_120 {d : Nat} {Q : (Option Value ⊕ Nat) → mi_H → Prop} (n sl : Nat) (f : Nat → mi_C) {l1 : Nat} {s2 : Nat} {s3 : Nat} {fs4 : List Value} (h5 : f s3 = .inr (0, fs4)) (h6 : s3 < n) (h7 : 8 < fs4.length) (h8 : Q (.inl none) (n, sl, (va_up f s3 (.inr (0, fs4.set 8 (.ref s2)))))) : mi_W d 0 120 [some (.ref l1)] [.ref s2, .ref s3] (n, sl, f) Q := by
  refine w_putfield (w := .ref s2) cd_0_120 (show mt_f 0 71 = some (0, 8) by decide +kernel) h5 h6 ⟨h7, rfl, Or.inr (by decide +kernel)⟩ ?_
  exact w_return cd_0_123 (by decide +kernel) h8
/-! MarloweHost$Scanner.<init>()V -/
set_option maxRecDepth 100000 in
theorem mq_1 : mt_q 1 = my_1 := rfl
set_option maxRecDepth 100000 in
theorem ci_1 : mt_inc 0 my_1.cd = true := by decide +kernel
theorem cd_1_0 : mt_cd 1 0 = some (.aload_n 0) := mt_cd_of (q := (0, .aload_n 0, 1)) mq_1 ci_1 (List.mem_of_getElem? (i := 0) rfl)
theorem cd_1_1 : mt_cd 1 1 = some (.invokespecial 3) := mt_cd_of (q := (1, .invokespecial 3, 3)) mq_1 ci_1 (List.mem_of_getElem? (i := 1) rfl)
theorem cd_1_4 : mt_cd 1 4 = some (.aload_n 0) := mt_cd_of (q := (4, .aload_n 0, 1)) mq_1 ci_1 (List.mem_of_getElem? (i := 2) rfl)
theorem cd_1_5 : mt_cd 1 5 = some (.sipush 8200) := mt_cd_of (q := (5, .sipush 8200, 3)) mq_1 ci_1 (List.mem_of_getElem? (i := 3) rfl)
theorem cd_1_8 : mt_cd 1 8 = some (.newarray .byte) := mt_cd_of (q := (8, .newarray .byte, 2)) mq_1 ci_1 (List.mem_of_getElem? (i := 4) rfl)
theorem cd_1_10 : mt_cd 1 10 = some (.putfield 9) := mt_cd_of (q := (10, .putfield 9, 3)) mq_1 ci_1 (List.mem_of_getElem? (i := 5) rfl)
theorem cd_1_13 : mt_cd 1 13 = some (.return_) := mt_cd_of (q := (13, .return_, 1)) mq_1 ci_1 (List.mem_of_getElem? (i := 6) rfl)
theorem b_1_0 {d : Nat} {Q : (Option Value ⊕ Nat) → mi_H → Prop} (n sl : Nat) (f : Nat → mi_C) {l1 : Nat} {m2 : Nat} {fs5 : List Value} (h3 : ¬ 8200 < (0 : Int32) ∧ Int32.toNatClampNeg 8200 = m2 ∧ m2 ≤ 1000000) (h4 : n + 1 ≤ mi_NC ∧ sl + m2 ≤ mi_NS) (h6 : (va_up f n (.inl (1, m2, .inl (fun _ => 0)))) l1 = .inr (1, fs5)) (h7 : l1 < (n + 1)) (h8 : 0 < fs5.length) (h9 : Q (.inl none) ((n + 1), (sl + m2), (va_up (va_up f n (.inl (1, m2, .inl (fun _ => 0)))) l1 (.inr (1, fs5.set 0 (.ref n)))))) : mi_W d 1 0 [some (.ref l1)] [] (n, sl, f) Q := by
  refine w_aload_n cd_1_0 rfl ?_
  refine w_oinit cd_1_1 (by decide) (Nat.le_of_ble_eq_true rfl) ?_
  refine w_aload_n cd_1_4 rfl ?_
  refine w_sipush (v := 8200) cd_1_5 (by decide) ?_
  refine w_newarray cd_1_8 rfl h3 h4 ?_
  refine w_putfield (w := .ref n) cd_1_10 (show mt_f 1 9 = some (1, 0) by decide +kernel) h6 h7 ⟨h8, rfl, Or.inr (by decide +kernel)⟩ ?_
  exact w_return cd_1_13 (by decide +kernel) h9
/-! MarloweHost$Tree.<init>()V -/
set_option maxRecDepth 100000 in
theorem mq_2 : mt_q 2 = my_2 := rfl
set_option maxRecDepth 100000 in
theorem ci_2 : mt_inc 0 my_2.cd = true := by decide +kernel
theorem cd_2_0 : mt_cd 2 0 = some (.aload_n 0) := mt_cd_of (q := (0, .aload_n 0, 1)) mq_2 ci_2 (List.mem_of_getElem? (i := 0) rfl)
theorem cd_2_1 : mt_cd 2 1 = some (.invokespecial 3) := mt_cd_of (q := (1, .invokespecial 3, 3)) mq_2 ci_2 (List.mem_of_getElem? (i := 1) rfl)
theorem cd_2_4 : mt_cd 2 4 = some (.aload_n 0) := mt_cd_of (q := (4, .aload_n 0, 1)) mq_2 ci_2 (List.mem_of_getElem? (i := 2) rfl)
theorem cd_2_5 : mt_cd 2 5 = some (.sipush 800) := mt_cd_of (q := (5, .sipush 800, 3)) mq_2 ci_2 (List.mem_of_getElem? (i := 3) rfl)
theorem cd_2_8 : mt_cd 2 8 = some (.newarray .int) := mt_cd_of (q := (8, .newarray .int, 2)) mq_2 ci_2 (List.mem_of_getElem? (i := 4) rfl)
theorem cd_2_10 : mt_cd 2 10 = some (.putfield 9) := mt_cd_of (q := (10, .putfield 9, 3)) mq_2 ci_2 (List.mem_of_getElem? (i := 5) rfl)
theorem cd_2_13 : mt_cd 2 13 = some (.aload_n 0) := mt_cd_of (q := (13, .aload_n 0, 1)) mq_2 ci_2 (List.mem_of_getElem? (i := 6) rfl)
theorem cd_2_14 : mt_cd 2 14 = some (.sipush 800) := mt_cd_of (q := (14, .sipush 800, 3)) mq_2 ci_2 (List.mem_of_getElem? (i := 7) rfl)
theorem cd_2_17 : mt_cd 2 17 = some (.newarray .int) := mt_cd_of (q := (17, .newarray .int, 2)) mq_2 ci_2 (List.mem_of_getElem? (i := 8) rfl)
theorem cd_2_19 : mt_cd 2 19 = some (.putfield 15) := mt_cd_of (q := (19, .putfield 15, 3)) mq_2 ci_2 (List.mem_of_getElem? (i := 9) rfl)
theorem cd_2_22 : mt_cd 2 22 = some (.aload_n 0) := mt_cd_of (q := (22, .aload_n 0, 1)) mq_2 ci_2 (List.mem_of_getElem? (i := 10) rfl)
theorem cd_2_23 : mt_cd 2 23 = some (.sipush 800) := mt_cd_of (q := (23, .sipush 800, 3)) mq_2 ci_2 (List.mem_of_getElem? (i := 11) rfl)
theorem cd_2_26 : mt_cd 2 26 = some (.newarray .int) := mt_cd_of (q := (26, .newarray .int, 2)) mq_2 ci_2 (List.mem_of_getElem? (i := 12) rfl)
theorem cd_2_28 : mt_cd 2 28 = some (.putfield 18) := mt_cd_of (q := (28, .putfield 18, 3)) mq_2 ci_2 (List.mem_of_getElem? (i := 13) rfl)
theorem cd_2_31 : mt_cd 2 31 = some (.aload_n 0) := mt_cd_of (q := (31, .aload_n 0, 1)) mq_2 ci_2 (List.mem_of_getElem? (i := 14) rfl)
theorem cd_2_32 : mt_cd 2 32 = some (.sipush 800) := mt_cd_of (q := (32, .sipush 800, 3)) mq_2 ci_2 (List.mem_of_getElem? (i := 15) rfl)
theorem cd_2_35 : mt_cd 2 35 = some (.newarray .int) := mt_cd_of (q := (35, .newarray .int, 2)) mq_2 ci_2 (List.mem_of_getElem? (i := 16) rfl)
theorem cd_2_37 : mt_cd 2 37 = some (.putfield 21) := mt_cd_of (q := (37, .putfield 21, 3)) mq_2 ci_2 (List.mem_of_getElem? (i := 17) rfl)
theorem cd_2_40 : mt_cd 2 40 = some (.aload_n 0) := mt_cd_of (q := (40, .aload_n 0, 1)) mq_2 ci_2 (List.mem_of_getElem? (i := 18) rfl)
theorem cd_2_41 : mt_cd 2 41 = some (.sipush 800) := mt_cd_of (q := (41, .sipush 800, 3)) mq_2 ci_2 (List.mem_of_getElem? (i := 19) rfl)
theorem cd_2_44 : mt_cd 2 44 = some (.newarray .int) := mt_cd_of (q := (44, .newarray .int, 2)) mq_2 ci_2 (List.mem_of_getElem? (i := 20) rfl)
theorem cd_2_46 : mt_cd 2 46 = some (.putfield 24) := mt_cd_of (q := (46, .putfield 24, 3)) mq_2 ci_2 (List.mem_of_getElem? (i := 21) rfl)
theorem cd_2_49 : mt_cd 2 49 = some (.aload_n 0) := mt_cd_of (q := (49, .aload_n 0, 1)) mq_2 ci_2 (List.mem_of_getElem? (i := 22) rfl)
theorem cd_2_50 : mt_cd 2 50 = some (.sipush 800) := mt_cd_of (q := (50, .sipush 800, 3)) mq_2 ci_2 (List.mem_of_getElem? (i := 23) rfl)
theorem cd_2_53 : mt_cd 2 53 = some (.newarray .int) := mt_cd_of (q := (53, .newarray .int, 2)) mq_2 ci_2 (List.mem_of_getElem? (i := 24) rfl)
theorem cd_2_55 : mt_cd 2 55 = some (.putfield 27) := mt_cd_of (q := (55, .putfield 27, 3)) mq_2 ci_2 (List.mem_of_getElem? (i := 25) rfl)
theorem cd_2_58 : mt_cd 2 58 = some (.aload_n 0) := mt_cd_of (q := (58, .aload_n 0, 1)) mq_2 ci_2 (List.mem_of_getElem? (i := 26) rfl)
theorem cd_2_59 : mt_cd 2 59 = some (.sipush 800) := mt_cd_of (q := (59, .sipush 800, 3)) mq_2 ci_2 (List.mem_of_getElem? (i := 27) rfl)
theorem cd_2_62 : mt_cd 2 62 = some (.newarray .int) := mt_cd_of (q := (62, .newarray .int, 2)) mq_2 ci_2 (List.mem_of_getElem? (i := 28) rfl)
theorem cd_2_64 : mt_cd 2 64 = some (.putfield 30) := mt_cd_of (q := (64, .putfield 30, 3)) mq_2 ci_2 (List.mem_of_getElem? (i := 29) rfl)
theorem cd_2_67 : mt_cd 2 67 = some (.aload_n 0) := mt_cd_of (q := (67, .aload_n 0, 1)) mq_2 ci_2 (List.mem_of_getElem? (i := 30) rfl)
theorem cd_2_68 : mt_cd 2 68 = some (.sipush 800) := mt_cd_of (q := (68, .sipush 800, 3)) mq_2 ci_2 (List.mem_of_getElem? (i := 31) rfl)
theorem cd_2_71 : mt_cd 2 71 = some (.newarray .int) := mt_cd_of (q := (71, .newarray .int, 2)) mq_2 ci_2 (List.mem_of_getElem? (i := 32) rfl)
theorem cd_2_73 : mt_cd 2 73 = some (.putfield 33) := mt_cd_of (q := (73, .putfield 33, 3)) mq_2 ci_2 (List.mem_of_getElem? (i := 33) rfl)
theorem cd_2_76 : mt_cd 2 76 = some (.aload_n 0) := mt_cd_of (q := (76, .aload_n 0, 1)) mq_2 ci_2 (List.mem_of_getElem? (i := 34) rfl)
theorem cd_2_77 : mt_cd 2 77 = some (.sipush 800) := mt_cd_of (q := (77, .sipush 800, 3)) mq_2 ci_2 (List.mem_of_getElem? (i := 35) rfl)
theorem cd_2_80 : mt_cd 2 80 = some (.newarray .boolean) := mt_cd_of (q := (80, .newarray .boolean, 2)) mq_2 ci_2 (List.mem_of_getElem? (i := 36) rfl)
theorem cd_2_82 : mt_cd 2 82 = some (.putfield 36) := mt_cd_of (q := (82, .putfield 36, 3)) mq_2 ci_2 (List.mem_of_getElem? (i := 37) rfl)
theorem cd_2_85 : mt_cd 2 85 = some (.aload_n 0) := mt_cd_of (q := (85, .aload_n 0, 1)) mq_2 ci_2 (List.mem_of_getElem? (i := 38) rfl)
theorem cd_2_86 : mt_cd 2 86 = some (.sipush 800) := mt_cd_of (q := (86, .sipush 800, 3)) mq_2 ci_2 (List.mem_of_getElem? (i := 39) rfl)
theorem cd_2_89 : mt_cd 2 89 = some (.newarray .long) := mt_cd_of (q := (89, .newarray .long, 2)) mq_2 ci_2 (List.mem_of_getElem? (i := 40) rfl)
theorem cd_2_91 : mt_cd 2 91 = some (.putfield 40) := mt_cd_of (q := (91, .putfield 40, 3)) mq_2 ci_2 (List.mem_of_getElem? (i := 41) rfl)
theorem cd_2_94 : mt_cd 2 94 = some (.aload_n 0) := mt_cd_of (q := (94, .aload_n 0, 1)) mq_2 ci_2 (List.mem_of_getElem? (i := 42) rfl)
theorem cd_2_95 : mt_cd 2 95 = some (.sipush 4096) := mt_cd_of (q := (95, .sipush 4096, 3)) mq_2 ci_2 (List.mem_of_getElem? (i := 43) rfl)
theorem cd_2_98 : mt_cd 2 98 = some (.newarray .long) := mt_cd_of (q := (98, .newarray .long, 2)) mq_2 ci_2 (List.mem_of_getElem? (i := 44) rfl)
theorem cd_2_100 : mt_cd 2 100 = some (.putfield 44) := mt_cd_of (q := (100, .putfield 44, 3)) mq_2 ci_2 (List.mem_of_getElem? (i := 45) rfl)
theorem cd_2_103 : mt_cd 2 103 = some (.return_) := mt_cd_of (q := (103, .return_, 1)) mq_2 ci_2 (List.mem_of_getElem? (i := 46) rfl)
theorem b_2_0 {d : Nat} {Q : (Option Value ⊕ Nat) → mi_H → Prop} (n sl : Nat) (f : Nat → mi_C) {l1 : Nat} {m2 : Nat} {fs5 : List Value} {m9 : Nat} {fs12 : List Value} {m16 : Nat} {fs19 : List Value} (h3 : ¬ 800 < (0 : Int32) ∧ Int32.toNatClampNeg 800 = m2 ∧ m2 ≤ 1000000) (h4 : n + 1 ≤ mi_NC ∧ sl + m2 ≤ mi_NS) (h6 : (va_up f n (.inl (0, m2, .inl (fun _ => 0)))) l1 = .inr (2, fs5)) (h7 : l1 < (n + 1)) (h8 : 0 < fs5.length) (h10 : ¬ 800 < (0 : Int32) ∧ Int32.toNatClampNeg 800 = m9 ∧ m9 ≤ 1000000) (h11 : (n + 1) + 1 ≤ mi_NC ∧ (sl + m2) + m9 ≤ mi_NS) (h13 : (va_up (va_up (va_up f n (.inl (0, m2, .inl (fun _ => 0)))) l1 (.inr (2, fs5.set 0 (.ref n)))) (n + 1) (.inl (0, m9, .inl (fun _ => 0)))) l1 = .inr (2, fs12)) (h14 : l1 < ((n + 1) + 1)) (h15 : 1 < fs12.length) (h17 : ¬ 800 < (0 : Int32) ∧ Int32.toNatClampNeg 800 = m16 ∧ m16 ≤ 1000000) (h18 : ((n + 1) + 1) + 1 ≤ mi_NC ∧ ((sl + m2) + m9) + m16 ≤ mi_NS) (h20 : (va_up (va_up (va_up (va_up (va_up f n (.inl (0, m2, .inl (fun _ => 0)))) l1 (.inr (2, fs5.set 0 (.ref n)))) (n + 1) (.inl (0, m9, .inl (fun _ => 0)))) l1 (.inr (2, fs12.set 1 (.ref (n + 1))))) ((n + 1) + 1) (.inl (0, m16, .inl (fun _ => 0)))) l1 = .inr (2, fs19)) (h21 : l1 < (((n + 1) + 1) + 1)) (h22 : 2 < fs19.length) (h23 : mi_W d 2 31 [some (.ref l1)] [] ((((n + 1) + 1) + 1), (((sl + m2) + m9) + m16), (va_up (va_up (va_up (va_up (va_up (va_up f n (.inl (0, m2, .inl (fun _ => 0)))) l1 (.inr (2, fs5.set 0 (.ref n)))) (n + 1) (.inl (0, m9, .inl (fun _ => 0)))) l1 (.inr (2, fs12.set 1 (.ref (n + 1))))) ((n + 1) + 1) (.inl (0, m16, .inl (fun _ => 0)))) l1 (.inr (2, fs19.set 2 (.ref ((n + 1) + 1)))))) Q) : mi_W d 2 0 [some (.ref l1)] [] (n, sl, f) Q := by
  refine w_aload_n cd_2_0 rfl ?_
  refine w_oinit cd_2_1 (by decide) (Nat.le_of_ble_eq_true rfl) ?_
  refine w_aload_n cd_2_4 rfl ?_
  refine w_sipush (v := 800) cd_2_5 (by decide) ?_
  refine w_newarray cd_2_8 rfl h3 h4 ?_
  refine w_putfield (w := .ref n) cd_2_10 (show mt_f 2 9 = some (2, 0) by decide +kernel) h6 h7 ⟨h8, rfl, Or.inr (by decide +kernel)⟩ ?_
  refine w_aload_n cd_2_13 rfl ?_
  refine w_sipush (v := 800) cd_2_14 (by decide) ?_
  refine w_newarray cd_2_17 rfl h10 h11 ?_
  refine w_putfield (w := .ref (n + 1)) cd_2_19 (show mt_f 2 15 = some (2, 1) by decide +kernel) h13 h14 ⟨h15, rfl, Or.inr (by decide +kernel)⟩ ?_
  refine w_aload_n cd_2_22 rfl ?_
  refine w_sipush (v := 800) cd_2_23 (by decide) ?_
  refine w_newarray cd_2_26 rfl h17 h18 ?_
  refine w_putfield (w := .ref ((n + 1) + 1)) cd_2_28 (show mt_f 2 18 = some (2, 2) by decide +kernel) h20 h21 ⟨h22, rfl, Or.inr (by decide +kernel)⟩ ?_
  exact h23
theorem b_2_31 {d : Nat} {Q : (Option Value ⊕ Nat) → mi_H → Prop} (n sl : Nat) (f : Nat → mi_C) {l1 : Nat} {m2 : Nat} {fs5 : List Value} {m9 : Nat} {fs12 : List Value} {m16 : Nat} {fs19 : List Value} (h3 : ¬ 800 < (0 : Int32) ∧ Int32.toNatClampNeg 800 = m2 ∧ m2 ≤ 1000000) (h4 : n + 1 ≤ mi_NC ∧ sl + m2 ≤ mi_NS) (h6 : (va_up f n (.inl (0, m2, .inl (fun _ => 0)))) l1 = .inr (2, fs5)) (h7 : l1 < (n + 1)) (h8 : 3 < fs5.length) (h10 : ¬ 800 < (0 : Int32) ∧ Int32.toNatClampNeg 800 = m9 ∧ m9 ≤ 1000000) (h11 : (n + 1) + 1 ≤ mi_NC ∧ (sl + m2) + m9 ≤ mi_NS) (h13 : (va_up (va_up (va_up f n (.inl (0, m2, .inl (fun _ => 0)))) l1 (.inr (2, fs5.set 3 (.ref n)))) (n + 1) (.inl (0, m9, .inl (fun _ => 0)))) l1 = .inr (2, fs12)) (h14 : l1 < ((n + 1) + 1)) (h15 : 4 < fs12.length) (h17 : ¬ 800 < (0 : Int32) ∧ Int32.toNatClampNeg 800 = m16 ∧ m16 ≤ 1000000) (h18 : ((n + 1) + 1) + 1 ≤ mi_NC ∧ ((sl + m2) + m9) + m16 ≤ mi_NS) (h20 : (va_up (va_up (va_up (va_up (va_up f n (.inl (0, m2, .inl (fun _ => 0)))) l1 (.inr (2, fs5.set 3 (.ref n)))) (n + 1) (.inl (0, m9, .inl (fun _ => 0)))) l1 (.inr (2, fs12.set 4 (.ref (n + 1))))) ((n + 1) + 1) (.inl (0, m16, .inl (fun _ => 0)))) l1 = .inr (2, fs19)) (h21 : l1 < (((n + 1) + 1) + 1)) (h22 : 5 < fs19.length) (h23 : mi_W d 2 58 [some (.ref l1)] [] ((((n + 1) + 1) + 1), (((sl + m2) + m9) + m16), (va_up (va_up (va_up (va_up (va_up (va_up f n (.inl (0, m2, .inl (fun _ => 0)))) l1 (.inr (2, fs5.set 3 (.ref n)))) (n + 1) (.inl (0, m9, .inl (fun _ => 0)))) l1 (.inr (2, fs12.set 4 (.ref (n + 1))))) ((n + 1) + 1) (.inl (0, m16, .inl (fun _ => 0)))) l1 (.inr (2, fs19.set 5 (.ref ((n + 1) + 1)))))) Q) : mi_W d 2 31 [some (.ref l1)] [] (n, sl, f) Q := by
  refine w_aload_n cd_2_31 rfl ?_
  refine w_sipush (v := 800) cd_2_32 (by decide) ?_
  refine w_newarray cd_2_35 rfl h3 h4 ?_
  refine w_putfield (w := .ref n) cd_2_37 (show mt_f 2 21 = some (2, 3) by decide +kernel) h6 h7 ⟨h8, rfl, Or.inr (by decide +kernel)⟩ ?_
  refine w_aload_n cd_2_40 rfl ?_
  refine w_sipush (v := 800) cd_2_41 (by decide) ?_
  refine w_newarray cd_2_44 rfl h10 h11 ?_
  refine w_putfield (w := .ref (n + 1)) cd_2_46 (show mt_f 2 24 = some (2, 4) by decide +kernel) h13 h14 ⟨h15, rfl, Or.inr (by decide +kernel)⟩ ?_
  refine w_aload_n cd_2_49 rfl ?_
  refine w_sipush (v := 800) cd_2_50 (by decide) ?_
  refine w_newarray cd_2_53 rfl h17 h18 ?_
  refine w_putfield (w := .ref ((n + 1) + 1)) cd_2_55 (show mt_f 2 27 = some (2, 5) by decide +kernel) h20 h21 ⟨h22, rfl, Or.inr (by decide +kernel)⟩ ?_
  exact h23
theorem b_2_58 {d : Nat} {Q : (Option Value ⊕ Nat) → mi_H → Prop} (n sl : Nat) (f : Nat → mi_C) {l1 : Nat} {m2 : Nat} {fs5 : List Value} {m9 : Nat} {fs12 : List Value} {m16 : Nat} {fs19 : List Value} (h3 : ¬ 800 < (0 : Int32) ∧ Int32.toNatClampNeg 800 = m2 ∧ m2 ≤ 1000000) (h4 : n + 1 ≤ mi_NC ∧ sl + m2 ≤ mi_NS) (h6 : (va_up f n (.inl (0, m2, .inl (fun _ => 0)))) l1 = .inr (2, fs5)) (h7 : l1 < (n + 1)) (h8 : 6 < fs5.length) (h10 : ¬ 800 < (0 : Int32) ∧ Int32.toNatClampNeg 800 = m9 ∧ m9 ≤ 1000000) (h11 : (n + 1) + 1 ≤ mi_NC ∧ (sl + m2) + m9 ≤ mi_NS) (h13 : (va_up (va_up (va_up f n (.inl (0, m2, .inl (fun _ => 0)))) l1 (.inr (2, fs5.set 6 (.ref n)))) (n + 1) (.inl (0, m9, .inl (fun _ => 0)))) l1 = .inr (2, fs12)) (h14 : l1 < ((n + 1) + 1)) (h15 : 7 < fs12.length) (h17 : ¬ 800 < (0 : Int32) ∧ Int32.toNatClampNeg 800 = m16 ∧ m16 ≤ 1000000) (h18 : ((n + 1) + 1) + 1 ≤ mi_NC ∧ ((sl + m2) + m9) + m16 ≤ mi_NS) (h20 : (va_up (va_up (va_up (va_up (va_up f n (.inl (0, m2, .inl (fun _ => 0)))) l1 (.inr (2, fs5.set 6 (.ref n)))) (n + 1) (.inl (0, m9, .inl (fun _ => 0)))) l1 (.inr (2, fs12.set 7 (.ref (n + 1))))) ((n + 1) + 1) (.inl (2, m16, .inl (fun _ => 0)))) l1 = .inr (2, fs19)) (h21 : l1 < (((n + 1) + 1) + 1)) (h22 : 8 < fs19.length) (h23 : mi_W d 2 85 [some (.ref l1)] [] ((((n + 1) + 1) + 1), (((sl + m2) + m9) + m16), (va_up (va_up (va_up (va_up (va_up (va_up f n (.inl (0, m2, .inl (fun _ => 0)))) l1 (.inr (2, fs5.set 6 (.ref n)))) (n + 1) (.inl (0, m9, .inl (fun _ => 0)))) l1 (.inr (2, fs12.set 7 (.ref (n + 1))))) ((n + 1) + 1) (.inl (2, m16, .inl (fun _ => 0)))) l1 (.inr (2, fs19.set 8 (.ref ((n + 1) + 1)))))) Q) : mi_W d 2 58 [some (.ref l1)] [] (n, sl, f) Q := by
  refine w_aload_n cd_2_58 rfl ?_
  refine w_sipush (v := 800) cd_2_59 (by decide) ?_
  refine w_newarray cd_2_62 rfl h3 h4 ?_
  refine w_putfield (w := .ref n) cd_2_64 (show mt_f 2 30 = some (2, 6) by decide +kernel) h6 h7 ⟨h8, rfl, Or.inr (by decide +kernel)⟩ ?_
  refine w_aload_n cd_2_67 rfl ?_
  refine w_sipush (v := 800) cd_2_68 (by decide) ?_
  refine w_newarray cd_2_71 rfl h10 h11 ?_
  refine w_putfield (w := .ref (n + 1)) cd_2_73 (show mt_f 2 33 = some (2, 7) by decide +kernel) h13 h14 ⟨h15, rfl, Or.inr (by decide +kernel)⟩ ?_
  refine w_aload_n cd_2_76 rfl ?_
  refine w_sipush (v := 800) cd_2_77 (by decide) ?_
  refine w_newarray cd_2_80 rfl h17 h18 ?_
  refine w_putfield (w := .ref ((n + 1) + 1)) cd_2_82 (show mt_f 2 36 = some (2, 8) by decide +kernel) h20 h21 ⟨h22, rfl, Or.inr (by decide +kernel)⟩ ?_
  exact h23
theorem b_2_85 {d : Nat} {Q : (Option Value ⊕ Nat) → mi_H → Prop} (n sl : Nat) (f : Nat → mi_C) {l1 : Nat} {m2 : Nat} {fs5 : List Value} {m9 : Nat} {fs12 : List Value} (h3 : ¬ 800 < (0 : Int32) ∧ Int32.toNatClampNeg 800 = m2 ∧ m2 ≤ 1000000) (h4 : n + 1 ≤ mi_NC ∧ sl + m2 ≤ mi_NS) (h6 : (va_up f n (.inl (3, m2, .inr (.inl (fun _ => 0))))) l1 = .inr (2, fs5)) (h7 : l1 < (n + 1)) (h8 : 9 < fs5.length) (h10 : ¬ 4096 < (0 : Int32) ∧ Int32.toNatClampNeg 4096 = m9 ∧ m9 ≤ 1000000) (h11 : (n + 1) + 1 ≤ mi_NC ∧ (sl + m2) + m9 ≤ mi_NS) (h13 : (va_up (va_up (va_up f n (.inl (3, m2, .inr (.inl (fun _ => 0))))) l1 (.inr (2, fs5.set 9 (.ref n)))) (n + 1) (.inl (3, m9, .inr (.inl (fun _ => 0))))) l1 = .inr (2, fs12)) (h14 : l1 < ((n + 1) + 1)) (h15 : 10 < fs12.length) (h16 : Q (.inl none) (((n + 1) + 1), ((sl + m2) + m9), (va_up (va_up (va_up (va_up f n (.inl (3, m2, .inr (.inl (fun _ => 0))))) l1 (.inr (2, fs5.set 9 (.ref n)))) (n + 1) (.inl (3, m9, .inr (.inl (fun _ => 0))))) l1 (.inr (2, fs12.set 10 (.ref (n + 1))))))) : mi_W d 2 85 [some (.ref l1)] [] (n, sl, f) Q := by
  refine w_aload_n cd_2_85 rfl ?_
  refine w_sipush (v := 800) cd_2_86 (by decide) ?_
  refine w_newarray cd_2_89 rfl h3 h4 ?_
  refine w_putfield (w := .ref n) cd_2_91 (show mt_f 2 40 = some (2, 9) by decide +kernel) h6 h7 ⟨h8, rfl, Or.inr (by decide +kernel)⟩ ?_
  refine w_aload_n cd_2_94 rfl ?_
  refine w_sipush (v := 4096) cd_2_95 (by decide) ?_
  refine w_newarray cd_2_98 rfl h10 h11 ?_
  refine w_putfield (w := .ref (n + 1)) cd_2_100 (show mt_f 2 44 = some (2, 10) by decide +kernel) h13 h14 ⟨h15, rfl, Or.inr (by decide +kernel)⟩ ?_
  exact w_return cd_2_103 (by decide +kernel) h16
/-! MarloweHost$Reader.<init>(LMarloweHost$Scanner;LMarloweHost$Tree;)V -/
set_option maxRecDepth 100000 in
theorem mq_3 : mt_q 3 = my_3 := rfl
set_option maxRecDepth 100000 in
theorem ci_3 : mt_inc 0 my_3.cd = true := by decide +kernel
theorem cd_3_0 : mt_cd 3 0 = some (.aload_n 0) := mt_cd_of (q := (0, .aload_n 0, 1)) mq_3 ci_3 (List.mem_of_getElem? (i := 0) rfl)
theorem cd_3_1 : mt_cd 3 1 = some (.invokespecial 3) := mt_cd_of (q := (1, .invokespecial 3, 3)) mq_3 ci_3 (List.mem_of_getElem? (i := 1) rfl)
theorem cd_3_4 : mt_cd 3 4 = some (.aload_n 0) := mt_cd_of (q := (4, .aload_n 0, 1)) mq_3 ci_3 (List.mem_of_getElem? (i := 2) rfl)
theorem cd_3_5 : mt_cd 3 5 = some (.iconst (-1)) := mt_cd_of (q := (5, .iconst (-1), 1)) mq_3 ci_3 (List.mem_of_getElem? (i := 3) rfl)
theorem cd_3_6 : mt_cd 3 6 = some (.putfield 9) := mt_cd_of (q := (6, .putfield 9, 3)) mq_3 ci_3 (List.mem_of_getElem? (i := 4) rfl)
theorem cd_3_9 : mt_cd 3 9 = some (.aload_n 0) := mt_cd_of (q := (9, .aload_n 0, 1)) mq_3 ci_3 (List.mem_of_getElem? (i := 5) rfl)
theorem cd_3_10 : mt_cd 3 10 = some (.aload_n 1) := mt_cd_of (q := (10, .aload_n 1, 1)) mq_3 ci_3 (List.mem_of_getElem? (i := 6) rfl)
theorem cd_3_11 : mt_cd 3 11 = some (.putfield 15) := mt_cd_of (q := (11, .putfield 15, 3)) mq_3 ci_3 (List.mem_of_getElem? (i := 7) rfl)
theorem cd_3_14 : mt_cd 3 14 = some (.aload_n 0) := mt_cd_of (q := (14, .aload_n 0, 1)) mq_3 ci_3 (List.mem_of_getElem? (i := 8) rfl)
theorem cd_3_15 : mt_cd 3 15 = some (.aload_n 2) := mt_cd_of (q := (15, .aload_n 2, 1)) mq_3 ci_3 (List.mem_of_getElem? (i := 9) rfl)
theorem cd_3_16 : mt_cd 3 16 = some (.putfield 19) := mt_cd_of (q := (16, .putfield 19, 3)) mq_3 ci_3 (List.mem_of_getElem? (i := 10) rfl)
theorem cd_3_19 : mt_cd 3 19 = some (.aload_n 0) := mt_cd_of (q := (19, .aload_n 0, 1)) mq_3 ci_3 (List.mem_of_getElem? (i := 11) rfl)
theorem cd_3_20 : mt_cd 3 20 = some (.new 23) := mt_cd_of (q := (20, .new 23, 3)) mq_3 ci_3 (List.mem_of_getElem? (i := 12) rfl)
theorem cd_3_23 : mt_cd 3 23 = some (.dup) := mt_cd_of (q := (23, .dup, 1)) mq_3 ci_3 (List.mem_of_getElem? (i := 13) rfl)
theorem cd_3_24 : mt_cd 3 24 = some (.aload_n 1) := mt_cd_of (q := (24, .aload_n 1, 1)) mq_3 ci_3 (List.mem_of_getElem? (i := 14) rfl)
theorem cd_3_25 : mt_cd 3 25 = some (.getfield 25) := mt_cd_of (q := (25, .getfield 25, 3)) mq_3 ci_3 (List.mem_of_getElem? (i := 15) rfl)
theorem cd_3_28 : mt_cd 3 28 = some (.bipush 8) := mt_cd_of (q := (28, .bipush 8, 2)) mq_3 ci_3 (List.mem_of_getElem? (i := 16) rfl)
theorem cd_3_30 : mt_cd 3 30 = some (.invokespecial 31) := mt_cd_of (q := (30, .invokespecial 31, 3)) mq_3 ci_3 (List.mem_of_getElem? (i := 17) rfl)
theorem cd_3_33 : mt_cd 3 33 = some (.putfield 34) := mt_cd_of (q := (33, .putfield 34, 3)) mq_3 ci_3 (List.mem_of_getElem? (i := 18) rfl)
theorem cd_3_36 : mt_cd 3 36 = some (.aload_n 0) := mt_cd_of (q := (36, .aload_n 0, 1)) mq_3 ci_3 (List.mem_of_getElem? (i := 19) rfl)
theorem cd_3_37 : mt_cd 3 37 = some (.new 23) := mt_cd_of (q := (37, .new 23, 3)) mq_3 ci_3 (List.mem_of_getElem? (i := 20) rfl)
theorem cd_3_40 : mt_cd 3 40 = some (.dup) := mt_cd_of (q := (40, .dup, 1)) mq_3 ci_3 (List.mem_of_getElem? (i := 21) rfl)
theorem cd_3_41 : mt_cd 3 41 = some (.aload_n 1) := mt_cd_of (q := (41, .aload_n 1, 1)) mq_3 ci_3 (List.mem_of_getElem? (i := 22) rfl)
theorem cd_3_42 : mt_cd 3 42 = some (.getfield 25) := mt_cd_of (q := (42, .getfield 25, 3)) mq_3 ci_3 (List.mem_of_getElem? (i := 23) rfl)
theorem cd_3_45 : mt_cd 3 45 = some (.iconst 4) := mt_cd_of (q := (45, .iconst 4, 1)) mq_3 ci_3 (List.mem_of_getElem? (i := 24) rfl)
theorem cd_3_46 : mt_cd 3 46 = some (.invokespecial 31) := mt_cd_of (q := (46, .invokespecial 31, 3)) mq_3 ci_3 (List.mem_of_getElem? (i := 25) rfl)
theorem cd_3_49 : mt_cd 3 49 = some (.putfield 38) := mt_cd_of (q := (49, .putfield 38, 3)) mq_3 ci_3 (List.mem_of_getElem? (i := 26) rfl)
theorem cd_3_52 : mt_cd 3 52 = some (.aload_n 0) := mt_cd_of (q := (52, .aload_n 0, 1)) mq_3 ci_3 (List.mem_of_getElem? (i := 27) rfl)
theorem cd_3_53 : mt_cd 3 53 = some (.new 23) := mt_cd_of (q := (53, .new 23, 3)) mq_3 ci_3 (List.mem_of_getElem? (i := 28) rfl)
theorem cd_3_56 : mt_cd 3 56 = some (.dup) := mt_cd_of (q := (56, .dup, 1)) mq_3 ci_3 (List.mem_of_getElem? (i := 29) rfl)
theorem cd_3_57 : mt_cd 3 57 = some (.aload_n 1) := mt_cd_of (q := (57, .aload_n 1, 1)) mq_3 ci_3 (List.mem_of_getElem? (i := 30) rfl)
theorem cd_3_58 : mt_cd 3 58 = some (.getfield 25) := mt_cd_of (q := (58, .getfield 25, 3)) mq_3 ci_3 (List.mem_of_getElem? (i := 31) rfl)
theorem cd_3_61 : mt_cd 3 61 = some (.bipush 8) := mt_cd_of (q := (61, .bipush 8, 2)) mq_3 ci_3 (List.mem_of_getElem? (i := 32) rfl)
theorem cd_3_63 : mt_cd 3 63 = some (.invokespecial 31) := mt_cd_of (q := (63, .invokespecial 31, 3)) mq_3 ci_3 (List.mem_of_getElem? (i := 33) rfl)
theorem cd_3_66 : mt_cd 3 66 = some (.putfield 41) := mt_cd_of (q := (66, .putfield 41, 3)) mq_3 ci_3 (List.mem_of_getElem? (i := 34) rfl)
theorem cd_3_69 : mt_cd 3 69 = some (.aload_n 0) := mt_cd_of (q := (69, .aload_n 0, 1)) mq_3 ci_3 (List.mem_of_getElem? (i := 35) rfl)
theorem cd_3_70 : mt_cd 3 70 = some (.new 23) := mt_cd_of (q := (70, .new 23, 3)) mq_3 ci_3 (List.mem_of_getElem? (i := 36) rfl)
theorem cd_3_73 : mt_cd 3 73 = some (.dup) := mt_cd_of (q := (73, .dup, 1)) mq_3 ci_3 (List.mem_of_getElem? (i := 37) rfl)
theorem cd_3_74 : mt_cd 3 74 = some (.aload_n 1) := mt_cd_of (q := (74, .aload_n 1, 1)) mq_3 ci_3 (List.mem_of_getElem? (i := 38) rfl)
theorem cd_3_75 : mt_cd 3 75 = some (.getfield 25) := mt_cd_of (q := (75, .getfield 25, 3)) mq_3 ci_3 (List.mem_of_getElem? (i := 39) rfl)
theorem cd_3_78 : mt_cd 3 78 = some (.bipush 8) := mt_cd_of (q := (78, .bipush 8, 2)) mq_3 ci_3 (List.mem_of_getElem? (i := 40) rfl)
theorem cd_3_80 : mt_cd 3 80 = some (.invokespecial 31) := mt_cd_of (q := (80, .invokespecial 31, 3)) mq_3 ci_3 (List.mem_of_getElem? (i := 41) rfl)
theorem cd_3_83 : mt_cd 3 83 = some (.putfield 44) := mt_cd_of (q := (83, .putfield 44, 3)) mq_3 ci_3 (List.mem_of_getElem? (i := 42) rfl)
theorem cd_3_86 : mt_cd 3 86 = some (.return_) := mt_cd_of (q := (86, .return_, 1)) mq_3 ci_3 (List.mem_of_getElem? (i := 43) rfl)
theorem b_3_0 {d : Nat} {Q : (Option Value ⊕ Nat) → mi_H → Prop} (n sl : Nat) (f : Nat → mi_C) {l1 : Nat} {l2 : Nat} {l3 : Nat} {fs4 : List Value} {fs8 : List Value} {fs12 : List Value} {fs17 : List Value} {x20 : Nat} (h5 : f l1 = .inr (3, fs4)) (h6 : l1 < n) (h7 : 6 < fs4.length) (h9 : (va_up f l1 (.inr (3, fs4.set 6 (.int (-1))))) l1 = .inr (3, fs8)) (h10 : l1 < n) (h11 : 0 < fs8.length) (h13 : (va_up (va_up f l1 (.inr (3, fs4.set 6 (.int (-1))))) l1 (.inr (3, fs8.set 0 (.ref l2)))) l1 = .inr (3, fs12)) (h14 : l1 < n) (h15 : 1 < fs12.length) (h16 : n + 1 ≤ mi_NC ∧ sl + 5 ≤ mi_NS) (h18 : (va_up (va_up (va_up (va_up f l1 (.inr (3, fs4.set 6 (.int (-1))))) l1 (.inr (3, fs8.set 0 (.ref l2)))) l1 (.inr (3, fs12.set 1 (.ref l3)))) n (.inr (4, mt_df 4))) l2 = .inr (1, fs17)) (h19 : l2 < (n + 1)) (h21 : fs17[0]? = some (.ref x20)) (h22 : n < (n + 1)) (h23 : mi_W d 4 0 (mi_en 3 [.ref n, .ref x20, .int 8]) [] ((n + 1), (sl + 5), (va_up (va_up (va_up (va_up f l1 (.inr (3, fs4.set 6 (.int (-1))))) l1 (.inr (3, fs8.set 0 (.ref l2)))) l1 (.inr (3, fs12.set 1 (.ref l3)))) n (.inr (4, mt_df 4)))) (mi_Kc d 3 30 [some (.ref l1), some (.ref l2), some (.ref l3)] [.ref n, .ref l1] Q)) : mi_W (d + 1) 3 0 [some (.ref l1), some (.ref l2), some (.ref l3)] [] (n, sl, f) Q := by
  refine w_aload_n cd_3_0 rfl ?_
  refine w_oinit cd_3_1 (by decide) (Nat.le_of_ble_eq_true rfl) ?_
  refine w_aload_n cd_3_4 rfl ?_
  refine w_iconst (v := (-1)) cd_3_5 (by decide) ?_
  refine w_putfield (w := .int (-1)) cd_3_6 (show mt_f 3 9 = some (3, 6) by decide +kernel) h5 h6 ⟨h7, rfl, Or.inl (by decide)⟩ ?_
  refine w_aload_n cd_3_9 rfl ?_
  refine w_aload_n cd_3_10 rfl ?_
  refine w_putfield (w := .ref l2) cd_3_11 (show mt_f 3 15 = some (3, 0) by decide +kernel) h9 h10 ⟨h11, rfl, Or.inr (by decide +kernel)⟩ ?_
  refine w_aload_n cd_3_14 rfl ?_
  refine w_aload_n cd_3_15 rfl ?_
  refine w_putfield (w := .ref l3) cd_3_16 (show mt_f 3 19 = some (3, 1) by decide +kernel) h13 h14 ⟨h15, rfl, Or.inr (by decide +kernel)⟩ ?_
  refine w_aload_n cd_3_19 rfl ?_
  refine w_new cd_3_20 (show mt_c 3 23 = some 4 by decide +kernel) (by decide) h16 ?_
  refine w_dup_r cd_3_23 ?_
  refine w_aload_n cd_3_24 rfl ?_
  refine w_getfield cd_3_25 (show mt_f 3 25 = some (1, 0) by decide +kernel) h18 h19 h21 ?_
  refine w_bipush (v := 8) cd_3_28 (by decide) ?_
  exact w_invokespecial cd_3_30 (show mt_m 3 31 = some (4, 2) by decide +kernel) (Or.inl rfl) (by decide) (rest := [.ref n, .ref l1]) rfl (as := [.ref n, .ref x20, .int 8]) rfl h22 ⟨Nat.le_of_ble_eq_true rfl, Nat.le_of_ble_eq_true rfl, Nat.le_of_ble_eq_true rfl⟩ h23
theorem b_3_33 {d : Nat} {Q : (Option Value ⊕ Nat) → mi_H → Prop} (n sl : Nat) (f : Nat → mi_C) {l1 : Nat} {l2 : Nat} {l3 : Nat} {s4 : Nat} {s5 : Nat} {fs6 : List Value} {fs11 : List Value} {x14 : Nat} (h7 : f s5 = .inr (3, fs6)) (h8 : s5 < n) (h9 : 2 < fs6.length) (h10 : n + 1 ≤ mi_NC ∧ sl + 5 ≤ mi_NS) (h12 : (va_up (va_up f s5 (.inr (3, fs6.set 2 (.ref s4)))) n (.inr (4, mt_df 4))) l2 = .inr (1, fs11)) (h13 : l2 < (n + 1)) (h15 : fs11[0]? = some (.ref x14)) (h16 : n < (n + 1)) (h17 : mi_W d 4 0 (mi_en 3 [.ref n, .ref x14, .int 4]) [] ((n + 1), (sl + 5), (va_up (va_up f s5 (.inr (3, fs6.set 2 (.ref s4)))) n (.inr (4, mt_df 4)))) (mi_Kc d 3 46 [some (.ref l1), some (.ref l2), some (.ref l3)] [.ref n, .ref l1] Q)) : mi_W (d + 1) 3 33 [some (.ref l1), some (.ref l2), some (.ref l3)] [.ref s4, .ref s5] (n, sl, f) Q := by
  refine w_putfield (w := .ref s4) cd_3_33 (show mt_f 3 34 = some (3, 2) by decide +kernel) h7 h8 ⟨h9, rfl, Or.inr (by decide +kernel)⟩ ?_
  refine w_aload_n cd_3_36 rfl ?_
  refine w_new cd_3_37 (show mt_c 3 23 = some 4 by decide +kernel) (by decide) h10 ?_
  refine w_dup_r cd_3_40 ?_
  refine w_aload_n cd_3_41 rfl ?_
  refine w_getfield cd_3_42 (show mt_f 3 25 = some (1, 0) by decide +kernel) h12 h13 h15 ?_
  refine w_iconst (v := 4) cd_3_45 (by decide) ?_
  exact w_invokespecial cd_3_46 (show mt_m 3 31 = some (4, 2) by decide +kernel) (Or.inl rfl) (by decide) (rest := [.ref n, .ref l1]) rfl (as := [.ref n, .ref x14, .int 4]) rfl h16 ⟨Nat.le_of_ble_eq_true rfl, Nat.le_of_ble_eq_true rfl, Nat.le_of_ble_eq_true rfl⟩ h17
theorem b_3_49 {d : Nat} {Q : (Option Value ⊕ Nat) → mi_H → Prop} (n sl : Nat) (f : Nat → mi_C) {l1 : Nat} {l2 : Nat} {l3 : Nat} {s4 : Nat} {s5 : Nat} {fs6 : List Value} {fs11 : List Value} {x14 : Nat} (h7 : f s5 = .inr (3, fs6)) (h8 : s5 < n) (h9 : 3 < fs6.length) (h10 : n + 1 ≤ mi_NC ∧ sl + 5 ≤ mi_NS) (h12 : (va_up (va_up f s5 (.inr (3, fs6.set 3 (.ref s4)))) n (.inr (4, mt_df 4))) l2 = .inr (1, fs11)) (h13 : l2 < (n + 1)) (h15 : fs11[0]? = some (.ref x14)) (h16 : n < (n + 1)) (h17 : mi_W d 4 0 (mi_en 3 [.ref n, .ref x14, .int 8]) [] ((n + 1), (sl + 5), (va_up (va_up f s5 (.inr (3, fs6.set 3 (.ref s4)))) n (.inr (4, mt_df 4)))) (mi_Kc d 3 63 [some (.ref l1), some (.ref l2), some (.ref l3)] [.ref n, .ref l1] Q)) : mi_W (d + 1) 3 49 [some (.ref l1), some (.ref l2), some (.ref l3)] [.ref s4, .ref s5] (n, sl, f) Q := by
  refine w_putfield (w := .ref s4) cd_3_49 (show mt_f 3 38 = some (3, 3) by decide +kernel) h7 h8 ⟨h9, rfl, Or.inr (by decide +kernel)⟩ ?_
  refine w_aload_n cd_3_52 rfl ?_
  refine w_new cd_3_53 (show mt_c 3 23 = some 4 by decide +kernel) (by decide) h10 ?_
  refine w_dup_r cd_3_56 ?_
  refine w_aload_n cd_3_57 rfl ?_
  refine w_getfield cd_3_58 (show mt_f 3 25 = some (1, 0) by decide +kernel) h12 h13 h15 ?_
  refine w_bipush (v := 8) cd_3_61 (by decide) ?_
  exact w_invokespecial cd_3_63 (show mt_m 3 31 = some (4, 2) by decide +kernel) (Or.inl rfl) (by decide) (rest := [.ref n, .ref l1]) rfl (as := [.ref n, .ref x14, .int 8]) rfl h16 ⟨Nat.le_of_ble_eq_true rfl, Nat.le_of_ble_eq_true rfl, Nat.le_of_ble_eq_true rfl⟩ h17
theorem b_3_66 {d : Nat} {Q : (Option Value ⊕ Nat) → mi_H → Prop} (n sl : Nat) (f : Nat → mi_C) {l1 : Nat} {l2 : Nat} {l3 : Nat} {s4 : Nat} {s5 : Nat} {fs6 : List Value} {fs11 : List Value} {x14 : Nat} (h7 : f s5 = .inr (3, fs6)) (h8 : s5 < n) (h9 : 4 < fs6.length) (h10 : n + 1 ≤ mi_NC ∧ sl + 5 ≤ mi_NS) (h12 : (va_up (va_up f s5 (.inr (3, fs6.set 4 (.ref s4)))) n (.inr (4, mt_df 4))) l2 = .inr (1, fs11)) (h13 : l2 < (n + 1)) (h15 : fs11[0]? = some (.ref x14)) (h16 : n < (n + 1)) (h17 : mi_W d 4 0 (mi_en 3 [.ref n, .ref x14, .int 8]) [] ((n + 1), (sl + 5), (va_up (va_up f s5 (.inr (3, fs6.set 4 (.ref s4)))) n (.inr (4, mt_df 4)))) (mi_Kc d 3 80 [some (.ref l1), some (.ref l2), some (.ref l3)] [.ref n, .ref l1] Q)) : mi_W (d + 1) 3 66 [some (.ref l1), some (.ref l2), some (.ref l3)] [.ref s4, .ref s5] (n, sl, f) Q := by
  refine w_putfield (w := .ref s4) cd_3_66 (show mt_f 3 41 = some (3, 4) by decide +kernel) h7 h8 ⟨h9, rfl, Or.inr (by decide +kernel)⟩ ?_
  refine w_aload_n cd_3_69 rfl ?_
  refine w_new cd_3_70 (show mt_c 3 23 = some 4 by decide +kernel) (by decide) h10 ?_
  refine w_dup_r cd_3_73 ?_
  refine w_aload_n cd_3_74 rfl ?_
  refine w_getfield cd_3_75 (show mt_f 3 25 = some (1, 0) by decide +kernel) h12 h13 h15 ?_
  refine w_bipush (v := 8) cd_3_78 (by decide) ?_
  exact w_invokespecial cd_3_80 (show mt_m 3 31 = some (4, 2) by decide +kernel) (Or.inl rfl) (by decide) (rest := [.ref n, .ref l1]) rfl (as := [.ref n, .ref x14, .int 8]) rfl h16 ⟨Nat.le_of_ble_eq_true rfl, Nat.le_of_ble_eq_true rfl, Nat.le_of_ble_eq_true rfl⟩ h17
theorem b_3_83 {d : Nat} {Q : (Option Value ⊕ Nat) → mi_H → Prop} (n sl : Nat) (f : Nat → mi_C) {l1 : Nat} {l2 : Nat} {l3 : Nat} {s4 : Nat} {s5 : Nat} {fs6 : List Value} (h7 : f s5 = .inr (3, fs6)) (h8 : s5 < n) (h9 : 5 < fs6.length) (h10 : Q (.inl none) (n, sl, (va_up f s5 (.inr (3, fs6.set 5 (.ref s4)))))) : mi_W d 3 83 [some (.ref l1), some (.ref l2), some (.ref l3)] [.ref s4, .ref s5] (n, sl, f) Q := by
  refine w_putfield (w := .ref s4) cd_3_83 (show mt_f 3 44 = some (3, 5) by decide +kernel) h7 h8 ⟨h9, rfl, Or.inr (by decide +kernel)⟩ ?_
  exact w_return cd_3_86 (by decide +kernel) h10
/-! MarloweHost$Names.<init>([BI)V -/
set_option maxRecDepth 100000 in
theorem mq_4 : mt_q 4 = my_4 := rfl
set_option maxRecDepth 100000 in
theorem ci_4 : mt_inc 0 my_4.cd = true := by decide +kernel
theorem cd_4_0 : mt_cd 4 0 = some (.aload_n 0) := mt_cd_of (q := (0, .aload_n 0, 1)) mq_4 ci_4 (List.mem_of_getElem? (i := 0) rfl)
theorem cd_4_1 : mt_cd 4 1 = some (.invokespecial 3) := mt_cd_of (q := (1, .invokespecial 3, 3)) mq_4 ci_4 (List.mem_of_getElem? (i := 1) rfl)
theorem cd_4_4 : mt_cd 4 4 = some (.aload_n 0) := mt_cd_of (q := (4, .aload_n 0, 1)) mq_4 ci_4 (List.mem_of_getElem? (i := 2) rfl)
theorem cd_4_5 : mt_cd 4 5 = some (.aload_n 1) := mt_cd_of (q := (5, .aload_n 1, 1)) mq_4 ci_4 (List.mem_of_getElem? (i := 3) rfl)
theorem cd_4_6 : mt_cd 4 6 = some (.putfield 9) := mt_cd_of (q := (6, .putfield 9, 3)) mq_4 ci_4 (List.mem_of_getElem? (i := 4) rfl)
theorem cd_4_9 : mt_cd 4 9 = some (.aload_n 0) := mt_cd_of (q := (9, .aload_n 0, 1)) mq_4 ci_4 (List.mem_of_getElem? (i := 5) rfl)
theorem cd_4_10 : mt_cd 4 10 = some (.iload_n 2) := mt_cd_of (q := (10, .iload_n 2, 1)) mq_4 ci_4 (List.mem_of_getElem? (i := 6) rfl)
theorem cd_4_11 : mt_cd 4 11 = some (.newarray .int) := mt_cd_of (q := (11, .newarray .int, 2)) mq_4 ci_4 (List.mem_of_getElem? (i := 7) rfl)
theorem cd_4_13 : mt_cd 4 13 = some (.putfield 15) := mt_cd_of (q := (13, .putfield 15, 3)) mq_4 ci_4 (List.mem_of_getElem? (i := 8) rfl)
theorem cd_4_16 : mt_cd 4 16 = some (.aload_n 0) := mt_cd_of (q := (16, .aload_n 0, 1)) mq_4 ci_4 (List.mem_of_getElem? (i := 9) rfl)
theorem cd_4_17 : mt_cd 4 17 = some (.iload_n 2) := mt_cd_of (q := (17, .iload_n 2, 1)) mq_4 ci_4 (List.mem_of_getElem? (i := 10) rfl)
theorem cd_4_18 : mt_cd 4 18 = some (.newarray .int) := mt_cd_of (q := (18, .newarray .int, 2)) mq_4 ci_4 (List.mem_of_getElem? (i := 11) rfl)
theorem cd_4_20 : mt_cd 4 20 = some (.putfield 19) := mt_cd_of (q := (20, .putfield 19, 3)) mq_4 ci_4 (List.mem_of_getElem? (i := 12) rfl)
theorem cd_4_23 : mt_cd 4 23 = some (.aload_n 0) := mt_cd_of (q := (23, .aload_n 0, 1)) mq_4 ci_4 (List.mem_of_getElem? (i := 13) rfl)
theorem cd_4_24 : mt_cd 4 24 = some (.iload_n 2) := mt_cd_of (q := (24, .iload_n 2, 1)) mq_4 ci_4 (List.mem_of_getElem? (i := 14) rfl)
theorem cd_4_25 : mt_cd 4 25 = some (.newarray .int) := mt_cd_of (q := (25, .newarray .int, 2)) mq_4 ci_4 (List.mem_of_getElem? (i := 15) rfl)
theorem cd_4_27 : mt_cd 4 27 = some (.putfield 22) := mt_cd_of (q := (27, .putfield 22, 3)) mq_4 ci_4 (List.mem_of_getElem? (i := 16) rfl)
theorem cd_4_30 : mt_cd 4 30 = some (.return_) := mt_cd_of (q := (30, .return_, 1)) mq_4 ci_4 (List.mem_of_getElem? (i := 17) rfl)
theorem b_4_0 {d : Nat} {Q : (Option Value ⊕ Nat) → mi_H → Prop} (n sl : Nat) (f : Nat → mi_C) {l1 : Nat} {l2 : Nat} {l3 : Int32} {fs4 : List Value} {m8 : Nat} {fs11 : List Value} {m15 : Nat} {fs18 : List Value} {m22 : Nat} {fs25 : List Value} (h5 : f l1 = .inr (4, fs4)) (h6 : l1 < n) (h7 : 0 < fs4.length) (h9 : ¬ l3 < (0 : Int32) ∧ Int32.toNatClampNeg l3 = m8 ∧ m8 ≤ 1000000) (h10 : n + 1 ≤ mi_NC ∧ sl + m8 ≤ mi_NS) (h12 : (va_up (va_up f l1 (.inr (4, fs4.set 0 (.ref l2)))) n (.inl (0, m8, .inl (fun _ => 0)))) l1 = .inr (4, fs11)) (h13 : l1 < (n + 1)) (h14 : 1 < fs11.length) (h16 : ¬ l3 < (0 : Int32) ∧ Int32.toNatClampNeg l3 = m15 ∧ m15 ≤ 1000000) (h17 : (n + 1) + 1 ≤ mi_NC ∧ (sl + m8) + m15 ≤ mi_NS) (h19 : (va_up (va_up (va_up (va_up f l1 (.inr (4, fs4.set 0 (.ref l2)))) n (.inl (0, m8, .inl (fun _ => 0)))) l1 (.inr (4, fs11.set 1 (.ref n)))) (n + 1) (.inl (0, m15, .inl (fun _ => 0)))) l1 = .inr (4, fs18)) (h20 : l1 < ((n + 1) + 1)) (h21 : 2 < fs18.length) (h23 : ¬ l3 < (0 : Int32) ∧ Int32.toNatClampNeg l3 = m22 ∧ m22 ≤ 1000000) (h24 : ((n + 1) + 1) + 1 ≤ mi_NC ∧ ((sl + m8) + m15) + m22 ≤ mi_NS) (h26 : (va_up (va_up (va_up (va_up (va_up (va_up f l1 (.inr (4, fs4.set 0 (.ref l2)))) n (.inl (0, m8, .inl (fun _ => 0)))) l1 (.inr (4, fs11.set 1 (.ref n)))) (n + 1) (.inl (0, m15, .inl (fun _ => 0)))) l1 (.inr (4, fs18.set 2 (.ref (n + 1))))) ((n + 1) + 1) (.inl (0, m22, .inl (fun _ => 0)))) l1 = .inr (4, fs25)) (h27 : l1 < (((n + 1) + 1) + 1)) (h28 : 3 < fs25.length) (h29 : mi_W d 4 30 [some (.ref l1), some (.ref l2), some (.int l3)] [] ((((n + 1) + 1) + 1), (((sl + m8) + m15) + m22), (va_up (va_up (va_up (va_up (va_up (va_up (va_up f l1 (.inr (4, fs4.set 0 (.ref l2)))) n (.inl (0, m8, .inl (fun _ => 0)))) l1 (.inr (4, fs11.set 1 (.ref n)))) (n + 1) (.inl (0, m15, .inl (fun _ => 0)))) l1 (.inr (4, fs18.set 2 (.ref (n + 1))))) ((n + 1) + 1) (.inl (0, m22, .inl (fun _ => 0)))) l1 (.inr (4, fs25.set 3 (.ref ((n + 1) + 1)))))) Q) : mi_W d 4 0 [some (.ref l1), some (.ref l2), some (.int l3)] [] (n, sl, f) Q := by
  refine w_aload_n cd_4_0 rfl ?_
  refine w_oinit cd_4_1 (by decide) (Nat.le_of_ble_eq_true rfl) ?_
  refine w_aload_n cd_4_4 rfl ?_
  refine w_aload_n cd_4_5 rfl ?_
  refine w_putfield (w := .ref l2) cd_4_6 (show mt_f 4 9 = some (4, 0) by decide +kernel) h5 h6 ⟨h7, rfl, Or.inr (by decide +kernel)⟩ ?_
  refine w_aload_n cd_4_9 rfl ?_
  refine w_iload_n cd_4_10 rfl ?_
  refine w_newarray cd_4_11 rfl h9 h10 ?_
  refine w_putfield (w := .ref n) cd_4_13 (show mt_f 4 15 = some (4, 1) by decide +kernel) h12 h13 ⟨h14, rfl, Or.inr (by decide +kernel)⟩ ?_
  refine w_aload_n cd_4_16 rfl ?_
  refine w_iload_n cd_4_17 rfl ?_
  refine w_newarray cd_4_18 rfl h16 h17 ?_
  refine w_putfield (w := .ref (n + 1)) cd_4_20 (show mt_f 4 19 = some (4, 2) by decide +kernel) h19 h20 ⟨h21, rfl, Or.inr (by decide +kernel)⟩ ?_
  refine w_aload_n cd_4_23 rfl ?_
  refine w_iload_n cd_4_24 rfl ?_
  refine w_newarray cd_4_25 rfl h23 h24 ?_
  refine w_putfield (w := .ref ((n + 1) + 1)) cd_4_27 (show mt_f 4 22 = some (4, 3) by decide +kernel) h26 h27 ⟨h28, rfl, Or.inr (by decide +kernel)⟩ ?_
  exact h29
theorem b_4_30 {d : Nat} {Q : (Option Value ⊕ Nat) → mi_H → Prop} (n sl : Nat) (f : Nat → mi_C) {l1 : Nat} {l2 : Nat} {l3 : Int32} (h4 : Q (.inl none) (n, sl, f)) : mi_W d 4 30 [some (.ref l1), some (.ref l2), some (.int l3)] [] (n, sl, f) Q := by
  exact w_return cd_4_30 (by decide +kernel) h4
/-! MarloweHost$Wallets.<init>()V -/
set_option maxRecDepth 100000 in
theorem mq_5 : mt_q 5 = my_5 := rfl
set_option maxRecDepth 100000 in
theorem ci_5 : mt_inc 0 my_5.cd = true := by decide +kernel
theorem cd_5_0 : mt_cd 5 0 = some (.aload_n 0) := mt_cd_of (q := (0, .aload_n 0, 1)) mq_5 ci_5 (List.mem_of_getElem? (i := 0) rfl)
theorem cd_5_1 : mt_cd 5 1 = some (.invokespecial 3) := mt_cd_of (q := (1, .invokespecial 3, 3)) mq_5 ci_5 (List.mem_of_getElem? (i := 1) rfl)
theorem cd_5_4 : mt_cd 5 4 = some (.aload_n 0) := mt_cd_of (q := (4, .aload_n 0, 1)) mq_5 ci_5 (List.mem_of_getElem? (i := 2) rfl)
theorem cd_5_5 : mt_cd 5 5 = some (.bipush 32) := mt_cd_of (q := (5, .bipush 32, 2)) mq_5 ci_5 (List.mem_of_getElem? (i := 3) rfl)
theorem cd_5_7 : mt_cd 5 7 = some (.newarray .long) := mt_cd_of (q := (7, .newarray .long, 2)) mq_5 ci_5 (List.mem_of_getElem? (i := 4) rfl)
theorem cd_5_9 : mt_cd 5 9 = some (.putfield 9) := mt_cd_of (q := (9, .putfield 9, 3)) mq_5 ci_5 (List.mem_of_getElem? (i := 5) rfl)
theorem cd_5_12 : mt_cd 5 12 = some (.aload_n 0) := mt_cd_of (q := (12, .aload_n 0, 1)) mq_5 ci_5 (List.mem_of_getElem? (i := 6) rfl)
theorem cd_5_13 : mt_cd 5 13 = some (.bipush 32) := mt_cd_of (q := (13, .bipush 32, 2)) mq_5 ci_5 (List.mem_of_getElem? (i := 7) rfl)
theorem cd_5_15 : mt_cd 5 15 = some (.newarray .long) := mt_cd_of (q := (15, .newarray .long, 2)) mq_5 ci_5 (List.mem_of_getElem? (i := 8) rfl)
theorem cd_5_17 : mt_cd 5 17 = some (.putfield 15) := mt_cd_of (q := (17, .putfield 15, 3)) mq_5 ci_5 (List.mem_of_getElem? (i := 9) rfl)
theorem cd_5_20 : mt_cd 5 20 = some (.return_) := mt_cd_of (q := (20, .return_, 1)) mq_5 ci_5 (List.mem_of_getElem? (i := 10) rfl)
theorem b_5_0 {d : Nat} {Q : (Option Value ⊕ Nat) → mi_H → Prop} (n sl : Nat) (f : Nat → mi_C) {l1 : Nat} {m2 : Nat} {fs5 : List Value} {m9 : Nat} {fs12 : List Value} (h3 : ¬ 32 < (0 : Int32) ∧ Int32.toNatClampNeg 32 = m2 ∧ m2 ≤ 1000000) (h4 : n + 1 ≤ mi_NC ∧ sl + m2 ≤ mi_NS) (h6 : (va_up f n (.inl (3, m2, .inr (.inl (fun _ => 0))))) l1 = .inr (5, fs5)) (h7 : l1 < (n + 1)) (h8 : 0 < fs5.length) (h10 : ¬ 32 < (0 : Int32) ∧ Int32.toNatClampNeg 32 = m9 ∧ m9 ≤ 1000000) (h11 : (n + 1) + 1 ≤ mi_NC ∧ (sl + m2) + m9 ≤ mi_NS) (h13 : (va_up (va_up (va_up f n (.inl (3, m2, .inr (.inl (fun _ => 0))))) l1 (.inr (5, fs5.set 0 (.ref n)))) (n + 1) (.inl (3, m9, .inr (.inl (fun _ => 0))))) l1 = .inr (5, fs12)) (h14 : l1 < ((n + 1) + 1)) (h15 : 1 < fs12.length) (h16 : Q (.inl none) (((n + 1) + 1), ((sl + m2) + m9), (va_up (va_up (va_up (va_up f n (.inl (3, m2, .inr (.inl (fun _ => 0))))) l1 (.inr (5, fs5.set 0 (.ref n)))) (n + 1) (.inl (3, m9, .inr (.inl (fun _ => 0))))) l1 (.inr (5, fs12.set 1 (.ref (n + 1))))))) : mi_W d 5 0 [some (.ref l1)] [] (n, sl, f) Q := by
  refine w_aload_n cd_5_0 rfl ?_
  refine w_oinit cd_5_1 (by decide) (Nat.le_of_ble_eq_true rfl) ?_
  refine w_aload_n cd_5_4 rfl ?_
  refine w_bipush (v := 32) cd_5_5 (by decide) ?_
  refine w_newarray cd_5_7 rfl h3 h4 ?_
  refine w_putfield (w := .ref n) cd_5_9 (show mt_f 5 9 = some (5, 0) by decide +kernel) h6 h7 ⟨h8, rfl, Or.inr (by decide +kernel)⟩ ?_
  refine w_aload_n cd_5_12 rfl ?_
  refine w_bipush (v := 32) cd_5_13 (by decide) ?_
  refine w_newarray cd_5_15 rfl h10 h11 ?_
  refine w_putfield (w := .ref (n + 1)) cd_5_17 (show mt_f 5 15 = some (5, 1) by decide +kernel) h13 h14 ⟨h15, rfl, Or.inr (by decide +kernel)⟩ ?_
  exact w_return cd_5_20 (by decide +kernel) h16
/-! MarloweHost$Inputs.<init>()V -/
set_option maxRecDepth 100000 in
theorem mq_6 : mt_q 6 = my_6 := rfl
set_option maxRecDepth 100000 in
theorem ci_6 : mt_inc 0 my_6.cd = true := by decide +kernel
theorem cd_6_0 : mt_cd 6 0 = some (.aload_n 0) := mt_cd_of (q := (0, .aload_n 0, 1)) mq_6 ci_6 (List.mem_of_getElem? (i := 0) rfl)
theorem cd_6_1 : mt_cd 6 1 = some (.invokespecial 3) := mt_cd_of (q := (1, .invokespecial 3, 3)) mq_6 ci_6 (List.mem_of_getElem? (i := 1) rfl)
theorem cd_6_4 : mt_cd 6 4 = some (.aload_n 0) := mt_cd_of (q := (4, .aload_n 0, 1)) mq_6 ci_6 (List.mem_of_getElem? (i := 2) rfl)
theorem cd_6_5 : mt_cd 6 5 = some (.bipush 16) := mt_cd_of (q := (5, .bipush 16, 2)) mq_6 ci_6 (List.mem_of_getElem? (i := 3) rfl)
theorem cd_6_7 : mt_cd 6 7 = some (.newarray .int) := mt_cd_of (q := (7, .newarray .int, 2)) mq_6 ci_6 (List.mem_of_getElem? (i := 4) rfl)
theorem cd_6_9 : mt_cd 6 9 = some (.putfield 9) := mt_cd_of (q := (9, .putfield 9, 3)) mq_6 ci_6 (List.mem_of_getElem? (i := 5) rfl)
theorem cd_6_12 : mt_cd 6 12 = some (.aload_n 0) := mt_cd_of (q := (12, .aload_n 0, 1)) mq_6 ci_6 (List.mem_of_getElem? (i := 6) rfl)
theorem cd_6_13 : mt_cd 6 13 = some (.bipush 16) := mt_cd_of (q := (13, .bipush 16, 2)) mq_6 ci_6 (List.mem_of_getElem? (i := 7) rfl)
theorem cd_6_15 : mt_cd 6 15 = some (.newarray .int) := mt_cd_of (q := (15, .newarray .int, 2)) mq_6 ci_6 (List.mem_of_getElem? (i := 8) rfl)
theorem cd_6_17 : mt_cd 6 17 = some (.putfield 15) := mt_cd_of (q := (17, .putfield 15, 3)) mq_6 ci_6 (List.mem_of_getElem? (i := 9) rfl)
theorem cd_6_20 : mt_cd 6 20 = some (.aload_n 0) := mt_cd_of (q := (20, .aload_n 0, 1)) mq_6 ci_6 (List.mem_of_getElem? (i := 10) rfl)
theorem cd_6_21 : mt_cd 6 21 = some (.bipush 16) := mt_cd_of (q := (21, .bipush 16, 2)) mq_6 ci_6 (List.mem_of_getElem? (i := 11) rfl)
theorem cd_6_23 : mt_cd 6 23 = some (.newarray .int) := mt_cd_of (q := (23, .newarray .int, 2)) mq_6 ci_6 (List.mem_of_getElem? (i := 12) rfl)
theorem cd_6_25 : mt_cd 6 25 = some (.putfield 18) := mt_cd_of (q := (25, .putfield 18, 3)) mq_6 ci_6 (List.mem_of_getElem? (i := 13) rfl)
theorem cd_6_28 : mt_cd 6 28 = some (.aload_n 0) := mt_cd_of (q := (28, .aload_n 0, 1)) mq_6 ci_6 (List.mem_of_getElem? (i := 14) rfl)
theorem cd_6_29 : mt_cd 6 29 = some (.bipush 16) := mt_cd_of (q := (29, .bipush 16, 2)) mq_6 ci_6 (List.mem_of_getElem? (i := 15) rfl)
theorem cd_6_31 : mt_cd 6 31 = some (.newarray .int) := mt_cd_of (q := (31, .newarray .int, 2)) mq_6 ci_6 (List.mem_of_getElem? (i := 16) rfl)
theorem cd_6_33 : mt_cd 6 33 = some (.putfield 21) := mt_cd_of (q := (33, .putfield 21, 3)) mq_6 ci_6 (List.mem_of_getElem? (i := 17) rfl)
theorem cd_6_36 : mt_cd 6 36 = some (.aload_n 0) := mt_cd_of (q := (36, .aload_n 0, 1)) mq_6 ci_6 (List.mem_of_getElem? (i := 18) rfl)
theorem cd_6_37 : mt_cd 6 37 = some (.bipush 16) := mt_cd_of (q := (37, .bipush 16, 2)) mq_6 ci_6 (List.mem_of_getElem? (i := 19) rfl)
theorem cd_6_39 : mt_cd 6 39 = some (.newarray .long) := mt_cd_of (q := (39, .newarray .long, 2)) mq_6 ci_6 (List.mem_of_getElem? (i := 20) rfl)
theorem cd_6_41 : mt_cd 6 41 = some (.putfield 24) := mt_cd_of (q := (41, .putfield 24, 3)) mq_6 ci_6 (List.mem_of_getElem? (i := 21) rfl)
theorem cd_6_44 : mt_cd 6 44 = some (.return_) := mt_cd_of (q := (44, .return_, 1)) mq_6 ci_6 (List.mem_of_getElem? (i := 22) rfl)
theorem b_6_0 {d : Nat} {Q : (Option Value ⊕ Nat) → mi_H → Prop} (n sl : Nat) (f : Nat → mi_C) {l1 : Nat} {m2 : Nat} {fs5 : List Value} {m9 : Nat} {fs12 : List Value} {m16 : Nat} {fs19 : List Value} (h3 : ¬ 16 < (0 : Int32) ∧ Int32.toNatClampNeg 16 = m2 ∧ m2 ≤ 1000000) (h4 : n + 1 ≤ mi_NC ∧ sl + m2 ≤ mi_NS) (h6 : (va_up f n (.inl (0, m2, .inl (fun _ => 0)))) l1 = .inr (6, fs5)) (h7 : l1 < (n + 1)) (h8 : 0 < fs5.length) (h10 : ¬ 16 < (0 : Int32) ∧ Int32.toNatClampNeg 16 = m9 ∧ m9 ≤ 1000000) (h11 : (n + 1) + 1 ≤ mi_NC ∧ (sl + m2) + m9 ≤ mi_NS) (h13 : (va_up (va_up (va_up f n (.inl (0, m2, .inl (fun _ => 0)))) l1 (.inr (6, fs5.set 0 (.ref n)))) (n + 1) (.inl (0, m9, .inl (fun _ => 0)))) l1 = .inr (6, fs12)) (h14 : l1 < ((n + 1) + 1)) (h15 : 1 < fs12.length) (h17 : ¬ 16 < (0 : Int32) ∧ Int32.toNatClampNeg 16 = m16 ∧ m16 ≤ 1000000) (h18 : ((n + 1) + 1) + 1 ≤ mi_NC ∧ ((sl + m2) + m9) + m16 ≤ mi_NS) (h20 : (va_up (va_up (va_up (va_up (va_up f n (.inl (0, m2, .inl (fun _ => 0)))) l1 (.inr (6, fs5.set 0 (.ref n)))) (n + 1) (.inl (0, m9, .inl (fun _ => 0)))) l1 (.inr (6, fs12.set 1 (.ref (n + 1))))) ((n + 1) + 1) (.inl (0, m16, .inl (fun _ => 0)))) l1 = .inr (6, fs19)) (h21 : l1 < (((n + 1) + 1) + 1)) (h22 : 2 < fs19.length) (h23 : mi_W d 6 28 [some (.ref l1)] [] ((((n + 1) + 1) + 1), (((sl + m2) + m9) + m16), (va_up (va_up (va_up (va_up (va_up (va_up f n (.inl (0, m2, .inl (fun _ => 0)))) l1 (.inr (6, fs5.set 0 (.ref n)))) (n + 1) (.inl (0, m9, .inl (fun _ => 0)))) l1 (.inr (6, fs12.set 1 (.ref (n + 1))))) ((n + 1) + 1) (.inl (0, m16, .inl (fun _ => 0)))) l1 (.inr (6, fs19.set 2 (.ref ((n + 1) + 1)))))) Q) : mi_W d 6 0 [some (.ref l1)] [] (n, sl, f) Q := by
  refine w_aload_n cd_6_0 rfl ?_
  refine w_oinit cd_6_1 (by decide) (Nat.le_of_ble_eq_true rfl) ?_
  refine w_aload_n cd_6_4 rfl ?_
  refine w_bipush (v := 16) cd_6_5 (by decide) ?_
  refine w_newarray cd_6_7 rfl h3 h4 ?_
  refine w_putfield (w := .ref n) cd_6_9 (show mt_f 6 9 = some (6, 0) by decide +kernel) h6 h7 ⟨h8, rfl, Or.inr (by decide +kernel)⟩ ?_
  refine w_aload_n cd_6_12 rfl ?_
  refine w_bipush (v := 16) cd_6_13 (by decide) ?_
  refine w_newarray cd_6_15 rfl h10 h11 ?_
  refine w_putfield (w := .ref (n + 1)) cd_6_17 (show mt_f 6 15 = some (6, 1) by decide +kernel) h13 h14 ⟨h15, rfl, Or.inr (by decide +kernel)⟩ ?_
  refine w_aload_n cd_6_20 rfl ?_
  refine w_bipush (v := 16) cd_6_21 (by decide) ?_
  refine w_newarray cd_6_23 rfl h17 h18 ?_
  refine w_putfield (w := .ref ((n + 1) + 1)) cd_6_25 (show mt_f 6 18 = some (6, 2) by decide +kernel) h20 h21 ⟨h22, rfl, Or.inr (by decide +kernel)⟩ ?_
  exact h23
theorem b_6_28 {d : Nat} {Q : (Option Value ⊕ Nat) → mi_H → Prop} (n sl : Nat) (f : Nat → mi_C) {l1 : Nat} {m2 : Nat} {fs5 : List Value} {m9 : Nat} {fs12 : List Value} (h3 : ¬ 16 < (0 : Int32) ∧ Int32.toNatClampNeg 16 = m2 ∧ m2 ≤ 1000000) (h4 : n + 1 ≤ mi_NC ∧ sl + m2 ≤ mi_NS) (h6 : (va_up f n (.inl (0, m2, .inl (fun _ => 0)))) l1 = .inr (6, fs5)) (h7 : l1 < (n + 1)) (h8 : 3 < fs5.length) (h10 : ¬ 16 < (0 : Int32) ∧ Int32.toNatClampNeg 16 = m9 ∧ m9 ≤ 1000000) (h11 : (n + 1) + 1 ≤ mi_NC ∧ (sl + m2) + m9 ≤ mi_NS) (h13 : (va_up (va_up (va_up f n (.inl (0, m2, .inl (fun _ => 0)))) l1 (.inr (6, fs5.set 3 (.ref n)))) (n + 1) (.inl (3, m9, .inr (.inl (fun _ => 0))))) l1 = .inr (6, fs12)) (h14 : l1 < ((n + 1) + 1)) (h15 : 4 < fs12.length) (h16 : Q (.inl none) (((n + 1) + 1), ((sl + m2) + m9), (va_up (va_up (va_up (va_up f n (.inl (0, m2, .inl (fun _ => 0)))) l1 (.inr (6, fs5.set 3 (.ref n)))) (n + 1) (.inl (3, m9, .inr (.inl (fun _ => 0))))) l1 (.inr (6, fs12.set 4 (.ref (n + 1))))))) : mi_W d 6 28 [some (.ref l1)] [] (n, sl, f) Q := by
  refine w_aload_n cd_6_28 rfl ?_
  refine w_bipush (v := 16) cd_6_29 (by decide) ?_
  refine w_newarray cd_6_31 rfl h3 h4 ?_
  refine w_putfield (w := .ref n) cd_6_33 (show mt_f 6 21 = some (6, 3) by decide +kernel) h6 h7 ⟨h8, rfl, Or.inr (by decide +kernel)⟩ ?_
  refine w_aload_n cd_6_36 rfl ?_
  refine w_bipush (v := 16) cd_6_37 (by decide) ?_
  refine w_newarray cd_6_39 rfl h10 h11 ?_
  refine w_putfield (w := .ref (n + 1)) cd_6_41 (show mt_f 6 24 = some (6, 4) by decide +kernel) h13 h14 ⟨h15, rfl, Or.inr (by decide +kernel)⟩ ?_
  exact w_return cd_6_44 (by decide +kernel) h16
/-! MarloweHost$Machine.<init>(LMarloweHost$Tree;LMarloweHost$Wallets;)V -/
set_option maxRecDepth 100000 in
theorem mq_7 : mt_q 7 = my_7 := rfl
set_option maxRecDepth 100000 in
theorem ci_7 : mt_inc 0 my_7.cd = true := by decide +kernel
theorem cd_7_0 : mt_cd 7 0 = some (.aload_n 0) := mt_cd_of (q := (0, .aload_n 0, 1)) mq_7 ci_7 (List.mem_of_getElem? (i := 0) rfl)
theorem cd_7_1 : mt_cd 7 1 = some (.invokespecial 3) := mt_cd_of (q := (1, .invokespecial 3, 3)) mq_7 ci_7 (List.mem_of_getElem? (i := 1) rfl)
theorem cd_7_4 : mt_cd 7 4 = some (.aload_n 0) := mt_cd_of (q := (4, .aload_n 0, 1)) mq_7 ci_7 (List.mem_of_getElem? (i := 2) rfl)
theorem cd_7_5 : mt_cd 7 5 = some (.new 9) := mt_cd_of (q := (5, .new 9, 3)) mq_7 ci_7 (List.mem_of_getElem? (i := 3) rfl)
theorem cd_7_8 : mt_cd 7 8 = some (.dup) := mt_cd_of (q := (8, .dup, 1)) mq_7 ci_7 (List.mem_of_getElem? (i := 4) rfl)
theorem cd_7_9 : mt_cd 7 9 = some (.invokespecial 11) := mt_cd_of (q := (9, .invokespecial 11, 3)) mq_7 ci_7 (List.mem_of_getElem? (i := 5) rfl)
theorem cd_7_12 : mt_cd 7 12 = some (.putfield 12) := mt_cd_of (q := (12, .putfield 12, 3)) mq_7 ci_7 (List.mem_of_getElem? (i := 6) rfl)
theorem cd_7_15 : mt_cd 7 15 = some (.aload_n 0) := mt_cd_of (q := (15, .aload_n 0, 1)) mq_7 ci_7 (List.mem_of_getElem? (i := 7) rfl)
theorem cd_7_16 : mt_cd 7 16 = some (.aload_n 1) := mt_cd_of (q := (16, .aload_n 1, 1)) mq_7 ci_7 (List.mem_of_getElem? (i := 8) rfl)
theorem cd_7_17 : mt_cd 7 17 = some (.putfield 18) := mt_cd_of (q := (17, .putfield 18, 3)) mq_7 ci_7 (List.mem_of_getElem? (i := 9) rfl)
theorem cd_7_20 : mt_cd 7 20 = some (.aload_n 0) := mt_cd_of (q := (20, .aload_n 0, 1)) mq_7 ci_7 (List.mem_of_getElem? (i := 10) rfl)
theorem cd_7_21 : mt_cd 7 21 = some (.aload_n 2) := mt_cd_of (q := (21, .aload_n 2, 1)) mq_7 ci_7 (List.mem_of_getElem? (i := 11) rfl)
theorem cd_7_22 : mt_cd 7 22 = some (.putfield 22) := mt_cd_of (q := (22, .putfield 22, 3)) mq_7 ci_7 (List.mem_of_getElem? (i := 12) rfl)
theorem cd_7_25 : mt_cd 7 25 = some (.aload_n 0) := mt_cd_of (q := (25, .aload_n 0, 1)) mq_7 ci_7 (List.mem_of_getElem? (i := 13) rfl)
theorem cd_7_26 : mt_cd 7 26 = some (.new 26) := mt_cd_of (q := (26, .new 26, 3)) mq_7 ci_7 (List.mem_of_getElem? (i := 14) rfl)
theorem cd_7_29 : mt_cd 7 29 = some (.dup) := mt_cd_of (q := (29, .dup, 1)) mq_7 ci_7 (List.mem_of_getElem? (i := 15) rfl)
theorem cd_7_30 : mt_cd 7 30 = some (.invokespecial 28) := mt_cd_of (q := (30, .invokespecial 28, 3)) mq_7 ci_7 (List.mem_of_getElem? (i := 16) rfl)
theorem cd_7_33 : mt_cd 7 33 = some (.putfield 29) := mt_cd_of (q := (33, .putfield 29, 3)) mq_7 ci_7 (List.mem_of_getElem? (i := 17) rfl)
theorem cd_7_36 : mt_cd 7 36 = some (.aload_n 0) := mt_cd_of (q := (36, .aload_n 0, 1)) mq_7 ci_7 (List.mem_of_getElem? (i := 18) rfl)
theorem cd_7_37 : mt_cd 7 37 = some (.new 33) := mt_cd_of (q := (37, .new 33, 3)) mq_7 ci_7 (List.mem_of_getElem? (i := 19) rfl)
theorem cd_7_40 : mt_cd 7 40 = some (.dup) := mt_cd_of (q := (40, .dup, 1)) mq_7 ci_7 (List.mem_of_getElem? (i := 20) rfl)
theorem cd_7_41 : mt_cd 7 41 = some (.aload_n 1) := mt_cd_of (q := (41, .aload_n 1, 1)) mq_7 ci_7 (List.mem_of_getElem? (i := 21) rfl)
theorem cd_7_42 : mt_cd 7 42 = some (.aload_n 0) := mt_cd_of (q := (42, .aload_n 0, 1)) mq_7 ci_7 (List.mem_of_getElem? (i := 22) rfl)
theorem cd_7_43 : mt_cd 7 43 = some (.getfield 29) := mt_cd_of (q := (43, .getfield 29, 3)) mq_7 ci_7 (List.mem_of_getElem? (i := 23) rfl)
theorem cd_7_46 : mt_cd 7 46 = some (.invokespecial 35) := mt_cd_of (q := (46, .invokespecial 35, 3)) mq_7 ci_7 (List.mem_of_getElem? (i := 24) rfl)
theorem cd_7_49 : mt_cd 7 49 = some (.putfield 38) := mt_cd_of (q := (49, .putfield 38, 3)) mq_7 ci_7 (List.mem_of_getElem? (i := 25) rfl)
theorem cd_7_52 : mt_cd 7 52 = some (.return_) := mt_cd_of (q := (52, .return_, 1)) mq_7 ci_7 (List.mem_of_getElem? (i := 26) rfl)
theorem b_7_0 {d : Nat} {Q : (Option Value ⊕ Nat) → mi_H → Prop} (n sl : Nat) (f : Nat → mi_C) {l1 : Nat} {l2 : Nat} {l3 : Nat} (h4 : n + 1 ≤ mi_NC ∧ sl + 8 ≤ mi_NS) (h5 : n < (n + 1)) (h6 : mi_W d 8 0 (mi_en 1 [.ref n]) [] ((n + 1), (sl + 8), (va_up f n (.inr (8, mt_df 8)))) (mi_Kc d 7 9 [some (.ref l1), some (.ref l2), some (.ref l3)] [.ref n, .ref l1] Q)) : mi_W (d + 1) 7 0 [some (.ref l1), some (.ref l2), some (.ref l3)] [] (n, sl, f) Q := by
  refine w_aload_n cd_7_0 rfl ?_
  refine w_oinit cd_7_1 (by decide) (Nat.le_of_ble_eq_true rfl) ?_
  refine w_aload_n cd_7_4 rfl ?_
  refine w_new cd_7_5 (show mt_c 7 9 = some 8 by decide +kernel) (by decide) h4 ?_
  refine w_dup_r cd_7_8 ?_
  exact w_invokespecial cd_7_9 (show mt_m 7 11 = some (8, 3) by decide +kernel) (Or.inr rfl) (by decide) (rest := [.ref n, .ref l1]) rfl (as := [.ref n]) rfl h5 ⟨Nat.le_of_ble_eq_true rfl, Nat.le_of_ble_eq_true rfl, Nat.le_of_ble_eq_true rfl⟩ h6
theorem b_7_12 {d : Nat} {Q : (Option Value ⊕ Nat) → mi_H → Prop} (n sl : Nat) (f : Nat → mi_C) {l1 : Nat} {l2 : Nat} {l3 : Nat} {s4 : Nat} {s5 : Nat} {fs6 : List Value} {fs10 : List Value} {fs14 : List Value} (h7 : f s5 = .inr (7, fs6)) (h8 : s5 < n) (h9 : 7 < fs6.length) (h11 : (va_up f s5 (.inr (7, fs6.set 7 (.ref s4)))) l1 = .inr (7, fs10)) (h12 : l1 < n) (h13 : 0 < fs10.length) (h15 : (va_up (va_up f s5 (.inr (7, fs6.set 7 (.ref s4)))) l1 (.inr (7, fs10.set 0 (.ref l2)))) l1 = .inr (7, fs14)) (h16 : l1 < n) (h17 : 1 < fs14.length) (h18 : n + 1 ≤ mi_NC ∧ sl + 7 ≤ mi_NS) (h19 : n < (n + 1)) (h20 : mi_W d 9 0 (mi_en 1 [.ref n]) [] ((n + 1), (sl + 7), (va_up (va_up (va_up (va_up f s5 (.inr (7, fs6.set 7 (.ref s4)))) l1 (.inr (7, fs10.set 0 (.ref l2)))) l1 (.inr (7, fs14.set 1 (.ref l3)))) n (.inr (9, mt_df 9)))) (mi_Kc d 7 30 [some (.ref l1), some (.ref l2), some (.ref l3)] [.ref n, .ref l1] Q)) : mi_W (d + 1) 7 12 [some (.ref l1), some (.ref l2), some (.ref l3)] [.ref s4, .ref s5] (n, sl, f) Q := by
  refine w_putfield (w := .ref s4) cd_7_12 (show mt_f 7 12 = some (7, 7) by decide +kernel) h7 h8 ⟨h9, rfl, Or.inr (by decide +kernel)⟩ ?_
  refine w_aload_n cd_7_15 rfl ?_
  refine w_aload_n cd_7_16 rfl ?_
  refine w_putfield (w := .ref l2) cd_7_17 (show mt_f 7 18 = some (7, 0) by decide +kernel) h11 h12 ⟨h13, rfl, Or.inr (by decide +kernel)⟩ ?_
  refine w_aload_n cd_7_20 rfl ?_
  refine w_aload_n cd_7_21 rfl ?_
  refine w_putfield (w := .ref l3) cd_7_22 (show mt_f 7 22 = some (7, 1) by decide +kernel) h15 h16 ⟨h17, rfl, Or.inr (by decide +kernel)⟩ ?_
  refine w_aload_n cd_7_25 rfl ?_
  refine w_new cd_7_26 (show mt_c 7 26 = some 9 by decide +kernel) (by decide) h18 ?_
  refine w_dup_r cd_7_29 ?_
  exact w_invokespecial cd_7_30 (show mt_m 7 28 = some (9, 3) by decide +kernel) (Or.inr rfl) (by decide) (rest := [.ref n, .ref l1]) rfl (as := [.ref n]) rfl h19 ⟨Nat.le_of_ble_eq_true rfl, Nat.le_of_ble_eq_true rfl, Nat.le_of_ble_eq_true rfl⟩ h20
theorem b_7_33 {d : Nat} {Q : (Option Value ⊕ Nat) → mi_H → Prop} (n sl : Nat) (f : Nat → mi_C) {l1 : Nat} {l2 : Nat} {l3 : Nat} {s4 : Nat} {s5 : Nat} {fs6 : List Value} {fs11 : List Value} {x14 : Nat} (h7 : f s5 = .inr (7, fs6)) (h8 : s5 < n) (h9 : 3 < fs6.length) (h10 : n + 1 ≤ mi_NC ∧ sl + 5 ≤ mi_NS) (h12 : (va_up (va_up f s5 (.inr (7, fs6.set 3 (.ref s4)))) n (.inr (10, mt_df 10))) l1 = .inr (7, fs11)) (h13 : l1 < (n + 1)) (h15 : fs11[3]? = some (.ref x14)) (h16 : n < (n + 1)) (h17 : mi_W d 10 0 (mi_en 3 [.ref n, .ref l2, .ref x14]) [] ((n + 1), (sl + 5), (va_up (va_up f s5 (.inr (7, fs6.set 3 (.ref s4)))) n (.inr (10, mt_df 10)))) (mi_Kc d 7 46 [some (.ref l1), some (.ref l2), some (.ref l3)] [.ref n, .ref l1] Q)) : mi_W (d + 1) 7 33 [some (.ref l1), some (.ref l2), some (.ref l3)] [.ref s4, .ref s5] (n, sl, f) Q := by
  refine w_putfield (w := .ref s4) cd_7_33 (show mt_f 7 29 = some (7, 3) by decide +kernel) h7 h8 ⟨h9, rfl, Or.inl (by decide)⟩ ?_
  refine w_aload_n cd_7_36 rfl ?_
  refine w_new cd_7_37 (show mt_c 7 33 = some 10 by decide +kernel) (by decide) h10 ?_
  refine w_dup_r cd_7_40 ?_
  refine w_aload_n cd_7_41 rfl ?_
  refine w_aload_n cd_7_42 rfl ?_
  refine w_getfield cd_7_43 (show mt_f 7 29 = some (7, 3) by decide +kernel) h12 h13 h15 ?_
  exact w_invokespecial cd_7_46 (show mt_m 7 35 = some (10, 2) by decide +kernel) (Or.inl rfl) (by decide) (rest := [.ref n, .ref l1]) rfl (as := [.ref n, .ref l2, .ref x14]) rfl h16 ⟨Nat.le_of_ble_eq_true rfl, Nat.le_of_ble_eq_true rfl, Nat.le_of_ble_eq_true rfl⟩ h17
theorem b_7_49 {d : Nat} {Q : (Option Value ⊕ Nat) → mi_H → Prop} (n sl : Nat) (f : Nat → mi_C) {l1 : Nat} {l2 : Nat} {l3 : Nat} {s4 : Nat} {s5 : Nat} {fs6 : List Value} (h7 : f s5 = .inr (7, fs6)) (h8 : s5 < n) (h9 : 2 < fs6.length) (h10 : Q (.inl none) (n, sl, (va_up f s5 (.inr (7, fs6.set 2 (.ref s4)))))) : mi_W d 7 49 [some (.ref l1), some (.ref l2), some (.ref l3)] [.ref s4, .ref s5] (n, sl, f) Q := by
  refine w_putfield (w := .ref s4) cd_7_49 (show mt_f 7 38 = some (7, 2) by decide +kernel) h7 h8 ⟨h9, rfl, Or.inr (by decide +kernel)⟩ ?_
  exact w_return cd_7_52 (by decide +kernel) h10
/-! MarloweHost$Events.<init>()V -/
set_option maxRecDepth 100000 in
theorem mq_8 : mt_q 8 = my_8 := rfl
set_option maxRecDepth 100000 in
theorem ci_8 : mt_inc 0 my_8.cd = true := by decide +kernel
theorem cd_8_0 : mt_cd 8 0 = some (.aload_n 0) := mt_cd_of (q := (0, .aload_n 0, 1)) mq_8 ci_8 (List.mem_of_getElem? (i := 0) rfl)
theorem cd_8_1 : mt_cd 8 1 = some (.invokespecial 3) := mt_cd_of (q := (1, .invokespecial 3, 3)) mq_8 ci_8 (List.mem_of_getElem? (i := 1) rfl)
theorem cd_8_4 : mt_cd 8 4 = some (.aload_n 0) := mt_cd_of (q := (4, .aload_n 0, 1)) mq_8 ci_8 (List.mem_of_getElem? (i := 2) rfl)
theorem cd_8_5 : mt_cd 8 5 = some (.sipush 148) := mt_cd_of (q := (5, .sipush 148, 3)) mq_8 ci_8 (List.mem_of_getElem? (i := 3) rfl)
theorem cd_8_8 : mt_cd 8 8 = some (.newarray .int) := mt_cd_of (q := (8, .newarray .int, 2)) mq_8 ci_8 (List.mem_of_getElem? (i := 4) rfl)
theorem cd_8_10 : mt_cd 8 10 = some (.putfield 9) := mt_cd_of (q := (10, .putfield 9, 3)) mq_8 ci_8 (List.mem_of_getElem? (i := 5) rfl)
theorem cd_8_13 : mt_cd 8 13 = some (.aload_n 0) := mt_cd_of (q := (13, .aload_n 0, 1)) mq_8 ci_8 (List.mem_of_getElem? (i := 6) rfl)
theorem cd_8_14 : mt_cd 8 14 = some (.sipush 148) := mt_cd_of (q := (14, .sipush 148, 3)) mq_8 ci_8 (List.mem_of_getElem? (i := 7) rfl)
theorem cd_8_17 : mt_cd 8 17 = some (.newarray .int) := mt_cd_of (q := (17, .newarray .int, 2)) mq_8 ci_8 (List.mem_of_getElem? (i := 8) rfl)
theorem cd_8_19 : mt_cd 8 19 = some (.putfield 15) := mt_cd_of (q := (19, .putfield 15, 3)) mq_8 ci_8 (List.mem_of_getElem? (i := 9) rfl)
theorem cd_8_22 : mt_cd 8 22 = some (.aload_n 0) := mt_cd_of (q := (22, .aload_n 0, 1)) mq_8 ci_8 (List.mem_of_getElem? (i := 10) rfl)
theorem cd_8_23 : mt_cd 8 23 = some (.sipush 148) := mt_cd_of (q := (23, .sipush 148, 3)) mq_8 ci_8 (List.mem_of_getElem? (i := 11) rfl)
theorem cd_8_26 : mt_cd 8 26 = some (.newarray .int) := mt_cd_of (q := (26, .newarray .int, 2)) mq_8 ci_8 (List.mem_of_getElem? (i := 12) rfl)
theorem cd_8_28 : mt_cd 8 28 = some (.putfield 18) := mt_cd_of (q := (28, .putfield 18, 3)) mq_8 ci_8 (List.mem_of_getElem? (i := 13) rfl)
theorem cd_8_31 : mt_cd 8 31 = some (.aload_n 0) := mt_cd_of (q := (31, .aload_n 0, 1)) mq_8 ci_8 (List.mem_of_getElem? (i := 14) rfl)
theorem cd_8_32 : mt_cd 8 32 = some (.sipush 148) := mt_cd_of (q := (32, .sipush 148, 3)) mq_8 ci_8 (List.mem_of_getElem? (i := 15) rfl)
theorem cd_8_35 : mt_cd 8 35 = some (.newarray .int) := mt_cd_of (q := (35, .newarray .int, 2)) mq_8 ci_8 (List.mem_of_getElem? (i := 16) rfl)
theorem cd_8_37 : mt_cd 8 37 = some (.putfield 21) := mt_cd_of (q := (37, .putfield 21, 3)) mq_8 ci_8 (List.mem_of_getElem? (i := 17) rfl)
theorem cd_8_40 : mt_cd 8 40 = some (.aload_n 0) := mt_cd_of (q := (40, .aload_n 0, 1)) mq_8 ci_8 (List.mem_of_getElem? (i := 18) rfl)
theorem cd_8_41 : mt_cd 8 41 = some (.sipush 148) := mt_cd_of (q := (41, .sipush 148, 3)) mq_8 ci_8 (List.mem_of_getElem? (i := 19) rfl)
theorem cd_8_44 : mt_cd 8 44 = some (.newarray .int) := mt_cd_of (q := (44, .newarray .int, 2)) mq_8 ci_8 (List.mem_of_getElem? (i := 20) rfl)
theorem cd_8_46 : mt_cd 8 46 = some (.putfield 24) := mt_cd_of (q := (46, .putfield 24, 3)) mq_8 ci_8 (List.mem_of_getElem? (i := 21) rfl)
theorem cd_8_49 : mt_cd 8 49 = some (.aload_n 0) := mt_cd_of (q := (49, .aload_n 0, 1)) mq_8 ci_8 (List.mem_of_getElem? (i := 22) rfl)
theorem cd_8_50 : mt_cd 8 50 = some (.sipush 148) := mt_cd_of (q := (50, .sipush 148, 3)) mq_8 ci_8 (List.mem_of_getElem? (i := 23) rfl)
theorem cd_8_53 : mt_cd 8 53 = some (.newarray .long) := mt_cd_of (q := (53, .newarray .long, 2)) mq_8 ci_8 (List.mem_of_getElem? (i := 24) rfl)
theorem cd_8_55 : mt_cd 8 55 = some (.putfield 27) := mt_cd_of (q := (55, .putfield 27, 3)) mq_8 ci_8 (List.mem_of_getElem? (i := 25) rfl)
theorem cd_8_58 : mt_cd 8 58 = some (.return_) := mt_cd_of (q := (58, .return_, 1)) mq_8 ci_8 (List.mem_of_getElem? (i := 26) rfl)
theorem b_8_0 {d : Nat} {Q : (Option Value ⊕ Nat) → mi_H → Prop} (n sl : Nat) (f : Nat → mi_C) {l1 : Nat} {m2 : Nat} {fs5 : List Value} {m9 : Nat} {fs12 : List Value} {m16 : Nat} {fs19 : List Value} (h3 : ¬ 148 < (0 : Int32) ∧ Int32.toNatClampNeg 148 = m2 ∧ m2 ≤ 1000000) (h4 : n + 1 ≤ mi_NC ∧ sl + m2 ≤ mi_NS) (h6 : (va_up f n (.inl (0, m2, .inl (fun _ => 0)))) l1 = .inr (8, fs5)) (h7 : l1 < (n + 1)) (h8 : 0 < fs5.length) (h10 : ¬ 148 < (0 : Int32) ∧ Int32.toNatClampNeg 148 = m9 ∧ m9 ≤ 1000000) (h11 : (n + 1) + 1 ≤ mi_NC ∧ (sl + m2) + m9 ≤ mi_NS) (h13 : (va_up (va_up (va_up f n (.inl (0, m2, .inl (fun _ => 0)))) l1 (.inr (8, fs5.set 0 (.ref n)))) (n + 1) (.inl (0, m9, .inl (fun _ => 0)))) l1 = .inr (8, fs12)) (h14 : l1 < ((n + 1) + 1)) (h15 : 1 < fs12.length) (h17 : ¬ 148 < (0 : Int32) ∧ Int32.toNatClampNeg 148 = m16 ∧ m16 ≤ 1000000) (h18 : ((n + 1) + 1) + 1 ≤ mi_NC ∧ ((sl + m2) + m9) + m16 ≤ mi_NS) (h20 : (va_up (va_up (va_up (va_up (va_up f n (.inl (0, m2, .inl (fun _ => 0)))) l1 (.inr (8, fs5.set 0 (.ref n)))) (n + 1) (.inl (0, m9, .inl (fun _ => 0)))) l1 (.inr (8, fs12.set 1 (.ref (n + 1))))) ((n + 1) + 1) (.inl (0, m16, .inl (fun _ => 0)))) l1 = .inr (8, fs19)) (h21 : l1 < (((n + 1) + 1) + 1)) (h22 : 2 < fs19.length) (h23 : mi_W d 8 31 [some (.ref l1)] [] ((((n + 1) + 1) + 1), (((sl + m2) + m9) + m16), (va_up (va_up (va_up (va_up (va_up (va_up f n (.inl (0, m2, .inl (fun _ => 0)))) l1 (.inr (8, fs5.set 0 (.ref n)))) (n + 1) (.inl (0, m9, .inl (fun _ => 0)))) l1 (.inr (8, fs12.set 1 (.ref (n + 1))))) ((n + 1) + 1) (.inl (0, m16, .inl (fun _ => 0)))) l1 (.inr (8, fs19.set 2 (.ref ((n + 1) + 1)))))) Q) : mi_W d 8 0 [some (.ref l1)] [] (n, sl, f) Q := by
  refine w_aload_n cd_8_0 rfl ?_
  refine w_oinit cd_8_1 (by decide) (Nat.le_of_ble_eq_true rfl) ?_
  refine w_aload_n cd_8_4 rfl ?_
  refine w_sipush (v := 148) cd_8_5 (by decide) ?_
  refine w_newarray cd_8_8 rfl h3 h4 ?_
  refine w_putfield (w := .ref n) cd_8_10 (show mt_f 8 9 = some (8, 0) by decide +kernel) h6 h7 ⟨h8, rfl, Or.inr (by decide +kernel)⟩ ?_
  refine w_aload_n cd_8_13 rfl ?_
  refine w_sipush (v := 148) cd_8_14 (by decide) ?_
  refine w_newarray cd_8_17 rfl h10 h11 ?_
  refine w_putfield (w := .ref (n + 1)) cd_8_19 (show mt_f 8 15 = some (8, 1) by decide +kernel) h13 h14 ⟨h15, rfl, Or.inr (by decide +kernel)⟩ ?_
  refine w_aload_n cd_8_22 rfl ?_
  refine w_sipush (v := 148) cd_8_23 (by decide) ?_
  refine w_newarray cd_8_26 rfl h17 h18 ?_
  refine w_putfield (w := .ref ((n + 1) + 1)) cd_8_28 (show mt_f 8 18 = some (8, 2) by decide +kernel) h20 h21 ⟨h22, rfl, Or.inr (by decide +kernel)⟩ ?_
  exact h23
theorem b_8_31 {d : Nat} {Q : (Option Value ⊕ Nat) → mi_H → Prop} (n sl : Nat) (f : Nat → mi_C) {l1 : Nat} {m2 : Nat} {fs5 : List Value} {m9 : Nat} {fs12 : List Value} {m16 : Nat} {fs19 : List Value} (h3 : ¬ 148 < (0 : Int32) ∧ Int32.toNatClampNeg 148 = m2 ∧ m2 ≤ 1000000) (h4 : n + 1 ≤ mi_NC ∧ sl + m2 ≤ mi_NS) (h6 : (va_up f n (.inl (0, m2, .inl (fun _ => 0)))) l1 = .inr (8, fs5)) (h7 : l1 < (n + 1)) (h8 : 3 < fs5.length) (h10 : ¬ 148 < (0 : Int32) ∧ Int32.toNatClampNeg 148 = m9 ∧ m9 ≤ 1000000) (h11 : (n + 1) + 1 ≤ mi_NC ∧ (sl + m2) + m9 ≤ mi_NS) (h13 : (va_up (va_up (va_up f n (.inl (0, m2, .inl (fun _ => 0)))) l1 (.inr (8, fs5.set 3 (.ref n)))) (n + 1) (.inl (0, m9, .inl (fun _ => 0)))) l1 = .inr (8, fs12)) (h14 : l1 < ((n + 1) + 1)) (h15 : 4 < fs12.length) (h17 : ¬ 148 < (0 : Int32) ∧ Int32.toNatClampNeg 148 = m16 ∧ m16 ≤ 1000000) (h18 : ((n + 1) + 1) + 1 ≤ mi_NC ∧ ((sl + m2) + m9) + m16 ≤ mi_NS) (h20 : (va_up (va_up (va_up (va_up (va_up f n (.inl (0, m2, .inl (fun _ => 0)))) l1 (.inr (8, fs5.set 3 (.ref n)))) (n + 1) (.inl (0, m9, .inl (fun _ => 0)))) l1 (.inr (8, fs12.set 4 (.ref (n + 1))))) ((n + 1) + 1) (.inl (3, m16, .inr (.inl (fun _ => 0))))) l1 = .inr (8, fs19)) (h21 : l1 < (((n + 1) + 1) + 1)) (h22 : 5 < fs19.length) (h23 : mi_W d 8 58 [some (.ref l1)] [] ((((n + 1) + 1) + 1), (((sl + m2) + m9) + m16), (va_up (va_up (va_up (va_up (va_up (va_up f n (.inl (0, m2, .inl (fun _ => 0)))) l1 (.inr (8, fs5.set 3 (.ref n)))) (n + 1) (.inl (0, m9, .inl (fun _ => 0)))) l1 (.inr (8, fs12.set 4 (.ref (n + 1))))) ((n + 1) + 1) (.inl (3, m16, .inr (.inl (fun _ => 0))))) l1 (.inr (8, fs19.set 5 (.ref ((n + 1) + 1)))))) Q) : mi_W d 8 31 [some (.ref l1)] [] (n, sl, f) Q := by
  refine w_aload_n cd_8_31 rfl ?_
  refine w_sipush (v := 148) cd_8_32 (by decide) ?_
  refine w_newarray cd_8_35 rfl h3 h4 ?_
  refine w_putfield (w := .ref n) cd_8_37 (show mt_f 8 21 = some (8, 3) by decide +kernel) h6 h7 ⟨h8, rfl, Or.inr (by decide +kernel)⟩ ?_
  refine w_aload_n cd_8_40 rfl ?_
  refine w_sipush (v := 148) cd_8_41 (by decide) ?_
  refine w_newarray cd_8_44 rfl h10 h11 ?_
  refine w_putfield (w := .ref (n + 1)) cd_8_46 (show mt_f 8 24 = some (8, 4) by decide +kernel) h13 h14 ⟨h15, rfl, Or.inr (by decide +kernel)⟩ ?_
  refine w_aload_n cd_8_49 rfl ?_
  refine w_sipush (v := 148) cd_8_50 (by decide) ?_
  refine w_newarray cd_8_53 rfl h17 h18 ?_
  refine w_putfield (w := .ref ((n + 1) + 1)) cd_8_55 (show mt_f 8 27 = some (8, 5) by decide +kernel) h20 h21 ⟨h22, rfl, Or.inr (by decide +kernel)⟩ ?_
  exact h23
theorem b_8_58 {d : Nat} {Q : (Option Value ⊕ Nat) → mi_H → Prop} (n sl : Nat) (f : Nat → mi_C) {l1 : Nat} (h2 : Q (.inl none) (n, sl, f)) : mi_W d 8 58 [some (.ref l1)] [] (n, sl, f) Q := by
  exact w_return cd_8_58 (by decide +kernel) h2
/-! MarloweHost$Situation.<init>()V -/
set_option maxRecDepth 100000 in
theorem mq_9 : mt_q 9 = my_9 := rfl
set_option maxRecDepth 100000 in
theorem ci_9 : mt_inc 0 my_9.cd = true := by decide +kernel
theorem cd_9_0 : mt_cd 9 0 = some (.aload_n 0) := mt_cd_of (q := (0, .aload_n 0, 1)) mq_9 ci_9 (List.mem_of_getElem? (i := 0) rfl)
theorem cd_9_1 : mt_cd 9 1 = some (.invokespecial 3) := mt_cd_of (q := (1, .invokespecial 3, 3)) mq_9 ci_9 (List.mem_of_getElem? (i := 1) rfl)
theorem cd_9_4 : mt_cd 9 4 = some (.aload_n 0) := mt_cd_of (q := (4, .aload_n 0, 1)) mq_9 ci_9 (List.mem_of_getElem? (i := 2) rfl)
theorem cd_9_5 : mt_cd 9 5 = some (.bipush 32) := mt_cd_of (q := (5, .bipush 32, 2)) mq_9 ci_9 (List.mem_of_getElem? (i := 3) rfl)
theorem cd_9_7 : mt_cd 9 7 = some (.newarray .long) := mt_cd_of (q := (7, .newarray .long, 2)) mq_9 ci_9 (List.mem_of_getElem? (i := 4) rfl)
theorem cd_9_9 : mt_cd 9 9 = some (.putfield 9) := mt_cd_of (q := (9, .putfield 9, 3)) mq_9 ci_9 (List.mem_of_getElem? (i := 5) rfl)
theorem cd_9_12 : mt_cd 9 12 = some (.aload_n 0) := mt_cd_of (q := (12, .aload_n 0, 1)) mq_9 ci_9 (List.mem_of_getElem? (i := 6) rfl)
theorem cd_9_13 : mt_cd 9 13 = some (.bipush 8) := mt_cd_of (q := (13, .bipush 8, 2)) mq_9 ci_9 (List.mem_of_getElem? (i := 7) rfl)
theorem cd_9_15 : mt_cd 9 15 = some (.newarray .long) := mt_cd_of (q := (15, .newarray .long, 2)) mq_9 ci_9 (List.mem_of_getElem? (i := 8) rfl)
theorem cd_9_17 : mt_cd 9 17 = some (.putfield 15) := mt_cd_of (q := (17, .putfield 15, 3)) mq_9 ci_9 (List.mem_of_getElem? (i := 9) rfl)
theorem cd_9_20 : mt_cd 9 20 = some (.aload_n 0) := mt_cd_of (q := (20, .aload_n 0, 1)) mq_9 ci_9 (List.mem_of_getElem? (i := 10) rfl)
theorem cd_9_21 : mt_cd 9 21 = some (.bipush 8) := mt_cd_of (q := (21, .bipush 8, 2)) mq_9 ci_9 (List.mem_of_getElem? (i := 11) rfl)
theorem cd_9_23 : mt_cd 9 23 = some (.newarray .long) := mt_cd_of (q := (23, .newarray .long, 2)) mq_9 ci_9 (List.mem_of_getElem? (i := 12) rfl)
theorem cd_9_25 : mt_cd 9 25 = some (.putfield 18) := mt_cd_of (q := (25, .putfield 18, 3)) mq_9 ci_9 (List.mem_of_getElem? (i := 13) rfl)
theorem cd_9_28 : mt_cd 9 28 = some (.return_) := mt_cd_of (q := (28, .return_, 1)) mq_9 ci_9 (List.mem_of_getElem? (i := 14) rfl)
theorem b_9_0 {d : Nat} {Q : (Option Value ⊕ Nat) → mi_H → Prop} (n sl : Nat) (f : Nat → mi_C) {l1 : Nat} {m2 : Nat} {fs5 : List Value} {m9 : Nat} {fs12 : List Value} {m16 : Nat} {fs19 : List Value} (h3 : ¬ 32 < (0 : Int32) ∧ Int32.toNatClampNeg 32 = m2 ∧ m2 ≤ 1000000) (h4 : n + 1 ≤ mi_NC ∧ sl + m2 ≤ mi_NS) (h6 : (va_up f n (.inl (3, m2, .inr (.inl (fun _ => 0))))) l1 = .inr (9, fs5)) (h7 : l1 < (n + 1)) (h8 : 2 < fs5.length) (h10 : ¬ 8 < (0 : Int32) ∧ Int32.toNatClampNeg 8 = m9 ∧ m9 ≤ 1000000) (h11 : (n + 1) + 1 ≤ mi_NC ∧ (sl + m2) + m9 ≤ mi_NS) (h13 : (va_up (va_up (va_up f n (.inl (3, m2, .inr (.inl (fun _ => 0))))) l1 (.inr (9, fs5.set 2 (.ref n)))) (n + 1) (.inl (3, m9, .inr (.inl (fun _ => 0))))) l1 = .inr (9, fs12)) (h14 : l1 < ((n + 1) + 1)) (h15 : 3 < fs12.length) (h17 : ¬ 8 < (0 : Int32) ∧ Int32.toNatClampNeg 8 = m16 ∧ m16 ≤ 1000000) (h18 : ((n + 1) + 1) + 1 ≤ mi_NC ∧ ((sl + m2) + m9) + m16 ≤ mi_NS) (h20 : (va_up (va_up (va_up (va_up (va_up f n (.inl (3, m2, .inr (.inl (fun _ => 0))))) l1 (.inr (9, fs5.set 2 (.ref n)))) (n + 1) (.inl (3, m9, .inr (.inl (fun _ => 0))))) l1 (.inr (9, fs12.set 3 (.ref (n + 1))))) ((n + 1) + 1) (.inl (3, m16, .inr (.inl (fun _ => 0))))) l1 = .inr (9, fs19)) (h21 : l1 < (((n + 1) + 1) + 1)) (h22 : 4 < fs19.length) (h23 : mi_W d 9 28 [some (.ref l1)] [] ((((n + 1) + 1) + 1), (((sl + m2) + m9) + m16), (va_up (va_up (va_up (va_up (va_up (va_up f n (.inl (3, m2, .inr (.inl (fun _ => 0))))) l1 (.inr (9, fs5.set 2 (.ref n)))) (n + 1) (.inl (3, m9, .inr (.inl (fun _ => 0))))) l1 (.inr (9, fs12.set 3 (.ref (n + 1))))) ((n + 1) + 1) (.inl (3, m16, .inr (.inl (fun _ => 0))))) l1 (.inr (9, fs19.set 4 (.ref ((n + 1) + 1)))))) Q) : mi_W d 9 0 [some (.ref l1)] [] (n, sl, f) Q := by
  refine w_aload_n cd_9_0 rfl ?_
  refine w_oinit cd_9_1 (by decide) (Nat.le_of_ble_eq_true rfl) ?_
  refine w_aload_n cd_9_4 rfl ?_
  refine w_bipush (v := 32) cd_9_5 (by decide) ?_
  refine w_newarray cd_9_7 rfl h3 h4 ?_
  refine w_putfield (w := .ref n) cd_9_9 (show mt_f 9 9 = some (9, 2) by decide +kernel) h6 h7 ⟨h8, rfl, Or.inr (by decide +kernel)⟩ ?_
  refine w_aload_n cd_9_12 rfl ?_
  refine w_bipush (v := 8) cd_9_13 (by decide) ?_
  refine w_newarray cd_9_15 rfl h10 h11 ?_
  refine w_putfield (w := .ref (n + 1)) cd_9_17 (show mt_f 9 15 = some (9, 3) by decide +kernel) h13 h14 ⟨h15, rfl, Or.inr (by decide +kernel)⟩ ?_
  refine w_aload_n cd_9_20 rfl ?_
  refine w_bipush (v := 8) cd_9_21 (by decide) ?_
  refine w_newarray cd_9_23 rfl h17 h18 ?_
  refine w_putfield (w := .ref ((n + 1) + 1)) cd_9_25 (show mt_f 9 18 = some (9, 4) by decide +kernel) h20 h21 ⟨h22, rfl, Or.inr (by decide +kernel)⟩ ?_
  exact h23
theorem b_9_28 {d : Nat} {Q : (Option Value ⊕ Nat) → mi_H → Prop} (n sl : Nat) (f : Nat → mi_C) {l1 : Nat} (h2 : Q (.inl none) (n, sl, f)) : mi_W d 9 28 [some (.ref l1)] [] (n, sl, f) Q := by
  exact w_return cd_9_28 (by decide +kernel) h2
/-! MarloweHost$Reckoner.<init>(LMarloweHost$Tree;LMarloweHost$Situation;)V -/
set_option maxRecDepth 100000 in
theorem mq_10 : mt_q 10 = my_10 := rfl
set_option maxRecDepth 100000 in
theorem ci_10 : mt_inc 0 my_10.cd = true := by decide +kernel
theorem cd_10_0 : mt_cd 10 0 = some (.aload_n 0) := mt_cd_of (q := (0, .aload_n 0, 1)) mq_10 ci_10 (List.mem_of_getElem? (i := 0) rfl)
theorem cd_10_1 : mt_cd 10 1 = some (.invokespecial 3) := mt_cd_of (q := (1, .invokespecial 3, 3)) mq_10 ci_10 (List.mem_of_getElem? (i := 1) rfl)
theorem cd_10_4 : mt_cd 10 4 = some (.aload_n 0) := mt_cd_of (q := (4, .aload_n 0, 1)) mq_10 ci_10 (List.mem_of_getElem? (i := 2) rfl)
theorem cd_10_5 : mt_cd 10 5 = some (.aload_n 1) := mt_cd_of (q := (5, .aload_n 1, 1)) mq_10 ci_10 (List.mem_of_getElem? (i := 3) rfl)
theorem cd_10_6 : mt_cd 10 6 = some (.putfield 9) := mt_cd_of (q := (6, .putfield 9, 3)) mq_10 ci_10 (List.mem_of_getElem? (i := 4) rfl)
theorem cd_10_9 : mt_cd 10 9 = some (.aload_n 0) := mt_cd_of (q := (9, .aload_n 0, 1)) mq_10 ci_10 (List.mem_of_getElem? (i := 5) rfl)
theorem cd_10_10 : mt_cd 10 10 = some (.aload_n 2) := mt_cd_of (q := (10, .aload_n 2, 1)) mq_10 ci_10 (List.mem_of_getElem? (i := 6) rfl)
theorem cd_10_11 : mt_cd 10 11 = some (.putfield 15) := mt_cd_of (q := (11, .putfield 15, 3)) mq_10 ci_10 (List.mem_of_getElem? (i := 7) rfl)
theorem cd_10_14 : mt_cd 10 14 = some (.return_) := mt_cd_of (q := (14, .return_, 1)) mq_10 ci_10 (List.mem_of_getElem? (i := 8) rfl)
theorem b_10_0 {d : Nat} {Q : (Option Value ⊕ Nat) → mi_H → Prop} (n sl : Nat) (f : Nat → mi_C) {l1 : Nat} {l2 : Nat} {l3 : Nat} {fs4 : List Value} {fs8 : List Value} (h5 : f l1 = .inr (10, fs4)) (h6 : l1 < n) (h7 : 0 < fs4.length) (h9 : (va_up f l1 (.inr (10, fs4.set 0 (.ref l2)))) l1 = .inr (10, fs8)) (h10 : l1 < n) (h11 : 1 < fs8.length) (h12 : Q (.inl none) (n, sl, (va_up (va_up f l1 (.inr (10, fs4.set 0 (.ref l2)))) l1 (.inr (10, fs8.set 1 (.ref l3)))))) : mi_W d 10 0 [some (.ref l1), some (.ref l2), some (.ref l3)] [] (n, sl, f) Q := by
  refine w_aload_n cd_10_0 rfl ?_
  refine w_oinit cd_10_1 (by decide) (Nat.le_of_ble_eq_true rfl) ?_
  refine w_aload_n cd_10_4 rfl ?_
  refine w_aload_n cd_10_5 rfl ?_
  refine w_putfield (w := .ref l2) cd_10_6 (show mt_f 10 9 = some (10, 0) by decide +kernel) h5 h6 ⟨h7, rfl, Or.inr (by decide +kernel)⟩ ?_
  refine w_aload_n cd_10_9 rfl ?_
  refine w_aload_n cd_10_10 rfl ?_
  refine w_putfield (w := .ref l3) cd_10_11 (show mt_f 10 15 = some (10, 1) by decide +kernel) h9 h10 ⟨h11, rfl, Or.inl (by decide)⟩ ?_
  exact w_return cd_10_14 (by decide +kernel) h12
/-! MarloweHost$Analyser.<init>(LMarloweHost$Tree;)V -/
set_option maxRecDepth 100000 in
theorem mq_11 : mt_q 11 = my_11 := rfl
set_option maxRecDepth 100000 in
theorem ci_11 : mt_inc 0 my_11.cd = true := by decide +kernel
theorem cd_11_0 : mt_cd 11 0 = some (.aload_n 0) := mt_cd_of (q := (0, .aload_n 0, 1)) mq_11 ci_11 (List.mem_of_getElem? (i := 0) rfl)
theorem cd_11_1 : mt_cd 11 1 = some (.invokespecial 3) := mt_cd_of (q := (1, .invokespecial 3, 3)) mq_11 ci_11 (List.mem_of_getElem? (i := 1) rfl)
theorem cd_11_4 : mt_cd 11 4 = some (.aload_n 0) := mt_cd_of (q := (4, .aload_n 0, 1)) mq_11 ci_11 (List.mem_of_getElem? (i := 2) rfl)
theorem cd_11_5 : mt_cd 11 5 = some (.new 9) := mt_cd_of (q := (5, .new 9, 3)) mq_11 ci_11 (List.mem_of_getElem? (i := 3) rfl)
theorem cd_11_8 : mt_cd 11 8 = some (.dup) := mt_cd_of (q := (8, .dup, 1)) mq_11 ci_11 (List.mem_of_getElem? (i := 4) rfl)
theorem cd_11_9 : mt_cd 11 9 = some (.invokespecial 11) := mt_cd_of (q := (9, .invokespecial 11, 3)) mq_11 ci_11 (List.mem_of_getElem? (i := 5) rfl)
theorem cd_11_12 : mt_cd 11 12 = some (.putfield 12) := mt_cd_of (q := (12, .putfield 12, 3)) mq_11 ci_11 (List.mem_of_getElem? (i := 6) rfl)
theorem cd_11_15 : mt_cd 11 15 = some (.aload_n 0) := mt_cd_of (q := (15, .aload_n 0, 1)) mq_11 ci_11 (List.mem_of_getElem? (i := 7) rfl)
theorem cd_11_16 : mt_cd 11 16 = some (.bipush 104) := mt_cd_of (q := (16, .bipush 104, 2)) mq_11 ci_11 (List.mem_of_getElem? (i := 8) rfl)
theorem cd_11_18 : mt_cd 11 18 = some (.anewarray 18) := mt_cd_of (q := (18, .anewarray 18, 3)) mq_11 ci_11 (List.mem_of_getElem? (i := 9) rfl)
theorem cd_11_21 : mt_cd 11 21 = some (.putfield 20) := mt_cd_of (q := (21, .putfield 20, 3)) mq_11 ci_11 (List.mem_of_getElem? (i := 10) rfl)
theorem cd_11_24 : mt_cd 11 24 = some (.aload_n 0) := mt_cd_of (q := (24, .aload_n 0, 1)) mq_11 ci_11 (List.mem_of_getElem? (i := 11) rfl)
theorem cd_11_25 : mt_cd 11 25 = some (.bipush 104) := mt_cd_of (q := (25, .bipush 104, 2)) mq_11 ci_11 (List.mem_of_getElem? (i := 12) rfl)
theorem cd_11_27 : mt_cd 11 27 = some (.newarray .int) := mt_cd_of (q := (27, .newarray .int, 2)) mq_11 ci_11 (List.mem_of_getElem? (i := 13) rfl)
theorem cd_11_29 : mt_cd 11 29 = some (.putfield 24) := mt_cd_of (q := (29, .putfield 24, 3)) mq_11 ci_11 (List.mem_of_getElem? (i := 14) rfl)
theorem cd_11_32 : mt_cd 11 32 = some (.aload_n 0) := mt_cd_of (q := (32, .aload_n 0, 1)) mq_11 ci_11 (List.mem_of_getElem? (i := 15) rfl)
theorem cd_11_33 : mt_cd 11 33 = some (.bipush 104) := mt_cd_of (q := (33, .bipush 104, 2)) mq_11 ci_11 (List.mem_of_getElem? (i := 16) rfl)
theorem cd_11_35 : mt_cd 11 35 = some (.newarray .int) := mt_cd_of (q := (35, .newarray .int, 2)) mq_11 ci_11 (List.mem_of_getElem? (i := 17) rfl)
theorem cd_11_37 : mt_cd 11 37 = some (.putfield 28) := mt_cd_of (q := (37, .putfield 28, 3)) mq_11 ci_11 (List.mem_of_getElem? (i := 18) rfl)
theorem cd_11_40 : mt_cd 11 40 = some (.aload_n 0) := mt_cd_of (q := (40, .aload_n 0, 1)) mq_11 ci_11 (List.mem_of_getElem? (i := 19) rfl)
theorem cd_11_41 : mt_cd 11 41 = some (.bipush 104) := mt_cd_of (q := (41, .bipush 104, 2)) mq_11 ci_11 (List.mem_of_getElem? (i := 20) rfl)
theorem cd_11_43 : mt_cd 11 43 = some (.newarray .int) := mt_cd_of (q := (43, .newarray .int, 2)) mq_11 ci_11 (List.mem_of_getElem? (i := 21) rfl)
theorem cd_11_45 : mt_cd 11 45 = some (.putfield 31) := mt_cd_of (q := (45, .putfield 31, 3)) mq_11 ci_11 (List.mem_of_getElem? (i := 22) rfl)
theorem cd_11_48 : mt_cd 11 48 = some (.aload_n 0) := mt_cd_of (q := (48, .aload_n 0, 1)) mq_11 ci_11 (List.mem_of_getElem? (i := 23) rfl)
theorem cd_11_49 : mt_cd 11 49 = some (.bipush 104) := mt_cd_of (q := (49, .bipush 104, 2)) mq_11 ci_11 (List.mem_of_getElem? (i := 24) rfl)
theorem cd_11_51 : mt_cd 11 51 = some (.newarray .long) := mt_cd_of (q := (51, .newarray .long, 2)) mq_11 ci_11 (List.mem_of_getElem? (i := 25) rfl)
theorem cd_11_53 : mt_cd 11 53 = some (.putfield 34) := mt_cd_of (q := (53, .putfield 34, 3)) mq_11 ci_11 (List.mem_of_getElem? (i := 26) rfl)
theorem cd_11_56 : mt_cd 11 56 = some (.aload_n 0) := mt_cd_of (q := (56, .aload_n 0, 1)) mq_11 ci_11 (List.mem_of_getElem? (i := 27) rfl)
theorem cd_11_57 : mt_cd 11 57 = some (.bipush 104) := mt_cd_of (q := (57, .bipush 104, 2)) mq_11 ci_11 (List.mem_of_getElem? (i := 28) rfl)
theorem cd_11_59 : mt_cd 11 59 = some (.newarray .int) := mt_cd_of (q := (59, .newarray .int, 2)) mq_11 ci_11 (List.mem_of_getElem? (i := 29) rfl)
theorem cd_11_61 : mt_cd 11 61 = some (.putfield 38) := mt_cd_of (q := (61, .putfield 38, 3)) mq_11 ci_11 (List.mem_of_getElem? (i := 30) rfl)
theorem cd_11_64 : mt_cd 11 64 = some (.aload_n 0) := mt_cd_of (q := (64, .aload_n 0, 1)) mq_11 ci_11 (List.mem_of_getElem? (i := 31) rfl)
theorem cd_11_65 : mt_cd 11 65 = some (.aload_n 1) := mt_cd_of (q := (65, .aload_n 1, 1)) mq_11 ci_11 (List.mem_of_getElem? (i := 32) rfl)
theorem cd_11_66 : mt_cd 11 66 = some (.putfield 41) := mt_cd_of (q := (66, .putfield 41, 3)) mq_11 ci_11 (List.mem_of_getElem? (i := 33) rfl)
theorem cd_11_69 : mt_cd 11 69 = some (.aload_n 0) := mt_cd_of (q := (69, .aload_n 0, 1)) mq_11 ci_11 (List.mem_of_getElem? (i := 34) rfl)
theorem cd_11_70 : mt_cd 11 70 = some (.new 45) := mt_cd_of (q := (70, .new 45, 3)) mq_11 ci_11 (List.mem_of_getElem? (i := 35) rfl)
theorem cd_11_73 : mt_cd 11 73 = some (.dup) := mt_cd_of (q := (73, .dup, 1)) mq_11 ci_11 (List.mem_of_getElem? (i := 36) rfl)
theorem cd_11_74 : mt_cd 11 74 = some (.aload_n 1) := mt_cd_of (q := (74, .aload_n 1, 1)) mq_11 ci_11 (List.mem_of_getElem? (i := 37) rfl)
theorem cd_11_75 : mt_cd 11 75 = some (.aconst_null) := mt_cd_of (q := (75, .aconst_null, 1)) mq_11 ci_11 (List.mem_of_getElem? (i := 38) rfl)
theorem cd_11_76 : mt_cd 11 76 = some (.invokespecial 47) := mt_cd_of (q := (76, .invokespecial 47, 3)) mq_11 ci_11 (List.mem_of_getElem? (i := 39) rfl)
theorem cd_11_79 : mt_cd 11 79 = some (.putfield 50) := mt_cd_of (q := (79, .putfield 50, 3)) mq_11 ci_11 (List.mem_of_getElem? (i := 40) rfl)
theorem cd_11_82 : mt_cd 11 82 = some (.iconst 0) := mt_cd_of (q := (82, .iconst 0, 1)) mq_11 ci_11 (List.mem_of_getElem? (i := 41) rfl)
theorem cd_11_83 : mt_cd 11 83 = some (.istore_n 2) := mt_cd_of (q := (83, .istore_n 2, 1)) mq_11 ci_11 (List.mem_of_getElem? (i := 42) rfl)
theorem cd_11_84 : mt_cd 11 84 = some (.iload_n 2) := mt_cd_of (q := (84, .iload_n 2, 1)) mq_11 ci_11 (List.mem_of_getElem? (i := 43) rfl)
theorem cd_11_85 : mt_cd 11 85 = some (.bipush 104) := mt_cd_of (q := (85, .bipush 104, 2)) mq_11 ci_11 (List.mem_of_getElem? (i := 44) rfl)
theorem cd_11_87 : mt_cd 11 87 = some (.if_icmp .ge 22) := mt_cd_of (q := (87, .if_icmp .ge 22, 3)) mq_11 ci_11 (List.mem_of_getElem? (i := 45) rfl)
theorem cd_11_90 : mt_cd 11 90 = some (.aload_n 0) := mt_cd_of (q := (90, .aload_n 0, 1)) mq_11 ci_11 (List.mem_of_getElem? (i := 46) rfl)
theorem cd_11_91 : mt_cd 11 91 = some (.getfield 20) := mt_cd_of (q := (91, .getfield 20, 3)) mq_11 ci_11 (List.mem_of_getElem? (i := 47) rfl)
theorem cd_11_94 : mt_cd 11 94 = some (.iload_n 2) := mt_cd_of (q := (94, .iload_n 2, 1)) mq_11 ci_11 (List.mem_of_getElem? (i := 48) rfl)
theorem cd_11_95 : mt_cd 11 95 = some (.new 18) := mt_cd_of (q := (95, .new 18, 3)) mq_11 ci_11 (List.mem_of_getElem? (i := 49) rfl)
theorem cd_11_98 : mt_cd 11 98 = some (.dup) := mt_cd_of (q := (98, .dup, 1)) mq_11 ci_11 (List.mem_of_getElem? (i := 50) rfl)
theorem cd_11_99 : mt_cd 11 99 = some (.invokespecial 54) := mt_cd_of (q := (99, .invokespecial 54, 3)) mq_11 ci_11 (List.mem_of_getElem? (i := 51) rfl)
theorem cd_11_102 : mt_cd 11 102 = some (.aastore) := mt_cd_of (q := (102, .aastore, 1)) mq_11 ci_11 (List.mem_of_getElem? (i := 52) rfl)
theorem cd_11_103 : mt_cd 11 103 = some (.iinc 2 1) := mt_cd_of (q := (103, .iinc 2 1, 3)) mq_11 ci_11 (List.mem_of_getElem? (i := 53) rfl)
theorem cd_11_106 : mt_cd 11 106 = some (.goto (-22)) := mt_cd_of (q := (106, .goto (-22), 3)) mq_11 ci_11 (List.mem_of_getElem? (i := 54) rfl)
theorem cd_11_109 : mt_cd 11 109 = some (.aload_n 0) := mt_cd_of (q := (109, .aload_n 0, 1)) mq_11 ci_11 (List.mem_of_getElem? (i := 55) rfl)
theorem cd_11_110 : mt_cd 11 110 = some (.new 55) := mt_cd_of (q := (110, .new 55, 3)) mq_11 ci_11 (List.mem_of_getElem? (i := 56) rfl)
theorem cd_11_113 : mt_cd 11 113 = some (.dup) := mt_cd_of (q := (113, .dup, 1)) mq_11 ci_11 (List.mem_of_getElem? (i := 57) rfl)
theorem cd_11_114 : mt_cd 11 114 = some (.aload_n 1) := mt_cd_of (q := (114, .aload_n 1, 1)) mq_11 ci_11 (List.mem_of_getElem? (i := 58) rfl)
theorem cd_11_115 : mt_cd 11 115 = some (.aload_n 0) := mt_cd_of (q := (115, .aload_n 0, 1)) mq_11 ci_11 (List.mem_of_getElem? (i := 59) rfl)
theorem cd_11_116 : mt_cd 11 116 = some (.getfield 20) := mt_cd_of (q := (116, .getfield 20, 3)) mq_11 ci_11 (List.mem_of_getElem? (i := 60) rfl)
theorem cd_11_119 : mt_cd 11 119 = some (.iconst 0) := mt_cd_of (q := (119, .iconst 0, 1)) mq_11 ci_11 (List.mem_of_getElem? (i := 61) rfl)
theorem cd_11_120 : mt_cd 11 120 = some (.aaload) := mt_cd_of (q := (120, .aaload, 1)) mq_11 ci_11 (List.mem_of_getElem? (i := 62) rfl)
theorem cd_11_121 : mt_cd 11 121 = some (.invokespecial 57) := mt_cd_of (q := (121, .invokespecial 57, 3)) mq_11 ci_11 (List.mem_of_getElem? (i := 63) rfl)
theorem cd_11_124 : mt_cd 11 124 = some (.putfield 60) := mt_cd_of (q := (124, .putfield 60, 3)) mq_11 ci_11 (List.mem_of_getElem? (i := 64) rfl)
theorem cd_11_127 : mt_cd 11 127 = some (.return_) := mt_cd_of (q := (127, .return_, 1)) mq_11 ci_11 (List.mem_of_getElem? (i := 65) rfl)
theorem b_11_0 {d : Nat} {Q : (Option Value ⊕ Nat) → mi_H → Prop} (n sl : Nat) (f : Nat → mi_C) {l1 : Nat} {l2 : Nat} {o3 : Option Value} (h4 : n + 1 ≤ mi_NC ∧ sl + 6 ≤ mi_NS) (h5 : n < (n + 1)) (h6 : mi_W d 6 0 (mi_en 1 [.ref n]) [] ((n + 1), (sl + 6), (va_up f n (.inr (6, mt_df 6)))) (mi_Kc d 11 9 [some (.ref l1), some (.ref l2), o3] [.ref n, .ref l1] Q)) : mi_W (d + 1) 11 0 [some (.ref l1), some (.ref l2), o3] [] (n, sl, f) Q := by
  refine w_aload_n cd_11_0 rfl ?_
  refine w_oinit cd_11_1 (by decide) (Nat.le_of_ble_eq_true rfl) ?_
  refine w_aload_n cd_11_4 rfl ?_
  refine w_new cd_11_5 (show mt_c 11 9 = some 6 by decide +kernel) (by decide) h4 ?_
  refine w_dup_r cd_11_8 ?_
  exact w_invokespecial cd_11_9 (show mt_m 11 11 = some (6, 3) by decide +kernel) (Or.inr rfl) (by decide) (rest := [.ref n, .ref l1]) rfl (as := [.ref n]) rfl h5 ⟨Nat.le_of_ble_eq_true rfl, Nat.le_of_ble_eq_true rfl, Nat.le_of_ble_eq_true rfl⟩ h6
theorem b_11_12 {d : Nat} {Q : (Option Value ⊕ Nat) → mi_H → Prop} (n sl : Nat) (f : Nat → mi_C) {l1 : Nat} {l2 : Nat} {o3 : Option Value} {s4 : Nat} {s5 : Nat} {fs6 : List Value} {m10 : Nat} {fs13 : List Value} {m17 : Nat} {fs20 : List Value} {m24 : Nat} {fs27 : List Value} (h7 : f s5 = .inr (11, fs6)) (h8 : s5 < n) (h9 : 3 < fs6.length) (h11 : ¬ 104 < (0 : Int32) ∧ Int32.toNatClampNeg 104 = m10 ∧ m10 ≤ 1000000) (h12 : n + 1 ≤ mi_NC ∧ sl + m10 ≤ mi_NS) (h14 : (va_up (va_up f s5 (.inr (11, fs6.set 3 (.ref s4)))) n (.inl (4, m10, .inr (.inr (.inr (.inr (fun _ => none))))))) l1 = .inr (11, fs13)) (h15 : l1 < (n + 1)) (h16 : 4 < fs13.length) (h18 : ¬ 104 < (0 : Int32) ∧ Int32.toNatClampNeg 104 = m17 ∧ m17 ≤ 1000000) (h19 : (n + 1) + 1 ≤ mi_NC ∧ (sl + m10) + m17 ≤ mi_NS) (h21 : (va_up (va_up (va_up (va_up f s5 (.inr (11, fs6.set 3 (.ref s4)))) n (.inl (4, m10, .inr (.inr (.inr (.inr (fun _ => none))))))) l1 (.inr (11, fs13.set 4 (.ref n)))) (n + 1) (.inl (0, m17, .inl (fun _ => 0)))) l1 = .inr (11, fs20)) (h22 : l1 < ((n + 1) + 1)) (h23 : 5 < fs20.length) (h25 : ¬ 104 < (0 : Int32) ∧ Int32.toNatClampNeg 104 = m24 ∧ m24 ≤ 1000000) (h26 : ((n + 1) + 1) + 1 ≤ mi_NC ∧ ((sl + m10) + m17) + m24 ≤ mi_NS) (h28 : (va_up (va_up (va_up (va_up (va_up (va_up f s5 (.inr (11, fs6.set 3 (.ref s4)))) n (.inl (4, m10, .inr (.inr (.inr (.inr (fun _ => none))))))) l1 (.inr (11, fs13.set 4 (.ref n)))) (n + 1) (.inl (0, m17, .inl (fun _ => 0)))) l1 (.inr (11, fs20.set 5 (.ref (n + 1))))) ((n + 1) + 1) (.inl (0, m24, .inl (fun _ => 0)))) l1 = .inr (11, fs27)) (h29 : l1 < (((n + 1) + 1) + 1)) (h30 : 6 < fs27.length) (h31 : mi_W d 11 40 [some (.ref l1), some (.ref l2), o3] [] ((((n + 1) + 1) + 1), (((sl + m10) + m17) + m24), (va_up (va_up (va_up (va_up (va_up (va_up (va_up f s5 (.inr (11, fs6.set 3 (.ref s4)))) n (.inl (4, m10, .inr (.inr (.inr (.inr (fun _ => none))))))) l1 (.inr (11, fs13.set 4 (.ref n)))) (n + 1) (.inl (0, m17, .inl (fun _ => 0)))) l1 (.inr (11, fs20.set 5 (.ref (n + 1))))) ((n + 1) + 1) (.inl (0, m24, .inl (fun _ => 0)))) l1 (.inr (11, fs27.set 6 (.ref ((n + 1) + 1)))))) Q) : mi_W d 11 12 [some (.ref l1), some (.ref l2), o3] [.ref s4, .ref s5] (n, sl, f) Q := by
  refine w_putfield (w := .ref s4) cd_11_12 (show mt_f 11 12 = some (11, 3) by decide +kernel) h7 h8 ⟨h9, rfl, Or.inr (by decide +kernel)⟩ ?_
  refine w_aload_n cd_11_15 rfl ?_
  refine w_bipush (v := 104) cd_11_16 (by decide) ?_
  refine w_anewarray cd_11_18 (show mt_c 11 18 = some 9 by decide +kernel) (show mt_ka 9 = some 4 from rfl) h11 h12 ?_
  refine w_putfield (w := .ref n) cd_11_21 (show mt_f 11 20 = some (11, 4) by decide +kernel) h14 h15 ⟨h16, rfl, Or.inr (by decide +kernel)⟩ ?_
  refine w_aload_n cd_11_24 rfl ?_
  refine w_bipush (v := 104) cd_11_25 (by decide) ?_
  refine w_newarray cd_11_27 rfl h18 h19 ?_
  refine w_putfield (w := .ref (n + 1)) cd_11_29 (show mt_f 11 24 = some (11, 5) by decide +kernel) h21 h22 ⟨h23, rfl, Or.inr (by decide +kernel)⟩ ?_
  refine w_aload_n cd_11_32 rfl ?_
  refine w_bipush (v := 104) cd_11_33 (by decide) ?_
  refine w_newarray cd_11_35 rfl h25 h26 ?_
  refine w_putfield (w := .ref ((n + 1) + 1)) cd_11_37 (show mt_f 11 28 = some (11, 6) by decide +kernel) h28 h29 ⟨h30, rfl, Or.inr (by decide +kernel)⟩ ?_
  exact h31
theorem b_11_40 {d : Nat} {Q : (Option Value ⊕ Nat) → mi_H → Prop} (n sl : Nat) (f : Nat → mi_C) {l1 : Nat} {l2 : Nat} {o3 : Option Value} {m4 : Nat} {fs7 : List Value} {m11 : Nat} {fs14 : List Value} {m18 : Nat} {fs21 : List Value} (h5 : ¬ 104 < (0 : Int32) ∧ Int32.toNatClampNeg 104 = m4 ∧ m4 ≤ 1000000) (h6 : n + 1 ≤ mi_NC ∧ sl + m4 ≤ mi_NS) (h8 : (va_up f n (.inl (0, m4, .inl (fun _ => 0)))) l1 = .inr (11, fs7)) (h9 : l1 < (n + 1)) (h10 : 7 < fs7.length) (h12 : ¬ 104 < (0 : Int32) ∧ Int32.toNatClampNeg 104 = m11 ∧ m11 ≤ 1000000) (h13 : (n + 1) + 1 ≤ mi_NC ∧ (sl + m4) + m11 ≤ mi_NS) (h15 : (va_up (va_up (va_up f n (.inl (0, m4, .inl (fun _ => 0)))) l1 (.inr (11, fs7.set 7 (.ref n)))) (n + 1) (.inl (3, m11, .inr (.inl (fun _ => 0))))) l1 = .inr (11, fs14)) (h16 : l1 < ((n + 1) + 1)) (h17 : 8 < fs14.length) (h19 : ¬ 104 < (0 : Int32) ∧ Int32.toNatClampNeg 104 = m18 ∧ m18 ≤ 1000000) (h20 : ((n + 1) + 1) + 1 ≤ mi_NC ∧ ((sl + m4) + m11) + m18 ≤ mi_NS) (h22 : (va_up (va_up (va_up (va_up (va_up f n (.inl (0, m4, .inl (fun _ => 0)))) l1 (.inr (11, fs7.set 7 (.ref n)))) (n + 1) (.inl (3, m11, .inr (.inl (fun _ => 0))))) l1 (.inr (11, fs14.set 8 (.ref (n + 1))))) ((n + 1) + 1) (.inl (0, m18, .inl (fun _ => 0)))) l1 = .inr (11, fs21)) (h23 : l1 < (((n + 1) + 1) + 1)) (h24 : 9 < fs21.length) (h25 : mi_W d 11 64 [some (.ref l1), some (.ref l2), o3] [] ((((n + 1) + 1) + 1), (((sl + m4) + m11) + m18), (va_up (va_up (va_up (va_up (va_up (va_up f n (.inl (0, m4, .inl (fun _ => 0)))) l1 (.inr (11, fs7.set 7 (.ref n)))) (n + 1) (.inl (3, m11, .inr (.inl (fun _ => 0))))) l1 (.inr (11, fs14.set 8 (.ref (n + 1))))) ((n + 1) + 1) (.inl (0, m18, .inl (fun _ => 0)))) l1 (.inr (11, fs21.set 9 (.ref ((n + 1) + 1)))))) Q) : mi_W d 11 40 [some (.ref l1), some (.ref l2), o3] [] (n, sl, f) Q := by
  refine w_aload_n cd_11_40 rfl ?_
  refine w_bipush (v := 104) cd_11_41 (by decide) ?_
  refine w_newarray cd_11_43 rfl h5 h6 ?_
  refine w_putfield (w := .ref n) cd_11_45 (show mt_f 11 31 = some (11, 7) by decide +kernel) h8 h9 ⟨h10, rfl, Or.inr (by decide +kernel)⟩ ?_
  refine w_aload_n cd_11_48 rfl ?_
  refine w_bipush (v := 104) cd_11_49 (by decide) ?_
  refine w_newarray cd_11_51 rfl h12 h13 ?_
  refine w_putfield (w := .ref (n + 1)) cd_11_53 (show mt_f 11 34 = some (11, 8) by decide +kernel) h15 h16 ⟨h17, rfl, Or.inr (by decide +kernel)⟩ ?_
  refine w_aload_n cd_11_56 rfl ?_
  refine w_bipush (v := 104) cd_11_57 (by decide) ?_
  refine w_newarray cd_11_59 rfl h19 h20 ?_
  refine w_putfield (w := .ref ((n + 1) + 1)) cd_11_61 (show mt_f 11 38 = some (11, 9) by decide +kernel) h22 h23 ⟨h24, rfl, Or.inr (by decide +kernel)⟩ ?_
  exact h25
theorem b_11_64 {d : Nat} {Q : (Option Value ⊕ Nat) → mi_H → Prop} (n sl : Nat) (f : Nat → mi_C) {l1 : Nat} {l2 : Nat} {o3 : Option Value} {fs4 : List Value} (h5 : f l1 = .inr (11, fs4)) (h6 : l1 < n) (h7 : 0 < fs4.length) (h8 : n + 1 ≤ mi_NC ∧ sl + 8 ≤ mi_NS) (h9 : n < (n + 1)) (h10 : mi_W d 7 0 (mi_en 3 [.ref n, .ref l2, .null]) [] ((n + 1), (sl + 8), (va_up (va_up f l1 (.inr (11, fs4.set 0 (.ref l2)))) n (.inr (7, mt_df 7)))) (mi_Kc d 11 76 [some (.ref l1), some (.ref l2), o3] [.ref n, .ref l1] Q)) : mi_W (d + 1) 11 64 [some (.ref l1), some (.ref l2), o3] [] (n, sl, f) Q := by
  refine w_aload_n cd_11_64 rfl ?_
  refine w_aload_n cd_11_65 rfl ?_
  refine w_putfield (w := .ref l2) cd_11_66 (show mt_f 11 41 = some (11, 0) by decide +kernel) h5 h6 ⟨h7, rfl, Or.inr (by decide +kernel)⟩ ?_
  refine w_aload_n cd_11_69 rfl ?_
  refine w_new cd_11_70 (show mt_c 11 45 = some 7 by decide +kernel) (by decide) h8 ?_
  refine w_dup_r cd_11_73 ?_
  refine w_aload_n cd_11_74 rfl ?_
  refine w_aconst_null cd_11_75 ?_
  exact w_invokespecial cd_11_76 (show mt_m 11 47 = some (7, 2) by decide +kernel) (Or.inl rfl) (by decide) (rest := [.ref n, .ref l1]) rfl (as := [.ref n, .ref l2, .null]) rfl h9 ⟨Nat.le_of_ble_eq_true rfl, Nat.le_of_ble_eq_true rfl, Nat.le_of_ble_eq_true rfl⟩ h10
theorem b_11_79 {d : Nat} {Q : (Option Value ⊕ Nat) → mi_H → Prop} (n sl : Nat) (f : Nat → mi_C) {l1 : Nat} {l2 : Nat} {o3 : Option Value} {s4 : Nat} {s5 : Nat} {fs6 : List Value} (h7 : f s5 = .inr (11, fs6)) (h8 : s5 < n) (h9 : 1 < fs6.length) (h10 : mi_W d 11 84 [some (.ref l1), some (.ref l2), some (.int 0)] [] (n, sl, (va_up f s5 (.inr (11, fs6.set 1 (.ref s4))))) Q) : mi_W d 11 79 [some (.ref l1), some (.ref l2), o3] [.ref s4, .ref s5] (n, sl, f) Q := by
  refine w_putfield (w := .ref s4) cd_11_79 (show mt_f 11 50 = some (11, 1) by decide +kernel) h7 h8 ⟨h9, rfl, Or.inr (by decide +kernel)⟩ ?_
  refine w_iconst (v := 0) cd_11_82 (by decide) ?_
  refine w_istore_n (ls' := [some (.ref l1), some (.ref l2), some (.int 0)]) cd_11_83 (Nat.le_of_ble_eq_true rfl) rfl ?_
  exact h10
theorem b_11_84 {d : Nat} {Q : (Option Value ⊕ Nat) → mi_H → Prop} (n sl : Nat) (f : Nat → mi_C) {l1 : Nat} {l2 : Nat} {l3 : Int32} (h4 : 104 ≤ l3 → mi_W d 11 109 [some (.ref l1), some (.ref l2), some (.int l3)] [] (n, sl, f) Q) (h5 : ¬ (104 ≤ l3) → mi_W d 11 90 [some (.ref l1), some (.ref l2), some (.int l3)] [] (n, sl, f) Q) : mi_W d 11 84 [some (.ref l1), some (.ref l2), some (.int l3)] [] (n, sl, f) Q := by
  refine w_iload_n cd_11_84 rfl ?_
  refine w_bipush (v := 104) cd_11_85 (by decide) ?_
  exact w_if_icmpge cd_11_87 (by decide) h4 h5
theorem b_11_90 {d : Nat} {Q : (Option Value ⊕ Nat) → mi_H → Prop} (n sl : Nat) (f : Nat → mi_C) {l1 : Nat} {l2 : Nat} {l3 : Int32} {fs4 : List Value} {x7 : Nat} (h5 : f l1 = .inr (11, fs4)) (h6 : l1 < n) (h8 : fs4[4]? = some (.ref x7)) (h9 : n + 1 ≤ mi_NC ∧ sl + 7 ≤ mi_NS) (h10 : n < (n + 1)) (h11 : mi_W d 9 0 (mi_en 1 [.ref n]) [] ((n + 1), (sl + 7), (va_up f n (.inr (9, mt_df 9)))) (mi_Kc d 11 99 [some (.ref l1), some (.ref l2), some (.int l3)] [.ref n, .int l3, .ref x7] Q)) : mi_W (d + 1) 11 90 [some (.ref l1), some (.ref l2), some (.int l3)] [] (n, sl, f) Q := by
  refine w_aload_n cd_11_90 rfl ?_
  refine w_getfield cd_11_91 (show mt_f 11 20 = some (11, 4) by decide +kernel) h5 h6 h8 ?_
  refine w_iload_n cd_11_94 rfl ?_
  refine w_new cd_11_95 (show mt_c 11 18 = some 9 by decide +kernel) (by decide) h9 ?_
  refine w_dup_r cd_11_98 ?_
  exact w_invokespecial cd_11_99 (show mt_m 11 54 = some (9, 3) by decide +kernel) (Or.inr rfl) (by decide) (rest := [.ref n, .int l3, .ref x7]) rfl (as := [.ref n]) rfl h10 ⟨Nat.le_of_ble_eq_true rfl, Nat.le_of_ble_eq_true rfl, Nat.le_of_ble_eq_true rfl⟩ h11
theorem b_11_102 {d : Nat} {Q : (Option Value ⊕ Nat) → mi_H → Prop} (n sl : Nat) (f : Nat → mi_C) {l1 : Nat} {l2 : Nat} {l3 : Int32} {s4 : Nat} {s5 : Int32} {s6 : Nat} (m7 i7 ka7 ci7 : Nat) (g7 : Nat → Option Nat) (fs7 : List Value) (h8 : s6 < n) (h9 : mi_ix s5 m7 i7) (h10 : f s6 = .inl (ka7, m7, .inr (.inr (.inr (.inr g7))))) (h11 : f s4 = .inr (ci7, fs7)) (h12 : s4 < n) (h13 : mt_ac ka7 = some ci7) (h14 : mi_W d 11 84 [some (.ref l1), some (.ref l2), some (.int (l3 + 1))] [] (n, sl, (va_up f s6 (.inl (ka7, m7, .inr (.inr (.inr (.inr (va_up g7 i7 (some s4))))))))) Q) : mi_W d 11 102 [some (.ref l1), some (.ref l2), some (.int l3)] [.ref s4, .int s5, .ref s6] (n, sl, f) Q := by
  refine w_aastore cd_11_102 h10 h8 h11 h12 h13 h9 ?_
  refine w_iinc (v := 1) (ls' := [some (.ref l1), some (.ref l2), some (.int (l3 + 1))]) cd_11_103 rfl (by decide) rfl ?_
  exact w_goto cd_11_106 (by decide) h14
theorem b_11_109 {d : Nat} {Q : (Option Value ⊕ Nat) → mi_H → Prop} (n sl : Nat) (f : Nat → mi_C) {l1 : Nat} {l2 : Nat} {l3 : Int32} {fs5 : List Value} {x8 : Nat} (m10 i10 ka10 : Nat) (g10 : Nat → Option Nat) {x15 : Nat} (h4 : n + 1 ≤ mi_NC ∧ sl + 5 ≤ mi_NS) (h6 : (va_up f n (.inr (10, mt_df 10))) l1 = .inr (11, fs5)) (h7 : l1 < (n + 1)) (h9 : fs5[4]? = some (.ref x8)) (h11 : (va_up f n (.inr (10, mt_df 10))) x8 = .inl (ka10, m10, .inr (.inr (.inr (.inr g10))))) (h12 : x8 < (n + 1)) (h13 : 4 ≤ ka10 ∧ ka10 < mt_na) (h14 : mi_ix 0 m10 i10) (h16 : g10 i10 = some x15) (h17 : n < (n + 1)) (h18 : mi_W d 10 0 (mi_en 3 [.ref n, .ref l2, .ref x15]) [] ((n + 1), (sl + 5), (va_up f n (.inr (10, mt_df 10)))) (mi_Kc d 11 121 [some (.ref l1), some (.ref l2), some (.int l3)] [.ref n, .ref l1] Q)) : mi_W (d + 1) 11 109 [some (.ref l1), some (.ref l2), some (.int l3)] [] (n, sl, f) Q := by
  refine w_aload_n cd_11_109 rfl ?_
  refine w_new cd_11_110 (show mt_c 11 55 = some 10 by decide +kernel) (by decide) h4 ?_
  refine w_dup_r cd_11_113 ?_
  refine w_aload_n cd_11_114 rfl ?_
  refine w_aload_n cd_11_115 rfl ?_
  refine w_getfield cd_11_116 (show mt_f 11 20 = some (11, 4) by decide +kernel) h6 h7 h9 ?_
  refine w_iconst (v := 0) cd_11_119 (by decide) ?_
  refine w_aaload (w := .ref x15) cd_11_120 h11 h12 h13 h14 (by rw [h16]; rfl) ?_
  exact w_invokespecial cd_11_121 (show mt_m 11 57 = some (10, 2) by decide +kernel) (Or.inl rfl) (by decide) (rest := [.ref n, .ref l1]) rfl (as := [.ref n, .ref l2, .ref x15]) rfl h17 ⟨Nat.le_of_ble_eq_true rfl, Nat.le_of_ble_eq_true rfl, Nat.le_of_ble_eq_true rfl⟩ h18
theorem b_11_124 {d : Nat} {Q : (Option Value ⊕ Nat) → mi_H → Prop} (n sl : Nat) (f : Nat → mi_C) {l1 : Nat} {l2 : Nat} {l3 : Int32} {s4 : Nat} {s5 : Nat} {fs6 : List Value} (h7 : f s5 = .inr (11, fs6)) (h8 : s5 < n) (h9 : 2 < fs6.length) (h10 : Q (.inl none) (n, sl, (va_up f s5 (.inr (11, fs6.set 2 (.ref s4)))))) : mi_W d 11 124 [some (.ref l1), some (.ref l2), some (.int l3)] [.ref s4, .ref s5] (n, sl, f) Q := by
  refine w_putfield (w := .ref s4) cd_11_124 (show mt_f 11 60 = some (11, 2) by decide +kernel) h7 h8 ⟨h9, rfl, Or.inr (by decide +kernel)⟩ ?_
  exact w_return cd_11_127 (by decide +kernel) h10
/-! MarloweHost.wrong()I -/
set_option maxRecDepth 100000 in
theorem mq_12 : mt_q 12 = my_12 := rfl
set_option maxRecDepth 100000 in
theorem ci_12 : mt_inc 0 my_12.cd = true := by decide +kernel
theorem cd_12_0 : mt_cd 12 0 = some (.aload_n 0) := mt_cd_of (q := (0, .aload_n 0, 1)) mq_12 ci_12 (List.mem_of_getElem? (i := 0) rfl)
theorem cd_12_1 : mt_cd 12 1 = some (.getfield 28) := mt_cd_of (q := (1, .getfield 28, 3)) mq_12 ci_12 (List.mem_of_getElem? (i := 1) rfl)
theorem cd_12_4 : mt_cd 12 4 = some (.getfield 111) := mt_cd_of (q := (4, .getfield 111, 3)) mq_12 ci_12 (List.mem_of_getElem? (i := 2) rfl)
theorem cd_12_7 : mt_cd 12 7 = some (.ireturn) := mt_cd_of (q := (7, .ireturn, 1)) mq_12 ci_12 (List.mem_of_getElem? (i := 3) rfl)
theorem b_12_0 {d : Nat} {Q : (Option Value ⊕ Nat) → mi_H → Prop} (n sl : Nat) (f : Nat → mi_C) {l1 : Nat} {fs2 : List Value} {x5 : Nat} {fs7 : List Value} {x10 : Int32} (h3 : f l1 = .inr (0, fs2)) (h4 : l1 < n) (h6 : fs2[2]? = some (.ref x5)) (h8 : f x5 = .inr (3, fs7)) (h9 : x5 < n) (h11 : fs7[6]? = some (.int x10)) (h12 : Q (.inl (some (.int x10))) (n, sl, f)) : mi_W d 12 0 [some (.ref l1)] [] (n, sl, f) Q := by
  refine w_aload_n cd_12_0 rfl ?_
  refine w_getfield cd_12_1 (show mt_f 0 28 = some (0, 2) by decide +kernel) h3 h4 h6 ?_
  refine w_getfield cd_12_4 (show mt_f 0 111 = some (3, 6) by decide +kernel) h8 h9 h11 ?_
  exact w_ireturn_i cd_12_7 (by decide +kernel) h12
/-! MarloweHostLaw.feed(LMarloweHost;IIIII[J)I -/
set_option maxRecDepth 100000 in
theorem mq_13 : mt_q 13 = my_13 := rfl
set_option maxRecDepth 100000 in
theorem ci_13 : mt_inc 0 my_13.cd = true := by decide +kernel
theorem cd_13_0 : mt_cd 13 0 = some (.aload 6) := mt_cd_of (q := (0, .aload 6, 2)) mq_13 ci_13 (List.mem_of_getElem? (i := 0) rfl)
theorem cd_13_2 : mt_cd 13 2 = some (.iconst 0) := mt_cd_of (q := (2, .iconst 0, 1)) mq_13 ci_13 (List.mem_of_getElem? (i := 1) rfl)
theorem cd_13_3 : mt_cd 13 3 = some (.aload_n 0) := mt_cd_of (q := (3, .aload_n 0, 1)) mq_13 ci_13 (List.mem_of_getElem? (i := 2) rfl)
theorem cd_13_4 : mt_cd 13 4 = some (.iload_n 1) := mt_cd_of (q := (4, .iload_n 1, 1)) mq_13 ci_13 (List.mem_of_getElem? (i := 3) rfl)
theorem cd_13_5 : mt_cd 13 5 = some (.iload_n 2) := mt_cd_of (q := (5, .iload_n 2, 1)) mq_13 ci_13 (List.mem_of_getElem? (i := 4) rfl)
theorem cd_13_6 : mt_cd 13 6 = some (.iload_n 3) := mt_cd_of (q := (6, .iload_n 3, 1)) mq_13 ci_13 (List.mem_of_getElem? (i := 5) rfl)
theorem cd_13_7 : mt_cd 13 7 = some (.iload 4) := mt_cd_of (q := (7, .iload 4, 2)) mq_13 ci_13 (List.mem_of_getElem? (i := 6) rfl)
theorem cd_13_9 : mt_cd 13 9 = some (.iload 5) := mt_cd_of (q := (9, .iload 5, 2)) mq_13 ci_13 (List.mem_of_getElem? (i := 7) rfl)
theorem cd_13_11 : mt_cd 13 11 = some (.invokevirtual 7) := mt_cd_of (q := (11, .invokevirtual 7, 3)) mq_13 ci_13 (List.mem_of_getElem? (i := 8) rfl)
theorem cd_13_14 : mt_cd 13 14 = some (.i2l) := mt_cd_of (q := (14, .i2l, 1)) mq_13 ci_13 (List.mem_of_getElem? (i := 9) rfl)
theorem cd_13_15 : mt_cd 13 15 = some (.lastore) := mt_cd_of (q := (15, .lastore, 1)) mq_13 ci_13 (List.mem_of_getElem? (i := 10) rfl)
theorem cd_13_16 : mt_cd 13 16 = some (.goto 7) := mt_cd_of (q := (16, .goto 7, 3)) mq_13 ci_13 (List.mem_of_getElem? (i := 11) rfl)
theorem cd_13_19 : mt_cd 13 19 = some (.astore 7) := mt_cd_of (q := (19, .astore 7, 2)) mq_13 ci_13 (List.mem_of_getElem? (i := 12) rfl)
theorem cd_13_21 : mt_cd 13 21 = some (.iconst 1) := mt_cd_of (q := (21, .iconst 1, 1)) mq_13 ci_13 (List.mem_of_getElem? (i := 13) rfl)
theorem cd_13_22 : mt_cd 13 22 = some (.ireturn) := mt_cd_of (q := (22, .ireturn, 1)) mq_13 ci_13 (List.mem_of_getElem? (i := 14) rfl)
theorem cd_13_23 : mt_cd 13 23 = some (.iconst 0) := mt_cd_of (q := (23, .iconst 0, 1)) mq_13 ci_13 (List.mem_of_getElem? (i := 15) rfl)
theorem cd_13_24 : mt_cd 13 24 = some (.ireturn) := mt_cd_of (q := (24, .ireturn, 1)) mq_13 ci_13 (List.mem_of_getElem? (i := 16) rfl)
theorem b_13_0 {d : Nat} {Q : (Option Value ⊕ Nat) → mi_H → Prop} (n sl : Nat) (f : Nat → mi_C) {l1 : Nat} {l2 : Int32} {l3 : Int32} {l4 : Int32} {l5 : Int32} {l6 : Int32} {l7 : Nat} {o8 : Option Value} {fs9 : List Value} (h10 : f l1 = .inr (0, fs9)) (h11 : l1 < n) (h12 : mi_W d 14 0 (mi_en 6 [.ref l1, .int l2, .int l3, .int l4, .int l5, .int l6]) [] (n, sl, f) (mi_Kc d 13 11 [some (.ref l1), some (.int l2), some (.int l3), some (.int l4), some (.int l5), some (.int l6), some (.ref l7), o8] [.int 0, .ref l7] Q)) : mi_W (d + 1) 13 0 [some (.ref l1), some (.int l2), some (.int l3), some (.int l4), some (.int l5), some (.int l6), some (.ref l7), o8] [] (n, sl, f) Q := by
  refine w_aload cd_13_0 rfl ?_
  refine w_iconst (v := 0) cd_13_2 (by decide) ?_
  refine w_aload_n cd_13_3 rfl ?_
  refine w_iload_n cd_13_4 rfl ?_
  refine w_iload_n cd_13_5 rfl ?_
  refine w_iload_n cd_13_6 rfl ?_
  refine w_iload cd_13_7 rfl ?_
  refine w_iload cd_13_9 rfl ?_
  exact w_invokevirtual cd_13_11 (show mt_m 18 7 = some (14, 0) by decide +kernel) (rest := [.int 0, .ref l7]) rfl (as := [.ref l1, .int l2, .int l3, .int l4, .int l5, .int l6]) rfl h10 (Or.inl h11) ⟨Nat.le_of_ble_eq_true rfl, Nat.le_of_ble_eq_true rfl, Nat.le_of_ble_eq_true rfl⟩ h12
theorem b_13_14 {d : Nat} {Q : (Option Value ⊕ Nat) → mi_H → Prop} (n sl : Nat) (f : Nat → mi_C) {l1 : Nat} {l2 : Int32} {l3 : Int32} {l4 : Int32} {l5 : Int32} {l6 : Int32} {l7 : Nat} {o8 : Option Value} {s9 : Int32} {s10 : Int32} {s11 : Nat} (m12 i12 : Nat) (g12 : Nat → Int64) (h13 : f s11 = .inl (3, m12, .inr (.inl g12))) (h14 : s11 < n) (h15 : mi_ix s10 m12 i12) (h16 : mi_W d 13 23 [some (.ref l1), some (.int l2), some (.int l3), some (.int l4), some (.int l5), some (.int l6), some (.ref l7), o8] [] (n, sl, (va_up f s11 (.inl (3, m12, .inr (.inl (vp_updL g12 i12 ((s9 : Int32).toInt64))))))) Q) : mi_W d 13 14 [some (.ref l1), some (.int l2), some (.int l3), some (.int l4), some (.int l5), some (.int l6), some (.ref l7), o8] [.int s9, .int s10, .ref s11] (n, sl, f) Q := by
  refine w_i2l cd_13_14 ?_
  refine w_lastore cd_13_15 h13 h14 h15 ?_
  exact w_goto cd_13_16 (by decide) h16
theorem b_13_19 {d : Nat} {Q : (Option Value ⊕ Nat) → mi_H → Prop} (n sl : Nat) (f : Nat → mi_C) {l1 : Nat} {l2 : Int32} {l3 : Int32} {l4 : Int32} {l5 : Int32} {l6 : Int32} {l7 : Nat} {o8 : Option Value} {s9 : Nat} (h10 : Q (.inl (some (.int 1))) (n, sl, f)) : mi_W d 13 19 [some (.ref l1), some (.int l2), some (.int l3), some (.int l4), some (.int l5), some (.int l6), some (.ref l7), o8] [.ref s9] (n, sl, f) Q := by
  refine w_astore (ls' := [some (.ref l1), some (.int l2), some (.int l3), some (.int l4), some (.int l5), some (.int l6), some (.ref l7), some (.ref s9)]) cd_13_19 (Nat.le_of_ble_eq_true rfl) rfl ?_
  refine w_iconst (v := 1) cd_13_21 (by decide) ?_
  exact w_ireturn_i cd_13_22 (by decide +kernel) h10
theorem b_13_23 {d : Nat} {Q : (Option Value ⊕ Nat) → mi_H → Prop} (n sl : Nat) (f : Nat → mi_C) {l1 : Nat} {l2 : Int32} {l3 : Int32} {l4 : Int32} {l5 : Int32} {l6 : Int32} {l7 : Nat} {o8 : Option Value} (h9 : Q (.inl (some (.int 0))) (n, sl, f)) : mi_W d 13 23 [some (.ref l1), some (.int l2), some (.int l3), some (.int l4), some (.int l5), some (.int l6), some (.ref l7), o8] [] (n, sl, f) Q := by
  refine w_iconst (v := 0) cd_13_23 (by decide) ?_
  exact w_ireturn_i cd_13_24 (by decide +kernel) h9
/-! MarloweHost.feed(IIIII)I -/
set_option maxRecDepth 100000 in
theorem mq_14 : mt_q 14 = my_14 := rfl
set_option maxRecDepth 100000 in
theorem ci_14 : mt_inc 0 my_14.cd = true := by decide +kernel
theorem cd_14_0 : mt_cd 14 0 = some (.aload_n 0) := mt_cd_of (q := (0, .aload_n 0, 1)) mq_14 ci_14 (List.mem_of_getElem? (i := 0) rfl)
theorem cd_14_1 : mt_cd 14 1 = some (.getfield 12) := mt_cd_of (q := (1, .getfield 12, 3)) mq_14 ci_14 (List.mem_of_getElem? (i := 1) rfl)
theorem cd_14_4 : mt_cd 14 4 = some (.getfield 74) := mt_cd_of (q := (4, .getfield 74, 3)) mq_14 ci_14 (List.mem_of_getElem? (i := 2) rfl)
theorem cd_14_7 : mt_cd 14 7 = some (.bipush 20) := mt_cd_of (q := (7, .bipush 20, 2)) mq_14 ci_14 (List.mem_of_getElem? (i := 3) rfl)
theorem cd_14_9 : mt_cd 14 9 = some (.iadd) := mt_cd_of (q := (9, .iadd, 1)) mq_14 ci_14 (List.mem_of_getElem? (i := 4) rfl)
theorem cd_14_10 : mt_cd 14 10 = some (.sipush 8200) := mt_cd_of (q := (10, .sipush 8200, 3)) mq_14 ci_14 (List.mem_of_getElem? (i := 5) rfl)
theorem cd_14_13 : mt_cd 14 13 = some (.if_icmp .le 13) := mt_cd_of (q := (13, .if_icmp .le 13, 3)) mq_14 ci_14 (List.mem_of_getElem? (i := 6) rfl)
theorem cd_14_16 : mt_cd 14 16 = some (.new 78) := mt_cd_of (q := (16, .new 78, 3)) mq_14 ci_14 (List.mem_of_getElem? (i := 7) rfl)
theorem cd_14_19 : mt_cd 14 19 = some (.dup) := mt_cd_of (q := (19, .dup, 1)) mq_14 ci_14 (List.mem_of_getElem? (i := 8) rfl)
theorem cd_14_20 : mt_cd 14 20 = some (.ldc 80) := mt_cd_of (q := (20, .ldc 80, 2)) mq_14 ci_14 (List.mem_of_getElem? (i := 9) rfl)
theorem cd_14_22 : mt_cd 14 22 = some (.invokespecial 82) := mt_cd_of (q := (22, .invokespecial 82, 3)) mq_14 ci_14 (List.mem_of_getElem? (i := 10) rfl)
theorem cd_14_25 : mt_cd 14 25 = some (.athrow) := mt_cd_of (q := (25, .athrow, 1)) mq_14 ci_14 (List.mem_of_getElem? (i := 11) rfl)
theorem cd_14_26 : mt_cd 14 26 = some (.aload_n 0) := mt_cd_of (q := (26, .aload_n 0, 1)) mq_14 ci_14 (List.mem_of_getElem? (i := 12) rfl)
theorem cd_14_27 : mt_cd 14 27 = some (.getfield 12) := mt_cd_of (q := (27, .getfield 12, 3)) mq_14 ci_14 (List.mem_of_getElem? (i := 13) rfl)
theorem cd_14_30 : mt_cd 14 30 = some (.iload_n 1) := mt_cd_of (q := (30, .iload_n 1, 1)) mq_14 ci_14 (List.mem_of_getElem? (i := 14) rfl)
theorem cd_14_31 : mt_cd 14 31 = some (.invokevirtual 85) := mt_cd_of (q := (31, .invokevirtual 85, 3)) mq_14 ci_14 (List.mem_of_getElem? (i := 15) rfl)
theorem cd_14_34 : mt_cd 14 34 = some (.aload_n 0) := mt_cd_of (q := (34, .aload_n 0, 1)) mq_14 ci_14 (List.mem_of_getElem? (i := 16) rfl)
theorem cd_14_35 : mt_cd 14 35 = some (.getfield 12) := mt_cd_of (q := (35, .getfield 12, 3)) mq_14 ci_14 (List.mem_of_getElem? (i := 17) rfl)
theorem cd_14_38 : mt_cd 14 38 = some (.iload_n 2) := mt_cd_of (q := (38, .iload_n 2, 1)) mq_14 ci_14 (List.mem_of_getElem? (i := 18) rfl)
theorem cd_14_39 : mt_cd 14 39 = some (.invokevirtual 85) := mt_cd_of (q := (39, .invokevirtual 85, 3)) mq_14 ci_14 (List.mem_of_getElem? (i := 19) rfl)
theorem cd_14_42 : mt_cd 14 42 = some (.aload_n 0) := mt_cd_of (q := (42, .aload_n 0, 1)) mq_14 ci_14 (List.mem_of_getElem? (i := 20) rfl)
theorem cd_14_43 : mt_cd 14 43 = some (.getfield 12) := mt_cd_of (q := (43, .getfield 12, 3)) mq_14 ci_14 (List.mem_of_getElem? (i := 21) rfl)
theorem cd_14_46 : mt_cd 14 46 = some (.iload_n 3) := mt_cd_of (q := (46, .iload_n 3, 1)) mq_14 ci_14 (List.mem_of_getElem? (i := 22) rfl)
theorem cd_14_47 : mt_cd 14 47 = some (.invokevirtual 85) := mt_cd_of (q := (47, .invokevirtual 85, 3)) mq_14 ci_14 (List.mem_of_getElem? (i := 23) rfl)
theorem cd_14_50 : mt_cd 14 50 = some (.aload_n 0) := mt_cd_of (q := (50, .aload_n 0, 1)) mq_14 ci_14 (List.mem_of_getElem? (i := 24) rfl)
theorem cd_14_51 : mt_cd 14 51 = some (.getfield 12) := mt_cd_of (q := (51, .getfield 12, 3)) mq_14 ci_14 (List.mem_of_getElem? (i := 25) rfl)
theorem cd_14_54 : mt_cd 14 54 = some (.iload 4) := mt_cd_of (q := (54, .iload 4, 2)) mq_14 ci_14 (List.mem_of_getElem? (i := 26) rfl)
theorem cd_14_56 : mt_cd 14 56 = some (.invokevirtual 85) := mt_cd_of (q := (56, .invokevirtual 85, 3)) mq_14 ci_14 (List.mem_of_getElem? (i := 27) rfl)
theorem cd_14_59 : mt_cd 14 59 = some (.aload_n 0) := mt_cd_of (q := (59, .aload_n 0, 1)) mq_14 ci_14 (List.mem_of_getElem? (i := 28) rfl)
theorem cd_14_60 : mt_cd 14 60 = some (.getfield 12) := mt_cd_of (q := (60, .getfield 12, 3)) mq_14 ci_14 (List.mem_of_getElem? (i := 29) rfl)
theorem cd_14_63 : mt_cd 14 63 = some (.iload 5) := mt_cd_of (q := (63, .iload 5, 2)) mq_14 ci_14 (List.mem_of_getElem? (i := 30) rfl)
theorem cd_14_65 : mt_cd 14 65 = some (.invokevirtual 85) := mt_cd_of (q := (65, .invokevirtual 85, 3)) mq_14 ci_14 (List.mem_of_getElem? (i := 31) rfl)
theorem cd_14_68 : mt_cd 14 68 = some (.aload_n 0) := mt_cd_of (q := (68, .aload_n 0, 1)) mq_14 ci_14 (List.mem_of_getElem? (i := 32) rfl)
theorem cd_14_69 : mt_cd 14 69 = some (.getfield 12) := mt_cd_of (q := (69, .getfield 12, 3)) mq_14 ci_14 (List.mem_of_getElem? (i := 33) rfl)
theorem cd_14_72 : mt_cd 14 72 = some (.getfield 74) := mt_cd_of (q := (72, .getfield 74, 3)) mq_14 ci_14 (List.mem_of_getElem? (i := 34) rfl)
theorem cd_14_75 : mt_cd 14 75 = some (.ireturn) := mt_cd_of (q := (75, .ireturn, 1)) mq_14 ci_14 (List.mem_of_getElem? (i := 35) rfl)
theorem b_14_0 {d : Nat} {Q : (Option Value ⊕ Nat) → mi_H → Prop} (n sl : Nat) (f : Nat → mi_C) {l1 : Nat} {l2 : Int32} {l3 : Int32} {l4 : Int32} {l5 : Int32} {l6 : Int32} {fs7 : List Value} {x10 : Nat} {fs12 : List Value} {x15 : Int32} (h8 : f l1 = .inr (0, fs7)) (h9 : l1 < n) (h11 : fs7[0]? = some (.ref x10)) (h13 : f x10 = .inr (1, fs12)) (h14 : x10 < n) (h16 : fs12[1]? = some (.int x15)) (h17 : (x15 + 20) ≤ 8200 → mi_W d 14 26 [some (.ref l1), some (.int l2), some (.int l3), some (.int l4), some (.int l5), some (.int l6)] [] (n, sl, f) Q) (h18 : ¬ ((x15 + 20) ≤ 8200) → mi_W d 14 16 [some (.ref l1), some (.int l2), some (.int l3), some (.int l4), some (.int l5), some (.int l6)] [] (n, sl, f) Q) : mi_W d 14 0 [some (.ref l1), some (.int l2), some (.int l3), some (.int l4), some (.int l5), some (.int l6)] [] (n, sl, f) Q := by
  refine w_aload_n cd_14_0 rfl ?_
  refine w_getfield cd_14_1 (show mt_f 0 12 = some (0, 0) by decide +kernel) h8 h9 h11 ?_
  refine w_getfield cd_14_4 (show mt_f 0 74 = some (1, 1) by decide +kernel) h13 h14 h16 ?_
  refine w_bipush (v := 20) cd_14_7 (by decide) ?_
  refine w_iadd cd_14_9 ?_
  refine w_sipush (v := 8200) cd_14_10 (by decide) ?_
  exact w_if_icmple cd_14_13 (by decide) h17 h18
theorem b_14_16 {d : Nat} {Q : (Option Value ⊕ Nat) → mi_H → Prop} (n sl : Nat) (f : Nat → mi_C) {l1 : Nat} {l2 : Int32} {l3 : Int32} {l4 : Int32} {l5 : Int32} {l6 : Int32} {h' : mi_H} (h7 : mi_t 14 16 (.new 78) [] (n, sl, f) = some h') (h8 : Q (.inr n) h') : mi_W d 14 16 [some (.ref l1), some (.int l2), some (.int l3), some (.int l4), some (.int l5), some (.int l6)] [] (n, sl, f) Q := by
  exact w_throw cd_14_16 (show mt_c 0 78 = some 14 by decide +kernel) (by decide) h7 h8
theorem b_14_26 {d : Nat} {Q : (Option Value ⊕ Nat) → mi_H → Prop} (n sl : Nat) (f : Nat → mi_C) {l1 : Nat} {l2 : Int32} {l3 : Int32} {l4 : Int32} {l5 : Int32} {l6 : Int32} {fs7 : List Value} {x10 : Nat} {fs12 : List Value} (h8 : f l1 = .inr (0, fs7)) (h9 : l1 < n) (h11 : fs7[0]? = some (.ref x10)) (h13 : f x10 = .inr (1, fs12)) (h14 : x10 < n) (h15 : mi_W d 15 0 (mi_en 3 [.ref x10, .int l2]) [] (n, sl, f) (mi_Kc d 14 31 [some (.ref l1), some (.int l2), some (.int l3), some (.int l4), some (.int l5), some (.int l6)] [] Q)) : mi_W (d + 1) 14 26 [some (.ref l1), some (.int l2), some (.int l3), some (.int l4), some (.int l5), some (.int l6)] [] (n, sl, f) Q := by
  refine w_aload_n cd_14_26 rfl ?_
  refine w_getfield cd_14_27 (show mt_f 0 12 = some (0, 0) by decide +kernel) h8 h9 h11 ?_
  refine w_iload_n cd_14_30 rfl ?_
  exact w_invokevirtual cd_14_31 (show mt_m 0 85 = some (15, 0) by decide +kernel) (rest := []) rfl (as := [.ref x10, .int l2]) rfl h13 (Or.inl h14) ⟨Nat.le_of_ble_eq_true rfl, Nat.le_of_ble_eq_true rfl, Nat.le_of_ble_eq_true rfl⟩ h15
theorem b_14_34 {d : Nat} {Q : (Option Value ⊕ Nat) → mi_H → Prop} (n sl : Nat) (f : Nat → mi_C) {l1 : Nat} {l2 : Int32} {l3 : Int32} {l4 : Int32} {l5 : Int32} {l6 : Int32} {fs7 : List Value} {x10 : Nat} {fs12 : List Value} (h8 : f l1 = .inr (0, fs7)) (h9 : l1 < n) (h11 : fs7[0]? = some (.ref x10)) (h13 : f x10 = .inr (1, fs12)) (h14 : x10 < n) (h15 : mi_W d 15 0 (mi_en 3 [.ref x10, .int l3]) [] (n, sl, f) (mi_Kc d 14 39 [some (.ref l1), some (.int l2), some (.int l3), some (.int l4), some (.int l5), some (.int l6)] [] Q)) : mi_W (d + 1) 14 34 [some (.ref l1), some (.int l2), some (.int l3), some (.int l4), some (.int l5), some (.int l6)] [] (n, sl, f) Q := by
  refine w_aload_n cd_14_34 rfl ?_
  refine w_getfield cd_14_35 (show mt_f 0 12 = some (0, 0) by decide +kernel) h8 h9 h11 ?_
  refine w_iload_n cd_14_38 rfl ?_
  exact w_invokevirtual cd_14_39 (show mt_m 0 85 = some (15, 0) by decide +kernel) (rest := []) rfl (as := [.ref x10, .int l3]) rfl h13 (Or.inl h14) ⟨Nat.le_of_ble_eq_true rfl, Nat.le_of_ble_eq_true rfl, Nat.le_of_ble_eq_true rfl⟩ h15
theorem b_14_42 {d : Nat} {Q : (Option Value ⊕ Nat) → mi_H → Prop} (n sl : Nat) (f : Nat → mi_C) {l1 : Nat} {l2 : Int32} {l3 : Int32} {l4 : Int32} {l5 : Int32} {l6 : Int32} {fs7 : List Value} {x10 : Nat} {fs12 : List Value} (h8 : f l1 = .inr (0, fs7)) (h9 : l1 < n) (h11 : fs7[0]? = some (.ref x10)) (h13 : f x10 = .inr (1, fs12)) (h14 : x10 < n) (h15 : mi_W d 15 0 (mi_en 3 [.ref x10, .int l4]) [] (n, sl, f) (mi_Kc d 14 47 [some (.ref l1), some (.int l2), some (.int l3), some (.int l4), some (.int l5), some (.int l6)] [] Q)) : mi_W (d + 1) 14 42 [some (.ref l1), some (.int l2), some (.int l3), some (.int l4), some (.int l5), some (.int l6)] [] (n, sl, f) Q := by
  refine w_aload_n cd_14_42 rfl ?_
  refine w_getfield cd_14_43 (show mt_f 0 12 = some (0, 0) by decide +kernel) h8 h9 h11 ?_
  refine w_iload_n cd_14_46 rfl ?_
  exact w_invokevirtual cd_14_47 (show mt_m 0 85 = some (15, 0) by decide +kernel) (rest := []) rfl (as := [.ref x10, .int l4]) rfl h13 (Or.inl h14) ⟨Nat.le_of_ble_eq_true rfl, Nat.le_of_ble_eq_true rfl, Nat.le_of_ble_eq_true rfl⟩ h15
theorem b_14_50 {d : Nat} {Q : (Option Value ⊕ Nat) → mi_H → Prop} (n sl : Nat) (f : Nat → mi_C) {l1 : Nat} {l2 : Int32} {l3 : Int32} {l4 : Int32} {l5 : Int32} {l6 : Int32} {fs7 : List Value} {x10 : Nat} {fs12 : List Value} (h8 : f l1 = .inr (0, fs7)) (h9 : l1 < n) (h11 : fs7[0]? = some (.ref x10)) (h13 : f x10 = .inr (1, fs12)) (h14 : x10 < n) (h15 : mi_W d 15 0 (mi_en 3 [.ref x10, .int l5]) [] (n, sl, f) (mi_Kc d 14 56 [some (.ref l1), some (.int l2), some (.int l3), some (.int l4), some (.int l5), some (.int l6)] [] Q)) : mi_W (d + 1) 14 50 [some (.ref l1), some (.int l2), some (.int l3), some (.int l4), some (.int l5), some (.int l6)] [] (n, sl, f) Q := by
  refine w_aload_n cd_14_50 rfl ?_
  refine w_getfield cd_14_51 (show mt_f 0 12 = some (0, 0) by decide +kernel) h8 h9 h11 ?_
  refine w_iload cd_14_54 rfl ?_
  exact w_invokevirtual cd_14_56 (show mt_m 0 85 = some (15, 0) by decide +kernel) (rest := []) rfl (as := [.ref x10, .int l5]) rfl h13 (Or.inl h14) ⟨Nat.le_of_ble_eq_true rfl, Nat.le_of_ble_eq_true rfl, Nat.le_of_ble_eq_true rfl⟩ h15
theorem b_14_59 {d : Nat} {Q : (Option Value ⊕ Nat) → mi_H → Prop} (n sl : Nat) (f : Nat → mi_C) {l1 : Nat} {l2 : Int32} {l3 : Int32} {l4 : Int32} {l5 : Int32} {l6 : Int32} {fs7 : List Value} {x10 : Nat} {fs12 : List Value} (h8 : f l1 = .inr (0, fs7)) (h9 : l1 < n) (h11 : fs7[0]? = some (.ref x10)) (h13 : f x10 = .inr (1, fs12)) (h14 : x10 < n) (h15 : mi_W d 15 0 (mi_en 3 [.ref x10, .int l6]) [] (n, sl, f) (mi_Kc d 14 65 [some (.ref l1), some (.int l2), some (.int l3), some (.int l4), some (.int l5), some (.int l6)] [] Q)) : mi_W (d + 1) 14 59 [some (.ref l1), some (.int l2), some (.int l3), some (.int l4), some (.int l5), some (.int l6)] [] (n, sl, f) Q := by
  refine w_aload_n cd_14_59 rfl ?_
  refine w_getfield cd_14_60 (show mt_f 0 12 = some (0, 0) by decide +kernel) h8 h9 h11 ?_
  refine w_iload cd_14_63 rfl ?_
  exact w_invokevirtual cd_14_65 (show mt_m 0 85 = some (15, 0) by decide +kernel) (rest := []) rfl (as := [.ref x10, .int l6]) rfl h13 (Or.inl h14) ⟨Nat.le_of_ble_eq_true rfl, Nat.le_of_ble_eq_true rfl, Nat.le_of_ble_eq_true rfl⟩ h15
theorem b_14_68 {d : Nat} {Q : (Option Value ⊕ Nat) → mi_H → Prop} (n sl : Nat) (f : Nat → mi_C) {l1 : Nat} {l2 : Int32} {l3 : Int32} {l4 : Int32} {l5 : Int32} {l6 : Int32} {fs7 : List Value} {x10 : Nat} {fs12 : List Value} {x15 : Int32} (h8 : f l1 = .inr (0, fs7)) (h9 : l1 < n) (h11 : fs7[0]? = some (.ref x10)) (h13 : f x10 = .inr (1, fs12)) (h14 : x10 < n) (h16 : fs12[1]? = some (.int x15)) (h17 : Q (.inl (some (.int x15))) (n, sl, f)) : mi_W d 14 68 [some (.ref l1), some (.int l2), some (.int l3), some (.int l4), some (.int l5), some (.int l6)] [] (n, sl, f) Q := by
  refine w_aload_n cd_14_68 rfl ?_
  refine w_getfield cd_14_69 (show mt_f 0 12 = some (0, 0) by decide +kernel) h8 h9 h11 ?_
  refine w_getfield cd_14_72 (show mt_f 0 74 = some (1, 1) by decide +kernel) h13 h14 h16 ?_
  exact w_ireturn_i cd_14_75 (by decide +kernel) h17
/-! MarloweHost$Scanner.addFour(I)V -/
set_option maxRecDepth 100000 in
theorem mq_15 : mt_q 15 = my_15 := rfl
set_option maxRecDepth 100000 in
theorem ci_15 : mt_inc 0 my_15.cd = true := by decide +kernel
theorem cd_15_0 : mt_cd 15 0 = some (.bipush 24) := mt_cd_of (q := (0, .bipush 24, 2)) mq_15 ci_15 (List.mem_of_getElem? (i := 0) rfl)
theorem cd_15_2 : mt_cd 15 2 = some (.istore_n 2) := mt_cd_of (q := (2, .istore_n 2, 1)) mq_15 ci_15 (List.mem_of_getElem? (i := 1) rfl)
theorem cd_15_3 : mt_cd 15 3 = some (.iload_n 2) := mt_cd_of (q := (3, .iload_n 2, 1)) mq_15 ci_15 (List.mem_of_getElem? (i := 2) rfl)
theorem cd_15_4 : mt_cd 15 4 = some (.ifCond .lt 49) := mt_cd_of (q := (4, .ifCond .lt 49, 3)) mq_15 ci_15 (List.mem_of_getElem? (i := 3) rfl)
theorem cd_15_7 : mt_cd 15 7 = some (.aload_n 0) := mt_cd_of (q := (7, .aload_n 0, 1)) mq_15 ci_15 (List.mem_of_getElem? (i := 4) rfl)
theorem cd_15_8 : mt_cd 15 8 = some (.getfield 15) := mt_cd_of (q := (8, .getfield 15, 3)) mq_15 ci_15 (List.mem_of_getElem? (i := 5) rfl)
theorem cd_15_11 : mt_cd 15 11 = some (.ifCond .lt 42) := mt_cd_of (q := (11, .ifCond .lt 42, 3)) mq_15 ci_15 (List.mem_of_getElem? (i := 6) rfl)
theorem cd_15_14 : mt_cd 15 14 = some (.aload_n 0) := mt_cd_of (q := (14, .aload_n 0, 1)) mq_15 ci_15 (List.mem_of_getElem? (i := 7) rfl)
theorem cd_15_15 : mt_cd 15 15 = some (.getfield 15) := mt_cd_of (q := (15, .getfield 15, 3)) mq_15 ci_15 (List.mem_of_getElem? (i := 8) rfl)
theorem cd_15_18 : mt_cd 15 18 = some (.sipush 8200) := mt_cd_of (q := (18, .sipush 8200, 3)) mq_15 ci_15 (List.mem_of_getElem? (i := 9) rfl)
theorem cd_15_21 : mt_cd 15 21 = some (.if_icmp .ge 32) := mt_cd_of (q := (21, .if_icmp .ge 32, 3)) mq_15 ci_15 (List.mem_of_getElem? (i := 10) rfl)
theorem cd_15_24 : mt_cd 15 24 = some (.aload_n 0) := mt_cd_of (q := (24, .aload_n 0, 1)) mq_15 ci_15 (List.mem_of_getElem? (i := 11) rfl)
theorem cd_15_25 : mt_cd 15 25 = some (.getfield 9) := mt_cd_of (q := (25, .getfield 9, 3)) mq_15 ci_15 (List.mem_of_getElem? (i := 12) rfl)
theorem cd_15_28 : mt_cd 15 28 = some (.aload_n 0) := mt_cd_of (q := (28, .aload_n 0, 1)) mq_15 ci_15 (List.mem_of_getElem? (i := 13) rfl)
theorem cd_15_29 : mt_cd 15 29 = some (.getfield 15) := mt_cd_of (q := (29, .getfield 15, 3)) mq_15 ci_15 (List.mem_of_getElem? (i := 14) rfl)
theorem cd_15_32 : mt_cd 15 32 = some (.iload_n 1) := mt_cd_of (q := (32, .iload_n 1, 1)) mq_15 ci_15 (List.mem_of_getElem? (i := 15) rfl)
theorem cd_15_33 : mt_cd 15 33 = some (.iload_n 2) := mt_cd_of (q := (33, .iload_n 2, 1)) mq_15 ci_15 (List.mem_of_getElem? (i := 16) rfl)
theorem cd_15_34 : mt_cd 15 34 = some (.ishr) := mt_cd_of (q := (34, .ishr, 1)) mq_15 ci_15 (List.mem_of_getElem? (i := 17) rfl)
theorem cd_15_35 : mt_cd 15 35 = some (.i2b) := mt_cd_of (q := (35, .i2b, 1)) mq_15 ci_15 (List.mem_of_getElem? (i := 18) rfl)
theorem cd_15_36 : mt_cd 15 36 = some (.bastore) := mt_cd_of (q := (36, .bastore, 1)) mq_15 ci_15 (List.mem_of_getElem? (i := 19) rfl)
theorem cd_15_37 : mt_cd 15 37 = some (.aload_n 0) := mt_cd_of (q := (37, .aload_n 0, 1)) mq_15 ci_15 (List.mem_of_getElem? (i := 20) rfl)
theorem cd_15_38 : mt_cd 15 38 = some (.dup) := mt_cd_of (q := (38, .dup, 1)) mq_15 ci_15 (List.mem_of_getElem? (i := 21) rfl)
theorem cd_15_39 : mt_cd 15 39 = some (.getfield 15) := mt_cd_of (q := (39, .getfield 15, 3)) mq_15 ci_15 (List.mem_of_getElem? (i := 22) rfl)
theorem cd_15_42 : mt_cd 15 42 = some (.iconst 1) := mt_cd_of (q := (42, .iconst 1, 1)) mq_15 ci_15 (List.mem_of_getElem? (i := 23) rfl)
theorem cd_15_43 : mt_cd 15 43 = some (.iadd) := mt_cd_of (q := (43, .iadd, 1)) mq_15 ci_15 (List.mem_of_getElem? (i := 24) rfl)
theorem cd_15_44 : mt_cd 15 44 = some (.putfield 15) := mt_cd_of (q := (44, .putfield 15, 3)) mq_15 ci_15 (List.mem_of_getElem? (i := 25) rfl)
theorem cd_15_47 : mt_cd 15 47 = some (.iinc 2 (-8)) := mt_cd_of (q := (47, .iinc 2 (-8), 3)) mq_15 ci_15 (List.mem_of_getElem? (i := 26) rfl)
theorem cd_15_50 : mt_cd 15 50 = some (.goto (-47)) := mt_cd_of (q := (50, .goto (-47), 3)) mq_15 ci_15 (List.mem_of_getElem? (i := 27) rfl)
theorem cd_15_53 : mt_cd 15 53 = some (.return_) := mt_cd_of (q := (53, .return_, 1)) mq_15 ci_15 (List.mem_of_getElem? (i := 28) rfl)
theorem b_15_0 {d : Nat} {Q : (Option Value ⊕ Nat) → mi_H → Prop} (n sl : Nat) (f : Nat → mi_C) {l1 : Nat} {l2 : Int32} {o3 : Option Value} (h4 : mi_W d 15 3 [some (.ref l1), some (.int l2), some (.int 24)] [] (n, sl, f) Q) : mi_W d 15 0 [some (.ref l1), some (.int l2), o3] [] (n, sl, f) Q := by
  refine w_bipush (v := 24) cd_15_0 (by decide) ?_
  refine w_istore_n (ls' := [some (.ref l1), some (.int l2), some (.int 24)]) cd_15_2 (Nat.le_of_ble_eq_true rfl) rfl ?_
  exact h4
theorem b_15_3 {d : Nat} {Q : (Option Value ⊕ Nat) → mi_H → Prop} (n sl : Nat) (f : Nat → mi_C) {l1 : Nat} {l2 : Int32} {l3 : Int32} (h4 : l3 < (0 : Int32) → mi_W d 15 53 [some (.ref l1), some (.int l2), some (.int l3)] [] (n, sl, f) Q) (h5 : ¬ (l3 < (0 : Int32)) → mi_W d 15 7 [some (.ref l1), some (.int l2), some (.int l3)] [] (n, sl, f) Q) : mi_W d 15 3 [some (.ref l1), some (.int l2), some (.int l3)] [] (n, sl, f) Q := by
  refine w_iload_n cd_15_3 rfl ?_
  exact w_iflt cd_15_4 (by decide) h4 h5
theorem b_15_7 {d : Nat} {Q : (Option Value ⊕ Nat) → mi_H → Prop} (n sl : Nat) (f : Nat → mi_C) {l1 : Nat} {l2 : Int32} {l3 : Int32} {fs4 : List Value} {x7 : Int32} (h5 : f l1 = .inr (1, fs4)) (h6 : l1 < n) (h8 : fs4[1]? = some (.int x7)) (h9 : x7 < (0 : Int32) → mi_W d 15 53 [some (.ref l1), some (.int l2), some (.int l3)] [] (n, sl, f) Q) (h10 : ¬ (x7 < (0 : Int32)) → mi_W d 15 14 [some (.ref l1), some (.int l2), some (.int l3)] [] (n, sl, f) Q) : mi_W d 15 7 [some (.ref l1), some (.int l2), some (.int l3)] [] (n, sl, f) Q := by
  refine w_aload_n cd_15_7 rfl ?_
  refine w_getfield cd_15_8 (show mt_f 1 15 = some (1, 1) by decide +kernel) h5 h6 h8 ?_
  exact w_iflt cd_15_11 (by decide) h9 h10
theorem b_15_14 {d : Nat} {Q : (Option Value ⊕ Nat) → mi_H → Prop} (n sl : Nat) (f : Nat → mi_C) {l1 : Nat} {l2 : Int32} {l3 : Int32} {fs4 : List Value} {x7 : Int32} (h5 : f l1 = .inr (1, fs4)) (h6 : l1 < n) (h8 : fs4[1]? = some (.int x7)) (h9 : 8200 ≤ x7 → mi_W d 15 53 [some (.ref l1), some (.int l2), some (.int l3)] [] (n, sl, f) Q) (h10 : ¬ (8200 ≤ x7) → mi_W d 15 24 [some (.ref l1), some (.int l2), some (.int l3)] [] (n, sl, f) Q) : mi_W d 15 14 [some (.ref l1), some (.int l2), some (.int l3)] [] (n, sl, f) Q := by
  refine w_aload_n cd_15_14 rfl ?_
  refine w_getfield cd_15_15 (show mt_f 1 15 = some (1, 1) by decide +kernel) h5 h6 h8 ?_
  refine w_sipush (v := 8200) cd_15_18 (by decide) ?_
  exact w_if_icmpge cd_15_21 (by decide) h9 h10
theorem b_15_24 {d : Nat} {Q : (Option Value ⊕ Nat) → mi_H → Prop} (n sl : Nat) (f : Nat → mi_C) {l1 : Nat} {l2 : Int32} {l3 : Int32} {fs4 : List Value} {x7 : Nat} {fs9 : List Value} {x12 : Int32} (m14 i14 : Nat) (g14 : Nat → Int32) {fs18 : List Value} {x21 : Int32} {fs23 : List Value} (h5 : f l1 = .inr (1, fs4)) (h6 : l1 < n) (h8 : fs4[0]? = some (.ref x7)) (h10 : f l1 = .inr (1, fs9)) (h11 : l1 < n) (h13 : fs9[1]? = some (.int x12)) (h15 : f x7 = .inl (1, m14, .inl g14)) (h16 : x7 < n) (h17 : mi_ix x12 m14 i14) (h19 : (va_up f x7 (.inl (1, m14, .inl (upd g14 i14 (vp_nar .byte (((l2 >>> (l3 &&& 31)) : Int32).toInt8.toInt32)))))) l1 = .inr (1, fs18)) (h20 : l1 < n) (h22 : fs18[1]? = some (.int x21)) (h24 : (va_up f x7 (.inl (1, m14, .inl (upd g14 i14 (vp_nar .byte (((l2 >>> (l3 &&& 31)) : Int32).toInt8.toInt32)))))) l1 = .inr (1, fs23)) (h25 : l1 < n) (h26 : 1 < fs23.length) (h27 : mi_W d 15 3 [some (.ref l1), some (.int l2), some (.int (l3 + (-8)))] [] (n, sl, (va_up (va_up f x7 (.inl (1, m14, .inl (upd g14 i14 (vp_nar .byte (((l2 >>> (l3 &&& 31)) : Int32).toInt8.toInt32)))))) l1 (.inr (1, fs23.set 1 (.int (x21 + 1)))))) Q) : mi_W d 15 24 [some (.ref l1), some (.int l2), some (.int l3)] [] (n, sl, f) Q := by
  refine w_aload_n cd_15_24 rfl ?_
  refine w_getfield cd_15_25 (show mt_f 1 9 = some (1, 0) by decide +kernel) h5 h6 h8 ?_
  refine w_aload_n cd_15_28 rfl ?_
  refine w_getfield cd_15_29 (show mt_f 1 15 = some (1, 1) by decide +kernel) h10 h11 h13 ?_
  refine w_iload_n cd_15_32 rfl ?_
  refine w_iload_n cd_15_33 rfl ?_
  refine w_ishr cd_15_34 ?_
  refine w_i2b cd_15_35 ?_
  refine w_bastore1 cd_15_36 h15 h16 h17 ?_
  refine w_aload_n cd_15_37 rfl ?_
  refine w_dup_r cd_15_38 ?_
  refine w_getfield cd_15_39 (show mt_f 1 15 = some (1, 1) by decide +kernel) h19 h20 h22 ?_
  refine w_iconst (v := 1) cd_15_42 (by decide) ?_
  refine w_iadd cd_15_43 ?_
  refine w_putfield (w := .int (x21 + 1)) cd_15_44 (show mt_f 1 15 = some (1, 1) by decide +kernel) h24 h25 ⟨h26, rfl, Or.inl (by decide)⟩ ?_
  refine w_iinc (v := (-8)) (ls' := [some (.ref l1), some (.int l2), some (.int (l3 + (-8)))]) cd_15_47 rfl (by decide) rfl ?_
  exact w_goto cd_15_50 (by decide) h27
theorem b_15_53 {d : Nat} {Q : (Option Value ⊕ Nat) → mi_H → Prop} (n sl : Nat) (f : Nat → mi_C) {l1 : Nat} {l2 : Int32} {l3 : Int32} (h4 : Q (.inl none) (n, sl, f)) : mi_W d 15 53 [some (.ref l1), some (.int l2), some (.int l3)] [] (n, sl, f) Q := by
  exact w_return cd_15_53 (by decide +kernel) h4
/-! MarloweHostLaw.end(LMarloweHost;I[J)I -/
set_option maxRecDepth 100000 in
theorem mq_16 : mt_q 16 = my_16 := rfl
set_option maxRecDepth 100000 in
theorem ci_16 : mt_inc 0 my_16.cd = true := by decide +kernel
theorem cd_16_0 : mt_cd 16 0 = some (.aload_n 2) := mt_cd_of (q := (0, .aload_n 2, 1)) mq_16 ci_16 (List.mem_of_getElem? (i := 0) rfl)
theorem cd_16_1 : mt_cd 16 1 = some (.iconst 0) := mt_cd_of (q := (1, .iconst 0, 1)) mq_16 ci_16 (List.mem_of_getElem? (i := 1) rfl)
theorem cd_16_2 : mt_cd 16 2 = some (.aload_n 0) := mt_cd_of (q := (2, .aload_n 0, 1)) mq_16 ci_16 (List.mem_of_getElem? (i := 2) rfl)
theorem cd_16_3 : mt_cd 16 3 = some (.iload_n 1) := mt_cd_of (q := (3, .iload_n 1, 1)) mq_16 ci_16 (List.mem_of_getElem? (i := 3) rfl)
theorem cd_16_4 : mt_cd 16 4 = some (.invokevirtual 15) := mt_cd_of (q := (4, .invokevirtual 15, 3)) mq_16 ci_16 (List.mem_of_getElem? (i := 4) rfl)
theorem cd_16_7 : mt_cd 16 7 = some (.i2l) := mt_cd_of (q := (7, .i2l, 1)) mq_16 ci_16 (List.mem_of_getElem? (i := 5) rfl)
theorem cd_16_8 : mt_cd 16 8 = some (.lastore) := mt_cd_of (q := (8, .lastore, 1)) mq_16 ci_16 (List.mem_of_getElem? (i := 6) rfl)
theorem cd_16_9 : mt_cd 16 9 = some (.goto 9) := mt_cd_of (q := (9, .goto 9, 3)) mq_16 ci_16 (List.mem_of_getElem? (i := 7) rfl)
theorem cd_16_12 : mt_cd 16 12 = some (.astore_n 3) := mt_cd_of (q := (12, .astore_n 3, 1)) mq_16 ci_16 (List.mem_of_getElem? (i := 8) rfl)
theorem cd_16_13 : mt_cd 16 13 = some (.iconst 1) := mt_cd_of (q := (13, .iconst 1, 1)) mq_16 ci_16 (List.mem_of_getElem? (i := 9) rfl)
theorem cd_16_14 : mt_cd 16 14 = some (.ireturn) := mt_cd_of (q := (14, .ireturn, 1)) mq_16 ci_16 (List.mem_of_getElem? (i := 10) rfl)
theorem cd_16_15 : mt_cd 16 15 = some (.astore_n 3) := mt_cd_of (q := (15, .astore_n 3, 1)) mq_16 ci_16 (List.mem_of_getElem? (i := 11) rfl)
theorem cd_16_16 : mt_cd 16 16 = some (.iconst 2) := mt_cd_of (q := (16, .iconst 2, 1)) mq_16 ci_16 (List.mem_of_getElem? (i := 12) rfl)
theorem cd_16_17 : mt_cd 16 17 = some (.ireturn) := mt_cd_of (q := (17, .ireturn, 1)) mq_16 ci_16 (List.mem_of_getElem? (i := 13) rfl)
theorem cd_16_18 : mt_cd 16 18 = some (.iconst 0) := mt_cd_of (q := (18, .iconst 0, 1)) mq_16 ci_16 (List.mem_of_getElem? (i := 14) rfl)
theorem cd_16_19 : mt_cd 16 19 = some (.ireturn) := mt_cd_of (q := (19, .ireturn, 1)) mq_16 ci_16 (List.mem_of_getElem? (i := 15) rfl)
theorem b_16_0 {d : Nat} {Q : (Option Value ⊕ Nat) → mi_H → Prop} (n sl : Nat) (f : Nat → mi_C) {l1 : Nat} {l2 : Int32} {l3 : Nat} {o4 : Option Value} {fs5 : List Value} (h6 : f l1 = .inr (0, fs5)) (h7 : l1 < n) (h8 : mi_W d 17 0 (mi_en 2 [.ref l1, .int l2]) [] (n, sl, f) (mi_Kc d 16 4 [some (.ref l1), some (.int l2), some (.ref l3), o4] [.int 0, .ref l3] Q)) : mi_W (d + 1) 16 0 [some (.ref l1), some (.int l2), some (.ref l3), o4] [] (n, sl, f) Q := by
  refine w_aload_n cd_16_0 rfl ?_
  refine w_iconst (v := 0) cd_16_1 (by decide) ?_
  refine w_aload_n cd_16_2 rfl ?_
  refine w_iload_n cd_16_3 rfl ?_
  exact w_invokevirtual cd_16_4 (show mt_m 18 15 = some (17, 0) by decide +kernel) (rest := [.int 0, .ref l3]) rfl (as := [.ref l1, .int l2]) rfl h6 (Or.inl h7) ⟨Nat.le_of_ble_eq_true rfl, Nat.le_of_ble_eq_true rfl, Nat.le_of_ble_eq_true rfl⟩ h8
theorem b_16_7 {d : Nat} {Q : (Option Value ⊕ Nat) → mi_H → Prop} (n sl : Nat) (f : Nat → mi_C) {l1 : Nat} {l2 : Int32} {l3 : Nat} {o4 : Option Value} {s5 : Int32} {s6 : Int32} {s7 : Nat} (m8 i8 : Nat) (g8 : Nat → Int64) (h9 : f s7 = .inl (3, m8, .inr (.inl g8))) (h10 : s7 < n) (h11 : mi_ix s6 m8 i8) (h12 : mi_W d 16 18 [some (.ref l1), some (.int l2), some (.ref l3), o4] [] (n, sl, (va_up f s7 (.inl (3, m8, .inr (.inl (vp_updL g8 i8 ((s5 : Int32).toInt64))))))) Q) : mi_W d 16 7 [some (.ref l1), some (.int l2), some (.ref l3), o4] [.int s5, .int s6, .ref s7] (n, sl, f) Q := by
  refine w_i2l cd_16_7 ?_
  refine w_lastore cd_16_8 h9 h10 h11 ?_
  exact w_goto cd_16_9 (by decide) h12
theorem b_16_12 {d : Nat} {Q : (Option Value ⊕ Nat) → mi_H → Prop} (n sl : Nat) (f : Nat → mi_C) {l1 : Nat} {l2 : Int32} {l3 : Nat} {o4 : Option Value} {s5 : Nat} (h6 : Q (.inl (some (.int 1))) (n, sl, f)) : mi_W d 16 12 [some (.ref l1), some (.int l2), some (.ref l3), o4] [.ref s5] (n, sl, f) Q := by
  refine w_astore_n (ls' := [some (.ref l1), some (.int l2), some (.ref l3), some (.ref s5)]) cd_16_12 (Nat.le_of_ble_eq_true rfl) rfl ?_
  refine w_iconst (v := 1) cd_16_13 (by decide) ?_
  exact w_ireturn_i cd_16_14 (by decide +kernel) h6
theorem b_16_15 {d : Nat} {Q : (Option Value ⊕ Nat) → mi_H → Prop} (n sl : Nat) (f : Nat → mi_C) {l1 : Nat} {l2 : Int32} {l3 : Nat} {o4 : Option Value} {s5 : Nat} (h6 : Q (.inl (some (.int 2))) (n, sl, f)) : mi_W d 16 15 [some (.ref l1), some (.int l2), some (.ref l3), o4] [.ref s5] (n, sl, f) Q := by
  refine w_astore_n (ls' := [some (.ref l1), some (.int l2), some (.ref l3), some (.ref s5)]) cd_16_15 (Nat.le_of_ble_eq_true rfl) rfl ?_
  refine w_iconst (v := 2) cd_16_16 (by decide) ?_
  exact w_ireturn_i cd_16_17 (by decide +kernel) h6
theorem b_16_18 {d : Nat} {Q : (Option Value ⊕ Nat) → mi_H → Prop} (n sl : Nat) (f : Nat → mi_C) {l1 : Nat} {l2 : Int32} {l3 : Nat} {o4 : Option Value} (h5 : Q (.inl (some (.int 0))) (n, sl, f)) : mi_W d 16 18 [some (.ref l1), some (.int l2), some (.ref l3), o4] [] (n, sl, f) Q := by
  refine w_iconst (v := 0) cd_16_18 (by decide) ?_
  exact w_ireturn_i cd_16_19 (by decide +kernel) h5
/-! MarloweHost.end(I)I -/
set_option maxRecDepth 100000 in
theorem mq_17 : mt_q 17 = my_17 := rfl
set_option maxRecDepth 100000 in
theorem ci_17 : mt_inc 0 my_17.cd = true := by decide +kernel
theorem cd_17_0 : mt_cd 17 0 = some (.iload_n 1) := mt_cd_of (q := (0, .iload_n 1, 1)) mq_17 ci_17 (List.mem_of_getElem? (i := 0) rfl)
theorem cd_17_1 : mt_cd 17 1 = some (.ifCond .lt 21) := mt_cd_of (q := (1, .ifCond .lt 21, 3)) mq_17 ci_17 (List.mem_of_getElem? (i := 1) rfl)
theorem cd_17_4 : mt_cd 17 4 = some (.iload_n 1) := mt_cd_of (q := (4, .iload_n 1, 1)) mq_17 ci_17 (List.mem_of_getElem? (i := 2) rfl)
theorem cd_17_5 : mt_cd 17 5 = some (.sipush 8192) := mt_cd_of (q := (5, .sipush 8192, 3)) mq_17 ci_17 (List.mem_of_getElem? (i := 3) rfl)
theorem cd_17_8 : mt_cd 17 8 = some (.if_icmp .gt 14) := mt_cd_of (q := (8, .if_icmp .gt 14, 3)) mq_17 ci_17 (List.mem_of_getElem? (i := 4) rfl)
theorem cd_17_11 : mt_cd 17 11 = some (.iload_n 1) := mt_cd_of (q := (11, .iload_n 1, 1)) mq_17 ci_17 (List.mem_of_getElem? (i := 5) rfl)
theorem cd_17_12 : mt_cd 17 12 = some (.aload_n 0) := mt_cd_of (q := (12, .aload_n 0, 1)) mq_17 ci_17 (List.mem_of_getElem? (i := 6) rfl)
theorem cd_17_13 : mt_cd 17 13 = some (.getfield 12) := mt_cd_of (q := (13, .getfield 12, 3)) mq_17 ci_17 (List.mem_of_getElem? (i := 7) rfl)
theorem cd_17_16 : mt_cd 17 16 = some (.getfield 74) := mt_cd_of (q := (16, .getfield 74, 3)) mq_17 ci_17 (List.mem_of_getElem? (i := 8) rfl)
theorem cd_17_19 : mt_cd 17 19 = some (.if_icmp .le 13) := mt_cd_of (q := (19, .if_icmp .le 13, 3)) mq_17 ci_17 (List.mem_of_getElem? (i := 9) rfl)
theorem cd_17_22 : mt_cd 17 22 = some (.new 78) := mt_cd_of (q := (22, .new 78, 3)) mq_17 ci_17 (List.mem_of_getElem? (i := 10) rfl)
theorem cd_17_25 : mt_cd 17 25 = some (.dup) := mt_cd_of (q := (25, .dup, 1)) mq_17 ci_17 (List.mem_of_getElem? (i := 11) rfl)
theorem cd_17_26 : mt_cd 17 26 = some (.ldc 89) := mt_cd_of (q := (26, .ldc 89, 2)) mq_17 ci_17 (List.mem_of_getElem? (i := 12) rfl)
theorem cd_17_28 : mt_cd 17 28 = some (.invokespecial 82) := mt_cd_of (q := (28, .invokespecial 82, 3)) mq_17 ci_17 (List.mem_of_getElem? (i := 13) rfl)
theorem cd_17_31 : mt_cd 17 31 = some (.athrow) := mt_cd_of (q := (31, .athrow, 1)) mq_17 ci_17 (List.mem_of_getElem? (i := 14) rfl)
theorem cd_17_32 : mt_cd 17 32 = some (.aload_n 0) := mt_cd_of (q := (32, .aload_n 0, 1)) mq_17 ci_17 (List.mem_of_getElem? (i := 15) rfl)
theorem cd_17_33 : mt_cd 17 33 = some (.getfield 12) := mt_cd_of (q := (33, .getfield 12, 3)) mq_17 ci_17 (List.mem_of_getElem? (i := 16) rfl)
theorem cd_17_36 : mt_cd 17 36 = some (.iconst 0) := mt_cd_of (q := (36, .iconst 0, 1)) mq_17 ci_17 (List.mem_of_getElem? (i := 17) rfl)
theorem cd_17_37 : mt_cd 17 37 = some (.putfield 74) := mt_cd_of (q := (37, .putfield 74, 3)) mq_17 ci_17 (List.mem_of_getElem? (i := 18) rfl)
theorem cd_17_40 : mt_cd 17 40 = some (.aload_n 0) := mt_cd_of (q := (40, .aload_n 0, 1)) mq_17 ci_17 (List.mem_of_getElem? (i := 19) rfl)
theorem cd_17_41 : mt_cd 17 41 = some (.getfield 42) := mt_cd_of (q := (41, .getfield 42, 3)) mq_17 ci_17 (List.mem_of_getElem? (i := 20) rfl)
theorem cd_17_44 : mt_cd 17 44 = some (.iconst 0) := mt_cd_of (q := (44, .iconst 0, 1)) mq_17 ci_17 (List.mem_of_getElem? (i := 21) rfl)
theorem cd_17_45 : mt_cd 17 45 = some (.putfield 91) := mt_cd_of (q := (45, .putfield 91, 3)) mq_17 ci_17 (List.mem_of_getElem? (i := 22) rfl)
theorem cd_17_48 : mt_cd 17 48 = some (.aload_n 0) := mt_cd_of (q := (48, .aload_n 0, 1)) mq_17 ci_17 (List.mem_of_getElem? (i := 23) rfl)
theorem cd_17_49 : mt_cd 17 49 = some (.iconst 0) := mt_cd_of (q := (49, .iconst 0, 1)) mq_17 ci_17 (List.mem_of_getElem? (i := 24) rfl)
theorem cd_17_50 : mt_cd 17 50 = some (.putfield 94) := mt_cd_of (q := (50, .putfield 94, 3)) mq_17 ci_17 (List.mem_of_getElem? (i := 25) rfl)
theorem cd_17_53 : mt_cd 17 53 = some (.aload_n 0) := mt_cd_of (q := (53, .aload_n 0, 1)) mq_17 ci_17 (List.mem_of_getElem? (i := 26) rfl)
theorem cd_17_54 : mt_cd 17 54 = some (.getfield 28) := mt_cd_of (q := (54, .getfield 28, 3)) mq_17 ci_17 (List.mem_of_getElem? (i := 27) rfl)
theorem cd_17_57 : mt_cd 17 57 = some (.iload_n 1) := mt_cd_of (q := (57, .iload_n 1, 1)) mq_17 ci_17 (List.mem_of_getElem? (i := 28) rfl)
theorem cd_17_58 : mt_cd 17 58 = some (.invokevirtual 98) := mt_cd_of (q := (58, .invokevirtual 98, 3)) mq_17 ci_17 (List.mem_of_getElem? (i := 29) rfl)
theorem cd_17_61 : mt_cd 17 61 = some (.aload_n 0) := mt_cd_of (q := (61, .aload_n 0, 1)) mq_17 ci_17 (List.mem_of_getElem? (i := 30) rfl)
theorem cd_17_62 : mt_cd 17 62 = some (.getfield 28) := mt_cd_of (q := (62, .getfield 28, 3)) mq_17 ci_17 (List.mem_of_getElem? (i := 31) rfl)
theorem cd_17_65 : mt_cd 17 65 = some (.iconst 1) := mt_cd_of (q := (65, .iconst 1, 1)) mq_17 ci_17 (List.mem_of_getElem? (i := 32) rfl)
theorem cd_17_66 : mt_cd 17 66 = some (.invokevirtual 101) := mt_cd_of (q := (66, .invokevirtual 101, 3)) mq_17 ci_17 (List.mem_of_getElem? (i := 33) rfl)
theorem cd_17_69 : mt_cd 17 69 = some (.pop) := mt_cd_of (q := (69, .pop, 1)) mq_17 ci_17 (List.mem_of_getElem? (i := 34) rfl)
theorem cd_17_70 : mt_cd 17 70 = some (.aload_n 0) := mt_cd_of (q := (70, .aload_n 0, 1)) mq_17 ci_17 (List.mem_of_getElem? (i := 35) rfl)
theorem cd_17_71 : mt_cd 17 71 = some (.getfield 28) := mt_cd_of (q := (71, .getfield 28, 3)) mq_17 ci_17 (List.mem_of_getElem? (i := 36) rfl)
theorem cd_17_74 : mt_cd 17 74 = some (.invokevirtual 105) := mt_cd_of (q := (74, .invokevirtual 105, 3)) mq_17 ci_17 (List.mem_of_getElem? (i := 37) rfl)
theorem cd_17_77 : mt_cd 17 77 = some (.aload_n 0) := mt_cd_of (q := (77, .aload_n 0, 1)) mq_17 ci_17 (List.mem_of_getElem? (i := 38) rfl)
theorem cd_17_78 : mt_cd 17 78 = some (.iconst 1) := mt_cd_of (q := (78, .iconst 1, 1)) mq_17 ci_17 (List.mem_of_getElem? (i := 39) rfl)
theorem cd_17_79 : mt_cd 17 79 = some (.putfield 94) := mt_cd_of (q := (79, .putfield 94, 3)) mq_17 ci_17 (List.mem_of_getElem? (i := 40) rfl)
theorem cd_17_82 : mt_cd 17 82 = some (.aload_n 0) := mt_cd_of (q := (82, .aload_n 0, 1)) mq_17 ci_17 (List.mem_of_getElem? (i := 41) rfl)
theorem cd_17_83 : mt_cd 17 83 = some (.getfield 67) := mt_cd_of (q := (83, .getfield 67, 3)) mq_17 ci_17 (List.mem_of_getElem? (i := 42) rfl)
theorem cd_17_86 : mt_cd 17 86 = some (.invokevirtual 108) := mt_cd_of (q := (86, .invokevirtual 108, 3)) mq_17 ci_17 (List.mem_of_getElem? (i := 43) rfl)
theorem cd_17_89 : mt_cd 17 89 = some (.aload_n 0) := mt_cd_of (q := (89, .aload_n 0, 1)) mq_17 ci_17 (List.mem_of_getElem? (i := 44) rfl)
theorem cd_17_90 : mt_cd 17 90 = some (.getfield 19) := mt_cd_of (q := (90, .getfield 19, 3)) mq_17 ci_17 (List.mem_of_getElem? (i := 45) rfl)
theorem cd_17_93 : mt_cd 17 93 = some (.getfield 110) := mt_cd_of (q := (93, .getfield 110, 3)) mq_17 ci_17 (List.mem_of_getElem? (i := 46) rfl)
theorem cd_17_96 : mt_cd 17 96 = some (.ireturn) := mt_cd_of (q := (96, .ireturn, 1)) mq_17 ci_17 (List.mem_of_getElem? (i := 47) rfl)
theorem b_17_0 {d : Nat} {Q : (Option Value ⊕ Nat) → mi_H → Prop} (n sl : Nat) (f : Nat → mi_C) {l1 : Nat} {l2 : Int32} (h3 : l2 < (0 : Int32) → mi_W d 17 22 [some (.ref l1), some (.int l2)] [] (n, sl, f) Q) (h4 : ¬ (l2 < (0 : Int32)) → mi_W d 17 4 [some (.ref l1), some (.int l2)] [] (n, sl, f) Q) : mi_W d 17 0 [some (.ref l1), some (.int l2)] [] (n, sl, f) Q := by
  refine w_iload_n cd_17_0 rfl ?_
  exact w_iflt cd_17_1 (by decide) h3 h4
theorem b_17_4 {d : Nat} {Q : (Option Value ⊕ Nat) → mi_H → Prop} (n sl : Nat) (f : Nat → mi_C) {l1 : Nat} {l2 : Int32} (h3 : 8192 < l2 → mi_W d 17 22 [some (.ref l1), some (.int l2)] [] (n, sl, f) Q) (h4 : ¬ (8192 < l2) → mi_W d 17 11 [some (.ref l1), some (.int l2)] [] (n, sl, f) Q) : mi_W d 17 4 [some (.ref l1), some (.int l2)] [] (n, sl, f) Q := by
  refine w_iload_n cd_17_4 rfl ?_
  refine w_sipush (v := 8192) cd_17_5 (by decide) ?_
  exact w_if_icmpgt cd_17_8 (by decide) h3 h4
theorem b_17_11 {d : Nat} {Q : (Option Value ⊕ Nat) → mi_H → Prop} (n sl : Nat) (f : Nat → mi_C) {l1 : Nat} {l2 : Int32} {fs3 : List Value} {x6 : Nat} {fs8 : List Value} {x11 : Int32} (h4 : f l1 = .inr (0, fs3)) (h5 : l1 < n) (h7 : fs3[0]? = some (.ref x6)) (h9 : f x6 = .inr (1, fs8)) (h10 : x6 < n) (h12 : fs8[1]? = some (.int x11)) (h13 : l2 ≤ x11 → mi_W d 17 32 [some (.ref l1), some (.int l2)] [] (n, sl, f) Q) (h14 : ¬ (l2 ≤ x11) → mi_W d 17 22 [some (.ref l1), some (.int l2)] [] (n, sl, f) Q) : mi_W d 17 11 [some (.ref l1), some (.int l2)] [] (n, sl, f) Q := by
  refine w_iload_n cd_17_11 rfl ?_
  refine w_aload_n cd_17_12 rfl ?_
  refine w_getfield cd_17_13 (show mt_f 0 12 = some (0, 0) by decide +kernel) h4 h5 h7 ?_
  refine w_getfield cd_17_16 (show mt_f 0 74 = some (1, 1) by decide +kernel) h9 h10 h12 ?_
  exact w_if_icmple cd_17_19 (by decide) h13 h14
theorem b_17_22 {d : Nat} {Q : (Option Value ⊕ Nat) → mi_H → Prop} (n sl : Nat) (f : Nat → mi_C) {l1 : Nat} {l2 : Int32} {h' : mi_H} (h3 : mi_t 17 22 (.new 78) [] (n, sl, f) = some h') (h4 : Q (.inr n) h') : mi_W d 17 22 [some (.ref l1), some (.int l2)] [] (n, sl, f) Q := by
  exact w_throw cd_17_22 (show mt_c 0 78 = some 14 by decide +kernel) (by decide) h3 h4
theorem b_17_32 {d : Nat} {Q : (Option Value ⊕ Nat) → mi_H → Prop} (n sl : Nat) (f : Nat → mi_C) {l1 : Nat} {l2 : Int32} {fs3 : List Value} {x6 : Nat} {fs8 : List Value} {fs12 : List Value} {x15 : Nat} {fs17 : List Value} {fs21 : List Value} {fs26 : List Value} {x29 : Nat} {fs31 : List Value} (h4 : f l1 = .inr (0, fs3)) (h5 : l1 < n) (h7 : fs3[0]? = some (.ref x6)) (h9 : f x6 = .inr (1, fs8)) (h10 : x6 < n) (h11 : 1 < fs8.length) (h13 : (va_up f x6 (.inr (1, fs8.set 1 (.int 0)))) l1 = .inr (0, fs12)) (h14 : l1 < n) (h16 : fs12[4]? = some (.ref x15)) (h18 : (va_up f x6 (.inr (1, fs8.set 1 (.int 0)))) x15 = .inr (6, fs17)) (h19 : x15 < n) (h20 : 5 < fs17.length) (h22 : (va_up (va_up f x6 (.inr (1, fs8.set 1 (.int 0)))) x15 (.inr (6, fs17.set 5 (.int 0)))) l1 = .inr (0, fs21)) (h23 : l1 < n) (h24 : 9 < fs21.length) (h25 : mi_fk .boolean (.int 0) = true) (h27 : (va_up (va_up (va_up f x6 (.inr (1, fs8.set 1 (.int 0)))) x15 (.inr (6, fs17.set 5 (.int 0)))) l1 (.inr (0, fs21.set 9 (.int 0)))) l1 = .inr (0, fs26)) (h28 : l1 < n) (h30 : fs26[2]? = some (.ref x29)) (h32 : (va_up (va_up (va_up f x6 (.inr (1, fs8.set 1 (.int 0)))) x15 (.inr (6, fs17.set 5 (.int 0)))) l1 (.inr (0, fs21.set 9 (.int 0)))) x29 = .inr (3, fs31)) (h33 : x29 < n) (h34 : mi_W d 18 0 (mi_en 3 [.ref x29, .int l2]) [] (n, sl, (va_up (va_up (va_up f x6 (.inr (1, fs8.set 1 (.int 0)))) x15 (.inr (6, fs17.set 5 (.int 0)))) l1 (.inr (0, fs21.set 9 (.int 0))))) (mi_Kc d 17 58 [some (.ref l1), some (.int l2)] [] Q)) : mi_W (d + 1) 17 32 [some (.ref l1), some (.int l2)] [] (n, sl, f) Q := by
  refine w_aload_n cd_17_32 rfl ?_
  refine w_getfield cd_17_33 (show mt_f 0 12 = some (0, 0) by decide +kernel) h4 h5 h7 ?_
  refine w_iconst (v := 0) cd_17_36 (by decide) ?_
  refine w_putfield (w := .int 0) cd_17_37 (show mt_f 0 74 = some (1, 1) by decide +kernel) h9 h10 ⟨h11, rfl, Or.inl (by decide)⟩ ?_
  refine w_aload_n cd_17_40 rfl ?_
  refine w_getfield cd_17_41 (show mt_f 0 42 = some (0, 4) by decide +kernel) h13 h14 h16 ?_
  refine w_iconst (v := 0) cd_17_44 (by decide) ?_
  refine w_putfield (w := .int 0) cd_17_45 (show mt_f 0 91 = some (6, 5) by decide +kernel) h18 h19 ⟨h20, rfl, Or.inl (by decide)⟩ ?_
  refine w_aload_n cd_17_48 rfl ?_
  refine w_iconst (v := 0) cd_17_49 (by decide) ?_
  refine w_putfield (w := .int 0) cd_17_50 (show mt_f 0 94 = some (0, 9) by decide +kernel) h22 h23 ⟨h24, h25, Or.inl (by decide)⟩ ?_
  refine w_aload_n cd_17_53 rfl ?_
  refine w_getfield cd_17_54 (show mt_f 0 28 = some (0, 2) by decide +kernel) h27 h28 h30 ?_
  refine w_iload_n cd_17_57 rfl ?_
  exact w_invokevirtual cd_17_58 (show mt_m 0 98 = some (18, 0) by decide +kernel) (rest := []) rfl (as := [.ref x29, .int l2]) rfl h32 (Or.inl h33) ⟨Nat.le_of_ble_eq_true rfl, Nat.le_of_ble_eq_true rfl, Nat.le_of_ble_eq_true rfl⟩ h34
theorem b_17_61 {d : Nat} {Q : (Option Value ⊕ Nat) → mi_H → Prop} (n sl : Nat) (f : Nat → mi_C) {l1 : Nat} {l2 : Int32} {fs3 : List Value} {x6 : Nat} {fs8 : List Value} (h4 : f l1 = .inr (0, fs3)) (h5 : l1 < n) (h7 : fs3[2]? = some (.ref x6)) (h9 : f x6 = .inr (3, fs8)) (h10 : x6 < n) (h11 : mi_W d 37 0 (mi_en 6 [.ref x6, .int 1]) [] (n, sl, f) (mi_Kc d 17 66 [some (.ref l1), some (.int l2)] [] Q)) : mi_W (d + 1) 17 61 [some (.ref l1), some (.int l2)] [] (n, sl, f) Q := by
  refine w_aload_n cd_17_61 rfl ?_
  refine w_getfield cd_17_62 (show mt_f 0 28 = some (0, 2) by decide +kernel) h4 h5 h7 ?_
  refine w_iconst (v := 1) cd_17_65 (by decide) ?_
  exact w_invokevirtual cd_17_66 (show mt_m 0 101 = some (37, 0) by decide +kernel) (rest := []) rfl (as := [.ref x6, .int 1]) rfl h9 (Or.inl h10) ⟨Nat.le_of_ble_eq_true rfl, Nat.le_of_ble_eq_true rfl, Nat.le_of_ble_eq_true rfl⟩ h11
theorem b_17_69 {d : Nat} {Q : (Option Value ⊕ Nat) → mi_H → Prop} (n sl : Nat) (f : Nat → mi_C) {l1 : Nat} {l2 : Int32} {s3 : Int32} {fs4 : List Value} {x7 : Nat} {fs9 : List Value} (h5 : f l1 = .inr (0, fs4)) (h6 : l1 < n) (h8 : fs4[2]? = some (.ref x7)) (h10 : f x7 = .inr (3, fs9)) (h11 : x7 < n) (h12 : mi_W d 55 0 (mi_en 1 [.ref x7]) [] (n, sl, f) (mi_Kc d 17 74 [some (.ref l1), some (.int l2)] [] Q)) : mi_W (d + 1) 17 69 [some (.ref l1), some (.int l2)] [.int s3] (n, sl, f) Q := by
  refine w_pop_i cd_17_69 ?_
  refine w_aload_n cd_17_70 rfl ?_
  refine w_getfield cd_17_71 (show mt_f 0 28 = some (0, 2) by decide +kernel) h5 h6 h8 ?_
  exact w_invokevirtual cd_17_74 (show mt_m 0 105 = some (55, 0) by decide +kernel) (rest := []) rfl (as := [.ref x7]) rfl h10 (Or.inl h11) ⟨Nat.le_of_ble_eq_true rfl, Nat.le_of_ble_eq_true rfl, Nat.le_of_ble_eq_true rfl⟩ h12
theorem b_17_77 {d : Nat} {Q : (Option Value ⊕ Nat) → mi_H → Prop} (n sl : Nat) (f : Nat → mi_C) {l1 : Nat} {l2 : Int32} {fs3 : List Value} {fs8 : List Value} {x11 : Nat} {fs13 : List Value} (h4 : f l1 = .inr (0, fs3)) (h5 : l1 < n) (h6 : 9 < fs3.length) (h7 : mi_fk .boolean (.int 1) = true) (h9 : (va_up f l1 (.inr (0, fs3.set 9 (.int 1)))) l1 = .inr (0, fs8)) (h10 : l1 < n) (h12 : fs8[7]? = some (.ref x11)) (h14 : (va_up f l1 (.inr (0, fs3.set 9 (.int 1)))) x11 = .inr (9, fs13)) (h15 : x11 < n) (h16 : mi_W d 56 0 (mi_en 1 [.ref x11]) [] (n, sl, (va_up f l1 (.inr (0, fs3.set 9 (.int 1))))) (mi_Kc d 17 86 [some (.ref l1), some (.int l2)] [] Q)) : mi_W (d + 1) 17 77 [some (.ref l1), some (.int l2)] [] (n, sl, f) Q := by
  refine w_aload_n cd_17_77 rfl ?_
  refine w_iconst (v := 1) cd_17_78 (by decide) ?_
  refine w_putfield (w := .int 1) cd_17_79 (show mt_f 0 94 = some (0, 9) by decide +kernel) h4 h5 ⟨h6, h7, Or.inl (by decide)⟩ ?_
  refine w_aload_n cd_17_82 rfl ?_
  refine w_getfield cd_17_83 (show mt_f 0 67 = some (0, 7) by decide +kernel) h9 h10 h12 ?_
  exact w_invokevirtual cd_17_86 (show mt_m 0 108 = some (56, 0) by decide +kernel) (rest := []) rfl (as := [.ref x11]) rfl h14 (Or.inl h15) ⟨Nat.le_of_ble_eq_true rfl, Nat.le_of_ble_eq_true rfl, Nat.le_of_ble_eq_true rfl⟩ h16
theorem b_17_89 {d : Nat} {Q : (Option Value ⊕ Nat) → mi_H → Prop} (n sl : Nat) (f : Nat → mi_C) {l1 : Nat} {l2 : Int32} {fs3 : List Value} {x6 : Nat} {fs8 : List Value} {x11 : Int32} (h4 : f l1 = .inr (0, fs3)) (h5 : l1 < n) (h7 : fs3[1]? = some (.ref x6)) (h9 : f x6 = .inr (2, fs8)) (h10 : x6 < n) (h12 : fs8[11]? = some (.int x11)) (h13 : Q (.inl (some (.int x11))) (n, sl, f)) : mi_W d 17 89 [some (.ref l1), some (.int l2)] [] (n, sl, f) Q := by
  refine w_aload_n cd_17_89 rfl ?_
  refine w_getfield cd_17_90 (show mt_f 0 19 = some (0, 1) by decide +kernel) h4 h5 h7 ?_
  refine w_getfield cd_17_93 (show mt_f 0 110 = some (2, 11) by decide +kernel) h9 h10 h12 ?_
  exact w_ireturn_i cd_17_96 (by decide +kernel) h13
/-! MarloweHost$Reader.begin(I)V -/
set_option maxRecDepth 100000 in
theorem mq_18 : mt_q 18 = my_18 := rfl
set_option maxRecDepth 100000 in
theorem ci_18 : mt_inc 0 my_18.cd = true := by decide +kernel
theorem cd_18_0 : mt_cd 18 0 = some (.aload_n 0) := mt_cd_of (q := (0, .aload_n 0, 1)) mq_18 ci_18 (List.mem_of_getElem? (i := 0) rfl)
theorem cd_18_1 : mt_cd 18 1 = some (.iconst (-1)) := mt_cd_of (q := (1, .iconst (-1), 1)) mq_18 ci_18 (List.mem_of_getElem? (i := 1) rfl)
theorem cd_18_2 : mt_cd 18 2 = some (.putfield 9) := mt_cd_of (q := (2, .putfield 9, 3)) mq_18 ci_18 (List.mem_of_getElem? (i := 2) rfl)
theorem cd_18_5 : mt_cd 18 5 = some (.aload_n 0) := mt_cd_of (q := (5, .aload_n 0, 1)) mq_18 ci_18 (List.mem_of_getElem? (i := 3) rfl)
theorem cd_18_6 : mt_cd 18 6 = some (.getfield 19) := mt_cd_of (q := (6, .getfield 19, 3)) mq_18 ci_18 (List.mem_of_getElem? (i := 4) rfl)
theorem cd_18_9 : mt_cd 18 9 = some (.invokevirtual 47) := mt_cd_of (q := (9, .invokevirtual 47, 3)) mq_18 ci_18 (List.mem_of_getElem? (i := 5) rfl)
theorem cd_18_12 : mt_cd 18 12 = some (.aload_n 0) := mt_cd_of (q := (12, .aload_n 0, 1)) mq_18 ci_18 (List.mem_of_getElem? (i := 6) rfl)
theorem cd_18_13 : mt_cd 18 13 = some (.getfield 34) := mt_cd_of (q := (13, .getfield 34, 3)) mq_18 ci_18 (List.mem_of_getElem? (i := 7) rfl)
theorem cd_18_16 : mt_cd 18 16 = some (.iconst 0) := mt_cd_of (q := (16, .iconst 0, 1)) mq_18 ci_18 (List.mem_of_getElem? (i := 8) rfl)
theorem cd_18_17 : mt_cd 18 17 = some (.putfield 52) := mt_cd_of (q := (17, .putfield 52, 3)) mq_18 ci_18 (List.mem_of_getElem? (i := 9) rfl)
theorem cd_18_20 : mt_cd 18 20 = some (.aload_n 0) := mt_cd_of (q := (20, .aload_n 0, 1)) mq_18 ci_18 (List.mem_of_getElem? (i := 10) rfl)
theorem cd_18_21 : mt_cd 18 21 = some (.getfield 38) := mt_cd_of (q := (21, .getfield 38, 3)) mq_18 ci_18 (List.mem_of_getElem? (i := 11) rfl)
theorem cd_18_24 : mt_cd 18 24 = some (.iconst 0) := mt_cd_of (q := (24, .iconst 0, 1)) mq_18 ci_18 (List.mem_of_getElem? (i := 12) rfl)
theorem cd_18_25 : mt_cd 18 25 = some (.putfield 52) := mt_cd_of (q := (25, .putfield 52, 3)) mq_18 ci_18 (List.mem_of_getElem? (i := 13) rfl)
theorem cd_18_28 : mt_cd 18 28 = some (.aload_n 0) := mt_cd_of (q := (28, .aload_n 0, 1)) mq_18 ci_18 (List.mem_of_getElem? (i := 14) rfl)
theorem cd_18_29 : mt_cd 18 29 = some (.getfield 41) := mt_cd_of (q := (29, .getfield 41, 3)) mq_18 ci_18 (List.mem_of_getElem? (i := 15) rfl)
theorem cd_18_32 : mt_cd 18 32 = some (.iconst 0) := mt_cd_of (q := (32, .iconst 0, 1)) mq_18 ci_18 (List.mem_of_getElem? (i := 16) rfl)
theorem cd_18_33 : mt_cd 18 33 = some (.putfield 52) := mt_cd_of (q := (33, .putfield 52, 3)) mq_18 ci_18 (List.mem_of_getElem? (i := 17) rfl)
theorem cd_18_36 : mt_cd 18 36 = some (.aload_n 0) := mt_cd_of (q := (36, .aload_n 0, 1)) mq_18 ci_18 (List.mem_of_getElem? (i := 18) rfl)
theorem cd_18_37 : mt_cd 18 37 = some (.getfield 44) := mt_cd_of (q := (37, .getfield 44, 3)) mq_18 ci_18 (List.mem_of_getElem? (i := 19) rfl)
theorem cd_18_40 : mt_cd 18 40 = some (.iconst 0) := mt_cd_of (q := (40, .iconst 0, 1)) mq_18 ci_18 (List.mem_of_getElem? (i := 20) rfl)
theorem cd_18_41 : mt_cd 18 41 = some (.putfield 52) := mt_cd_of (q := (41, .putfield 52, 3)) mq_18 ci_18 (List.mem_of_getElem? (i := 21) rfl)
theorem cd_18_44 : mt_cd 18 44 = some (.aload_n 0) := mt_cd_of (q := (44, .aload_n 0, 1)) mq_18 ci_18 (List.mem_of_getElem? (i := 22) rfl)
theorem cd_18_45 : mt_cd 18 45 = some (.getfield 15) := mt_cd_of (q := (45, .getfield 15, 3)) mq_18 ci_18 (List.mem_of_getElem? (i := 23) rfl)
theorem cd_18_48 : mt_cd 18 48 = some (.iload_n 1) := mt_cd_of (q := (48, .iload_n 1, 1)) mq_18 ci_18 (List.mem_of_getElem? (i := 24) rfl)
theorem cd_18_49 : mt_cd 18 49 = some (.invokevirtual 55) := mt_cd_of (q := (49, .invokevirtual 55, 3)) mq_18 ci_18 (List.mem_of_getElem? (i := 25) rfl)
theorem cd_18_52 : mt_cd 18 52 = some (.istore_n 2) := mt_cd_of (q := (52, .istore_n 2, 1)) mq_18 ci_18 (List.mem_of_getElem? (i := 26) rfl)
theorem cd_18_53 : mt_cd 18 53 = some (.aload_n 0) := mt_cd_of (q := (53, .aload_n 0, 1)) mq_18 ci_18 (List.mem_of_getElem? (i := 27) rfl)
theorem cd_18_54 : mt_cd 18 54 = some (.iload_n 2) := mt_cd_of (q := (54, .iload_n 2, 1)) mq_18 ci_18 (List.mem_of_getElem? (i := 28) rfl)
theorem cd_18_55 : mt_cd 18 55 = some (.iload_n 2) := mt_cd_of (q := (55, .iload_n 2, 1)) mq_18 ci_18 (List.mem_of_getElem? (i := 29) rfl)
theorem cd_18_56 : mt_cd 18 56 = some (.iconst (-1)) := mt_cd_of (q := (56, .iconst (-1), 1)) mq_18 ci_18 (List.mem_of_getElem? (i := 30) rfl)
theorem cd_18_57 : mt_cd 18 57 = some (.if_icmp .ne 7) := mt_cd_of (q := (57, .if_icmp .ne 7, 3)) mq_18 ci_18 (List.mem_of_getElem? (i := 31) rfl)
theorem cd_18_60 : mt_cd 18 60 = some (.iconst 1) := mt_cd_of (q := (60, .iconst 1, 1)) mq_18 ci_18 (List.mem_of_getElem? (i := 32) rfl)
theorem cd_18_61 : mt_cd 18 61 = some (.goto 4) := mt_cd_of (q := (61, .goto 4, 3)) mq_18 ci_18 (List.mem_of_getElem? (i := 33) rfl)
theorem cd_18_64 : mt_cd 18 64 = some (.iconst 0) := mt_cd_of (q := (64, .iconst 0, 1)) mq_18 ci_18 (List.mem_of_getElem? (i := 34) rfl)
theorem cd_18_65 : mt_cd 18 65 = some (.invokevirtual 59) := mt_cd_of (q := (65, .invokevirtual 59, 3)) mq_18 ci_18 (List.mem_of_getElem? (i := 35) rfl)
theorem cd_18_68 : mt_cd 18 68 = some (.aload_n 0) := mt_cd_of (q := (68, .aload_n 0, 1)) mq_18 ci_18 (List.mem_of_getElem? (i := 36) rfl)
theorem cd_18_69 : mt_cd 18 69 = some (.getfield 15) := mt_cd_of (q := (69, .getfield 15, 3)) mq_18 ci_18 (List.mem_of_getElem? (i := 37) rfl)
theorem cd_18_72 : mt_cd 18 72 = some (.iload_n 1) := mt_cd_of (q := (72, .iload_n 1, 1)) mq_18 ci_18 (List.mem_of_getElem? (i := 38) rfl)
theorem cd_18_73 : mt_cd 18 73 = some (.invokevirtual 63) := mt_cd_of (q := (73, .invokevirtual 63, 3)) mq_18 ci_18 (List.mem_of_getElem? (i := 39) rfl)
theorem cd_18_76 : mt_cd 18 76 = some (.return_) := mt_cd_of (q := (76, .return_, 1)) mq_18 ci_18 (List.mem_of_getElem? (i := 40) rfl)
theorem b_18_0 {d : Nat} {Q : (Option Value ⊕ Nat) → mi_H → Prop} (n sl : Nat) (f : Nat → mi_C) {l1 : Nat} {l2 : Int32} {o3 : Option Value} {fs4 : List Value} {fs8 : List Value} {x11 : Nat} {fs13 : List Value} (h5 : f l1 = .inr (3, fs4)) (h6 : l1 < n) (h7 : 6 < fs4.length) (h9 : (va_up f l1 (.inr (3, fs4.set 6 (.int (-1))))) l1 = .inr (3, fs8)) (h10 : l1 < n) (h12 : fs8[1]? = some (.ref x11)) (h14 : (va_up f l1 (.inr (3, fs4.set 6 (.int (-1))))) x11 = .inr (2, fs13)) (h15 : x11 < n) (h16 : mi_W d 19 0 (mi_en 1 [.ref x11]) [] (n, sl, (va_up f l1 (.inr (3, fs4.set 6 (.int (-1)))))) (mi_Kc d 18 9 [some (.ref l1), some (.int l2), o3] [] Q)) : mi_W (d + 1) 18 0 [some (.ref l1), some (.int l2), o3] [] (n, sl, f) Q := by
  refine w_aload_n cd_18_0 rfl ?_
  refine w_iconst (v := (-1)) cd_18_1 (by decide) ?_
  refine w_putfield (w := .int (-1)) cd_18_2 (show mt_f 3 9 = some (3, 6) by decide +kernel) h5 h6 ⟨h7, rfl, Or.inl (by decide)⟩ ?_
  refine w_aload_n cd_18_5 rfl ?_
  refine w_getfield cd_18_6 (show mt_f 3 19 = some (3, 1) by decide +kernel) h9 h10 h12 ?_
  exact w_invokevirtual cd_18_9 (show mt_m 3 47 = some (19, 0) by decide +kernel) (rest := []) rfl (as := [.ref x11]) rfl h14 (Or.inl h15) ⟨Nat.le_of_ble_eq_true rfl, Nat.le_of_ble_eq_true rfl, Nat.le_of_ble_eq_true rfl⟩ h16
theorem b_18_12 {d : Nat} {Q : (Option Value ⊕ Nat) → mi_H → Prop} (n sl : Nat) (f : Nat → mi_C) {l1 : Nat} {l2 : Int32} {o3 : Option Value} {fs4 : List Value} {x7 : Nat} {fs9 : List Value} {fs13 : List Value} {x16 : Nat} {fs18 : List Value} {fs22 : List Value} {x25 : Nat} {fs27 : List Value} {fs31 : List Value} {x34 : Nat} {fs36 : List Value} {fs40 : List Value} {x43 : Nat} {fs45 : List Value} (h5 : f l1 = .inr (3, fs4)) (h6 : l1 < n) (h8 : fs4[2]? = some (.ref x7)) (h10 : f x7 = .inr (4, fs9)) (h11 : x7 < n) (h12 : 4 < fs9.length) (h14 : (va_up f x7 (.inr (4, fs9.set 4 (.int 0)))) l1 = .inr (3, fs13)) (h15 : l1 < n) (h17 : fs13[3]? = some (.ref x16)) (h19 : (va_up f x7 (.inr (4, fs9.set 4 (.int 0)))) x16 = .inr (4, fs18)) (h20 : x16 < n) (h21 : 4 < fs18.length) (h23 : (va_up (va_up f x7 (.inr (4, fs9.set 4 (.int 0)))) x16 (.inr (4, fs18.set 4 (.int 0)))) l1 = .inr (3, fs22)) (h24 : l1 < n) (h26 : fs22[4]? = some (.ref x25)) (h28 : (va_up (va_up f x7 (.inr (4, fs9.set 4 (.int 0)))) x16 (.inr (4, fs18.set 4 (.int 0)))) x25 = .inr (4, fs27)) (h29 : x25 < n) (h30 : 4 < fs27.length) (h32 : (va_up (va_up (va_up f x7 (.inr (4, fs9.set 4 (.int 0)))) x16 (.inr (4, fs18.set 4 (.int 0)))) x25 (.inr (4, fs27.set 4 (.int 0)))) l1 = .inr (3, fs31)) (h33 : l1 < n) (h35 : fs31[5]? = some (.ref x34)) (h37 : (va_up (va_up (va_up f x7 (.inr (4, fs9.set 4 (.int 0)))) x16 (.inr (4, fs18.set 4 (.int 0)))) x25 (.inr (4, fs27.set 4 (.int 0)))) x34 = .inr (4, fs36)) (h38 : x34 < n) (h39 : 4 < fs36.length) (h41 : (va_up (va_up (va_up (va_up f x7 (.inr (4, fs9.set 4 (.int 0)))) x16 (.inr (4, fs18.set 4 (.int 0)))) x25 (.inr (4, fs27.set 4 (.int 0)))) x34 (.inr (4, fs36.set 4 (.int 0)))) l1 = .inr (3, fs40)) (h42 : l1 < n) (h44 : fs40[0]? = some (.ref x43)) (h46 : (va_up (va_up (va_up (va_up f x7 (.inr (4, fs9.set 4 (.int 0)))) x16 (.inr (4, fs18.set 4 (.int 0)))) x25 (.inr (4, fs27.set 4 (.int 0)))) x34 (.inr (4, fs36.set 4 (.int 0)))) x43 = .inr (1, fs45)) (h47 : x43 < n) (h48 : mi_W d 20 0 (mi_en 3 [.ref x43, .int l2]) [] (n, sl, (va_up (va_up (va_up (va_up f x7 (.inr (4, fs9.set 4 (.int 0)))) x16 (.inr (4, fs18.set 4 (.int 0)))) x25 (.inr (4, fs27.set 4 (.int 0)))) x34 (.inr (4, fs36.set 4 (.int 0))))) (mi_Kc d 18 49 [some (.ref l1), some (.int l2), o3] [] Q)) : mi_W (d + 1) 18 12 [some (.ref l1), some (.int l2), o3] [] (n, sl, f) Q := by
  refine w_aload_n cd_18_12 rfl ?_
  refine w_getfield cd_18_13 (show mt_f 3 34 = some (3, 2) by decide +kernel) h5 h6 h8 ?_
  refine w_iconst (v := 0) cd_18_16 (by decide) ?_
  refine w_putfield (w := .int 0) cd_18_17 (show mt_f 3 52 = some (4, 4) by decide +kernel) h10 h11 ⟨h12, rfl, Or.inl (by decide)⟩ ?_
  refine w_aload_n cd_18_20 rfl ?_
  refine w_getfield cd_18_21 (show mt_f 3 38 = some (3, 3) by decide +kernel) h14 h15 h17 ?_
  refine w_iconst (v := 0) cd_18_24 (by decide) ?_
  refine w_putfield (w := .int 0) cd_18_25 (show mt_f 3 52 = some (4, 4) by decide +kernel) h19 h20 ⟨h21, rfl, Or.inl (by decide)⟩ ?_
  refine w_aload_n cd_18_28 rfl ?_
  refine w_getfield cd_18_29 (show mt_f 3 41 = some (3, 4) by decide +kernel) h23 h24 h26 ?_
  refine w_iconst (v := 0) cd_18_32 (by decide) ?_
  refine w_putfield (w := .int 0) cd_18_33 (show mt_f 3 52 = some (4, 4) by decide +kernel) h28 h29 ⟨h30, rfl, Or.inl (by decide)⟩ ?_
  refine w_aload_n cd_18_36 rfl ?_
  refine w_getfield cd_18_37 (show mt_f 3 44 = some (3, 5) by decide +kernel) h32 h33 h35 ?_
  refine w_iconst (v := 0) cd_18_40 (by decide) ?_
  refine w_putfield (w := .int 0) cd_18_41 (show mt_f 3 52 = some (4, 4) by decide +kernel) h37 h38 ⟨h39, rfl, Or.inl (by decide)⟩ ?_
  refine w_aload_n cd_18_44 rfl ?_
  refine w_getfield cd_18_45 (show mt_f 3 15 = some (3, 0) by decide +kernel) h41 h42 h44 ?_
  refine w_iload_n cd_18_48 rfl ?_
  exact w_invokevirtual cd_18_49 (show mt_m 3 55 = some (20, 0) by decide +kernel) (rest := []) rfl (as := [.ref x43, .int l2]) rfl h46 (Or.inl h47) ⟨Nat.le_of_ble_eq_true rfl, Nat.le_of_ble_eq_true rfl, Nat.le_of_ble_eq_true rfl⟩ h48
theorem b_18_52 {d : Nat} {Q : (Option Value ⊕ Nat) → mi_H → Prop} (n sl : Nat) (f : Nat → mi_C) {l1 : Nat} {l2 : Int32} {o3 : Option Value} {s4 : Int32} (h5 : ¬ s4 = ((-1)) → mi_W d 18 64 [some (.ref l1), some (.int l2), some (.int s4)] [.int s4, .ref l1] (n, sl, f) Q) (h6 : ¬ (¬ s4 = ((-1))) → mi_W d 18 60 [some (.ref l1), some (.int l2), some (.int s4)] [.int s4, .ref l1] (n, sl, f) Q) : mi_W d 18 52 [some (.ref l1), some (.int l2), o3] [.int s4] (n, sl, f) Q := by
  refine w_istore_n (ls' := [some (.ref l1), some (.int l2), some (.int s4)]) cd_18_52 (Nat.le_of_ble_eq_true rfl) rfl ?_
  refine w_aload_n cd_18_53 rfl ?_
  refine w_iload_n cd_18_54 rfl ?_
  refine w_iload_n cd_18_55 rfl ?_
  refine w_iconst (v := (-1)) cd_18_56 (by decide) ?_
  exact w_if_icmpne cd_18_57 (by decide) h5 h6
theorem b_18_60 {d : Nat} {Q : (Option Value ⊕ Nat) → mi_H → Prop} (n sl : Nat) (f : Nat → mi_C) {l1 : Nat} {l2 : Int32} {l3 : Int32} {s4 : Int32} {s5 : Nat} (h6 : mi_W d 18 65 [some (.ref l1), some (.int l2), some (.int l3)] [.int 1, .int s4, .ref s5] (n, sl, f) Q) : mi_W d 18 60 [some (.ref l1), some (.int l2), some (.int l3)] [.int s4, .ref s5] (n, sl, f) Q := by
  refine w_iconst (v := 1) cd_18_60 (by decide) ?_
  exact w_goto cd_18_61 (by decide) h6
theorem b_18_64 {d : Nat} {Q : (Option Value ⊕ Nat) → mi_H → Prop} (n sl : Nat) (f : Nat → mi_C) {l1 : Nat} {l2 : Int32} {l3 : Int32} {s4 : Int32} {s5 : Nat} (h6 : mi_W d 18 65 [some (.ref l1), some (.int l2), some (.int l3)] [.int 0, .int s4, .ref s5] (n, sl, f) Q) : mi_W d 18 64 [some (.ref l1), some (.int l2), some (.int l3)] [.int s4, .ref s5] (n, sl, f) Q := by
  refine w_iconst (v := 0) cd_18_64 (by decide) ?_
  exact h6
theorem b_18_65 {d : Nat} {Q : (Option Value ⊕ Nat) → mi_H → Prop} (n sl : Nat) (f : Nat → mi_C) {l1 : Nat} {l2 : Int32} {l3 : Int32} {s4 : Int32} {s5 : Int32} {s6 : Nat} {fs7 : List Value} (h8 : f s6 = .inr (3, fs7)) (h9 : s6 < n) (h10 : mi_W d 21 0 (mi_en 3 [.ref s6, .int s5, .int s4]) [] (n, sl, f) (mi_Kc d 18 65 [some (.ref l1), some (.int l2), some (.int l3)] [] Q)) : mi_W (d + 1) 18 65 [some (.ref l1), some (.int l2), some (.int l3)] [.int s4, .int s5, .ref s6] (n, sl, f) Q := by
  exact w_invokevirtual cd_18_65 (show mt_m 3 59 = some (21, 0) by decide +kernel) (rest := []) rfl (as := [.ref s6, .int s5, .int s4]) rfl h8 (Or.inl h9) ⟨Nat.le_of_ble_eq_true rfl, Nat.le_of_ble_eq_true rfl, Nat.le_of_ble_eq_true rfl⟩ h10
theorem b_18_68 {d : Nat} {Q : (Option Value ⊕ Nat) → mi_H → Prop} (n sl : Nat) (f : Nat → mi_C) {l1 : Nat} {l2 : Int32} {l3 : Int32} {fs4 : List Value} {x7 : Nat} {fs9 : List Value} (h5 : f l1 = .inr (3, fs4)) (h6 : l1 < n) (h8 : fs4[0]? = some (.ref x7)) (h10 : f x7 = .inr (1, fs9)) (h11 : x7 < n) (h12 : mi_W d 22 0 (mi_en 2 [.ref x7, .int l2]) [] (n, sl, f) (mi_Kc d 18 73 [some (.ref l1), some (.int l2), some (.int l3)] [] Q)) : mi_W (d + 1) 18 68 [some (.ref l1), some (.int l2), some (.int l3)] [] (n, sl, f) Q := by
  refine w_aload_n cd_18_68 rfl ?_
  refine w_getfield cd_18_69 (show mt_f 3 15 = some (3, 0) by decide +kernel) h5 h6 h8 ?_
  refine w_iload_n cd_18_72 rfl ?_
  exact w_invokevirtual cd_18_73 (show mt_m 3 63 = some (22, 0) by decide +kernel) (rest := []) rfl (as := [.ref x7, .int l2]) rfl h10 (Or.inl h11) ⟨Nat.le_of_ble_eq_true rfl, Nat.le_of_ble_eq_true rfl, Nat.le_of_ble_eq_true rfl⟩ h12
theorem b_18_76 {d : Nat} {Q : (Option Value ⊕ Nat) → mi_H → Prop} (n sl : Nat) (f : Nat → mi_C) {l1 : Nat} {l2 : Int32} {l3 : Int32} (h4 : Q (.inl none) (n, sl, f)) : mi_W d 18 76 [some (.ref l1), some (.int l2), some (.int l3)] [] (n, sl, f) Q := by
  exact w_return cd_18_76 (by decide +kernel) h4
/-! MarloweHost$Tree.clear()V -/
set_option maxRecDepth 100000 in
theorem mq_19 : mt_q 19 = my_19 := rfl
set_option maxRecDepth 100000 in
theorem ci_19 : mt_inc 0 my_19.cd = true := by decide +kernel
theorem cd_19_0 : mt_cd 19 0 = some (.aload_n 0) := mt_cd_of (q := (0, .aload_n 0, 1)) mq_19 ci_19 (List.mem_of_getElem? (i := 0) rfl)
theorem cd_19_1 : mt_cd 19 1 = some (.iconst 0) := mt_cd_of (q := (1, .iconst 0, 1)) mq_19 ci_19 (List.mem_of_getElem? (i := 1) rfl)
theorem cd_19_2 : mt_cd 19 2 = some (.putfield 47) := mt_cd_of (q := (2, .putfield 47, 3)) mq_19 ci_19 (List.mem_of_getElem? (i := 2) rfl)
theorem cd_19_5 : mt_cd 19 5 = some (.aload_n 0) := mt_cd_of (q := (5, .aload_n 0, 1)) mq_19 ci_19 (List.mem_of_getElem? (i := 3) rfl)
theorem cd_19_6 : mt_cd 19 6 = some (.iconst 0) := mt_cd_of (q := (6, .iconst 0, 1)) mq_19 ci_19 (List.mem_of_getElem? (i := 4) rfl)
theorem cd_19_7 : mt_cd 19 7 = some (.putfield 51) := mt_cd_of (q := (7, .putfield 51, 3)) mq_19 ci_19 (List.mem_of_getElem? (i := 5) rfl)
theorem cd_19_10 : mt_cd 19 10 = some (.return_) := mt_cd_of (q := (10, .return_, 1)) mq_19 ci_19 (List.mem_of_getElem? (i := 6) rfl)
theorem b_19_0 {d : Nat} {Q : (Option Value ⊕ Nat) → mi_H → Prop} (n sl : Nat) (f : Nat → mi_C) {l1 : Nat} {fs2 : List Value} {fs6 : List Value} (h3 : f l1 = .inr (2, fs2)) (h4 : l1 < n) (h5 : 11 < fs2.length) (h7 : (va_up f l1 (.inr (2, fs2.set 11 (.int 0)))) l1 = .inr (2, fs6)) (h8 : l1 < n) (h9 : 12 < fs6.length) (h10 : Q (.inl none) (n, sl, (va_up (va_up f l1 (.inr (2, fs2.set 11 (.int 0)))) l1 (.inr (2, fs6.set 12 (.int 0)))))) : mi_W d 19 0 [some (.ref l1)] [] (n, sl, f) Q := by
  refine w_aload_n cd_19_0 rfl ?_
  refine w_iconst (v := 0) cd_19_1 (by decide) ?_
  refine w_putfield (w := .int 0) cd_19_2 (show mt_f 2 47 = some (2, 11) by decide +kernel) h3 h4 ⟨h5, rfl, Or.inl (by decide)⟩ ?_
  refine w_aload_n cd_19_5 rfl ?_
  refine w_iconst (v := 0) cd_19_6 (by decide) ?_
  refine w_putfield (w := .int 0) cd_19_7 (show mt_f 2 51 = some (2, 12) by decide +kernel) h7 h8 ⟨h9, rfl, Or.inl (by decide)⟩ ?_
  exact w_return cd_19_10 (by decide +kernel) h10
/-! MarloweHost$Scanner.forbidden(I)I -/
set_option maxRecDepth 100000 in
theorem mq_20 : mt_q 20 = my_20 := rfl
set_option maxRecDepth 100000 in
theorem ci_20 : mt_inc 0 my_20.cd = true := by decide +kernel
theorem cd_20_0 : mt_cd 20 0 = some (.iconst 0) := mt_cd_of (q := (0, .iconst 0, 1)) mq_20 ci_20 (List.mem_of_getElem? (i := 0) rfl)
theorem cd_20_1 : mt_cd 20 1 = some (.istore_n 2) := mt_cd_of (q := (1, .istore_n 2, 1)) mq_20 ci_20 (List.mem_of_getElem? (i := 1) rfl)
theorem cd_20_2 : mt_cd 20 2 = some (.iload_n 2) := mt_cd_of (q := (2, .iload_n 2, 1)) mq_20 ci_20 (List.mem_of_getElem? (i := 2) rfl)
theorem cd_20_3 : mt_cd 20 3 = some (.iload_n 1) := mt_cd_of (q := (3, .iload_n 1, 1)) mq_20 ci_20 (List.mem_of_getElem? (i := 3) rfl)
theorem cd_20_4 : mt_cd 20 4 = some (.if_icmp .ge 51) := mt_cd_of (q := (4, .if_icmp .ge 51, 3)) mq_20 ci_20 (List.mem_of_getElem? (i := 4) rfl)
theorem cd_20_7 : mt_cd 20 7 = some (.iload_n 2) := mt_cd_of (q := (7, .iload_n 2, 1)) mq_20 ci_20 (List.mem_of_getElem? (i := 5) rfl)
theorem cd_20_8 : mt_cd 20 8 = some (.sipush 8200) := mt_cd_of (q := (8, .sipush 8200, 3)) mq_20 ci_20 (List.mem_of_getElem? (i := 6) rfl)
theorem cd_20_11 : mt_cd 20 11 = some (.if_icmp .ge 44) := mt_cd_of (q := (11, .if_icmp .ge 44, 3)) mq_20 ci_20 (List.mem_of_getElem? (i := 7) rfl)
theorem cd_20_14 : mt_cd 20 14 = some (.aload_n 0) := mt_cd_of (q := (14, .aload_n 0, 1)) mq_20 ci_20 (List.mem_of_getElem? (i := 8) rfl)
theorem cd_20_15 : mt_cd 20 15 = some (.getfield 9) := mt_cd_of (q := (15, .getfield 9, 3)) mq_20 ci_20 (List.mem_of_getElem? (i := 9) rfl)
theorem cd_20_18 : mt_cd 20 18 = some (.iload_n 2) := mt_cd_of (q := (18, .iload_n 2, 1)) mq_20 ci_20 (List.mem_of_getElem? (i := 10) rfl)
theorem cd_20_19 : mt_cd 20 19 = some (.baload) := mt_cd_of (q := (19, .baload, 1)) mq_20 ci_20 (List.mem_of_getElem? (i := 11) rfl)
theorem cd_20_20 : mt_cd 20 20 = some (.bipush 10) := mt_cd_of (q := (20, .bipush 10, 2)) mq_20 ci_20 (List.mem_of_getElem? (i := 12) rfl)
theorem cd_20_22 : mt_cd 20 22 = some (.if_icmp .eq 27) := mt_cd_of (q := (22, .if_icmp .eq 27, 3)) mq_20 ci_20 (List.mem_of_getElem? (i := 13) rfl)
theorem cd_20_25 : mt_cd 20 25 = some (.aload_n 0) := mt_cd_of (q := (25, .aload_n 0, 1)) mq_20 ci_20 (List.mem_of_getElem? (i := 14) rfl)
theorem cd_20_26 : mt_cd 20 26 = some (.getfield 9) := mt_cd_of (q := (26, .getfield 9, 3)) mq_20 ci_20 (List.mem_of_getElem? (i := 15) rfl)
theorem cd_20_29 : mt_cd 20 29 = some (.iload_n 2) := mt_cd_of (q := (29, .iload_n 2, 1)) mq_20 ci_20 (List.mem_of_getElem? (i := 16) rfl)
theorem cd_20_30 : mt_cd 20 30 = some (.baload) := mt_cd_of (q := (30, .baload, 1)) mq_20 ci_20 (List.mem_of_getElem? (i := 17) rfl)
theorem cd_20_31 : mt_cd 20 31 = some (.bipush 32) := mt_cd_of (q := (31, .bipush 32, 2)) mq_20 ci_20 (List.mem_of_getElem? (i := 18) rfl)
theorem cd_20_33 : mt_cd 20 33 = some (.if_icmp .lt 14) := mt_cd_of (q := (33, .if_icmp .lt 14, 3)) mq_20 ci_20 (List.mem_of_getElem? (i := 19) rfl)
theorem cd_20_36 : mt_cd 20 36 = some (.aload_n 0) := mt_cd_of (q := (36, .aload_n 0, 1)) mq_20 ci_20 (List.mem_of_getElem? (i := 20) rfl)
theorem cd_20_37 : mt_cd 20 37 = some (.getfield 9) := mt_cd_of (q := (37, .getfield 9, 3)) mq_20 ci_20 (List.mem_of_getElem? (i := 21) rfl)
theorem cd_20_40 : mt_cd 20 40 = some (.iload_n 2) := mt_cd_of (q := (40, .iload_n 2, 1)) mq_20 ci_20 (List.mem_of_getElem? (i := 22) rfl)
theorem cd_20_41 : mt_cd 20 41 = some (.baload) := mt_cd_of (q := (41, .baload, 1)) mq_20 ci_20 (List.mem_of_getElem? (i := 23) rfl)
theorem cd_20_42 : mt_cd 20 42 = some (.bipush 126) := mt_cd_of (q := (42, .bipush 126, 2)) mq_20 ci_20 (List.mem_of_getElem? (i := 24) rfl)
theorem cd_20_44 : mt_cd 20 44 = some (.if_icmp .le 5) := mt_cd_of (q := (44, .if_icmp .le 5, 3)) mq_20 ci_20 (List.mem_of_getElem? (i := 25) rfl)
theorem cd_20_47 : mt_cd 20 47 = some (.iload_n 2) := mt_cd_of (q := (47, .iload_n 2, 1)) mq_20 ci_20 (List.mem_of_getElem? (i := 26) rfl)
theorem cd_20_48 : mt_cd 20 48 = some (.ireturn) := mt_cd_of (q := (48, .ireturn, 1)) mq_20 ci_20 (List.mem_of_getElem? (i := 27) rfl)
theorem cd_20_49 : mt_cd 20 49 = some (.iinc 2 1) := mt_cd_of (q := (49, .iinc 2 1, 3)) mq_20 ci_20 (List.mem_of_getElem? (i := 28) rfl)
theorem cd_20_52 : mt_cd 20 52 = some (.goto (-50)) := mt_cd_of (q := (52, .goto (-50), 3)) mq_20 ci_20 (List.mem_of_getElem? (i := 29) rfl)
theorem cd_20_55 : mt_cd 20 55 = some (.iconst (-1)) := mt_cd_of (q := (55, .iconst (-1), 1)) mq_20 ci_20 (List.mem_of_getElem? (i := 30) rfl)
theorem cd_20_56 : mt_cd 20 56 = some (.ireturn) := mt_cd_of (q := (56, .ireturn, 1)) mq_20 ci_20 (List.mem_of_getElem? (i := 31) rfl)
theorem b_20_0 {d : Nat} {Q : (Option Value ⊕ Nat) → mi_H → Prop} (n sl : Nat) (f : Nat → mi_C) {l1 : Nat} {l2 : Int32} {o3 : Option Value} (h4 : mi_W d 20 2 [some (.ref l1), some (.int l2), some (.int 0)] [] (n, sl, f) Q) : mi_W d 20 0 [some (.ref l1), some (.int l2), o3] [] (n, sl, f) Q := by
  refine w_iconst (v := 0) cd_20_0 (by decide) ?_
  refine w_istore_n (ls' := [some (.ref l1), some (.int l2), some (.int 0)]) cd_20_1 (Nat.le_of_ble_eq_true rfl) rfl ?_
  exact h4
theorem b_20_2 {d : Nat} {Q : (Option Value ⊕ Nat) → mi_H → Prop} (n sl : Nat) (f : Nat → mi_C) {l1 : Nat} {l2 : Int32} {l3 : Int32} (h4 : l2 ≤ l3 → mi_W d 20 55 [some (.ref l1), some (.int l2), some (.int l3)] [] (n, sl, f) Q) (h5 : ¬ (l2 ≤ l3) → mi_W d 20 7 [some (.ref l1), some (.int l2), some (.int l3)] [] (n, sl, f) Q) : mi_W d 20 2 [some (.ref l1), some (.int l2), some (.int l3)] [] (n, sl, f) Q := by
  refine w_iload_n cd_20_2 rfl ?_
  refine w_iload_n cd_20_3 rfl ?_
  exact w_if_icmpge cd_20_4 (by decide) h4 h5
theorem b_20_7 {d : Nat} {Q : (Option Value ⊕ Nat) → mi_H → Prop} (n sl : Nat) (f : Nat → mi_C) {l1 : Nat} {l2 : Int32} {l3 : Int32} (h4 : 8200 ≤ l3 → mi_W d 20 55 [some (.ref l1), some (.int l2), some (.int l3)] [] (n, sl, f) Q) (h5 : ¬ (8200 ≤ l3) → mi_W d 20 14 [some (.ref l1), some (.int l2), some (.int l3)] [] (n, sl, f) Q) : mi_W d 20 7 [some (.ref l1), some (.int l2), some (.int l3)] [] (n, sl, f) Q := by
  refine w_iload_n cd_20_7 rfl ?_
  refine w_sipush (v := 8200) cd_20_8 (by decide) ?_
  exact w_if_icmpge cd_20_11 (by decide) h4 h5
theorem b_20_14 {d : Nat} {Q : (Option Value ⊕ Nat) → mi_H → Prop} (n sl : Nat) (f : Nat → mi_C) {l1 : Nat} {l2 : Int32} {l3 : Int32} {fs4 : List Value} {x7 : Nat} (m9 i9 : Nat) (g9 : Nat → Int32) (h5 : f l1 = .inr (1, fs4)) (h6 : l1 < n) (h8 : fs4[0]? = some (.ref x7)) (h10 : f x7 = .inl (1, m9, .inl g9)) (h11 : x7 < n) (h12 : mi_ix l3 m9 i9) (h13 : (g9 i9) = 10 → mi_W d 20 49 [some (.ref l1), some (.int l2), some (.int l3)] [] (n, sl, f) Q) (h14 : ¬ ((g9 i9) = 10) → mi_W d 20 25 [some (.ref l1), some (.int l2), some (.int l3)] [] (n, sl, f) Q) : mi_W d 20 14 [some (.ref l1), some (.int l2), some (.int l3)] [] (n, sl, f) Q := by
  refine w_aload_n cd_20_14 rfl ?_
  refine w_getfield cd_20_15 (show mt_f 1 9 = some (1, 0) by decide +kernel) h5 h6 h8 ?_
  refine w_iload_n cd_20_18 rfl ?_
  refine w_baload1 cd_20_19 h10 h11 h12 ?_
  refine w_bipush (v := 10) cd_20_20 (by decide) ?_
  exact w_if_icmpeq cd_20_22 (by decide) h13 h14
theorem b_20_25 {d : Nat} {Q : (Option Value ⊕ Nat) → mi_H → Prop} (n sl : Nat) (f : Nat → mi_C) {l1 : Nat} {l2 : Int32} {l3 : Int32} {fs4 : List Value} {x7 : Nat} (m9 i9 : Nat) (g9 : Nat → Int32) (h5 : f l1 = .inr (1, fs4)) (h6 : l1 < n) (h8 : fs4[0]? = some (.ref x7)) (h10 : f x7 = .inl (1, m9, .inl g9)) (h11 : x7 < n) (h12 : mi_ix l3 m9 i9) (h13 : (g9 i9) < 32 → mi_W d 20 47 [some (.ref l1), some (.int l2), some (.int l3)] [] (n, sl, f) Q) (h14 : ¬ ((g9 i9) < 32) → mi_W d 20 36 [some (.ref l1), some (.int l2), some (.int l3)] [] (n, sl, f) Q) : mi_W d 20 25 [some (.ref l1), some (.int l2), some (.int l3)] [] (n, sl, f) Q := by
  refine w_aload_n cd_20_25 rfl ?_
  refine w_getfield cd_20_26 (show mt_f 1 9 = some (1, 0) by decide +kernel) h5 h6 h8 ?_
  refine w_iload_n cd_20_29 rfl ?_
  refine w_baload1 cd_20_30 h10 h11 h12 ?_
  refine w_bipush (v := 32) cd_20_31 (by decide) ?_
  exact w_if_icmplt cd_20_33 (by decide) h13 h14
theorem b_20_36 {d : Nat} {Q : (Option Value ⊕ Nat) → mi_H → Prop} (n sl : Nat) (f : Nat → mi_C) {l1 : Nat} {l2 : Int32} {l3 : Int32} {fs4 : List Value} {x7 : Nat} (m9 i9 : Nat) (g9 : Nat → Int32) (h5 : f l1 = .inr (1, fs4)) (h6 : l1 < n) (h8 : fs4[0]? = some (.ref x7)) (h10 : f x7 = .inl (1, m9, .inl g9)) (h11 : x7 < n) (h12 : mi_ix l3 m9 i9) (h13 : (g9 i9) ≤ 126 → mi_W d 20 49 [some (.ref l1), some (.int l2), some (.int l3)] [] (n, sl, f) Q) (h14 : ¬ ((g9 i9) ≤ 126) → mi_W d 20 47 [some (.ref l1), some (.int l2), some (.int l3)] [] (n, sl, f) Q) : mi_W d 20 36 [some (.ref l1), some (.int l2), some (.int l3)] [] (n, sl, f) Q := by
  refine w_aload_n cd_20_36 rfl ?_
  refine w_getfield cd_20_37 (show mt_f 1 9 = some (1, 0) by decide +kernel) h5 h6 h8 ?_
  refine w_iload_n cd_20_40 rfl ?_
  refine w_baload1 cd_20_41 h10 h11 h12 ?_
  refine w_bipush (v := 126) cd_20_42 (by decide) ?_
  exact w_if_icmple cd_20_44 (by decide) h13 h14
theorem b_20_47 {d : Nat} {Q : (Option Value ⊕ Nat) → mi_H → Prop} (n sl : Nat) (f : Nat → mi_C) {l1 : Nat} {l2 : Int32} {l3 : Int32} (h4 : Q (.inl (some (.int l3))) (n, sl, f)) : mi_W d 20 47 [some (.ref l1), some (.int l2), some (.int l3)] [] (n, sl, f) Q := by
  refine w_iload_n cd_20_47 rfl ?_
  exact w_ireturn_i cd_20_48 (by decide +kernel) h4
theorem b_20_49 {d : Nat} {Q : (Option Value ⊕ Nat) → mi_H → Prop} (n sl : Nat) (f : Nat → mi_C) {l1 : Nat} {l2 : Int32} {l3 : Int32} (h4 : mi_W d 20 2 [some (.ref l1), some (.int l2), some (.int (l3 + 1))] [] (n, sl, f) Q) : mi_W d 20 49 [some (.ref l1), some (.int l2), some (.int l3)] [] (n, sl, f) Q := by
  refine w_iinc (v := 1) (ls' := [some (.ref l1), some (.int l2), some (.int (l3 + 1))]) cd_20_49 rfl (by decide) rfl ?_
  exact w_goto cd_20_52 (by decide) h4
theorem b_20_55 {d : Nat} {Q : (Option Value ⊕ Nat) → mi_H → Prop} (n sl : Nat) (f : Nat → mi_C) {l1 : Nat} {l2 : Int32} {l3 : Int32} (h4 : Q (.inl (some (.int (-1)))) (n, sl, f)) : mi_W d 20 55 [some (.ref l1), some (.int l2), some (.int l3)] [] (n, sl, f) Q := by
  refine w_iconst (v := (-1)) cd_20_55 (by decide) ?_
  exact w_ireturn_i cd_20_56 (by decide +kernel) h4
/-! MarloweHost$Reader.requireAt(IZ)V -/
set_option maxRecDepth 100000 in
theorem mq_21 : mt_q 21 = my_21 := rfl
set_option maxRecDepth 100000 in
theorem ci_21 : mt_inc 0 my_21.cd = true := by decide +kernel
theorem cd_21_0 : mt_cd 21 0 = some (.iload_n 2) := mt_cd_of (q := (0, .iload_n 2, 1)) mq_21 ci_21 (List.mem_of_getElem? (i := 0) rfl)
theorem cd_21_1 : mt_cd 21 1 = some (.ifCond .ne 18) := mt_cd_of (q := (1, .ifCond .ne 18, 3)) mq_21 ci_21 (List.mem_of_getElem? (i := 1) rfl)
theorem cd_21_4 : mt_cd 21 4 = some (.aload_n 0) := mt_cd_of (q := (4, .aload_n 0, 1)) mq_21 ci_21 (List.mem_of_getElem? (i := 2) rfl)
theorem cd_21_5 : mt_cd 21 5 = some (.iload_n 1) := mt_cd_of (q := (5, .iload_n 1, 1)) mq_21 ci_21 (List.mem_of_getElem? (i := 3) rfl)
theorem cd_21_6 : mt_cd 21 6 = some (.putfield 9) := mt_cd_of (q := (6, .putfield 9, 3)) mq_21 ci_21 (List.mem_of_getElem? (i := 4) rfl)
theorem cd_21_9 : mt_cd 21 9 = some (.new 77) := mt_cd_of (q := (9, .new 77, 3)) mq_21 ci_21 (List.mem_of_getElem? (i := 5) rfl)
theorem cd_21_12 : mt_cd 21 12 = some (.dup) := mt_cd_of (q := (12, .dup, 1)) mq_21 ci_21 (List.mem_of_getElem? (i := 6) rfl)
theorem cd_21_13 : mt_cd 21 13 = some (.ldc 79) := mt_cd_of (q := (13, .ldc 79, 2)) mq_21 ci_21 (List.mem_of_getElem? (i := 7) rfl)
theorem cd_21_15 : mt_cd 21 15 = some (.invokespecial 81) := mt_cd_of (q := (15, .invokespecial 81, 3)) mq_21 ci_21 (List.mem_of_getElem? (i := 8) rfl)
theorem cd_21_18 : mt_cd 21 18 = some (.athrow) := mt_cd_of (q := (18, .athrow, 1)) mq_21 ci_21 (List.mem_of_getElem? (i := 9) rfl)
theorem cd_21_19 : mt_cd 21 19 = some (.return_) := mt_cd_of (q := (19, .return_, 1)) mq_21 ci_21 (List.mem_of_getElem? (i := 10) rfl)
theorem b_21_0 {d : Nat} {Q : (Option Value ⊕ Nat) → mi_H → Prop} (n sl : Nat) (f : Nat → mi_C) {l1 : Nat} {l2 : Int32} {l3 : Int32} (h4 : ¬ l3 = (0 : Int32) → mi_W d 21 19 [some (.ref l1), some (.int l2), some (.int l3)] [] (n, sl, f) Q) (h5 : ¬ (¬ l3 = (0 : Int32)) → mi_W d 21 4 [some (.ref l1), some (.int l2), some (.int l3)] [] (n, sl, f) Q) : mi_W d 21 0 [some (.ref l1), some (.int l2), some (.int l3)] [] (n, sl, f) Q := by
  refine w_iload_n cd_21_0 rfl ?_
  exact w_ifne cd_21_1 (by decide) h4 h5
theorem b_21_4 {d : Nat} {Q : (Option Value ⊕ Nat) → mi_H → Prop} (n sl : Nat) (f : Nat → mi_C) {l1 : Nat} {l2 : Int32} {l3 : Int32} {fs4 : List Value} {h' : mi_H} (h5 : f l1 = .inr (3, fs4)) (h6 : l1 < n) (h7 : 6 < fs4.length) (h8 : mi_t 21 9 (.new 77) [] (n, sl, (va_up f l1 (.inr (3, fs4.set 6 (.int l2))))) = some h') (h9 : Q (.inr n) h') : mi_W d 21 4 [some (.ref l1), some (.int l2), some (.int l3)] [] (n, sl, f) Q := by
  refine w_aload_n cd_21_4 rfl ?_
  refine w_iload_n cd_21_5 rfl ?_
  refine w_putfield (w := .int l2) cd_21_6 (show mt_f 3 9 = some (3, 6) by decide +kernel) h5 h6 ⟨h7, rfl, Or.inl (by decide)⟩ ?_
  exact w_throw cd_21_9 (show mt_c 3 77 = some 15 by decide +kernel) (by decide) h8 h9
theorem b_21_19 {d : Nat} {Q : (Option Value ⊕ Nat) → mi_H → Prop} (n sl : Nat) (f : Nat → mi_C) {l1 : Nat} {l2 : Int32} {l3 : Int32} (h4 : Q (.inl none) (n, sl, f)) : mi_W d 21 19 [some (.ref l1), some (.int l2), some (.int l3)] [] (n, sl, f) Q := by
  exact w_return cd_21_19 (by decide +kernel) h4
/-! MarloweHost$Scanner.begin(I)V -/
set_option maxRecDepth 100000 in
theorem mq_22 : mt_q 22 = my_22 := rfl
set_option maxRecDepth 100000 in
theorem ci_22 : mt_inc 0 my_22.cd = true := by decide +kernel
theorem cd_22_0 : mt_cd 22 0 = some (.aload_n 0) := mt_cd_of (q := (0, .aload_n 0, 1)) mq_22 ci_22 (List.mem_of_getElem? (i := 0) rfl)
theorem cd_22_1 : mt_cd 22 1 = some (.iload_n 1) := mt_cd_of (q := (1, .iload_n 1, 1)) mq_22 ci_22 (List.mem_of_getElem? (i := 1) rfl)
theorem cd_22_2 : mt_cd 22 2 = some (.sipush 8192) := mt_cd_of (q := (2, .sipush 8192, 3)) mq_22 ci_22 (List.mem_of_getElem? (i := 2) rfl)
theorem cd_22_5 : mt_cd 22 5 = some (.invokestatic 19) := mt_cd_of (q := (5, .invokestatic 19, 3)) mq_22 ci_22 (List.mem_of_getElem? (i := 3) rfl)
theorem cd_22_8 : mt_cd 22 8 = some (.putfield 25) := mt_cd_of (q := (8, .putfield 25, 3)) mq_22 ci_22 (List.mem_of_getElem? (i := 4) rfl)
theorem cd_22_11 : mt_cd 22 11 = some (.aload_n 0) := mt_cd_of (q := (11, .aload_n 0, 1)) mq_22 ci_22 (List.mem_of_getElem? (i := 5) rfl)
theorem cd_22_12 : mt_cd 22 12 = some (.iconst 0) := mt_cd_of (q := (12, .iconst 0, 1)) mq_22 ci_22 (List.mem_of_getElem? (i := 6) rfl)
theorem cd_22_13 : mt_cd 22 13 = some (.putfield 28) := mt_cd_of (q := (13, .putfield 28, 3)) mq_22 ci_22 (List.mem_of_getElem? (i := 7) rfl)
theorem cd_22_16 : mt_cd 22 16 = some (.aload_n 0) := mt_cd_of (q := (16, .aload_n 0, 1)) mq_22 ci_22 (List.mem_of_getElem? (i := 8) rfl)
theorem cd_22_17 : mt_cd 22 17 = some (.iconst 0) := mt_cd_of (q := (17, .iconst 0, 1)) mq_22 ci_22 (List.mem_of_getElem? (i := 9) rfl)
theorem cd_22_18 : mt_cd 22 18 = some (.putfield 31) := mt_cd_of (q := (18, .putfield 31, 3)) mq_22 ci_22 (List.mem_of_getElem? (i := 10) rfl)
theorem cd_22_21 : mt_cd 22 21 = some (.aload_n 0) := mt_cd_of (q := (21, .aload_n 0, 1)) mq_22 ci_22 (List.mem_of_getElem? (i := 11) rfl)
theorem cd_22_22 : mt_cd 22 22 = some (.invokevirtual 34) := mt_cd_of (q := (22, .invokevirtual 34, 3)) mq_22 ci_22 (List.mem_of_getElem? (i := 12) rfl)
theorem cd_22_25 : mt_cd 22 25 = some (.return_) := mt_cd_of (q := (25, .return_, 1)) mq_22 ci_22 (List.mem_of_getElem? (i := 13) rfl)
theorem b_22_0 {d : Nat} {Q : (Option Value ⊕ Nat) → mi_H → Prop} (n sl : Nat) (f : Nat → mi_C) {l1 : Nat} {l2 : Int32} (h3 : mi_W d 23 0 (mi_en 2 [.int l2, .int 8192]) [] (n, sl, f) (mi_Kc d 22 5 [some (.ref l1), some (.int l2)] [.ref l1] Q)) : mi_W (d + 1) 22 0 [some (.ref l1), some (.int l2)] [] (n, sl, f) Q := by
  refine w_aload_n cd_22_0 rfl ?_
  refine w_iload_n cd_22_1 rfl ?_
  refine w_sipush (v := 8192) cd_22_2 (by decide) ?_
  exact w_invokestatic cd_22_5 (show mt_m 1 19 = some (23, 4) by decide +kernel) (by decide) (rest := [.ref l1]) rfl (as := [.int l2, .int 8192]) rfl ⟨Nat.le_of_ble_eq_true rfl, Nat.le_of_ble_eq_true rfl, Nat.le_of_ble_eq_true rfl⟩ h3
theorem b_22_8 {d : Nat} {Q : (Option Value ⊕ Nat) → mi_H → Prop} (n sl : Nat) (f : Nat → mi_C) {l1 : Nat} {l2 : Int32} {s3 : Int32} {s4 : Nat} {fs5 : List Value} {fs9 : List Value} {fs13 : List Value} {fs17 : List Value} (h6 : f s4 = .inr (1, fs5)) (h7 : s4 < n) (h8 : 6 < fs5.length) (h10 : (va_up f s4 (.inr (1, fs5.set 6 (.int s3)))) l1 = .inr (1, fs9)) (h11 : l1 < n) (h12 : 3 < fs9.length) (h14 : (va_up (va_up f s4 (.inr (1, fs5.set 6 (.int s3)))) l1 (.inr (1, fs9.set 3 (.int 0)))) l1 = .inr (1, fs13)) (h15 : l1 < n) (h16 : 4 < fs13.length) (h18 : (va_up (va_up (va_up f s4 (.inr (1, fs5.set 6 (.int s3)))) l1 (.inr (1, fs9.set 3 (.int 0)))) l1 (.inr (1, fs13.set 4 (.int 0)))) l1 = .inr (1, fs17)) (h19 : l1 < n) (h20 : mi_W d 24 0 (mi_en 2 [.ref l1]) [] (n, sl, (va_up (va_up (va_up f s4 (.inr (1, fs5.set 6 (.int s3)))) l1 (.inr (1, fs9.set 3 (.int 0)))) l1 (.inr (1, fs13.set 4 (.int 0))))) (mi_Kc d 22 22 [some (.ref l1), some (.int l2)] [] Q)) : mi_W (d + 1) 22 8 [some (.ref l1), some (.int l2)] [.int s3, .ref s4] (n, sl, f) Q := by
  refine w_putfield (w := .int s3) cd_22_8 (show mt_f 1 25 = some (1, 6) by decide +kernel) h6 h7 ⟨h8, rfl, Or.inl (by decide)⟩ ?_
  refine w_aload_n cd_22_11 rfl ?_
  refine w_iconst (v := 0) cd_22_12 (by decide) ?_
  refine w_putfield (w := .int 0) cd_22_13 (show mt_f 1 28 = some (1, 3) by decide +kernel) h10 h11 ⟨h12, rfl, Or.inl (by decide)⟩ ?_
  refine w_aload_n cd_22_16 rfl ?_
  refine w_iconst (v := 0) cd_22_17 (by decide) ?_
  refine w_putfield (w := .int 0) cd_22_18 (show mt_f 1 31 = some (1, 4) by decide +kernel) h14 h15 ⟨h16, rfl, Or.inl (by decide)⟩ ?_
  refine w_aload_n cd_22_21 rfl ?_
  exact w_invokevirtual cd_22_22 (show mt_m 1 34 = some (24, 0) by decide +kernel) (rest := []) rfl (as := [.ref l1]) rfl h18 (Or.inl h19) ⟨Nat.le_of_ble_eq_true rfl, Nat.le_of_ble_eq_true rfl, Nat.le_of_ble_eq_true rfl⟩ h20
theorem b_22_25 {d : Nat} {Q : (Option Value ⊕ Nat) → mi_H → Prop} (n sl : Nat) (f : Nat → mi_C) {l1 : Nat} {l2 : Int32} (h3 : Q (.inl none) (n, sl, f)) : mi_W d 22 25 [some (.ref l1), some (.int l2)] [] (n, sl, f) Q := by
  exact w_return cd_22_25 (by decide +kernel) h3
/-! MarloweHost$Scanner.advance()V -/
set_option maxRecDepth 100000 in
theorem mq_24 : mt_q 24 = my_24 := rfl
set_option maxRecDepth 100000 in
theorem ci_24 : mt_inc 0 my_24.cd = true := by decide +kernel
theorem cd_24_0 : mt_cd 24 0 = some (.aload_n 0) := mt_cd_of (q := (0, .aload_n 0, 1)) mq_24 ci_24 (List.mem_of_getElem? (i := 0) rfl)
theorem cd_24_1 : mt_cd 24 1 = some (.getfield 28) := mt_cd_of (q := (1, .getfield 28, 3)) mq_24 ci_24 (List.mem_of_getElem? (i := 1) rfl)
theorem cd_24_4 : mt_cd 24 4 = some (.aload_n 0) := mt_cd_of (q := (4, .aload_n 0, 1)) mq_24 ci_24 (List.mem_of_getElem? (i := 2) rfl)
theorem cd_24_5 : mt_cd 24 5 = some (.getfield 31) := mt_cd_of (q := (5, .getfield 31, 3)) mq_24 ci_24 (List.mem_of_getElem? (i := 3) rfl)
theorem cd_24_8 : mt_cd 24 8 = some (.iadd) := mt_cd_of (q := (8, .iadd, 1)) mq_24 ci_24 (List.mem_of_getElem? (i := 4) rfl)
theorem cd_24_9 : mt_cd 24 9 = some (.istore_n 1) := mt_cd_of (q := (9, .istore_n 1, 1)) mq_24 ci_24 (List.mem_of_getElem? (i := 5) rfl)
theorem cd_24_10 : mt_cd 24 10 = some (.iload_n 1) := mt_cd_of (q := (10, .iload_n 1, 1)) mq_24 ci_24 (List.mem_of_getElem? (i := 6) rfl)
theorem cd_24_11 : mt_cd 24 11 = some (.aload_n 0) := mt_cd_of (q := (11, .aload_n 0, 1)) mq_24 ci_24 (List.mem_of_getElem? (i := 7) rfl)
theorem cd_24_12 : mt_cd 24 12 = some (.getfield 25) := mt_cd_of (q := (12, .getfield 25, 3)) mq_24 ci_24 (List.mem_of_getElem? (i := 8) rfl)
theorem cd_24_15 : mt_cd 24 15 = some (.if_icmp .ge 31) := mt_cd_of (q := (15, .if_icmp .ge 31, 3)) mq_24 ci_24 (List.mem_of_getElem? (i := 9) rfl)
theorem cd_24_18 : mt_cd 24 18 = some (.aload_n 0) := mt_cd_of (q := (18, .aload_n 0, 1)) mq_24 ci_24 (List.mem_of_getElem? (i := 10) rfl)
theorem cd_24_19 : mt_cd 24 19 = some (.getfield 9) := mt_cd_of (q := (19, .getfield 9, 3)) mq_24 ci_24 (List.mem_of_getElem? (i := 11) rfl)
theorem cd_24_22 : mt_cd 24 22 = some (.iload_n 1) := mt_cd_of (q := (22, .iload_n 1, 1)) mq_24 ci_24 (List.mem_of_getElem? (i := 12) rfl)
theorem cd_24_23 : mt_cd 24 23 = some (.baload) := mt_cd_of (q := (23, .baload, 1)) mq_24 ci_24 (List.mem_of_getElem? (i := 13) rfl)
theorem cd_24_24 : mt_cd 24 24 = some (.bipush 32) := mt_cd_of (q := (24, .bipush 32, 2)) mq_24 ci_24 (List.mem_of_getElem? (i := 14) rfl)
theorem cd_24_26 : mt_cd 24 26 = some (.if_icmp .eq 14) := mt_cd_of (q := (26, .if_icmp .eq 14, 3)) mq_24 ci_24 (List.mem_of_getElem? (i := 15) rfl)
theorem cd_24_29 : mt_cd 24 29 = some (.aload_n 0) := mt_cd_of (q := (29, .aload_n 0, 1)) mq_24 ci_24 (List.mem_of_getElem? (i := 16) rfl)
theorem cd_24_30 : mt_cd 24 30 = some (.getfield 9) := mt_cd_of (q := (30, .getfield 9, 3)) mq_24 ci_24 (List.mem_of_getElem? (i := 17) rfl)
theorem cd_24_33 : mt_cd 24 33 = some (.iload_n 1) := mt_cd_of (q := (33, .iload_n 1, 1)) mq_24 ci_24 (List.mem_of_getElem? (i := 18) rfl)
theorem cd_24_34 : mt_cd 24 34 = some (.baload) := mt_cd_of (q := (34, .baload, 1)) mq_24 ci_24 (List.mem_of_getElem? (i := 19) rfl)
theorem cd_24_35 : mt_cd 24 35 = some (.bipush 10) := mt_cd_of (q := (35, .bipush 10, 2)) mq_24 ci_24 (List.mem_of_getElem? (i := 20) rfl)
theorem cd_24_37 : mt_cd 24 37 = some (.if_icmp .ne 9) := mt_cd_of (q := (37, .if_icmp .ne 9, 3)) mq_24 ci_24 (List.mem_of_getElem? (i := 21) rfl)
theorem cd_24_40 : mt_cd 24 40 = some (.iinc 1 1) := mt_cd_of (q := (40, .iinc 1 1, 3)) mq_24 ci_24 (List.mem_of_getElem? (i := 22) rfl)
theorem cd_24_43 : mt_cd 24 43 = some (.goto (-33)) := mt_cd_of (q := (43, .goto (-33), 3)) mq_24 ci_24 (List.mem_of_getElem? (i := 23) rfl)
theorem cd_24_46 : mt_cd 24 46 = some (.aload_n 0) := mt_cd_of (q := (46, .aload_n 0, 1)) mq_24 ci_24 (List.mem_of_getElem? (i := 24) rfl)
theorem cd_24_47 : mt_cd 24 47 = some (.iload_n 1) := mt_cd_of (q := (47, .iload_n 1, 1)) mq_24 ci_24 (List.mem_of_getElem? (i := 25) rfl)
theorem cd_24_48 : mt_cd 24 48 = some (.putfield 28) := mt_cd_of (q := (48, .putfield 28, 3)) mq_24 ci_24 (List.mem_of_getElem? (i := 26) rfl)
theorem cd_24_51 : mt_cd 24 51 = some (.aload_n 0) := mt_cd_of (q := (51, .aload_n 0, 1)) mq_24 ci_24 (List.mem_of_getElem? (i := 27) rfl)
theorem cd_24_52 : mt_cd 24 52 = some (.iconst 0) := mt_cd_of (q := (52, .iconst 0, 1)) mq_24 ci_24 (List.mem_of_getElem? (i := 28) rfl)
theorem cd_24_53 : mt_cd 24 53 = some (.putfield 31) := mt_cd_of (q := (53, .putfield 31, 3)) mq_24 ci_24 (List.mem_of_getElem? (i := 29) rfl)
theorem cd_24_56 : mt_cd 24 56 = some (.iload_n 1) := mt_cd_of (q := (56, .iload_n 1, 1)) mq_24 ci_24 (List.mem_of_getElem? (i := 30) rfl)
theorem cd_24_57 : mt_cd 24 57 = some (.aload_n 0) := mt_cd_of (q := (57, .aload_n 0, 1)) mq_24 ci_24 (List.mem_of_getElem? (i := 31) rfl)
theorem cd_24_58 : mt_cd 24 58 = some (.getfield 25) := mt_cd_of (q := (58, .getfield 25, 3)) mq_24 ci_24 (List.mem_of_getElem? (i := 32) rfl)
theorem cd_24_61 : mt_cd 24 61 = some (.if_icmp .lt 12) := mt_cd_of (q := (61, .if_icmp .lt 12, 3)) mq_24 ci_24 (List.mem_of_getElem? (i := 33) rfl)
theorem cd_24_64 : mt_cd 24 64 = some (.aload_n 0) := mt_cd_of (q := (64, .aload_n 0, 1)) mq_24 ci_24 (List.mem_of_getElem? (i := 34) rfl)
theorem cd_24_65 : mt_cd 24 65 = some (.bipush 39) := mt_cd_of (q := (65, .bipush 39, 2)) mq_24 ci_24 (List.mem_of_getElem? (i := 35) rfl)
theorem cd_24_67 : mt_cd 24 67 = some (.putfield 37) := mt_cd_of (q := (67, .putfield 37, 3)) mq_24 ci_24 (List.mem_of_getElem? (i := 36) rfl)
theorem cd_24_70 : mt_cd 24 70 = some (.goto 70) := mt_cd_of (q := (70, .goto 70, 3)) mq_24 ci_24 (List.mem_of_getElem? (i := 37) rfl)
theorem cd_24_73 : mt_cd 24 73 = some (.aload_n 0) := mt_cd_of (q := (73, .aload_n 0, 1)) mq_24 ci_24 (List.mem_of_getElem? (i := 38) rfl)
theorem cd_24_74 : mt_cd 24 74 = some (.getfield 9) := mt_cd_of (q := (74, .getfield 9, 3)) mq_24 ci_24 (List.mem_of_getElem? (i := 39) rfl)
theorem cd_24_77 : mt_cd 24 77 = some (.iload_n 1) := mt_cd_of (q := (77, .iload_n 1, 1)) mq_24 ci_24 (List.mem_of_getElem? (i := 40) rfl)
theorem cd_24_78 : mt_cd 24 78 = some (.baload) := mt_cd_of (q := (78, .baload, 1)) mq_24 ci_24 (List.mem_of_getElem? (i := 41) rfl)
theorem cd_24_79 : mt_cd 24 79 = some (.invokestatic 40) := mt_cd_of (q := (79, .invokestatic 40, 3)) mq_24 ci_24 (List.mem_of_getElem? (i := 42) rfl)
theorem cd_24_82 : mt_cd 24 82 = some (.ifCond .eq 18) := mt_cd_of (q := (82, .ifCond .eq 18, 3)) mq_24 ci_24 (List.mem_of_getElem? (i := 43) rfl)
theorem cd_24_85 : mt_cd 24 85 = some (.aload_n 0) := mt_cd_of (q := (85, .aload_n 0, 1)) mq_24 ci_24 (List.mem_of_getElem? (i := 44) rfl)
theorem cd_24_86 : mt_cd 24 86 = some (.invokevirtual 44) := mt_cd_of (q := (86, .invokevirtual 44, 3)) mq_24 ci_24 (List.mem_of_getElem? (i := 45) rfl)
theorem cd_24_89 : mt_cd 24 89 = some (.aload_n 0) := mt_cd_of (q := (89, .aload_n 0, 1)) mq_24 ci_24 (List.mem_of_getElem? (i := 46) rfl)
theorem cd_24_90 : mt_cd 24 90 = some (.aload_n 0) := mt_cd_of (q := (90, .aload_n 0, 1)) mq_24 ci_24 (List.mem_of_getElem? (i := 47) rfl)
theorem cd_24_91 : mt_cd 24 91 = some (.invokevirtual 47) := mt_cd_of (q := (91, .invokevirtual 47, 3)) mq_24 ci_24 (List.mem_of_getElem? (i := 48) rfl)
theorem cd_24_94 : mt_cd 24 94 = some (.putfield 37) := mt_cd_of (q := (94, .putfield 37, 3)) mq_24 ci_24 (List.mem_of_getElem? (i := 49) rfl)
theorem cd_24_97 : mt_cd 24 97 = some (.goto 43) := mt_cd_of (q := (97, .goto 43, 3)) mq_24 ci_24 (List.mem_of_getElem? (i := 50) rfl)
theorem cd_24_100 : mt_cd 24 100 = some (.aload_n 0) := mt_cd_of (q := (100, .aload_n 0, 1)) mq_24 ci_24 (List.mem_of_getElem? (i := 51) rfl)
theorem cd_24_101 : mt_cd 24 101 = some (.iload_n 1) := mt_cd_of (q := (101, .iload_n 1, 1)) mq_24 ci_24 (List.mem_of_getElem? (i := 52) rfl)
theorem cd_24_102 : mt_cd 24 102 = some (.invokevirtual 51) := mt_cd_of (q := (102, .invokevirtual 51, 3)) mq_24 ci_24 (List.mem_of_getElem? (i := 53) rfl)
theorem cd_24_105 : mt_cd 24 105 = some (.ifCond .ne 24) := mt_cd_of (q := (105, .ifCond .ne 24, 3)) mq_24 ci_24 (List.mem_of_getElem? (i := 54) rfl)
theorem cd_24_108 : mt_cd 24 108 = some (.aload_n 0) := mt_cd_of (q := (108, .aload_n 0, 1)) mq_24 ci_24 (List.mem_of_getElem? (i := 55) rfl)
theorem cd_24_109 : mt_cd 24 109 = some (.getfield 9) := mt_cd_of (q := (109, .getfield 9, 3)) mq_24 ci_24 (List.mem_of_getElem? (i := 56) rfl)
theorem cd_24_112 : mt_cd 24 112 = some (.iload_n 1) := mt_cd_of (q := (112, .iload_n 1, 1)) mq_24 ci_24 (List.mem_of_getElem? (i := 57) rfl)
theorem cd_24_113 : mt_cd 24 113 = some (.baload) := mt_cd_of (q := (113, .baload, 1)) mq_24 ci_24 (List.mem_of_getElem? (i := 58) rfl)
theorem cd_24_114 : mt_cd 24 114 = some (.bipush 45) := mt_cd_of (q := (114, .bipush 45, 2)) mq_24 ci_24 (List.mem_of_getElem? (i := 59) rfl)
theorem cd_24_116 : mt_cd 24 116 = some (.if_icmp .ne 20) := mt_cd_of (q := (116, .if_icmp .ne 20, 3)) mq_24 ci_24 (List.mem_of_getElem? (i := 60) rfl)
theorem cd_24_119 : mt_cd 24 119 = some (.aload_n 0) := mt_cd_of (q := (119, .aload_n 0, 1)) mq_24 ci_24 (List.mem_of_getElem? (i := 61) rfl)
theorem cd_24_120 : mt_cd 24 120 = some (.iload_n 1) := mt_cd_of (q := (120, .iload_n 1, 1)) mq_24 ci_24 (List.mem_of_getElem? (i := 62) rfl)
theorem cd_24_121 : mt_cd 24 121 = some (.iconst 1) := mt_cd_of (q := (121, .iconst 1, 1)) mq_24 ci_24 (List.mem_of_getElem? (i := 63) rfl)
theorem cd_24_122 : mt_cd 24 122 = some (.iadd) := mt_cd_of (q := (122, .iadd, 1)) mq_24 ci_24 (List.mem_of_getElem? (i := 64) rfl)
theorem cd_24_123 : mt_cd 24 123 = some (.invokevirtual 51) := mt_cd_of (q := (123, .invokevirtual 51, 3)) mq_24 ci_24 (List.mem_of_getElem? (i := 65) rfl)
theorem cd_24_126 : mt_cd 24 126 = some (.ifCond .eq 10) := mt_cd_of (q := (126, .ifCond .eq 10, 3)) mq_24 ci_24 (List.mem_of_getElem? (i := 66) rfl)
theorem cd_24_129 : mt_cd 24 129 = some (.aload_n 0) := mt_cd_of (q := (129, .aload_n 0, 1)) mq_24 ci_24 (List.mem_of_getElem? (i := 67) rfl)
theorem cd_24_130 : mt_cd 24 130 = some (.invokevirtual 55) := mt_cd_of (q := (130, .invokevirtual 55, 3)) mq_24 ci_24 (List.mem_of_getElem? (i := 68) rfl)
theorem cd_24_133 : mt_cd 24 133 = some (.goto 7) := mt_cd_of (q := (133, .goto 7, 3)) mq_24 ci_24 (List.mem_of_getElem? (i := 69) rfl)
theorem cd_24_136 : mt_cd 24 136 = some (.aload_n 0) := mt_cd_of (q := (136, .aload_n 0, 1)) mq_24 ci_24 (List.mem_of_getElem? (i := 70) rfl)
theorem cd_24_137 : mt_cd 24 137 = some (.invokevirtual 58) := mt_cd_of (q := (137, .invokevirtual 58, 3)) mq_24 ci_24 (List.mem_of_getElem? (i := 71) rfl)
theorem cd_24_140 : mt_cd 24 140 = some (.return_) := mt_cd_of (q := (140, .return_, 1)) mq_24 ci_24 (List.mem_of_getElem? (i := 72) rfl)
theorem b_24_0 {d : Nat} {Q : (Option Value ⊕ Nat) → mi_H → Prop} (n sl : Nat) (f : Nat → mi_C) {l1 : Nat} {o2 : Option Value} {fs3 : List Value} {x6 : Int32} {fs8 : List Value} {x11 : Int32} (h4 : f l1 = .inr (1, fs3)) (h5 : l1 < n) (h7 : fs3[3]? = some (.int x6)) (h9 : f l1 = .inr (1, fs8)) (h10 : l1 < n) (h12 : fs8[4]? = some (.int x11)) (h13 : mi_W d 24 10 [some (.ref l1), some (.int (x6 + x11))] [] (n, sl, f) Q) : mi_W d 24 0 [some (.ref l1), o2] [] (n, sl, f) Q := by
  refine w_aload_n cd_24_0 rfl ?_
  refine w_getfield cd_24_1 (show mt_f 1 28 = some (1, 3) by decide +kernel) h4 h5 h7 ?_
  refine w_aload_n cd_24_4 rfl ?_
  refine w_getfield cd_24_5 (show mt_f 1 31 = some (1, 4) by decide +kernel) h9 h10 h12 ?_
  refine w_iadd cd_24_8 ?_
  refine w_istore_n (ls' := [some (.ref l1), some (.int (x6 + x11))]) cd_24_9 (Nat.le_of_ble_eq_true rfl) rfl ?_
  exact h13
theorem b_24_10 {d : Nat} {Q : (Option Value ⊕ Nat) → mi_H → Prop} (n sl : Nat) (f : Nat → mi_C) {l1 : Nat} {l2 : Int32} {fs3 : List Value} {x6 : Int32} (h4 : f l1 = .inr (1, fs3)) (h5 : l1 < n) (h7 : fs3[6]? = some (.int x6)) (h8 : x6 ≤ l2 → mi_W d 24 46 [some (.ref l1), some (.int l2)] [] (n, sl, f) Q) (h9 : ¬ (x6 ≤ l2) → mi_W d 24 18 [some (.ref l1), some (.int l2)] [] (n, sl, f) Q) : mi_W d 24 10 [some (.ref l1), some (.int l2)] [] (n, sl, f) Q := by
  refine w_iload_n cd_24_10 rfl ?_
  refine w_aload_n cd_24_11 rfl ?_
  refine w_getfield cd_24_12 (show mt_f 1 25 = some (1, 6) by decide +kernel) h4 h5 h7 ?_
  exact w_if_icmpge cd_24_15 (by decide) h8 h9
theorem b_24_18 {d : Nat} {Q : (Option Value ⊕ Nat) → mi_H → Prop} (n sl : Nat) (f : Nat → mi_C) {l1 : Nat} {l2 : Int32} {fs3 : List Value} {x6 : Nat} (m8 i8 : Nat) (g8 : Nat → Int32) (h4 : f l1 = .inr (1, fs3)) (h5 : l1 < n) (h7 : fs3[0]? = some (.ref x6)) (h9 : f x6 = .inl (1, m8, .inl g8)) (h10 : x6 < n) (h11 : mi_ix l2 m8 i8) (h12 : (g8 i8) = 32 → mi_W d 24 40 [some (.ref l1), some (.int l2)] [] (n, sl, f) Q) (h13 : ¬ ((g8 i8) = 32) → mi_W d 24 29 [some (.ref l1), some (.int l2)] [] (n, sl, f) Q) : mi_W d 24 18 [some (.ref l1), some (.int l2)] [] (n, sl, f) Q := by
  refine w_aload_n cd_24_18 rfl ?_
  refine w_getfield cd_24_19 (show mt_f 1 9 = some (1, 0) by decide +kernel) h4 h5 h7 ?_
  refine w_iload_n cd_24_22 rfl ?_
  refine w_baload1 cd_24_23 h9 h10 h11 ?_
  refine w_bipush (v := 32) cd_24_24 (by decide) ?_
  exact w_if_icmpeq cd_24_26 (by decide) h12 h13
theorem b_24_29 {d : Nat} {Q : (Option Value ⊕ Nat) → mi_H → Prop} (n sl : Nat) (f : Nat → mi_C) {l1 : Nat} {l2 : Int32} {fs3 : List Value} {x6 : Nat} (m8 i8 : Nat) (g8 : Nat → Int32) (h4 : f l1 = .inr (1, fs3)) (h5 : l1 < n) (h7 : fs3[0]? = some (.ref x6)) (h9 : f x6 = .inl (1, m8, .inl g8)) (h10 : x6 < n) (h11 : mi_ix l2 m8 i8) (h12 : ¬ (g8 i8) = 10 → mi_W d 24 46 [some (.ref l1), some (.int l2)] [] (n, sl, f) Q) (h13 : ¬ (¬ (g8 i8) = 10) → mi_W d 24 40 [some (.ref l1), some (.int l2)] [] (n, sl, f) Q) : mi_W d 24 29 [some (.ref l1), some (.int l2)] [] (n, sl, f) Q := by
  refine w_aload_n cd_24_29 rfl ?_
  refine w_getfield cd_24_30 (show mt_f 1 9 = some (1, 0) by decide +kernel) h4 h5 h7 ?_
  refine w_iload_n cd_24_33 rfl ?_
  refine w_baload1 cd_24_34 h9 h10 h11 ?_
  refine w_bipush (v := 10) cd_24_35 (by decide) ?_
  exact w_if_icmpne cd_24_37 (by decide) h12 h13
theorem b_24_40 {d : Nat} {Q : (Option Value ⊕ Nat) → mi_H → Prop} (n sl : Nat) (f : Nat → mi_C) {l1 : Nat} {l2 : Int32} (h3 : mi_W d 24 10 [some (.ref l1), some (.int (l2 + 1))] [] (n, sl, f) Q) : mi_W d 24 40 [some (.ref l1), some (.int l2)] [] (n, sl, f) Q := by
  refine w_iinc (v := 1) (ls' := [some (.ref l1), some (.int (l2 + 1))]) cd_24_40 rfl (by decide) rfl ?_
  exact w_goto cd_24_43 (by decide) h3
theorem b_24_46 {d : Nat} {Q : (Option Value ⊕ Nat) → mi_H → Prop} (n sl : Nat) (f : Nat → mi_C) {l1 : Nat} {l2 : Int32} {fs3 : List Value} {fs7 : List Value} {fs11 : List Value} {x14 : Int32} (h4 : f l1 = .inr (1, fs3)) (h5 : l1 < n) (h6 : 3 < fs3.length) (h8 : (va_up f l1 (.inr (1, fs3.set 3 (.int l2)))) l1 = .inr (1, fs7)) (h9 : l1 < n) (h10 : 4 < fs7.length) (h12 : (va_up (va_up f l1 (.inr (1, fs3.set 3 (.int l2)))) l1 (.inr (1, fs7.set 4 (.int 0)))) l1 = .inr (1, fs11)) (h13 : l1 < n) (h15 : fs11[6]? = some (.int x14)) (h16 : l2 < x14 → mi_W d 24 73 [some (.ref l1), some (.int l2)] [] (n, sl, (va_up (va_up f l1 (.inr (1, fs3.set 3 (.int l2)))) l1 (.inr (1, fs7.set 4 (.int 0))))) Q) (h17 : ¬ (l2 < x14) → mi_W d 24 64 [some (.ref l1), some (.int l2)] [] (n, sl, (va_up (va_up f l1 (.inr (1, fs3.set 3 (.int l2)))) l1 (.inr (1, fs7.set 4 (.int 0))))) Q) : mi_W d 24 46 [some (.ref l1), some (.int l2)] [] (n, sl, f) Q := by
  refine w_aload_n cd_24_46 rfl ?_
  refine w_iload_n cd_24_47 rfl ?_
  refine w_putfield (w := .int l2) cd_24_48 (show mt_f 1 28 = some (1, 3) by decide +kernel) h4 h5 ⟨h6, rfl, Or.inl (by decide)⟩ ?_
  refine w_aload_n cd_24_51 rfl ?_
  refine w_iconst (v := 0) cd_24_52 (by decide) ?_
  refine w_putfield (w := .int 0) cd_24_53 (show mt_f 1 31 = some (1, 4) by decide +kernel) h8 h9 ⟨h10, rfl, Or.inl (by decide)⟩ ?_
  refine w_iload_n cd_24_56 rfl ?_
  refine w_aload_n cd_24_57 rfl ?_
  refine w_getfield cd_24_58 (show mt_f 1 25 = some (1, 6) by decide +kernel) h12 h13 h15 ?_
  exact w_if_icmplt cd_24_61 (by decide) h16 h17
theorem b_24_64 {d : Nat} {Q : (Option Value ⊕ Nat) → mi_H → Prop} (n sl : Nat) (f : Nat → mi_C) {l1 : Nat} {l2 : Int32} {fs3 : List Value} (h4 : f l1 = .inr (1, fs3)) (h5 : l1 < n) (h6 : 2 < fs3.length) (h7 : mi_W d 24 140 [some (.ref l1), some (.int l2)] [] (n, sl, (va_up f l1 (.inr (1, fs3.set 2 (.int 39))))) Q) : mi_W d 24 64 [some (.ref l1), some (.int l2)] [] (n, sl, f) Q := by
  refine w_aload_n cd_24_64 rfl ?_
  refine w_bipush (v := 39) cd_24_65 (by decide) ?_
  refine w_putfield (w := .int 39) cd_24_67 (show mt_f 1 37 = some (1, 2) by decide +kernel) h4 h5 ⟨h6, rfl, Or.inl (by decide)⟩ ?_
  exact w_goto cd_24_70 (by decide) h7
theorem b_24_73 {d : Nat} {Q : (Option Value ⊕ Nat) → mi_H → Prop} (n sl : Nat) (f : Nat → mi_C) {l1 : Nat} {l2 : Int32} {fs3 : List Value} {x6 : Nat} (m8 i8 : Nat) (g8 : Nat → Int32) (h4 : f l1 = .inr (1, fs3)) (h5 : l1 < n) (h7 : fs3[0]? = some (.ref x6)) (h9 : f x6 = .inl (1, m8, .inl g8)) (h10 : x6 < n) (h11 : mi_ix l2 m8 i8) (h12 : mi_W d 25 0 (mi_en 1 [.int (g8 i8)]) [] (n, sl, f) (mi_Kc d 24 79 [some (.ref l1), some (.int l2)] [] Q)) : mi_W (d + 1) 24 73 [some (.ref l1), some (.int l2)] [] (n, sl, f) Q := by
  refine w_aload_n cd_24_73 rfl ?_
  refine w_getfield cd_24_74 (show mt_f 1 9 = some (1, 0) by decide +kernel) h4 h5 h7 ?_
  refine w_iload_n cd_24_77 rfl ?_
  refine w_baload1 cd_24_78 h9 h10 h11 ?_
  exact w_invokestatic cd_24_79 (show mt_m 1 40 = some (25, 4) by decide +kernel) (by decide) (rest := []) rfl (as := [.int (g8 i8)]) rfl ⟨Nat.le_of_ble_eq_true rfl, Nat.le_of_ble_eq_true rfl, Nat.le_of_ble_eq_true rfl⟩ h12
theorem b_24_82 {d : Nat} {Q : (Option Value ⊕ Nat) → mi_H → Prop} (n sl : Nat) (f : Nat → mi_C) {l1 : Nat} {l2 : Int32} {s3 : Int32} (h4 : s3 = (0 : Int32) → mi_W d 24 100 [some (.ref l1), some (.int l2)] [] (n, sl, f) Q) (h5 : ¬ (s3 = (0 : Int32)) → mi_W d 24 85 [some (.ref l1), some (.int l2)] [] (n, sl, f) Q) : mi_W d 24 82 [some (.ref l1), some (.int l2)] [.int s3] (n, sl, f) Q := by
  exact w_ifeq cd_24_82 (by decide) h4 h5
theorem b_24_85 {d : Nat} {Q : (Option Value ⊕ Nat) → mi_H → Prop} (n sl : Nat) (f : Nat → mi_C) {l1 : Nat} {l2 : Int32} {fs3 : List Value} (h4 : f l1 = .inr (1, fs3)) (h5 : l1 < n) (h6 : mi_W d 26 0 (mi_en 2 [.ref l1]) [] (n, sl, f) (mi_Kc d 24 86 [some (.ref l1), some (.int l2)] [] Q)) : mi_W (d + 1) 24 85 [some (.ref l1), some (.int l2)] [] (n, sl, f) Q := by
  refine w_aload_n cd_24_85 rfl ?_
  exact w_invokevirtual cd_24_86 (show mt_m 1 44 = some (26, 0) by decide +kernel) (rest := []) rfl (as := [.ref l1]) rfl h4 (Or.inl h5) ⟨Nat.le_of_ble_eq_true rfl, Nat.le_of_ble_eq_true rfl, Nat.le_of_ble_eq_true rfl⟩ h6
theorem b_24_89 {d : Nat} {Q : (Option Value ⊕ Nat) → mi_H → Prop} (n sl : Nat) (f : Nat → mi_C) {l1 : Nat} {l2 : Int32} {fs3 : List Value} (h4 : f l1 = .inr (1, fs3)) (h5 : l1 < n) (h6 : mi_W d 28 0 (mi_en 4 [.ref l1]) [] (n, sl, f) (mi_Kc d 24 91 [some (.ref l1), some (.int l2)] [.ref l1] Q)) : mi_W (d + 1) 24 89 [some (.ref l1), some (.int l2)] [] (n, sl, f) Q := by
  refine w_aload_n cd_24_89 rfl ?_
  refine w_aload_n cd_24_90 rfl ?_
  exact w_invokevirtual cd_24_91 (show mt_m 1 47 = some (28, 0) by decide +kernel) (rest := [.ref l1]) rfl (as := [.ref l1]) rfl h4 (Or.inl h5) ⟨Nat.le_of_ble_eq_true rfl, Nat.le_of_ble_eq_true rfl, Nat.le_of_ble_eq_true rfl⟩ h6
theorem b_24_94 {d : Nat} {Q : (Option Value ⊕ Nat) → mi_H → Prop} (n sl : Nat) (f : Nat → mi_C) {l1 : Nat} {l2 : Int32} {s3 : Int32} {s4 : Nat} {fs5 : List Value} (h6 : f s4 = .inr (1, fs5)) (h7 : s4 < n) (h8 : 2 < fs5.length) (h9 : mi_W d 24 140 [some (.ref l1), some (.int l2)] [] (n, sl, (va_up f s4 (.inr (1, fs5.set 2 (.int s3))))) Q) : mi_W d 24 94 [some (.ref l1), some (.int l2)] [.int s3, .ref s4] (n, sl, f) Q := by
  refine w_putfield (w := .int s3) cd_24_94 (show mt_f 1 37 = some (1, 2) by decide +kernel) h6 h7 ⟨h8, rfl, Or.inl (by decide)⟩ ?_
  exact w_goto cd_24_97 (by decide) h9
theorem b_24_100 {d : Nat} {Q : (Option Value ⊕ Nat) → mi_H → Prop} (n sl : Nat) (f : Nat → mi_C) {l1 : Nat} {l2 : Int32} {fs3 : List Value} (h4 : f l1 = .inr (1, fs3)) (h5 : l1 < n) (h6 : mi_W d 27 0 (mi_en 2 [.ref l1, .int l2]) [] (n, sl, f) (mi_Kc d 24 102 [some (.ref l1), some (.int l2)] [] Q)) : mi_W (d + 1) 24 100 [some (.ref l1), some (.int l2)] [] (n, sl, f) Q := by
  refine w_aload_n cd_24_100 rfl ?_
  refine w_iload_n cd_24_101 rfl ?_
  exact w_invokevirtual cd_24_102 (show mt_m 1 51 = some (27, 0) by decide +kernel) (rest := []) rfl (as := [.ref l1, .int l2]) rfl h4 (Or.inl h5) ⟨Nat.le_of_ble_eq_true rfl, Nat.le_of_ble_eq_true rfl, Nat.le_of_ble_eq_true rfl⟩ h6
theorem b_24_105 {d : Nat} {Q : (Option Value ⊕ Nat) → mi_H → Prop} (n sl : Nat) (f : Nat → mi_C) {l1 : Nat} {l2 : Int32} {s3 : Int32} (h4 : ¬ s3 = (0 : Int32) → mi_W d 24 129 [some (.ref l1), some (.int l2)] [] (n, sl, f) Q) (h5 : ¬ (¬ s3 = (0 : Int32)) → mi_W d 24 108 [some (.ref l1), some (.int l2)] [] (n, sl, f) Q) : mi_W d 24 105 [some (.ref l1), some (.int l2)] [.int s3] (n, sl, f) Q := by
  exact w_ifne cd_24_105 (by decide) h4 h5
theorem b_24_108 {d : Nat} {Q : (Option Value ⊕ Nat) → mi_H → Prop} (n sl : Nat) (f : Nat → mi_C) {l1 : Nat} {l2 : Int32} {fs3 : List Value} {x6 : Nat} (m8 i8 : Nat) (g8 : Nat → Int32) (h4 : f l1 = .inr (1, fs3)) (h5 : l1 < n) (h7 : fs3[0]? = some (.ref x6)) (h9 : f x6 = .inl (1, m8, .inl g8)) (h10 : x6 < n) (h11 : mi_ix l2 m8 i8) (h12 : ¬ (g8 i8) = 45 → mi_W d 24 136 [some (.ref l1), some (.int l2)] [] (n, sl, f) Q) (h13 : ¬ (¬ (g8 i8) = 45) → mi_W d 24 119 [some (.ref l1), some (.int l2)] [] (n, sl, f) Q) : mi_W d 24 108 [some (.ref l1), some (.int l2)] [] (n, sl, f) Q := by
  refine w_aload_n cd_24_108 rfl ?_
  refine w_getfield cd_24_109 (show mt_f 1 9 = some (1, 0) by decide +kernel) h4 h5 h7 ?_
  refine w_iload_n cd_24_112 rfl ?_
  refine w_baload1 cd_24_113 h9 h10 h11 ?_
  refine w_bipush (v := 45) cd_24_114 (by decide) ?_
  exact w_if_icmpne cd_24_116 (by decide) h12 h13
theorem b_24_119 {d : Nat} {Q : (Option Value ⊕ Nat) → mi_H → Prop} (n sl : Nat) (f : Nat → mi_C) {l1 : Nat} {l2 : Int32} {fs3 : List Value} (h4 : f l1 = .inr (1, fs3)) (h5 : l1 < n) (h6 : mi_W d 27 0 (mi_en 2 [.ref l1, .int (l2 + 1)]) [] (n, sl, f) (mi_Kc d 24 123 [some (.ref l1), some (.int l2)] [] Q)) : mi_W (d + 1) 24 119 [some (.ref l1), some (.int l2)] [] (n, sl, f) Q := by
  refine w_aload_n cd_24_119 rfl ?_
  refine w_iload_n cd_24_120 rfl ?_
  refine w_iconst (v := 1) cd_24_121 (by decide) ?_
  refine w_iadd cd_24_122 ?_
  exact w_invokevirtual cd_24_123 (show mt_m 1 51 = some (27, 0) by decide +kernel) (rest := []) rfl (as := [.ref l1, .int (l2 + 1)]) rfl h4 (Or.inl h5) ⟨Nat.le_of_ble_eq_true rfl, Nat.le_of_ble_eq_true rfl, Nat.le_of_ble_eq_true rfl⟩ h6
theorem b_24_126 {d : Nat} {Q : (Option Value ⊕ Nat) → mi_H → Prop} (n sl : Nat) (f : Nat → mi_C) {l1 : Nat} {l2 : Int32} {s3 : Int32} (h4 : s3 = (0 : Int32) → mi_W d 24 136 [some (.ref l1), some (.int l2)] [] (n, sl, f) Q) (h5 : ¬ (s3 = (0 : Int32)) → mi_W d 24 129 [some (.ref l1), some (.int l2)] [] (n, sl, f) Q) : mi_W d 24 126 [some (.ref l1), some (.int l2)] [.int s3] (n, sl, f) Q := by
  exact w_ifeq cd_24_126 (by decide) h4 h5
theorem b_24_129 {d : Nat} {Q : (Option Value ⊕ Nat) → mi_H → Prop} (n sl : Nat) (f : Nat → mi_C) {l1 : Nat} {l2 : Int32} {fs3 : List Value} (h4 : f l1 = .inr (1, fs3)) (h5 : l1 < n) (h6 : mi_W d 34 0 (mi_en 6 [.ref l1]) [] (n, sl, f) (mi_Kc d 24 130 [some (.ref l1), some (.int l2)] [] Q)) : mi_W (d + 1) 24 129 [some (.ref l1), some (.int l2)] [] (n, sl, f) Q := by
  refine w_aload_n cd_24_129 rfl ?_
  exact w_invokevirtual cd_24_130 (show mt_m 1 55 = some (34, 0) by decide +kernel) (rest := []) rfl (as := [.ref l1]) rfl h4 (Or.inl h5) ⟨Nat.le_of_ble_eq_true rfl, Nat.le_of_ble_eq_true rfl, Nat.le_of_ble_eq_true rfl⟩ h6
theorem b_24_133 {d : Nat} {Q : (Option Value ⊕ Nat) → mi_H → Prop} (n sl : Nat) (f : Nat → mi_C) {l1 : Nat} {l2 : Int32} (h3 : mi_W d 24 140 [some (.ref l1), some (.int l2)] [] (n, sl, f) Q) : mi_W d 24 133 [some (.ref l1), some (.int l2)] [] (n, sl, f) Q := by
  exact w_goto cd_24_133 (by decide) h3
theorem b_24_136 {d : Nat} {Q : (Option Value ⊕ Nat) → mi_H → Prop} (n sl : Nat) (f : Nat → mi_C) {l1 : Nat} {l2 : Int32} {fs3 : List Value} (h4 : f l1 = .inr (1, fs3)) (h5 : l1 < n) (h6 : mi_W d 35 0 (mi_en 2 [.ref l1]) [] (n, sl, f) (mi_Kc d 24 137 [some (.ref l1), some (.int l2)] [] Q)) : mi_W (d + 1) 24 136 [some (.ref l1), some (.int l2)] [] (n, sl, f) Q := by
  refine w_aload_n cd_24_136 rfl ?_
  exact w_invokevirtual cd_24_137 (show mt_m 1 58 = some (35, 0) by decide +kernel) (rest := []) rfl (as := [.ref l1]) rfl h4 (Or.inl h5) ⟨Nat.le_of_ble_eq_true rfl, Nat.le_of_ble_eq_true rfl, Nat.le_of_ble_eq_true rfl⟩ h6
theorem b_24_140 {d : Nat} {Q : (Option Value ⊕ Nat) → mi_H → Prop} (n sl : Nat) (f : Nat → mi_C) {l1 : Nat} {l2 : Int32} (h3 : Q (.inl none) (n, sl, f)) : mi_W d 24 140 [some (.ref l1), some (.int l2)] [] (n, sl, f) Q := by
  exact w_return cd_24_140 (by decide +kernel) h3
/-! MarloweHost$Scanner.isLetter(B)Z -/
set_option maxRecDepth 100000 in
theorem mq_25 : mt_q 25 = my_25 := rfl
set_option maxRecDepth 100000 in
theorem ci_25 : mt_inc 0 my_25.cd = true := by decide +kernel
theorem cd_25_0 : mt_cd 25 0 = some (.iload_n 0) := mt_cd_of (q := (0, .iload_n 0, 1)) mq_25 ci_25 (List.mem_of_getElem? (i := 0) rfl)
theorem cd_25_1 : mt_cd 25 1 = some (.bipush 97) := mt_cd_of (q := (1, .bipush 97, 2)) mq_25 ci_25 (List.mem_of_getElem? (i := 1) rfl)
theorem cd_25_3 : mt_cd 25 3 = some (.if_icmp .lt 9) := mt_cd_of (q := (3, .if_icmp .lt 9, 3)) mq_25 ci_25 (List.mem_of_getElem? (i := 2) rfl)
theorem cd_25_6 : mt_cd 25 6 = some (.iload_n 0) := mt_cd_of (q := (6, .iload_n 0, 1)) mq_25 ci_25 (List.mem_of_getElem? (i := 3) rfl)
theorem cd_25_7 : mt_cd 25 7 = some (.bipush 122) := mt_cd_of (q := (7, .bipush 122, 2)) mq_25 ci_25 (List.mem_of_getElem? (i := 4) rfl)
theorem cd_25_9 : mt_cd 25 9 = some (.if_icmp .le 21) := mt_cd_of (q := (9, .if_icmp .le 21, 3)) mq_25 ci_25 (List.mem_of_getElem? (i := 5) rfl)
theorem cd_25_12 : mt_cd 25 12 = some (.iload_n 0) := mt_cd_of (q := (12, .iload_n 0, 1)) mq_25 ci_25 (List.mem_of_getElem? (i := 6) rfl)
theorem cd_25_13 : mt_cd 25 13 = some (.bipush 65) := mt_cd_of (q := (13, .bipush 65, 2)) mq_25 ci_25 (List.mem_of_getElem? (i := 7) rfl)
theorem cd_25_15 : mt_cd 25 15 = some (.if_icmp .lt 9) := mt_cd_of (q := (15, .if_icmp .lt 9, 3)) mq_25 ci_25 (List.mem_of_getElem? (i := 8) rfl)
theorem cd_25_18 : mt_cd 25 18 = some (.iload_n 0) := mt_cd_of (q := (18, .iload_n 0, 1)) mq_25 ci_25 (List.mem_of_getElem? (i := 9) rfl)
theorem cd_25_19 : mt_cd 25 19 = some (.bipush 90) := mt_cd_of (q := (19, .bipush 90, 2)) mq_25 ci_25 (List.mem_of_getElem? (i := 10) rfl)
theorem cd_25_21 : mt_cd 25 21 = some (.if_icmp .le 9) := mt_cd_of (q := (21, .if_icmp .le 9, 3)) mq_25 ci_25 (List.mem_of_getElem? (i := 11) rfl)
theorem cd_25_24 : mt_cd 25 24 = some (.iload_n 0) := mt_cd_of (q := (24, .iload_n 0, 1)) mq_25 ci_25 (List.mem_of_getElem? (i := 12) rfl)
theorem cd_25_25 : mt_cd 25 25 = some (.bipush 95) := mt_cd_of (q := (25, .bipush 95, 2)) mq_25 ci_25 (List.mem_of_getElem? (i := 13) rfl)
theorem cd_25_27 : mt_cd 25 27 = some (.if_icmp .ne 7) := mt_cd_of (q := (27, .if_icmp .ne 7, 3)) mq_25 ci_25 (List.mem_of_getElem? (i := 14) rfl)
theorem cd_25_30 : mt_cd 25 30 = some (.iconst 1) := mt_cd_of (q := (30, .iconst 1, 1)) mq_25 ci_25 (List.mem_of_getElem? (i := 15) rfl)
theorem cd_25_31 : mt_cd 25 31 = some (.goto 4) := mt_cd_of (q := (31, .goto 4, 3)) mq_25 ci_25 (List.mem_of_getElem? (i := 16) rfl)
theorem cd_25_34 : mt_cd 25 34 = some (.iconst 0) := mt_cd_of (q := (34, .iconst 0, 1)) mq_25 ci_25 (List.mem_of_getElem? (i := 17) rfl)
theorem cd_25_35 : mt_cd 25 35 = some (.ireturn) := mt_cd_of (q := (35, .ireturn, 1)) mq_25 ci_25 (List.mem_of_getElem? (i := 18) rfl)
theorem b_25_0 {d : Nat} {Q : (Option Value ⊕ Nat) → mi_H → Prop} (n sl : Nat) (f : Nat → mi_C) {l1 : Int32} (h2 : l1 < 97 → mi_W d 25 12 [some (.int l1)] [] (n, sl, f) Q) (h3 : ¬ (l1 < 97) → mi_W d 25 6 [some (.int l1)] [] (n, sl, f) Q) : mi_W d 25 0 [some (.int l1)] [] (n, sl, f) Q := by
  refine w_iload_n cd_25_0 rfl ?_
  refine w_bipush (v := 97) cd_25_1 (by decide) ?_
  exact w_if_icmplt cd_25_3 (by decide) h2 h3
theorem b_25_6 {d : Nat} {Q : (Option Value ⊕ Nat) → mi_H → Prop} (n sl : Nat) (f : Nat → mi_C) {l1 : Int32} (h2 : l1 ≤ 122 → mi_W d 25 30 [some (.int l1)] [] (n, sl, f) Q) (h3 : ¬ (l1 ≤ 122) → mi_W d 25 12 [some (.int l1)] [] (n, sl, f) Q) : mi_W d 25 6 [some (.int l1)] [] (n, sl, f) Q := by
  refine w_iload_n cd_25_6 rfl ?_
  refine w_bipush (v := 122) cd_25_7 (by decide) ?_
  exact w_if_icmple cd_25_9 (by decide) h2 h3
theorem b_25_12 {d : Nat} {Q : (Option Value ⊕ Nat) → mi_H → Prop} (n sl : Nat) (f : Nat → mi_C) {l1 : Int32} (h2 : l1 < 65 → mi_W d 25 24 [some (.int l1)] [] (n, sl, f) Q) (h3 : ¬ (l1 < 65) → mi_W d 25 18 [some (.int l1)] [] (n, sl, f) Q) : mi_W d 25 12 [some (.int l1)] [] (n, sl, f) Q := by
  refine w_iload_n cd_25_12 rfl ?_
  refine w_bipush (v := 65) cd_25_13 (by decide) ?_
  exact w_if_icmplt cd_25_15 (by decide) h2 h3
theorem b_25_18 {d : Nat} {Q : (Option Value ⊕ Nat) → mi_H → Prop} (n sl : Nat) (f : Nat → mi_C) {l1 : Int32} (h2 : l1 ≤ 90 → mi_W d 25 30 [some (.int l1)] [] (n, sl, f) Q) (h3 : ¬ (l1 ≤ 90) → mi_W d 25 24 [some (.int l1)] [] (n, sl, f) Q) : mi_W d 25 18 [some (.int l1)] [] (n, sl, f) Q := by
  refine w_iload_n cd_25_18 rfl ?_
  refine w_bipush (v := 90) cd_25_19 (by decide) ?_
  exact w_if_icmple cd_25_21 (by decide) h2 h3
theorem b_25_24 {d : Nat} {Q : (Option Value ⊕ Nat) → mi_H → Prop} (n sl : Nat) (f : Nat → mi_C) {l1 : Int32} (h2 : ¬ l1 = 95 → mi_W d 25 34 [some (.int l1)] [] (n, sl, f) Q) (h3 : ¬ (¬ l1 = 95) → mi_W d 25 30 [some (.int l1)] [] (n, sl, f) Q) : mi_W d 25 24 [some (.int l1)] [] (n, sl, f) Q := by
  refine w_iload_n cd_25_24 rfl ?_
  refine w_bipush (v := 95) cd_25_25 (by decide) ?_
  exact w_if_icmpne cd_25_27 (by decide) h2 h3
theorem b_25_30 {d : Nat} {Q : (Option Value ⊕ Nat) → mi_H → Prop} (n sl : Nat) (f : Nat → mi_C) {l1 : Int32} (h2 : mi_W d 25 35 [some (.int l1)] [.int 1] (n, sl, f) Q) : mi_W d 25 30 [some (.int l1)] [] (n, sl, f) Q := by
  refine w_iconst (v := 1) cd_25_30 (by decide) ?_
  exact w_goto cd_25_31 (by decide) h2
theorem b_25_34 {d : Nat} {Q : (Option Value ⊕ Nat) → mi_H → Prop} (n sl : Nat) (f : Nat → mi_C) {l1 : Int32} (h2 : mi_W d 25 35 [some (.int l1)] [.int 0] (n, sl, f) Q) : mi_W d 25 34 [some (.int l1)] [] (n, sl, f) Q := by
  refine w_iconst (v := 0) cd_25_34 (by decide) ?_
  exact h2
theorem b_25_35 {d : Nat} {Q : (Option Value ⊕ Nat) → mi_H → Prop} (n sl : Nat) (f : Nat → mi_C) {l1 : Int32} {s2 : Int32} (h3 : s2 = 0 ∨ s2 = 1) (h4 : Q (.inl (some (.int s2))) (n, sl, f)) : mi_W d 25 35 [some (.int l1)] [.int s2] (n, sl, f) Q := by
  exact w_ireturn_z cd_25_35 (by decide +kernel) h3 h4
/-! MarloweHost$Scanner.scanWord()V -/
set_option maxRecDepth 100000 in
theorem mq_26 : mt_q 26 = my_26 := rfl
set_option maxRecDepth 100000 in
theorem ci_26 : mt_inc 0 my_26.cd = true := by decide +kernel
theorem cd_26_0 : mt_cd 26 0 = some (.aload_n 0) := mt_cd_of (q := (0, .aload_n 0, 1)) mq_26 ci_26 (List.mem_of_getElem? (i := 0) rfl)
theorem cd_26_1 : mt_cd 26 1 = some (.getfield 28) := mt_cd_of (q := (1, .getfield 28, 3)) mq_26 ci_26 (List.mem_of_getElem? (i := 1) rfl)
theorem cd_26_4 : mt_cd 26 4 = some (.istore_n 1) := mt_cd_of (q := (4, .istore_n 1, 1)) mq_26 ci_26 (List.mem_of_getElem? (i := 2) rfl)
theorem cd_26_5 : mt_cd 26 5 = some (.iload_n 1) := mt_cd_of (q := (5, .iload_n 1, 1)) mq_26 ci_26 (List.mem_of_getElem? (i := 3) rfl)
theorem cd_26_6 : mt_cd 26 6 = some (.aload_n 0) := mt_cd_of (q := (6, .aload_n 0, 1)) mq_26 ci_26 (List.mem_of_getElem? (i := 4) rfl)
theorem cd_26_7 : mt_cd 26 7 = some (.getfield 25) := mt_cd_of (q := (7, .getfield 25, 3)) mq_26 ci_26 (List.mem_of_getElem? (i := 5) rfl)
theorem cd_26_10 : mt_cd 26 10 = some (.if_icmp .ge 40) := mt_cd_of (q := (10, .if_icmp .ge 40, 3)) mq_26 ci_26 (List.mem_of_getElem? (i := 6) rfl)
theorem cd_26_13 : mt_cd 26 13 = some (.iload_n 1) := mt_cd_of (q := (13, .iload_n 1, 1)) mq_26 ci_26 (List.mem_of_getElem? (i := 7) rfl)
theorem cd_26_14 : mt_cd 26 14 = some (.aload_n 0) := mt_cd_of (q := (14, .aload_n 0, 1)) mq_26 ci_26 (List.mem_of_getElem? (i := 8) rfl)
theorem cd_26_15 : mt_cd 26 15 = some (.getfield 28) := mt_cd_of (q := (15, .getfield 28, 3)) mq_26 ci_26 (List.mem_of_getElem? (i := 9) rfl)
theorem cd_26_18 : mt_cd 26 18 = some (.bipush 16) := mt_cd_of (q := (18, .bipush 16, 2)) mq_26 ci_26 (List.mem_of_getElem? (i := 10) rfl)
theorem cd_26_20 : mt_cd 26 20 = some (.iadd) := mt_cd_of (q := (20, .iadd, 1)) mq_26 ci_26 (List.mem_of_getElem? (i := 11) rfl)
theorem cd_26_21 : mt_cd 26 21 = some (.if_icmp .ge 29) := mt_cd_of (q := (21, .if_icmp .ge 29, 3)) mq_26 ci_26 (List.mem_of_getElem? (i := 12) rfl)
theorem cd_26_24 : mt_cd 26 24 = some (.aload_n 0) := mt_cd_of (q := (24, .aload_n 0, 1)) mq_26 ci_26 (List.mem_of_getElem? (i := 13) rfl)
theorem cd_26_25 : mt_cd 26 25 = some (.getfield 9) := mt_cd_of (q := (25, .getfield 9, 3)) mq_26 ci_26 (List.mem_of_getElem? (i := 14) rfl)
theorem cd_26_28 : mt_cd 26 28 = some (.iload_n 1) := mt_cd_of (q := (28, .iload_n 1, 1)) mq_26 ci_26 (List.mem_of_getElem? (i := 15) rfl)
theorem cd_26_29 : mt_cd 26 29 = some (.baload) := mt_cd_of (q := (29, .baload, 1)) mq_26 ci_26 (List.mem_of_getElem? (i := 16) rfl)
theorem cd_26_30 : mt_cd 26 30 = some (.invokestatic 40) := mt_cd_of (q := (30, .invokestatic 40, 3)) mq_26 ci_26 (List.mem_of_getElem? (i := 17) rfl)
theorem cd_26_33 : mt_cd 26 33 = some (.ifCond .ne 11) := mt_cd_of (q := (33, .ifCond .ne 11, 3)) mq_26 ci_26 (List.mem_of_getElem? (i := 18) rfl)
theorem cd_26_36 : mt_cd 26 36 = some (.aload_n 0) := mt_cd_of (q := (36, .aload_n 0, 1)) mq_26 ci_26 (List.mem_of_getElem? (i := 19) rfl)
theorem cd_26_37 : mt_cd 26 37 = some (.iload_n 1) := mt_cd_of (q := (37, .iload_n 1, 1)) mq_26 ci_26 (List.mem_of_getElem? (i := 20) rfl)
theorem cd_26_38 : mt_cd 26 38 = some (.invokevirtual 51) := mt_cd_of (q := (38, .invokevirtual 51, 3)) mq_26 ci_26 (List.mem_of_getElem? (i := 21) rfl)
theorem cd_26_41 : mt_cd 26 41 = some (.ifCond .eq 9) := mt_cd_of (q := (41, .ifCond .eq 9, 3)) mq_26 ci_26 (List.mem_of_getElem? (i := 22) rfl)
theorem cd_26_44 : mt_cd 26 44 = some (.iinc 1 1) := mt_cd_of (q := (44, .iinc 1 1, 3)) mq_26 ci_26 (List.mem_of_getElem? (i := 23) rfl)
theorem cd_26_47 : mt_cd 26 47 = some (.goto (-42)) := mt_cd_of (q := (47, .goto (-42), 3)) mq_26 ci_26 (List.mem_of_getElem? (i := 24) rfl)
theorem cd_26_50 : mt_cd 26 50 = some (.aload_n 0) := mt_cd_of (q := (50, .aload_n 0, 1)) mq_26 ci_26 (List.mem_of_getElem? (i := 25) rfl)
theorem cd_26_51 : mt_cd 26 51 = some (.iload_n 1) := mt_cd_of (q := (51, .iload_n 1, 1)) mq_26 ci_26 (List.mem_of_getElem? (i := 26) rfl)
theorem cd_26_52 : mt_cd 26 52 = some (.aload_n 0) := mt_cd_of (q := (52, .aload_n 0, 1)) mq_26 ci_26 (List.mem_of_getElem? (i := 27) rfl)
theorem cd_26_53 : mt_cd 26 53 = some (.getfield 28) := mt_cd_of (q := (53, .getfield 28, 3)) mq_26 ci_26 (List.mem_of_getElem? (i := 28) rfl)
theorem cd_26_56 : mt_cd 26 56 = some (.isub) := mt_cd_of (q := (56, .isub, 1)) mq_26 ci_26 (List.mem_of_getElem? (i := 29) rfl)
theorem cd_26_57 : mt_cd 26 57 = some (.putfield 31) := mt_cd_of (q := (57, .putfield 31, 3)) mq_26 ci_26 (List.mem_of_getElem? (i := 30) rfl)
theorem cd_26_60 : mt_cd 26 60 = some (.return_) := mt_cd_of (q := (60, .return_, 1)) mq_26 ci_26 (List.mem_of_getElem? (i := 31) rfl)
theorem b_26_0 {d : Nat} {Q : (Option Value ⊕ Nat) → mi_H → Prop} (n sl : Nat) (f : Nat → mi_C) {l1 : Nat} {o2 : Option Value} {fs3 : List Value} {x6 : Int32} (h4 : f l1 = .inr (1, fs3)) (h5 : l1 < n) (h7 : fs3[3]? = some (.int x6)) (h8 : mi_W d 26 5 [some (.ref l1), some (.int x6)] [] (n, sl, f) Q) : mi_W d 26 0 [some (.ref l1), o2] [] (n, sl, f) Q := by
  refine w_aload_n cd_26_0 rfl ?_
  refine w_getfield cd_26_1 (show mt_f 1 28 = some (1, 3) by decide +kernel) h4 h5 h7 ?_
  refine w_istore_n (ls' := [some (.ref l1), some (.int x6)]) cd_26_4 (Nat.le_of_ble_eq_true rfl) rfl ?_
  exact h8
theorem b_26_5 {d : Nat} {Q : (Option Value ⊕ Nat) → mi_H → Prop} (n sl : Nat) (f : Nat → mi_C) {l1 : Nat} {l2 : Int32} {fs3 : List Value} {x6 : Int32} (h4 : f l1 = .inr (1, fs3)) (h5 : l1 < n) (h7 : fs3[6]? = some (.int x6)) (h8 : x6 ≤ l2 → mi_W d 26 50 [some (.ref l1), some (.int l2)] [] (n, sl, f) Q) (h9 : ¬ (x6 ≤ l2) → mi_W d 26 13 [some (.ref l1), some (.int l2)] [] (n, sl, f) Q) : mi_W d 26 5 [some (.ref l1), some (.int l2)] [] (n, sl, f) Q := by
  refine w_iload_n cd_26_5 rfl ?_
  refine w_aload_n cd_26_6 rfl ?_
  refine w_getfield cd_26_7 (show mt_f 1 25 = some (1, 6) by decide +kernel) h4 h5 h7 ?_
  exact w_if_icmpge cd_26_10 (by decide) h8 h9
theorem b_26_13 {d : Nat} {Q : (Option Value ⊕ Nat) → mi_H → Prop} (n sl : Nat) (f : Nat → mi_C) {l1 : Nat} {l2 : Int32} {fs3 : List Value} {x6 : Int32} (h4 : f l1 = .inr (1, fs3)) (h5 : l1 < n) (h7 : fs3[3]? = some (.int x6)) (h8 : (x6 + 16) ≤ l2 → mi_W d 26 50 [some (.ref l1), some (.int l2)] [] (n, sl, f) Q) (h9 : ¬ ((x6 + 16) ≤ l2) → mi_W d 26 24 [some (.ref l1), some (.int l2)] [] (n, sl, f) Q) : mi_W d 26 13 [some (.ref l1), some (.int l2)] [] (n, sl, f) Q := by
  refine w_iload_n cd_26_13 rfl ?_
  refine w_aload_n cd_26_14 rfl ?_
  refine w_getfield cd_26_15 (show mt_f 1 28 = some (1, 3) by decide +kernel) h4 h5 h7 ?_
  refine w_bipush (v := 16) cd_26_18 (by decide) ?_
  refine w_iadd cd_26_20 ?_
  exact w_if_icmpge cd_26_21 (by decide) h8 h9
theorem b_26_24 {d : Nat} {Q : (Option Value ⊕ Nat) → mi_H → Prop} (n sl : Nat) (f : Nat → mi_C) {l1 : Nat} {l2 : Int32} {fs3 : List Value} {x6 : Nat} (m8 i8 : Nat) (g8 : Nat → Int32) (h4 : f l1 = .inr (1, fs3)) (h5 : l1 < n) (h7 : fs3[0]? = some (.ref x6)) (h9 : f x6 = .inl (1, m8, .inl g8)) (h10 : x6 < n) (h11 : mi_ix l2 m8 i8) (h12 : mi_W d 25 0 (mi_en 1 [.int (g8 i8)]) [] (n, sl, f) (mi_Kc d 26 30 [some (.ref l1), some (.int l2)] [] Q)) : mi_W (d + 1) 26 24 [some (.ref l1), some (.int l2)] [] (n, sl, f) Q := by
  refine w_aload_n cd_26_24 rfl ?_
  refine w_getfield cd_26_25 (show mt_f 1 9 = some (1, 0) by decide +kernel) h4 h5 h7 ?_
  refine w_iload_n cd_26_28 rfl ?_
  refine w_baload1 cd_26_29 h9 h10 h11 ?_
  exact w_invokestatic cd_26_30 (show mt_m 1 40 = some (25, 4) by decide +kernel) (by decide) (rest := []) rfl (as := [.int (g8 i8)]) rfl ⟨Nat.le_of_ble_eq_true rfl, Nat.le_of_ble_eq_true rfl, Nat.le_of_ble_eq_true rfl⟩ h12
theorem b_26_33 {d : Nat} {Q : (Option Value ⊕ Nat) → mi_H → Prop} (n sl : Nat) (f : Nat → mi_C) {l1 : Nat} {l2 : Int32} {s3 : Int32} (h4 : ¬ s3 = (0 : Int32) → mi_W d 26 44 [some (.ref l1), some (.int l2)] [] (n, sl, f) Q) (h5 : ¬ (¬ s3 = (0 : Int32)) → mi_W d 26 36 [some (.ref l1), some (.int l2)] [] (n, sl, f) Q) : mi_W d 26 33 [some (.ref l1), some (.int l2)] [.int s3] (n, sl, f) Q := by
  exact w_ifne cd_26_33 (by decide) h4 h5
theorem b_26_36 {d : Nat} {Q : (Option Value ⊕ Nat) → mi_H → Prop} (n sl : Nat) (f : Nat → mi_C) {l1 : Nat} {l2 : Int32} {fs3 : List Value} (h4 : f l1 = .inr (1, fs3)) (h5 : l1 < n) (h6 : mi_W d 27 0 (mi_en 2 [.ref l1, .int l2]) [] (n, sl, f) (mi_Kc d 26 38 [some (.ref l1), some (.int l2)] [] Q)) : mi_W (d + 1) 26 36 [some (.ref l1), some (.int l2)] [] (n, sl, f) Q := by
  refine w_aload_n cd_26_36 rfl ?_
  refine w_iload_n cd_26_37 rfl ?_
  exact w_invokevirtual cd_26_38 (show mt_m 1 51 = some (27, 0) by decide +kernel) (rest := []) rfl (as := [.ref l1, .int l2]) rfl h4 (Or.inl h5) ⟨Nat.le_of_ble_eq_true rfl, Nat.le_of_ble_eq_true rfl, Nat.le_of_ble_eq_true rfl⟩ h6
theorem b_26_41 {d : Nat} {Q : (Option Value ⊕ Nat) → mi_H → Prop} (n sl : Nat) (f : Nat → mi_C) {l1 : Nat} {l2 : Int32} {s3 : Int32} (h4 : s3 = (0 : Int32) → mi_W d 26 50 [some (.ref l1), some (.int l2)] [] (n, sl, f) Q) (h5 : ¬ (s3 = (0 : Int32)) → mi_W d 26 44 [some (.ref l1), some (.int l2)] [] (n, sl, f) Q) : mi_W d 26 41 [some (.ref l1), some (.int l2)] [.int s3] (n, sl, f) Q := by
  exact w_ifeq cd_26_41 (by decide) h4 h5
theorem b_26_44 {d : Nat} {Q : (Option Value ⊕ Nat) → mi_H → Prop} (n sl : Nat) (f : Nat → mi_C) {l1 : Nat} {l2 : Int32} (h3 : mi_W d 26 5 [some (.ref l1), some (.int (l2 + 1))] [] (n, sl, f) Q) : mi_W d 26 44 [some (.ref l1), some (.int l2)] [] (n, sl, f) Q := by
  refine w_iinc (v := 1) (ls' := [some (.ref l1), some (.int (l2 + 1))]) cd_26_44 rfl (by decide) rfl ?_
  exact w_goto cd_26_47 (by decide) h3
theorem b_26_50 {d : Nat} {Q : (Option Value ⊕ Nat) → mi_H → Prop} (n sl : Nat) (f : Nat → mi_C) {l1 : Nat} {l2 : Int32} {fs3 : List Value} {x6 : Int32} {fs8 : List Value} (h4 : f l1 = .inr (1, fs3)) (h5 : l1 < n) (h7 : fs3[3]? = some (.int x6)) (h9 : f l1 = .inr (1, fs8)) (h10 : l1 < n) (h11 : 4 < fs8.length) (h12 : Q (.inl none) (n, sl, (va_up f l1 (.inr (1, fs8.set 4 (.int (l2 - x6))))))) : mi_W d 26 50 [some (.ref l1), some (.int l2)] [] (n, sl, f) Q := by
  refine w_aload_n cd_26_50 rfl ?_
  refine w_iload_n cd_26_51 rfl ?_
  refine w_aload_n cd_26_52 rfl ?_
  refine w_getfield cd_26_53 (show mt_f 1 28 = some (1, 3) by decide +kernel) h4 h5 h7 ?_
  refine w_isub cd_26_56 ?_
  refine w_putfield (w := .int (l2 - x6)) cd_26_57 (show mt_f 1 31 = some (1, 4) by decide +kernel) h9 h10 ⟨h11, rfl, Or.inl (by decide)⟩ ?_
  exact w_return cd_26_60 (by decide +kernel) h12
/-! MarloweHost$Scanner.isDigit(I)Z -/
set_option maxRecDepth 100000 in
theorem mq_27 : mt_q 27 = my_27 := rfl
set_option maxRecDepth 100000 in
theorem ci_27 : mt_inc 0 my_27.cd = true := by decide +kernel
theorem cd_27_0 : mt_cd 27 0 = some (.iload_n 1) := mt_cd_of (q := (0, .iload_n 1, 1)) mq_27 ci_27 (List.mem_of_getElem? (i := 0) rfl)
theorem cd_27_1 : mt_cd 27 1 = some (.aload_n 0) := mt_cd_of (q := (1, .aload_n 0, 1)) mq_27 ci_27 (List.mem_of_getElem? (i := 1) rfl)
theorem cd_27_2 : mt_cd 27 2 = some (.getfield 25) := mt_cd_of (q := (2, .getfield 25, 3)) mq_27 ci_27 (List.mem_of_getElem? (i := 2) rfl)
theorem cd_27_5 : mt_cd 27 5 = some (.if_icmp .ge 29) := mt_cd_of (q := (5, .if_icmp .ge 29, 3)) mq_27 ci_27 (List.mem_of_getElem? (i := 3) rfl)
theorem cd_27_8 : mt_cd 27 8 = some (.aload_n 0) := mt_cd_of (q := (8, .aload_n 0, 1)) mq_27 ci_27 (List.mem_of_getElem? (i := 4) rfl)
theorem cd_27_9 : mt_cd 27 9 = some (.getfield 9) := mt_cd_of (q := (9, .getfield 9, 3)) mq_27 ci_27 (List.mem_of_getElem? (i := 5) rfl)
theorem cd_27_12 : mt_cd 27 12 = some (.iload_n 1) := mt_cd_of (q := (12, .iload_n 1, 1)) mq_27 ci_27 (List.mem_of_getElem? (i := 6) rfl)
theorem cd_27_13 : mt_cd 27 13 = some (.baload) := mt_cd_of (q := (13, .baload, 1)) mq_27 ci_27 (List.mem_of_getElem? (i := 7) rfl)
theorem cd_27_14 : mt_cd 27 14 = some (.bipush 48) := mt_cd_of (q := (14, .bipush 48, 2)) mq_27 ci_27 (List.mem_of_getElem? (i := 8) rfl)
theorem cd_27_16 : mt_cd 27 16 = some (.if_icmp .lt 18) := mt_cd_of (q := (16, .if_icmp .lt 18, 3)) mq_27 ci_27 (List.mem_of_getElem? (i := 9) rfl)
theorem cd_27_19 : mt_cd 27 19 = some (.aload_n 0) := mt_cd_of (q := (19, .aload_n 0, 1)) mq_27 ci_27 (List.mem_of_getElem? (i := 10) rfl)
theorem cd_27_20 : mt_cd 27 20 = some (.getfield 9) := mt_cd_of (q := (20, .getfield 9, 3)) mq_27 ci_27 (List.mem_of_getElem? (i := 11) rfl)
theorem cd_27_23 : mt_cd 27 23 = some (.iload_n 1) := mt_cd_of (q := (23, .iload_n 1, 1)) mq_27 ci_27 (List.mem_of_getElem? (i := 12) rfl)
theorem cd_27_24 : mt_cd 27 24 = some (.baload) := mt_cd_of (q := (24, .baload, 1)) mq_27 ci_27 (List.mem_of_getElem? (i := 13) rfl)
theorem cd_27_25 : mt_cd 27 25 = some (.bipush 57) := mt_cd_of (q := (25, .bipush 57, 2)) mq_27 ci_27 (List.mem_of_getElem? (i := 14) rfl)
theorem cd_27_27 : mt_cd 27 27 = some (.if_icmp .gt 7) := mt_cd_of (q := (27, .if_icmp .gt 7, 3)) mq_27 ci_27 (List.mem_of_getElem? (i := 15) rfl)
theorem cd_27_30 : mt_cd 27 30 = some (.iconst 1) := mt_cd_of (q := (30, .iconst 1, 1)) mq_27 ci_27 (List.mem_of_getElem? (i := 16) rfl)
theorem cd_27_31 : mt_cd 27 31 = some (.goto 4) := mt_cd_of (q := (31, .goto 4, 3)) mq_27 ci_27 (List.mem_of_getElem? (i := 17) rfl)
theorem cd_27_34 : mt_cd 27 34 = some (.iconst 0) := mt_cd_of (q := (34, .iconst 0, 1)) mq_27 ci_27 (List.mem_of_getElem? (i := 18) rfl)
theorem cd_27_35 : mt_cd 27 35 = some (.ireturn) := mt_cd_of (q := (35, .ireturn, 1)) mq_27 ci_27 (List.mem_of_getElem? (i := 19) rfl)
theorem b_27_0 {d : Nat} {Q : (Option Value ⊕ Nat) → mi_H → Prop} (n sl : Nat) (f : Nat → mi_C) {l1 : Nat} {l2 : Int32} {fs3 : List Value} {x6 : Int32} (h4 : f l1 = .inr (1, fs3)) (h5 : l1 < n) (h7 : fs3[6]? = some (.int x6)) (h8 : x6 ≤ l2 → mi_W d 27 34 [some (.ref l1), some (.int l2)] [] (n, sl, f) Q) (h9 : ¬ (x6 ≤ l2) → mi_W d 27 8 [some (.ref l1), some (.int l2)] [] (n, sl, f) Q) : mi_W d 27 0 [some (.ref l1), some (.int l2)] [] (n, sl, f) Q := by
  refine w_iload_n cd_27_0 rfl ?_
  refine w_aload_n cd_27_1 rfl ?_
  refine w_getfield cd_27_2 (show mt_f 1 25 = some (1, 6) by decide +kernel) h4 h5 h7 ?_
  exact w_if_icmpge cd_27_5 (by decide) h8 h9
theorem b_27_8 {d : Nat} {Q : (Option Value ⊕ Nat) → mi_H → Prop} (n sl : Nat) (f : Nat → mi_C) {l1 : Nat} {l2 : Int32} {fs3 : List Value} {x6 : Nat} (m8 i8 : Nat) (g8 : Nat → Int32) (h4 : f l1 = .inr (1, fs3)) (h5 : l1 < n) (h7 : fs3[0]? = some (.ref x6)) (h9 : f x6 = .inl (1, m8, .inl g8)) (h10 : x6 < n) (h11 : mi_ix l2 m8 i8) (h12 : (g8 i8) < 48 → mi_W d 27 34 [some (.ref l1), some (.int l2)] [] (n, sl, f) Q) (h13 : ¬ ((g8 i8) < 48) → mi_W d 27 19 [some (.ref l1), some (.int l2)] [] (n, sl, f) Q) : mi_W d 27 8 [some (.ref l1), some (.int l2)] [] (n, sl, f) Q := by
  refine w_aload_n cd_27_8 rfl ?_
  refine w_getfield cd_27_9 (show mt_f 1 9 = some (1, 0) by decide +kernel) h4 h5 h7 ?_
  refine w_iload_n cd_27_12 rfl ?_
  refine w_baload1 cd_27_13 h9 h10 h11 ?_
  refine w_bipush (v := 48) cd_27_14 (by decide) ?_
  exact w_if_icmplt cd_27_16 (by decide) h12 h13
theorem b_27_19 {d : Nat} {Q : (Option Value ⊕ Nat) → mi_H → Prop} (n sl : Nat) (f : Nat → mi_C) {l1 : Nat} {l2 : Int32} {fs3 : List Value} {x6 : Nat} (m8 i8 : Nat) (g8 : Nat → Int32) (h4 : f l1 = .inr (1, fs3)) (h5 : l1 < n) (h7 : fs3[0]? = some (.ref x6)) (h9 : f x6 = .inl (1, m8, .inl g8)) (h10 : x6 < n) (h11 : mi_ix l2 m8 i8) (h12 : 57 < (g8 i8) → mi_W d 27 34 [some (.ref l1), some (.int l2)] [] (n, sl, f) Q) (h13 : ¬ (57 < (g8 i8)) → mi_W d 27 30 [some (.ref l1), some (.int l2)] [] (n, sl, f) Q) : mi_W d 27 19 [some (.ref l1), some (.int l2)] [] (n, sl, f) Q := by
  refine w_aload_n cd_27_19 rfl ?_
  refine w_getfield cd_27_20 (show mt_f 1 9 = some (1, 0) by decide +kernel) h4 h5 h7 ?_
  refine w_iload_n cd_27_23 rfl ?_
  refine w_baload1 cd_27_24 h9 h10 h11 ?_
  refine w_bipush (v := 57) cd_27_25 (by decide) ?_
  exact w_if_icmpgt cd_27_27 (by decide) h12 h13
theorem b_27_30 {d : Nat} {Q : (Option Value ⊕ Nat) → mi_H → Prop} (n sl : Nat) (f : Nat → mi_C) {l1 : Nat} {l2 : Int32} (h3 : mi_W d 27 35 [some (.ref l1), some (.int l2)] [.int 1] (n, sl, f) Q) : mi_W d 27 30 [some (.ref l1), some (.int l2)] [] (n, sl, f) Q := by
  refine w_iconst (v := 1) cd_27_30 (by decide) ?_
  exact w_goto cd_27_31 (by decide) h3
theorem b_27_34 {d : Nat} {Q : (Option Value ⊕ Nat) → mi_H → Prop} (n sl : Nat) (f : Nat → mi_C) {l1 : Nat} {l2 : Int32} (h3 : mi_W d 27 35 [some (.ref l1), some (.int l2)] [.int 0] (n, sl, f) Q) : mi_W d 27 34 [some (.ref l1), some (.int l2)] [] (n, sl, f) Q := by
  refine w_iconst (v := 0) cd_27_34 (by decide) ?_
  exact h3
theorem b_27_35 {d : Nat} {Q : (Option Value ⊕ Nat) → mi_H → Prop} (n sl : Nat) (f : Nat → mi_C) {l1 : Nat} {l2 : Int32} {s3 : Int32} (h4 : s3 = 0 ∨ s3 = 1) (h5 : Q (.inl (some (.int s3))) (n, sl, f)) : mi_W d 27 35 [some (.ref l1), some (.int l2)] [.int s3] (n, sl, f) Q := by
  exact w_ireturn_z cd_27_35 (by decide +kernel) h4 h5
/-! MarloweHost$Scanner.keyOrName()I -/
set_option maxRecDepth 100000 in
theorem mq_28 : mt_q 28 = my_28 := rfl
set_option maxRecDepth 100000 in
theorem ci_28 : mt_inc 0 my_28.cd = true := by decide +kernel
theorem cd_28_0 : mt_cd 28 0 = some (.aload_n 0) := mt_cd_of (q := (0, .aload_n 0, 1)) mq_28 ci_28 (List.mem_of_getElem? (i := 0) rfl)
theorem cd_28_1 : mt_cd 28 1 = some (.getfield 31) := mt_cd_of (q := (1, .getfield 31, 3)) mq_28 ci_28 (List.mem_of_getElem? (i := 1) rfl)
theorem cd_28_4 : mt_cd 28 4 = some (.bipush 8) := mt_cd_of (q := (4, .bipush 8, 2)) mq_28 ci_28 (List.mem_of_getElem? (i := 2) rfl)
theorem cd_28_6 : mt_cd 28 6 = some (.if_icmp .lt 6) := mt_cd_of (q := (6, .if_icmp .lt 6, 3)) mq_28 ci_28 (List.mem_of_getElem? (i := 3) rfl)
theorem cd_28_9 : mt_cd 28 9 = some (.bipush 38) := mt_cd_of (q := (9, .bipush 38, 2)) mq_28 ci_28 (List.mem_of_getElem? (i := 4) rfl)
theorem cd_28_11 : mt_cd 28 11 = some (.ireturn) := mt_cd_of (q := (11, .ireturn, 1)) mq_28 ci_28 (List.mem_of_getElem? (i := 5) rfl)
theorem cd_28_12 : mt_cd 28 12 = some (.iconst 0) := mt_cd_of (q := (12, .iconst 0, 1)) mq_28 ci_28 (List.mem_of_getElem? (i := 6) rfl)
theorem cd_28_13 : mt_cd 28 13 = some (.istore_n 1) := mt_cd_of (q := (13, .istore_n 1, 1)) mq_28 ci_28 (List.mem_of_getElem? (i := 7) rfl)
theorem cd_28_14 : mt_cd 28 14 = some (.iload_n 1) := mt_cd_of (q := (14, .iload_n 1, 1)) mq_28 ci_28 (List.mem_of_getElem? (i := 8) rfl)
theorem cd_28_15 : mt_cd 28 15 = some (.bipush 24) := mt_cd_of (q := (15, .bipush 24, 2)) mq_28 ci_28 (List.mem_of_getElem? (i := 9) rfl)
theorem cd_28_17 : mt_cd 28 17 = some (.if_icmp .ge 78) := mt_cd_of (q := (17, .if_icmp .ge 78, 3)) mq_28 ci_28 (List.mem_of_getElem? (i := 10) rfl)
theorem cd_28_20 : mt_cd 28 20 = some (.iload_n 1) := mt_cd_of (q := (20, .iload_n 1, 1)) mq_28 ci_28 (List.mem_of_getElem? (i := 11) rfl)
theorem cd_28_21 : mt_cd 28 21 = some (.bipush 8) := mt_cd_of (q := (21, .bipush 8, 2)) mq_28 ci_28 (List.mem_of_getElem? (i := 12) rfl)
theorem cd_28_23 : mt_cd 28 23 = some (.imul) := mt_cd_of (q := (23, .imul, 1)) mq_28 ci_28 (List.mem_of_getElem? (i := 13) rfl)
theorem cd_28_24 : mt_cd 28 24 = some (.istore_n 2) := mt_cd_of (q := (24, .istore_n 2, 1)) mq_28 ci_28 (List.mem_of_getElem? (i := 14) rfl)
theorem cd_28_25 : mt_cd 28 25 = some (.iconst 0) := mt_cd_of (q := (25, .iconst 0, 1)) mq_28 ci_28 (List.mem_of_getElem? (i := 15) rfl)
theorem cd_28_26 : mt_cd 28 26 = some (.istore_n 3) := mt_cd_of (q := (26, .istore_n 3, 1)) mq_28 ci_28 (List.mem_of_getElem? (i := 16) rfl)
theorem cd_28_27 : mt_cd 28 27 = some (.iload_n 3) := mt_cd_of (q := (27, .iload_n 3, 1)) mq_28 ci_28 (List.mem_of_getElem? (i := 17) rfl)
theorem cd_28_28 : mt_cd 28 28 = some (.aload_n 0) := mt_cd_of (q := (28, .aload_n 0, 1)) mq_28 ci_28 (List.mem_of_getElem? (i := 18) rfl)
theorem cd_28_29 : mt_cd 28 29 = some (.getfield 31) := mt_cd_of (q := (29, .getfield 31, 3)) mq_28 ci_28 (List.mem_of_getElem? (i := 19) rfl)
theorem cd_28_32 : mt_cd 28 32 = some (.if_icmp .ge 31) := mt_cd_of (q := (32, .if_icmp .ge 31, 3)) mq_28 ci_28 (List.mem_of_getElem? (i := 20) rfl)
theorem cd_28_35 : mt_cd 28 35 = some (.ldc 61) := mt_cd_of (q := (35, .ldc 61, 2)) mq_28 ci_28 (List.mem_of_getElem? (i := 21) rfl)
theorem cd_28_37 : mt_cd 28 37 = some (.iload_n 2) := mt_cd_of (q := (37, .iload_n 2, 1)) mq_28 ci_28 (List.mem_of_getElem? (i := 22) rfl)
theorem cd_28_38 : mt_cd 28 38 = some (.iload_n 3) := mt_cd_of (q := (38, .iload_n 3, 1)) mq_28 ci_28 (List.mem_of_getElem? (i := 23) rfl)
theorem cd_28_39 : mt_cd 28 39 = some (.iadd) := mt_cd_of (q := (39, .iadd, 1)) mq_28 ci_28 (List.mem_of_getElem? (i := 24) rfl)
theorem cd_28_40 : mt_cd 28 40 = some (.invokevirtual 63) := mt_cd_of (q := (40, .invokevirtual 63, 3)) mq_28 ci_28 (List.mem_of_getElem? (i := 25) rfl)
theorem cd_28_43 : mt_cd 28 43 = some (.aload_n 0) := mt_cd_of (q := (43, .aload_n 0, 1)) mq_28 ci_28 (List.mem_of_getElem? (i := 26) rfl)
theorem cd_28_44 : mt_cd 28 44 = some (.getfield 9) := mt_cd_of (q := (44, .getfield 9, 3)) mq_28 ci_28 (List.mem_of_getElem? (i := 27) rfl)
theorem cd_28_47 : mt_cd 28 47 = some (.aload_n 0) := mt_cd_of (q := (47, .aload_n 0, 1)) mq_28 ci_28 (List.mem_of_getElem? (i := 28) rfl)
theorem cd_28_48 : mt_cd 28 48 = some (.getfield 28) := mt_cd_of (q := (48, .getfield 28, 3)) mq_28 ci_28 (List.mem_of_getElem? (i := 29) rfl)
theorem cd_28_51 : mt_cd 28 51 = some (.iload_n 3) := mt_cd_of (q := (51, .iload_n 3, 1)) mq_28 ci_28 (List.mem_of_getElem? (i := 30) rfl)
theorem cd_28_52 : mt_cd 28 52 = some (.iadd) := mt_cd_of (q := (52, .iadd, 1)) mq_28 ci_28 (List.mem_of_getElem? (i := 31) rfl)
theorem cd_28_53 : mt_cd 28 53 = some (.baload) := mt_cd_of (q := (53, .baload, 1)) mq_28 ci_28 (List.mem_of_getElem? (i := 32) rfl)
theorem cd_28_54 : mt_cd 28 54 = some (.if_icmp .ne 9) := mt_cd_of (q := (54, .if_icmp .ne 9, 3)) mq_28 ci_28 (List.mem_of_getElem? (i := 33) rfl)
theorem cd_28_57 : mt_cd 28 57 = some (.iinc 3 1) := mt_cd_of (q := (57, .iinc 3 1, 3)) mq_28 ci_28 (List.mem_of_getElem? (i := 34) rfl)
theorem cd_28_60 : mt_cd 28 60 = some (.goto (-33)) := mt_cd_of (q := (60, .goto (-33), 3)) mq_28 ci_28 (List.mem_of_getElem? (i := 35) rfl)
theorem cd_28_63 : mt_cd 28 63 = some (.iload_n 3) := mt_cd_of (q := (63, .iload_n 3, 1)) mq_28 ci_28 (List.mem_of_getElem? (i := 36) rfl)
theorem cd_28_64 : mt_cd 28 64 = some (.aload_n 0) := mt_cd_of (q := (64, .aload_n 0, 1)) mq_28 ci_28 (List.mem_of_getElem? (i := 37) rfl)
theorem cd_28_65 : mt_cd 28 65 = some (.getfield 31) := mt_cd_of (q := (65, .getfield 31, 3)) mq_28 ci_28 (List.mem_of_getElem? (i := 38) rfl)
theorem cd_28_68 : mt_cd 28 68 = some (.if_icmp .ne 21) := mt_cd_of (q := (68, .if_icmp .ne 21, 3)) mq_28 ci_28 (List.mem_of_getElem? (i := 39) rfl)
theorem cd_28_71 : mt_cd 28 71 = some (.ldc 61) := mt_cd_of (q := (71, .ldc 61, 2)) mq_28 ci_28 (List.mem_of_getElem? (i := 40) rfl)
theorem cd_28_73 : mt_cd 28 73 = some (.iload_n 2) := mt_cd_of (q := (73, .iload_n 2, 1)) mq_28 ci_28 (List.mem_of_getElem? (i := 41) rfl)
theorem cd_28_74 : mt_cd 28 74 = some (.aload_n 0) := mt_cd_of (q := (74, .aload_n 0, 1)) mq_28 ci_28 (List.mem_of_getElem? (i := 42) rfl)
theorem cd_28_75 : mt_cd 28 75 = some (.getfield 31) := mt_cd_of (q := (75, .getfield 31, 3)) mq_28 ci_28 (List.mem_of_getElem? (i := 43) rfl)
theorem cd_28_78 : mt_cd 28 78 = some (.iadd) := mt_cd_of (q := (78, .iadd, 1)) mq_28 ci_28 (List.mem_of_getElem? (i := 44) rfl)
theorem cd_28_79 : mt_cd 28 79 = some (.invokevirtual 63) := mt_cd_of (q := (79, .invokevirtual 63, 3)) mq_28 ci_28 (List.mem_of_getElem? (i := 45) rfl)
theorem cd_28_82 : mt_cd 28 82 = some (.bipush 32) := mt_cd_of (q := (82, .bipush 32, 2)) mq_28 ci_28 (List.mem_of_getElem? (i := 46) rfl)
theorem cd_28_84 : mt_cd 28 84 = some (.if_icmp .ne 5) := mt_cd_of (q := (84, .if_icmp .ne 5, 3)) mq_28 ci_28 (List.mem_of_getElem? (i := 47) rfl)
theorem cd_28_87 : mt_cd 28 87 = some (.iload_n 1) := mt_cd_of (q := (87, .iload_n 1, 1)) mq_28 ci_28 (List.mem_of_getElem? (i := 48) rfl)
theorem cd_28_88 : mt_cd 28 88 = some (.ireturn) := mt_cd_of (q := (88, .ireturn, 1)) mq_28 ci_28 (List.mem_of_getElem? (i := 49) rfl)
theorem cd_28_89 : mt_cd 28 89 = some (.iinc 1 1) := mt_cd_of (q := (89, .iinc 1 1, 3)) mq_28 ci_28 (List.mem_of_getElem? (i := 50) rfl)
theorem cd_28_92 : mt_cd 28 92 = some (.goto (-78)) := mt_cd_of (q := (92, .goto (-78), 3)) mq_28 ci_28 (List.mem_of_getElem? (i := 51) rfl)
theorem cd_28_95 : mt_cd 28 95 = some (.bipush 38) := mt_cd_of (q := (95, .bipush 38, 2)) mq_28 ci_28 (List.mem_of_getElem? (i := 52) rfl)
theorem cd_28_97 : mt_cd 28 97 = some (.ireturn) := mt_cd_of (q := (97, .ireturn, 1)) mq_28 ci_28 (List.mem_of_getElem? (i := 53) rfl)
theorem b_28_0 {d : Nat} {Q : (Option Value ⊕ Nat) → mi_H → Prop} (n sl : Nat) (f : Nat → mi_C) {l1 : Nat} {o2 : Option Value} {o3 : Option Value} {o4 : Option Value} {fs5 : List Value} {x8 : Int32} (h6 : f l1 = .inr (1, fs5)) (h7 : l1 < n) (h9 : fs5[4]? = some (.int x8)) (h10 : x8 < 8 → mi_W d 28 12 [some (.ref l1), o2, o3, o4] [] (n, sl, f) Q) (h11 : ¬ (x8 < 8) → mi_W d 28 9 [some (.ref l1), o2, o3, o4] [] (n, sl, f) Q) : mi_W d 28 0 [some (.ref l1), o2, o3, o4] [] (n, sl, f) Q := by
  refine w_aload_n cd_28_0 rfl ?_
  refine w_getfield cd_28_1 (show mt_f 1 31 = some (1, 4) by decide +kernel) h6 h7 h9 ?_
  refine w_bipush (v := 8) cd_28_4 (by decide) ?_
  exact w_if_icmplt cd_28_6 (by decide) h10 h11
theorem b_28_9 {d : Nat} {Q : (Option Value ⊕ Nat) → mi_H → Prop} (n sl : Nat) (f : Nat → mi_C) {l1 : Nat} {o2 : Option Value} {o3 : Option Value} {o4 : Option Value} (h5 : Q (.inl (some (.int 38))) (n, sl, f)) : mi_W d 28 9 [some (.ref l1), o2, o3, o4] [] (n, sl, f) Q := by
  refine w_bipush (v := 38) cd_28_9 (by decide) ?_
  exact w_ireturn_i cd_28_11 (by decide +kernel) h5
theorem b_28_12 {d : Nat} {Q : (Option Value ⊕ Nat) → mi_H → Prop} (n sl : Nat) (f : Nat → mi_C) {l1 : Nat} {o2 : Option Value} {o3 : Option Value} {o4 : Option Value} (h5 : mi_W d 28 14 [some (.ref l1), some (.int 0), o3, o4] [] (n, sl, f) Q) : mi_W d 28 12 [some (.ref l1), o2, o3, o4] [] (n, sl, f) Q := by
  refine w_iconst (v := 0) cd_28_12 (by decide) ?_
  refine w_istore_n (ls' := [some (.ref l1), some (.int 0), o3, o4]) cd_28_13 (Nat.le_of_ble_eq_true rfl) rfl ?_
  exact h5
theorem b_28_14 {d : Nat} {Q : (Option Value ⊕ Nat) → mi_H → Prop} (n sl : Nat) (f : Nat → mi_C) {l1 : Nat} {l2 : Int32} {o3 : Option Value} {o4 : Option Value} (h5 : 24 ≤ l2 → mi_W d 28 95 [some (.ref l1), some (.int l2), o3, o4] [] (n, sl, f) Q) (h6 : ¬ (24 ≤ l2) → mi_W d 28 20 [some (.ref l1), some (.int l2), o3, o4] [] (n, sl, f) Q) : mi_W d 28 14 [some (.ref l1), some (.int l2), o3, o4] [] (n, sl, f) Q := by
  refine w_iload_n cd_28_14 rfl ?_
  refine w_bipush (v := 24) cd_28_15 (by decide) ?_
  exact w_if_icmpge cd_28_17 (by decide) h5 h6
theorem b_28_20 {d : Nat} {Q : (Option Value ⊕ Nat) → mi_H → Prop} (n sl : Nat) (f : Nat → mi_C) {l1 : Nat} {l2 : Int32} {o3 : Option Value} {o4 : Option Value} (h5 : mi_W d 28 27 [some (.ref l1), some (.int l2), some (.int (l2 * 8)), some (.int 0)] [] (n, sl, f) Q) : mi_W d 28 20 [some (.ref l1), some (.int l2), o3, o4] [] (n, sl, f) Q := by
  refine w_iload_n cd_28_20 rfl ?_
  refine w_bipush (v := 8) cd_28_21 (by decide) ?_
  refine w_imul cd_28_23 ?_
  refine w_istore_n (ls' := [some (.ref l1), some (.int l2), some (.int (l2 * 8)), o4]) cd_28_24 (Nat.le_of_ble_eq_true rfl) rfl ?_
  refine w_iconst (v := 0) cd_28_25 (by decide) ?_
  refine w_istore_n (ls' := [some (.ref l1), some (.int l2), some (.int (l2 * 8)), some (.int 0)]) cd_28_26 (Nat.le_of_ble_eq_true rfl) rfl ?_
  exact h5
theorem b_28_27 {d : Nat} {Q : (Option Value ⊕ Nat) → mi_H → Prop} (n sl : Nat) (f : Nat → mi_C) {l1 : Nat} {l2 : Int32} {l3 : Int32} {l4 : Int32} {fs5 : List Value} {x8 : Int32} (h6 : f l1 = .inr (1, fs5)) (h7 : l1 < n) (h9 : fs5[4]? = some (.int x8)) (h10 : x8 ≤ l4 → mi_W d 28 63 [some (.ref l1), some (.int l2), some (.int l3), some (.int l4)] [] (n, sl, f) Q) (h11 : ¬ (x8 ≤ l4) → mi_W d 28 35 [some (.ref l1), some (.int l2), some (.int l3), some (.int l4)] [] (n, sl, f) Q) : mi_W d 28 27 [some (.ref l1), some (.int l2), some (.int l3), some (.int l4)] [] (n, sl, f) Q := by
  refine w_iload_n cd_28_27 rfl ?_
  refine w_aload_n cd_28_28 rfl ?_
  refine w_getfield cd_28_29 (show mt_f 1 31 = some (1, 4) by decide +kernel) h6 h7 h9 ?_
  exact w_if_icmpge cd_28_32 (by decide) h10 h11
theorem b_28_35 {d : Nat} {Q : (Option Value ⊕ Nat) → mi_H → Prop} (n sl : Nat) (f : Nat → mi_C) {l1 : Nat} {l2 : Int32} {l3 : Int32} {l4 : Int32} {fs5 : List Value} (h6 : f (mi_SC + 1 + 2 * 3) = .inr (17, fs5)) (h7 : (mi_SC + 1 + 2 * 3) < n ∨ (mi_SC < (mi_SC + 1 + 2 * 3) ∧ ((mi_SC + 1 + 2 * 3) - mi_SC - 1) / 2 < mt_ns)) (h8 : mi_W d 29 0 (mi_en 2 [.ref (mi_SC + 1 + 2 * 3), .int (l3 + l4)]) [] (n, sl, f) (mi_Kc d 28 40 [some (.ref l1), some (.int l2), some (.int l3), some (.int l4)] [] Q)) : mi_W (d + 1) 28 35 [some (.ref l1), some (.int l2), some (.int l3), some (.int l4)] [] (n, sl, f) Q := by
  refine w_ldc (n := 3) cd_28_35 (by decide +kernel) ?_
  refine w_iload_n cd_28_37 rfl ?_
  refine w_iload_n cd_28_38 rfl ?_
  refine w_iadd cd_28_39 ?_
  exact w_invokevirtual cd_28_40 (show mt_m 1 63 = some (29, 0) by decide +kernel) (rest := []) rfl (as := [.ref (mi_SC + 1 + 2 * 3), .int (l3 + l4)]) rfl h6 h7 ⟨Nat.le_of_ble_eq_true rfl, Nat.le_of_ble_eq_true rfl, Nat.le_of_ble_eq_true rfl⟩ h8
theorem b_28_43 {d : Nat} {Q : (Option Value ⊕ Nat) → mi_H → Prop} (n sl : Nat) (f : Nat → mi_C) {l1 : Nat} {l2 : Int32} {l3 : Int32} {l4 : Int32} {s5 : Int32} {fs6 : List Value} {x9 : Nat} {fs11 : List Value} {x14 : Int32} (m16 i16 : Nat) (g16 : Nat → Int32) (h7 : f l1 = .inr (1, fs6)) (h8 : l1 < n) (h10 : fs6[0]? = some (.ref x9)) (h12 : f l1 = .inr (1, fs11)) (h13 : l1 < n) (h15 : fs11[3]? = some (.int x14)) (h17 : f x9 = .inl (1, m16, .inl g16)) (h18 : x9 < n) (h19 : mi_ix (x14 + l4) m16 i16) (h20 : ¬ s5 = (g16 i16) → mi_W d 28 63 [some (.ref l1), some (.int l2), some (.int l3), some (.int l4)] [] (n, sl, f) Q) (h21 : ¬ (¬ s5 = (g16 i16)) → mi_W d 28 57 [some (.ref l1), some (.int l2), some (.int l3), some (.int l4)] [] (n, sl, f) Q) : mi_W d 28 43 [some (.ref l1), some (.int l2), some (.int l3), some (.int l4)] [.int s5] (n, sl, f) Q := by
  refine w_aload_n cd_28_43 rfl ?_
  refine w_getfield cd_28_44 (show mt_f 1 9 = some (1, 0) by decide +kernel) h7 h8 h10 ?_
  refine w_aload_n cd_28_47 rfl ?_
  refine w_getfield cd_28_48 (show mt_f 1 28 = some (1, 3) by decide +kernel) h12 h13 h15 ?_
  refine w_iload_n cd_28_51 rfl ?_
  refine w_iadd cd_28_52 ?_
  refine w_baload1 cd_28_53 h17 h18 h19 ?_
  exact w_if_icmpne cd_28_54 (by decide) h20 h21
theorem b_28_57 {d : Nat} {Q : (Option Value ⊕ Nat) → mi_H → Prop} (n sl : Nat) (f : Nat → mi_C) {l1 : Nat} {l2 : Int32} {l3 : Int32} {l4 : Int32} (h5 : mi_W d 28 27 [some (.ref l1), some (.int l2), some (.int l3), some (.int (l4 + 1))] [] (n, sl, f) Q) : mi_W d 28 57 [some (.ref l1), some (.int l2), some (.int l3), some (.int l4)] [] (n, sl, f) Q := by
  refine w_iinc (v := 1) (ls' := [some (.ref l1), some (.int l2), some (.int l3), some (.int (l4 + 1))]) cd_28_57 rfl (by decide) rfl ?_
  exact w_goto cd_28_60 (by decide) h5
theorem b_28_63 {d : Nat} {Q : (Option Value ⊕ Nat) → mi_H → Prop} (n sl : Nat) (f : Nat → mi_C) {l1 : Nat} {l2 : Int32} {l3 : Int32} {l4 : Int32} {fs5 : List Value} {x8 : Int32} (h6 : f l1 = .inr (1, fs5)) (h7 : l1 < n) (h9 : fs5[4]? = some (.int x8)) (h10 : ¬ l4 = x8 → mi_W d 28 89 [some (.ref l1), some (.int l2), some (.int l3), some (.int l4)] [] (n, sl, f) Q) (h11 : ¬ (¬ l4 = x8) → mi_W d 28 71 [some (.ref l1), some (.int l2), some (.int l3), some (.int l4)] [] (n, sl, f) Q) : mi_W d 28 63 [some (.ref l1), some (.int l2), some (.int l3), some (.int l4)] [] (n, sl, f) Q := by
  refine w_iload_n cd_28_63 rfl ?_
  refine w_aload_n cd_28_64 rfl ?_
  refine w_getfield cd_28_65 (show mt_f 1 31 = some (1, 4) by decide +kernel) h6 h7 h9 ?_
  exact w_if_icmpne cd_28_68 (by decide) h10 h11
theorem b_28_71 {d : Nat} {Q : (Option Value ⊕ Nat) → mi_H → Prop} (n sl : Nat) (f : Nat → mi_C) {l1 : Nat} {l2 : Int32} {l3 : Int32} {l4 : Int32} {fs5 : List Value} {x8 : Int32} {fs10 : List Value} (h6 : f l1 = .inr (1, fs5)) (h7 : l1 < n) (h9 : fs5[4]? = some (.int x8)) (h11 : f (mi_SC + 1 + 2 * 3) = .inr (17, fs10)) (h12 : (mi_SC + 1 + 2 * 3) < n ∨ (mi_SC < (mi_SC + 1 + 2 * 3) ∧ ((mi_SC + 1 + 2 * 3) - mi_SC - 1) / 2 < mt_ns)) (h13 : mi_W d 29 0 (mi_en 2 [.ref (mi_SC + 1 + 2 * 3), .int (l3 + x8)]) [] (n, sl, f) (mi_Kc d 28 79 [some (.ref l1), some (.int l2), some (.int l3), some (.int l4)] [] Q)) : mi_W (d + 1) 28 71 [some (.ref l1), some (.int l2), some (.int l3), some (.int l4)] [] (n, sl, f) Q := by
  refine w_ldc (n := 3) cd_28_71 (by decide +kernel) ?_
  refine w_iload_n cd_28_73 rfl ?_
  refine w_aload_n cd_28_74 rfl ?_
  refine w_getfield cd_28_75 (show mt_f 1 31 = some (1, 4) by decide +kernel) h6 h7 h9 ?_
  refine w_iadd cd_28_78 ?_
  exact w_invokevirtual cd_28_79 (show mt_m 1 63 = some (29, 0) by decide +kernel) (rest := []) rfl (as := [.ref (mi_SC + 1 + 2 * 3), .int (l3 + x8)]) rfl h11 h12 ⟨Nat.le_of_ble_eq_true rfl, Nat.le_of_ble_eq_true rfl, Nat.le_of_ble_eq_true rfl⟩ h13
theorem b_28_82 {d : Nat} {Q : (Option Value ⊕ Nat) → mi_H → Prop} (n sl : Nat) (f : Nat → mi_C) {l1 : Nat} {l2 : Int32} {l3 : Int32} {l4 : Int32} {s5 : Int32} (h6 : ¬ s5 = 32 → mi_W d 28 89 [some (.ref l1), some (.int l2), some (.int l3), some (.int l4)] [] (n, sl, f) Q) (h7 : ¬ (¬ s5 = 32) → mi_W d 28 87 [some (.ref l1), some (.int l2), some (.int l3), some (.int l4)] [] (n, sl, f) Q) : mi_W d 28 82 [some (.ref l1), some (.int l2), some (.int l3), some (.int l4)] [.int s5] (n, sl, f) Q := by
  refine w_bipush (v := 32) cd_28_82 (by decide) ?_
  exact w_if_icmpne cd_28_84 (by decide) h6 h7
theorem b_28_87 {d : Nat} {Q : (Option Value ⊕ Nat) → mi_H → Prop} (n sl : Nat) (f : Nat → mi_C) {l1 : Nat} {l2 : Int32} {l3 : Int32} {l4 : Int32} (h5 : Q (.inl (some (.int l2))) (n, sl, f)) : mi_W d 28 87 [some (.ref l1), some (.int l2), some (.int l3), some (.int l4)] [] (n, sl, f) Q := by
  refine w_iload_n cd_28_87 rfl ?_
  exact w_ireturn_i cd_28_88 (by decide +kernel) h5
theorem b_28_89 {d : Nat} {Q : (Option Value ⊕ Nat) → mi_H → Prop} (n sl : Nat) (f : Nat → mi_C) {l1 : Nat} {l2 : Int32} {l3 : Int32} {l4 : Int32} (h5 : mi_W d 28 14 [some (.ref l1), some (.int (l2 + 1)), some (.int l3), some (.int l4)] [] (n, sl, f) Q) : mi_W d 28 89 [some (.ref l1), some (.int l2), some (.int l3), some (.int l4)] [] (n, sl, f) Q := by
  refine w_iinc (v := 1) (ls' := [some (.ref l1), some (.int (l2 + 1)), some (.int l3), some (.int l4)]) cd_28_89 rfl (by decide) rfl ?_
  exact w_goto cd_28_92 (by decide) h5
theorem b_28_95 {d : Nat} {Q : (Option Value ⊕ Nat) → mi_H → Prop} (n sl : Nat) (f : Nat → mi_C) {l1 : Nat} {l2 : Int32} {o3 : Option Value} {o4 : Option Value} (h5 : Q (.inl (some (.int 38))) (n, sl, f)) : mi_W d 28 95 [some (.ref l1), some (.int l2), o3, o4] [] (n, sl, f) Q := by
  refine w_bipush (v := 38) cd_28_95 (by decide) ?_
  exact w_ireturn_i cd_28_97 (by decide +kernel) h5
/-! MarloweHost$Scanner.scanNumber()V -/
set_option maxRecDepth 100000 in
theorem mq_34 : mt_q 34 = my_34 := rfl
set_option maxRecDepth 100000 in
theorem ci_34 : mt_inc 0 my_34.cd = true := by decide +kernel
theorem cd_34_0 : mt_cd 34 0 = some (.aload_n 0) := mt_cd_of (q := (0, .aload_n 0, 1)) mq_34 ci_34 (List.mem_of_getElem? (i := 0) rfl)
theorem cd_34_1 : mt_cd 34 1 = some (.getfield 9) := mt_cd_of (q := (1, .getfield 9, 3)) mq_34 ci_34 (List.mem_of_getElem? (i := 1) rfl)
theorem cd_34_4 : mt_cd 34 4 = some (.aload_n 0) := mt_cd_of (q := (4, .aload_n 0, 1)) mq_34 ci_34 (List.mem_of_getElem? (i := 2) rfl)
theorem cd_34_5 : mt_cd 34 5 = some (.getfield 28) := mt_cd_of (q := (5, .getfield 28, 3)) mq_34 ci_34 (List.mem_of_getElem? (i := 3) rfl)
theorem cd_34_8 : mt_cd 34 8 = some (.baload) := mt_cd_of (q := (8, .baload, 1)) mq_34 ci_34 (List.mem_of_getElem? (i := 4) rfl)
theorem cd_34_9 : mt_cd 34 9 = some (.bipush 45) := mt_cd_of (q := (9, .bipush 45, 2)) mq_34 ci_34 (List.mem_of_getElem? (i := 5) rfl)
theorem cd_34_11 : mt_cd 34 11 = some (.if_icmp .ne 7) := mt_cd_of (q := (11, .if_icmp .ne 7, 3)) mq_34 ci_34 (List.mem_of_getElem? (i := 6) rfl)
theorem cd_34_14 : mt_cd 34 14 = some (.iconst 1) := mt_cd_of (q := (14, .iconst 1, 1)) mq_34 ci_34 (List.mem_of_getElem? (i := 7) rfl)
theorem cd_34_15 : mt_cd 34 15 = some (.goto 4) := mt_cd_of (q := (15, .goto 4, 3)) mq_34 ci_34 (List.mem_of_getElem? (i := 8) rfl)
theorem cd_34_18 : mt_cd 34 18 = some (.iconst 0) := mt_cd_of (q := (18, .iconst 0, 1)) mq_34 ci_34 (List.mem_of_getElem? (i := 9) rfl)
theorem cd_34_19 : mt_cd 34 19 = some (.istore_n 1) := mt_cd_of (q := (19, .istore_n 1, 1)) mq_34 ci_34 (List.mem_of_getElem? (i := 10) rfl)
theorem cd_34_20 : mt_cd 34 20 = some (.iload_n 1) := mt_cd_of (q := (20, .iload_n 1, 1)) mq_34 ci_34 (List.mem_of_getElem? (i := 11) rfl)
theorem cd_34_21 : mt_cd 34 21 = some (.ifCond .eq 12) := mt_cd_of (q := (21, .ifCond .eq 12, 3)) mq_34 ci_34 (List.mem_of_getElem? (i := 12) rfl)
theorem cd_34_24 : mt_cd 34 24 = some (.aload_n 0) := mt_cd_of (q := (24, .aload_n 0, 1)) mq_34 ci_34 (List.mem_of_getElem? (i := 13) rfl)
theorem cd_34_25 : mt_cd 34 25 = some (.getfield 28) := mt_cd_of (q := (25, .getfield 28, 3)) mq_34 ci_34 (List.mem_of_getElem? (i := 14) rfl)
theorem cd_34_28 : mt_cd 34 28 = some (.iconst 1) := mt_cd_of (q := (28, .iconst 1, 1)) mq_34 ci_34 (List.mem_of_getElem? (i := 15) rfl)
theorem cd_34_29 : mt_cd 34 29 = some (.iadd) := mt_cd_of (q := (29, .iadd, 1)) mq_34 ci_34 (List.mem_of_getElem? (i := 16) rfl)
theorem cd_34_30 : mt_cd 34 30 = some (.goto 7) := mt_cd_of (q := (30, .goto 7, 3)) mq_34 ci_34 (List.mem_of_getElem? (i := 17) rfl)
theorem cd_34_33 : mt_cd 34 33 = some (.aload_n 0) := mt_cd_of (q := (33, .aload_n 0, 1)) mq_34 ci_34 (List.mem_of_getElem? (i := 18) rfl)
theorem cd_34_34 : mt_cd 34 34 = some (.getfield 28) := mt_cd_of (q := (34, .getfield 28, 3)) mq_34 ci_34 (List.mem_of_getElem? (i := 19) rfl)
theorem cd_34_37 : mt_cd 34 37 = some (.istore_n 2) := mt_cd_of (q := (37, .istore_n 2, 1)) mq_34 ci_34 (List.mem_of_getElem? (i := 20) rfl)
theorem cd_34_38 : mt_cd 34 38 = some (.iload_n 2) := mt_cd_of (q := (38, .iload_n 2, 1)) mq_34 ci_34 (List.mem_of_getElem? (i := 21) rfl)
theorem cd_34_39 : mt_cd 34 39 = some (.istore_n 3) := mt_cd_of (q := (39, .istore_n 3, 1)) mq_34 ci_34 (List.mem_of_getElem? (i := 22) rfl)
theorem cd_34_40 : mt_cd 34 40 = some (.lconst 0) := mt_cd_of (q := (40, .lconst 0, 1)) mq_34 ci_34 (List.mem_of_getElem? (i := 23) rfl)
theorem cd_34_41 : mt_cd 34 41 = some (.lstore 4) := mt_cd_of (q := (41, .lstore 4, 2)) mq_34 ci_34 (List.mem_of_getElem? (i := 24) rfl)
theorem cd_34_43 : mt_cd 34 43 = some (.iload_n 3) := mt_cd_of (q := (43, .iload_n 3, 1)) mq_34 ci_34 (List.mem_of_getElem? (i := 25) rfl)
theorem cd_34_44 : mt_cd 34 44 = some (.iload_n 2) := mt_cd_of (q := (44, .iload_n 2, 1)) mq_34 ci_34 (List.mem_of_getElem? (i := 26) rfl)
theorem cd_34_45 : mt_cd 34 45 = some (.bipush 17) := mt_cd_of (q := (45, .bipush 17, 2)) mq_34 ci_34 (List.mem_of_getElem? (i := 27) rfl)
theorem cd_34_47 : mt_cd 34 47 = some (.iadd) := mt_cd_of (q := (47, .iadd, 1)) mq_34 ci_34 (List.mem_of_getElem? (i := 28) rfl)
theorem cd_34_48 : mt_cd 34 48 = some (.if_icmp .ge 36) := mt_cd_of (q := (48, .if_icmp .ge 36, 3)) mq_34 ci_34 (List.mem_of_getElem? (i := 29) rfl)
theorem cd_34_51 : mt_cd 34 51 = some (.aload_n 0) := mt_cd_of (q := (51, .aload_n 0, 1)) mq_34 ci_34 (List.mem_of_getElem? (i := 30) rfl)
theorem cd_34_52 : mt_cd 34 52 = some (.iload_n 3) := mt_cd_of (q := (52, .iload_n 3, 1)) mq_34 ci_34 (List.mem_of_getElem? (i := 31) rfl)
theorem cd_34_53 : mt_cd 34 53 = some (.invokevirtual 51) := mt_cd_of (q := (53, .invokevirtual 51, 3)) mq_34 ci_34 (List.mem_of_getElem? (i := 32) rfl)
theorem cd_34_56 : mt_cd 34 56 = some (.ifCond .eq 28) := mt_cd_of (q := (56, .ifCond .eq 28, 3)) mq_34 ci_34 (List.mem_of_getElem? (i := 33) rfl)
theorem cd_34_59 : mt_cd 34 59 = some (.lload 4) := mt_cd_of (q := (59, .lload 4, 2)) mq_34 ci_34 (List.mem_of_getElem? (i := 34) rfl)
theorem cd_34_61 : mt_cd 34 61 = some (.ldc2_w 69) := mt_cd_of (q := (61, .ldc2_w 69, 3)) mq_34 ci_34 (List.mem_of_getElem? (i := 35) rfl)
theorem cd_34_64 : mt_cd 34 64 = some (.lmul) := mt_cd_of (q := (64, .lmul, 1)) mq_34 ci_34 (List.mem_of_getElem? (i := 36) rfl)
theorem cd_34_65 : mt_cd 34 65 = some (.aload_n 0) := mt_cd_of (q := (65, .aload_n 0, 1)) mq_34 ci_34 (List.mem_of_getElem? (i := 37) rfl)
theorem cd_34_66 : mt_cd 34 66 = some (.getfield 9) := mt_cd_of (q := (66, .getfield 9, 3)) mq_34 ci_34 (List.mem_of_getElem? (i := 38) rfl)
theorem cd_34_69 : mt_cd 34 69 = some (.iload_n 3) := mt_cd_of (q := (69, .iload_n 3, 1)) mq_34 ci_34 (List.mem_of_getElem? (i := 39) rfl)
theorem cd_34_70 : mt_cd 34 70 = some (.baload) := mt_cd_of (q := (70, .baload, 1)) mq_34 ci_34 (List.mem_of_getElem? (i := 40) rfl)
theorem cd_34_71 : mt_cd 34 71 = some (.bipush 48) := mt_cd_of (q := (71, .bipush 48, 2)) mq_34 ci_34 (List.mem_of_getElem? (i := 41) rfl)
theorem cd_34_73 : mt_cd 34 73 = some (.isub) := mt_cd_of (q := (73, .isub, 1)) mq_34 ci_34 (List.mem_of_getElem? (i := 42) rfl)
theorem cd_34_74 : mt_cd 34 74 = some (.i2l) := mt_cd_of (q := (74, .i2l, 1)) mq_34 ci_34 (List.mem_of_getElem? (i := 43) rfl)
theorem cd_34_75 : mt_cd 34 75 = some (.ladd) := mt_cd_of (q := (75, .ladd, 1)) mq_34 ci_34 (List.mem_of_getElem? (i := 44) rfl)
theorem cd_34_76 : mt_cd 34 76 = some (.lstore 4) := mt_cd_of (q := (76, .lstore 4, 2)) mq_34 ci_34 (List.mem_of_getElem? (i := 45) rfl)
theorem cd_34_78 : mt_cd 34 78 = some (.iinc 3 1) := mt_cd_of (q := (78, .iinc 3 1, 3)) mq_34 ci_34 (List.mem_of_getElem? (i := 46) rfl)
theorem cd_34_81 : mt_cd 34 81 = some (.goto (-38)) := mt_cd_of (q := (81, .goto (-38), 3)) mq_34 ci_34 (List.mem_of_getElem? (i := 47) rfl)
theorem cd_34_84 : mt_cd 34 84 = some (.aload_n 0) := mt_cd_of (q := (84, .aload_n 0, 1)) mq_34 ci_34 (List.mem_of_getElem? (i := 48) rfl)
theorem cd_34_85 : mt_cd 34 85 = some (.iload_n 3) := mt_cd_of (q := (85, .iload_n 3, 1)) mq_34 ci_34 (List.mem_of_getElem? (i := 49) rfl)
theorem cd_34_86 : mt_cd 34 86 = some (.aload_n 0) := mt_cd_of (q := (86, .aload_n 0, 1)) mq_34 ci_34 (List.mem_of_getElem? (i := 50) rfl)
theorem cd_34_87 : mt_cd 34 87 = some (.getfield 28) := mt_cd_of (q := (87, .getfield 28, 3)) mq_34 ci_34 (List.mem_of_getElem? (i := 51) rfl)
theorem cd_34_90 : mt_cd 34 90 = some (.isub) := mt_cd_of (q := (90, .isub, 1)) mq_34 ci_34 (List.mem_of_getElem? (i := 52) rfl)
theorem cd_34_91 : mt_cd 34 91 = some (.putfield 31) := mt_cd_of (q := (91, .putfield 31, 3)) mq_34 ci_34 (List.mem_of_getElem? (i := 53) rfl)
theorem cd_34_94 : mt_cd 34 94 = some (.aload_n 0) := mt_cd_of (q := (94, .aload_n 0, 1)) mq_34 ci_34 (List.mem_of_getElem? (i := 54) rfl)
theorem cd_34_95 : mt_cd 34 95 = some (.bipush 37) := mt_cd_of (q := (95, .bipush 37, 2)) mq_34 ci_34 (List.mem_of_getElem? (i := 55) rfl)
theorem cd_34_97 : mt_cd 34 97 = some (.putfield 37) := mt_cd_of (q := (97, .putfield 37, 3)) mq_34 ci_34 (List.mem_of_getElem? (i := 56) rfl)
theorem cd_34_100 : mt_cd 34 100 = some (.aload_n 0) := mt_cd_of (q := (100, .aload_n 0, 1)) mq_34 ci_34 (List.mem_of_getElem? (i := 57) rfl)
theorem cd_34_101 : mt_cd 34 101 = some (.iload_n 1) := mt_cd_of (q := (101, .iload_n 1, 1)) mq_34 ci_34 (List.mem_of_getElem? (i := 58) rfl)
theorem cd_34_102 : mt_cd 34 102 = some (.ifCond .eq 9) := mt_cd_of (q := (102, .ifCond .eq 9, 3)) mq_34 ci_34 (List.mem_of_getElem? (i := 59) rfl)
theorem cd_34_105 : mt_cd 34 105 = some (.lload 4) := mt_cd_of (q := (105, .lload 4, 2)) mq_34 ci_34 (List.mem_of_getElem? (i := 60) rfl)
theorem cd_34_107 : mt_cd 34 107 = some (.lneg) := mt_cd_of (q := (107, .lneg, 1)) mq_34 ci_34 (List.mem_of_getElem? (i := 61) rfl)
theorem cd_34_108 : mt_cd 34 108 = some (.goto 5) := mt_cd_of (q := (108, .goto 5, 3)) mq_34 ci_34 (List.mem_of_getElem? (i := 62) rfl)
theorem cd_34_111 : mt_cd 34 111 = some (.lload 4) := mt_cd_of (q := (111, .lload 4, 2)) mq_34 ci_34 (List.mem_of_getElem? (i := 63) rfl)
theorem cd_34_113 : mt_cd 34 113 = some (.putfield 71) := mt_cd_of (q := (113, .putfield 71, 3)) mq_34 ci_34 (List.mem_of_getElem? (i := 64) rfl)
theorem cd_34_116 : mt_cd 34 116 = some (.return_) := mt_cd_of (q := (116, .return_, 1)) mq_34 ci_34 (List.mem_of_getElem? (i := 65) rfl)
theorem b_34_0 {d : Nat} {Q : (Option Value ⊕ Nat) → mi_H → Prop} (n sl : Nat) (f : Nat → mi_C) {l1 : Nat} {o2 : Option Value} {o3 : Option Value} {o4 : Option Value} {o5 : Option Value} {o6 : Option Value} {fs7 : List Value} {x10 : Nat} {fs12 : List Value} {x15 : Int32} (m17 i17 : Nat) (g17 : Nat → Int32) (h8 : f l1 = .inr (1, fs7)) (h9 : l1 < n) (h11 : fs7[0]? = some (.ref x10)) (h13 : f l1 = .inr (1, fs12)) (h14 : l1 < n) (h16 : fs12[3]? = some (.int x15)) (h18 : f x10 = .inl (1, m17, .inl g17)) (h19 : x10 < n) (h20 : mi_ix x15 m17 i17) (h21 : ¬ (g17 i17) = 45 → mi_W d 34 18 [some (.ref l1), o2, o3, o4, o5, o6] [] (n, sl, f) Q) (h22 : ¬ (¬ (g17 i17) = 45) → mi_W d 34 14 [some (.ref l1), o2, o3, o4, o5, o6] [] (n, sl, f) Q) : mi_W d 34 0 [some (.ref l1), o2, o3, o4, o5, o6] [] (n, sl, f) Q := by
  refine w_aload_n cd_34_0 rfl ?_
  refine w_getfield cd_34_1 (show mt_f 1 9 = some (1, 0) by decide +kernel) h8 h9 h11 ?_
  refine w_aload_n cd_34_4 rfl ?_
  refine w_getfield cd_34_5 (show mt_f 1 28 = some (1, 3) by decide +kernel) h13 h14 h16 ?_
  refine w_baload1 cd_34_8 h18 h19 h20 ?_
  refine w_bipush (v := 45) cd_34_9 (by decide) ?_
  exact w_if_icmpne cd_34_11 (by decide) h21 h22
theorem b_34_14 {d : Nat} {Q : (Option Value ⊕ Nat) → mi_H → Prop} (n sl : Nat) (f : Nat → mi_C) {l1 : Nat} {o2 : Option Value} {o3 : Option Value} {o4 : Option Value} {o5 : Option Value} {o6 : Option Value} (h7 : mi_W d 34 19 [some (.ref l1), o2, o3, o4, o5, o6] [.int 1] (n, sl, f) Q) : mi_W d 34 14 [some (.ref l1), o2, o3, o4, o5, o6] [] (n, sl, f) Q := by
  refine w_iconst (v := 1) cd_34_14 (by decide) ?_
  exact w_goto cd_34_15 (by decide) h7
theorem b_34_18 {d : Nat} {Q : (Option Value ⊕ Nat) → mi_H → Prop} (n sl : Nat) (f : Nat → mi_C) {l1 : Nat} {o2 : Option Value} {o3 : Option Value} {o4 : Option Value} {o5 : Option Value} {o6 : Option Value} (h7 : mi_W d 34 19 [some (.ref l1), o2, o3, o4, o5, o6] [.int 0] (n, sl, f) Q) : mi_W d 34 18 [some (.ref l1), o2, o3, o4, o5, o6] [] (n, sl, f) Q := by
  refine w_iconst (v := 0) cd_34_18 (by decide) ?_
  exact h7
theorem b_34_19 {d : Nat} {Q : (Option Value ⊕ Nat) → mi_H → Prop} (n sl : Nat) (f : Nat → mi_C) {l1 : Nat} {o2 : Option Value} {o3 : Option Value} {o4 : Option Value} {o5 : Option Value} {o6 : Option Value} {s7 : Int32} (h8 : s7 = (0 : Int32) → mi_W d 34 33 [some (.ref l1), some (.int s7), o3, o4, o5, o6] [] (n, sl, f) Q) (h9 : ¬ (s7 = (0 : Int32)) → mi_W d 34 24 [some (.ref l1), some (.int s7), o3, o4, o5, o6] [] (n, sl, f) Q) : mi_W d 34 19 [some (.ref l1), o2, o3, o4, o5, o6] [.int s7] (n, sl, f) Q := by
  refine w_istore_n (ls' := [some (.ref l1), some (.int s7), o3, o4, o5, o6]) cd_34_19 (Nat.le_of_ble_eq_true rfl) rfl ?_
  refine w_iload_n cd_34_20 rfl ?_
  exact w_ifeq cd_34_21 (by decide) h8 h9
theorem b_34_24 {d : Nat} {Q : (Option Value ⊕ Nat) → mi_H → Prop} (n sl : Nat) (f : Nat → mi_C) {l1 : Nat} {l2 : Int32} {o3 : Option Value} {o4 : Option Value} {o5 : Option Value} {o6 : Option Value} {fs7 : List Value} {x10 : Int32} (h8 : f l1 = .inr (1, fs7)) (h9 : l1 < n) (h11 : fs7[3]? = some (.int x10)) (h12 : mi_W d 34 37 [some (.ref l1), some (.int l2), o3, o4, o5, o6] [.int (x10 + 1)] (n, sl, f) Q) : mi_W d 34 24 [some (.ref l1), some (.int l2), o3, o4, o5, o6] [] (n, sl, f) Q := by
  refine w_aload_n cd_34_24 rfl ?_
  refine w_getfield cd_34_25 (show mt_f 1 28 = some (1, 3) by decide +kernel) h8 h9 h11 ?_
  refine w_iconst (v := 1) cd_34_28 (by decide) ?_
  refine w_iadd cd_34_29 ?_
  exact w_goto cd_34_30 (by decide) h12
theorem b_34_33 {d : Nat} {Q : (Option Value ⊕ Nat) → mi_H → Prop} (n sl : Nat) (f : Nat → mi_C) {l1 : Nat} {l2 : Int32} {o3 : Option Value} {o4 : Option Value} {o5 : Option Value} {o6 : Option Value} {fs7 : List Value} {x10 : Int32} (h8 : f l1 = .inr (1, fs7)) (h9 : l1 < n) (h11 : fs7[3]? = some (.int x10)) (h12 : mi_W d 34 37 [some (.ref l1), some (.int l2), o3, o4, o5, o6] [.int x10] (n, sl, f) Q) : mi_W d 34 33 [some (.ref l1), some (.int l2), o3, o4, o5, o6] [] (n, sl, f) Q := by
  refine w_aload_n cd_34_33 rfl ?_
  refine w_getfield cd_34_34 (show mt_f 1 28 = some (1, 3) by decide +kernel) h8 h9 h11 ?_
  exact h12
theorem b_34_37 {d : Nat} {Q : (Option Value ⊕ Nat) → mi_H → Prop} (n sl : Nat) (f : Nat → mi_C) {l1 : Nat} {l2 : Int32} {o3 : Option Value} {o4 : Option Value} {o5 : Option Value} {o6 : Option Value} {s7 : Int32} (h8 : mi_W d 34 43 [some (.ref l1), some (.int l2), some (.int s7), some (.int s7), some (.long 0), none] [] (n, sl, f) Q) : mi_W d 34 37 [some (.ref l1), some (.int l2), o3, o4, o5, o6] [.int s7] (n, sl, f) Q := by
  refine w_istore_n (ls' := [some (.ref l1), some (.int l2), some (.int s7), o4, o5, o6]) cd_34_37 (Nat.le_of_ble_eq_true rfl) rfl ?_
  refine w_iload_n cd_34_38 rfl ?_
  refine w_istore_n (ls' := [some (.ref l1), some (.int l2), some (.int s7), some (.int s7), o5, o6]) cd_34_39 (Nat.le_of_ble_eq_true rfl) rfl ?_
  refine w_lconst (lv := 0) cd_34_40 (by decide) ?_
  refine w_lstore (ls' := [some (.ref l1), some (.int l2), some (.int s7), some (.int s7), some (.long 0), none]) cd_34_41 (Nat.le_of_ble_eq_true rfl) rfl ?_
  exact h8
theorem b_34_43 {d : Nat} {Q : (Option Value ⊕ Nat) → mi_H → Prop} (n sl : Nat) (f : Nat → mi_C) {l1 : Nat} {l2 : Int32} {l3 : Int32} {l4 : Int32} {l5 : Int64} (h6 : (l3 + 17) ≤ l4 → mi_W d 34 84 [some (.ref l1), some (.int l2), some (.int l3), some (.int l4), some (.long l5), none] [] (n, sl, f) Q) (h7 : ¬ ((l3 + 17) ≤ l4) → mi_W d 34 51 [some (.ref l1), some (.int l2), some (.int l3), some (.int l4), some (.long l5), none] [] (n, sl, f) Q) : mi_W d 34 43 [some (.ref l1), some (.int l2), some (.int l3), some (.int l4), some (.long l5), none] [] (n, sl, f) Q := by
  refine w_iload_n cd_34_43 rfl ?_
  refine w_iload_n cd_34_44 rfl ?_
  refine w_bipush (v := 17) cd_34_45 (by decide) ?_
  refine w_iadd cd_34_47 ?_
  exact w_if_icmpge cd_34_48 (by decide) h6 h7
theorem b_34_51 {d : Nat} {Q : (Option Value ⊕ Nat) → mi_H → Prop} (n sl : Nat) (f : Nat → mi_C) {l1 : Nat} {l2 : Int32} {l3 : Int32} {l4 : Int32} {l5 : Int64} {fs6 : List Value} (h7 : f l1 = .inr (1, fs6)) (h8 : l1 < n) (h9 : mi_W d 27 0 (mi_en 2 [.ref l1, .int l4]) [] (n, sl, f) (mi_Kc d 34 53 [some (.ref l1), some (.int l2), some (.int l3), some (.int l4), some (.long l5), none] [] Q)) : mi_W (d + 1) 34 51 [some (.ref l1), some (.int l2), some (.int l3), some (.int l4), some (.long l5), none] [] (n, sl, f) Q := by
  refine w_aload_n cd_34_51 rfl ?_
  refine w_iload_n cd_34_52 rfl ?_
  exact w_invokevirtual cd_34_53 (show mt_m 1 51 = some (27, 0) by decide +kernel) (rest := []) rfl (as := [.ref l1, .int l4]) rfl h7 (Or.inl h8) ⟨Nat.le_of_ble_eq_true rfl, Nat.le_of_ble_eq_true rfl, Nat.le_of_ble_eq_true rfl⟩ h9
theorem b_34_56 {d : Nat} {Q : (Option Value ⊕ Nat) → mi_H → Prop} (n sl : Nat) (f : Nat → mi_C) {l1 : Nat} {l2 : Int32} {l3 : Int32} {l4 : Int32} {l5 : Int64} {s6 : Int32} (h7 : s6 = (0 : Int32) → mi_W d 34 84 [some (.ref l1), some (.int l2), some (.int l3), some (.int l4), some (.long l5), none] [] (n, sl, f) Q) (h8 : ¬ (s6 = (0 : Int32)) → mi_W d 34 59 [some (.ref l1), some (.int l2), some (.int l3), some (.int l4), some (.long l5), none] [] (n, sl, f) Q) : mi_W d 34 56 [some (.ref l1), some (.int l2), some (.int l3), some (.int l4), some (.long l5), none] [.int s6] (n, sl, f) Q := by
  exact w_ifeq cd_34_56 (by decide) h7 h8
theorem b_34_59 {d : Nat} {Q : (Option Value ⊕ Nat) → mi_H → Prop} (n sl : Nat) (f : Nat → mi_C) {l1 : Nat} {l2 : Int32} {l3 : Int32} {l4 : Int32} {l5 : Int64} {fs6 : List Value} {x9 : Nat} (m11 i11 : Nat) (g11 : Nat → Int32) (h7 : f l1 = .inr (1, fs6)) (h8 : l1 < n) (h10 : fs6[0]? = some (.ref x9)) (h12 : f x9 = .inl (1, m11, .inl g11)) (h13 : x9 < n) (h14 : mi_ix l4 m11 i11) (h15 : mi_W d 34 43 [some (.ref l1), some (.int l2), some (.int l3), some (.int (l4 + 1)), some (.long ((l5 * 10) + ((((g11 i11) - 48) : Int32).toInt64))), none] [] (n, sl, f) Q) : mi_W d 34 59 [some (.ref l1), some (.int l2), some (.int l3), some (.int l4), some (.long l5), none] [] (n, sl, f) Q := by
  refine w_lload cd_34_59 rfl ?_
  refine w_ldc2_w (lv := 10) cd_34_61 (by decide +kernel) ?_
  refine w_lmul cd_34_64 ?_
  refine w_aload_n cd_34_65 rfl ?_
  refine w_getfield cd_34_66 (show mt_f 1 9 = some (1, 0) by decide +kernel) h7 h8 h10 ?_
  refine w_iload_n cd_34_69 rfl ?_
  refine w_baload1 cd_34_70 h12 h13 h14 ?_
  refine w_bipush (v := 48) cd_34_71 (by decide) ?_
  refine w_isub cd_34_73 ?_
  refine w_i2l cd_34_74 ?_
  refine w_ladd cd_34_75 ?_
  refine w_lstore (ls' := [some (.ref l1), some (.int l2), some (.int l3), some (.int l4), some (.long ((l5 * 10) + ((((g11 i11) - 48) : Int32).toInt64))), none]) cd_34_76 (Nat.le_of_ble_eq_true rfl) rfl ?_
  refine w_iinc (v := 1) (ls' := [some (.ref l1), some (.int l2), some (.int l3), some (.int (l4 + 1)), some (.long ((l5 * 10) + ((((g11 i11) - 48) : Int32).toInt64))), none]) cd_34_78 rfl (by decide) rfl ?_
  exact w_goto cd_34_81 (by decide) h15
theorem b_34_84 {d : Nat} {Q : (Option Value ⊕ Nat) → mi_H → Prop} (n sl : Nat) (f : Nat → mi_C) {l1 : Nat} {l2 : Int32} {l3 : Int32} {l4 : Int32} {l5 : Int64} {fs6 : List Value} {x9 : Int32} {fs11 : List Value} {fs15 : List Value} (h7 : f l1 = .inr (1, fs6)) (h8 : l1 < n) (h10 : fs6[3]? = some (.int x9)) (h12 : f l1 = .inr (1, fs11)) (h13 : l1 < n) (h14 : 4 < fs11.length) (h16 : (va_up f l1 (.inr (1, fs11.set 4 (.int (l4 - x9))))) l1 = .inr (1, fs15)) (h17 : l1 < n) (h18 : 2 < fs15.length) (h19 : l2 = (0 : Int32) → mi_W d 34 111 [some (.ref l1), some (.int l2), some (.int l3), some (.int l4), some (.long l5), none] [.ref l1] (n, sl, (va_up (va_up f l1 (.inr (1, fs11.set 4 (.int (l4 - x9))))) l1 (.inr (1, fs15.set 2 (.int 37))))) Q) (h20 : ¬ (l2 = (0 : Int32)) → mi_W d 34 105 [some (.ref l1), some (.int l2), some (.int l3), some (.int l4), some (.long l5), none] [.ref l1] (n, sl, (va_up (va_up f l1 (.inr (1, fs11.set 4 (.int (l4 - x9))))) l1 (.inr (1, fs15.set 2 (.int 37))))) Q) : mi_W d 34 84 [some (.ref l1), some (.int l2), some (.int l3), some (.int l4), some (.long l5), none] [] (n, sl, f) Q := by
  refine w_aload_n cd_34_84 rfl ?_
  refine w_iload_n cd_34_85 rfl ?_
  refine w_aload_n cd_34_86 rfl ?_
  refine w_getfield cd_34_87 (show mt_f 1 28 = some (1, 3) by decide +kernel) h7 h8 h10 ?_
  refine w_isub cd_34_90 ?_
  refine w_putfield (w := .int (l4 - x9)) cd_34_91 (show mt_f 1 31 = some (1, 4) by decide +kernel) h12 h13 ⟨h14, rfl, Or.inl (by decide)⟩ ?_
  refine w_aload_n cd_34_94 rfl ?_
  refine w_bipush (v := 37) cd_34_95 (by decide) ?_
  refine w_putfield (w := .int 37) cd_34_97 (show mt_f 1 37 = some (1, 2) by decide +kernel) h16 h17 ⟨h18, rfl, Or.inl (by decide)⟩ ?_
  refine w_aload_n cd_34_100 rfl ?_
  refine w_iload_n cd_34_101 rfl ?_
  exact w_ifeq cd_34_102 (by decide) h19 h20
theorem b_34_105 {d : Nat} {Q : (Option Value ⊕ Nat) → mi_H → Prop} (n sl : Nat) (f : Nat → mi_C) {l1 : Nat} {l2 : Int32} {l3 : Int32} {l4 : Int32} {l5 : Int64} {s6 : Nat} (h7 : mi_W d 34 113 [some (.ref l1), some (.int l2), some (.int l3), some (.int l4), some (.long l5), none] [.long (-l5), .ref s6] (n, sl, f) Q) : mi_W d 34 105 [some (.ref l1), some (.int l2), some (.int l3), some (.int l4), some (.long l5), none] [.ref s6] (n, sl, f) Q := by
  refine w_lload cd_34_105 rfl ?_
  refine w_lneg cd_34_107 ?_
  exact w_goto cd_34_108 (by decide) h7
theorem b_34_111 {d : Nat} {Q : (Option Value ⊕ Nat) → mi_H → Prop} (n sl : Nat) (f : Nat → mi_C) {l1 : Nat} {l2 : Int32} {l3 : Int32} {l4 : Int32} {l5 : Int64} {s6 : Nat} (h7 : mi_W d 34 113 [some (.ref l1), some (.int l2), some (.int l3), some (.int l4), some (.long l5), none] [.long l5, .ref s6] (n, sl, f) Q) : mi_W d 34 111 [some (.ref l1), some (.int l2), some (.int l3), some (.int l4), some (.long l5), none] [.ref s6] (n, sl, f) Q := by
  refine w_lload cd_34_111 rfl ?_
  exact h7
theorem b_34_113 {d : Nat} {Q : (Option Value ⊕ Nat) → mi_H → Prop} (n sl : Nat) (f : Nat → mi_C) {l1 : Nat} {l2 : Int32} {l3 : Int32} {l4 : Int32} {l5 : Int64} {s6 : Int64} {s7 : Nat} {fs8 : List Value} (h9 : f s7 = .inr (1, fs8)) (h10 : s7 < n) (h11 : 5 < fs8.length) (h12 : Q (.inl none) (n, sl, (va_up f s7 (.inr (1, fs8.set 5 (.long s6)))))) : mi_W d 34 113 [some (.ref l1), some (.int l2), some (.int l3), some (.int l4), some (.long l5), none] [.long s6, .ref s7] (n, sl, f) Q := by
  refine w_putfield (w := .long s6) cd_34_113 (show mt_f 1 71 = some (1, 5) by decide +kernel) h9 h10 ⟨h11, rfl, Or.inl (by decide)⟩ ?_
  exact w_return cd_34_116 (by decide +kernel) h12
/-! MarloweHost$Scanner.scanSign()V -/
set_option maxRecDepth 100000 in
theorem mq_35 : mt_q 35 = my_35 := rfl
set_option maxRecDepth 100000 in
theorem ci_35 : mt_inc 0 my_35.cd = true := by decide +kernel
theorem cd_35_0 : mt_cd 35 0 = some (.aload_n 0) := mt_cd_of (q := (0, .aload_n 0, 1)) mq_35 ci_35 (List.mem_of_getElem? (i := 0) rfl)
theorem cd_35_1 : mt_cd 35 1 = some (.getfield 28) := mt_cd_of (q := (1, .getfield 28, 3)) mq_35 ci_35 (List.mem_of_getElem? (i := 1) rfl)
theorem cd_35_4 : mt_cd 35 4 = some (.iconst 1) := mt_cd_of (q := (4, .iconst 1, 1)) mq_35 ci_35 (List.mem_of_getElem? (i := 2) rfl)
theorem cd_35_5 : mt_cd 35 5 = some (.iadd) := mt_cd_of (q := (5, .iadd, 1)) mq_35 ci_35 (List.mem_of_getElem? (i := 3) rfl)
theorem cd_35_6 : mt_cd 35 6 = some (.aload_n 0) := mt_cd_of (q := (6, .aload_n 0, 1)) mq_35 ci_35 (List.mem_of_getElem? (i := 4) rfl)
theorem cd_35_7 : mt_cd 35 7 = some (.getfield 25) := mt_cd_of (q := (7, .getfield 25, 3)) mq_35 ci_35 (List.mem_of_getElem? (i := 5) rfl)
theorem cd_35_10 : mt_cd 35 10 = some (.if_icmp .ge 23) := mt_cd_of (q := (10, .if_icmp .ge 23, 3)) mq_35 ci_35 (List.mem_of_getElem? (i := 6) rfl)
theorem cd_35_13 : mt_cd 35 13 = some (.aload_n 0) := mt_cd_of (q := (13, .aload_n 0, 1)) mq_35 ci_35 (List.mem_of_getElem? (i := 7) rfl)
theorem cd_35_14 : mt_cd 35 14 = some (.getfield 9) := mt_cd_of (q := (14, .getfield 9, 3)) mq_35 ci_35 (List.mem_of_getElem? (i := 8) rfl)
theorem cd_35_17 : mt_cd 35 17 = some (.aload_n 0) := mt_cd_of (q := (17, .aload_n 0, 1)) mq_35 ci_35 (List.mem_of_getElem? (i := 9) rfl)
theorem cd_35_18 : mt_cd 35 18 = some (.getfield 28) := mt_cd_of (q := (18, .getfield 28, 3)) mq_35 ci_35 (List.mem_of_getElem? (i := 10) rfl)
theorem cd_35_21 : mt_cd 35 21 = some (.iconst 1) := mt_cd_of (q := (21, .iconst 1, 1)) mq_35 ci_35 (List.mem_of_getElem? (i := 11) rfl)
theorem cd_35_22 : mt_cd 35 22 = some (.iadd) := mt_cd_of (q := (22, .iadd, 1)) mq_35 ci_35 (List.mem_of_getElem? (i := 12) rfl)
theorem cd_35_23 : mt_cd 35 23 = some (.baload) := mt_cd_of (q := (23, .baload, 1)) mq_35 ci_35 (List.mem_of_getElem? (i := 13) rfl)
theorem cd_35_24 : mt_cd 35 24 = some (.bipush 61) := mt_cd_of (q := (24, .bipush 61, 2)) mq_35 ci_35 (List.mem_of_getElem? (i := 14) rfl)
theorem cd_35_26 : mt_cd 35 26 = some (.if_icmp .ne 7) := mt_cd_of (q := (26, .if_icmp .ne 7, 3)) mq_35 ci_35 (List.mem_of_getElem? (i := 15) rfl)
theorem cd_35_29 : mt_cd 35 29 = some (.iconst 1) := mt_cd_of (q := (29, .iconst 1, 1)) mq_35 ci_35 (List.mem_of_getElem? (i := 16) rfl)
theorem cd_35_30 : mt_cd 35 30 = some (.goto 4) := mt_cd_of (q := (30, .goto 4, 3)) mq_35 ci_35 (List.mem_of_getElem? (i := 17) rfl)
theorem cd_35_33 : mt_cd 35 33 = some (.iconst 0) := mt_cd_of (q := (33, .iconst 0, 1)) mq_35 ci_35 (List.mem_of_getElem? (i := 18) rfl)
theorem cd_35_34 : mt_cd 35 34 = some (.istore_n 1) := mt_cd_of (q := (34, .istore_n 1, 1)) mq_35 ci_35 (List.mem_of_getElem? (i := 19) rfl)
theorem cd_35_35 : mt_cd 35 35 = some (.aload_n 0) := mt_cd_of (q := (35, .aload_n 0, 1)) mq_35 ci_35 (List.mem_of_getElem? (i := 20) rfl)
theorem cd_35_36 : mt_cd 35 36 = some (.aload_n 0) := mt_cd_of (q := (36, .aload_n 0, 1)) mq_35 ci_35 (List.mem_of_getElem? (i := 21) rfl)
theorem cd_35_37 : mt_cd 35 37 = some (.getfield 9) := mt_cd_of (q := (37, .getfield 9, 3)) mq_35 ci_35 (List.mem_of_getElem? (i := 22) rfl)
theorem cd_35_40 : mt_cd 35 40 = some (.aload_n 0) := mt_cd_of (q := (40, .aload_n 0, 1)) mq_35 ci_35 (List.mem_of_getElem? (i := 23) rfl)
theorem cd_35_41 : mt_cd 35 41 = some (.getfield 28) := mt_cd_of (q := (41, .getfield 28, 3)) mq_35 ci_35 (List.mem_of_getElem? (i := 24) rfl)
theorem cd_35_44 : mt_cd 35 44 = some (.baload) := mt_cd_of (q := (44, .baload, 1)) mq_35 ci_35 (List.mem_of_getElem? (i := 25) rfl)
theorem cd_35_45 : mt_cd 35 45 = some (.iload_n 1) := mt_cd_of (q := (45, .iload_n 1, 1)) mq_35 ci_35 (List.mem_of_getElem? (i := 26) rfl)
theorem cd_35_46 : mt_cd 35 46 = some (.invokestatic 75) := mt_cd_of (q := (46, .invokestatic 75, 3)) mq_35 ci_35 (List.mem_of_getElem? (i := 27) rfl)
theorem cd_35_49 : mt_cd 35 49 = some (.putfield 37) := mt_cd_of (q := (49, .putfield 37, 3)) mq_35 ci_35 (List.mem_of_getElem? (i := 28) rfl)
theorem cd_35_52 : mt_cd 35 52 = some (.aload_n 0) := mt_cd_of (q := (52, .aload_n 0, 1)) mq_35 ci_35 (List.mem_of_getElem? (i := 29) rfl)
theorem cd_35_53 : mt_cd 35 53 = some (.aload_n 0) := mt_cd_of (q := (53, .aload_n 0, 1)) mq_35 ci_35 (List.mem_of_getElem? (i := 30) rfl)
theorem cd_35_54 : mt_cd 35 54 = some (.getfield 37) := mt_cd_of (q := (54, .getfield 37, 3)) mq_35 ci_35 (List.mem_of_getElem? (i := 31) rfl)
theorem cd_35_57 : mt_cd 35 57 = some (.bipush 33) := mt_cd_of (q := (57, .bipush 33, 2)) mq_35 ci_35 (List.mem_of_getElem? (i := 32) rfl)
theorem cd_35_59 : mt_cd 35 59 = some (.if_icmp .eq 12) := mt_cd_of (q := (59, .if_icmp .eq 12, 3)) mq_35 ci_35 (List.mem_of_getElem? (i := 33) rfl)
theorem cd_35_62 : mt_cd 35 62 = some (.aload_n 0) := mt_cd_of (q := (62, .aload_n 0, 1)) mq_35 ci_35 (List.mem_of_getElem? (i := 34) rfl)
theorem cd_35_63 : mt_cd 35 63 = some (.getfield 37) := mt_cd_of (q := (63, .getfield 37, 3)) mq_35 ci_35 (List.mem_of_getElem? (i := 35) rfl)
theorem cd_35_66 : mt_cd 35 66 = some (.bipush 35) := mt_cd_of (q := (66, .bipush 35, 2)) mq_35 ci_35 (List.mem_of_getElem? (i := 36) rfl)
theorem cd_35_68 : mt_cd 35 68 = some (.if_icmp .ne 7) := mt_cd_of (q := (68, .if_icmp .ne 7, 3)) mq_35 ci_35 (List.mem_of_getElem? (i := 37) rfl)
theorem cd_35_71 : mt_cd 35 71 = some (.iconst 2) := mt_cd_of (q := (71, .iconst 2, 1)) mq_35 ci_35 (List.mem_of_getElem? (i := 38) rfl)
theorem cd_35_72 : mt_cd 35 72 = some (.goto 4) := mt_cd_of (q := (72, .goto 4, 3)) mq_35 ci_35 (List.mem_of_getElem? (i := 39) rfl)
theorem cd_35_75 : mt_cd 35 75 = some (.iconst 1) := mt_cd_of (q := (75, .iconst 1, 1)) mq_35 ci_35 (List.mem_of_getElem? (i := 40) rfl)
theorem cd_35_76 : mt_cd 35 76 = some (.putfield 31) := mt_cd_of (q := (76, .putfield 31, 3)) mq_35 ci_35 (List.mem_of_getElem? (i := 41) rfl)
theorem cd_35_79 : mt_cd 35 79 = some (.return_) := mt_cd_of (q := (79, .return_, 1)) mq_35 ci_35 (List.mem_of_getElem? (i := 42) rfl)
theorem b_35_0 {d : Nat} {Q : (Option Value ⊕ Nat) → mi_H → Prop} (n sl : Nat) (f : Nat → mi_C) {l1 : Nat} {o2 : Option Value} {fs3 : List Value} {x6 : Int32} {fs8 : List Value} {x11 : Int32} (h4 : f l1 = .inr (1, fs3)) (h5 : l1 < n) (h7 : fs3[3]? = some (.int x6)) (h9 : f l1 = .inr (1, fs8)) (h10 : l1 < n) (h12 : fs8[6]? = some (.int x11)) (h13 : x11 ≤ (x6 + 1) → mi_W d 35 33 [some (.ref l1), o2] [] (n, sl, f) Q) (h14 : ¬ (x11 ≤ (x6 + 1)) → mi_W d 35 13 [some (.ref l1), o2] [] (n, sl, f) Q) : mi_W d 35 0 [some (.ref l1), o2] [] (n, sl, f) Q := by
  refine w_aload_n cd_35_0 rfl ?_
  refine w_getfield cd_35_1 (show mt_f 1 28 = some (1, 3) by decide +kernel) h4 h5 h7 ?_
  refine w_iconst (v := 1) cd_35_4 (by decide) ?_
  refine w_iadd cd_35_5 ?_
  refine w_aload_n cd_35_6 rfl ?_
  refine w_getfield cd_35_7 (show mt_f 1 25 = some (1, 6) by decide +kernel) h9 h10 h12 ?_
  exact w_if_icmpge cd_35_10 (by decide) h13 h14
theorem b_35_13 {d : Nat} {Q : (Option Value ⊕ Nat) → mi_H → Prop} (n sl : Nat) (f : Nat → mi_C) {l1 : Nat} {o2 : Option Value} {fs3 : List Value} {x6 : Nat} {fs8 : List Value} {x11 : Int32} (m13 i13 : Nat) (g13 : Nat → Int32) (h4 : f l1 = .inr (1, fs3)) (h5 : l1 < n) (h7 : fs3[0]? = some (.ref x6)) (h9 : f l1 = .inr (1, fs8)) (h10 : l1 < n) (h12 : fs8[3]? = some (.int x11)) (h14 : f x6 = .inl (1, m13, .inl g13)) (h15 : x6 < n) (h16 : mi_ix (x11 + 1) m13 i13) (h17 : ¬ (g13 i13) = 61 → mi_W d 35 33 [some (.ref l1), o2] [] (n, sl, f) Q) (h18 : ¬ (¬ (g13 i13) = 61) → mi_W d 35 29 [some (.ref l1), o2] [] (n, sl, f) Q) : mi_W d 35 13 [some (.ref l1), o2] [] (n, sl, f) Q := by
  refine w_aload_n cd_35_13 rfl ?_
  refine w_getfield cd_35_14 (show mt_f 1 9 = some (1, 0) by decide +kernel) h4 h5 h7 ?_
  refine w_aload_n cd_35_17 rfl ?_
  refine w_getfield cd_35_18 (show mt_f 1 28 = some (1, 3) by decide +kernel) h9 h10 h12 ?_
  refine w_iconst (v := 1) cd_35_21 (by decide) ?_
  refine w_iadd cd_35_22 ?_
  refine w_baload1 cd_35_23 h14 h15 h16 ?_
  refine w_bipush (v := 61) cd_35_24 (by decide) ?_
  exact w_if_icmpne cd_35_26 (by decide) h17 h18
theorem b_35_29 {d : Nat} {Q : (Option Value ⊕ Nat) → mi_H → Prop} (n sl : Nat) (f : Nat → mi_C) {l1 : Nat} {o2 : Option Value} (h3 : mi_W d 35 34 [some (.ref l1), o2] [.int 1] (n, sl, f) Q) : mi_W d 35 29 [some (.ref l1), o2] [] (n, sl, f) Q := by
  refine w_iconst (v := 1) cd_35_29 (by decide) ?_
  exact w_goto cd_35_30 (by decide) h3
theorem b_35_33 {d : Nat} {Q : (Option Value ⊕ Nat) → mi_H → Prop} (n sl : Nat) (f : Nat → mi_C) {l1 : Nat} {o2 : Option Value} (h3 : mi_W d 35 34 [some (.ref l1), o2] [.int 0] (n, sl, f) Q) : mi_W d 35 33 [some (.ref l1), o2] [] (n, sl, f) Q := by
  refine w_iconst (v := 0) cd_35_33 (by decide) ?_
  exact h3
theorem b_35_34 {d : Nat} {Q : (Option Value ⊕ Nat) → mi_H → Prop} (n sl : Nat) (f : Nat → mi_C) {l1 : Nat} {o2 : Option Value} {s3 : Int32} {fs4 : List Value} {x7 : Nat} {fs9 : List Value} {x12 : Int32} (m14 i14 : Nat) (g14 : Nat → Int32) (h5 : f l1 = .inr (1, fs4)) (h6 : l1 < n) (h8 : fs4[0]? = some (.ref x7)) (h10 : f l1 = .inr (1, fs9)) (h11 : l1 < n) (h13 : fs9[3]? = some (.int x12)) (h15 : f x7 = .inl (1, m14, .inl g14)) (h16 : x7 < n) (h17 : mi_ix x12 m14 i14) (h18 : mi_W d 36 0 (mi_en 2 [.int (g14 i14), .int s3]) [] (n, sl, f) (mi_Kc d 35 46 [some (.ref l1), some (.int s3)] [.ref l1] Q)) : mi_W (d + 1) 35 34 [some (.ref l1), o2] [.int s3] (n, sl, f) Q := by
  refine w_istore_n (ls' := [some (.ref l1), some (.int s3)]) cd_35_34 (Nat.le_of_ble_eq_true rfl) rfl ?_
  refine w_aload_n cd_35_35 rfl ?_
  refine w_aload_n cd_35_36 rfl ?_
  refine w_getfield cd_35_37 (show mt_f 1 9 = some (1, 0) by decide +kernel) h5 h6 h8 ?_
  refine w_aload_n cd_35_40 rfl ?_
  refine w_getfield cd_35_41 (show mt_f 1 28 = some (1, 3) by decide +kernel) h10 h11 h13 ?_
  refine w_baload1 cd_35_44 h15 h16 h17 ?_
  refine w_iload_n cd_35_45 rfl ?_
  exact w_invokestatic cd_35_46 (show mt_m 1 75 = some (36, 4) by decide +kernel) (by decide) (rest := [.ref l1]) rfl (as := [.int (g14 i14), .int s3]) rfl ⟨Nat.le_of_ble_eq_true rfl, Nat.le_of_ble_eq_true rfl, Nat.le_of_ble_eq_true rfl⟩ h18
theorem b_35_49 {d : Nat} {Q : (Option Value ⊕ Nat) → mi_H → Prop} (n sl : Nat) (f : Nat → mi_C) {l1 : Nat} {l2 : Int32} {s3 : Int32} {s4 : Nat} {fs5 : List Value} {fs9 : List Value} {x12 : Int32} (h6 : f s4 = .inr (1, fs5)) (h7 : s4 < n) (h8 : 2 < fs5.length) (h10 : (va_up f s4 (.inr (1, fs5.set 2 (.int s3)))) l1 = .inr (1, fs9)) (h11 : l1 < n) (h13 : fs9[2]? = some (.int x12)) (h14 : x12 = 33 → mi_W d 35 71 [some (.ref l1), some (.int l2)] [.ref l1] (n, sl, (va_up f s4 (.inr (1, fs5.set 2 (.int s3))))) Q) (h15 : ¬ (x12 = 33) → mi_W d 35 62 [some (.ref l1), some (.int l2)] [.ref l1] (n, sl, (va_up f s4 (.inr (1, fs5.set 2 (.int s3))))) Q) : mi_W d 35 49 [some (.ref l1), some (.int l2)] [.int s3, .ref s4] (n, sl, f) Q := by
  refine w_putfield (w := .int s3) cd_35_49 (show mt_f 1 37 = some (1, 2) by decide +kernel) h6 h7 ⟨h8, rfl, Or.inl (by decide)⟩ ?_
  refine w_aload_n cd_35_52 rfl ?_
  refine w_aload_n cd_35_53 rfl ?_
  refine w_getfield cd_35_54 (show mt_f 1 37 = some (1, 2) by decide +kernel) h10 h11 h13 ?_
  refine w_bipush (v := 33) cd_35_57 (by decide) ?_
  exact w_if_icmpeq cd_35_59 (by decide) h14 h15
theorem b_35_62 {d : Nat} {Q : (Option Value ⊕ Nat) → mi_H → Prop} (n sl : Nat) (f : Nat → mi_C) {l1 : Nat} {l2 : Int32} {s3 : Nat} {fs4 : List Value} {x7 : Int32} (h5 : f l1 = .inr (1, fs4)) (h6 : l1 < n) (h8 : fs4[2]? = some (.int x7)) (h9 : ¬ x7 = 35 → mi_W d 35 75 [some (.ref l1), some (.int l2)] [.ref s3] (n, sl, f) Q) (h10 : ¬ (¬ x7 = 35) → mi_W d 35 71 [some (.ref l1), some (.int l2)] [.ref s3] (n, sl, f) Q) : mi_W d 35 62 [some (.ref l1), some (.int l2)] [.ref s3] (n, sl, f) Q := by
  refine w_aload_n cd_35_62 rfl ?_
  refine w_getfield cd_35_63 (show mt_f 1 37 = some (1, 2) by decide +kernel) h5 h6 h8 ?_
  refine w_bipush (v := 35) cd_35_66 (by decide) ?_
  exact w_if_icmpne cd_35_68 (by decide) h9 h10
theorem b_35_71 {d : Nat} {Q : (Option Value ⊕ Nat) → mi_H → Prop} (n sl : Nat) (f : Nat → mi_C) {l1 : Nat} {l2 : Int32} {s3 : Nat} (h4 : mi_W d 35 76 [some (.ref l1), some (.int l2)] [.int 2, .ref s3] (n, sl, f) Q) : mi_W d 35 71 [some (.ref l1), some (.int l2)] [.ref s3] (n, sl, f) Q := by
  refine w_iconst (v := 2) cd_35_71 (by decide) ?_
  exact w_goto cd_35_72 (by decide) h4
theorem b_35_75 {d : Nat} {Q : (Option Value ⊕ Nat) → mi_H → Prop} (n sl : Nat) (f : Nat → mi_C) {l1 : Nat} {l2 : Int32} {s3 : Nat} (h4 : mi_W d 35 76 [some (.ref l1), some (.int l2)] [.int 1, .ref s3] (n, sl, f) Q) : mi_W d 35 75 [some (.ref l1), some (.int l2)] [.ref s3] (n, sl, f) Q := by
  refine w_iconst (v := 1) cd_35_75 (by decide) ?_
  exact h4
theorem b_35_76 {d : Nat} {Q : (Option Value ⊕ Nat) → mi_H → Prop} (n sl : Nat) (f : Nat → mi_C) {l1 : Nat} {l2 : Int32} {s3 : Int32} {s4 : Nat} {fs5 : List Value} (h6 : f s4 = .inr (1, fs5)) (h7 : s4 < n) (h8 : 4 < fs5.length) (h9 : Q (.inl none) (n, sl, (va_up f s4 (.inr (1, fs5.set 4 (.int s3)))))) : mi_W d 35 76 [some (.ref l1), some (.int l2)] [.int s3, .ref s4] (n, sl, f) Q := by
  refine w_putfield (w := .int s3) cd_35_76 (show mt_f 1 31 = some (1, 4) by decide +kernel) h6 h7 ⟨h8, rfl, Or.inl (by decide)⟩ ?_
  exact w_return cd_35_79 (by decide +kernel) h9
/-! MarloweHost$Scanner.signOf(BZ)I -/
set_option maxRecDepth 100000 in
theorem mq_36 : mt_q 36 = my_36 := rfl
set_option maxRecDepth 100000 in
theorem ci_36 : mt_inc 0 my_36.cd = true := by decide +kernel
theorem cd_36_0 : mt_cd 36 0 = some (.iload_n 0) := mt_cd_of (q := (0, .iload_n 0, 1)) mq_36 ci_36 (List.mem_of_getElem? (i := 0) rfl)
theorem cd_36_1 : mt_cd 36 1 = some (.lookupswitch 150 #[(40, 99), (41, 102), (42, 117), (43, 111), (45, 114), (47, 120), (60, 123), (61, 147), (62, 135), (91, 105), (93, 108)]) := mt_cd_of (q := (1, .lookupswitch 150 #[(40, 99), (41, 102), (42, 117), (43, 111), (45, 114), (47, 120), (60, 123), (61, 147), (62, 135), (91, 105), (93, 108)], 99)) mq_36 ci_36 (List.mem_of_getElem? (i := 1) rfl)
theorem cd_36_100 : mt_cd 36 100 = some (.bipush 24) := mt_cd_of (q := (100, .bipush 24, 2)) mq_36 ci_36 (List.mem_of_getElem? (i := 2) rfl)
theorem cd_36_102 : mt_cd 36 102 = some (.ireturn) := mt_cd_of (q := (102, .ireturn, 1)) mq_36 ci_36 (List.mem_of_getElem? (i := 3) rfl)
theorem cd_36_103 : mt_cd 36 103 = some (.bipush 25) := mt_cd_of (q := (103, .bipush 25, 2)) mq_36 ci_36 (List.mem_of_getElem? (i := 4) rfl)
theorem cd_36_105 : mt_cd 36 105 = some (.ireturn) := mt_cd_of (q := (105, .ireturn, 1)) mq_36 ci_36 (List.mem_of_getElem? (i := 5) rfl)
theorem cd_36_106 : mt_cd 36 106 = some (.bipush 26) := mt_cd_of (q := (106, .bipush 26, 2)) mq_36 ci_36 (List.mem_of_getElem? (i := 6) rfl)
theorem cd_36_108 : mt_cd 36 108 = some (.ireturn) := mt_cd_of (q := (108, .ireturn, 1)) mq_36 ci_36 (List.mem_of_getElem? (i := 7) rfl)
theorem cd_36_109 : mt_cd 36 109 = some (.bipush 27) := mt_cd_of (q := (109, .bipush 27, 2)) mq_36 ci_36 (List.mem_of_getElem? (i := 8) rfl)
theorem cd_36_111 : mt_cd 36 111 = some (.ireturn) := mt_cd_of (q := (111, .ireturn, 1)) mq_36 ci_36 (List.mem_of_getElem? (i := 9) rfl)
theorem cd_36_112 : mt_cd 36 112 = some (.bipush 28) := mt_cd_of (q := (112, .bipush 28, 2)) mq_36 ci_36 (List.mem_of_getElem? (i := 10) rfl)
theorem cd_36_114 : mt_cd 36 114 = some (.ireturn) := mt_cd_of (q := (114, .ireturn, 1)) mq_36 ci_36 (List.mem_of_getElem? (i := 11) rfl)
theorem cd_36_115 : mt_cd 36 115 = some (.bipush 29) := mt_cd_of (q := (115, .bipush 29, 2)) mq_36 ci_36 (List.mem_of_getElem? (i := 12) rfl)
theorem cd_36_117 : mt_cd 36 117 = some (.ireturn) := mt_cd_of (q := (117, .ireturn, 1)) mq_36 ci_36 (List.mem_of_getElem? (i := 13) rfl)
theorem cd_36_118 : mt_cd 36 118 = some (.bipush 30) := mt_cd_of (q := (118, .bipush 30, 2)) mq_36 ci_36 (List.mem_of_getElem? (i := 14) rfl)
theorem cd_36_120 : mt_cd 36 120 = some (.ireturn) := mt_cd_of (q := (120, .ireturn, 1)) mq_36 ci_36 (List.mem_of_getElem? (i := 15) rfl)
theorem cd_36_121 : mt_cd 36 121 = some (.bipush 31) := mt_cd_of (q := (121, .bipush 31, 2)) mq_36 ci_36 (List.mem_of_getElem? (i := 16) rfl)
theorem cd_36_123 : mt_cd 36 123 = some (.ireturn) := mt_cd_of (q := (123, .ireturn, 1)) mq_36 ci_36 (List.mem_of_getElem? (i := 17) rfl)
theorem cd_36_124 : mt_cd 36 124 = some (.iload_n 1) := mt_cd_of (q := (124, .iload_n 1, 1)) mq_36 ci_36 (List.mem_of_getElem? (i := 18) rfl)
theorem cd_36_125 : mt_cd 36 125 = some (.ifCond .eq 8) := mt_cd_of (q := (125, .ifCond .eq 8, 3)) mq_36 ci_36 (List.mem_of_getElem? (i := 19) rfl)
theorem cd_36_128 : mt_cd 36 128 = some (.bipush 33) := mt_cd_of (q := (128, .bipush 33, 2)) mq_36 ci_36 (List.mem_of_getElem? (i := 20) rfl)
theorem cd_36_130 : mt_cd 36 130 = some (.goto 5) := mt_cd_of (q := (130, .goto 5, 3)) mq_36 ci_36 (List.mem_of_getElem? (i := 21) rfl)
theorem cd_36_133 : mt_cd 36 133 = some (.bipush 32) := mt_cd_of (q := (133, .bipush 32, 2)) mq_36 ci_36 (List.mem_of_getElem? (i := 22) rfl)
theorem cd_36_135 : mt_cd 36 135 = some (.ireturn) := mt_cd_of (q := (135, .ireturn, 1)) mq_36 ci_36 (List.mem_of_getElem? (i := 23) rfl)
theorem cd_36_136 : mt_cd 36 136 = some (.iload_n 1) := mt_cd_of (q := (136, .iload_n 1, 1)) mq_36 ci_36 (List.mem_of_getElem? (i := 24) rfl)
theorem cd_36_137 : mt_cd 36 137 = some (.ifCond .eq 8) := mt_cd_of (q := (137, .ifCond .eq 8, 3)) mq_36 ci_36 (List.mem_of_getElem? (i := 25) rfl)
theorem cd_36_140 : mt_cd 36 140 = some (.bipush 35) := mt_cd_of (q := (140, .bipush 35, 2)) mq_36 ci_36 (List.mem_of_getElem? (i := 26) rfl)
theorem cd_36_142 : mt_cd 36 142 = some (.goto 5) := mt_cd_of (q := (142, .goto 5, 3)) mq_36 ci_36 (List.mem_of_getElem? (i := 27) rfl)
theorem cd_36_145 : mt_cd 36 145 = some (.bipush 34) := mt_cd_of (q := (145, .bipush 34, 2)) mq_36 ci_36 (List.mem_of_getElem? (i := 28) rfl)
theorem cd_36_147 : mt_cd 36 147 = some (.ireturn) := mt_cd_of (q := (147, .ireturn, 1)) mq_36 ci_36 (List.mem_of_getElem? (i := 29) rfl)
theorem cd_36_148 : mt_cd 36 148 = some (.bipush 36) := mt_cd_of (q := (148, .bipush 36, 2)) mq_36 ci_36 (List.mem_of_getElem? (i := 30) rfl)
theorem cd_36_150 : mt_cd 36 150 = some (.ireturn) := mt_cd_of (q := (150, .ireturn, 1)) mq_36 ci_36 (List.mem_of_getElem? (i := 31) rfl)
theorem cd_36_151 : mt_cd 36 151 = some (.bipush 40) := mt_cd_of (q := (151, .bipush 40, 2)) mq_36 ci_36 (List.mem_of_getElem? (i := 32) rfl)
theorem cd_36_153 : mt_cd 36 153 = some (.ireturn) := mt_cd_of (q := (153, .ireturn, 1)) mq_36 ci_36 (List.mem_of_getElem? (i := 33) rfl)
theorem b_36_0 {d : Nat} {Q : (Option Value ⊕ Nat) → mi_H → Prop} (n sl : Nat) (f : Nat → mi_C) {l1 : Int32} {l2 : Int32} {t3 : Nat} (h4 : mi_j 1 (Op.lookupswitch.offset (#[(40, 99), (41, 102), (42, 117), (43, 111), (45, 114), (47, 120), (60, 123), (61, 147), (62, 135), (91, 105), (93, 108)] : Array (Int × Int)).toList 150 (l1 : Int32).toInt) = some t3) (h5 : mi_W d 36 t3 [some (.int l1), some (.int l2)] [] (n, sl, f) Q) : mi_W d 36 0 [some (.int l1), some (.int l2)] [] (n, sl, f) Q := by
  refine w_iload_n cd_36_0 rfl ?_
  exact w_lookupswitch cd_36_1 (by decide) h4 h5
theorem b_36_100 {d : Nat} {Q : (Option Value ⊕ Nat) → mi_H → Prop} (n sl : Nat) (f : Nat → mi_C) {l1 : Int32} {l2 : Int32} (h3 : Q (.inl (some (.int 24))) (n, sl, f)) : mi_W d 36 100 [some (.int l1), some (.int l2)] [] (n, sl, f) Q := by
  refine w_bipush (v := 24) cd_36_100 (by decide) ?_
  exact w_ireturn_i cd_36_102 (by decide +kernel) h3
theorem b_36_103 {d : Nat} {Q : (Option Value ⊕ Nat) → mi_H → Prop} (n sl : Nat) (f : Nat → mi_C) {l1 : Int32} {l2 : Int32} (h3 : Q (.inl (some (.int 25))) (n, sl, f)) : mi_W d 36 103 [some (.int l1), some (.int l2)] [] (n, sl, f) Q := by
  refine w_bipush (v := 25) cd_36_103 (by decide) ?_
  exact w_ireturn_i cd_36_105 (by decide +kernel) h3
theorem b_36_106 {d : Nat} {Q : (Option Value ⊕ Nat) → mi_H → Prop} (n sl : Nat) (f : Nat → mi_C) {l1 : Int32} {l2 : Int32} (h3 : Q (.inl (some (.int 26))) (n, sl, f)) : mi_W d 36 106 [some (.int l1), some (.int l2)] [] (n, sl, f) Q := by
  refine w_bipush (v := 26) cd_36_106 (by decide) ?_
  exact w_ireturn_i cd_36_108 (by decide +kernel) h3
theorem b_36_109 {d : Nat} {Q : (Option Value ⊕ Nat) → mi_H → Prop} (n sl : Nat) (f : Nat → mi_C) {l1 : Int32} {l2 : Int32} (h3 : Q (.inl (some (.int 27))) (n, sl, f)) : mi_W d 36 109 [some (.int l1), some (.int l2)] [] (n, sl, f) Q := by
  refine w_bipush (v := 27) cd_36_109 (by decide) ?_
  exact w_ireturn_i cd_36_111 (by decide +kernel) h3
theorem b_36_112 {d : Nat} {Q : (Option Value ⊕ Nat) → mi_H → Prop} (n sl : Nat) (f : Nat → mi_C) {l1 : Int32} {l2 : Int32} (h3 : Q (.inl (some (.int 28))) (n, sl, f)) : mi_W d 36 112 [some (.int l1), some (.int l2)] [] (n, sl, f) Q := by
  refine w_bipush (v := 28) cd_36_112 (by decide) ?_
  exact w_ireturn_i cd_36_114 (by decide +kernel) h3
theorem b_36_115 {d : Nat} {Q : (Option Value ⊕ Nat) → mi_H → Prop} (n sl : Nat) (f : Nat → mi_C) {l1 : Int32} {l2 : Int32} (h3 : Q (.inl (some (.int 29))) (n, sl, f)) : mi_W d 36 115 [some (.int l1), some (.int l2)] [] (n, sl, f) Q := by
  refine w_bipush (v := 29) cd_36_115 (by decide) ?_
  exact w_ireturn_i cd_36_117 (by decide +kernel) h3
theorem b_36_118 {d : Nat} {Q : (Option Value ⊕ Nat) → mi_H → Prop} (n sl : Nat) (f : Nat → mi_C) {l1 : Int32} {l2 : Int32} (h3 : Q (.inl (some (.int 30))) (n, sl, f)) : mi_W d 36 118 [some (.int l1), some (.int l2)] [] (n, sl, f) Q := by
  refine w_bipush (v := 30) cd_36_118 (by decide) ?_
  exact w_ireturn_i cd_36_120 (by decide +kernel) h3
theorem b_36_121 {d : Nat} {Q : (Option Value ⊕ Nat) → mi_H → Prop} (n sl : Nat) (f : Nat → mi_C) {l1 : Int32} {l2 : Int32} (h3 : Q (.inl (some (.int 31))) (n, sl, f)) : mi_W d 36 121 [some (.int l1), some (.int l2)] [] (n, sl, f) Q := by
  refine w_bipush (v := 31) cd_36_121 (by decide) ?_
  exact w_ireturn_i cd_36_123 (by decide +kernel) h3
theorem b_36_124 {d : Nat} {Q : (Option Value ⊕ Nat) → mi_H → Prop} (n sl : Nat) (f : Nat → mi_C) {l1 : Int32} {l2 : Int32} (h3 : l2 = (0 : Int32) → mi_W d 36 133 [some (.int l1), some (.int l2)] [] (n, sl, f) Q) (h4 : ¬ (l2 = (0 : Int32)) → mi_W d 36 128 [some (.int l1), some (.int l2)] [] (n, sl, f) Q) : mi_W d 36 124 [some (.int l1), some (.int l2)] [] (n, sl, f) Q := by
  refine w_iload_n cd_36_124 rfl ?_
  exact w_ifeq cd_36_125 (by decide) h3 h4
theorem b_36_128 {d : Nat} {Q : (Option Value ⊕ Nat) → mi_H → Prop} (n sl : Nat) (f : Nat → mi_C) {l1 : Int32} {l2 : Int32} (h3 : mi_W d 36 135 [some (.int l1), some (.int l2)] [.int 33] (n, sl, f) Q) : mi_W d 36 128 [some (.int l1), some (.int l2)] [] (n, sl, f) Q := by
  refine w_bipush (v := 33) cd_36_128 (by decide) ?_
  exact w_goto cd_36_130 (by decide) h3
theorem b_36_133 {d : Nat} {Q : (Option Value ⊕ Nat) → mi_H → Prop} (n sl : Nat) (f : Nat → mi_C) {l1 : Int32} {l2 : Int32} (h3 : mi_W d 36 135 [some (.int l1), some (.int l2)] [.int 32] (n, sl, f) Q) : mi_W d 36 133 [some (.int l1), some (.int l2)] [] (n, sl, f) Q := by
  refine w_bipush (v := 32) cd_36_133 (by decide) ?_
  exact h3
theorem b_36_135 {d : Nat} {Q : (Option Value ⊕ Nat) → mi_H → Prop} (n sl : Nat) (f : Nat → mi_C) {l1 : Int32} {l2 : Int32} {s3 : Int32} (h4 : Q (.inl (some (.int s3))) (n, sl, f)) : mi_W d 36 135 [some (.int l1), some (.int l2)] [.int s3] (n, sl, f) Q := by
  exact w_ireturn_i cd_36_135 (by decide +kernel) h4
theorem b_36_136 {d : Nat} {Q : (Option Value ⊕ Nat) → mi_H → Prop} (n sl : Nat) (f : Nat → mi_C) {l1 : Int32} {l2 : Int32} (h3 : l2 = (0 : Int32) → mi_W d 36 145 [some (.int l1), some (.int l2)] [] (n, sl, f) Q) (h4 : ¬ (l2 = (0 : Int32)) → mi_W d 36 140 [some (.int l1), some (.int l2)] [] (n, sl, f) Q) : mi_W d 36 136 [some (.int l1), some (.int l2)] [] (n, sl, f) Q := by
  refine w_iload_n cd_36_136 rfl ?_
  exact w_ifeq cd_36_137 (by decide) h3 h4
theorem b_36_140 {d : Nat} {Q : (Option Value ⊕ Nat) → mi_H → Prop} (n sl : Nat) (f : Nat → mi_C) {l1 : Int32} {l2 : Int32} (h3 : mi_W d 36 147 [some (.int l1), some (.int l2)] [.int 35] (n, sl, f) Q) : mi_W d 36 140 [some (.int l1), some (.int l2)] [] (n, sl, f) Q := by
  refine w_bipush (v := 35) cd_36_140 (by decide) ?_
  exact w_goto cd_36_142 (by decide) h3
theorem b_36_145 {d : Nat} {Q : (Option Value ⊕ Nat) → mi_H → Prop} (n sl : Nat) (f : Nat → mi_C) {l1 : Int32} {l2 : Int32} (h3 : mi_W d 36 147 [some (.int l1), some (.int l2)] [.int 34] (n, sl, f) Q) : mi_W d 36 145 [some (.int l1), some (.int l2)] [] (n, sl, f) Q := by
  refine w_bipush (v := 34) cd_36_145 (by decide) ?_
  exact h3
theorem b_36_147 {d : Nat} {Q : (Option Value ⊕ Nat) → mi_H → Prop} (n sl : Nat) (f : Nat → mi_C) {l1 : Int32} {l2 : Int32} {s3 : Int32} (h4 : Q (.inl (some (.int s3))) (n, sl, f)) : mi_W d 36 147 [some (.int l1), some (.int l2)] [.int s3] (n, sl, f) Q := by
  exact w_ireturn_i cd_36_147 (by decide +kernel) h4
theorem b_36_148 {d : Nat} {Q : (Option Value ⊕ Nat) → mi_H → Prop} (n sl : Nat) (f : Nat → mi_C) {l1 : Int32} {l2 : Int32} (h3 : Q (.inl (some (.int 36))) (n, sl, f)) : mi_W d 36 148 [some (.int l1), some (.int l2)] [] (n, sl, f) Q := by
  refine w_bipush (v := 36) cd_36_148 (by decide) ?_
  exact w_ireturn_i cd_36_150 (by decide +kernel) h3
theorem b_36_151 {d : Nat} {Q : (Option Value ⊕ Nat) → mi_H → Prop} (n sl : Nat) (f : Nat → mi_C) {l1 : Int32} {l2 : Int32} (h3 : Q (.inl (some (.int 40))) (n, sl, f)) : mi_W d 36 151 [some (.int l1), some (.int l2)] [] (n, sl, f) Q := by
  refine w_bipush (v := 40) cd_36_151 (by decide) ?_
  exact w_ireturn_i cd_36_153 (by decide +kernel) h3
/-! MarloweHost$Reader.readContract(I)I -/
set_option maxRecDepth 100000 in
theorem mq_37 : mt_q 37 = my_37 := rfl
set_option maxRecDepth 100000 in
theorem ci_37 : mt_inc 0 my_37.cd = true := by decide +kernel
theorem cd_37_0 : mt_cd 37 0 = some (.aload_n 0) := mt_cd_of (q := (0, .aload_n 0, 1)) mq_37 ci_37 (List.mem_append_left _ (show _ ∈ my_37_0 from List.mem_of_getElem? (i := 0) rfl))
theorem cd_37_1 : mt_cd 37 1 = some (.iload_n 1) := mt_cd_of (q := (1, .iload_n 1, 1)) mq_37 ci_37 (List.mem_append_left _ (show _ ∈ my_37_0 from List.mem_of_getElem? (i := 1) rfl))
theorem cd_37_2 : mt_cd 37 2 = some (.bipush 100) := mt_cd_of (q := (2, .bipush 100, 2)) mq_37 ci_37 (List.mem_append_left _ (show _ ∈ my_37_0 from List.mem_of_getElem? (i := 2) rfl))
theorem cd_37_4 : mt_cd 37 4 = some (.if_icmp .gt 7) := mt_cd_of (q := (4, .if_icmp .gt 7, 3)) mq_37 ci_37 (List.mem_append_left _ (show _ ∈ my_37_0 from List.mem_of_getElem? (i := 3) rfl))
theorem cd_37_7 : mt_cd 37 7 = some (.iconst 1) := mt_cd_of (q := (7, .iconst 1, 1)) mq_37 ci_37 (List.mem_append_left _ (show _ ∈ my_37_0 from List.mem_of_getElem? (i := 4) rfl))
theorem cd_37_8 : mt_cd 37 8 = some (.goto 4) := mt_cd_of (q := (8, .goto 4, 3)) mq_37 ci_37 (List.mem_append_left _ (show _ ∈ my_37_0 from List.mem_of_getElem? (i := 5) rfl))
theorem cd_37_11 : mt_cd 37 11 = some (.iconst 0) := mt_cd_of (q := (11, .iconst 0, 1)) mq_37 ci_37 (List.mem_append_left _ (show _ ∈ my_37_0 from List.mem_of_getElem? (i := 6) rfl))
theorem cd_37_12 : mt_cd 37 12 = some (.invokevirtual 70) := mt_cd_of (q := (12, .invokevirtual 70, 3)) mq_37 ci_37 (List.mem_append_left _ (show _ ∈ my_37_0 from List.mem_of_getElem? (i := 7) rfl))
theorem cd_37_15 : mt_cd 37 15 = some (.aload_n 0) := mt_cd_of (q := (15, .aload_n 0, 1)) mq_37 ci_37 (List.mem_append_left _ (show _ ∈ my_37_0 from List.mem_of_getElem? (i := 8) rfl))
theorem cd_37_16 : mt_cd 37 16 = some (.getfield 15) := mt_cd_of (q := (16, .getfield 15, 3)) mq_37 ci_37 (List.mem_append_left _ (show _ ∈ my_37_0 from List.mem_of_getElem? (i := 9) rfl))
theorem cd_37_19 : mt_cd 37 19 = some (.getfield 67) := mt_cd_of (q := (19, .getfield 67, 3)) mq_37 ci_37 (List.mem_append_left _ (show _ ∈ my_37_0 from List.mem_of_getElem? (i := 10) rfl))
theorem cd_37_22 : mt_cd 37 22 = some (.bipush 24) := mt_cd_of (q := (22, .bipush 24, 2)) mq_37 ci_37 (List.mem_append_left _ (show _ ∈ my_37_0 from List.mem_of_getElem? (i := 11) rfl))
theorem cd_37_24 : mt_cd 37 24 = some (.if_icmp .ne 26) := mt_cd_of (q := (24, .if_icmp .ne 26, 3)) mq_37 ci_37 (List.mem_append_left _ (show _ ∈ my_37_0 from List.mem_of_getElem? (i := 12) rfl))
theorem cd_37_27 : mt_cd 37 27 = some (.aload_n 0) := mt_cd_of (q := (27, .aload_n 0, 1)) mq_37 ci_37 (List.mem_append_left _ (show _ ∈ my_37_0 from List.mem_of_getElem? (i := 13) rfl))
theorem cd_37_28 : mt_cd 37 28 = some (.getfield 15) := mt_cd_of (q := (28, .getfield 15, 3)) mq_37 ci_37 (List.mem_append_left _ (show _ ∈ my_37_0 from List.mem_of_getElem? (i := 14) rfl))
theorem cd_37_31 : mt_cd 37 31 = some (.invokevirtual 84) := mt_cd_of (q := (31, .invokevirtual 84, 3)) mq_37 ci_37 (List.mem_append_left _ (show _ ∈ my_37_0 from List.mem_of_getElem? (i := 15) rfl))
theorem cd_37_34 : mt_cd 37 34 = some (.aload_n 0) := mt_cd_of (q := (34, .aload_n 0, 1)) mq_37 ci_37 (List.mem_append_left _ (show _ ∈ my_37_0 from List.mem_of_getElem? (i := 16) rfl))
theorem cd_37_35 : mt_cd 37 35 = some (.iload_n 1) := mt_cd_of (q := (35, .iload_n 1, 1)) mq_37 ci_37 (List.mem_append_left _ (show _ ∈ my_37_0 from List.mem_of_getElem? (i := 17) rfl))
theorem cd_37_36 : mt_cd 37 36 = some (.iconst 1) := mt_cd_of (q := (36, .iconst 1, 1)) mq_37 ci_37 (List.mem_append_left _ (show _ ∈ my_37_0 from List.mem_of_getElem? (i := 18) rfl))
theorem cd_37_37 : mt_cd 37 37 = some (.iadd) := mt_cd_of (q := (37, .iadd, 1)) mq_37 ci_37 (List.mem_append_left _ (show _ ∈ my_37_0 from List.mem_of_getElem? (i := 19) rfl))
theorem cd_37_38 : mt_cd 37 38 = some (.invokevirtual 96) := mt_cd_of (q := (38, .invokevirtual 96, 3)) mq_37 ci_37 (List.mem_append_left _ (show _ ∈ my_37_0 from List.mem_of_getElem? (i := 20) rfl))
theorem cd_37_41 : mt_cd 37 41 = some (.istore_n 2) := mt_cd_of (q := (41, .istore_n 2, 1)) mq_37 ci_37 (List.mem_append_left _ (show _ ∈ my_37_0 from List.mem_of_getElem? (i := 21) rfl))
theorem cd_37_42 : mt_cd 37 42 = some (.aload_n 0) := mt_cd_of (q := (42, .aload_n 0, 1)) mq_37 ci_37 (List.mem_append_left _ (show _ ∈ my_37_0 from List.mem_of_getElem? (i := 22) rfl))
theorem cd_37_43 : mt_cd 37 43 = some (.bipush 25) := mt_cd_of (q := (43, .bipush 25, 2)) mq_37 ci_37 (List.mem_append_left _ (show _ ∈ my_37_0 from List.mem_of_getElem? (i := 23) rfl))
theorem cd_37_45 : mt_cd 37 45 = some (.invokevirtual 99) := mt_cd_of (q := (45, .invokevirtual 99, 3)) mq_37 ci_37 (List.mem_append_left _ (show _ ∈ my_37_0 from List.mem_of_getElem? (i := 24) rfl))
theorem cd_37_48 : mt_cd 37 48 = some (.iload_n 2) := mt_cd_of (q := (48, .iload_n 2, 1)) mq_37 ci_37 (List.mem_append_left _ (show _ ∈ my_37_0 from List.mem_of_getElem? (i := 25) rfl))
theorem cd_37_49 : mt_cd 37 49 = some (.ireturn) := mt_cd_of (q := (49, .ireturn, 1)) mq_37 ci_37 (List.mem_append_left _ (show _ ∈ my_37_0 from List.mem_of_getElem? (i := 26) rfl))
theorem cd_37_50 : mt_cd 37 50 = some (.aload_n 0) := mt_cd_of (q := (50, .aload_n 0, 1)) mq_37 ci_37 (List.mem_append_left _ (show _ ∈ my_37_0 from List.mem_of_getElem? (i := 27) rfl))
theorem cd_37_51 : mt_cd 37 51 = some (.getfield 15) := mt_cd_of (q := (51, .getfield 15, 3)) mq_37 ci_37 (List.mem_append_left _ (show _ ∈ my_37_0 from List.mem_of_getElem? (i := 28) rfl))
theorem cd_37_54 : mt_cd 37 54 = some (.getfield 67) := mt_cd_of (q := (54, .getfield 67, 3)) mq_37 ci_37 (List.mem_append_left _ (show _ ∈ my_37_0 from List.mem_of_getElem? (i := 29) rfl))
theorem cd_37_57 : mt_cd 37 57 = some (.istore_n 2) := mt_cd_of (q := (57, .istore_n 2, 1)) mq_37 ci_37 (List.mem_append_left _ (show _ ∈ my_37_0 from List.mem_of_getElem? (i := 30) rfl))
theorem cd_37_58 : mt_cd 37 58 = some (.aload_n 0) := mt_cd_of (q := (58, .aload_n 0, 1)) mq_37 ci_37 (List.mem_append_left _ (show _ ∈ my_37_0 from List.mem_of_getElem? (i := 31) rfl))
theorem cd_37_59 : mt_cd 37 59 = some (.iload_n 2) := mt_cd_of (q := (59, .iload_n 2, 1)) mq_37 ci_37 (List.mem_append_left _ (show _ ∈ my_37_0 from List.mem_of_getElem? (i := 32) rfl))
theorem cd_37_60 : mt_cd 37 60 = some (.ifCond .eq 30) := mt_cd_of (q := (60, .ifCond .eq 30, 3)) mq_37 ci_37 (List.mem_append_left _ (show _ ∈ my_37_0 from List.mem_of_getElem? (i := 33) rfl))
theorem cd_37_63 : mt_cd 37 63 = some (.iload_n 2) := mt_cd_of (q := (63, .iload_n 2, 1)) mq_37 ci_37 (List.mem_append_left _ (show _ ∈ my_37_0 from List.mem_of_getElem? (i := 34) rfl))
theorem cd_37_64 : mt_cd 37 64 = some (.iconst 1) := mt_cd_of (q := (64, .iconst 1, 1)) mq_37 ci_37 (List.mem_append_left _ (show _ ∈ my_37_0 from List.mem_of_getElem? (i := 35) rfl))
theorem cd_37_65 : mt_cd 37 65 = some (.if_icmp .eq 25) := mt_cd_of (q := (65, .if_icmp .eq 25, 3)) mq_37 ci_37 (List.mem_append_left _ (show _ ∈ my_37_0 from List.mem_of_getElem? (i := 36) rfl))
theorem cd_37_68 : mt_cd 37 68 = some (.iload_n 2) := mt_cd_of (q := (68, .iload_n 2, 1)) mq_37 ci_37 (List.mem_append_left _ (show _ ∈ my_37_0 from List.mem_of_getElem? (i := 37) rfl))
theorem cd_37_69 : mt_cd 37 69 = some (.iconst 4) := mt_cd_of (q := (69, .iconst 4, 1)) mq_37 ci_37 (List.mem_append_left _ (show _ ∈ my_37_0 from List.mem_of_getElem? (i := 38) rfl))
theorem cd_37_70 : mt_cd 37 70 = some (.if_icmp .eq 20) := mt_cd_of (q := (70, .if_icmp .eq 20, 3)) mq_37 ci_37 (List.mem_append_left _ (show _ ∈ my_37_0 from List.mem_of_getElem? (i := 39) rfl))
theorem cd_37_73 : mt_cd 37 73 = some (.iload_n 2) := mt_cd_of (q := (73, .iload_n 2, 1)) mq_37 ci_37 (List.mem_append_left _ (show _ ∈ my_37_0 from List.mem_of_getElem? (i := 40) rfl))
theorem cd_37_74 : mt_cd 37 74 = some (.iconst 5) := mt_cd_of (q := (74, .iconst 5, 1)) mq_37 ci_37 (List.mem_append_left _ (show _ ∈ my_37_0 from List.mem_of_getElem? (i := 41) rfl))
theorem cd_37_75 : mt_cd 37 75 = some (.if_icmp .eq 15) := mt_cd_of (q := (75, .if_icmp .eq 15, 3)) mq_37 ci_37 (List.mem_append_left _ (show _ ∈ my_37_0 from List.mem_of_getElem? (i := 42) rfl))
theorem cd_37_78 : mt_cd 37 78 = some (.iload_n 2) := mt_cd_of (q := (78, .iload_n 2, 1)) mq_37 ci_37 (List.mem_append_left _ (show _ ∈ my_37_0 from List.mem_of_getElem? (i := 43) rfl))
theorem cd_37_79 : mt_cd 37 79 = some (.bipush 6) := mt_cd_of (q := (79, .bipush 6, 2)) mq_37 ci_37 (List.mem_append_left _ (show _ ∈ my_37_0 from List.mem_of_getElem? (i := 44) rfl))
theorem cd_37_81 : mt_cd 37 81 = some (.if_icmp .eq 9) := mt_cd_of (q := (81, .if_icmp .eq 9, 3)) mq_37 ci_37 (List.mem_append_left _ (show _ ∈ my_37_0 from List.mem_of_getElem? (i := 45) rfl))
theorem cd_37_84 : mt_cd 37 84 = some (.iload_n 2) := mt_cd_of (q := (84, .iload_n 2, 1)) mq_37 ci_37 (List.mem_append_left _ (show _ ∈ my_37_0 from List.mem_of_getElem? (i := 46) rfl))
theorem cd_37_85 : mt_cd 37 85 = some (.bipush 7) := mt_cd_of (q := (85, .bipush 7, 2)) mq_37 ci_37 (List.mem_append_left _ (show _ ∈ my_37_0 from List.mem_of_getElem? (i := 47) rfl))
theorem cd_37_87 : mt_cd 37 87 = some (.if_icmp .ne 7) := mt_cd_of (q := (87, .if_icmp .ne 7, 3)) mq_37 ci_37 (List.mem_append_left _ (show _ ∈ my_37_0 from List.mem_of_getElem? (i := 48) rfl))
theorem cd_37_90 : mt_cd 37 90 = some (.iconst 1) := mt_cd_of (q := (90, .iconst 1, 1)) mq_37 ci_37 (List.mem_append_left _ (show _ ∈ my_37_0 from List.mem_of_getElem? (i := 49) rfl))
theorem cd_37_91 : mt_cd 37 91 = some (.goto 4) := mt_cd_of (q := (91, .goto 4, 3)) mq_37 ci_37 (List.mem_append_left _ (show _ ∈ my_37_0 from List.mem_of_getElem? (i := 50) rfl))
theorem cd_37_94 : mt_cd 37 94 = some (.iconst 0) := mt_cd_of (q := (94, .iconst 0, 1)) mq_37 ci_37 (List.mem_append_left _ (show _ ∈ my_37_0 from List.mem_of_getElem? (i := 51) rfl))
theorem cd_37_95 : mt_cd 37 95 = some (.invokevirtual 70) := mt_cd_of (q := (95, .invokevirtual 70, 3)) mq_37 ci_37 (List.mem_append_left _ (show _ ∈ my_37_0 from List.mem_of_getElem? (i := 52) rfl))
theorem cd_37_98 : mt_cd 37 98 = some (.aload_n 0) := mt_cd_of (q := (98, .aload_n 0, 1)) mq_37 ci_37 (List.mem_append_left _ (show _ ∈ my_37_0 from List.mem_of_getElem? (i := 53) rfl))
theorem cd_37_99 : mt_cd 37 99 = some (.invokevirtual 102) := mt_cd_of (q := (99, .invokevirtual 102, 3)) mq_37 ci_37 (List.mem_append_left _ (show _ ∈ my_37_0 from List.mem_of_getElem? (i := 54) rfl))
theorem cd_37_102 : mt_cd 37 102 = some (.istore_n 3) := mt_cd_of (q := (102, .istore_n 3, 1)) mq_37 ci_37 (List.mem_append_left _ (show _ ∈ my_37_0 from List.mem_of_getElem? (i := 55) rfl))
theorem cd_37_103 : mt_cd 37 103 = some (.iload_n 2) := mt_cd_of (q := (103, .iload_n 2, 1)) mq_37 ci_37 (List.mem_append_left _ (show _ ∈ my_37_0 from List.mem_of_getElem? (i := 56) rfl))
theorem cd_37_104 : mt_cd 37 104 = some (.tableswitch 243 1 7 #[44, 243, 243, 189, 68, 153, 224]) := mt_cd_of (q := (104, .tableswitch 243 1 7 #[44, 243, 243, 189, 68, 153, 224], 44)) mq_37 ci_37 (List.mem_append_left _ (show _ ∈ my_37_0 from List.mem_of_getElem? (i := 57) rfl))
theorem cd_37_148 : mt_cd 37 148 = some (.aload_n 0) := mt_cd_of (q := (148, .aload_n 0, 1)) mq_37 ci_37 (List.mem_append_left _ (show _ ∈ my_37_0 from List.mem_of_getElem? (i := 58) rfl))
theorem cd_37_149 : mt_cd 37 149 = some (.iload_n 3) := mt_cd_of (q := (149, .iload_n 3, 1)) mq_37 ci_37 (List.mem_append_left _ (show _ ∈ my_37_0 from List.mem_of_getElem? (i := 59) rfl))
theorem cd_37_150 : mt_cd 37 150 = some (.invokevirtual 106) := mt_cd_of (q := (150, .invokevirtual 106, 3)) mq_37 ci_37 (List.mem_append_right _ (List.mem_append_left _ (show _ ∈ my_37_1 from List.mem_of_getElem? (i := 0) rfl)))
theorem cd_37_153 : mt_cd 37 153 = some (.aload_n 0) := mt_cd_of (q := (153, .aload_n 0, 1)) mq_37 ci_37 (List.mem_append_right _ (List.mem_append_left _ (show _ ∈ my_37_1 from List.mem_of_getElem? (i := 1) rfl)))
theorem cd_37_154 : mt_cd 37 154 = some (.getfield 19) := mt_cd_of (q := (154, .getfield 19, 3)) mq_37 ci_37 (List.mem_append_right _ (List.mem_append_left _ (show _ ∈ my_37_1 from List.mem_of_getElem? (i := 2) rfl)))
theorem cd_37_157 : mt_cd 37 157 = some (.getfield 109) := mt_cd_of (q := (157, .getfield 109, 3)) mq_37 ci_37 (List.mem_append_right _ (List.mem_append_left _ (show _ ∈ my_37_1 from List.mem_of_getElem? (i := 3) rfl)))
theorem cd_37_160 : mt_cd 37 160 = some (.iload_n 3) := mt_cd_of (q := (160, .iload_n 3, 1)) mq_37 ci_37 (List.mem_append_right _ (List.mem_append_left _ (show _ ∈ my_37_1 from List.mem_of_getElem? (i := 4) rfl)))
theorem cd_37_161 : mt_cd 37 161 = some (.aload_n 0) := mt_cd_of (q := (161, .aload_n 0, 1)) mq_37 ci_37 (List.mem_append_right _ (List.mem_append_left _ (show _ ∈ my_37_1 from List.mem_of_getElem? (i := 5) rfl)))
theorem cd_37_162 : mt_cd 37 162 = some (.iload_n 1) := mt_cd_of (q := (162, .iload_n 1, 1)) mq_37 ci_37 (List.mem_append_right _ (List.mem_append_left _ (show _ ∈ my_37_1 from List.mem_of_getElem? (i := 6) rfl)))
theorem cd_37_163 : mt_cd 37 163 = some (.iconst 1) := mt_cd_of (q := (163, .iconst 1, 1)) mq_37 ci_37 (List.mem_append_right _ (List.mem_append_left _ (show _ ∈ my_37_1 from List.mem_of_getElem? (i := 7) rfl)))
theorem cd_37_164 : mt_cd 37 164 = some (.iadd) := mt_cd_of (q := (164, .iadd, 1)) mq_37 ci_37 (List.mem_append_right _ (List.mem_append_left _ (show _ ∈ my_37_1 from List.mem_of_getElem? (i := 8) rfl)))
theorem cd_37_165 : mt_cd 37 165 = some (.invokevirtual 113) := mt_cd_of (q := (165, .invokevirtual 113, 3)) mq_37 ci_37 (List.mem_append_right _ (List.mem_append_left _ (show _ ∈ my_37_1 from List.mem_of_getElem? (i := 9) rfl)))
theorem cd_37_168 : mt_cd 37 168 = some (.iastore) := mt_cd_of (q := (168, .iastore, 1)) mq_37 ci_37 (List.mem_append_right _ (List.mem_append_left _ (show _ ∈ my_37_1 from List.mem_of_getElem? (i := 10) rfl)))
theorem cd_37_169 : mt_cd 37 169 = some (.goto 178) := mt_cd_of (q := (169, .goto 178, 3)) mq_37 ci_37 (List.mem_append_right _ (List.mem_append_left _ (show _ ∈ my_37_1 from List.mem_of_getElem? (i := 11) rfl)))
theorem cd_37_172 : mt_cd 37 172 = some (.aload_n 0) := mt_cd_of (q := (172, .aload_n 0, 1)) mq_37 ci_37 (List.mem_append_right _ (List.mem_append_left _ (show _ ∈ my_37_1 from List.mem_of_getElem? (i := 12) rfl)))
theorem cd_37_173 : mt_cd 37 173 = some (.bipush 26) := mt_cd_of (q := (173, .bipush 26, 2)) mq_37 ci_37 (List.mem_append_right _ (List.mem_append_left _ (show _ ∈ my_37_1 from List.mem_of_getElem? (i := 13) rfl)))
theorem cd_37_175 : mt_cd 37 175 = some (.invokevirtual 99) := mt_cd_of (q := (175, .invokevirtual 99, 3)) mq_37 ci_37 (List.mem_append_right _ (List.mem_append_left _ (show _ ∈ my_37_1 from List.mem_of_getElem? (i := 14) rfl)))
theorem cd_37_178 : mt_cd 37 178 = some (.iconst (-1)) := mt_cd_of (q := (178, .iconst (-1), 1)) mq_37 ci_37 (List.mem_append_right _ (List.mem_append_left _ (show _ ∈ my_37_1 from List.mem_of_getElem? (i := 15) rfl)))
theorem cd_37_179 : mt_cd 37 179 = some (.istore 4) := mt_cd_of (q := (179, .istore 4, 2)) mq_37 ci_37 (List.mem_append_right _ (List.mem_append_left _ (show _ ∈ my_37_1 from List.mem_of_getElem? (i := 16) rfl)))
theorem cd_37_181 : mt_cd 37 181 = some (.iconst 0) := mt_cd_of (q := (181, .iconst 0, 1)) mq_37 ci_37 (List.mem_append_right _ (List.mem_append_left _ (show _ ∈ my_37_1 from List.mem_of_getElem? (i := 17) rfl)))
theorem cd_37_182 : mt_cd 37 182 = some (.istore 5) := mt_cd_of (q := (182, .istore 5, 2)) mq_37 ci_37 (List.mem_append_right _ (List.mem_append_left _ (show _ ∈ my_37_1 from List.mem_of_getElem? (i := 18) rfl)))
theorem cd_37_184 : mt_cd 37 184 = some (.iload 5) := mt_cd_of (q := (184, .iload 5, 2)) mq_37 ci_37 (List.mem_append_right _ (List.mem_append_left _ (show _ ∈ my_37_1 from List.mem_of_getElem? (i := 19) rfl)))
theorem cd_37_186 : mt_cd 37 186 = some (.bipush 8) := mt_cd_of (q := (186, .bipush 8, 2)) mq_37 ci_37 (List.mem_append_right _ (List.mem_append_left _ (show _ ∈ my_37_1 from List.mem_of_getElem? (i := 20) rfl)))
theorem cd_37_188 : mt_cd 37 188 = some (.if_icmp .gt 47) := mt_cd_of (q := (188, .if_icmp .gt 47, 3)) mq_37 ci_37 (List.mem_append_right _ (List.mem_append_left _ (show _ ∈ my_37_1 from List.mem_of_getElem? (i := 21) rfl)))
theorem cd_37_191 : mt_cd 37 191 = some (.aload_n 0) := mt_cd_of (q := (191, .aload_n 0, 1)) mq_37 ci_37 (List.mem_append_right _ (List.mem_append_left _ (show _ ∈ my_37_1 from List.mem_of_getElem? (i := 22) rfl)))
theorem cd_37_192 : mt_cd 37 192 = some (.getfield 15) := mt_cd_of (q := (192, .getfield 15, 3)) mq_37 ci_37 (List.mem_append_right _ (List.mem_append_left _ (show _ ∈ my_37_1 from List.mem_of_getElem? (i := 23) rfl)))
theorem cd_37_195 : mt_cd 37 195 = some (.getfield 67) := mt_cd_of (q := (195, .getfield 67, 3)) mq_37 ci_37 (List.mem_append_right _ (List.mem_append_left _ (show _ ∈ my_37_1 from List.mem_of_getElem? (i := 24) rfl)))
theorem cd_37_198 : mt_cd 37 198 = some (.bipush 27) := mt_cd_of (q := (198, .bipush 27, 2)) mq_37 ci_37 (List.mem_append_right _ (List.mem_append_left _ (show _ ∈ my_37_1 from List.mem_of_getElem? (i := 25) rfl)))
theorem cd_37_200 : mt_cd 37 200 = some (.if_icmp .eq 35) := mt_cd_of (q := (200, .if_icmp .eq 35, 3)) mq_37 ci_37 (List.mem_append_right _ (List.mem_append_left _ (show _ ∈ my_37_1 from List.mem_of_getElem? (i := 26) rfl)))
theorem cd_37_203 : mt_cd 37 203 = some (.aload_n 0) := mt_cd_of (q := (203, .aload_n 0, 1)) mq_37 ci_37 (List.mem_append_right _ (List.mem_append_left _ (show _ ∈ my_37_1 from List.mem_of_getElem? (i := 27) rfl)))
theorem cd_37_204 : mt_cd 37 204 = some (.iload 5) := mt_cd_of (q := (204, .iload 5, 2)) mq_37 ci_37 (List.mem_append_right _ (List.mem_append_left _ (show _ ∈ my_37_1 from List.mem_of_getElem? (i := 28) rfl)))
theorem cd_37_206 : mt_cd 37 206 = some (.bipush 8) := mt_cd_of (q := (206, .bipush 8, 2)) mq_37 ci_37 (List.mem_append_right _ (List.mem_append_left _ (show _ ∈ my_37_1 from List.mem_of_getElem? (i := 29) rfl)))
theorem cd_37_208 : mt_cd 37 208 = some (.if_icmp .ge 7) := mt_cd_of (q := (208, .if_icmp .ge 7, 3)) mq_37 ci_37 (List.mem_append_right _ (List.mem_append_left _ (show _ ∈ my_37_1 from List.mem_of_getElem? (i := 30) rfl)))
theorem cd_37_211 : mt_cd 37 211 = some (.iconst 1) := mt_cd_of (q := (211, .iconst 1, 1)) mq_37 ci_37 (List.mem_append_right _ (List.mem_append_left _ (show _ ∈ my_37_1 from List.mem_of_getElem? (i := 31) rfl)))
theorem cd_37_212 : mt_cd 37 212 = some (.goto 4) := mt_cd_of (q := (212, .goto 4, 3)) mq_37 ci_37 (List.mem_append_right _ (List.mem_append_left _ (show _ ∈ my_37_1 from List.mem_of_getElem? (i := 32) rfl)))
theorem cd_37_215 : mt_cd 37 215 = some (.iconst 0) := mt_cd_of (q := (215, .iconst 0, 1)) mq_37 ci_37 (List.mem_append_right _ (List.mem_append_left _ (show _ ∈ my_37_1 from List.mem_of_getElem? (i := 33) rfl)))
theorem cd_37_216 : mt_cd 37 216 = some (.invokevirtual 70) := mt_cd_of (q := (216, .invokevirtual 70, 3)) mq_37 ci_37 (List.mem_append_right _ (List.mem_append_left _ (show _ ∈ my_37_1 from List.mem_of_getElem? (i := 34) rfl)))
theorem cd_37_219 : mt_cd 37 219 = some (.aload_n 0) := mt_cd_of (q := (219, .aload_n 0, 1)) mq_37 ci_37 (List.mem_append_right _ (List.mem_append_left _ (show _ ∈ my_37_1 from List.mem_of_getElem? (i := 35) rfl)))
theorem cd_37_220 : mt_cd 37 220 = some (.iload_n 3) := mt_cd_of (q := (220, .iload_n 3, 1)) mq_37 ci_37 (List.mem_append_right _ (List.mem_append_left _ (show _ ∈ my_37_1 from List.mem_of_getElem? (i := 36) rfl)))
theorem cd_37_221 : mt_cd 37 221 = some (.iload 4) := mt_cd_of (q := (221, .iload 4, 2)) mq_37 ci_37 (List.mem_append_right _ (List.mem_append_left _ (show _ ∈ my_37_1 from List.mem_of_getElem? (i := 37) rfl)))
theorem cd_37_223 : mt_cd 37 223 = some (.iload_n 1) := mt_cd_of (q := (223, .iload_n 1, 1)) mq_37 ci_37 (List.mem_append_right _ (List.mem_append_left _ (show _ ∈ my_37_1 from List.mem_of_getElem? (i := 38) rfl)))
theorem cd_37_224 : mt_cd 37 224 = some (.invokevirtual 116) := mt_cd_of (q := (224, .invokevirtual 116, 3)) mq_37 ci_37 (List.mem_append_right _ (List.mem_append_left _ (show _ ∈ my_37_1 from List.mem_of_getElem? (i := 39) rfl)))
theorem cd_37_227 : mt_cd 37 227 = some (.istore 4) := mt_cd_of (q := (227, .istore 4, 2)) mq_37 ci_37 (List.mem_append_right _ (List.mem_append_left _ (show _ ∈ my_37_1 from List.mem_of_getElem? (i := 40) rfl)))
theorem cd_37_229 : mt_cd 37 229 = some (.iinc 5 1) := mt_cd_of (q := (229, .iinc 5 1, 3)) mq_37 ci_37 (List.mem_append_right _ (List.mem_append_left _ (show _ ∈ my_37_1 from List.mem_of_getElem? (i := 41) rfl)))
theorem cd_37_232 : mt_cd 37 232 = some (.goto (-48)) := mt_cd_of (q := (232, .goto (-48), 3)) mq_37 ci_37 (List.mem_append_right _ (List.mem_append_left _ (show _ ∈ my_37_1 from List.mem_of_getElem? (i := 42) rfl)))
theorem cd_37_235 : mt_cd 37 235 = some (.aload_n 0) := mt_cd_of (q := (235, .aload_n 0, 1)) mq_37 ci_37 (List.mem_append_right _ (List.mem_append_left _ (show _ ∈ my_37_1 from List.mem_of_getElem? (i := 43) rfl)))
theorem cd_37_236 : mt_cd 37 236 = some (.bipush 27) := mt_cd_of (q := (236, .bipush 27, 2)) mq_37 ci_37 (List.mem_append_right _ (List.mem_append_left _ (show _ ∈ my_37_1 from List.mem_of_getElem? (i := 44) rfl)))
theorem cd_37_238 : mt_cd 37 238 = some (.invokevirtual 99) := mt_cd_of (q := (238, .invokevirtual 99, 3)) mq_37 ci_37 (List.mem_append_right _ (List.mem_append_left _ (show _ ∈ my_37_1 from List.mem_of_getElem? (i := 45) rfl)))
theorem cd_37_241 : mt_cd 37 241 = some (.aload_n 0) := mt_cd_of (q := (241, .aload_n 0, 1)) mq_37 ci_37 (List.mem_append_right _ (List.mem_append_left _ (show _ ∈ my_37_1 from List.mem_of_getElem? (i := 46) rfl)))
theorem cd_37_242 : mt_cd 37 242 = some (.getfield 19) := mt_cd_of (q := (242, .getfield 19, 3)) mq_37 ci_37 (List.mem_append_right _ (List.mem_append_left _ (show _ ∈ my_37_1 from List.mem_of_getElem? (i := 47) rfl)))
theorem cd_37_245 : mt_cd 37 245 = some (.getfield 120) := mt_cd_of (q := (245, .getfield 120, 3)) mq_37 ci_37 (List.mem_append_right _ (List.mem_append_left _ (show _ ∈ my_37_1 from List.mem_of_getElem? (i := 48) rfl)))
theorem cd_37_248 : mt_cd 37 248 = some (.iload_n 3) := mt_cd_of (q := (248, .iload_n 3, 1)) mq_37 ci_37 (List.mem_append_right _ (List.mem_append_left _ (show _ ∈ my_37_1 from List.mem_of_getElem? (i := 49) rfl)))
theorem cd_37_249 : mt_cd 37 249 = some (.aload_n 0) := mt_cd_of (q := (249, .aload_n 0, 1)) mq_37 ci_37 (List.mem_append_right _ (List.mem_append_left _ (show _ ∈ my_37_1 from List.mem_of_getElem? (i := 50) rfl)))
theorem cd_37_250 : mt_cd 37 250 = some (.invokevirtual 124) := mt_cd_of (q := (250, .invokevirtual 124, 3)) mq_37 ci_37 (List.mem_append_right _ (List.mem_append_left _ (show _ ∈ my_37_1 from List.mem_of_getElem? (i := 51) rfl)))
theorem cd_37_253 : mt_cd 37 253 = some (.lastore) := mt_cd_of (q := (253, .lastore, 1)) mq_37 ci_37 (List.mem_append_right _ (List.mem_append_left _ (show _ ∈ my_37_1 from List.mem_of_getElem? (i := 52) rfl)))
theorem cd_37_254 : mt_cd 37 254 = some (.goto 93) := mt_cd_of (q := (254, .goto 93, 3)) mq_37 ci_37 (List.mem_append_right _ (List.mem_append_left _ (show _ ∈ my_37_1 from List.mem_of_getElem? (i := 53) rfl)))
theorem cd_37_257 : mt_cd 37 257 = some (.aload_n 0) := mt_cd_of (q := (257, .aload_n 0, 1)) mq_37 ci_37 (List.mem_append_right _ (List.mem_append_left _ (show _ ∈ my_37_1 from List.mem_of_getElem? (i := 54) rfl)))
theorem cd_37_258 : mt_cd 37 258 = some (.getfield 19) := mt_cd_of (q := (258, .getfield 19, 3)) mq_37 ci_37 (List.mem_append_right _ (List.mem_append_left _ (show _ ∈ my_37_1 from List.mem_of_getElem? (i := 55) rfl)))
theorem cd_37_261 : mt_cd 37 261 = some (.getfield 128) := mt_cd_of (q := (261, .getfield 128, 3)) mq_37 ci_37 (List.mem_append_right _ (List.mem_append_left _ (show _ ∈ my_37_1 from List.mem_of_getElem? (i := 56) rfl)))
theorem cd_37_264 : mt_cd 37 264 = some (.iload_n 3) := mt_cd_of (q := (264, .iload_n 3, 1)) mq_37 ci_37 (List.mem_append_right _ (List.mem_append_left _ (show _ ∈ my_37_1 from List.mem_of_getElem? (i := 57) rfl)))
theorem cd_37_265 : mt_cd 37 265 = some (.aload_n 0) := mt_cd_of (q := (265, .aload_n 0, 1)) mq_37 ci_37 (List.mem_append_right _ (List.mem_append_left _ (show _ ∈ my_37_1 from List.mem_of_getElem? (i := 58) rfl)))
theorem cd_37_266 : mt_cd 37 266 = some (.aload_n 0) := mt_cd_of (q := (266, .aload_n 0, 1)) mq_37 ci_37 (List.mem_append_right _ (List.mem_append_left _ (show _ ∈ my_37_1 from List.mem_of_getElem? (i := 59) rfl)))
theorem cd_37_267 : mt_cd 37 267 = some (.getfield 44) := mt_cd_of (q := (267, .getfield 44, 3)) mq_37 ci_37 (List.mem_append_right _ (List.mem_append_right _ (List.mem_append_left _ (show _ ∈ my_37_2 from List.mem_of_getElem? (i := 0) rfl))))
theorem cd_37_270 : mt_cd 37 270 = some (.invokevirtual 131) := mt_cd_of (q := (270, .invokevirtual 131, 3)) mq_37 ci_37 (List.mem_append_right _ (List.mem_append_right _ (List.mem_append_left _ (show _ ∈ my_37_2 from List.mem_of_getElem? (i := 1) rfl))))
theorem cd_37_273 : mt_cd 37 273 = some (.iastore) := mt_cd_of (q := (273, .iastore, 1)) mq_37 ci_37 (List.mem_append_right _ (List.mem_append_right _ (List.mem_append_left _ (show _ ∈ my_37_2 from List.mem_of_getElem? (i := 2) rfl))))
theorem cd_37_274 : mt_cd 37 274 = some (.aload_n 0) := mt_cd_of (q := (274, .aload_n 0, 1)) mq_37 ci_37 (List.mem_append_right _ (List.mem_append_right _ (List.mem_append_left _ (show _ ∈ my_37_2 from List.mem_of_getElem? (i := 3) rfl))))
theorem cd_37_275 : mt_cd 37 275 = some (.getfield 19) := mt_cd_of (q := (275, .getfield 19, 3)) mq_37 ci_37 (List.mem_append_right _ (List.mem_append_right _ (List.mem_append_left _ (show _ ∈ my_37_2 from List.mem_of_getElem? (i := 4) rfl))))
theorem cd_37_278 : mt_cd 37 278 = some (.getfield 109) := mt_cd_of (q := (278, .getfield 109, 3)) mq_37 ci_37 (List.mem_append_right _ (List.mem_append_right _ (List.mem_append_left _ (show _ ∈ my_37_2 from List.mem_of_getElem? (i := 5) rfl))))
theorem cd_37_281 : mt_cd 37 281 = some (.iload_n 3) := mt_cd_of (q := (281, .iload_n 3, 1)) mq_37 ci_37 (List.mem_append_right _ (List.mem_append_right _ (List.mem_append_left _ (show _ ∈ my_37_2 from List.mem_of_getElem? (i := 6) rfl))))
theorem cd_37_282 : mt_cd 37 282 = some (.aload_n 0) := mt_cd_of (q := (282, .aload_n 0, 1)) mq_37 ci_37 (List.mem_append_right _ (List.mem_append_right _ (List.mem_append_left _ (show _ ∈ my_37_2 from List.mem_of_getElem? (i := 7) rfl))))
theorem cd_37_283 : mt_cd 37 283 = some (.iload_n 1) := mt_cd_of (q := (283, .iload_n 1, 1)) mq_37 ci_37 (List.mem_append_right _ (List.mem_append_right _ (List.mem_append_left _ (show _ ∈ my_37_2 from List.mem_of_getElem? (i := 8) rfl))))
theorem cd_37_284 : mt_cd 37 284 = some (.iconst 1) := mt_cd_of (q := (284, .iconst 1, 1)) mq_37 ci_37 (List.mem_append_right _ (List.mem_append_right _ (List.mem_append_left _ (show _ ∈ my_37_2 from List.mem_of_getElem? (i := 9) rfl))))
theorem cd_37_285 : mt_cd 37 285 = some (.iadd) := mt_cd_of (q := (285, .iadd, 1)) mq_37 ci_37 (List.mem_append_right _ (List.mem_append_right _ (List.mem_append_left _ (show _ ∈ my_37_2 from List.mem_of_getElem? (i := 10) rfl))))
theorem cd_37_286 : mt_cd 37 286 = some (.invokevirtual 113) := mt_cd_of (q := (286, .invokevirtual 113, 3)) mq_37 ci_37 (List.mem_append_right _ (List.mem_append_right _ (List.mem_append_left _ (show _ ∈ my_37_2 from List.mem_of_getElem? (i := 11) rfl))))
theorem cd_37_289 : mt_cd 37 289 = some (.iastore) := mt_cd_of (q := (289, .iastore, 1)) mq_37 ci_37 (List.mem_append_right _ (List.mem_append_right _ (List.mem_append_left _ (show _ ∈ my_37_2 from List.mem_of_getElem? (i := 12) rfl))))
theorem cd_37_290 : mt_cd 37 290 = some (.goto 57) := mt_cd_of (q := (290, .goto 57, 3)) mq_37 ci_37 (List.mem_append_right _ (List.mem_append_right _ (List.mem_append_left _ (show _ ∈ my_37_2 from List.mem_of_getElem? (i := 13) rfl))))
theorem cd_37_293 : mt_cd 37 293 = some (.aload_n 0) := mt_cd_of (q := (293, .aload_n 0, 1)) mq_37 ci_37 (List.mem_append_right _ (List.mem_append_right _ (List.mem_append_left _ (show _ ∈ my_37_2 from List.mem_of_getElem? (i := 14) rfl))))
theorem cd_37_294 : mt_cd 37 294 = some (.getfield 19) := mt_cd_of (q := (294, .getfield 19, 3)) mq_37 ci_37 (List.mem_append_right _ (List.mem_append_right _ (List.mem_append_left _ (show _ ∈ my_37_2 from List.mem_of_getElem? (i := 15) rfl))))
theorem cd_37_297 : mt_cd 37 297 = some (.getfield 109) := mt_cd_of (q := (297, .getfield 109, 3)) mq_37 ci_37 (List.mem_append_right _ (List.mem_append_right _ (List.mem_append_left _ (show _ ∈ my_37_2 from List.mem_of_getElem? (i := 16) rfl))))
theorem cd_37_300 : mt_cd 37 300 = some (.iload_n 3) := mt_cd_of (q := (300, .iload_n 3, 1)) mq_37 ci_37 (List.mem_append_right _ (List.mem_append_right _ (List.mem_append_left _ (show _ ∈ my_37_2 from List.mem_of_getElem? (i := 17) rfl))))
theorem cd_37_301 : mt_cd 37 301 = some (.aload_n 0) := mt_cd_of (q := (301, .aload_n 0, 1)) mq_37 ci_37 (List.mem_append_right _ (List.mem_append_right _ (List.mem_append_left _ (show _ ∈ my_37_2 from List.mem_of_getElem? (i := 18) rfl))))
theorem cd_37_302 : mt_cd 37 302 = some (.iload_n 1) := mt_cd_of (q := (302, .iload_n 1, 1)) mq_37 ci_37 (List.mem_append_right _ (List.mem_append_right _ (List.mem_append_left _ (show _ ∈ my_37_2 from List.mem_of_getElem? (i := 19) rfl))))
theorem cd_37_303 : mt_cd 37 303 = some (.iconst 1) := mt_cd_of (q := (303, .iconst 1, 1)) mq_37 ci_37 (List.mem_append_right _ (List.mem_append_right _ (List.mem_append_left _ (show _ ∈ my_37_2 from List.mem_of_getElem? (i := 20) rfl))))
theorem cd_37_304 : mt_cd 37 304 = some (.iadd) := mt_cd_of (q := (304, .iadd, 1)) mq_37 ci_37 (List.mem_append_right _ (List.mem_append_right _ (List.mem_append_left _ (show _ ∈ my_37_2 from List.mem_of_getElem? (i := 21) rfl))))
theorem cd_37_305 : mt_cd 37 305 = some (.invokevirtual 135) := mt_cd_of (q := (305, .invokevirtual 135, 3)) mq_37 ci_37 (List.mem_append_right _ (List.mem_append_right _ (List.mem_append_left _ (show _ ∈ my_37_2 from List.mem_of_getElem? (i := 22) rfl))))
theorem cd_37_308 : mt_cd 37 308 = some (.iastore) := mt_cd_of (q := (308, .iastore, 1)) mq_37 ci_37 (List.mem_append_right _ (List.mem_append_right _ (List.mem_append_left _ (show _ ∈ my_37_2 from List.mem_of_getElem? (i := 23) rfl))))
theorem cd_37_309 : mt_cd 37 309 = some (.aload_n 0) := mt_cd_of (q := (309, .aload_n 0, 1)) mq_37 ci_37 (List.mem_append_right _ (List.mem_append_right _ (List.mem_append_left _ (show _ ∈ my_37_2 from List.mem_of_getElem? (i := 24) rfl))))
theorem cd_37_310 : mt_cd 37 310 = some (.getfield 19) := mt_cd_of (q := (310, .getfield 19, 3)) mq_37 ci_37 (List.mem_append_right _ (List.mem_append_right _ (List.mem_append_left _ (show _ ∈ my_37_2 from List.mem_of_getElem? (i := 25) rfl))))
theorem cd_37_313 : mt_cd 37 313 = some (.getfield 138) := mt_cd_of (q := (313, .getfield 138, 3)) mq_37 ci_37 (List.mem_append_right _ (List.mem_append_right _ (List.mem_append_left _ (show _ ∈ my_37_2 from List.mem_of_getElem? (i := 26) rfl))))
theorem cd_37_316 : mt_cd 37 316 = some (.iload_n 3) := mt_cd_of (q := (316, .iload_n 3, 1)) mq_37 ci_37 (List.mem_append_right _ (List.mem_append_right _ (List.mem_append_left _ (show _ ∈ my_37_2 from List.mem_of_getElem? (i := 27) rfl))))
theorem cd_37_317 : mt_cd 37 317 = some (.aload_n 0) := mt_cd_of (q := (317, .aload_n 0, 1)) mq_37 ci_37 (List.mem_append_right _ (List.mem_append_right _ (List.mem_append_left _ (show _ ∈ my_37_2 from List.mem_of_getElem? (i := 28) rfl))))
theorem cd_37_318 : mt_cd 37 318 = some (.iload_n 1) := mt_cd_of (q := (318, .iload_n 1, 1)) mq_37 ci_37 (List.mem_append_right _ (List.mem_append_right _ (List.mem_append_left _ (show _ ∈ my_37_2 from List.mem_of_getElem? (i := 29) rfl))))
theorem cd_37_319 : mt_cd 37 319 = some (.iconst 1) := mt_cd_of (q := (319, .iconst 1, 1)) mq_37 ci_37 (List.mem_append_right _ (List.mem_append_right _ (List.mem_append_left _ (show _ ∈ my_37_2 from List.mem_of_getElem? (i := 30) rfl))))
theorem cd_37_320 : mt_cd 37 320 = some (.iadd) := mt_cd_of (q := (320, .iadd, 1)) mq_37 ci_37 (List.mem_append_right _ (List.mem_append_right _ (List.mem_append_left _ (show _ ∈ my_37_2 from List.mem_of_getElem? (i := 31) rfl))))
theorem cd_37_321 : mt_cd 37 321 = some (.invokevirtual 96) := mt_cd_of (q := (321, .invokevirtual 96, 3)) mq_37 ci_37 (List.mem_append_right _ (List.mem_append_right _ (List.mem_append_left _ (show _ ∈ my_37_2 from List.mem_of_getElem? (i := 32) rfl))))
theorem cd_37_324 : mt_cd 37 324 = some (.iastore) := mt_cd_of (q := (324, .iastore, 1)) mq_37 ci_37 (List.mem_append_right _ (List.mem_append_right _ (List.mem_append_left _ (show _ ∈ my_37_2 from List.mem_of_getElem? (i := 33) rfl))))
theorem cd_37_325 : mt_cd 37 325 = some (.goto 22) := mt_cd_of (q := (325, .goto 22, 3)) mq_37 ci_37 (List.mem_append_right _ (List.mem_append_right _ (List.mem_append_left _ (show _ ∈ my_37_2 from List.mem_of_getElem? (i := 34) rfl))))
theorem cd_37_328 : mt_cd 37 328 = some (.aload_n 0) := mt_cd_of (q := (328, .aload_n 0, 1)) mq_37 ci_37 (List.mem_append_right _ (List.mem_append_right _ (List.mem_append_left _ (show _ ∈ my_37_2 from List.mem_of_getElem? (i := 35) rfl))))
theorem cd_37_329 : mt_cd 37 329 = some (.getfield 19) := mt_cd_of (q := (329, .getfield 19, 3)) mq_37 ci_37 (List.mem_append_right _ (List.mem_append_right _ (List.mem_append_left _ (show _ ∈ my_37_2 from List.mem_of_getElem? (i := 36) rfl))))
theorem cd_37_332 : mt_cd 37 332 = some (.getfield 109) := mt_cd_of (q := (332, .getfield 109, 3)) mq_37 ci_37 (List.mem_append_right _ (List.mem_append_right _ (List.mem_append_left _ (show _ ∈ my_37_2 from List.mem_of_getElem? (i := 37) rfl))))
theorem cd_37_335 : mt_cd 37 335 = some (.iload_n 3) := mt_cd_of (q := (335, .iload_n 3, 1)) mq_37 ci_37 (List.mem_append_right _ (List.mem_append_right _ (List.mem_append_left _ (show _ ∈ my_37_2 from List.mem_of_getElem? (i := 38) rfl))))
theorem cd_37_336 : mt_cd 37 336 = some (.aload_n 0) := mt_cd_of (q := (336, .aload_n 0, 1)) mq_37 ci_37 (List.mem_append_right _ (List.mem_append_right _ (List.mem_append_left _ (show _ ∈ my_37_2 from List.mem_of_getElem? (i := 39) rfl))))
theorem cd_37_337 : mt_cd 37 337 = some (.iload_n 1) := mt_cd_of (q := (337, .iload_n 1, 1)) mq_37 ci_37 (List.mem_append_right _ (List.mem_append_right _ (List.mem_append_left _ (show _ ∈ my_37_2 from List.mem_of_getElem? (i := 40) rfl))))
theorem cd_37_338 : mt_cd 37 338 = some (.iconst 1) := mt_cd_of (q := (338, .iconst 1, 1)) mq_37 ci_37 (List.mem_append_right _ (List.mem_append_right _ (List.mem_append_left _ (show _ ∈ my_37_2 from List.mem_of_getElem? (i := 41) rfl))))
theorem cd_37_339 : mt_cd 37 339 = some (.iadd) := mt_cd_of (q := (339, .iadd, 1)) mq_37 ci_37 (List.mem_append_right _ (List.mem_append_right _ (List.mem_append_left _ (show _ ∈ my_37_2 from List.mem_of_getElem? (i := 42) rfl))))
theorem cd_37_340 : mt_cd 37 340 = some (.invokevirtual 135) := mt_cd_of (q := (340, .invokevirtual 135, 3)) mq_37 ci_37 (List.mem_append_right _ (List.mem_append_right _ (List.mem_append_left _ (show _ ∈ my_37_2 from List.mem_of_getElem? (i := 43) rfl))))
theorem cd_37_343 : mt_cd 37 343 = some (.iastore) := mt_cd_of (q := (343, .iastore, 1)) mq_37 ci_37 (List.mem_append_right _ (List.mem_append_right _ (List.mem_append_left _ (show _ ∈ my_37_2 from List.mem_of_getElem? (i := 44) rfl))))
theorem cd_37_344 : mt_cd 37 344 = some (.goto 3) := mt_cd_of (q := (344, .goto 3, 3)) mq_37 ci_37 (List.mem_append_right _ (List.mem_append_right _ (List.mem_append_left _ (show _ ∈ my_37_2 from List.mem_of_getElem? (i := 45) rfl))))
theorem cd_37_347 : mt_cd 37 347 = some (.iload_n 2) := mt_cd_of (q := (347, .iload_n 2, 1)) mq_37 ci_37 (List.mem_append_right _ (List.mem_append_right _ (List.mem_append_left _ (show _ ∈ my_37_2 from List.mem_of_getElem? (i := 46) rfl))))
theorem cd_37_348 : mt_cd 37 348 = some (.ifCond .eq 19) := mt_cd_of (q := (348, .ifCond .eq 19, 3)) mq_37 ci_37 (List.mem_append_right _ (List.mem_append_right _ (List.mem_append_left _ (show _ ∈ my_37_2 from List.mem_of_getElem? (i := 47) rfl))))
theorem cd_37_351 : mt_cd 37 351 = some (.aload_n 0) := mt_cd_of (q := (351, .aload_n 0, 1)) mq_37 ci_37 (List.mem_append_right _ (List.mem_append_right _ (List.mem_append_left _ (show _ ∈ my_37_2 from List.mem_of_getElem? (i := 48) rfl))))
theorem cd_37_352 : mt_cd 37 352 = some (.getfield 19) := mt_cd_of (q := (352, .getfield 19, 3)) mq_37 ci_37 (List.mem_append_right _ (List.mem_append_right _ (List.mem_append_left _ (show _ ∈ my_37_2 from List.mem_of_getElem? (i := 49) rfl))))
theorem cd_37_355 : mt_cd 37 355 = some (.getfield 141) := mt_cd_of (q := (355, .getfield 141, 3)) mq_37 ci_37 (List.mem_append_right _ (List.mem_append_right _ (List.mem_append_left _ (show _ ∈ my_37_2 from List.mem_of_getElem? (i := 50) rfl))))
theorem cd_37_358 : mt_cd 37 358 = some (.iload_n 3) := mt_cd_of (q := (358, .iload_n 3, 1)) mq_37 ci_37 (List.mem_append_right _ (List.mem_append_right _ (List.mem_append_left _ (show _ ∈ my_37_2 from List.mem_of_getElem? (i := 51) rfl))))
theorem cd_37_359 : mt_cd 37 359 = some (.aload_n 0) := mt_cd_of (q := (359, .aload_n 0, 1)) mq_37 ci_37 (List.mem_append_right _ (List.mem_append_right _ (List.mem_append_left _ (show _ ∈ my_37_2 from List.mem_of_getElem? (i := 52) rfl))))
theorem cd_37_360 : mt_cd 37 360 = some (.iload_n 1) := mt_cd_of (q := (360, .iload_n 1, 1)) mq_37 ci_37 (List.mem_append_right _ (List.mem_append_right _ (List.mem_append_left _ (show _ ∈ my_37_2 from List.mem_of_getElem? (i := 53) rfl))))
theorem cd_37_361 : mt_cd 37 361 = some (.iconst 1) := mt_cd_of (q := (361, .iconst 1, 1)) mq_37 ci_37 (List.mem_append_right _ (List.mem_append_right _ (List.mem_append_left _ (show _ ∈ my_37_2 from List.mem_of_getElem? (i := 54) rfl))))
theorem cd_37_362 : mt_cd 37 362 = some (.iadd) := mt_cd_of (q := (362, .iadd, 1)) mq_37 ci_37 (List.mem_append_right _ (List.mem_append_right _ (List.mem_append_left _ (show _ ∈ my_37_2 from List.mem_of_getElem? (i := 55) rfl))))
theorem cd_37_363 : mt_cd 37 363 = some (.invokevirtual 96) := mt_cd_of (q := (363, .invokevirtual 96, 3)) mq_37 ci_37 (List.mem_append_right _ (List.mem_append_right _ (List.mem_append_left _ (show _ ∈ my_37_2 from List.mem_of_getElem? (i := 56) rfl))))
theorem cd_37_366 : mt_cd 37 366 = some (.iastore) := mt_cd_of (q := (366, .iastore, 1)) mq_37 ci_37 (List.mem_append_right _ (List.mem_append_right _ (List.mem_append_left _ (show _ ∈ my_37_2 from List.mem_of_getElem? (i := 57) rfl))))
theorem cd_37_367 : mt_cd 37 367 = some (.aload_n 0) := mt_cd_of (q := (367, .aload_n 0, 1)) mq_37 ci_37 (List.mem_append_right _ (List.mem_append_right _ (List.mem_append_left _ (show _ ∈ my_37_2 from List.mem_of_getElem? (i := 58) rfl))))
theorem cd_37_368 : mt_cd 37 368 = some (.getfield 19) := mt_cd_of (q := (368, .getfield 19, 3)) mq_37 ci_37 (List.mem_append_right _ (List.mem_append_right _ (List.mem_append_left _ (show _ ∈ my_37_2 from List.mem_of_getElem? (i := 59) rfl))))
theorem cd_37_371 : mt_cd 37 371 = some (.getfield 144) := mt_cd_of (q := (371, .getfield 144, 3)) mq_37 ci_37 (List.mem_append_right _ (List.mem_append_right _ (List.mem_append_right _ ((show _ ∈ my_37_3 from List.mem_of_getElem? (i := 0) rfl)))))
theorem cd_37_374 : mt_cd 37 374 = some (.iload_n 3) := mt_cd_of (q := (374, .iload_n 3, 1)) mq_37 ci_37 (List.mem_append_right _ (List.mem_append_right _ (List.mem_append_right _ ((show _ ∈ my_37_3 from List.mem_of_getElem? (i := 1) rfl)))))
theorem cd_37_375 : mt_cd 37 375 = some (.aload_n 0) := mt_cd_of (q := (375, .aload_n 0, 1)) mq_37 ci_37 (List.mem_append_right _ (List.mem_append_right _ (List.mem_append_right _ ((show _ ∈ my_37_3 from List.mem_of_getElem? (i := 2) rfl)))))
theorem cd_37_376 : mt_cd 37 376 = some (.getfield 19) := mt_cd_of (q := (376, .getfield 19, 3)) mq_37 ci_37 (List.mem_append_right _ (List.mem_append_right _ (List.mem_append_right _ ((show _ ∈ my_37_3 from List.mem_of_getElem? (i := 3) rfl)))))
theorem cd_37_379 : mt_cd 37 379 = some (.getfield 87) := mt_cd_of (q := (379, .getfield 87, 3)) mq_37 ci_37 (List.mem_append_right _ (List.mem_append_right _ (List.mem_append_right _ ((show _ ∈ my_37_3 from List.mem_of_getElem? (i := 4) rfl)))))
theorem cd_37_382 : mt_cd 37 382 = some (.iastore) := mt_cd_of (q := (382, .iastore, 1)) mq_37 ci_37 (List.mem_append_right _ (List.mem_append_right _ (List.mem_append_right _ ((show _ ∈ my_37_3 from List.mem_of_getElem? (i := 5) rfl)))))
theorem cd_37_383 : mt_cd 37 383 = some (.iload_n 3) := mt_cd_of (q := (383, .iload_n 3, 1)) mq_37 ci_37 (List.mem_append_right _ (List.mem_append_right _ (List.mem_append_right _ ((show _ ∈ my_37_3 from List.mem_of_getElem? (i := 6) rfl)))))
theorem cd_37_384 : mt_cd 37 384 = some (.ireturn) := mt_cd_of (q := (384, .ireturn, 1)) mq_37 ci_37 (List.mem_append_right _ (List.mem_append_right _ (List.mem_append_right _ ((show _ ∈ my_37_3 from List.mem_of_getElem? (i := 7) rfl)))))
theorem b_37_0 {d : Nat} {Q : (Option Value ⊕ Nat) → mi_H → Prop} (n sl : Nat) (f : Nat → mi_C) {l1 : Nat} {l2 : Int32} {o3 : Option Value} {o4 : Option Value} {o5 : Option Value} {o6 : Option Value} (h7 : 100 < l2 → mi_W d 37 11 [some (.ref l1), some (.int l2), o3, o4, o5, o6] [.ref l1] (n, sl, f) Q) (h8 : ¬ (100 < l2) → mi_W d 37 7 [some (.ref l1), some (.int l2), o3, o4, o5, o6] [.ref l1] (n, sl, f) Q) : mi_W d 37 0 [some (.ref l1), some (.int l2), o3, o4, o5, o6] [] (n, sl, f) Q := by
  refine w_aload_n cd_37_0 rfl ?_
  refine w_iload_n cd_37_1 rfl ?_
  refine w_bipush (v := 100) cd_37_2 (by decide) ?_
  exact w_if_icmpgt cd_37_4 (by decide) h7 h8
theorem b_37_7 {d : Nat} {Q : (Option Value ⊕ Nat) → mi_H → Prop} (n sl : Nat) (f : Nat → mi_C) {l1 : Nat} {l2 : Int32} {o3 : Option Value} {o4 : Option Value} {o5 : Option Value} {o6 : Option Value} {s7 : Nat} (h8 : mi_W d 37 12 [some (.ref l1), some (.int l2), o3, o4, o5, o6] [.int 1, .ref s7] (n, sl, f) Q) : mi_W d 37 7 [some (.ref l1), some (.int l2), o3, o4, o5, o6] [.ref s7] (n, sl, f) Q := by
  refine w_iconst (v := 1) cd_37_7 (by decide) ?_
  exact w_goto cd_37_8 (by decide) h8
theorem b_37_11 {d : Nat} {Q : (Option Value ⊕ Nat) → mi_H → Prop} (n sl : Nat) (f : Nat → mi_C) {l1 : Nat} {l2 : Int32} {o3 : Option Value} {o4 : Option Value} {o5 : Option Value} {o6 : Option Value} {s7 : Nat} (h8 : mi_W d 37 12 [some (.ref l1), some (.int l2), o3, o4, o5, o6] [.int 0, .ref s7] (n, sl, f) Q) : mi_W d 37 11 [some (.ref l1), some (.int l2), o3, o4, o5, o6] [.ref s7] (n, sl, f) Q := by
  refine w_iconst (v := 0) cd_37_11 (by decide) ?_
  exact h8
theorem b_37_12 {d : Nat} {Q : (Option Value ⊕ Nat) → mi_H → Prop} (n sl : Nat) (f : Nat → mi_C) {l1 : Nat} {l2 : Int32} {o3 : Option Value} {o4 : Option Value} {o5 : Option Value} {o6 : Option Value} {s7 : Int32} {s8 : Nat} {fs9 : List Value} (h10 : f s8 = .inr (3, fs9)) (h11 : s8 < n) (h12 : mi_W d 38 0 (mi_en 2 [.ref s8, .int s7]) [] (n, sl, f) (mi_Kc d 37 12 [some (.ref l1), some (.int l2), o3, o4, o5, o6] [] Q)) : mi_W (d + 1) 37 12 [some (.ref l1), some (.int l2), o3, o4, o5, o6] [.int s7, .ref s8] (n, sl, f) Q := by
  exact w_invokevirtual cd_37_12 (show mt_m 3 70 = some (38, 0) by decide +kernel) (rest := []) rfl (as := [.ref s8, .int s7]) rfl h10 (Or.inl h11) ⟨Nat.le_of_ble_eq_true rfl, Nat.le_of_ble_eq_true rfl, Nat.le_of_ble_eq_true rfl⟩ h12
theorem b_37_15 {d : Nat} {Q : (Option Value ⊕ Nat) → mi_H → Prop} (n sl : Nat) (f : Nat → mi_C) {l1 : Nat} {l2 : Int32} {o3 : Option Value} {o4 : Option Value} {o5 : Option Value} {o6 : Option Value} {fs7 : List Value} {x10 : Nat} {fs12 : List Value} {x15 : Int32} (h8 : f l1 = .inr (3, fs7)) (h9 : l1 < n) (h11 : fs7[0]? = some (.ref x10)) (h13 : f x10 = .inr (1, fs12)) (h14 : x10 < n) (h16 : fs12[2]? = some (.int x15)) (h17 : ¬ x15 = 24 → mi_W d 37 50 [some (.ref l1), some (.int l2), o3, o4, o5, o6] [] (n, sl, f) Q) (h18 : ¬ (¬ x15 = 24) → mi_W d 37 27 [some (.ref l1), some (.int l2), o3, o4, o5, o6] [] (n, sl, f) Q) : mi_W d 37 15 [some (.ref l1), some (.int l2), o3, o4, o5, o6] [] (n, sl, f) Q := by
  refine w_aload_n cd_37_15 rfl ?_
  refine w_getfield cd_37_16 (show mt_f 3 15 = some (3, 0) by decide +kernel) h8 h9 h11 ?_
  refine w_getfield cd_37_19 (show mt_f 3 67 = some (1, 2) by decide +kernel) h13 h14 h16 ?_
  refine w_bipush (v := 24) cd_37_22 (by decide) ?_
  exact w_if_icmpne cd_37_24 (by decide) h17 h18
theorem b_37_27 {d : Nat} {Q : (Option Value ⊕ Nat) → mi_H → Prop} (n sl : Nat) (f : Nat → mi_C) {l1 : Nat} {l2 : Int32} {o3 : Option Value} {o4 : Option Value} {o5 : Option Value} {o6 : Option Value} {fs7 : List Value} {x10 : Nat} {fs12 : List Value} (h8 : f l1 = .inr (3, fs7)) (h9 : l1 < n) (h11 : fs7[0]? = some (.ref x10)) (h13 : f x10 = .inr (1, fs12)) (h14 : x10 < n) (h15 : mi_W d 24 0 (mi_en 2 [.ref x10]) [] (n, sl, f) (mi_Kc d 37 31 [some (.ref l1), some (.int l2), o3, o4, o5, o6] [] Q)) : mi_W (d + 1) 37 27 [some (.ref l1), some (.int l2), o3, o4, o5, o6] [] (n, sl, f) Q := by
  refine w_aload_n cd_37_27 rfl ?_
  refine w_getfield cd_37_28 (show mt_f 3 15 = some (3, 0) by decide +kernel) h8 h9 h11 ?_
  exact w_invokevirtual cd_37_31 (show mt_m 3 84 = some (24, 0) by decide +kernel) (rest := []) rfl (as := [.ref x10]) rfl h13 (Or.inl h14) ⟨Nat.le_of_ble_eq_true rfl, Nat.le_of_ble_eq_true rfl, Nat.le_of_ble_eq_true rfl⟩ h15
theorem b_37_34 {d : Nat} {Q : (Option Value ⊕ Nat) → mi_H → Prop} (n sl : Nat) (f : Nat → mi_C) {l1 : Nat} {l2 : Int32} {o3 : Option Value} {o4 : Option Value} {o5 : Option Value} {o6 : Option Value} {fs7 : List Value} (h8 : f l1 = .inr (3, fs7)) (h9 : l1 < n) (h10 : mi_W d 37 0 (mi_en 6 [.ref l1, .int (l2 + 1)]) [] (n, sl, f) (mi_Kc d 37 38 [some (.ref l1), some (.int l2), o3, o4, o5, o6] [] Q)) : mi_W (d + 1) 37 34 [some (.ref l1), some (.int l2), o3, o4, o5, o6] [] (n, sl, f) Q := by
  refine w_aload_n cd_37_34 rfl ?_
  refine w_iload_n cd_37_35 rfl ?_
  refine w_iconst (v := 1) cd_37_36 (by decide) ?_
  refine w_iadd cd_37_37 ?_
  exact w_invokevirtual cd_37_38 (show mt_m 3 96 = some (37, 0) by decide +kernel) (rest := []) rfl (as := [.ref l1, .int (l2 + 1)]) rfl h8 (Or.inl h9) ⟨Nat.le_of_ble_eq_true rfl, Nat.le_of_ble_eq_true rfl, Nat.le_of_ble_eq_true rfl⟩ h10
theorem b_37_41 {d : Nat} {Q : (Option Value ⊕ Nat) → mi_H → Prop} (n sl : Nat) (f : Nat → mi_C) {l1 : Nat} {l2 : Int32} {o3 : Option Value} {o4 : Option Value} {o5 : Option Value} {o6 : Option Value} {s7 : Int32} {fs8 : List Value} (h9 : f l1 = .inr (3, fs8)) (h10 : l1 < n) (h11 : mi_W d 39 0 (mi_en 2 [.ref l1, .int 25]) [] (n, sl, f) (mi_Kc d 37 45 [some (.ref l1), some (.int l2), some (.int s7), o4, o5, o6] [] Q)) : mi_W (d + 1) 37 41 [some (.ref l1), some (.int l2), o3, o4, o5, o6] [.int s7] (n, sl, f) Q := by
  refine w_istore_n (ls' := [some (.ref l1), some (.int l2), some (.int s7), o4, o5, o6]) cd_37_41 (Nat.le_of_ble_eq_true rfl) rfl ?_
  refine w_aload_n cd_37_42 rfl ?_
  refine w_bipush (v := 25) cd_37_43 (by decide) ?_
  exact w_invokevirtual cd_37_45 (show mt_m 3 99 = some (39, 0) by decide +kernel) (rest := []) rfl (as := [.ref l1, .int 25]) rfl h9 (Or.inl h10) ⟨Nat.le_of_ble_eq_true rfl, Nat.le_of_ble_eq_true rfl, Nat.le_of_ble_eq_true rfl⟩ h11
theorem b_37_48 {d : Nat} {Q : (Option Value ⊕ Nat) → mi_H → Prop} (n sl : Nat) (f : Nat → mi_C) {l1 : Nat} {l2 : Int32} {l3 : Int32} {o4 : Option Value} {o5 : Option Value} {o6 : Option Value} (h7 : Q (.inl (some (.int l3))) (n, sl, f)) : mi_W d 37 48 [some (.ref l1), some (.int l2), some (.int l3), o4, o5, o6] [] (n, sl, f) Q := by
  refine w_iload_n cd_37_48 rfl ?_
  exact w_ireturn_i cd_37_49 (by decide +kernel) h7
theorem b_37_50 {d : Nat} {Q : (Option Value ⊕ Nat) → mi_H → Prop} (n sl : Nat) (f : Nat → mi_C) {l1 : Nat} {l2 : Int32} {o3 : Option Value} {o4 : Option Value} {o5 : Option Value} {o6 : Option Value} {fs7 : List Value} {x10 : Nat} {fs12 : List Value} {x15 : Int32} (h8 : f l1 = .inr (3, fs7)) (h9 : l1 < n) (h11 : fs7[0]? = some (.ref x10)) (h13 : f x10 = .inr (1, fs12)) (h14 : x10 < n) (h16 : fs12[2]? = some (.int x15)) (h17 : x15 = (0 : Int32) → mi_W d 37 90 [some (.ref l1), some (.int l2), some (.int x15), o4, o5, o6] [.ref l1] (n, sl, f) Q) (h18 : ¬ (x15 = (0 : Int32)) → mi_W d 37 63 [some (.ref l1), some (.int l2), some (.int x15), o4, o5, o6] [.ref l1] (n, sl, f) Q) : mi_W d 37 50 [some (.ref l1), some (.int l2), o3, o4, o5, o6] [] (n, sl, f) Q := by
  refine w_aload_n cd_37_50 rfl ?_
  refine w_getfield cd_37_51 (show mt_f 3 15 = some (3, 0) by decide +kernel) h8 h9 h11 ?_
  refine w_getfield cd_37_54 (show mt_f 3 67 = some (1, 2) by decide +kernel) h13 h14 h16 ?_
  refine w_istore_n (ls' := [some (.ref l1), some (.int l2), some (.int x15), o4, o5, o6]) cd_37_57 (Nat.le_of_ble_eq_true rfl) rfl ?_
  refine w_aload_n cd_37_58 rfl ?_
  refine w_iload_n cd_37_59 rfl ?_
  exact w_ifeq cd_37_60 (by decide) h17 h18
theorem b_37_63 {d : Nat} {Q : (Option Value ⊕ Nat) → mi_H → Prop} (n sl : Nat) (f : Nat → mi_C) {l1 : Nat} {l2 : Int32} {l3 : Int32} {o4 : Option Value} {o5 : Option Value} {o6 : Option Value} {s7 : Nat} (h8 : l3 = 1 → mi_W d 37 90 [some (.ref l1), some (.int l2), some (.int l3), o4, o5, o6] [.ref s7] (n, sl, f) Q) (h9 : ¬ (l3 = 1) → mi_W d 37 68 [some (.ref l1), some (.int l2), some (.int l3), o4, o5, o6] [.ref s7] (n, sl, f) Q) : mi_W d 37 63 [some (.ref l1), some (.int l2), some (.int l3), o4, o5, o6] [.ref s7] (n, sl, f) Q := by
  refine w_iload_n cd_37_63 rfl ?_
  refine w_iconst (v := 1) cd_37_64 (by decide) ?_
  exact w_if_icmpeq cd_37_65 (by decide) h8 h9
theorem b_37_68 {d : Nat} {Q : (Option Value ⊕ Nat) → mi_H → Prop} (n sl : Nat) (f : Nat → mi_C) {l1 : Nat} {l2 : Int32} {l3 : Int32} {o4 : Option Value} {o5 : Option Value} {o6 : Option Value} {s7 : Nat} (h8 : l3 = 4 → mi_W d 37 90 [some (.ref l1), some (.int l2), some (.int l3), o4, o5, o6] [.ref s7] (n, sl, f) Q) (h9 : ¬ (l3 = 4) → mi_W d 37 73 [some (.ref l1), some (.int l2), some (.int l3), o4, o5, o6] [.ref s7] (n, sl, f) Q) : mi_W d 37 68 [some (.ref l1), some (.int l2), some (.int l3), o4, o5, o6] [.ref s7] (n, sl, f) Q := by
  refine w_iload_n cd_37_68 rfl ?_
  refine w_iconst (v := 4) cd_37_69 (by decide) ?_
  exact w_if_icmpeq cd_37_70 (by decide) h8 h9
theorem b_37_73 {d : Nat} {Q : (Option Value ⊕ Nat) → mi_H → Prop} (n sl : Nat) (f : Nat → mi_C) {l1 : Nat} {l2 : Int32} {l3 : Int32} {o4 : Option Value} {o5 : Option Value} {o6 : Option Value} {s7 : Nat} (h8 : l3 = 5 → mi_W d 37 90 [some (.ref l1), some (.int l2), some (.int l3), o4, o5, o6] [.ref s7] (n, sl, f) Q) (h9 : ¬ (l3 = 5) → mi_W d 37 78 [some (.ref l1), some (.int l2), some (.int l3), o4, o5, o6] [.ref s7] (n, sl, f) Q) : mi_W d 37 73 [some (.ref l1), some (.int l2), some (.int l3), o4, o5, o6] [.ref s7] (n, sl, f) Q := by
  refine w_iload_n cd_37_73 rfl ?_
  refine w_iconst (v := 5) cd_37_74 (by decide) ?_
  exact w_if_icmpeq cd_37_75 (by decide) h8 h9
theorem b_37_78 {d : Nat} {Q : (Option Value ⊕ Nat) → mi_H → Prop} (n sl : Nat) (f : Nat → mi_C) {l1 : Nat} {l2 : Int32} {l3 : Int32} {o4 : Option Value} {o5 : Option Value} {o6 : Option Value} {s7 : Nat} (h8 : l3 = 6 → mi_W d 37 90 [some (.ref l1), some (.int l2), some (.int l3), o4, o5, o6] [.ref s7] (n, sl, f) Q) (h9 : ¬ (l3 = 6) → mi_W d 37 84 [some (.ref l1), some (.int l2), some (.int l3), o4, o5, o6] [.ref s7] (n, sl, f) Q) : mi_W d 37 78 [some (.ref l1), some (.int l2), some (.int l3), o4, o5, o6] [.ref s7] (n, sl, f) Q := by
  refine w_iload_n cd_37_78 rfl ?_
  refine w_bipush (v := 6) cd_37_79 (by decide) ?_
  exact w_if_icmpeq cd_37_81 (by decide) h8 h9
theorem b_37_84 {d : Nat} {Q : (Option Value ⊕ Nat) → mi_H → Prop} (n sl : Nat) (f : Nat → mi_C) {l1 : Nat} {l2 : Int32} {l3 : Int32} {o4 : Option Value} {o5 : Option Value} {o6 : Option Value} {s7 : Nat} (h8 : ¬ l3 = 7 → mi_W d 37 94 [some (.ref l1), some (.int l2), some (.int l3), o4, o5, o6] [.ref s7] (n, sl, f) Q) (h9 : ¬ (¬ l3 = 7) → mi_W d 37 90 [some (.ref l1), some (.int l2), some (.int l3), o4, o5, o6] [.ref s7] (n, sl, f) Q) : mi_W d 37 84 [some (.ref l1), some (.int l2), some (.int l3), o4, o5, o6] [.ref s7] (n, sl, f) Q := by
  refine w_iload_n cd_37_84 rfl ?_
  refine w_bipush (v := 7) cd_37_85 (by decide) ?_
  exact w_if_icmpne cd_37_87 (by decide) h8 h9
theorem b_37_90 {d : Nat} {Q : (Option Value ⊕ Nat) → mi_H → Prop} (n sl : Nat) (f : Nat → mi_C) {l1 : Nat} {l2 : Int32} {l3 : Int32} {o4 : Option Value} {o5 : Option Value} {o6 : Option Value} {s7 : Nat} (h8 : mi_W d 37 95 [some (.ref l1), some (.int l2), some (.int l3), o4, o5, o6] [.int 1, .ref s7] (n, sl, f) Q) : mi_W d 37 90 [some (.ref l1), some (.int l2), some (.int l3), o4, o5, o6] [.ref s7] (n, sl, f) Q := by
  refine w_iconst (v := 1) cd_37_90 (by decide) ?_
  exact w_goto cd_37_91 (by decide) h8
theorem b_37_94 {d : Nat} {Q : (Option Value ⊕ Nat) → mi_H → Prop} (n sl : Nat) (f : Nat → mi_C) {l1 : Nat} {l2 : Int32} {l3 : Int32} {o4 : Option Value} {o5 : Option Value} {o6 : Option Value} {s7 : Nat} (h8 : mi_W d 37 95 [some (.ref l1), some (.int l2), some (.int l3), o4, o5, o6] [.int 0, .ref s7] (n, sl, f) Q) : mi_W d 37 94 [some (.ref l1), some (.int l2), some (.int l3), o4, o5, o6] [.ref s7] (n, sl, f) Q := by
  refine w_iconst (v := 0) cd_37_94 (by decide) ?_
  exact h8
theorem b_37_95 {d : Nat} {Q : (Option Value ⊕ Nat) → mi_H → Prop} (n sl : Nat) (f : Nat → mi_C) {l1 : Nat} {l2 : Int32} {l3 : Int32} {o4 : Option Value} {o5 : Option Value} {o6 : Option Value} {s7 : Int32} {s8 : Nat} {fs9 : List Value} (h10 : f s8 = .inr (3, fs9)) (h11 : s8 < n) (h12 : mi_W d 38 0 (mi_en 2 [.ref s8, .int s7]) [] (n, sl, f) (mi_Kc d 37 95 [some (.ref l1), some (.int l2), some (.int l3), o4, o5, o6] [] Q)) : mi_W (d + 1) 37 95 [some (.ref l1), some (.int l2), some (.int l3), o4, o5, o6] [.int s7, .ref s8] (n, sl, f) Q := by
  exact w_invokevirtual cd_37_95 (show mt_m 3 70 = some (38, 0) by decide +kernel) (rest := []) rfl (as := [.ref s8, .int s7]) rfl h10 (Or.inl h11) ⟨Nat.le_of_ble_eq_true rfl, Nat.le_of_ble_eq_true rfl, Nat.le_of_ble_eq_true rfl⟩ h12
theorem b_37_98 {d : Nat} {Q : (Option Value ⊕ Nat) → mi_H → Prop} (n sl : Nat) (f : Nat → mi_C) {l1 : Nat} {l2 : Int32} {l3 : Int32} {o4 : Option Value} {o5 : Option Value} {o6 : Option Value} {fs7 : List Value} (h8 : f l1 = .inr (3, fs7)) (h9 : l1 < n) (h10 : mi_W d 40 0 (mi_en 2 [.ref l1]) [] (n, sl, f) (mi_Kc d 37 99 [some (.ref l1), some (.int l2), some (.int l3), o4, o5, o6] [] Q)) : mi_W (d + 1) 37 98 [some (.ref l1), some (.int l2), some (.int l3), o4, o5, o6] [] (n, sl, f) Q := by
  refine w_aload_n cd_37_98 rfl ?_
  exact w_invokevirtual cd_37_99 (show mt_m 3 102 = some (40, 0) by decide +kernel) (rest := []) rfl (as := [.ref l1]) rfl h8 (Or.inl h9) ⟨Nat.le_of_ble_eq_true rfl, Nat.le_of_ble_eq_true rfl, Nat.le_of_ble_eq_true rfl⟩ h10
theorem b_37_102 {d : Nat} {Q : (Option Value ⊕ Nat) → mi_H → Prop} (n sl : Nat) (f : Nat → mi_C) {l1 : Nat} {l2 : Int32} {l3 : Int32} {o4 : Option Value} {o5 : Option Value} {o6 : Option Value} {s7 : Int32} {t8 : Nat} (h9 : mi_ts 104 243 1 7 #[44, 243, 243, 189, 68, 153, 224] (l3 : Int32).toInt = some t8) (h10 : mi_W d 37 t8 [some (.ref l1), some (.int l2), some (.int l3), some (.int s7), o5, o6] [] (n, sl, f) Q) : mi_W d 37 102 [some (.ref l1), some (.int l2), some (.int l3), o4, o5, o6] [.int s7] (n, sl, f) Q := by
  refine w_istore_n (ls' := [some (.ref l1), some (.int l2), some (.int l3), some (.int s7), o5, o6]) cd_37_102 (Nat.le_of_ble_eq_true rfl) rfl ?_
  refine w_iload_n cd_37_103 rfl ?_
  exact w_tableswitch cd_37_104 h9 h10
theorem b_37_148 {d : Nat} {Q : (Option Value ⊕ Nat) → mi_H → Prop} (n sl : Nat) (f : Nat → mi_C) {l1 : Nat} {l2 : Int32} {l3 : Int32} {l4 : Int32} {o5 : Option Value} {o6 : Option Value} {fs7 : List Value} (h8 : f l1 = .inr (3, fs7)) (h9 : l1 < n) (h10 : mi_W d 42 0 (mi_en 2 [.ref l1, .int l4]) [] (n, sl, f) (mi_Kc d 37 150 [some (.ref l1), some (.int l2), some (.int l3), some (.int l4), o5, o6] [] Q)) : mi_W (d + 1) 37 148 [some (.ref l1), some (.int l2), some (.int l3), some (.int l4), o5, o6] [] (n, sl, f) Q := by
  refine w_aload_n cd_37_148 rfl ?_
  refine w_iload_n cd_37_149 rfl ?_
  exact w_invokevirtual cd_37_150 (show mt_m 3 106 = some (42, 0) by decide +kernel) (rest := []) rfl (as := [.ref l1, .int l4]) rfl h8 (Or.inl h9) ⟨Nat.le_of_ble_eq_true rfl, Nat.le_of_ble_eq_true rfl, Nat.le_of_ble_eq_true rfl⟩ h10
theorem b_37_153 {d : Nat} {Q : (Option Value ⊕ Nat) → mi_H → Prop} (n sl : Nat) (f : Nat → mi_C) {l1 : Nat} {l2 : Int32} {l3 : Int32} {l4 : Int32} {o5 : Option Value} {o6 : Option Value} {fs7 : List Value} {x10 : Nat} {fs12 : List Value} {x15 : Nat} {fs17 : List Value} (h8 : f l1 = .inr (3, fs7)) (h9 : l1 < n) (h11 : fs7[1]? = some (.ref x10)) (h13 : f x10 = .inr (2, fs12)) (h14 : x10 < n) (h16 : fs12[1]? = some (.ref x15)) (h18 : f l1 = .inr (3, fs17)) (h19 : l1 < n) (h20 : mi_W d 48 0 (mi_en 5 [.ref l1, .int (l2 + 1)]) [] (n, sl, f) (mi_Kc d 37 165 [some (.ref l1), some (.int l2), some (.int l3), some (.int l4), o5, o6] [.int l4, .ref x15] Q)) : mi_W (d + 1) 37 153 [some (.ref l1), some (.int l2), some (.int l3), some (.int l4), o5, o6] [] (n, sl, f) Q := by
  refine w_aload_n cd_37_153 rfl ?_
  refine w_getfield cd_37_154 (show mt_f 3 19 = some (3, 1) by decide +kernel) h8 h9 h11 ?_
  refine w_getfield cd_37_157 (show mt_f 3 109 = some (2, 1) by decide +kernel) h13 h14 h16 ?_
  refine w_iload_n cd_37_160 rfl ?_
  refine w_aload_n cd_37_161 rfl ?_
  refine w_iload_n cd_37_162 rfl ?_
  refine w_iconst (v := 1) cd_37_163 (by decide) ?_
  refine w_iadd cd_37_164 ?_
  exact w_invokevirtual cd_37_165 (show mt_m 3 113 = some (48, 0) by decide +kernel) (rest := [.int l4, .ref x15]) rfl (as := [.ref l1, .int (l2 + 1)]) rfl h18 (Or.inl h19) ⟨Nat.le_of_ble_eq_true rfl, Nat.le_of_ble_eq_true rfl, Nat.le_of_ble_eq_true rfl⟩ h20
theorem b_37_168 {d : Nat} {Q : (Option Value ⊕ Nat) → mi_H → Prop} (n sl : Nat) (f : Nat → mi_C) {l1 : Nat} {l2 : Int32} {l3 : Int32} {l4 : Int32} {o5 : Option Value} {o6 : Option Value} {s7 : Int32} {s8 : Int32} {s9 : Nat} (m10 i10 : Nat) (g10 : Nat → Int32) (h11 : f s9 = .inl (0, m10, .inl g10)) (h12 : s9 < n) (h13 : mi_ix s8 m10 i10) (h14 : mi_W d 37 347 [some (.ref l1), some (.int l2), some (.int l3), some (.int l4), o5, o6] [] (n, sl, (va_up f s9 (.inl (0, m10, .inl (upd g10 i10 s7))))) Q) : mi_W d 37 168 [some (.ref l1), some (.int l2), some (.int l3), some (.int l4), o5, o6] [.int s7, .int s8, .ref s9] (n, sl, f) Q := by
  refine w_iastore cd_37_168 h11 h12 h13 ?_
  exact w_goto cd_37_169 (by decide) h14
theorem b_37_172 {d : Nat} {Q : (Option Value ⊕ Nat) → mi_H → Prop} (n sl : Nat) (f : Nat → mi_C) {l1 : Nat} {l2 : Int32} {l3 : Int32} {l4 : Int32} {o5 : Option Value} {o6 : Option Value} {fs7 : List Value} (h8 : f l1 = .inr (3, fs7)) (h9 : l1 < n) (h10 : mi_W d 39 0 (mi_en 2 [.ref l1, .int 26]) [] (n, sl, f) (mi_Kc d 37 175 [some (.ref l1), some (.int l2), some (.int l3), some (.int l4), o5, o6] [] Q)) : mi_W (d + 1) 37 172 [some (.ref l1), some (.int l2), some (.int l3), some (.int l4), o5, o6] [] (n, sl, f) Q := by
  refine w_aload_n cd_37_172 rfl ?_
  refine w_bipush (v := 26) cd_37_173 (by decide) ?_
  exact w_invokevirtual cd_37_175 (show mt_m 3 99 = some (39, 0) by decide +kernel) (rest := []) rfl (as := [.ref l1, .int 26]) rfl h8 (Or.inl h9) ⟨Nat.le_of_ble_eq_true rfl, Nat.le_of_ble_eq_true rfl, Nat.le_of_ble_eq_true rfl⟩ h10
theorem b_37_178 {d : Nat} {Q : (Option Value ⊕ Nat) → mi_H → Prop} (n sl : Nat) (f : Nat → mi_C) {l1 : Nat} {l2 : Int32} {l3 : Int32} {l4 : Int32} {o5 : Option Value} {o6 : Option Value} (h7 : mi_W d 37 184 [some (.ref l1), some (.int l2), some (.int l3), some (.int l4), some (.int (-1)), some (.int 0)] [] (n, sl, f) Q) : mi_W d 37 178 [some (.ref l1), some (.int l2), some (.int l3), some (.int l4), o5, o6] [] (n, sl, f) Q := by
  refine w_iconst (v := (-1)) cd_37_178 (by decide) ?_
  refine w_istore (ls' := [some (.ref l1), some (.int l2), some (.int l3), some (.int l4), some (.int (-1)), o6]) cd_37_179 (Nat.le_of_ble_eq_true rfl) rfl ?_
  refine w_iconst (v := 0) cd_37_181 (by decide) ?_
  refine w_istore (ls' := [some (.ref l1), some (.int l2), some (.int l3), some (.int l4), some (.int (-1)), some (.int 0)]) cd_37_182 (Nat.le_of_ble_eq_true rfl) rfl ?_
  exact h7
theorem b_37_184 {d : Nat} {Q : (Option Value ⊕ Nat) → mi_H → Prop} (n sl : Nat) (f : Nat → mi_C) {l1 : Nat} {l2 : Int32} {l3 : Int32} {l4 : Int32} {l5 : Int32} {l6 : Int32} (h7 : 8 < l6 → mi_W d 37 235 [some (.ref l1), some (.int l2), some (.int l3), some (.int l4), some (.int l5), some (.int l6)] [] (n, sl, f) Q) (h8 : ¬ (8 < l6) → mi_W d 37 191 [some (.ref l1), some (.int l2), some (.int l3), some (.int l4), some (.int l5), some (.int l6)] [] (n, sl, f) Q) : mi_W d 37 184 [some (.ref l1), some (.int l2), some (.int l3), some (.int l4), some (.int l5), some (.int l6)] [] (n, sl, f) Q := by
  refine w_iload cd_37_184 rfl ?_
  refine w_bipush (v := 8) cd_37_186 (by decide) ?_
  exact w_if_icmpgt cd_37_188 (by decide) h7 h8
theorem b_37_191 {d : Nat} {Q : (Option Value ⊕ Nat) → mi_H → Prop} (n sl : Nat) (f : Nat → mi_C) {l1 : Nat} {l2 : Int32} {l3 : Int32} {l4 : Int32} {l5 : Int32} {l6 : Int32} {fs7 : List Value} {x10 : Nat} {fs12 : List Value} {x15 : Int32} (h8 : f l1 = .inr (3, fs7)) (h9 : l1 < n) (h11 : fs7[0]? = some (.ref x10)) (h13 : f x10 = .inr (1, fs12)) (h14 : x10 < n) (h16 : fs12[2]? = some (.int x15)) (h17 : x15 = 27 → mi_W d 37 235 [some (.ref l1), some (.int l2), some (.int l3), some (.int l4), some (.int l5), some (.int l6)] [] (n, sl, f) Q) (h18 : ¬ (x15 = 27) → mi_W d 37 203 [some (.ref l1), some (.int l2), some (.int l3), some (.int l4), some (.int l5), some (.int l6)] [] (n, sl, f) Q) : mi_W d 37 191 [some (.ref l1), some (.int l2), some (.int l3), some (.int l4), some (.int l5), some (.int l6)] [] (n, sl, f) Q := by
  refine w_aload_n cd_37_191 rfl ?_
  refine w_getfield cd_37_192 (show mt_f 3 15 = some (3, 0) by decide +kernel) h8 h9 h11 ?_
  refine w_getfield cd_37_195 (show mt_f 3 67 = some (1, 2) by decide +kernel) h13 h14 h16 ?_
  refine w_bipush (v := 27) cd_37_198 (by decide) ?_
  exact w_if_icmpeq cd_37_200 (by decide) h17 h18
theorem b_37_203 {d : Nat} {Q : (Option Value ⊕ Nat) → mi_H → Prop} (n sl : Nat) (f : Nat → mi_C) {l1 : Nat} {l2 : Int32} {l3 : Int32} {l4 : Int32} {l5 : Int32} {l6 : Int32} (h7 : 8 ≤ l6 → mi_W d 37 215 [some (.ref l1), some (.int l2), some (.int l3), some (.int l4), some (.int l5), some (.int l6)] [.ref l1] (n, sl, f) Q) (h8 : ¬ (8 ≤ l6) → mi_W d 37 211 [some (.ref l1), some (.int l2), some (.int l3), some (.int l4), some (.int l5), some (.int l6)] [.ref l1] (n, sl, f) Q) : mi_W d 37 203 [some (.ref l1), some (.int l2), some (.int l3), some (.int l4), some (.int l5), some (.int l6)] [] (n, sl, f) Q := by
  refine w_aload_n cd_37_203 rfl ?_
  refine w_iload cd_37_204 rfl ?_
  refine w_bipush (v := 8) cd_37_206 (by decide) ?_
  exact w_if_icmpge cd_37_208 (by decide) h7 h8
theorem b_37_211 {d : Nat} {Q : (Option Value ⊕ Nat) → mi_H → Prop} (n sl : Nat) (f : Nat → mi_C) {l1 : Nat} {l2 : Int32} {l3 : Int32} {l4 : Int32} {l5 : Int32} {l6 : Int32} {s7 : Nat} (h8 : mi_W d 37 216 [some (.ref l1), some (.int l2), some (.int l3), some (.int l4), some (.int l5), some (.int l6)] [.int 1, .ref s7] (n, sl, f) Q) : mi_W d 37 211 [some (.ref l1), some (.int l2), some (.int l3), some (.int l4), some (.int l5), some (.int l6)] [.ref s7] (n, sl, f) Q := by
  refine w_iconst (v := 1) cd_37_211 (by decide) ?_
  exact w_goto cd_37_212 (by decide) h8
theorem b_37_215 {d : Nat} {Q : (Option Value ⊕ Nat) → mi_H → Prop} (n sl : Nat) (f : Nat → mi_C) {l1 : Nat} {l2 : Int32} {l3 : Int32} {l4 : Int32} {l5 : Int32} {l6 : Int32} {s7 : Nat} (h8 : mi_W d 37 216 [some (.ref l1), some (.int l2), some (.int l3), some (.int l4), some (.int l5), some (.int l6)] [.int 0, .ref s7] (n, sl, f) Q) : mi_W d 37 215 [some (.ref l1), some (.int l2), some (.int l3), some (.int l4), some (.int l5), some (.int l6)] [.ref s7] (n, sl, f) Q := by
  refine w_iconst (v := 0) cd_37_215 (by decide) ?_
  exact h8
theorem b_37_216 {d : Nat} {Q : (Option Value ⊕ Nat) → mi_H → Prop} (n sl : Nat) (f : Nat → mi_C) {l1 : Nat} {l2 : Int32} {l3 : Int32} {l4 : Int32} {l5 : Int32} {l6 : Int32} {s7 : Int32} {s8 : Nat} {fs9 : List Value} (h10 : f s8 = .inr (3, fs9)) (h11 : s8 < n) (h12 : mi_W d 38 0 (mi_en 2 [.ref s8, .int s7]) [] (n, sl, f) (mi_Kc d 37 216 [some (.ref l1), some (.int l2), some (.int l3), some (.int l4), some (.int l5), some (.int l6)] [] Q)) : mi_W (d + 1) 37 216 [some (.ref l1), some (.int l2), some (.int l3), some (.int l4), some (.int l5), some (.int l6)] [.int s7, .ref s8] (n, sl, f) Q := by
  exact w_invokevirtual cd_37_216 (show mt_m 3 70 = some (38, 0) by decide +kernel) (rest := []) rfl (as := [.ref s8, .int s7]) rfl h10 (Or.inl h11) ⟨Nat.le_of_ble_eq_true rfl, Nat.le_of_ble_eq_true rfl, Nat.le_of_ble_eq_true rfl⟩ h12
theorem b_37_219 {d : Nat} {Q : (Option Value ⊕ Nat) → mi_H → Prop} (n sl : Nat) (f : Nat → mi_C) {l1 : Nat} {l2 : Int32} {l3 : Int32} {l4 : Int32} {l5 : Int32} {l6 : Int32} {fs7 : List Value} (h8 : f l1 = .inr (3, fs7)) (h9 : l1 < n) (h10 : mi_W d 51 0 (mi_en 6 [.ref l1, .int l4, .int l5, .int l2]) [] (n, sl, f) (mi_Kc d 37 224 [some (.ref l1), some (.int l2), some (.int l3), some (.int l4), some (.int l5), some (.int l6)] [] Q)) : mi_W (d + 1) 37 219 [some (.ref l1), some (.int l2), some (.int l3), some (.int l4), some (.int l5), some (.int l6)] [] (n, sl, f) Q := by
  refine w_aload_n cd_37_219 rfl ?_
  refine w_iload_n cd_37_220 rfl ?_
  refine w_iload cd_37_221 rfl ?_
  refine w_iload_n cd_37_223 rfl ?_
  exact w_invokevirtual cd_37_224 (show mt_m 3 116 = some (51, 0) by decide +kernel) (rest := []) rfl (as := [.ref l1, .int l4, .int l5, .int l2]) rfl h8 (Or.inl h9) ⟨Nat.le_of_ble_eq_true rfl, Nat.le_of_ble_eq_true rfl, Nat.le_of_ble_eq_true rfl⟩ h10
theorem b_37_227 {d : Nat} {Q : (Option Value ⊕ Nat) → mi_H → Prop} (n sl : Nat) (f : Nat → mi_C) {l1 : Nat} {l2 : Int32} {l3 : Int32} {l4 : Int32} {l5 : Int32} {l6 : Int32} {s7 : Int32} (h8 : mi_W d 37 184 [some (.ref l1), some (.int l2), some (.int l3), some (.int l4), some (.int s7), some (.int (l6 + 1))] [] (n, sl, f) Q) : mi_W d 37 227 [some (.ref l1), some (.int l2), some (.int l3), some (.int l4), some (.int l5), some (.int l6)] [.int s7] (n, sl, f) Q := by
  refine w_istore (ls' := [some (.ref l1), some (.int l2), some (.int l3), some (.int l4), some (.int s7), some (.int l6)]) cd_37_227 (Nat.le_of_ble_eq_true rfl) rfl ?_
  refine w_iinc (v := 1) (ls' := [some (.ref l1), some (.int l2), some (.int l3), some (.int l4), some (.int s7), some (.int (l6 + 1))]) cd_37_229 rfl (by decide) rfl ?_
  exact w_goto cd_37_232 (by decide) h8
theorem b_37_235 {d : Nat} {Q : (Option Value ⊕ Nat) → mi_H → Prop} (n sl : Nat) (f : Nat → mi_C) {l1 : Nat} {l2 : Int32} {l3 : Int32} {l4 : Int32} {l5 : Int32} {l6 : Int32} {fs7 : List Value} (h8 : f l1 = .inr (3, fs7)) (h9 : l1 < n) (h10 : mi_W d 39 0 (mi_en 2 [.ref l1, .int 27]) [] (n, sl, f) (mi_Kc d 37 238 [some (.ref l1), some (.int l2), some (.int l3), some (.int l4), some (.int l5), some (.int l6)] [] Q)) : mi_W (d + 1) 37 235 [some (.ref l1), some (.int l2), some (.int l3), some (.int l4), some (.int l5), some (.int l6)] [] (n, sl, f) Q := by
  refine w_aload_n cd_37_235 rfl ?_
  refine w_bipush (v := 27) cd_37_236 (by decide) ?_
  exact w_invokevirtual cd_37_238 (show mt_m 3 99 = some (39, 0) by decide +kernel) (rest := []) rfl (as := [.ref l1, .int 27]) rfl h8 (Or.inl h9) ⟨Nat.le_of_ble_eq_true rfl, Nat.le_of_ble_eq_true rfl, Nat.le_of_ble_eq_true rfl⟩ h10
theorem b_37_241 {d : Nat} {Q : (Option Value ⊕ Nat) → mi_H → Prop} (n sl : Nat) (f : Nat → mi_C) {l1 : Nat} {l2 : Int32} {l3 : Int32} {l4 : Int32} {l5 : Int32} {l6 : Int32} {fs7 : List Value} {x10 : Nat} {fs12 : List Value} {x15 : Nat} {fs17 : List Value} (h8 : f l1 = .inr (3, fs7)) (h9 : l1 < n) (h11 : fs7[1]? = some (.ref x10)) (h13 : f x10 = .inr (2, fs12)) (h14 : x10 < n) (h16 : fs12[9]? = some (.ref x15)) (h18 : f l1 = .inr (3, fs17)) (h19 : l1 < n) (h20 : mi_W d 53 0 (mi_en 3 [.ref l1]) [] (n, sl, f) (mi_Kc d 37 250 [some (.ref l1), some (.int l2), some (.int l3), some (.int l4), some (.int l5), some (.int l6)] [.int l4, .ref x15] Q)) : mi_W (d + 1) 37 241 [some (.ref l1), some (.int l2), some (.int l3), some (.int l4), some (.int l5), some (.int l6)] [] (n, sl, f) Q := by
  refine w_aload_n cd_37_241 rfl ?_
  refine w_getfield cd_37_242 (show mt_f 3 19 = some (3, 1) by decide +kernel) h8 h9 h11 ?_
  refine w_getfield cd_37_245 (show mt_f 3 120 = some (2, 9) by decide +kernel) h13 h14 h16 ?_
  refine w_iload_n cd_37_248 rfl ?_
  refine w_aload_n cd_37_249 rfl ?_
  exact w_invokevirtual cd_37_250 (show mt_m 3 124 = some (53, 0) by decide +kernel) (rest := [.int l4, .ref x15]) rfl (as := [.ref l1]) rfl h18 (Or.inl h19) ⟨Nat.le_of_ble_eq_true rfl, Nat.le_of_ble_eq_true rfl, Nat.le_of_ble_eq_true rfl⟩ h20
theorem b_37_253 {d : Nat} {Q : (Option Value ⊕ Nat) → mi_H → Prop} (n sl : Nat) (f : Nat → mi_C) {l1 : Nat} {l2 : Int32} {l3 : Int32} {l4 : Int32} {l5 : Int32} {l6 : Int32} {s7 : Int64} {s8 : Int32} {s9 : Nat} (m10 i10 : Nat) (g10 : Nat → Int64) (h11 : f s9 = .inl (3, m10, .inr (.inl g10))) (h12 : s9 < n) (h13 : mi_ix s8 m10 i10) (h14 : mi_W d 37 347 [some (.ref l1), some (.int l2), some (.int l3), some (.int l4), some (.int l5), some (.int l6)] [] (n, sl, (va_up f s9 (.inl (3, m10, .inr (.inl (vp_updL g10 i10 s7)))))) Q) : mi_W d 37 253 [some (.ref l1), some (.int l2), some (.int l3), some (.int l4), some (.int l5), some (.int l6)] [.long s7, .int s8, .ref s9] (n, sl, f) Q := by
  refine w_lastore cd_37_253 h11 h12 h13 ?_
  exact w_goto cd_37_254 (by decide) h14
theorem b_37_257 {d : Nat} {Q : (Option Value ⊕ Nat) → mi_H → Prop} (n sl : Nat) (f : Nat → mi_C) {l1 : Nat} {l2 : Int32} {l3 : Int32} {l4 : Int32} {o5 : Option Value} {o6 : Option Value} {fs7 : List Value} {x10 : Nat} {fs12 : List Value} {x15 : Nat} {fs17 : List Value} {x20 : Nat} {fs22 : List Value} (h8 : f l1 = .inr (3, fs7)) (h9 : l1 < n) (h11 : fs7[1]? = some (.ref x10)) (h13 : f x10 = .inr (2, fs12)) (h14 : x10 < n) (h16 : fs12[4]? = some (.ref x15)) (h18 : f l1 = .inr (3, fs17)) (h19 : l1 < n) (h21 : fs17[5]? = some (.ref x20)) (h23 : f l1 = .inr (3, fs22)) (h24 : l1 < n) (h25 : mi_W d 43 0 (mi_en 3 [.ref l1, .ref x20]) [] (n, sl, f) (mi_Kc d 37 270 [some (.ref l1), some (.int l2), some (.int l3), some (.int l4), o5, o6] [.int l4, .ref x15] Q)) : mi_W (d + 1) 37 257 [some (.ref l1), some (.int l2), some (.int l3), some (.int l4), o5, o6] [] (n, sl, f) Q := by
  refine w_aload_n cd_37_257 rfl ?_
  refine w_getfield cd_37_258 (show mt_f 3 19 = some (3, 1) by decide +kernel) h8 h9 h11 ?_
  refine w_getfield cd_37_261 (show mt_f 3 128 = some (2, 4) by decide +kernel) h13 h14 h16 ?_
  refine w_iload_n cd_37_264 rfl ?_
  refine w_aload_n cd_37_265 rfl ?_
  refine w_aload_n cd_37_266 rfl ?_
  refine w_getfield cd_37_267 (show mt_f 3 44 = some (3, 5) by decide +kernel) h18 h19 h21 ?_
  exact w_invokevirtual cd_37_270 (show mt_m 3 131 = some (43, 0) by decide +kernel) (rest := [.int l4, .ref x15]) rfl (as := [.ref l1, .ref x20]) rfl h23 (Or.inl h24) ⟨Nat.le_of_ble_eq_true rfl, Nat.le_of_ble_eq_true rfl, Nat.le_of_ble_eq_true rfl⟩ h25
theorem b_37_273 {d : Nat} {Q : (Option Value ⊕ Nat) → mi_H → Prop} (n sl : Nat) (f : Nat → mi_C) {l1 : Nat} {l2 : Int32} {l3 : Int32} {l4 : Int32} {o5 : Option Value} {o6 : Option Value} {s7 : Int32} {s8 : Int32} {s9 : Nat} (m10 i10 : Nat) (g10 : Nat → Int32) {fs14 : List Value} {x17 : Nat} {fs19 : List Value} {x22 : Nat} {fs24 : List Value} (h11 : f s9 = .inl (0, m10, .inl g10)) (h12 : s9 < n) (h13 : mi_ix s8 m10 i10) (h15 : (va_up f s9 (.inl (0, m10, .inl (upd g10 i10 s7)))) l1 = .inr (3, fs14)) (h16 : l1 < n) (h18 : fs14[1]? = some (.ref x17)) (h20 : (va_up f s9 (.inl (0, m10, .inl (upd g10 i10 s7)))) x17 = .inr (2, fs19)) (h21 : x17 < n) (h23 : fs19[1]? = some (.ref x22)) (h25 : (va_up f s9 (.inl (0, m10, .inl (upd g10 i10 s7)))) l1 = .inr (3, fs24)) (h26 : l1 < n) (h27 : mi_W d 48 0 (mi_en 5 [.ref l1, .int (l2 + 1)]) [] (n, sl, (va_up f s9 (.inl (0, m10, .inl (upd g10 i10 s7))))) (mi_Kc d 37 286 [some (.ref l1), some (.int l2), some (.int l3), some (.int l4), o5, o6] [.int l4, .ref x22] Q)) : mi_W (d + 1) 37 273 [some (.ref l1), some (.int l2), some (.int l3), some (.int l4), o5, o6] [.int s7, .int s8, .ref s9] (n, sl, f) Q := by
  refine w_iastore cd_37_273 h11 h12 h13 ?_
  refine w_aload_n cd_37_274 rfl ?_
  refine w_getfield cd_37_275 (show mt_f 3 19 = some (3, 1) by decide +kernel) h15 h16 h18 ?_
  refine w_getfield cd_37_278 (show mt_f 3 109 = some (2, 1) by decide +kernel) h20 h21 h23 ?_
  refine w_iload_n cd_37_281 rfl ?_
  refine w_aload_n cd_37_282 rfl ?_
  refine w_iload_n cd_37_283 rfl ?_
  refine w_iconst (v := 1) cd_37_284 (by decide) ?_
  refine w_iadd cd_37_285 ?_
  exact w_invokevirtual cd_37_286 (show mt_m 3 113 = some (48, 0) by decide +kernel) (rest := [.int l4, .ref x22]) rfl (as := [.ref l1, .int (l2 + 1)]) rfl h25 (Or.inl h26) ⟨Nat.le_of_ble_eq_true rfl, Nat.le_of_ble_eq_true rfl, Nat.le_of_ble_eq_true rfl⟩ h27
theorem b_37_289 {d : Nat} {Q : (Option Value ⊕ Nat) → mi_H → Prop} (n sl : Nat) (f : Nat → mi_C) {l1 : Nat} {l2 : Int32} {l3 : Int32} {l4 : Int32} {o5 : Option Value} {o6 : Option Value} {s7 : Int32} {s8 : Int32} {s9 : Nat} (m10 i10 : Nat) (g10 : Nat → Int32) (h11 : f s9 = .inl (0, m10, .inl g10)) (h12 : s9 < n) (h13 : mi_ix s8 m10 i10) (h14 : mi_W d 37 347 [some (.ref l1), some (.int l2), some (.int l3), some (.int l4), o5, o6] [] (n, sl, (va_up f s9 (.inl (0, m10, .inl (upd g10 i10 s7))))) Q) : mi_W d 37 289 [some (.ref l1), some (.int l2), some (.int l3), some (.int l4), o5, o6] [.int s7, .int s8, .ref s9] (n, sl, f) Q := by
  refine w_iastore cd_37_289 h11 h12 h13 ?_
  exact w_goto cd_37_290 (by decide) h14
theorem b_37_293 {d : Nat} {Q : (Option Value ⊕ Nat) → mi_H → Prop} (n sl : Nat) (f : Nat → mi_C) {l1 : Nat} {l2 : Int32} {l3 : Int32} {l4 : Int32} {o5 : Option Value} {o6 : Option Value} {fs7 : List Value} {x10 : Nat} {fs12 : List Value} {x15 : Nat} {fs17 : List Value} (h8 : f l1 = .inr (3, fs7)) (h9 : l1 < n) (h11 : fs7[1]? = some (.ref x10)) (h13 : f x10 = .inr (2, fs12)) (h14 : x10 < n) (h16 : fs12[1]? = some (.ref x15)) (h18 : f l1 = .inr (3, fs17)) (h19 : l1 < n) (h20 : mi_W d 50 0 (mi_en 5 [.ref l1, .int (l2 + 1)]) [] (n, sl, f) (mi_Kc d 37 305 [some (.ref l1), some (.int l2), some (.int l3), some (.int l4), o5, o6] [.int l4, .ref x15] Q)) : mi_W (d + 1) 37 293 [some (.ref l1), some (.int l2), some (.int l3), some (.int l4), o5, o6] [] (n, sl, f) Q := by
  refine w_aload_n cd_37_293 rfl ?_
  refine w_getfield cd_37_294 (show mt_f 3 19 = some (3, 1) by decide +kernel) h8 h9 h11 ?_
  refine w_getfield cd_37_297 (show mt_f 3 109 = some (2, 1) by decide +kernel) h13 h14 h16 ?_
  refine w_iload_n cd_37_300 rfl ?_
  refine w_aload_n cd_37_301 rfl ?_
  refine w_iload_n cd_37_302 rfl ?_
  refine w_iconst (v := 1) cd_37_303 (by decide) ?_
  refine w_iadd cd_37_304 ?_
  exact w_invokevirtual cd_37_305 (show mt_m 3 135 = some (50, 0) by decide +kernel) (rest := [.int l4, .ref x15]) rfl (as := [.ref l1, .int (l2 + 1)]) rfl h18 (Or.inl h19) ⟨Nat.le_of_ble_eq_true rfl, Nat.le_of_ble_eq_true rfl, Nat.le_of_ble_eq_true rfl⟩ h20
theorem b_37_308 {d : Nat} {Q : (Option Value ⊕ Nat) → mi_H → Prop} (n sl : Nat) (f : Nat → mi_C) {l1 : Nat} {l2 : Int32} {l3 : Int32} {l4 : Int32} {o5 : Option Value} {o6 : Option Value} {s7 : Int32} {s8 : Int32} {s9 : Nat} (m10 i10 : Nat) (g10 : Nat → Int32) {fs14 : List Value} {x17 : Nat} {fs19 : List Value} {x22 : Nat} {fs24 : List Value} (h11 : f s9 = .inl (0, m10, .inl g10)) (h12 : s9 < n) (h13 : mi_ix s8 m10 i10) (h15 : (va_up f s9 (.inl (0, m10, .inl (upd g10 i10 s7)))) l1 = .inr (3, fs14)) (h16 : l1 < n) (h18 : fs14[1]? = some (.ref x17)) (h20 : (va_up f s9 (.inl (0, m10, .inl (upd g10 i10 s7)))) x17 = .inr (2, fs19)) (h21 : x17 < n) (h23 : fs19[2]? = some (.ref x22)) (h25 : (va_up f s9 (.inl (0, m10, .inl (upd g10 i10 s7)))) l1 = .inr (3, fs24)) (h26 : l1 < n) (h27 : mi_W d 37 0 (mi_en 6 [.ref l1, .int (l2 + 1)]) [] (n, sl, (va_up f s9 (.inl (0, m10, .inl (upd g10 i10 s7))))) (mi_Kc d 37 321 [some (.ref l1), some (.int l2), some (.int l3), some (.int l4), o5, o6] [.int l4, .ref x22] Q)) : mi_W (d + 1) 37 308 [some (.ref l1), some (.int l2), some (.int l3), some (.int l4), o5, o6] [.int s7, .int s8, .ref s9] (n, sl, f) Q := by
  refine w_iastore cd_37_308 h11 h12 h13 ?_
  refine w_aload_n cd_37_309 rfl ?_
  refine w_getfield cd_37_310 (show mt_f 3 19 = some (3, 1) by decide +kernel) h15 h16 h18 ?_
  refine w_getfield cd_37_313 (show mt_f 3 138 = some (2, 2) by decide +kernel) h20 h21 h23 ?_
  refine w_iload_n cd_37_316 rfl ?_
  refine w_aload_n cd_37_317 rfl ?_
  refine w_iload_n cd_37_318 rfl ?_
  refine w_iconst (v := 1) cd_37_319 (by decide) ?_
  refine w_iadd cd_37_320 ?_
  exact w_invokevirtual cd_37_321 (show mt_m 3 96 = some (37, 0) by decide +kernel) (rest := [.int l4, .ref x22]) rfl (as := [.ref l1, .int (l2 + 1)]) rfl h25 (Or.inl h26) ⟨Nat.le_of_ble_eq_true rfl, Nat.le_of_ble_eq_true rfl, Nat.le_of_ble_eq_true rfl⟩ h27
theorem b_37_324 {d : Nat} {Q : (Option Value ⊕ Nat) → mi_H → Prop} (n sl : Nat) (f : Nat → mi_C) {l1 : Nat} {l2 : Int32} {l3 : Int32} {l4 : Int32} {o5 : Option Value} {o6 : Option Value} {s7 : Int32} {s8 : Int32} {s9 : Nat} (m10 i10 : Nat) (g10 : Nat → Int32) (h11 : f s9 = .inl (0, m10, .inl g10)) (h12 : s9 < n) (h13 : mi_ix s8 m10 i10) (h14 : mi_W d 37 347 [some (.ref l1), some (.int l2), some (.int l3), some (.int l4), o5, o6] [] (n, sl, (va_up f s9 (.inl (0, m10, .inl (upd g10 i10 s7))))) Q) : mi_W d 37 324 [some (.ref l1), some (.int l2), some (.int l3), some (.int l4), o5, o6] [.int s7, .int s8, .ref s9] (n, sl, f) Q := by
  refine w_iastore cd_37_324 h11 h12 h13 ?_
  exact w_goto cd_37_325 (by decide) h14
theorem b_37_328 {d : Nat} {Q : (Option Value ⊕ Nat) → mi_H → Prop} (n sl : Nat) (f : Nat → mi_C) {l1 : Nat} {l2 : Int32} {l3 : Int32} {l4 : Int32} {o5 : Option Value} {o6 : Option Value} {fs7 : List Value} {x10 : Nat} {fs12 : List Value} {x15 : Nat} {fs17 : List Value} (h8 : f l1 = .inr (3, fs7)) (h9 : l1 < n) (h11 : fs7[1]? = some (.ref x10)) (h13 : f x10 = .inr (2, fs12)) (h14 : x10 < n) (h16 : fs12[1]? = some (.ref x15)) (h18 : f l1 = .inr (3, fs17)) (h19 : l1 < n) (h20 : mi_W d 50 0 (mi_en 5 [.ref l1, .int (l2 + 1)]) [] (n, sl, f) (mi_Kc d 37 340 [some (.ref l1), some (.int l2), some (.int l3), some (.int l4), o5, o6] [.int l4, .ref x15] Q)) : mi_W (d + 1) 37 328 [some (.ref l1), some (.int l2), some (.int l3), some (.int l4), o5, o6] [] (n, sl, f) Q := by
  refine w_aload_n cd_37_328 rfl ?_
  refine w_getfield cd_37_329 (show mt_f 3 19 = some (3, 1) by decide +kernel) h8 h9 h11 ?_
  refine w_getfield cd_37_332 (show mt_f 3 109 = some (2, 1) by decide +kernel) h13 h14 h16 ?_
  refine w_iload_n cd_37_335 rfl ?_
  refine w_aload_n cd_37_336 rfl ?_
  refine w_iload_n cd_37_337 rfl ?_
  refine w_iconst (v := 1) cd_37_338 (by decide) ?_
  refine w_iadd cd_37_339 ?_
  exact w_invokevirtual cd_37_340 (show mt_m 3 135 = some (50, 0) by decide +kernel) (rest := [.int l4, .ref x15]) rfl (as := [.ref l1, .int (l2 + 1)]) rfl h18 (Or.inl h19) ⟨Nat.le_of_ble_eq_true rfl, Nat.le_of_ble_eq_true rfl, Nat.le_of_ble_eq_true rfl⟩ h20
theorem b_37_343 {d : Nat} {Q : (Option Value ⊕ Nat) → mi_H → Prop} (n sl : Nat) (f : Nat → mi_C) {l1 : Nat} {l2 : Int32} {l3 : Int32} {l4 : Int32} {o5 : Option Value} {o6 : Option Value} {s7 : Int32} {s8 : Int32} {s9 : Nat} (m10 i10 : Nat) (g10 : Nat → Int32) (h11 : f s9 = .inl (0, m10, .inl g10)) (h12 : s9 < n) (h13 : mi_ix s8 m10 i10) (h14 : mi_W d 37 347 [some (.ref l1), some (.int l2), some (.int l3), some (.int l4), o5, o6] [] (n, sl, (va_up f s9 (.inl (0, m10, .inl (upd g10 i10 s7))))) Q) : mi_W d 37 343 [some (.ref l1), some (.int l2), some (.int l3), some (.int l4), o5, o6] [.int s7, .int s8, .ref s9] (n, sl, f) Q := by
  refine w_iastore cd_37_343 h11 h12 h13 ?_
  exact w_goto cd_37_344 (by decide) h14
theorem b_37_347 {d : Nat} {Q : (Option Value ⊕ Nat) → mi_H → Prop} (n sl : Nat) (f : Nat → mi_C) {l1 : Nat} {l2 : Int32} {l3 : Int32} {l4 : Int32} {o5 : Option Value} {o6 : Option Value} (h7 : l3 = (0 : Int32) → mi_W d 37 367 [some (.ref l1), some (.int l2), some (.int l3), some (.int l4), o5, o6] [] (n, sl, f) Q) (h8 : ¬ (l3 = (0 : Int32)) → mi_W d 37 351 [some (.ref l1), some (.int l2), some (.int l3), some (.int l4), o5, o6] [] (n, sl, f) Q) : mi_W d 37 347 [some (.ref l1), some (.int l2), some (.int l3), some (.int l4), o5, o6] [] (n, sl, f) Q := by
  refine w_iload_n cd_37_347 rfl ?_
  exact w_ifeq cd_37_348 (by decide) h7 h8
theorem b_37_351 {d : Nat} {Q : (Option Value ⊕ Nat) → mi_H → Prop} (n sl : Nat) (f : Nat → mi_C) {l1 : Nat} {l2 : Int32} {l3 : Int32} {l4 : Int32} {o5 : Option Value} {o6 : Option Value} {fs7 : List Value} {x10 : Nat} {fs12 : List Value} {x15 : Nat} {fs17 : List Value} (h8 : f l1 = .inr (3, fs7)) (h9 : l1 < n) (h11 : fs7[1]? = some (.ref x10)) (h13 : f x10 = .inr (2, fs12)) (h14 : x10 < n) (h16 : fs12[3]? = some (.ref x15)) (h18 : f l1 = .inr (3, fs17)) (h19 : l1 < n) (h20 : mi_W d 37 0 (mi_en 6 [.ref l1, .int (l2 + 1)]) [] (n, sl, f) (mi_Kc d 37 363 [some (.ref l1), some (.int l2), some (.int l3), some (.int l4), o5, o6] [.int l4, .ref x15] Q)) : mi_W (d + 1) 37 351 [some (.ref l1), some (.int l2), some (.int l3), some (.int l4), o5, o6] [] (n, sl, f) Q := by
  refine w_aload_n cd_37_351 rfl ?_
  refine w_getfield cd_37_352 (show mt_f 3 19 = some (3, 1) by decide +kernel) h8 h9 h11 ?_
  refine w_getfield cd_37_355 (show mt_f 3 141 = some (2, 3) by decide +kernel) h13 h14 h16 ?_
  refine w_iload_n cd_37_358 rfl ?_
  refine w_aload_n cd_37_359 rfl ?_
  refine w_iload_n cd_37_360 rfl ?_
  refine w_iconst (v := 1) cd_37_361 (by decide) ?_
  refine w_iadd cd_37_362 ?_
  exact w_invokevirtual cd_37_363 (show mt_m 3 96 = some (37, 0) by decide +kernel) (rest := [.int l4, .ref x15]) rfl (as := [.ref l1, .int (l2 + 1)]) rfl h18 (Or.inl h19) ⟨Nat.le_of_ble_eq_true rfl, Nat.le_of_ble_eq_true rfl, Nat.le_of_ble_eq_true rfl⟩ h20
theorem b_37_366 {d : Nat} {Q : (Option Value ⊕ Nat) → mi_H → Prop} (n sl : Nat) (f : Nat → mi_C) {l1 : Nat} {l2 : Int32} {l3 : Int32} {l4 : Int32} {o5 : Option Value} {o6 : Option Value} {s7 : Int32} {s8 : Int32} {s9 : Nat} (m10 i10 : Nat) (g10 : Nat → Int32) (h11 : f s9 = .inl (0, m10, .inl g10)) (h12 : s9 < n) (h13 : mi_ix s8 m10 i10) (h14 : mi_W d 37 367 [some (.ref l1), some (.int l2), some (.int l3), some (.int l4), o5, o6] [] (n, sl, (va_up f s9 (.inl (0, m10, .inl (upd g10 i10 s7))))) Q) : mi_W d 37 366 [some (.ref l1), some (.int l2), some (.int l3), some (.int l4), o5, o6] [.int s7, .int s8, .ref s9] (n, sl, f) Q := by
  refine w_iastore cd_37_366 h11 h12 h13 ?_
  exact h14
theorem b_37_367 {d : Nat} {Q : (Option Value ⊕ Nat) → mi_H → Prop} (n sl : Nat) (f : Nat → mi_C) {l1 : Nat} {l2 : Int32} {l3 : Int32} {l4 : Int32} {o5 : Option Value} {o6 : Option Value} {fs7 : List Value} {x10 : Nat} {fs12 : List Value} {x15 : Nat} {fs17 : List Value} {x20 : Nat} {fs22 : List Value} {x25 : Int32} (m27 i27 : Nat) (g27 : Nat → Int32) (h8 : f l1 = .inr (3, fs7)) (h9 : l1 < n) (h11 : fs7[1]? = some (.ref x10)) (h13 : f x10 = .inr (2, fs12)) (h14 : x10 < n) (h16 : fs12[7]? = some (.ref x15)) (h18 : f l1 = .inr (3, fs17)) (h19 : l1 < n) (h21 : fs17[1]? = some (.ref x20)) (h23 : f x20 = .inr (2, fs22)) (h24 : x20 < n) (h26 : fs22[11]? = some (.int x25)) (h28 : f x15 = .inl (0, m27, .inl g27)) (h29 : x15 < n) (h30 : mi_ix l4 m27 i27) (h31 : Q (.inl (some (.int l4))) (n, sl, (va_up f x15 (.inl (0, m27, .inl (upd g27 i27 x25)))))) : mi_W d 37 367 [some (.ref l1), some (.int l2), some (.int l3), some (.int l4), o5, o6] [] (n, sl, f) Q := by
  refine w_aload_n cd_37_367 rfl ?_
  refine w_getfield cd_37_368 (show mt_f 3 19 = some (3, 1) by decide +kernel) h8 h9 h11 ?_
  refine w_getfield cd_37_371 (show mt_f 3 144 = some (2, 7) by decide +kernel) h13 h14 h16 ?_
  refine w_iload_n cd_37_374 rfl ?_
  refine w_aload_n cd_37_375 rfl ?_
  refine w_getfield cd_37_376 (show mt_f 3 19 = some (3, 1) by decide +kernel) h18 h19 h21 ?_
  refine w_getfield cd_37_379 (show mt_f 3 87 = some (2, 11) by decide +kernel) h23 h24 h26 ?_
  refine w_iastore cd_37_382 h28 h29 h30 ?_
  refine w_iload_n cd_37_383 rfl ?_
  exact w_ireturn_i cd_37_384 (by decide +kernel) h31
/-! MarloweHost$Reader.require(Z)V -/
set_option maxRecDepth 100000 in
theorem mq_38 : mt_q 38 = my_38 := rfl
set_option maxRecDepth 100000 in
theorem ci_38 : mt_inc 0 my_38.cd = true := by decide +kernel
theorem cd_38_0 : mt_cd 38 0 = some (.aload_n 0) := mt_cd_of (q := (0, .aload_n 0, 1)) mq_38 ci_38 (List.mem_of_getElem? (i := 0) rfl)
theorem cd_38_1 : mt_cd 38 1 = some (.aload_n 0) := mt_cd_of (q := (1, .aload_n 0, 1)) mq_38 ci_38 (List.mem_of_getElem? (i := 1) rfl)
theorem cd_38_2 : mt_cd 38 2 = some (.getfield 15) := mt_cd_of (q := (2, .getfield 15, 3)) mq_38 ci_38 (List.mem_of_getElem? (i := 2) rfl)
theorem cd_38_5 : mt_cd 38 5 = some (.getfield 74) := mt_cd_of (q := (5, .getfield 74, 3)) mq_38 ci_38 (List.mem_of_getElem? (i := 3) rfl)
theorem cd_38_8 : mt_cd 38 8 = some (.iload_n 1) := mt_cd_of (q := (8, .iload_n 1, 1)) mq_38 ci_38 (List.mem_of_getElem? (i := 4) rfl)
theorem cd_38_9 : mt_cd 38 9 = some (.invokevirtual 59) := mt_cd_of (q := (9, .invokevirtual 59, 3)) mq_38 ci_38 (List.mem_of_getElem? (i := 5) rfl)
theorem cd_38_12 : mt_cd 38 12 = some (.return_) := mt_cd_of (q := (12, .return_, 1)) mq_38 ci_38 (List.mem_of_getElem? (i := 6) rfl)
theorem b_38_0 {d : Nat} {Q : (Option Value ⊕ Nat) → mi_H → Prop} (n sl : Nat) (f : Nat → mi_C) {l1 : Nat} {l2 : Int32} {fs3 : List Value} {x6 : Nat} {fs8 : List Value} {x11 : Int32} {fs13 : List Value} (h4 : f l1 = .inr (3, fs3)) (h5 : l1 < n) (h7 : fs3[0]? = some (.ref x6)) (h9 : f x6 = .inr (1, fs8)) (h10 : x6 < n) (h12 : fs8[3]? = some (.int x11)) (h14 : f l1 = .inr (3, fs13)) (h15 : l1 < n) (h16 : mi_W d 21 0 (mi_en 3 [.ref l1, .int x11, .int l2]) [] (n, sl, f) (mi_Kc d 38 9 [some (.ref l1), some (.int l2)] [] Q)) : mi_W (d + 1) 38 0 [some (.ref l1), some (.int l2)] [] (n, sl, f) Q := by
  refine w_aload_n cd_38_0 rfl ?_
  refine w_aload_n cd_38_1 rfl ?_
  refine w_getfield cd_38_2 (show mt_f 3 15 = some (3, 0) by decide +kernel) h4 h5 h7 ?_
  refine w_getfield cd_38_5 (show mt_f 3 74 = some (1, 3) by decide +kernel) h9 h10 h12 ?_
  refine w_iload_n cd_38_8 rfl ?_
  exact w_invokevirtual cd_38_9 (show mt_m 3 59 = some (21, 0) by decide +kernel) (rest := []) rfl (as := [.ref l1, .int x11, .int l2]) rfl h14 (Or.inl h15) ⟨Nat.le_of_ble_eq_true rfl, Nat.le_of_ble_eq_true rfl, Nat.le_of_ble_eq_true rfl⟩ h16
theorem b_38_12 {d : Nat} {Q : (Option Value ⊕ Nat) → mi_H → Prop} (n sl : Nat) (f : Nat → mi_C) {l1 : Nat} {l2 : Int32} (h3 : Q (.inl none) (n, sl, f)) : mi_W d 38 12 [some (.ref l1), some (.int l2)] [] (n, sl, f) Q := by
  exact w_return cd_38_12 (by decide +kernel) h3
/-! MarloweHost$Reader.take(I)V -/
set_option maxRecDepth 100000 in
theorem mq_39 : mt_q 39 = my_39 := rfl
set_option maxRecDepth 100000 in
theorem ci_39 : mt_inc 0 my_39.cd = true := by decide +kernel
theorem cd_39_0 : mt_cd 39 0 = some (.aload_n 0) := mt_cd_of (q := (0, .aload_n 0, 1)) mq_39 ci_39 (List.mem_of_getElem? (i := 0) rfl)
theorem cd_39_1 : mt_cd 39 1 = some (.aload_n 0) := mt_cd_of (q := (1, .aload_n 0, 1)) mq_39 ci_39 (List.mem_of_getElem? (i := 1) rfl)
theorem cd_39_2 : mt_cd 39 2 = some (.getfield 15) := mt_cd_of (q := (2, .getfield 15, 3)) mq_39 ci_39 (List.mem_of_getElem? (i := 2) rfl)
theorem cd_39_5 : mt_cd 39 5 = some (.getfield 67) := mt_cd_of (q := (5, .getfield 67, 3)) mq_39 ci_39 (List.mem_of_getElem? (i := 3) rfl)
theorem cd_39_8 : mt_cd 39 8 = some (.iload_n 1) := mt_cd_of (q := (8, .iload_n 1, 1)) mq_39 ci_39 (List.mem_of_getElem? (i := 4) rfl)
theorem cd_39_9 : mt_cd 39 9 = some (.if_icmp .ne 7) := mt_cd_of (q := (9, .if_icmp .ne 7, 3)) mq_39 ci_39 (List.mem_of_getElem? (i := 5) rfl)
theorem cd_39_12 : mt_cd 39 12 = some (.iconst 1) := mt_cd_of (q := (12, .iconst 1, 1)) mq_39 ci_39 (List.mem_of_getElem? (i := 6) rfl)
theorem cd_39_13 : mt_cd 39 13 = some (.goto 4) := mt_cd_of (q := (13, .goto 4, 3)) mq_39 ci_39 (List.mem_of_getElem? (i := 7) rfl)
theorem cd_39_16 : mt_cd 39 16 = some (.iconst 0) := mt_cd_of (q := (16, .iconst 0, 1)) mq_39 ci_39 (List.mem_of_getElem? (i := 8) rfl)
theorem cd_39_17 : mt_cd 39 17 = some (.invokevirtual 70) := mt_cd_of (q := (17, .invokevirtual 70, 3)) mq_39 ci_39 (List.mem_of_getElem? (i := 9) rfl)
theorem cd_39_20 : mt_cd 39 20 = some (.aload_n 0) := mt_cd_of (q := (20, .aload_n 0, 1)) mq_39 ci_39 (List.mem_of_getElem? (i := 10) rfl)
theorem cd_39_21 : mt_cd 39 21 = some (.getfield 15) := mt_cd_of (q := (21, .getfield 15, 3)) mq_39 ci_39 (List.mem_of_getElem? (i := 11) rfl)
theorem cd_39_24 : mt_cd 39 24 = some (.invokevirtual 84) := mt_cd_of (q := (24, .invokevirtual 84, 3)) mq_39 ci_39 (List.mem_of_getElem? (i := 12) rfl)
theorem cd_39_27 : mt_cd 39 27 = some (.return_) := mt_cd_of (q := (27, .return_, 1)) mq_39 ci_39 (List.mem_of_getElem? (i := 13) rfl)
theorem b_39_0 {d : Nat} {Q : (Option Value ⊕ Nat) → mi_H → Prop} (n sl : Nat) (f : Nat → mi_C) {l1 : Nat} {l2 : Int32} {fs3 : List Value} {x6 : Nat} {fs8 : List Value} {x11 : Int32} (h4 : f l1 = .inr (3, fs3)) (h5 : l1 < n) (h7 : fs3[0]? = some (.ref x6)) (h9 : f x6 = .inr (1, fs8)) (h10 : x6 < n) (h12 : fs8[2]? = some (.int x11)) (h13 : ¬ x11 = l2 → mi_W d 39 16 [some (.ref l1), some (.int l2)] [.ref l1] (n, sl, f) Q) (h14 : ¬ (¬ x11 = l2) → mi_W d 39 12 [some (.ref l1), some (.int l2)] [.ref l1] (n, sl, f) Q) : mi_W d 39 0 [some (.ref l1), some (.int l2)] [] (n, sl, f) Q := by
  refine w_aload_n cd_39_0 rfl ?_
  refine w_aload_n cd_39_1 rfl ?_
  refine w_getfield cd_39_2 (show mt_f 3 15 = some (3, 0) by decide +kernel) h4 h5 h7 ?_
  refine w_getfield cd_39_5 (show mt_f 3 67 = some (1, 2) by decide +kernel) h9 h10 h12 ?_
  refine w_iload_n cd_39_8 rfl ?_
  exact w_if_icmpne cd_39_9 (by decide) h13 h14
theorem b_39_12 {d : Nat} {Q : (Option Value ⊕ Nat) → mi_H → Prop} (n sl : Nat) (f : Nat → mi_C) {l1 : Nat} {l2 : Int32} {s3 : Nat} (h4 : mi_W d 39 17 [some (.ref l1), some (.int l2)] [.int 1, .ref s3] (n, sl, f) Q) : mi_W d 39 12 [some (.ref l1), some (.int l2)] [.ref s3] (n, sl, f) Q := by
  refine w_iconst (v := 1) cd_39_12 (by decide) ?_
  exact w_goto cd_39_13 (by decide) h4
theorem b_39_16 {d : Nat} {Q : (Option Value ⊕ Nat) → mi_H → Prop} (n sl : Nat) (f : Nat → mi_C) {l1 : Nat} {l2 : Int32} {s3 : Nat} (h4 : mi_W d 39 17 [some (.ref l1), some (.int l2)] [.int 0, .ref s3] (n, sl, f) Q) : mi_W d 39 16 [some (.ref l1), some (.int l2)] [.ref s3] (n, sl, f) Q := by
  refine w_iconst (v := 0) cd_39_16 (by decide) ?_
  exact h4
theorem b_39_17 {d : Nat} {Q : (Option Value ⊕ Nat) → mi_H → Prop} (n sl : Nat) (f : Nat → mi_C) {l1 : Nat} {l2 : Int32} {s3 : Int32} {s4 : Nat} {fs5 : List Value} (h6 : f s4 = .inr (3, fs5)) (h7 : s4 < n) (h8 : mi_W d 38 0 (mi_en 2 [.ref s4, .int s3]) [] (n, sl, f) (mi_Kc d 39 17 [some (.ref l1), some (.int l2)] [] Q)) : mi_W (d + 1) 39 17 [some (.ref l1), some (.int l2)] [.int s3, .ref s4] (n, sl, f) Q := by
  exact w_invokevirtual cd_39_17 (show mt_m 3 70 = some (38, 0) by decide +kernel) (rest := []) rfl (as := [.ref s4, .int s3]) rfl h6 (Or.inl h7) ⟨Nat.le_of_ble_eq_true rfl, Nat.le_of_ble_eq_true rfl, Nat.le_of_ble_eq_true rfl⟩ h8
theorem b_39_20 {d : Nat} {Q : (Option Value ⊕ Nat) → mi_H → Prop} (n sl : Nat) (f : Nat → mi_C) {l1 : Nat} {l2 : Int32} {fs3 : List Value} {x6 : Nat} {fs8 : List Value} (h4 : f l1 = .inr (3, fs3)) (h5 : l1 < n) (h7 : fs3[0]? = some (.ref x6)) (h9 : f x6 = .inr (1, fs8)) (h10 : x6 < n) (h11 : mi_W d 24 0 (mi_en 2 [.ref x6]) [] (n, sl, f) (mi_Kc d 39 24 [some (.ref l1), some (.int l2)] [] Q)) : mi_W (d + 1) 39 20 [some (.ref l1), some (.int l2)] [] (n, sl, f) Q := by
  refine w_aload_n cd_39_20 rfl ?_
  refine w_getfield cd_39_21 (show mt_f 3 15 = some (3, 0) by decide +kernel) h4 h5 h7 ?_
  exact w_invokevirtual cd_39_24 (show mt_m 3 84 = some (24, 0) by decide +kernel) (rest := []) rfl (as := [.ref x6]) rfl h9 (Or.inl h10) ⟨Nat.le_of_ble_eq_true rfl, Nat.le_of_ble_eq_true rfl, Nat.le_of_ble_eq_true rfl⟩ h11
theorem b_39_27 {d : Nat} {Q : (Option Value ⊕ Nat) → mi_H → Prop} (n sl : Nat) (f : Nat → mi_C) {l1 : Nat} {l2 : Int32} (h3 : Q (.inl none) (n, sl, f)) : mi_W d 39 27 [some (.ref l1), some (.int l2)] [] (n, sl, f) Q := by
  exact w_return cd_39_27 (by decide +kernel) h3
/-! MarloweHost$Reader.beginNode()I -/
set_option maxRecDepth 100000 in
theorem mq_40 : mt_q 40 = my_40 := rfl
set_option maxRecDepth 100000 in
theorem ci_40 : mt_inc 0 my_40.cd = true := by decide +kernel
theorem cd_40_0 : mt_cd 40 0 = some (.aload_n 0) := mt_cd_of (q := (0, .aload_n 0, 1)) mq_40 ci_40 (List.mem_of_getElem? (i := 0) rfl)
theorem cd_40_1 : mt_cd 40 1 = some (.aload_n 0) := mt_cd_of (q := (1, .aload_n 0, 1)) mq_40 ci_40 (List.mem_of_getElem? (i := 1) rfl)
theorem cd_40_2 : mt_cd 40 2 = some (.getfield 19) := mt_cd_of (q := (2, .getfield 19, 3)) mq_40 ci_40 (List.mem_of_getElem? (i := 2) rfl)
theorem cd_40_5 : mt_cd 40 5 = some (.getfield 87) := mt_cd_of (q := (5, .getfield 87, 3)) mq_40 ci_40 (List.mem_of_getElem? (i := 3) rfl)
theorem cd_40_8 : mt_cd 40 8 = some (.sipush 800) := mt_cd_of (q := (8, .sipush 800, 3)) mq_40 ci_40 (List.mem_of_getElem? (i := 4) rfl)
theorem cd_40_11 : mt_cd 40 11 = some (.if_icmp .ge 7) := mt_cd_of (q := (11, .if_icmp .ge 7, 3)) mq_40 ci_40 (List.mem_of_getElem? (i := 5) rfl)
theorem cd_40_14 : mt_cd 40 14 = some (.iconst 1) := mt_cd_of (q := (14, .iconst 1, 1)) mq_40 ci_40 (List.mem_of_getElem? (i := 6) rfl)
theorem cd_40_15 : mt_cd 40 15 = some (.goto 4) := mt_cd_of (q := (15, .goto 4, 3)) mq_40 ci_40 (List.mem_of_getElem? (i := 7) rfl)
theorem cd_40_18 : mt_cd 40 18 = some (.iconst 0) := mt_cd_of (q := (18, .iconst 0, 1)) mq_40 ci_40 (List.mem_of_getElem? (i := 8) rfl)
theorem cd_40_19 : mt_cd 40 19 = some (.invokevirtual 70) := mt_cd_of (q := (19, .invokevirtual 70, 3)) mq_40 ci_40 (List.mem_of_getElem? (i := 9) rfl)
theorem cd_40_22 : mt_cd 40 22 = some (.aload_n 0) := mt_cd_of (q := (22, .aload_n 0, 1)) mq_40 ci_40 (List.mem_of_getElem? (i := 10) rfl)
theorem cd_40_23 : mt_cd 40 23 = some (.getfield 19) := mt_cd_of (q := (23, .getfield 19, 3)) mq_40 ci_40 (List.mem_of_getElem? (i := 11) rfl)
theorem cd_40_26 : mt_cd 40 26 = some (.aload_n 0) := mt_cd_of (q := (26, .aload_n 0, 1)) mq_40 ci_40 (List.mem_of_getElem? (i := 12) rfl)
theorem cd_40_27 : mt_cd 40 27 = some (.getfield 15) := mt_cd_of (q := (27, .getfield 15, 3)) mq_40 ci_40 (List.mem_of_getElem? (i := 13) rfl)
theorem cd_40_30 : mt_cd 40 30 = some (.getfield 67) := mt_cd_of (q := (30, .getfield 67, 3)) mq_40 ci_40 (List.mem_of_getElem? (i := 14) rfl)
theorem cd_40_33 : mt_cd 40 33 = some (.aload_n 0) := mt_cd_of (q := (33, .aload_n 0, 1)) mq_40 ci_40 (List.mem_of_getElem? (i := 15) rfl)
theorem cd_40_34 : mt_cd 40 34 = some (.getfield 15) := mt_cd_of (q := (34, .getfield 15, 3)) mq_40 ci_40 (List.mem_of_getElem? (i := 16) rfl)
theorem cd_40_37 : mt_cd 40 37 = some (.getfield 67) := mt_cd_of (q := (37, .getfield 67, 3)) mq_40 ci_40 (List.mem_of_getElem? (i := 17) rfl)
theorem cd_40_40 : mt_cd 40 40 = some (.bipush 37) := mt_cd_of (q := (40, .bipush 37, 2)) mq_40 ci_40 (List.mem_of_getElem? (i := 18) rfl)
theorem cd_40_42 : mt_cd 40 42 = some (.if_icmp .ne 13) := mt_cd_of (q := (42, .if_icmp .ne 13, 3)) mq_40 ci_40 (List.mem_of_getElem? (i := 19) rfl)
theorem cd_40_45 : mt_cd 40 45 = some (.aload_n 0) := mt_cd_of (q := (45, .aload_n 0, 1)) mq_40 ci_40 (List.mem_of_getElem? (i := 20) rfl)
theorem cd_40_46 : mt_cd 40 46 = some (.getfield 15) := mt_cd_of (q := (46, .getfield 15, 3)) mq_40 ci_40 (List.mem_of_getElem? (i := 21) rfl)
theorem cd_40_49 : mt_cd 40 49 = some (.getfield 88) := mt_cd_of (q := (49, .getfield 88, 3)) mq_40 ci_40 (List.mem_of_getElem? (i := 22) rfl)
theorem cd_40_52 : mt_cd 40 52 = some (.goto 4) := mt_cd_of (q := (52, .goto 4, 3)) mq_40 ci_40 (List.mem_of_getElem? (i := 23) rfl)
theorem cd_40_55 : mt_cd 40 55 = some (.lconst 0) := mt_cd_of (q := (55, .lconst 0, 1)) mq_40 ci_40 (List.mem_of_getElem? (i := 24) rfl)
theorem cd_40_56 : mt_cd 40 56 = some (.invokevirtual 92) := mt_cd_of (q := (56, .invokevirtual 92, 3)) mq_40 ci_40 (List.mem_of_getElem? (i := 25) rfl)
theorem cd_40_59 : mt_cd 40 59 = some (.istore_n 1) := mt_cd_of (q := (59, .istore_n 1, 1)) mq_40 ci_40 (List.mem_of_getElem? (i := 26) rfl)
theorem cd_40_60 : mt_cd 40 60 = some (.aload_n 0) := mt_cd_of (q := (60, .aload_n 0, 1)) mq_40 ci_40 (List.mem_of_getElem? (i := 27) rfl)
theorem cd_40_61 : mt_cd 40 61 = some (.getfield 15) := mt_cd_of (q := (61, .getfield 15, 3)) mq_40 ci_40 (List.mem_of_getElem? (i := 28) rfl)
theorem cd_40_64 : mt_cd 40 64 = some (.invokevirtual 84) := mt_cd_of (q := (64, .invokevirtual 84, 3)) mq_40 ci_40 (List.mem_of_getElem? (i := 29) rfl)
theorem cd_40_67 : mt_cd 40 67 = some (.iload_n 1) := mt_cd_of (q := (67, .iload_n 1, 1)) mq_40 ci_40 (List.mem_of_getElem? (i := 30) rfl)
theorem cd_40_68 : mt_cd 40 68 = some (.ireturn) := mt_cd_of (q := (68, .ireturn, 1)) mq_40 ci_40 (List.mem_of_getElem? (i := 31) rfl)
theorem b_40_0 {d : Nat} {Q : (Option Value ⊕ Nat) → mi_H → Prop} (n sl : Nat) (f : Nat → mi_C) {l1 : Nat} {o2 : Option Value} {fs3 : List Value} {x6 : Nat} {fs8 : List Value} {x11 : Int32} (h4 : f l1 = .inr (3, fs3)) (h5 : l1 < n) (h7 : fs3[1]? = some (.ref x6)) (h9 : f x6 = .inr (2, fs8)) (h10 : x6 < n) (h12 : fs8[11]? = some (.int x11)) (h13 : 800 ≤ x11 → mi_W d 40 18 [some (.ref l1), o2] [.ref l1] (n, sl, f) Q) (h14 : ¬ (800 ≤ x11) → mi_W d 40 14 [some (.ref l1), o2] [.ref l1] (n, sl, f) Q) : mi_W d 40 0 [some (.ref l1), o2] [] (n, sl, f) Q := by
  refine w_aload_n cd_40_0 rfl ?_
  refine w_aload_n cd_40_1 rfl ?_
  refine w_getfield cd_40_2 (show mt_f 3 19 = some (3, 1) by decide +kernel) h4 h5 h7 ?_
  refine w_getfield cd_40_5 (show mt_f 3 87 = some (2, 11) by decide +kernel) h9 h10 h12 ?_
  refine w_sipush (v := 800) cd_40_8 (by decide) ?_
  exact w_if_icmpge cd_40_11 (by decide) h13 h14
theorem b_40_14 {d : Nat} {Q : (Option Value ⊕ Nat) → mi_H → Prop} (n sl : Nat) (f : Nat → mi_C) {l1 : Nat} {o2 : Option Value} {s3 : Nat} (h4 : mi_W d 40 19 [some (.ref l1), o2] [.int 1, .ref s3] (n, sl, f) Q) : mi_W d 40 14 [some (.ref l1), o2] [.ref s3] (n, sl, f) Q := by
  refine w_iconst (v := 1) cd_40_14 (by decide) ?_
  exact w_goto cd_40_15 (by decide) h4
theorem b_40_18 {d : Nat} {Q : (Option Value ⊕ Nat) → mi_H → Prop} (n sl : Nat) (f : Nat → mi_C) {l1 : Nat} {o2 : Option Value} {s3 : Nat} (h4 : mi_W d 40 19 [some (.ref l1), o2] [.int 0, .ref s3] (n, sl, f) Q) : mi_W d 40 18 [some (.ref l1), o2] [.ref s3] (n, sl, f) Q := by
  refine w_iconst (v := 0) cd_40_18 (by decide) ?_
  exact h4
theorem b_40_19 {d : Nat} {Q : (Option Value ⊕ Nat) → mi_H → Prop} (n sl : Nat) (f : Nat → mi_C) {l1 : Nat} {o2 : Option Value} {s3 : Int32} {s4 : Nat} {fs5 : List Value} (h6 : f s4 = .inr (3, fs5)) (h7 : s4 < n) (h8 : mi_W d 38 0 (mi_en 2 [.ref s4, .int s3]) [] (n, sl, f) (mi_Kc d 40 19 [some (.ref l1), o2] [] Q)) : mi_W (d + 1) 40 19 [some (.ref l1), o2] [.int s3, .ref s4] (n, sl, f) Q := by
  exact w_invokevirtual cd_40_19 (show mt_m 3 70 = some (38, 0) by decide +kernel) (rest := []) rfl (as := [.ref s4, .int s3]) rfl h6 (Or.inl h7) ⟨Nat.le_of_ble_eq_true rfl, Nat.le_of_ble_eq_true rfl, Nat.le_of_ble_eq_true rfl⟩ h8
theorem b_40_22 {d : Nat} {Q : (Option Value ⊕ Nat) → mi_H → Prop} (n sl : Nat) (f : Nat → mi_C) {l1 : Nat} {o2 : Option Value} {fs3 : List Value} {x6 : Nat} {fs8 : List Value} {x11 : Nat} {fs13 : List Value} {x16 : Int32} {fs18 : List Value} {x21 : Nat} {fs23 : List Value} {x26 : Int32} (h4 : f l1 = .inr (3, fs3)) (h5 : l1 < n) (h7 : fs3[1]? = some (.ref x6)) (h9 : f l1 = .inr (3, fs8)) (h10 : l1 < n) (h12 : fs8[0]? = some (.ref x11)) (h14 : f x11 = .inr (1, fs13)) (h15 : x11 < n) (h17 : fs13[2]? = some (.int x16)) (h19 : f l1 = .inr (3, fs18)) (h20 : l1 < n) (h22 : fs18[0]? = some (.ref x21)) (h24 : f x21 = .inr (1, fs23)) (h25 : x21 < n) (h27 : fs23[2]? = some (.int x26)) (h28 : ¬ x26 = 37 → mi_W d 40 55 [some (.ref l1), o2] [.int x16, .ref x6] (n, sl, f) Q) (h29 : ¬ (¬ x26 = 37) → mi_W d 40 45 [some (.ref l1), o2] [.int x16, .ref x6] (n, sl, f) Q) : mi_W d 40 22 [some (.ref l1), o2] [] (n, sl, f) Q := by
  refine w_aload_n cd_40_22 rfl ?_
  refine w_getfield cd_40_23 (show mt_f 3 19 = some (3, 1) by decide +kernel) h4 h5 h7 ?_
  refine w_aload_n cd_40_26 rfl ?_
  refine w_getfield cd_40_27 (show mt_f 3 15 = some (3, 0) by decide +kernel) h9 h10 h12 ?_
  refine w_getfield cd_40_30 (show mt_f 3 67 = some (1, 2) by decide +kernel) h14 h15 h17 ?_
  refine w_aload_n cd_40_33 rfl ?_
  refine w_getfield cd_40_34 (show mt_f 3 15 = some (3, 0) by decide +kernel) h19 h20 h22 ?_
  refine w_getfield cd_40_37 (show mt_f 3 67 = some (1, 2) by decide +kernel) h24 h25 h27 ?_
  refine w_bipush (v := 37) cd_40_40 (by decide) ?_
  exact w_if_icmpne cd_40_42 (by decide) h28 h29
theorem b_40_45 {d : Nat} {Q : (Option Value ⊕ Nat) → mi_H → Prop} (n sl : Nat) (f : Nat → mi_C) {l1 : Nat} {o2 : Option Value} {s3 : Int32} {s4 : Nat} {fs5 : List Value} {x8 : Nat} {fs10 : List Value} {x13 : Int64} (h6 : f l1 = .inr (3, fs5)) (h7 : l1 < n) (h9 : fs5[0]? = some (.ref x8)) (h11 : f x8 = .inr (1, fs10)) (h12 : x8 < n) (h14 : fs10[5]? = some (.long x13)) (h15 : mi_W d 40 56 [some (.ref l1), o2] [.long x13, .int s3, .ref s4] (n, sl, f) Q) : mi_W d 40 45 [some (.ref l1), o2] [.int s3, .ref s4] (n, sl, f) Q := by
  refine w_aload_n cd_40_45 rfl ?_
  refine w_getfield cd_40_46 (show mt_f 3 15 = some (3, 0) by decide +kernel) h6 h7 h9 ?_
  refine w_getfield cd_40_49 (show mt_f 3 88 = some (1, 5) by decide +kernel) h11 h12 h14 ?_
  exact w_goto cd_40_52 (by decide) h15
theorem b_40_55 {d : Nat} {Q : (Option Value ⊕ Nat) → mi_H → Prop} (n sl : Nat) (f : Nat → mi_C) {l1 : Nat} {o2 : Option Value} {s3 : Int32} {s4 : Nat} (h5 : mi_W d 40 56 [some (.ref l1), o2] [.long 0, .int s3, .ref s4] (n, sl, f) Q) : mi_W d 40 55 [some (.ref l1), o2] [.int s3, .ref s4] (n, sl, f) Q := by
  refine w_lconst (lv := 0) cd_40_55 (by decide) ?_
  exact h5
theorem b_40_56 {d : Nat} {Q : (Option Value ⊕ Nat) → mi_H → Prop} (n sl : Nat) (f : Nat → mi_C) {l1 : Nat} {o2 : Option Value} {s3 : Int64} {s4 : Int32} {s5 : Nat} {fs6 : List Value} (h7 : f s5 = .inr (2, fs6)) (h8 : s5 < n) (h9 : mi_W d 41 0 (mi_en 5 [.ref s5, .int s4, .long s3]) [] (n, sl, f) (mi_Kc d 40 56 [some (.ref l1), o2] [] Q)) : mi_W (d + 1) 40 56 [some (.ref l1), o2] [.long s3, .int s4, .ref s5] (n, sl, f) Q := by
  exact w_invokevirtual cd_40_56 (show mt_m 3 92 = some (41, 0) by decide +kernel) (rest := []) rfl (as := [.ref s5, .int s4, .long s3]) rfl h7 (Or.inl h8) ⟨Nat.le_of_ble_eq_true rfl, Nat.le_of_ble_eq_true rfl, Nat.le_of_ble_eq_true rfl⟩ h9
theorem b_40_59 {d : Nat} {Q : (Option Value ⊕ Nat) → mi_H → Prop} (n sl : Nat) (f : Nat → mi_C) {l1 : Nat} {o2 : Option Value} {s3 : Int32} {fs4 : List Value} {x7 : Nat} {fs9 : List Value} (h5 : f l1 = .inr (3, fs4)) (h6 : l1 < n) (h8 : fs4[0]? = some (.ref x7)) (h10 : f x7 = .inr (1, fs9)) (h11 : x7 < n) (h12 : mi_W d 24 0 (mi_en 2 [.ref x7]) [] (n, sl, f) (mi_Kc d 40 64 [some (.ref l1), some (.int s3)] [] Q)) : mi_W (d + 1) 40 59 [some (.ref l1), o2] [.int s3] (n, sl, f) Q := by
  refine w_istore_n (ls' := [some (.ref l1), some (.int s3)]) cd_40_59 (Nat.le_of_ble_eq_true rfl) rfl ?_
  refine w_aload_n cd_40_60 rfl ?_
  refine w_getfield cd_40_61 (show mt_f 3 15 = some (3, 0) by decide +kernel) h5 h6 h8 ?_
  exact w_invokevirtual cd_40_64 (show mt_m 3 84 = some (24, 0) by decide +kernel) (rest := []) rfl (as := [.ref x7]) rfl h10 (Or.inl h11) ⟨Nat.le_of_ble_eq_true rfl, Nat.le_of_ble_eq_true rfl, Nat.le_of_ble_eq_true rfl⟩ h12
theorem b_40_67 {d : Nat} {Q : (Option Value ⊕ Nat) → mi_H → Prop} (n sl : Nat) (f : Nat → mi_C) {l1 : Nat} {l2 : Int32} (h3 : Q (.inl (some (.int l2))) (n, sl, f)) : mi_W d 40 67 [some (.ref l1), some (.int l2)] [] (n, sl, f) Q := by
  refine w_iload_n cd_40_67 rfl ?_
  exact w_ireturn_i cd_40_68 (by decide +kernel) h3
/-! MarloweHost$Tree.add(IJ)I -/
set_option maxRecDepth 100000 in
theorem mq_41 : mt_q 41 = my_41 := rfl
set_option maxRecDepth 100000 in
theorem ci_41 : mt_inc 0 my_41.cd = true := by decide +kernel
theorem cd_41_0 : mt_cd 41 0 = some (.aload_n 0) := mt_cd_of (q := (0, .aload_n 0, 1)) mq_41 ci_41 (List.mem_of_getElem? (i := 0) rfl)
theorem cd_41_1 : mt_cd 41 1 = some (.getfield 47) := mt_cd_of (q := (1, .getfield 47, 3)) mq_41 ci_41 (List.mem_of_getElem? (i := 1) rfl)
theorem cd_41_4 : mt_cd 41 4 = some (.sipush 799) := mt_cd_of (q := (4, .sipush 799, 3)) mq_41 ci_41 (List.mem_of_getElem? (i := 2) rfl)
theorem cd_41_7 : mt_cd 41 7 = some (.invokestatic 54) := mt_cd_of (q := (7, .invokestatic 54, 3)) mq_41 ci_41 (List.mem_of_getElem? (i := 3) rfl)
theorem cd_41_10 : mt_cd 41 10 = some (.istore 4) := mt_cd_of (q := (10, .istore 4, 2)) mq_41 ci_41 (List.mem_of_getElem? (i := 4) rfl)
theorem cd_41_12 : mt_cd 41 12 = some (.aload_n 0) := mt_cd_of (q := (12, .aload_n 0, 1)) mq_41 ci_41 (List.mem_of_getElem? (i := 5) rfl)
theorem cd_41_13 : mt_cd 41 13 = some (.getfield 9) := mt_cd_of (q := (13, .getfield 9, 3)) mq_41 ci_41 (List.mem_of_getElem? (i := 6) rfl)
theorem cd_41_16 : mt_cd 41 16 = some (.iload 4) := mt_cd_of (q := (16, .iload 4, 2)) mq_41 ci_41 (List.mem_of_getElem? (i := 7) rfl)
theorem cd_41_18 : mt_cd 41 18 = some (.iload_n 1) := mt_cd_of (q := (18, .iload_n 1, 1)) mq_41 ci_41 (List.mem_of_getElem? (i := 8) rfl)
theorem cd_41_19 : mt_cd 41 19 = some (.iastore) := mt_cd_of (q := (19, .iastore, 1)) mq_41 ci_41 (List.mem_of_getElem? (i := 9) rfl)
theorem cd_41_20 : mt_cd 41 20 = some (.aload_n 0) := mt_cd_of (q := (20, .aload_n 0, 1)) mq_41 ci_41 (List.mem_of_getElem? (i := 10) rfl)
theorem cd_41_21 : mt_cd 41 21 = some (.getfield 15) := mt_cd_of (q := (21, .getfield 15, 3)) mq_41 ci_41 (List.mem_of_getElem? (i := 11) rfl)
theorem cd_41_24 : mt_cd 41 24 = some (.iload 4) := mt_cd_of (q := (24, .iload 4, 2)) mq_41 ci_41 (List.mem_of_getElem? (i := 12) rfl)
theorem cd_41_26 : mt_cd 41 26 = some (.iconst (-1)) := mt_cd_of (q := (26, .iconst (-1), 1)) mq_41 ci_41 (List.mem_of_getElem? (i := 13) rfl)
theorem cd_41_27 : mt_cd 41 27 = some (.iastore) := mt_cd_of (q := (27, .iastore, 1)) mq_41 ci_41 (List.mem_of_getElem? (i := 14) rfl)
theorem cd_41_28 : mt_cd 41 28 = some (.aload_n 0) := mt_cd_of (q := (28, .aload_n 0, 1)) mq_41 ci_41 (List.mem_of_getElem? (i := 15) rfl)
theorem cd_41_29 : mt_cd 41 29 = some (.getfield 18) := mt_cd_of (q := (29, .getfield 18, 3)) mq_41 ci_41 (List.mem_of_getElem? (i := 16) rfl)
theorem cd_41_32 : mt_cd 41 32 = some (.iload 4) := mt_cd_of (q := (32, .iload 4, 2)) mq_41 ci_41 (List.mem_of_getElem? (i := 17) rfl)
theorem cd_41_34 : mt_cd 41 34 = some (.iconst (-1)) := mt_cd_of (q := (34, .iconst (-1), 1)) mq_41 ci_41 (List.mem_of_getElem? (i := 18) rfl)
theorem cd_41_35 : mt_cd 41 35 = some (.iastore) := mt_cd_of (q := (35, .iastore, 1)) mq_41 ci_41 (List.mem_of_getElem? (i := 19) rfl)
theorem cd_41_36 : mt_cd 41 36 = some (.aload_n 0) := mt_cd_of (q := (36, .aload_n 0, 1)) mq_41 ci_41 (List.mem_of_getElem? (i := 20) rfl)
theorem cd_41_37 : mt_cd 41 37 = some (.getfield 21) := mt_cd_of (q := (37, .getfield 21, 3)) mq_41 ci_41 (List.mem_of_getElem? (i := 21) rfl)
theorem cd_41_40 : mt_cd 41 40 = some (.iload 4) := mt_cd_of (q := (40, .iload 4, 2)) mq_41 ci_41 (List.mem_of_getElem? (i := 22) rfl)
theorem cd_41_42 : mt_cd 41 42 = some (.iconst (-1)) := mt_cd_of (q := (42, .iconst (-1), 1)) mq_41 ci_41 (List.mem_of_getElem? (i := 23) rfl)
theorem cd_41_43 : mt_cd 41 43 = some (.iastore) := mt_cd_of (q := (43, .iastore, 1)) mq_41 ci_41 (List.mem_of_getElem? (i := 24) rfl)
theorem cd_41_44 : mt_cd 41 44 = some (.aload_n 0) := mt_cd_of (q := (44, .aload_n 0, 1)) mq_41 ci_41 (List.mem_of_getElem? (i := 25) rfl)
theorem cd_41_45 : mt_cd 41 45 = some (.getfield 24) := mt_cd_of (q := (45, .getfield 24, 3)) mq_41 ci_41 (List.mem_of_getElem? (i := 26) rfl)
theorem cd_41_48 : mt_cd 41 48 = some (.iload 4) := mt_cd_of (q := (48, .iload 4, 2)) mq_41 ci_41 (List.mem_of_getElem? (i := 27) rfl)
theorem cd_41_50 : mt_cd 41 50 = some (.iconst (-1)) := mt_cd_of (q := (50, .iconst (-1), 1)) mq_41 ci_41 (List.mem_of_getElem? (i := 28) rfl)
theorem cd_41_51 : mt_cd 41 51 = some (.iastore) := mt_cd_of (q := (51, .iastore, 1)) mq_41 ci_41 (List.mem_of_getElem? (i := 29) rfl)
theorem cd_41_52 : mt_cd 41 52 = some (.aload_n 0) := mt_cd_of (q := (52, .aload_n 0, 1)) mq_41 ci_41 (List.mem_of_getElem? (i := 30) rfl)
theorem cd_41_53 : mt_cd 41 53 = some (.getfield 27) := mt_cd_of (q := (53, .getfield 27, 3)) mq_41 ci_41 (List.mem_of_getElem? (i := 31) rfl)
theorem cd_41_56 : mt_cd 41 56 = some (.iload 4) := mt_cd_of (q := (56, .iload 4, 2)) mq_41 ci_41 (List.mem_of_getElem? (i := 32) rfl)
theorem cd_41_58 : mt_cd 41 58 = some (.iconst (-1)) := mt_cd_of (q := (58, .iconst (-1), 1)) mq_41 ci_41 (List.mem_of_getElem? (i := 33) rfl)
theorem cd_41_59 : mt_cd 41 59 = some (.iastore) := mt_cd_of (q := (59, .iastore, 1)) mq_41 ci_41 (List.mem_of_getElem? (i := 34) rfl)
theorem cd_41_60 : mt_cd 41 60 = some (.aload_n 0) := mt_cd_of (q := (60, .aload_n 0, 1)) mq_41 ci_41 (List.mem_of_getElem? (i := 35) rfl)
theorem cd_41_61 : mt_cd 41 61 = some (.getfield 30) := mt_cd_of (q := (61, .getfield 30, 3)) mq_41 ci_41 (List.mem_of_getElem? (i := 36) rfl)
theorem cd_41_64 : mt_cd 41 64 = some (.iload 4) := mt_cd_of (q := (64, .iload 4, 2)) mq_41 ci_41 (List.mem_of_getElem? (i := 37) rfl)
theorem cd_41_66 : mt_cd 41 66 = some (.iconst (-1)) := mt_cd_of (q := (66, .iconst (-1), 1)) mq_41 ci_41 (List.mem_of_getElem? (i := 38) rfl)
theorem cd_41_67 : mt_cd 41 67 = some (.iastore) := mt_cd_of (q := (67, .iastore, 1)) mq_41 ci_41 (List.mem_of_getElem? (i := 39) rfl)
theorem cd_41_68 : mt_cd 41 68 = some (.aload_n 0) := mt_cd_of (q := (68, .aload_n 0, 1)) mq_41 ci_41 (List.mem_of_getElem? (i := 40) rfl)
theorem cd_41_69 : mt_cd 41 69 = some (.getfield 33) := mt_cd_of (q := (69, .getfield 33, 3)) mq_41 ci_41 (List.mem_of_getElem? (i := 41) rfl)
theorem cd_41_72 : mt_cd 41 72 = some (.iload 4) := mt_cd_of (q := (72, .iload 4, 2)) mq_41 ci_41 (List.mem_of_getElem? (i := 42) rfl)
theorem cd_41_74 : mt_cd 41 74 = some (.iload 4) := mt_cd_of (q := (74, .iload 4, 2)) mq_41 ci_41 (List.mem_of_getElem? (i := 43) rfl)
theorem cd_41_76 : mt_cd 41 76 = some (.iconst 1) := mt_cd_of (q := (76, .iconst 1, 1)) mq_41 ci_41 (List.mem_of_getElem? (i := 44) rfl)
theorem cd_41_77 : mt_cd 41 77 = some (.iadd) := mt_cd_of (q := (77, .iadd, 1)) mq_41 ci_41 (List.mem_of_getElem? (i := 45) rfl)
theorem cd_41_78 : mt_cd 41 78 = some (.iastore) := mt_cd_of (q := (78, .iastore, 1)) mq_41 ci_41 (List.mem_of_getElem? (i := 46) rfl)
theorem cd_41_79 : mt_cd 41 79 = some (.aload_n 0) := mt_cd_of (q := (79, .aload_n 0, 1)) mq_41 ci_41 (List.mem_of_getElem? (i := 47) rfl)
theorem cd_41_80 : mt_cd 41 80 = some (.getfield 36) := mt_cd_of (q := (80, .getfield 36, 3)) mq_41 ci_41 (List.mem_of_getElem? (i := 48) rfl)
theorem cd_41_83 : mt_cd 41 83 = some (.iload 4) := mt_cd_of (q := (83, .iload 4, 2)) mq_41 ci_41 (List.mem_of_getElem? (i := 49) rfl)
theorem cd_41_85 : mt_cd 41 85 = some (.iconst 0) := mt_cd_of (q := (85, .iconst 0, 1)) mq_41 ci_41 (List.mem_of_getElem? (i := 50) rfl)
theorem cd_41_86 : mt_cd 41 86 = some (.bastore) := mt_cd_of (q := (86, .bastore, 1)) mq_41 ci_41 (List.mem_of_getElem? (i := 51) rfl)
theorem cd_41_87 : mt_cd 41 87 = some (.aload_n 0) := mt_cd_of (q := (87, .aload_n 0, 1)) mq_41 ci_41 (List.mem_of_getElem? (i := 52) rfl)
theorem cd_41_88 : mt_cd 41 88 = some (.getfield 40) := mt_cd_of (q := (88, .getfield 40, 3)) mq_41 ci_41 (List.mem_of_getElem? (i := 53) rfl)
theorem cd_41_91 : mt_cd 41 91 = some (.iload 4) := mt_cd_of (q := (91, .iload 4, 2)) mq_41 ci_41 (List.mem_of_getElem? (i := 54) rfl)
theorem cd_41_93 : mt_cd 41 93 = some (.lload_n 2) := mt_cd_of (q := (93, .lload_n 2, 1)) mq_41 ci_41 (List.mem_of_getElem? (i := 55) rfl)
theorem cd_41_94 : mt_cd 41 94 = some (.lastore) := mt_cd_of (q := (94, .lastore, 1)) mq_41 ci_41 (List.mem_of_getElem? (i := 56) rfl)
theorem cd_41_95 : mt_cd 41 95 = some (.aload_n 0) := mt_cd_of (q := (95, .aload_n 0, 1)) mq_41 ci_41 (List.mem_of_getElem? (i := 57) rfl)
theorem cd_41_96 : mt_cd 41 96 = some (.iload 4) := mt_cd_of (q := (96, .iload 4, 2)) mq_41 ci_41 (List.mem_of_getElem? (i := 58) rfl)
theorem cd_41_98 : mt_cd 41 98 = some (.iconst 1) := mt_cd_of (q := (98, .iconst 1, 1)) mq_41 ci_41 (List.mem_of_getElem? (i := 59) rfl)
theorem cd_41_99 : mt_cd 41 99 = some (.iadd) := mt_cd_of (q := (99, .iadd, 1)) mq_41 ci_41 (List.mem_of_getElem? (i := 60) rfl)
theorem cd_41_100 : mt_cd 41 100 = some (.putfield 47) := mt_cd_of (q := (100, .putfield 47, 3)) mq_41 ci_41 (List.mem_of_getElem? (i := 61) rfl)
theorem cd_41_103 : mt_cd 41 103 = some (.iload 4) := mt_cd_of (q := (103, .iload 4, 2)) mq_41 ci_41 (List.mem_of_getElem? (i := 62) rfl)
theorem cd_41_105 : mt_cd 41 105 = some (.ireturn) := mt_cd_of (q := (105, .ireturn, 1)) mq_41 ci_41 (List.mem_of_getElem? (i := 63) rfl)
theorem b_41_0 {d : Nat} {Q : (Option Value ⊕ Nat) → mi_H → Prop} (n sl : Nat) (f : Nat → mi_C) {l1 : Nat} {l2 : Int32} {l3 : Int64} {o4 : Option Value} {fs5 : List Value} {x8 : Int32} (h6 : f l1 = .inr (2, fs5)) (h7 : l1 < n) (h9 : fs5[11]? = some (.int x8)) (h10 : mi_W d 23 0 (mi_en 2 [.int x8, .int 799]) [] (n, sl, f) (mi_Kc d 41 7 [some (.ref l1), some (.int l2), some (.long l3), none, o4] [] Q)) : mi_W (d + 1) 41 0 [some (.ref l1), some (.int l2), some (.long l3), none, o4] [] (n, sl, f) Q := by
  refine w_aload_n cd_41_0 rfl ?_
  refine w_getfield cd_41_1 (show mt_f 2 47 = some (2, 11) by decide +kernel) h6 h7 h9 ?_
  refine w_sipush (v := 799) cd_41_4 (by decide) ?_
  exact w_invokestatic cd_41_7 (show mt_m 2 54 = some (23, 4) by decide +kernel) (by decide) (rest := []) rfl (as := [.int x8, .int 799]) rfl ⟨Nat.le_of_ble_eq_true rfl, Nat.le_of_ble_eq_true rfl, Nat.le_of_ble_eq_true rfl⟩ h10
theorem b_41_10 {d : Nat} {Q : (Option Value ⊕ Nat) → mi_H → Prop} (n sl : Nat) (f : Nat → mi_C) {l1 : Nat} {l2 : Int32} {l3 : Int64} {o4 : Option Value} {s5 : Int32} {fs6 : List Value} {x9 : Nat} (m11 i11 : Nat) (g11 : Nat → Int32) {fs15 : List Value} {x18 : Nat} (m20 i20 : Nat) (g20 : Nat → Int32) {fs24 : List Value} {x27 : Nat} (m29 i29 : Nat) (g29 : Nat → Int32) {fs33 : List Value} {x36 : Nat} (m38 i38 : Nat) (g38 : Nat → Int32) {fs42 : List Value} {x45 : Nat} (m47 i47 : Nat) (g47 : Nat → Int32) {fs51 : List Value} {x54 : Nat} (m56 i56 : Nat) (g56 : Nat → Int32) (h7 : f l1 = .inr (2, fs6)) (h8 : l1 < n) (h10 : fs6[0]? = some (.ref x9)) (h12 : f x9 = .inl (0, m11, .inl g11)) (h13 : x9 < n) (h14 : mi_ix s5 m11 i11) (h16 : (va_up f x9 (.inl (0, m11, .inl (upd g11 i11 l2)))) l1 = .inr (2, fs15)) (h17 : l1 < n) (h19 : fs15[1]? = some (.ref x18)) (h21 : (va_up f x9 (.inl (0, m11, .inl (upd g11 i11 l2)))) x18 = .inl (0, m20, .inl g20)) (h22 : x18 < n) (h23 : mi_ix s5 m20 i20) (h25 : (va_up (va_up f x9 (.inl (0, m11, .inl (upd g11 i11 l2)))) x18 (.inl (0, m20, .inl (upd g20 i20 ((-1)))))) l1 = .inr (2, fs24)) (h26 : l1 < n) (h28 : fs24[2]? = some (.ref x27)) (h30 : (va_up (va_up f x9 (.inl (0, m11, .inl (upd g11 i11 l2)))) x18 (.inl (0, m20, .inl (upd g20 i20 ((-1)))))) x27 = .inl (0, m29, .inl g29)) (h31 : x27 < n) (h32 : mi_ix s5 m29 i29) (h34 : (va_up (va_up (va_up f x9 (.inl (0, m11, .inl (upd g11 i11 l2)))) x18 (.inl (0, m20, .inl (upd g20 i20 ((-1)))))) x27 (.inl (0, m29, .inl (upd g29 i29 ((-1)))))) l1 = .inr (2, fs33)) (h35 : l1 < n) (h37 : fs33[3]? = some (.ref x36)) (h39 : (va_up (va_up (va_up f x9 (.inl (0, m11, .inl (upd g11 i11 l2)))) x18 (.inl (0, m20, .inl (upd g20 i20 ((-1)))))) x27 (.inl (0, m29, .inl (upd g29 i29 ((-1)))))) x36 = .inl (0, m38, .inl g38)) (h40 : x36 < n) (h41 : mi_ix s5 m38 i38) (h43 : (va_up (va_up (va_up (va_up f x9 (.inl (0, m11, .inl (upd g11 i11 l2)))) x18 (.inl (0, m20, .inl (upd g20 i20 ((-1)))))) x27 (.inl (0, m29, .inl (upd g29 i29 ((-1)))))) x36 (.inl (0, m38, .inl (upd g38 i38 ((-1)))))) l1 = .inr (2, fs42)) (h44 : l1 < n) (h46 : fs42[4]? = some (.ref x45)) (h48 : (va_up (va_up (va_up (va_up f x9 (.inl (0, m11, .inl (upd g11 i11 l2)))) x18 (.inl (0, m20, .inl (upd g20 i20 ((-1)))))) x27 (.inl (0, m29, .inl (upd g29 i29 ((-1)))))) x36 (.inl (0, m38, .inl (upd g38 i38 ((-1)))))) x45 = .inl (0, m47, .inl g47)) (h49 : x45 < n) (h50 : mi_ix s5 m47 i47) (h52 : (va_up (va_up (va_up (va_up (va_up f x9 (.inl (0, m11, .inl (upd g11 i11 l2)))) x18 (.inl (0, m20, .inl (upd g20 i20 ((-1)))))) x27 (.inl (0, m29, .inl (upd g29 i29 ((-1)))))) x36 (.inl (0, m38, .inl (upd g38 i38 ((-1)))))) x45 (.inl (0, m47, .inl (upd g47 i47 ((-1)))))) l1 = .inr (2, fs51)) (h53 : l1 < n) (h55 : fs51[5]? = some (.ref x54)) (h57 : (va_up (va_up (va_up (va_up (va_up f x9 (.inl (0, m11, .inl (upd g11 i11 l2)))) x18 (.inl (0, m20, .inl (upd g20 i20 ((-1)))))) x27 (.inl (0, m29, .inl (upd g29 i29 ((-1)))))) x36 (.inl (0, m38, .inl (upd g38 i38 ((-1)))))) x45 (.inl (0, m47, .inl (upd g47 i47 ((-1)))))) x54 = .inl (0, m56, .inl g56)) (h58 : x54 < n) (h59 : mi_ix s5 m56 i56) (h60 : mi_W d 41 60 [some (.ref l1), some (.int l2), some (.long l3), none, some (.int s5)] [] (n, sl, (va_up (va_up (va_up (va_up (va_up (va_up f x9 (.inl (0, m11, .inl (upd g11 i11 l2)))) x18 (.inl (0, m20, .inl (upd g20 i20 ((-1)))))) x27 (.inl (0, m29, .inl (upd g29 i29 ((-1)))))) x36 (.inl (0, m38, .inl (upd g38 i38 ((-1)))))) x45 (.inl (0, m47, .inl (upd g47 i47 ((-1)))))) x54 (.inl (0, m56, .inl (upd g56 i56 ((-1))))))) Q) : mi_W d 41 10 [some (.ref l1), some (.int l2), some (.long l3), none, o4] [.int s5] (n, sl, f) Q := by
  refine w_istore (ls' := [some (.ref l1), some (.int l2), some (.long l3), none, some (.int s5)]) cd_41_10 (Nat.le_of_ble_eq_true rfl) rfl ?_
  refine w_aload_n cd_41_12 rfl ?_
  refine w_getfield cd_41_13 (show mt_f 2 9 = some (2, 0) by decide +kernel) h7 h8 h10 ?_
  refine w_iload cd_41_16 rfl ?_
  refine w_iload_n cd_41_18 rfl ?_
  refine w_iastore cd_41_19 h12 h13 h14 ?_
  refine w_aload_n cd_41_20 rfl ?_
  refine w_getfield cd_41_21 (show mt_f 2 15 = some (2, 1) by decide +kernel) h16 h17 h19 ?_
  refine w_iload cd_41_24 rfl ?_
  refine w_iconst (v := (-1)) cd_41_26 (by decide) ?_
  refine w_iastore cd_41_27 h21 h22 h23 ?_
  refine w_aload_n cd_41_28 rfl ?_
  refine w_getfield cd_41_29 (show mt_f 2 18 = some (2, 2) by decide +kernel) h25 h26 h28 ?_
  refine w_iload cd_41_32 rfl ?_
  refine w_iconst (v := (-1)) cd_41_34 (by decide) ?_
  refine w_iastore cd_41_35 h30 h31 h32 ?_
  refine w_aload_n cd_41_36 rfl ?_
  refine w_getfield cd_41_37 (show mt_f 2 21 = some (2, 3) by decide +kernel) h34 h35 h37 ?_
  refine w_iload cd_41_40 rfl ?_
  refine w_iconst (v := (-1)) cd_41_42 (by decide) ?_
  refine w_iastore cd_41_43 h39 h40 h41 ?_
  refine w_aload_n cd_41_44 rfl ?_
  refine w_getfield cd_41_45 (show mt_f 2 24 = some (2, 4) by decide +kernel) h43 h44 h46 ?_
  refine w_iload cd_41_48 rfl ?_
  refine w_iconst (v := (-1)) cd_41_50 (by decide) ?_
  refine w_iastore cd_41_51 h48 h49 h50 ?_
  refine w_aload_n cd_41_52 rfl ?_
  refine w_getfield cd_41_53 (show mt_f 2 27 = some (2, 5) by decide +kernel) h52 h53 h55 ?_
  refine w_iload cd_41_56 rfl ?_
  refine w_iconst (v := (-1)) cd_41_58 (by decide) ?_
  refine w_iastore cd_41_59 h57 h58 h59 ?_
  exact h60
theorem b_41_60 {d : Nat} {Q : (Option Value ⊕ Nat) → mi_H → Prop} (n sl : Nat) (f : Nat → mi_C) {l1 : Nat} {l2 : Int32} {l3 : Int64} {l4 : Int32} {fs5 : List Value} {x8 : Nat} (m10 i10 : Nat) (g10 : Nat → Int32) {fs14 : List Value} {x17 : Nat} (m19 i19 : Nat) (g19 : Nat → Int32) {fs23 : List Value} {x26 : Nat} (m28 i28 : Nat) (g28 : Nat → Int32) {fs32 : List Value} {x35 : Nat} (m37 i37 : Nat) (g37 : Nat → Int64) {fs41 : List Value} (h6 : f l1 = .inr (2, fs5)) (h7 : l1 < n) (h9 : fs5[6]? = some (.ref x8)) (h11 : f x8 = .inl (0, m10, .inl g10)) (h12 : x8 < n) (h13 : mi_ix l4 m10 i10) (h15 : (va_up f x8 (.inl (0, m10, .inl (upd g10 i10 ((-1)))))) l1 = .inr (2, fs14)) (h16 : l1 < n) (h18 : fs14[7]? = some (.ref x17)) (h20 : (va_up f x8 (.inl (0, m10, .inl (upd g10 i10 ((-1)))))) x17 = .inl (0, m19, .inl g19)) (h21 : x17 < n) (h22 : mi_ix l4 m19 i19) (h24 : (va_up (va_up f x8 (.inl (0, m10, .inl (upd g10 i10 ((-1)))))) x17 (.inl (0, m19, .inl (upd g19 i19 (l4 + 1))))) l1 = .inr (2, fs23)) (h25 : l1 < n) (h27 : fs23[8]? = some (.ref x26)) (h29 : (va_up (va_up f x8 (.inl (0, m10, .inl (upd g10 i10 ((-1)))))) x17 (.inl (0, m19, .inl (upd g19 i19 (l4 + 1))))) x26 = .inl (2, m28, .inl g28)) (h30 : x26 < n) (h31 : mi_ix l4 m28 i28) (h33 : (va_up (va_up (va_up f x8 (.inl (0, m10, .inl (upd g10 i10 ((-1)))))) x17 (.inl (0, m19, .inl (upd g19 i19 (l4 + 1))))) x26 (.inl (2, m28, .inl (upd g28 i28 (vp_nar .boolean 0))))) l1 = .inr (2, fs32)) (h34 : l1 < n) (h36 : fs32[9]? = some (.ref x35)) (h38 : (va_up (va_up (va_up f x8 (.inl (0, m10, .inl (upd g10 i10 ((-1)))))) x17 (.inl (0, m19, .inl (upd g19 i19 (l4 + 1))))) x26 (.inl (2, m28, .inl (upd g28 i28 (vp_nar .boolean 0))))) x35 = .inl (3, m37, .inr (.inl g37))) (h39 : x35 < n) (h40 : mi_ix l4 m37 i37) (h42 : (va_up (va_up (va_up (va_up f x8 (.inl (0, m10, .inl (upd g10 i10 ((-1)))))) x17 (.inl (0, m19, .inl (upd g19 i19 (l4 + 1))))) x26 (.inl (2, m28, .inl (upd g28 i28 (vp_nar .boolean 0))))) x35 (.inl (3, m37, .inr (.inl (vp_updL g37 i37 l3))))) l1 = .inr (2, fs41)) (h43 : l1 < n) (h44 : 11 < fs41.length) (h45 : Q (.inl (some (.int l4))) (n, sl, (va_up (va_up (va_up (va_up (va_up f x8 (.inl (0, m10, .inl (upd g10 i10 ((-1)))))) x17 (.inl (0, m19, .inl (upd g19 i19 (l4 + 1))))) x26 (.inl (2, m28, .inl (upd g28 i28 (vp_nar .boolean 0))))) x35 (.inl (3, m37, .inr (.inl (vp_updL g37 i37 l3))))) l1 (.inr (2, fs41.set 11 (.int (l4 + 1))))))) : mi_W d 41 60 [some (.ref l1), some (.int l2), some (.long l3), none, some (.int l4)] [] (n, sl, f) Q := by
  refine w_aload_n cd_41_60 rfl ?_
  refine w_getfield cd_41_61 (show mt_f 2 30 = some (2, 6) by decide +kernel) h6 h7 h9 ?_
  refine w_iload cd_41_64 rfl ?_
  refine w_iconst (v := (-1)) cd_41_66 (by decide) ?_
  refine w_iastore cd_41_67 h11 h12 h13 ?_
  refine w_aload_n cd_41_68 rfl ?_
  refine w_getfield cd_41_69 (show mt_f 2 33 = some (2, 7) by decide +kernel) h15 h16 h18 ?_
  refine w_iload cd_41_72 rfl ?_
  refine w_iload cd_41_74 rfl ?_
  refine w_iconst (v := 1) cd_41_76 (by decide) ?_
  refine w_iadd cd_41_77 ?_
  refine w_iastore cd_41_78 h20 h21 h22 ?_
  refine w_aload_n cd_41_79 rfl ?_
  refine w_getfield cd_41_80 (show mt_f 2 36 = some (2, 8) by decide +kernel) h24 h25 h27 ?_
  refine w_iload cd_41_83 rfl ?_
  refine w_iconst (v := 0) cd_41_85 (by decide) ?_
  refine w_bastore2 cd_41_86 h29 h30 h31 ?_
  refine w_aload_n cd_41_87 rfl ?_
  refine w_getfield cd_41_88 (show mt_f 2 40 = some (2, 9) by decide +kernel) h33 h34 h36 ?_
  refine w_iload cd_41_91 rfl ?_
  refine w_lload_n cd_41_93 rfl ?_
  refine w_lastore cd_41_94 h38 h39 h40 ?_
  refine w_aload_n cd_41_95 rfl ?_
  refine w_iload cd_41_96 rfl ?_
  refine w_iconst (v := 1) cd_41_98 (by decide) ?_
  refine w_iadd cd_41_99 ?_
  refine w_putfield (w := .int (l4 + 1)) cd_41_100 (show mt_f 2 47 = some (2, 11) by decide +kernel) h42 h43 ⟨h44, rfl, Or.inl (by decide)⟩ ?_
  refine w_iload cd_41_103 rfl ?_
  exact w_ireturn_i cd_41_105 (by decide +kernel) h45
/-! MarloweHost$Reader.readPayNames(I)V -/
set_option maxRecDepth 100000 in
theorem mq_42 : mt_q 42 = my_42 := rfl
set_option maxRecDepth 100000 in
theorem ci_42 : mt_inc 0 my_42.cd = true := by decide +kernel
theorem cd_42_0 : mt_cd 42 0 = some (.aload_n 0) := mt_cd_of (q := (0, .aload_n 0, 1)) mq_42 ci_42 (List.mem_of_getElem? (i := 0) rfl)
theorem cd_42_1 : mt_cd 42 1 = some (.getfield 19) := mt_cd_of (q := (1, .getfield 19, 3)) mq_42 ci_42 (List.mem_of_getElem? (i := 1) rfl)
theorem cd_42_4 : mt_cd 42 4 = some (.getfield 128) := mt_cd_of (q := (4, .getfield 128, 3)) mq_42 ci_42 (List.mem_of_getElem? (i := 2) rfl)
theorem cd_42_7 : mt_cd 42 7 = some (.iload_n 1) := mt_cd_of (q := (7, .iload_n 1, 1)) mq_42 ci_42 (List.mem_of_getElem? (i := 3) rfl)
theorem cd_42_8 : mt_cd 42 8 = some (.aload_n 0) := mt_cd_of (q := (8, .aload_n 0, 1)) mq_42 ci_42 (List.mem_of_getElem? (i := 4) rfl)
theorem cd_42_9 : mt_cd 42 9 = some (.aload_n 0) := mt_cd_of (q := (9, .aload_n 0, 1)) mq_42 ci_42 (List.mem_of_getElem? (i := 5) rfl)
theorem cd_42_10 : mt_cd 42 10 = some (.getfield 34) := mt_cd_of (q := (10, .getfield 34, 3)) mq_42 ci_42 (List.mem_of_getElem? (i := 6) rfl)
theorem cd_42_13 : mt_cd 42 13 = some (.invokevirtual 131) := mt_cd_of (q := (13, .invokevirtual 131, 3)) mq_42 ci_42 (List.mem_of_getElem? (i := 7) rfl)
theorem cd_42_16 : mt_cd 42 16 = some (.iastore) := mt_cd_of (q := (16, .iastore, 1)) mq_42 ci_42 (List.mem_of_getElem? (i := 8) rfl)
theorem cd_42_17 : mt_cd 42 17 = some (.aload_n 0) := mt_cd_of (q := (17, .aload_n 0, 1)) mq_42 ci_42 (List.mem_of_getElem? (i := 9) rfl)
theorem cd_42_18 : mt_cd 42 18 = some (.aload_n 0) := mt_cd_of (q := (18, .aload_n 0, 1)) mq_42 ci_42 (List.mem_of_getElem? (i := 10) rfl)
theorem cd_42_19 : mt_cd 42 19 = some (.getfield 15) := mt_cd_of (q := (19, .getfield 15, 3)) mq_42 ci_42 (List.mem_of_getElem? (i := 11) rfl)
theorem cd_42_22 : mt_cd 42 22 = some (.getfield 67) := mt_cd_of (q := (22, .getfield 67, 3)) mq_42 ci_42 (List.mem_of_getElem? (i := 12) rfl)
theorem cd_42_25 : mt_cd 42 25 = some (.iconst 2) := mt_cd_of (q := (25, .iconst 2, 1)) mq_42 ci_42 (List.mem_of_getElem? (i := 13) rfl)
theorem cd_42_26 : mt_cd 42 26 = some (.if_icmp .eq 14) := mt_cd_of (q := (26, .if_icmp .eq 14, 3)) mq_42 ci_42 (List.mem_of_getElem? (i := 14) rfl)
theorem cd_42_29 : mt_cd 42 29 = some (.aload_n 0) := mt_cd_of (q := (29, .aload_n 0, 1)) mq_42 ci_42 (List.mem_of_getElem? (i := 15) rfl)
theorem cd_42_30 : mt_cd 42 30 = some (.getfield 15) := mt_cd_of (q := (30, .getfield 15, 3)) mq_42 ci_42 (List.mem_of_getElem? (i := 16) rfl)
theorem cd_42_33 : mt_cd 42 33 = some (.getfield 67) := mt_cd_of (q := (33, .getfield 67, 3)) mq_42 ci_42 (List.mem_of_getElem? (i := 17) rfl)
theorem cd_42_36 : mt_cd 42 36 = some (.iconst 3) := mt_cd_of (q := (36, .iconst 3, 1)) mq_42 ci_42 (List.mem_of_getElem? (i := 18) rfl)
theorem cd_42_37 : mt_cd 42 37 = some (.if_icmp .ne 7) := mt_cd_of (q := (37, .if_icmp .ne 7, 3)) mq_42 ci_42 (List.mem_of_getElem? (i := 19) rfl)
theorem cd_42_40 : mt_cd 42 40 = some (.iconst 1) := mt_cd_of (q := (40, .iconst 1, 1)) mq_42 ci_42 (List.mem_of_getElem? (i := 20) rfl)
theorem cd_42_41 : mt_cd 42 41 = some (.goto 4) := mt_cd_of (q := (41, .goto 4, 3)) mq_42 ci_42 (List.mem_of_getElem? (i := 21) rfl)
theorem cd_42_44 : mt_cd 42 44 = some (.iconst 0) := mt_cd_of (q := (44, .iconst 0, 1)) mq_42 ci_42 (List.mem_of_getElem? (i := 22) rfl)
theorem cd_42_45 : mt_cd 42 45 = some (.invokevirtual 70) := mt_cd_of (q := (45, .invokevirtual 70, 3)) mq_42 ci_42 (List.mem_of_getElem? (i := 23) rfl)
theorem cd_42_48 : mt_cd 42 48 = some (.aload_n 0) := mt_cd_of (q := (48, .aload_n 0, 1)) mq_42 ci_42 (List.mem_of_getElem? (i := 24) rfl)
theorem cd_42_49 : mt_cd 42 49 = some (.getfield 19) := mt_cd_of (q := (49, .getfield 19, 3)) mq_42 ci_42 (List.mem_of_getElem? (i := 25) rfl)
theorem cd_42_52 : mt_cd 42 52 = some (.getfield 147) := mt_cd_of (q := (52, .getfield 147, 3)) mq_42 ci_42 (List.mem_of_getElem? (i := 26) rfl)
theorem cd_42_55 : mt_cd 42 55 = some (.iload_n 1) := mt_cd_of (q := (55, .iload_n 1, 1)) mq_42 ci_42 (List.mem_of_getElem? (i := 27) rfl)
theorem cd_42_56 : mt_cd 42 56 = some (.aload_n 0) := mt_cd_of (q := (56, .aload_n 0, 1)) mq_42 ci_42 (List.mem_of_getElem? (i := 28) rfl)
theorem cd_42_57 : mt_cd 42 57 = some (.getfield 15) := mt_cd_of (q := (57, .getfield 15, 3)) mq_42 ci_42 (List.mem_of_getElem? (i := 29) rfl)
theorem cd_42_60 : mt_cd 42 60 = some (.getfield 67) := mt_cd_of (q := (60, .getfield 67, 3)) mq_42 ci_42 (List.mem_of_getElem? (i := 30) rfl)
theorem cd_42_63 : mt_cd 42 63 = some (.iconst 3) := mt_cd_of (q := (63, .iconst 3, 1)) mq_42 ci_42 (List.mem_of_getElem? (i := 31) rfl)
theorem cd_42_64 : mt_cd 42 64 = some (.if_icmp .ne 7) := mt_cd_of (q := (64, .if_icmp .ne 7, 3)) mq_42 ci_42 (List.mem_of_getElem? (i := 32) rfl)
theorem cd_42_67 : mt_cd 42 67 = some (.iconst 1) := mt_cd_of (q := (67, .iconst 1, 1)) mq_42 ci_42 (List.mem_of_getElem? (i := 33) rfl)
theorem cd_42_68 : mt_cd 42 68 = some (.goto 4) := mt_cd_of (q := (68, .goto 4, 3)) mq_42 ci_42 (List.mem_of_getElem? (i := 34) rfl)
theorem cd_42_71 : mt_cd 42 71 = some (.iconst 0) := mt_cd_of (q := (71, .iconst 0, 1)) mq_42 ci_42 (List.mem_of_getElem? (i := 35) rfl)
theorem cd_42_72 : mt_cd 42 72 = some (.bastore) := mt_cd_of (q := (72, .bastore, 1)) mq_42 ci_42 (List.mem_of_getElem? (i := 36) rfl)
theorem cd_42_73 : mt_cd 42 73 = some (.aload_n 0) := mt_cd_of (q := (73, .aload_n 0, 1)) mq_42 ci_42 (List.mem_of_getElem? (i := 37) rfl)
theorem cd_42_74 : mt_cd 42 74 = some (.getfield 15) := mt_cd_of (q := (74, .getfield 15, 3)) mq_42 ci_42 (List.mem_of_getElem? (i := 38) rfl)
theorem cd_42_77 : mt_cd 42 77 = some (.invokevirtual 84) := mt_cd_of (q := (77, .invokevirtual 84, 3)) mq_42 ci_42 (List.mem_of_getElem? (i := 39) rfl)
theorem cd_42_80 : mt_cd 42 80 = some (.aload_n 0) := mt_cd_of (q := (80, .aload_n 0, 1)) mq_42 ci_42 (List.mem_of_getElem? (i := 40) rfl)
theorem cd_42_81 : mt_cd 42 81 = some (.getfield 19) := mt_cd_of (q := (81, .getfield 19, 3)) mq_42 ci_42 (List.mem_of_getElem? (i := 41) rfl)
theorem cd_42_84 : mt_cd 42 84 = some (.getfield 151) := mt_cd_of (q := (84, .getfield 151, 3)) mq_42 ci_42 (List.mem_of_getElem? (i := 42) rfl)
theorem cd_42_87 : mt_cd 42 87 = some (.iload_n 1) := mt_cd_of (q := (87, .iload_n 1, 1)) mq_42 ci_42 (List.mem_of_getElem? (i := 43) rfl)
theorem cd_42_88 : mt_cd 42 88 = some (.aload_n 0) := mt_cd_of (q := (88, .aload_n 0, 1)) mq_42 ci_42 (List.mem_of_getElem? (i := 44) rfl)
theorem cd_42_89 : mt_cd 42 89 = some (.aload_n 0) := mt_cd_of (q := (89, .aload_n 0, 1)) mq_42 ci_42 (List.mem_of_getElem? (i := 45) rfl)
theorem cd_42_90 : mt_cd 42 90 = some (.getfield 34) := mt_cd_of (q := (90, .getfield 34, 3)) mq_42 ci_42 (List.mem_of_getElem? (i := 46) rfl)
theorem cd_42_93 : mt_cd 42 93 = some (.invokevirtual 131) := mt_cd_of (q := (93, .invokevirtual 131, 3)) mq_42 ci_42 (List.mem_of_getElem? (i := 47) rfl)
theorem cd_42_96 : mt_cd 42 96 = some (.iastore) := mt_cd_of (q := (96, .iastore, 1)) mq_42 ci_42 (List.mem_of_getElem? (i := 48) rfl)
theorem cd_42_97 : mt_cd 42 97 = some (.aload_n 0) := mt_cd_of (q := (97, .aload_n 0, 1)) mq_42 ci_42 (List.mem_of_getElem? (i := 49) rfl)
theorem cd_42_98 : mt_cd 42 98 = some (.getfield 19) := mt_cd_of (q := (98, .getfield 19, 3)) mq_42 ci_42 (List.mem_of_getElem? (i := 50) rfl)
theorem cd_42_101 : mt_cd 42 101 = some (.getfield 154) := mt_cd_of (q := (101, .getfield 154, 3)) mq_42 ci_42 (List.mem_of_getElem? (i := 51) rfl)
theorem cd_42_104 : mt_cd 42 104 = some (.iload_n 1) := mt_cd_of (q := (104, .iload_n 1, 1)) mq_42 ci_42 (List.mem_of_getElem? (i := 52) rfl)
theorem cd_42_105 : mt_cd 42 105 = some (.aload_n 0) := mt_cd_of (q := (105, .aload_n 0, 1)) mq_42 ci_42 (List.mem_of_getElem? (i := 53) rfl)
theorem cd_42_106 : mt_cd 42 106 = some (.aload_n 0) := mt_cd_of (q := (106, .aload_n 0, 1)) mq_42 ci_42 (List.mem_of_getElem? (i := 54) rfl)
theorem cd_42_107 : mt_cd 42 107 = some (.getfield 38) := mt_cd_of (q := (107, .getfield 38, 3)) mq_42 ci_42 (List.mem_of_getElem? (i := 55) rfl)
theorem cd_42_110 : mt_cd 42 110 = some (.invokevirtual 131) := mt_cd_of (q := (110, .invokevirtual 131, 3)) mq_42 ci_42 (List.mem_of_getElem? (i := 56) rfl)
theorem cd_42_113 : mt_cd 42 113 = some (.iastore) := mt_cd_of (q := (113, .iastore, 1)) mq_42 ci_42 (List.mem_of_getElem? (i := 57) rfl)
theorem cd_42_114 : mt_cd 42 114 = some (.return_) := mt_cd_of (q := (114, .return_, 1)) mq_42 ci_42 (List.mem_of_getElem? (i := 58) rfl)
theorem b_42_0 {d : Nat} {Q : (Option Value ⊕ Nat) → mi_H → Prop} (n sl : Nat) (f : Nat → mi_C) {l1 : Nat} {l2 : Int32} {fs3 : List Value} {x6 : Nat} {fs8 : List Value} {x11 : Nat} {fs13 : List Value} {x16 : Nat} {fs18 : List Value} (h4 : f l1 = .inr (3, fs3)) (h5 : l1 < n) (h7 : fs3[1]? = some (.ref x6)) (h9 : f x6 = .inr (2, fs8)) (h10 : x6 < n) (h12 : fs8[4]? = some (.ref x11)) (h14 : f l1 = .inr (3, fs13)) (h15 : l1 < n) (h17 : fs13[2]? = some (.ref x16)) (h19 : f l1 = .inr (3, fs18)) (h20 : l1 < n) (h21 : mi_W d 43 0 (mi_en 3 [.ref l1, .ref x16]) [] (n, sl, f) (mi_Kc d 42 13 [some (.ref l1), some (.int l2)] [.int l2, .ref x11] Q)) : mi_W (d + 1) 42 0 [some (.ref l1), some (.int l2)] [] (n, sl, f) Q := by
  refine w_aload_n cd_42_0 rfl ?_
  refine w_getfield cd_42_1 (show mt_f 3 19 = some (3, 1) by decide +kernel) h4 h5 h7 ?_
  refine w_getfield cd_42_4 (show mt_f 3 128 = some (2, 4) by decide +kernel) h9 h10 h12 ?_
  refine w_iload_n cd_42_7 rfl ?_
  refine w_aload_n cd_42_8 rfl ?_
  refine w_aload_n cd_42_9 rfl ?_
  refine w_getfield cd_42_10 (show mt_f 3 34 = some (3, 2) by decide +kernel) h14 h15 h17 ?_
  exact w_invokevirtual cd_42_13 (show mt_m 3 131 = some (43, 0) by decide +kernel) (rest := [.int l2, .ref x11]) rfl (as := [.ref l1, .ref x16]) rfl h19 (Or.inl h20) ⟨Nat.le_of_ble_eq_true rfl, Nat.le_of_ble_eq_true rfl, Nat.le_of_ble_eq_true rfl⟩ h21
theorem b_42_16 {d : Nat} {Q : (Option Value ⊕ Nat) → mi_H → Prop} (n sl : Nat) (f : Nat → mi_C) {l1 : Nat} {l2 : Int32} {s3 : Int32} {s4 : Int32} {s5 : Nat} (m6 i6 : Nat) (g6 : Nat → Int32) {fs10 : List Value} {x13 : Nat} {fs15 : List Value} {x18 : Int32} (h7 : f s5 = .inl (0, m6, .inl g6)) (h8 : s5 < n) (h9 : mi_ix s4 m6 i6) (h11 : (va_up f s5 (.inl (0, m6, .inl (upd g6 i6 s3)))) l1 = .inr (3, fs10)) (h12 : l1 < n) (h14 : fs10[0]? = some (.ref x13)) (h16 : (va_up f s5 (.inl (0, m6, .inl (upd g6 i6 s3)))) x13 = .inr (1, fs15)) (h17 : x13 < n) (h19 : fs15[2]? = some (.int x18)) (h20 : x18 = 2 → mi_W d 42 40 [some (.ref l1), some (.int l2)] [.ref l1] (n, sl, (va_up f s5 (.inl (0, m6, .inl (upd g6 i6 s3))))) Q) (h21 : ¬ (x18 = 2) → mi_W d 42 29 [some (.ref l1), some (.int l2)] [.ref l1] (n, sl, (va_up f s5 (.inl (0, m6, .inl (upd g6 i6 s3))))) Q) : mi_W d 42 16 [some (.ref l1), some (.int l2)] [.int s3, .int s4, .ref s5] (n, sl, f) Q := by
  refine w_iastore cd_42_16 h7 h8 h9 ?_
  refine w_aload_n cd_42_17 rfl ?_
  refine w_aload_n cd_42_18 rfl ?_
  refine w_getfield cd_42_19 (show mt_f 3 15 = some (3, 0) by decide +kernel) h11 h12 h14 ?_
  refine w_getfield cd_42_22 (show mt_f 3 67 = some (1, 2) by decide +kernel) h16 h17 h19 ?_
  refine w_iconst (v := 2) cd_42_25 (by decide) ?_
  exact w_if_icmpeq cd_42_26 (by decide) h20 h21
theorem b_42_29 {d : Nat} {Q : (Option Value ⊕ Nat) → mi_H → Prop} (n sl : Nat) (f : Nat → mi_C) {l1 : Nat} {l2 : Int32} {s3 : Nat} {fs4 : List Value} {x7 : Nat} {fs9 : List Value} {x12 : Int32} (h5 : f l1 = .inr (3, fs4)) (h6 : l1 < n) (h8 : fs4[0]? = some (.ref x7)) (h10 : f x7 = .inr (1, fs9)) (h11 : x7 < n) (h13 : fs9[2]? = some (.int x12)) (h14 : ¬ x12 = 3 → mi_W d 42 44 [some (.ref l1), some (.int l2)] [.ref s3] (n, sl, f) Q) (h15 : ¬ (¬ x12 = 3) → mi_W d 42 40 [some (.ref l1), some (.int l2)] [.ref s3] (n, sl, f) Q) : mi_W d 42 29 [some (.ref l1), some (.int l2)] [.ref s3] (n, sl, f) Q := by
  refine w_aload_n cd_42_29 rfl ?_
  refine w_getfield cd_42_30 (show mt_f 3 15 = some (3, 0) by decide +kernel) h5 h6 h8 ?_
  refine w_getfield cd_42_33 (show mt_f 3 67 = some (1, 2) by decide +kernel) h10 h11 h13 ?_
  refine w_iconst (v := 3) cd_42_36 (by decide) ?_
  exact w_if_icmpne cd_42_37 (by decide) h14 h15
theorem b_42_40 {d : Nat} {Q : (Option Value ⊕ Nat) → mi_H → Prop} (n sl : Nat) (f : Nat → mi_C) {l1 : Nat} {l2 : Int32} {s3 : Nat} (h4 : mi_W d 42 45 [some (.ref l1), some (.int l2)] [.int 1, .ref s3] (n, sl, f) Q) : mi_W d 42 40 [some (.ref l1), some (.int l2)] [.ref s3] (n, sl, f) Q := by
  refine w_iconst (v := 1) cd_42_40 (by decide) ?_
  exact w_goto cd_42_41 (by decide) h4
theorem b_42_44 {d : Nat} {Q : (Option Value ⊕ Nat) → mi_H → Prop} (n sl : Nat) (f : Nat → mi_C) {l1 : Nat} {l2 : Int32} {s3 : Nat} (h4 : mi_W d 42 45 [some (.ref l1), some (.int l2)] [.int 0, .ref s3] (n, sl, f) Q) : mi_W d 42 44 [some (.ref l1), some (.int l2)] [.ref s3] (n, sl, f) Q := by
  refine w_iconst (v := 0) cd_42_44 (by decide) ?_
  exact h4
theorem b_42_45 {d : Nat} {Q : (Option Value ⊕ Nat) → mi_H → Prop} (n sl : Nat) (f : Nat → mi_C) {l1 : Nat} {l2 : Int32} {s3 : Int32} {s4 : Nat} {fs5 : List Value} (h6 : f s4 = .inr (3, fs5)) (h7 : s4 < n) (h8 : mi_W d 38 0 (mi_en 2 [.ref s4, .int s3]) [] (n, sl, f) (mi_Kc d 42 45 [some (.ref l1), some (.int l2)] [] Q)) : mi_W (d + 1) 42 45 [some (.ref l1), some (.int l2)] [.int s3, .ref s4] (n, sl, f) Q := by
  exact w_invokevirtual cd_42_45 (show mt_m 3 70 = some (38, 0) by decide +kernel) (rest := []) rfl (as := [.ref s4, .int s3]) rfl h6 (Or.inl h7) ⟨Nat.le_of_ble_eq_true rfl, Nat.le_of_ble_eq_true rfl, Nat.le_of_ble_eq_true rfl⟩ h8
theorem b_42_48 {d : Nat} {Q : (Option Value ⊕ Nat) → mi_H → Prop} (n sl : Nat) (f : Nat → mi_C) {l1 : Nat} {l2 : Int32} {fs3 : List Value} {x6 : Nat} {fs8 : List Value} {x11 : Nat} {fs13 : List Value} {x16 : Nat} {fs18 : List Value} {x21 : Int32} (h4 : f l1 = .inr (3, fs3)) (h5 : l1 < n) (h7 : fs3[1]? = some (.ref x6)) (h9 : f x6 = .inr (2, fs8)) (h10 : x6 < n) (h12 : fs8[8]? = some (.ref x11)) (h14 : f l1 = .inr (3, fs13)) (h15 : l1 < n) (h17 : fs13[0]? = some (.ref x16)) (h19 : f x16 = .inr (1, fs18)) (h20 : x16 < n) (h22 : fs18[2]? = some (.int x21)) (h23 : ¬ x21 = 3 → mi_W d 42 71 [some (.ref l1), some (.int l2)] [.int l2, .ref x11] (n, sl, f) Q) (h24 : ¬ (¬ x21 = 3) → mi_W d 42 67 [some (.ref l1), some (.int l2)] [.int l2, .ref x11] (n, sl, f) Q) : mi_W d 42 48 [some (.ref l1), some (.int l2)] [] (n, sl, f) Q := by
  refine w_aload_n cd_42_48 rfl ?_
  refine w_getfield cd_42_49 (show mt_f 3 19 = some (3, 1) by decide +kernel) h4 h5 h7 ?_
  refine w_getfield cd_42_52 (show mt_f 3 147 = some (2, 8) by decide +kernel) h9 h10 h12 ?_
  refine w_iload_n cd_42_55 rfl ?_
  refine w_aload_n cd_42_56 rfl ?_
  refine w_getfield cd_42_57 (show mt_f 3 15 = some (3, 0) by decide +kernel) h14 h15 h17 ?_
  refine w_getfield cd_42_60 (show mt_f 3 67 = some (1, 2) by decide +kernel) h19 h20 h22 ?_
  refine w_iconst (v := 3) cd_42_63 (by decide) ?_
  exact w_if_icmpne cd_42_64 (by decide) h23 h24
theorem b_42_67 {d : Nat} {Q : (Option Value ⊕ Nat) → mi_H → Prop} (n sl : Nat) (f : Nat → mi_C) {l1 : Nat} {l2 : Int32} {s3 : Int32} {s4 : Nat} (h5 : mi_W d 42 72 [some (.ref l1), some (.int l2)] [.int 1, .int s3, .ref s4] (n, sl, f) Q) : mi_W d 42 67 [some (.ref l1), some (.int l2)] [.int s3, .ref s4] (n, sl, f) Q := by
  refine w_iconst (v := 1) cd_42_67 (by decide) ?_
  exact w_goto cd_42_68 (by decide) h5
theorem b_42_71 {d : Nat} {Q : (Option Value ⊕ Nat) → mi_H → Prop} (n sl : Nat) (f : Nat → mi_C) {l1 : Nat} {l2 : Int32} {s3 : Int32} {s4 : Nat} (h5 : mi_W d 42 72 [some (.ref l1), some (.int l2)] [.int 0, .int s3, .ref s4] (n, sl, f) Q) : mi_W d 42 71 [some (.ref l1), some (.int l2)] [.int s3, .ref s4] (n, sl, f) Q := by
  refine w_iconst (v := 0) cd_42_71 (by decide) ?_
  exact h5
theorem b_42_72 {d : Nat} {Q : (Option Value ⊕ Nat) → mi_H → Prop} (n sl : Nat) (f : Nat → mi_C) {l1 : Nat} {l2 : Int32} {s3 : Int32} {s4 : Int32} {s5 : Nat} (m6 i6 : Nat) (g6 : Nat → Int32) {fs10 : List Value} {x13 : Nat} {fs15 : List Value} (h7 : f s5 = .inl (2, m6, .inl g6)) (h8 : s5 < n) (h9 : mi_ix s4 m6 i6) (h11 : (va_up f s5 (.inl (2, m6, .inl (upd g6 i6 (vp_nar .boolean s3))))) l1 = .inr (3, fs10)) (h12 : l1 < n) (h14 : fs10[0]? = some (.ref x13)) (h16 : (va_up f s5 (.inl (2, m6, .inl (upd g6 i6 (vp_nar .boolean s3))))) x13 = .inr (1, fs15)) (h17 : x13 < n) (h18 : mi_W d 24 0 (mi_en 2 [.ref x13]) [] (n, sl, (va_up f s5 (.inl (2, m6, .inl (upd g6 i6 (vp_nar .boolean s3)))))) (mi_Kc d 42 77 [some (.ref l1), some (.int l2)] [] Q)) : mi_W (d + 1) 42 72 [some (.ref l1), some (.int l2)] [.int s3, .int s4, .ref s5] (n, sl, f) Q := by
  refine w_bastore2 cd_42_72 h7 h8 h9 ?_
  refine w_aload_n cd_42_73 rfl ?_
  refine w_getfield cd_42_74 (show mt_f 3 15 = some (3, 0) by decide +kernel) h11 h12 h14 ?_
  exact w_invokevirtual cd_42_77 (show mt_m 3 84 = some (24, 0) by decide +kernel) (rest := []) rfl (as := [.ref x13]) rfl h16 (Or.inl h17) ⟨Nat.le_of_ble_eq_true rfl, Nat.le_of_ble_eq_true rfl, Nat.le_of_ble_eq_true rfl⟩ h18
theorem b_42_80 {d : Nat} {Q : (Option Value ⊕ Nat) → mi_H → Prop} (n sl : Nat) (f : Nat → mi_C) {l1 : Nat} {l2 : Int32} {fs3 : List Value} {x6 : Nat} {fs8 : List Value} {x11 : Nat} {fs13 : List Value} {x16 : Nat} {fs18 : List Value} (h4 : f l1 = .inr (3, fs3)) (h5 : l1 < n) (h7 : fs3[1]? = some (.ref x6)) (h9 : f x6 = .inr (2, fs8)) (h10 : x6 < n) (h12 : fs8[5]? = some (.ref x11)) (h14 : f l1 = .inr (3, fs13)) (h15 : l1 < n) (h17 : fs13[2]? = some (.ref x16)) (h19 : f l1 = .inr (3, fs18)) (h20 : l1 < n) (h21 : mi_W d 43 0 (mi_en 3 [.ref l1, .ref x16]) [] (n, sl, f) (mi_Kc d 42 93 [some (.ref l1), some (.int l2)] [.int l2, .ref x11] Q)) : mi_W (d + 1) 42 80 [some (.ref l1), some (.int l2)] [] (n, sl, f) Q := by
  refine w_aload_n cd_42_80 rfl ?_
  refine w_getfield cd_42_81 (show mt_f 3 19 = some (3, 1) by decide +kernel) h4 h5 h7 ?_
  refine w_getfield cd_42_84 (show mt_f 3 151 = some (2, 5) by decide +kernel) h9 h10 h12 ?_
  refine w_iload_n cd_42_87 rfl ?_
  refine w_aload_n cd_42_88 rfl ?_
  refine w_aload_n cd_42_89 rfl ?_
  refine w_getfield cd_42_90 (show mt_f 3 34 = some (3, 2) by decide +kernel) h14 h15 h17 ?_
  exact w_invokevirtual cd_42_93 (show mt_m 3 131 = some (43, 0) by decide +kernel) (rest := [.int l2, .ref x11]) rfl (as := [.ref l1, .ref x16]) rfl h19 (Or.inl h20) ⟨Nat.le_of_ble_eq_true rfl, Nat.le_of_ble_eq_true rfl, Nat.le_of_ble_eq_true rfl⟩ h21
theorem b_42_96 {d : Nat} {Q : (Option Value ⊕ Nat) → mi_H → Prop} (n sl : Nat) (f : Nat → mi_C) {l1 : Nat} {l2 : Int32} {s3 : Int32} {s4 : Int32} {s5 : Nat} (m6 i6 : Nat) (g6 : Nat → Int32) {fs10 : List Value} {x13 : Nat} {fs15 : List Value} {x18 : Nat} {fs20 : List Value} {x23 : Nat} {fs25 : List Value} (h7 : f s5 = .inl (0, m6, .inl g6)) (h8 : s5 < n) (h9 : mi_ix s4 m6 i6) (h11 : (va_up f s5 (.inl (0, m6, .inl (upd g6 i6 s3)))) l1 = .inr (3, fs10)) (h12 : l1 < n) (h14 : fs10[1]? = some (.ref x13)) (h16 : (va_up f s5 (.inl (0, m6, .inl (upd g6 i6 s3)))) x13 = .inr (2, fs15)) (h17 : x13 < n) (h19 : fs15[6]? = some (.ref x18)) (h21 : (va_up f s5 (.inl (0, m6, .inl (upd g6 i6 s3)))) l1 = .inr (3, fs20)) (h22 : l1 < n) (h24 : fs20[3]? = some (.ref x23)) (h26 : (va_up f s5 (.inl (0, m6, .inl (upd g6 i6 s3)))) l1 = .inr (3, fs25)) (h27 : l1 < n) (h28 : mi_W d 43 0 (mi_en 3 [.ref l1, .ref x23]) [] (n, sl, (va_up f s5 (.inl (0, m6, .inl (upd g6 i6 s3))))) (mi_Kc d 42 110 [some (.ref l1), some (.int l2)] [.int l2, .ref x18] Q)) : mi_W (d + 1) 42 96 [some (.ref l1), some (.int l2)] [.int s3, .int s4, .ref s5] (n, sl, f) Q := by
  refine w_iastore cd_42_96 h7 h8 h9 ?_
  refine w_aload_n cd_42_97 rfl ?_
  refine w_getfield cd_42_98 (show mt_f 3 19 = some (3, 1) by decide +kernel) h11 h12 h14 ?_
  refine w_getfield cd_42_101 (show mt_f 3 154 = some (2, 6) by decide +kernel) h16 h17 h19 ?_
  refine w_iload_n cd_42_104 rfl ?_
  refine w_aload_n cd_42_105 rfl ?_
  refine w_aload_n cd_42_106 rfl ?_
  refine w_getfield cd_42_107 (show mt_f 3 38 = some (3, 3) by decide +kernel) h21 h22 h24 ?_
  exact w_invokevirtual cd_42_110 (show mt_m 3 131 = some (43, 0) by decide +kernel) (rest := [.int l2, .ref x18]) rfl (as := [.ref l1, .ref x23]) rfl h26 (Or.inl h27) ⟨Nat.le_of_ble_eq_true rfl, Nat.le_of_ble_eq_true rfl, Nat.le_of_ble_eq_true rfl⟩ h28
theorem b_42_113 {d : Nat} {Q : (Option Value ⊕ Nat) → mi_H → Prop} (n sl : Nat) (f : Nat → mi_C) {l1 : Nat} {l2 : Int32} {s3 : Int32} {s4 : Int32} {s5 : Nat} (m6 i6 : Nat) (g6 : Nat → Int32) (h7 : f s5 = .inl (0, m6, .inl g6)) (h8 : s5 < n) (h9 : mi_ix s4 m6 i6) (h10 : Q (.inl none) (n, sl, (va_up f s5 (.inl (0, m6, .inl (upd g6 i6 s3)))))) : mi_W d 42 113 [some (.ref l1), some (.int l2)] [.int s3, .int s4, .ref s5] (n, sl, f) Q := by
  refine w_iastore cd_42_113 h7 h8 h9 ?_
  exact w_return cd_42_114 (by decide +kernel) h10
end
